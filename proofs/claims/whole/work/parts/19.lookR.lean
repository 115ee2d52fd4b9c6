/-! ===== the look, on the right side ===== -/
theorem ni_m9 {a : Nat} (ha : a ≤ 1000000) : (nI a = -9) = False := by
  apply propext
  refine ⟨fun h => ?_, fun h => h.elim⟩
  have h2 : (nI a < 0) = False := ni_0 ha
  rw [h, show ((-9 : Int32) < 0) = True by decide +kernel] at h2
  exact h2 ▸ trivial
theorem en9_m {o : Option Nat} (h : ∀ a, o = some a → a ≤ 1000) : (en9 o = -9) = (o = none) := by
  cases o with
  | none => simp [en9]
  | some a => simp only [en9, ni_m9 (show a ≤ 1000000 by have := h a rfl; omega), reduceCtorEq]
theorem bi_put (x : Int32) {j k : Nat} (hj : j < 8) (hk : k < 8) : bi (x ||| (1 <<< (nI k &&& 31))) j = (bi x j ∨ j = k) := by
  unfold bi
  rw [bt_bit _ (by omega), bt_bit _ (by omega), b_or, b_sh1 (by omega) (by omega)]
  simp
def td9 (o : Option pt) (a b c e : Int32) : Prop := match o with
  | none => True
  | some (u, dd, t, sd) => a = nI u ∧ b = nI dd ∧ c = en9 t ∧ e = sd
def SR : List pf → mm_I → Prop
  | [], _ => True
  | f :: r, J => J 6 r.length = en9 f.2.1 ∧ (f.1 ≠ none → J 7 r.length = en9 f.1 ∧ J 8 r.length = f.2.2) ∧ SR r J
def RR (fee : Int32) (A : pa) (J : mm_I) (M : mm_L) : Prop := SR A.1 J ∧ J 0 9 = nI (A.1.length - 1) ∧ J 0 15 = nI A.2.2.2.1 ∧ J 0 16 = nI A.2.2.2.2.1 ∧ J 0 17 = nI A.2.2.1 ∧ J 0 19 = A.2.2.2.2.2.1 ∧ M 0 20 = A.2.2.2.2.2.2 + fee.toInt64 * lN A.2.2.2.1 ∧ ∀ k, k < 8 → (bi (J 0 18) k ↔ (A.2.1 k).isSome = true) ∧ td9 (A.2.1 k) (J 9 k) (J 10 k) (J 11 k) (J 12 k)
/-- what a look leaves -/
def r7 (J J' : mm_I) : Prop := (∀ c, c ≠ 0 → (c < 6 ∨ 12 < c) → J' c = J c) ∧ ∀ f, f < 9 ∨ 19 < f → J' 0 f = J 0 f
theorem r7_rf {J : mm_I} : r7 J J := ⟨fun _ _ _ => rfl, fun _ _ => rfl⟩
theorem r7_tr {I I' I'' : mm_I} (h : r7 I I') (h' : r7 I' I'') : r7 I I'' := ⟨fun c h1 h2 => (h'.1 c h1 h2).trans (h.1 c h1 h2), fun f h1 => (h'.2 f h1).trans (h.2 f h1)⟩
theorem r7_ui {I I' : mm_I} {a k : Nat} {v : Int32} (h : r7 I I') (ha : 6 ≤ a ∧ a ≤ 12) : r7 I (mm_ui I' a k v) := ⟨fun c h1 h2 => by
  rw [uif, if_neg (by omega)]
  exact h.1 c h1 h2, fun f hf => by
  rw [uia, if_neg (by omega)]
  exact h.2 f hf⟩
theorem r7_u0 {I I' : mm_I} {k : Nat} {v : Int32} (h : r7 I I') (hk : 9 ≤ k ∧ k ≤ 19) : r7 I (mm_ui I' 0 k v) := ⟨fun c h1 h2 => by
  rw [uif, if_neg h1]
  exact h.1 c h1 h2, fun f hf => by
  rw [uia, if_pos rfl, if_neg (by omega)]
  exact h.2 f hf⟩
theorem SR_c {J J' : mm_I} : ∀ (st : List pf), (∀ i, i < st.length → J' 6 i = J 6 i ∧ J' 7 i = J 7 i ∧ J' 8 i = J 8 i) → SR st J → SR st J' := by
  intro st
  induction st with
  | nil => intro _ _; trivial
  | cons f r ih =>
    intro h hS
    obtain ⟨h1, h2, h3⟩ := h r.length (by simp)
    exact ⟨by rw [h1]; exact hS.1, fun hf => by rw [h2, h3]; exact hS.2.1 hf, ih (fun i hi => h i (by simp only [List.length_cons]; omega)) hS.2.2⟩
/-- the right side's start of a look, on scenes of number n -/
def sR (n : Nat) (J : mm_I) : Prop := J 0 0 = nI n ∧ n ≤ 8
theorem sR7 {n : Nat} {J J' : mm_I} (h : sR n J) (hr : r7 J J') : sR n J' := ⟨by rw [hr.2 0 (by omega)]; exact h.1, h.2⟩
theorem LI_la {n i : Nat} {A : pa} (hL : LI n i A) {t l : Option Nat} {sd : Int32} {r : List pf} (e : A.1 = (t, l, sd) :: r) {a : Nat} (ha : l = some a) : a < n := by
  obtain ⟨-, -, -, q⟩ := hL.2.1 (t, l, sd) (by rw [e]; exact List.mem_cons_self)
  obtain ⟨u, dd, hu⟩ := q a ha
  exact (hL.2.2.1 _ _ hu).1
set_option maxHeartbeats 4000000 in
set_option maxRecDepth 100000 in
theorem sX5_isOnSide {d : Nat} {I : mm_I} {L : mm_L} {Q : mm_Q} {n i k : Nat} {A : pa} {fee : Int32} (hs : sR n I) (hi : i ≤ 40) (hC : RR fee A I L) (hL : LI n i A) (hk : k < n) (h1 : lk_on (I 1) (I 2) A k = true → Q I L 1 0) (h0 : ¬ lk_on (I 1) (I 2) A k = true → Q I L 0 0) : mm_P shR msR (d + 3) 27 [.ref 0, .int (nI k)] I L Q := by
  obtain ⟨hn, h8⟩ := hs
  have ht := @LI_top n i A hL
  have hla := @LI_la n i A hL
  obtain ⟨st, told, cnt, opn, deep, gvn, js⟩ := A
  have g1 := hL.1
  have g4 := hL.2.2.2.1
  have g2 := hL.2.1
  dsimp only at g1 g4 g2
  cases st with
  | nil => exact g1.elim
  | cons f r =>
    obtain ⟨t, l, sd⟩ := f
    obtain ⟨c1, c2, -⟩ := hC
    obtain ⟨s1, s2, s3⟩ := c1
    dsimp only at s1 s2
    simp only [List.length_cons, Nat.add_sub_cancel] at c2 g4
    refine pX5_isOnSide ?_
    simp only [↓uX5_isOnSide, ↓mm_r, mm_n, iaR, n10, not_true_eq_false, not_false_eq_true, false_implies, lg_cmp_ge, lg_cmp_le, lg_cmp_gt, lg_cmp_lt, lg_cmp_eq, true_and, and_true, true_or, or_true, true_implies, Classical.not_not, List.length_cons, List.length_nil, Nat.lt_iff_add_one_le, Nat.reduceAdd, Nat.reduceLeDiff, Nat.reduceEqDiff, Int.reduceAdd, reduceIte, Nat.reduceSub]
    rw [c2]
    simp only [show (0 : Int32) = nI 0 from nl0, ni_eq (a := r.length) (b := 0) (by omega) (by omega), ni_cl (a := r.length) (by omega)]
    cases t with
    | none =>
      rcases lk_ch_top g1 with ⟨-, q2⟩ | ⟨b, g, r', rfl, q1, q2, -⟩
      · subst q2
        exact ⟨fun q => absurd rfl q, fun _ => h1 rfl⟩
      · cases q1
    | some b =>
      have hb := ht rfl rfl
      have hr0 : ¬ r.length = 0 := by
        rcases lk_ch_top g1 with ⟨q1, -⟩ | ⟨b', g, r', rfl, q1, q2, -⟩
        · cases q1
        · simp
      obtain ⟨s4, s5⟩ := s2 (by simp)
      refine ⟨fun _ => ⟨ni_in (by omega) (by omega), ?_⟩, fun q => absurd q hr0⟩
      rw [s4]
      refine sX5_sideBy (by rw [ni_00 (by omega)]; trivial) (by rw [ni_l8 (by omega)]; omega) (by rw [show en9 (some b) = nI b from rfl, ni_00 (by omega)]; trivial) (by rw [show en9 (some b) = nI b from rfl, ni_l8 (by omega)]; omega) ?_
      rw [show en9 (some b) = nI b from rfl, ni_cl (by omega), ni_cl (by omega)]
      simp only [c2, ni_cl (a := r.length) (by omega), s1, s5, en9_m (o := l) (fun a ha => by have := hla rfl ha; omega)]
      have hon : (lk_on (I 1) (I 2) ((some b, l, sd) :: r, told, cnt, opn, deep, gvn, js) k = true) = (¬ ps (I 1) (I 2) k b = -9 ∧ (l = none ∨ ps (I 1) (I 2) k b = sd)) := by
        simp only [lk_on, Bool.and_eq_true, decide_eq_true_eq, Bool.or_eq_true, Option.isNone_iff_eq_none]
      rw [hon] at h1 h0
      have hv : vp_in (nI r.length) 41 := ni_in (by omega) (by omega)
      simp only [show nI 0 = (0 : Int32) from nl0.symm, hv, true_and]
      clear hon hla ht g1 g2 s3 c2 hL s2
      grind
set_option maxHeartbeats 4000000 in
set_option maxRecDepth 100000 in
theorem sX5_reasonOf {d : Nat} {I : mm_I} {L : mm_L} {Q : mm_Q} {n i : Nat} {A : pa} {fee s : Int32} (hs : sR n I) (hi : i ≤ 40) (hC : RR fee A I L) (hL : LI n i A) (h : Q I L (nI (lk_why (I 1) (I 2) (I 4) n A s)) 0) : mm_P shR msR (d + 5) 29 [.ref 0, .int s] I L Q := by
  have hs' := hs
  have hL' := hL
  have hC' := hC
  obtain ⟨hn, h8⟩ := hs
  have ht := @LI_top n i A hL
  have hla := @LI_la n i A hL
  obtain ⟨st, told, cnt, opn, deep, gvn, js⟩ := A
  have g1 := hL.1
  have g4 := hL.2.2.2.1
  have g2 := hL.2.1
  dsimp only at g1 g4 g2
  cases st with
  | nil => exact g1.elim
  | cons f r =>
    obtain ⟨t, l, sd⟩ := f
    obtain ⟨⟨s1, s2, s3⟩, c2, c3, c4, c5, c6, c7', c8⟩ := hC
    dsimp only at s1 s2 c6 c8
    simp only [List.length_cons, Nat.add_sub_cancel] at c2 g4
    have hv : vp_in (nI r.length) 41 := ni_in (by omega) (by omega)
    have ht0 : (r.length = 0) = (t = none) := by
      apply propext
      rcases lk_ch_top g1 with ⟨q1, q2⟩ | ⟨b', g, r', rfl, q1, q2, -⟩
      · subst q2
        exact ⟨fun _ => q1, fun _ => rfl⟩
      · dsimp only at q1
        rw [q1]
        simp
    refine pX5_reasonOf ?_
    simp only [↓uX5_reasonOf, ↓mm_r, mm_n, iaR, n10, not_true_eq_false, not_false_eq_true, false_implies, lg_cmp_ge, lg_cmp_le, lg_cmp_gt, lg_cmp_lt, lg_cmp_eq, true_and, and_true, true_or, or_true, true_implies, Classical.not_not, List.length_cons, List.length_nil, Nat.lt_iff_add_one_le, Nat.reduceAdd, Nat.reduceLeDiff, Nat.reduceEqDiff, Int.reduceAdd, reduceIte, Nat.reduceSub]
    simp only [c2, show (0 : Int32) = nI 0 from nl0, ni_eq (a := r.length) (b := 0) (by omega) (by omega), ni_cl (a := r.length) (by omega), s1, en9_m (o := l) (fun a ha => by have := hla rfl ha; omega), hv, true_and, ht0]
    by_cases s20 : s = 20
    · subst s20
      simp only [true_implies, not_true_eq_false, false_implies, true_and]
      cases l with
      | none => exact ⟨fun q => absurd rfl q, fun _ => h⟩
      | some a => exact ⟨fun _ => h, fun q => (by cases q)⟩
    · simp only [s20, true_implies, not_false_eq_true, false_implies, and_true]
      by_cases s21 : s = 21
      · subst s21
        simp only [true_implies, not_true_eq_false, false_implies, true_and]
        cases t with
        | none => exact ⟨fun _ => h, fun q => absurd rfl q⟩
        | some b =>
          cases l with
          | none => exact ⟨fun q => (by cases q), fun _ => ⟨fun q => absurd rfl q, fun _ => h⟩⟩
          | some a => exact ⟨fun q => (by cases q), fun _ => ⟨fun _ => h, fun q => (by cases q)⟩⟩
      · simp only [s21, true_implies, not_false_eq_true, false_implies, and_true]
        have e0 : lk_why (I 1) (I 2) (I 4) n ((t, l, sd) :: r, told, cnt, opn, deep, gvn, js) s = lk_sc (I 1) (I 2) (I 4) n ((t, l, sd) :: r, told, cnt, opn, deep, gvn, js) s := by
          simp only [lk_why, s20, s21, if_false]
        rw [e0] at h
        unfold lk_sc at h
        dsimp only at h
        refine pX5_reasonOfScene ?_
        simp only [↓uX5_reasonOfScene, ↓mm_r, mm_n, iaR, n10, not_true_eq_false, not_false_eq_true, false_implies, lg_cmp_ge, lg_cmp_le, lg_cmp_gt, lg_cmp_lt, lg_cmp_eq, true_and, and_true, true_or, or_true, true_implies, Classical.not_not, List.length_cons, List.length_nil, Nat.lt_iff_add_one_le, Nat.reduceAdd, Nat.reduceLeDiff, Nat.reduceEqDiff, Int.reduceAdd, reduceIte, Nat.reduceSub]
        refine sX5_isScene (by rw [hn, ni_00 (by omega)]; trivial) (fun q1 q2 => ?_) (fun q => ?_)
        · simp only [n10, not_false_eq_true, false_implies, true_implies, true_and, and_true, not_true_eq_false]
          rw [hn] at q2
          rw [if_neg (fun q => q ⟨q1, q2⟩)] at h
          obtain ⟨k, hk, rfl⟩ := vi_nI (n := n) (by omega) q1 q2
          rw [ni_cl (by omega)] at h ⊢
          have hb := (c8 k (by omega)).1
          refine ⟨fun b => ?_, fun b => ?_⟩
          · rw [if_neg (fun q => b (hb.mpr q))] at h
            refine ⟨ni_in (by omega) (by omega), fun q5 => ?_, fun q5 => ?_⟩
            · rw [c6] at q5
              rw [if_neg (fun q => q q5)] at h
              refine sX5_isOnSide hs' hi hC' hL' hk (fun q6 => ?_) (fun q6 => ?_)
              · simp only [n10, not_false_eq_true, false_implies, true_implies, true_and, and_true, not_true_eq_false]
                rw [if_pos q6] at h
                exact h
              · simp only [n10, not_false_eq_true, false_implies, true_implies, true_and, and_true, not_true_eq_false]
                rw [if_neg q6] at h
                exact h
            · rw [c6] at q5
              rw [if_pos q5] at h
              exact h
          · rw [if_pos (hb.mp b)] at h
            exact h
        · simp only [n10, not_false_eq_true, false_implies, true_implies, true_and, and_true, not_true_eq_false]
          rw [if_pos (fun q' => q ⟨q'.1, by rw [hn]; exact q'.2⟩)] at h
          exact h
set_option maxHeartbeats 8000000 in
set_option maxRecDepth 100000 in
theorem sX5_goesOn {d : Nat} {I : mm_I} {L : mm_L} {Q : mm_Q} {n i : Nat} {A : pa} {fee s : Int32} (hs : sR n I) (hi : i < 40) (hf : I 0 5 = fee) (hC : RR fee A I L) (hL : LI n i A) (hw : lk_why (I 1) (I 2) (I 4) n A s = 0) (h : ∀ I' L', RR fee (lk_go (I 1) (I 2) (I 3) A s) I' L' → r7 I I' → I' 0 13 = I 0 13 → I' 0 14 = I 0 14 → Q I' L' 0 0) : mm_P shR msR (d + 4) 32 [.ref 0, .int s] I L Q := by
  obtain ⟨hn, h8⟩ := hs
  have ht := @LI_top n i A hL
  have hla := @LI_la n i A hL
  obtain ⟨st, told, cnt, opn, deep, gvn, js⟩ := A
  obtain ⟨g1, g2, g3, g4, g5, g6, g7⟩ := hL
  dsimp only at g1 g2 g3 g4 g5 g6 g7
  cases st with
  | nil => exact g1.elim
  | cons f r =>
    obtain ⟨t, l, sd⟩ := f
    obtain ⟨⟨s1, s2, s3⟩, c2, c3, c4, c5, c6, c7', c8⟩ := hC
    dsimp only at s1 s2 c3 c4 c5 c6 c7' c8
    simp only [List.length_cons, Nat.add_sub_cancel] at c2 g4
    have hv : vp_in (nI r.length) 41 := ni_in (by omega) (by omega)
    have ht0 : (r.length = 0) = (t = none) := by
      apply propext
      rcases lk_ch_top g1 with ⟨q1, q2⟩ | ⟨b', g, r', rfl, q1, q2, -⟩
      · subst q2
        exact ⟨fun _ => q1, fun _ => rfl⟩
      · dsimp only at q1
        rw [q1]
        simp
    refine pX5_goesOn ?_
    simp only [↓uX5_goesOn, ↓mm_r, mm_n, iaR, n10, not_true_eq_false, not_false_eq_true, false_implies, lg_cmp_ge, lg_cmp_le, lg_cmp_gt, lg_cmp_lt, lg_cmp_eq, true_and, and_true, true_or, or_true, true_implies, Classical.not_not, List.length_cons, List.length_nil, Nat.lt_iff_add_one_le, Nat.reduceAdd, Nat.reduceLeDiff, Nat.reduceEqDiff, Int.reduceAdd, reduceIte, Nat.reduceSub]
    by_cases s20 : s = 20
    · subst s20
      simp only [true_implies, not_true_eq_false, false_implies, true_and]
      refine pX5_opens ?_
      simp only [↓uX5_opens, ↓mm_r, mm_n, iaR, n10, not_true_eq_false, not_false_eq_true, false_implies, lg_cmp_ge, lg_cmp_le, lg_cmp_gt, lg_cmp_lt, lg_cmp_eq, true_and, and_true, true_or, or_true, true_implies, Classical.not_not, List.length_cons, List.length_nil, Nat.lt_iff_add_one_le, Nat.reduceAdd, Nat.reduceLeDiff, Nat.reduceEqDiff, Int.reduceAdd, reduceIte, Nat.reduceSub]
      simp only [c2, nI_1, ni_cl (a := r.length) (by omega), ni_cl (a := r.length + 1) (by omega), c4, ni_le (a := r.length + 1) (b := deep) (by omega) (by omega), hf, s1, c3, hv, true_and]
      have hv1 : vp_in (nI (r.length + 1)) 41 := ni_in (by omega) (by omega)
      have fin : ∀ x : Nat, x = (if deep < r.length + 1 then r.length + 1 else deep) → Q (mm_ui (mm_ui (mm_ui (mm_ui (mm_ui (mm_ui I 0 9 (nI (r.length + 1))) 7 (r.length + 1) (en9 l)) 6 (r.length + 1) (-9)) 8 (r.length + 1) (-9)) 0 15 (nI (opn + 1))) 0 16 (nI x)) (mm_ul L 0 20 (L 0 20 + fee.toInt64)) 0 0 := by
        intro x hx
        refine h _ _ ?_ ?_ ?_ ?_
        · show RR fee ((l, none, -9) :: (t, l, sd) :: r, told, cnt, opn + 1, (if deep < r.length + 1 then r.length + 1 else deep), gvn, js) _ _
          refine ⟨⟨?_, fun _ => ⟨?_, ?_⟩, ?_⟩, ?_, ?_, ?_, ?_, ?_, ?_, fun k hk => ?_⟩
          all_goals simp only [uia, mm_ul, Nat.reduceEqDiff, reduceIte, List.length_cons, Nat.add_sub_cancel, if_true, c3, c5, c6, hx]
          · rfl
          · refine SR_c (J := I) ((t, l, sd) :: r) (fun j hj => ?_) ⟨s1, s2, s3⟩
            simp only [List.length_cons] at hj
            simp only [uia, Nat.reduceEqDiff, reduceIte, show ¬ j = r.length + 1 by omega, if_false, and_self]
          · rw [c7', ← lN_1]
            grind
          · exact c8 k hk
        · exact r7_u0 (r7_u0 (r7_ui (r7_ui (r7_ui (r7_u0 r7_rf (by omega)) (by omega)) (by omega)) (by omega)) (by omega)) (by omega)
        · simp only [uia, Nat.reduceEqDiff, reduceIte]
        · simp only [uia, Nat.reduceEqDiff, reduceIte]
      refine ⟨hv1, hv1, hv1, fun q => ?_, fun q => ?_⟩
      · exact fin deep (by rw [if_neg (by omega)])
      · exact fin (r.length + 1) (by rw [if_pos (by omega)])
    · simp only [s20, true_implies, not_false_eq_true, false_implies, and_true]
      by_cases s21 : s = 21
      · subst s21
        simp only [true_implies, not_true_eq_false, false_implies, true_and]
        rcases lk_ch_top g1 with ⟨q1, q2⟩ | ⟨a, g, r', rfl, q1, q2, q3⟩
        · dsimp only at q1
          subst q1
          simp [lk_why] at hw
        · refine h _ _ ?_ (r7_u0 r7_rf (by omega)) ?_ ?_
          · show RR fee (g :: r', told, cnt, opn, deep, gvn, js) _ _
            refine ⟨?_, ?_, ?_, ?_, ?_, ?_, ?_, fun k hk => ?_⟩
            · refine SR_c (J := I) (g :: r') (fun j hj => ?_) s3
              simp only [uia, Nat.reduceEqDiff, reduceIte, and_self]
            all_goals simp only [uia, Nat.reduceEqDiff, reduceIte, List.length_cons, Nat.add_sub_cancel, c2, c3, c4, c5, c6, c7']
            · exact nI_pred _
            · exact c8 k hk
          · simp only [uia, Nat.reduceEqDiff, reduceIte]
          · simp only [uia, Nat.reduceEqDiff, reduceIte]
      · simp only [s21, true_implies, not_false_eq_true, false_implies, and_true]
        have e0 : lk_why (I 1) (I 2) (I 4) n ((t, l, sd) :: r, told, cnt, opn, deep, gvn, js) s = lk_sc (I 1) (I 2) (I 4) n ((t, l, sd) :: r, told, cnt, opn, deep, gvn, js) s := by
          simp only [lk_why, s20, s21, if_false]
        rw [e0] at hw
        unfold lk_sc at hw
        dsimp only at hw
        by_cases b1 : ¬ (0 ≤ s ∧ s < nI n)
        · rw [if_pos b1] at hw; cases hw
        clear hw
        have b1 := Classical.not_not.mp b1
        have e1 : lk_go (I 1) (I 2) (I 3) ((t, l, sd) :: r, told, cnt, opn, deep, gvn, js) s = ((t, some s.toNatClampNeg, lk_sd (I 1) (I 2) t s.toNatClampNeg) :: r, lk_put told s.toNatClampNeg (cnt, r.length, t, lk_sd (I 1) (I 2) t s.toNatClampNeg), cnt + 1, opn, deep, gvn ||| I 3 s.toNatClampNeg, lk_js (I 1) (I 2) l s.toNatClampNeg js) := by
          simp only [lk_go, s20, s21, if_false]
        rw [e1] at h
        obtain ⟨k, hk, rfl⟩ := vi_nI (n := n) (by omega) b1.1 b1.2
        rw [ni_cl (by omega)] at h
        have k0 : (0 : Int32) ≤ nI k := b1.1
        have k8 : nI k < 8 := by rw [ni_l8 (by omega)]; omega
        have kv : vp_in (nI k) 8 := ni_in (by omega) (by omega)
        have sc : ∀ a, a < n → (0 : Int32) ≤ nI a ∧ nI a < 8 := fun a ha => ⟨by rw [ni_00 (by omega)]; trivial, by rw [ni_l8 (by omega)]; omega⟩
        have fin : ∀ (x : Int32) (L1 : mm_L), x = lk_sd (I 1) (I 2) t k → L1 0 20 = lk_js (I 1) (I 2) l k js + fee.toInt64 * lN opn → Q (mm_ui (mm_ui (mm_ui (mm_ui (mm_ui (mm_ui (mm_ui (mm_ui (mm_ui I 8 r.length x) 6 r.length (nI k)) 9 k (nI cnt)) 10 k (nI r.length)) 11 k (en9 t)) 12 k x) 0 17 (nI (cnt + 1))) 0 18 (I 0 18 ||| 1 <<< (nI k &&& 31))) 0 19 (gvn ||| I 3 k)) L1 0 0 := by
          intro x L1 hx hl1
          refine h _ _ ?_ ?_ ?_ ?_
          · refine ⟨⟨?_, fun hne => ⟨?_, ?_⟩, ?_⟩, ?_, ?_, ?_, ?_, ?_, hl1, fun j hj => ?_⟩
            · simp only [uia, Nat.reduceEqDiff, reduceIte]
              rfl
            · simp only [uia, Nat.reduceEqDiff, reduceIte]
              exact (s2 hne).1
            · simp only [uia, Nat.reduceEqDiff, reduceIte]
              exact hx
            · refine SR_c (J := I) r (fun j hj => ?_) s3
              simp only [uia, Nat.reduceEqDiff, reduceIte, show ¬ j = r.length by omega, if_false, and_self]
            all_goals simp only [uia, Nat.reduceEqDiff, reduceIte, List.length_cons, Nat.add_sub_cancel, c2, c3, c4]
            refine ⟨?_, ?_⟩
            · rw [bi_put _ hj (by omega)]
              simp only [lk_put]
              by_cases hjk : j = k
              · subst hjk
                simp
              · simp only [hjk, or_false, if_false]
                exact (c8 j hj).1
            · simp only [lk_put]
              by_cases hjk : j = k
              · subst hjk
                simp only [if_true]
                exact ⟨rfl, rfl, rfl, hx⟩
              · simp only [hjk, if_false]
                exact (c8 j hj).2
          · exact r7_u0 (r7_u0 (r7_u0 (r7_ui (r7_ui (r7_ui (r7_ui (r7_ui (r7_ui r7_rf (by omega)) (by omega)) (by omega)) (by omega)) (by omega)) (by omega)) (by omega)) (by omega)) (by omega)
          · simp only [uia, Nat.reduceEqDiff, reduceIte]
          · simp only [uia, Nat.reduceEqDiff, reduceIte]
        have zz : ∀ x : Int64, x + 0 = x := fun x => by grind
        refine pX5_tells ?_
        simp only [↓uX5_tells, ↓mm_r, mm_n, iaR, n10, not_true_eq_false, not_false_eq_true, false_implies, lg_cmp_ge, lg_cmp_le, lg_cmp_gt, lg_cmp_lt, lg_cmp_eq, true_and, and_true, true_or, or_true, true_implies, Classical.not_not, List.length_cons, List.length_nil, Nat.lt_iff_add_one_le, Nat.reduceAdd, Nat.reduceLeDiff, Nat.reduceEqDiff, Int.reduceAdd, reduceIte, Nat.reduceSub]
        simp only [c2, show (0 : Int32) = nI 0 from nl0, ni_eq (a := r.length) (b := 0) (by omega) (by omega), ni_cl (a := r.length) (by omega), ni_cl (a := k) (by omega), s1, en9_m (o := l) (fun a ha => by have := hla rfl ha; omega), hv, kv, true_and, ht0, c5, c6, nI_1]
        cases l with
        | none =>
          simp only [true_implies, not_true_eq_false, false_implies, true_and]
          cases t with
          | none =>
            simp only [true_implies, not_true_eq_false, false_implies, true_and]
            exact fin (-9) _ rfl (by simp only [mm_ul, if_true, c7', zz]; rfl)
          | some b =>
            have hb := sc b (ht rfl rfl)
            have hbn := ht rfl rfl
            obtain ⟨s4, s5⟩ := s2 (by simp)
            refine ⟨fun _ => ⟨fun _ => ?_, fun q => (by cases q)⟩, fun q => (by cases q)⟩
            rw [s4, show en9 (some b) = nI b from rfl]
            refine sX5_sideBy k0 k8 hb.1 hb.2 ?_
            rw [ni_cl (by omega), ni_cl (by omega)]
            simp only [c2, hv, kv, true_and, ni_cl (a := r.length) (by omega), ni_cl (a := k) (by omega), c5, c6, nI_1]
            exact fin _ _ rfl (by simp only [mm_ul, if_true, c7', zz]; rfl)
        | some a =>
          have ha := sc a (hla rfl rfl)
          have han := hla rfl rfl
          refine ⟨fun _ => ?_, fun q => (by cases q)⟩
          rw [show en9 (some a) = nI a from rfl]
          refine sX5_jumpOf ha.1 ha.2 k0 k8 ?_
          rw [ni_cl (a := a) (by omega), ni_cl (a := k) (by omega)]
          simp only [c2, show (0 : Int32) = nI 0 from nl0, ni_eq (a := r.length) (b := 0) (by omega) (by omega), ni_cl (a := r.length) (by omega), hv, kv, true_and, ht0, c5, c6, nI_1]
          have hj : L 0 20 + pj (I 1) (I 2) a k = lk_js (I 1) (I 2) (some a) k js + fee.toInt64 * lN opn := by
            rw [c7']
            show js + fee.toInt64 * lN opn + pj (I 1) (I 2) a k = js + pj (I 1) (I 2) a k + fee.toInt64 * lN opn
            grind
          cases t with
          | none =>
            simp only [true_implies, not_true_eq_false, false_implies, true_and]
            exact fin (-9) _ rfl (by simp only [mm_ul, if_true, hj])
          | some b =>
            have hb := sc b (ht rfl rfl)
            have hbn := ht rfl rfl
            obtain ⟨s4, s5⟩ := s2 (by simp)
            refine ⟨fun _ => ⟨fun _ => ?_, fun q => (by cases q)⟩, fun q => (by cases q)⟩
            rw [s4, show en9 (some b) = nI b from rfl]
            refine sX5_sideBy k0 k8 hb.1 hb.2 ?_
            rw [ni_cl (by omega), ni_cl (by omega)]
            simp only [c2, hv, kv, true_and, ni_cl (a := r.length) (by omega), ni_cl (a := k) (by omega), c5, c6, nI_1]
            exact fin _ _ rfl (by simp only [mm_ul, if_true, hj])
