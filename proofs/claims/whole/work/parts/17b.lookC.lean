/-! ===== the look, on the left side: reasons and steps ===== -/
theorem enc_m1 {o : Option Nat} (h : ∀ a, o = some a → a ≤ 1000) : (enc o = -1) = (o = none) := by
  cases o with
  | none => simp [enc]
  | some a => simp only [enc, ni_m1 (show a ≤ 1000000 by have := h a rfl; omega), reduceCtorEq]
set_option maxHeartbeats 4000000 in
set_option maxRecDepth 100000 in
theorem sX3_isOnSide {d : Nat} {I : mm_I} {L : mm_L} {Q : mm_Q} {n k t : Nat} (hn : I 1 4 = nI n) (h8 : n ≤ 8) (hk : k < n) (ht : t < n) (h13 : I 7 13 = nI t) (h1 : ¬ ps (I 2) (I 3) k t = -9 → (I 7 14 = -9 ∨ I 7 14 = ps (I 2) (I 3) k t) → Q I L 1 0) (h0 : ¬ (¬ ps (I 2) (I 3) k t = -9 ∧ (I 7 14 = -9 ∨ I 7 14 = ps (I 2) (I 3) k t)) → Q I L 0 0) : mm_P shC msC (d + 3) 31 [.ref 7, .ref 1, .int (nI k)] I L Q := by
  refine pX3_isOnSide ?_
  simp only [↓uX3_isOnSide, ↓mm_r, mm_n, iaC, n10, not_true_eq_false, not_false_eq_true, false_implies, lg_cmp_ge, lg_cmp_le, lg_cmp_gt, lg_cmp_lt, lg_cmp_eq, true_and, and_true, true_or, or_true, true_implies, Classical.not_not, List.length_cons, List.length_nil, Nat.lt_iff_add_one_le, Nat.reduceAdd, Nat.reduceLeDiff, Nat.reduceEqDiff, Int.reduceAdd, reduceIte, Nat.reduceSub]
  rw [h13]
  refine sX0_sideBy (by rw [ni_00 (by omega)]; trivial) (by rw [hn, ni_lt (by omega) (by omega)]; exact hk) (by rw [ni_l8 (by omega)]; omega) (by rw [ni_00 (by omega)]; trivial) (by rw [hn, ni_lt (by omega) (by omega)]; exact ht) (by rw [ni_l8 (by omega)]; omega) ?_
  rw [ni_cl (by omega), ni_cl (by omega)]
  grind
set_option maxHeartbeats 4000000 in
set_option maxRecDepth 100000 in
theorem sX3_whyWrong {d : Nat} {I : mm_I} {L : mm_L} {Q : mm_Q} {n i : Nat} {A : pa} {s : Int32} (hn : I 1 4 = nI n) (h8 : n ≤ 8) (hi : i ≤ 100) (hC : CR A I L) (hL : LI n i A) (h : Q I L (nI (lk_why (I 2) (I 3) (I 5) n A s)) 0) : mm_P shC msC (d + 4) 30 [.ref 7, .ref 1, .int s] I L Q := by
  obtain ⟨st, told, cnt, opn, deep, gvn, js⟩ := A
  obtain ⟨g1, g2, g3, g4, g5, g6, g7⟩ := hL
  dsimp only at g1 g2 g3 g4 g5 g6 g7
  cases st with
  | nil => exact g1.elim
  | cons f r =>
    obtain ⟨t, l, sd⟩ := f
    obtain ⟨c1, c2, c3, c4, c5, c6, c7, c8, c9, c10⟩ := hC
    dsimp only at c1 c2 c3 c4 c5 c10
    have hla : ∀ a, l = some a → a < n := fun a ha => by
      obtain ⟨-, -, -, q⟩ := g2 _ List.mem_cons_self
      obtain ⟨u, dd, hu⟩ := q a ha
      exact (g3 _ _ hu).1
    have hta : ∀ a, t = some a → a < n := fun a ha => by
      rcases lk_ch_top g1 with ⟨q1, -⟩ | ⟨b, g, r', rfl, q1, q2, -⟩
      · dsimp only at q1
        rw [q1] at ha
        cases ha
      · dsimp only at q1
        rw [q1] at ha
        cases ha
        obtain ⟨-, -, -, q⟩ := g2 _ (List.mem_cons_of_mem _ List.mem_cons_self)
        obtain ⟨u, dd, hu⟩ := q _ q2
        exact (g3 _ _ hu).1
    have e12 : (I 7 12 = -1) = (l = none) := by rw [c7]; exact enc_m1 (fun a ha => by have := hla a ha; omega)
    have e13 : (I 7 13 = -1) = (t = none) := by rw [c8]; exact enc_m1 (fun a ha => by have := hta a ha; omega)
    refine pX3_whyWrong ?_
    simp only [↓uX3_whyWrong, ↓mm_r, mm_n, iaC, n10, not_true_eq_false, not_false_eq_true, false_implies, lg_cmp_ge, lg_cmp_le, lg_cmp_gt, lg_cmp_lt, lg_cmp_eq, true_and, and_true, true_or, or_true, true_implies, Classical.not_not, List.length_cons, List.length_nil, Nat.lt_iff_add_one_le, Nat.reduceAdd, Nat.reduceLeDiff, Nat.reduceEqDiff, Int.reduceAdd, reduceIte, Nat.reduceSub]
    simp only [e12, e13]
    by_cases s20 : s = 20
    · subst s20
      simp only [true_implies, not_true_eq_false, false_implies, true_and]
      cases l with
      | none => exact ⟨fun q => absurd rfl q, fun _ => h⟩
      | some a => exact ⟨fun _ => h, fun q => (by cases q)⟩
    · simp only [s20, true_implies, not_false_eq_true, false_implies, and_true]
      by_cases s21 : s = 21
      · subst s21
        simp only [true_implies, not_true_eq_false, false_implies, true_and]
        cases t with
        | none => exact ⟨fun _ => h, fun q => absurd rfl q⟩
        | some b =>
          cases l with
          | none => exact ⟨fun q => (by cases q), fun _ => ⟨fun q => absurd rfl q, fun _ => h⟩⟩
          | some a => exact ⟨fun q => (by cases q), fun _ => ⟨fun _ => h, fun q => (by cases q)⟩⟩
      · simp only [s21, true_implies, not_false_eq_true, false_implies, and_true]
        have e0 : lk_why (I 2) (I 3) (I 5) n ((t, l, sd) :: r, told, cnt, opn, deep, gvn, js) s = lk_sc (I 2) (I 3) (I 5) n ((t, l, sd) :: r, told, cnt, opn, deep, gvn, js) s := by
          simp only [lk_why, s20, s21, if_false]
        rw [e0] at h
        unfold lk_sc at h
        dsimp only at h
        refine sX0_has (fun q1 q2 q3 => ?_) (fun q => ?_)
        · simp only [n10, not_false_eq_true, false_implies, true_implies, true_and, and_true, not_true_eq_false]
          rw [hn] at q2
          rw [if_neg (fun q => q ⟨q1, q2⟩)] at h
          obtain ⟨k, hk, rfl⟩ := vi_nI (n := n) (by omega) q1 q2
          rw [ni_cl (by omega)] at h ⊢
          refine sX3_hasTold (by omega) (c10 k (by omega)) (fun p hp => (g3 k p hp).2) (by omega) (fun q4 => ?_) (fun q4 => ?_)
          · simp only [n10, not_false_eq_true, false_implies, true_implies, true_and, and_true, not_true_eq_false]
            rw [if_pos q4] at h
            exact h
          · simp only [n10, not_false_eq_true, false_implies, true_implies, true_and, and_true, not_true_eq_false]
            rw [if_neg (by rw [q4]; exact fun q => (by cases q))] at h
            refine ⟨ni_in (by omega) (by omega), fun q5 => ?_, fun q5 => ?_⟩
            · rw [c4] at q5
              rw [if_neg (fun q => q q5)] at h
              simp only [e13]
              cases t with
              | none =>
                rw [if_pos (by rfl)] at h
                exact ⟨fun _ => h, fun q => absurd rfl q⟩
              | some b =>
                refine ⟨fun q => (by cases q), fun _ => ?_⟩
                have hb := hta b rfl
                refine sX3_isOnSide hn h8 hk hb c8 (fun q6 q7 => ?_) (fun q6 => ?_)
                · simp only [n10, not_false_eq_true, false_implies, true_implies, true_and, and_true, not_true_eq_false]
                  rw [if_pos ?_] at h
                  · exact h
                  · simp only [lk_on, Bool.and_eq_true, decide_eq_true_eq, Bool.or_eq_true]
                    refine ⟨q6, ?_⟩
                    rw [c9] at q7
                    cases l with
                    | none => exact Or.inl rfl
                    | some a =>
                      rcases q7 with q7 | q7
                      · exact absurd q7 ((g2 _ List.mem_cons_self).2.2.1 ⟨b, rfl⟩ ⟨a, rfl⟩)
                      · exact Or.inr q7.symm
                · simp only [n10, not_false_eq_true, false_implies, true_implies, true_and, and_true, not_true_eq_false]
                  rw [if_neg ?_] at h
                  · exact h
                  · simp only [lk_on, Bool.and_eq_true, decide_eq_true_eq, Bool.or_eq_true]
                    intro q
                    refine q6 ⟨q.1, ?_⟩
                    rw [c9]
                    cases l with
                    | none => exact Or.inl ((g2 _ List.mem_cons_self).1 rfl)
                    | some a =>
                      rcases q.2 with q7 | q7
                      · cases q7
                      · exact Or.inr q7.symm
            · rw [c4] at q5
              rw [if_pos q5] at h
              exact h
        · simp only [n10, not_false_eq_true, false_implies, true_implies, true_and, and_true, not_true_eq_false]
          rw [if_pos (fun q' => q ⟨q'.1, by rw [hn]; exact q'.2, by
            have := q'.2
            have h9 : nI n ≤ 8 := by rw [nl8, ni_le (by omega) (by omega)]; exact h8
            grind⟩)] at h
          exact h
set_option maxHeartbeats 4000000 in
set_option maxRecDepth 100000 in
theorem sX3_take {d : Nat} {I : mm_I} {L : mm_L} {Q : mm_Q} {n i : Nat} {A : pa} {s : Int32} (hn : I 1 4 = nI n) (h8 : n ≤ 8) (hi : i ≤ 100) (hC : CR A I L) (hL : LI n i A) (hw : lk_why (I 2) (I 3) (I 5) n A s = 0) (h : ∀ I' L', CR (lk_go (I 2) (I 3) (I 4) A s) I' L' → c7 I I' → l7 L L' → I' 7 5 = I 7 5 → Q I' L' 0 0) : mm_P shC msC (d + 4) 32 [.ref 7, .ref 1, .int s] I L Q := by
  obtain ⟨st, told, cnt, opn, deep, gvn, js⟩ := A
  obtain ⟨g1, g2, g3, g4, g5, g6, g7⟩ := hL
  dsimp only at g1 g2 g3 g4 g5 g6 g7
  cases st with
  | nil => exact g1.elim
  | cons f r =>
    obtain ⟨t, l, sd⟩ := f
    obtain ⟨c1, c2, c3, c4, c5, c6, c7', c8, c9, c10⟩ := hC
    dsimp only at c1 c2 c3 c4 c5 c10
    simp only [List.length_cons] at g4
    have hla : ∀ a, l = some a → a < n := fun a ha => by
      obtain ⟨-, -, -, q⟩ := g2 _ List.mem_cons_self
      obtain ⟨u, dd, hu⟩ := q a ha
      exact (g3 _ _ hu).1
    refine pX3_take ?_
    simp only [↓uX3_take, ↓mm_r, mm_n, iaC, n10, not_true_eq_false, not_false_eq_true, false_implies, lg_cmp_ge, lg_cmp_le, lg_cmp_gt, lg_cmp_lt, lg_cmp_eq, true_and, and_true, true_or, or_true, true_implies, Classical.not_not, List.length_cons, List.length_nil, Nat.lt_iff_add_one_le, Nat.reduceAdd, Nat.reduceLeDiff, Nat.reduceEqDiff, Int.reduceAdd, reduceIte, Nat.reduceSub]
    by_cases s20 : s = 20
    · subst s20
      simp only [true_implies, not_true_eq_false, false_implies, true_and]
      refine pX3_openFrame ?_
      simp only [↓uX3_openFrame, ↓mm_r, mm_n, iaC, n10, not_true_eq_false, not_false_eq_true, false_implies, lg_cmp_ge, lg_cmp_le, lg_cmp_gt, lg_cmp_lt, lg_cmp_eq, true_and, and_true, true_or, or_true, true_implies, Classical.not_not, List.length_cons, List.length_nil, Nat.lt_iff_add_one_le, Nat.reduceAdd, Nat.reduceLeDiff, Nat.reduceEqDiff, Int.reduceAdd, reduceIte, Nat.reduceSub]
      refine h _ _ ?_ ?_ l7_rf ?_
      · show CR ((l, none, -9) :: (t, l, sd) :: r, told, cnt, opn + 1, (if deep < r.length + 1 then r.length + 1 else deep), gvn, js) _ _
        refine ⟨?_, ?_, ?_, ?_, ?_, ?_, ?_, ?_, ?_, fun k hk => ?_⟩
        all_goals simp only [uia, Nat.reduceEqDiff, reduceIte, List.length_cons, c1, c2, c3, c4, c5, c6, c7', nI_1]
        · by_cases hd : deep < r.length + 1
          · rw [if_pos (by rw [ni_lt (by omega) (by omega)]; exact hd), if_pos hd]
          · rw [if_neg (by rw [ni_lt (by omega) (by omega)]; exact hd), if_neg hd]
        · rfl
        · exact c10 k hk
      · exact c7_ui (c7_ui (c7_ui (c7_ui (c7_ui (c7_ui c7_rf (by omega)) (by omega)) (by omega)) (by omega)) (by omega)) (by omega)
      · simp only [uia, Nat.reduceEqDiff, reduceIte]
    · simp only [s20, true_implies, not_false_eq_true, false_implies, and_true]
      by_cases s21 : s = 21
      · subst s21
        simp only [true_implies, not_true_eq_false, false_implies, true_and]
        rcases lk_ch_top g1 with ⟨q1, q2⟩ | ⟨a, g, r', rfl, q1, q2, q3⟩
        · dsimp only at q1
          subst q1
          simp [lk_why] at hw
        · dsimp only at q1
          subst q1
          obtain ⟨t2, l2, sd2⟩ := g
          dsimp only at q2
          subst q2
          obtain ⟨-, -, -, q4⟩ := g2 _ (List.mem_cons_of_mem _ List.mem_cons_self)
          obtain ⟨u, dd, hu⟩ := q4 a rfl
          dsimp only at hu
          have ha := (g3 _ _ hu).1
          have hd := c10 a (by omega)
          rw [hu] at hd
          obtain ⟨d1, d2, d3, d4⟩ := hd
          refine pX3_closeFrame ?_
          simp only [↓uX3_closeFrame, ↓mm_r, mm_n, iaC, n10, not_true_eq_false, not_false_eq_true, false_implies, lg_cmp_ge, lg_cmp_le, lg_cmp_gt, lg_cmp_lt, lg_cmp_eq, true_and, and_true, true_or, or_true, true_implies, Classical.not_not, List.length_cons, List.length_nil, Nat.lt_iff_add_one_le, Nat.reduceAdd, Nat.reduceLeDiff, Nat.reduceEqDiff, Int.reduceAdd, reduceIte, Nat.reduceSub]
          have c8 : I 7 13 = nI a := c8
          rw [c8]
          simp only [ni_cl (a := a) (by omega)]
          refine sX3_hasTold (o := told a) (m := cnt) (by omega) (c10 a (by omega)) (fun p hp => (g3 a p hp).2) (by omega) (fun q5 => ?_) (fun q5 => ?_)
          · simp only [n10, not_false_eq_true, false_implies, true_implies, true_and, and_true, not_true_eq_false]
            refine ⟨ni_in (by omega) (by omega), ni_in (by omega) (by omega), ?_⟩
            refine h _ _ ?_ ?_ l7_rf ?_
            · show CR ((t2, some a, sd2) :: r', told, cnt, opn, deep, gvn, js) _ _
              refine ⟨?_, ?_, ?_, ?_, ?_, ?_, ?_, ?_, ?_, fun k hk => ?_⟩
              all_goals simp only [uia, Nat.reduceEqDiff, reduceIte, List.length_cons, c1, c2, c3, c4, c5, c6, d3, d4]
              · exact nI_pred _
              · rfl
              · exact c10 k hk
            · exact c7_ui (c7_ui (c7_ui (c7_ui c7_rf (by omega)) (by omega)) (by omega)) (by omega)
            · simp only [uia, Nat.reduceEqDiff, reduceIte]
          · rw [q5] at hu
            cases hu
      · simp only [s21, true_implies, not_false_eq_true, false_implies, and_true]
        have e0 : lk_why (I 2) (I 3) (I 5) n ((t, l, sd) :: r, told, cnt, opn, deep, gvn, js) s = lk_sc (I 2) (I 3) (I 5) n ((t, l, sd) :: r, told, cnt, opn, deep, gvn, js) s := by
          simp only [lk_why, s20, s21, if_false]
        rw [e0] at hw
        unfold lk_sc at hw
        dsimp only at hw
        by_cases b1 : ¬ (0 ≤ s ∧ s < nI n)
        · rw [if_pos b1] at hw; cases hw
        rw [if_neg b1] at hw
        by_cases b2 : (told s.toNatClampNeg).isSome = true
        · rw [if_pos b2] at hw; cases hw
        clear hw
        have b1 := Classical.not_not.mp b1
        have e1 : lk_go (I 2) (I 3) (I 4) ((t, l, sd) :: r, told, cnt, opn, deep, gvn, js) s = ((t, some s.toNatClampNeg, lk_sd (I 2) (I 3) t s.toNatClampNeg) :: r, lk_put told s.toNatClampNeg (cnt, r.length, t, lk_sd (I 2) (I 3) t s.toNatClampNeg), cnt + 1, opn, deep, gvn ||| I 4 s.toNatClampNeg, lk_js (I 2) (I 3) l s.toNatClampNeg js) := by
          simp only [lk_go, s20, s21, if_false]
        rw [e1] at h
        obtain ⟨k, hk, rfl⟩ := vi_nI (n := n) (by omega) b1.1 b1.2
        rw [ni_cl (by omega)] at h b2
        have k0 : (0 : Int32) ≤ nI k := b1.1
        have kn : nI k < I 1 4 := by rw [hn]; exact b1.2
        have k8 : nI k < 8 := by rw [ni_l8 (by omega)]; omega
        have kv : vp_in (nI k) 8 := ni_in (by omega) (by omega)
        have hta : ∀ a, t = some a → a < n := fun a ha => by
          rcases lk_ch_top g1 with ⟨q1, -⟩ | ⟨b, g, r', rfl, q1, q2, -⟩
          · dsimp only at q1
            rw [q1] at ha
            cases ha
          · dsimp only at q1
            rw [q1] at ha
            cases ha
            obtain ⟨-, -, -, q⟩ := g2 _ (List.mem_cons_of_mem _ List.mem_cons_self)
            obtain ⟨u, dd, hu⟩ := q _ q2
            exact (g3 _ _ hu).1
        have e12 : (I 7 12 = -1) = (l = none) := by rw [c7']; exact enc_m1 (fun a ha => by have := hla a ha; omega)
        have e13 : (I 7 13 = -1) = (t = none) := by rw [c8]; exact enc_m1 (fun a ha => by have := hta a ha; omega)
        have sc : ∀ a, a < n → (0 : Int32) ≤ nI a ∧ nI a < I 1 4 ∧ nI a < 8 := fun a ha => ⟨by rw [ni_00 (by omega)]; trivial, by rw [hn, ni_lt (by omega) (by omega)]; exact ha, by rw [ni_l8 (by omega)]; omega⟩
        refine pX3_tell ?_
        simp only [↓uX3_tell, ↓mm_r, mm_n, iaC, n10, not_true_eq_false, not_false_eq_true, false_implies, lg_cmp_ge, lg_cmp_le, lg_cmp_gt, lg_cmp_lt, lg_cmp_eq, true_and, and_true, true_or, or_true, true_implies, Classical.not_not, List.length_cons, List.length_nil, Nat.lt_iff_add_one_le, Nat.reduceAdd, Nat.reduceLeDiff, Nat.reduceEqDiff, Int.reduceAdd, reduceIte, Nat.reduceSub]
        refine sX0_has (fun _ _ _ => ?_) (fun q => absurd ⟨k0, kn, k8⟩ q)
        simp only [n10, not_false_eq_true, false_implies, true_implies, true_and, and_true, not_true_eq_false]
        simp only [e12, e13, kv, true_and, ni_cl (a := k) (by omega)]
        have fin : ∀ (x : Int32) (y : Int64) (I1 : mm_I), (∀ c, c ≠ 7 → I1 c = I c) → (∀ j, j ≠ 14 → I1 7 j = I 7 j) → I1 7 14 = x → x = lk_sd (I 2) (I 3) t k → y = lk_js (I 2) (I 3) l k js → ∀ L1 : mm_L, l7 L L1 → L1 7 10 = y → Q (mm_ui (mm_ui (mm_ui (mm_ui (mm_ui (mm_ui (mm_ui I1 8 k (I 7 8)) 9 k (I 7 11)) 10 k (I 7 13)) 11 k x) 7 12 (nI k)) 7 8 (I 7 8 + 1)) 7 9 (I 7 9 ||| I 4 k)) L1 0 0 := by
          intro x y I1 i1 i2 i3 hx hy L1 l1 l2
          refine h _ _ ?_ ?_ l1 ?_
          · refine ⟨?_, ?_, ?_, ?_, ?_, ?_, ?_, ?_, ?_, fun j hj => ?_⟩
            all_goals simp only [uia, Nat.reduceEqDiff, reduceIte, c1, c2, c3, c4, c6, c8, nI_1, l2, hy, i2 6 (by decide), i2 7 (by decide), i2 11 (by decide), i2 13 (by decide), i3, hx]
            · rfl
            · simp only [lk_put]
              by_cases hjk : j = k
              · subst hjk
                simp only [if_true]
                exact ⟨rfl, rfl, rfl, rfl⟩
              · simp only [hjk, if_false, i1 8 (by decide), i1 9 (by decide), i1 10 (by decide), i1 11 (by decide)]
                exact c10 j hj
          · refine c7_ui (c7_ui (c7_ui (c7_ui (c7_ui (c7_ui (c7_ui ?_ (by omega)) (by omega)) (by omega)) (by omega)) (by omega)) (by omega)) (by omega)
            intro c hc
            exact i1 c (by omega)
          · simp only [uia, Nat.reduceEqDiff, reduceIte, i2 5 (by decide)]
        cases t with
        | none =>
          have c9 : I 7 14 = -9 := by rw [c9]; exact (g2 _ List.mem_cons_self).2.1 rfl
          simp only [true_implies, not_true_eq_false, false_implies, and_true]
          cases l with
          | none =>
            simp only [true_implies, not_true_eq_false, false_implies, and_true, c9]
            exact fin (-9) js I (fun _ _ => rfl) (fun _ _ => rfl) c9 rfl rfl L l7_rf c5
          | some a =>
            have ha := sc a (hla a rfl)
            refine ⟨fun q => (by cases q), fun _ => ?_⟩
            have c7' : I 7 12 = nI a := c7'
            rw [c7']
            refine sX0_jumpBetween ha.1 ha.2.1 ha.2.2 k0 kn k8 ?_
            have := hla a rfl
            simp only [kv, true_and, ni_cl (a := k) (by omega), ni_cl (a := a) (by omega), c9]
            exact fin (-9) _ I (fun _ _ => rfl) (fun _ _ => rfl) c9 rfl rfl _ (l7_ul l7_rf) (by simp only [mm_ul, if_true, c5]; rfl)
        | some b =>
          have hb := sc b (hta b rfl)
          have hbn := hta b rfl
          refine ⟨fun q => (by cases q), fun _ => ?_⟩
          have c8' : I 7 13 = nI b := c8
          rw [c8']
          refine sX0_sideBy k0 kn k8 hb.1 hb.2.1 hb.2.2 ?_
          simp only [kv, true_and, ni_cl (a := k) (by omega), ni_cl (a := b) (by omega), e12, uia, Nat.reduceEqDiff, reduceIte]
          cases l with
          | none =>
            simp only [true_implies, not_true_eq_false, false_implies, and_true]
            exact fin (ps (I 2) (I 3) k b) js (mm_ui I 7 14 (ps (I 2) (I 3) k b)) (fun c hc => by rw [uif, if_neg hc]) (fun j hj => by simp only [uia, if_true, hj, if_false]) (by simp only [uia, if_true]) rfl rfl L l7_rf c5
          | some a =>
            have ha := sc a (hla a rfl)
            refine ⟨fun q => (by cases q), fun _ => ?_⟩
            have c7' : I 7 12 = nI a := c7'
            rw [c7']
            refine sX0_jumpBetween ha.1 (by simp only [uia, Nat.reduceEqDiff, reduceIte]; exact ha.2.1) ha.2.2 k0 (by simp only [uia, Nat.reduceEqDiff, reduceIte]; exact kn) k8 ?_
            have := hla a rfl
            simp only [kv, true_and, ni_cl (a := k) (by omega), ni_cl (a := a) (by omega), uia, uif, Nat.reduceEqDiff, reduceIte]
            exact fin (ps (I 2) (I 3) k b) _ (mm_ui I 7 14 (ps (I 2) (I 3) k b)) (fun c hc => by rw [uif, if_neg hc]) (fun j hj => by simp only [uia, if_true, hj, if_false]) (by simp only [uia, if_true]) rfl rfl _ (l7_ul l7_rf) (by simp only [mm_ul, if_true, c5]; rfl)
/-- what a look leaves of its end -/
def CW (w : Option (Nat × Nat)) (I : mm_I) : Prop := match w with
  | none => I 7 5 = 0
  | some (p, r) => I 7 5 = nI r ∧ I 7 4 = nI p ∧ 0 < r ∧ r ≤ 7
theorem lk_why_le (fr ln nd : Nat → Int32) (n : Nat) (A : pa) (s : Int32) : lk_why fr ln nd n A s ≤ 6 := by
  unfold lk_why lk_sc
  repeat' split
  all_goals omega
set_option maxHeartbeats 4000000 in
set_option maxRecDepth 100000 in
theorem lX3_goThrough {d : Nat} {Q : mm_Q} {n r tot : Nat} {I0 : mm_I} {L0 : mm_L} {res : Option (Nat × Nat) × pa} (hr : mm_ia shC r = 40) (hr2 : mm_la shC r = 0) (hr7 : r < 7 ∨ 11 < r) (h8 : n ≤ 8) (h40 : tot ≤ 40) (hn : I0 1 4 = nI n) (h : ∀ I' L', CR res.2 I' L' → CW res.1 I' → c7 I0 I' → l7 L0 L' → Q I' L' 0 0) :
    ∀ (m i : Nat) (A : pa) (I : mm_I) (L : mm_L), i + m = tot → c7 I0 I → l7 L0 L → CR A I L → LI n i A → I 7 5 = 0 → lk_run (I0 2) (I0 3) (I0 4) (I0 5) n (I0 r) m i A = res → mm_W shC (mm_P shC msC (d + 4)) tbX3_goThrough Q 4 [.ref 7, .ref 1, .ref r, .int (nI tot), .int (nI i)] [] I L := by
  intro m
  induction m with
  | zero =>
    intro i A I L hi hc hl hC hL h5 hres
    have e1 : i = tot := by omega
    subst e1
    refine mm_hk 80 ?_
    simp only [↓hX3_goThrough, ↓uX3_goThrough, ↓mm_r, mm_n, iaC, n10, not_true_eq_false, not_false_eq_true, false_implies, lg_cmp_ge, lg_cmp_le, lg_cmp_gt, lg_cmp_lt, lg_cmp_eq, true_and, and_true, true_or, or_true, true_implies, Classical.not_not, List.length_cons, List.length_nil, Nat.lt_iff_add_one_le, Nat.reduceAdd, Nat.reduceLeDiff, Nat.reduceEqDiff, Int.reduceAdd, reduceIte, Nat.reduceSub]
    simp only [ni_le (a := i) (b := i) (by omega) (by omega), h5, Nat.le_refl, true_implies, not_true_eq_false, false_implies, true_and, and_true]
    obtain ⟨st, told, cnt, opn, deep, gvn, js⟩ := A
    have hch := hL.1
    dsimp only at hch
    cases st with
    | nil => exact hch.elim
    | cons f r1 =>
      obtain ⟨t, l, sd⟩ := f
      obtain ⟨b1, b2, b3, b4, b5, b6, b7, b8, b9, b10⟩ := id hC
      have hlen := hL.2.2.2.1
      simp only [List.length_cons] at hlen
      rw [b6, show (0 : Int32) = nI 0 from nl0, ni_le (by omega) (by omega)]
      simp only [lk_run, List.length_cons] at hres
      refine ⟨fun q => ?_, fun q => ?_⟩
      · rw [if_neg (by omega)] at hres
        subst hres
        exact h _ _ hC h5 hc hl
      · rw [if_pos (by omega)] at hres
        subst hres
        refine h _ _ ?_ ?_ (c7_ui (c7_ui hc (by omega)) (by omega)) hl
        · refine ⟨?_, ?_, ?_, ?_, ?_, ?_, ?_, ?_, ?_, fun k hk => ?_⟩
          all_goals simp only [uia, Nat.reduceEqDiff, reduceIte]
          all_goals first | assumption | skip
          exact b10 k hk
        · refine ⟨?_, ?_, by omega, by omega⟩
          · simp only [uia, Nat.reduceEqDiff, reduceIte]
            exact nl7
          · simp only [uia, Nat.reduceEqDiff, reduceIte]
  | succ m ih =>
    intro i A I L hi hc hl hC hL h5 hres
    have hI : ∀ c, c < 7 → I c = I0 c := fun c hq => hc c (Or.inl hq)
    have hIr : I r = I0 r := hc r hr7
    refine mm_hk 80 ?_
    simp only [↓hX3_goThrough, ↓uX3_goThrough, ↓mm_r, mm_n, iaC, n10, not_true_eq_false, not_false_eq_true, false_implies, lg_cmp_ge, lg_cmp_le, lg_cmp_gt, lg_cmp_lt, lg_cmp_eq, true_and, and_true, true_or, or_true, true_implies, Classical.not_not, List.length_cons, List.length_nil, Nat.lt_iff_add_one_le, Nat.reduceAdd, Nat.reduceLeDiff, Nat.reduceEqDiff, Int.reduceAdd, reduceIte, Nat.reduceSub]
    simp only [hr, hr2, Nat.add_zero, ni_le (a := tot) (b := i) (by omega) (by omega), h5, true_implies, not_true_eq_false, false_implies, true_and, and_true, show Int32.ofNat 40 = nI 40 from rfl, ni_le (a := 40) (b := i) (by omega) (by omega), ni_cl (a := i) (by omega), nI_1]
    refine ⟨fun q => absurd q (by omega), fun _ => ⟨by omega, fun q => absurd q (by omega), fun _ => ⟨ni_in (by omega) (by omega), ?_⟩⟩⟩
    rw [hIr]
    have hn' : I 1 4 = nI n := by rw [hI 1 (by omega)]; exact hn
    refine sX3_whyWrong hn' h8 (by omega) hC hL ?_
    rw [hI 2 (by omega), hI 3 (by omega), hI 5 (by omega)]
    unfold lk_run at hres
    have hle := lk_why_le (I0 2) (I0 3) (I0 5) n A (I0 r i)
    by_cases hw : lk_why (I0 2) (I0 3) (I0 5) n A (I0 r i) = 0
    · rw [if_pos hw] at hres
      rw [hw]
      simp only [show nI 0 = (0 : Int32) from nl0.symm, true_implies, not_true_eq_false, false_implies, true_and]
      refine ⟨ni_in (by omega) (by omega), ?_⟩
      have hu : mm_ui I 7 5 0 = I := by
        funext b j
        simp only [mm_ui]
        split
        · split
          · rename_i q1 q2
            rw [q1, q2, h5]
          · rfl
        · rfl
      have hx : (if r = 7 then if i = 5 then (0 : Int32) else I r i else I r i) = I0 r i := by
        rw [if_neg (by omega), hIr]
      rw [hx, hu]
      refine sX3_take hn' h8 (by omega) hC hL (by rw [hI 2 (by omega), hI 3 (by omega), hI 5 (by omega)]; exact hw) (fun I' L' k1 k2 k3 k4 => ?_)
      rw [hI 2 (by omega), hI 3 (by omega), hI 4 (by omega)] at k1
      exact ih (i + 1) _ I' L' (by omega) (c7_tr hc k2) (l7_tr hl k3) k1 (LI_go h8 hL hw) (k4.trans h5) hres
    · rw [if_neg hw] at hres
      simp only [ni_eq (a := lk_why (I0 2) (I0 3) (I0 5) n A (I0 r i)) (b := 0) (by omega) (by omega), show (0 : Int32) = nI 0 from nl0, hw, not_false_eq_true, true_implies, false_implies, and_true]
      refine mm_hk 80 ?_
      simp only [↓hX3_goThrough, ↓uX3_goThrough, ↓mm_r, mm_n, iaC, n10, not_true_eq_false, not_false_eq_true, false_implies, lg_cmp_ge, lg_cmp_le, lg_cmp_gt, lg_cmp_lt, lg_cmp_eq, true_and, and_true, true_or, or_true, true_implies, Classical.not_not, List.length_cons, List.length_nil, Nat.lt_iff_add_one_le, Nat.reduceAdd, Nat.reduceLeDiff, Nat.reduceEqDiff, Int.reduceAdd, reduceIte, Nat.reduceSub]
      generalize hW : lk_why (I0 2) (I0 3) (I0 5) n A (I0 r i) = wh at *
      simp only [hr, hr2, Nat.add_zero, show (0 : Int32) = nI 0 from nl0, ni_eq (a := wh) (b := 0) (by omega) (by omega), hw, not_false_eq_true, true_implies, false_implies, and_true, true_and]
      subst hres
      have fin : Q (mm_ui (mm_ui I 7 5 (nI wh)) 7 4 (nI i)) L 0 0 := by
        refine h _ _ ?_ ?_ (c7_ui (c7_ui hc (by omega)) (by omega)) hl
        · obtain ⟨st, told, cnt, opn, deep, gvn, js⟩ := A
          have hch := hL.1
          dsimp only at hch
          cases st with
          | nil => exact hch.elim
          | cons f r1 =>
            obtain ⟨t, l, sd⟩ := f
            obtain ⟨b1, b2, b3, b4, b5, b6, b7, b8, b9, b10⟩ := id hC
            refine ⟨?_, ?_, ?_, ?_, ?_, ?_, ?_, ?_, ?_, fun k hk => ?_⟩
            all_goals simp only [uia, Nat.reduceEqDiff, reduceIte]
            all_goals first | assumption | skip
            exact b10 k hk
        · refine ⟨?_, ?_, by omega, by omega⟩
          · simp only [uia, Nat.reduceEqDiff, reduceIte]
          · simp only [uia, Nat.reduceEqDiff, reduceIte]
      exact ⟨fun _ => fin, fun _ => ⟨by omega, fun _ => fin, fun _ => fin⟩⟩
set_option maxHeartbeats 4000000 in
set_option maxRecDepth 100000 in
theorem sX3_goThrough {d : Nat} {I : mm_I} {L : mm_L} {Q : mm_Q} {n r tot : Nat} (hr : mm_ia shC r = 40) (hr2 : mm_la shC r = 0) (hr7 : r < 7 ∨ 11 < r) (h8 : n ≤ 8) (h40 : tot ≤ 40) (hn : I 1 4 = nI n) (h : ∀ I' L', CR (lk (vC I) (I r) tot).2 I' L' → CW (lk (vC I) (I r) tot).1 I' → c7 I I' → l7 L L' → Q I' L' 0 0) : mm_P shC msC (d + 5) 28 [.ref 7, .ref 1, .ref r, .int (nI tot)] I L Q := by
  refine pX3_goThrough ?_
  simp only [↓hX3_goThrough, ↓uX3_goThrough, ↓mm_r, mm_n, iaC, n10, not_true_eq_false, not_false_eq_true, false_implies, lg_cmp_ge, lg_cmp_le, lg_cmp_gt, lg_cmp_lt, lg_cmp_eq, true_and, and_true, true_or, or_true, true_implies, Classical.not_not, List.length_cons, List.length_nil, Nat.lt_iff_add_one_le, Nat.reduceAdd, Nat.reduceLeDiff, Nat.reduceEqDiff, Int.reduceAdd, reduceIte, Nat.reduceSub]
  refine sX3_begin (fun I' L' k1 k2 k3 k4 => ?_)
  have hk : lk (vC I) (I r) tot = lk_run (I 2) (I 3) (I 4) (I 5) n (I r) tot 0 lk_0 := by
    unfold lk
    rw [show (v_n (vC I)).toNatClampNeg = n by show (I 1 4).toNatClampNeg = n; rw [hn, ni_cl (by omega)]]
    rfl
  rw [hk] at h
  exact lX3_goThrough (d := d) hr hr2 hr7 h8 h40 hn h tot 0 lk_0 I' L' (by omega) k2 k3 k1 (LI_0 n) k4 rfl
