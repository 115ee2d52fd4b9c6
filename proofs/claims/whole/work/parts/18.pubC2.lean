/-! ===== jumps as whole numbers; judge, jumps, told, on the left side ===== -/
theorem i64a {x y : Int64} (h1 : -9223372036854775808 ≤ x.toInt + y.toInt) (h2 : x.toInt + y.toInt < 9223372036854775808) : (x + y).toInt = x.toInt + y.toInt := by
  rw [Int64.toInt_add]
  exact Int.bmod_eq_of_le (by omega) (by omega)
theorem i64s {x y : Int64} (h1 : -9223372036854775808 ≤ x.toInt - y.toInt) (h2 : x.toInt - y.toInt < 9223372036854775808) : (x - y).toInt = x.toInt - y.toInt := by
  rw [Int64.toInt_sub]
  exact Int.bmod_eq_of_le (by omega) (by omega)
theorem i64n {x : Int64} (h1 : -9223372036854775808 < x.toInt) : (-x).toInt = -x.toInt := by
  have h2 : x.toInt < 9223372036854775808 := Int64.toInt_lt x
  rw [Int64.toInt_neg]
  exact Int.bmod_eq_of_le (by omega) (by omega)
theorem i32b (x : Int32) : -2147483648 ≤ x.toInt ∧ x.toInt < 2147483648 := ⟨Int32.le_toInt x, Int32.toInt_lt x⟩
theorem i32l (x : Int32) : x.toInt64.toInt = x.toInt := Int32.toInt_toInt64 x
theorem pe_i (fr ln : Nat → Int32) (k : Nat) : (pe fr ln k).toInt = (fr k).toInt + (ln k).toInt := by
  have h1 := i32b (fr k)
  have h2 := i32b (ln k)
  unfold pe
  rw [i64a (by rw [i32l, i32l]; omega) (by rw [i32l, i32l]; omega), i32l, i32l]
/-- JUMP as a whole number -/
def cj (fr ln : Nat → Int32) (a b : Nat) : Nat := ((fr b).toInt - ((fr a).toInt + (ln a).toInt)).natAbs
theorem cj_le (fr ln : Nat → Int32) (a b : Nat) : cj fr ln a b ≤ 6442450944 := by
  have h1 := i32b (fr a)
  have h2 := i32b (ln a)
  have h3 := i32b (fr b)
  unfold cj
  omega
theorem pj_cj (fr ln : Nat → Int32) (a b : Nat) : pj fr ln a b = lN (cj fr ln a b) := by
  have h1 := i32b (fr a)
  have h2 := i32b (ln a)
  have h3 := i32b (fr b)
  have hs : ((fr b).toInt64 - pe fr ln a).toInt = (fr b).toInt - ((fr a).toInt + (ln a).toInt) := by
    rw [i64s (by rw [i32l, pe_i]; omega) (by rw [i32l, pe_i]; omega), i32l, pe_i]
  apply Int64.toInt_inj.mp
  rw [pk_lT (by have := cj_le fr ln a b; omega)]
  unfold pj cj
  split
  · rename_i h
    rw [Int64.lt_iff_toInt_lt, hs] at h
    rw [hs]
    have : (0 : Int64).toInt = 0 := by decide
    omega
  · rename_i h
    rw [Int64.lt_iff_toInt_lt, hs] at h
    rw [i64n (by rw [hs]; omega), hs]
    have : (0 : Int64).toInt = 0 := by decide
    omega
/-- the jumps of a look are a whole number, not large -/
def JI (A : pa) : Prop := ∃ N : Nat, A.2.2.2.2.2.2 = lN N ∧ N ≤ A.2.2.1 * 6442450944
theorem JI_0 : JI lk_0 := ⟨0, rfl, Nat.zero_le _⟩
theorem JI_go {fr ln gv : Nat → Int32} {A : pa} {s : Int32} (h : JI A) : JI (lk_go fr ln gv A s) := by
  obtain ⟨st, told, cnt, opn, deep, gvn, js⟩ := A
  obtain ⟨N, h1, h2⟩ := h
  dsimp only at h1 h2
  subst h1
  cases st with
  | nil => exact ⟨N, rfl, h2⟩
  | cons f r =>
    obtain ⟨t, l, sd⟩ := f
    simp only [lk_go]
    split
    · exact ⟨N, rfl, h2⟩
    · split
      · exact ⟨N, rfl, h2⟩
      · cases l with
        | none => exact ⟨N, rfl, Nat.le_trans h2 (Nat.mul_le_mul_right _ (Nat.le_succ cnt))⟩
        | some a =>
          refine ⟨N + cj fr ln a s.toNatClampNeg, ?_, ?_⟩
          · show lN N + pj fr ln a s.toNatClampNeg = _
            rw [pj_cj, lN_add]
          · have := cj_le fr ln a s.toNatClampNeg
            dsimp only
            omega
theorem lk_run_JI {fr ln gv nd : Nat → Int32} {n : Nat} {row : Nat → Int32} : ∀ (m i : Nat) (A : pa), JI A → JI (lk_run fr ln gv nd n row m i A).2 := by
  intro m
  induction m with
  | zero => intro i A h; exact h
  | succ m ih =>
    intro i A h
    unfold lk_run
    split
    · exact ih _ _ (JI_go h)
    · exact h
theorem lk_ok {v : pv} {row : Nat → Int32} {m : Nat} (hv : vok v) : LI (v_n v).toNatClampNeg (m) (lk v row m).2 ∨ ∃ j, j ≤ m ∧ LI (v_n v).toNatClampNeg j (lk v row m).2 := by
  obtain ⟨n, hn, h8⟩ := vok_n hv
  obtain ⟨j, h1, h2⟩ := lk_run_LI (fr := v.1) (ln := v.2.1) (gv := v.2.2.1) (nd := v.2.2.2.1) (n := (v_n v).toNatClampNeg) (by rw [hn, ni_cl (by omega)]; exact h8) (row := row) m 0 lk_0 (LI_0 _)
  exact Or.inr ⟨j, by omega, h2⟩
theorem lk_LI {v : pv} {row : Nat → Int32} {m : Nat} (hv : vok v) : ∃ j, j ≤ m ∧ LI (v_n v).toNatClampNeg j (lk v row m).2 := by
  rcases lk_ok (row := row) (m := m) hv with h | h
  · exact ⟨m, Nat.le_refl _, h⟩
  · exact h
theorem lk_JI {v : pv} {row : Nat → Int32} {m : Nat} : JI (lk v row m).2 := lk_run_JI m 0 lk_0 JI_0
/-- tellers are scenes -/
def TI (n : Nat) (A : pa) : Prop := ∀ (k : Nat) (p : pt), A.2.1 k = some p → ∀ t, p.2.2.1 = some t → t < n
theorem LI_top {n i : Nat} {A : pa} (h : LI n i A) {t l : Option Nat} {sd : Int32} {r : List pf} (e : A.1 = (t, l, sd) :: r) {a : Nat} (ha : t = some a) : a < n := by
  have g1 := h.1
  rw [e] at g1
  rcases lk_ch_top g1 with ⟨q1, -⟩ | ⟨b, g, r', rfl, q1, q2, -⟩
  · dsimp only at q1
    rw [q1] at ha
    cases ha
  · dsimp only at q1
    rw [q1] at ha
    cases ha
    obtain ⟨-, -, -, q⟩ := h.2.1 g (by rw [e]; exact List.mem_cons_of_mem _ List.mem_cons_self)
    obtain ⟨u, dd, hu⟩ := q _ q2
    exact (h.2.2.1 _ _ hu).1
theorem TI_go {fr ln gv : Nat → Int32} {n i : Nat} {A : pa} {s : Int32} (h : LI n i A) (hT : TI n A) : TI n (lk_go fr ln gv A s) := by
  have ht := @LI_top n i A h
  obtain ⟨st, told, cnt, opn, deep, gvn, js⟩ := A
  cases st with
  | nil => exact hT
  | cons f r =>
    obtain ⟨t, l, sd⟩ := f
    intro k p hk t' ht'
    simp only [lk_go] at hk
    split at hk
    · exact hT k p hk t' ht'
    · split at hk
      · exact hT k p hk t' ht'
      · simp only [lk_put] at hk
        split at hk
        · cases hk
          exact ht rfl ht'
        · exact hT k p hk t' ht'
theorem lk_run_TI {fr ln gv nd : Nat → Int32} {n : Nat} (hn : n ≤ 8) {row : Nat → Int32} : ∀ (m i : Nat) (A : pa), LI n i A → TI n A → TI n (lk_run fr ln gv nd n row m i A).2 := by
  intro m
  induction m with
  | zero => intro i A _ h; exact h
  | succ m ih =>
    intro i A h hT
    unfold lk_run
    split
    · rename_i hw
      exact ih (i + 1) _ (LI_go (gv := gv) hn h hw) (TI_go h hT)
    · exact hT
theorem lk_TI {v : pv} {row : Nat → Int32} {m : Nat} (hv : vok v) : TI (v_n v).toNatClampNeg (lk v row m).2 := by
  obtain ⟨n, hn, h8⟩ := vok_n hv
  exact lk_run_TI (by rw [hn, ni_cl (by omega)]; exact h8) m 0 lk_0 (LI_0 _) (fun k p h => by cases h)
/-- the look at the telling -/
def lv (v : pv) : Option (Nat × Nat) × pa := lk v v.2.2.2.2.1 (v_ns v).toNatClampNeg
def v1 (v : pv) : pv := (v.1, v.2.1, v.2.2.1, v.2.2.2.1, v.2.2.2.2.1, v_n v, v_ns v, v_fee v, v.2.2.2.2.2.2.2.2 + 1)
def en9 (o : Option Nat) : Int32 := match o with
  | none => -9
  | some a => nI a
def w_at (w : Option (Nat × Nat)) : Int32 := match w with
  | none => -9
  | some p => nI p.1
def w_by (w : Option (Nat × Nat)) : Int32 := match w with
  | none => -9
  | some p => nI p.2
def q_judge (v : pv) (a : Int32) : pv × Int32 := (v1 v, if a = 0 then w_at (lv v).1 else if a = 1 then w_by (lv v).1 else if a = 2 then nI (lv v).2.2.2.2.1 else if a = 3 then nI (lv v).2.2.2.2.2.1 else if a = 4 then nI (lv v).2.2.2.1 else if a = 5 then (lv v).2.2.2.2.2.2.1 else -2)
def ovr (s : Int64) : Int32 := if 2147483647 < s then -5 else s.toInt32
def q_jumps (v : pv) : pv × Int32 := (v1 v, if (lv v).1 = none then ovr ((lv v).2.2.2.2.2.2.2 + (v_fee v).toInt64 * lN (lv v).2.2.2.2.1) else -3)
def q_tol (o : Option pt) (a : Int32) : Int32 := match o with
  | none => -9
  | some (u, dd, t, sd) => if a = 0 then nI u else if a = 1 then nI dd else if a = 2 then en9 t else sd
def q_told (v : pv) (k a : Int32) : pv × Int32 := (v1 v, if ¬ is_sc v k then -1 else if ¬ (0 ≤ a ∧ a ≤ 3) then -2 else if ¬ (lv v).1 = none then -3 else q_tol ((lv v).2.2.1 k.toNatClampNeg) a)
theorem lv_v1 (I : mm_I) : lk (vC (mm_ui I 0 4 (I 0 4 + 1))) (mm_ui I 0 4 (I 0 4 + 1) 6) (I 0 2).toNatClampNeg = lv (vC I) := by
  simp only [lv, lk, vC, uif, uia, v_n, v_ns, Nat.reduceEqDiff, reduceIte]
theorem v1C {I I' : mm_I} (h : c7 (mm_ui I 0 4 (I 0 4 + 1)) I') : vC I' = v1 (vC I) := by
  unfold vC v1 v_n v_ns v_fee
  rw [h 2 (by omega), h 3 (by omega), h 4 (by omega), h 5 (by omega), h 6 (by omega), h 1 (by omega), h 0 (by omega)]
  simp only [vC, uif, uia, Nat.reduceEqDiff, reduceIte, upd]
theorem kc7 {I I' : mm_I} {L L' : mm_L} (h : c7 (mm_ui I 0 4 (I 0 4 + 1)) I') (hl : l7 L L') : kc I L I' L' := by
  refine Or.inr ⟨⟨_, v1C h⟩, ?_, ?_, ?_, ?_, hl 13 (by omega), hl 16 (by omega)⟩
  · rw [h 13 (by omega), uif, if_neg (by omega)]
  · rw [h 15 (by omega), uif, if_neg (by omega)]
  · rw [h 16 (by omega), uif, if_neg (by omega)]
  · rw [h 21 (by omega), uif, if_neg (by omega)]
theorem CR_f {A : pa} {I : mm_I} {L : mm_L} (h : CR A I L) : I 7 6 = nI A.2.2.2.1 ∧ I 7 7 = nI A.2.2.2.2.1 ∧ I 7 8 = nI A.2.2.1 ∧ I 7 9 = A.2.2.2.2.2.1 ∧ L 7 10 = A.2.2.2.2.2.2 ∧ ∀ k, k < 8 → td (A.2.1 k) (I 8 k) (I 9 k) (I 10 k) (I 11 k) := by
  unfold CR at h
  split at h
  · exact h.elim
  · exact ⟨h.1, h.2.1, h.2.2.1, h.2.2.2.1, h.2.2.2.2.1, h.2.2.2.2.2.2.2.2.2⟩
set_option maxHeartbeats 4000000 in
set_option maxRecDepth 100000 in
theorem kX4_judge {d : Nat} {I : mm_I} {L : mm_L} {a : Int32} (hv : vok (vC I)) : mm_P shC msC (d + 6) 49 [.ref 0, .int a] I L (fun I' L' ri _ => (vC I', ri) = q_judge (vC I) a ∧ kc I L I' L') := by
  obtain ⟨n, ns, hn, h8, hns, h40, -⟩ := id hv
  have hn : I 1 4 = nI n := hn
  have hns : I 0 2 = nI ns := hns
  have ou : ¬ (0 ≤ a ∧ a ≤ 5) → (vC (mm_ui I 0 4 (I 0 4 + 1)), -2) = q_judge (vC I) a ∧ kc I L (mm_ui I 0 4 (I 0 4 + 1)) L := fun h => by
    refine ⟨?_, kc7 c7_rf l7_rf⟩
    rw [v1C c7_rf, q_judge]
    have e : ∀ z : Int32, 0 ≤ z → z ≤ 5 → ¬ a = z := fun z h1 h2 hz => h (by rw [hz]; exact ⟨h1, h2⟩)
    rw [if_neg (e 0 (by decide) (by decide)), if_neg (e 1 (by decide) (by decide)), if_neg (e 2 (by decide) (by decide)), if_neg (e 3 (by decide) (by decide)), if_neg (e 4 (by decide) (by decide)), if_neg (e 5 (by decide) (by decide))]
  refine pX4_judge ?_
  simp only [↓uX4_judge, ↓mm_r, mm_n, iaC, n10, not_true_eq_false, not_false_eq_true, false_implies, lg_cmp_ge, lg_cmp_le, lg_cmp_gt, lg_cmp_lt, lg_cmp_eq, true_and, and_true, true_or, or_true, true_implies, Classical.not_not, List.length_cons, List.length_nil, Nat.lt_iff_add_one_le, Nat.reduceAdd, Nat.reduceLeDiff, Nat.reduceEqDiff, Int.reduceAdd, reduceIte, Nat.reduceSub]
  refine ⟨fun q => ou (by grind), fun q => ⟨fun q2 => ?_, fun q2 => ou (by grind)⟩⟩
  rw [hns]
  refine sX3_goThrough (n := n) (by decide +kernel) (by decide +kernel) (by omega) h8 h40 (by simp only [uia, Nat.reduceEqDiff, reduceIte]; exact hn) (fun I' L' k1 k2 k3 k4 => ?_)
  have el := lv_v1 I
  rw [hns, ni_cl (by omega)] at el
  rw [el] at k1 k2
  obtain ⟨f1, f2, f3, f4, f5, f6⟩ := CR_f k1
  have kk := kc7 (L := L) (L' := L') k3 k4
  have vv := v1C k3
  refine ⟨⟨fun z => ?_, fun z => ?_, fun z => ?_, fun z => ?_, fun z => ?_⟩, fun z => ?_⟩
  · subst z
    refine sX3_isWrong (fun b => ?_) (fun b => ?_)
    · simp only [n10, not_false_eq_true, false_implies, true_implies, true_and, and_true, not_true_eq_false]
      refine ⟨?_, kk⟩
      rw [vv, q_judge, if_pos rfl]
      cases hw : (lv (vC I)).1 with
      | none => rw [hw] at k2; exact absurd k2 b
      | some p => rw [hw] at k2; rw [k2.2.1]; rfl
    · simp only [n10, not_false_eq_true, false_implies, true_implies, true_and, and_true, not_true_eq_false]
      refine ⟨?_, kk⟩
      rw [vv, q_judge, if_pos rfl]
      cases hw : (lv (vC I)).1 with
      | none => rfl
      | some p =>
        rw [hw] at k2
        obtain ⟨e1, -, e3, e4⟩ := k2
        rw [e1, show (0 : Int32) = nI 0 from nl0, ni_eq (by omega) (by omega)] at b
        omega
  · subst z
    refine sX3_isWrong (fun b => ?_) (fun b => ?_)
    · simp only [n10, not_false_eq_true, false_implies, true_implies, true_and, and_true, not_true_eq_false]
      refine ⟨?_, kk⟩
      rw [vv, q_judge, if_neg (by decide), if_pos rfl]
      cases hw : (lv (vC I)).1 with
      | none => rw [hw] at k2; exact absurd k2 b
      | some p => rw [hw] at k2; rw [k2.1]; rfl
    · simp only [n10, not_false_eq_true, false_implies, true_implies, true_and, and_true, not_true_eq_false]
      refine ⟨?_, kk⟩
      rw [vv, q_judge, if_neg (by decide), if_pos rfl]
      cases hw : (lv (vC I)).1 with
      | none => rfl
      | some p =>
        rw [hw] at k2
        obtain ⟨e1, -, e3, e4⟩ := k2
        rw [e1, show (0 : Int32) = nI 0 from nl0, ni_eq (by omega) (by omega)] at b
        omega
  · subst z
    exact ⟨by rw [vv, q_judge, if_neg (by decide), if_neg (by decide), if_pos rfl, f1], kk⟩
  · subst z
    exact ⟨by rw [vv, q_judge, if_neg (by decide), if_neg (by decide), if_neg (by decide), if_pos rfl, f2], kk⟩
  · subst z
    exact ⟨by rw [vv, q_judge, if_neg (by decide), if_neg (by decide), if_neg (by decide), if_neg (by decide), if_pos rfl, f3], kk⟩
  · have a5 : a = 5 := by
      have h1 : ¬ a.toInt < 0 := fun h => q (by rw [Int32.lt_iff_toInt_lt]; exact h)
      have h2 : a.toInt ≤ 5 := by rw [Int32.le_iff_toInt_le] at q2; exact q2
      apply Int32.toInt_inj.mp
      show a.toInt = 5
      omega
    subst a5
    exact ⟨by rw [vv, q_judge, if_neg (by decide), if_neg (by decide), if_neg (by decide), if_neg (by decide), if_neg (by decide), if_pos rfl, f4], kk⟩
theorem vok_fee {v : pv} (h : vok v) : ∃ f : Nat, v_fee v = nI f ∧ f ≤ 1000000 := by
  obtain ⟨n, ns, -, -, -, -, -, -, h1, h2⟩ := h
  obtain ⟨f, hf, e⟩ := vi_nI (x := v_fee v) (n := 1000001) (by omega) h1 (by
    show v.2.2.2.2.2.2.2.1 < nI 1000001
    have : (1000000 : Int32) < nI 1000001 := by decide +kernel
    grind)
  exact ⟨f, e, by omega⟩
/-- the jumps, with fees, of a look -/
theorem jsum {v : pv} {w : pa} (hv : vok v) (hJ : JI w) {j : Nat} (hL : LI (v_n v).toNatClampNeg j w) (hj : j ≤ 40) : ∃ S : Nat, w.2.2.2.2.2.2 + (v_fee v).toInt64 * lN w.2.2.2.1 = lN S ∧ S < 1000000000000 := by
  obtain ⟨f, hf, hf2⟩ := vok_fee hv
  obtain ⟨N, h1, h2⟩ := hJ
  have g1 := hL.2.2.2.2.1
  have g2 := hL.2.2.2.2.2.1
  refine ⟨N + f * w.2.2.2.1, ?_, ?_⟩
  · rw [h1, hf, nI_l (by omega), lN_mul, lN_add]
  · have : f * w.2.2.2.1 ≤ 1000000 * 40 := Nat.mul_le_mul hf2 (by omega)
    have : w.2.2.1 * 6442450944 ≤ 40 * 6442450944 := Nat.mul_le_mul_right _ (by omega)
    omega
theorem ovr_fi {S : Nat} (h : S < 1000000000000) : ovr (lN S) = if fi (lN S) then (lN S).toInt32 else -5 := by
  unfold ovr
  have e1 : (-2147483648 : Int64) ≤ lN S := by
    rw [Int64.le_iff_toInt_le, pk_lT (by omega)]
    have : (-2147483648 : Int64).toInt = -2147483648 := by decide
    omega
  by_cases h1 : 2147483647 < lN S
  · rw [if_pos h1, if_neg (by unfold fi; grind)]
  · rw [if_neg h1, if_pos (by unfold fi; grind)]
set_option maxHeartbeats 4000000 in
set_option maxRecDepth 100000 in
theorem kX4_jumps {d : Nat} {I : mm_I} {L : mm_L} (hv : vok (vC I)) : mm_P shC msC (d + 6) 50 [.ref 0] I L (fun I' L' ri _ => (vC I', ri) = q_jumps (vC I) ∧ kc I L I' L') := by
  obtain ⟨n, ns, hn, h8, hns, h40, -⟩ := id hv
  have hn : I 1 4 = nI n := hn
  have hns : I 0 2 = nI ns := hns
  refine pX4_jumps ?_
  simp only [↓uX4_jumps, ↓mm_r, mm_n, iaC, n10, not_true_eq_false, not_false_eq_true, false_implies, lg_cmp_ge, lg_cmp_le, lg_cmp_gt, lg_cmp_lt, lg_cmp_eq, true_and, and_true, true_or, or_true, true_implies, Classical.not_not, List.length_cons, List.length_nil, Nat.lt_iff_add_one_le, Nat.reduceAdd, Nat.reduceLeDiff, Nat.reduceEqDiff, Int.reduceAdd, reduceIte, Nat.reduceSub]
  rw [hns]
  refine sX3_goThrough (n := n) (by decide +kernel) (by decide +kernel) (by omega) h8 h40 (by simp only [uia, Nat.reduceEqDiff, reduceIte]; exact hn) (fun I' L' k1 k2 k3 k4 => ?_)
  have el := lv_v1 I
  rw [hns, ni_cl (by omega)] at el
  rw [el] at k1 k2
  obtain ⟨f1, f2, f3, f4, f5, f6⟩ := CR_f k1
  have kk := kc7 (L := L) (L' := L') k3 k4
  have vv := v1C k3
  obtain ⟨j, j1, j2⟩ := lk_LI (row := (vC I).2.2.2.2.1) (m := (v_ns (vC I)).toNatClampNeg) hv
  have hnsv : (v_ns (vC I)).toNatClampNeg = ns := by show (I 0 2).toNatClampNeg = ns; rw [hns, ni_cl (by omega)]
  rw [hnsv] at j1
  have hj2 : LI (v_n (vC I)).toNatClampNeg j (lv (vC I)).2 := j2
  obtain ⟨S, s1, s2⟩ := jsum hv lk_JI hj2 (by omega)
  have hop := hj2.2.2.2.2.2.1
  have hfee : I' 0 3 = v_fee (vC I) := by
    rw [k3 0 (by omega)]
    simp only [uia, vC, v_fee, Nat.reduceEqDiff, reduceIte]
  refine sX3_isWrong (fun b => ?_) (fun b => ?_)
  · simp only [n10, not_false_eq_true, false_implies, true_implies, true_and, and_true, not_true_eq_false]
    refine ⟨?_, kk⟩
    rw [vv, q_jumps]
    cases hw : (lv (vC I)).1 with
    | none => rw [hw] at k2; exact absurd k2 b
    | some p => rw [if_neg (by simp)]
  · simp only [n10, not_false_eq_true, false_implies, true_implies, true_and, and_true, not_true_eq_false]
    have hw : (lv (vC I)).1 = none := by
      cases hw : (lv (vC I)).1 with
      | none => rfl
      | some p =>
        rw [hw] at k2
        obtain ⟨e1, -, e3, e4⟩ := k2
        rw [e1, show (0 : Int32) = nI 0 from nl0, ni_eq (by omega) (by omega)] at b
        omega
    rw [f5, f1, hfee, nI_l (by omega)]
    have s1' : (lv (vC I)).2.2.2.2.2.2.2 + (v_fee (vC I)).toInt64 * lN (lv (vC I)).2.2.2.2.1 = lN S := s1
    rw [s1']
    have ho := ovr_fi s2
    refine sX4_intOrOver (fun f => ⟨?_, kk⟩) (fun f => ⟨?_, kk⟩)
    · rw [vv, q_jumps, if_pos hw, s1', ho, if_pos f]
    · rw [vv, q_jumps, if_pos hw, s1', ho, if_neg f]
set_option maxHeartbeats 4000000 in
set_option maxRecDepth 100000 in
theorem kX4_told {d : Nat} {I : mm_I} {L : mm_L} {k a : Int32} (hv : vok (vC I)) : mm_P shC msC (d + 6) 51 [.ref 0, .int k, .int a] I L (fun I' L' ri _ => (vC I', ri) = q_told (vC I) k a ∧ kc I L I' L') := by
  obtain ⟨n, ns, hn, h8, hns, h40, -⟩ := id hv
  have hn : I 1 4 = nI n := hn
  have hns : I 0 2 = nI ns := hns
  have hn9 := vok_n0 hv
  simp only [vC, v_n] at hn9
  refine pX4_told ?_
  simp only [↓uX4_told, ↓mm_r, mm_n, iaC, n10, not_true_eq_false, not_false_eq_true, false_implies, lg_cmp_ge, lg_cmp_le, lg_cmp_gt, lg_cmp_lt, lg_cmp_eq, true_and, and_true, true_or, or_true, true_implies, Classical.not_not, List.length_cons, List.length_nil, Nat.lt_iff_add_one_le, Nat.reduceAdd, Nat.reduceLeDiff, Nat.reduceEqDiff, Int.reduceAdd, reduceIte, Nat.reduceSub]
  have v0 := v1C (I := I) (I' := mm_ui I 0 4 (I 0 4 + 1)) c7_rf
  have k0 := kc7 (I := I) (I' := mm_ui I 0 4 (I 0 4 + 1)) (L := L) (L' := L) c7_rf l7_rf
  refine sX0_has (fun h1 h2 h3 => ?_) (fun h1 => ?_)
  · simp only [n10, not_false_eq_true, false_implies, true_implies, true_and, and_true, not_true_eq_false]
    simp only [uia, Nat.reduceEqDiff, reduceIte] at h2
    have hs : ¬ ¬ is_sc (vC I) k := fun q => q ⟨h1, h2⟩
    refine ⟨fun q => ⟨by rw [v0, q_told, if_neg hs, if_pos (by grind)], k0⟩, fun q => ⟨fun q2 => ?_, fun q2 => ⟨by rw [v0, q_told, if_neg hs, if_pos (by grind)], k0⟩⟩⟩
    have ha : ¬ ¬ (0 ≤ a ∧ a ≤ 3) := by grind
    simp only [uia, Nat.reduceEqDiff, reduceIte]
    rw [hns]
    refine sX3_goThrough (n := n) (by decide +kernel) (by decide +kernel) (by omega) h8 h40 (by simp only [uia, Nat.reduceEqDiff, reduceIte]; exact hn) (fun I' L' k1 k2 k3 k4 => ?_)
    have el := lv_v1 I
    rw [hns, ni_cl (by omega)] at el
    rw [el] at k1 k2
    obtain ⟨f1, f2, f3, f4, f5, f6⟩ := CR_f k1
    have kk := kc7 (L := L) (L' := L') k3 k4
    have vv := v1C k3
    obtain ⟨j, j1, j2⟩ := lk_LI (row := (vC I).2.2.2.2.1) (m := (v_ns (vC I)).toNatClampNeg) hv
    have hnsv : (v_ns (vC I)).toNatClampNeg = ns := by show (I 0 2).toNatClampNeg = ns; rw [hns, ni_cl (by omega)]
    rw [hnsv] at j1
    have hj2 : LI (v_n (vC I)).toNatClampNeg j (lv (vC I)).2 := j2
    have hcn := hj2.2.2.2.2.1
    refine sX3_isWrong (fun b => ?_) (fun b => ?_)
    · simp only [n10, not_false_eq_true, false_implies, true_implies, true_and, and_true, not_true_eq_false]
      refine ⟨?_, kk⟩
      rw [vv, q_told, if_neg hs, if_neg ha]
      cases hw : (lv (vC I)).1 with
      | none => rw [hw] at k2; exact absurd k2 b
      | some p => rw [if_pos (by simp)]
    · simp only [n10, not_false_eq_true, false_implies, true_implies, true_and, and_true, not_true_eq_false]
      have hw : (lv (vC I)).1 = none := by
        cases hw : (lv (vC I)).1 with
        | none => rfl
        | some p =>
          rw [hw] at k2
          obtain ⟨e1, -, e3, e4⟩ := k2
          rw [e1, show (0 : Int32) = nI 0 from nl0, ni_eq (by omega) (by omega)] at b
          omega
      have kv := vi8 h1 h3
      obtain ⟨kk', hk8, rfl⟩ := vi_nI (n := 8) (by omega) h1 (by rw [← nl8]; exact h3)
      have hq : ∀ x, x = q_tol ((lv (vC I)).2.2.1 kk') a → (vC I', x) = q_told (vC I) (nI kk') a := fun x hx => by
        rw [vv, q_told, if_neg hs, if_neg ha, if_neg (fun q => q hw), ni_cl (by omega), hx]
      simp only [ni_cl (a := kk') (by omega), kv, true_and]
      have ft := f6 kk' hk8
      have hbnd : ∀ p, (lv (vC I)).2.2.1 kk' = some p → p.1 < (lv (vC I)).2.2.2.1 := fun p hp => (hj2.2.2.1 kk' p hp).2
      refine sX3_hasTold hk8 ft hbnd (by omega) (fun c => ?_) (fun c => ?_)
      · simp only [n10, not_false_eq_true, false_implies, true_implies, true_and, and_true, not_true_eq_false]
        cases ho : (lv (vC I)).2.2.1 kk' with
        | none => rw [ho] at c; cases c
        | some p =>
          obtain ⟨u, dd, t, sd⟩ := p
          rw [ho] at ft hq
          obtain ⟨t1, t2, t3, t4⟩ := ft
          have htt : ∀ b, t = some b → b ≤ 1000 := fun b hb => by
            have h9 : (v_n (vC I)).toNatClampNeg = n := by show (I 1 4).toNatClampNeg = n; rw [hn, ni_cl (by omega)]
            have := lk_TI (row := (vC I).2.2.2.2.1) (m := (v_ns (vC I)).toNatClampNeg) hv kk' _ ho b hb
            omega
          have e10 : (I' 10 kk' = -1) = (t = none) := by rw [t3]; exact enc_m1 htt
          simp only [e10]
          refine ⟨⟨fun z => ⟨hq _ ?_, kk⟩, fun z => ⟨hq _ ?_, kk⟩, fun z => ⟨fun y => ⟨hq _ ?_, kk⟩, fun y => ⟨hq _ ?_, kk⟩⟩⟩, fun z => ⟨hq _ ?_, kk⟩⟩
          · subst z
            rw [t1]
            rfl
          · subst z
            rw [t2]
            rfl
          · subst z
            cases t with
            | none => exact absurd rfl y
            | some b => rw [t3]; rfl
          · subst z
            subst y
            rfl
          · have a3 : a = 3 := by
              have g1 : ¬ a.toInt < 0 := fun h => q (by rw [Int32.lt_iff_toInt_lt]; exact h)
              have g2 : a.toInt ≤ 3 := by rw [Int32.le_iff_toInt_le] at q2; exact q2
              apply Int32.toInt_inj.mp
              show a.toInt = 3
              omega
            subst a3
            rw [t4]
            rfl
      · simp only [n10, not_false_eq_true, false_implies, true_implies, true_and, and_true, not_true_eq_false]
        exact ⟨hq _ (by rw [c]; rfl), kk⟩
  · simp only [n10, not_false_eq_true, false_implies, true_implies, true_and, and_true, not_true_eq_false]
    refine ⟨?_, k0⟩
    rw [v0, q_told, if_pos (fun q => h1 ⟨q.1, by simp only [uia, Nat.reduceEqDiff, reduceIte]; exact q.2, by have q2 := q.2; simp only [vC, v_n] at q2; grind⟩)]
