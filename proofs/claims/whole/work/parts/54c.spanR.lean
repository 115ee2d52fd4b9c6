/-! ===== span, on the right side ===== -/
set_option maxHeartbeats 4000000 in
set_option maxRecDepth 100000 in
theorem lX5_firstFrom {d : Nat} {I : mm_I} {L : mm_L} {Q : mm_Q} {n : Nat} (hn : I 0 0 = nI n) (h8 : n ≤ 8) (h : ∀ r : Int64, r.toInt = mnF (sF (vR I)) n → Q I L 0 r) : ∀ (m k : Nat) (x : Int64), k + m = n → x.toInt = mnF (sF (vR I)) k → mm_W shR (mm_P shR msR d) tbX5_firstFrom Q 8 [.ref 0, .long x, .null, .int (nI k)] [] I L := by
  intro m
  induction m with
  | zero =>
    intro k x hk hx
    have e1 : k = n := by omega
    subst e1
    refine mm_hk 60 ?_
    simp only [↓hX5_firstFrom, ↓uX5_firstFrom, ↓mm_r, mm_n, iaR, n10, not_true_eq_false, not_false_eq_true, false_implies, lg_cmp_ge, lg_cmp_le, lg_cmp_gt, lg_cmp_lt, lg_cmp_eq, true_and, and_true, true_or, or_true, true_implies, Classical.not_not, List.length_cons, List.length_nil, Nat.lt_iff_add_one_le, Nat.reduceAdd, Nat.reduceLeDiff, Nat.reduceEqDiff, Int.reduceAdd, reduceIte, Nat.reduceSub]
    simp only [hn, ni_le (a := k) (b := k) (by omega) (by omega)]
    exact ⟨fun _ => h x hx, fun q => absurd (Nat.le_refl k) q⟩
  | succ m ih =>
    intro k x hk hx
    refine mm_hk 60 ?_
    simp only [↓hX5_firstFrom, ↓uX5_firstFrom, ↓mm_r, mm_n, iaR, n10, not_true_eq_false, not_false_eq_true, false_implies, lg_cmp_ge, lg_cmp_le, lg_cmp_gt, lg_cmp_lt, lg_cmp_eq, true_and, and_true, true_or, or_true, true_implies, Classical.not_not, List.length_cons, List.length_nil, Nat.lt_iff_add_one_le, Nat.reduceAdd, Nat.reduceLeDiff, Nat.reduceEqDiff, Int.reduceAdd, reduceIte, Nat.reduceSub]
    simp only [hn, ni_le (a := n) (b := k) (by omega) (by omega), ni_cl (a := k) (by omega), nI_1]
    refine ⟨fun q => absurd q (by omega), fun _ => ⟨ni_in (by omega) (by omega), fun q => ?_, fun q => ⟨ni_in (by omega) (by omega), ?_⟩⟩⟩
    · rw [lle, rF, hx] at q
      exact ih (k + 1) x (by omega) (by rw [mnF, if_neg (by omega)]; exact hx)
    · rw [lle, rF, hx] at q
      exact ih (k + 1) _ (by omega) (by rw [mnF, if_pos (by omega), rF])
set_option maxHeartbeats 4000000 in
set_option maxRecDepth 100000 in
theorem sX5_firstFrom {d : Nat} {I : mm_I} {L : mm_L} {Q : mm_Q} {n : Nat} (hn : I 0 0 = nI n) (h8 : n ≤ 8) (h1 : 0 < n) (hB : BD (sF (vR I)) (sE (vR I)) n) (h : ∀ r : Int64, r.toInt = mnF (sF (vR I)) n → Q I L 0 r) : mm_P shR msR (d + 1) 18 [.ref 0] I L Q := by
  refine pX5_firstFrom ?_
  simp only [↓hX5_firstFrom, ↓uX5_firstFrom, ↓mm_r, mm_n, iaR, n10, not_true_eq_false, not_false_eq_true, false_implies, lg_cmp_ge, lg_cmp_le, lg_cmp_gt, lg_cmp_lt, lg_cmp_eq, true_and, and_true, true_or, or_true, true_implies, Classical.not_not, List.length_cons, List.length_nil, Nat.lt_iff_add_one_le, Nat.reduceAdd, Nat.reduceLeDiff, Nat.reduceEqDiff, Int.reduceAdd, reduceIte, Nat.reduceSub]
  refine ⟨by rw [nl0]; exact ni_in (by omega) (by omega), ?_⟩
  refine lX5_firstFrom hn h8 h (n - 1) 1 _ (by omega) ?_
  have := hB 0 h1
  rw [mnF, mnF, if_pos (by omega)]
  exact rF
set_option maxHeartbeats 4000000 in
set_option maxRecDepth 100000 in
theorem lX5_lastEnd {d : Nat} {I : mm_I} {L : mm_L} {Q : mm_Q} {n : Nat} (hn : I 0 0 = nI n) (h8 : n ≤ 8) (h : ∀ r : Int64, r.toInt = mxE (sE (vR I)) n → Q I L 0 r) : ∀ (m k : Nat) (x : Int64), k + m = n → x.toInt = mxE (sE (vR I)) k → mm_W shR (mm_P shR msR (d + 1)) tbX5_lastEnd Q 6 [.ref 0, .long x, .null, .int (nI k)] [] I L := by
  intro m
  induction m with
  | zero =>
    intro k x hk hx
    have e1 : k = n := by omega
    subst e1
    refine mm_hk 60 ?_
    simp only [↓hX5_lastEnd, ↓uX5_lastEnd, ↓mm_r, mm_n, iaR, n10, not_true_eq_false, not_false_eq_true, false_implies, lg_cmp_ge, lg_cmp_le, lg_cmp_gt, lg_cmp_lt, lg_cmp_eq, true_and, and_true, true_or, or_true, true_implies, Classical.not_not, List.length_cons, List.length_nil, Nat.lt_iff_add_one_le, Nat.reduceAdd, Nat.reduceLeDiff, Nat.reduceEqDiff, Int.reduceAdd, reduceIte, Nat.reduceSub]
    simp only [hn, ni_le (a := k) (b := k) (by omega) (by omega)]
    exact ⟨fun _ => h x hx, fun q => absurd (Nat.le_refl k) q⟩
  | succ m ih =>
    intro k x hk hx
    refine mm_hk 60 ?_
    simp only [↓hX5_lastEnd, ↓uX5_lastEnd, ↓mm_r, mm_n, iaR, n10, not_true_eq_false, not_false_eq_true, false_implies, lg_cmp_ge, lg_cmp_le, lg_cmp_gt, lg_cmp_lt, lg_cmp_eq, true_and, and_true, true_or, or_true, true_implies, Classical.not_not, List.length_cons, List.length_nil, Nat.lt_iff_add_one_le, Nat.reduceAdd, Nat.reduceLeDiff, Nat.reduceEqDiff, Int.reduceAdd, reduceIte, Nat.reduceSub]
    simp only [hn, ni_le (a := n) (b := k) (by omega) (by omega), nI_1]
    refine ⟨fun q => absurd q (by omega), fun _ => ?_⟩
    refine sX5_endOf (by rw [ni_00 (by omega)]; trivial) (by rw [ni_l8 (by omega)]; omega) ?_
    rw [ni_cl (by omega)]
    refine ⟨fun q => ?_, fun q => ?_⟩
    · rw [lle, rE, hx] at q
      refine ih (k + 1) x (by omega) ?_
      rw [mxE]
      split
      · exact hx
      · omega
    · rw [lle, rE, hx] at q
      refine sX5_endOf (by rw [ni_00 (by omega)]; trivial) (by rw [ni_l8 (by omega)]; omega) ?_
      rw [ni_cl (by omega)]
      exact ih (k + 1) _ (by omega) (by rw [mxE, if_neg (by omega), rE])
set_option maxHeartbeats 4000000 in
set_option maxRecDepth 100000 in
theorem sX5_lastEnd {d : Nat} {I : mm_I} {L : mm_L} {Q : mm_Q} {n : Nat} (hn : I 0 0 = nI n) (h8 : n ≤ 8) (h1 : 0 < n) (hB : BD (sF (vR I)) (sE (vR I)) n) (h : ∀ r : Int64, r.toInt = mxE (sE (vR I)) n → Q I L 0 r) : mm_P shR msR (d + 2) 19 [.ref 0] I L Q := by
  refine pX5_lastEnd ?_
  simp only [↓hX5_lastEnd, ↓uX5_lastEnd, ↓mm_r, mm_n, iaR, n10, not_true_eq_false, not_false_eq_true, false_implies, lg_cmp_ge, lg_cmp_le, lg_cmp_gt, lg_cmp_lt, lg_cmp_eq, true_and, and_true, true_or, or_true, true_implies, Classical.not_not, List.length_cons, List.length_nil, Nat.lt_iff_add_one_le, Nat.reduceAdd, Nat.reduceLeDiff, Nat.reduceEqDiff, Int.reduceAdd, reduceIte, Nat.reduceSub]
  refine sX5_endOf (by decide) (by decide) ?_
  refine lX5_lastEnd hn h8 h (n - 1) 1 _ (by omega) ?_
  have := hB 0 h1
  rw [mxE, mxE, if_neg (by omega)]
  exact rE
set_option maxHeartbeats 4000000 in
set_option maxRecDepth 100000 in
theorem lX5_nextFrom {d : Nat} {I : mm_I} {L : mm_L} {Q : mm_Q} {n : Nat} {t : Int64} {M : Int} (hn : I 0 0 = nI n) (h8 : n ≤ 8) (h : ∀ r : Int64, r.toInt = gnl (sF (vR I)) t.toInt M n → Q I L 0 r) : ∀ (m k : Nat) (x : Int64), k + m = n → x.toInt = gnl (sF (vR I)) t.toInt M k → mm_W shR (mm_P shR msR d) tbX5_nextFrom Q 5 [.ref 0, .long t, .null, .long x, .null, .int (nI k)] [] I L := by
  intro m
  induction m with
  | zero =>
    intro k x hk hx
    have e1 : k = n := by omega
    subst e1
    refine mm_hk 60 ?_
    simp only [↓hX5_nextFrom, ↓uX5_nextFrom, ↓mm_r, mm_n, iaR, n10, not_true_eq_false, not_false_eq_true, false_implies, lg_cmp_ge, lg_cmp_le, lg_cmp_gt, lg_cmp_lt, lg_cmp_eq, true_and, and_true, true_or, or_true, true_implies, Classical.not_not, List.length_cons, List.length_nil, Nat.lt_iff_add_one_le, Nat.reduceAdd, Nat.reduceLeDiff, Nat.reduceEqDiff, Int.reduceAdd, reduceIte, Nat.reduceSub]
    simp only [hn, ni_le (a := k) (b := k) (by omega) (by omega)]
    exact ⟨fun _ => h x hx, fun q => absurd (Nat.le_refl k) q⟩
  | succ m ih =>
    intro k x hk hx
    refine mm_hk 60 ?_
    simp only [↓hX5_nextFrom, ↓uX5_nextFrom, ↓mm_r, mm_n, iaR, n10, not_true_eq_false, not_false_eq_true, false_implies, lg_cmp_ge, lg_cmp_le, lg_cmp_gt, lg_cmp_lt, lg_cmp_eq, true_and, and_true, true_or, or_true, true_implies, Classical.not_not, List.length_cons, List.length_nil, Nat.lt_iff_add_one_le, Nat.reduceAdd, Nat.reduceLeDiff, Nat.reduceEqDiff, Int.reduceAdd, reduceIte, Nat.reduceSub]
    simp only [hn, ni_le (a := n) (b := k) (by omega) (by omega), ni_cl (a := k) (by omega), nI_1]
    refine ⟨fun q => absurd q (by omega), fun _ => ⟨ni_in (by omega) (by omega), fun q => ?_, fun q => ⟨ni_in (by omega) (by omega), fun q2 => ?_, fun q2 => ⟨ni_in (by omega) (by omega), ?_⟩⟩⟩⟩
    · rw [lle, rF] at q
      exact ih (k + 1) x (by omega) (by rw [gnl, if_neg (by omega)]; exact hx)
    · rw [lle, rF] at q q2
      exact ih (k + 1) x (by omega) (by rw [gnl, if_neg (by omega)]; exact hx)
    · rw [lle, rF] at q q2
      exact ih (k + 1) _ (by omega) (by rw [gnl, if_pos ⟨by omega, by omega⟩, rF])
set_option maxHeartbeats 4000000 in
set_option maxRecDepth 100000 in
theorem lX5_toldTo2 {d : Nat} {I : mm_I} {L : mm_L} {Q : mm_Q} {n : Nat} {t : Int64} {z : Int} (hn : I 0 0 = nI n) (h8 : n ≤ 8) (hz : TP (sF (vR I)) (sE (vR I)) n t.toInt z)
    (h0 : ∀ x y : Int64, ∀ w, x.toInt = z → ¬ gcv (sF (vR I)) (sE (vR I)) n z → mm_W shR (mm_P shR msR (d + 1)) tbX5_toldTo Q 4 [.ref 0, .long t, .null, .long x, .null, .int 0, w] [] I L)
    (h1 : ∀ x : Int64, ∀ w, z < x.toInt → TP (sF (vR I)) (sE (vR I)) n t.toInt x.toInt → (∃ j, j < n ∧ sE (vR I) j = x.toInt) → mm_W shR (mm_P shR msR (d + 1)) tbX5_toldTo Q 4 [.ref 0, .long t, .null, .long x, .null, .int 1, w] [] I L) :
    ∀ (m k : Nat) (x : Int64) (f : Int32), k + m = n → ((f = 0 ∧ x.toInt = z ∧ ¬ gcv (sF (vR I)) (sE (vR I)) k z) ∨ (f = 1 ∧ z < x.toInt ∧ TP (sF (vR I)) (sE (vR I)) n t.toInt x.toInt ∧ (∃ j, j < n ∧ sE (vR I) j = x.toInt))) → mm_W shR (mm_P shR msR (d + 1)) tbX5_toldTo Q 10 [.ref 0, .long t, .null, .long x, .null, .int f, .int (nI k)] [] I L := by
  intro m
  induction m with
  | zero =>
    intro k x f hk hf
    have e1 : k = n := by omega
    subst e1
    refine mm_hk 60 ?_
    simp only [↓hX5_toldTo, ↓uX5_toldTo, ↓mm_r, mm_n, iaR, n10, not_true_eq_false, not_false_eq_true, false_implies, lg_cmp_ge, lg_cmp_le, lg_cmp_gt, lg_cmp_lt, lg_cmp_eq, true_and, and_true, true_or, or_true, true_implies, Classical.not_not, List.length_cons, List.length_nil, Nat.lt_iff_add_one_le, Nat.reduceAdd, Nat.reduceLeDiff, Nat.reduceEqDiff, Int.reduceAdd, reduceIte, Nat.reduceSub]
    simp only [hn, ni_le (a := k) (b := k) (by omega) (by omega)]
    refine ⟨fun _ => ?_, fun q => absurd (Nat.le_refl k) q⟩
    rcases hf with ⟨rfl, f1, f2⟩ | ⟨rfl, f1, f2, f3⟩
    · exact h0 x x _ f1 f2
    · exact h1 x _ f1 f2 f3
  | succ m ih =>
    intro k x f hk hf
    refine mm_hk 60 ?_
    simp only [↓hX5_toldTo, ↓uX5_toldTo, ↓mm_r, mm_n, iaR, n10, not_true_eq_false, not_false_eq_true, false_implies, lg_cmp_ge, lg_cmp_le, lg_cmp_gt, lg_cmp_lt, lg_cmp_eq, true_and, and_true, true_or, or_true, true_implies, Classical.not_not, List.length_cons, List.length_nil, Nat.lt_iff_add_one_le, Nat.reduceAdd, Nat.reduceLeDiff, Nat.reduceEqDiff, Int.reduceAdd, reduceIte, Nat.reduceSub]
    simp only [hn, ni_le (a := n) (b := k) (by omega) (by omega), ni_cl (a := k) (by omega), nI_1]
    have same : ¬ (sF (vR I) k ≤ x.toInt ∧ x.toInt < sE (vR I) k) → mm_W shR (mm_P shR msR (d + 1)) tbX5_toldTo Q 10 [.ref 0, .long t, .null, .long x, .null, .int f, .int (nI (k + 1))] [] I L := by
      intro hno
      refine ih (k + 1) x f (by omega) ?_
      rcases hf with ⟨f0, f1, f2⟩ | ⟨f0, f1, f2, f3⟩
      · refine Or.inl ⟨f0, f1, ?_⟩
        rintro ⟨j, j1, j2, j3⟩
        by_cases e : j = k
        · subst e
          exact hno ⟨by omega, by omega⟩
        · exact f2 ⟨j, by omega, j2, j3⟩
      · exact Or.inr ⟨f0, f1, f2, f3⟩
    refine ⟨fun q => absurd q (by omega), fun _ => ⟨ni_in (by omega) (by omega), fun q => ?_, fun q => ?_⟩⟩
    · rw [llt, rF] at q
      exact same (fun z => by omega)
    · rw [llt, rF] at q
      refine sX5_endOf (by rw [ni_00 (by omega)]; trivial) (by rw [ni_l8 (by omega)]; omega) ?_
      rw [ni_cl (by omega)]
      refine ⟨fun q2 => ?_, fun q2 => ?_⟩
      · rw [lle, rE] at q2
        exact same (fun z => by omega)
      · rw [lle, rE] at q2
        refine sX5_endOf (by rw [ni_00 (by omega)]; trivial) (by rw [ni_l8 (by omega)]; omega) ?_
        rw [ni_cl (by omega)]
        have hx : TP (sF (vR I)) (sE (vR I)) n t.toInt x.toInt ∧ z ≤ x.toInt := by
          rcases hf with ⟨f0, f1, f2⟩ | ⟨f0, f1, f2, f3⟩
          · rw [f1]
            exact ⟨hz, Int.le_refl _⟩
          · exact ⟨f2, by omega⟩
        refine ih (k + 1) _ 1 (by omega) (Or.inr ⟨rfl, by rw [rE]; omega, ⟨by rw [rE]; have := hx.1.1; omega, fun y y1 y2 => ?_, Or.inr ⟨k, by omega, rE.symm⟩⟩, ⟨k, by omega, rE.symm⟩⟩)
        rw [rE] at y2
        by_cases e : y < x.toInt
        · exact hx.1.2.1 y y1 e
        · exact ⟨k, by omega, by omega, by omega⟩
set_option maxHeartbeats 4000000 in
set_option maxRecDepth 100000 in
theorem lX5_toldTo {d : Nat} {I : mm_I} {L : mm_L} {Q : mm_Q} {n : Nat} {t : Int64} (hn : I 0 0 = nI n) (h8 : n ≤ 8) (h : ∀ r : Int64, TP (sF (vR I)) (sE (vR I)) n t.toInt r.toInt → ¬ gcv (sF (vR I)) (sE (vR I)) n r.toInt → Q I L 0 r) :
    ∀ (f : Nat) (x : Int64) (w : Value), gct (sE (vR I)) x.toInt n < f → TP (sF (vR I)) (sE (vR I)) n t.toInt x.toInt → mm_W shR (mm_P shR msR (d + 1)) tbX5_toldTo Q 4 [.ref 0, .long t, .null, .long x, .null, .int 1, w] [] I L := by
  intro f
  induction f with
  | zero => intro x w hf; exact absurd hf (by omega)
  | succ f ih =>
    intro x w hf hT
    refine mm_hk 60 ?_
    simp only [↓hX5_toldTo, ↓uX5_toldTo, ↓mm_r, mm_n, iaR, n10, not_true_eq_false, not_false_eq_true, false_implies, lg_cmp_ge, lg_cmp_le, lg_cmp_gt, lg_cmp_lt, lg_cmp_eq, true_and, and_true, true_or, or_true, true_implies, Classical.not_not, List.length_cons, List.length_nil, Nat.lt_iff_add_one_le, Nat.reduceAdd, Nat.reduceLeDiff, Nat.reduceEqDiff, Int.reduceAdd, reduceIte, Nat.reduceSub]
    refine lX5_toldTo2 (z := x.toInt) hn h8 hT (fun y _ w hy hu => ?_) (fun y w y1 y2 y3 => ?_) n 0 x 0 (by omega) (Or.inl ⟨rfl, rfl, fun ⟨j, j1, _⟩ => absurd j1 (by omega)⟩)
    · refine mm_hk 60 ?_
      simp only [↓hX5_toldTo, ↓uX5_toldTo, ↓mm_r, mm_n, iaR, n10, not_true_eq_false, not_false_eq_true, false_implies, lg_cmp_ge, lg_cmp_le, lg_cmp_gt, lg_cmp_lt, lg_cmp_eq, true_and, and_true, true_or, or_true, true_implies, Classical.not_not, List.length_cons, List.length_nil, Nat.lt_iff_add_one_le, Nat.reduceAdd, Nat.reduceLeDiff, Nat.reduceEqDiff, Int.reduceAdd, reduceIte, Nat.reduceSub]
      exact h y (by rw [hy]; exact hT) (by rw [hy]; exact hu)
    · refine ih y w ?_ y2
      have := gct_lt y1 n y3
      omega
set_option maxHeartbeats 4000000 in
set_option maxRecDepth 100000 in
theorem sX5_toldTo {d : Nat} {I : mm_I} {L : mm_L} {Q : mm_Q} {n : Nat} {t : Int64} (hn : I 0 0 = nI n) (h8 : n ≤ 8) (h : ∀ r : Int64, TP (sF (vR I)) (sE (vR I)) n t.toInt r.toInt → ¬ gcv (sF (vR I)) (sE (vR I)) n r.toInt → Q I L 0 r) : mm_P shR msR (d + 2) 21 [.ref 0, .long t] I L Q := by
  refine pX5_toldTo ?_
  simp only [↓hX5_toldTo, ↓uX5_toldTo, ↓mm_r, mm_n, iaR, n10, not_true_eq_false, not_false_eq_true, false_implies, lg_cmp_ge, lg_cmp_le, lg_cmp_gt, lg_cmp_lt, lg_cmp_eq, true_and, and_true, true_or, or_true, true_implies, Classical.not_not, List.length_cons, List.length_nil, Nat.lt_iff_add_one_le, Nat.reduceAdd, Nat.reduceLeDiff, Nat.reduceEqDiff, Int.reduceAdd, reduceIte, Nat.reduceSub]
  exact lX5_toldTo hn h8 h (gct (sE (vR I)) t.toInt n + 1) t _ (by omega) ⟨Int.le_refl _, fun y y1 y2 => absurd y1 (by omega), Or.inl rfl⟩
set_option maxHeartbeats 4000000 in
set_option maxRecDepth 100000 in
theorem lX5_gaps {d : Nat} {I : mm_I} {L : mm_L} {Q : mm_Q} {n : Nat} (hn : I 0 0 = nI n) (h8 : n ≤ 8) (hp : 0 < n) (hB : BD (sF (vR I)) (sE (vR I)) n) (h : ∀ r : Int64, r.toInt = gS (sF (vR I)) (sE (vR I)) n n → Q I L 0 r) :
    ∀ (f : Nat) (s t : Int64) (w1 w2 : Value), gct (sE (vR I)) t.toInt n < f → ¬ gcv (sF (vR I)) (sE (vR I)) n t.toInt → (∃ j, j < n ∧ sE (vR I) j = t.toInt) → 0 ≤ s.toInt → s.toInt ≤ 2147483647 + 2147483648 + t.toInt → s.toInt + gT (sF (vR I)) (sE (vR I)) n t.toInt n = gS (sF (vR I)) (sE (vR I)) n n → mm_W shR (mm_P shR msR (d + 3)) tbX5_gaps Q 7 [.ref 0, .long s, .null, .long t, .null, w1, w2] [] I L := by
  intro f
  induction f with
  | zero => intro s t w1 w2 hf; exact absurd hf (by omega)
  | succ f ih =>
    intro s t w1 w2 hf hu he hs0 hs1 hs
    obtain ⟨j, j1, j2⟩ := id he
    have hj := hB j j1
    refine mm_hk 60 ?_
    simp only [↓hX5_gaps, ↓uX5_gaps, ↓mm_r, mm_n, iaR, n10, not_true_eq_false, not_false_eq_true, false_implies, lg_cmp_ge, lg_cmp_le, lg_cmp_gt, lg_cmp_lt, lg_cmp_eq, true_and, and_true, true_or, or_true, true_implies, Classical.not_not, List.length_cons, List.length_nil, Nat.lt_iff_add_one_le, Nat.reduceAdd, Nat.reduceLeDiff, Nat.reduceEqDiff, Int.reduceAdd, reduceIte, Nat.reduceSub]
    refine sX5_lastEnd hn h8 hp hB (fun r hr => ⟨fun q => ?_, fun q => ?_⟩)
    · rw [lle, hr] at q
      refine h s ?_
      rw [g_end hB hp q] at hs
      omega
    · rw [lle, hr] at q
      refine pX5_nextFrom ?_
      simp only [↓hX5_nextFrom, ↓uX5_nextFrom, ↓mm_r, mm_n, iaR, n10, not_true_eq_false, not_false_eq_true, false_implies, lg_cmp_ge, lg_cmp_le, lg_cmp_gt, lg_cmp_lt, lg_cmp_eq, true_and, and_true, true_or, or_true, true_implies, Classical.not_not, List.length_cons, List.length_nil, Nat.lt_iff_add_one_le, Nat.reduceAdd, Nat.reduceLeDiff, Nat.reduceEqDiff, Int.reduceAdd, reduceIte, Nat.reduceSub]
      refine sX5_lastEnd hn h8 hp hB (fun M hM => ?_)
      refine lX5_nextFrom (M := M.toInt) hn h8 (fun x hx => ?_) n 0 M (by omega) rfl
      rw [hM, gnl_x hB hp hu (by omega)] at hx
      refine sX5_toldTo hn h8 (fun y y1 y2 => ?_)
      rw [hx] at y1
      obtain ⟨b1, b2, b3, b4, b5⟩ := g_step hB hp hu he (by omega) y1 y2
      have hd : (x - t).toInt = gnx (sF (vR I)) t.toInt n - t.toInt := by
        rw [i64s (by rw [hx]; omega) (by rw [hx]; omega), hx]
      have hd2 : (s + (x - t)).toInt = s.toInt + (gnx (sF (vR I)) t.toInt n - t.toInt) := by
        rw [i64a (by rw [hd]; omega) (by rw [hd]; omega), hd]
      have hy := y1.1
      refine ih _ y _ _ ?_ y2 b4 (by rw [hd2]; omega) (by rw [hd2]; omega) (by rw [hd2]; omega)
      have := gct_lt b3 n b4
      omega
set_option maxHeartbeats 4000000 in
set_option maxRecDepth 100000 in
theorem kX5_span {d : Nat} {I : mm_I} {L : mm_L} {a : Int32} (hv : vok (vR I)) : mm_P shR msR (d + 5) 23 [.ref 0, .int a] I L (fun I' _ _ rl => (vR I', rl) = q_span (vR I) a) := by
  have hB := vok_BD hv
  obtain ⟨n, ns, hn, h8, -⟩ := id hv
  have hn : I 0 0 = nI n := hn
  have hc : (v_n (vR I)).toNatClampNeg = n := by show (I 0 0).toNatClampNeg = n; rw [hn, ni_cl (by omega)]
  rw [hc] at hB
  refine pX5_span ?_
  simp only [↓uX5_span, ↓mm_r, mm_n, iaR, n10, not_true_eq_false, not_false_eq_true, false_implies, lg_cmp_ge, lg_cmp_le, lg_cmp_gt, lg_cmp_lt, lg_cmp_eq, true_and, and_true, true_or, or_true, true_implies, Classical.not_not, List.length_cons, List.length_nil, Nat.lt_iff_add_one_le, Nat.reduceAdd, Nat.reduceLeDiff, Nat.reduceEqDiff, Int.reduceAdd, reduceIte, Nat.reduceSub]
  unfold q_span
  rw [hc]
  have hz : (I 0 0 = 0) = (n = 0) := by rw [hn, nl0, ni_eq (by omega) (by omega)]
  refine sX5_within (fun w1 w2 => ?_) (fun w => ?_)
  · simp only [n10, not_false_eq_true, false_implies, true_implies, true_and, and_true, not_true_eq_false]
    rw [hz]
    refine ⟨fun q => ?_, fun q => by rw [if_pos (Or.inr (Or.inr q))]⟩
    rw [if_neg (fun z => by
      rcases z with z | z | z
      · grind
      · grind
      · exact q z)]
    refine ⟨fun z => ?_, fun z => ?_⟩
    · rw [if_neg z]
      refine pX5_gaps ?_
      simp only [↓hX5_gaps, ↓uX5_gaps, ↓mm_r, mm_n, iaR, n10, not_true_eq_false, not_false_eq_true, false_implies, lg_cmp_ge, lg_cmp_le, lg_cmp_gt, lg_cmp_lt, lg_cmp_eq, true_and, and_true, true_or, or_true, true_implies, Classical.not_not, List.length_cons, List.length_nil, Nat.lt_iff_add_one_le, Nat.reduceAdd, Nat.reduceLeDiff, Nat.reduceEqDiff, Int.reduceAdd, reduceIte, Nat.reduceSub]
      refine sX5_firstFrom hn h8 (by omega) hB (fun r hr => ?_)
      refine sX5_toldTo hn h8 (fun t t1 t2 => ?_)
      rw [hr] at t1
      obtain ⟨s1, s2⟩ := g_start hB (by omega) t1 t2
      obtain ⟨j, j1, j2⟩ := id s1
      have hj := hB j j1
      exact lX5_gaps (d := d) hn h8 (by omega) hB (fun r hr => by rw [lof hr]) _ 0 t _ _ (Nat.lt_succ_self _) t2 s1 (by rw [lz]; exact Int.le_refl _) (by rw [lz]; omega) (by rw [lz, s2]; omega)
    · rw [if_pos z]
      obtain ⟨⟨j, j1, j2⟩, -⟩ := mnF_p hB n (Nat.le_refl n) (by omega)
      obtain ⟨⟨i, i1, i2⟩, -⟩ := mxE_p hB n (Nat.le_refl n) (by omega)
      have a1 := hB j j1
      have a2 := hB i i1
      refine sX5_lastEnd hn h8 (by omega) hB (fun r hr => ?_)
      refine sX5_firstFrom hn h8 (by omega) hB (fun r2 hr2 => ?_)
      rw [lof (x := r - r2) (y := mxE (sE (vR I)) n - mnF (sF (vR I)) n) (by rw [i64s (by rw [hr, hr2]; omega) (by rw [hr, hr2]; omega), hr, hr2])]
  · simp only [n10, not_false_eq_true, false_implies, true_implies, true_and, and_true, not_true_eq_false]
    rw [if_pos (by grind)]
