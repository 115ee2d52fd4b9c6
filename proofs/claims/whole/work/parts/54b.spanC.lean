/-! ===== span, on both sides ===== -/
theorem lle {x y : Int64} : (x ≤ y) = (x.toInt ≤ y.toInt) := propext Int64.le_iff_toInt_le
theorem llt {x y : Int64} : (x < y) = (x.toInt < y.toInt) := propext Int64.lt_iff_toInt_lt
theorem leq {x y : Int64} : (x = y) = (x.toInt = y.toInt) := propext Int64.toInt_inj.symm
theorem lmx : (9223372036854775807 : Int64).toInt = 9223372036854775807 := by decide +kernel
theorem lmn : (-9223372036854775808 : Int64).toInt = -9223372036854775808 := by decide +kernel
theorem lz : (0 : Int64).toInt = 0 := by decide +kernel
theorem lof {x : Int64} {y : Int} (h : x.toInt = y) : x = Int64.ofInt y := by rw [← h, Int64.ofInt_toInt]
theorem cF {I : mm_I} {k : Nat} : (I 2 k).toInt64.toInt = sF (vC I) k := i32l _
theorem cE {I : mm_I} {k : Nat} : (pe (I 2) (I 3) k).toInt = sE (vC I) k := pe_i _ _ _
theorem rF {I : mm_I} {k : Nat} : (I 1 k).toInt64.toInt = sF (vR I) k := i32l _
theorem rE {I : mm_I} {k : Nat} : (pe (I 1) (I 2) k).toInt = sE (vR I) k := pe_i _ _ _
set_option maxHeartbeats 4000000 in
set_option maxRecDepth 100000 in
theorem lX0_extent {d : Nat} {I : mm_I} {L : mm_L} {Q : mm_Q} {n : Nat} (hn : I 1 4 = nI n) (h8 : n ≤ 8) (h1 : 0 < n) (hB : BD (sF (vC I)) (sE (vC I)) n) (h : ∀ r : Int64, r.toInt = mxE (sE (vC I)) n - mnF (sF (vC I)) n → Q I L 0 r) : ∀ (m k : Nat) (x y : Int64), k + m = n → x.toInt = mnF (sF (vC I)) k → y.toInt = mxE (sE (vC I)) k → mm_W shC (mm_P shC msC (d + 1)) tbX0_extent Q 6 [.ref 1, .long x, .null, .long y, .null, .int (nI k)] [] I L := by
  intro m
  induction m with
  | zero =>
    intro k x y hk hx hy
    have e1 : k = n := by omega
    subst e1
    refine mm_hk 60 ?_
    simp only [↓hX0_extent, ↓uX0_extent, ↓mm_r, mm_n, iaC, n10, not_true_eq_false, not_false_eq_true, false_implies, lg_cmp_ge, lg_cmp_le, lg_cmp_gt, lg_cmp_lt, lg_cmp_eq, true_and, and_true, true_or, or_true, true_implies, Classical.not_not, List.length_cons, List.length_nil, Nat.lt_iff_add_one_le, Nat.reduceAdd, Nat.reduceLeDiff, Nat.reduceEqDiff, Int.reduceAdd, reduceIte, Nat.reduceSub]
    simp only [hn, ni_le (a := k) (b := k) (by omega) (by omega)]
    refine ⟨fun _ => ⟨fun q => ?_, fun _ => h _ ?_⟩, fun q => absurd (Nat.le_refl k) q⟩
    · exfalso
      rw [nl0, ni_le (by omega) (by omega)] at q
      omega
    · obtain ⟨⟨j, j1, j2⟩, -⟩ := mnF_p hB k (Nat.le_refl k) h1
      obtain ⟨⟨i, i1, i2⟩, -⟩ := mxE_p hB k (Nat.le_refl k) h1
      have a := hB j j1
      have b := hB i i1
      rw [i64s (by rw [hx, hy]; omega) (by rw [hx, hy]; omega), hx, hy]
  | succ m ih =>
    intro k x y hk hx hy
    refine mm_hk 60 ?_
    simp only [↓hX0_extent, ↓uX0_extent, ↓mm_r, mm_n, iaC, n10, not_true_eq_false, not_false_eq_true, false_implies, lg_cmp_ge, lg_cmp_le, lg_cmp_gt, lg_cmp_lt, lg_cmp_eq, true_and, and_true, true_or, or_true, true_implies, Classical.not_not, List.length_cons, List.length_nil, Nat.lt_iff_add_one_le, Nat.reduceAdd, Nat.reduceLeDiff, Nat.reduceEqDiff, Int.reduceAdd, reduceIte, Nat.reduceSub]
    simp only [hn, ni_le (a := n) (b := k) (by omega) (by omega), ni_8 (a := k) (by omega), ni_cl (a := k) (by omega), nI_1]
    refine ⟨fun q => absurd q (by omega), fun _ => ⟨fun q => absurd q (by omega), fun _ => ⟨ni_in (by omega) (by omega), ?_⟩⟩⟩
    refine sX0_endOf (by rw [ni_00 (by omega)]; trivial) (by rw [ni_l8 (by omega)]; omega) ?_
    rw [ni_cl (by omega)]
    refine ih (k + 1) _ _ (by omega) ?_ ?_
    · rw [mnF, ← hx, ← cF]
      by_cases q : (I 2 k).toInt64 < x
      · rw [if_pos q, if_pos (by rw [llt] at q; exact q)]
      · rw [if_neg q, if_neg (by rw [llt] at q; exact q)]
    · rw [mxE, ← hy, ← cE]
      by_cases q : pe (I 2) (I 3) k < y
      · rw [if_pos q, if_pos (by rw [llt] at q; exact q)]
      · rw [if_neg q, if_neg (by rw [llt] at q; exact q)]
set_option maxHeartbeats 4000000 in
set_option maxRecDepth 100000 in
theorem lX0_gapBehind {d : Nat} {I : mm_I} {L : mm_L} {Q : mm_Q} {n : Nat} {t : Int64} (hn : I 1 4 = nI n) (h8 : n ≤ 8) (hB : BD (sF (vC I)) (sE (vC I)) n) (ht : -2147483648 ≤ t.toInt ∧ t.toInt ≤ 2147483647) (h : ∀ r : Int64, r.toInt = gap (sF (vC I)) (sE (vC I)) n t.toInt → Q I L 0 r) : ∀ (m k : Nat) (y : Int64), k + m = n → y.toInt = gnx (sF (vC I)) t.toInt k → ¬ gcv (sF (vC I)) (sE (vC I)) k t.toInt → mm_W shC (mm_P shC msC (d + 1)) tbX0_gapBehind Q 4 [.ref 1, .long t, .null, .long y, .null, .int (nI k)] [] I L := by
  intro m
  induction m with
  | zero =>
    intro k y hk hy hu
    have e1 : k = n := by omega
    subst e1
    refine mm_hk 60 ?_
    simp only [↓hX0_gapBehind, ↓uX0_gapBehind, ↓mm_r, mm_n, iaC, n10, not_true_eq_false, not_false_eq_true, false_implies, lg_cmp_ge, lg_cmp_le, lg_cmp_gt, lg_cmp_lt, lg_cmp_eq, true_and, and_true, true_or, or_true, true_implies, Classical.not_not, List.length_cons, List.length_nil, Nat.lt_iff_add_one_le, Nat.reduceAdd, Nat.reduceLeDiff, Nat.reduceEqDiff, Int.reduceAdd, reduceIte, Nat.reduceSub]
    simp only [hn, ni_le (a := k) (b := k) (by omega) (by omega)]
    refine ⟨fun _ => ⟨fun q => h _ ?_, fun q => h _ ?_⟩, fun q => absurd (Nat.le_refl k) q⟩
    · rw [leq, lmx, hy] at q
      rcases gnx_p (t := t.toInt) hB k (Nat.le_refl k) with ⟨a1, a2⟩ | ⟨⟨j, j1, j2, j3⟩, a2⟩
      · exact absurd a1 q
      · have := hB j j1
        rw [i64s (by rw [hy]; omega) (by rw [hy]; omega), hy, gap, if_neg hu, if_neg q]
    · rw [leq, lmx, hy] at q
      rw [lz, gap, if_neg hu, if_pos q]
  | succ m ih =>
    intro k y hk hy hu
    refine mm_hk 60 ?_
    simp only [↓hX0_gapBehind, ↓uX0_gapBehind, ↓mm_r, mm_n, iaC, n10, not_true_eq_false, not_false_eq_true, false_implies, lg_cmp_ge, lg_cmp_le, lg_cmp_gt, lg_cmp_lt, lg_cmp_eq, true_and, and_true, true_or, or_true, true_implies, Classical.not_not, List.length_cons, List.length_nil, Nat.lt_iff_add_one_le, Nat.reduceAdd, Nat.reduceLeDiff, Nat.reduceEqDiff, Int.reduceAdd, reduceIte, Nat.reduceSub]
    simp only [hn, ni_le (a := n) (b := k) (by omega) (by omega), ni_8 (a := k) (by omega), ni_cl (a := k) (by omega), nI_1]
    refine ⟨fun q => absurd q (by omega), fun _ => ⟨fun q => absurd q (by omega), fun _ => ⟨ni_in (by omega) (by omega), fun q => ?_, fun q => ⟨ni_in (by omega) (by omega), ?_⟩⟩⟩⟩
    · rw [lle, cF] at q
      refine sX0_endOf (by rw [ni_00 (by omega)]; trivial) (by rw [ni_l8 (by omega)]; omega) ?_
      rw [ni_cl (by omega)]
      refine ⟨fun q2 => ?_, fun q2 => h _ ?_⟩
      · rw [lle, cE] at q2
        refine ih (k + 1) y (by omega) (by rw [gnx, if_neg (by omega)]; exact hy) ?_
        rintro ⟨j, j1, j2, j3⟩
        by_cases e : j = k
        · subst e; omega
        · exact hu ⟨j, by omega, j2, j3⟩
      · rw [lle, cE] at q2
        rw [lz, gap, if_pos ⟨k, by omega, q, by omega⟩]
    · rw [lle, cF] at q
      refine ih (k + 1) _ (by omega) ?_ ?_
      · rw [gnx, if_pos (show t.toInt < sF (vC I) k by omega), ← hy, ← cF]
        by_cases q2 : (I 2 k).toInt64 < y
        · rw [if_pos q2, if_pos (by rw [llt] at q2; exact q2)]
        · rw [if_neg q2, if_neg (by rw [llt] at q2; exact q2)]
      · rintro ⟨j, j1, j2, j3⟩
        by_cases e : j = k
        · subst e; omega
        · exact hu ⟨j, by omega, j2, j3⟩
set_option maxHeartbeats 4000000 in
set_option maxRecDepth 100000 in
theorem lX0_isFirstToEnd {d : Nat} {I : mm_I} {L : mm_L} {Q : mm_Q} {k : Nat} (hk : k < 8) (h1 : gfs (sE (vC I)) k → Q I L 1 0) (h0 : ¬ gfs (sE (vC I)) k → Q I L 0 0) : ∀ (m j : Nat), j + m = k → (∀ i, i < j → ¬ sE (vC I) i = sE (vC I) k) → mm_W shC (mm_P shC msC (d + 1)) tbX0_isFirstToEnd Q 2 [.ref 1, .int (nI k), .int (nI j)] [] I L := by
  intro m
  induction m with
  | zero =>
    intro j hj hi
    have e1 : j = k := by omega
    subst e1
    refine mm_hk 60 ?_
    simp only [↓hX0_isFirstToEnd, ↓uX0_isFirstToEnd, ↓mm_r, mm_n, iaC, n10, not_true_eq_false, not_false_eq_true, false_implies, lg_cmp_ge, lg_cmp_le, lg_cmp_gt, lg_cmp_lt, lg_cmp_eq, true_and, and_true, true_or, or_true, true_implies, Classical.not_not, List.length_cons, List.length_nil, Nat.lt_iff_add_one_le, Nat.reduceAdd, Nat.reduceLeDiff, Nat.reduceEqDiff, Int.reduceAdd, reduceIte, Nat.reduceSub]
    simp only [ni_le (a := j) (b := j) (by omega) (by omega)]
    exact ⟨fun _ => h1 hi, fun q => absurd (Nat.le_refl j) q⟩
  | succ m ih =>
    intro j hj hi
    refine mm_hk 60 ?_
    simp only [↓hX0_isFirstToEnd, ↓uX0_isFirstToEnd, ↓mm_r, mm_n, iaC, n10, not_true_eq_false, not_false_eq_true, false_implies, lg_cmp_ge, lg_cmp_le, lg_cmp_gt, lg_cmp_lt, lg_cmp_eq, true_and, and_true, true_or, or_true, true_implies, Classical.not_not, List.length_cons, List.length_nil, Nat.lt_iff_add_one_le, Nat.reduceAdd, Nat.reduceLeDiff, Nat.reduceEqDiff, Int.reduceAdd, reduceIte, Nat.reduceSub]
    simp only [ni_le (a := k) (b := j) (by omega) (by omega), nI_1]
    refine ⟨fun q => absurd q (by omega), fun _ => ?_⟩
    refine sX0_endOf (by rw [ni_00 (by omega)]; trivial) (by rw [ni_l8 (by omega)]; omega) ?_
    refine sX0_endOf (by rw [ni_00 (by omega)]; trivial) (by rw [ni_l8 (by omega)]; omega) ?_
    rw [ni_cl (by omega), ni_cl (by omega)]
    refine ⟨fun q => ?_, fun q => ?_⟩
    · rw [leq, cE, cE] at q
      refine ih (j + 1) (by omega) (fun i hi2 => ?_)
      by_cases e : i = j
      · subst e; exact q
      · exact hi i (by omega)
    · rw [leq, cE, cE] at q
      exact h0 (fun z => z j (by omega) q)
set_option maxHeartbeats 4000000 in
set_option maxRecDepth 100000 in
theorem lX0_untold {d : Nat} {I : mm_I} {L : mm_L} {Q : mm_Q} {n : Nat} (hn : I 1 4 = nI n) (h8 : n ≤ 8) (hB : BD (sF (vC I)) (sE (vC I)) n) (h : ∀ r : Int64, r.toInt = gS (sF (vC I)) (sE (vC I)) n n → Q I L 0 r) : ∀ (m k : Nat) (x : Int64), k + m = n → x.toInt = gS (sF (vC I)) (sE (vC I)) n k → mm_W shC (mm_P shC msC (d + 2)) tbX0_untold Q 4 [.ref 1, .long x, .null, .int (nI k)] [] I L := by
  intro m
  induction m with
  | zero =>
    intro k x hk hx
    have e1 : k = n := by omega
    subst e1
    refine mm_hk 60 ?_
    simp only [↓hX0_untold, ↓uX0_untold, ↓mm_r, mm_n, iaC, n10, not_true_eq_false, not_false_eq_true, false_implies, lg_cmp_ge, lg_cmp_le, lg_cmp_gt, lg_cmp_lt, lg_cmp_eq, true_and, and_true, true_or, or_true, true_implies, Classical.not_not, List.length_cons, List.length_nil, Nat.lt_iff_add_one_le, Nat.reduceAdd, Nat.reduceLeDiff, Nat.reduceEqDiff, Int.reduceAdd, reduceIte, Nat.reduceSub]
    simp only [hn, ni_le (a := k) (b := k) (by omega) (by omega)]
    exact ⟨fun _ => h x hx, fun q => absurd (Nat.le_refl k) q⟩
  | succ m ih =>
    intro k x hk hx
    have hb := hB k (by omega)
    have b1 := gS_b hB k (by omega)
    have b2 := gap_b (t := sE (vC I) k) hB (by omega)
    refine mm_hk 60 ?_
    simp only [↓hX0_untold, ↓uX0_untold, ↓mm_r, mm_n, iaC, n10, not_true_eq_false, not_false_eq_true, false_implies, lg_cmp_ge, lg_cmp_le, lg_cmp_gt, lg_cmp_lt, lg_cmp_eq, true_and, and_true, true_or, or_true, true_implies, Classical.not_not, List.length_cons, List.length_nil, Nat.lt_iff_add_one_le, Nat.reduceAdd, Nat.reduceLeDiff, Nat.reduceEqDiff, Int.reduceAdd, reduceIte, Nat.reduceSub]
    simp only [hn, ni_le (a := n) (b := k) (by omega) (by omega), nI_1]
    refine ⟨fun q => absurd q (by omega), fun _ => ?_⟩
    refine pX0_isFirstToEnd ?_
    simp only [↓hX0_isFirstToEnd, ↓uX0_isFirstToEnd, ↓mm_r, mm_n, iaC, n10, not_true_eq_false, not_false_eq_true, false_implies, lg_cmp_ge, lg_cmp_le, lg_cmp_gt, lg_cmp_lt, lg_cmp_eq, true_and, and_true, true_or, or_true, true_implies, Classical.not_not, List.length_cons, List.length_nil, Nat.lt_iff_add_one_le, Nat.reduceAdd, Nat.reduceLeDiff, Nat.reduceEqDiff, Int.reduceAdd, reduceIte, Nat.reduceSub]
    refine lX0_isFirstToEnd (by omega) (fun g => ?_) (fun g => ?_) k 0 (by omega) (fun i hi => absurd hi (by omega))
    · simp only [n10, not_false_eq_true, false_implies, true_implies, true_and, and_true, not_true_eq_false]
      refine sX0_endOf (by rw [ni_00 (by omega)]; trivial) (by rw [ni_l8 (by omega)]; omega) ?_
      rw [ni_cl (by omega)]
      refine pX0_gapBehind ?_
      simp only [↓hX0_gapBehind, ↓uX0_gapBehind, ↓mm_r, mm_n, iaC, n10, not_true_eq_false, not_false_eq_true, false_implies, lg_cmp_ge, lg_cmp_le, lg_cmp_gt, lg_cmp_lt, lg_cmp_eq, true_and, and_true, true_or, or_true, true_implies, Classical.not_not, List.length_cons, List.length_nil, Nat.lt_iff_add_one_le, Nat.reduceAdd, Nat.reduceLeDiff, Nat.reduceEqDiff, Int.reduceAdd, reduceIte, Nat.reduceSub]
      refine lX0_gapBehind hn h8 hB (by rw [cE]; omega) (fun r hr => ?_) n 0 _ (by omega) lmx (fun ⟨j, j1, _⟩ => absurd j1 (by omega))
      rw [cE] at hr
      refine ih (k + 1) _ (by omega) ?_
      rw [i64a (by rw [hx, hr]; omega) (by rw [hx, hr]; omega), hx, hr, gS, if_pos g]
    · simp only [n10, not_false_eq_true, false_implies, true_implies, true_and, and_true, not_true_eq_false]
      exact ih (k + 1) x (by omega) (by rw [gS, if_neg g]; exact hx)
set_option maxHeartbeats 4000000 in
set_option maxRecDepth 100000 in
theorem kX4_span {d : Nat} {I : mm_I} {L : mm_L} {a : Int32} (hv : vok (vC I)) : mm_P shC msC (d + 4) 46 [.ref 0, .int a] I L (fun I' L' _ rl => (vC I', rl) = q_span (vC I) a ∧ kc I L I' L') := by
  have hB := vok_BD hv
  obtain ⟨n, ns, hn, h8, -⟩ := id hv
  have hn : I 1 4 = nI n := hn
  have hc : (v_n (vC I)).toNatClampNeg = n := by show (I 1 4).toNatClampNeg = n; rw [hn, ni_cl (by omega)]
  rw [hc] at hB
  refine pX4_span ?_
  simp only [↓uX4_span, ↓mm_r, mm_n, iaC, n10, not_true_eq_false, not_false_eq_true, false_implies, lg_cmp_ge, lg_cmp_le, lg_cmp_gt, lg_cmp_lt, lg_cmp_eq, true_and, and_true, true_or, or_true, true_implies, Classical.not_not, List.length_cons, List.length_nil, Nat.lt_iff_add_one_le, Nat.reduceAdd, Nat.reduceLeDiff, Nat.reduceEqDiff, Int.reduceAdd, reduceIte, Nat.reduceSub]
  unfold q_span
  rw [hc]
  have hz : (0 < I 1 4) = (0 < n) := by rw [hn, nl0, ni_lt (by omega) (by omega)]
  rw [hz]
  refine ⟨fun q => ⟨by rw [if_pos (Or.inl q)], kcs⟩, fun q => ⟨fun q2 => ⟨by rw [if_pos (Or.inr (Or.inl q2))], kcs⟩, fun q2 => ⟨fun q3 => ?_, fun q3 => ⟨by rw [if_pos (Or.inr (Or.inr (by omega)))], kcs⟩⟩⟩⟩
  rw [if_neg (fun z => by
    rcases z with z | z | z
    · exact q z
    · exact q2 z
    · omega)]
  refine ⟨fun z => ?_, fun z => ?_⟩
  · rw [if_neg z]
    refine pX0_untold ?_
    simp only [↓hX0_untold, ↓uX0_untold, ↓mm_r, mm_n, iaC, n10, not_true_eq_false, not_false_eq_true, false_implies, lg_cmp_ge, lg_cmp_le, lg_cmp_gt, lg_cmp_lt, lg_cmp_eq, true_and, and_true, true_or, or_true, true_implies, Classical.not_not, List.length_cons, List.length_nil, Nat.lt_iff_add_one_le, Nat.reduceAdd, Nat.reduceLeDiff, Nat.reduceEqDiff, Int.reduceAdd, reduceIte, Nat.reduceSub]
    exact lX0_untold (d := d) hn h8 hB (fun r hr => ⟨by rw [lof hr], kcs⟩) n 0 0 (by omega) lz
  · rw [if_pos z]
    refine pX0_extent ?_
    simp only [↓hX0_extent, ↓uX0_extent, ↓mm_r, mm_n, iaC, n10, not_true_eq_false, not_false_eq_true, false_implies, lg_cmp_ge, lg_cmp_le, lg_cmp_gt, lg_cmp_lt, lg_cmp_eq, true_and, and_true, true_or, or_true, true_implies, Classical.not_not, List.length_cons, List.length_nil, Nat.lt_iff_add_one_le, Nat.reduceAdd, Nat.reduceLeDiff, Nat.reduceEqDiff, Int.reduceAdd, reduceIte, Nat.reduceSub]
    exact lX0_extent (d := d + 1) hn h8 q3 hB (fun r hr => ⟨by rw [lof hr], kcs⟩) n 0 _ _ (by omega) lmx lmn
