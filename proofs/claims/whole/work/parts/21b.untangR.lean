/-! ===== THE ROW, and untangled, on the right side ===== -/
set_option maxHeartbeats 4000000 in
set_option maxRecDepth 100000 in
theorem lX5_findRow {d : Nat} {I0 : mm_I} {L : mm_L} {Q : mm_Q} {ns : Nat} (h40 : ns ≤ 40) (hns : I0 0 6 = nI ns) (h : ∀ I', (∀ c, c ≠ 0 → c ≠ 15 → I' c = I0 c) → (∀ k, k ≠ 27 → I' 0 k = I0 0 k) → I' 0 27 = nI (rwl (I0 5) ns).length → (∀ j, j < (rwl (I0 5) ns).length → I' 15 j = rf (I0 5) ns j) → Q I' L 0 0) : ∀ (m i : Nat) (I : mm_I), i + m = ns → (∀ c, c ≠ 0 → c ≠ 15 → I c = I0 c) → (∀ k, k ≠ 27 → I 0 k = I0 0 k) → I 0 27 = nI (rwl (I0 5) i).length → (∀ j, j < (rwl (I0 5) i).length → I 15 j = rf (I0 5) i j) → mm_W shR (mm_P shR msR d) tbX5_findRow Q 5 [.ref 0, .int (nI i)] [] I L := by
  intro m
  induction m with
  | zero =>
    intro i I hi hc hc0 hc27 hr
    have e1 : i = ns := by omega
    subst e1
    refine mm_hk 60 ?_
    simp only [↓hX5_findRow, ↓uX5_findRow, ↓mm_r, mm_n, iaR, n10, not_true_eq_false, not_false_eq_true, false_implies, lg_cmp_ge, lg_cmp_le, lg_cmp_gt, lg_cmp_lt, lg_cmp_eq, true_and, and_true, true_or, or_true, true_implies, Classical.not_not, List.length_cons, List.length_nil, Nat.lt_iff_add_one_le, Nat.reduceAdd, Nat.reduceLeDiff, Nat.reduceEqDiff, Int.reduceAdd, reduceIte, Nat.reduceSub]
    simp only [hc0 6 (by omega), hns, ni_le (a := i) (b := i) (by omega) (by omega)]
    exact ⟨fun _ => h I hc hc0 hc27 hr, fun q => absurd (Nat.le_refl i) q⟩
  | succ m ih =>
    intro i I hi hc hc0 hc27 hr
    have hl := rwl_le (I0 5) i
    refine mm_hk 60 ?_
    simp only [↓hX5_findRow, ↓uX5_findRow, ↓mm_r, mm_n, iaR, n10, not_true_eq_false, not_false_eq_true, false_implies, lg_cmp_ge, lg_cmp_le, lg_cmp_gt, lg_cmp_lt, lg_cmp_eq, true_and, and_true, true_or, or_true, true_implies, Classical.not_not, List.length_cons, List.length_nil, Nat.lt_iff_add_one_le, Nat.reduceAdd, Nat.reduceLeDiff, Nat.reduceEqDiff, Int.reduceAdd, reduceIte, Nat.reduceSub]
    simp only [hc0 6 (by omega), hc 5 (by omega) (by omega), hc27, hns, ni_le (a := ns) (b := i) (by omega) (by omega), ni_cl (a := i) (by omega), ni_cl (a := (rwl (I0 5) i).length) (by omega), nI_1]
    refine ⟨fun q => absurd q (by omega), fun _ => ⟨ni_in (by omega) (by omega), fun q => ?_, fun q => ?_⟩⟩
    · have e : rwl (I0 5) (i + 1) = rwl (I0 5) i := by simp only [rwl, q, if_true]
      exact ih (i + 1) I (by omega) hc hc0 (by rw [e]; exact hc27) (by unfold rf; rw [e]; exact hr)
    · have e : rwl (I0 5) (i + 1) = rwl (I0 5) i ++ [I0 5 i] := by simp only [rwl, q, if_false]
      refine ⟨ni_in (by omega) (by omega), ni_in (by omega) (by omega), ?_⟩
      refine ih (i + 1) _ (by omega) (fun c h0 h15 => by rw [uif, if_neg h0, uif, if_neg h15]; exact hc c h0 h15) (fun k hk => by simp only [uia, Nat.reduceEqDiff, reduceIte, hk]; exact hc0 k hk) ?_ (fun j hj => ?_)
      · simp only [uia, Nat.reduceEqDiff, reduceIte]
        rw [e, List.length_append, List.length_singleton]
      · unfold rf
        rw [e] at hj ⊢
        simp only [List.length_append, List.length_singleton] at hj
        simp only [uia, Nat.reduceEqDiff, reduceIte]
        by_cases hjl : j = (rwl (I0 5) i).length
        · subst hjl
          simp
        · simp only [hjl, if_false]
          rw [hr j (by omega)]
          unfold rf
          rw [List.getD_eq_getElem?_getD, List.getD_eq_getElem?_getD, List.getElem?_append_left (by omega)]
set_option maxHeartbeats 4000000 in
set_option maxRecDepth 100000 in
theorem sX5_findRow {d : Nat} {I : mm_I} {L : mm_L} {Q : mm_Q} {ns : Nat} (h40 : ns ≤ 40) (hns : I 0 6 = nI ns) (h : ∀ I', (∀ c, c ≠ 0 → c ≠ 15 → I' c = I c) → (∀ k, k ≠ 27 → I' 0 k = I 0 k) → I' 0 27 = nI (rwl (I 5) ns).length → (∀ j, j < (rwl (I 5) ns).length → I' 15 j = rf (I 5) ns j) → Q I' L 0 0) : mm_P shR msR (d + 1) 44 [.ref 0] I L Q := by
  refine pX5_findRow ?_
  simp only [↓hX5_findRow, ↓uX5_findRow, ↓mm_r, mm_n, iaR, n10, not_true_eq_false, not_false_eq_true, false_implies, lg_cmp_ge, lg_cmp_le, lg_cmp_gt, lg_cmp_lt, lg_cmp_eq, true_and, and_true, true_or, or_true, true_implies, Classical.not_not, List.length_cons, List.length_nil, Nat.lt_iff_add_one_le, Nat.reduceAdd, Nat.reduceLeDiff, Nat.reduceEqDiff, Int.reduceAdd, reduceIte, Nat.reduceSub]
  refine lX5_findRow h40 hns h ns 0 _ (by omega) (fun c h0 _ => by rw [uif, if_neg h0]) (fun k hk => by simp only [uia, Nat.reduceEqDiff, reduceIte, hk]) ?_ (fun j hj => absurd hj (by simp [rwl]))
  simp only [uia, Nat.reduceEqDiff, reduceIte]
  exact nl0
set_option maxHeartbeats 4000000 in
set_option maxRecDepth 100000 in
theorem sX5_changes {d : Nat} {I : mm_I} {L : mm_L} {Q : mm_Q} {i : Nat} (hi : i + 1 < 40) (h : ∀ I', (∀ c, c ≠ 15 → I' c = I c) → I' 15 = sw (I 15) i → Q I' L 0 0) : mm_P shR msR (d + 1) 52 [.ref 0, .int (nI i)] I L Q := by
  refine pX5_changes ?_
  simp only [↓uX5_changes, ↓mm_r, mm_n, iaR, n10, not_true_eq_false, not_false_eq_true, false_implies, lg_cmp_ge, lg_cmp_le, lg_cmp_gt, lg_cmp_lt, lg_cmp_eq, true_and, and_true, true_or, or_true, true_implies, Classical.not_not, List.length_cons, List.length_nil, Nat.lt_iff_add_one_le, Nat.reduceAdd, Nat.reduceLeDiff, Nat.reduceEqDiff, Int.reduceAdd, reduceIte, Nat.reduceSub]
  simp only [nI_1, ni_cl (a := i) (by omega), ni_cl (a := i + 1) (by omega)]
  refine ⟨ni_in (by omega) (by omega), ni_in (by omega) (by omega), ni_in (by omega) (by omega), ni_in (by omega) (by omega), ?_⟩
  refine h _ (fun c hc => by rw [uif, if_neg hc, uif, if_neg hc]) ?_
  funext j
  simp only [uia, if_true, sw]
/-- the view, by rows and the fields that it has -/
theorem vR_c {I I' : mm_I} (h : ∀ c, 1 ≤ c → c ≤ 5 → I' c = I c) (h0 : ∀ k, k < 9 → I' 0 k = I 0 k) : vR I' = vR I := by
  unfold vR
  rw [h 1 (by omega) (by omega), h 2 (by omega) (by omega), h 3 (by omega) (by omega), h 4 (by omega) (by omega), h 5 (by omega) (by omega), h0 0 (by omega), h0 6 (by omega), h0 5 (by omega), h0 8 (by omega)]
/-- what the work on a row leaves -/
def r15 (I I' : mm_I) : Prop := (∀ c, 1 ≤ c → c ≤ 5 → I' c = I c) ∧ ∀ k, k < 9 → I' 0 k = I 0 k
theorem r15_v {I I' : mm_I} (h : r15 I I') : vR I' = vR I := vR_c h.1 h.2
theorem r15_7 {I I' I'' : mm_I} (h : r15 I I') (h' : r7 I' I'') : r15 I I'' := ⟨fun c h1 h2 => (h'.1 c (by omega) (by omega)).trans (h.1 c h1 h2), fun k hk => (h'.2 k (by omega)).trans (h.2 k hk)⟩
theorem r15_c {I I' I'' : mm_I} (h : r15 I I') (h' : ∀ c, c ≠ 15 → I'' c = I' c) : r15 I I'' := ⟨fun c h1 h2 => (h' c (by omega)).trans (h.1 c h1 h2), fun k hk => by rw [h' 0 (by omega)]; exact h.2 k hk⟩
theorem lk_lt {v : pv} (hv : vok v) {row : Nat → Int32} {m : Nat} (hm : m ≤ 40) : (w_at (lk v row m).1 = -9) = ((lk v row m).1 = none) := w_at9 (fun p hp => by
  have := lk_run_at _ _ _ p hp
  omega)
theorem z64 (x y : Int64) : x + y * lN 0 = x := by
  rw [show lN 0 = (0 : Int64) from rfl]
  grind
set_option maxHeartbeats 4000000 in
set_option maxRecDepth 100000 in
theorem lX5_untangled {d : Nat} {I0 : mm_I} {Q : mm_Q} {n m : Nat} {f : Nat → Int32} (hv : vok (vR I0)) (hs : sR n I0) (h40 : m ≤ 40) (hm1 : 1 ≤ m) (hf : ∀ j, j < m → ¬ 8 ≤ f j) (h : ∀ I' L', r15 I0 I' → Q I' L' (un (vR I0) f m (m - 1)).2 0) : ∀ (t i : Nat) (I : mm_I) (L : mm_L), i + t = m - 1 → r15 I0 I → I 0 27 = nI m → (∀ j, j < m → I 15 j = f j) → mm_W shR (mm_P shR msR (d + 6)) tbX5_untangled Q 21 [.ref 0, .long (un (vR I0) f m i).1, .null, .int (un (vR I0) f m i).2, .int (nI i)] [] I L := by
  have sub1 : nI m - 1 = nI (m - 1) := by
    rw [nl1, pk_sub hm1]
  intro t
  induction t with
  | zero =>
    intro i I L hi hc h27 hr
    have e1 : i = m - 1 := by omega
    subst e1
    refine mm_hk 90 ?_
    simp only [↓hX5_untangled, ↓uX5_untangled, ↓mm_r, mm_n, iaR, n10, not_true_eq_false, not_false_eq_true, false_implies, lg_cmp_ge, lg_cmp_le, lg_cmp_gt, lg_cmp_lt, lg_cmp_eq, true_and, and_true, true_or, or_true, true_implies, Classical.not_not, List.length_cons, List.length_nil, Nat.lt_iff_add_one_le, Nat.reduceAdd, Nat.reduceLeDiff, Nat.reduceEqDiff, Int.reduceAdd, reduceIte, Nat.reduceSub]
    simp only [h27, sub1, ni_le (a := m - 1) (b := m - 1) (by omega) (by omega)]
    exact ⟨fun _ => h I L hc, fun q => absurd (Nat.le_refl _) q⟩
  | succ t ih =>
    intro i I L hi hc h27 hr
    refine mm_hk 90 ?_
    simp only [↓hX5_untangled, ↓uX5_untangled, ↓mm_r, mm_n, iaR, n10, not_true_eq_false, not_false_eq_true, false_implies, lg_cmp_ge, lg_cmp_le, lg_cmp_gt, lg_cmp_lt, lg_cmp_eq, true_and, and_true, true_or, or_true, true_implies, Classical.not_not, List.length_cons, List.length_nil, Nat.lt_iff_add_one_le, Nat.reduceAdd, Nat.reduceLeDiff, Nat.reduceEqDiff, Int.reduceAdd, reduceIte, Nat.reduceSub]
    simp only [h27, sub1, ni_le (a := m - 1) (b := i) (by omega) (by omega)]
    refine ⟨fun q => absurd q (by omega), fun _ => ?_⟩
    refine sX5_changes (by omega) (fun I1 a1 a2 => ?_)
    have hc1 : r15 I0 I1 := r15_c hc a1
    have h271 : I1 0 27 = nI m := by rw [a1 0 (by omega)]; exact h27
    rw [h271]
    refine sX5_looks (n := n) (ml := 40) (by decide +kernel) h40 (by omega) (by omega) (by omega) ⟨by rw [hc1.2 0 (by omega)]; exact hs.1, hs.2⟩ (fun I2 L2 b1 b2 b3 => ?_)
    have ev : lk (vR I1) (I1 15) m = lk (vR I0) (sw f i) m := by
      rw [r15_v hc1, a2]
      exact lk_c (sw_c (by omega) hr)
    rw [ev] at b1 b2
    have ho := lk_o (v := vR I0) (sw_lt (m := m) (i := i) (by omega) hf)
    obtain ⟨s1, c2, c3, c4, c5, c6, c7', c8⟩ := b1
    have hL2 : L2 0 20 = (lk (vR I0) (sw f i) m).2.2.2.2.2.2.2 := by
      rw [c7', ho, z64]
    have hc2 : r15 I0 I2 := r15_7 hc1 b3
    have hw9 := lk_lt hv (row := sw f i) (m := m) h40
    rw [b2.1, hw9, hL2]
    have h272 : I2 0 27 = nI m := by rw [b3.2 27 (by omega)]; exact h271
    have fin : ∀ (a : Int64) (b : Int32), un (vR I0) f m (i + 1) = (a, b) → mm_P shR msR (d + 6) 52 [.ref 0, .int (nI i)] I2 L2 fun I' L' ri rl => mm_W shR (mm_P shR msR (d + 6)) tbX5_untangled Q 21 [.ref 0, .long a, .null, .int b, .int (nI i + 1)] [] I' L' := by
      intro a b eu
      refine sX5_changes (by omega) (fun I3 d1 d2 => ?_)
      have nx := ih (i + 1) I3 L2 (by omega) (r15_c hc2 d1) (by rw [d1 0 (by omega)]; exact h272) (fun j hj => by
        rw [d2, b3.1 15 (by omega) (by omega), a2, sw_sw]
        exact hr j hj)
      rw [eu] at nx
      rw [nI_1]
      exact nx
    refine ⟨fun w => fin _ _ ?_, fun w => ⟨fun q => fin _ _ ?_, fun q => fin _ _ ?_⟩⟩
    · simp only [un]
      rw [if_neg (fun q => w q.1)]
    · simp only [un]
      rw [if_neg (fun z => by have := z.2; grind)]
    · simp only [un]
      rw [if_pos ⟨w, by grind⟩]
set_option maxHeartbeats 4000000 in
set_option maxRecDepth 100000 in
theorem kX5_untangled {d : Nat} {I : mm_I} {L : mm_L} (hv : vok (vR I)) : mm_P shR msR (d + 7) 53 [.ref 0] I L (fun I' _ ri _ => (vR I', ri) = q_untangled (vR I)) := by
  obtain ⟨n, ns, hn, h8, hns, h40, -⟩ := id hv
  have hn : I 0 0 = nI n := hn
  have hns : I 0 6 = nI ns := hns
  have hnsv : (v_ns (vR I)).toNatClampNeg = ns := by show (I 0 6).toNatClampNeg = ns; rw [hns, ni_cl (by omega)]
  have em : v_m (vR I) = (rwl (I 5) ns).length := by unfold v_m; rw [hnsv]; rfl
  have ef : v_f (vR I) = rf (I 5) ns := by unfold v_f; rw [hnsv]; rfl
  have hl := rwl_le (I 5) ns
  have hlt : ∀ j, j < (rwl (I 5) ns).length → ¬ 8 ≤ rf (I 5) ns j := fun j hj => rf_lt (I 5) ns j hj
  refine pX5_untangled ?_
  simp only [↓hX5_untangled, ↓uX5_untangled, ↓mm_r, mm_n, iaR, n10, not_true_eq_false, not_false_eq_true, false_implies, lg_cmp_ge, lg_cmp_le, lg_cmp_gt, lg_cmp_lt, lg_cmp_eq, true_and, and_true, true_or, or_true, true_implies, Classical.not_not, List.length_cons, List.length_nil, Nat.lt_iff_add_one_le, Nat.reduceAdd, Nat.reduceLeDiff, Nat.reduceEqDiff, Int.reduceAdd, reduceIte, Nat.reduceSub]
  refine sX5_findRow h40 hns (fun I1 a1 a2 a3 a4 => ?_)
  have hc1 : r15 I I1 := ⟨fun c h1 h2 => a1 c (by omega) (by omega), fun k hk => a2 k (by omega)⟩
  rw [a3]
  refine sX5_looks (n := n) (ml := 40) (by decide +kernel) (by omega) (by omega) (by omega) (by omega) ⟨by rw [hc1.2 0 (by omega)]; exact hn, h8⟩ (fun I2 L2 b1 b2 b3 => ?_)
  have ev : lk (vR I1) (I1 15) (rwl (I 5) ns).length = lk (vR I) (rf (I 5) ns) (rwl (I 5) ns).length := by
    rw [r15_v hc1]
    exact lk_c a4
  rw [ev] at b1 b2
  have ho := lk_o (v := vR I) hlt
  obtain ⟨s1, c2, c3, c4, c5, c6, c7', c8⟩ := b1
  have hL2 : L2 0 20 = (lk (vR I) (rf (I 5) ns) (rwl (I 5) ns).length).2.2.2.2.2.2.2 := by
    rw [c7', ho, z64]
  have hc2 : r15 I I2 := r15_7 hc1 b3
  have hw9 := lk_lt hv (row := rf (I 5) ns) (m := (rwl (I 5) ns).length) (by omega)
  have h272 : I2 0 27 = nI (rwl (I 5) ns).length := by rw [b3.2 27 (by omega)]; exact a3
  rw [b2.1, hw9, hL2]
  refine ⟨fun w => ?_, fun w => by rw [r15_v hc2, q_untangled, em, ef, if_neg w]⟩
  by_cases hm : 1 ≤ (rwl (I 5) ns).length
  · refine lX5_untangled (d := d) (I0 := I) (n := n) (f := rf (I 5) ns) hv ⟨hn, h8⟩ (by omega) hm hlt (fun I' L' g1 => ?_) ((rwl (I 5) ns).length - 1) 0 I2 L2 (by omega) hc2 h272 (fun j hj => by rw [b3.1 15 (by omega) (by omega)]; exact a4 j hj)
    rw [r15_v g1, q_untangled, em, ef, if_pos w]
  · have e0 : (rwl (I 5) ns).length = 0 := by omega
    refine mm_hk 90 ?_
    simp only [↓hX5_untangled, ↓uX5_untangled, ↓mm_r, mm_n, iaR, n10, not_true_eq_false, not_false_eq_true, false_implies, lg_cmp_ge, lg_cmp_le, lg_cmp_gt, lg_cmp_lt, lg_cmp_eq, true_and, and_true, true_or, or_true, true_implies, Classical.not_not, List.length_cons, List.length_nil, Nat.lt_iff_add_one_le, Nat.reduceAdd, Nat.reduceLeDiff, Nat.reduceEqDiff, Int.reduceAdd, reduceIte, Nat.reduceSub]
    rw [h272, e0]
    have e9 : (nI 0 - 1 ≤ 0) = True := by decide +kernel
    simp only [e9, true_implies, not_true_eq_false, false_implies, and_true]
    rw [r15_v hc2, q_untangled, em, ef, if_pos w, e0]
    rfl
