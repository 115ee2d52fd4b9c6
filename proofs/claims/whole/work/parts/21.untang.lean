/-! ===== THE ROW, and untangled, on both sides ===== -/
def rwl (sg : Nat → Int32) : Nat → List Int32
  | 0 => []
  | i + 1 => if 8 ≤ sg i then rwl sg i else rwl sg i ++ [sg i]
def rf (sg : Nat → Int32) (m : Nat) : Nat → Int32 := fun j => (rwl sg m).getD j 0
theorem rwl_le (sg : Nat → Int32) : ∀ m, (rwl sg m).length ≤ m := by
  intro m
  induction m with
  | zero => exact Nat.le_refl _
  | succ m ih =>
    simp only [rwl]
    split
    · omega
    · simp only [List.length_append, List.length_singleton]
      omega
theorem rwl_lt (sg : Nat → Int32) : ∀ m, ∀ x ∈ rwl sg m, ¬ 8 ≤ x := by
  intro m
  induction m with
  | zero => intro x h; cases h
  | succ m ih =>
    intro x h
    simp only [rwl] at h
    split at h
    · exact ih x h
    · rename_i h8
      rcases List.mem_append.mp h with h | h
      · exact ih x h
      · rw [List.mem_singleton.mp h]
        exact h8
theorem rf_lt (sg : Nat → Int32) (m j : Nat) (h : j < (rwl sg m).length) : ¬ 8 ≤ rf sg m j := by
  unfold rf
  rw [List.getD_eq_getElem?_getD, List.getElem?_eq_getElem h]
  exact rwl_lt sg m _ (List.getElem_mem h)
def sw (f : Nat → Int32) (i : Nat) : Nat → Int32 := fun j => if j = i + 1 then f i else if j = i then f (i + 1) else f j
theorem sw_sw (f : Nat → Int32) (i : Nat) : sw (sw f i) i = f := by
  funext j
  simp only [sw]
  by_cases h1 : j = i + 1
  · subst h1
    simp
  · by_cases h2 : j = i
    · subst h2
      simp
    · simp [h1, h2]
theorem lk_run_c {fr ln gv nd : Nat → Int32} {n : Nat} {row row' : Nat → Int32} : ∀ (m i : Nat) (A : pa), (∀ j, i ≤ j → j < i + m → row j = row' j) → lk_run fr ln gv nd n row m i A = lk_run fr ln gv nd n row' m i A := by
  intro m
  induction m with
  | zero => intro i A h; rfl
  | succ m ih =>
    intro i A h
    unfold lk_run
    rw [h i (Nat.le_refl _) (by omega), ih (i + 1) _ (fun j h1 h2 => h j (by omega) (by omega))]
theorem lk_c {v : pv} {row row' : Nat → Int32} {m : Nat} (h : ∀ j, j < m → row j = row' j) : lk v row m = lk v row' m := lk_run_c m 0 lk_0 (fun j _ h2 => h j (by omega))
/-- a row without frames opens none -/
theorem lk_run_o {fr ln gv nd : Nat → Int32} {n : Nat} {row : Nat → Int32} : ∀ (m i : Nat) (A : pa), (∀ j, i ≤ j → j < i + m → ¬ 8 ≤ row j) → (lk_run fr ln gv nd n row m i A).2.2.2.2.1 = A.2.2.2.1 := by
  intro m
  induction m with
  | zero => intro i A h; rfl
  | succ m ih =>
    intro i A h
    unfold lk_run
    split
    · rw [ih (i + 1) _ (fun j h1 h2 => h j (by omega) (by omega))]
      have h9 := h i (Nat.le_refl _) (by omega)
      have n20 : ¬ row i = 20 := fun e => h9 (by rw [e]; decide)
      have n21 : ¬ row i = 21 := fun e => h9 (by rw [e]; decide)
      unfold lk_go
      split
      · simp only [n20, n21, if_false]
      · rfl
    · rfl
theorem lk_o {v : pv} {row : Nat → Int32} {m : Nat} (h : ∀ j, j < m → ¬ 8 ≤ row j) : (lk v row m).2.2.2.2.1 = 0 := lk_run_o m 0 lk_0 (fun j _ h2 => h j (by omega))
theorem sw_lt {f : Nat → Int32} {m i : Nat} (hi : i + 1 < m) (h : ∀ j, j < m → ¬ 8 ≤ f j) : ∀ j, j < m → ¬ 8 ≤ sw f i j := by
  intro j hj
  simp only [sw]
  split
  · exact h i (by omega)
  · split
    · exact h (i + 1) (by omega)
    · exact h j hj
theorem sw_c {f g : Nat → Int32} {m i : Nat} (hi : i + 1 < m) (h : ∀ j, j < m → f j = g j) : ∀ j, j < m → sw f i j = sw g i j := by
  intro j hj
  simp only [sw]
  rw [h i (by omega), h (i + 1) (by omega), h j hj]
def un (v : pv) (f : Nat → Int32) (m : Nat) : Nat → Int64 × Int32
  | 0 => ((lk v f m).2.2.2.2.2.2.2, -9)
  | i + 1 => if (lk v (sw f i) m).1 = none ∧ (lk v (sw f i) m).2.2.2.2.2.2.2 < (un v f m i).1 then ((lk v (sw f i) m).2.2.2.2.2.2.2, nI i) else un v f m i
def v_m (v : pv) : Nat := (rwl v.2.2.2.2.1 (v_ns v).toNatClampNeg).length
def v_f (v : pv) : Nat → Int32 := rf v.2.2.2.2.1 (v_ns v).toNatClampNeg
def q_untangled (v : pv) : pv × Int32 := (v, if (lk v (v_f v) (v_m v)).1 = none then (un v (v_f v) (v_m v) (v_m v - 1)).2 else -3)
def c12 (I I' : mm_I) : Prop := ∀ c, c < 7 ∨ 12 < c → I' c = I c
theorem c12_7 {I I' I'' : mm_I} (h : c12 I I') (h' : c7 I' I'') : c12 I I'' := fun c hc => (h' c (by omega)).trans (h c hc)
theorem c12_v {I I' : mm_I} (h : c12 I I') : vC I' = vC I := by
  unfold vC
  rw [h 2 (by omega), h 3 (by omega), h 4 (by omega), h 5 (by omega), h 6 (by omega), h 1 (by omega), h 0 (by omega)]
theorem kc12 {I I' : mm_I} {L L' : mm_L} (h : c12 I I') (hl : l7 L L') : kc I L I' L' := Or.inr ⟨⟨_, c12_v h⟩, h 13 (by omega), h 15 (by omega), h 16 (by omega), h 21 (by omega), hl 13 (by omega), hl 16 (by omega)⟩
set_option maxHeartbeats 4000000 in
set_option maxRecDepth 100000 in
theorem lX4_writeRow {d : Nat} {I0 : mm_I} {L : mm_L} {Q : mm_Q} {ns : Nat} (h40 : ns ≤ 40) (hns : I0 0 2 = nI ns) (h : ∀ I', (∀ c, c ≠ 12 → I' c = I0 c) → (∀ j, j < (rwl (I0 6) ns).length → I' 12 j = rf (I0 6) ns j) → Q I' L (nI (rwl (I0 6) ns).length) 0) : ∀ (m i : Nat) (I : mm_I), i + m = ns → (∀ c, c ≠ 12 → I c = I0 c) → (∀ j, j < (rwl (I0 6) i).length → I 12 j = rf (I0 6) i j) → mm_W shC (mm_P shC msC d) tbX4_writeRow Q 4 [.ref 0, .int (nI (rwl (I0 6) i).length), .int (nI i)] [] I L := by
  intro m
  induction m with
  | zero =>
    intro i I hi hc hr
    have e1 : i = ns := by omega
    subst e1
    refine mm_hk 60 ?_
    simp only [↓hX4_writeRow, ↓uX4_writeRow, ↓mm_r, mm_n, iaC, n10, not_true_eq_false, not_false_eq_true, false_implies, lg_cmp_ge, lg_cmp_le, lg_cmp_gt, lg_cmp_lt, lg_cmp_eq, true_and, and_true, true_or, or_true, true_implies, Classical.not_not, List.length_cons, List.length_nil, Nat.lt_iff_add_one_le, Nat.reduceAdd, Nat.reduceLeDiff, Nat.reduceEqDiff, Int.reduceAdd, reduceIte, Nat.reduceSub]
    simp only [hc 0 (by omega), hns, ni_le (a := i) (b := i) (by omega) (by omega)]
    exact ⟨fun _ => h I hc hr, fun q => absurd (Nat.le_refl i) q⟩
  | succ m ih =>
    intro i I hi hc hr
    have hl := rwl_le (I0 6) i
    refine mm_hk 60 ?_
    simp only [↓hX4_writeRow, ↓uX4_writeRow, ↓mm_r, mm_n, iaC, n10, not_true_eq_false, not_false_eq_true, false_implies, lg_cmp_ge, lg_cmp_le, lg_cmp_gt, lg_cmp_lt, lg_cmp_eq, true_and, and_true, true_or, or_true, true_implies, Classical.not_not, List.length_cons, List.length_nil, Nat.lt_iff_add_one_le, Nat.reduceAdd, Nat.reduceLeDiff, Nat.reduceEqDiff, Int.reduceAdd, reduceIte, Nat.reduceSub]
    simp only [hc 0 (by omega), hc 6 (by omega), hns, ni_le (a := ns) (b := i) (by omega) (by omega), ni_40 (a := i) (by omega), ni_cl (a := i) (by omega), ni_cl (a := (rwl (I0 6) i).length) (by omega), nI_1]
    refine ⟨fun q => absurd q (by omega), fun _ => ⟨fun q => absurd q (by omega), fun _ => ⟨ni_in (by omega) (by omega), fun q => ?_, fun q => ?_⟩⟩⟩
    · have e : rwl (I0 6) (i + 1) = rwl (I0 6) i := by simp only [rwl, q, if_true]
      have h2 := ih (i + 1) I (by omega) hc (by unfold rf; rw [e]; exact hr)
      rw [e] at h2
      exact h2
    · have e : rwl (I0 6) (i + 1) = rwl (I0 6) i ++ [I0 6 i] := by simp only [rwl, q, if_false]
      refine ⟨ni_in (by omega) (by omega), ni_in (by omega) (by omega), ?_⟩
      have h2 := ih (i + 1) (mm_ui I 12 (rwl (I0 6) i).length (I0 6 i)) (by omega) (fun c hcc => by rw [uif, if_neg hcc]; exact hc c hcc) (fun j hj => ?_)
      · rw [e, List.length_append, List.length_singleton] at h2
        exact h2
      · unfold rf
        rw [e] at hj ⊢
        simp only [List.length_append, List.length_singleton] at hj
        simp only [uia, if_true]
        by_cases hjl : j = (rwl (I0 6) i).length
        · subst hjl
          simp
        · simp only [hjl, if_false]
          rw [hr j (by omega)]
          unfold rf
          rw [List.getD_eq_getElem?_getD, List.getD_eq_getElem?_getD, List.getElem?_append_left (by omega)]
set_option maxHeartbeats 4000000 in
set_option maxRecDepth 100000 in
theorem sX4_writeRow {d : Nat} {I : mm_I} {L : mm_L} {Q : mm_Q} {ns : Nat} (h40 : ns ≤ 40) (hns : I 0 2 = nI ns) (h : ∀ I', (∀ c, c ≠ 12 → I' c = I c) → (∀ j, j < (rwl (I 6) ns).length → I' 12 j = rf (I 6) ns j) → Q I' L (nI (rwl (I 6) ns).length) 0) : mm_P shC msC (d + 1) 58 [.ref 0] I L Q := by
  refine pX4_writeRow ?_
  simp only [↓hX4_writeRow, ↓uX4_writeRow, ↓mm_r, mm_n, iaC, n10, not_true_eq_false, not_false_eq_true, false_implies, lg_cmp_ge, lg_cmp_le, lg_cmp_gt, lg_cmp_lt, lg_cmp_eq, true_and, and_true, true_or, or_true, true_implies, Classical.not_not, List.length_cons, List.length_nil, Nat.lt_iff_add_one_le, Nat.reduceAdd, Nat.reduceLeDiff, Nat.reduceEqDiff, Int.reduceAdd, reduceIte, Nat.reduceSub]
  exact lX4_writeRow h40 hns h ns 0 I (by omega) (fun _ _ => rfl) (fun j hj => absurd hj (by simp [rwl]))
set_option maxHeartbeats 4000000 in
set_option maxRecDepth 100000 in
theorem sX4_changePlaces {d : Nat} {I : mm_I} {L : mm_L} {Q : mm_Q} {i : Nat} (hi : i + 1 < 40) (h : ∀ I', (∀ c, c ≠ 12 → I' c = I c) → I' 12 = sw (I 12) i → Q I' L 0 0) : mm_P shC msC (d + 1) 59 [.ref 0, .int (nI i)] I L Q := by
  refine pX4_changePlaces ?_
  simp only [↓uX4_changePlaces, ↓mm_r, mm_n, iaC, n10, not_true_eq_false, not_false_eq_true, false_implies, lg_cmp_ge, lg_cmp_le, lg_cmp_gt, lg_cmp_lt, lg_cmp_eq, true_and, and_true, true_or, or_true, true_implies, Classical.not_not, List.length_cons, List.length_nil, Nat.lt_iff_add_one_le, Nat.reduceAdd, Nat.reduceLeDiff, Nat.reduceEqDiff, Int.reduceAdd, reduceIte, Nat.reduceSub]
  refine ⟨fun q => absurd q (by rw [ni_0 (by omega)]; exact not_false), fun _ => ⟨fun _ => ?_, fun q => absurd (by rw [nI_1, nl40, ni_lt (by omega) (by omega)]; exact hi) q⟩⟩
  simp only [nI_1, ni_cl (a := i) (by omega), ni_cl (a := i + 1) (by omega)]
  refine ⟨ni_in (by omega) (by omega), ni_in (by omega) (by omega), ni_in (by omega) (by omega), ni_in (by omega) (by omega), ?_⟩
  refine h _ (fun c hc => by rw [uif, if_neg hc, uif, if_neg hc]) ?_
  funext j
  simp only [uia, if_true, sw]
set_option maxHeartbeats 4000000 in
set_option maxRecDepth 100000 in
theorem lX4_untangled {d : Nat} {I0 : mm_I} {L0 : mm_L} {Q : mm_Q} {n m : Nat} {f : Nat → Int32} (h8 : n ≤ 8) (hn : I0 1 4 = nI n) (h40 : m ≤ 40) (h : ∀ I' L', c12 I0 I' → l7 L0 L' → Q I' L' (un (vC I0) f m (m - 1)).2 0) : ∀ (t i : Nat) (I : mm_I) (L : mm_L), i + t = m - 1 → c12 I0 I → l7 L0 L → (∀ j, j < m → I 12 j = f j) → mm_W shC (mm_P shC msC (d + 5)) tbX4_untangled Q 25 [.ref 0, .int (nI m), .long (un (vC I0) f m i).1, .null, .int (un (vC I0) f m i).2, .int (nI i)] [] I L := by
  intro t
  induction t with
  | zero =>
    intro i I L hi hc hl hr
    have e1 : i = m - 1 := by omega
    subst e1
    refine mm_hk 90 ?_
    simp only [↓hX4_untangled, ↓uX4_untangled, ↓mm_r, mm_n, iaC, n10, not_true_eq_false, not_false_eq_true, false_implies, lg_cmp_ge, lg_cmp_le, lg_cmp_gt, lg_cmp_lt, lg_cmp_eq, true_and, and_true, true_or, or_true, true_implies, Classical.not_not, List.length_cons, List.length_nil, Nat.lt_iff_add_one_le, Nat.reduceAdd, Nat.reduceLeDiff, Nat.reduceEqDiff, Int.reduceAdd, reduceIte, Nat.reduceSub]
    simp only [nI_1, ni_le (a := m) (b := m - 1 + 1) (by omega) (by omega)]
    exact ⟨fun _ => h I L hc hl, fun q => absurd (by omega) q⟩
  | succ t ih =>
    intro i I L hi hc hl hr
    refine mm_hk 90 ?_
    simp only [↓hX4_untangled, ↓uX4_untangled, ↓mm_r, mm_n, iaC, n10, not_true_eq_false, not_false_eq_true, false_implies, lg_cmp_ge, lg_cmp_le, lg_cmp_gt, lg_cmp_lt, lg_cmp_eq, true_and, and_true, true_or, or_true, true_implies, Classical.not_not, List.length_cons, List.length_nil, Nat.lt_iff_add_one_le, Nat.reduceAdd, Nat.reduceLeDiff, Nat.reduceEqDiff, Int.reduceAdd, reduceIte, Nat.reduceSub]
    simp only [nI_1, ni_le (a := m) (b := i + 1) (by omega) (by omega), ni_40 (a := i + 1) (by omega)]
    refine ⟨fun q => absurd q (by omega), fun _ => ⟨fun q => absurd q (by omega), fun _ => ?_⟩⟩
    refine sX4_changePlaces (by omega) (fun I1 a1 a2 => ?_)
    have hc1 : c12 I0 I1 := fun c hcc => (a1 c (by omega)).trans (hc c hcc)
    refine sX3_goThrough (n := n) (by decide +kernel) (by decide +kernel) (by omega) h8 h40 (by rw [hc1 1 (by omega)]; exact hn) (fun I2 L2 b1 b2 b3 b4 => ?_)
    have ev : lk (vC I1) (I1 12) m = lk (vC I0) (sw f i) m := by
      rw [c12_v hc1, a2]
      exact lk_c (sw_c (by omega) hr)
    rw [ev] at b1 b2
    refine sX4_changePlaces (by omega) (fun I3 d1 d2 => ?_)
    have hc3 : c12 I0 I3 := fun c hcc => (d1 c (by omega)).trans ((b3 c (by omega)).trans (hc1 c hcc))
    have hl3 : l7 L0 L2 := l7_tr hl b4
    have hr3 : ∀ j, j < m → I3 12 j = f j := fun j hj => by
      rw [d2, b3 12 (by omega), a2, sw_sw]
      exact hr j hj
    obtain ⟨f1, f2, f3, f4, f5, f6⟩ := CR_f b1
    have h75 : I3 7 5 = I2 7 5 := by rw [d1 7 (by omega)]
    have nx := ih (i + 1) I3 L2 (by omega) hc3 hl3 hr3
    refine sX3_isWrong (fun w => ?_) (fun w => ?_)
    · simp only [n10, not_false_eq_true, false_implies, true_implies, true_and, and_true, not_true_eq_false]
      rw [h75] at w
      have hw : ¬ (lk (vC I0) (sw f i) m).1 = none := fun e => by
        rw [e] at b2
        exact w b2
      have eu : un (vC I0) f m (i + 1) = un (vC I0) f m i := by
        simp only [un]
        rw [if_neg (fun q => hw q.1)]
      rw [eu] at nx
      exact nx
    · simp only [n10, not_false_eq_true, false_implies, true_implies, true_and, and_true, not_true_eq_false]
      rw [h75] at w
      have hw : (lk (vC I0) (sw f i) m).1 = none := by
        cases hw : (lk (vC I0) (sw f i) m).1 with
        | none => rfl
        | some p =>
          rw [hw] at b2
          obtain ⟨e1, -, e3, e4⟩ := b2
          rw [e1, show (0 : Int32) = nI 0 from nl0, ni_eq (by omega) (by omega)] at w
          omega
      rw [f5]
      refine ⟨fun q => ?_, fun q => ?_⟩
      · have eu : un (vC I0) f m (i + 1) = un (vC I0) f m i := by
          simp only [un]
          rw [if_neg (fun z => by have := z.2; grind)]
        rw [eu] at nx
        exact nx
      · have eu : un (vC I0) f m (i + 1) = ((lk (vC I0) (sw f i) m).2.2.2.2.2.2.2, nI i) := by
          simp only [un]
          rw [if_pos ⟨hw, by grind⟩]
        rw [eu] at nx
        exact nx
set_option maxHeartbeats 4000000 in
set_option maxRecDepth 100000 in
theorem kX4_untangled {d : Nat} {I : mm_I} {L : mm_L} (hv : vok (vC I)) : mm_P shC msC (d + 6) 54 [.ref 0] I L (fun I' L' ri _ => (vC I', ri) = q_untangled (vC I) ∧ kc I L I' L') := by
  obtain ⟨n, ns, hn, h8, hns, h40, -⟩ := id hv
  have hn : I 1 4 = nI n := hn
  have hns : I 0 2 = nI ns := hns
  have hnsv : (v_ns (vC I)).toNatClampNeg = ns := by show (I 0 2).toNatClampNeg = ns; rw [hns, ni_cl (by omega)]
  have em : v_m (vC I) = (rwl (I 6) ns).length := by unfold v_m; rw [hnsv]; rfl
  have ef : v_f (vC I) = rf (I 6) ns := by unfold v_f; rw [hnsv]; rfl
  have hl := rwl_le (I 6) ns
  refine pX4_untangled ?_
  simp only [↓hX4_untangled, ↓uX4_untangled, ↓mm_r, mm_n, iaC, n10, not_true_eq_false, not_false_eq_true, false_implies, lg_cmp_ge, lg_cmp_le, lg_cmp_gt, lg_cmp_lt, lg_cmp_eq, true_and, and_true, true_or, or_true, true_implies, Classical.not_not, List.length_cons, List.length_nil, Nat.lt_iff_add_one_le, Nat.reduceAdd, Nat.reduceLeDiff, Nat.reduceEqDiff, Int.reduceAdd, reduceIte, Nat.reduceSub]
  refine sX4_writeRow h40 hns (fun I1 a1 a2 => ?_)
  have hc1 : c12 I I1 := fun c hcc => a1 c (by omega)
  refine sX3_goThrough (n := n) (by decide +kernel) (by decide +kernel) (by omega) h8 (by omega) (by rw [hc1 1 (by omega)]; exact hn) (fun I2 L2 b1 b2 b3 b4 => ?_)
  have ev : lk (vC I1) (I1 12) (rwl (I 6) ns).length = lk (vC I) (rf (I 6) ns) (rwl (I 6) ns).length := by
    rw [c12_v hc1]
    exact lk_c a2
  rw [ev] at b1 b2
  have hc2 : c12 I I2 := c12_7 hc1 b3
  obtain ⟨f1, f2, f3, f4, f5, f6⟩ := CR_f b1
  refine sX3_isWrong (fun w => ?_) (fun w => ?_)
  · simp only [n10, not_false_eq_true, false_implies, true_implies, true_and, and_true, not_true_eq_false]
    refine ⟨?_, kc12 hc2 b4⟩
    rw [c12_v hc2, q_untangled, em, ef, if_neg (fun e => by rw [e] at b2; exact w b2)]
  · simp only [n10, not_false_eq_true, false_implies, true_implies, true_and, and_true, not_true_eq_false]
    have hw : (lk (vC I) (rf (I 6) ns) (rwl (I 6) ns).length).1 = none := by
      cases hw : (lk (vC I) (rf (I 6) ns) (rwl (I 6) ns).length).1 with
      | none => rfl
      | some p =>
        rw [hw] at b2
        obtain ⟨e1, -, e3, e4⟩ := b2
        rw [e1, show (0 : Int32) = nI 0 from nl0, ni_eq (by omega) (by omega)] at w
        omega
    rw [f5]
    refine lX4_untangled (d := d) (I0 := I) (L0 := L) (n := n) (f := rf (I 6) ns) h8 hn (by omega) (fun I' L' g1 g2 => ⟨?_, kc12 g1 g2⟩) ((rwl (I 6) ns).length - 1) 0 I2 L2 (by omega) hc2 b4 (fun j hj => by rw [b3 12 (by omega)]; exact a2 j hj)
    rw [c12_v g1, q_untangled, em, ef, if_pos hw]
