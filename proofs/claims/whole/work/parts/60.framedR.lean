/-! ===== FRAMED, on the right side: the signs made by the choices ===== -/
def MK (l : List Int32) (I : mm_I) : Prop := I 0 31 = nI l.length ∧ ∀ j, j < l.length → I 17 j = l.getD j 0
def rm (I I' : mm_I) : Prop := (∀ c, c ≠ 0 → c ≠ 17 → I' c = I c) ∧ ∀ k, k ≠ 31 → I' 0 k = I 0 k
theorem rm_rf {I : mm_I} : rm I I := ⟨fun _ _ _ => rfl, fun _ _ => rfl⟩
theorem rm_tr {I I' I'' : mm_I} (h : rm I I') (h' : rm I' I'') : rm I I'' := ⟨fun c h1 h2 => (h'.1 c h1 h2).trans (h.1 c h1 h2), fun k hk => (h'.2 k hk).trans (h.2 k hk)⟩
theorem dv2 : ∀ c : Nat, c < 16 → nI c / 2 = nI (c / 2) ∧ nI c - nI c / 2 * 2 = nI (c % 2) := by decide +kernel
set_option maxHeartbeats 4000000 in
set_option maxRecDepth 100000 in
theorem sX5_puts {d : Nat} {I : mm_I} {L : mm_L} {Q : mm_Q} {l : List Int32} {s : Int32} (hl : l.length < 40) (hM : MK l I) (h : ∀ I', rm I I' → MK (l ++ [s]) I' → Q I' L 0 0) : mm_P shR msR (d + 1) 45 [.ref 0, .int s] I L Q := by
  refine pX5_puts ?_
  simp only [↓uX5_puts, ↓mm_r, mm_n, iaR, n10, not_true_eq_false, not_false_eq_true, false_implies, lg_cmp_ge, lg_cmp_le, lg_cmp_gt, lg_cmp_lt, lg_cmp_eq, true_and, and_true, true_or, or_true, true_implies, Classical.not_not, List.length_cons, List.length_nil, Nat.lt_iff_add_one_le, Nat.reduceAdd, Nat.reduceLeDiff, Nat.reduceEqDiff, Int.reduceAdd, reduceIte, Nat.reduceSub]
  rw [hM.1, ni_cl (by omega), nI_1]
  refine ⟨ni_in (by omega) hl, ?_⟩
  refine h _ ⟨fun c h0 h1 => ?_, fun k hk => ?_⟩ ⟨?_, fun j hj => ?_⟩
  · rw [mm_ui_off _ _ _ h0, mm_ui_off _ _ _ h1]
  · simp only [uia, Nat.reduceEqDiff, reduceIte, hk]
  · simp only [uia, Nat.reduceEqDiff, reduceIte, List.length_append, List.length_cons, List.length_nil, Nat.zero_add]
  · simp only [List.length_append, List.length_cons, List.length_nil] at hj
    simp only [uia, Nat.reduceEqDiff, reduceIte]
    by_cases e : j = l.length
    · subst e
      rw [if_pos rfl, List.getD_eq_getElem?_getD, List.getElem?_append_right (Nat.le_refl _), Nat.sub_self]
      rfl
    · rw [if_neg e, hM.2 j (by omega), List.getD_eq_getElem?_getD, List.getD_eq_getElem?_getD, List.getElem?_append_left (by omega)]
set_option maxHeartbeats 4000000 in
set_option maxRecDepth 100000 in
theorem lX5_makes62 {d : Nat} {L : mm_L} {Q : mm_Q} {dep : Nat} (hd : dep ≤ 100) : ∀ (j c : Nat) (I : mm_I) (l : List Int32) (y3 y4 : Value), c + j = dep → l.length + j ≤ 40 → MK l I → (∀ I', rm I I' → MK (l ++ List.replicate j 21) I' → Q I' L 0 0) → mm_W shR (mm_P shR msR (d + 1)) tbX5_makes Q 62 [.ref 0, .int (nI dep), .int (nI c), y3, y4] [] I L := by
  intro j
  induction j with
  | zero =>
    intro c I l y3 y4 hc hl hM h
    refine mm_hk 60 ?_
    simp only [↓hX5_makes, ↓uX5_makes, ↓mm_r, mm_n, iaR, n10, not_true_eq_false, not_false_eq_true, false_implies, lg_cmp_ge, lg_cmp_le, lg_cmp_gt, lg_cmp_lt, lg_cmp_eq, true_and, and_true, true_or, or_true, true_implies, Classical.not_not, List.length_cons, List.length_nil, Nat.lt_iff_add_one_le, Nat.reduceAdd, Nat.reduceLeDiff, Nat.reduceEqDiff, Int.reduceAdd, reduceIte, Nat.reduceSub]
    simp only [ni_le (a := dep) (b := c) (by omega) (by omega)]
    refine ⟨fun _ => h I rm_rf (by rw [List.replicate_zero, List.append_nil]; exact hM), fun q => absurd (by omega) q⟩
  | succ j ih =>
    intro c I l y3 y4 hc hl hM h
    refine mm_hk 60 ?_
    simp only [↓hX5_makes, ↓uX5_makes, ↓mm_r, mm_n, iaR, n10, not_true_eq_false, not_false_eq_true, false_implies, lg_cmp_ge, lg_cmp_le, lg_cmp_gt, lg_cmp_lt, lg_cmp_eq, true_and, and_true, true_or, or_true, true_implies, Classical.not_not, List.length_cons, List.length_nil, Nat.lt_iff_add_one_le, Nat.reduceAdd, Nat.reduceLeDiff, Nat.reduceEqDiff, Int.reduceAdd, reduceIte, Nat.reduceSub]
    simp only [ni_le (a := dep) (b := c) (by omega) (by omega), nI_1]
    refine ⟨fun q => absurd q (by omega), fun _ => ?_⟩
    refine sX5_puts (by omega) hM (fun I1 r1 m1 => ?_)
    refine ih (c + 1) I1 (l ++ [21]) y3 y4 (by omega) (by simp only [List.length_append, List.length_cons, List.length_nil]; omega) m1 (fun I2 r2 m2 => h I2 (rm_tr r1 r2) ?_)
    rw [List.append_assoc] at m2
    rw [List.replicate_succ]
    exact m2
set_option maxHeartbeats 4000000 in
set_option maxRecDepth 100000 in
theorem lX5_makes24 {d : Nat} {L : mm_L} {Q : mm_Q} {dp x c k : Nat} (hdp : dp ≤ 7) (hx : x < 8) (hc : c ≤ 2 * dp + 1) : ∀ (j i : Nat) (I : mm_I) (l : List Int32), i + j = c / 2 → l.length + j + 2 ≤ 40 → MK l I → I 15 x = nI k →
    (∀ (I' : mm_I) (y3 y4 : Value), rm I I' → MK (l ++ (List.replicate j 21 ++ (if c % 2 = 1 then [20, nI k] else [nI k]))) I' → mm_W shR (mm_P shR msR (d + 1)) tbX5_makes Q 7 [.ref 0, .int (nI (dp + c % 2 - c / 2)), .int (nI (x + 1)), y3, y4] [] I' L) →
    mm_W shR (mm_P shR msR (d + 1)) tbX5_makes Q 24 [.ref 0, .int (nI dp), .int (nI x), .int (nI c), .int (nI i)] [] I L := by
  obtain ⟨v1, v2⟩ := dv2 c (by omega)
  have v3 : nI dp + (nI (c % 2) - nI (c / 2)) = nI (dp + c % 2 - c / 2) := by
    rw [← pk_sub (by omega), ← nI_add]
    grind
  have v4 : (nI (c % 2) = 1) = (c % 2 = 1) := by rw [nl1, ni_eq (by omega) (by omega)]
  intro j
  induction j with
  | zero =>
    intro i I l hi hl hM hk h
    refine mm_hk 100 ?_
    simp only [↓hX5_makes, ↓uX5_makes, ↓mm_r, mm_n, iaR, n10, not_true_eq_false, not_false_eq_true, false_implies, lg_cmp_ge, lg_cmp_le, lg_cmp_gt, lg_cmp_lt, lg_cmp_eq, true_and, and_true, true_or, or_true, true_implies, Classical.not_not, List.length_cons, List.length_nil, Nat.lt_iff_add_one_le, Nat.reduceAdd, Nat.reduceLeDiff, Nat.reduceEqDiff, Int.reduceAdd, reduceIte, Nat.reduceSub]
    rw [v2, v1, v3, v4, nI_1, ni_le (by omega) (by omega), ni_cl (by omega), hk]
    refine ⟨by decide, fun _ => ⟨by decide, fun o => ⟨by decide, by decide, ni_in (by omega) (by omega), ?_⟩, fun o => ?_⟩, fun q => absurd (by omega) q⟩
    · refine sX5_puts (by omega) hM (fun I1 r1 m1 => h I1 _ _ r1 ?_)
      rw [if_neg o]
      exact m1
    · refine sX5_puts (by omega) hM (fun I1 r1 m1 => ⟨by decide, by decide, ni_in (by omega) (by omega), ?_⟩)
      rw [r1.1 15 (by omega) (by omega), hk]
      refine sX5_puts (by simp only [List.length_append, List.length_cons, List.length_nil]; omega) m1 (fun I2 r2 m2 => h I2 _ _ (rm_tr r1 r2) ?_)
      rw [List.append_assoc] at m2
      rw [if_pos o]
      exact m2
  | succ j ih =>
    intro i I l hi hl hM hk h
    refine mm_hk 100 ?_
    simp only [↓hX5_makes, ↓uX5_makes, ↓mm_r, mm_n, iaR, n10, not_true_eq_false, not_false_eq_true, false_implies, lg_cmp_ge, lg_cmp_le, lg_cmp_gt, lg_cmp_lt, lg_cmp_eq, true_and, and_true, true_or, or_true, true_implies, Classical.not_not, List.length_cons, List.length_nil, Nat.lt_iff_add_one_le, Nat.reduceAdd, Nat.reduceLeDiff, Nat.reduceEqDiff, Int.reduceAdd, reduceIte, Nat.reduceSub]
    rw [v2, v1, v3, v4, nI_1, nI_1, ni_le (by omega) (by omega)]
    refine ⟨by decide, fun q => absurd q (by omega), fun _ => ?_⟩
    refine sX5_puts (by omega) hM (fun I1 r1 m1 => ?_)
    refine ih (i + 1) I1 (l ++ [21]) (by omega) (by simp only [List.length_append, List.length_cons, List.length_nil]; omega) m1 (by rw [r1.1 15 (by omega) (by omega)]; exact hk) (fun I2 y3 y4 r2 m2 => h I2 y3 y4 (rm_tr r1 r2) ?_)
    rw [List.append_assoc] at m2
    rw [List.replicate_succ]
    exact m2
set_option maxHeartbeats 4000000 in
set_option maxRecDepth 100000 in
theorem lX5_makes7 {d : Nat} {L : mm_L} {Q : mm_Q} {m : Nat} (hm : m ≤ 8) : ∀ (p ks : List Nat) (x dp : Nat) (I : mm_I) (l : List Int32) (y3 y4 : Value), p.length = ks.length → x + ks.length = m → 1 ≤ x → I 0 27 = nI m → (∀ j, j < ks.length → I 15 (x + j) = nI (ks.getD j 0)) → (∀ j, j < p.length → I 16 (x - 1 + j) = nI (p.getD j 0)) → vld dp p → dp + p.length ≤ 7 → l.length + dp + 3 * p.length ≤ 40 → MK l I →
    (∀ I', rm I I' → MK (l ++ (msg p ks ++ List.replicate (dpt dp p) 21)) I' → Q I' L 0 0) → mm_W shR (mm_P shR msR (d + 1)) tbX5_makes Q 7 [.ref 0, .int (nI dp), .int (nI x), y3, y4] [] I L := by
  intro p
  induction p with
  | nil =>
    intro ks x dp I l y3 y4 hp hx h1 h27 h15 h16 hv hdp hl hM h
    simp only [List.length_nil] at hp hdp hl
    refine mm_hk 100 ?_
    simp only [↓hX5_makes, ↓uX5_makes, ↓mm_r, mm_n, iaR, n10, not_true_eq_false, not_false_eq_true, false_implies, lg_cmp_ge, lg_cmp_le, lg_cmp_gt, lg_cmp_lt, lg_cmp_eq, true_and, and_true, true_or, or_true, true_implies, Classical.not_not, List.length_cons, List.length_nil, Nat.lt_iff_add_one_le, Nat.reduceAdd, Nat.reduceLeDiff, Nat.reduceEqDiff, Int.reduceAdd, reduceIte, Nat.reduceSub]
    simp only [h27, ni_le (a := m) (b := x) (by omega) (by omega)]
    refine ⟨fun _ => ?_, fun q => absurd (by omega) q⟩
    rw [nl0]
    refine lX5_makes62 (dep := dp) (by omega) dp 0 I l y3 y4 (by omega) (by omega) hM (fun I' r1 m1 => h I' r1 ?_)
    have e : msg [] ks = [] := by cases ks <;> rfl
    rw [e]
    exact m1
  | cons c p ih =>
    intro ks x dp I l y3 y4 hp hx h1 h27 h15 h16 hv hdp hl hM h
    cases ks with
    | nil => exact absurd hp (by simp)
    | cons k ks =>
      simp only [List.length_cons] at hp hx hdp hl
      have hc : I 16 (x - 1) = nI c := by
        have := h16 0 (by simp)
        exact this
      have hk : I 15 x = nI k := h15 0 (by simp)
      have hv1 := hv.1
      refine mm_hk 100 ?_
      simp only [↓hX5_makes, ↓uX5_makes, ↓mm_r, mm_n, iaR, n10, not_true_eq_false, not_false_eq_true, false_implies, lg_cmp_ge, lg_cmp_le, lg_cmp_gt, lg_cmp_lt, lg_cmp_eq, true_and, and_true, true_or, or_true, true_implies, Classical.not_not, List.length_cons, List.length_nil, Nat.lt_iff_add_one_le, Nat.reduceAdd, Nat.reduceLeDiff, Nat.reduceEqDiff, Int.reduceAdd, reduceIte, Nat.reduceSub]
      have hx0 : (nI x = 0) = (x = 0) := by rw [nl0, ni_eq (by omega) (by omega)]
      have hx1 : nI x - 1 = nI (x - 1) := by rw [nl1, pk_sub h1]
      simp only [h27, ni_le (a := m) (b := x) (by omega) (by omega), hx0, hx1, ni_cl (a := x - 1) (by omega), hc]
      refine ⟨fun q => absurd q (by omega), fun _ => ⟨fun _ => ⟨ni_in (by omega) (by omega), ?_⟩, fun q => absurd q (by omega)⟩⟩
      rw [nl0]
      refine lX5_makes24 (k := k) (by omega) (by omega) hv.1 (c / 2) 0 I l (by omega) (by omega) hM hk (fun I1 z3 z4 r1 m1 => ?_)
      have hcs := cs_l c k
      have m1 : MK (l ++ cs c k) I1 := m1
      refine ih ks (x + 1) _ I1 (l ++ cs c k) z3 z4 (by omega) (by omega) (by omega) (by rw [r1.2 27 (by omega)]; exact h27) (fun j hj => ?_) (fun j hj => ?_) hv.2 (by omega) (by rw [List.length_append, hcs]; omega) m1 (fun I2 r2 m2 => h I2 (rm_tr r1 r2) ?_)
      · rw [r1.1 15 (by omega) (by omega), show x + 1 + j = x + (j + 1) by omega, h15 (j + 1) (by simp only [List.length_cons]; omega)]
        rfl
      · rw [r1.1 16 (by omega) (by omega), show x + 1 - 1 + j = x - 1 + (j + 1) by omega, h16 (j + 1) (by simp only [List.length_cons]; omega)]
        rfl
      · rw [msg, dpt]
        rw [List.append_assoc] at m2
        rw [List.append_assoc]
        exact m2
set_option maxHeartbeats 4000000 in
set_option maxRecDepth 100000 in
theorem sX5_makes {d : Nat} {I : mm_I} {L : mm_L} {Q : mm_Q} {a : Nat} {ks p : List Nat} (h7 : ks.length ≤ 7) (hp : p.length = ks.length) (h27 : I 0 27 = nI (ks.length + 1)) (h15 : ∀ j, j ≤ ks.length → I 15 j = nI ((a :: ks).getD j 0)) (h16 : ∀ j, j < 8 → I 16 j = nI (p.getD j 0)) (hv : vld 0 p)
    (h : ∀ I', rm I I' → MK (made a ks p) I' → Q I' L 0 0) : mm_P shR msR (d + 2) 46 [.ref 0] I L Q := by
  refine pX5_makes ?_
  simp only [↓hX5_makes, ↓uX5_makes, ↓mm_r, mm_n, iaR, n10, not_true_eq_false, not_false_eq_true, false_implies, lg_cmp_ge, lg_cmp_le, lg_cmp_gt, lg_cmp_lt, lg_cmp_eq, true_and, and_true, true_or, or_true, true_implies, Classical.not_not, List.length_cons, List.length_nil, Nat.lt_iff_add_one_le, Nat.reduceAdd, Nat.reduceLeDiff, Nat.reduceEqDiff, Int.reduceAdd, reduceIte, Nat.reduceSub]
  generalize hJ : mm_ui I 0 31 0 = J
  have rJ : rm I J := by
    rw [← hJ]
    exact ⟨fun c h0 _ => by rw [mm_ui_off _ _ _ h0], fun k hk => by simp only [uia, Nat.reduceEqDiff, reduceIte, hk]⟩
  have mJ : MK [] J := ⟨by rw [← hJ]; simp only [uia, Nat.reduceEqDiff, reduceIte]; exact nl0, fun j hj => absurd hj (by simp)⟩
  refine mm_hk 100 ?_
  simp only [↓hX5_makes, ↓uX5_makes, ↓mm_r, mm_n, iaR, n10, not_true_eq_false, not_false_eq_true, false_implies, lg_cmp_ge, lg_cmp_le, lg_cmp_gt, lg_cmp_lt, lg_cmp_eq, true_and, and_true, true_or, or_true, true_implies, Classical.not_not, List.length_cons, List.length_nil, Nat.lt_iff_add_one_le, Nat.reduceAdd, Nat.reduceLeDiff, Nat.reduceEqDiff, Int.reduceAdd, reduceIte, Nat.reduceSub]
  rw [rJ.2 27 (by omega), h27, nl0, ni_le (by omega) (by omega)]
  refine ⟨fun q => absurd q (by omega), fun _ => ?_⟩
  refine lX5_makes24 (dp := 0) (x := 0) (c := 0) (k := a) (by omega) (by omega) (by omega) 0 0 J [] rfl (by simp) mJ (by rw [rJ.1 15 (by omega) (by omega)]; exact h15 0 (by omega)) (fun I1 z3 z4 r1 m1 => ?_)
  have r2 := rm_tr rJ r1
  refine lX5_makes7 (m := ks.length + 1) (by omega) p ks 1 0 I1 [nI a] z3 z4 hp (by omega) (by omega) (by rw [r2.2 27 (by omega)]; exact h27) (fun j hj => ?_) (fun j hj => ?_) hv (by omega) (by simp only [List.length_cons, List.length_nil]; omega) m1 (fun I2 r3 m2 => h I2 (rm_tr r2 r3) m2)
  · rw [r2.1 15 (by omega) (by omega), show 1 + j = j + 1 by omega, h15 (j + 1) (by omega)]
    rfl
  · rw [r2.1 16 (by omega) (by omega), show 1 - 1 + j = j by omega, h16 j (by omega)]
set_option maxHeartbeats 4000000 in
set_option maxRecDepth 100000 in
theorem lX5_depthAt {d : Nat} {I : mm_I} {L : mm_L} {Q : mm_Q} {m : Nat} (hm : m ≤ 8) : ∀ (q : List Nat) (x dp : Nat), x + q.length = m → dp + q.length ≤ 8 → (∀ j, j < q.length → I 16 (x + j) = nI (q.getD j 0)) → vld dp q → dp ≤ x → Q I L (nI (dpt dp q)) 0 → mm_W shR (mm_P shR msR d) tbX5_depthAt Q 4 [.ref 0, .int (nI m), .int (nI dp), .int (nI x)] [] I L := by
  intro q
  induction q with
  | nil =>
    intro x dp hx hdp h16 hv hdx h
    simp only [List.length_nil] at hx
    refine mm_hk 60 ?_
    simp only [↓hX5_depthAt, ↓uX5_depthAt, ↓mm_r, mm_n, iaR, n10, not_true_eq_false, not_false_eq_true, false_implies, lg_cmp_ge, lg_cmp_le, lg_cmp_gt, lg_cmp_lt, lg_cmp_eq, true_and, and_true, true_or, or_true, true_implies, Classical.not_not, List.length_cons, List.length_nil, Nat.lt_iff_add_one_le, Nat.reduceAdd, Nat.reduceLeDiff, Nat.reduceEqDiff, Int.reduceAdd, reduceIte, Nat.reduceSub]
    rw [ni_le (by omega) (by omega)]
    exact ⟨fun _ => h, fun q => absurd (by omega) q⟩
  | cons c q ih =>
    intro x dp hx hdp h16 hv hdx h
    simp only [List.length_cons] at hx hdp
    have hv1 := hv.1
    have hc : I 16 x = nI c := h16 0 (by simp)
    obtain ⟨v1, v2⟩ := dv2 c (by omega)
    have v3 : nI dp + (nI (c % 2) - nI (c / 2)) = nI (dp + c % 2 - c / 2) := by
      rw [← pk_sub (by omega), ← nI_add]
      grind
    refine mm_hk 60 ?_
    simp only [↓hX5_depthAt, ↓uX5_depthAt, ↓mm_r, mm_n, iaR, n10, not_true_eq_false, not_false_eq_true, false_implies, lg_cmp_ge, lg_cmp_le, lg_cmp_gt, lg_cmp_lt, lg_cmp_eq, true_and, and_true, true_or, or_true, true_implies, Classical.not_not, List.length_cons, List.length_nil, Nat.lt_iff_add_one_le, Nat.reduceAdd, Nat.reduceLeDiff, Nat.reduceEqDiff, Int.reduceAdd, reduceIte, Nat.reduceSub]
    rw [ni_le (by omega) (by omega), ni_cl (by omega), hc, v2, v1, v3, nI_1]
    refine ⟨fun q => absurd q (by omega), fun _ => ⟨ni_in (by omega) (by omega), by decide, ni_in (by omega) (by omega), by decide, ?_⟩⟩
    refine ih (x + 1) _ (by omega) (by omega) (fun j hj => ?_) hv.2 (by omega) h
    rw [show x + 1 + j = x + (j + 1) by omega, h16 (j + 1) (by simp only [List.length_cons]; omega)]
    rfl
set_option maxHeartbeats 4000000 in
set_option maxRecDepth 100000 in
theorem sX5_depthAt {d : Nat} {I : mm_I} {L : mm_L} {Q : mm_Q} {p : List Nat} (hp : p.length ≤ 7) (h16 : ∀ j, j < p.length → I 16 j = nI (p.getD j 0)) (hv : vld 0 p) (h : Q I L (nI (dpt 0 p)) 0) : mm_P shR msR (d + 1) 47 [.ref 0, .int (nI p.length)] I L Q := by
  refine pX5_depthAt ?_
  simp only [↓hX5_depthAt, ↓uX5_depthAt, ↓mm_r, mm_n, iaR, n10, not_true_eq_false, not_false_eq_true, false_implies, lg_cmp_ge, lg_cmp_le, lg_cmp_gt, lg_cmp_lt, lg_cmp_eq, true_and, and_true, true_or, or_true, true_implies, Classical.not_not, List.length_cons, List.length_nil, Nat.lt_iff_add_one_le, Nat.reduceAdd, Nat.reduceLeDiff, Nat.reduceEqDiff, Int.reduceAdd, reduceIte, Nat.reduceSub]
  rw [nl0]
  exact lX5_depthAt (m := p.length) (by omega) p 0 0 (by omega) (by omega) (fun j hj => by rw [Nat.zero_add]; exact h16 j hj) hv (Nat.le_refl _) h
set_option maxHeartbeats 4000000 in
set_option maxRecDepth 100000 in
theorem lX5_keeps {d : Nat} {L : mm_L} {Q : mm_Q} {l : List Int32} (h40 : l.length ≤ 40) : ∀ (m x : Nat) (I : mm_I), x + m = l.length → MK l I → (∀ j, j < x → I 18 j = l.getD j 0) → (∀ I', (∀ c, c ≠ 18 → I' c = I c) → (∀ j, j < l.length → I' 18 j = l.getD j 0) → Q I' L 0 0) → mm_W shR (mm_P shR msR d) tbX5_keeps Q 6 [.ref 0, .int (nI x)] [] I L := by
  intro m
  induction m with
  | zero =>
    intro x I hx hM h18 h
    refine mm_hk 60 ?_
    simp only [↓hX5_keeps, ↓uX5_keeps, ↓mm_r, mm_n, iaR, n10, not_true_eq_false, not_false_eq_true, false_implies, lg_cmp_ge, lg_cmp_le, lg_cmp_gt, lg_cmp_lt, lg_cmp_eq, true_and, and_true, true_or, or_true, true_implies, Classical.not_not, List.length_cons, List.length_nil, Nat.lt_iff_add_one_le, Nat.reduceAdd, Nat.reduceLeDiff, Nat.reduceEqDiff, Int.reduceAdd, reduceIte, Nat.reduceSub]
    rw [hM.1, ni_le (by omega) (by omega)]
    exact ⟨fun _ => h I (fun _ _ => rfl) (fun j hj => h18 j (by omega)), fun q => absurd (by omega) q⟩
  | succ m ih =>
    intro x I hx hM h18 h
    refine mm_hk 60 ?_
    simp only [↓hX5_keeps, ↓uX5_keeps, ↓mm_r, mm_n, iaR, n10, not_true_eq_false, not_false_eq_true, false_implies, lg_cmp_ge, lg_cmp_le, lg_cmp_gt, lg_cmp_lt, lg_cmp_eq, true_and, and_true, true_or, or_true, true_implies, Classical.not_not, List.length_cons, List.length_nil, Nat.lt_iff_add_one_le, Nat.reduceAdd, Nat.reduceLeDiff, Nat.reduceEqDiff, Int.reduceAdd, reduceIte, Nat.reduceSub]
    rw [hM.1, ni_le (by omega) (by omega), ni_cl (by omega), hM.2 x (by omega), nI_1]
    refine ⟨fun q => absurd q (by omega), fun _ => ⟨ni_in (by omega) (by omega), ni_in (by omega) (by omega), ?_⟩⟩
    refine ih (x + 1) _ (by omega) ⟨by rw [mm_ui_off _ _ _ (by omega)]; exact hM.1, fun j hj => by rw [mm_ui_off _ _ _ (by omega)]; exact hM.2 j hj⟩ (fun j hj => ?_) (fun I' k1 k2 => h I' (fun c hc => by rw [k1 c hc, mm_ui_off _ _ _ hc]) k2)
    simp only [uia, Nat.reduceEqDiff, reduceIte]
    by_cases e : j = x
    · rw [if_pos e, e]
    · rw [if_neg e]
      exact h18 j (by omega)
set_option maxHeartbeats 4000000 in
set_option maxRecDepth 100000 in
theorem sX5_keeps {d : Nat} {I : mm_I} {L : mm_L} {Q : mm_Q} {l : List Int32} (h40 : l.length ≤ 40) (hM : MK l I) (h : ∀ I', (∀ c, c ≠ 0 → c ≠ 18 → I' c = I c) → (∀ k, k ≠ 33 → I' 0 k = I 0 k) → I' 0 33 = nI l.length → (∀ j, j < l.length → I' 18 j = l.getD j 0) → Q I' L 0 0) : mm_P shR msR (d + 1) 49 [.ref 0] I L Q := by
  refine pX5_keeps ?_
  simp only [↓hX5_keeps, ↓uX5_keeps, ↓mm_r, mm_n, iaR, n10, not_true_eq_false, not_false_eq_true, false_implies, lg_cmp_ge, lg_cmp_le, lg_cmp_gt, lg_cmp_lt, lg_cmp_eq, true_and, and_true, true_or, or_true, true_implies, Classical.not_not, List.length_cons, List.length_nil, Nat.lt_iff_add_one_le, Nat.reduceAdd, Nat.reduceLeDiff, Nat.reduceEqDiff, Int.reduceAdd, reduceIte, Nat.reduceSub]
  rw [nl0, hM.1]
  refine lX5_keeps (l := l) h40 l.length 0 _ (by omega) ⟨?_, fun j hj => ?_⟩ (fun j hj => absurd hj (by omega)) (fun I' k1 k2 => ?_)
  · simp only [uia, Nat.reduceEqDiff, reduceIte]
    exact hM.1
  · rw [mm_ui_off _ _ _ (by omega)]
    exact hM.2 j hj
  · refine h I' (fun c h0 h1 => by rw [k1 c h1, mm_ui_off _ _ _ h0]) (fun k hk => ?_) ?_ k2
    · rw [k1 0 (by omega)]
      simp only [uia, Nat.reduceEqDiff, reduceIte, hk]
    · rw [k1 0 (by omega)]
      simp only [uia, Nat.reduceEqDiff, reduceIte]
