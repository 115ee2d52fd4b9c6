/-! ===== order, the public call, on the left side ===== -/
def OD (b : pb) (n : Nat) (I : mm_I) (L : mm_L) : Prop := if n = 0 then I 13 2 = 0 else match orr b n 0 0 with
  | none => I 13 2 = 0
  | some x => OW b n n I ∧ L 13 3 = lN x
/-- THE ORDER's fields are to be found anew, or right -/
def OC (I : mm_I) (L : mm_L) : Prop := I 13 4 = 0 ∨ OD (bC I) (I 1 4).toNatClampNeg I L
def c13 (I : mm_I) (L : mm_L) (I' : mm_I) (L' : mm_L) : Prop := (∀ b, b ≠ 13 → b ≠ 15 → I' b = I b) ∧ (∀ b, b ≠ 13 → b ≠ 14 → L' b = L b)
theorem c13_b {I I' : mm_I} {L L' : mm_L} (h : c13 I L I' L') : bC I' = bC I := by
  unfold bC
  rw [h.1 2 (by omega) (by omega), h.1 3 (by omega) (by omega), h.1 4 (by omega) (by omega), h.1 5 (by omega) (by omega)]
theorem c13_n {I I' : mm_I} {L L' : mm_L} (h : c13 I L I' L') : I' 1 4 = I 1 4 := by rw [h.1 1 (by omega) (by omega)]
theorem c13_v {I I' : mm_I} {L L' : mm_L} (h : c13 I L I' L') : vC I' = vC I := by
  unfold vC
  rw [h.1 2 (by omega) (by omega), h.1 3 (by omega) (by omega), h.1 4 (by omega) (by omega), h.1 5 (by omega) (by omega), h.1 6 (by omega) (by omega), h.1 1 (by omega) (by omega), h.1 0 (by omega) (by omega)]
set_option maxHeartbeats 4000000 in
set_option maxRecDepth 100000 in
theorem lX2_find {d : Nat} {I : mm_I} {L1 : mm_L} {Q : mm_Q} {n : Nat} (hn : I 1 4 = nI n) (h8 : n ≤ 8) (h2 : I 13 2 = 0) (h : ∀ I' L', c13 I L1 I' L' → OD (bC I) n I' L' → Q I' L' 0 0) : ∀ (m : Nat) (L : mm_L), m ≤ 2 ^ n → l14 L1 L → OT (bC I) n m L → mm_W shC (mm_P shC msC (d + 5)) tbX2_find Q 14 [.ref 13, .ref 1, .int (nI (2 ^ n - 1)), .int (nI m + (-1))] [] I L := by
  have p2 := o_p2 n (by omega)
  intro m
  induction m with
  | zero =>
    intro L hm hL hT
    refine mm_hk 60 ?_
    simp only [↓hX2_find, ↓uX2_find, ↓mm_r, mm_n, iaC, n10, not_true_eq_false, not_false_eq_true, false_implies, lg_cmp_ge, lg_cmp_le, lg_cmp_gt, lg_cmp_lt, lg_cmp_eq, true_and, and_true, true_or, or_true, true_implies, Classical.not_not, List.length_cons, List.length_nil, Nat.lt_iff_add_one_le, Nat.reduceAdd, Nat.reduceLeDiff, Nat.reduceEqDiff, Int.reduceAdd, reduceIte, Nat.reduceSub]
    have hv0 : vp_in 0 2048 := by rw [nl0]; exact ni_in (by omega) (by omega)
    have hc : c13 I L1 I L := ⟨fun _ _ _ => rfl, fun b h1 h2 => hL b h2⟩
    have hz : (I 1 4 ≤ 0) = (n = 0) := by
      rw [hn, nl0, ni_le (by omega) (by omega)]
      exact propext ⟨fun _ => by omega, fun _ => by omega⟩
    refine ⟨fun _ => ⟨fun q => ?_, fun q => ⟨hv0, fun z => ?_, fun z => ⟨hv0, ?_⟩⟩⟩, fun q => absurd (by decide) q⟩
    · rw [hz] at q
      refine h I L hc ?_
      rw [OD, if_pos q]
      exact h2
    · rw [hz] at q
      have hT0 : L 14 0 = oe (orr (bC I) n 0 0) := hT 0 0 (Nat.le_refl 0) p2.1 (by omega) (Or.inr (Or.inl rfl))
      have z : L 14 0 = -1 := z
      rw [hT0] at z
      have z := (oe_m1 (fun x hx => by have := orr_le h8 (by omega) hx; omega)).mp z
      refine h I L hc ?_
      rw [OD, if_neg q, z]
      exact h2
    · rw [hz] at q
      have hT0 : L 14 0 = oe (orr (bC I) n 0 0) := hT 0 0 (Nat.le_refl 0) p2.1 (by omega) (Or.inr (Or.inl rfl))
      have z : ¬ L 14 0 = -1 := z
      rw [hT0] at z
      cases ho : orr (bC I) n 0 0 with
      | none => rw [ho] at z; exact absurd rfl z
      | some x =>
        rw [ho] at hT0
        show mm_P shC msC (d + 5) 25 [.ref 13, .ref 1] I (mm_ul L 13 3 (L 14 0)) _
        rw [hT0]
        refine pX2_follow ?_
        simp only [↓hX2_follow, ↓uX2_follow, ↓mm_r, mm_n, iaC, n10, not_true_eq_false, not_false_eq_true, false_implies, lg_cmp_ge, lg_cmp_le, lg_cmp_gt, lg_cmp_lt, lg_cmp_eq, true_and, and_true, true_or, or_true, true_implies, Classical.not_not, List.length_cons, List.length_nil, Nat.lt_iff_add_one_le, Nat.reduceAdd, Nat.reduceLeDiff, Nat.reduceEqDiff, Int.reduceAdd, reduceIte, Nat.reduceSub]
        refine lX2_follow hn h8 (by omega) ho (fun S l a1 a2 a3 a4 => ?_) (fun I' c1 c2 => ?_) n 0 .null I (by omega) ⟨fun _ _ _ => rfl, fun _ _ => rfl⟩ ⟨h2, fun j hj => absurd hj (by omega)⟩
        · rw [mm_ul_off _ _ _ (by omega)]
          exact hT S l a1 a2 a3 a4
        · refine h I' _ ⟨c1.1, fun b b1 b2 => ?_⟩ ?_
          · rw [mm_ul_off _ _ _ b1]
            exact hL b b2
          · rw [OD, if_neg q, ho]
            exact ⟨c2, rfl⟩
  | succ m ih =>
    intro L hm hL hT
    refine mm_hk 60 ?_
    simp only [↓hX2_find, ↓uX2_find, ↓mm_r, mm_n, iaC, n10, not_true_eq_false, not_false_eq_true, false_implies, lg_cmp_ge, lg_cmp_le, lg_cmp_gt, lg_cmp_lt, lg_cmp_eq, true_and, and_true, true_or, or_true, true_implies, Classical.not_not, List.length_cons, List.length_nil, Nat.lt_iff_add_one_le, Nat.reduceAdd, Nat.reduceLeDiff, Nat.reduceEqDiff, Int.reduceAdd, reduceIte, Nat.reduceSub]
    simp only [pk_m1, ni_0 (a := m) (by omega)]
    rw [show (256 : Int32) = nI 256 by decide +kernel, ni_le (by omega) (by omega)]
    refine ⟨fun q => absurd q (by simp), fun _ => ⟨fun q => absurd q (by omega), fun _ => ?_⟩⟩
    refine sX2_fillRest hn h8 (by omega) hT (fun L' c1 c2 => ?_)
    exact ih L' (by omega) (fun b hb => by rw [c1 b hb]; exact hL b hb) c2
set_option maxHeartbeats 4000000 in
set_option maxRecDepth 100000 in
theorem sX2_find {d : Nat} {I : mm_I} {L : mm_L} {Q : mm_Q} {n : Nat} (hn : I 1 4 = nI n) (h8 : n ≤ 8) (h : ∀ I' L', c13 I L I' L' → OD (bC I) n I' L' → Q I' L' 0 0) : mm_P shC msC (d + 6) 21 [.ref 13, .ref 1] I L Q := by
  have p2 := o_p2 n (by omega)
  refine pX2_find ?_
  simp only [↓hX2_find, ↓uX2_find, ↓mm_r, mm_n, iaC, n10, not_true_eq_false, not_false_eq_true, false_implies, lg_cmp_ge, lg_cmp_le, lg_cmp_gt, lg_cmp_lt, lg_cmp_eq, true_and, and_true, true_or, or_true, true_implies, Classical.not_not, List.length_cons, List.length_nil, Nat.lt_iff_add_one_le, Nat.reduceAdd, Nat.reduceLeDiff, Nat.reduceEqDiff, Int.reduceAdd, reduceIte, Nat.reduceSub]
  refine sX0_everyone ?_
  have e1 : mm_ui (mm_ui I 13 4 1) 13 2 0 1 4 = nI n := by
    rw [mm_ui_off _ _ _ (by omega), mm_ui_off _ _ _ (by omega)]
    exact hn
  have e2 : nI (2 ^ n - 1) = nI (2 ^ n) + (-1) := by
    rw [show 2 ^ n = (2 ^ n - 1) + 1 by omega, pk_m1]
    rfl
  rw [e1, o_all n (by omega)]
  have := lX2_find (d := d) (I := mm_ui (mm_ui I 13 4 1) 13 2 0) (L1 := mm_ul L 13 3 0) (Q := Q) e1 h8 rfl (fun I' L' c1 c2 => h I' L' ⟨fun b b1 b2 => ?_, fun b b1 b2 => ?_⟩ c2) (2 ^ n) (mm_ul L 13 3 0) (Nat.le_refl _) (fun _ _ => rfl) (fun S l a1 a2 => absurd a1 (by omega))
  · rw [← e2] at this
    exact this
  · rw [c1.1 b b1 b2, mm_ui_off _ _ _ b1, mm_ui_off _ _ _ b1]
  · rw [c1.2 b b1 b2, mm_ul_off _ _ _ b1]
theorem od_0 {b : pb} {n : Nat} {I : mm_I} {L : mm_L} {v : pv} {a : Int32} (hb : vb v = b) (hn : (v_n v).toNatClampNeg = n) (h8 : n ≤ 8) (ha : ¬ (a < -1 ∨ 8 ≤ a)) (h : OD b n I L) (h2 : I 13 2 = 0) : q_order v a = (v, -9) := by
  unfold q_order
  rw [if_neg ha, hn, hb]
  by_cases e : n = 0
  · rw [if_pos e]
  · rw [if_neg e]
    rw [OD, if_neg e] at h
    cases ho : orr b n 0 0 with
    | none => rfl
    | some x =>
      rw [ho] at h
      have h3 : I 13 2 = nI n := h.1.1
      rw [h2, nl0, ni_eq (by omega) (by omega)] at h3
      exact absurd h3.symm e
theorem od_1 {b : pb} {n : Nat} {I : mm_I} {L : mm_L} {v : pv} {a : Int32} (hb : vb v = b) (hn : (v_n v).toNatClampNeg = n) (h8 : n ≤ 8) (ha : ¬ (a < -1 ∨ 8 ≤ a)) (h : OD b n I L) (h2 : ¬ I 13 2 = 0) : ∃ x, x ≤ 51539607552 ∧ I 13 2 = nI n ∧ L 13 3 = lN x ∧ (∀ j, j < n → I 15 j = nI (opk b n j)) ∧ q_order v a = (v, if a < 0 then ovr (lN x) else if v_n v ≤ a then -9 else nI (opk b n a.toNatClampNeg)) := by
  by_cases e : n = 0
  · rw [OD, if_pos e] at h
    exact absurd h h2
  · rw [OD, if_neg e] at h
    cases ho : orr b n 0 0 with
    | none => rw [ho] at h; exact absurd h h2
    | some x =>
      rw [ho] at h
      refine ⟨x, orr_le h8 (by omega) ho, h.1.1, h.2, h.1.2, ?_⟩
      unfold q_order
      rw [if_neg ha, hn, hb, if_neg e, ho]
set_option maxHeartbeats 4000000 in
set_option maxRecDepth 100000 in
theorem kX4_order {d : Nat} {I : mm_I} {L : mm_L} {a : Int32} (hv : vok (vC I)) (hc : OC I L) : mm_P shC msC (d + 7) 52 [.ref 0, .int a] I L (fun I' L' ri _ => (vC I', ri) = q_order (vC I) a ∧ c13 I L I' L' ∧ OC I' L') := by
  obtain ⟨n, ns, hn, h8, -⟩ := id hv
  have hn : I 1 4 = nI n := hn
  have hcl : (I 1 4).toNatClampNeg = n := by rw [hn, ni_cl (by omega)]
  have hsame : c13 I L I L := ⟨fun _ _ _ => rfl, fun _ _ _ => rfl⟩
  refine pX4_order ?_
  simp only [↓uX4_order, ↓mm_r, mm_n, iaC, n10, not_true_eq_false, not_false_eq_true, false_implies, lg_cmp_ge, lg_cmp_le, lg_cmp_gt, lg_cmp_lt, lg_cmp_eq, true_and, and_true, true_or, or_true, true_implies, Classical.not_not, List.length_cons, List.length_nil, Nat.lt_iff_add_one_le, Nat.reduceAdd, Nat.reduceLeDiff, Nat.reduceEqDiff, Int.reduceAdd, reduceIte, Nat.reduceSub]
  have tail : ¬ (a < -1 ∨ 8 ≤ a) → ∀ I' L', c13 I L I' L' → OD (bC I) n I' L' → (I' 13 2 = 0 → ((vC I', (-9 : Int32)) = q_order (vC I) a ∧ c13 I L I' L' ∧ OC I' L')) ∧ (¬ I' 13 2 = 0 → (a < I' 13 2 → (0 ≤ a → vp_in a 8 ∧ ((vC I', I' 15 a.toNatClampNeg) = q_order (vC I) a ∧ c13 I L I' L' ∧ OC I' L')) ∧ (¬ 0 ≤ a → mm_P shC msC (d + 6) 64 [.long (L' 13 3)] I' L' (fun I' L' ri _ => (vC I', ri) = q_order (vC I) a ∧ c13 I L I' L' ∧ OC I' L'))) ∧ (¬ a < I' 13 2 → ((vC I', (-9 : Int32)) = q_order (vC I) a ∧ c13 I L I' L' ∧ OC I' L'))) := by
    intro ha I' L' c1 c2
    have hoc : OC I' L' := Or.inr (by rw [c13_b c1, c13_n c1, hcl]; exact c2)
    have hvv := c13_v c1
    refine ⟨fun q => ⟨by rw [od_0 (v := vC I) rfl hcl h8 ha c2 q, hvv], c1, hoc⟩, fun q => ?_⟩
    obtain ⟨x, x1, x2, x3, x4, x5⟩ := od_1 (v := vC I) (a := a) rfl hcl h8 ha c2 q
    have hvn : v_n (vC I) = nI n := hn
    rw [x5, hvv, hvn]
    refine ⟨fun z => ⟨fun z0 => ?_, fun z0 => ?_⟩, fun z => ⟨?_, c1, hoc⟩⟩
    · rw [x2] at z
      obtain ⟨j, j1, rfl⟩ := vi_nI (by omega) z0 z
      refine ⟨ni_in (by omega) (by omega), ?_, c1, hoc⟩
      rw [ni_cl (by omega), x4 j j1, if_neg (by rw [ni_0 (by omega)]; simp), if_neg (by rw [ni_le (by omega) (by omega)]; omega)]
    · have z1 : a < 0 := by grind
      rw [if_pos z1, x3, ovr_fi (by omega)]
      refine sX4_intOrOver (fun f => ⟨?_, c1, hoc⟩) (fun f => ⟨?_, c1, hoc⟩)
      · rw [if_pos f, hvv]
      · rw [if_neg f, hvv]
    · rw [x2] at z
      have z1 : ¬ a < 0 := by
        intro q2
        have := ni_00 (a := n) (by omega)
        have : (0 : Int32) ≤ nI n := by rw [this]; trivial
        grind
      have z2 : nI n ≤ a := by grind
      rw [if_neg z1, if_pos z2]
  refine ⟨fun q => ⟨?_, hsame, hc⟩, fun q => ⟨fun q2 => ⟨fun q3 => ?_, fun q3 => ?_⟩, fun q2 => ⟨?_, hsame, hc⟩⟩⟩
  · unfold q_order
    rw [if_pos (Or.inl q)]
  · have hod : OD (bC I) n I L := by
      rcases hc with q4 | q4
      · exact absurd q4 q3
      · rw [hcl] at q4
        exact q4
    exact tail (by grind) I L hsame hod
  · exact sX2_find hn h8 (fun I' L' c1 c2 => tail (by grind) I' L' c1 c2)
  · unfold q_order
    rw [if_pos (Or.inr (by grind))]
