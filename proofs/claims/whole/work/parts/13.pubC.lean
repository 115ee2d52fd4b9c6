/-! ===== the simple public methods, on the left side ===== -/
/-- what a call may do to what is kept: forget it, or leave it, and the view but for the looks, as it was -/
def kc (I : mm_I) (L : mm_L) (I' : mm_I) (L' : mm_L) : Prop := (I' 13 4 = 0 ∧ I' 16 10 = 0) ∨ ((∃ w : Int32, vC I' = (I 2, I 3, I 4, I 5, I 6, I 1 4, I 0 2, I 0 3, w)) ∧ I' 13 = I 13 ∧ I' 15 = I 15 ∧ I' 16 = I 16 ∧ I' 21 = I 21 ∧ L' 13 = L 13 ∧ L' 16 = L 16)
theorem kcs {I : mm_I} {L : mm_L} : kc I L I L := Or.inr ⟨⟨_, rfl⟩, rfl, rfl, rfl, rfl, rfl, rfl⟩
theorem kcf {I I' : mm_I} {L L' : mm_L} (h1 : I' 13 4 = 0) (h2 : I' 16 10 = 0) : kc I L I' L' := Or.inl ⟨h1, h2⟩
theorem vok_n {v : pv} (h : vok v) : ∃ n : Nat, v_n v = nI n ∧ n ≤ 8 := by
  obtain ⟨n, ns, h1, h2, -⟩ := h
  exact ⟨n, h1, h2⟩
theorem vok_n0 {v : pv} (h : vok v) : 0 ≤ v_n v ∧ v_n v ≤ 8 := by
  obtain ⟨n, h1, h2⟩ := vok_n h
  rw [h1, ni_00 (by omega), nl8, ni_le (by omega) (by omega)]
  exact ⟨trivial, h2⟩
theorem vok_ns0 {v : pv} (h : vok v) : 0 ≤ v_ns v ∧ v_ns v ≤ 40 := by
  obtain ⟨n, ns, -, -, h1, h2, -⟩ := h
  show 0 ≤ v.2.2.2.2.2.2.1 ∧ v.2.2.2.2.2.2.1 ≤ 40
  rw [h1, ni_00 (by omega), nl40, ni_le (by omega) (by omega)]
  exact ⟨trivial, h2⟩

set_option maxHeartbeats 4000000 in
set_option maxRecDepth 100000 in
theorem kX4_scene {d : Nat} {I : mm_I} {L : mm_L} {a b c e : Int32} (hv : vok (vC I)) : mm_P shC msC (d + 2) 36 [.ref 0, .int a, .int b, .int c, .int e] I L (fun I' L' ri _ => (vC I', ri) = q_scene (vC I) a b c e ∧ kc I L I' L') := by
  have hn := vok_n0 hv
  refine pX4_scene ?_
  simp only [↓uX4_scene, ↓mm_r, mm_n, iaC, n10, not_true_eq_false, not_false_eq_true, false_implies, lg_cmp_ge, lg_cmp_le, lg_cmp_gt, lg_cmp_lt, lg_cmp_eq, true_and, and_true, true_or, or_true, true_implies, Classical.not_not, List.length_cons, List.length_nil, Nat.lt_iff_add_one_le, Nat.reduceAdd, Nat.reduceLeDiff, Nat.reduceEqDiff, Int.reduceAdd, reduceIte, Nat.reduceSub]
  have g1 : (b < 1 ∨ ¬ (0 ≤ c ∧ c ≤ 255) ∨ ¬ (0 ≤ e ∧ e ≤ 255)) → (vC I, -2) = q_scene (vC I) a b c e := fun h => by rw [q_scene, if_pos h]
  refine ⟨fun h1 => ⟨g1 (Or.inl h1), kcs⟩, fun h1 => ?_⟩
  refine sX4_isClueSet (fun h2 h3 => ?_) (fun h2 => ?_)
  · simp only [n10, not_false_eq_true, false_implies, true_implies, true_and, and_true, not_true_eq_false]
    refine sX4_isClueSet (fun h4 h5 => ?_) (fun h4 => ?_)
    · simp only [n10, not_false_eq_true, false_implies, true_implies, true_and, and_true, not_true_eq_false]
      have g2 : ¬ (b < 1 ∨ ¬ (0 ≤ c ∧ c ≤ 255) ∨ ¬ (0 ≤ e ∧ e ≤ 255)) := by grind
      refine ⟨fun h6 => ?_, fun h6 => ⟨by rw [q_scene, if_neg g2, if_pos (by show 8 ≤ I 1 4; grind)], kcs⟩⟩
      refine sX4_fitsInt (fun h7 => ?_) (fun h7 => ?_)
      · simp only [n10, not_false_eq_true, false_implies, true_implies, true_and, and_true, not_true_eq_false]
        refine sX4_forgetBest ?_
        refine sX0_append ?_ ?_ ⟨?_, ?_⟩
        · simp only [uia, Nat.reduceEqDiff, reduceIte]
          exact hn.1
        · simp only [uia, Nat.reduceEqDiff, reduceIte]
          grind
        · rw [q_scene, if_neg g2, if_neg (by show ¬ 8 ≤ I 1 4; grind), if_neg (fun q => q h7)]
          simp only [vC, uif, uia, v_n, Nat.reduceEqDiff, reduceIte, upd]
        · refine kcf ?_ ?_
          · simp only [uia, Nat.reduceEqDiff, reduceIte]
          · simp only [uia, Nat.reduceEqDiff, reduceIte]
      · simp only [n10, not_false_eq_true, false_implies, true_implies, true_and, and_true, not_true_eq_false]
        exact ⟨by rw [q_scene, if_neg g2, if_neg (by show ¬ 8 ≤ I 1 4; grind), if_pos h7], kcs⟩
    · simp only [n10, not_false_eq_true, false_implies, true_implies, true_and, and_true, not_true_eq_false]
      exact ⟨g1 (Or.inr (Or.inr h4)), kcs⟩
  · simp only [n10, not_false_eq_true, false_implies, true_implies, true_and, and_true, not_true_eq_false]
    exact ⟨g1 (Or.inr (Or.inl h2)), kcs⟩

set_option maxHeartbeats 4000000 in
set_option maxRecDepth 100000 in
theorem kX4_ofScene {d : Nat} {I : mm_I} {L : mm_L} {k w : Int32} (hv : vok (vC I)) : mm_P shC msC (d + 2) 37 [.ref 0, .int k, .int w] I L (fun I' L' _ rl => (vC I', rl) = q_ofScene (vC I) k w ∧ kc I L I' L') := by
  have hn := vok_n0 hv
  simp only [vC, v_n] at hn
  refine pX4_ofScene ?_
  simp only [↓uX4_ofScene, ↓mm_r, mm_n, iaC, n10, not_true_eq_false, not_false_eq_true, false_implies, lg_cmp_ge, lg_cmp_le, lg_cmp_gt, lg_cmp_lt, lg_cmp_eq, true_and, and_true, true_or, or_true, true_implies, Classical.not_not, List.length_cons, List.length_nil, Nat.lt_iff_add_one_le, Nat.reduceAdd, Nat.reduceLeDiff, Nat.reduceEqDiff, Int.reduceAdd, reduceIte, Nat.reduceSub]
  refine sX0_has (fun h1 h2 h3 => ?_) (fun h1 => ?_)
  · simp only [n10, not_false_eq_true, false_implies, true_implies, true_and, and_true, not_true_eq_false]
    have hi := vi8 h1 h3
    have hs : ¬ ¬ is_sc (vC I) k := fun q => q ⟨h1, h2⟩
    refine ⟨⟨fun q => ⟨hi, ?_, kcs⟩, fun q => ⟨hi, ?_, kcs⟩, fun q => ?_, fun q => ⟨hi, ?_, kcs⟩, fun q => ⟨hi, ?_, kcs⟩⟩, fun q => ⟨?_, kcs⟩⟩
    · subst q
      rw [q_ofScene, if_neg hs, if_pos rfl]
      rfl
    · subst q
      rw [q_ofScene, if_neg hs, if_neg (by decide), if_pos rfl]
      rfl
    · subst q
      refine sX0_endOf h1 h3 ⟨?_, kcs⟩
      rw [q_ofScene, if_neg hs, if_neg (by decide), if_neg (by decide), if_pos rfl]
      rfl
    · subst q
      rw [q_ofScene, if_neg hs, if_neg (by decide), if_neg (by decide), if_neg (by decide), if_pos rfl]
      rfl
    · subst q
      rw [q_ofScene, if_neg hs, if_neg (by decide), if_neg (by decide), if_neg (by decide), if_neg (by decide), if_pos rfl]
      rfl
    · have e : ∀ z : Int32, 0 ≤ z.toInt → z.toInt ≤ 4 → ¬ w = z := fun z h1 h2 hz => by rw [hz] at q; omega
      rw [q_ofScene, if_neg hs, if_neg (e 0 (by decide) (by decide)), if_neg (e 1 (by decide) (by decide)), if_neg (e 2 (by decide) (by decide)), if_neg (e 3 (by decide) (by decide)), if_neg (e 4 (by decide) (by decide))]
  · simp only [n10, not_false_eq_true, false_implies, true_implies, true_and, and_true, not_true_eq_false]
    exact ⟨by rw [q_ofScene, if_pos (fun q => h1 ⟨q.1, q.2, by have q2 := q.2; simp only [vC, v_n] at q2; grind⟩)], kcs⟩

set_option maxHeartbeats 4000000 in
set_option maxRecDepth 100000 in
theorem kX4_move {d : Nat} {I : mm_I} {L : mm_L} {k e : Int32} (hv : vok (vC I)) : mm_P shC msC (d + 3) 38 [.ref 0, .int k, .int e] I L (fun I' L' ri _ => (vC I', ri) = q_move (vC I) k e ∧ kc I L I' L') := by
  have hn := vok_n0 hv
  simp only [vC, v_n] at hn
  refine pX4_move ?_
  simp only [↓uX4_move, ↓mm_r, mm_n, iaC, n10, not_true_eq_false, not_false_eq_true, false_implies, lg_cmp_ge, lg_cmp_le, lg_cmp_gt, lg_cmp_lt, lg_cmp_eq, true_and, and_true, true_or, or_true, true_implies, Classical.not_not, List.length_cons, List.length_nil, Nat.lt_iff_add_one_le, Nat.reduceAdd, Nat.reduceLeDiff, Nat.reduceEqDiff, Int.reduceAdd, reduceIte, Nat.reduceSub]
  refine sX0_has (fun h1 h2 h3 => ?_) (fun h1 => ?_)
  · simp only [n10, not_false_eq_true, false_implies, true_implies, true_and, and_true, not_true_eq_false]
    have hi := vi8 h1 h3
    have hs : ¬ ¬ is_sc (vC I) k := fun q => q ⟨h1, h2⟩
    refine sX0_canMove h1 h2 h3 (fun f1 f2 => ?_) (fun f => ?_)
    · simp only [n10, not_false_eq_true, false_implies, true_implies, true_and, and_true, not_true_eq_false]
      refine ⟨hi, hi, ?_⟩
      refine sX4_forgetBest ⟨?_, kcf ?_ ?_⟩
      · rw [q_move, if_neg hs, if_neg (fun q => q ⟨f1, f2⟩)]
        simp only [vC, uif, uia, Nat.reduceEqDiff, reduceIte, upd]
      · simp only [uia, Nat.reduceEqDiff, reduceIte]
      · simp only [uia, Nat.reduceEqDiff, reduceIte]
    · simp only [n10, not_false_eq_true, false_implies, true_implies, true_and, and_true, not_true_eq_false]
      exact ⟨by rw [q_move, if_neg hs]; exact (if_pos f).symm, kcs⟩
  · simp only [n10, not_false_eq_true, false_implies, true_implies, true_and, and_true, not_true_eq_false]
    exact ⟨by rw [q_move, if_pos (fun q => h1 ⟨q.1, q.2, by have q2 := q.2; simp only [vC, v_n] at q2; grind⟩)], kcs⟩

set_option maxHeartbeats 4000000 in
set_option maxRecDepth 100000 in
theorem kX4_stretch {d : Nat} {I : mm_I} {L : mm_L} {k t : Int32} (hv : vok (vC I)) : mm_P shC msC (d + 2) 40 [.ref 0, .int k, .int t] I L (fun I' L' ri _ => (vC I', ri) = q_stretch (vC I) k t ∧ kc I L I' L') := by
  have hn := vok_n0 hv
  simp only [vC, v_n] at hn
  refine pX4_stretch ?_
  simp only [↓uX4_stretch, ↓mm_r, mm_n, iaC, n10, not_true_eq_false, not_false_eq_true, false_implies, lg_cmp_ge, lg_cmp_le, lg_cmp_gt, lg_cmp_lt, lg_cmp_eq, true_and, and_true, true_or, or_true, true_implies, Classical.not_not, List.length_cons, List.length_nil, Nat.lt_iff_add_one_le, Nat.reduceAdd, Nat.reduceLeDiff, Nat.reduceEqDiff, Int.reduceAdd, reduceIte, Nat.reduceSub]
  refine sX0_has (fun h1 h2 h3 => ?_) (fun h1 => ?_)
  · simp only [n10, not_false_eq_true, false_implies, true_implies, true_and, and_true, not_true_eq_false]
    have hi := vi8 h1 h3
    have hs : ¬ ¬ is_sc (vC I) k := fun q => q ⟨h1, h2⟩
    refine ⟨fun h4 => ?_, fun h4 => ⟨by rw [q_stretch, if_neg hs, if_pos (by grind)], kcs⟩⟩
    refine ⟨hi, ?_⟩
    have h5 : ¬ t < 1 := by grind
    refine sX4_fitsInt (fun f1 => ?_) (fun f1 => ?_)
    · simp only [n10, not_false_eq_true, false_implies, true_implies, true_and, and_true, not_true_eq_false]
      refine ⟨hi, ?_⟩
      refine sX4_fitsInt (fun f2 => ?_) (fun f2 => ?_)
      · simp only [n10, not_false_eq_true, false_implies, true_implies, true_and, and_true, not_true_eq_false]
        refine ⟨hi, ?_⟩
        refine sX4_forgetBest ⟨?_, kcf ?_ ?_⟩
        · rw [q_stretch, if_neg hs, if_neg h5, if_neg (fun q => q ⟨f1, f2⟩)]
          simp only [vC, uif, uia, Nat.reduceEqDiff, reduceIte, upd]
        · simp only [uia, Nat.reduceEqDiff, reduceIte]
        · simp only [uia, Nat.reduceEqDiff, reduceIte]
      · simp only [n10, not_false_eq_true, false_implies, true_implies, true_and, and_true, not_true_eq_false]
        exact ⟨by rw [q_stretch, if_neg hs, if_neg h5, if_pos (fun q => f2 q.2)], kcs⟩
    · simp only [n10, not_false_eq_true, false_implies, true_implies, true_and, and_true, not_true_eq_false]
      exact ⟨by rw [q_stretch, if_neg hs, if_neg h5, if_pos (fun q => f1 q.1)], kcs⟩
  · simp only [n10, not_false_eq_true, false_implies, true_implies, true_and, and_true, not_true_eq_false]
    exact ⟨by rw [q_stretch, if_pos (fun q => h1 ⟨q.1, q.2, by have q2 := q.2; simp only [vC, v_n] at q2; grind⟩)], kcs⟩

set_option maxHeartbeats 4000000 in
set_option maxRecDepth 100000 in
theorem kX4_drop {d : Nat} {I : mm_I} {L : mm_L}  : mm_P shC msC (d + 2) 43 [.ref 0] I L (fun I' L' ri _ => (vC I', ri) = q_drop (vC I) ∧ kc I L I' L') := by
  refine pX4_drop ?_
  simp only [↓uX4_drop, ↓mm_r, mm_n, iaC, n10, not_true_eq_false, not_false_eq_true, false_implies, lg_cmp_ge, lg_cmp_le, lg_cmp_gt, lg_cmp_lt, lg_cmp_eq, true_and, and_true, true_or, or_true, true_implies, Classical.not_not, List.length_cons, List.length_nil, Nat.lt_iff_add_one_le, Nat.reduceAdd, Nat.reduceLeDiff, Nat.reduceEqDiff, Int.reduceAdd, reduceIte, Nat.reduceSub]
  refine ⟨fun h1 => ?_, fun h1 => ⟨by rw [q_drop, if_pos (by show I 1 4 ≤ 0; grind)], kcs⟩⟩
  refine sX4_forgetBest ⟨?_, kcf ?_ ?_⟩
  · rw [q_drop, if_neg (by show ¬ I 1 4 ≤ 0; grind)]
    simp only [vC, v_n, uif, uia, Nat.reduceEqDiff, reduceIte, upd]
  · simp only [uia, Nat.reduceEqDiff, reduceIte]
  · simp only [uia, Nat.reduceEqDiff, reduceIte]

set_option maxHeartbeats 4000000 in
set_option maxRecDepth 100000 in
theorem kX4_fee {d : Nat} {I : mm_I} {L : mm_L} {a : Int32} : mm_P shC msC (d + 2) 44 [.ref 0, .int a] I L (fun I' L' ri _ => (vC I', ri) = q_fee (vC I) a ∧ kc I L I' L') := by
  refine pX4_fee ?_
  simp only [↓uX4_fee, ↓mm_r, mm_n, iaC, n10, not_true_eq_false, not_false_eq_true, false_implies, lg_cmp_ge, lg_cmp_le, lg_cmp_gt, lg_cmp_lt, lg_cmp_eq, true_and, and_true, true_or, or_true, true_implies, Classical.not_not, List.length_cons, List.length_nil, Nat.lt_iff_add_one_le, Nat.reduceAdd, Nat.reduceLeDiff, Nat.reduceEqDiff, Int.reduceAdd, reduceIte, Nat.reduceSub]
  refine ⟨fun h1 => ⟨by rw [q_fee, if_pos (Or.inl h1)], kcs⟩, fun h1 => ⟨fun h2 => ?_, fun h2 => ⟨by rw [q_fee, if_pos (Or.inr (by grind))], kcs⟩⟩⟩
  refine sX4_forgetBest ⟨?_, kcf ?_ ?_⟩
  · rw [q_fee, if_neg (by grind)]
    simp only [vC, v_n, v_ns, v_fee, uif, uia, Nat.reduceEqDiff, reduceIte, upd]
  · simp only [uia, Nat.reduceEqDiff, reduceIte]
  · simp only [uia, Nat.reduceEqDiff, reduceIte]

set_option maxHeartbeats 4000000 in
set_option maxRecDepth 100000 in
theorem kX4_jump {d : Nat} {I : mm_I} {L : mm_L} {a b : Int32} (hv : vok (vC I)) : mm_P shC msC (d + 3) 45 [.ref 0, .int a, .int b] I L (fun I' L' _ rl => (vC I', rl) = q_jump (vC I) a b ∧ kc I L I' L') := by
  have hn := vok_n0 hv
  simp only [vC, v_n] at hn
  refine pX4_jump ?_
  simp only [↓uX4_jump, ↓mm_r, mm_n, iaC, n10, not_true_eq_false, not_false_eq_true, false_implies, lg_cmp_ge, lg_cmp_le, lg_cmp_gt, lg_cmp_lt, lg_cmp_eq, true_and, and_true, true_or, or_true, true_implies, Classical.not_not, List.length_cons, List.length_nil, Nat.lt_iff_add_one_le, Nat.reduceAdd, Nat.reduceLeDiff, Nat.reduceEqDiff, Int.reduceAdd, reduceIte, Nat.reduceSub]
  refine sX0_has (fun h1 h2 h3 => ?_) (fun h1 => ?_)
  · simp only [n10, not_false_eq_true, false_implies, true_implies, true_and, and_true, not_true_eq_false]
    refine sX0_has (fun h4 h5 h6 => ?_) (fun h4 => ?_)
    · simp only [n10, not_false_eq_true, false_implies, true_implies, true_and, and_true, not_true_eq_false]
      refine ⟨fun h7 => ?_, fun h7 => ⟨by rw [q_jump, if_neg (fun q => q.2.2 h7)], kcs⟩⟩
      exact sX0_jumpBetween h1 h2 h3 h4 h5 h6 ⟨by rw [q_jump, if_pos ⟨⟨h1, h2⟩, ⟨h4, h5⟩, h7⟩]; rfl, kcs⟩
    · simp only [n10, not_false_eq_true, false_implies, true_implies, true_and, and_true, not_true_eq_false]
      exact ⟨by rw [q_jump, if_neg (fun q => h4 ⟨q.2.1.1, q.2.1.2, by have q2 := q.2.1.2; simp only [vC, v_n] at q2; grind⟩)], kcs⟩
  · simp only [n10, not_false_eq_true, false_implies, true_implies, true_and, and_true, not_true_eq_false]
    exact ⟨by rw [q_jump, if_neg (fun q => h1 ⟨q.1.1, q.1.2, by have q2 := q.1.2; simp only [vC, v_n] at q2; grind⟩)], kcs⟩

set_option maxHeartbeats 4000000 in
set_option maxRecDepth 100000 in
theorem kX4_add {d : Nat} {I : mm_I} {L : mm_L} {a : Int32} (hv : vok (vC I)) : mm_P shC msC (d + 2) 47 [.ref 0, .int a] I L (fun I' L' ri _ => (vC I', ri) = q_add (vC I) a ∧ kc I L I' L') := by
  have hn := vok_ns0 hv
  simp only [vC, v_ns] at hn
  have go : ((0 ≤ a ∧ a < 8) ∨ a = 20 ∨ a = 21) → I 0 2 < 40 → vp_in (I 0 2) 40 ∧ mm_P shC msC (d + 1) 56 [Value.ref 0] (mm_ui (mm_ui I 6 (I 0 2).toNatClampNeg a) 0 2 (I 0 2 + 1)) L fun I' L' ri rl => (vC I', I' 0 2) = q_add (vC I) a ∧ kc I L I' L' := fun h1 h2 => by
    refine ⟨vi40 hn.1 h2, sX4_forgetBest ⟨?_, kcf ?_ ?_⟩⟩
    · rw [q_add, if_neg (fun q => q h1), if_neg (by show ¬ 40 ≤ I 0 2; grind)]
      simp only [vC, v_n, v_ns, v_fee, uif, uia, Nat.reduceEqDiff, reduceIte, upd]
    · simp only [uia, Nat.reduceEqDiff, reduceIte]
    · simp only [uia, Nat.reduceEqDiff, reduceIte]
  have fu : ((0 ≤ a ∧ a < 8) ∨ a = 20 ∨ a = 21) → ¬ I 0 2 < 40 → (vC I, -4) = q_add (vC I) a ∧ kc I L I L := fun h1 h2 => ⟨by rw [q_add, if_neg (fun q => q h1), if_pos (by show 40 ≤ I 0 2; grind)], kcs⟩
  have ou : ¬ ((0 ≤ a ∧ a < 8) ∨ a = 20 ∨ a = 21) → (vC I, -2) = q_add (vC I) a ∧ kc I L I L := fun h1 => ⟨by rw [q_add, if_pos h1], kcs⟩
  refine pX4_add ?_
  simp only [↓uX4_add, ↓mm_r, mm_n, iaC, n10, not_true_eq_false, not_false_eq_true, false_implies, lg_cmp_ge, lg_cmp_le, lg_cmp_gt, lg_cmp_lt, lg_cmp_eq, true_and, and_true, true_or, or_true, true_implies, Classical.not_not, List.length_cons, List.length_nil, Nat.lt_iff_add_one_le, Nat.reduceAdd, Nat.reduceLeDiff, Nat.reduceEqDiff, Int.reduceAdd, reduceIte, Nat.reduceSub]
  by_cases hc : ((0 ≤ a ∧ a < 8) ∨ a = 20 ∨ a = 21)
  · have g := go hc
    have f := fu hc
    clear go fu ou
    by_cases h40 : I 0 2 < 40
    · have g := g h40
      clear f
      simp only [h40, g, true_implies, not_true_eq_false, false_implies, true_and, and_true, implies_true]
      grind
    · have f := f h40
      clear g
      simp only [h40, f, true_implies, not_true_eq_false, not_false_eq_true, false_implies, true_and, and_true, implies_true]
      grind
  · have o := ou hc
    clear go fu ou
    grind

set_option maxHeartbeats 4000000 in
set_option maxRecDepth 100000 in
theorem kX4_cut {d : Nat} {I : mm_I} {L : mm_L} {a : Int32} : mm_P shC msC (d + 2) 48 [.ref 0, .int a] I L (fun I' L' ri _ => (vC I', ri) = q_cut (vC I) a ∧ kc I L I' L') := by
  refine pX4_cut ?_
  simp only [↓uX4_cut, ↓mm_r, mm_n, iaC, n10, not_true_eq_false, not_false_eq_true, false_implies, lg_cmp_ge, lg_cmp_le, lg_cmp_gt, lg_cmp_lt, lg_cmp_eq, true_and, and_true, true_or, or_true, true_implies, Classical.not_not, List.length_cons, List.length_nil, Nat.lt_iff_add_one_le, Nat.reduceAdd, Nat.reduceLeDiff, Nat.reduceEqDiff, Int.reduceAdd, reduceIte, Nat.reduceSub]
  refine ⟨fun h1 => ⟨by rw [q_cut, if_pos (Or.inl h1)], kcs⟩, fun h1 => ⟨fun h2 => ?_, fun h2 => ⟨by rw [q_cut, if_pos (Or.inr (by show I 0 2 < a; grind))], kcs⟩⟩⟩
  refine sX4_forgetBest ⟨?_, kcf ?_ ?_⟩
  · rw [q_cut, if_neg (by show ¬ (a < 0 ∨ I 0 2 < a); grind)]
    simp only [vC, v_n, v_ns, v_fee, uif, uia, Nat.reduceEqDiff, reduceIte, upd]
  · simp only [uia, Nat.reduceEqDiff, reduceIte]
  · simp only [uia, Nat.reduceEqDiff, reduceIte]

set_option maxHeartbeats 4000000 in
set_option maxRecDepth 100000 in
theorem kX4_clue {d : Nat} {I : mm_I} {L : mm_L} {k c w s : Int32} (hv : vok (vC I)) : mm_P shC msC (d + 2) 41 [.ref 0, .int k, .int c, .int w, .int s] I L (fun I' L' ri _ => (vC I', ri) = q_clue (vC I) k c w s ∧ kc I L I' L') := by
  have hn := vok_n0 hv
  simp only [vC, v_n] at hn
  refine pX4_clue ?_
  simp only [↓uX4_clue, ↓mm_r, mm_n, iaC, n10, not_true_eq_false, not_false_eq_true, false_implies, lg_cmp_ge, lg_cmp_le, lg_cmp_gt, lg_cmp_lt, lg_cmp_eq, true_and, and_true, true_or, or_true, true_implies, Classical.not_not, List.length_cons, List.length_nil, Nat.lt_iff_add_one_le, Nat.reduceAdd, Nat.reduceLeDiff, Nat.reduceEqDiff, Int.reduceAdd, reduceIte, Nat.reduceSub]
  refine sX0_has (fun h1 h2 h3 => ?_) (fun h1 => ?_)
  · simp only [n10, not_false_eq_true, false_implies, true_implies, true_and, and_true, not_true_eq_false]
    have hi := vi8 h1 h3
    refine sX4_isClue (fun h4 h5 => ?_) (fun h4 => ?_)
    · simp only [n10, not_false_eq_true, false_implies, true_implies, true_and, and_true, not_true_eq_false]
      obtain ⟨j, hj, rfl⟩ := vi_nI (n := 8) (by omega) h4 (by rw [← nl8]; exact h5)
      have hs : ¬ ¬ (is_sc (vC I) k ∧ 0 ≤ nI j ∧ nI j < 8) := fun q => q ⟨⟨h1, h2⟩, h4, h5⟩
      simp only [bq_or j hj, bq_and j hj]
      by_cases hw0 : w = 0
      · subst hw0
        simp only [true_implies, not_true_eq_false, false_implies, true_and, and_true, hi]
        by_cases hs0 : s = 0
        · subst hs0
          simp only [true_implies, not_true_eq_false, false_implies, true_and, and_true]
          refine ⟨fun b => ?_, fun b => ⟨?_, kcs⟩⟩
          · refine sX4_forgetBest ⟨?_, kcf ?_ ?_⟩
            · rw [q_clue, if_neg hs, if_neg (fun q => q (Or.inl rfl)), if_pos rfl, if_neg (by simp only [vC]; grind)]
              simp only [vC, v_n, v_ns, v_fee, uif, uia, Nat.reduceEqDiff, reduceIte, upd, not_true_eq_false]
            · simp only [uia, Nat.reduceEqDiff, reduceIte]
            · simp only [uia, Nat.reduceEqDiff, reduceIte]
          · rw [q_clue, if_neg hs, if_neg (fun q => q (Or.inl rfl)), if_pos rfl, if_pos (by simp only [vC]; grind)]
        · simp only [hs0, not_false_eq_true, true_implies, not_true_eq_false, false_implies, true_and, and_true]
          refine ⟨fun b => ?_, fun b => ⟨?_, kcs⟩⟩
          · refine sX4_forgetBest ⟨?_, kcf ?_ ?_⟩
            · rw [q_clue, if_neg hs, if_neg (fun q => q (Or.inl rfl)), if_pos rfl, if_neg (by simp only [vC]; grind)]
              simp only [vC, v_n, v_ns, v_fee, uif, uia, Nat.reduceEqDiff, reduceIte, upd, hs0, not_false_eq_true]
            · simp only [uia, Nat.reduceEqDiff, reduceIte]
            · simp only [uia, Nat.reduceEqDiff, reduceIte]
          · rw [q_clue, if_neg hs, if_neg (fun q => q (Or.inl rfl)), if_pos rfl, if_pos (by simp only [vC]; grind)]
      · by_cases hw1 : w = 1
        · subst hw1
          simp only [n10, not_false_eq_true, true_implies, not_true_eq_false, false_implies, true_and, and_true, hi]
          by_cases hs0 : s = 0
          · subst hs0
            simp only [true_implies, not_true_eq_false, false_implies, true_and, and_true]
            refine ⟨fun b => ?_, fun b => ⟨?_, kcs⟩⟩
            · refine sX4_forgetBest ⟨?_, kcf ?_ ?_⟩
              · rw [q_clue, if_neg hs, if_neg (fun q => q (Or.inr rfl)), if_neg (by decide), if_neg (by simp only [vC]; grind)]
                simp only [vC, v_n, v_ns, v_fee, uif, uia, Nat.reduceEqDiff, reduceIte, upd, not_true_eq_false]
              · simp only [uia, Nat.reduceEqDiff, reduceIte]
              · simp only [uia, Nat.reduceEqDiff, reduceIte]
            · rw [q_clue, if_neg hs, if_neg (fun q => q (Or.inr rfl)), if_neg (by decide), if_pos (by simp only [vC]; grind)]
          · simp only [hs0, not_false_eq_true, true_implies, not_true_eq_false, false_implies, true_and, and_true]
            refine ⟨fun b => ?_, fun b => ⟨?_, kcs⟩⟩
            · refine sX4_forgetBest ⟨?_, kcf ?_ ?_⟩
              · rw [q_clue, if_neg hs, if_neg (fun q => q (Or.inr rfl)), if_neg (by decide), if_neg (by simp only [vC]; grind)]
                simp only [vC, v_n, v_ns, v_fee, uif, uia, Nat.reduceEqDiff, reduceIte, upd, hs0, not_false_eq_true]
              · simp only [uia, Nat.reduceEqDiff, reduceIte]
              · simp only [uia, Nat.reduceEqDiff, reduceIte]
            · rw [q_clue, if_neg hs, if_neg (fun q => q (Or.inr rfl)), if_neg (by decide), if_pos (by simp only [vC]; grind)]
        · simp only [hw0, hw1, not_false_eq_true, true_implies, not_true_eq_false, false_implies, true_and, and_true]
          exact ⟨by rw [q_clue, if_neg hs, if_pos (by grind)], kcs⟩
    · simp only [n10, not_false_eq_true, false_implies, true_implies, true_and, and_true, not_true_eq_false]
      exact ⟨by rw [q_clue, if_pos (fun q => h4 q.2)], kcs⟩
  · simp only [n10, not_false_eq_true, false_implies, true_implies, true_and, and_true, not_true_eq_false]
    exact ⟨by rw [q_clue, if_pos (fun q => h1 ⟨q.1.1, q.1.2, by have q2 := q.1.2; simp only [vC, v_n] at q2; grind⟩)], kcs⟩
