/-! ===== the simple public methods, on the right side ===== -/
theorem n01 : ((0 : Int32) = 1) = False := by decide +kernel
theorem i32_as (a : Int32) : a + 1 - 1 = a := by grind
theorem pj_alt (fr ln : Nat → Int32) (a b : Nat) : (if 0 < (fr b).toInt64 - pe fr ln a then (fr b).toInt64 - pe fr ln a else -((fr b).toInt64 - pe fr ln a)) = if (fr b).toInt64 - pe fr ln a < 0 then -((fr b).toInt64 - pe fr ln a) else (fr b).toInt64 - pe fr ln a := by
  generalize (fr b).toInt64 - pe fr ln a = x
  by_cases h : x < 0
  · rw [if_neg (by grind), if_pos h]
  · by_cases h2 : 0 < x
    · rw [if_pos h2, if_neg (by grind)]
    · have : x = 0 := by grind
      subst this
      rfl
set_option maxHeartbeats 4000000 in
set_option maxRecDepth 100000 in
theorem sX5_within {d : Nat} {I : mm_I} {L : mm_L} {Q : mm_Q} {a b c : Int32} (h1 : b ≤ a → a ≤ c → Q I L 1 0) (h0 : ¬ (b ≤ a ∧ a ≤ c) → Q I L 0 0): mm_P shR msR (d + 1) 0 [.int a, .int b, .int c] I L Q := by
  refine pX5_within ?_
  simp only [↓uX5_within, ↓mm_r, mm_n, iaR, n10, not_true_eq_false, not_false_eq_true, false_implies, lg_cmp_ge, lg_cmp_le, lg_cmp_gt, lg_cmp_lt, lg_cmp_eq, true_and, and_true, true_or, or_true, true_implies, Classical.not_not, List.length_cons, List.length_nil, Nat.lt_iff_add_one_le, Nat.reduceAdd, Nat.reduceLeDiff, Nat.reduceEqDiff, Int.reduceAdd, reduceIte, Nat.reduceSub]
  grind

set_option maxHeartbeats 4000000 in
set_option maxRecDepth 100000 in
theorem sX5_isInt {d : Nat} {I : mm_I} {L : mm_L} {Q : mm_Q} {v : Int64} (h1 : fi v → Q I L 1 0) (h0 : ¬ fi v → Q I L 0 0): mm_P shR msR (d + 1) 1 [.long v] I L Q := by
  refine pX5_isInt ?_
  unfold fi at h1 h0
  simp only [↓uX5_isInt, ↓mm_r, mm_n, iaR, n10, not_true_eq_false, not_false_eq_true, false_implies, lg_cmp_ge, lg_cmp_le, lg_cmp_gt, lg_cmp_lt, lg_cmp_eq, true_and, and_true, true_or, or_true, true_implies, Classical.not_not, List.length_cons, List.length_nil, Nat.lt_iff_add_one_le, Nat.reduceAdd, Nat.reduceLeDiff, Nat.reduceEqDiff, Int.reduceAdd, reduceIte, Nat.reduceSub]
  grind

set_option maxHeartbeats 4000000 in
set_option maxRecDepth 100000 in
theorem sX5_isScene {d : Nat} {I : mm_I} {L : mm_L} {Q : mm_Q} {k : Int32} (hn : 0 ≤ I 0 0) (h1 : 0 ≤ k → k < I 0 0 → Q I L 1 0) (h0 : ¬ (0 ≤ k ∧ k < I 0 0) → Q I L 0 0): mm_P shR msR (d + 2) 2 [.ref 0, .int k] I L Q := by
  refine pX5_isScene ?_
  simp only [↓uX5_isScene, ↓mm_r, mm_n, iaR, n10, not_true_eq_false, not_false_eq_true, false_implies, lg_cmp_ge, lg_cmp_le, lg_cmp_gt, lg_cmp_lt, lg_cmp_eq, true_and, and_true, true_or, or_true, true_implies, Classical.not_not, List.length_cons, List.length_nil, Nat.lt_iff_add_one_le, Nat.reduceAdd, Nat.reduceLeDiff, Nat.reduceEqDiff, Int.reduceAdd, reduceIte, Nat.reduceSub]
  refine sX5_within (fun a b => ?_) (fun a => ?_)
  · simp only [n10, not_false_eq_true, false_implies, true_implies, true_and, and_true, not_true_eq_false]
    have : k < I 0 0 := by grind
    grind
  · simp only [n10, not_false_eq_true, false_implies, true_implies, true_and, and_true, not_true_eq_false]
    have : ¬ (0 ≤ k ∧ k < I 0 0) := by grind
    grind

set_option maxHeartbeats 4000000 in
set_option maxRecDepth 100000 in
theorem sX5_isClue {d : Nat} {I : mm_I} {L : mm_L} {Q : mm_Q} {k : Int32} (h1 : 0 ≤ k → k < 8 → Q I L 1 0) (h0 : ¬ (0 ≤ k ∧ k < 8) → Q I L 0 0): mm_P shR msR (d + 2) 3 [.int k] I L Q := by
  refine pX5_isClue ?_
  simp only [↓uX5_isClue, ↓mm_r, mm_n, iaR, n10, not_true_eq_false, not_false_eq_true, false_implies, lg_cmp_ge, lg_cmp_le, lg_cmp_gt, lg_cmp_lt, lg_cmp_eq, true_and, and_true, true_or, or_true, true_implies, Classical.not_not, List.length_cons, List.length_nil, Nat.lt_iff_add_one_le, Nat.reduceAdd, Nat.reduceLeDiff, Nat.reduceEqDiff, Int.reduceAdd, reduceIte, Nat.reduceSub]
  refine sX5_within (fun a b => ?_) (fun a => ?_)
  · simp only [n10, not_false_eq_true, false_implies, true_implies, true_and, and_true, not_true_eq_false]
    have : k < 8 := by grind
    grind
  · simp only [n10, not_false_eq_true, false_implies, true_implies, true_and, and_true, not_true_eq_false]
    have : ¬ (0 ≤ k ∧ k < 8) := by grind
    grind

set_option maxHeartbeats 4000000 in
set_option maxRecDepth 100000 in
theorem sX5_endOf {d : Nat} {I : mm_I} {L : mm_L} {Q : mm_Q} {k : Int32} (h0 : 0 ≤ k) (h8 : k < 8) (h : Q I L 0 (pe (I 1) (I 2) k.toNatClampNeg)): mm_P shR msR (d + 1) 4 [.ref 0, .int k] I L Q := by
  refine pX5_endOf ?_
  simp only [↓uX5_endOf, ↓mm_r, mm_n, iaR, n10, not_true_eq_false, not_false_eq_true, false_implies, lg_cmp_ge, lg_cmp_le, lg_cmp_gt, lg_cmp_lt, lg_cmp_eq, true_and, and_true, true_or, or_true, true_implies, Classical.not_not, List.length_cons, List.length_nil, Nat.lt_iff_add_one_le, Nat.reduceAdd, Nat.reduceLeDiff, Nat.reduceEqDiff, Int.reduceAdd, reduceIte, Nat.reduceSub]
  have hv := vi8 h0 h8
  unfold pe at h
  grind

set_option maxHeartbeats 4000000 in
set_option maxRecDepth 100000 in
theorem sX5_mayMove {d : Nat} {I : mm_I} {L : mm_L} {Q : mm_Q} {k e : Int32} (hk : 0 ≤ k) (h8 : k < 8) (h1 : fi ((I 1 k.toNatClampNeg).toInt64 + e.toInt64) → fi (pe (I 1) (I 2) k.toNatClampNeg + e.toInt64) → Q I L 1 0) (h0 : ¬ (fi ((I 1 k.toNatClampNeg).toInt64 + e.toInt64) ∧ fi (pe (I 1) (I 2) k.toNatClampNeg + e.toInt64)) → Q I L 0 0): mm_P shR msR (d + 2) 7 [.ref 0, .int k, .int e] I L Q := by
  refine pX5_mayMove ?_
  simp only [↓uX5_mayMove, ↓mm_r, mm_n, iaR, n10, not_true_eq_false, not_false_eq_true, false_implies, lg_cmp_ge, lg_cmp_le, lg_cmp_gt, lg_cmp_lt, lg_cmp_eq, true_and, and_true, true_or, or_true, true_implies, Classical.not_not, List.length_cons, List.length_nil, Nat.lt_iff_add_one_le, Nat.reduceAdd, Nat.reduceLeDiff, Nat.reduceEqDiff, Int.reduceAdd, reduceIte, Nat.reduceSub]
  have hv := vi8 hk h8
  refine ⟨hv, ?_⟩
  refine sX5_isInt (fun f1 => ?_) (fun f1 => ?_)
  · simp only [n10, not_false_eq_true, false_implies, true_implies, true_and, and_true, not_true_eq_false]
    refine sX5_endOf hk h8 ?_
    refine sX5_isInt (fun f2 => ?_) (fun f2 => ?_)
    · simp only [n10, not_false_eq_true, false_implies, true_implies, true_and, and_true, not_true_eq_false]
      exact h1 f1 f2
    · simp only [n10, not_false_eq_true, false_implies, true_implies, true_and, and_true, not_true_eq_false]
      exact h0 (fun q => f2 q.2)
  · simp only [n10, not_false_eq_true, false_implies, true_implies, true_and, and_true, not_true_eq_false]
    exact h0 (fun q => f1 q.1)

set_option maxHeartbeats 4000000 in
set_option maxRecDepth 100000 in
theorem sX5_jumpOf {d : Nat} {I : mm_I} {L : mm_L} {Q : mm_Q} {a b : Int32} (ha : 0 ≤ a) (ha8 : a < 8) (hb : 0 ≤ b) (hb8 : b < 8) (h : Q I L 0 (pj (I 1) (I 2) a.toNatClampNeg b.toNatClampNeg)): mm_P shR msR (d + 2) 16 [.ref 0, .int a, .int b] I L Q := by
  refine pX5_jumpOf ?_
  simp only [↓uX5_jumpOf, ↓mm_r, mm_n, iaR, n10, not_true_eq_false, not_false_eq_true, false_implies, lg_cmp_ge, lg_cmp_le, lg_cmp_gt, lg_cmp_lt, lg_cmp_eq, true_and, and_true, true_or, or_true, true_implies, Classical.not_not, List.length_cons, List.length_nil, Nat.lt_iff_add_one_le, Nat.reduceAdd, Nat.reduceLeDiff, Nat.reduceEqDiff, Int.reduceAdd, reduceIte, Nat.reduceSub]
  have hv := vi8 hb hb8
  refine ⟨hv, sX5_endOf ha ha8 ?_⟩
  unfold pj at h
  refine ⟨fun q => ?_, fun q => ?_⟩
  · rw [pj_alt]  at h
    rw [if_neg (by grind)] at h
    exact h
  · rw [pj_alt] at h
    rw [if_pos (by grind)] at h
    exact h

set_option maxHeartbeats 4000000 in
set_option maxRecDepth 100000 in
theorem sX5_sideBy {d : Nat} {I : mm_I} {L : mm_L} {Q : mm_Q} {k t : Int32} (ha : 0 ≤ k) (ha8 : k < 8) (hb : 0 ≤ t) (hb8 : t < 8) (h : Q I L (ps (I 1) (I 2) k.toNatClampNeg t.toNatClampNeg) 0): mm_P shR msR (d + 2) 26 [.ref 0, .int k, .int t] I L Q := by
  refine pX5_sideBy ?_
  simp only [↓uX5_sideBy, ↓mm_r, mm_n, iaR, n10, not_true_eq_false, not_false_eq_true, false_implies, lg_cmp_ge, lg_cmp_le, lg_cmp_gt, lg_cmp_lt, lg_cmp_eq, true_and, and_true, true_or, or_true, true_implies, Classical.not_not, List.length_cons, List.length_nil, Nat.lt_iff_add_one_le, Nat.reduceAdd, Nat.reduceLeDiff, Nat.reduceEqDiff, Int.reduceAdd, reduceIte, Nat.reduceSub]
  have hv := vi8 hb hb8
  have hv2 := vi8 ha ha8
  refine sX5_endOf ha ha8 ⟨hv, ?_, ?_⟩
  · intro h1
    refine ⟨hv2, ?_⟩
    refine sX5_endOf hb hb8 ⟨fun h2 => ?_, fun h2 => ?_⟩
    · unfold ps at h
      rw [if_neg (by grind), if_neg (by grind)] at h
      exact h
    · unfold ps at h
      rw [if_neg (by grind), if_pos (by grind)] at h
      exact h
  · intro h1
    unfold ps at h
    rw [if_pos (by grind)] at h
    exact h

set_option maxHeartbeats 4000000 in
set_option maxRecDepth 100000 in
theorem sX5_jumpsOf {d : Nat} {I : mm_I} {L : mm_L} {Q : mm_Q} {v : Int64} (h1 : 2147483647 < v → Q I L (-5) 0) (h0 : ¬ 2147483647 < v → Q I L v.toInt32 0): mm_P shR msR (d + 1) 36 [.long v] I L Q := by
  refine pX5_jumpsOf ?_
  simp only [↓uX5_jumpsOf, ↓mm_r, mm_n, iaR, n10, not_true_eq_false, not_false_eq_true, false_implies, lg_cmp_ge, lg_cmp_le, lg_cmp_gt, lg_cmp_lt, lg_cmp_eq, true_and, and_true, true_or, or_true, true_implies, Classical.not_not, List.length_cons, List.length_nil, Nat.lt_iff_add_one_le, Nat.reduceAdd, Nat.reduceLeDiff, Nat.reduceEqDiff, Int.reduceAdd, reduceIte, Nat.reduceSub]
  grind

set_option maxHeartbeats 4000000 in
set_option maxRecDepth 100000 in
theorem kX5_scene {d : Nat} {I : mm_I} {L : mm_L} {a b c e : Int32} (hv : vok (vR I)) : mm_P shR msR (d + 2) 5 [.ref 0, .int a, .int b, .int c, .int e] I L (fun I' _ ri _ => (vR I', ri) = q_scene (vR I) a b c e) := by
  have hn := vok_n0 hv
  simp only [vR, v_n] at hn
  refine pX5_scene ?_
  simp only [↓uX5_scene, ↓mm_r, mm_n, iaR, n10, not_true_eq_false, not_false_eq_true, false_implies, lg_cmp_ge, lg_cmp_le, lg_cmp_gt, lg_cmp_lt, lg_cmp_eq, true_and, and_true, true_or, or_true, true_implies, Classical.not_not, List.length_cons, List.length_nil, Nat.lt_iff_add_one_le, Nat.reduceAdd, Nat.reduceLeDiff, Nat.reduceEqDiff, Int.reduceAdd, reduceIte, Nat.reduceSub]
  have g1 : (b < 1 ∨ ¬ (0 ≤ c ∧ c ≤ 255) ∨ ¬ (0 ≤ e ∧ e ≤ 255)) → (vR I, -2) = q_scene (vR I) a b c e := fun h => by rw [q_scene, if_pos h]
  refine ⟨fun h1 => g1 (Or.inl h1), fun h1 => ?_⟩
  refine sX5_within (fun h2 h3 => ?_) (fun h2 => ?_)
  · simp only [n10, not_false_eq_true, false_implies, true_implies, true_and, and_true, not_true_eq_false]
    refine sX5_within (fun h4 h5 => ?_) (fun h4 => ?_)
    · simp only [n10, not_false_eq_true, false_implies, true_implies, true_and, and_true, not_true_eq_false]
      have g2 : ¬ (b < 1 ∨ ¬ (0 ≤ c ∧ c ≤ 255) ∨ ¬ (0 ≤ e ∧ e ≤ 255)) := by grind
      refine ⟨fun h6 => ?_, fun h6 => by rw [q_scene, if_neg g2, if_pos (by show 8 ≤ I 0 0; grind)]⟩
      have hi := vi8 hn.1 (show I 0 0 < 8 by grind)
      refine sX5_isInt (fun h7 => ?_) (fun h7 => ?_)
      · simp only [n10, not_false_eq_true, false_implies, true_implies, true_and, and_true, not_true_eq_false]
        refine ⟨hi, hi, hi, hi, ?_⟩
        rw [q_scene, if_neg g2, if_neg (by show ¬ 8 ≤ I 0 0; grind), if_neg (fun q => q h7)]
        simp only [vR, uif, uia, v_n, Nat.reduceEqDiff, reduceIte, upd, i32_as]
      · simp only [n10, not_false_eq_true, false_implies, true_implies, true_and, and_true, not_true_eq_false]
        rw [q_scene, if_neg g2, if_neg (by show ¬ 8 ≤ I 0 0; grind), if_pos h7]
    · simp only [n10, not_false_eq_true, false_implies, true_implies, true_and, and_true, not_true_eq_false]
      exact g1 (Or.inr (Or.inr h4))
  · simp only [n10, not_false_eq_true, false_implies, true_implies, true_and, and_true, not_true_eq_false]
    exact g1 (Or.inr (Or.inl h2))

set_option maxHeartbeats 4000000 in
set_option maxRecDepth 100000 in
theorem kX5_ofScene {d : Nat} {I : mm_I} {L : mm_L} {k w : Int32} (hv : vok (vR I)) : mm_P shR msR (d + 3) 6 [.ref 0, .int k, .int w] I L (fun I' _ _ rl => (vR I', rl) = q_ofScene (vR I) k w) := by
  have hn := vok_n0 hv
  simp only [vR, v_n] at hn
  refine pX5_ofScene ?_
  simp only [↓uX5_ofScene, ↓mm_r, mm_n, iaR, n10, not_true_eq_false, not_false_eq_true, false_implies, lg_cmp_ge, lg_cmp_le, lg_cmp_gt, lg_cmp_lt, lg_cmp_eq, true_and, and_true, true_or, or_true, true_implies, Classical.not_not, List.length_cons, List.length_nil, Nat.lt_iff_add_one_le, Nat.reduceAdd, Nat.reduceLeDiff, Nat.reduceEqDiff, Int.reduceAdd, reduceIte, Nat.reduceSub]
  refine sX5_isScene hn.1 (fun h1 h2 => ?_) (fun h1 => ?_)
  · simp only [n10, not_false_eq_true, false_implies, true_implies, true_and, and_true, not_true_eq_false]
    have h3 : k < 8 := by grind
    have hi := vi8 h1 h3
    have hs : ¬ ¬ is_sc (vR I) k := fun q => q ⟨h1, h2⟩
    refine ⟨⟨fun q => ⟨hi, ?_⟩, fun q => ⟨hi, ?_⟩, fun q => ?_, fun q => ⟨hi, ?_⟩, fun q => ⟨hi, ?_⟩⟩, fun q => ?_⟩
    · subst q
      rw [q_ofScene, if_neg hs, if_pos rfl]
      rfl
    · subst q
      rw [q_ofScene, if_neg hs, if_neg (by decide), if_pos rfl]
      rfl
    · subst q
      refine sX5_endOf h1 h3 ?_
      rw [q_ofScene, if_neg hs, if_neg (by decide), if_neg (by decide), if_pos rfl]
      rfl
    · subst q
      rw [q_ofScene, if_neg hs, if_neg (by decide), if_neg (by decide), if_neg (by decide), if_pos rfl]
      rfl
    · subst q
      rw [q_ofScene, if_neg hs, if_neg (by decide), if_neg (by decide), if_neg (by decide), if_neg (by decide), if_pos rfl]
      rfl
    · have e : ∀ z : Int32, 0 ≤ z.toInt → z.toInt ≤ 4 → ¬ w = z := fun z h1 h2 hz => by rw [hz] at q; omega
      rw [q_ofScene, if_neg hs, if_neg (e 0 (by decide) (by decide)), if_neg (e 1 (by decide) (by decide)), if_neg (e 2 (by decide) (by decide)), if_neg (e 3 (by decide) (by decide)), if_neg (e 4 (by decide) (by decide))]
  · simp only [n10, not_false_eq_true, false_implies, true_implies, true_and, and_true, not_true_eq_false]
    rw [q_ofScene, if_pos (show ¬ is_sc (vR I) k from h1)]

set_option maxHeartbeats 4000000 in
set_option maxRecDepth 100000 in
theorem kX5_move {d : Nat} {I : mm_I} {L : mm_L} {k e : Int32} (hv : vok (vR I)) : mm_P shR msR (d + 3) 8 [.ref 0, .int k, .int e] I L (fun I' _ ri _ => (vR I', ri) = q_move (vR I) k e) := by
  have hn := vok_n0 hv
  simp only [vR, v_n] at hn
  refine pX5_move ?_
  simp only [↓uX5_move, ↓mm_r, mm_n, iaR, n10, not_true_eq_false, not_false_eq_true, false_implies, lg_cmp_ge, lg_cmp_le, lg_cmp_gt, lg_cmp_lt, lg_cmp_eq, true_and, and_true, true_or, or_true, true_implies, Classical.not_not, List.length_cons, List.length_nil, Nat.lt_iff_add_one_le, Nat.reduceAdd, Nat.reduceLeDiff, Nat.reduceEqDiff, Int.reduceAdd, reduceIte, Nat.reduceSub]
  refine sX5_isScene hn.1 (fun h1 h2 => ?_) (fun h1 => ?_)
  · simp only [n10, not_false_eq_true, false_implies, true_implies, true_and, and_true, not_true_eq_false]
    have h3 : k < 8 := by grind
    have hi := vi8 h1 h3
    have hs : ¬ ¬ is_sc (vR I) k := fun q => q ⟨h1, h2⟩
    refine sX5_mayMove h1 h3 (fun f1 f2 => ?_) (fun f => ?_)
    · simp only [n10, not_false_eq_true, false_implies, true_implies, true_and, and_true, not_true_eq_false]
      refine ⟨hi, hi, ?_⟩
      rw [q_move, if_neg hs, if_neg (fun q => q ⟨f1, f2⟩)]
      simp only [vR, uif, uia, Nat.reduceEqDiff, reduceIte, upd]
    · simp only [n10, not_false_eq_true, false_implies, true_implies, true_and, and_true, not_true_eq_false]
      rw [q_move, if_neg hs]
      exact (if_pos f).symm
  · simp only [n10, not_false_eq_true, false_implies, true_implies, true_and, and_true, not_true_eq_false]
    rw [q_move, if_pos (show ¬ is_sc (vR I) k from h1)]

set_option maxHeartbeats 4000000 in
set_option maxRecDepth 100000 in
theorem kX5_stretch {d : Nat} {I : mm_I} {L : mm_L} {k t : Int32} (hv : vok (vR I)) : mm_P shR msR (d + 3) 10 [.ref 0, .int k, .int t] I L (fun I' _ ri _ => (vR I', ri) = q_stretch (vR I) k t) := by
  have hn := vok_n0 hv
  simp only [vR, v_n] at hn
  refine pX5_stretch ?_
  simp only [↓uX5_stretch, ↓mm_r, mm_n, iaR, n10, not_true_eq_false, not_false_eq_true, false_implies, lg_cmp_ge, lg_cmp_le, lg_cmp_gt, lg_cmp_lt, lg_cmp_eq, true_and, and_true, true_or, or_true, true_implies, Classical.not_not, List.length_cons, List.length_nil, Nat.lt_iff_add_one_le, Nat.reduceAdd, Nat.reduceLeDiff, Nat.reduceEqDiff, Int.reduceAdd, reduceIte, Nat.reduceSub]
  refine sX5_isScene hn.1 (fun h1 h2 => ?_) (fun h1 => ?_)
  · simp only [n10, not_false_eq_true, false_implies, true_implies, true_and, and_true, not_true_eq_false]
    have h3 : k < 8 := by grind
    have hi := vi8 h1 h3
    have hs : ¬ ¬ is_sc (vR I) k := fun q => q ⟨h1, h2⟩
    refine ⟨fun h4 => ?_, fun h4 => by rw [q_stretch, if_neg hs, if_pos (by grind)]⟩
    refine ⟨hi, ?_⟩
    have h5 : ¬ t < 1 := by grind
    refine sX5_isInt (fun f1 => ?_) (fun f1 => ?_)
    · simp only [n10, not_false_eq_true, false_implies, true_implies, true_and, and_true, not_true_eq_false]
      refine ⟨hi, ?_⟩
      refine sX5_isInt (fun f2 => ?_) (fun f2 => ?_)
      · simp only [n10, not_false_eq_true, false_implies, true_implies, true_and, and_true, not_true_eq_false]
        refine ⟨hi, ?_⟩
        rw [q_stretch, if_neg hs, if_neg h5, if_neg (fun q => q ⟨f1, f2⟩)]
        simp only [vR, uif, uia, Nat.reduceEqDiff, reduceIte, upd]
      · simp only [n10, not_false_eq_true, false_implies, true_implies, true_and, and_true, not_true_eq_false]
        rw [q_stretch, if_neg hs, if_neg h5, if_pos (fun q => f2 q.2)]
    · simp only [n10, not_false_eq_true, false_implies, true_implies, true_and, and_true, not_true_eq_false]
      rw [q_stretch, if_neg hs, if_neg h5, if_pos (fun q => f1 q.1)]
  · simp only [n10, not_false_eq_true, false_implies, true_implies, true_and, and_true, not_true_eq_false]
    rw [q_stretch, if_pos (show ¬ is_sc (vR I) k from h1)]

set_option maxHeartbeats 4000000 in
set_option maxRecDepth 100000 in
theorem kX5_drop {d : Nat} {I : mm_I} {L : mm_L}  (hv : vok (vR I)) : mm_P shR msR (d + 1) 14 [.ref 0] I L (fun I' _ ri _ => (vR I', ri) = q_drop (vR I)) := by
  have hn := vok_n0 hv
  simp only [vR, v_n] at hn
  refine pX5_drop ?_
  simp only [↓uX5_drop, ↓mm_r, mm_n, iaR, n10, not_true_eq_false, not_false_eq_true, false_implies, lg_cmp_ge, lg_cmp_le, lg_cmp_gt, lg_cmp_lt, lg_cmp_eq, true_and, and_true, true_or, or_true, true_implies, Classical.not_not, List.length_cons, List.length_nil, Nat.lt_iff_add_one_le, Nat.reduceAdd, Nat.reduceLeDiff, Nat.reduceEqDiff, Int.reduceAdd, reduceIte, Nat.reduceSub]
  refine ⟨fun h1 => ?_, fun h1 => by rw [q_drop, if_pos (by show I 0 0 ≤ 0; grind)]⟩
  rw [q_drop, if_neg (by show ¬ I 0 0 ≤ 0; grind)]
  simp only [vR, v_n, uif, uia, Nat.reduceEqDiff, reduceIte, upd]

set_option maxHeartbeats 4000000 in
set_option maxRecDepth 100000 in
theorem kX5_fee {d : Nat} {I : mm_I} {L : mm_L} {a : Int32} : mm_P shR msR (d + 2) 15 [.ref 0, .int a] I L (fun I' _ ri _ => (vR I', ri) = q_fee (vR I) a) := by
  refine pX5_fee ?_
  simp only [↓uX5_fee, ↓mm_r, mm_n, iaR, n10, not_true_eq_false, not_false_eq_true, false_implies, lg_cmp_ge, lg_cmp_le, lg_cmp_gt, lg_cmp_lt, lg_cmp_eq, true_and, and_true, true_or, or_true, true_implies, Classical.not_not, List.length_cons, List.length_nil, Nat.lt_iff_add_one_le, Nat.reduceAdd, Nat.reduceLeDiff, Nat.reduceEqDiff, Int.reduceAdd, reduceIte, Nat.reduceSub]
  refine sX5_within (fun h1 h2 => ?_) (fun h1 => ?_)
  · simp only [n10, not_false_eq_true, false_implies, true_implies, true_and, and_true, not_true_eq_false]
    rw [q_fee, if_neg (by grind)]
    simp only [vR, v_n, v_ns, v_fee, uif, uia, Nat.reduceEqDiff, reduceIte, upd]
  · simp only [n10, not_false_eq_true, false_implies, true_implies, true_and, and_true, not_true_eq_false]
    rw [q_fee, if_pos (by grind)]

set_option maxHeartbeats 4000000 in
set_option maxRecDepth 100000 in
theorem kX5_jump {d : Nat} {I : mm_I} {L : mm_L} {a b : Int32} (hv : vok (vR I)) : mm_P shR msR (d + 3) 17 [.ref 0, .int a, .int b] I L (fun I' _ _ rl => (vR I', rl) = q_jump (vR I) a b) := by
  have hn := vok_n0 hv
  simp only [vR, v_n] at hn
  refine pX5_jump ?_
  simp only [↓uX5_jump, ↓mm_r, mm_n, iaR, n10, not_true_eq_false, not_false_eq_true, false_implies, lg_cmp_ge, lg_cmp_le, lg_cmp_gt, lg_cmp_lt, lg_cmp_eq, true_and, and_true, true_or, or_true, true_implies, Classical.not_not, List.length_cons, List.length_nil, Nat.lt_iff_add_one_le, Nat.reduceAdd, Nat.reduceLeDiff, Nat.reduceEqDiff, Int.reduceAdd, reduceIte, Nat.reduceSub]
  refine sX5_isScene hn.1 (fun h1 h2 => ?_) (fun h1 => ?_)
  · simp only [n10, not_false_eq_true, false_implies, true_implies, true_and, and_true, not_true_eq_false]
    refine sX5_isScene hn.1 (fun h4 h5 => ?_) (fun h4 => ?_)
    · simp only [n10, not_false_eq_true, false_implies, true_implies, true_and, and_true, not_true_eq_false]
      refine ⟨fun h7 => by rw [q_jump, if_neg (fun q => q.2.2 h7)], fun h7 => ?_⟩
      refine sX5_jumpOf h1 (by grind) h4 (by grind) ?_
      rw [q_jump, if_pos ⟨⟨h1, h2⟩, ⟨h4, h5⟩, h7⟩]
      rfl
    · simp only [n10, not_false_eq_true, false_implies, true_implies, true_and, and_true, not_true_eq_false]
      rw [q_jump, if_neg (fun q => h4 q.2.1)]
  · simp only [n10, not_false_eq_true, false_implies, true_implies, true_and, and_true, not_true_eq_false]
    rw [q_jump, if_neg (fun q => h1 q.1)]

set_option maxHeartbeats 4000000 in
set_option maxRecDepth 100000 in
theorem kX5_add {d : Nat} {I : mm_I} {L : mm_L} {a : Int32} (hv : vok (vR I)) : mm_P shR msR (d + 2) 24 [.ref 0, .int a] I L (fun I' _ ri _ => (vR I', ri) = q_add (vR I) a) := by
  have hn := vok_ns0 hv
  simp only [vR, v_ns] at hn
  have go : ((0 ≤ a ∧ a < 8) ∨ a = 20 ∨ a = 21) → ¬ I 0 6 = 40 → vp_in (I 0 6) 40 ∧ (vR (mm_ui (mm_ui I 5 (I 0 6).toNatClampNeg a) 0 6 (I 0 6 + 1)), I 0 6 + 1) = q_add (vR I) a := fun h1 h2 => by
    refine ⟨vi40 hn.1 (by grind), ?_⟩
    rw [q_add, if_neg (fun q => q h1), if_neg (by show ¬ 40 ≤ I 0 6; grind)]
    simp only [vR, v_n, v_ns, v_fee, uif, uia, Nat.reduceEqDiff, reduceIte, upd]
  have fu : ((0 ≤ a ∧ a < 8) ∨ a = 20 ∨ a = 21) → I 0 6 = 40 → (vR I, -4) = q_add (vR I) a := fun h1 h2 => by rw [q_add, if_neg (fun q => q h1), if_pos (by show 40 ≤ I 0 6; grind)]
  have ou : ¬ ((0 ≤ a ∧ a < 8) ∨ a = 20 ∨ a = 21) → (vR I, -2) = q_add (vR I) a := fun h1 => by rw [q_add, if_pos h1]
  refine pX5_add ?_
  simp only [↓uX5_add, ↓mm_r, mm_n, iaR, n10, not_true_eq_false, not_false_eq_true, false_implies, lg_cmp_ge, lg_cmp_le, lg_cmp_gt, lg_cmp_lt, lg_cmp_eq, true_and, and_true, true_or, or_true, true_implies, Classical.not_not, List.length_cons, List.length_nil, Nat.lt_iff_add_one_le, Nat.reduceAdd, Nat.reduceLeDiff, Nat.reduceEqDiff, Int.reduceAdd, reduceIte, Nat.reduceSub]
  refine sX5_within (fun h1 h2 => ?_) (fun h1 => ?_)
  · simp only [n10, not_false_eq_true, false_implies, true_implies, true_and, and_true, not_true_eq_false]
    have hc : ((0 ≤ a ∧ a < 8) ∨ a = 20 ∨ a = 21) := by grind
    exact ⟨go hc, fu hc⟩
  · simp only [n10, not_false_eq_true, false_implies, true_implies, true_and, and_true, not_true_eq_false]
    refine ⟨fun h2 => ⟨go (by grind), fu (by grind)⟩, fun h2 => ⟨fun h3 => ⟨go (by grind), fu (by grind)⟩, fun h3 => ou (by grind)⟩⟩

set_option maxHeartbeats 4000000 in
set_option maxRecDepth 100000 in
theorem kX5_cut {d : Nat} {I : mm_I} {L : mm_L} {a : Int32} : mm_P shR msR (d + 2) 25 [.ref 0, .int a] I L (fun I' _ ri _ => (vR I', ri) = q_cut (vR I) a) := by
  refine pX5_cut ?_
  simp only [↓uX5_cut, ↓mm_r, mm_n, iaR, n10, not_true_eq_false, not_false_eq_true, false_implies, lg_cmp_ge, lg_cmp_le, lg_cmp_gt, lg_cmp_lt, lg_cmp_eq, true_and, and_true, true_or, or_true, true_implies, Classical.not_not, List.length_cons, List.length_nil, Nat.lt_iff_add_one_le, Nat.reduceAdd, Nat.reduceLeDiff, Nat.reduceEqDiff, Int.reduceAdd, reduceIte, Nat.reduceSub]
  refine sX5_within (fun h1 h2 => ?_) (fun h1 => ?_)
  · simp only [n10, not_false_eq_true, false_implies, true_implies, true_and, and_true, not_true_eq_false]
    rw [q_cut, if_neg (by show ¬ (a < 0 ∨ I 0 6 < a); grind)]
    simp only [vR, v_n, v_ns, v_fee, uif, uia, Nat.reduceEqDiff, reduceIte, upd]
  · simp only [n10, not_false_eq_true, false_implies, true_implies, true_and, and_true, not_true_eq_false]
    rw [q_cut, if_pos (by show (a < 0 ∨ I 0 6 < a); grind)]

set_option maxHeartbeats 4000000 in
set_option maxRecDepth 100000 in
theorem kX5_clue {d : Nat} {I : mm_I} {L : mm_L} {k c w s : Int32} (hv : vok (vR I)) (hs : s = 0 ∨ s = 1) : mm_P shR msR (d + 3) 11 [.ref 0, .int k, .int c, .int w, .int s] I L (fun I' _ ri _ => (vR I', ri) = q_clue (vR I) k c w s) := by
  have hn := vok_n0 hv
  simp only [vR, v_n] at hn
  refine pX5_clue ?_
  simp only [↓uX5_clue, ↓mm_r, mm_n, iaR, n10, not_true_eq_false, not_false_eq_true, false_implies, lg_cmp_ge, lg_cmp_le, lg_cmp_gt, lg_cmp_lt, lg_cmp_eq, true_and, and_true, true_or, or_true, true_implies, Classical.not_not, List.length_cons, List.length_nil, Nat.lt_iff_add_one_le, Nat.reduceAdd, Nat.reduceLeDiff, Nat.reduceEqDiff, Int.reduceAdd, reduceIte, Nat.reduceSub]
  refine sX5_isScene hn.1 (fun h1 h2 => ?_) (fun h1 => ?_)
  · simp only [n10, not_false_eq_true, false_implies, true_implies, true_and, and_true, not_true_eq_false]
    have h3 : k < 8 := by grind
    have hi := vi8 h1 h3
    refine sX5_isClue (fun h4 h5 => ?_) (fun h4 => ?_)
    · simp only [n10, not_false_eq_true, false_implies, true_implies, true_and, and_true, not_true_eq_false]
      have hq : ¬ ¬ (is_sc (vR I) k ∧ 0 ≤ c ∧ c < 8) := fun q => q ⟨⟨h1, h2⟩, h4, h5⟩
      refine sX5_within (fun h6 h7 => ?_) (fun h6 => ?_)
      · simp only [n10, not_false_eq_true, false_implies, true_implies, true_and, and_true, not_true_eq_false]
        have hw : w = 0 ∨ w = 1 := by grind
        rcases hw with rfl | rfl
        · rcases hs with rfl | rfl
          · simp only [n10, n01, hi, not_false_eq_true, true_implies, not_true_eq_false, false_implies, true_and, and_true]
            by_cases b : (I 3 k.toNatClampNeg >>> (c &&& 31)) &&& 1 = 1
            · simp only [b, not_false_eq_true, true_implies, not_true_eq_false, false_implies, true_and, and_true]
              rw [q_clue, if_neg hq, if_neg (fun q => q (Or.inl rfl)), if_pos rfl, if_neg (by simp only [vR]; grind)]
              simp only [vR, v_n, v_ns, v_fee, uif, uia, n10, Nat.reduceEqDiff, reduceIte, upd, not_true_eq_false, not_false_eq_true]
            · simp only [b, not_false_eq_true, true_implies, not_true_eq_false, false_implies, true_and, and_true]
              rw [q_clue, if_neg hq, if_neg (fun q => q (Or.inl rfl)), if_pos rfl, if_pos (by simp only [vR]; grind)]
          · simp only [n10, n01, hi, not_false_eq_true, true_implies, not_true_eq_false, false_implies, true_and, and_true]
            by_cases b : (I 3 k.toNatClampNeg >>> (c &&& 31)) &&& 1 = 1
            · simp only [b, not_false_eq_true, true_implies, not_true_eq_false, false_implies, true_and, and_true]
              rw [q_clue, if_neg hq, if_neg (fun q => q (Or.inl rfl)), if_pos rfl, if_pos (by simp only [vR]; grind)]
            · simp only [b, not_false_eq_true, true_implies, not_true_eq_false, false_implies, true_and, and_true]
              rw [q_clue, if_neg hq, if_neg (fun q => q (Or.inl rfl)), if_pos rfl, if_neg (by simp only [vR]; grind)]
              simp only [vR, v_n, v_ns, v_fee, uif, uia, n10, Nat.reduceEqDiff, reduceIte, upd, not_true_eq_false, not_false_eq_true]
        · rcases hs with rfl | rfl
          · simp only [n10, n01, hi, not_false_eq_true, true_implies, not_true_eq_false, false_implies, true_and, and_true]
            by_cases b : (I 4 k.toNatClampNeg >>> (c &&& 31)) &&& 1 = 1
            · simp only [b, not_false_eq_true, true_implies, not_true_eq_false, false_implies, true_and, and_true]
              rw [q_clue, if_neg hq, if_neg (fun q => q (Or.inr rfl)), if_neg (by decide), if_neg (by simp only [vR]; grind)]
              simp only [vR, v_n, v_ns, v_fee, uif, uia, n10, Nat.reduceEqDiff, reduceIte, upd, not_true_eq_false, not_false_eq_true]
            · simp only [b, not_false_eq_true, true_implies, not_true_eq_false, false_implies, true_and, and_true]
              rw [q_clue, if_neg hq, if_neg (fun q => q (Or.inr rfl)), if_neg (by decide), if_pos (by simp only [vR]; grind)]
          · simp only [n10, n01, hi, not_false_eq_true, true_implies, not_true_eq_false, false_implies, true_and, and_true]
            by_cases b : (I 4 k.toNatClampNeg >>> (c &&& 31)) &&& 1 = 1
            · simp only [b, not_false_eq_true, true_implies, not_true_eq_false, false_implies, true_and, and_true]
              rw [q_clue, if_neg hq, if_neg (fun q => q (Or.inr rfl)), if_neg (by decide), if_pos (by simp only [vR]; grind)]
            · simp only [b, not_false_eq_true, true_implies, not_true_eq_false, false_implies, true_and, and_true]
              rw [q_clue, if_neg hq, if_neg (fun q => q (Or.inr rfl)), if_neg (by decide), if_neg (by simp only [vR]; grind)]
              simp only [vR, v_n, v_ns, v_fee, uif, uia, n10, Nat.reduceEqDiff, reduceIte, upd, not_true_eq_false, not_false_eq_true]
      · simp only [n10, not_false_eq_true, false_implies, true_implies, true_and, and_true, not_true_eq_false]
        rw [q_clue, if_neg hq, if_pos (by grind)]
    · simp only [n10, not_false_eq_true, false_implies, true_implies, true_and, and_true, not_true_eq_false]
      rw [q_clue, if_pos (fun q => h4 q.2)]
  · simp only [n10, not_false_eq_true, false_implies, true_implies, true_and, and_true, not_true_eq_false]
    rw [q_clue, if_pos (fun q => h1 q.1)]
