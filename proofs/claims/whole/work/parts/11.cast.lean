/-! ===== the class's Cast, method by method ===== -/
set_option maxHeartbeats 4000000 in
set_option maxRecDepth 100000 in
theorem sX0_has {d : Nat} {I : mm_I} {L : mm_L} {Q : mm_Q} {k : Int32} (h : Q I L (if 0 ≤ k ∧ k < I 1 4 ∧ k < 8 then 1 else 0) 0) : mm_P shC msC (d + 1) 0 [.ref 1, .int k] I L Q := by
  refine pX0_has ?_
  simp only [↓uX0_has, ↓mm_r, mm_n, iaC, true_and, and_true, true_or, or_true, true_implies, Classical.not_not, List.length_cons, List.length_nil, Nat.lt_iff_add_one_le, Nat.reduceAdd, Nat.reduceLeDiff, Nat.reduceEqDiff, Int.reduceAdd, reduceIte, Nat.reduceSub]
  trace_state
  sorry
set_option maxHeartbeats 4000000 in
set_option maxRecDepth 100000 in
theorem sX0_append {d : Nat} {I : mm_I} {L : mm_L} {Q : mm_Q} {k k2 k3 k4 : Int32} : mm_P shC msC (d + 1) 1 [.ref 1, .int k, .int k2, .int k3, .int k4] I L Q := by
  refine pX0_append ?_
  simp only [↓uX0_append, ↓mm_r, mm_n, iaC, true_and, and_true, true_or, or_true, true_implies, Classical.not_not, List.length_cons, List.length_nil, Nat.lt_iff_add_one_le, Nat.reduceAdd, Nat.reduceLeDiff, Nat.reduceEqDiff, Int.reduceAdd, reduceIte, Nat.reduceSub]
  trace_state
  sorry
set_option maxHeartbeats 4000000 in
set_option maxRecDepth 100000 in
theorem sX0_givenBy {d : Nat} {I : mm_I} {L : mm_L} {Q : mm_Q} {k k2 k3 k4 : Int32} : mm_P shC msC (d + 1) 7 [.ref 1, .int k] I L Q := by
  refine pX0_givenBy ?_
  simp only [↓hX0_givenBy, ↓uX0_givenBy, ↓mm_r, mm_n, iaC, true_and, and_true, true_or, or_true, true_implies, Classical.not_not, List.length_cons, List.length_nil, Nat.lt_iff_add_one_le, Nat.reduceAdd, Nat.reduceLeDiff, Nat.reduceEqDiff, Int.reduceAdd, reduceIte, Nat.reduceSub]
  trace_state
  refine mm_hk 60 ?_
  simp only [↓hX0_givenBy, ↓uX0_givenBy, ↓mm_r, mm_n, iaC, true_and, and_true, true_or, or_true, true_implies, Classical.not_not, List.length_cons, List.length_nil, Nat.lt_iff_add_one_le, Nat.reduceAdd, Nat.reduceLeDiff, Nat.reduceEqDiff, Int.reduceAdd, reduceIte, Nat.reduceSub]
  trace_state
  sorry
set_option maxHeartbeats 4000000 in
set_option maxRecDepth 100000 in
theorem sX4_told {d : Nat} {I : mm_I} {L : mm_L} {Q : mm_Q} {k k2 : Int32} : mm_P shC msC (d + 1) 51 [.ref 0, .int k, .int k2] I L Q := by
  refine pX4_told ?_
  simp only [↓uX4_told, ↓mm_r, mm_n, iaC, true_and, and_true, true_or, or_true, true_implies, Classical.not_not, List.length_cons, List.length_nil, Nat.lt_iff_add_one_le, Nat.reduceAdd, Nat.reduceLeDiff, Nat.reduceEqDiff, Int.reduceAdd, reduceIte, Nat.reduceSub]
  trace_state
  sorry
