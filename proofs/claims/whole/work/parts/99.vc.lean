set_option maxHeartbeats 4000000 in
set_option maxRecDepth 100000 in
theorem zz_X1_setFrom {d : Nat} {I : mm_I} {L : mm_L} {Q : mm_Q} {a2 : Int32} {a3 : Int32} {a4 : Int64} {a5 : Int32} : mm_P shC msC (d + 1) 16 [.ref 16, .ref 1, .int a2, .int a3, .long a4, .int a5] I L Q := by
  refine pX1_setFrom ?_
  simp only [↓hX1_setFrom, ↓uX1_setFrom, ↓mm_r, mm_n, iaC, n10, not_true_eq_false, not_false_eq_true, false_implies, lg_cmp_ge, lg_cmp_le, lg_cmp_gt, lg_cmp_lt, lg_cmp_eq, true_and, and_true, true_or, or_true, true_implies, Classical.not_not, List.length_cons, List.length_nil, Nat.lt_iff_add_one_le, Nat.reduceAdd, Nat.reduceLeDiff, Nat.reduceEqDiff, Int.reduceAdd, reduceIte, Nat.reduceSub]
  trace_state
  sorry
set_option maxHeartbeats 4000000 in
set_option maxRecDepth 100000 in
theorem zz_X1_setFrom_42 {d : Nat} {I : mm_I} {L : mm_L} {Q : mm_Q} {x2 : Int32} {x3 : Int32} {x4 : Int64} {x6 : Int32} {x7 : Int32} {x8 : Int32} {x9 : Int32} : mm_W shC (mm_P shC msC d) tbX1_setFrom Q 42 [.ref 16, .ref 1, .int x2, .int x3, .long x4, .null, .int x6, .int x7, .int x8, .int x9] [] I L := by
  refine mm_hk 200 ?_
  simp only [↓hX1_setFrom, ↓uX1_setFrom, ↓mm_r, mm_n, iaC, n10, not_true_eq_false, not_false_eq_true, false_implies, lg_cmp_ge, lg_cmp_le, lg_cmp_gt, lg_cmp_lt, lg_cmp_eq, true_and, and_true, true_or, or_true, true_implies, Classical.not_not, List.length_cons, List.length_nil, Nat.lt_iff_add_one_le, Nat.reduceAdd, Nat.reduceLeDiff, Nat.reduceEqDiff, Int.reduceAdd, reduceIte, Nat.reduceSub]
  trace_state
  sorry
set_option maxHeartbeats 4000000 in
set_option maxRecDepth 100000 in
theorem zz_X1_setBeside {d : Nat} {I : mm_I} {L : mm_L} {Q : mm_Q} {a2 : Int32} {a3 : Int32} {a4 : Int32} {a5 : Int64} {a6 : Int32} : mm_P shC msC (d + 1) 17 [.ref 16, .ref 1, .int a2, .int a3, .int a4, .long a5, .int a6] I L Q := by
  refine pX1_setBeside ?_
  simp only [↓uX1_setBeside, ↓mm_r, mm_n, iaC, n10, not_true_eq_false, not_false_eq_true, false_implies, lg_cmp_ge, lg_cmp_le, lg_cmp_gt, lg_cmp_lt, lg_cmp_eq, true_and, and_true, true_or, or_true, true_implies, Classical.not_not, List.length_cons, List.length_nil, Nat.lt_iff_add_one_le, Nat.reduceAdd, Nat.reduceLeDiff, Nat.reduceEqDiff, Int.reduceAdd, reduceIte, Nat.reduceSub]
  trace_state
  sorry
set_option maxHeartbeats 4000000 in
set_option maxRecDepth 100000 in
theorem zz_X1_setWithin {d : Nat} {I : mm_I} {L : mm_L} {Q : mm_Q} {a2 : Int32} {a3 : Int32} {a4 : Int32} {a5 : Int64} {a6 : Int32} : mm_P shC msC (d + 1) 18 [.ref 16, .ref 1, .int a2, .int a3, .int a4, .long a5, .int a6] I L Q := by
  refine pX1_setWithin ?_
  simp only [↓uX1_setWithin, ↓mm_r, mm_n, iaC, n10, not_true_eq_false, not_false_eq_true, false_implies, lg_cmp_ge, lg_cmp_le, lg_cmp_gt, lg_cmp_lt, lg_cmp_eq, true_and, and_true, true_or, or_true, true_implies, Classical.not_not, List.length_cons, List.length_nil, Nat.lt_iff_add_one_le, Nat.reduceAdd, Nat.reduceLeDiff, Nat.reduceEqDiff, Int.reduceAdd, reduceIte, Nat.reduceSub]
  trace_state
  sorry
set_option maxHeartbeats 4000000 in
set_option maxRecDepth 100000 in
theorem zz_X1_takeRow {d : Nat} {I : mm_I} {L : mm_L} {Q : mm_Q} {a2 : Nat} {a3 : Int32} : mm_P shC msC (d + 1) 15 [.ref 16, .ref 1, .ref a2, .int a3] I L Q := by
  refine pX1_takeRow ?_
  simp only [↓hX1_takeRow, ↓uX1_takeRow, ↓mm_r, mm_n, iaC, n10, not_true_eq_false, not_false_eq_true, false_implies, lg_cmp_ge, lg_cmp_le, lg_cmp_gt, lg_cmp_lt, lg_cmp_eq, true_and, and_true, true_or, or_true, true_implies, Classical.not_not, List.length_cons, List.length_nil, Nat.lt_iff_add_one_le, Nat.reduceAdd, Nat.reduceLeDiff, Nat.reduceEqDiff, Int.reduceAdd, reduceIte, Nat.reduceSub]
  trace_state
  sorry
set_option maxHeartbeats 4000000 in
set_option maxRecDepth 100000 in
theorem zz_X1_takeRow_5 {d : Nat} {I : mm_I} {L : mm_L} {Q : mm_Q} {x3 : Int32} {x4 : Int32} {x5 : Int32} : mm_W shC (mm_P shC msC d) tbX1_takeRow Q 5 [.ref 16, .ref 1, .ref 12, .int x3, .int x4, .int x5] [] I L := by
  refine mm_hk 200 ?_
  simp only [↓hX1_takeRow, ↓uX1_takeRow, ↓mm_r, mm_n, iaC, n10, not_true_eq_false, not_false_eq_true, false_implies, lg_cmp_ge, lg_cmp_le, lg_cmp_gt, lg_cmp_lt, lg_cmp_eq, true_and, and_true, true_or, or_true, true_implies, Classical.not_not, List.length_cons, List.length_nil, Nat.lt_iff_add_one_le, Nat.reduceAdd, Nat.reduceLeDiff, Nat.reduceEqDiff, Int.reduceAdd, reduceIte, Nat.reduceSub]
  trace_state
  sorry
set_option maxHeartbeats 4000000 in
set_option maxRecDepth 100000 in
theorem zz_X1_find {d : Nat} {I : mm_I} {L : mm_L} {Q : mm_Q} {a2 : Nat} {a3 : Int32} {a4 : Int32} : mm_P shC msC (d + 1) 14 [.ref 16, .ref 1, .ref a2, .int a3, .int a4] I L Q := by
  refine pX1_find ?_
  simp only [↓uX1_find, ↓mm_r, mm_n, iaC, n10, not_true_eq_false, not_false_eq_true, false_implies, lg_cmp_ge, lg_cmp_le, lg_cmp_gt, lg_cmp_lt, lg_cmp_eq, true_and, and_true, true_or, or_true, true_implies, Classical.not_not, List.length_cons, List.length_nil, Nat.lt_iff_add_one_le, Nat.reduceAdd, Nat.reduceLeDiff, Nat.reduceEqDiff, Int.reduceAdd, reduceIte, Nat.reduceSub]
  trace_state
  sorry
set_option maxHeartbeats 4000000 in
set_option maxRecDepth 100000 in
theorem zz_X4_findFrames {d : Nat} {I : mm_I} {L : mm_L} {Q : mm_Q}  : mm_P shC msC (d + 1) 57 [.ref 0] I L Q := by
  refine pX4_findFrames ?_
  simp only [↓uX4_findFrames, ↓mm_r, mm_n, iaC, n10, not_true_eq_false, not_false_eq_true, false_implies, lg_cmp_ge, lg_cmp_le, lg_cmp_gt, lg_cmp_lt, lg_cmp_eq, true_and, and_true, true_or, or_true, true_implies, Classical.not_not, List.length_cons, List.length_nil, Nat.lt_iff_add_one_le, Nat.reduceAdd, Nat.reduceLeDiff, Nat.reduceEqDiff, Int.reduceAdd, reduceIte, Nat.reduceSub]
  trace_state
  sorry
set_option maxHeartbeats 4000000 in
set_option maxRecDepth 100000 in
theorem zz_X4_framed {d : Nat} {I : mm_I} {L : mm_L} {Q : mm_Q} {a1 : Int32} : mm_P shC msC (d + 1) 53 [.ref 0, .int a1] I L Q := by
  refine pX4_framed ?_
  simp only [↓uX4_framed, ↓mm_r, mm_n, iaC, n10, not_true_eq_false, not_false_eq_true, false_implies, lg_cmp_ge, lg_cmp_le, lg_cmp_gt, lg_cmp_lt, lg_cmp_eq, true_and, and_true, true_or, or_true, true_implies, Classical.not_not, List.length_cons, List.length_nil, Nat.lt_iff_add_one_le, Nat.reduceAdd, Nat.reduceLeDiff, Nat.reduceEqDiff, Int.reduceAdd, reduceIte, Nat.reduceSub]
  trace_state
  sorry
