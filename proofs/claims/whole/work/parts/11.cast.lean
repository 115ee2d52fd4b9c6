/-! ===== small facts; the class's static helpers and its Cast, method by method ===== -/
theorem vi_of {x : Int32} {n : Nat} (h0 : 0 ≤ x) (h : x.toInt < n) : vp_in x n := by
  rw [vp_in_iff]
  rw [Int32.le_iff_toInt_le, Int32.toInt_zero] at h0
  exact ⟨h0, h⟩
theorem vi8 {x : Int32} (h0 : 0 ≤ x) (h : x < 8) : vp_in x 8 := vi_of h0 (by rw [Int32.lt_iff_toInt_lt] at h; exact h)
theorem vi40 {x : Int32} (h0 : 0 ≤ x) (h : x < 40) : vp_in x 40 := vi_of h0 (by rw [Int32.lt_iff_toInt_lt] at h; exact h)
theorem vi_nI {x : Int32} {n : Nat} (hn : n ≤ 2000000) (h0 : 0 ≤ x) (h : x < nI n) : ∃ j : Nat, j < n ∧ x = nI j := by
  obtain ⟨j, hj, rfl⟩ := nI_of (x := x) (by rw [Int32.not_lt]; exact h0)
  exact ⟨j, (nI_ltI hj (by omega)).mp h, rfl⟩
theorem n10 : ((1 : Int32) = 0) = False := by decide +kernel
theorem nl0 : (0 : Int32) = nI 0 := by decide +kernel
theorem nl1 : (1 : Int32) = nI 1 := by decide +kernel
theorem nl7 : (7 : Int32) = nI 7 := by decide +kernel
theorem nl8 : (8 : Int32) = nI 8 := by decide +kernel
theorem nl20 : (20 : Int32) = nI 20 := by decide +kernel
theorem nl21 : (21 : Int32) = nI 21 := by decide +kernel
theorem nl39 : (39 : Int32) = nI 39 := by decide +kernel
theorem nl40 : (40 : Int32) = nI 40 := by decide +kernel
/-- the comparisons of small numbers -/
theorem ni_le {a b : Nat} (ha : a ≤ 1000000) (hb : b ≤ 1000000) : (nI a ≤ nI b) = (a ≤ b) := propext (nI_leI (by omega) (by omega))
theorem ni_lt {a b : Nat} (ha : a ≤ 1000000) (hb : b ≤ 1000000) : (nI a < nI b) = (a < b) := propext (nI_ltI (by omega) (by omega))
theorem ni_eq {a b : Nat} (ha : a ≤ 1000000) (hb : b ≤ 1000000) : (nI a = nI b) = (a = b) := propext (nI_eq (by omega) (by omega))
theorem ni_cl {a : Nat} (ha : a ≤ 1000000) : (nI a).toNatClampNeg = a := nI_clamp (by omega)
theorem ni_in {a n : Nat} (hn : n ≤ 1000000) (h : a < n) : vp_in (nI a) n := vp_in_nI h (by omega)
theorem ni_0 {a : Nat} (ha : a ≤ 1000000) : (nI a < 0) = False := by
  rw [nl0, ni_lt ha (by omega)]
  simp
theorem ni_00 {a : Nat} (ha : a ≤ 1000000) : (0 ≤ nI a) = True := by
  rw [nl0, ni_le (by omega) ha]
  simp
theorem ni_8 {a : Nat} (ha : a ≤ 1000000) : ((8 : Int32) ≤ nI a) = (8 ≤ a) := by rw [nl8, ni_le (by omega) ha]
theorem ni_l8 {a : Nat} (ha : a ≤ 1000000) : (nI a < (8 : Int32)) = (a < 8) := by rw [nl8, ni_lt ha (by omega)]
theorem ni_40 {a : Nat} (ha : a ≤ 1000000) : ((40 : Int32) ≤ nI a) = (40 ≤ a) := by rw [nl40, ni_le (by omega) ha]
theorem ni_l40 {a : Nat} (ha : a ≤ 1000000) : (nI a < (40 : Int32)) = (a < 40) := by rw [nl40, ni_lt ha (by omega)]
/-! the shared pure words -/
/-- END of a scene -/
def pe (fr ln : Nat → Int32) (k : Nat) : Int64 := (fr k).toInt64 + (ln k).toInt64
/-- JUMP from a to b -/
def pj (fr ln : Nat → Int32) (a b : Nat) : Int64 := if 0 < (fr b).toInt64 - pe fr ln a then (fr b).toInt64 - pe fr ln a else -((fr b).toInt64 - pe fr ln a)
/-- SIDE of k by the teller t -/
def ps (fr ln : Nat → Int32) (k t : Nat) : Int32 := if pe fr ln k ≤ (fr t).toInt64 then 0 else if pe fr ln t ≤ (fr k).toInt64 then 1 else -9
abbrev fi (v : Int64) : Prop := -2147483648 ≤ v ∧ v ≤ 2147483647
/-- a number in a set -/
abbrev bi (set : Int32) (k : Nat) : Prop := (set >>> (nI k &&& 31)) &&& 1 = 1
set_option maxHeartbeats 4000000 in
set_option maxRecDepth 100000 in
theorem sX4_fitsInt {d : Nat} {I : mm_I} {L : mm_L} {Q : mm_Q} {v : Int64} (h1 : fi v → Q I L 1 0) (h0 : ¬ fi v → Q I L 0 0) : mm_P shC msC (d + 1) 63 [.long v] I L Q := by
  refine pX4_fitsInt ?_
  unfold fi at h1 h0
  simp only [↓uX4_fitsInt, ↓mm_r, mm_n, iaC, n10, not_true_eq_false, not_false_eq_true, false_implies, lg_cmp_ge, lg_cmp_le, lg_cmp_gt, lg_cmp_lt, lg_cmp_eq, true_and, and_true, true_or, or_true, true_implies, Classical.not_not, List.length_cons, List.length_nil, Nat.lt_iff_add_one_le, Nat.reduceAdd, Nat.reduceLeDiff, Nat.reduceEqDiff, Int.reduceAdd, reduceIte, Nat.reduceSub]
  grind
set_option maxHeartbeats 4000000 in
set_option maxRecDepth 100000 in
theorem sX4_intOrOver {d : Nat} {I : mm_I} {L : mm_L} {Q : mm_Q} {v : Int64} (h1 : fi v → Q I L v.toInt32 0) (h0 : ¬ fi v → Q I L (-5) 0) : mm_P shC msC (d + 2) 64 [.long v] I L Q := by
  refine pX4_intOrOver ?_
  simp only [↓uX4_intOrOver, ↓mm_r, mm_n, iaC, n10, not_true_eq_false, not_false_eq_true, false_implies, lg_cmp_ge, lg_cmp_le, lg_cmp_gt, lg_cmp_lt, lg_cmp_eq, true_and, and_true, true_or, or_true, true_implies, Classical.not_not, List.length_cons, List.length_nil, Nat.lt_iff_add_one_le, Nat.reduceAdd, Nat.reduceLeDiff, Nat.reduceEqDiff, Int.reduceAdd, reduceIte, Nat.reduceSub]
  refine sX4_fitsInt (fun h => ?_) (fun h => ?_)
  · exact ⟨fun q => absurd q (by decide), fun _ => h1 h⟩
  · exact ⟨fun _ => h0 h, fun q => absurd rfl q⟩
set_option maxHeartbeats 4000000 in
set_option maxRecDepth 100000 in
theorem sX4_isIn {d : Nat} {I : mm_I} {L : mm_L} {Q : mm_Q} {a b : Int32} (h1 : (a >>> (b &&& 31)) &&& 1 = 1 → Q I L 1 0) (h0 : ¬ (a >>> (b &&& 31)) &&& 1 = 1 → Q I L 0 0) : mm_P shC msC (d + 1) 62 [.int a, .int b] I L Q := by
  refine pX4_isIn ?_
  simp only [↓uX4_isIn, ↓mm_r, mm_n, iaC, n10, not_true_eq_false, not_false_eq_true, false_implies, lg_cmp_ge, lg_cmp_le, lg_cmp_gt, lg_cmp_lt, lg_cmp_eq, true_and, and_true, true_or, or_true, true_implies, Classical.not_not, List.length_cons, List.length_nil, Nat.lt_iff_add_one_le, Nat.reduceAdd, Nat.reduceLeDiff, Nat.reduceEqDiff, Int.reduceAdd, reduceIte, Nat.reduceSub]
  grind
set_option maxHeartbeats 4000000 in
set_option maxRecDepth 100000 in
theorem sX4_isClue {d : Nat} {I : mm_I} {L : mm_L} {Q : mm_Q} {a : Int32} (h1 : 0 ≤ a → a < 8 → Q I L 1 0) (h0 : ¬ (0 ≤ a ∧ a < 8) → Q I L 0 0) : mm_P shC msC (d + 1) 60 [.int a] I L Q := by
  refine pX4_isClue ?_
  simp only [↓uX4_isClue, ↓mm_r, mm_n, iaC, n10, not_true_eq_false, not_false_eq_true, false_implies, lg_cmp_ge, lg_cmp_le, lg_cmp_gt, lg_cmp_lt, lg_cmp_eq, true_and, and_true, true_or, or_true, true_implies, Classical.not_not, List.length_cons, List.length_nil, Nat.lt_iff_add_one_le, Nat.reduceAdd, Nat.reduceLeDiff, Nat.reduceEqDiff, Int.reduceAdd, reduceIte, Nat.reduceSub]
  grind
set_option maxHeartbeats 4000000 in
set_option maxRecDepth 100000 in
theorem sX4_isClueSet {d : Nat} {I : mm_I} {L : mm_L} {Q : mm_Q} {a : Int32} (h1 : 0 ≤ a → a ≤ 255 → Q I L 1 0) (h0 : ¬ (0 ≤ a ∧ a ≤ 255) → Q I L 0 0) : mm_P shC msC (d + 1) 61 [.int a] I L Q := by
  refine pX4_isClueSet ?_
  simp only [↓uX4_isClueSet, ↓mm_r, mm_n, iaC, n10, not_true_eq_false, not_false_eq_true, false_implies, lg_cmp_ge, lg_cmp_le, lg_cmp_gt, lg_cmp_lt, lg_cmp_eq, true_and, and_true, true_or, or_true, true_implies, Classical.not_not, List.length_cons, List.length_nil, Nat.lt_iff_add_one_le, Nat.reduceAdd, Nat.reduceLeDiff, Nat.reduceEqDiff, Int.reduceAdd, reduceIte, Nat.reduceSub]
  grind
set_option maxHeartbeats 4000000 in
set_option maxRecDepth 100000 in
theorem sX4_forgetBest {d : Nat} {I : mm_I} {L : mm_L} {Q : mm_Q} (h : Q (mm_ui (mm_ui I 13 4 0) 16 10 0) L 0 0) : mm_P shC msC (d + 1) 56 [.ref 0] I L Q := by
  refine pX4_forgetBest ?_
  simp only [↓uX4_forgetBest, ↓mm_r, mm_n, iaC, n10, not_true_eq_false, not_false_eq_true, false_implies, lg_cmp_ge, lg_cmp_le, lg_cmp_gt, lg_cmp_lt, lg_cmp_eq, true_and, and_true, true_or, or_true, true_implies, Classical.not_not, List.length_cons, List.length_nil, Nat.lt_iff_add_one_le, Nat.reduceAdd, Nat.reduceLeDiff, Nat.reduceEqDiff, Int.reduceAdd, reduceIte, Nat.reduceSub]
  exact h
set_option maxHeartbeats 4000000 in
set_option maxRecDepth 100000 in
theorem sX0_has {d : Nat} {I : mm_I} {L : mm_L} {Q : mm_Q} {k : Int32} (h1 : 0 ≤ k → k < I 1 4 → k < 8 → Q I L 1 0) (h0 : ¬ (0 ≤ k ∧ k < I 1 4 ∧ k < 8) → Q I L 0 0) : mm_P shC msC (d + 1) 0 [.ref 1, .int k] I L Q := by
  refine pX0_has ?_
  simp only [↓uX0_has, ↓mm_r, mm_n, iaC, n10, not_true_eq_false, not_false_eq_true, false_implies, lg_cmp_ge, lg_cmp_le, lg_cmp_gt, lg_cmp_lt, lg_cmp_eq, true_and, and_true, true_or, or_true, true_implies, Classical.not_not, List.length_cons, List.length_nil, Nat.lt_iff_add_one_le, Nat.reduceAdd, Nat.reduceLeDiff, Nat.reduceEqDiff, Int.reduceAdd, reduceIte, Nat.reduceSub]
  grind
set_option maxHeartbeats 4000000 in
set_option maxRecDepth 100000 in
theorem sX0_append {d : Nat} {I : mm_I} {L : mm_L} {Q : mm_Q} {k k2 k3 k4 : Int32} (h0 : 0 ≤ I 1 4) (h8 : I 1 4 < 8) (h : Q (mm_ui (mm_ui (mm_ui (mm_ui (mm_ui I 2 (I 1 4).toNatClampNeg k) 3 (I 1 4).toNatClampNeg k2) 4 (I 1 4).toNatClampNeg k3) 5 (I 1 4).toNatClampNeg k4) 1 4 (I 1 4 + 1)) L (I 1 4) 0) : mm_P shC msC (d + 1) 1 [.ref 1, .int k, .int k2, .int k3, .int k4] I L Q := by
  refine pX0_append ?_
  simp only [↓uX0_append, ↓mm_r, mm_n, iaC, n10, not_true_eq_false, not_false_eq_true, false_implies, lg_cmp_ge, lg_cmp_le, lg_cmp_gt, lg_cmp_lt, lg_cmp_eq, true_and, and_true, true_or, or_true, true_implies, Classical.not_not, List.length_cons, List.length_nil, Nat.lt_iff_add_one_le, Nat.reduceAdd, Nat.reduceLeDiff, Nat.reduceEqDiff, Int.reduceAdd, reduceIte, Nat.reduceSub]
  have hv := vi8 h0 h8
  grind
set_option maxHeartbeats 4000000 in
set_option maxRecDepth 100000 in
theorem sX0_endOf {d : Nat} {I : mm_I} {L : mm_L} {Q : mm_Q} {k : Int32} (h0 : 0 ≤ k) (h8 : k < 8) (h : Q I L 0 (pe (I 2) (I 3) k.toNatClampNeg)) : mm_P shC msC (d + 1) 2 [.ref 1, .int k] I L Q := by
  refine pX0_endOf ?_
  simp only [↓uX0_endOf, ↓mm_r, mm_n, iaC, n10, not_true_eq_false, not_false_eq_true, false_implies, lg_cmp_ge, lg_cmp_le, lg_cmp_gt, lg_cmp_lt, lg_cmp_eq, true_and, and_true, true_or, or_true, true_implies, Classical.not_not, List.length_cons, List.length_nil, Nat.lt_iff_add_one_le, Nat.reduceAdd, Nat.reduceLeDiff, Nat.reduceEqDiff, Int.reduceAdd, reduceIte, Nat.reduceSub]
  have hv := vi8 h0 h8
  unfold pe at h
  grind
set_option maxHeartbeats 4000000 in
set_option maxRecDepth 100000 in
theorem sX0_canMove {d : Nat} {I : mm_I} {L : mm_L} {Q : mm_Q} {k e : Int32} (hk : 0 ≤ k) (hc : k < I 1 4) (h8 : k < 8) (h1 : fi ((I 2 k.toNatClampNeg).toInt64 + e.toInt64) → fi (pe (I 2) (I 3) k.toNatClampNeg + e.toInt64) → Q I L 1 0) (h0 : ¬ (fi ((I 2 k.toNatClampNeg).toInt64 + e.toInt64) ∧ fi (pe (I 2) (I 3) k.toNatClampNeg + e.toInt64)) → Q I L 0 0) : mm_P shC msC (d + 2) 3 [.ref 1, .int k, .int e] I L Q := by
  refine pX0_canMove ?_
  simp only [↓uX0_canMove, ↓mm_r, mm_n, iaC, n10, not_true_eq_false, not_false_eq_true, false_implies, lg_cmp_ge, lg_cmp_le, lg_cmp_gt, lg_cmp_lt, lg_cmp_eq, true_and, and_true, true_or, or_true, true_implies, Classical.not_not, List.length_cons, List.length_nil, Nat.lt_iff_add_one_le, Nat.reduceAdd, Nat.reduceLeDiff, Nat.reduceEqDiff, Int.reduceAdd, reduceIte, Nat.reduceSub]
  have hv := vi8 hk h8
  refine sX0_has (fun _ _ _ => ⟨fun q => absurd q (by decide), fun _ => ⟨hv, ?_⟩⟩) (fun q => absurd ⟨hk, hc, h8⟩ q)
  refine sX4_fitsInt (fun f1 => ⟨fun q => absurd q (by decide), fun _ => ?_⟩) (fun f1 => ⟨fun _ => h0 (fun q => f1 q.1), fun q => absurd rfl q⟩)
  refine sX0_endOf hk h8 ?_
  refine sX4_fitsInt (fun f2 => ⟨fun q => absurd q (by decide), fun _ => h1 f1 f2⟩) (fun f2 => ⟨fun _ => h0 (fun q => f2 q.2), fun q => absurd rfl q⟩)
set_option maxHeartbeats 4000000 in
set_option maxRecDepth 100000 in
theorem sX0_jumpBetween {d : Nat} {I : mm_I} {L : mm_L} {Q : mm_Q} {a b : Int32} (ha : 0 ≤ a) (hac : a < I 1 4) (ha8 : a < 8) (hb : 0 ≤ b) (hbc : b < I 1 4) (hb8 : b < 8) (h : Q I L 0 (pj (I 2) (I 3) a.toNatClampNeg b.toNatClampNeg)) : mm_P shC msC (d + 2) 4 [.ref 1, .int a, .int b] I L Q := by
  refine pX0_jumpBetween ?_
  simp only [↓uX0_jumpBetween, ↓mm_r, mm_n, iaC, n10, not_true_eq_false, not_false_eq_true, false_implies, lg_cmp_ge, lg_cmp_le, lg_cmp_gt, lg_cmp_lt, lg_cmp_eq, true_and, and_true, true_or, or_true, true_implies, Classical.not_not, List.length_cons, List.length_nil, Nat.lt_iff_add_one_le, Nat.reduceAdd, Nat.reduceLeDiff, Nat.reduceEqDiff, Int.reduceAdd, reduceIte, Nat.reduceSub]
  have hv := vi8 hb hb8
  refine sX0_has (fun _ _ _ => ⟨fun q => absurd q (by decide), fun _ => ?_⟩) (fun q => absurd ⟨ha, hac, ha8⟩ q)
  refine sX0_has (fun _ _ _ => ⟨fun q => absurd q (by decide), fun _ => ⟨hv, ?_⟩⟩) (fun q => absurd ⟨hb, hbc, hb8⟩ q)
  exact sX0_endOf ha ha8 h
set_option maxHeartbeats 4000000 in
set_option maxRecDepth 100000 in
theorem sX0_sideBy {d : Nat} {I : mm_I} {L : mm_L} {Q : mm_Q} {k t : Int32} (ha : 0 ≤ k) (hac : k < I 1 4) (ha8 : k < 8) (hb : 0 ≤ t) (hbc : t < I 1 4) (hb8 : t < 8) (h : Q I L (ps (I 2) (I 3) k.toNatClampNeg t.toNatClampNeg) 0) : mm_P shC msC (d + 2) 5 [.ref 1, .int k, .int t] I L Q := by
  refine pX0_sideBy ?_
  simp only [↓uX0_sideBy, ↓mm_r, mm_n, iaC, n10, not_true_eq_false, not_false_eq_true, false_implies, lg_cmp_ge, lg_cmp_le, lg_cmp_gt, lg_cmp_lt, lg_cmp_eq, true_and, and_true, true_or, or_true, true_implies, Classical.not_not, List.length_cons, List.length_nil, Nat.lt_iff_add_one_le, Nat.reduceAdd, Nat.reduceLeDiff, Nat.reduceEqDiff, Int.reduceAdd, reduceIte, Nat.reduceSub]
  have hv := vi8 hb hb8
  have hv2 := vi8 ha ha8
  refine sX0_has (fun _ _ _ => ⟨fun q => absurd q (by decide), fun _ => ?_⟩) (fun q => absurd ⟨ha, hac, ha8⟩ q)
  refine sX0_has (fun _ _ _ => ⟨fun _ => ?_, fun q => absurd q (by decide)⟩) (fun q => absurd ⟨hb, hbc, hb8⟩ q)
  refine sX0_endOf ha ha8 ⟨hv, ?_, ?_⟩
  · intro h1
    refine ⟨hv2, ?_⟩
    refine sX0_endOf hb hb8 ⟨fun h2 => ?_, fun h2 => ?_⟩
    · unfold ps at h
      rw [if_neg (by grind), if_neg (by grind)] at h
      exact h
    · unfold ps at h
      rw [if_neg (by grind), if_pos (by grind)] at h
      exact h
  · intro h1
    unfold ps at h
    rw [if_pos (by grind)] at h
    exact h
set_option maxHeartbeats 4000000 in
set_option maxRecDepth 100000 in
theorem sX0_everyone {d : Nat} {I : mm_I} {L : mm_L} {Q : mm_Q} (h : Q I L (((1 : Int32) <<< (I 1 4 &&& 31)) - 1) 0) : mm_P shC msC (d + 1) 6 [.ref 1] I L Q := by
  refine pX0_everyone ?_
  simp only [↓uX0_everyone, ↓mm_r, mm_n, iaC, n10, not_true_eq_false, not_false_eq_true, false_implies, lg_cmp_ge, lg_cmp_le, lg_cmp_gt, lg_cmp_lt, lg_cmp_eq, true_and, and_true, true_or, or_true, true_implies, Classical.not_not, List.length_cons, List.length_nil, Nat.lt_iff_add_one_le, Nat.reduceAdd, Nat.reduceLeDiff, Nat.reduceEqDiff, Int.reduceAdd, reduceIte, Nat.reduceSub]
  exact h
/-- CLUES that the scenes of a set below n give -/
def pg (gv : Nat → Int32) (set : Int32) : Nat → Int32
  | 0 => 0
  | k + 1 => if bi set k then pg gv set k ||| gv k else pg gv set k
/-- all that is needed below n -/
def pn (nd : Nat → Int32) : Nat → Int32
  | 0 => 0
  | k + 1 => pn nd k ||| nd k
set_option maxHeartbeats 4000000 in
set_option maxRecDepth 100000 in
theorem lX0_givenBy {d : Nat} {I : mm_I} {L : mm_L} {Q : mm_Q} {set : Int32} {n : Nat} (hn : I 1 4 = nI n) (h8 : n ≤ 8) (h : Q I L (pg (I 4) set n) 0) : ∀ (m k : Nat), k + m = n → mm_W shC (mm_P shC msC (d + 1)) tbX0_givenBy Q 4 [.ref 1, .int set, .int (pg (I 4) set k), .int (nI k)] [] I L := by
  intro m
  induction m with
  | zero =>
    intro k hk
    refine mm_hk 60 ?_
    simp only [↓hX0_givenBy, ↓uX0_givenBy, ↓mm_r, mm_n, iaC, n10, not_true_eq_false, not_false_eq_true, false_implies, lg_cmp_ge, lg_cmp_le, lg_cmp_gt, lg_cmp_lt, lg_cmp_eq, true_and, and_true, true_or, or_true, true_implies, Classical.not_not, List.length_cons, List.length_nil, Nat.lt_iff_add_one_le, Nat.reduceAdd, Nat.reduceLeDiff, Nat.reduceEqDiff, Int.reduceAdd, reduceIte, Nat.reduceSub]
    simp only [hn, ni_le (a := n) (b := k) (by omega) (by omega)]
    exact ⟨fun _ => by rw [show k = n by omega]; exact h, fun q => absurd (by omega) q⟩
  | succ m ih =>
    intro k hk
    refine mm_hk 60 ?_
    simp only [↓hX0_givenBy, ↓uX0_givenBy, ↓mm_r, mm_n, iaC, n10, not_true_eq_false, not_false_eq_true, false_implies, lg_cmp_ge, lg_cmp_le, lg_cmp_gt, lg_cmp_lt, lg_cmp_eq, true_and, and_true, true_or, or_true, true_implies, Classical.not_not, List.length_cons, List.length_nil, Nat.lt_iff_add_one_le, Nat.reduceAdd, Nat.reduceLeDiff, Nat.reduceEqDiff, Int.reduceAdd, reduceIte, Nat.reduceSub]
    simp only [hn, ni_le (a := n) (b := k) (by omega) (by omega), ni_8 (a := k) (by omega), ni_cl (a := k) (by omega), nI_1]
    refine ⟨fun q => absurd q (by omega), fun _ => ⟨fun q => absurd q (by omega), fun _ => ?_⟩⟩
    refine sX4_isIn (fun b => ?_) (fun b => ?_)
    · simp only [n10, not_false_eq_true, false_implies, true_implies, true_and, and_true, not_true_eq_false]
      refine ⟨ni_in (by omega) (by omega), ?_⟩
      have h2 := ih (k + 1) (by omega)
      rw [show pg (I 4) set (k + 1) = pg (I 4) set k ||| I 4 k from if_pos b] at h2
      exact h2
    · simp only [n10, not_false_eq_true, false_implies, true_implies, true_and, and_true, not_true_eq_false]
      have h2 := ih (k + 1) (by omega)
      rw [show pg (I 4) set (k + 1) = pg (I 4) set k from if_neg b] at h2
      exact h2
set_option maxHeartbeats 4000000 in
set_option maxRecDepth 100000 in
theorem sX0_givenBy {d : Nat} {I : mm_I} {L : mm_L} {Q : mm_Q} {set : Int32} {n : Nat} (hn : I 1 4 = nI n) (h8 : n ≤ 8) (h : Q I L (pg (I 4) set n) 0) : mm_P shC msC (d + 2) 7 [.ref 1, .int set] I L Q := by
  refine pX0_givenBy ?_
  simp only [↓hX0_givenBy, ↓uX0_givenBy, ↓mm_r, mm_n, iaC, n10, not_true_eq_false, not_false_eq_true, false_implies, lg_cmp_ge, lg_cmp_le, lg_cmp_gt, lg_cmp_lt, lg_cmp_eq, true_and, and_true, true_or, or_true, true_implies, Classical.not_not, List.length_cons, List.length_nil, Nat.lt_iff_add_one_le, Nat.reduceAdd, Nat.reduceLeDiff, Nat.reduceEqDiff, Int.reduceAdd, reduceIte, Nat.reduceSub]
  exact lX0_givenBy hn h8 h n 0 (by omega)
