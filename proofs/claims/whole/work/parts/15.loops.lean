/-! ===== shift, ofClue, on both sides ===== -/
def shf (fr : Nat → Int32) (e : Int32) (n : Nat) : Nat → Int32 := fun k => if k < n then fr k + e else fr k
abbrev mvs (fr ln : Nat → Int32) (e : Int32) (k : Nat) : Prop := fi ((fr k).toInt64 + e.toInt64) ∧ fi (pe fr ln k + e.toInt64)
def q_shift (v : pv) (e : Int32) : pv × Int32 := if ∀ k, k < (v_n v).toNatClampNeg → mvs v.1 v.2.1 e k then ((shf v.1 e (v_n v).toNatClampNeg, v.2), v_n v) else (v, -5)
/-- scenes below n whose row has the clue, as a set -/
def po (row : Nat → Int32) (c : Int32) : Nat → Int32
  | 0 => 0
  | k + 1 => if (row k >>> (c &&& 31)) &&& 1 = 1 then po row c k ||| (1 <<< (nI k &&& 31)) else po row c k
def q_ofClue (v : pv) (c w : Int32) : pv × Int32 := if ¬ (0 ≤ c ∧ c < 8) then (v, -1) else if ¬ (w = 0 ∨ w = 1) then (v, -2) else (v, po (if w = 0 then v.2.2.1 else v.2.2.2.1) c (v_n v).toNatClampNeg)
theorem urf (I : mm_I) (x : Nat) (f : Nat → Int32) (k : Nat) : mm_ur I x f k = if k = x then f else I k := by
  split
  · rename_i h
    subst h
    exact mm_ur_row I k f
  · rename_i h
    exact mm_ur_off I f h
theorem shf_0 (I : mm_I) (a : Nat) (e : Int32) : mm_ur I a (shf (I a) e 0) = I := by
  funext b j
  simp only [mm_ur, shf, Nat.not_lt_zero, if_false]
  split
  · rename_i h
    rw [h]
  · rfl
theorem shf_k (fr : Nat → Int32) (e : Int32) (k : Nat) : shf fr e k k = fr k := by
  simp [shf]
theorem shf_s (I : mm_I) (a : Nat) (e : Int32) (k : Nat) : mm_ui (mm_ur I a (shf (I a) e k)) a k (I a k + e) = mm_ur I a (shf (I a) e (k + 1)) := by
  funext b j
  simp only [mm_ui, mm_ur, shf]
  by_cases hb : b = a
  · subst hb
    simp only [if_true]
    by_cases hj : j = k
    · subst hj
      simp
    · simp only [hj, if_false]
      by_cases h : j < k
      · simp only [h, if_true, show j < k + 1 by omega]
      · simp only [h, if_false, show ¬ j < k + 1 by omega]
  · simp only [hb, if_false]
set_option maxHeartbeats 4000000 in
set_option maxRecDepth 100000 in
theorem lX4_shift2 {d : Nat} {I : mm_I} {L : mm_L} {Q : mm_Q} {e : Int32} {n : Nat} (hn : I 1 4 = nI n) (h8 : n ≤ 8) (h : Q (mm_ui (mm_ui (mm_ur I 2 (shf (I 2) e n)) 13 4 0) 16 10 0) L (nI n) 0) : ∀ (m k : Nat), k + m = n → mm_W shC (mm_P shC msC (d + 1)) tbX4_shift Q 19 [.ref 0, .int e, .int (nI k)] [] (mm_ur I 2 (shf (I 2) e k)) L := by
  intro m
  induction m with
  | zero =>
    intro k hk
    have e1 : k = n := by omega
    subst e1
    refine mm_hk 60 ?_
    simp only [↓hX4_shift, ↓uX4_shift, ↓mm_r, mm_n, iaC, n10, not_true_eq_false, not_false_eq_true, false_implies, lg_cmp_ge, lg_cmp_le, lg_cmp_gt, lg_cmp_lt, lg_cmp_eq, true_and, and_true, true_or, or_true, true_implies, Classical.not_not, List.length_cons, List.length_nil, Nat.lt_iff_add_one_le, Nat.reduceAdd, Nat.reduceLeDiff, Nat.reduceEqDiff, Int.reduceAdd, reduceIte, Nat.reduceSub]
    simp only [hn, ni_le (a := k) (b := k) (by omega) (by omega)]
    refine ⟨fun _ => sX4_forgetBest ?_, fun q => absurd (Nat.le_refl k) q⟩
    simp only [uia, Nat.reduceEqDiff, reduceIte, mm_ur, hn]
    exact h
  | succ m ih =>
    intro k hk
    refine mm_hk 60 ?_
    simp only [↓hX4_shift, ↓uX4_shift, ↓mm_r, mm_n, iaC, n10, not_true_eq_false, not_false_eq_true, false_implies, lg_cmp_ge, lg_cmp_le, lg_cmp_gt, lg_cmp_lt, lg_cmp_eq, true_and, and_true, true_or, or_true, true_implies, Classical.not_not, List.length_cons, List.length_nil, Nat.lt_iff_add_one_le, Nat.reduceAdd, Nat.reduceLeDiff, Nat.reduceEqDiff, Int.reduceAdd, reduceIte, Nat.reduceSub]
    simp only [hn, ni_le (a := n) (b := k) (by omega) (by omega), ni_8 (a := k) (by omega), ni_cl (a := k) (by omega), nI_1, shf_k, shf_s]
    exact ⟨fun q => absurd q (by omega), fun _ => ⟨fun q => absurd q (by omega), fun _ => ⟨ni_in (by omega) (by omega), ni_in (by omega) (by omega), ih (k + 1) (by omega)⟩⟩⟩
set_option maxHeartbeats 4000000 in
set_option maxRecDepth 100000 in
theorem lX4_shift {d : Nat} {I : mm_I} {L : mm_L} {Q : mm_Q} {e : Int32} {n : Nat} (hn : I 1 4 = nI n) (h8 : n ≤ 8) (h1 : (∀ k, k < n → mvs (I 2) (I 3) e k) → Q (mm_ui (mm_ui (mm_ur I 2 (shf (I 2) e n)) 13 4 0) 16 10 0) L (nI n) 0) (h0 : ¬ (∀ k, k < n → mvs (I 2) (I 3) e k) → Q I L (-5) 0) : ∀ (m k : Nat), k + m = n → (∀ j, j < k → mvs (I 2) (I 3) e j) → mm_W shC (mm_P shC msC (d + 2)) tbX4_shift Q 2 [.ref 0, .int e, .int (nI k)] [] I L := by
  intro m
  induction m with
  | zero =>
    intro k hk hj
    have e1 : k = n := by omega
    subst e1
    refine mm_hk 60 ?_
    simp only [↓hX4_shift, ↓uX4_shift, ↓mm_r, mm_n, iaC, n10, not_true_eq_false, not_false_eq_true, false_implies, lg_cmp_ge, lg_cmp_le, lg_cmp_gt, lg_cmp_lt, lg_cmp_eq, true_and, and_true, true_or, or_true, true_implies, Classical.not_not, List.length_cons, List.length_nil, Nat.lt_iff_add_one_le, Nat.reduceAdd, Nat.reduceLeDiff, Nat.reduceEqDiff, Int.reduceAdd, reduceIte, Nat.reduceSub]
    simp only [hn, ni_le (a := k) (b := k) (by omega) (by omega)]
    refine ⟨fun _ => ?_, fun q => absurd (Nat.le_refl k) q⟩
    have := lX4_shift2 (d := d + 1) hn h8 (h1 hj) k 0 (by omega)
    rw [shf_0] at this
    exact this
  | succ m ih =>
    intro k hk hj
    refine mm_hk 60 ?_
    simp only [↓hX4_shift, ↓uX4_shift, ↓mm_r, mm_n, iaC, n10, not_true_eq_false, not_false_eq_true, false_implies, lg_cmp_ge, lg_cmp_le, lg_cmp_gt, lg_cmp_lt, lg_cmp_eq, true_and, and_true, true_or, or_true, true_implies, Classical.not_not, List.length_cons, List.length_nil, Nat.lt_iff_add_one_le, Nat.reduceAdd, Nat.reduceLeDiff, Nat.reduceEqDiff, Int.reduceAdd, reduceIte, Nat.reduceSub]
    simp only [hn, ni_le (a := n) (b := k) (by omega) (by omega), nI_1]
    refine ⟨fun q => absurd q (by omega), fun _ => ?_⟩
    refine sX0_canMove (by rw [ni_00 (by omega)]; trivial) (by rw [hn, ni_lt (by omega) (by omega)]; omega) (by rw [ni_l8 (by omega)]; omega) (fun f1 f2 => ?_) (fun f => ?_)
    · simp only [n10, not_false_eq_true, false_implies, true_implies, true_and, and_true, not_true_eq_false]
      rw [ni_cl (by omega)] at f1 f2
      exact ih (k + 1) (by omega) (fun j hj2 => by
        rcases Nat.lt_or_ge j k with q | q
        · exact hj j q
        · have : j = k := by omega
          subst this
          exact ⟨f1, f2⟩)
    · simp only [n10, not_false_eq_true, false_implies, true_implies, true_and, and_true, not_true_eq_false]
      rw [ni_cl (by omega)] at f
      exact h0 (fun q => f (q k (by omega)))
set_option maxHeartbeats 4000000 in
set_option maxRecDepth 100000 in
theorem kX4_shift {d : Nat} {I : mm_I} {L : mm_L} {e : Int32} (hv : vok (vC I)) : mm_P shC msC (d + 3) 39 [.ref 0, .int e] I L (fun I' L' ri _ => (vC I', ri) = q_shift (vC I) e ∧ kc I L I' L') := by
  obtain ⟨n, hn, h8⟩ := vok_n hv
  have hn : I 1 4 = nI n := hn
  refine pX4_shift ?_
  simp only [↓hX4_shift, ↓uX4_shift, ↓mm_r, mm_n, iaC, n10, not_true_eq_false, not_false_eq_true, false_implies, lg_cmp_ge, lg_cmp_le, lg_cmp_gt, lg_cmp_lt, lg_cmp_eq, true_and, and_true, true_or, or_true, true_implies, Classical.not_not, List.length_cons, List.length_nil, Nat.lt_iff_add_one_le, Nat.reduceAdd, Nat.reduceLeDiff, Nat.reduceEqDiff, Int.reduceAdd, reduceIte, Nat.reduceSub]
  have hc : (v_n (vC I)).toNatClampNeg = n := by show (I 1 4).toNatClampNeg = n; rw [hn, ni_cl (by omega)]
  refine lX4_shift hn h8 (fun h => ⟨?_, kcf ?_ ?_⟩) (fun h => ⟨?_, kcs⟩) n 0 (by omega) (fun j hj => absurd hj (by omega))
  · rw [q_shift, hc, if_pos (show ∀ k, k < n → mvs (vC I).1 (vC I).2.1 e k from h)]
    simp only [vC, uif, uia, urf, Nat.reduceEqDiff, reduceIte, v_n, hn]
  · simp only [uia, Nat.reduceEqDiff, reduceIte]
  · simp only [uia, Nat.reduceEqDiff, reduceIte]
  · rw [q_shift, hc, if_neg (show ¬ ∀ k, k < n → mvs (vC I).1 (vC I).2.1 e k from h)]
set_option maxHeartbeats 4000000 in
set_option maxRecDepth 100000 in
theorem lX5_shift2 {d : Nat} {I : mm_I} {L : mm_L} {Q : mm_Q} {e : Int32} {n : Nat} (hn : I 0 0 = nI n) (h8 : n ≤ 8) (h : Q (mm_ur I 1 (shf (I 1) e n)) L (nI n) 0) : ∀ (m k : Nat), k + m = n → mm_W shR (mm_P shR msR d) tbX5_shift Q 17 [.ref 0, .int e, .int (nI k)] [] (mm_ur I 1 (shf (I 1) e k)) L := by
  intro m
  induction m with
  | zero =>
    intro k hk
    have e1 : k = n := by omega
    subst e1
    refine mm_hk 60 ?_
    simp only [↓hX5_shift, ↓uX5_shift, ↓mm_r, mm_n, iaR, n10, not_true_eq_false, not_false_eq_true, false_implies, lg_cmp_ge, lg_cmp_le, lg_cmp_gt, lg_cmp_lt, lg_cmp_eq, true_and, and_true, true_or, or_true, true_implies, Classical.not_not, List.length_cons, List.length_nil, Nat.lt_iff_add_one_le, Nat.reduceAdd, Nat.reduceLeDiff, Nat.reduceEqDiff, Int.reduceAdd, reduceIte, Nat.reduceSub]
    simp only [hn, ni_le (a := k) (b := k) (by omega) (by omega)]
    exact ⟨fun _ => h, fun q => absurd (Nat.le_refl k) q⟩
  | succ m ih =>
    intro k hk
    refine mm_hk 60 ?_
    simp only [↓hX5_shift, ↓uX5_shift, ↓mm_r, mm_n, iaR, n10, not_true_eq_false, not_false_eq_true, false_implies, lg_cmp_ge, lg_cmp_le, lg_cmp_gt, lg_cmp_lt, lg_cmp_eq, true_and, and_true, true_or, or_true, true_implies, Classical.not_not, List.length_cons, List.length_nil, Nat.lt_iff_add_one_le, Nat.reduceAdd, Nat.reduceLeDiff, Nat.reduceEqDiff, Int.reduceAdd, reduceIte, Nat.reduceSub]
    simp only [hn, ni_le (a := n) (b := k) (by omega) (by omega), ni_cl (a := k) (by omega), nI_1, shf_k, shf_s]
    exact ⟨fun q => absurd q (by omega), fun _ => ⟨ni_in (by omega) (by omega), ni_in (by omega) (by omega), ih (k + 1) (by omega)⟩⟩
set_option maxHeartbeats 4000000 in
set_option maxRecDepth 100000 in
theorem lX5_shift {d : Nat} {I : mm_I} {L : mm_L} {Q : mm_Q} {e : Int32} {n : Nat} (hn : I 0 0 = nI n) (h8 : n ≤ 8) (h1 : (∀ k, k < n → mvs (I 1) (I 2) e k) → Q (mm_ur I 1 (shf (I 1) e n)) L (nI n) 0) (h0 : ¬ (∀ k, k < n → mvs (I 1) (I 2) e k) → Q I L (-5) 0) : ∀ (m k : Nat), k + m = n → (∀ j, j < k → mvs (I 1) (I 2) e j) → mm_W shR (mm_P shR msR (d + 2)) tbX5_shift Q 2 [.ref 0, .int e, .int (nI k)] [] I L := by
  intro m
  induction m with
  | zero =>
    intro k hk hj
    have e1 : k = n := by omega
    subst e1
    refine mm_hk 60 ?_
    simp only [↓hX5_shift, ↓uX5_shift, ↓mm_r, mm_n, iaR, n10, not_true_eq_false, not_false_eq_true, false_implies, lg_cmp_ge, lg_cmp_le, lg_cmp_gt, lg_cmp_lt, lg_cmp_eq, true_and, and_true, true_or, or_true, true_implies, Classical.not_not, List.length_cons, List.length_nil, Nat.lt_iff_add_one_le, Nat.reduceAdd, Nat.reduceLeDiff, Nat.reduceEqDiff, Int.reduceAdd, reduceIte, Nat.reduceSub]
    simp only [hn, ni_le (a := k) (b := k) (by omega) (by omega)]
    refine ⟨fun _ => ?_, fun q => absurd (Nat.le_refl k) q⟩
    have := lX5_shift2 (d := d + 2) hn h8 (h1 hj) k 0 (by omega)
    rw [shf_0] at this
    exact this
  | succ m ih =>
    intro k hk hj
    refine mm_hk 60 ?_
    simp only [↓hX5_shift, ↓uX5_shift, ↓mm_r, mm_n, iaR, n10, not_true_eq_false, not_false_eq_true, false_implies, lg_cmp_ge, lg_cmp_le, lg_cmp_gt, lg_cmp_lt, lg_cmp_eq, true_and, and_true, true_or, or_true, true_implies, Classical.not_not, List.length_cons, List.length_nil, Nat.lt_iff_add_one_le, Nat.reduceAdd, Nat.reduceLeDiff, Nat.reduceEqDiff, Int.reduceAdd, reduceIte, Nat.reduceSub]
    simp only [hn, ni_le (a := n) (b := k) (by omega) (by omega), nI_1]
    refine ⟨fun q => absurd q (by omega), fun _ => ?_⟩
    refine sX5_mayMove (by rw [ni_00 (by omega)]; trivial) (by rw [ni_l8 (by omega)]; omega) (fun f1 f2 => ?_) (fun f => ?_)
    · simp only [n10, not_false_eq_true, false_implies, true_implies, true_and, and_true, not_true_eq_false]
      rw [ni_cl (by omega)] at f1 f2
      exact ih (k + 1) (by omega) (fun j hj2 => by
        rcases Nat.lt_or_ge j k with q | q
        · exact hj j q
        · have : j = k := by omega
          subst this
          exact ⟨f1, f2⟩)
    · simp only [n10, not_false_eq_true, false_implies, true_implies, true_and, and_true, not_true_eq_false]
      rw [ni_cl (by omega)] at f
      exact h0 (fun q => f (q k (by omega)))
set_option maxHeartbeats 4000000 in
set_option maxRecDepth 100000 in
theorem kX5_shift {d : Nat} {I : mm_I} {L : mm_L} {e : Int32} (hv : vok (vR I)) : mm_P shR msR (d + 3) 9 [.ref 0, .int e] I L (fun I' _ ri _ => (vR I', ri) = q_shift (vR I) e) := by
  obtain ⟨n, hn, h8⟩ := vok_n hv
  have hn : I 0 0 = nI n := hn
  refine pX5_shift ?_
  simp only [↓hX5_shift, ↓uX5_shift, ↓mm_r, mm_n, iaR, n10, not_true_eq_false, not_false_eq_true, false_implies, lg_cmp_ge, lg_cmp_le, lg_cmp_gt, lg_cmp_lt, lg_cmp_eq, true_and, and_true, true_or, or_true, true_implies, Classical.not_not, List.length_cons, List.length_nil, Nat.lt_iff_add_one_le, Nat.reduceAdd, Nat.reduceLeDiff, Nat.reduceEqDiff, Int.reduceAdd, reduceIte, Nat.reduceSub]
  have hc : (v_n (vR I)).toNatClampNeg = n := by show (I 0 0).toNatClampNeg = n; rw [hn, ni_cl (by omega)]
  refine lX5_shift hn h8 (fun h => ?_) (fun h => ?_) n 0 (by omega) (fun j hj => absurd hj (by omega))
  · rw [q_shift, hc, if_pos (show ∀ k, k < n → mvs (vR I).1 (vR I).2.1 e k from h)]
    simp only [vR, uif, uia, urf, Nat.reduceEqDiff, reduceIte, v_n, hn]
  · rw [q_shift, hc, if_neg (show ¬ ∀ k, k < n → mvs (vR I).1 (vR I).2.1 e k from h)]
set_option maxHeartbeats 4000000 in
set_option maxRecDepth 100000 in
theorem lX4_ofClue {d : Nat} {I : mm_I} {L : mm_L} {Q : mm_Q} {c w : Int32} {r n : Nat} (hr : mm_ia shC r = 8) (hn : I 1 4 = nI n) (h8 : n ≤ 8) (h : Q I L (po (I r) c n) 0) : ∀ (m k : Nat), k + m = n → mm_W shC (mm_P shC msC (d + 1)) tbX4_ofClue Q 26 [.ref 0, .int c, .int w, .ref r, .int (po (I r) c k), .int (nI k)] [] I L := by
  intro m
  induction m with
  | zero =>
    intro k hk
    have e1 : k = n := by omega
    subst e1
    refine mm_hk 60 ?_
    simp only [↓hX4_ofClue, ↓uX4_ofClue, ↓mm_r, mm_n, iaC, n10, not_true_eq_false, not_false_eq_true, false_implies, lg_cmp_ge, lg_cmp_le, lg_cmp_gt, lg_cmp_lt, lg_cmp_eq, true_and, and_true, true_or, or_true, true_implies, Classical.not_not, List.length_cons, List.length_nil, Nat.lt_iff_add_one_le, Nat.reduceAdd, Nat.reduceLeDiff, Nat.reduceEqDiff, Int.reduceAdd, reduceIte, Nat.reduceSub]
    simp only [hn, ni_le (a := k) (b := k) (by omega) (by omega)]
    exact ⟨fun _ => h, fun q => absurd (Nat.le_refl k) q⟩
  | succ m ih =>
    intro k hk
    refine mm_hk 60 ?_
    simp only [↓hX4_ofClue, ↓uX4_ofClue, ↓mm_r, mm_n, iaC, n10, not_true_eq_false, not_false_eq_true, false_implies, lg_cmp_ge, lg_cmp_le, lg_cmp_gt, lg_cmp_lt, lg_cmp_eq, true_and, and_true, true_or, or_true, true_implies, Classical.not_not, List.length_cons, List.length_nil, Nat.lt_iff_add_one_le, Nat.reduceAdd, Nat.reduceLeDiff, Nat.reduceEqDiff, Int.reduceAdd, reduceIte, Nat.reduceSub]
    simp only [hn, hr, ni_le (a := n) (b := k) (by omega) (by omega), ni_8 (a := k) (by omega), ni_cl (a := k) (by omega), nI_1]
    refine ⟨fun q => absurd q (by omega), fun _ => ⟨fun q => absurd q (by omega), fun _ => ⟨ni_in (by omega) (by omega), ?_⟩⟩⟩
    have h2 := ih (k + 1) (by omega)
    refine sX4_isIn (fun b => ?_) (fun b => ?_)
    · simp only [n10, not_false_eq_true, false_implies, true_implies, true_and, and_true, not_true_eq_false]
      rw [show po (I r) c (k + 1) = po (I r) c k ||| (1 <<< (nI k &&& 31)) from if_pos b] at h2
      exact h2
    · simp only [n10, not_false_eq_true, false_implies, true_implies, true_and, and_true, not_true_eq_false]
      rw [show po (I r) c (k + 1) = po (I r) c k from if_neg b] at h2
      exact h2
set_option maxHeartbeats 4000000 in
set_option maxRecDepth 100000 in
theorem kX4_ofClue {d : Nat} {I : mm_I} {L : mm_L} {c w : Int32} (hv : vok (vC I)) : mm_P shC msC (d + 2) 42 [.ref 0, .int c, .int w] I L (fun I' L' ri _ => (vC I', ri) = q_ofClue (vC I) c w ∧ kc I L I' L') := by
  obtain ⟨n, hn, h8⟩ := vok_n hv
  have hn : I 1 4 = nI n := hn
  have hc : (v_n (vC I)).toNatClampNeg = n := by show (I 1 4).toNatClampNeg = n; rw [hn, ni_cl (by omega)]
  refine pX4_ofClue ?_
  simp only [↓hX4_ofClue, ↓uX4_ofClue, ↓mm_r, mm_n, iaC, n10, not_true_eq_false, not_false_eq_true, false_implies, lg_cmp_ge, lg_cmp_le, lg_cmp_gt, lg_cmp_lt, lg_cmp_eq, true_and, and_true, true_or, or_true, true_implies, Classical.not_not, List.length_cons, List.length_nil, Nat.lt_iff_add_one_le, Nat.reduceAdd, Nat.reduceLeDiff, Nat.reduceEqDiff, Int.reduceAdd, reduceIte, Nat.reduceSub]
  refine sX4_isClue (fun h1 h2 => ?_) (fun h1 => ?_)
  · simp only [n10, not_false_eq_true, false_implies, true_implies, true_and, and_true, not_true_eq_false]
    have h3 : ¬ ¬ (0 ≤ c ∧ c < 8) := fun q => q ⟨h1, h2⟩
    by_cases w0 : w = 0
    · subst w0
      simp only [true_implies, not_true_eq_false, false_implies, true_and, and_true]
      refine lX4_ofClue (by decide +kernel) hn h8 ⟨?_, kcs⟩ n 0 (by omega)
      rw [q_ofClue, if_neg h3, if_neg (fun q => q (Or.inl rfl)), if_pos rfl, hc]
      rfl
    · by_cases w1 : w = 1
      · subst w1
        simp only [n10, true_implies, not_true_eq_false, not_false_eq_true, false_implies, true_and, and_true]
        refine lX4_ofClue (by decide +kernel) hn h8 ⟨?_, kcs⟩ n 0 (by omega)
        rw [q_ofClue, if_neg h3, if_neg (fun q => q (Or.inr rfl)), if_neg (by decide), hc]
        rfl
      · simp only [w0, w1, true_implies, not_true_eq_false, not_false_eq_true, false_implies, true_and, and_true]
        exact ⟨by rw [q_ofClue, if_neg h3, if_pos (by grind)], kcs⟩
  · simp only [n10, not_false_eq_true, false_implies, true_implies, true_and, and_true, not_true_eq_false]
    exact ⟨by rw [q_ofClue, if_pos h1], kcs⟩
theorem or_z (a : Int32) : a ||| 0 = a := by
  apply b_ext
  intro i hi
  rw [b_or, b_0]
  simp
set_option maxHeartbeats 4000000 in
set_option maxRecDepth 100000 in
theorem lX5_setOf {d : Nat} {I : mm_I} {L : mm_L} {Q : mm_Q} {c w : Int32} {n : Nat} (hn : I 0 0 = nI n) (h8 : n ≤ 8) (h : Q I L (po (if w = 0 then I 3 else I 4) c n) 0) : ∀ (m k : Nat) (z : Value), k + m = n → mm_W shR (mm_P shR msR d) tbX5_setOf Q 4 [.ref 0, .int c, .int w, .int (po (if w = 0 then I 3 else I 4) c k), .int (nI k), z] [] I L := by
  intro m
  induction m with
  | zero =>
    intro k z hk
    have e1 : k = n := by omega
    subst e1
    refine mm_hk 60 ?_
    simp only [↓hX5_setOf, ↓uX5_setOf, ↓mm_r, mm_n, iaR, n10, not_true_eq_false, not_false_eq_true, false_implies, lg_cmp_ge, lg_cmp_le, lg_cmp_gt, lg_cmp_lt, lg_cmp_eq, true_and, and_true, true_or, or_true, true_implies, Classical.not_not, List.length_cons, List.length_nil, Nat.lt_iff_add_one_le, Nat.reduceAdd, Nat.reduceLeDiff, Nat.reduceEqDiff, Int.reduceAdd, reduceIte, Nat.reduceSub]
    simp only [hn, ni_le (a := k) (b := k) (by omega) (by omega)]
    exact ⟨fun _ => h, fun q => absurd (Nat.le_refl k) q⟩
  | succ m ih =>
    intro k z hk
    refine mm_hk 60 ?_
    simp only [↓hX5_setOf, ↓uX5_setOf, ↓mm_r, mm_n, iaR, n10, not_true_eq_false, not_false_eq_true, false_implies, lg_cmp_ge, lg_cmp_le, lg_cmp_gt, lg_cmp_lt, lg_cmp_eq, true_and, and_true, true_or, or_true, true_implies, Classical.not_not, List.length_cons, List.length_nil, Nat.lt_iff_add_one_le, Nat.reduceAdd, Nat.reduceLeDiff, Nat.reduceEqDiff, Int.reduceAdd, reduceIte, Nat.reduceSub]
    simp only [hn, ni_le (a := n) (b := k) (by omega) (by omega), ni_cl (a := k) (by omega), nI_1, or_z]
    refine ⟨fun q => absurd q (by omega), fun _ => ⟨fun w0 => ⟨ni_in (by omega) (by omega), fun b => ?_, fun b => ?_⟩, fun w0 => ⟨ni_in (by omega) (by omega), fun b => ?_, fun b => ?_⟩⟩⟩
    · have h2 := ih (k + 1) (.int (I 4 k)) (by omega)
      rw [show po (if w = 0 then I 3 else I 4) c (k + 1) = po (if w = 0 then I 3 else I 4) c k from if_neg (by rw [if_neg w0]; exact b)] at h2
      exact h2
    · have h2 := ih (k + 1) (.int (I 4 k)) (by omega)
      rw [show po (if w = 0 then I 3 else I 4) c (k + 1) = po (if w = 0 then I 3 else I 4) c k ||| (1 <<< (nI k &&& 31)) from if_pos (by rw [if_neg w0]; exact b)] at h2
      exact h2
    · have h2 := ih (k + 1) (.int (I 3 k)) (by omega)
      rw [show po (if w = 0 then I 3 else I 4) c (k + 1) = po (if w = 0 then I 3 else I 4) c k from if_neg (by rw [if_pos w0]; exact b)] at h2
      exact h2
    · have h2 := ih (k + 1) (.int (I 3 k)) (by omega)
      rw [show po (if w = 0 then I 3 else I 4) c (k + 1) = po (if w = 0 then I 3 else I 4) c k ||| (1 <<< (nI k &&& 31)) from if_pos (by rw [if_pos w0]; exact b)] at h2
      exact h2
set_option maxHeartbeats 4000000 in
set_option maxRecDepth 100000 in
theorem sX5_setOf {d : Nat} {I : mm_I} {L : mm_L} {Q : mm_Q} {c w : Int32} {n : Nat} (hn : I 0 0 = nI n) (h8 : n ≤ 8) (h : Q I L (po (if w = 0 then I 3 else I 4) c n) 0) : mm_P shR msR (d + 1) 12 [.ref 0, .int c, .int w] I L Q := by
  refine pX5_setOf ?_
  simp only [↓hX5_setOf, ↓uX5_setOf, ↓mm_r, mm_n, iaR, n10, not_true_eq_false, not_false_eq_true, false_implies, lg_cmp_ge, lg_cmp_le, lg_cmp_gt, lg_cmp_lt, lg_cmp_eq, true_and, and_true, true_or, or_true, true_implies, Classical.not_not, List.length_cons, List.length_nil, Nat.lt_iff_add_one_le, Nat.reduceAdd, Nat.reduceLeDiff, Nat.reduceEqDiff, Int.reduceAdd, reduceIte, Nat.reduceSub]
  exact lX5_setOf hn h8 h n 0 .null (by omega)
set_option maxHeartbeats 4000000 in
set_option maxRecDepth 100000 in
theorem kX5_ofClue {d : Nat} {I : mm_I} {L : mm_L} {c w : Int32} (hv : vok (vR I)) : mm_P shR msR (d + 3) 13 [.ref 0, .int c, .int w] I L (fun I' _ ri _ => (vR I', ri) = q_ofClue (vR I) c w) := by
  obtain ⟨n, hn, h8⟩ := vok_n hv
  have hn : I 0 0 = nI n := hn
  have hc : (v_n (vR I)).toNatClampNeg = n := by show (I 0 0).toNatClampNeg = n; rw [hn, ni_cl (by omega)]
  refine pX5_ofClue ?_
  simp only [↓uX5_ofClue, ↓mm_r, mm_n, iaR, n10, not_true_eq_false, not_false_eq_true, false_implies, lg_cmp_ge, lg_cmp_le, lg_cmp_gt, lg_cmp_lt, lg_cmp_eq, true_and, and_true, true_or, or_true, true_implies, Classical.not_not, List.length_cons, List.length_nil, Nat.lt_iff_add_one_le, Nat.reduceAdd, Nat.reduceLeDiff, Nat.reduceEqDiff, Int.reduceAdd, reduceIte, Nat.reduceSub]
  refine sX5_isClue (fun h1 h2 => ?_) (fun h1 => ?_)
  · simp only [n10, not_false_eq_true, false_implies, true_implies, true_and, and_true, not_true_eq_false]
    have h3 : ¬ ¬ (0 ≤ c ∧ c < 8) := fun q => q ⟨h1, h2⟩
    refine sX5_within (fun h4 h5 => ?_) (fun h4 => ?_)
    · simp only [n10, not_false_eq_true, false_implies, true_implies, true_and, and_true, not_true_eq_false]
      refine sX5_setOf hn h8 ?_
      rw [q_ofClue, if_neg h3, if_neg (show ¬ ¬ (w = 0 ∨ w = 1) from fun q => q (by grind)), hc]
      rfl
    · simp only [n10, not_false_eq_true, false_implies, true_implies, true_and, and_true, not_true_eq_false]
      rw [q_ofClue, if_neg h3, if_pos (by grind)]
  · simp only [n10, not_false_eq_true, false_implies, true_implies, true_and, and_true, not_true_eq_false]
    rw [q_ofClue, if_pos h1]
