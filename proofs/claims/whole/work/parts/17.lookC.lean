/-! ===== the look, on the left side ===== -/
def enc (o : Option Nat) : Int32 := match o with
  | none => -1
  | some a => nI a
def td (o : Option pt) (a b c e : Int32) : Prop := match o with
  | none => a = -1
  | some (u, dd, t, sd) => a = nI u ∧ b = nI dd ∧ c = enc t ∧ e = sd
/-- the cells 7 .. 11 hold a look -/
def CR (A : pa) (I : mm_I) (L : mm_L) : Prop := match A.1 with
  | [] => False
  | (t, l, sd) :: r => I 7 6 = nI A.2.2.2.1 ∧ I 7 7 = nI A.2.2.2.2.1 ∧ I 7 8 = nI A.2.2.1 ∧ I 7 9 = A.2.2.2.2.2.1 ∧ L 7 10 = A.2.2.2.2.2.2 ∧ I 7 11 = nI r.length ∧ I 7 12 = enc l ∧ I 7 13 = enc t ∧ I 7 14 = sd ∧ ∀ k, k < 8 → td (A.2.1 k) (I 8 k) (I 9 k) (I 10 k) (I 11 k)
def c7 (I I' : mm_I) : Prop := ∀ c, c < 7 ∨ 11 < c → I' c = I c
def l7 (L L' : mm_L) : Prop := ∀ c, c ≠ 7 → L' c = L c
theorem c7_rf {I : mm_I} : c7 I I := fun _ _ => rfl
theorem l7_rf {L : mm_L} : l7 L L := fun _ _ => rfl
theorem c7_tr {I I' I'' : mm_I} (h : c7 I I') (h' : c7 I' I'') : c7 I I'' := fun c hc => (h' c hc).trans (h c hc)
theorem l7_tr {L L' L'' : mm_L} (h : l7 L L') (h' : l7 L' L'') : l7 L L'' := fun c hc => (h' c hc).trans (h c hc)
theorem c7_ui {I I' : mm_I} {a k : Nat} {v : Int32} (h : c7 I I') (ha : 7 ≤ a ∧ a ≤ 11) : c7 I (mm_ui I' a k v) := fun c hc => by
  rw [uif, if_neg (by omega)]
  exact h c hc
theorem l7_ul {L L' : mm_L} {k : Nat} {v : Int64} (h : l7 L L') : l7 L (mm_ul L' 7 k v) := fun c hc => by
  rw [mm_ul_off L' k v hc]
  exact h c hc
theorem m1_0 : ((-1 : Int32) < 0) = True := by decide +kernel
theorem ni_m1 {a : Nat} (ha : a ≤ 1000000) : (nI a = -1) = False := by
  apply propext
  refine ⟨fun h => ?_, fun h => h.elim⟩
  have h2 : (nI a < 0) = False := ni_0 ha
  rw [h, m1_0] at h2
  exact h2 ▸ trivial
theorem m1_t : ((-1 : Int32) = -1) = True := by simp
/-- a row filled -/
def fil (f : Nat → Int32) (v : Int32) (k : Nat) : Nat → Int32 := fun j => if j < k then v else f j
theorem fil_0 (I : mm_I) (a : Nat) (v : Int32) : mm_ur I a (fil (I a) v 0) = I := by
  funext b j
  simp only [mm_ur, fil, Nat.not_lt_zero, if_false]
  split
  · rename_i h
    rw [h]
  · rfl
theorem fil_s (I : mm_I) (a : Nat) (v : Int32) (k : Nat) : mm_ui (mm_ur I a (fil (I a) v k)) a k v = mm_ur I a (fil (I a) v (k + 1)) := by
  funext b j
  simp only [mm_ui, mm_ur, fil]
  by_cases hb : b = a
  · subst hb
    simp only [if_true]
    by_cases hj : j = k
    · subst hj
      simp
    · simp only [hj, if_false]
      by_cases h : j < k
      · simp only [h, if_true, show j < k + 1 by omega]
      · simp only [h, if_false, show ¬ j < k + 1 by omega]
  · simp only [hb, if_false]
set_option maxHeartbeats 4000000 in
set_option maxRecDepth 100000 in
theorem lJ7_fill {d : Nat} {I : mm_I} {L : mm_L} {Q : mm_Q} {a n : Nat} {v : Int32} (ha : mm_ia shC a = n) (hn : n ≤ 1000) (h : Q (mm_ur I a (fil (I a) v n)) L 0 0) : ∀ (m k : Nat), k + m = n → mm_W shC (mm_P shC msC d) tbJ7_fill_53178 Q 5 [.ref a, .int v, .int (nI k), .int (nI n)] [] (mm_ur I a (fil (I a) v k)) L := by
  intro m
  induction m with
  | zero =>
    intro k hk
    have e1 : k = n := by omega
    subst e1
    refine mm_hk 60 ?_
    simp only [↓hJ7_fill_53178, ↓uJ7_fill_53178, ↓mm_r, mm_n, iaC, n10, not_true_eq_false, not_false_eq_true, false_implies, lg_cmp_ge, lg_cmp_le, lg_cmp_gt, lg_cmp_lt, lg_cmp_eq, true_and, and_true, true_or, or_true, true_implies, Classical.not_not, List.length_cons, List.length_nil, Nat.lt_iff_add_one_le, Nat.reduceAdd, Nat.reduceLeDiff, Nat.reduceEqDiff, Int.reduceAdd, reduceIte, Nat.reduceSub]
    simp only [ni_le (a := k) (b := k) (by omega) (by omega)]
    exact ⟨fun _ => h, fun q => absurd (Nat.le_refl k) q⟩
  | succ m ih =>
    intro k hk
    refine mm_hk 60 ?_
    simp only [↓hJ7_fill_53178, ↓uJ7_fill_53178, ↓mm_r, mm_n, iaC, n10, not_true_eq_false, not_false_eq_true, false_implies, lg_cmp_ge, lg_cmp_le, lg_cmp_gt, lg_cmp_lt, lg_cmp_eq, true_and, and_true, true_or, or_true, true_implies, Classical.not_not, List.length_cons, List.length_nil, Nat.lt_iff_add_one_le, Nat.reduceAdd, Nat.reduceLeDiff, Nat.reduceEqDiff, Int.reduceAdd, reduceIte, Nat.reduceSub]
    simp only [ha, ni_le (a := n) (b := k) (by omega) (by omega), ni_cl (a := k) (by omega), nI_1, fil_s]
    exact ⟨fun q => absurd q (by omega), fun _ => ⟨ni_in (by omega) (by omega), ih (k + 1) (by omega)⟩⟩
set_option maxHeartbeats 4000000 in
set_option maxRecDepth 100000 in
theorem sJ7_fill {d : Nat} {I : mm_I} {L : mm_L} {Q : mm_Q} {a n : Nat} {v : Int32} (ha : mm_ia shC a = n) (hl : mm_la shC a = 0) (h0 : 0 < n) (hn : n ≤ 1000) (h : Q (mm_ur I a (fil (I a) v n)) L 0 0) : mm_P shC msC (d + 1) 66 [.ref a, .int v] I L Q := by
  refine pJ7_fill_53178 ?_
  simp only [↓hJ7_fill_53178, ↓uJ7_fill_53178, ↓mm_r, mm_n, iaC, n10, not_true_eq_false, not_false_eq_true, false_implies, lg_cmp_ge, lg_cmp_le, lg_cmp_gt, lg_cmp_lt, lg_cmp_eq, true_and, and_true, true_or, or_true, true_implies, Classical.not_not, List.length_cons, List.length_nil, Nat.lt_iff_add_one_le, Nat.reduceAdd, Nat.reduceLeDiff, Nat.reduceEqDiff, Int.reduceAdd, reduceIte, Nat.reduceSub]
  simp only [ha, hl, Nat.add_zero]
  refine ⟨by omega, ?_⟩
  have := lJ7_fill (d := d) ha hn h n 0 (by omega)
  rw [fil_0] at this
  exact this
set_option maxHeartbeats 4000000 in
set_option maxRecDepth 100000 in
theorem sX3_isWrong {d : Nat} {I : mm_I} {L : mm_L} {Q : mm_Q} (h1 : ¬ I 7 5 = 0 → Q I L 1 0) (h0 : I 7 5 = 0 → Q I L 0 0) : mm_P shC msC (d + 1) 26 [.ref 7] I L Q := by
  refine pX3_isWrong ?_
  simp only [↓uX3_isWrong, ↓mm_r, mm_n, iaC, n10, not_true_eq_false, not_false_eq_true, false_implies, lg_cmp_ge, lg_cmp_le, lg_cmp_gt, lg_cmp_lt, lg_cmp_eq, true_and, and_true, true_or, or_true, true_implies, Classical.not_not, List.length_cons, List.length_nil, Nat.lt_iff_add_one_le, Nat.reduceAdd, Nat.reduceLeDiff, Nat.reduceEqDiff, Int.reduceAdd, reduceIte, Nat.reduceSub]
  exact ⟨h0, h1⟩
set_option maxHeartbeats 4000000 in
set_option maxRecDepth 100000 in
theorem sX3_hasTold {d : Nat} {I : mm_I} {L : mm_L} {Q : mm_Q} {k : Nat} {o : Option pt} {b c e : Int32} {m : Nat} (hk : k < 8) (ht : td o (I 8 k) b c e) (hb : ∀ p, o = some p → p.1 < m) (hm : m ≤ 1000) (h1 : o.isSome = true → Q I L 1 0) (h0 : o = none → Q I L 0 0) : mm_P shC msC (d + 1) 27 [.ref 7, .int (nI k)] I L Q := by
  refine pX3_hasTold ?_
  simp only [↓uX3_hasTold, ↓mm_r, mm_n, iaC, n10, not_true_eq_false, not_false_eq_true, false_implies, lg_cmp_ge, lg_cmp_le, lg_cmp_gt, lg_cmp_lt, lg_cmp_eq, true_and, and_true, true_or, or_true, true_implies, Classical.not_not, List.length_cons, List.length_nil, Nat.lt_iff_add_one_le, Nat.reduceAdd, Nat.reduceLeDiff, Nat.reduceEqDiff, Int.reduceAdd, reduceIte, Nat.reduceSub]
  simp only [ni_0 (a := k) (by omega), ni_8 (a := k) (by omega), ni_cl (a := k) (by omega), show ¬ 8 ≤ k by omega, false_implies, true_and, true_implies, not_false_eq_true]
  refine ⟨ni_in (by omega) (by omega), ?_⟩
  cases o with
  | none =>
    have ht : I 8 k = -1 := ht
    simp only [ht, m1_0, true_implies, not_true_eq_false, false_implies, and_true]
    exact h0 rfl
  | some p =>
    obtain ⟨u, dd, t, sd⟩ := p
    have ht : I 8 k = nI u := ht.1
    have hu := hb _ rfl
    dsimp only at hu
    simp only [ht, ni_0 (a := u) (by omega), true_implies, not_false_eq_true, false_implies, true_and]
    exact h1 rfl
set_option maxHeartbeats 4000000 in
set_option maxRecDepth 100000 in
theorem sX3_begin {d : Nat} {I : mm_I} {L : mm_L} {Q : mm_Q} (h : ∀ I' L', CR lk_0 I' L' → c7 I I' → l7 L L' → I' 7 5 = 0 → Q I' L' 0 0) : mm_P shC msC (d + 2) 29 [.ref 7] I L Q := by
  refine pX3_begin ?_
  simp only [↓uX3_begin, ↓mm_r, mm_n, iaC, n10, not_true_eq_false, not_false_eq_true, false_implies, lg_cmp_ge, lg_cmp_le, lg_cmp_gt, lg_cmp_lt, lg_cmp_eq, true_and, and_true, true_or, or_true, true_implies, Classical.not_not, List.length_cons, List.length_nil, Nat.lt_iff_add_one_le, Nat.reduceAdd, Nat.reduceLeDiff, Nat.reduceEqDiff, Int.reduceAdd, reduceIte, Nat.reduceSub]
  refine sJ7_fill (n := 8) (by decide +kernel) (by decide +kernel) (by omega) (by omega) ?_
  refine h _ _ ?_ ?_ ?_ ?_
  · refine ⟨?_, ?_, ?_, ?_, ?_, ?_, ?_, ?_, ?_, fun k hk => ?_⟩
    all_goals simp only [uia, mm_ul, Nat.reduceEqDiff, reduceIte]
    all_goals first | rfl | skip
    show _ = (-1 : Int32)
    simp only [uia, mm_ur, fil, Nat.reduceEqDiff, reduceIte, hk]
  · intro c hc
    simp only [uif, urf, show ¬ c = 7 by omega, show ¬ c = 8 by omega, if_false]
  · exact l7_ul l7_rf
  · simp only [uia, Nat.reduceEqDiff, reduceIte]
