/-! ===== THE ORDER, on the right side ===== -/
abbrev bR (I : mm_I) : pb := (I 1, I 2, I 3, I 4)
theorem o_b0 : ∀ S : Nat, S < 256 → ∀ k : Nat, k < 8 → ((nI S >>> (nI k &&& 31) &&& 1 = 0) ↔ S.testBit k = false) := by decide +kernel
theorem nev : (1000000000000 : Int64) = lN 1000000000000 := by decide +kernel
set_option maxHeartbeats 4000000 in
set_option maxRecDepth 100000 in
theorem lX5_mayCome {d : Nat} {I : mm_I} {L : mm_L} {Q : mm_Q} {S k n : Nat} (hn : I 0 0 = nI n) (h8 : n ≤ 8) (hS : S < 256) (hk : k < 8) (h1 : oav (bR I) n S k → Q I L 1 0) (h0 : ¬ oav (bR I) n S k → Q I L 0 0) : ∀ (m x : Nat), x + m = n → mm_W shR (mm_P shR msR d) tbX5_mayCome Q 4 [.ref 0, .int (nI k), .int (nI S), .int (pg (I 3) (nI S) x), .int (nI x)] [] I L := by
  intro m
  induction m with
  | zero =>
    intro x hx
    have e1 : x = n := by omega
    subst e1
    refine mm_hk 60 ?_
    simp only [↓hX5_mayCome, ↓uX5_mayCome, ↓mm_r, mm_n, iaR, n10, not_true_eq_false, not_false_eq_true, false_implies, lg_cmp_ge, lg_cmp_le, lg_cmp_gt, lg_cmp_lt, lg_cmp_eq, true_and, and_true, true_or, or_true, true_implies, Classical.not_not, List.length_cons, List.length_nil, Nat.lt_iff_add_one_le, Nat.reduceAdd, Nat.reduceLeDiff, Nat.reduceEqDiff, Int.reduceAdd, reduceIte, Nat.reduceSub]
    simp only [hn, ni_le (a := x) (b := x) (by omega) (by omega), ni_cl (a := k) (by omega)]
    refine ⟨fun _ => ⟨fun q => h0 (fun z => q ((o_b0 S hS k hk).mpr z.1)), fun q => ⟨ni_in (by omega) (by omega), fun q2 => h0 (fun z => q2 z.2), fun q2 => h1 ⟨(o_b0 S hS k hk).mp q, q2⟩⟩⟩, fun q => absurd (Nat.le_refl x) q⟩
  | succ m ih =>
    intro x hx
    refine mm_hk 60 ?_
    simp only [↓hX5_mayCome, ↓uX5_mayCome, ↓mm_r, mm_n, iaR, n10, not_true_eq_false, not_false_eq_true, false_implies, lg_cmp_ge, lg_cmp_le, lg_cmp_gt, lg_cmp_lt, lg_cmp_eq, true_and, and_true, true_or, or_true, true_implies, Classical.not_not, List.length_cons, List.length_nil, Nat.lt_iff_add_one_le, Nat.reduceAdd, Nat.reduceLeDiff, Nat.reduceEqDiff, Int.reduceAdd, reduceIte, Nat.reduceSub]
    simp only [hn, ni_le (a := n) (b := x) (by omega) (by omega), ni_cl (a := x) (by omega), nI_1, or_z]
    have nx := ih (x + 1) (by omega)
    rw [pg] at nx
    refine ⟨fun q => absurd q (by omega), fun _ => ⟨fun q => ?_, fun q => ⟨ni_in (by omega) (by omega), ?_⟩⟩⟩
    · rw [if_neg q] at nx
      exact nx
    · rw [if_pos q] at nx
      exact nx
set_option maxHeartbeats 4000000 in
set_option maxRecDepth 100000 in
theorem sX5_mayCome {d : Nat} {I : mm_I} {L : mm_L} {Q : mm_Q} {S k n : Nat} (hn : I 0 0 = nI n) (h8 : n ≤ 8) (hS : S < 256) (hk : k < 8) (h1 : oav (bR I) n S k → Q I L 1 0) (h0 : ¬ oav (bR I) n S k → Q I L 0 0) : mm_P shR msR (d + 1) 39 [.ref 0, .int (nI k), .int (nI S)] I L Q := by
  refine pX5_mayCome ?_
  simp only [↓hX5_mayCome, ↓uX5_mayCome, ↓mm_r, mm_n, iaR, n10, not_true_eq_false, not_false_eq_true, false_implies, lg_cmp_ge, lg_cmp_le, lg_cmp_gt, lg_cmp_lt, lg_cmp_eq, true_and, and_true, true_or, or_true, true_implies, Classical.not_not, List.length_cons, List.length_nil, Nat.lt_iff_add_one_le, Nat.reduceAdd, Nat.reduceLeDiff, Nat.reduceEqDiff, Int.reduceAdd, reduceIte, Nat.reduceSub]
  exact lX5_mayCome hn h8 hS hk h1 h0 n 0 (by omega)
/-- the least jumps, as the right side writes them -/
def og : Option Nat → Int64
  | none => 1000000000000
  | some x => lN x
def RT (b : pb) (n m : Nat) (L : mm_L) : Prop := ∀ S l, m ≤ S → 0 < S → S < 2 ^ n → l < n → L 13 (8 * S + l) = og (orr b n S l)
set_option maxHeartbeats 4000000 in
set_option maxRecDepth 100000 in
theorem sX5_byNext {d : Nat} {I : mm_I} {L : mm_L} {Q : mm_Q} {S l k n : Nat} (h8 : n ≤ 8) (h0 : 0 < S) (hS : S < 2 ^ n) (hl : l < n) (hk : k < n) (ha : oav (bR I) n S k) (hT : RT (bR I) n (S + 1) L) (h : Q I L 0 (og (oc (bR I) n S l k))) : mm_P shR msR (d + 3) 40 [.ref 0, .int (nI S), .int (nI l), .int (nI k)] I L Q := by
  have p2 := o_p2 n (by omega)
  have h5 := o_or S (by omega) k (by omega) ha.1
  have h6 := o_lt hS hk
  have hv := hT (S ||| 2 ^ k) k h5.1 (by omega) h6 hk
  refine pX5_byNext ?_
  simp only [↓uX5_byNext, ↓mm_r, mm_n, iaR, n10, not_true_eq_false, not_false_eq_true, false_implies, lg_cmp_ge, lg_cmp_le, lg_cmp_gt, lg_cmp_lt, lg_cmp_eq, true_and, and_true, true_or, or_true, true_implies, Classical.not_not, List.length_cons, List.length_nil, Nat.lt_iff_add_one_le, Nat.reduceAdd, Nat.reduceLeDiff, Nat.reduceEqDiff, Int.reduceAdd, reduceIte, Nat.reduceSub]
  have hp : (8 : Int32) * (nI S ||| 1 <<< (nI k &&& 31)) + nI k = nI (8 * (S ||| 2 ^ k) + k) := by rw [o_or2 S (by omega) k (by omega), nl8, pk_mul, nI_add]
  rw [hp, ni_cl (by omega), hv]
  rw [oc, if_pos ha] at h
  refine ⟨ni_in (by omega) (by omega), fun q => ?_, fun q => ?_⟩
  · cases ho : orr (bR I) n (S ||| 2 ^ k) k with
    | none => rw [ho] at q; exact absurd q (by decide)
    | some x =>
      rw [ho] at h
      refine sX5_jumpOf (by rw [ni_00 (by omega)]; trivial) (by rw [ni_l8 (by omega)]; omega) (by rw [ni_00 (by omega)]; trivial) (by rw [ni_l8 (by omega)]; omega) ?_
      rw [ni_cl (by omega), ni_cl (by omega), pj_cj]
      rw [show lN (cj (I 1) (I 2) l k) + og (some x) = og (Option.map (· + ocs (bR I) S l k) (some x)) by
        show lN _ + lN x = lN (x + ocs (bR I) S l k)
        rw [lN_add, ocs, if_neg (by omega), Nat.add_comm]]
      exact h
  · cases ho : orr (bR I) n (S ||| 2 ^ k) k with
    | none => rw [ho] at h; exact h
    | some x =>
      exfalso
      have := orr_le h8 h5.2 ho
      rw [ho, nev] at q
      apply q
      show lN x < _
      rw [pk_lLT (by omega) (by omega)]
      omega
def RU (b : pb) (n S m : Nat) (L : mm_L) : Prop := ∀ l, l < m → L 13 (8 * S + l) = og (orr b n S l)
theorem RT_u {b : pb} {n m S l : Nat} {L : mm_L} {x : Int64} (h8 : n ≤ 8) (hT : RT b n m L) (hl : l < 8) (h : S < m) : RT b n m (mm_ul L 13 (8 * S + l) x) := by
  intro S2 l2 h1 h2 h3 h4
  show (if (13 : Nat) = 13 then (if 8 * S2 + l2 = 8 * S + l then x else L 13 (8 * S2 + l2)) else L 13 (8 * S2 + l2)) = _
  rw [if_pos rfl, if_neg (by omega)]
  exact hT S2 l2 h1 h2 h3 h4
theorem RU_s {b : pb} {n S m : Nat} {L : mm_L} {x : Int64} (h : RU b n S m L) (hx : x = og (orr b n S m)) : RU b n S (m + 1) (mm_ul L 13 (8 * S + m) x) := by
  intro l hl
  show (if (13 : Nat) = 13 then (if 8 * S + l = 8 * S + m then x else L 13 (8 * S + l)) else L 13 (8 * S + l)) = _
  rw [if_pos rfl]
  by_cases e : l = m
  · subst e
    rw [if_pos rfl, hx]
  · rw [if_neg (by omega)]
    exact h l (by omega)
set_option maxHeartbeats 4000000 in
set_option maxRecDepth 100000 in
theorem lX5_findRest3 {d : Nat} {I : mm_I} {L : mm_L} {Q : mm_Q} {S l n : Nat} (hn : I 0 0 = nI n) (h8 : n ≤ 8) (h0 : 0 < S) (hS : S < 2 ^ n) (hl : l < n) (hT : RT (bR I) n (S + 1) L)
    (h : ∀ y4 y5 y6 y7 y8, mm_W shR (mm_P shR msR (d + 3)) tbX5_findRest Q 13 [.ref 0, .int (nI (2 ^ n - 1)), .int (nI S), .int (nI (l + 1)), y4, y5, y6, y7, y8] [] I (mm_ul L 13 (8 * S + l) (og (orr (bR I) n S l)))) :
    ∀ (m k : Nat) (y7 y8 : Value), k + m = n → mm_W shR (mm_P shR msR (d + 3)) tbX5_findRest Q 26 [.ref 0, .int (nI (2 ^ n - 1)), .int (nI S), .int (nI l), .long (if S = 2 ^ n - 1 then 0 else og ((obs (oc (bR I) n S l) k).map Prod.fst)), .null, .int (nI k), y7, y8] [] I L := by
  have p2 := o_p2 n (by omega)
  have oe1 := orr_e (b := bR I) (l := l) h8 (show S < 256 by omega)
  have hp : (8 : Int32) * nI S + nI l = nI (8 * S + l) := by rw [nl8, pk_mul, nI_add]
  have hin : vp_in (nI (8 * S + l)) 2048 := ni_in (by omega) (by omega)
  intro m
  induction m with
  | zero =>
    intro k y7 y8 hk
    have e1 : k = n := by omega
    subst e1
    refine mm_hk 60 ?_
    simp only [↓hX5_findRest, ↓uX5_findRest, ↓mm_r, mm_n, iaR, n10, not_true_eq_false, not_false_eq_true, false_implies, lg_cmp_ge, lg_cmp_le, lg_cmp_gt, lg_cmp_lt, lg_cmp_eq, true_and, and_true, true_or, or_true, true_implies, Classical.not_not, List.length_cons, List.length_nil, Nat.lt_iff_add_one_le, Nat.reduceAdd, Nat.reduceLeDiff, Nat.reduceEqDiff, Int.reduceAdd, reduceIte, Nat.reduceSub]
    simp only [hn, ni_le (a := k) (b := k) (by omega) (by omega), hp, ni_cl (a := 8 * S + l) (by omega), nI_1]
    refine ⟨fun _ => ⟨hin, ?_⟩, fun q => absurd (Nat.le_refl k) q⟩
    rw [show (if S = 2 ^ k - 1 then (0 : Int64) else og ((obs (oc (bR I) k S l) k).map Prod.fst)) = og (orr (bR I) k S l) by
      rw [oe1]
      split
      · rfl
      · rfl]
    exact h _ _ _ _ _
  | succ m ih =>
    intro k y7 y8 hk
    refine mm_hk 60 ?_
    simp only [↓hX5_findRest, ↓uX5_findRest, ↓mm_r, mm_n, iaR, n10, not_true_eq_false, not_false_eq_true, false_implies, lg_cmp_ge, lg_cmp_le, lg_cmp_gt, lg_cmp_lt, lg_cmp_eq, true_and, and_true, true_or, or_true, true_implies, Classical.not_not, List.length_cons, List.length_nil, Nat.lt_iff_add_one_le, Nat.reduceAdd, Nat.reduceLeDiff, Nat.reduceEqDiff, Int.reduceAdd, reduceIte, Nat.reduceSub]
    simp only [hn, ni_le (a := n) (b := k) (by omega) (by omega), hp, ni_cl (a := 8 * S + l) (by omega), nI_1, ni_eq (a := S) (b := 2 ^ n - 1) (by omega) (by omega)]
    refine ⟨fun q => absurd q (by omega), fun _ => ⟨fun q => ⟨hin, ?_⟩, fun q => ?_⟩⟩
    · rw [if_pos q]
      rw [if_pos q] at oe1
      have := h (.long 0) .null (.int (nI k)) y7 y8
      rw [oe1] at this
      exact this
    · have nx := fun y7 y8 => ih (k + 1) y7 y8 (by omega)
      simp only [if_neg q] at nx ⊢
      have hob : ∀ x j, obs (oc (bR I) n S l) k = some (x, j) → x < 1000000000000 := fun x j hx => by
        obtain ⟨j1, j2, -⟩ := obs_s k x j hx
        have := oc_le (l := l) h8 (show j < n by omega) (show S < 256 by omega) j2
        omega
      have hle : og ((obs (oc (bR I) n S l) k).map Prod.fst) ≤ 1000000000000 := by
        cases ho : obs (oc (bR I) n S l) k with
        | none => decide
        | some p =>
          obtain ⟨x, j⟩ := p
          have := hob x j ho
          rw [nev]
          show lN x ≤ _
          rw [pk_lLE (by omega) (by omega)]
          omega
      refine sX5_mayCome hn h8 (by omega) (by omega) (fun ha => ?_) (fun ha => ?_)
      · simp only [n10, not_false_eq_true, false_implies, true_implies, true_and, and_true, not_true_eq_false]
        refine sX5_byNext h8 h0 hS hl (by omega) ha hT ?_
        have nx := nx (.long (og (oc (bR I) n S l k))) .null
        cases hc : oc (bR I) n S l k with
        | none =>
          rw [obs, hc] at nx
          exact ⟨fun _ => nx, fun z => absurd hle z⟩
        | some x =>
          have hx := oc_le h8 (show k < n by omega) (show S < 256 by omega) hc
          rw [obs, hc] at nx
          dsimp only at nx
          cases ho : obs (oc (bR I) n S l) k with
          | none =>
            rw [ho] at nx
            refine ⟨fun z => ?_, fun _ => nx⟩
            exfalso
            have z : (1000000000000 : Int64) ≤ lN x := z
            rw [nev, pk_lLE (by omega) (by omega)] at z
            omega
          | some p =>
            obtain ⟨y, j⟩ := p
            have hy := hob y j ho
            rw [ho] at nx
            dsimp only at nx
            refine ⟨fun z => ?_, fun z => ?_⟩
            · have z : lN y ≤ lN x := z
              rw [pk_lLE (by omega) (by omega)] at z
              rw [if_neg (by omega)] at nx
              exact nx
            · have z : ¬ lN y ≤ lN x := z
              rw [pk_lLE (by omega) (by omega)] at z
              rw [if_pos (by omega)] at nx
              exact nx
      · simp only [n10, not_false_eq_true, false_implies, true_implies, true_and, and_true, not_true_eq_false]
        have nx := nx (.long 1000000000000) .null
        rw [obs, oc, if_neg ha] at nx
        exact ⟨fun _ => nx, fun z => absurd hle z⟩
set_option maxHeartbeats 4000000 in
set_option maxRecDepth 100000 in
theorem lX5_findRest2 {d : Nat} {I : mm_I} {Q : mm_Q} {S n : Nat} (hn : I 0 0 = nI n) (h8 : n ≤ 8) (h0 : 0 < S) (hS : S < 2 ^ n)
    (h : ∀ L' y3 y4 y5 y6 y7 y8, RT (bR I) n S L' → mm_W shR (mm_P shR msR (d + 3)) tbX5_findRest Q 9 [.ref 0, .int (nI (2 ^ n - 1)), .int (nI S + (-1)), y3, y4, y5, y6, y7, y8] [] I L') :
    ∀ (m l : Nat) (L : mm_L) (y4 y5 y6 y7 y8 : Value), l + m = n → RT (bR I) n (S + 1) L → RU (bR I) n S l L → mm_W shR (mm_P shR msR (d + 3)) tbX5_findRest Q 13 [.ref 0, .int (nI (2 ^ n - 1)), .int (nI S), .int (nI l), y4, y5, y6, y7, y8] [] I L := by
  have p2 := o_p2 n (by omega)
  intro m
  induction m with
  | zero =>
    intro l L y4 y5 y6 y7 y8 hl hT hU
    have e1 : l = n := by omega
    subst e1
    refine mm_hk 60 ?_
    simp only [↓hX5_findRest, ↓uX5_findRest, ↓mm_r, mm_n, iaR, n10, not_true_eq_false, not_false_eq_true, false_implies, lg_cmp_ge, lg_cmp_le, lg_cmp_gt, lg_cmp_lt, lg_cmp_eq, true_and, and_true, true_or, or_true, true_implies, Classical.not_not, List.length_cons, List.length_nil, Nat.lt_iff_add_one_le, Nat.reduceAdd, Nat.reduceLeDiff, Nat.reduceEqDiff, Int.reduceAdd, reduceIte, Nat.reduceSub]
    simp only [hn, ni_le (a := l) (b := l) (by omega) (by omega)]
    refine ⟨fun _ => h L _ _ _ _ _ _ (fun S2 l2 a1 a2 a3 a4 => ?_), fun q => absurd (Nat.le_refl l) q⟩
    by_cases e : S2 = S
    · subst e
      exact hU l2 a4
    · exact hT S2 l2 (by omega) a2 a3 a4
  | succ m ih =>
    intro l L y4 y5 y6 y7 y8 hl hT hU
    refine mm_hk 60 ?_
    simp only [↓hX5_findRest, ↓uX5_findRest, ↓mm_r, mm_n, iaR, n10, not_true_eq_false, not_false_eq_true, false_implies, lg_cmp_ge, lg_cmp_le, lg_cmp_gt, lg_cmp_lt, lg_cmp_eq, true_and, and_true, true_or, or_true, true_implies, Classical.not_not, List.length_cons, List.length_nil, Nat.lt_iff_add_one_le, Nat.reduceAdd, Nat.reduceLeDiff, Nat.reduceEqDiff, Int.reduceAdd, reduceIte, Nat.reduceSub]
    simp only [hn, ni_le (a := n) (b := l) (by omega) (by omega), ni_eq (a := S) (b := 2 ^ n - 1) (by omega) (by omega)]
    have nx := lX5_findRest3 (d := d) (L := L) (Q := Q) (l := l) hn h8 h0 hS (by omega) hT (fun y4 y5 y6 y7 y8 => ih (l + 1) _ y4 y5 y6 y7 y8 (by omega) (RT_u h8 hT (by omega) (by omega)) (RU_s hU rfl)) n 0 y7 y8 (by omega)
    refine ⟨fun q => absurd q (by omega), fun _ => ⟨fun q => ?_, fun q => ?_⟩⟩
    · rw [if_neg q] at nx
      exact nx
    · rw [if_pos q] at nx
      exact nx
set_option maxHeartbeats 4000000 in
set_option maxRecDepth 100000 in
theorem lX5_findRest {d : Nat} {I : mm_I} {Q : mm_Q} {n : Nat} (hn : I 0 0 = nI n) (h8 : n ≤ 8) (h : ∀ L', RT (bR I) n 1 L' → Q I L' 0 0) : ∀ (S : Nat) (L : mm_L) (y3 y4 y5 y6 y7 y8 : Value), S < 2 ^ n → RT (bR I) n (S + 1) L → mm_W shR (mm_P shR msR (d + 3)) tbX5_findRest Q 9 [.ref 0, .int (nI (2 ^ n - 1)), .int (nI S), y3, y4, y5, y6, y7, y8] [] I L := by
  have p2 := o_p2 n (by omega)
  intro S
  induction S with
  | zero =>
    intro L y3 y4 y5 y6 y7 y8 hS hT
    refine mm_hk 60 ?_
    simp only [↓hX5_findRest, ↓uX5_findRest, ↓mm_r, mm_n, iaR, n10, not_true_eq_false, not_false_eq_true, false_implies, lg_cmp_ge, lg_cmp_le, lg_cmp_gt, lg_cmp_lt, lg_cmp_eq, true_and, and_true, true_or, or_true, true_implies, Classical.not_not, List.length_cons, List.length_nil, Nat.lt_iff_add_one_le, Nat.reduceAdd, Nat.reduceLeDiff, Nat.reduceEqDiff, Int.reduceAdd, reduceIte, Nat.reduceSub]
    exact ⟨fun _ => h L hT, fun q => absurd (by decide) q⟩
  | succ S ih =>
    intro L y3 y4 y5 y6 y7 y8 hS hT
    refine mm_hk 60 ?_
    simp only [↓hX5_findRest, ↓uX5_findRest, ↓mm_r, mm_n, iaR, n10, not_true_eq_false, not_false_eq_true, false_implies, lg_cmp_ge, lg_cmp_le, lg_cmp_gt, lg_cmp_lt, lg_cmp_eq, true_and, and_true, true_or, or_true, true_implies, Classical.not_not, List.length_cons, List.length_nil, Nat.lt_iff_add_one_le, Nat.reduceAdd, Nat.reduceLeDiff, Nat.reduceEqDiff, Int.reduceAdd, reduceIte, Nat.reduceSub]
    refine ⟨fun q => ?_, fun _ => ?_⟩
    · exfalso
      rw [nl0, ni_le (by omega) (by omega)] at q
      omega
    · have := lX5_findRest2 (d := d) (Q := Q) hn h8 (Nat.succ_pos S) hS (fun L' y3 y4 y5 y6 y7 y8 hR => by rw [pk_m1]; exact ih L' y3 y4 y5 y6 y7 y8 (by omega) hR) n 0 L y4 y5 y6 y7 y8 (by omega) hT (fun l hl => absurd hl (by omega))
      exact this
set_option maxHeartbeats 4000000 in
set_option maxRecDepth 100000 in
theorem sX5_findRest {d : Nat} {I : mm_I} {L : mm_L} {Q : mm_Q} {n : Nat} (hn : I 0 0 = nI n) (h8 : n ≤ 8) (h : ∀ L', RT (bR I) n 1 L' → Q I L' 0 0) : mm_P shR msR (d + 4) 41 [.ref 0] I L Q := by
  have p2 := o_p2 n (by omega)
  refine pX5_findRest ?_
  simp only [↓hX5_findRest, ↓uX5_findRest, ↓mm_r, mm_n, iaR, n10, not_true_eq_false, not_false_eq_true, false_implies, lg_cmp_ge, lg_cmp_le, lg_cmp_gt, lg_cmp_lt, lg_cmp_eq, true_and, and_true, true_or, or_true, true_implies, Classical.not_not, List.length_cons, List.length_nil, Nat.lt_iff_add_one_le, Nat.reduceAdd, Nat.reduceLeDiff, Nat.reduceEqDiff, Int.reduceAdd, reduceIte, Nat.reduceSub]
  rw [hn, o_all n (by omega)]
  exact lX5_findRest hn h8 h (2 ^ n - 1) L _ _ _ _ _ _ (by omega) (fun S l a1 a2 a3 => absurd a3 (by omega))
