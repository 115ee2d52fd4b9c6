/-! ===== THE ORDER, on the left side ===== -/
/-- the ready ones below k, as a set -/
def ord (b : pb) (n S : Nat) : Nat → Int32
  | 0 => 0
  | k + 1 => if oav b n S k then ord b n S k ||| (1 <<< (nI k &&& 31)) else ord b n S k
theorem ord_b {b : pb} {n S : Nat} {j : Nat} (hj : j < 32) : ∀ m : Nat, m ≤ 8 → ((bt (ord b n S m) j = true) ↔ j < m ∧ oav b n S j) := by
  intro m
  induction m with
  | zero => intro _; simp [ord, b_0]
  | succ m ih =>
    intro hm
    have ih := ih (by omega)
    rw [ord]
    split
    · rename_i hb
      rw [b_or, Bool.or_eq_true, ih, b_sh1 (by omega) hj, decide_eq_true_eq]
      constructor
      · rintro (⟨h1, h2⟩ | h)
        · exact ⟨by omega, h2⟩
        · subst h
          exact ⟨by omega, hb⟩
      · rintro ⟨h1, h2⟩
        by_cases e : j = m
        · exact Or.inr e
        · exact Or.inl ⟨by omega, h2⟩
    · rename_i hb
      rw [ih]
      constructor
      · rintro ⟨h1, h2⟩
        exact ⟨by omega, h2⟩
      · rintro ⟨h1, h2⟩
        refine ⟨?_, h2⟩
        by_cases e : j = m
        · subst e
          exact absurd h2 hb
        · omega
theorem ord_i {b : pb} {n S k : Nat} (hn : n ≤ 8) (hk : k < n) : bi (ord b n S n) k ↔ oav b n S k := by
  unfold bi
  rw [bt_bit _ (by omega), ord_b (by omega) n hn]
  exact ⟨fun h => h.2, fun h => ⟨hk, h⟩⟩
abbrev bC (I : mm_I) : pb := (I 2, I 3, I 4, I 5)
set_option maxHeartbeats 4000000 in
set_option maxRecDepth 100000 in
theorem lX0_readyAfter {d : Nat} {I : mm_I} {L : mm_L} {Q : mm_Q} {S n : Nat} (hn : I 1 4 = nI n) (h8 : n ≤ 8) (hS : S < 256) (h : Q I L (ord (bC I) n S n) 0) : ∀ (m k : Nat), k + m = n → mm_W shC (mm_P shC msC (d + 1)) tbX0_readyAfter Q 8 [.ref 1, .int (nI S), .int (pg (I 4) (nI S) n), .int (ord (bC I) n S k), .int (nI k)] [] I L := by
  intro m
  induction m with
  | zero =>
    intro k hk
    have e1 : k = n := by omega
    subst e1
    refine mm_hk 60 ?_
    simp only [↓hX0_readyAfter, ↓uX0_readyAfter, ↓mm_r, mm_n, iaC, n10, not_true_eq_false, not_false_eq_true, false_implies, lg_cmp_ge, lg_cmp_le, lg_cmp_gt, lg_cmp_lt, lg_cmp_eq, true_and, and_true, true_or, or_true, true_implies, Classical.not_not, List.length_cons, List.length_nil, Nat.lt_iff_add_one_le, Nat.reduceAdd, Nat.reduceLeDiff, Nat.reduceEqDiff, Int.reduceAdd, reduceIte, Nat.reduceSub]
    simp only [hn, ni_le (a := k) (b := k) (by omega) (by omega)]
    exact ⟨fun _ => h, fun q => absurd (Nat.le_refl k) q⟩
  | succ m ih =>
    intro k hk
    refine mm_hk 60 ?_
    simp only [↓hX0_readyAfter, ↓uX0_readyAfter, ↓mm_r, mm_n, iaC, n10, not_true_eq_false, not_false_eq_true, false_implies, lg_cmp_ge, lg_cmp_le, lg_cmp_gt, lg_cmp_lt, lg_cmp_eq, true_and, and_true, true_or, or_true, true_implies, Classical.not_not, List.length_cons, List.length_nil, Nat.lt_iff_add_one_le, Nat.reduceAdd, Nat.reduceLeDiff, Nat.reduceEqDiff, Int.reduceAdd, reduceIte, Nat.reduceSub]
    simp only [hn, ni_le (a := n) (b := k) (by omega) (by omega), ni_8 (a := k) (by omega), ni_cl (a := k) (by omega), nI_1]
    refine ⟨fun q => absurd q (by omega), fun _ => ⟨fun q => absurd q (by omega), fun _ => ?_⟩⟩
    have nx := ih (k + 1) (by omega)
    rw [ord] at nx
    refine sX4_isIn (fun b => ?_) (fun b => ?_)
    · simp only [n10, not_false_eq_true, false_implies, true_implies, true_and, and_true, not_true_eq_false]
      rw [if_neg (fun q => by have q1 := q.1; rw [(o_bi S hS k (by omega)).mp b] at q1; cases q1)] at nx
      exact nx
    · simp only [n10, not_false_eq_true, false_implies, true_implies, true_and, and_true, not_true_eq_false]
      have hb : S.testBit k = false := Bool.eq_false_iff.mpr (fun q => b ((o_bi S hS k (by omega)).mpr q))
      refine ⟨ni_in (by omega) (by omega), fun q => ?_, fun q => ?_⟩
      · rw [if_neg (fun z => q z.2)] at nx
        exact nx
      · rw [if_pos ⟨hb, q⟩] at nx
        exact nx
set_option maxHeartbeats 4000000 in
set_option maxRecDepth 100000 in
theorem sX0_readyAfter {d : Nat} {I : mm_I} {L : mm_L} {Q : mm_Q} {S n : Nat} (hn : I 1 4 = nI n) (h8 : n ≤ 8) (hS : S < 256) (h : Q I L (ord (bC I) n S n) 0) : mm_P shC msC (d + 3) 9 [.ref 1, .int (nI S)] I L Q := by
  refine pX0_readyAfter ?_
  simp only [↓hX0_readyAfter, ↓uX0_readyAfter, ↓mm_r, mm_n, iaC, n10, not_true_eq_false, not_false_eq_true, false_implies, lg_cmp_ge, lg_cmp_le, lg_cmp_gt, lg_cmp_lt, lg_cmp_eq, true_and, and_true, true_or, or_true, true_implies, Classical.not_not, List.length_cons, List.length_nil, Nat.lt_iff_add_one_le, Nat.reduceAdd, Nat.reduceLeDiff, Nat.reduceEqDiff, Int.reduceAdd, reduceIte, Nat.reduceSub]
  refine sX0_givenBy hn h8 ?_
  exact lX0_readyAfter hn h8 hS h n 0 (by omega)
/-- the least jumps, as the left side writes them -/
def oe : Option Nat → Int64
  | none => -1
  | some x => lN x
theorem oe_m1 {o : Option Nat} (h : ∀ x, o = some x → x < 1000000000000) : (oe o = -1) ↔ o = none := by
  cases o with
  | none => exact ⟨fun _ => rfl, fun _ => rfl⟩
  | some x =>
    refine ⟨fun q => ?_, fun q => by cases q⟩
    have := h x rfl
    have h2 : (oe (some x)).toInt = x := pk_lT (by omega)
    rw [q] at h2
    have h3 : (-1 : Int64).toInt = -1 := by decide
    omega
/-- the table, filled from m on -/
def OT (b : pb) (n m : Nat) (L : mm_L) : Prop := ∀ S l, m ≤ S → S < 2 ^ n → l < n → (S = 2 ^ n - 1 ∨ S = 0 ∨ S.testBit l = true) → L 14 (S * 8 + l) = oe (orr b n S l)
set_option maxHeartbeats 4000000 in
set_option maxRecDepth 100000 in
theorem sX2_restBy {d : Nat} {I : mm_I} {L : mm_L} {Q : mm_Q} {S l k n : Nat} (hn : I 1 4 = nI n) (h8 : n ≤ 8) (hS : S < 2 ^ n) (hk : k < n) (hb : S.testBit k = false) (hl : l < n) (hT : OT (bC I) n (S + 1) L) (h : Q I L 0 (oe ((orr (bC I) n (S ||| 2 ^ k) k).map (· + ocs (bC I) S l k)))) : mm_P shC msC (d + 3) 24 [.ref 13, .ref 1, .int (nI S), .int (nI l), .int (nI k)] I L Q := by
  have p2 := o_p2 n (by omega)
  have h5 := o_or S (by omega) k (by omega) hb
  have h6 := o_lt hS hk
  have hv := hT (S ||| 2 ^ k) k h5.1 h6 hk (Or.inr (Or.inr (o_tb S (by omega) k (by omega))))
  have hz : (nI S = 0) = (S = 0) := by rw [nl0, ni_eq (by omega) (by omega)]
  refine pX2_restBy ?_
  simp only [↓uX2_restBy, ↓mm_r, mm_n, iaC, n10, not_true_eq_false, not_false_eq_true, false_implies, lg_cmp_ge, lg_cmp_le, lg_cmp_gt, lg_cmp_lt, lg_cmp_eq, true_and, and_true, true_or, or_true, true_implies, Classical.not_not, List.length_cons, List.length_nil, Nat.lt_iff_add_one_le, Nat.reduceAdd, Nat.reduceLeDiff, Nat.reduceEqDiff, Int.reduceAdd, reduceIte, Nat.reduceSub]
  have hp : (nI S ||| 1 <<< (nI k &&& 31)) * 8 + nI k = nI ((S ||| 2 ^ k) * 8 + k) := by rw [o_or2 S (by omega) k (by omega), nl8, pk_mul, nI_add]
  simp only [ni_0 (a := k) (by omega), ni_l8 (a := k) (by omega), hp, ni_0 (a := (S ||| 2 ^ k) * 8 + k) (by omega), ni_cl (a := (S ||| 2 ^ k) * 8 + k) (by omega), hv, hz]
  refine ⟨fun q => absurd q (by simp), fun _ => ⟨fun _ => ⟨fun q => absurd q (by simp), fun _ => ⟨fun q => ?_, fun _ => ⟨ni_in (by omega) (by omega), fun q => ⟨ni_in (by omega) (by omega), fun z => ?_, fun z => ?_⟩, fun q => ?_⟩⟩⟩, fun q => absurd (by omega) q⟩⟩
  · exfalso
    rw [show Int32.ofNat (mm_ia shC 14 + 2048) = nI 2048 by decide +kernel, ni_le (by omega) (by omega)] at q
    omega
  · refine sX0_jumpBetween (by rw [ni_00 (by omega)]; trivial) (by rw [hn, ni_lt (by omega) (by omega)]; exact hl) (by rw [ni_l8 (by omega)]; omega) (by rw [ni_00 (by omega)]; trivial) (by rw [hn, ni_lt (by omega) (by omega)]; exact hk) (by rw [ni_l8 (by omega)]; omega) ?_
    rw [ni_cl (by omega), ni_cl (by omega), pj_cj]
    cases ho : orr (bC I) n (S ||| 2 ^ k) k with
    | none => rw [ho] at q; exact absurd rfl q
    | some x =>
      rw [ho] at h
      rw [show oe (some x) + lN (cj (I 2) (I 3) l k) = oe (Option.map (· + ocs (bC I) S l k) (some x)) by
        show lN x + lN _ = lN (x + ocs (bC I) S l k)
        rw [lN_add, ocs, if_neg z]]
      exact h
  · cases ho : orr (bC I) n (S ||| 2 ^ k) k with
    | none => rw [ho] at q; exact absurd rfl q
    | some x =>
      rw [ho] at h
      rw [show oe (some x) + 0 = oe (Option.map (· + ocs (bC I) S l k) (some x)) by
        show lN x + lN 0 = lN (x + ocs (bC I) S l k)
        rw [lN_add, ocs, if_pos z]]
      exact h
  · have := (oe_m1 (fun x hx => by have := orr_le h8 h5.2 hx; omega)).mp q
    rw [this] at h
    exact h
set_option maxHeartbeats 4000000 in
set_option maxRecDepth 100000 in
theorem sX2_restBy0 {d : Nat} {I : mm_I} {L : mm_L} {Q : mm_Q} {S l : Int32} (h : Q I L 0 (-1)) : mm_P shC msC (d + 1) 24 [.ref 13, .ref 1, .int S, .int l, .int (-1)] I L Q := by
  refine pX2_restBy ?_
  simp only [↓uX2_restBy, ↓mm_r, mm_n, iaC, n10, not_true_eq_false, not_false_eq_true, false_implies, lg_cmp_ge, lg_cmp_le, lg_cmp_gt, lg_cmp_lt, lg_cmp_eq, true_and, and_true, true_or, or_true, true_implies, Classical.not_not, List.length_cons, List.length_nil, Nat.lt_iff_add_one_le, Nat.reduceAdd, Nat.reduceLeDiff, Nat.reduceEqDiff, Int.reduceAdd, reduceIte, Nat.reduceSub]
  exact ⟨fun _ => h, fun q => absurd (by decide) q⟩
def ofd : Option (Nat × Nat) → Int32
  | none => -1
  | some p => nI p.2
set_option maxHeartbeats 4000000 in
set_option maxRecDepth 100000 in
theorem lX2_nextBehind {d : Nat} {I : mm_I} {L : mm_L} {Q : mm_Q} {S l n : Nat} (hn : I 1 4 = nI n) (h8 : n ≤ 8) (hS : S < 2 ^ n) (hl : l < n) (hT : OT (bC I) n (S + 1) L) (h : Q I L (ofd (obs (oc (bC I) n S l) n)) 0) : ∀ (m k : Nat) (y1 y2 : Value), k + m = n → mm_W shC (mm_P shC msC (d + 3)) tbX2_nextBehind Q 6 [.ref 13, .ref 1, .int (nI S), .int (nI l), .int (ord (bC I) n S n), .long (oe ((obs (oc (bC I) n S l) k).map Prod.fst)), .null, .int (ofd (obs (oc (bC I) n S l) k)), .int (nI k), y1, y2] [] I L := by
  have p2 := o_p2 n (by omega)
  intro m
  induction m with
  | zero =>
    intro k y1 y2 hk
    have e1 : k = n := by omega
    subst e1
    refine mm_hk 60 ?_
    simp only [↓hX2_nextBehind, ↓uX2_nextBehind, ↓mm_r, mm_n, iaC, n10, not_true_eq_false, not_false_eq_true, false_implies, lg_cmp_ge, lg_cmp_le, lg_cmp_gt, lg_cmp_lt, lg_cmp_eq, true_and, and_true, true_or, or_true, true_implies, Classical.not_not, List.length_cons, List.length_nil, Nat.lt_iff_add_one_le, Nat.reduceAdd, Nat.reduceLeDiff, Nat.reduceEqDiff, Int.reduceAdd, reduceIte, Nat.reduceSub]
    simp only [hn, ni_le (a := k) (b := k) (by omega) (by omega)]
    exact ⟨fun _ => h, fun q => absurd (Nat.le_refl k) q⟩
  | succ m ih =>
    intro k y1 y2 hk
    refine mm_hk 60 ?_
    simp only [↓hX2_nextBehind, ↓uX2_nextBehind, ↓mm_r, mm_n, iaC, n10, not_true_eq_false, not_false_eq_true, false_implies, lg_cmp_ge, lg_cmp_le, lg_cmp_gt, lg_cmp_lt, lg_cmp_eq, true_and, and_true, true_or, or_true, true_implies, Classical.not_not, List.length_cons, List.length_nil, Nat.lt_iff_add_one_le, Nat.reduceAdd, Nat.reduceLeDiff, Nat.reduceEqDiff, Int.reduceAdd, reduceIte, Nat.reduceSub]
    simp only [hn, ni_le (a := n) (b := k) (by omega) (by omega), nI_1]
    refine ⟨fun q => absurd q (by omega), fun _ => ?_⟩
    have nx := fun y1 y2 => ih (k + 1) y1 y2 (by omega)
    refine sX4_isIn (fun b => ?_) (fun b => ?_)
    · simp only [n10, not_false_eq_true, false_implies, true_implies, true_and, and_true, not_true_eq_false]
      have ha := (ord_i h8 (show k < n by omega)).mp b
      have hoc : oc (bC I) n S l k = (orr (bC I) n (S ||| 2 ^ k) k).map (· + ocs (bC I) S l k) := if_pos ha
      refine sX2_restBy hn h8 hS (by omega) ha.1 hl hT ?_
      rw [← hoc]
      have hle : ∀ x, oc (bC I) n S l k = some x → x < 1000000000000 := fun x hx => by have := oc_le h8 (by omega) (by omega) hx; omega
      refine ⟨fun q => ?_, fun q => ?_⟩
      · have q := (oe_m1 hle).mp q
        have nx := nx (.long (oe (oc (bC I) n S l k))) .null
        rw [obs, q] at nx
        rw [q]
        exact nx
      · cases hc : oc (bC I) n S l k with
        | none => rw [hc] at q; exact absurd rfl q
        | some x =>
          have hx := hle x hc
          have nx := nx (.long (oe (some x))) .null
          rw [obs, hc] at nx
          dsimp only at nx
          cases ho : obs (oc (bC I) n S l) k with
          | none =>
            rw [ho] at nx
            exact ⟨fun _ => nx, fun q => absurd rfl q⟩
          | some p =>
            obtain ⟨y, j⟩ := p
            obtain ⟨j1, j2, -⟩ := obs_s k y j ho
            have hy := oc_le (l := l) h8 (show j < n by omega) (show S < 256 by omega) j2
            rw [ho] at nx
            dsimp only at nx
            refine ⟨fun q => ?_, fun _ => ⟨fun q => ?_, fun q => ?_⟩⟩
            · exfalso
              have q : nI j = -1 := q
              have := ni_0 (a := j) (by omega)
              rw [q] at this
              revert this
              decide
            · have q : lN y ≤ lN x := q
              rw [pk_lLE (by omega) (by omega)] at q
              rw [if_neg (by omega)] at nx
              exact nx
            · have q : ¬ lN y ≤ lN x := q
              rw [pk_lLE (by omega) (by omega)] at q
              rw [if_pos (by omega)] at nx
              exact nx
    · simp only [n10, not_false_eq_true, false_implies, true_implies, true_and, and_true, not_true_eq_false]
      have hoc : oc (bC I) n S l k = none := if_neg (fun q => b ((ord_i h8 (show k < n by omega)).mpr q))
      have nx := nx y1 y2
      rw [obs, hoc] at nx
      exact nx
set_option maxHeartbeats 4000000 in
set_option maxRecDepth 100000 in
theorem sX2_nextBehind {d : Nat} {I : mm_I} {L : mm_L} {Q : mm_Q} {S l n : Nat} (hn : I 1 4 = nI n) (h8 : n ≤ 8) (hS : S < 2 ^ n) (hl : l < n) (hT : OT (bC I) n (S + 1) L) (h : Q I L (ofd (obs (oc (bC I) n S l) n)) 0) : mm_P shC msC (d + 4) 23 [.ref 13, .ref 1, .int (nI S), .int (nI l), .int (ord (bC I) n S n)] I L Q := by
  refine pX2_nextBehind ?_
  simp only [↓hX2_nextBehind, ↓uX2_nextBehind, ↓mm_r, mm_n, iaC, n10, not_true_eq_false, not_false_eq_true, false_implies, lg_cmp_ge, lg_cmp_le, lg_cmp_gt, lg_cmp_lt, lg_cmp_eq, true_and, and_true, true_or, or_true, true_implies, Classical.not_not, List.length_cons, List.length_nil, Nat.lt_iff_add_one_le, Nat.reduceAdd, Nat.reduceLeDiff, Nat.reduceEqDiff, Int.reduceAdd, reduceIte, Nat.reduceSub]
  exact lX2_nextBehind hn h8 hS hl hT h n 0 .null .null (by omega)
/-- only the table has changed -/
def l14 (L L' : mm_L) : Prop := ∀ b, b ≠ 14 → L' b = L b
theorem l14_u {L L' : mm_L} {k : Nat} {x : Int64} (h : l14 L L') : l14 L (mm_ul L' 14 k x) := fun b hb => by rw [mm_ul_off _ _ _ hb]; exact h b hb
theorem OT_u {b : pb} {n m S l : Nat} {L : mm_L} {x : Int64} (hT : OT b n m L) (hl : l < 8) (h : S < m) : OT b n m (mm_ul L 14 (S * 8 + l) x) := by
  intro S2 l2 h1 h2 h3 h4
  have : ¬ S2 * 8 + l2 = S * 8 + l := by
    intro q
    by_cases e : l2 < 8
    · omega
    · omega
  show (if (14 : Nat) = 14 then (if S2 * 8 + l2 = S * 8 + l then x else L 14 (S2 * 8 + l2)) else L 14 (S2 * 8 + l2)) = _
  rw [if_pos rfl, if_neg this]
  exact hT S2 l2 h1 h2 h3 h4
/-- the row of S is filled below l -/
def OU (b : pb) (n S m : Nat) (L : mm_L) : Prop := ∀ l, l < m → (S = 2 ^ n - 1 ∨ S = 0 ∨ S.testBit l = true) → L 14 (S * 8 + l) = oe (orr b n S l)
theorem OU_s {b : pb} {n S m : Nat} {L : mm_L} {x : Int64} (h : OU b n S m L) (hx : x = oe (orr b n S m)) : OU b n S (m + 1) (mm_ul L 14 (S * 8 + m) x) := by
  intro l hl ho
  show (if (14 : Nat) = 14 then (if S * 8 + l = S * 8 + m then x else L 14 (S * 8 + l)) else L 14 (S * 8 + l)) = _
  rw [if_pos rfl]
  by_cases e : l = m
  · subst e
    rw [if_pos rfl, hx]
  · rw [if_neg (by omega)]
    exact h l (by omega) ho
theorem OU_n {b : pb} {n S m : Nat} {L : mm_L} (h : OU b n S m L) (hx : ¬ (S = 2 ^ n - 1 ∨ S = 0 ∨ S.testBit m = true)) : OU b n S (m + 1) L := by
  intro l hl ho
  by_cases e : l = m
  · subst e
    exact absurd ho hx
  · exact h l (by omega) ho
set_option maxHeartbeats 4000000 in
set_option maxRecDepth 100000 in
theorem lX2_fillRest {d : Nat} {I : mm_I} {L0 : mm_L} {Q : mm_Q} {S n : Nat} (hn : I 1 4 = nI n) (h8 : n ≤ 8) (hS : S < 2 ^ n) (h : ∀ L', l14 L0 L' → OT (bC I) n S L' → Q I L' 0 0) : ∀ (m l : Nat) (y : Value) (L : mm_L), l + m = n → l14 L0 L → OT (bC I) n (S + 1) L → OU (bC I) n S l L → mm_W shC (mm_P shC msC (d + 4)) tbX2_fillRest Q 6 [.ref 13, .ref 1, .int (nI S), .int (nI (2 ^ n - 1)), .int (ord (bC I) n S n), .int (nI l), y] [] I L := by
  have p2 := o_p2 n (by omega)
  have hz : (nI S = 0) = (S = 0) := by rw [nl0, ni_eq (by omega) (by omega)]
  intro m
  induction m with
  | zero =>
    intro l y L hk hL hT hU
    have e1 : l = n := by omega
    subst e1
    refine mm_hk 60 ?_
    simp only [↓hX2_fillRest, ↓uX2_fillRest, ↓mm_r, mm_n, iaC, n10, not_true_eq_false, not_false_eq_true, false_implies, lg_cmp_ge, lg_cmp_le, lg_cmp_gt, lg_cmp_lt, lg_cmp_eq, true_and, and_true, true_or, or_true, true_implies, Classical.not_not, List.length_cons, List.length_nil, Nat.lt_iff_add_one_le, Nat.reduceAdd, Nat.reduceLeDiff, Nat.reduceEqDiff, Int.reduceAdd, reduceIte, Nat.reduceSub]
    simp only [hn, ni_le (a := l) (b := l) (by omega) (by omega)]
    refine ⟨fun _ => h L hL (fun S2 l2 h1 h2 h3 h4 => ?_), fun q => absurd (Nat.le_refl l) q⟩
    by_cases e : S2 = S
    · subst e
      exact hU l2 h3 h4
    · exact hT S2 l2 (by omega) h2 h3 h4
  | succ m ih =>
    intro l y L hk hL hT hU
    refine mm_hk 60 ?_
    simp only [↓hX2_fillRest, ↓uX2_fillRest, ↓mm_r, mm_n, iaC, n10, not_true_eq_false, not_false_eq_true, false_implies, lg_cmp_ge, lg_cmp_le, lg_cmp_gt, lg_cmp_lt, lg_cmp_eq, true_and, and_true, true_or, or_true, true_implies, Classical.not_not, List.length_cons, List.length_nil, Nat.lt_iff_add_one_le, Nat.reduceAdd, Nat.reduceLeDiff, Nat.reduceEqDiff, Int.reduceAdd, reduceIte, Nat.reduceSub]
    have hp : nI S * 8 + nI l = nI (S * 8 + l) := by rw [nl8, pk_mul, nI_add]
    simp only [hn, ni_le (a := n) (b := l) (by omega) (by omega), ni_8 (a := l) (by omega), nI_1, hp, ni_cl (a := S * 8 + l) (by omega), hz, ni_eq (a := S) (b := 2 ^ n - 1) (by omega) (by omega)]
    have hin : vp_in (nI (S * 8 + l)) 2048 := ni_in (by omega) (by omega)
    have step : ¬ S = 2 ^ n - 1 → mm_P shC msC (d + 4) 23 [.ref 13, .ref 1, .int (nI S), .int (nI l), .int (ord (bC I) n S n)] I L (fun I' L' ri _ => mm_P shC msC (d + 4) 24 [.ref 13, .ref 1, .int (nI S), .int (nI l), .int ri] I' L' (fun I' L' _ rl => vp_in (nI (S * 8 + l)) 2048 ∧ mm_W shC (mm_P shC msC (d + 4)) tbX2_fillRest Q 6 [.ref 13, .ref 1, .int (nI S), .int (nI (2 ^ n - 1)), .int (ord (bC I) n S n), .int (nI (l + 1)), .int ri] [] I' (mm_ul L' 14 (S * 8 + l) rl))) := by
      intro hne
      have oe1 := orr_e (b := bC I) (l := l) h8 (show S < 256 by omega)
      rw [if_neg hne] at oe1
      refine sX2_nextBehind hn h8 hS (by omega) hT ?_
      cases ho : obs (oc (bC I) n S l) n with
      | none =>
        rw [ho] at oe1
        refine sX2_restBy0 ⟨hin, ih (l + 1) _ _ (by omega) (l14_u hL) (OT_u hT (by omega) (by omega)) (OU_s hU ?_)⟩
        rw [oe1]
        rfl
      | some p =>
        obtain ⟨x, k⟩ := p
        rw [ho] at oe1
        obtain ⟨k1, k2, -⟩ := obs_s n x k ho
        have ha : oav (bC I) n S k := by
          apply Classical.byContradiction
          intro q
          rw [oc, if_neg q] at k2
          cases k2
        rw [oc, if_pos ha] at k2
        refine sX2_restBy hn h8 hS k1 ha.1 (by omega) hT ?_
        rw [k2]
        exact ⟨hin, ih (l + 1) _ _ (by omega) (l14_u hL) (OT_u hT (by omega) (by omega)) (OU_s hU (by rw [oe1]; rfl))⟩
    refine ⟨fun q => absurd q (by omega), fun _ => ⟨fun q => absurd q (by omega), fun _ => ⟨fun hne => ⟨fun _ => step hne, fun h0 => ?_⟩, fun he => ⟨hin, ?_⟩⟩⟩⟩
    · refine sX4_isIn (fun b => ?_) (fun b => ?_)
      · simp only [n10, not_false_eq_true, false_implies, true_implies, true_and, and_true, not_true_eq_false]
        exact step hne
      · simp only [n10, not_false_eq_true, false_implies, true_implies, true_and, and_true, not_true_eq_false]
        exact ih (l + 1) _ _ (by omega) hL hT (OU_n hU (fun q => by
          rcases q with q | q | q
          · exact hne q
          · exact h0 q
          · exact b ((o_bi S (by omega) l (by omega)).mpr q)))
    · refine ih (l + 1) _ _ (by omega) (l14_u hL) (OT_u hT (by omega) (by omega)) (OU_s hU ?_)
      rw [orr_e h8 (by omega), if_pos he]
      rfl
set_option maxHeartbeats 4000000 in
set_option maxRecDepth 100000 in
theorem sX2_fillRest {d : Nat} {I : mm_I} {L : mm_L} {Q : mm_Q} {S n : Nat} (hn : I 1 4 = nI n) (h8 : n ≤ 8) (hS : S < 2 ^ n) (hT : OT (bC I) n (S + 1) L) (h : ∀ L', l14 L L' → OT (bC I) n S L' → Q I L' 0 0) : mm_P shC msC (d + 5) 22 [.ref 13, .ref 1, .int (nI S), .int (nI (2 ^ n - 1))] I L Q := by
  have p2 := o_p2 n (by omega)
  refine pX2_fillRest ?_
  simp only [↓hX2_fillRest, ↓uX2_fillRest, ↓mm_r, mm_n, iaC, n10, not_true_eq_false, not_false_eq_true, false_implies, lg_cmp_ge, lg_cmp_le, lg_cmp_gt, lg_cmp_lt, lg_cmp_eq, true_and, and_true, true_or, or_true, true_implies, Classical.not_not, List.length_cons, List.length_nil, Nat.lt_iff_add_one_le, Nat.reduceAdd, Nat.reduceLeDiff, Nat.reduceEqDiff, Int.reduceAdd, reduceIte, Nat.reduceSub]
  refine sX0_readyAfter hn h8 (by omega) ?_
  exact lX2_fillRest hn h8 hS h n 0 _ L (by omega) (fun _ _ => rfl) hT (fun l hl => absurd hl (by omega))
/-- what THE ORDER left in the fields: the picks below i -/
def OW (b : pb) (n i : Nat) (I : mm_I) : Prop := I 13 2 = nI i ∧ ∀ j, j < i → I 15 j = nI (opk b n j)
/-- only THE ORDER's cells have changed -/
def c15 (I I' : mm_I) : Prop := (∀ b, b ≠ 13 → b ≠ 15 → I' b = I b) ∧ ∀ j, j ≠ 2 → I' 13 j = I 13 j
theorem c15_b {I I' : mm_I} (h : c15 I I') : bC I' = bC I := by
  unfold bC
  rw [h.1 2 (by omega) (by omega), h.1 3 (by omega) (by omega), h.1 4 (by omega) (by omega), h.1 5 (by omega) (by omega)]
theorem c15_n {I I' : mm_I} (h : c15 I I') : I' 1 4 = I 1 4 := by rw [h.1 1 (by omega) (by omega)]
theorem c15_s {I I' : mm_I} {x y : Int32} {k : Nat} (h : c15 I I') : c15 I (mm_ui (mm_ui I' 15 k x) 13 2 y) := by
  refine ⟨fun b h1 h2 => ?_, fun j hj => ?_⟩
  · rw [mm_ui_off _ _ _ h1, mm_ui_off _ _ _ h2]
    exact h.1 b h1 h2
  · show (if (13 : Nat) = 13 then (if j = 2 then y else mm_ui I' 15 k x 13 j) else mm_ui I' 15 k x 13 j) = _
    rw [if_pos rfl, if_neg hj, mm_ui_off _ _ _ (by omega)]
    exact h.2 j hj
theorem OW_s {b : pb} {n i : Nat} {I : mm_I} (h : OW b n i I) : OW b n (i + 1) (mm_ui (mm_ui I 15 i (nI (opk b n i))) 13 2 (nI (i + 1))) := by
  refine ⟨rfl, fun j hj => ?_⟩
  rw [mm_ui_off _ _ _ (by omega)]
  show (if (15 : Nat) = 15 then (if j = i then nI (opk b n i) else I 15 j) else I 15 j) = _
  rw [if_pos rfl]
  by_cases e : j = i
  · subst e
    rw [if_pos rfl]
  · rw [if_neg e]
    exact h.2 j (by omega)
theorem OT_m {b : pb} {n m m2 : Nat} {L : mm_L} (h : OT b n m L) (hm : m ≤ m2) : OT b n m2 L := fun S l h1 => h S l (by omega)
set_option maxHeartbeats 4000000 in
set_option maxRecDepth 100000 in
theorem lX2_follow {d : Nat} {I0 : mm_I} {L : mm_L} {Q : mm_Q} {n x : Nat} (hn : I0 1 4 = nI n) (h8 : n ≤ 8) (h1 : 1 ≤ n) (hx : orr (bC I0) n 0 0 = some x) (hT : OT (bC I0) n 0 L) (h : ∀ I', c15 I0 I' → OW (bC I0) n n I' → Q I' L 0 0) : ∀ (m i : Nat) (y : Value) (I : mm_I), i + m = n → c15 I0 I → OW (bC I0) n i I → mm_W shC (mm_P shC msC (d + 4)) tbX2_follow Q 6 [.ref 13, .ref 1, .int (nI (ost (bC I0) n i).1), .int (nI (ost (bC I0) n i).2), .int (nI i), y] [] I L := by
  have p2 := o_p2 n (by omega)
  intro m
  induction m with
  | zero =>
    intro i y I hk hc hW
    have e1 : i = n := by omega
    subst e1
    refine mm_hk 60 ?_
    simp only [↓hX2_follow, ↓uX2_follow, ↓mm_r, mm_n, iaC, n10, not_true_eq_false, not_false_eq_true, false_implies, lg_cmp_ge, lg_cmp_le, lg_cmp_gt, lg_cmp_lt, lg_cmp_eq, true_and, and_true, true_or, or_true, true_implies, Classical.not_not, List.length_cons, List.length_nil, Nat.lt_iff_add_one_le, Nat.reduceAdd, Nat.reduceLeDiff, Nat.reduceEqDiff, Int.reduceAdd, reduceIte, Nat.reduceSub]
    simp only [c15_n hc, hn, ni_le (a := i) (b := i) (by omega) (by omega)]
    exact ⟨fun _ => h I hc hW, fun q => absurd (Nat.le_refl i) q⟩
  | succ m ih =>
    intro i y I hk hc hW
    obtain ⟨a1, a2, ⟨y0, a3⟩, a4, a5⟩ := ost_ok h8 h1 hx i (by omega)
    obtain ⟨z, z1, z2, z3, z4⟩ := ost_s h8 h1 hx (i := i) (by omega)
    have hn' : I 1 4 = nI n := by rw [c15_n hc]; exact hn
    have hb' := c15_b hc
    refine mm_hk 60 ?_
    simp only [↓hX2_follow, ↓uX2_follow, ↓mm_r, mm_n, iaC, n10, not_true_eq_false, not_false_eq_true, false_implies, lg_cmp_ge, lg_cmp_le, lg_cmp_gt, lg_cmp_lt, lg_cmp_eq, true_and, and_true, true_or, or_true, true_implies, Classical.not_not, List.length_cons, List.length_nil, Nat.lt_iff_add_one_le, Nat.reduceAdd, Nat.reduceLeDiff, Nat.reduceEqDiff, Int.reduceAdd, reduceIte, Nat.reduceSub]
    simp only [hn', ni_le (a := n) (b := i) (by omega) (by omega), ni_8 (a := i) (by omega), nI_1, ni_cl (a := i) (by omega)]
    refine ⟨fun q => absurd q (by omega), fun _ => ⟨fun q => absurd q (by omega), fun _ => ?_⟩⟩
    refine sX0_readyAfter (d := d + 1) hn' h8 (by omega) ?_
    refine sX2_nextBehind hn' h8 a1 a4 (OT_m (by rw [hb']; exact hT) (Nat.zero_le _)) ?_
    rw [hb', z1]
    refine ⟨fun _ => ⟨ni_in (by omega) (by omega), ?_⟩, fun q => ?_⟩
    · have nx := ih (i + 1) (.int (nI (opk (bC I0) n i))) _ (by omega) (c15_s (k := i) (x := nI (opk (bC I0) n i)) (y := nI (i + 1)) hc) (OW_s hW)
      rw [z3] at nx
      show mm_W shC (mm_P shC msC (d + 4)) tbX2_follow Q 6 [.ref 13, .ref 1, .int (nI (ost (bC I0) n i).1 ||| 1 <<< (nI (opk (bC I0) n i) &&& 31)), .int (nI (opk (bC I0) n i)), .int (nI (i + 1)), .int (nI (opk (bC I0) n i))] [] _ L
      rw [o_or2 _ (by omega) _ (by omega)]
      exact nx
    · exfalso
      have q : nI (opk (bC I0) n i) = -1 := q
      have := ni_0 (a := opk (bC I0) n i) (by omega)
      rw [q] at this
      revert this
      decide
