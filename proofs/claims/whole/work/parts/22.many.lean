/-! ===== many, on both sides ===== -/
/-- Integer.bitCount, as the JDK counts -/
def bc1 (a : Int32) : Int32 := a - ((a.toUInt32 >>> (Int32.toUInt32 1 &&& Int32.toUInt32 31)).toInt32 &&& 1431655765)
def bc2 (a : Int32) : Int32 := (a &&& 858993459) + ((a.toUInt32 >>> (Int32.toUInt32 2 &&& Int32.toUInt32 31)).toInt32 &&& 858993459)
def bc3 (a : Int32) : Int32 := (a + (a.toUInt32 >>> (Int32.toUInt32 4 &&& Int32.toUInt32 31)).toInt32) &&& 252645135
def bc4 (a : Int32) : Int32 := a + (a.toUInt32 >>> (Int32.toUInt32 8 &&& Int32.toUInt32 31)).toInt32
def bc5 (a : Int32) : Int32 := a + (a.toUInt32 >>> (Int32.toUInt32 16 &&& Int32.toUInt32 31)).toInt32
def bcf (a : Int32) : Int32 := bc5 (bc4 (bc3 (bc2 (bc1 a)))) &&& 63
def cb (x : Int32) : Nat → Int32
  | 0 => 0
  | c + 1 => cb x c + (if bt x c = true then 1 else 0)
theorem bc_cb : ∀ j : Nat, j < 256 → bcf (nI j) = cb (nI j) 8 := by decide +kernel
set_option maxHeartbeats 4000000 in
set_option maxRecDepth 100000 in
theorem sJ6_bitCount {d : Nat} {I : mm_I} {L : mm_L} {Q : mm_Q} {a : Int32} (h : Q I L (bcf a) 0) : mm_P shC msC (d + 1) 65 [.int a] I L Q := by
  refine pJ6_bitCount_0f7a4 ?_
  simp only [↓uJ6_bitCount_0f7a4, ↓mm_r, mm_n, iaC, n10, not_true_eq_false, not_false_eq_true, false_implies, lg_cmp_ge, lg_cmp_le, lg_cmp_gt, lg_cmp_lt, lg_cmp_eq, true_and, and_true, true_or, or_true, true_implies, Classical.not_not, List.length_cons, List.length_nil, Nat.lt_iff_add_one_le, Nat.reduceAdd, Nat.reduceLeDiff, Nat.reduceEqDiff, Int.reduceAdd, reduceIte, Nat.reduceSub]
  unfold bcf bc5 bc4 bc3 bc2 bc1 at h
  exact h
theorem b8_f : ∀ j : Nat, j < 256 → ∀ i : Nat, i < 32 → 8 ≤ i → bt (nI j) i = false := by decide +kernel
theorem b8_v {x : Int32} (h0 : 0 ≤ x) (h : x ≤ 255) : ∀ i, i < 32 → 8 ≤ i → bt x i = false := by
  obtain ⟨j, hj, rfl⟩ := vi_nI (x := x) (n := 256) (by omega) h0 (by
    have : (255 : Int32) < nI 256 := by decide +kernel
    grind)
  exact b8_f j hj
theorem b8_n {x : Int32} (h : ∀ i, i < 32 → 8 ≤ i → bt x i = false) : ∃ j : Nat, j < 256 ∧ x = nI j := by
  have e : x &&& 255 = x := by
    apply b_ext
    intro i hi
    rw [b_and, b_255]
    by_cases h8 : i < 8
    · simp [h8]
    · rw [h i hi (by omega)]
      rfl
  obtain ⟨j, h1, h2⟩ := pk_andE x (m := 255) 8 (by decide)
  exact ⟨j, h1, by rw [← e]; exact h2⟩
theorem pn_bt (nd : Nat → Int32) (i : Nat) : ∀ n : Nat, (bt (pn nd n) i = true) ↔ ∃ k, k < n ∧ bt (nd k) i = true := by
  intro n
  induction n with
  | zero => simp [pn, b_0]
  | succ n ih =>
    rw [pn, b_or, Bool.or_eq_true, ih]
    constructor
    · rintro (⟨k, h1, h2⟩ | h)
      · exact ⟨k, by omega, h2⟩
      · exact ⟨n, by omega, h⟩
    · rintro ⟨k, h1, h2⟩
      by_cases hk : k = n
      · subst hk
        exact Or.inr h2
      · exact Or.inl ⟨k, by omega, h2⟩
theorem po_bt (row : Nat → Int32) {c : Nat} (hc : c < 8) {j : Nat} (hj : j < 32) : ∀ n : Nat, n ≤ 8 → ((bt (po row (nI c) n) j = true) ↔ j < n ∧ bt (row j) c = true) := by
  intro n
  induction n with
  | zero => intro _; simp [po, b_0]
  | succ n ih =>
    intro hn
    have ih := ih (by omega)
    simp only [po]
    split
    · rename_i hb
      rw [bt_bit (row n) (by omega)] at hb
      rw [b_or, Bool.or_eq_true, ih, b_sh1 (by omega) hj, decide_eq_true_eq]
      constructor
      · rintro (⟨h1, h2⟩ | h)
        · exact ⟨by omega, h2⟩
        · subst h
          exact ⟨by omega, hb⟩
      · rintro ⟨h1, h2⟩
        by_cases e : j = n
        · exact Or.inr e
        · exact Or.inl ⟨by omega, h2⟩
    · rename_i hb
      rw [bt_bit (row n) (by omega)] at hb
      rw [ih]
      constructor
      · rintro ⟨h1, h2⟩
        exact ⟨by omega, h2⟩
      · rintro ⟨h1, h2⟩
        refine ⟨?_, h2⟩
        by_cases e : j = n
        · subst e
          exact absurd h2 hb
        · omega
theorem po_0 (row : Nat → Int32) {c n : Nat} (hc : c < 8) (hn : n ≤ 8) : (¬ po row (nI c) n = 0) ↔ ∃ k, k < n ∧ bt (row k) c = true := by
  constructor
  · intro h
    apply Classical.byContradiction
    intro h2
    apply h
    apply b_ext
    intro i hi
    rw [b_0]
    apply Bool.eq_false_iff.mpr
    intro h3
    have := (po_bt row hc hi n hn).mp h3
    exact h2 ⟨i, this.1, this.2⟩
  · rintro ⟨k, h1, h2⟩ h
    have := (po_bt row hc (show k < 32 by omega) n hn).mpr ⟨h1, h2⟩
    rw [h, b_0] at this
    cases this
theorem all_b : ∀ n : Nat, n ≤ 8 → ∀ k : Nat, k < n → bi (((1 : Int32) <<< (nI n &&& 31)) - 1) k := by
  intro n hn
  have h : ∀ n : Nat, n < 9 → ∀ k : Nat, k < n → bi (((1 : Int32) <<< (nI n &&& 31)) - 1) k := by decide +kernel
  exact h n (by omega)
theorem pg_all (gv : Nat → Int32) {set : Int32} : ∀ n : Nat, (∀ k, k < n → bi set k) → pg gv set n = pn gv n := by
  intro n
  induction n with
  | zero => intro _; rfl
  | succ n ih =>
    intro h
    rw [pg, if_pos (h n (by omega)), ih (fun k hk => h k (by omega)), pn]
/-- CLUES that some scene needs and none gives -/
def mo (v : pv) : Nat → Int32
  | 0 => 0
  | c + 1 => mo v c + (if ¬ po v.2.2.2.1 (nI c) (v_n v).toNatClampNeg = 0 ∧ po v.2.2.1 (nI c) (v_n v).toNatClampNeg = 0 then 1 else 0)
def q_many (v : pv) (a : Int32) : pv × Int32 := (v, if a = 0 then v_n v else if a = 1 then v_ns v else if a = 2 then v_fee v else if a = 3 then v.2.2.2.2.2.2.2.2 else if a = 4 then mo v 8 else -2)
theorem mo_cb {v : pv} {n : Nat} (hn : (v_n v).toNatClampNeg = n) (h8 : n ≤ 8) : ∀ c : Nat, c ≤ 8 → mo v c = cb (pn v.2.2.2.1 n &&& (pn v.2.2.1 n ^^^ (-1))) c := by
  intro c
  induction c with
  | zero => intro _; rfl
  | succ c ih =>
    intro hc
    rw [mo, cb, ih (by omega), hn]
    congr 1
    have e : (¬ po v.2.2.2.1 (nI c) n = 0 ∧ po v.2.2.1 (nI c) n = 0) ↔ bt (pn v.2.2.2.1 n &&& (pn v.2.2.1 n ^^^ (-1))) c = true := by
      rw [b_and, b_xor, b_m1 c (by omega), Bool.and_eq_true, pn_bt, po_0 _ (by omega) h8]
      have h2 := po_0 v.2.2.1 (c := c) (n := n) (by omega) h8
      have h3 := pn_bt v.2.2.1 c n
      constructor
      · rintro ⟨h4, h5⟩
        refine ⟨h4, ?_⟩
        have : ¬ bt (pn v.2.2.1 n) c = true := fun q => (h2.mpr (h3.mp q)) h5
        rw [Bool.eq_false_iff.mpr this]
        rfl
      · rintro ⟨h4, h5⟩
        refine ⟨h4, ?_⟩
        apply Classical.byContradiction
        intro h6
        have := h3.mpr (h2.mp h6)
        rw [this] at h5
        cases h5
    by_cases hb : bt (pn v.2.2.2.1 n &&& (pn v.2.2.1 n ^^^ (-1))) c = true
    · rw [if_pos (e.mpr hb), if_pos hb]
    · rw [if_neg (fun q => hb (e.mp q)), if_neg hb]
set_option maxHeartbeats 4000000 in
set_option maxRecDepth 100000 in
theorem lX0_allNeeds {d : Nat} {I : mm_I} {L : mm_L} {Q : mm_Q} {n : Nat} (hn : I 1 4 = nI n) (h8 : n ≤ 8) (h : Q I L (pn (I 5) n) 0) : ∀ (m k : Nat), k + m = n → mm_W shC (mm_P shC msC d) tbX0_allNeeds Q 4 [.ref 1, .int (pn (I 5) k), .int (nI k)] [] I L := by
  intro m
  induction m with
  | zero =>
    intro k hk
    have e1 : k = n := by omega
    subst e1
    refine mm_hk 60 ?_
    simp only [↓hX0_allNeeds, ↓uX0_allNeeds, ↓mm_r, mm_n, iaC, n10, not_true_eq_false, not_false_eq_true, false_implies, lg_cmp_ge, lg_cmp_le, lg_cmp_gt, lg_cmp_lt, lg_cmp_eq, true_and, and_true, true_or, or_true, true_implies, Classical.not_not, List.length_cons, List.length_nil, Nat.lt_iff_add_one_le, Nat.reduceAdd, Nat.reduceLeDiff, Nat.reduceEqDiff, Int.reduceAdd, reduceIte, Nat.reduceSub]
    simp only [hn, ni_le (a := k) (b := k) (by omega) (by omega)]
    exact ⟨fun _ => h, fun q => absurd (Nat.le_refl k) q⟩
  | succ m ih =>
    intro k hk
    refine mm_hk 60 ?_
    simp only [↓hX0_allNeeds, ↓uX0_allNeeds, ↓mm_r, mm_n, iaC, n10, not_true_eq_false, not_false_eq_true, false_implies, lg_cmp_ge, lg_cmp_le, lg_cmp_gt, lg_cmp_lt, lg_cmp_eq, true_and, and_true, true_or, or_true, true_implies, Classical.not_not, List.length_cons, List.length_nil, Nat.lt_iff_add_one_le, Nat.reduceAdd, Nat.reduceLeDiff, Nat.reduceEqDiff, Int.reduceAdd, reduceIte, Nat.reduceSub]
    simp only [hn, ni_le (a := n) (b := k) (by omega) (by omega), ni_8 (a := k) (by omega), ni_cl (a := k) (by omega), nI_1]
    exact ⟨fun q => absurd q (by omega), fun _ => ⟨fun q => absurd q (by omega), fun _ => ⟨ni_in (by omega) (by omega), ih (k + 1) (by omega)⟩⟩⟩
set_option maxHeartbeats 4000000 in
set_option maxRecDepth 100000 in
theorem sX0_allNeeds {d : Nat} {I : mm_I} {L : mm_L} {Q : mm_Q} {n : Nat} (hn : I 1 4 = nI n) (h8 : n ≤ 8) (h : Q I L (pn (I 5) n) 0) : mm_P shC msC (d + 1) 8 [.ref 1] I L Q := by
  refine pX0_allNeeds ?_
  simp only [↓hX0_allNeeds, ↓uX0_allNeeds, ↓mm_r, mm_n, iaC, n10, not_true_eq_false, not_false_eq_true, false_implies, lg_cmp_ge, lg_cmp_le, lg_cmp_gt, lg_cmp_lt, lg_cmp_eq, true_and, and_true, true_or, or_true, true_implies, Classical.not_not, List.length_cons, List.length_nil, Nat.lt_iff_add_one_le, Nat.reduceAdd, Nat.reduceLeDiff, Nat.reduceEqDiff, Int.reduceAdd, reduceIte, Nat.reduceSub]
  exact lX0_allNeeds hn h8 h n 0 (by omega)
set_option maxHeartbeats 4000000 in
set_option maxRecDepth 100000 in
theorem kX4_many {d : Nat} {I : mm_I} {L : mm_L} {a : Int32} (hv : vok (vC I)) : mm_P shC msC (d + 3) 55 [.ref 0, .int a] I L (fun I' L' ri _ => (vC I', ri) = q_many (vC I) a ∧ kc I L I' L') := by
  obtain ⟨n, ns, hn, h8, hns, h40, hsc, -⟩ := id hv
  have hn : I 1 4 = nI n := hn
  have hc : (v_n (vC I)).toNatClampNeg = n := by show (I 1 4).toNatClampNeg = n; rw [hn, ni_cl (by omega)]
  refine pX4_many ?_
  simp only [↓uX4_many, ↓mm_r, mm_n, iaC, n10, not_true_eq_false, not_false_eq_true, false_implies, lg_cmp_ge, lg_cmp_le, lg_cmp_gt, lg_cmp_lt, lg_cmp_eq, true_and, and_true, true_or, or_true, true_implies, Classical.not_not, List.length_cons, List.length_nil, Nat.lt_iff_add_one_le, Nat.reduceAdd, Nat.reduceLeDiff, Nat.reduceEqDiff, Int.reduceAdd, reduceIte, Nat.reduceSub]
  refine ⟨⟨fun z => ⟨?_, kcs⟩, fun z => ⟨?_, kcs⟩, fun z => ⟨?_, kcs⟩, fun z => ⟨?_, kcs⟩, fun z => ?_⟩, fun z => ⟨?_, kcs⟩⟩
  · subst z
    rw [q_many, if_pos rfl]
    rfl
  · subst z
    rw [q_many, if_neg (by decide), if_pos rfl]
    rfl
  · subst z
    rw [q_many, if_neg (by decide), if_neg (by decide), if_pos rfl]
    rfl
  · subst z
    rw [q_many, if_neg (by decide), if_neg (by decide), if_neg (by decide), if_pos rfl]
    rfl
  · subst z
    refine sX0_allNeeds hn h8 ?_
    refine sX0_everyone ?_
    refine sX0_givenBy hn h8 ?_
    refine sJ6_bitCount ⟨?_, kcs⟩
    rw [hn, pg_all (I 4) n (all_b n h8)]
    rw [q_many, if_neg (by decide), if_neg (by decide), if_neg (by decide), if_neg (by decide), if_pos rfl, mo_cb hc h8 8 (by omega)]
    have hx : ∃ j : Nat, j < 256 ∧ pn (I 5) n &&& (pn (I 4) n ^^^ (-1)) = nI j := by
      refine b8_n (fun i hi hi8 => ?_)
      rw [b_and]
      have : bt (pn (I 5) n) i = false := by
        apply Bool.eq_false_iff.mpr
        intro q
        obtain ⟨k, k1, k2⟩ := (pn_bt (I 5) i n).mp q
        have := b8_v (hsc k k1).2.2.2.1 (hsc k k1).2.2.2.2 i hi hi8
        have : bt (I 5 k) i = false := this
        rw [this] at k2
        cases k2
      rw [this]
      rfl
    obtain ⟨j, j1, j2⟩ := hx
    have e2 : pn (vC I).2.2.2.1 n &&& (pn (vC I).2.2.1 n ^^^ (-1)) = nI j := j2
    rw [e2, j2, bc_cb j j1]
  · have e : ∀ z : Int32, 0 ≤ z.toInt → z.toInt ≤ 4 → ¬ a = z := fun y h1 h2 hz => by rw [hz] at z; omega
    rw [q_many, if_neg (e 0 (by decide) (by decide)), if_neg (e 1 (by decide) (by decide)), if_neg (e 2 (by decide) (by decide)), if_neg (e 3 (by decide) (by decide)), if_neg (e 4 (by decide) (by decide))]
theorem i32z (a : Int32) : a + 0 = a := by grind
set_option maxHeartbeats 4000000 in
set_option maxRecDepth 100000 in
theorem lX5_manyOpen {d : Nat} {I : mm_I} {L : mm_L} {Q : mm_Q} {n : Nat} (hn : I 0 0 = nI n) (h8 : n ≤ 8) (h : Q I L (mo (vR I) 8) 0) : ∀ (m k : Nat), k + m = 8 → mm_W shR (mm_P shR msR (d + 1)) tbX5_manyOpen Q 4 [.ref 0, .int (mo (vR I) k), .int (nI k)] [] I L := by
  have hc : (v_n (vR I)).toNatClampNeg = n := by show (I 0 0).toNatClampNeg = n; rw [hn, ni_cl (by omega)]
  intro m
  induction m with
  | zero =>
    intro k hk
    have e1 : k = 8 := by omega
    subst e1
    refine mm_hk 60 ?_
    simp only [↓hX5_manyOpen, ↓uX5_manyOpen, ↓mm_r, mm_n, iaR, n10, not_true_eq_false, not_false_eq_true, false_implies, lg_cmp_ge, lg_cmp_le, lg_cmp_gt, lg_cmp_lt, lg_cmp_eq, true_and, and_true, true_or, or_true, true_implies, Classical.not_not, List.length_cons, List.length_nil, Nat.lt_iff_add_one_le, Nat.reduceAdd, Nat.reduceLeDiff, Nat.reduceEqDiff, Int.reduceAdd, reduceIte, Nat.reduceSub]
    simp only [ni_8 (a := 8) (by omega)]
    exact ⟨fun _ => h, fun q => absurd (Nat.le_refl 8) q⟩
  | succ m ih =>
    intro k hk
    refine mm_hk 60 ?_
    simp only [↓hX5_manyOpen, ↓uX5_manyOpen, ↓mm_r, mm_n, iaR, n10, not_true_eq_false, not_false_eq_true, false_implies, lg_cmp_ge, lg_cmp_le, lg_cmp_gt, lg_cmp_lt, lg_cmp_eq, true_and, and_true, true_or, or_true, true_implies, Classical.not_not, List.length_cons, List.length_nil, Nat.lt_iff_add_one_le, Nat.reduceAdd, Nat.reduceLeDiff, Nat.reduceEqDiff, Int.reduceAdd, reduceIte, Nat.reduceSub]
    simp only [ni_8 (a := k) (by omega), nI_1, i32z]
    have nx := ih (k + 1) (by omega)
    rw [mo, hc] at nx
    refine ⟨fun q => absurd q (by omega), fun _ => ?_⟩
    refine sX5_setOf hn h8 ?_
    rw [if_neg (by decide)]
    refine ⟨fun q => ?_, fun q => ?_⟩
    · rw [if_neg (fun z => z.1 q), i32z] at nx
      exact nx
    · refine sX5_setOf hn h8 ?_
      rw [if_pos rfl]
      refine ⟨fun q2 => ?_, fun q2 => ?_⟩
      · rw [if_neg (fun z => q2 z.2), i32z] at nx
        exact nx
      · rw [if_pos ⟨q, q2⟩] at nx
        exact nx
set_option maxHeartbeats 4000000 in
set_option maxRecDepth 100000 in
theorem kX5_many {d : Nat} {I : mm_I} {L : mm_L} {a : Int32} (hv : vok (vR I)) : mm_P shR msR (d + 3) 55 [.ref 0, .int a] I L (fun I' _ ri _ => (vR I', ri) = q_many (vR I) a) := by
  obtain ⟨n, ns, hn, h8, -⟩ := id hv
  have hn : I 0 0 = nI n := hn
  refine pX5_many ?_
  simp only [↓uX5_many, ↓mm_r, mm_n, iaR, n10, not_true_eq_false, not_false_eq_true, false_implies, lg_cmp_ge, lg_cmp_le, lg_cmp_gt, lg_cmp_lt, lg_cmp_eq, true_and, and_true, true_or, or_true, true_implies, Classical.not_not, List.length_cons, List.length_nil, Nat.lt_iff_add_one_le, Nat.reduceAdd, Nat.reduceLeDiff, Nat.reduceEqDiff, Int.reduceAdd, reduceIte, Nat.reduceSub]
  refine ⟨⟨fun z => ?_, fun z => ?_, fun z => ?_, fun z => ?_, fun z => ?_⟩, fun z => ?_⟩
  · subst z
    rw [q_many, if_pos rfl]
    rfl
  · subst z
    rw [q_many, if_neg (by decide), if_pos rfl]
    rfl
  · subst z
    rw [q_many, if_neg (by decide), if_neg (by decide), if_pos rfl]
    rfl
  · subst z
    rw [q_many, if_neg (by decide), if_neg (by decide), if_neg (by decide), if_pos rfl]
    rfl
  · subst z
    refine pX5_manyOpen ?_
    simp only [↓hX5_manyOpen, ↓uX5_manyOpen, ↓mm_r, mm_n, iaR, n10, not_true_eq_false, not_false_eq_true, false_implies, lg_cmp_ge, lg_cmp_le, lg_cmp_gt, lg_cmp_lt, lg_cmp_eq, true_and, and_true, true_or, or_true, true_implies, Classical.not_not, List.length_cons, List.length_nil, Nat.lt_iff_add_one_le, Nat.reduceAdd, Nat.reduceLeDiff, Nat.reduceEqDiff, Int.reduceAdd, reduceIte, Nat.reduceSub]
    refine lX5_manyOpen (d := d) hn h8 ?_ 8 0 (by omega)
    rw [q_many, if_neg (by decide), if_neg (by decide), if_neg (by decide), if_neg (by decide), if_pos rfl]
  · have e : ∀ z : Int32, 0 ≤ z.toInt → z.toInt ≤ 4 → ¬ a = z := fun y h1 h2 hz => by rw [hz] at z; omega
    rw [q_many, if_neg (e 0 (by decide) (by decide)), if_neg (e 1 (by decide) (by decide)), if_neg (e 2 (by decide) (by decide)), if_neg (e 3 (by decide) (by decide)), if_neg (e 4 (by decide) (by decide))]
