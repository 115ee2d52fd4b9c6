/-! ===== order, the public call, on the right side ===== -/
theorem pg_0 (gv : Nat → Int32) : ∀ n : Nat, n ≤ 8 → pg gv (nI 0) n = 0 := by
  intro n
  induction n with
  | zero => intro _; rfl
  | succ n ih =>
    intro hn
    rw [pg, if_neg (fun q => by have := (o_bi 0 (by omega) n (by omega)).mp q; rw [Nat.zero_testBit] at this; cases this), ih (by omega)]
theorem an_m1 (x : Int32) : x &&& (0 ^^^ (-1)) = x := by
  apply b_ext
  intro i hi
  rw [b_and, b_xor, b_0, b_m1 i hi, Bool.false_xor, Bool.and_true]
theorem oav_0 {b : pb} {n k : Nat} (hn : n ≤ 8) : oav b n 0 k ↔ b.2.2.2 k = 0 := by
  unfold oav
  rw [pg_0 _ n hn, an_m1, Nat.zero_testBit]
  exact ⟨fun h => h.2, fun h => ⟨rfl, h⟩⟩
theorem oc_0 {b : pb} {n k : Nat} (hn : n ≤ 8) (hk : k < 8) : oc b n 0 0 k = if b.2.2.2 k = 0 then orr b n (2 ^ k) k else none := by
  unfold oc
  by_cases h : b.2.2.2 k = 0
  · rw [if_pos ((oav_0 hn).mpr h), if_pos h, o_or0 k hk, ocs, if_pos rfl]
    cases orr b n (2 ^ k) k <;> rfl
  · rw [if_neg (fun q => h ((oav_0 hn).mp q)), if_neg h]
/-- the first of THE ORDER, found from the last scene on -/
def RF (c : Nat → Option Nat) (n m : Nat) (o : Option Nat) (best : Int32) : Prop := match o with
  | none => ∀ k, m ≤ k → k < n → c k = none
  | some x => ∃ j, best = nI j ∧ m ≤ j ∧ j < n ∧ c j = some x ∧ (∀ k, m ≤ k → k < n → ∀ y, c k = some y → x ≤ y) ∧ (∀ k, m ≤ k → k < j → ∀ y, c k = some y → x < y)
theorem RF_e {c : Nat → Option Nat} {n : Nat} {o : Option Nat} {best : Int32} (h : RF c n 0 o best) : (obs c n).map Prod.fst = o ∧ ∀ x k, obs c n = some (x, k) → best = nI k := by
  cases o with
  | none =>
    have h : ∀ k, 0 ≤ k → k < n → c k = none := h
    cases ho : obs c n with
    | none => exact ⟨rfl, fun x k q => by cases q⟩
    | some p =>
      obtain ⟨x, k⟩ := p
      obtain ⟨k1, k2, -⟩ := obs_s n x k ho
      rw [h k (by omega) k1] at k2
      cases k2
  | some x =>
    obtain ⟨j, j1, -, j3, j4, j5, j6⟩ := h
    cases ho : obs c n with
    | none =>
      rw [obs_n n ho j j3] at j4
      cases j4
    | some p =>
      obtain ⟨y, k⟩ := p
      obtain ⟨k1, k2, k3, k4⟩ := obs_s n y k ho
      have a1 := k3 j j3 x j4
      have a2 := j5 k (by omega) k1 y k2
      have e : y = x := by omega
      subst e
      refine ⟨rfl, fun x2 k' q => ?_⟩
      cases q
      rcases Nat.lt_trichotomy j k with z | z | z
      · have := k4 j z _ j4
        omega
      · rw [j1, z]
      · have := j6 k (by omega) z _ k2
        omega
/-- only the picks have changed -/
def r14 (I I' : mm_I) : Prop := ∀ b, b ≠ 14 → I' b = I b
theorem r14_b {I I' : mm_I} (h : r14 I I') : bR I' = bR I := by
  unfold bR
  rw [h 1 (by omega), h 2 (by omega), h 3 (by omega), h 4 (by omega)]
theorem r14_n {I I' : mm_I} (h : r14 I I') : I' 0 0 = I 0 0 := by rw [h 0 (by omega)]
theorem r14_v {I I' : mm_I} (h : r14 I I') : vR I' = vR I := by
  unfold vR
  rw [h 0 (by omega), h 1 (by omega), h 2 (by omega), h 3 (by omega), h 4 (by omega), h 5 (by omega)]
theorem r14_s {I I' : mm_I} {k : Nat} {x : Int32} (h : r14 I I') : r14 I (mm_ui I' 14 k x) := fun b hb => by rw [mm_ui_off _ _ _ hb]; exact h b hb
set_option maxHeartbeats 4000000 in
set_option maxRecDepth 100000 in
theorem lX5_findOrder1 {d : Nat} {I0 : mm_I} {L : mm_L} {Q : mm_Q} {n : Nat} (hn : I0 0 0 = nI n) (h8 : n ≤ 8) (hT : RT (bR I0) n 1 L)
    (h : ∀ I' o y5 y6, r14 I0 I' → RF (oc (bR I0) n 0 0) n 0 o (I' 14 0) → mm_W shR (mm_P shR msR d) tbX5_findOrder Q 62 [.ref 0, .long (og o), .null, .int (1 <<< (I' 14 0 &&& 31)), .int 1, y5, y6] [] I' L) :
    ∀ (m : Nat) (I : mm_I) (o : Option Nat) (y4 y5 y6 : Value), m ≤ n → r14 I0 I → RF (oc (bR I0) n 0 0) n m o (I 14 0) → mm_W shR (mm_P shR msR d) tbX5_findOrder Q 9 [.ref 0, .long (og o), .null, .int (nI m + (-1)), y4, y5, y6] [] I L := by
  have hv0 : vp_in 0 8 := by rw [nl0]; exact ni_in (by omega) (by omega)
  have p2 := o_p2 n (by omega)
  intro m
  induction m with
  | zero =>
    intro I o y4 y5 y6 hm hc hF
    refine mm_hk 60 ?_
    simp only [↓hX5_findOrder, ↓uX5_findOrder, ↓mm_r, mm_n, iaR, n10, not_true_eq_false, not_false_eq_true, false_implies, lg_cmp_ge, lg_cmp_le, lg_cmp_gt, lg_cmp_lt, lg_cmp_eq, true_and, and_true, true_or, or_true, true_implies, Classical.not_not, List.length_cons, List.length_nil, Nat.lt_iff_add_one_le, Nat.reduceAdd, Nat.reduceLeDiff, Nat.reduceEqDiff, Int.reduceAdd, reduceIte, Nat.reduceSub]
    exact ⟨fun _ => ⟨hv0, h I o y5 y6 hc hF⟩, fun q => absurd (by decide) q⟩
  | succ k ih =>
    intro I o y4 y5 y6 hm hc hF
    have hin : vp_in (nI k) 8 := ni_in (by omega) (by omega)
    have hoc := oc_0 (b := bR I0) (n := n) (k := k) h8 (by omega)
    have hnd : I 4 = I0 4 := hc 4 (by omega)
    have hlo : ∀ x, o = some x → x < 1000000000000 := fun x hx => by
      subst hx
      obtain ⟨j, j1, j2, j3, j4, -⟩ := hF
      have := oc_le h8 j3 (by omega) j4
      omega
    have hlk : ∀ x, oc (bR I0) n 0 0 k = some x → x < 1000000000000 := fun x hx => by
      have := oc_le h8 (show k < n by omega) (by omega) hx
      omega
    have hog : ∀ o : Option Nat, (∀ x, o = some x → x < 1000000000000) → og o ≤ 1000000000000 := fun o ho => by
      cases o with
      | none => decide
      | some x =>
        have := ho x rfl
        rw [nev]
        show lN x ≤ _
        rw [pk_lLE (by omega) (by omega)]
        omega
    have step : ∀ its : Int64, its = og (oc (bR I0) n 0 0 k) → ((og o < its → vp_in 0 8 ∧ vp_in 0 8 ∧ (og o ≤ its → mm_W shR (mm_P shR msR d) tbX5_findOrder Q 9 [.ref 0, .long (og o), .null, .int (nI k + (-1)), .long its, .null, y6] [] (mm_ui I 14 0 (I 14 0)) L) ∧ (¬ og o ≤ its → mm_W shR (mm_P shR msR d) tbX5_findOrder Q 9 [.ref 0, .long its, .null, .int (nI k + (-1)), .long its, .null, y6] [] (mm_ui I 14 0 (I 14 0)) L)) ∧ (¬ og o < its → vp_in 0 8 ∧ (og o ≤ its → mm_W shR (mm_P shR msR d) tbX5_findOrder Q 9 [.ref 0, .long (og o), .null, .int (nI k + (-1)), .long its, .null, y6] [] (mm_ui I 14 0 (nI k)) L) ∧ (¬ og o ≤ its → mm_W shR (mm_P shR msR d) tbX5_findOrder Q 9 [.ref 0, .long its, .null, .int (nI k + (-1)), .long its, .null, y6] [] (mm_ui I 14 0 (nI k)) L))) := by
      intro its hits
      subst hits
      have keep : RF (oc (bR I0) n 0 0) n k o (I 14 0) → mm_W shR (mm_P shR msR d) tbX5_findOrder Q 9 [.ref 0, .long (og o), .null, .int (nI k + (-1)), .long (og (oc (bR I0) n 0 0 k)), .null, y6] [] (mm_ui I 14 0 (I 14 0)) L := fun q => ih _ o _ _ _ (by omega) (r14_s hc) q
      have put : ∀ o2, RF (oc (bR I0) n 0 0) n k o2 (nI k) → mm_W shR (mm_P shR msR d) tbX5_findOrder Q 9 [.ref 0, .long (og o2), .null, .int (nI k + (-1)), .long (og (oc (bR I0) n 0 0 k)), .null, y6] [] (mm_ui I 14 0 (nI k)) L := fun o2 q => ih _ o2 _ _ _ (by omega) (r14_s hc) q
      cases hck : oc (bR I0) n 0 0 k with
      | none =>
        rw [hck] at keep put
        have hle := hog o hlo
        refine ⟨fun q => ⟨hv0, hv0, fun _ => keep ?_, fun z => absurd hle z⟩, fun q => ⟨hv0, fun _ => put o ?_, fun z => absurd hle z⟩⟩
        · cases o with
          | none => exact absurd q (by decide)
          | some x =>
            obtain ⟨j, j1, j2, j3, j4, j5, j6⟩ := hF
            refine ⟨j, j1, by omega, j3, j4, fun i i1 i2 y hy => ?_, fun i i1 i2 y hy => ?_⟩
            · by_cases e : i = k
              · subst e; rw [hck] at hy; cases hy
              · exact j5 i (by omega) i2 y hy
            · by_cases e : i = k
              · subst e; rw [hck] at hy; cases hy
              · exact j6 i (by omega) i2 y hy
        · cases o with
          | none =>
            intro i i1 i2
            by_cases e : i = k
            · subst e; exact hck
            · exact hF i (by omega) i2
          | some x =>
            exfalso
            have := hlo x rfl
            apply q
            show lN x < _
            rw [show og none = lN 1000000000000 from nev, pk_lLT (by omega) (by omega)]
            omega
      | some z =>
        rw [hck] at keep put
        have hz := hlk z hck
        cases o with
        | none =>
          have n1 : ¬ og none < og (some z) := by
            rw [show og none = lN 1000000000000 from nev]
            show ¬ _ < lN z
            rw [pk_lLT (by omega) (by omega)]
            omega
          have n2 : ¬ og none ≤ og (some z) := by
            rw [show og none = lN 1000000000000 from nev]
            show ¬ _ ≤ lN z
            rw [pk_lLE (by omega) (by omega)]
            omega
          refine ⟨fun q => absurd q n1, fun _ => ⟨hv0, fun q => absurd q n2, fun _ => put (some z) ⟨k, rfl, Nat.le_refl k, by omega, hck, fun i i1 i2 y hy => ?_, fun i i1 i2 => absurd i1 (by omega)⟩⟩⟩
          by_cases e : i = k
          · subst e; rw [hck] at hy; cases hy; exact Nat.le_refl _
          · rw [hF i (by omega) i2] at hy; cases hy
        | some x =>
          have hx := hlo x rfl
          obtain ⟨j, j1, j2, j3, j4, j5, j6⟩ := hF
          have e1 : (og (some x) < og (some z)) = (x < z) := propext (pk_lLT (by omega) (by omega))
          have e2 : (og (some x) ≤ og (some z)) = (x ≤ z) := propext (pk_lLE (by omega) (by omega))
          rw [e1, e2]
          refine ⟨fun q => ⟨hv0, hv0, fun _ => keep ⟨j, j1, by omega, j3, j4, fun i i1 i2 y hy => ?_, fun i i1 i2 y hy => ?_⟩, fun q2 => absurd q2 (by omega)⟩, fun q => ⟨hv0, fun q2 => ?_, fun q2 => put (some z) ⟨k, rfl, Nat.le_refl k, by omega, hck, fun i i1 i2 y hy => ?_, fun i i1 i2 => absurd i1 (by omega)⟩⟩⟩
          · by_cases e : i = k
            · subst e; rw [hck] at hy; cases hy; omega
            · exact j5 i (by omega) i2 y hy
          · by_cases e : i = k
            · subst e; rw [hck] at hy; cases hy; omega
            · exact j6 i (by omega) i2 y hy
          · have e : x = z := by omega
            refine put (some x) ⟨k, rfl, Nat.le_refl k, by omega, by rw [e]; exact hck, fun i i1 i2 y hy => ?_, fun i i1 i2 => absurd i1 (by omega)⟩
            by_cases e : i = k
            · subst e; rw [hck] at hy; cases hy; omega
            · exact j5 i (by omega) i2 y hy
          · by_cases e : i = k
            · subst e; rw [hck] at hy; cases hy; omega
            · have := j5 i (by omega) i2 y hy
              omega
    refine mm_hk 60 ?_
    simp only [↓hX5_findOrder, ↓uX5_findOrder, ↓mm_r, mm_n, iaR, n10, not_true_eq_false, not_false_eq_true, false_implies, lg_cmp_ge, lg_cmp_le, lg_cmp_gt, lg_cmp_lt, lg_cmp_eq, true_and, and_true, true_or, or_true, true_implies, Classical.not_not, List.length_cons, List.length_nil, Nat.lt_iff_add_one_le, Nat.reduceAdd, Nat.reduceLeDiff, Nat.reduceEqDiff, Int.reduceAdd, reduceIte, Nat.reduceSub]
    simp only [pk_m1, ni_0 (a := k) (by omega), ni_cl (a := k) (by omega), show Int32.toNatClampNeg 0 = 0 from rfl, hnd]
    have hp : (8 : Int32) * 1 <<< (nI k &&& 31) + nI k = nI (8 * 2 ^ k + k) := by rw [o_one k (by omega), nl8, pk_mul, nI_add]
    have p3 : 2 ^ k < 2 ^ n := Nat.pow_lt_pow_right (by omega) (by omega)
    simp only [hp, ni_cl (a := 8 * 2 ^ k + k) (by omega)]
    refine ⟨fun q => absurd q (by simp), fun _ => ⟨hin, fun q => ?_, fun q => ⟨ni_in (by omega) (by omega), ?_⟩⟩⟩
    · rw [if_neg q] at hoc
      exact step 1000000000000 (by rw [hoc]; rfl)
    · rw [if_pos q] at hoc
      have hv := hT (2 ^ k) k (Nat.pos_of_neZero _) (Nat.pos_of_neZero _) p3 (by omega)
      rw [hv]
      exact step _ (by rw [hoc])
set_option maxHeartbeats 4000000 in
set_option maxRecDepth 100000 in
theorem lX5_findOrder3 {d : Nat} {I0 I : mm_I} {L : mm_L} {Q : mm_Q} {n x i z : Nat} {ls : Int64} (hn : I0 0 0 = nI n) (h8 : n ≤ 8) (h1 : 1 ≤ n) (hx : orr (bR I0) n 0 0 = some x) (hT : RT (bR I0) n 1 L) (hc : r14 I0 I) (hi : i < n) (hi0 : 0 < i) (hz : obs (oc (bR I0) n (ost (bR I0) n i).1 (ost (bR I0) n i).2) n = some (z, opk (bR I0) n i)) (hz2 : orr (bR I0) n (ost (bR I0) n i).1 (ost (bR I0) n i).2 = some z)
    (h : ∀ y5 y6, mm_W shR (mm_P shR msR (d + 3)) tbX5_findOrder Q 62 [.ref 0, .long ls, .null, .int (nI (ost (bR I0) n (i + 1)).1), .int (nI (i + 1)), y5, y6] [] (mm_ui I 14 i (nI (opk (bR I0) n i))) L) :
    ∀ (m k : Nat), k + m = opk (bR I0) n i → mm_W shR (mm_P shR msR (d + 3)) tbX5_findOrder Q 79 [.ref 0, .long ls, .null, .int (nI (ost (bR I0) n i).1), .int (nI i), .int (nI (ost (bR I0) n i).2), .int (nI k)] [] I L := by
  have p2 := o_p2 n (by omega)
  obtain ⟨a1, a2, -, a4, a5⟩ := ost_ok h8 h1 hx i (by omega)
  obtain ⟨z0, z1, z2, z3, z4⟩ := ost_s h8 h1 hx (i := i) hi
  obtain ⟨k1, k2, k3, k4⟩ := obs_s n _ _ hz
  have hS0 : 0 < (ost (bR I0) n i).1 := by
    rcases Nat.eq_zero_or_pos (ost (bR I0) n i).1 with q | q
    · have := a5 hi0
      rw [q, Nat.zero_testBit] at this
      cases this
    · exact q
  have hz3 := orr_le h8 (show (ost (bR I0) n i).1 < 256 by omega) hz2
  have hn' : I 0 0 = nI n := by rw [r14_n hc]; exact hn
  have hb' := r14_b hc
  have hp : (8 : Int32) * nI (ost (bR I0) n i).1 + nI (ost (bR I0) n i).2 = nI (8 * (ost (bR I0) n i).1 + (ost (bR I0) n i).2) := by rw [nl8, pk_mul, nI_add]
  have hv := hT _ _ (Nat.succ_le_of_lt hS0) hS0 a1 a4
  intro m
  induction m with
  | zero =>
    intro k hk
    have e1 : k = opk (bR I0) n i := by omega
    have ha : oav (bR I0) n (ost (bR I0) n i).1 k := by
      apply Classical.byContradiction
      intro q
      rw [← e1, oc, if_neg q] at k2
      cases k2
    refine mm_hk 60 ?_
    simp only [↓hX5_findOrder, ↓uX5_findOrder, ↓mm_r, mm_n, iaR, n10, not_true_eq_false, not_false_eq_true, false_implies, lg_cmp_ge, lg_cmp_le, lg_cmp_gt, lg_cmp_lt, lg_cmp_eq, true_and, and_true, true_or, or_true, true_implies, Classical.not_not, List.length_cons, List.length_nil, Nat.lt_iff_add_one_le, Nat.reduceAdd, Nat.reduceLeDiff, Nat.reduceEqDiff, Int.reduceAdd, reduceIte, Nat.reduceSub]
    refine sX5_mayCome hn' h8 (by omega) (by omega) (fun _ => ?_) (fun q => absurd (by rw [hb']; exact ha) q)
    simp only [n10, not_false_eq_true, false_implies, true_implies, true_and, and_true, not_true_eq_false]
    refine sX5_byNext h8 hS0 a1 a4 (by omega) (by rw [hb']; exact ha) (by rw [hb']; exact fun S l q1 q2 q3 q4 => hT S l (by omega) q2 q3 q4) ?_
    rw [hb', hp, ni_cl (by omega), ni_cl (by omega), hv, hz2, e1, k2, nI_1]
    refine ⟨ni_in (by omega) (by omega), fun _ => ⟨ni_in (by omega) (by omega), ?_⟩, fun q => absurd rfl q⟩
    rw [o_or2 _ (by omega) _ (by omega)]
    have := h (.int (nI (ost (bR I0) n i).2)) (.int (nI (opk (bR I0) n i)))
    rw [z3] at this
    exact this
  | succ m ih =>
    intro k hk
    have nx := ih (k + 1) (by omega)
    refine mm_hk 60 ?_
    simp only [↓hX5_findOrder, ↓uX5_findOrder, ↓mm_r, mm_n, iaR, n10, not_true_eq_false, not_false_eq_true, false_implies, lg_cmp_ge, lg_cmp_le, lg_cmp_gt, lg_cmp_lt, lg_cmp_eq, true_and, and_true, true_or, or_true, true_implies, Classical.not_not, List.length_cons, List.length_nil, Nat.lt_iff_add_one_le, Nat.reduceAdd, Nat.reduceLeDiff, Nat.reduceEqDiff, Int.reduceAdd, reduceIte, Nat.reduceSub]
    simp only [nI_1]
    refine sX5_mayCome hn' h8 (by omega) (by omega) (fun ha => ?_) (fun ha => ?_)
    · simp only [n10, not_false_eq_true, false_implies, true_implies, true_and, and_true, not_true_eq_false]
      refine sX5_byNext h8 hS0 a1 a4 (by omega) ha (by rw [hb']; exact fun S l q1 q2 q3 q4 => hT S l (by omega) q2 q3 q4) ?_
      rw [hb', hp, ni_cl (by omega), hv, hz2]
      refine ⟨ni_in (by omega) (by omega), fun q => ?_, fun _ => nx⟩
      exfalso
      cases hc2 : oc (bR I0) n (ost (bR I0) n i).1 (ost (bR I0) n i).2 k with
      | none =>
        rw [hc2] at q
        have q : (1000000000000 : Int64) = lN z := q
        rw [nev, pk_lEQ (by omega) (by omega)] at q
        omega
      | some y =>
        have hy := oc_le h8 (by omega) (by omega) hc2
        have := k4 k (by omega) y hc2
        rw [hc2] at q
        have q : lN y = lN z := q
        rw [pk_lEQ (by omega) (by omega)] at q
        omega
    · simp only [n10, not_false_eq_true, false_implies, true_implies, true_and, and_true, not_true_eq_false]
      exact nx
set_option maxHeartbeats 4000000 in
set_option maxRecDepth 100000 in
theorem lX5_findOrder2 {d : Nat} {I0 : mm_I} {L : mm_L} {Q : mm_Q} {n x : Nat} (hn : I0 0 0 = nI n) (h8 : n ≤ 8) (h1 : 1 ≤ n) (hx : orr (bR I0) n 0 0 = some x) (hT : RT (bR I0) n 1 L) (h : ∀ I', r14 I0 I' → (∀ j, j < n → I' 14 j = nI (opk (bR I0) n j)) → Q I' L 0 (lN x)) : ∀ (m i : Nat) (I : mm_I) (y5 y6 : Value), i + m = n → 0 < i → r14 I0 I → (∀ j, j < i → I 14 j = nI (opk (bR I0) n j)) → mm_W shR (mm_P shR msR (d + 3)) tbX5_findOrder Q 62 [.ref 0, .long (lN x), .null, .int (nI (ost (bR I0) n i).1), .int (nI i), y5, y6] [] I L := by
  have hx2 := orr_le h8 (by omega) hx
  intro m
  induction m with
  | zero =>
    intro i I y5 y6 him hi hc hj
    have e1 : i = n := by omega
    subst e1
    refine mm_hk 60 ?_
    simp only [↓hX5_findOrder, ↓uX5_findOrder, ↓mm_r, mm_n, iaR, n10, not_true_eq_false, not_false_eq_true, false_implies, lg_cmp_ge, lg_cmp_le, lg_cmp_gt, lg_cmp_lt, lg_cmp_eq, true_and, and_true, true_or, or_true, true_implies, Classical.not_not, List.length_cons, List.length_nil, Nat.lt_iff_add_one_le, Nat.reduceAdd, Nat.reduceLeDiff, Nat.reduceEqDiff, Int.reduceAdd, reduceIte, Nat.reduceSub]
    simp only [r14_n hc, hn, ni_le (a := i) (b := i) (by omega) (by omega)]
    exact ⟨fun _ => h I hc hj, fun q => absurd (Nat.le_refl i) q⟩
  | succ m ih =>
    intro i I y5 y6 him hi hc hj
    obtain ⟨i', rfl⟩ : ∃ i', i = i' + 1 := ⟨i - 1, by omega⟩
    obtain ⟨z0, z1, z2, z3, z4⟩ := ost_s h8 h1 hx (i := i' + 1) (by omega)
    obtain ⟨w0, w1, w2, w3, w4⟩ := ost_s h8 h1 hx (i := i') (by omega)
    refine mm_hk 60 ?_
    simp only [↓hX5_findOrder, ↓uX5_findOrder, ↓mm_r, mm_n, iaR, n10, not_true_eq_false, not_false_eq_true, false_implies, lg_cmp_ge, lg_cmp_le, lg_cmp_gt, lg_cmp_lt, lg_cmp_eq, true_and, and_true, true_or, or_true, true_implies, Classical.not_not, List.length_cons, List.length_nil, Nat.lt_iff_add_one_le, Nat.reduceAdd, Nat.reduceLeDiff, Nat.reduceEqDiff, Int.reduceAdd, reduceIte, Nat.reduceSub]
    simp only [r14_n hc, hn, ni_le (a := n) (b := i' + 1) (by omega) (by omega), nI_pred, ni_cl (a := i') (by omega)]
    refine ⟨fun q => absurd q (by omega), fun _ => ⟨fun q => ?_, fun _ => ⟨ni_in (by omega) (by omega), ?_⟩⟩⟩
    · exfalso
      rw [nev, pk_lLE (by omega) (by omega)] at q
      omega
    · have e : I 14 i' = nI (ost (bR I0) n (i' + 1)).2 := by rw [hj i' (by omega), w3]
      rw [e]
      refine lX5_findOrder3 hn h8 h1 hx hT hc (by omega) (by omega) z1 z2 (fun y5 y6 => ?_) (opk (bR I0) n (i' + 1)) 0 (by omega)
      refine ih (i' + 1 + 1) _ y5 y6 (by omega) (by omega) (r14_s hc) (fun j hj2 => ?_)
      show (if (14 : Nat) = 14 then (if j = i' + 1 then nI (opk (bR I0) n (i' + 1)) else I 14 j) else I 14 j) = _
      rw [if_pos rfl]
      by_cases e2 : j = i' + 1
      · subst e2
        rw [if_pos rfl]
      · rw [if_neg e2]
        exact hj j (by omega)
set_option maxHeartbeats 4000000 in
set_option maxRecDepth 100000 in
theorem sX5_findOrder {d : Nat} {I : mm_I} {L : mm_L} {Q : mm_Q} {n : Nat} (hn : I 0 0 = nI n) (h8 : n ≤ 8) (h1 : 1 ≤ n) (h : ∀ I' L', r14 I I' → (∀ x, orr (bR I) n 0 0 = some x → ∀ j, j < n → I' 14 j = nI (opk (bR I) n j)) → Q I' L' 0 (og (orr (bR I) n 0 0))) : mm_P shR msR (d + 5) 42 [.ref 0] I L Q := by
  have p2 := o_p2 n (by omega)
  have p3 : 2 ^ 0 < 2 ^ n := Nat.pow_lt_pow_right (by omega) h1
  refine pX5_findOrder ?_
  simp only [↓hX5_findOrder, ↓uX5_findOrder, ↓mm_r, mm_n, iaR, n10, not_true_eq_false, not_false_eq_true, false_implies, lg_cmp_ge, lg_cmp_le, lg_cmp_gt, lg_cmp_lt, lg_cmp_eq, true_and, and_true, true_or, or_true, true_implies, Classical.not_not, List.length_cons, List.length_nil, Nat.lt_iff_add_one_le, Nat.reduceAdd, Nat.reduceLeDiff, Nat.reduceEqDiff, Int.reduceAdd, reduceIte, Nat.reduceSub]
  refine sX5_findRest hn h8 (fun L' hT => ?_)
  have e1 : I 0 0 - 1 = nI n + (-1) := by grind
  have oe1 := orr_e (b := bR I) (n := n) (S := 0) (l := 0) h8 (by omega)
  rw [if_neg (by omega)] at oe1
  rw [e1]
  refine lX5_findOrder1 (d := d + 4) (L := L') (Q := Q) hn h8 hT (fun I' o y5 y6 hc hF => ?_) n I none _ _ _ (Nat.le_refl n) (fun _ _ => rfl) (fun k k1 k2 => absurd k1 (by omega))
  obtain ⟨f1, f2⟩ := RF_e hF
  rw [← oe1] at f1
  subst f1
  cases ho : orr (bR I) n 0 0 with
  | none =>
    refine mm_hk 60 ?_
    simp only [↓hX5_findOrder, ↓uX5_findOrder, ↓mm_r, mm_n, iaR, n10, not_true_eq_false, not_false_eq_true, false_implies, lg_cmp_ge, lg_cmp_le, lg_cmp_gt, lg_cmp_lt, lg_cmp_eq, true_and, and_true, true_or, or_true, true_implies, Classical.not_not, List.length_cons, List.length_nil, Nat.lt_iff_add_one_le, Nat.reduceAdd, Nat.reduceLeDiff, Nat.reduceEqDiff, Int.reduceAdd, reduceIte, Nat.reduceSub]
    have := h I' L' hc (fun x hx => by rw [ho] at hx; cases hx)
    rw [ho] at this
    exact ⟨fun _ => this, fun _ => ⟨fun _ => this, fun q => absurd (by decide) q⟩⟩
  | some x =>
    obtain ⟨z0, z1, z2, z3, z4⟩ := ost_s h8 h1 ho (i := 0) (by omega)
    have hb := f2 _ _ z1
    rw [hb, o_one _ (by omega), nl1, ← o_or0 (opk (bR I) n 0) (by omega)]
    have := lX5_findOrder2 (d := d + 1) (Q := Q) hn h8 h1 ho hT (fun I2 c1 c2 => by
      have := h I2 L' c1 (fun _ _ => c2)
      rw [ho] at this
      exact this) (n - 1) 1 I' y5 y6 (by omega) (by omega) hc (fun j hj => by
        have : j = 0 := by omega
        subst this
        exact hb)
    rw [z3] at this
    exact this
set_option maxHeartbeats 4000000 in
set_option maxRecDepth 100000 in
theorem kX5_order {d : Nat} {I : mm_I} {L : mm_L} {a : Int32} (hv : vok (vR I)) : mm_P shR msR (d + 6) 43 [.ref 0, .int a] I L (fun I' _ ri _ => (vR I', ri) = q_order (vR I) a) := by
  obtain ⟨n, ns, hn, h8, -⟩ := id hv
  have hn : I 0 0 = nI n := hn
  have hcl : (v_n (vR I)).toNatClampNeg = n := by show (I 0 0).toNatClampNeg = n; rw [hn, ni_cl (by omega)]
  have hz : (I 0 0 = 0) = (n = 0) := by rw [hn, nl0, ni_eq (by omega) (by omega)]
  refine pX5_order ?_
  simp only [↓uX5_order, ↓mm_r, mm_n, iaR, n10, not_true_eq_false, not_false_eq_true, false_implies, lg_cmp_ge, lg_cmp_le, lg_cmp_gt, lg_cmp_lt, lg_cmp_eq, true_and, and_true, true_or, or_true, true_implies, Classical.not_not, List.length_cons, List.length_nil, Nat.lt_iff_add_one_le, Nat.reduceAdd, Nat.reduceLeDiff, Nat.reduceEqDiff, Int.reduceAdd, reduceIte, Nat.reduceSub]
  refine sX5_within (fun w1 w2 => ?_) (fun w => ?_)
  · simp only [n10, not_false_eq_true, false_implies, true_implies, true_and, and_true, not_true_eq_false]
    have ha : ¬ (a < -1 ∨ 8 ≤ a) := by grind
    unfold q_order
    rw [if_neg ha, hcl, show vb (vR I) = bR I from rfl, hz]
    refine ⟨fun q => ?_, fun q => by rw [if_pos q]⟩
    rw [if_neg q]
    refine sX5_findOrder hn h8 (by omega) (fun I' L' c1 c2 => ?_)
    rw [r14_n c1, r14_v c1]
    cases ho : orr (bR I) n 0 0 with
    | none => exact ⟨fun z => absurd z (by decide), fun _ => rfl⟩
    | some x =>
      have hx := orr_le h8 (by omega) ho
      have c2 := c2 x ho
      refine ⟨fun _ => ⟨fun z => ⟨fun z2 => ?_, fun z2 => ?_⟩, fun z => ?_⟩, fun z => ?_⟩
      · dsimp only
        rw [if_neg (by grind), if_pos (show v_n (vR I) ≤ a from z2)]
      · rw [hn] at z2
        obtain ⟨j, j1, rfl⟩ := vi_nI (n := n) (by omega) z (by grind)
        refine ⟨ni_in (by omega) (by omega), ?_⟩
        dsimp only
        rw [if_neg (by grind), if_neg (show ¬ v_n (vR I) ≤ nI j by show ¬ I 0 0 ≤ nI j; rw [hn]; exact z2), ni_cl (by omega), c2 j j1]
      · dsimp only
        rw [if_pos (by grind)]
        refine sX5_jumpsOf (fun f => ?_) (fun f => ?_)
        · rw [ovr, if_pos (show 2147483647 < lN x from f), r14_v c1]
        · rw [ovr, if_neg (show ¬ 2147483647 < lN x from f), r14_v c1]
          rfl
      · exfalso
        apply z
        show lN x < _
        rw [nev, pk_lLT (by omega) (by omega)]
        omega
  · simp only [n10, not_false_eq_true, false_implies, true_implies, true_and, and_true, not_true_eq_false]
    unfold q_order
    rw [if_pos (by grind)]
