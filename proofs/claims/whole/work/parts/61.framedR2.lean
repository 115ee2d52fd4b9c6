/-! ===== FRAMED, on the right side: all choices gone through ===== -/
def rq (I0 I : mm_I) : Prop := (∀ c, 1 ≤ c → c ≤ 5 → I c = I0 c) ∧ (∀ k, k < 9 → I 0 k = I0 0 k) ∧ I 15 = I0 15 ∧ I 0 27 = I0 0 27
def bL (b : Option fl) : Int64 := match b with
  | none => 1000000000000
  | some x => lN x.1
def bF (b : Option fl) : Int32 := match b with
  | none => 0
  | some x => nI x.2.1
def bK (b : Option fl) (I : mm_I) : Prop := match b with
  | none => True
  | some x => I 0 33 = nI x.2.2.length ∧ (∀ j, j < x.2.2.length → I 18 j = x.2.2.getD j 0) ∧ x.1 ≤ 100000000000 ∧ x.2.1 ≤ 100 ∧ 0 < x.2.2.length ∧ x.2.2.length ≤ 40
def ST (I0 : mm_I) (p : List Nat) (b : Option fl) (I : mm_I) : Prop := rq I0 I ∧ (∀ j, j < 8 → I 16 j = nI (p.getD j 0)) ∧ bK b I
def HY (I0 : mm_I) (n fee a : Nat) (ks : List Nat) : Prop := sR n I0 ∧ I0 0 5 = nI fee ∧ fee ≤ 1000000 ∧ I0 0 27 = nI (ks.length + 1) ∧ ks.length ≤ 7 ∧ (∀ j, j ≤ ks.length → I0 15 j = nI ((a :: ks).getD j 0)) ∧ lkl (I0 1) (I0 2) (I0 3) (I0 4) n ((a :: ks).map nI) lk_0 ≠ none ∧ ∀ k, k ∈ a :: ks → k < 8
def PP (d : Nat) (Q : mm_Q) (I0 : mm_I) (p : List Nat) (b : Option fl) : Prop := ∀ (I : mm_I) (L : mm_L) (y : Value), ST I0 p b I → mm_W shR (mm_P shR msR (d + 6)) tbX5_findFramed Q 18 [.ref 0, .long (bL b), .null, .int (bF b), .int 1, y] [] I L
def GG (d : Nat) (Q : mm_Q) (I0 : mm_I) (p : List Nat) (b : Option fl) : Prop := ∀ (I : mm_I) (L : mm_L) (y : Value), ST I0 p b I → mm_W shR (mm_P shR msR (d + 5)) tbX5_goesNext (fun I' L' ri _ => mm_W shR (mm_P shR msR (d + 6)) tbX5_findFramed Q 18 [.ref 0, .long (bL b), .null, .int (bF b), .int ri, y] [] I' L') 5 [.ref 0, .int (nI p.length + (-1))] [] I L
theorem gd_s (p : List Nat) (c j : Nat) : (p ++ [c]).getD j 0 = if j = p.length then c else p.getD j 0 := by
  rw [List.getD_eq_getElem?_getD, List.getD_eq_getElem?_getD]
  by_cases h : j < p.length
  · rw [List.getElem?_append_left h, if_neg (by omega)]
  · rw [List.getElem?_append_right (by omega)]
    by_cases e : j = p.length
    · rw [if_pos e, e, Nat.sub_self]
      rfl
    · rw [if_neg e, List.getElem?_eq_none (l := [c]) (by simp only [List.length_cons, List.length_nil]; omega), List.getElem?_eq_none (l := p) (by omega)]
theorem gd_o (p : List Nat) : p.getD p.length 0 = 0 := by
  rw [List.getD_eq_getElem?_getD, List.getElem?_eq_none (Nat.le_refl _)]
  rfl
theorem bK_c {b : Option fl} {I I' : mm_I} (h : bK b I) (h0 : I' 0 33 = I 0 33) (h18 : I' 18 = I 18) : bK b I' := by
  cases b with
  | none => trivial
  | some x => exact ⟨by rw [h0]; exact h.1, by rw [h18]; exact h.2.1, h.2.2⟩
set_option maxHeartbeats 4000000 in
set_option maxRecDepth 100000 in
theorem PP_leaf {d : Nat} {Q : mm_Q} {I0 : mm_I} {n fee a : Nat} {ks p : List Nat} {b : Option fl} (hH : HY I0 n fee a ks) (hl : p.length = ks.length) (hv : vld 0 p) (hG : GG d Q I0 p (ful (I0 1) (I0 2) fee ks (ft a) p b)) : PP d Q I0 p b := by
  obtain ⟨y1, y2, y3, y4, y5, y6, y7, y8⟩ := hH
  intro I L y hS
  obtain ⟨s1, s2, s3⟩ := hS
  have hml := made_l (a := a) (ks := ks) hv (by omega)
  have hn := y1.2
  have fin : ∀ (b' : Option fl) (I3 : mm_I) (L3 : mm_L) (z : Value), GG d Q I0 p b' → ST I0 p b' I3 → mm_P shR msR (d + 6) 48 [.ref 0] I3 L3 (fun I' L' ri _ => mm_W shR (mm_P shR msR (d + 6)) tbX5_findFramed Q 18 [.ref 0, .long (bL b'), .null, .int (bF b'), .int ri, z] [] I' L') := by
    intro b' I3 L3 z hG hS3
    refine pX5_goesNext ?_
    simp only [↓hX5_goesNext, ↓uX5_goesNext, ↓mm_r, mm_n, iaR, n10, not_true_eq_false, not_false_eq_true, false_implies, lg_cmp_ge, lg_cmp_le, lg_cmp_gt, lg_cmp_lt, lg_cmp_eq, true_and, and_true, true_or, or_true, true_implies, Classical.not_not, List.length_cons, List.length_nil, Nat.lt_iff_add_one_le, Nat.reduceAdd, Nat.reduceLeDiff, Nat.reduceEqDiff, Int.reduceAdd, reduceIte, Nat.reduceSub]
    have e : I3 0 27 - 2 = nI p.length + (-1) := by
      rw [hS3.1.2.2.2, y4, hl, ← nI_1]
      grind
    rw [e]
    exact hG I3 L3 z hS3
  refine mm_hk 200 ?_
  simp only [↓hX5_findFramed, ↓uX5_findFramed, ↓mm_r, mm_n, iaR, n10, not_true_eq_false, not_false_eq_true, false_implies, lg_cmp_ge, lg_cmp_le, lg_cmp_gt, lg_cmp_lt, lg_cmp_eq, true_and, and_true, true_or, or_true, true_implies, Classical.not_not, List.length_cons, List.length_nil, Nat.lt_iff_add_one_le, Nat.reduceAdd, Nat.reduceLeDiff, Nat.reduceEqDiff, Int.reduceAdd, reduceIte, Nat.reduceSub]
  refine sX5_makes (a := a) (ks := ks) (p := p) y5 hl (by rw [s1.2.2.2]; exact y4) (fun j hj => by rw [s1.2.2.1]; exact y6 j hj) s2 hv (fun I1 r1 m1 => ?_)
  have q1 : rq I0 I1 := ⟨fun c h1 h2 => by rw [r1.1 c (by omega) (by omega)]; exact s1.1 c h1 h2, fun k hk => by rw [r1.2 k (by omega)]; exact s1.2.1 k hk, by rw [r1.1 15 (by omega) (by omega)]; exact s1.2.2.1, by rw [r1.2 27 (by omega)]; exact s1.2.2.2⟩
  rw [m1.1]
  refine sX5_looks (n := n) (ml := 40) (by decide +kernel) (by omega) (by omega) (by omega) (by omega) ⟨by rw [q1.2.1 0 (by omega)]; exact y1.1, hn⟩ (fun I2 L2 b1 b2 b3 => ?_)
  have ev : lk (vR I1) (I1 17) (made a ks p).length = lk_run (I0 1) (I0 2) (I0 3) (I0 4) n (I1 17) (made a ks p).length 0 lk_0 := by
    unfold lk
    rw [show (v_n (vR I1)).toNatClampNeg = n by show (I1 0 0).toNatClampNeg = n; rw [q1.2.1 0 (by omega), y1.1, ni_cl (by omega)]]
    show lk_run (I1 1) (I1 2) (I1 3) (I1 4) n (I1 17) (made a ks p).length 0 lk_0 = _
    rw [q1.1 1 (by omega) (by omega), q1.1 2 (by omega) (by omega), q1.1 3 (by omega) (by omega), q1.1 4 (by omega) (by omega)]
  have e5 : I1 0 5 = nI fee := by rw [q1.2.1 5 (by omega)]; exact y2
  rw [ev] at b1 b2
  rw [e5] at b1
  have hw9 : (w_at (lk_run (I0 1) (I0 2) (I0 3) (I0 4) n (I1 17) (made a ks p).length 0 lk_0).1 = -9) = ((lk_run (I0 1) (I0 2) (I0 3) (I0 4) n (I1 17) (made a ks p).length 0 lk_0).1 = none) := w_at9 (fun p hp => by
    have := lk_run_at _ _ _ p hp
    omega)
  have q2 : rq I0 I2 := ⟨fun c h1 h2 => by rw [b3.1 c (by omega) (by omega)]; exact q1.1 c h1 h2, fun k hk => by rw [b3.2 k (by omega)]; exact q1.2.1 k hk, by rw [b3.1 15 (by omega) (by omega)]; exact q1.2.2.1, by rw [b3.2 27 (by omega)]; exact q1.2.2.2⟩
  have c16 : ∀ j, j < 8 → I2 16 j = nI (p.getD j 0) := fun j hj => by rw [b3.1 16 (by omega) (by omega), r1.1 16 (by omega) (by omega)]; exact s2 j hj
  have hb2 : bK b I2 := bK_c s3 (by rw [b3.2 33 (by omega), r1.2 33 (by omega)]) (by rw [b3.1 18 (by omega) (by omega), r1.1 18 (by omega) (by omega)])
  have mk2 : MK (made a ks p) I2 := ⟨by rw [b3.2 31 (by omega)]; exact m1.1, fun j hj => by rw [b3.1 17 (by omega) (by omega)]; exact m1.2 j hj⟩
  obtain ⟨g1, g2⟩ := made_lk (fr := I0 1) (ln := I0 2) (gv := I0 3) (nd := I0 4) (n := n) (fee := fee) (a := a) (ks := ks) (p := p) (row := I1 17) y3 y7 y8 hv hl m1.2
  rw [b2.1, hw9]
  have e0 : ks.drop p.length = [] := by rw [hl, List.drop_length]
  cases hk : wk (I0 1) (I0 2) fee p ks (ft a) with
  | none =>
    have hf : ful (I0 1) (I0 2) fee ks (ft a) p b = b := by rw [ful, hk]; rfl
    rw [hf] at hG
    exact ⟨fun _ => fin b I2 L2 _ hG ⟨q2, c16, hb2⟩, fun q => absurd q (g2 hk)⟩
  | some t =>
    obtain ⟨t1, t2, t3, t4, t5, t6⟩ := g1 t hk
    have hf : ful (I0 1) (I0 2) fee ks (ft a) p b = ub b (t.2.2.1, t.2.2.2, made a ks p) := by
      rw [ful, hk, e0, t1]
      rfl
    rw [hf] at hG
    obtain ⟨x1, x2, x3, x4, x5, x6, x7, x8⟩ := b1
    rw [t5] at x3 x7
    have hL : L2 0 20 = lN t.2.2.1 := by rw [x7, nI_l (by omega), t6]
    rw [hL, x3]
    refine ⟨fun q => absurd t4 q, fun _ => ?_⟩
    have keep : ∀ (z : Value), ub b (t.2.2.1, t.2.2.2, made a ks p) = some (t.2.2.1, t.2.2.2, made a ks p) → mm_P shR msR (d + 6) 49 [.ref 0] I2 L2 (fun I' L' _ _ => mm_P shR msR (d + 6) 48 [.ref 0] I' L' (fun I' L' ri _ => mm_W shR (mm_P shR msR (d + 6)) tbX5_findFramed Q 18 [.ref 0, .long (lN t.2.2.1), .null, .int (nI t.2.2.2), .int ri, z] [] I' L')) := by
      intro z hu
      rw [hu] at hG
      refine sX5_keeps (by omega) mk2 (fun I3 k1 k2 k3 k4 => ?_)
      refine fin (some (t.2.2.1, t.2.2.2, made a ks p)) I3 L2 z hG ⟨⟨fun c h1 h2 => by rw [k1 c (by omega) (by omega)]; exact q2.1 c h1 h2, fun k hk => by rw [k2 k (by omega)]; exact q2.2.1 k hk, by rw [k1 15 (by omega) (by omega)]; exact q2.2.2.1, by rw [k2 27 (by omega)]; exact q2.2.2.2⟩, fun j hj => by rw [k1 16 (by omega) (by omega)]; exact c16 j hj, ⟨k3, k4, ?_, ?_, ?_, ?_⟩⟩
      · show t.2.2.1 ≤ 100000000000
        omega
      · show t.2.2.2 ≤ 100
        omega
      · show 0 < (made a ks p).length
        simp [made]
      · show (made a ks p).length ≤ 40
        omega
    cases b with
    | none =>
      refine ⟨fun _ => keep _ rfl, fun q => absurd ?_ q⟩
      show lN t.2.2.1 < 1000000000000
      rw [nev, pk_lLT (by omega) (by omega)]
      omega
    | some x =>
      obtain ⟨k1, k2, k3, k4, k5, k6⟩ := s3
      have stay : ¬ (t.2.2.1 < x.1 ∨ (t.2.2.1 = x.1 ∧ t.2.2.2 < x.2.1)) → ∀ z : Value, mm_P shR msR (d + 6) 48 [.ref 0] I2 L2 (fun I' L' ri _ => mm_W shR (mm_P shR msR (d + 6)) tbX5_findFramed Q 18 [.ref 0, .long (bL (some x)), .null, .int (bF (some x)), .int ri, z] [] I' L') := by
        intro q z
        rw [ub, if_neg q] at hG
        exact fin (some x) I2 L2 z hG ⟨q2, c16, hb2⟩
      have w1 : (lN t.2.2.1 < bL (some x)) = (t.2.2.1 < x.1) := propext (pk_lLT (by omega) (by omega))
      have w2 : (lN t.2.2.1 = bL (some x)) = (t.2.2.1 = x.1) := propext (pk_lEQ (by omega) (by omega))
      have w3 : (bF (some x) ≤ nI t.2.2.2) = (x.2.1 ≤ t.2.2.2) := ni_le (by omega) (by omega)
      rw [w1, w2, w3]
      refine ⟨fun q => keep _ (by rw [ub, if_pos (Or.inl q)]), fun q => ⟨fun q2 => stay (by omega) _, fun q2 => ⟨fun q3 => stay (by omega) _, fun q3 => keep _ ?_⟩⟩⟩
      have w : t.2.2.2 < x.2.1 := by omega
      rw [ub, if_pos (Or.inr ⟨q2, w⟩)]
set_option maxHeartbeats 4000000 in
set_option maxRecDepth 100000 in
theorem GG_step {d : Nat} {Q : mm_Q} {I0 : mm_I} {p : List Nat} {c : Nat} {b : Option fl} (hp : p.length ≤ 6) (hv : vld 0 (p ++ [c])) (hd : dpt 0 p ≤ 7) (h1 : c = 2 * dpt 0 p + 1 → GG d Q I0 p b) (h2 : c ≠ 2 * dpt 0 p + 1 → PP d Q I0 (p ++ [c + 1]) b) : GG d Q I0 (p ++ [c]) b := by
  obtain ⟨hv1, hv2⟩ := (vld_s p 0 c).mp hv
  intro I L y hS
  obtain ⟨s1, s2, s3⟩ := hS
  have hc : I 16 p.length = nI c := by rw [s2 _ (by omega), gd_s, if_pos rfl]
  have e1 : nI (p ++ [c]).length + (-1) = nI p.length := by
    rw [List.length_append, List.length_cons, List.length_nil, Nat.zero_add, pk_m1]
  rw [e1]
  refine mm_hk 60 ?_
  simp only [↓hX5_goesNext, ↓uX5_goesNext, ↓mm_r, mm_n, iaR, n10, not_true_eq_false, not_false_eq_true, false_implies, lg_cmp_ge, lg_cmp_le, lg_cmp_gt, lg_cmp_lt, lg_cmp_eq, true_and, and_true, true_or, or_true, true_implies, Classical.not_not, List.length_cons, List.length_nil, Nat.lt_iff_add_one_le, Nat.reduceAdd, Nat.reduceLeDiff, Nat.reduceEqDiff, Int.reduceAdd, reduceIte, Nat.reduceSub]
  rw [ni_0 (by omega), ni_cl (by omega), hc, ni_00 (by omega), nI_1]
  refine ⟨fun q => q.elim, fun _ => ⟨ni_in (by omega) (by omega), ?_⟩⟩
  refine sX5_depthAt (p := p) (by omega) (fun j hj => by rw [s2 j (by omega), gd_s, if_neg (by omega)]) hv1 ?_
  have e2 : 2 * nI (dpt 0 p) + 1 = nI (2 * dpt 0 p + 1) := by
    rw [← nI_1, ← pk_mul]
    rfl
  rw [e2, hc, ni_eq (by omega) (by omega), nI_1]
  have rr : ∀ x : Int32, rq I0 (mm_ui I 16 p.length x) := fun x => ⟨fun c h1 h2 => by rw [mm_ui_off _ _ _ (by omega)]; exact s1.1 c h1 h2, fun k hk => by rw [mm_ui_off _ _ _ (by omega)]; exact s1.2.1 k hk, by rw [mm_ui_off _ _ _ (by omega)]; exact s1.2.2.1, by rw [mm_ui_off _ _ _ (by omega)]; exact s1.2.2.2⟩
  have bb : ∀ x : Int32, bK b (mm_ui I 16 p.length x) := fun x => bK_c s3 (by rw [mm_ui_off _ _ _ (by omega)]) (by rw [mm_ui_off _ _ _ (by omega)])
  refine ⟨fun q => ⟨fun _ => ⟨ni_in (by omega) (by omega), ni_in (by omega) (by omega), ?_⟩, fun z => absurd trivial z⟩, fun q => ⟨ni_in (by omega) (by omega), ?_⟩⟩
  · refine h2 q _ L y ⟨rr _, fun j hj => ?_, bb _⟩
    simp only [uia, Nat.reduceEqDiff, reduceIte]
    rw [gd_s]
    by_cases e : j = p.length
    · rw [if_pos e, if_pos e]
    · rw [if_neg e, if_neg e, s2 j hj, gd_s, if_neg e]
  · refine h1 q _ L y ⟨rr _, fun j hj => ?_, bb _⟩
    simp only [uia, Nat.reduceEqDiff, reduceIte]
    by_cases e : j = p.length
    · rw [if_pos e, e, gd_o]
      exact nl0
    · rw [if_neg e, s2 j hj, gd_s, if_neg e]
set_option maxHeartbeats 4000000 in
set_option maxRecDepth 100000 in
theorem GG_nil {d : Nat} {Q : mm_Q} {I0 : mm_I} {b : Option fl} (h : ∀ I L, ST I0 [] b I → Q I L 0 (bL b)) : GG d Q I0 [] b := by
  intro I L y hS
  refine mm_hk 60 ?_
  simp only [↓hX5_goesNext, ↓uX5_goesNext, ↓mm_r, mm_n, iaR, n10, not_true_eq_false, not_false_eq_true, false_implies, lg_cmp_ge, lg_cmp_le, lg_cmp_gt, lg_cmp_lt, lg_cmp_eq, true_and, and_true, true_or, or_true, true_implies, Classical.not_not, List.length_cons, List.length_nil, Nat.lt_iff_add_one_le, Nat.reduceAdd, Nat.reduceLeDiff, Nat.reduceEqDiff, Int.reduceAdd, reduceIte, Nat.reduceSub]
  have e1 : (nI ([] : List Nat).length + (-1) < 0) = True := by
    simp only [eq_iff_iff, iff_true]
    decide +kernel
  have e2 : (0 ≤ nI ([] : List Nat).length + (-1)) = False := by
    simp only [eq_iff_iff, iff_false]
    decide +kernel
  rw [List.length_nil] at e1 e2
  rw [e1, e2]
  refine ⟨fun _ => ⟨fun q => q.elim, fun _ => ?_⟩, fun q => absurd trivial q⟩
  refine mm_hk 60 ?_
  simp only [↓hX5_findFramed, ↓uX5_findFramed, ↓mm_r, mm_n, iaR, n10, not_true_eq_false, not_false_eq_true, false_implies, lg_cmp_ge, lg_cmp_le, lg_cmp_gt, lg_cmp_lt, lg_cmp_eq, true_and, and_true, true_or, or_true, true_implies, Classical.not_not, List.length_cons, List.length_nil, Nat.lt_iff_add_one_le, Nat.reduceAdd, Nat.reduceLeDiff, Nat.reduceEqDiff, Int.reduceAdd, reduceIte, Nat.reduceSub]
  exact h I L hS
theorem dpt_le : ∀ (p : List Nat) (d : Nat), dpt d p ≤ d + p.length := by
  intro p
  induction p with
  | nil => intro d; exact Nat.le_refl _
  | cons c p ih =>
    intro d
    have := ih (d + c % 2 - c / 2)
    simp only [dpt, List.length_cons]
    omega
theorem PP_all {d : Nat} {Q : mm_Q} {I0 : mm_I} {n fee a : Nat} {ks : List Nat} (hH : HY I0 n fee a ks) : ∀ (j : Nat) (p : List Nat) (b : Option fl), p.length + j = ks.length → vld 0 p → GG d Q I0 p (ful (I0 1) (I0 2) fee ks (ft a) p b) → PP d Q I0 p b := by
  have h7 := hH.2.2.2.2.1
  have hfee := hH.2.2.1
  intro j
  induction j with
  | zero => intro p b hl hv hG; exact PP_leaf hH (by omega) hv hG
  | succ j ih =>
    intro p b hl hv hG
    have hdl := dpt_le p 0
    have fe := ful_e (fr := I0 1) (ln := I0 2) (fee := fee) (by omega) (ks := ks) (t := ft a) (p := p) (by simp [ft]) hv (by omega) b
    have fe : ful (I0 1) (I0 2) fee ks (ft a) p b = flc (fun c => ful (I0 1) (I0 2) fee ks (ft a) (p ++ [c])) (2 * dpt 0 p + 1 + 1) 0 b := fe
    rw [fe, flc] at hG
    have cl : ∀ (i c : Nat) (b' : Option fl), c + i = 2 * dpt 0 p + 1 → GG d Q I0 p (flc (fun c => ful (I0 1) (I0 2) fee ks (ft a) (p ++ [c])) i (c + 1) b') → GG d Q I0 (p ++ [c]) b' := by
      intro i
      induction i with
      | zero =>
        intro c b' hc hg
        exact GG_step (by omega) ((vld_s p 0 c).mpr ⟨hv, by omega⟩) (by omega) (fun _ => hg) (fun q => absurd (by omega) q)
      | succ i ih2 =>
        intro c b' hc hg
        refine GG_step (by omega) ((vld_s p 0 c).mpr ⟨hv, by omega⟩) (by omega) (fun q => absurd q (by omega)) (fun _ => ?_)
        refine ih (p ++ [c + 1]) b' (by simp only [List.length_append, List.length_cons, List.length_nil]; omega) ((vld_s p 0 (c + 1)).mpr ⟨hv, by omega⟩) ?_
        exact ih2 (c + 1) _ (by omega) hg
    have g0 := ih (p ++ [0]) b (by simp only [List.length_append, List.length_cons, List.length_nil]; omega) ((vld_s p 0 0).mpr ⟨hv, by omega⟩) (cl (2 * dpt 0 p + 1) 0 _ (by omega) hG)
    intro I L y hS
    refine g0 I L y ⟨hS.1, fun j hj => ?_, hS.2.2⟩
    rw [hS.2.1 j hj, gd_s]
    by_cases e : j = p.length
    · rw [if_pos e, e, gd_o]
    · rw [if_neg e]
set_option maxHeartbeats 4000000 in
set_option maxRecDepth 100000 in
theorem lX5_findFramed {d : Nat} {I0 : mm_I} {L : mm_L} {Q : mm_Q} (h : PP d Q I0 [] none) : ∀ (m x : Nat) (I : mm_I), x + m = 8 → rq I0 I → (∀ j, j < x → I 16 j = 0) → mm_W shR (mm_P shR msR (d + 6)) tbX5_findFramed Q 2 [.ref 0, .int (nI x), .null, .null, .null, .null] [] I L := by
  intro m
  induction m with
  | zero =>
    intro x I hx hr h16
    refine mm_hk 60 ?_
    simp only [↓hX5_findFramed, ↓uX5_findFramed, ↓mm_r, mm_n, iaR, n10, not_true_eq_false, not_false_eq_true, false_implies, lg_cmp_ge, lg_cmp_le, lg_cmp_gt, lg_cmp_lt, lg_cmp_eq, true_and, and_true, true_or, or_true, true_implies, Classical.not_not, List.length_cons, List.length_nil, Nat.lt_iff_add_one_le, Nat.reduceAdd, Nat.reduceLeDiff, Nat.reduceEqDiff, Int.reduceAdd, reduceIte, Nat.reduceSub]
    rw [ni_8 (by omega)]
    refine ⟨fun _ => ?_, fun q => absurd (by omega) q⟩
    refine h I L .null ⟨hr, fun j hj => ?_, trivial⟩
    rw [h16 j (by omega)]
    exact nl0
  | succ m ih =>
    intro x I hx hr h16
    refine mm_hk 60 ?_
    simp only [↓hX5_findFramed, ↓uX5_findFramed, ↓mm_r, mm_n, iaR, n10, not_true_eq_false, not_false_eq_true, false_implies, lg_cmp_ge, lg_cmp_le, lg_cmp_gt, lg_cmp_lt, lg_cmp_eq, true_and, and_true, true_or, or_true, true_implies, Classical.not_not, List.length_cons, List.length_nil, Nat.lt_iff_add_one_le, Nat.reduceAdd, Nat.reduceLeDiff, Nat.reduceEqDiff, Int.reduceAdd, reduceIte, Nat.reduceSub]
    rw [ni_8 (by omega), ni_cl (by omega), nI_1]
    refine ⟨fun q => absurd q (by omega), fun _ => ⟨ni_in (by omega) (by omega), ?_⟩⟩
    refine ih (x + 1) _ (by omega) ⟨fun c h1 h2 => by rw [mm_ui_off _ _ _ (by omega)]; exact hr.1 c h1 h2, fun k hk => by rw [mm_ui_off _ _ _ (by omega)]; exact hr.2.1 k hk, by rw [mm_ui_off _ _ _ (by omega)]; exact hr.2.2.1, by rw [mm_ui_off _ _ _ (by omega)]; exact hr.2.2.2⟩ (fun j hj => ?_)
    simp only [uia, Nat.reduceEqDiff, reduceIte]
    by_cases e : j = x
    · rw [if_pos e]
    · rw [if_neg e]
      exact h16 j (by omega)
set_option maxHeartbeats 4000000 in
set_option maxRecDepth 100000 in
theorem sX5_findFramed {d : Nat} {I : mm_I} {L : mm_L} {Q : mm_Q} {n fee a : Nat} {ks : List Nat} (hH : HY I n fee a ks) (h : ∀ I' L', rq I I' → bK (dfs (I 1) (I 2) fee ks [(a, -9)] [nI a] 0 0 none) I' → Q I' L' 0 (bL (dfs (I 1) (I 2) fee ks [(a, -9)] [nI a] 0 0 none))) : mm_P shR msR (d + 7) 50 [.ref 0] I L Q := by
  have hp : PP d Q I [] none := PP_all hH ks.length [] none (by simp) trivial (GG_nil (fun I' L' hS => h I' L' hS.1 hS.2.2))
  refine pX5_findFramed ?_
  simp only [↓hX5_findFramed, ↓uX5_findFramed, ↓mm_r, mm_n, iaR, n10, not_true_eq_false, not_false_eq_true, false_implies, lg_cmp_ge, lg_cmp_le, lg_cmp_gt, lg_cmp_lt, lg_cmp_eq, true_and, and_true, true_or, or_true, true_implies, Classical.not_not, List.length_cons, List.length_nil, Nat.lt_iff_add_one_le, Nat.reduceAdd, Nat.reduceLeDiff, Nat.reduceEqDiff, Int.reduceAdd, reduceIte, Nat.reduceSub]
  rw [nl0]
  exact lX5_findFramed hp 8 0 I rfl ⟨fun _ _ _ => rfl, fun _ _ => rfl, rfl, rfl⟩ (fun j hj => absurd hj (by omega))
set_option maxHeartbeats 4000000 in
set_option maxRecDepth 100000 in
theorem kX5_framed {d : Nat} {I : mm_I} {L : mm_L} {a : Int32} (hv : vok (vR I)) : mm_P shR msR (d + 8) 51 [.ref 0, .int a] I L (fun I' _ ri _ => (vR I', ri) = q_framed (vR I) a) := by
  obtain ⟨n, ns, hn, h8, hns, h40, -, -, f0, f1⟩ := id hv
  have hn : I 0 0 = nI n := hn
  have hns : I 0 6 = nI ns := hns
  obtain ⟨fee, hf2, hf⟩ := vi_nI (x := I 0 5) (n := 1000001) (by omega) f0 (by
    have : (1000000 : Int32) < nI 1000001 := by decide +kernel
    have f1 : I 0 5 ≤ 1000000 := f1
    grind)
  have hnsv : (v_ns (vR I)).toNatClampNeg = ns := by show (I 0 6).toNatClampNeg = ns; rw [hns, ni_cl (by omega)]
  have em : v_m (vR I) = (rwl (I 5) ns).length := by unfold v_m; rw [hnsv]; rfl
  have ef : v_f (vR I) = rf (I 5) ns := by unfold v_f; rw [hnsv]; rfl
  have hl := rwl_le (I 5) ns
  refine pX5_framed ?_
  simp only [↓uX5_framed, ↓mm_r, mm_n, iaR, n10, not_true_eq_false, not_false_eq_true, false_implies, lg_cmp_ge, lg_cmp_le, lg_cmp_gt, lg_cmp_lt, lg_cmp_eq, true_and, and_true, true_or, or_true, true_implies, Classical.not_not, List.length_cons, List.length_nil, Nat.lt_iff_add_one_le, Nat.reduceAdd, Nat.reduceLeDiff, Nat.reduceEqDiff, Int.reduceAdd, reduceIte, Nat.reduceSub]
  refine sX5_within (fun w1 w2 => ?_) (fun w => ?_)
  · simp only [n10, not_false_eq_true, false_implies, true_implies, true_and, and_true, not_true_eq_false]
    have ha : ¬ (a < -2 ∨ 40 ≤ a) := by grind
    refine sX5_findRow h40 hns (fun I1 a1 a2 a3 a4 => ?_)
    rw [← em] at a3 a4 hl
    rw [← ef] at a4
    have hv1 : vR I1 = vR I := vR_c (fun c h1 h2 => a1 c (by omega) (by omega)) (fun k hk => a2 k (by omega))
    rw [a3]
    refine sX5_looks (n := n) (ml := 40) (by decide +kernel) (by omega) (by omega) (by omega) (by omega) ⟨by rw [a2 0 (by omega)]; exact hn, h8⟩ (fun I2 L2 b1 b2 b3 => ?_)
    rw [hv1, lk_c a4] at b2
    have hv2 : vR I2 = vR I := (vR_c (fun c h1 h2 => b3.1 c (by omega) (by omega)) (fun k hk => b3.2 k (by omega))).trans hv1
    have e27 : I2 0 27 = nI (v_m (vR I)) := by rw [b3.2 27 (by omega)]; exact a3
    have hz : (I2 0 27 = 0) = (v_m (vR I) = 0) := by rw [e27, nl0, ni_eq (by omega) (by omega)]
    rw [hz, b2.1, lk_lt hv (by omega), q_framed, if_neg ha, hv2]
    have hrl : (v_row (vR I)).length = v_m (vR I) := by rw [v_row, List.length_map]; rfl
    refine ⟨fun q => ?_, fun q => ⟨fun q2 => ?_, fun q2 => ?_⟩⟩
    · have e : fbest (vR I) = none := by
        unfold fbest
        split
        · rfl
        · rename_i hR
          rw [hR, q] at hrl
          exact absurd hrl (by simp)
      rw [e]
    · obtain ⟨y1, y2, y3, y4, y5⟩ := vrow_ok h8 hn q2
      cases hR : v_row (vR I) with
      | nil =>
        rw [hR] at hrl
        exact absurd hrl.symm q
      | cons r ks =>
        rw [hR] at hrl y3 y4 y5
        simp only [List.length_cons] at hrl y4
        have efee : (v_fee (vR I)).toNatClampNeg = fee := by
          show (I 0 5).toNatClampNeg = fee
          rw [hf, ni_cl (by omega)]
        have ebest : fbest (vR I) = dfs (I 1) (I 2) fee ks [(r, -9)] [nI r] 0 0 none := by
          unfold fbest
          rw [hR, efee]
          dsimp only
          rw [if_pos q2]
          rfl
        have i1 : ∀ c, 1 ≤ c → c ≤ 5 → I2 c = I c := fun c h1 h2 => by rw [b3.1 c (by omega) (by omega), a1 c (by omega) (by omega)]
        have hH : HY I2 n fee r ks := by
          refine ⟨⟨by rw [b3.2 0 (by omega), a2 0 (by omega)]; exact hn, h8⟩, by rw [b3.2 5 (by omega), a2 5 (by omega)]; exact hf, by omega, by rw [e27, ← hrl], by omega, fun j hj => ?_, ?_, fun k hk => ?_⟩
          · rw [b3.1 15 (by omega) (by omega), a4 j (by omega), y5 j (by omega)]
          · rw [i1 1 (by omega) (by omega), i1 2 (by omega) (by omega), i1 3 (by omega) (by omega), i1 4 (by omega) (by omega)]
            intro z
            have g := (lkl_run (row := v_f (vR I)) ((r :: ks).map nI) 0 lk_0 (fun j hj => by
              rw [List.length_map, List.length_cons] at hj
              rw [Nat.zero_add, y5 j (by omega), List.getD_eq_getElem?_getD, List.getD_eq_getElem?_getD, List.getElem?_map, List.getElem?_eq_getElem (show j < (r :: ks).length by simp only [List.length_cons]; omega)]
              rfl)).2 z
            apply g
            rw [List.length_map, List.length_cons, hrl]
            have q3 := q2
            unfold lk at q3
            rw [show (v_n (vR I)).toNatClampNeg = n by show (I 0 0).toNatClampNeg = n; rw [hn, ni_cl (by omega)]] at q3
            exact q3
          · have := y3 k hk
            omega
        refine sX5_findFramed hH (fun I3 L3 r1 k1 => ?_)
        rw [i1 1 (by omega) (by omega), i1 2 (by omega) (by omega), ← ebest] at k1 ⊢
        have hv3 : vR I3 = vR I := (vR_c r1.1 r1.2.1).trans hv2
        obtain ⟨x, hx⟩ : ∃ x, fbest (vR I) = some x := by
          rw [ebest]
          exact dfs_1 ks r (-9) [nI r] 0 0 none
        rw [hx] at k1 ⊢
        obtain ⟨u1, u2, u3, u4, u5, u6⟩ := k1
        rw [hv3, u1]
        dsimp only
        refine ⟨fun z => ⟨fun z2 => ?_, fun z2 => ?_⟩, fun z => ⟨fun z2 => ?_, fun z2 => ?_⟩⟩
        · rw [if_neg (by grind), if_neg (by grind), if_pos z2]
        · obtain ⟨j, j1, rfl⟩ := vi_nI (x := a) (n := x.2.2.length) (by omega) z (by grind)
          refine ⟨ni_in (by omega) (by omega), ?_⟩
          rw [if_neg (by grind), if_neg (by grind), if_neg z2, ni_cl (by omega), u2 j j1]
        · rw [if_pos (by grind)]
        · rw [if_neg (by grind), if_pos z2]
          refine sX5_jumpsOf (fun f => ?_) (fun f => ?_)
          · rw [ovr, if_pos (show 2147483647 < lN x.1 from f), hv3]
          · rw [ovr, if_neg (show ¬ 2147483647 < lN x.1 from f), hv3]
            rfl
    · have e : fbest (vR I) = none := by
        unfold fbest
        split
        · rfl
        · rw [if_neg q2]
      rw [e]
  · simp only [n10, not_false_eq_true, false_implies, true_implies, true_and, and_true, not_true_eq_false]
    rw [q_framed, if_pos (by grind)]
