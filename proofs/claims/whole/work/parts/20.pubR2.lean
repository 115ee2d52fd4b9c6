/-! ===== looks, judge, jumps, told, on the right side ===== -/
def RW (w : Option (Nat × Nat)) (J : mm_I) : Prop := J 0 13 = w_at w ∧ J 0 14 = w_by w
theorem RR_w {fee : Int32} {A : pa} {I : mm_I} {L : mm_L} {x y : Int32} (h : RR fee A I L) : RR fee A (mm_ui (mm_ui I 0 13 x) 0 14 y) L := by
  obtain ⟨s1, c2, c3, c4, c5, c6, c7', c8⟩ := h
  refine ⟨?_, ?_, ?_, ?_, ?_, ?_, c7', fun k hk => ?_⟩
  · refine SR_c (J := I) A.1 (fun j hj => ?_) s1
    simp only [uia, Nat.reduceEqDiff, reduceIte, and_self]
  all_goals simp only [uia, Nat.reduceEqDiff, reduceIte]
  all_goals first | assumption | skip
  exact c8 k hk
set_option maxHeartbeats 4000000 in
set_option maxRecDepth 100000 in
theorem lX5_looks {d : Nat} {Q : mm_Q} {n r tot ml : Nat} {I0 : mm_I} {fee : Int32} {res : Option (Nat × Nat) × pa} (hr : mm_ia shR r = ml) (hml : tot ≤ ml) (hml2 : ml ≤ 40) (hr7 : r < 6 ∨ 12 < r) (hr0 : r ≠ 0) (hs : sR n I0) (hf : I0 0 5 = fee) (h : ∀ I' L', RR fee res.2 I' L' → RW res.1 I' → r7 I0 I' → Q I' L' 0 0) :
    ∀ (m i : Nat) (A : pa) (I : mm_I) (L : mm_L) (z : Value), i + m = tot → r7 I0 I → RR fee A I L → LI n i A → I 0 13 = -9 → I 0 14 = -9 → lk_run (I0 1) (I0 2) (I0 3) (I0 4) n (I0 r) m i A = res → mm_W shR (mm_P shR msR (d + 5)) tbX5_looks Q 34 [.ref 0, .ref r, .int (nI tot), .int (nI i), z] [] I L := by
  intro m
  induction m with
  | zero =>
    intro i A I L z hi hc hC hL h13 h14 hres
    have e1 : i = tot := by omega
    subst e1
    refine mm_hk 80 ?_
    simp only [↓hX5_looks, ↓uX5_looks, ↓mm_r, mm_n, iaR, n10, not_true_eq_false, not_false_eq_true, false_implies, lg_cmp_ge, lg_cmp_le, lg_cmp_gt, lg_cmp_lt, lg_cmp_eq, true_and, and_true, true_or, or_true, true_implies, Classical.not_not, List.length_cons, List.length_nil, Nat.lt_iff_add_one_le, Nat.reduceAdd, Nat.reduceLeDiff, Nat.reduceEqDiff, Int.reduceAdd, reduceIte, Nat.reduceSub]
    simp only [ni_le (a := i) (b := i) (by omega) (by omega), h13, Nat.le_refl, true_implies, not_true_eq_false, false_implies, true_and, and_true]
    have hlen := hL.2.2.2.1
    rw [hC.2.1, show (0 : Int32) = nI 0 from nl0, ni_le (by omega) (by omega)]
    have hne : A.1 ≠ [] := fun q => by
      have := hL.1
      rw [q] at this
      exact this
    have hpos : 0 < A.1.length := List.length_pos_iff.mpr hne
    simp only [lk_run] at hres
    refine ⟨fun q => ?_, fun q => ?_⟩
    · rw [if_neg (by omega)] at hres
      subst hres
      exact h _ _ hC ⟨h13, h14⟩ hc
    · rw [if_pos (by omega)] at hres
      subst hres
      refine h _ _ (RR_w hC) ⟨?_, ?_⟩ (r7_u0 (r7_u0 hc (by omega)) (by omega))
      · simp only [uia, Nat.reduceEqDiff, reduceIte]
        rfl
      · simp only [uia, Nat.reduceEqDiff, reduceIte]
        exact nl7
  | succ m ih =>
    intro i A I L z hi hc hC hL h13 h14 hres
    have hI : ∀ c, c < 6 → c ≠ 0 → I c = I0 c := fun c hq h0 => hc.1 c h0 (Or.inl hq)
    have hIr : I r = I0 r := hc.1 r hr0 hr7
    refine mm_hk 80 ?_
    simp only [↓hX5_looks, ↓uX5_looks, ↓mm_r, mm_n, iaR, n10, not_true_eq_false, not_false_eq_true, false_implies, lg_cmp_ge, lg_cmp_le, lg_cmp_gt, lg_cmp_lt, lg_cmp_eq, true_and, and_true, true_or, or_true, true_implies, Classical.not_not, List.length_cons, List.length_nil, Nat.lt_iff_add_one_le, Nat.reduceAdd, Nat.reduceLeDiff, Nat.reduceEqDiff, Int.reduceAdd, reduceIte, Nat.reduceSub]
    simp only [hr, ni_le (a := tot) (b := i) (by omega) (by omega), h13, true_implies, not_true_eq_false, false_implies, true_and, and_true, ni_cl (a := i) (by omega), nI_1]
    refine ⟨fun q => absurd q (by omega), fun _ => ⟨ni_in (by omega) (by omega), ?_⟩⟩
    rw [hIr]
    refine sX5_reasonOf (sR7 hs hc) (by omega) hC hL ?_
    rw [hI 1 (by omega) (by omega), hI 2 (by omega) (by omega), hI 4 (by omega) (by omega)]
    unfold lk_run at hres
    have hle := lk_why_le (I0 1) (I0 2) (I0 4) n A (I0 r i)
    by_cases hw : lk_why (I0 1) (I0 2) (I0 4) n A (I0 r i) = 0
    · rw [if_pos hw] at hres
      rw [hw]
      simp only [show nI 0 = (0 : Int32) from nl0.symm, true_implies, not_true_eq_false, false_implies, true_and]
      refine ⟨ni_in (by omega) (by omega), ?_⟩
      rw [hIr]
      refine sX5_goesOn (sR7 hs hc) (by omega) (by rw [hc.2 5 (by omega)]; exact hf) hC hL (by rw [hI 1 (by omega) (by omega), hI 2 (by omega) (by omega), hI 4 (by omega) (by omega)]; exact hw) (fun I' L' k1 k2 k3 k4 => ?_)
      rw [hI 1 (by omega) (by omega), hI 2 (by omega) (by omega), hI 3 (by omega) (by omega)] at k1
      exact ih (i + 1) _ I' L' _ (by omega) (r7_tr hc k2) k1 (LI_go hs.2 hL hw) (k3.trans h13) (k4.trans h14) hres
    · rw [if_neg hw] at hres
      simp only [ni_eq (a := lk_why (I0 1) (I0 2) (I0 4) n A (I0 r i)) (b := 0) (by omega) (by omega), show (0 : Int32) = nI 0 from nl0, hw, not_false_eq_true, true_implies, false_implies, and_true]
      refine mm_hk 80 ?_
      simp only [↓hX5_looks, ↓uX5_looks, ↓mm_r, mm_n, iaR, n10, not_true_eq_false, not_false_eq_true, false_implies, lg_cmp_ge, lg_cmp_le, lg_cmp_gt, lg_cmp_lt, lg_cmp_eq, true_and, and_true, true_or, or_true, true_implies, Classical.not_not, List.length_cons, List.length_nil, Nat.lt_iff_add_one_le, Nat.reduceAdd, Nat.reduceLeDiff, Nat.reduceEqDiff, Int.reduceAdd, reduceIte, Nat.reduceSub]
      generalize hW : lk_why (I0 1) (I0 2) (I0 4) n A (I0 r i) = wh at *
      have h9 : (nI i = -9) = False := ni_m9 (by omega)
      simp only [h9, not_false_eq_true, true_implies, false_implies, and_true, true_and]
      subst hres
      have fin : Q (mm_ui (mm_ui I 0 13 (nI i)) 0 14 (nI wh)) L 0 0 := by
        refine h _ _ (RR_w hC) ⟨?_, ?_⟩ (r7_u0 (r7_u0 hc (by omega)) (by omega))
        · simp only [uia, Nat.reduceEqDiff, reduceIte]
          rfl
        · simp only [uia, Nat.reduceEqDiff, reduceIte]
          rfl
      exact ⟨fun _ => fin, fun _ => fin⟩
set_option maxHeartbeats 4000000 in
set_option maxRecDepth 100000 in
theorem sX5_looks {d : Nat} {I : mm_I} {L : mm_L} {Q : mm_Q} {n r tot ml : Nat} (hr : mm_ia shR r = ml) (hml : tot ≤ ml) (hml2 : ml ≤ 40) (hr7 : r < 6 ∨ 12 < r) (hr0 : r ≠ 0) (hs : sR n I) (h : ∀ I' L', RR (I 0 5) (lk (vR I) (I r) tot).2 I' L' → RW (lk (vR I) (I r) tot).1 I' → r7 I I' → Q I' L' 0 0) : mm_P shR msR (d + 6) 33 [.ref 0, .ref r, .int (nI tot)] I L Q := by
  refine pX5_looks ?_
  simp only [↓hX5_looks, ↓uX5_looks, ↓mm_r, mm_n, iaR, n10, not_true_eq_false, not_false_eq_true, false_implies, lg_cmp_ge, lg_cmp_le, lg_cmp_gt, lg_cmp_lt, lg_cmp_eq, true_and, and_true, true_or, or_true, true_implies, Classical.not_not, List.length_cons, List.length_nil, Nat.lt_iff_add_one_le, Nat.reduceAdd, Nat.reduceLeDiff, Nat.reduceEqDiff, Int.reduceAdd, reduceIte, Nat.reduceSub]
  refine ⟨by rw [nl0]; exact ni_in (by omega) (by omega), ?_⟩
  have hk : lk (vR I) (I r) tot = lk_run (I 1) (I 2) (I 3) (I 4) n (I r) tot 0 lk_0 := by
    unfold lk
    have := hs.2
    rw [show (v_n (vR I)).toNatClampNeg = n by show (I 0 0).toNatClampNeg = n; rw [hs.1, ni_cl (by omega)]]
    rfl
  rw [hk] at h
  have z0 : Int32.toNatClampNeg 0 = 0 := by decide
  rw [z0]
  have hr' : r7 I (mm_ui (mm_ui (mm_ui (mm_ui (mm_ui (mm_ui (mm_ui (mm_ui (mm_ui I 0 9 0) 6 0 (-9)) 0 13 (-9)) 0 14 (-9)) 0 15 0) 0 16 0) 0 17 0) 0 18 0) 0 19 0) := r7_u0 (r7_u0 (r7_u0 (r7_u0 (r7_u0 (r7_u0 (r7_u0 (r7_ui (r7_u0 r7_rf (by omega)) (by omega)) (by omega)) (by omega)) (by omega)) (by omega)) (by omega)) (by omega)) (by omega)
  refine lX5_looks (d := d) (I0 := I) hr hml hml2 hr7 hr0 hs rfl h tot 0 lk_0 _ _ _ (by omega) hr' ?_ (LI_0 n) ?_ ?_ rfl
  · refine ⟨⟨?_, fun q => absurd rfl q, trivial⟩, ?_, ?_, ?_, ?_, ?_, ?_, fun k hk => ⟨?_, trivial⟩⟩
    all_goals simp only [uia, mm_ul, Nat.reduceEqDiff, reduceIte]
    · rfl
    · rfl
    · rfl
    · rfl
    · rfl
    · rfl
    · show (0 : Int64) = 0 + (I 0 5).toInt64 * lN 0
      rw [show lN 0 = (0 : Int64) from rfl]
      grind
    · unfold bi
      rw [bt_bit _ (by omega), b_0]
      simp [lk_0]
  · simp only [uia, Nat.reduceEqDiff, reduceIte]
  · simp only [uia, Nat.reduceEqDiff, reduceIte]
theorem lv_v1R (I : mm_I) : lk (vR (mm_ui I 0 8 (I 0 8 + 1))) (mm_ui I 0 8 (I 0 8 + 1) 5) (I 0 6).toNatClampNeg = lv (vR I) := by
  simp only [lv, lk, vR, uif, uia, v_n, v_ns, Nat.reduceEqDiff, reduceIte]
theorem v1R {I I' : mm_I} (h : r7 (mm_ui I 0 8 (I 0 8 + 1)) I') : vR I' = v1 (vR I) := by
  unfold vR v1 v_n v_ns v_fee
  rw [h.1 1 (by omega) (by omega), h.1 2 (by omega) (by omega), h.1 3 (by omega) (by omega), h.1 4 (by omega) (by omega), h.1 5 (by omega) (by omega), h.2 0 (by omega), h.2 6 (by omega), h.2 5 (by omega), h.2 8 (by omega)]
  simp only [vR, uif, uia, Nat.reduceEqDiff, reduceIte, upd]
set_option maxHeartbeats 4000000 in
set_option maxRecDepth 100000 in
theorem sX5_looksNow {d : Nat} {I : mm_I} {L : mm_L} {Q : mm_Q} (hv : vok (vR I)) (h : ∀ I' L', RR (I 0 5) (lv (vR I)).2 I' L' → RW (lv (vR I)).1 I' → vR I' = v1 (vR I) → Q I' L' 0 0) : mm_P shR msR (d + 7) 34 [.ref 0] I L Q := by
  obtain ⟨n, ns, hn, h8, hns, h40, -⟩ := id hv
  have hn : I 0 0 = nI n := hn
  have hns : I 0 6 = nI ns := hns
  refine pX5_looksNow ?_
  simp only [↓uX5_looksNow, ↓mm_r, mm_n, iaR, n10, not_true_eq_false, not_false_eq_true, false_implies, lg_cmp_ge, lg_cmp_le, lg_cmp_gt, lg_cmp_lt, lg_cmp_eq, true_and, and_true, true_or, or_true, true_implies, Classical.not_not, List.length_cons, List.length_nil, Nat.lt_iff_add_one_le, Nat.reduceAdd, Nat.reduceLeDiff, Nat.reduceEqDiff, Int.reduceAdd, reduceIte, Nat.reduceSub]
  rw [hns]
  refine sX5_looks (n := n) (ml := 40) (by decide +kernel) h40 (by omega) (by omega) (by omega) ⟨by simp only [uia, Nat.reduceEqDiff, reduceIte]; exact hn, h8⟩ (fun I' L' k1 k2 k3 => ?_)
  have el := lv_v1R I
  rw [hns, ni_cl (by omega)] at el
  rw [el] at k1 k2
  simp only [uia, Nat.reduceEqDiff, reduceIte] at k1
  exact h I' L' k1 k2 (v1R k3)
theorem w_at9 {w : Option (Nat × Nat)} (h : ∀ p, w = some p → p.1 ≤ 1000) : (w_at w = -9) = (w = none) := by
  cases w with
  | none => simp [w_at]
  | some p => simp only [w_at, ni_m9 (show p.1 ≤ 1000000 by have := h p rfl; omega), reduceCtorEq]
theorem lk_run_at {fr ln gv nd : Nat → Int32} {n : Nat} {row : Nat → Int32} : ∀ (m i : Nat) (A : pa) (p : Nat × Nat), (lk_run fr ln gv nd n row m i A).1 = some p → p.1 ≤ i + m := by
  intro m
  induction m with
  | zero =>
    intro i A p h
    simp only [lk_run] at h
    split at h
    · cases h; exact Nat.le_refl _
    · cases h
  | succ m ih =>
    intro i A p h
    unfold lk_run at h
    split at h
    · have := ih (i + 1) _ p h
      omega
    · cases h
      dsimp only
      omega
theorem lv_at9 {v : pv} (hv : vok v) : (w_at (lv v).1 = -9) = ((lv v).1 = none) := by
  refine w_at9 (fun p hp => ?_)
  have := lk_run_at _ _ _ p hp
  obtain ⟨n, ns, -, -, hns, h40, -⟩ := hv
  have hns : v_ns v = nI ns := hns
  rw [hns, ni_cl (by omega)] at this
  omega
set_option maxHeartbeats 4000000 in
set_option maxRecDepth 100000 in
theorem kX5_judge {d : Nat} {I : mm_I} {L : mm_L} {a : Int32} (hv : vok (vR I)) : mm_P shR msR (d + 8) 35 [.ref 0, .int a] I L (fun I' _ ri _ => (vR I', ri) = q_judge (vR I) a) := by
  refine pX5_judge ?_
  simp only [↓uX5_judge, ↓mm_r, mm_n, iaR, n10, not_true_eq_false, not_false_eq_true, false_implies, lg_cmp_ge, lg_cmp_le, lg_cmp_gt, lg_cmp_lt, lg_cmp_eq, true_and, and_true, true_or, or_true, true_implies, Classical.not_not, List.length_cons, List.length_nil, Nat.lt_iff_add_one_le, Nat.reduceAdd, Nat.reduceLeDiff, Nat.reduceEqDiff, Int.reduceAdd, reduceIte, Nat.reduceSub]
  refine sX5_looksNow hv (fun I' L' k1 k2 vv => ?_)
  obtain ⟨s1, c2, c3, c4, c5, c6, c7', c8⟩ := k1
  refine ⟨⟨fun z => ?_, fun z => ?_, fun z => ?_, fun z => ?_, fun z => ?_, fun z => ?_⟩, fun z => ?_⟩
  · subst z
    rw [vv, q_judge, if_pos rfl, k2.1]
  · subst z
    rw [vv, q_judge, if_neg (by decide), if_pos rfl, k2.2]
  · subst z
    rw [vv, q_judge, if_neg (by decide), if_neg (by decide), if_pos rfl, c3]
  · subst z
    rw [vv, q_judge, if_neg (by decide), if_neg (by decide), if_neg (by decide), if_pos rfl, c4]
  · subst z
    rw [vv, q_judge, if_neg (by decide), if_neg (by decide), if_neg (by decide), if_neg (by decide), if_pos rfl, c5]
  · subst z
    rw [vv, q_judge, if_neg (by decide), if_neg (by decide), if_neg (by decide), if_neg (by decide), if_neg (by decide), if_pos rfl, c6]
  · rw [vv, q_judge]
    have e : ∀ z : Int32, 0 ≤ z.toInt → z.toInt ≤ 5 → ¬ a = z := fun y h1 h2 hz => by rw [hz] at z; omega
    rw [if_neg (e 0 (by decide) (by decide)), if_neg (e 1 (by decide) (by decide)), if_neg (e 2 (by decide) (by decide)), if_neg (e 3 (by decide) (by decide)), if_neg (e 4 (by decide) (by decide)), if_neg (e 5 (by decide) (by decide))]
set_option maxHeartbeats 4000000 in
set_option maxRecDepth 100000 in
theorem kX5_jumps {d : Nat} {I : mm_I} {L : mm_L} (hv : vok (vR I)) : mm_P shR msR (d + 8) 37 [.ref 0] I L (fun I' _ ri _ => (vR I', ri) = q_jumps (vR I)) := by
  refine pX5_jumps ?_
  simp only [↓uX5_jumps, ↓mm_r, mm_n, iaR, n10, not_true_eq_false, not_false_eq_true, false_implies, lg_cmp_ge, lg_cmp_le, lg_cmp_gt, lg_cmp_lt, lg_cmp_eq, true_and, and_true, true_or, or_true, true_implies, Classical.not_not, List.length_cons, List.length_nil, Nat.lt_iff_add_one_le, Nat.reduceAdd, Nat.reduceLeDiff, Nat.reduceEqDiff, Int.reduceAdd, reduceIte, Nat.reduceSub]
  refine sX5_looksNow hv (fun I' L' k1 k2 vv => ?_)
  obtain ⟨s1, c2, c3, c4, c5, c6, c7', c8⟩ := k1
  rw [k2.1, lv_at9 hv]
  refine ⟨fun hw => ?_, fun hw => by rw [vv, q_jumps, if_neg hw]⟩
  have hS : L' 0 20 = (lv (vR I)).2.2.2.2.2.2.2 + (v_fee (vR I)).toInt64 * lN (lv (vR I)).2.2.2.2.1 := c7'
  rw [hS]
  refine sX5_jumpsOf (fun h => ?_) (fun h => ?_)
  · rw [vv, q_jumps, if_pos hw, ovr, if_pos h]
  · rw [vv, q_jumps, if_pos hw, ovr, if_neg h]
theorem bz (x : Int32) {k : Nat} (hk : k < 8) : ((x >>> (nI k &&& 31)) &&& 1 = 0) = ¬ bi x k := by
  have h1 : bi x k = (bt x k = true) := bt_bit x (by omega)
  rw [h1]
  apply propext
  constructor
  · intro h
    have h0 := congrArg (fun z => bt z 0) h
    simp only [b_and, b_sshr k (show k < 32 by omega) x (show 0 < 32 by decide), b_one 0 (by decide), b_0] at h0
    simpa [show k < 32 by omega] using h0
  · intro h
    apply b_ext
    intro i hi
    rw [b_and, b_sshr k (by omega) x hi, b_one i hi, b_0]
    by_cases hi0 : i = 0
    · subst hi0
      simp [show k < 32 by omega, Bool.eq_false_iff.mpr h]
    · simp [hi0]
set_option maxHeartbeats 4000000 in
set_option maxRecDepth 100000 in
theorem kX5_told {d : Nat} {I : mm_I} {L : mm_L} {k a : Int32} (hv : vok (vR I)) : mm_P shR msR (d + 8) 38 [.ref 0, .int k, .int a] I L (fun I' _ ri _ => (vR I', ri) = q_told (vR I) k a) := by
  have hn9 := vok_n0 hv
  simp only [vR, v_n] at hn9
  refine pX5_told ?_
  simp only [↓uX5_told, ↓mm_r, mm_n, iaR, n10, not_true_eq_false, not_false_eq_true, false_implies, lg_cmp_ge, lg_cmp_le, lg_cmp_gt, lg_cmp_lt, lg_cmp_eq, true_and, and_true, true_or, or_true, true_implies, Classical.not_not, List.length_cons, List.length_nil, Nat.lt_iff_add_one_le, Nat.reduceAdd, Nat.reduceLeDiff, Nat.reduceEqDiff, Int.reduceAdd, reduceIte, Nat.reduceSub]
  refine sX5_looksNow hv (fun I' L' k1 k2 vv => ?_)
  obtain ⟨s1, c2, c3, c4, c5, c6, c7', c8⟩ := k1
  have hn' : I' 0 0 = I 0 0 := by
    have := congrArg (fun v => v_n v) vv
    exact this
  refine sX5_isScene (by rw [hn']; exact hn9.1) (fun h1 h2 => ?_) (fun h1 => ?_)
  · simp only [n10, not_false_eq_true, false_implies, true_implies, true_and, and_true, not_true_eq_false]
    rw [hn'] at h2
    have hs : ¬ ¬ is_sc (vR I) k := fun q => q ⟨h1, h2⟩
    refine sX5_within (fun q1 q2 => ?_) (fun q1 => ?_)
    · simp only [n10, not_false_eq_true, false_implies, true_implies, true_and, and_true, not_true_eq_false]
      have ha : ¬ ¬ (0 ≤ a ∧ a ≤ 3) := fun q => q ⟨q1, q2⟩
      have hw9 := lv_at9 hv
      rw [k2.1, hw9]
      refine ⟨fun hw => ?_, fun hw => by rw [vv, q_told, if_neg hs, if_neg ha, if_pos hw]⟩
      have k8 : k < 8 := by grind
      have kv := vi8 h1 k8
      obtain ⟨kk, hk8, rfl⟩ := vi_nI (n := 8) (by omega) h1 (by rw [← nl8]; exact k8)
      have hq : ∀ x, x = q_tol ((lv (vR I)).2.2.1 kk) a → (vR I', x) = q_told (vR I) (nI kk) a := fun x hx => by
        rw [vv, q_told, if_neg hs, if_neg ha, if_neg (fun q => q hw), ni_cl (by omega), hx]
      simp only [ni_cl (a := kk) (by omega), kv, true_and, bz _ hk8, Classical.not_not]
      obtain ⟨b1, b2⟩ := c8 kk hk8
      refine ⟨fun b => ?_, fun b => ?_⟩
      · have hsome := b1.mp b
        cases ho : (lv (vR I)).2.2.1 kk with
        | none => rw [ho] at hsome; cases hsome
        | some p =>
          obtain ⟨u, dd, t, sd⟩ := p
          rw [ho] at b2 hq
          obtain ⟨t1, t2, t3, t4⟩ := b2
          refine ⟨fun z => ⟨fun y => ⟨fun x => hq _ ?_, fun x => hq _ ?_⟩, fun y => hq _ ?_⟩, fun z => hq _ ?_⟩
          · rw [t4, q_tol, if_neg z, if_neg y, if_neg x]
          · rw [t3, q_tol, if_neg z, if_neg y, if_pos x]
          · rw [t2, q_tol, if_neg z, if_pos y]
          · rw [t1, q_tol, if_pos z]
      · refine hq _ ?_
        cases ho : (lv (vR I)).2.2.1 kk with
        | none => rfl
        | some p => exact absurd (b1.mpr (by rw [ho]; rfl)) b
    · simp only [n10, not_false_eq_true, false_implies, true_implies, true_and, and_true, not_true_eq_false]
      rw [vv, q_told, if_neg hs, if_pos (by grind)]
  · simp only [n10, not_false_eq_true, false_implies, true_implies, true_and, and_true, not_true_eq_false]
    rw [hn'] at h1
    rw [vv, q_told, if_pos (show ¬ is_sc (vR I) k from h1)]
