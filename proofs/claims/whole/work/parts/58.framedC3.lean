/-! ===== FRAMED, the public call, on the left side ===== -/
theorem nd_le : ∀ (n : Nat) (l : List Nat), l.Nodup → (∀ a, a ∈ l → a < n) → l.length ≤ n := by
  intro n
  induction n with
  | zero =>
    intro l _ h
    cases l with
    | nil => exact Nat.le_refl _
    | cons a l => exact absurd (h a (List.mem_cons_self ..)) (by omega)
  | succ n ih =>
    intro l hd h
    by_cases hm : n ∈ l
    · have h1 := ih (l.erase n) (hd.erase n) (fun a ha => by
        have := (List.Nodup.mem_erase_iff hd).mp ha
        have := h a this.2
        omega)
      rw [List.length_erase_of_mem hm] at h1
      omega
    · have h1 := ih l hd (fun a ha => by
        have h2 := h a ha
        have h3 : a ≠ n := fun e => hm (e ▸ ha)
        omega)
      omega
def fdb (fr ln : Nat → Int32) (fee : Nat) : List Nat → Option fl
  | [] => none
  | a :: ks => dfs fr ln fee ks [(a, -9)] [nI a] 0 0 none
/-- a right row: its scenes stand, each once -/
theorem lk_row {fr ln gv nd : Nat → Int32} {n : Nat} {row : Nat → Int32} (hn : n ≤ 8) : ∀ (m i : Nat) (A : pa), A.1 ≠ [] → (∀ j, i ≤ j → j < i + m → ¬ 8 ≤ row j) → (lk_run fr ln gv nd n row m i A).1 = none →
    (∀ j, i ≤ j → j < i + m → 0 ≤ row j ∧ row j < nI n ∧ A.2.1 (row j).toNatClampNeg = none) ∧ (∀ j j', i ≤ j → j < j' → j' < i + m → (row j).toNatClampNeg ≠ (row j').toNatClampNeg) := by
  intro m
  induction m with
  | zero => intro i A _ _ _; exact ⟨fun j h1 h2 => absurd h2 (by omega), fun j j' h1 h2 h3 => absurd h3 (by omega)⟩
  | succ m ih =>
    intro i A hA hr h
    obtain ⟨st, told, cnt, opn, deep, gvn, js⟩ := A
    cases st with
    | nil => exact absurd rfl hA
    | cons f r =>
      obtain ⟨t, l, sd⟩ := f
      have h8 := hr i (Nat.le_refl _) (by omega)
      have s20 : ¬ row i = 20 := fun e => h8 (by rw [e]; decide)
      have s21 : ¬ row i = 21 := fun e => h8 (by rw [e]; decide)
      rw [lk_run] at h
      by_cases hw : lk_why fr ln nd n ((t, l, sd) :: r, told, cnt, opn, deep, gvn, js) (row i) = 0
      · rw [if_pos hw] at h
        simp only [lk_why, s20, s21, if_false, lk_sc] at hw
        by_cases c1 : ¬ (0 ≤ row i ∧ row i < nI n)
        · rw [if_pos c1] at hw; cases hw
        rw [if_neg c1] at hw
        by_cases c2 : (told (row i).toNatClampNeg).isSome = true
        · rw [if_pos c2] at hw; cases hw
        have c1 := Classical.not_not.mp c1
        have e : lk_go fr ln gv ((t, l, sd) :: r, told, cnt, opn, deep, gvn, js) (row i) = ((t, some (row i).toNatClampNeg, lk_sd fr ln t (row i).toNatClampNeg) :: r, lk_put told (row i).toNatClampNeg (cnt, r.length, t, lk_sd fr ln t (row i).toNatClampNeg), cnt + 1, opn, deep, gvn ||| gv (row i).toNatClampNeg, lk_js fr ln l (row i).toNatClampNeg js) := by
          simp only [lk_go, s20, s21, if_false]
        rw [e] at h
        obtain ⟨g1, g2⟩ := ih (i + 1) _ (by simp) (fun j h1 h2 => hr j (by omega) (by omega)) h
        have g3 : ∀ j, i + 1 ≤ j → j < i + 1 + m → (row j).toNatClampNeg ≠ (row i).toNatClampNeg ∧ told (row j).toNatClampNeg = none := by
          intro j h1 h2
          have := (g1 j h1 h2).2.2
          simp only [lk_put] at this
          split at this
          · cases this
          · rename_i hne
            exact ⟨hne, this⟩
        have c3 : told (row i).toNatClampNeg = none := by
          cases ho : told (row i).toNatClampNeg with
          | none => rfl
          | some x => rw [ho] at c2; exact absurd rfl c2
        refine ⟨fun j h1 h2 => ?_, fun j j' h1 h2 h3 => ?_⟩
        · by_cases e2 : j = i
          · subst e2
            exact ⟨c1.1, c1.2, c3⟩
          · have k1 := g1 j (by omega) (by omega)
            exact ⟨k1.1, k1.2.1, (g3 j (by omega) (by omega)).2⟩
        · by_cases e2 : j = i
          · subst e2
            exact fun e3 => (g3 j' (by omega) (by omega)).1 e3.symm
          · exact g2 j j' (by omega) h2 (by omega)
      · rw [if_neg hw] at h
        cases h
theorem vrow_ok {v : pv} {n : Nat} (h8 : n ≤ 8) (hvn : v_n v = nI n) (h : (lk v (v_f v) (v_m v)).1 = none) : (v_row v).length = v_m v ∧ (v_row v).Nodup ∧ (∀ a, a ∈ v_row v → a < n) ∧ (v_row v).length ≤ 8 ∧ (∀ j, j < v_m v → v_f v j = nI ((v_row v).getD j 0)) := by
  have hlen : (v_row v).length = v_m v := by rw [v_row, List.length_map]; rfl
  have hj : ∀ j, j < v_m v → v_f v j = (rwl v.2.2.2.2.1 (v_ns v).toNatClampNeg).getD j 0 := fun _ _ => rfl
  have hgd : ∀ j (hj : j < v_m v), (v_row v).getD j 0 = (v_f v j).toNatClampNeg := by
    intro j hj
    have hj2 : j < (rwl v.2.2.2.2.1 (v_ns v).toNatClampNeg).length := hj
    show _ = ((rwl v.2.2.2.2.1 (v_ns v).toNatClampNeg).getD j 0).toNatClampNeg
    rw [v_row, List.getD_eq_getElem?_getD, List.getElem?_map, List.getD_eq_getElem?_getD, List.getElem?_eq_getElem hj2]
    rfl
  have hlt : ∀ j, 0 ≤ j → j < 0 + v_m v → ¬ 8 ≤ v_f v j := by
    intro j _ hj
    rw [Nat.zero_add] at hj
    have hj2 : j < (rwl v.2.2.2.2.1 (v_ns v).toNatClampNeg).length := hj
    show ¬ 8 ≤ (rwl v.2.2.2.2.1 (v_ns v).toNatClampNeg).getD j 0
    rw [List.getD_eq_getElem?_getD, List.getElem?_eq_getElem hj2]
    exact rwl_lt _ _ _ (List.getElem_mem hj2)
  have hn2 : (v_n v).toNatClampNeg = n := by rw [hvn, ni_cl (by omega)]
  unfold lk at h
  rw [hn2] at h
  obtain ⟨g1, g2⟩ := lk_row h8 (v_m v) 0 lk_0 (by simp [lk_0]) hlt h
  have hnd : (v_row v).Nodup := by
    rw [List.nodup_iff_pairwise_ne, List.pairwise_iff_getElem]
    intro i j hi hj2 hij
    have e1 := hgd i (by omega)
    have e2 := hgd j (by omega)
    rw [List.getD_eq_getElem?_getD, List.getElem?_eq_getElem hi] at e1
    rw [List.getD_eq_getElem?_getD, List.getElem?_eq_getElem hj2] at e2
    have e1 : (v_row v)[i] = _ := e1
    have e2 : (v_row v)[j] = _ := e2
    rw [e1, e2]
    exact g2 i j (by omega) hij (by omega)
  have hmem : ∀ a, a ∈ v_row v → a < n := by
    intro a ha
    obtain ⟨i, hi, e⟩ := List.getElem_of_mem ha
    have e1 := hgd i (by omega)
    rw [List.getD_eq_getElem?_getD, List.getElem?_eq_getElem hi] at e1
    have e1 : (v_row v)[i] = _ := e1
    have k := g1 i (by omega) (by omega)
    obtain ⟨b, hb, e3⟩ := vi_nI (by omega) k.1 k.2.1
    rw [e3, ni_cl (by omega)] at e1
    omega
  refine ⟨hlen, hnd, hmem, ?_, fun j hj => ?_⟩
  · have := nd_le n _ hnd hmem
    omega
  · rw [hgd j hj]
    have k := g1 j (by omega) (by omega)
    obtain ⟨b, hb, e3⟩ := vi_nI (by omega) k.1 k.2.1
    rw [e3, ni_cl (by omega)]
set_option maxHeartbeats 4000000 in
set_option maxRecDepth 100000 in
theorem lX1_takeRow {d : Nat} {I0 : mm_I} {L : mm_L} {Q : mm_Q} {n : Nat} {R : List Nat} (hn : I0 1 4 = nI n) (h8 : R.length ≤ 8) (n8 : n ≤ 8) (hR : ∀ j, j < R.length → I0 12 j = nI (R.getD j 0)) (hm : ∀ a, a ∈ R → a < n)
    (h : ∀ I', (∀ b, b ≠ 16 → b ≠ 17 → I' b = I0 b) → (∀ j, j ≠ 1 → I' 16 j = I0 16 j) → I' 16 1 = nI R.length → (∀ j, j < R.length → I' 17 j = nI (R.getD j 0)) → Q I' L 0 0) :
    ∀ (m i : Nat) (I : mm_I), i + m = R.length → (∀ b, b ≠ 16 → b ≠ 17 → I b = I0 b) → (∀ j, j ≠ 1 → I 16 j = I0 16 j) → I 16 1 = nI i → (∀ j, j < i → I 17 j = nI (R.getD j 0)) → mm_W shC (mm_P shC msC (d + 1)) tbX1_takeRow Q 5 [.ref 16, .ref 1, .ref 12, .int (nI R.length), .int (nI i)] [] I L := by
  intro m
  induction m with
  | zero =>
    intro i I hi k1 k2 k3 k4
    have e : i = R.length := by omega
    subst e
    refine mm_hk 60 ?_
    simp only [↓hX1_takeRow, ↓uX1_takeRow, ↓mm_r, mm_n, iaC, n10, not_true_eq_false, not_false_eq_true, false_implies, lg_cmp_ge, lg_cmp_le, lg_cmp_gt, lg_cmp_lt, lg_cmp_eq, true_and, and_true, true_or, or_true, true_implies, Classical.not_not, List.length_cons, List.length_nil, Nat.lt_iff_add_one_le, Nat.reduceAdd, Nat.reduceLeDiff, Nat.reduceEqDiff, Int.reduceAdd, reduceIte, Nat.reduceSub]
    simp only [ni_le (a := R.length) (b := R.length) (by omega) (by omega)]
    exact ⟨fun _ => h I k1 k2 k3 k4, fun q => absurd (Nat.le_refl _) q⟩
  | succ m ih =>
    intro i I hi k1 k2 k3 k4
    have hl : i < R.length := by omega
    have e12 : I 12 i = nI (R.getD i 0) := by rw [k1 12 (by omega) (by omega), hR i hl]
    have hRi : R.getD i 0 < n := hm _ (by rw [List.getD_eq_getElem?_getD, List.getElem?_eq_getElem hl]; exact List.getElem_mem hl)
    refine mm_hk 60 ?_
    simp only [↓hX1_takeRow, ↓uX1_takeRow, ↓mm_r, mm_n, iaC, n10, not_true_eq_false, not_false_eq_true, false_implies, lg_cmp_ge, lg_cmp_le, lg_cmp_gt, lg_cmp_lt, lg_cmp_eq, true_and, and_true, true_or, or_true, true_implies, Classical.not_not, List.length_cons, List.length_nil, Nat.lt_iff_add_one_le, Nat.reduceAdd, Nat.reduceLeDiff, Nat.reduceEqDiff, Int.reduceAdd, reduceIte, Nat.reduceSub]
    simp only [ni_le (a := R.length) (b := i) (by omega) (by omega), ni_8 (a := i) (by omega), show Int32.ofNat (40 + mm_la shC 12) = nI 40 by decide +kernel, ni_le (a := 40) (b := i) (by omega) (by omega), ni_cl (a := i) (by omega), e12, nI_1]
    refine ⟨fun q => absurd q (by omega), fun _ => ⟨by decide +kernel, fun q => absurd q (by omega), fun _ => ⟨fun q => absurd q (by omega), fun _ => ⟨ni_in (by omega) (by omega), ?_⟩⟩⟩⟩
    refine sX0_has (fun _ _ _ => ?_) (fun q => absurd ⟨by rw [ni_00 (by omega)]; trivial, by rw [k1 1 (by omega) (by omega), hn, ni_lt (by omega) (by omega)]; exact hRi, by rw [ni_l8 (by omega)]; omega⟩ q)
    simp only [n10, not_false_eq_true, false_implies, true_implies, true_and, and_true, not_true_eq_false]
    rw [k3, e12, ni_cl (by omega), nI_1]
    refine ⟨ni_in (by omega) (by omega), ni_in (by omega) (by omega), ?_⟩
    refine ih (i + 1) _ (by omega) (fun b b1 b2 => ?_) (fun j hj => ?_) ?_ (fun j hj => ?_)
    · rw [mm_ui_off _ _ _ b1, mm_ui_off _ _ _ b2, k1 b b1 b2]
    · simp only [uia, Nat.reduceEqDiff, reduceIte, hj]
      exact k2 j hj
    · simp only [uia, Nat.reduceEqDiff, reduceIte]
    · simp only [uia, Nat.reduceEqDiff, reduceIte]
      by_cases e : j = i
      · rw [if_pos e, e]
      · rw [if_neg e]
        exact k4 j (by omega)
set_option maxHeartbeats 4000000 in
set_option maxRecDepth 100000 in
theorem sX1_find {d : Nat} {I : mm_I} {L : mm_L} {Q : mm_Q} {n fee : Nat} {R : List Nat} (hn : I 1 4 = nI n) (h8 : R.length ≤ 8) (n8 : n ≤ 8) (hfee : fee ≤ 1000000) (hR : ∀ j, j < R.length → I 12 j = nI (R.getD j 0)) (hm : ∀ a, a ∈ R → a < n) (hd : R.Nodup)
    (h : ∀ (I' : mm_I) (L' : mm_L), (∀ b, b < 16 → I' b = I b) → (∀ b, b ≠ 16 → L' b = L b) → I' 16 10 = 1 → BE (fdb (I 2) (I 3) fee R) I' L' → Q I' L' 0 0) :
    mm_P shC msC (d + 20) 14 [.ref 16, .ref 1, .ref 12, .int (nI R.length), .int (nI fee)] I L Q := by
  refine pX1_find ?_
  simp only [↓uX1_find, ↓mm_r, mm_n, iaC, n10, not_true_eq_false, not_false_eq_true, false_implies, lg_cmp_ge, lg_cmp_le, lg_cmp_gt, lg_cmp_lt, lg_cmp_eq, true_and, and_true, true_or, or_true, true_implies, Classical.not_not, List.length_cons, List.length_nil, Nat.lt_iff_add_one_le, Nat.reduceAdd, Nat.reduceLeDiff, Nat.reduceEqDiff, Int.reduceAdd, reduceIte, Nat.reduceSub]
  generalize hJ : mm_ui (mm_ui (mm_ui (mm_ui I 16 10 1) 16 8 0) 16 6 0) 16 5 (nI fee) = J
  have j1 : ∀ b, b ≠ 16 → J b = I b := by
    intro b hb
    rw [← hJ, mm_ui_off _ _ _ hb, mm_ui_off _ _ _ hb, mm_ui_off _ _ _ hb, mm_ui_off _ _ _ hb]
  have j10 : J 16 10 = 1 := by rw [← hJ]; simp only [uia, Nat.reduceEqDiff, reduceIte]
  have j8 : J 16 8 = 0 := by rw [← hJ]; simp only [uia, Nat.reduceEqDiff, reduceIte]
  have j6 : J 16 6 = 0 := by rw [← hJ]; simp only [uia, Nat.reduceEqDiff, reduceIte]
  have j5 : J 16 5 = nI fee := by rw [← hJ]; simp only [uia, Nat.reduceEqDiff, reduceIte]
  have l9 : mm_ul L 16 9 9223372036854775807 16 9 = 9223372036854775807 := rfl
  have lo : ∀ b, b ≠ 16 → mm_ul L 16 9 9223372036854775807 b = L b := fun b hb => mm_ul_off _ _ _ hb
  generalize mm_ul L 16 9 9223372036854775807 = L1 at l9 lo ⊢
  refine pX1_takeRow ?_
  simp only [↓hX1_takeRow, ↓uX1_takeRow, ↓mm_r, mm_n, iaC, n10, not_true_eq_false, not_false_eq_true, false_implies, lg_cmp_ge, lg_cmp_le, lg_cmp_gt, lg_cmp_lt, lg_cmp_eq, true_and, and_true, true_or, or_true, true_implies, Classical.not_not, List.length_cons, List.length_nil, Nat.lt_iff_add_one_le, Nat.reduceAdd, Nat.reduceLeDiff, Nat.reduceEqDiff, Int.reduceAdd, reduceIte, Nat.reduceSub]
  rw [nl0]
  refine lX1_takeRow (I0 := mm_ui J 16 1 (nI 0)) (n := n) (by rw [mm_ui_off _ _ _ (by omega), j1 1 (by omega)]; exact hn) h8 n8 (fun j hj => by rw [mm_ui_off _ _ _ (by omega), j1 12 (by omega)]; exact hR j hj) hm (fun I' k1 k2 k3 k4 => ?_) R.length 0 _ (by omega) (fun _ _ _ => rfl) (fun _ _ => rfl) (by simp only [uia, Nat.reduceEqDiff, reduceIte]) (fun j hj => absurd hj (by omega))
  have m1 : ∀ b, b ≠ 16 → b ≠ 17 → I' b = I b := fun b b1 b2 => by rw [k1 b b1 b2, mm_ui_off _ _ _ b1, j1 b b1]
  have m2 : ∀ j, j ≠ 1 → I' 16 j = J 16 j := fun j hj => by rw [k2 j hj]; simp only [uia, Nat.reduceEqDiff, reduceIte, hj]
  have hz : (I' 16 1 ≤ nI 0) = (R.length ≤ 0) := by rw [k3, ni_le (by omega) (by omega)]
  rw [hz]
  cases R with
  | nil =>
    refine ⟨fun _ => ?_, fun q => absurd (Nat.le_refl 0) q⟩
    exact h I' L1 (fun b hb => m1 b (by omega) (by omega)) lo (by rw [m2 10 (by omega)]; exact j10) ⟨l9, by rw [m2 8 (by omega)]; exact j8, by rw [m2 6 (by omega)]; exact j6⟩
  | cons a ks =>
    simp only [List.length_cons] at h8 k3
    have ha : a < n := hm a (List.mem_cons_self ..)
    have e17 : I' 17 0 = nI a := k4 0 (by simp)
    refine ⟨fun q => absurd q (by simp), fun _ => ?_⟩
    rw [ni_cl (by omega), e17, ni_cl (by omega)]
    refine ⟨ni_in (by omega) (by omega), ni_in (by omega) (by omega), ni_in (by omega) (by omega), ni_in (by omega) (by omega), ?_⟩
    generalize hK : mm_ui (mm_ui (mm_ui I' 18 a (-1)) 19 a (-9)) 20 0 (nI a) = K
    have x : fx [] 0 I' K := by rw [← hK]; exact fx_w (by simp)
    have g := SF_all (d := d + 16 - 2 * ks.length) (fr := I 2) (ln := I 3) (R := a :: ks) (fee := fee) (n := n) (by simp only [List.length_cons]; omega) n8 hfee hm hd ks [a] rfl (by simp) [(a, -9)] [nI a] 0 0 none K L1 (fun I' L' _ _ => Q I' L' 0 0) ⟨⟨?_, ?_, ?_, ?_, ?_, ?_⟩, ⟨?_, ?_, trivial⟩, ?_, ⟨l9, ?_, ?_⟩, ?_, by simp, by simp, by simp, by simp, by simp⟩ (by simp) ?_ ?_
    · rw [show d + 16 - 2 * ks.length + 2 * ks.length + 3 = d + 19 by omega] at g
      exact g
    · rw [x.1 1 (by omega), m1 1 (by omega) (by omega)]; exact hn
    · rw [x.1 2 (by omega), m1 2 (by omega) (by omega)]
    · rw [x.1 3 (by omega), m1 3 (by omega) (by omega)]
    · rw [x.1 16 (by omega)]; exact k3
    · rw [x.1 16 (by omega), m2 5 (by omega)]; exact j5
    · intro j hj
      rw [x.1 17 (by omega)]
      exact k4 j hj
    · rw [← hK]; simp only [uia, Nat.reduceEqDiff, reduceIte]; rfl
    · rw [← hK]; simp only [uia, Nat.reduceEqDiff, reduceIte]
    · intro j hj
      simp only [List.length_cons, List.length_nil] at hj
      have e : j = 0 := by omega
      subst e
      rw [← hK]
      simp only [uia, Nat.reduceEqDiff, reduceIte]
      rfl
    · rw [x.1 16 (by omega), m2 8 (by omega)]; exact j8
    · rw [x.1 16 (by omega), m2 6 (by omega)]; exact j6
    · intro q hq
      rw [List.mem_singleton] at hq
      rw [hq]
      exact List.mem_cons_self ..
    · intro a' r' e'
      cases e'
      rfl
    · intro I2 L2 q2 b2
      refine h I2 L2 (fun b hb => ?_) (fun b hb => ?_) ?_ b2
      · rw [q2.1 b (by omega), x.1 b (by omega), m1 b (by omega) (by omega)]
      · rw [q2.2.2.2.2 b hb, lo b hb]
      · rw [q2.2.1 10 (by omega) (by omega), x.1 16 (by omega), m2 10 (by omega)]
        exact j10
/-- FRAMED's fields are to be found anew, or right -/
def FC (I : mm_I) (L : mm_L) : Prop := I 16 10 = 0 ∨ BE (fbest (vC I)) I L
def c16 (I : mm_I) (L : mm_L) (I' : mm_I) (L' : mm_L) : Prop := (∀ b, b < 7 ∨ b = 13 ∨ b = 14 ∨ b = 15 → I' b = I b) ∧ (∀ b, b ≠ 7 → b ≠ 16 → L' b = L b)
theorem c16_v {I I' : mm_I} {L L' : mm_L} (h : c16 I L I' L') : vC I' = vC I := by
  unfold vC
  rw [h.1 2 (by omega), h.1 3 (by omega), h.1 4 (by omega), h.1 5 (by omega), h.1 6 (by omega), h.1 1 (by omega), h.1 0 (by omega)]
set_option maxHeartbeats 4000000 in
set_option maxRecDepth 100000 in
theorem sX4_findFrames {d : Nat} {I : mm_I} {L : mm_L} {Q : mm_Q} (hv : vok (vC I)) (h : ∀ I' L', c16 I L I' L' → BE (fbest (vC I)) I' L' → Q I' L' 0 0) : mm_P shC msC (d + 21) 57 [.ref 0] I L Q := by
  obtain ⟨n, ns, hn, h8, hns, h40, -, -, f0, f1⟩ := id hv
  have hn : I 1 4 = nI n := hn
  have hns : I 0 2 = nI ns := hns
  obtain ⟨fee, hf2, hf⟩ := vi_nI (x := I 0 3) (n := 1000001) (by omega) f0 (by
    have : (1000000 : Int32) < nI 1000001 := by decide +kernel
    have f1 : I 0 3 ≤ 1000000 := f1
    grind)
  have hnv : (v_ns (vC I)).toNatClampNeg = ns := by
    show (I 0 2).toNatClampNeg = ns
    rw [hns, ni_cl (by omega)]
  have hml : v_m (vC I) = (rwl (I 6) ns).length := by rw [v_m, hnv]; rfl
  have hmf : v_f (vC I) = rf (I 6) ns := by rw [v_f, hnv]; rfl
  have hm40 : v_m (vC I) ≤ 40 := by rw [hml]; exact Nat.le_trans (rwl_le _ _) h40
  refine pX4_findFrames ?_
  simp only [↓uX4_findFrames, ↓mm_r, mm_n, iaC, n10, not_true_eq_false, not_false_eq_true, false_implies, lg_cmp_ge, lg_cmp_le, lg_cmp_gt, lg_cmp_lt, lg_cmp_eq, true_and, and_true, true_or, or_true, true_implies, Classical.not_not, List.length_cons, List.length_nil, Nat.lt_iff_add_one_le, Nat.reduceAdd, Nat.reduceLeDiff, Nat.reduceEqDiff, Int.reduceAdd, reduceIte, Nat.reduceSub]
  refine sX4_writeRow h40 hns (fun I1 r1 r2 => ?_)
  rw [← hml, ← hmf] at *
  have hv1 : vC I1 = vC I := by
    unfold vC
    rw [r1 2 (by omega), r1 3 (by omega), r1 4 (by omega), r1 5 (by omega), r1 6 (by omega), r1 1 (by omega), r1 0 (by omega)]
  refine sX3_goThrough (n := n) (by decide +kernel) (by decide +kernel) (by omega) h8 hm40 (by rw [r1 1 (by omega)]; exact hn) (fun I2 L2 _ w2 r3 r4 => ?_)
  rw [hv1, lk_c (row' := v_f (vC I)) r2] at w2
  have hI0 : I2 0 3 = nI fee := by rw [r3 0 (by omega), r1 0 (by omega)]; exact hf
  have hn2 : I2 1 4 = nI n := by rw [r3 1 (by omega), r1 1 (by omega)]; exact hn
  have hc2 : ∀ b, b < 7 ∨ b = 13 ∨ b = 14 ∨ b = 15 → I2 b = I b := fun b hb => by rw [r3 b (by omega), r1 b (by omega)]
  refine sX3_isWrong (fun q => ?_) (fun q => ?_)
  · simp only [n10, not_false_eq_true, false_implies, true_implies, true_and, and_true, not_true_eq_false]
    rw [hI0, show (0 : Int32) = nI ([] : List Nat).length from nl0]
    refine sX1_find (R := []) hn2 (by simp) h8 (by omega) (fun j hj => absurd hj (by simp)) (fun a ha => by cases ha) (by simp) (fun I3 L3 z1 z2 z3 z4 => ?_)
    refine h I3 L3 ⟨fun b hb => ?_, fun b b1 b2 => ?_⟩ ?_
    · rw [z1 b (by omega), hc2 b hb]
    · rw [z2 b b2, r4 b b1]
    · have e : fbest (vC I) = none := by
        unfold fbest
        split
        · rfl
        · rw [if_neg]
          intro e
          rw [e] at w2
          exact q w2
      rw [e]
      exact z4
  · simp only [n10, not_false_eq_true, false_implies, true_implies, true_and, and_true, not_true_eq_false]
    have hw : (lk (vC I) (v_f (vC I)) (v_m (vC I))).1 = none := by
      cases ho : (lk (vC I) (v_f (vC I)) (v_m (vC I))).1 with
      | none => rfl
      | some p =>
        exfalso
        rw [ho] at w2
        obtain ⟨w, r⟩ := p
        obtain ⟨w3, -, w4, w5⟩ := w2
        rw [w3, nl0, ni_eq (by omega) (by omega)] at q
        omega
    obtain ⟨y1, y2, y3, y4, y5⟩ := vrow_ok h8 hn hw
    rw [hI0, ← y1]
    refine sX1_find hn2 y4 h8 (by omega) (fun j hj => ?_) y3 y2 (fun I3 L3 z1 z2 z3 z4 => ?_)
    · rw [r3 12 (by omega), r2 j (by omega), y5 j (by omega)]
    refine h I3 L3 ⟨fun b hb => ?_, fun b b1 b2 => ?_⟩ ?_
    · rw [z1 b (by omega), hc2 b hb]
    · rw [z2 b b2, r4 b b1]
    · rw [hc2 2 (by omega), hc2 3 (by omega)] at z4
      have e : (v_fee (vC I)).toNatClampNeg = fee := by
        show (I 0 3).toNatClampNeg = fee
        rw [hf, ni_cl (by omega)]
      unfold fbest
      rw [e]
      cases hR : v_row (vC I) with
      | nil => rw [hR] at z4; exact z4
      | cons a ks =>
        rw [hR] at z4
        dsimp only
        rw [if_pos hw]
        exact z4
set_option maxHeartbeats 4000000 in
set_option maxRecDepth 100000 in
theorem kX4_framed {d : Nat} {I : mm_I} {L : mm_L} {a : Int32} (hv : vok (vC I)) (hc : FC I L) : mm_P shC msC (d + 22) 53 [.ref 0, .int a] I L (fun I' L' ri _ => (vC I', ri) = q_framed (vC I) a ∧ c16 I L I' L' ∧ FC I' L') := by
  have hsame : c16 I L I L := ⟨fun _ _ => rfl, fun _ _ _ => rfl⟩
  refine pX4_framed ?_
  simp only [↓uX4_framed, ↓mm_r, mm_n, iaC, n10, not_true_eq_false, not_false_eq_true, false_implies, lg_cmp_ge, lg_cmp_le, lg_cmp_gt, lg_cmp_lt, lg_cmp_eq, true_and, and_true, true_or, or_true, true_implies, Classical.not_not, List.length_cons, List.length_nil, Nat.lt_iff_add_one_le, Nat.reduceAdd, Nat.reduceLeDiff, Nat.reduceEqDiff, Int.reduceAdd, reduceIte, Nat.reduceSub]
  have tail : ¬ (a < -2 ∨ 40 ≤ a) → ∀ I' L', c16 I L I' L' → BE (fbest (vC I)) I' L' → (¬ I' 16 8 = 0 → (¬ a = -2 → (¬ a = -1 → (I' 16 8 ≤ a → ((vC I', (-9 : Int32)) = q_framed (vC I) a ∧ c16 I L I' L' ∧ FC I' L')) ∧ (¬ I' 16 8 ≤ a → vp_in a 40 ∧ ((vC I', I' 21 a.toNatClampNeg) = q_framed (vC I) a ∧ c16 I L I' L' ∧ FC I' L'))) ∧ (a = -1 → mm_P shC msC (d + 21) 64 [.long (L' 16 9)] I' L' (fun I' L' ri _ => (vC I', ri) = q_framed (vC I) a ∧ c16 I L I' L' ∧ FC I' L'))) ∧ (a = -2 → ((vC I', I' 16 8) = q_framed (vC I) a ∧ c16 I L I' L' ∧ FC I' L'))) ∧ (I' 16 8 = 0 → ((vC I', (-3 : Int32)) = q_framed (vC I) a ∧ c16 I L I' L' ∧ FC I' L')) := by
    intro ha I' L' c1 c2
    have hvv := c16_v c1
    have hfc : FC I' L' := Or.inr (by rw [hvv]; exact c2)
    rw [q_framed, if_neg ha, hvv]
    cases hb : fbest (vC I) with
    | none =>
      rw [hb] at c2
      exact ⟨fun q => absurd c2.2.1 q, fun _ => ⟨rfl, c1, hfc⟩⟩
    | some x =>
      rw [hb] at c2
      obtain ⟨b1, b2, b3, b4, b5, b6, b7, b8⟩ := c2
      dsimp only
      rw [b3]
      refine ⟨fun q => ⟨fun q1 => ⟨fun q2 => ⟨fun q3 => ⟨?_, c1, hfc⟩, fun q3 => ?_⟩, fun q2 => ?_⟩, fun q1 => ⟨?_, c1, hfc⟩⟩, fun q => ?_⟩
      · rw [if_neg q1, if_neg q2, if_pos q3]
      · have z0 : 0 ≤ a := by grind
        obtain ⟨j, j1, rfl⟩ := vi_nI (x := a) (n := x.2.2.length) (by omega) z0 (by grind)
        refine ⟨ni_in (by omega) (by omega), ?_, c1, hfc⟩
        rw [if_neg q1, if_neg q2, if_neg q3, ni_cl (by omega), b4 j j1]
      · rw [if_neg q1, if_pos q2, b1, ovr_fi (by omega)]
        refine sX4_intOrOver (fun f => ⟨?_, c1, hfc⟩) (fun f => ⟨?_, c1, hfc⟩)
        · rw [if_pos f, hvv]
        · rw [if_neg f, hvv]
      · rw [if_pos q1]
      · rw [nl0, ni_eq (by omega) (by omega)] at q
        omega
  refine ⟨fun q => ⟨?_, hsame, hc⟩, fun q => ⟨fun q2 => ⟨fun q3 => ?_, fun q3 => ?_⟩, fun q2 => ⟨?_, hsame, hc⟩⟩⟩
  · unfold q_framed
    rw [if_pos (Or.inl q)]
  · have hod : BE (fbest (vC I)) I L := by
      rcases hc with q4 | q4
      · exact absurd q4 q3
      · exact q4
    exact tail (by grind) I L hsame hod
  · exact sX4_findFrames hv (fun I' L' c1 c2 => tail (by grind) I' L' c1 c2)
  · unfold q_framed
    rw [if_pos (Or.inr (by grind))]
