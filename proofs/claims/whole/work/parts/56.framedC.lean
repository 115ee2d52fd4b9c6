/-! ===== FRAMED, on the left side: how a way is kept ===== -/
/-- the row, the scenes and the fee stand -/
def FI (fr ln : Nat → Int32) (R : List Nat) (fee n : Nat) (I : mm_I) : Prop := I 1 4 = nI n ∧ I 2 = fr ∧ I 3 = ln ∧ I 16 1 = nI R.length ∧ I 16 5 = nI fee ∧ ∀ j, j < R.length → I 17 j = nI (R.getD j 0)
def en1 (r : fp) : Int32 := match r with
  | [] => -1
  | p :: _ => nI p.1
def PT (I : mm_I) : fp → Prop
  | [] => True
  | (a, sd) :: r => I 18 a = en1 r ∧ I 19 a = sd ∧ PT I r
def BE (b : Option fl) (I : mm_I) (L : mm_L) : Prop := match b with
  | none => L 16 9 = 9223372036854775807 ∧ I 16 8 = 0 ∧ I 16 6 = 0
  | some x => L 16 9 = lN x.1 ∧ I 16 6 = nI x.2.1 ∧ I 16 8 = nI x.2.2.length ∧ (∀ j, j < x.2.2.length → I 21 j = x.2.2.getD j 0) ∧ x.1 ≤ 100000000000 ∧ x.2.1 ≤ 100 ∧ 0 < x.2.2.length ∧ x.2.2.length ≤ 40
def TQ (sg : List Int32) (I : mm_I) : Prop := ∀ j, j < sg.length → I 20 j = sg.getD j 0
def fq (pre : List Nat) (u : Nat) (I : mm_I) (L : mm_L) (I' : mm_I) (L' : mm_L) : Prop := (∀ b, b < 16 ∨ b = 17 ∨ 21 < b → I' b = I b) ∧ (∀ j, j ≠ 6 → j ≠ 8 → I' 16 j = I 16 j) ∧ (∀ a, a ∈ pre → I' 18 a = I 18 a ∧ I' 19 a = I 19 a) ∧ (∀ j, j < u → I' 20 j = I 20 j) ∧ (∀ b, b ≠ 16 → L' b = L b)
def fx (pre : List Nat) (u : Nat) (I I' : mm_I) : Prop := (∀ b, b < 18 ∨ 20 < b → I' b = I b) ∧ (∀ a, a ∈ pre → I' 18 a = I 18 a ∧ I' 19 a = I 19 a) ∧ (∀ j, j < u → I' 20 j = I 20 j)
theorem fq_rf {pre : List Nat} {u : Nat} {I : mm_I} {L : mm_L} : fq pre u I L I L := ⟨fun _ _ => rfl, fun _ _ _ => rfl, fun _ _ => ⟨rfl, rfl⟩, fun _ _ => rfl, fun _ _ => rfl⟩
theorem fq_tr {pre : List Nat} {u : Nat} {I I' I'' : mm_I} {L L' L'' : mm_L} (h : fq pre u I L I' L') (h' : fq pre u I' L' I'' L'') : fq pre u I L I'' L'' :=
  ⟨fun b hb => (h'.1 b hb).trans (h.1 b hb), fun j h1 h2 => (h'.2.1 j h1 h2).trans (h.2.1 j h1 h2), fun a ha => ⟨(h'.2.2.1 a ha).1.trans (h.2.2.1 a ha).1, (h'.2.2.1 a ha).2.trans (h.2.2.1 a ha).2⟩, fun j hj => (h'.2.2.2.1 j hj).trans (h.2.2.2.1 j hj), fun b hb => (h'.2.2.2.2 b hb).trans (h.2.2.2.2 b hb)⟩
theorem fx_fq {pre : List Nat} {u : Nat} {I I' : mm_I} {L : mm_L} (h : fx pre u I I') : fq pre u I L I' L :=
  ⟨fun b hb => h.1 b (by omega), fun j _ _ => by rw [h.1 16 (by omega)], h.2.1, h.2.2, fun _ _ => rfl⟩
theorem fq_dn {pre pre2 : List Nat} {u u2 : Nat} {I I' : mm_I} {L L' : mm_L} (h : fq pre2 u2 I L I' L') (hp : ∀ a, a ∈ pre → a ∈ pre2) (hu : u ≤ u2) : fq pre u I L I' L' :=
  ⟨h.1, h.2.1, fun a ha => h.2.2.1 a (hp a ha), fun j hj => h.2.2.2.1 j (by omega), h.2.2.2.2⟩
theorem FI_q {fr ln : Nat → Int32} {R : List Nat} {fee n : Nat} {pre : List Nat} {u : Nat} {I I' : mm_I} {L L' : mm_L} (h : FI fr ln R fee n I) (hq : fq pre u I L I' L') : FI fr ln R fee n I' := by
  obtain ⟨h1, h2, h3, h4, h5, h6⟩ := h
  refine ⟨?_, ?_, ?_, ?_, ?_, fun j hj => ?_⟩
  · rw [hq.1 1 (by omega)]; exact h1
  · rw [hq.1 2 (by omega)]; exact h2
  · rw [hq.1 3 (by omega)]; exact h3
  · rw [hq.2.1 1 (by omega) (by omega)]; exact h4
  · rw [hq.2.1 5 (by omega) (by omega)]; exact h5
  · rw [hq.1 17 (by omega)]; exact h6 j hj
theorem PT_q {pre : List Nat} {u : Nat} {I I' : mm_I} {L L' : mm_L} (hq : fq pre u I L I' L') : ∀ p : fp, (∀ q, q ∈ p → q.1 ∈ pre) → PT I p → PT I' p := by
  intro p
  induction p with
  | nil => intro _ _; exact trivial
  | cons q r ih =>
    obtain ⟨a, sd⟩ := q
    intro hm h
    have ha := hq.2.2.1 a (hm (a, sd) (List.mem_cons_self ..))
    exact ⟨ha.1.trans h.1, ha.2.trans h.2.1, ih (fun q hq => hm q (List.mem_cons_of_mem _ hq)) h.2.2⟩
theorem TQ_q {pre : List Nat} {sg : List Int32} {I I' : mm_I} {L L' : mm_L} (h : TQ sg I) (hq : fq pre sg.length I L I' L') : TQ sg I' := fun j hj => (hq.2.2.2.1 j hj).trans (h j hj)
theorem BE_x {pre : List Nat} {u : Nat} {b : Option fl} {I I' : mm_I} {L : mm_L} (h : BE b I L) (hx : fx pre u I I') : BE b I' L := by
  cases b with
  | none => exact ⟨h.1, by rw [hx.1 16 (by omega)]; exact h.2.1, by rw [hx.1 16 (by omega)]; exact h.2.2⟩
  | some x => exact ⟨h.1, by rw [hx.1 16 (by omega)]; exact h.2.1, by rw [hx.1 16 (by omega)]; exact h.2.2.1, by rw [hx.1 21 (by omega)]; exact h.2.2.2.1, h.2.2.2.2⟩
theorem TQ_s {sg : List Int32} {I I' : mm_I} {x : Int32} (h : TQ sg I) (h1 : ∀ j, j < sg.length → I' 20 j = I 20 j) (h2 : I' 20 sg.length = x) : TQ (sg ++ [x]) I' := by
  intro j hj
  simp only [List.length_append, List.length_cons, List.length_nil] at hj
  by_cases e : j = sg.length
  · subst e
    rw [h2, List.getD_eq_getElem?_getD, List.getElem?_append_right (Nat.le_refl _), Nat.sub_self]
    rfl
  · rw [h1 j (by omega), h j (by omega), List.getD_eq_getElem?_getD, List.getD_eq_getElem?_getD, List.getElem?_append_left (by omega)]
theorem en1_m1 {r : fp} (h : ∀ q, q ∈ r → q.1 ≤ 1000) : (en1 r = -1) = (r = []) := by
  cases r with
  | nil => exact propext ⟨fun _ => rfl, fun _ => rfl⟩
  | cons q r =>
    have h1 := h q (List.mem_cons_self ..)
    refine propext ⟨fun z => ?_, fun z => by cases z⟩
    have z : nI q.1 = -1 := z
    have h2 := ni_0 (a := q.1) (by omega)
    rw [z] at h2
    exact absurd h2 (by decide)
set_option maxHeartbeats 4000000 in
set_option maxRecDepth 100000 in
theorem lX1_closeAll {d : Nat} {L : mm_L} {Q : mm_Q} : ∀ (r : fp) (a c u : Nat) (sd : Int32) (I : mm_I), (∀ q, q ∈ (a, sd) :: r → q.1 < 8) → c + r.length < 8 → u + r.length ≤ 40 → PT I ((a, sd) :: r) → I 16 8 = nI u →
    (∀ I', (∀ b, b ≠ 16 → b ≠ 21 → I' b = I b) → (∀ j, j ≠ 8 → I' 16 j = I 16 j) → I' 16 8 = nI (u + r.length) → (∀ j, j < u → I' 21 j = I 21 j) → (∀ j, u ≤ j → j < u + r.length → I' 21 j = 21) → Q I' L 0 0) → mm_W shC (mm_P shC msC d) tbX1_closeAll Q 19 [.ref 16, .int (nI a), .int (nI c)] [] I L := by
  intro r
  induction r with
  | nil =>
    intro a c u sd I hm hc hu hP h8 h
    have ha : a < 8 := hm (a, sd) (List.mem_cons_self ..)
    refine mm_hk 60 ?_
    simp only [↓hX1_closeAll, ↓uX1_closeAll, ↓mm_r, mm_n, iaC, n10, not_true_eq_false, not_false_eq_true, false_implies, lg_cmp_ge, lg_cmp_le, lg_cmp_gt, lg_cmp_lt, lg_cmp_eq, true_and, and_true, true_or, or_true, true_implies, Classical.not_not, List.length_cons, List.length_nil, Nat.lt_iff_add_one_le, Nat.reduceAdd, Nat.reduceLeDiff, Nat.reduceEqDiff, Int.reduceAdd, reduceIte, Nat.reduceSub]
    simp only [ni_8 (a := c) (by omega), ni_cl (a := a) (by omega), show I 18 a = -1 from hP.1]
    have hf := h I (fun _ _ _ => rfl) (fun _ _ => rfl) h8 (fun _ _ => rfl) (fun j j1 j2 => absurd j1 (by simp only [List.length_nil] at j2; omega))
    exact ⟨fun _ => hf, fun _ => ⟨ni_in (by omega) (by omega), fun _ => hf, fun q => absurd trivial q⟩⟩
  | cons t r ih =>
    obtain ⟨t, sd2⟩ := t
    intro a c u sd I hm hc hu hP h8 h
    simp only [List.length_cons] at hc hu
    have ha : a < 8 := hm (a, sd) (List.mem_cons_self ..)
    have ht : t < 8 := hm (t, sd2) (List.mem_cons_of_mem _ (List.mem_cons_self ..))
    have hne : (nI t = -1) = False := by
      have := en1_m1 (r := (t, sd2) :: r) (fun q hq => Nat.le_of_lt (Nat.lt_trans (hm q (List.mem_cons_of_mem _ hq)) (by omega)))
      rw [show en1 ((t, sd2) :: r) = nI t from rfl] at this
      rw [this]
      simp
    refine mm_hk 60 ?_
    simp only [↓hX1_closeAll, ↓uX1_closeAll, ↓mm_r, mm_n, iaC, n10, not_true_eq_false, not_false_eq_true, false_implies, lg_cmp_ge, lg_cmp_le, lg_cmp_gt, lg_cmp_lt, lg_cmp_eq, true_and, and_true, true_or, or_true, true_implies, Classical.not_not, List.length_cons, List.length_nil, Nat.lt_iff_add_one_le, Nat.reduceAdd, Nat.reduceLeDiff, Nat.reduceEqDiff, Int.reduceAdd, reduceIte, Nat.reduceSub]
    simp only [ni_8 (a := c) (by omega), ni_cl (a := a) (by omega), show I 18 a = nI t from hP.1, hne, h8, ni_40 (a := u) (by omega), ni_cl (a := u) (by omega), nI_1]
    refine ⟨fun q => absurd q (by omega), fun _ => ⟨ni_in (by omega) (by omega), fun q => absurd q (by simp), fun _ => ⟨fun q => absurd q (by omega), fun _ => ⟨ni_in (by omega) (by omega), ni_in (by omega) (by omega), ?_⟩⟩⟩⟩
    refine ih t (c + 1) (u + 1) sd2 _ (fun q hq => hm q (List.mem_cons_of_mem _ hq)) (by omega) (by omega) ?_ ?_ (fun I' k1 k2 k3 k4 k5 => ?_)
    · refine PT_q (pre := ((t, sd2) :: r).map Prod.fst) (u := 0) (L := L) (L' := L) (I := I) ⟨fun b hb => ?_, fun j j1 j2 => ?_, fun b _ => ⟨?_, ?_⟩, fun j hj => absurd hj (by omega), fun _ _ => rfl⟩ _ (fun q hq => List.mem_map_of_mem hq) hP.2.2
      · rw [mm_ui_off _ _ _ (by omega), mm_ui_off _ _ _ (by omega)]
      · simp only [uia, Nat.reduceEqDiff, reduceIte, j2]
      · rw [mm_ui_off _ _ _ (by omega), mm_ui_off _ _ _ (by omega)]
      · rw [mm_ui_off _ _ _ (by omega), mm_ui_off _ _ _ (by omega)]
    · simp only [uia, Nat.reduceEqDiff, reduceIte]
    · refine h I' (fun b b1 b2 => ?_) (fun j hj => ?_) ?_ (fun j hj => ?_) (fun j j1 j2 => ?_)
      · rw [k1 b b1 b2, mm_ui_off _ _ _ b1, mm_ui_off _ _ _ b2]
      · rw [k2 j hj]
        simp only [uia, Nat.reduceEqDiff, reduceIte, hj]
      · rw [k3, List.length_cons]
        congr 1
        omega
      · rw [k4 j (by omega)]
        simp only [uia, Nat.reduceEqDiff, reduceIte]
        rw [if_neg (by omega)]
      · simp only [List.length_cons] at j2
        by_cases e : j = u
        · subst e
          rw [k4 j (by omega)]
          simp only [uia, Nat.reduceEqDiff, reduceIte]
        · exact k5 j (by omega) (by omega)
set_option maxHeartbeats 4000000 in
set_option maxRecDepth 100000 in
theorem sX1_keep {d : Nat} {I : mm_I} {L : mm_L} {Q : mm_Q} {fr ln : Nat → Int32} {R : List Nat} {fee n s f : Nat} {pre : List Nat} {p : fp} {sg : List Int32} (hF : FI fr ln R fee n I) (hR : 0 < R.length) (hR8 : R.length ≤ 8) (hp : p ≠ []) (hP : PT I p) (hm : ∀ q, q ∈ p → q.1 < 8) (hh : ∀ a r, p = a :: r → R.getD (R.length - 1) 0 = a.1) (hT : TQ sg I) (hs0 : 0 < sg.length) (h40 : sg.length + p.length ≤ 40) (hp8 : p.length ≤ 8) (hs : s ≤ 100000000000) (hf : f ≤ 100)
    (h : ∀ I' L', fq pre sg.length I L I' L' → BE (some (s, f, sg ++ List.replicate (p.length - 1) 21)) I' L' → Q I' L' 0 0) : mm_P shC msC (d + 2) 19 [.ref 16, .int (nI sg.length), .long (lN s), .int (nI f)] I L Q := by
  cases p with
  | nil => exact absurd rfl hp
  | cons q r =>
    obtain ⟨a, sd⟩ := q
    simp only [List.length_cons] at h40 hp8
    have ha := hh _ _ rfl
    refine pX1_keep ?_
    simp only [↓uX1_keep, ↓mm_r, mm_n, iaC, n10, not_true_eq_false, not_false_eq_true, false_implies, lg_cmp_ge, lg_cmp_le, lg_cmp_gt, lg_cmp_lt, lg_cmp_eq, true_and, and_true, true_or, or_true, true_implies, Classical.not_not, List.length_cons, List.length_nil, Nat.lt_iff_add_one_le, Nat.reduceAdd, Nat.reduceLeDiff, Nat.reduceEqDiff, Int.reduceAdd, reduceIte, Nat.reduceSub]
    refine ⟨fun q => absurd q (by rw [ni_0 (by omega)]; exact not_false), fun _ => ⟨fun _ => ?_, fun q => absurd (by rw [nl40, ni_le (by omega) (by omega)]; omega) q⟩⟩
    refine ⟨by decide, ⟨by decide, by decide, by decide +kernel, by decide +kernel, by decide, by decide, ?_, ?_, ?_⟩, by decide, ?_⟩
    · rw [ni_0 (by omega)]
      simp
    · rw [ni_cl (by omega), show mm_ia shC 20 = 40 by decide +kernel]
      show 0 + _ ≤ 40
      omega
    · rw [ni_cl (by omega), show mm_ia shC 21 = 40 by decide +kernel]
      show 0 + _ ≤ 40
      omega
    · refine pX1_closeAll ?_
      simp only [↓hX1_closeAll, ↓uX1_closeAll, ↓mm_r, mm_n, iaC, n10, not_true_eq_false, not_false_eq_true, false_implies, lg_cmp_ge, lg_cmp_le, lg_cmp_gt, lg_cmp_lt, lg_cmp_eq, true_and, and_true, true_or, or_true, true_implies, Classical.not_not, List.length_cons, List.length_nil, Nat.lt_iff_add_one_le, Nat.reduceAdd, Nat.reduceLeDiff, Nat.reduceEqDiff, Int.reduceAdd, reduceIte, Nat.reduceSub]
      rw [ni_cl (by omega)]
      have hpt : Int32.toNatClampNeg 0 = 0 := rfl
      rw [hpt]
      generalize hJ : mm_ur (mm_ui (mm_ui I 16 6 (nI f)) 16 8 (nI sg.length)) 21 (va_cpy (mm_ui (mm_ui I 16 6 (nI f)) 16 8 (nI sg.length) 20) (mm_ui (mm_ui I 16 6 (nI f)) 16 8 (nI sg.length) 21) 0 0 sg.length) = J
      have j1 : ∀ b, b ≠ 16 → b ≠ 21 → J b = I b := by
        intro b b1 b2
        rw [← hJ, mm_ur_off _ _ b2, mm_ui_off _ _ _ b1, mm_ui_off _ _ _ b1]
      have j2 : ∀ j, j ≠ 6 → j ≠ 8 → J 16 j = I 16 j := by
        intro j h1 h2
        rw [← hJ, mm_ur_off _ _ (by omega)]
        simp only [uia, Nat.reduceEqDiff, reduceIte, h1, h2]
      have j3 : J 16 8 = nI sg.length := by
        rw [← hJ, mm_ur_off _ _ (by omega)]
        simp only [uia, Nat.reduceEqDiff, reduceIte]
      have j4 : J 16 6 = nI f := by
        rw [← hJ, mm_ur_off _ _ (by omega)]
        simp only [uia, Nat.reduceEqDiff, reduceIte]
      have j5 : ∀ j, j < sg.length → J 21 j = sg.getD j 0 := by
        intro j hj
        rw [← hJ, mm_ur_row, pk_cpy_in (by omega) (by omega), mm_ui_off _ _ _ (by omega), mm_ui_off _ _ _ (by omega)]
        rw [show 0 + (j - 0) = j by omega]
        exact hT j hj
      have hPJ : PT J ((a, sd) :: r) := by
        refine PT_q (pre := ((a, sd) :: r).map Prod.fst) (u := 0) (L := L) (L' := L) (I := I) ⟨fun b hb => j1 b (by omega) (by omega), j2, fun b _ => ⟨by rw [j1 18 (by omega) (by omega)], by rw [j1 19 (by omega) (by omega)]⟩, fun j hj => absurd hj (by omega), fun _ _ => rfl⟩ _ (fun q hq => List.mem_map_of_mem hq) hP
      have e1 : I 16 1 - 1 = nI (R.length - 1) := by
        rw [hF.2.2.2.1, nl1, pk_sub (by omega)]
      have g1 : ¬ I 16 1 < 1 := by
        rw [hF.2.2.2.1, nl1, ni_lt (by omega) (by omega)]
        omega
      have g2 : I 16 1 ≤ 8 := by
        rw [hF.2.2.2.1, nl8, ni_le (by omega) (by omega)]
        omega
      refine ⟨fun q => absurd q g1, fun _ => ⟨fun _ => ?_, fun q => absurd g2 q⟩⟩
      rw [e1, ni_cl (by omega), hF.2.2.2.2.2 _ (by omega), ha]
      refine ⟨ni_in (by omega) (by omega), ?_⟩
      rw [nl0]
      refine lX1_closeAll r a 0 sg.length sd J hm (by omega) (by omega) hPJ j3 (fun I' k1 k2 k3 k4 k5 => ?_)
      refine h I' _ ⟨fun b hb => ?_, fun j h1 h2 => ?_, fun b _ => ⟨?_, ?_⟩, fun j hj => ?_, fun b hb => ?_⟩ ⟨?_, ?_, ?_, ?_, hs, hf, ?_, ?_⟩
      · rw [k1 b (by omega) (by omega), j1 b (by omega) (by omega)]
      · rw [k2 j h2, j2 j h1 h2]
      · rw [k1 18 (by omega) (by omega), j1 18 (by omega) (by omega)]
      · rw [k1 19 (by omega) (by omega), j1 19 (by omega) (by omega)]
      · rw [k1 20 (by omega) (by omega), j1 20 (by omega) (by omega)]
      · rw [mm_ul_off _ _ _ hb]
      · rfl
      · rw [k2 6 (by omega), j4]
      · rw [k3]
        simp only [List.length_append, List.length_replicate, List.length_cons]
        rfl
      · intro j hj
        simp only [List.length_append, List.length_replicate, List.length_cons] at hj
        dsimp only
        rw [List.getD_eq_getElem?_getD]
        by_cases e : j < sg.length
        · rw [k4 j e, j5 j e, List.getElem?_append_left e, List.getD_eq_getElem?_getD]
        · rw [k5 j (by omega) (by omega), List.getElem?_append_right (by omega), List.getElem?_replicate, List.length_cons, if_pos (by omega)]
          rfl
      · simp only [List.length_append]
        omega
      · simp only [List.length_append, List.length_replicate, List.length_cons]
        omega
