/-! ===== FRAMED, on the left side: the ways tried ===== -/
def PH (fr ln : Nat → Int32) (R : List Nat) (fee n : Nat) (pre : List Nat) (p : fp) (sg : List Int32) (s f : Nat) (b : Option fl) (I : mm_I) (L : mm_L) : Prop :=
  FI fr ln R fee n I ∧ PT I p ∧ TQ sg I ∧ BE b I L ∧ (∀ q, q ∈ p → q.1 ∈ pre) ∧ 0 < sg.length ∧ sg.length + p.length ≤ 3 * pre.length ∧ p.length ≤ pre.length ∧ s ≤ pre.length * 6442450944 ∧ f ≤ pre.length
def SF (fr ln : Nat → Int32) (R : List Nat) (fee n : Nat) (pre ks : List Nat) (e : Nat) : Prop :=
  ∀ (p : fp) (sg : List Int32) (s f : Nat) (b : Option fl) (I : mm_I) (L : mm_L) (Q : mm_Q), PH fr ln R fee n pre p sg s f b I L → p ≠ [] → (∀ a r, p = a :: r → R.getD (pre.length - 1) 0 = a.1) →
    (∀ I' L', fq pre sg.length I L I' L' → BE (dfs fr ln fee ks p sg s f b) I' L' → Q I' L' 0 0) → mm_P shC msC e 16 [.ref 16, .ref 1, .int (nI pre.length), .int (nI sg.length), .long (lN s), .int (nI f)] I L Q
theorem fx_w {pre : List Nat} {u k : Nat} {x y z : Int32} {I : mm_I} (hk : ¬ k ∈ pre) : fx pre u I (mm_ui (mm_ui (mm_ui I 18 k x) 19 k y) 20 u z) := by
  refine ⟨fun b hb => ?_, fun a ha => ?_, fun j hj => ?_⟩
  · rw [mm_ui_off _ _ _ (by omega), mm_ui_off _ _ _ (by omega), mm_ui_off _ _ _ (by omega)]
  · have e : a ≠ k := fun e => hk (e ▸ ha)
    constructor
    · simp only [uia, Nat.reduceEqDiff, reduceIte, e]
    · simp only [uia, Nat.reduceEqDiff, reduceIte, e]
  · have e : j ≠ u := by omega
    simp only [uia, Nat.reduceEqDiff, reduceIte, e]
theorem fx_t {pre : List Nat} {u : Nat} {z : Int32} {I : mm_I} : fx pre u I (mm_ui I 20 u z) := by
  refine ⟨fun b hb => ?_, fun a ha => ?_, fun j hj => ?_⟩
  · rw [mm_ui_off _ _ _ (by omega)]
  · constructor
    · rw [mm_ui_off _ _ _ (by omega)]
    · rw [mm_ui_off _ _ _ (by omega)]
  · have e : j ≠ u := by omega
    simp only [uia, Nat.reduceEqDiff, reduceIte, e]
theorem fx_dn {pre : List Nat} {u u2 : Nat} {I I' : mm_I} (h : fx pre u2 I I') (hu : u ≤ u2) : fx pre u I I' := ⟨h.1, h.2.1, fun j hj => h.2.2 j (by omega)⟩
theorem fx_tr {pre : List Nat} {u : Nat} {I I' I'' : mm_I} (h : fx pre u I I') (h' : fx pre u I' I'') : fx pre u I I'' :=
  ⟨fun b hb => (h'.1 b hb).trans (h.1 b hb), fun a ha => ⟨(h'.2.1 a ha).1.trans (h.2.1 a ha).1, (h'.2.1 a ha).2.trans (h.2.1 a ha).2⟩, fun j hj => (h'.2.2 j hj).trans (h.2.2 j hj)⟩
set_option maxHeartbeats 4000000 in
set_option maxRecDepth 100000 in
theorem tX1_setFrom {d : Nat} {I : mm_I} {L : mm_L} {Q : mm_Q} {fr ln : Nat → Int32} {R : List Nat} {fee n place u s f : Nat} {b : Option fl} (hF : FI fr ln R fee n I) (hB : BE b I L) (hs : s ≤ 100000000000) (hf : f ≤ 100) (h0 : 0 < place) (h1 : place ≤ R.length) (h8 : R.length ≤ 8)
    (hq : (∃ y, b = some y ∧ ¬ (s < y.1 ∨ (s = y.1 ∧ f < y.2.1))) → Q I L 0 0)
    (hk : (∀ y, b = some y → (s < y.1 ∨ (s = y.1 ∧ f < y.2.1))) → place = R.length → mm_P shC msC d 19 [.ref 16, .int (nI u), .long (lN s), .int (nI f)] I L (fun I' L' _ _ => Q I' L' 0 0))
    (hl : (∀ y, b = some y → (s < y.1 ∨ (s = y.1 ∧ f < y.2.1))) → place < R.length → mm_W shC (mm_P shC msC d) tbX1_setFrom Q 42 [.ref 16, .ref 1, .int (nI place), .int (nI u), .long (lN s), .null, .int (nI f), .int (nI (R.getD (place - 1) 0)), .int (nI u), .int 0] [] I L) :
    mm_P shC msC (d + 1) 16 [.ref 16, .ref 1, .int (nI place), .int (nI u), .long (lN s), .int (nI f)] I L Q := by
  obtain ⟨-, -, -, f4, -, f6⟩ := hF
  have hp1 : (nI place < 1) = (place < 1) := by rw [nl1, ni_lt (by omega) (by omega)]
  have hp2 : nI place - 1 = nI (place - 1) := by rw [nl1, pk_sub (by omega)]
  refine pX1_setFrom ?_
  simp only [↓hX1_setFrom, ↓uX1_setFrom, ↓mm_r, mm_n, iaC, n10, not_true_eq_false, not_false_eq_true, false_implies, lg_cmp_ge, lg_cmp_le, lg_cmp_gt, lg_cmp_lt, lg_cmp_eq, true_and, and_true, true_or, or_true, true_implies, Classical.not_not, List.length_cons, List.length_nil, Nat.lt_iff_add_one_le, Nat.reduceAdd, Nat.reduceLeDiff, Nat.reduceEqDiff, Int.reduceAdd, reduceIte, Nat.reduceSub]
  simp only [f4, hp1, ni_le (a := R.length) (b := place) (by omega) (by omega), ni_l8 (a := place) (by omega), hp2, ni_cl (a := place - 1) (by omega), f6 (place - 1) (by omega)]
  have hA : ∀ {A B : Prop}, (∀ y, b = some y → (s < y.1 ∨ (s = y.1 ∧ f < y.2.1))) → (place = R.length → A) → (place < R.length → B) → (place < 1 → A) ∧ (¬ place < 1 → (R.length ≤ place → A) ∧ (¬ R.length ≤ place → (place < 8 → vp_in (nI (place - 1)) 8 ∧ B) ∧ (¬ place < 8 → A))) := by
    intro A B _ a1 a2
    exact ⟨fun q => absurd q (by omega), fun _ => ⟨fun q => a1 (by omega), fun q => ⟨fun _ => ⟨ni_in (by omega) (by omega), a2 (by omega)⟩, fun q2 => absurd q2 (by omega)⟩⟩⟩
  cases b with
  | none =>
    have e1 : (L 16 9 < lN s) = False := by
      rw [hB.1, llt, lmx, pk_lT (by omega)]
      exact propext ⟨fun q => absurd q (by omega), False.elim⟩
    have e2 : (lN s = L 16 9) = False := by
      rw [hB.1, leq, lmx, pk_lT (by omega)]
      exact propext ⟨fun q => absurd q (by omega), False.elim⟩
    rw [e1, e2]
    have hn : ∀ y : fl, (none : Option fl) = some y → (s < y.1 ∨ (s = y.1 ∧ f < y.2.1)) := fun y q => by cases q
    exact ⟨fun q => q.elim, fun _ => ⟨fun _ => hA hn (hk hn) (hl hn), fun q => q.elim⟩⟩
  | some y =>
    obtain ⟨b1, b2, -, -, b5, b6, -, -⟩ := hB
    rw [b1, b2, pk_lLT (by omega) (by omega), pk_lEQ (by omega) (by omega), ni_lt (by omega) (by omega)]
    have hn : (s < y.1 ∨ (s = y.1 ∧ f < y.2.1)) → ∀ z : fl, some y = some z → (s < z.1 ∨ (s = z.1 ∧ f < z.2.1)) := fun q z e => by cases e; exact q
    refine ⟨fun q => hq ⟨y, rfl, by omega⟩, fun q => ⟨fun q2 => ?_, fun q2 => ⟨fun q3 => ?_, fun q3 => hq ⟨y, rfl, by omega⟩⟩⟩⟩
    · have w := hn (by omega)
      exact hA w (hk w) (hl w)
    · have w := hn (by omega)
      exact hA w (hk w) (hl w)
set_option maxHeartbeats 4000000 in
set_option maxRecDepth 100000 in
theorem sX1_setBeside {e : Nat} {I : mm_I} {L : mm_L} {Q : mm_Q} {fr ln : Nat → Int32} {R : List Nat} {fee n k a s f : Nat} {sd : Int32} {pre ks : List Nat} {r : fp} {sg : List Int32} {b : Option fl} (hS : SF fr ln R fee n (pre ++ [k]) ks (e + 2)) (h : PH fr ln R fee n pre ((a, sd) :: r) sg s f b I L) (h8 : R.length ≤ 8) (n8 : n ≤ 8) (hl : pre.length < R.length) (hk : R.getD pre.length 0 = k) (hkn : k < n) (hkp : ¬ k ∈ pre) (hpn : ∀ a, a ∈ pre → a < n)
    (hQ : ∀ I' L', fq pre sg.length I L I' L' → BE (if bsd fr ln r k sd = true then dfs fr ln fee ks ((k, sd) :: r) (sg ++ [nI k]) (s + cj fr ln a k) f b else b) I' L' → Q I' L' 0 0) :
    mm_P shC msC (e + 3) 17 [.ref 16, .ref 1, .int (nI pre.length), .int (nI sg.length), .int (nI a), .long (lN s), .int (nI f)] I L Q := by
  obtain ⟨hF, hP, hT, hB, hm, u0, u1, u2, s1, f1⟩ := h
  have ha : a < n := hpn a (hm (a, sd) (List.mem_cons_self ..))
  have hcj := cj_le fr ln a k
  simp only [List.length_cons] at u1 u2
  have e17 : I 17 pre.length = nI k := by rw [hF.2.2.2.2.2 _ hl, hk]
  have hr : ∀ q, q ∈ r → q.1 ∈ pre := fun q hq => hm q (List.mem_cons_of_mem _ hq)
  have hm1 := en1_m1 (r := r) (fun q hq => by have := hpn _ (hr q hq); omega)
  obtain ⟨p1, p2, p3⟩ := hP
  have jb : ∀ (J : mm_I) (Q2 : mm_Q), J = mm_ui (mm_ui (mm_ui I 18 k (en1 r)) 19 k sd) 20 sg.length (nI k) → bsd fr ln r k sd = true → (∀ I' L', Q I' L' 0 0 → Q2 I' L' 0 0) → mm_P shC msC (e + 2) 4 [.ref 1, .int (nI a), .int (nI k)] J L (fun I' L' _ rl => mm_P shC msC (e + 2) 16 [.ref 16, .ref 1, .int (nI pre.length + 1), .int (nI sg.length + 1), .long (lN s + rl), .int (nI f)] I' L' (fun I' L' _ _ => Q2 I' L' 0 0)) := by
    intro J Q2 hJ hb hQ2
    have x : fx pre sg.length I J := by rw [hJ]; exact fx_w hkp
    have hFJ := FI_q hF (fx_fq (L := L) x)
    refine sX0_jumpBetween (by rw [ni_00 (by omega)]; trivial) (by rw [hFJ.1, ni_lt (by omega) (by omega)]; exact ha) (by rw [ni_l8 (by omega)]; omega) (by rw [ni_00 (by omega)]; trivial) (by rw [hFJ.1, ni_lt (by omega) (by omega)]; exact hkn) (by rw [ni_l8 (by omega)]; omega) ?_
    rw [ni_cl (by omega), ni_cl (by omega), pj_cj, hFJ.2.1, hFJ.2.2.1, lN_add, nI_1, nI_1]
    have g := hS ((k, sd) :: r) (sg ++ [nI k]) (s + cj fr ln a k) f b J L (fun I' L' _ _ => Q2 I' L' 0 0) ⟨hFJ, ⟨?_, ?_, ?_⟩, ?_, BE_x hB x, ?_, ?_, ?_, ?_, ?_, ?_⟩ (by simp) ?_ ?_
    · simp only [List.length_append, List.length_cons, List.length_nil, Nat.zero_add] at g
      exact g
    · rw [hJ]; simp only [uia, Nat.reduceEqDiff, reduceIte]
    · rw [hJ]; simp only [uia, Nat.reduceEqDiff, reduceIte]
    · exact PT_q (fx_fq (L := L) x) r hr p3
    · exact TQ_s hT x.2.2 (by rw [hJ]; simp only [uia, Nat.reduceEqDiff, reduceIte])
    · intro q hq
      rcases List.mem_cons.mp hq with rfl | hq
      · exact List.mem_append_right _ (List.mem_cons_self ..)
      · exact List.mem_append_left _ (hr q hq)
    · simp only [List.length_append]; omega
    · simp only [List.length_append, List.length_cons, List.length_nil]; omega
    · simp only [List.length_append, List.length_cons, List.length_nil]; omega
    · simp only [List.length_append, List.length_cons, List.length_nil]; omega
    · simp only [List.length_append, List.length_cons, List.length_nil]; omega
    · intro a' r' e'
      cases e'
      simp only [List.length_append, List.length_cons, List.length_nil]
      exact hk
    · intro I' L' hq hb'
      refine hQ2 I' L' (hQ I' L' (fq_tr (fx_fq x) (fq_dn hq (fun a h => List.mem_append_left _ h) (by simp only [List.length_append]; omega))) ?_)
      rw [if_pos hb]
      exact hb'
  refine pX1_setBeside ?_
  simp only [↓uX1_setBeside, ↓mm_r, mm_n, iaC, n10, not_true_eq_false, not_false_eq_true, false_implies, lg_cmp_ge, lg_cmp_le, lg_cmp_gt, lg_cmp_lt, lg_cmp_eq, true_and, and_true, true_or, or_true, true_implies, Classical.not_not, List.length_cons, List.length_nil, Nat.lt_iff_add_one_le, Nat.reduceAdd, Nat.reduceLeDiff, Nat.reduceEqDiff, Int.reduceAdd, reduceIte, Nat.reduceSub]
  simp only [ni_cl (a := pre.length) (by omega), e17]
  refine ⟨ni_in (by omega) (by omega), ?_⟩
  refine sX0_has (fun _ _ _ => ?_) (fun q => absurd ⟨by rw [ni_00 (by omega)]; trivial, by rw [hF.1, ni_lt (by omega) (by omega)]; exact hkn, by rw [ni_l8 (by omega)]; omega⟩ q)
  simp only [n10, not_false_eq_true, false_implies, true_implies, true_and, and_true, not_true_eq_false]
  refine sX0_has (fun _ _ _ => ?_) (fun q => absurd ⟨by rw [ni_00 (by omega)]; trivial, by rw [hF.1, ni_lt (by omega) (by omega)]; exact ha, by rw [ni_l8 (by omega)]; omega⟩ q)
  simp only [n10, not_false_eq_true, false_implies, true_implies, true_and, and_true, not_true_eq_false]
  simp only [ni_cl (a := a) (by omega), ni_cl (a := sg.length) (by omega), ni_cl (a := k) (by omega), p1, p2, hm1]
  refine ⟨ni_in (by omega) (by omega), fun q => ⟨ni_in (by omega) (by omega), ni_in (by omega) (by omega), ni_in (by omega) (by omega), ni_in (by omega) (by omega), ?_⟩, fun q => ?_⟩
  · exact jb _ Q rfl (by rw [q]; rfl) (fun _ _ h => h)
  · cases r with
    | nil => exact absurd rfl q
    | cons t r =>
      obtain ⟨t, sd2⟩ := t
      have ht : t < n := hpn t (hr (t, sd2) (List.mem_cons_self ..))
      rw [show en1 ((t, sd2) :: r) = nI t from rfl]
      refine sX0_sideBy (by rw [ni_00 (by omega)]; trivial) (by rw [hF.1, ni_lt (by omega) (by omega)]; exact hkn) (by rw [ni_l8 (by omega)]; omega) (by rw [ni_00 (by omega)]; trivial) (by rw [hF.1, ni_lt (by omega) (by omega)]; exact ht) (by rw [ni_l8 (by omega)]; omega) ?_
      rw [ni_cl (by omega), ni_cl (by omega), hF.2.1, hF.2.2.1, p2]
      refine ⟨ni_in (by omega) (by omega), fun q2 => ⟨ni_in (by omega) (by omega), ni_in (by omega) (by omega), ni_in (by omega) (by omega), ni_in (by omega) (by omega), ?_⟩, fun q2 => ?_⟩
      · exact jb _ Q rfl (decide_eq_true q2) (fun _ _ h => h)
      · refine hQ I L fq_rf ?_
        have z : ¬ bsd fr ln ((t, sd2) :: r) k sd = true := fun z => q2 (of_decide_eq_true z)
        rw [if_neg z]
        exact hB
set_option maxHeartbeats 4000000 in
set_option maxRecDepth 100000 in
theorem sX1_setWithin {e : Nat} {I : mm_I} {L : mm_L} {Q : mm_Q} {fr ln : Nat → Int32} {R : List Nat} {fee n k a s f : Nat} {sd : Int32} {pre ks : List Nat} {r : fp} {sg : List Int32} {b : Option fl} (hS : SF fr ln R fee n (pre ++ [k]) ks (e + 2)) (h : PH fr ln R fee n pre ((a, sd) :: r) sg s f b I L) (h8 : R.length ≤ 8) (n8 : n ≤ 8) (hfee : fee ≤ 1000000) (hl : pre.length < R.length) (hk : R.getD pre.length 0 = k) (hkn : k < n) (hkp : ¬ k ∈ pre) (hpn : ∀ a, a ∈ pre → a < n)
    (hQ : ∀ I' L', fq pre sg.length I L I' L' → BE (if ps fr ln k a = -9 then b else dfs fr ln fee ks ((k, ps fr ln k a) :: (a, sd) :: r) (sg ++ [20, nI k]) (s + fee) (f + 1) b) I' L' → Q I' L' 0 0) :
    mm_P shC msC (e + 3) 18 [.ref 16, .ref 1, .int (nI pre.length), .int (nI sg.length), .int (nI a), .long (lN s), .int (nI f)] I L Q := by
  obtain ⟨hF, hP, hT, hB, hm, u0, u1, u2, s1, f1⟩ := h
  have ha : a < n := hpn a (hm (a, sd) (List.mem_cons_self ..))
  simp only [List.length_cons] at u1 u2
  have e17 : I 17 pre.length = nI k := by rw [hF.2.2.2.2.2 _ hl, hk]
  refine pX1_setWithin ?_
  simp only [↓uX1_setWithin, ↓mm_r, mm_n, iaC, n10, not_true_eq_false, not_false_eq_true, false_implies, lg_cmp_ge, lg_cmp_le, lg_cmp_gt, lg_cmp_lt, lg_cmp_eq, true_and, and_true, true_or, or_true, true_implies, Classical.not_not, List.length_cons, List.length_nil, Nat.lt_iff_add_one_le, Nat.reduceAdd, Nat.reduceLeDiff, Nat.reduceEqDiff, Int.reduceAdd, reduceIte, Nat.reduceSub]
  simp only [ni_cl (a := pre.length) (by omega), ni_cl (a := sg.length) (by omega), e17, ni_cl (a := k) (by omega), nI_1, ni_cl (a := sg.length + 1) (by omega)]
  refine ⟨ni_in (by omega) (by omega), ?_⟩
  refine sX0_sideBy (by rw [ni_00 (by omega)]; trivial) (by rw [hF.1, ni_lt (by omega) (by omega)]; exact hkn) (by rw [ni_l8 (by omega)]; omega) (by rw [ni_00 (by omega)]; trivial) (by rw [hF.1, ni_lt (by omega) (by omega)]; exact ha) (by rw [ni_l8 (by omega)]; omega) ?_
  rw [ni_cl (by omega), ni_cl (by omega), hF.2.1, hF.2.2.1, hF.2.2.2.2.1, nI_l (by omega), lN_add, show nI sg.length + 2 = nI (sg.length + 2) from nI_add _ 2]
  refine ⟨fun q => ⟨ni_in (by omega) (by omega), ni_in (by omega) (by omega), ni_in (by omega) (by omega), ni_in (by omega) (by omega), ?_⟩, fun q => ?_⟩
  · generalize hJ : mm_ui (mm_ui (mm_ui (mm_ui I 18 k (nI a)) 19 k (ps fr ln k a)) 20 sg.length 20) 20 (sg.length + 1) (nI k) = J
    have x : fx pre sg.length I J := by rw [← hJ]; exact fx_tr (fx_w hkp) (fx_dn fx_t (by omega))
    have hFJ := FI_q hF (fx_fq (L := L) x)
    have t1 : J 20 sg.length = 20 := by
      rw [← hJ]
      have e2 : sg.length ≠ sg.length + 1 := by omega
      simp only [uia, Nat.reduceEqDiff, reduceIte, e2]
    have t2 : J 20 (sg.length + 1) = nI k := by
      rw [← hJ]
      simp only [uia, Nat.reduceEqDiff, reduceIte]
    have g := hS ((k, ps fr ln k a) :: (a, sd) :: r) (sg ++ [20, nI k]) (s + fee) (f + 1) b J L (fun I' L' _ _ => Q I' L' 0 0) ⟨hFJ, ⟨?_, ?_, ?_⟩, ?_, BE_x hB x, ?_, ?_, ?_, ?_, ?_, ?_⟩ (by simp) ?_ ?_
    · simp only [List.length_append, List.length_cons, List.length_nil, Nat.zero_add] at g
      exact g
    · rw [← hJ]; simp only [uia, Nat.reduceEqDiff, reduceIte]; rfl
    · rw [← hJ]; simp only [uia, Nat.reduceEqDiff, reduceIte]
    · exact PT_q (fx_fq (L := L) x) ((a, sd) :: r) hm hP
    · have hT1 : TQ (sg ++ [20]) J := TQ_s hT x.2.2 t1
      have hT2 : TQ ((sg ++ [20]) ++ [nI k]) J := TQ_s hT1 (fun _ _ => rfl) (by simp only [List.length_append, List.length_cons, List.length_nil, Nat.zero_add]; exact t2)
      rw [List.append_assoc] at hT2
      exact hT2
    · intro q hq
      rcases List.mem_cons.mp hq with rfl | hq
      · exact List.mem_append_right _ (List.mem_cons_self ..)
      · exact List.mem_append_left _ (hm q hq)
    · simp only [List.length_append]; omega
    · simp only [List.length_append, List.length_cons, List.length_nil]; omega
    · simp only [List.length_append, List.length_cons, List.length_nil]; omega
    · simp only [List.length_append, List.length_cons, List.length_nil]; omega
    · simp only [List.length_append, List.length_cons, List.length_nil]; omega
    · intro a' r' e'
      cases e'
      simp only [List.length_append, List.length_cons, List.length_nil]
      exact hk
    · intro I' L' hq hb'
      refine hQ I' L' (fq_tr (fx_fq x) (fq_dn hq (fun a h => List.mem_append_left _ h) (by simp only [List.length_append]; omega))) ?_
      rw [if_neg q]
      exact hb'
  · refine hQ I L fq_rf ?_
    rw [if_pos q]
    exact hB
set_option maxHeartbeats 4000000 in
set_option maxRecDepth 100000 in
theorem lX1_setFrom {e : Nat} {Q : mm_Q} {fr ln : Nat → Int32} {R : List Nat} {fee n k s f : Nat} {u0 : Int32} {pre ks : List Nat} (hS : SF fr ln R fee n (pre ++ [k]) ks (e + 2)) (h8 : R.length ≤ 8) (n8 : n ≤ 8) (hfee : fee ≤ 1000000) (hl : pre.length < R.length) (hk : R.getD pre.length 0 = k) (hkn : k < n) (hkp : ¬ k ∈ pre) (hpn : ∀ a, a ∈ pre → a < n) :
    ∀ (p : fp) (c : Nat) (sg : List Int32) (b : Option fl) (I : mm_I) (L : mm_L), PH fr ln R fee n pre p sg s f b I L → c + p.length ≤ 8 → (∀ I' L', fq pre sg.length I L I' L' → BE (dop fr ln fee (dfs fr ln fee ks) k p sg s f b) I' L' → Q I' L' 0 0) →
    mm_W shC (mm_P shC msC (e + 3)) tbX1_setFrom Q 42 [.ref 16, .ref 1, .int (nI pre.length), .int u0, .long (lN s), .null, .int (nI f), .int (en1 p), .int (nI sg.length), .int (nI c)] [] I L := by
  intro p
  induction p with
  | nil =>
    intro c sg b I L h hc hQ
    have hf := hQ I L fq_rf h.2.2.2.1
    refine mm_hk 200 ?_
    simp only [↓hX1_setFrom, ↓uX1_setFrom, ↓mm_r, mm_n, iaC, n10, not_true_eq_false, not_false_eq_true, false_implies, lg_cmp_ge, lg_cmp_le, lg_cmp_gt, lg_cmp_lt, lg_cmp_eq, true_and, and_true, true_or, or_true, true_implies, Classical.not_not, List.length_cons, List.length_nil, Nat.lt_iff_add_one_le, Nat.reduceAdd, Nat.reduceLeDiff, Nat.reduceEqDiff, Int.reduceAdd, reduceIte, Nat.reduceSub]
    refine ⟨fun _ => hf, fun _ => ?_⟩
    refine sX0_has (fun q _ _ => absurd q (by decide)) (fun _ => ?_)
    simp only [n10, not_false_eq_true, false_implies, true_implies, true_and, and_true, not_true_eq_false]
    exact hf
  | cons q r ih =>
    obtain ⟨a, sd⟩ := q
    intro c sg b I L h hc hQ
    have h' := h
    obtain ⟨hF, hP, hT, hB, hm, v0, v1, v2, s1, f1⟩ := h'
    simp only [List.length_cons] at hc v1 v2
    have hap : a ∈ pre := hm (a, sd) (List.mem_cons_self ..)
    have ha : a < n := hpn a hap
    refine mm_hk 200 ?_
    simp only [↓hX1_setFrom, ↓uX1_setFrom, ↓mm_r, mm_n, iaC, n10, not_true_eq_false, not_false_eq_true, false_implies, lg_cmp_ge, lg_cmp_le, lg_cmp_gt, lg_cmp_lt, lg_cmp_eq, true_and, and_true, true_or, or_true, true_implies, Classical.not_not, List.length_cons, List.length_nil, Nat.lt_iff_add_one_le, Nat.reduceAdd, Nat.reduceLeDiff, Nat.reduceEqDiff, Int.reduceAdd, reduceIte, Nat.reduceSub]
    rw [show en1 ((a, sd) :: r) = nI a from rfl]
    simp only [ni_8 (a := c) (by omega), nI_1, ni_40 (a := sg.length + 1) (by omega), ni_cl (a := sg.length) (by omega), ni_cl (a := a) (by omega)]
    refine ⟨fun q => absurd q (by omega), fun _ => ?_⟩
    refine sX0_has (fun _ _ _ => ?_) (fun q => absurd ?_ q)
    · simp only [n10, not_false_eq_true, false_implies, true_implies, true_and, and_true, not_true_eq_false]
      refine ⟨fun q => absurd q (by omega), fun _ => ?_⟩
      refine sX1_setBeside (sd := sd) (r := r) (b := b) hS h h8 n8 hl hk hkn hkp hpn (fun I1 L1 q1 b1 => ?_)
      refine sX1_setWithin (sd := sd) (r := r) hS ⟨FI_q hF q1, PT_q q1 _ hm hP, TQ_q hT q1, b1, hm, v0, v1, v2, s1, f1⟩ h8 n8 hfee hl hk hkn hkp hpn (fun I2 L2 q2 b2 => ?_)
      have q3 := fq_tr q1 q2
      refine ⟨ni_in (by omega) (by omega), ni_in (by omega) (by omega), ?_⟩
      rw [show I2 18 a = en1 r from (q3.2.2.1 a hap).1.trans hP.1]
      have x : fx pre sg.length I2 (mm_ui I2 20 sg.length 21) := fx_t
      have q4 := fq_tr q3 (fx_fq (L := L2) x)
      have g := ih (c + 1) (sg ++ [21]) _ (mm_ui I2 20 sg.length 21) L2 ⟨FI_q hF q4, ?_, ?_, BE_x b2 x, ?_, ?_, ?_, ?_, s1, f1⟩ (by omega) ?_
      · simp only [List.length_append, List.length_cons, List.length_nil, Nat.zero_add] at g
        exact g
      · exact PT_q q4 r (fun q hq => hm q (List.mem_cons_of_mem _ hq)) hP.2.2
      · exact TQ_s hT q4.2.2.2.1 (by simp only [uia, Nat.reduceEqDiff, reduceIte])
      · exact fun q hq => hm q (List.mem_cons_of_mem _ hq)
      · simp only [List.length_append]; omega
      · simp only [List.length_append, List.length_cons, List.length_nil]; omega
      · omega
      · intro I' L' hq hb
        refine hQ I' L' (fq_tr q4 (fq_dn hq (fun _ h => h) (by simp only [List.length_append]; omega))) ?_
        rw [dop]
        have ee : ∀ (x y : Option fl), (if ps fr ln k a = -9 then x else y) = if ps fr ln k a = -9 then x else y := fun _ _ => rfl
        exact hb
    · refine ⟨by rw [ni_00 (by omega)]; trivial, by rw [hF.1, ni_lt (by omega) (by omega)]; exact ha, by rw [ni_l8 (by omega)]; omega⟩
set_option maxHeartbeats 4000000 in
set_option maxRecDepth 100000 in
theorem SF_all {d : Nat} {fr ln : Nat → Int32} {R : List Nat} {fee n : Nat} (h8 : R.length ≤ 8) (n8 : n ≤ 8) (hfee : fee ≤ 1000000) (hn : ∀ a, a ∈ R → a < n) (hd : R.Nodup) : ∀ (ks pre : List Nat), R = pre ++ ks → pre ≠ [] → SF fr ln R fee n pre ks (d + 2 * ks.length + 3) := by
  intro ks
  induction ks with
  | nil =>
    intro pre hR hpre p sg s f b I L Q h hp hh hQ
    have hl : R.length = pre.length := by rw [hR, List.append_nil]
    have h0 : 0 < pre.length := List.length_pos_iff.mpr hpre
    obtain ⟨hF, hP, hT, hB, hm, v0, v1, v2, s1, f1⟩ := h
    refine tX1_setFrom (b := b) hF hB (by omega) (by omega) h0 (by omega) h8 (fun q => ?_) (fun q _ => ?_) (fun _ q => absurd q (by omega))
    · obtain ⟨y, rfl, hy⟩ := q
      exact hQ I L fq_rf (by rw [dfs_pr _ _ _ _ _ hy]; exact hB)
    · refine sX1_keep (pre := pre) hF (by omega) h8 hp hP (fun q hq => by have := hn _ (hR ▸ List.mem_append_left _ (hm q hq)); omega) (fun a r e => by rw [hl]; exact hh a r e) hT v0 (by omega) (by omega) (by omega) (by omega) (fun I' L' q1 b1 => ?_)
      refine hQ I' L' q1 ?_
      rw [dfs]
      cases b with
      | none => exact b1
      | some y =>
        rw [ub, if_pos (q y rfl)]
        exact b1
  | cons k ks ih =>
    intro pre hR hpre p sg s f b I L Q h hp hh hQ
    have hl : R.length = pre.length + (ks.length + 1) := by rw [hR, List.length_append, List.length_cons]
    have h0 : 0 < pre.length := List.length_pos_iff.mpr hpre
    have hS : SF fr ln R fee n (pre ++ [k]) ks (d + 2 * ks.length + 3) := ih (pre ++ [k]) (by rw [hR]; simp) (by simp)
    have h' := h
    obtain ⟨hF, hP, hT, hB, hm, v0, v1, v2, s1, f1⟩ := h'
    have hk : R.getD pre.length 0 = k := by
      rw [hR, List.getD_eq_getElem?_getD, List.getElem?_append_right (Nat.le_refl _), Nat.sub_self]
      rfl
    have hkp : ¬ k ∈ pre := by
      rw [hR] at hd
      intro q
      exact (List.nodup_append.mp hd).2.2 k q k (List.mem_cons_self ..) rfl
    have hkn : k < n := hn k (by rw [hR]; exact List.mem_append_right _ (List.mem_cons_self ..))
    have hpn : ∀ a, a ∈ pre → a < n := fun a ha => hn a (by rw [hR]; exact List.mem_append_left _ ha)
    rw [show d + 2 * (k :: ks).length + 3 = (d + 2 * ks.length + 4) + 1 by simp only [List.length_cons]; omega]
    refine tX1_setFrom (b := b) hF hB (by omega) (by omega) h0 (by omega) h8 (fun q => ?_) (fun _ q => absurd q (by omega)) (fun q _ => ?_)
    · obtain ⟨y, rfl, hy⟩ := q
      exact hQ I L fq_rf (by rw [dfs_pr _ _ _ _ _ hy]; exact hB)
    · cases p with
      | nil => exact absurd rfl hp
      | cons t r =>
        rw [hh t r rfl, show nI t.1 = en1 (t :: r) from rfl, nl0]
        refine lX1_setFrom (e := d + 2 * ks.length + 1) hS h8 n8 hfee (by omega) hk hkn hkp hpn (t :: r) 0 sg b I L h (by omega) (fun I' L' q1 b1 => ?_)
        refine hQ I' L' q1 ?_
        rw [dfs]
        exact b1
