/-! ===== FRAMED by choices, as the right side goes through them ===== -/
/-- the path, the signs, the sum, the frames -/
abbrev fs : Type := fp × List Int32 × Nat × Nat
def cs (c k : Nat) : List Int32 := List.replicate (c / 2) 21 ++ (if c % 2 = 1 then [20, nI k] else [nI k])
def stp (fr ln : Nat → Int32) (fee k : Nat) (t : fs) (c : Nat) : Option fs := match t.1.drop (c / 2) with
  | [] => none
  | (a, sd) :: r => if c % 2 = 1 then (if ps fr ln k a = -9 then none else some ((k, ps fr ln k a) :: (a, sd) :: r, t.2.1 ++ cs c k, t.2.2.1 + fee, t.2.2.2 + 1))
    else (if bsd fr ln r k sd = true then some ((k, sd) :: r, t.2.1 ++ cs c k, t.2.2.1 + cj fr ln a k, t.2.2.2) else none)
def ulf (g : fp → List Int32 → Nat → Nat → Option fl → Option fl) (o : Option fs) (b : Option fl) : Option fl := match o with
  | none => b
  | some t => g t.1 t.2.1 t.2.2.1 t.2.2.2 b
def flc (h : Nat → Option fl → Option fl) : Nat → Nat → Option fl → Option fl
  | 0, _, b => b
  | n + 1, c, b => flc h n (c + 1) (h c b)
theorem flc_sh {h h' : Nat → Option fl → Option fl} (e : ∀ c b, h (c + 2) b = h' c b) : ∀ (n c : Nat) (b : Option fl), flc h n (c + 2) b = flc h' n c b := by
  intro n
  induction n with
  | zero => intro c b; rfl
  | succ n ih =>
    intro c b
    rw [flc, flc, e c b]
    exact ih (c + 1) _
theorem flc_id {h : Nat → Option fl → Option fl} (e : ∀ c b, h c b = b) : ∀ (n c : Nat) (b : Option fl), flc h n c b = b := by
  intro n
  induction n with
  | zero => intro c b; rfl
  | succ n ih =>
    intro c b
    rw [flc, e c b]
    exact ih (c + 1) _
theorem cs_2 (c k : Nat) : cs (c + 2) k = 21 :: cs c k := by
  unfold cs
  rw [show (c + 2) / 2 = c / 2 + 1 by omega, show (c + 2) % 2 = c % 2 by omega, List.replicate_succ, List.cons_append]
theorem stp_2 (fr ln : Nat → Int32) (fee k : Nat) (x : Nat × Int32) (r : fp) (sg : List Int32) (s f c : Nat) : stp fr ln fee k (x :: r, sg, s, f) (c + 2) = stp fr ln fee k (r, sg ++ [21], s, f) c := by
  unfold stp
  dsimp only
  rw [show (c + 2) / 2 = c / 2 + 1 by omega, show (c + 2) % 2 = c % 2 by omega, List.drop_succ_cons, cs_2, List.append_assoc]
  rfl
theorem dop_flc {fr ln : Nat → Int32} {fee k : Nat} {g : fp → List Int32 → Nat → Nat → Option fl → Option fl} : ∀ (p : fp) (sg : List Int32) (s f : Nat) (b : Option fl), dop fr ln fee g k p sg s f b = flc (fun c => ulf g (stp fr ln fee k (p, sg, s, f) c)) (2 * p.length) 0 b := by
  intro p
  induction p with
  | nil => intro sg s f b; rfl
  | cons x r ih =>
    obtain ⟨a, sd⟩ := x
    intro sg s f b
    rw [List.length_cons, show 2 * (r.length + 1) = 2 * r.length + 1 + 1 by omega, flc, flc]
    rw [show (0 + 1 + 1 : Nat) = 0 + 2 by omega, flc_sh (h' := fun c => ulf g (stp fr ln fee k (r, sg ++ [21], s, f) c)) (fun c b => by rw [stp_2]), ← ih, dop]
    have e0 : ulf g (stp fr ln fee k ((a, sd) :: r, sg, s, f) 0) b = if bsd fr ln r k sd = true then g ((k, sd) :: r) (sg ++ [nI k]) (s + cj fr ln a k) f b else b := by
      have : stp fr ln fee k ((a, sd) :: r, sg, s, f) 0 = if bsd fr ln r k sd = true then some ((k, sd) :: r, sg ++ [nI k], s + cj fr ln a k, f) else none := rfl
      rw [this]
      split
      · rfl
      · rfl
    have e1 : ∀ b, ulf g (stp fr ln fee k ((a, sd) :: r, sg, s, f) (0 + 1)) b = if ps fr ln k a = -9 then b else g ((k, ps fr ln k a) :: (a, sd) :: r) (sg ++ [20, nI k]) (s + fee) (f + 1) b := by
      intro b
      have : stp fr ln fee k ((a, sd) :: r, sg, s, f) (0 + 1) = if ps fr ln k a = -9 then none else some ((k, ps fr ln k a) :: (a, sd) :: r, sg ++ [20, nI k], s + fee, f + 1) := rfl
      rw [this]
      split
      · rfl
      · rfl
    rw [e0, e1]
/-- the choices, one after the other -/
def wk (fr ln : Nat → Int32) (fee : Nat) : List Nat → List Nat → fs → Option fs
  | [], _, t => some t
  | _ :: _, [], _ => none
  | c :: p, k :: ks, t => (stp fr ln fee k t c).bind (wk fr ln fee p ks)
def dpt : Nat → List Nat → Nat
  | d, [] => d
  | d, c :: p => dpt (d + c % 2 - c / 2) p
def vld : Nat → List Nat → Prop
  | _, [] => True
  | d, c :: p => c ≤ 2 * d + 1 ∧ vld (d + c % 2 - c / 2) p
def msg : List Nat → List Nat → List Int32
  | c :: p, k :: ks => cs c k ++ msg p ks
  | _, _ => []
theorem dpt_s : ∀ (p : List Nat) (d c : Nat), dpt d (p ++ [c]) = dpt d p + c % 2 - c / 2 := by
  intro p
  induction p with
  | nil => intro d c; rfl
  | cons x p ih => intro d c; exact ih _ c
theorem vld_s : ∀ (p : List Nat) (d c : Nat), vld d (p ++ [c]) ↔ vld d p ∧ c ≤ 2 * dpt d p + 1 := by
  intro p
  induction p with
  | nil => intro d c; exact ⟨fun h => ⟨trivial, h.1⟩, fun h => ⟨h.2, trivial⟩⟩
  | cons x p ih =>
    intro d c
    rw [List.cons_append, vld, vld, ih, dpt, and_assoc]
theorem wk_s {fr ln : Nat → Int32} {fee c : Nat} : ∀ (p ks : List Nat) (t : fs), p.length < ks.length → wk fr ln fee (p ++ [c]) ks t = (wk fr ln fee p ks t).bind (fun t => stp fr ln fee (ks.getD p.length 0) t c) := by
  intro p
  induction p with
  | nil =>
    intro ks t h
    cases ks with
    | nil => exact absurd h (by simp)
    | cons k ks =>
      show (stp fr ln fee k t c).bind (fun t => some t) = stp fr ln fee k t c
      cases stp fr ln fee k t c with
      | none => rfl
      | some t => rfl
  | cons x p ih =>
    intro ks t h
    cases ks with
    | nil => exact absurd h (by simp)
    | cons k ks =>
      simp only [List.length_cons] at h
      rw [List.cons_append, wk, wk]
      cases stp fr ln fee k t x with
      | none => rfl
      | some t =>
        show wk fr ln fee (p ++ [c]) ks t = (wk fr ln fee p ks t).bind _
        rw [ih ks t (by omega)]
        rfl
theorem cs_l (c k : Nat) : (cs c k).length = c / 2 + c % 2 + 1 := by
  unfold cs
  rw [List.length_append, List.length_replicate]
  split
  · simp only [List.length_cons, List.length_nil]; omega
  · simp only [List.length_cons, List.length_nil]; omega
theorem msg_l : ∀ (p ks : List Nat) (d : Nat), vld d p → (msg p ks).length + dpt d p ≤ d + 3 * p.length := by
  intro p
  induction p with
  | nil => intro ks d _; simp [msg, dpt]
  | cons c p ih =>
    intro ks d h
    cases ks with
    | nil =>
      have := ih [] _ h.2
      have h1 := h.1
      simp only [dpt, List.length_cons]
      have e : (msg p []).length = 0 := by cases p <;> rfl
      have e2 : (msg (c :: p) []).length = 0 := rfl
      omega
    | cons k ks =>
      have := ih ks _ h.2
      have h1 := h.1
      simp only [dpt, List.length_cons, msg, List.length_append, cs_l]
      omega
theorem stp_len {fr ln : Nat → Int32} {fee k : Nat} {t t' : fs} {c : Nat} (h : stp fr ln fee k t c = some t') : t'.1.length + c / 2 = t.1.length + c % 2 ∧ 0 < t'.1.length ∧ t'.2.1 = t.2.1 ++ cs c k ∧ t'.2.2.2 ≤ t.2.2.2 + 1 ∧ (fee ≤ 6442450944 → t'.2.2.1 ≤ t.2.2.1 + 6442450944) := by
  unfold stp at h
  have hl := List.length_drop (i := c / 2) (l := t.1)
  cases hd : t.1.drop (c / 2) with
  | nil => rw [hd] at h; cases h
  | cons x r =>
    obtain ⟨a, sd⟩ := x
    rw [hd] at h hl
    dsimp only at h
    simp only [List.length_cons] at hl
    have hcj := cj_le fr ln a k
    by_cases c1 : c % 2 = 1
    · rw [if_pos c1] at h
      split at h
      · cases h
      · cases h
        simp only [List.length_cons]
        refine ⟨by omega, by omega, trivial, by omega, fun _ => by omega⟩
    · rw [if_neg c1] at h
      split at h
      · cases h
        simp only [List.length_cons]
        refine ⟨by omega, by omega, trivial, by omega, fun _ => by omega⟩
      · cases h
theorem wk_len {fr ln : Nat → Int32} {fee : Nat} (hfee : fee ≤ 6442450944) : ∀ (p ks : List Nat) (t t' : fs), 0 < t.1.length → vld (t.1.length - 1) p → wk fr ln fee p ks t = some t' → t'.1.length = dpt (t.1.length - 1) p + 1 ∧ t'.2.1 = t.2.1 ++ msg p ks ∧ t'.2.2.2 ≤ t.2.2.2 + p.length ∧ t'.2.2.1 ≤ t.2.2.1 + p.length * 6442450944 := by
  intro p
  induction p with
  | nil =>
    intro ks t t' h0 _ h
    cases h
    refine ⟨by simp only [dpt]; omega, by simp [msg], by simp, by simp⟩
  | cons c p ih =>
    intro ks t t' h0 hv h
    cases ks with
    | nil => cases h
    | cons k ks =>
      rw [wk] at h
      cases hs : stp fr ln fee k t c with
      | none => rw [hs] at h; cases h
      | some t1 =>
        rw [hs] at h
        have h : wk fr ln fee p ks t1 = some t' := h
        obtain ⟨l1, l2, l3, l4, l5⟩ := stp_len hs
        have l5 := l5 hfee
        have hv1 := hv.1
        have e : t1.1.length - 1 = t.1.length - 1 + c % 2 - c / 2 := by omega
        obtain ⟨g1, g2, g3, g4⟩ := ih ks t1 t' l2 (by rw [e]; exact hv.2) h
        refine ⟨by rw [g1, e, dpt], by rw [g2, l3, msg, List.append_assoc], by simp only [List.length_cons]; omega, by simp only [List.length_cons]; omega⟩
/-- the best of all ways from these choices on -/
def ful (fr ln : Nat → Int32) (fee : Nat) (ks : List Nat) (t : fs) (p : List Nat) (b : Option fl) : Option fl := ulf (dfs fr ln fee (ks.drop p.length)) (wk fr ln fee p ks t) b
theorem ful_e {fr ln : Nat → Int32} {fee : Nat} (hfee : fee ≤ 6442450944) {ks : List Nat} {t : fs} {p : List Nat} (h0 : 0 < t.1.length) (hv : vld (t.1.length - 1) p) (hl : p.length < ks.length) (b : Option fl) : ful fr ln fee ks t p b = flc (fun c => ful fr ln fee ks t (p ++ [c])) (2 * dpt (t.1.length - 1) p + 2) 0 b := by
  have e1 : ks.drop p.length = ks.getD p.length 0 :: ks.drop (p.length + 1) := by
    rw [List.drop_eq_getElem_cons hl, List.getD_eq_getElem?_getD, List.getElem?_eq_getElem hl]
    rfl
  cases hw : wk fr ln fee p ks t with
  | none =>
    rw [ful, hw, flc_id]
    · rfl
    · intro c b
      rw [ful, wk_s _ _ _ hl, hw]
      rfl
  | some t' =>
    have hlen := (wk_len hfee p ks t t' h0 hv hw).1
    have e2 : ∀ c b, ful fr ln fee ks t (p ++ [c]) b = ulf (dfs fr ln fee (ks.drop (p.length + 1))) (stp fr ln fee (ks.getD p.length 0) t' c) b := by
      intro c b
      rw [ful, wk_s _ _ _ hl, hw, List.length_append, List.length_cons, List.length_nil]
      rfl
    have e3 : (fun c => ful fr ln fee ks t (p ++ [c])) = fun c => ulf (dfs fr ln fee (ks.drop (p.length + 1))) (stp fr ln fee (ks.getD p.length 0) (t'.1, t'.2.1, t'.2.2.1, t'.2.2.2) c) := by
      funext c b
      exact e2 c b
    rw [e3, ful, hw, e1, show 2 * dpt (t.1.length - 1) p + 2 = 2 * t'.1.length by omega, ← dop_flc]
    rfl
/-! ===== a look over a list of signs ===== -/
def lkl (fr ln gv nd : Nat → Int32) (n : Nat) : List Int32 → pa → Option pa
  | [], A => some A
  | s :: l, A => if lk_why fr ln nd n A s = 0 then lkl fr ln gv nd n l (lk_go fr ln gv A s) else none
theorem lkl_ap {fr ln gv nd : Nat → Int32} {n : Nat} : ∀ (l l' : List Int32) (A : pa), lkl fr ln gv nd n (l ++ l') A = (lkl fr ln gv nd n l A).bind (lkl fr ln gv nd n l') := by
  intro l
  induction l with
  | nil => intro l' A; rfl
  | cons s l ih =>
    intro l' A
    rw [List.cons_append, lkl, lkl]
    split
    · exact ih l' _
    · rfl
theorem lkl_run {fr ln gv nd : Nat → Int32} {n : Nat} {row : Nat → Int32} : ∀ (l : List Int32) (i : Nat) (A : pa), (∀ j, j < l.length → row (i + j) = l.getD j 0) → (∀ B, lkl fr ln gv nd n l A = some B → lk_run fr ln gv nd n row l.length i A = (if 1 < B.1.length then some (i + l.length, 7) else none, B)) ∧ (lkl fr ln gv nd n l A = none → (lk_run fr ln gv nd n row l.length i A).1 ≠ none) := by
  intro l
  induction l with
  | nil =>
    intro i A _
    refine ⟨fun B h => ?_, fun h => (by cases h)⟩
    cases h
    rfl
  | cons s l ih =>
    intro i A hr
    have h0 : row i = s := hr 0 (by simp)
    have ih := ih (i + 1) (lk_go fr ln gv A s) (fun j hj => by
      have := hr (j + 1) (by simp only [List.length_cons]; omega)
      rw [show i + 1 + j = i + (j + 1) by omega, this]
      rfl)
    rw [List.length_cons, lkl, lk_run, h0]
    split
    · refine ⟨fun B h => ?_, ih.2⟩
      rw [ih.1 B h, show i + 1 + l.length = i + (l.length + 1) by omega]
    · exact ⟨fun B h => (by cases h), fun _ h => (by cases h)⟩
def sim (A B : pa) : Prop := (∀ k, (A.2.1 k).isSome = (B.2.1 k).isSome) ∧ A.2.2.2.2.2.1 = B.2.2.2.2.2.1
def hd1 : fp → Option Nat
  | [] => none
  | q :: _ => some q.1
def stk : fp → List pf
  | [] => []
  | q :: r => (hd1 r, some q.1, q.2) :: stk r
def PW : fp → Prop
  | [] => True
  | q :: r => (r = [] → q.2 = -9) ∧ (r ≠ [] → q.2 ≠ -9) ∧ PW r
theorem PW_d : ∀ (j : Nat) (p : fp), PW p → PW (p.drop j) := by
  intro j
  induction j with
  | zero => intro p h; exact h
  | succ j ih =>
    intro p h
    cases p with
    | nil => exact h
    | cons q r => exact ih r h.2.2
theorem stk_l : ∀ p : fp, (stk p).length = p.length := by
  intro p
  induction p with
  | nil => rfl
  | cons q r ih => rw [stk, List.length_cons, List.length_cons, ih]
theorem lkl_cl {fr ln gv nd : Nat → Int32} {n : Nat} {T : (Nat → Option pt) × Nat × Nat × Nat × Int32 × Int64} : ∀ (j : Nat) (p : fp), j < p.length → lkl fr ln gv nd n (List.replicate j 21) (stk p, T) = some (stk (p.drop j), T) := by
  intro j
  induction j with
  | zero => intro p _; rfl
  | succ j ih =>
    intro p h
    cases p with
    | nil => exact absurd h (by simp)
    | cons q r =>
      simp only [List.length_cons] at h
      cases r with
      | nil => exact absurd h (by simp)
      | cons q2 r =>
        rw [List.replicate_succ, lkl, if_pos (show lk_why fr ln nd n (stk (q :: q2 :: r), T) 21 = 0 from rfl)]
        exact ih (q2 :: r) (by omega)
theorem s_20 {k : Nat} (hk : k < 8) : ¬ nI k = 20 := by
  rw [nl20, ni_eq (by omega) (by omega)]
  omega
theorem s_21 {k : Nat} (hk : k < 8) : ¬ nI k = 21 := by
  rw [nl21, ni_eq (by omega) (by omega)]
  omega
theorem why_sc {fr ln nd : Nat → Int32} {n k : Nat} {A B : pa} (hk : k < 8) (hs : sim A B) (hB : lk_why fr ln nd n B (nI k) = 0) : lk_why fr ln nd n A (nI k) = if lk_on fr ln A k = true then 0 else 4 := by
  have k1 := s_20 hk
  have k2 := s_21 hk
  simp only [lk_why, k1, k2, if_false, lk_sc, ni_cl (a := k) (by omega)] at hB ⊢
  by_cases c1 : ¬ (0 ≤ nI k ∧ nI k < nI n)
  · rw [if_pos c1] at hB; cases hB
  rw [if_neg c1] at hB ⊢
  by_cases c2 : (B.2.1 k).isSome = true
  · rw [if_pos c2] at hB; cases hB
  rw [if_neg c2] at hB
  rw [if_neg (by rw [hs.1 k]; exact c2)]
  by_cases c3 : ¬ nd k &&& (B.2.2.2.2.2.1 ^^^ (-1)) = 0
  · rw [if_pos c3] at hB; cases hB
  rw [hs.2, if_neg c3]
theorem go_sc {fr ln gv : Nat → Int32} {k : Nat} (hk : k < 8) {t l : Option Nat} {sd : Int32} {r : List pf} {T : (Nat → Option pt) × Nat × Nat × Nat × Int32 × Int64} : lk_go fr ln gv ((t, l, sd) :: r, T) (nI k) = ((t, some k, lk_sd fr ln t k) :: r, lk_put T.1 k (T.2.1, r.length, t, lk_sd fr ln t k), T.2.1 + 1, T.2.2.1, T.2.2.2.1, T.2.2.2.2.1 ||| gv k, lk_js fr ln l k T.2.2.2.2.2) := by
  have k1 := s_20 hk
  have k2 := s_21 hk
  simp only [lk_go, k1, k2, if_false, ni_cl (a := k) (by omega)]
theorem sim_go {fr ln gv : Nat → Int32} {k : Nat} (hk : k < 8) {A B : pa} (hs : sim A B) (hA : A.1 ≠ []) (hB : B.1 ≠ []) : sim (lk_go fr ln gv A (nI k)) (lk_go fr ln gv B (nI k)) := by
  obtain ⟨sA, TA⟩ := A
  obtain ⟨sB, TB⟩ := B
  cases sA with
  | nil => exact absurd rfl hA
  | cons x rA =>
    cases sB with
    | nil => exact absurd rfl hB
    | cons y rB =>
      obtain ⟨t, l, sd⟩ := x
      obtain ⟨t', l', sd'⟩ := y
      rw [go_sc hk, go_sc hk]
      obtain ⟨h1, h2⟩ := hs
      refine ⟨fun j => ?_, ?_⟩
      · simp only [lk_put]
        split
        · rfl
        · exact h1 j
      · show TA.2.2.2.2.1 ||| gv k = TB.2.2.2.2.1 ||| gv k
        rw [show TA.2.2.2.2.1 = TB.2.2.2.2.1 from h2]
def CL (fee : Nat) (t : fs) (A B : pa) : Prop := A.1 = stk t.1 ∧ sim A B ∧ A.2.2.2.1 = t.2.2.2 ∧ A.2.2.2.2.2.2 + lN fee * lN t.2.2.2 = lN t.2.2.1 ∧ PW t.1 ∧ t.1 ≠ []
theorem stp_lk {fr ln gv nd : Nat → Int32} {n fee k c : Nat} {t : fs} {A B : pa} (hC : CL fee t A B) (hB : lk_why fr ln nd n B (nI k) = 0) (hB1 : B.1 ≠ []) (hk : k < 8) (hc : c / 2 < t.1.length) :
    (∀ t', stp fr ln fee k t c = some t' → ∃ A', lkl fr ln gv nd n (cs c k) A = some A' ∧ CL fee t' A' (lk_go fr ln gv B (nI k))) ∧ (stp fr ln fee k t c = none → lkl fr ln gv nd n (cs c k) A = none) := by
  obtain ⟨c1, c2, c3, c4, c5, c6⟩ := hC
  obtain ⟨sA, told, cnt, opn, deep, gvn, js⟩ := A
  dsimp only at c1 c3 c4
  subst c1
  have hP := PW_d (c / 2) t.1 c5
  have hL := List.length_drop (i := c / 2) (l := t.1)
  unfold stp
  unfold cs
  rw [lkl_ap, lkl_cl _ _ hc]
  cases hd : t.1.drop (c / 2) with
  | nil =>
    rw [hd] at hL
    simp only [List.length_nil] at hL
    omega
  | cons x r =>
    obtain ⟨a, sd⟩ := x
    rw [hd] at hP
    obtain ⟨p1, p2, p3⟩ := hP
    dsimp only at p1 p2
    dsimp only [Option.bind]
    by_cases o : c % 2 = 1
    · rw [if_pos o, if_pos o, lkl, if_pos (show lk_why fr ln nd n (stk ((a, sd) :: r), told, cnt, opn, deep, gvn, js) 20 = 0 from rfl)]
      rw [show lk_go fr ln gv (stk ((a, sd) :: r), told, cnt, opn, deep, gvn, js) 20 = ((some a, none, -9) :: stk ((a, sd) :: r), told, cnt, opn + 1, (if deep < (stk r).length + 1 then (stk r).length + 1 else deep), gvn, js) from rfl]
      generalize (if deep < (stk r).length + 1 then (stk r).length + 1 else deep) = deep'
      have hs : sim ((some a, none, -9) :: stk ((a, sd) :: r), told, cnt, opn + 1, deep', gvn, js) B := c2
      rw [lkl, why_sc hk hs hB]
      by_cases e : ps fr ln k a = -9
      · rw [if_pos e]
        have z : ¬ lk_on fr ln ((some a, none, -9) :: stk ((a, sd) :: r), told, cnt, opn + 1, deep', gvn, js) k = true := by
          simp only [lk_on, e]
          decide
        rw [if_neg z]
        exact ⟨fun t' h => (by cases h), fun _ => rfl⟩
      · rw [if_neg e]
        have z : lk_on fr ln ((some a, none, -9) :: stk ((a, sd) :: r), told, cnt, opn + 1, deep', gvn, js) k = true := by
          simp only [lk_on, e]
          decide
        rw [if_pos z]
        refine ⟨fun t' h => ?_, fun h => (by cases h)⟩
        cases h
        refine ⟨_, rfl, ?_⟩
        refine ⟨?_, sim_go hk hs (by simp) hB1, ?_, ?_, ⟨fun h => (by cases h), fun _ => e, p1, p2, p3⟩, by simp⟩
        · rw [go_sc hk]
          rfl
        · rw [go_sc hk]
          show opn + 1 = _
          rw [c3]
        · rw [go_sc hk]
          show js + lN fee * lN (t.2.2.2 + 1) = lN (t.2.2.1 + fee)
          rw [← lN_add t.2.2.1 fee, ← c4, ← lN_add t.2.2.2 1, show lN 1 = 1 by decide +kernel]
          grind
    · rw [if_neg o, if_neg o, lkl]
      have hs : sim (stk ((a, sd) :: r), told, cnt, opn, deep, gvn, js) B := c2
      rw [why_sc hk hs hB]
      have z : lk_on fr ln (stk ((a, sd) :: r), told, cnt, opn, deep, gvn, js) k = bsd fr ln r k sd := by
        cases r with
        | nil => rfl
        | cons q r =>
          have h9 := p2 (by simp)
          show (decide (¬ ps fr ln k q.1 = -9) && (false || decide (ps fr ln k q.1 = sd))) = decide (ps fr ln k q.1 = sd)
          by_cases e : ps fr ln k q.1 = sd
          · rw [e]
            simp [h9]
          · simp [e]
      rw [z]
      by_cases e : bsd fr ln r k sd = true
      · rw [if_pos e, if_pos e, if_pos rfl]
        refine ⟨fun t' h => ?_, fun h => (by cases h)⟩
        cases h
        refine ⟨_, rfl, ?_⟩
        refine ⟨?_, sim_go hk hs (by simp [stk]) hB1, ?_, ?_, ⟨p1, p2, p3⟩, by simp⟩
        · rw [stk, go_sc hk]
          show (hd1 r, some k, lk_sd fr ln (hd1 r) k) :: stk r = (hd1 r, some k, sd) :: stk r
          cases r with
          | nil => rw [p1 rfl]; rfl
          | cons q r =>
            rw [show lk_sd fr ln (hd1 (q :: r)) k = sd from of_decide_eq_true e]
        · rw [stk, go_sc hk]
          exact c3
        · rw [stk, go_sc hk]
          show (js + pj fr ln a k) + lN fee * lN t.2.2.2 = lN (t.2.2.1 + cj fr ln a k)
          rw [← lN_add t.2.2.1, ← c4, pj_cj]
          grind
      · rw [if_neg e, if_neg e, if_neg (by decide)]
        exact ⟨fun t' h => (by cases h), fun _ => rfl⟩
theorem wk_lk {fr ln gv nd : Nat → Int32} {n fee : Nat} : ∀ (p ks : List Nat) (t : fs) (A B : pa), p.length ≤ ks.length → CL fee t A B → B.1 ≠ [] → lkl fr ln gv nd n (ks.map nI) B ≠ none → (∀ k, k ∈ ks → k < 8) → vld (t.1.length - 1) p →
    (∀ t', wk fr ln fee p ks t = some t' → ∃ A' B', lkl fr ln gv nd n (msg p ks) A = some A' ∧ CL fee t' A' B') ∧ (wk fr ln fee p ks t = none → lkl fr ln gv nd n (msg p ks) A = none) := by
  intro p
  induction p with
  | nil =>
    intro ks t A B _ hC _ _ _ _
    refine ⟨fun t' h => ?_, fun h => (by cases h)⟩
    cases h
    exact ⟨A, B, by simp [msg, lkl], hC⟩
  | cons c p ih =>
    intro ks t A B hl hC hB hr h8 hv
    cases ks with
    | nil => exact absurd hl (by simp)
    | cons k ks =>
      simp only [List.length_cons] at hl
      have hk : k < 8 := h8 k (List.mem_cons_self ..)
      have h0 : 0 < t.1.length := List.length_pos_iff.mpr hC.2.2.2.2.2
      have hv1 := hv.1
      rw [List.map_cons, lkl] at hr
      by_cases hw : lk_why fr ln nd n B (nI k) = 0
      · rw [if_pos hw] at hr
        obtain ⟨s1, s2⟩ := stp_lk (gv := gv) (c := c) hC hw hB hk (by omega)
        rw [wk, msg, lkl_ap]
        cases hs : stp fr ln fee k t c with
        | none =>
          rw [s2 hs]
          exact ⟨fun t' h => (by cases h), fun _ => rfl⟩
        | some t1 =>
          obtain ⟨A1, e1, C1⟩ := s1 t1 hs
          obtain ⟨l1, l2, -⟩ := stp_len hs
          rw [e1]
          have hB2 : (lk_go fr ln gv B (nI k)).1 ≠ [] := by
            obtain ⟨sB, TB⟩ := B
            cases sB with
            | nil => exact absurd rfl hB
            | cons y rB =>
              obtain ⟨t', l', sd'⟩ := y
              rw [go_sc hk]
              simp
          exact ih ks t1 A1 _ (by omega) C1 hB2 hr (fun q hq => h8 q (List.mem_cons_of_mem _ hq)) (by rw [show t1.1.length - 1 = t.1.length - 1 + c % 2 - c / 2 by omega]; exact hv.2)
      · rw [if_neg hw] at hr
        exact absurd rfl hr
/-- the first scene told -/
def ft (a : Nat) : fs := ([(a, -9)], [nI a], 0, 0)
def made (a : Nat) (ks p : List Nat) : List Int32 := nI a :: (msg p ks ++ List.replicate (dpt 0 p) 21)
theorem made_l {a : Nat} {ks p : List Nat} (hv : vld 0 p) (hp : p.length ≤ 7) : (made a ks p).length ≤ 22 := by
  have := msg_l p ks 0 hv
  simp only [made, List.length_cons, List.length_append, List.length_replicate]
  omega
/-- the look at the signs that the choices make -/
theorem made_lk {fr ln gv nd : Nat → Int32} {n fee a : Nat} {ks p : List Nat} {row : Nat → Int32} (hfee : fee ≤ 1000000) (hr : lkl fr ln gv nd n ((a :: ks).map nI) lk_0 ≠ none) (h8 : ∀ k, k ∈ a :: ks → k < 8) (hv : vld 0 p) (hl : p.length = ks.length) (hrow : ∀ j, j < (made a ks p).length → row j = (made a ks p).getD j 0) :
    (∀ t, wk fr ln fee p ks (ft a) = some t → made a ks p = t.2.1 ++ List.replicate (t.1.length - 1) 21 ∧ t.2.2.2 ≤ p.length ∧ t.2.2.1 ≤ p.length * 6442450944 ∧ (lk_run fr ln gv nd n row (made a ks p).length 0 lk_0).1 = none ∧ (lk_run fr ln gv nd n row (made a ks p).length 0 lk_0).2.2.2.2.1 = t.2.2.2 ∧ (lk_run fr ln gv nd n row (made a ks p).length 0 lk_0).2.2.2.2.2.2.2 + lN fee * lN t.2.2.2 = lN t.2.2.1) ∧
    (wk fr ln fee p ks (ft a) = none → (lk_run fr ln gv nd n row (made a ks p).length 0 lk_0).1 ≠ none) := by
  obtain ⟨g1, g2⟩ := lkl_run (fr := fr) (ln := ln) (gv := gv) (nd := nd) (n := n) (row := row) (made a ks p) 0 lk_0 (fun j hj => by rw [Nat.zero_add]; exact hrow j hj)
  have ha : a < 8 := h8 a (List.mem_cons_self ..)
  rw [List.map_cons, lkl] at hr
  by_cases hw : lk_why fr ln nd n lk_0 (nI a) = 0
  · rw [if_pos hw] at hr
    have e0 : lk_go fr ln gv lk_0 (nI a) = ([(none, some a, -9)], lk_put (fun _ => none) a (0, 0, none, -9), 1, 0, 0, 0 ||| gv a, 0) := by
      rw [lk_0, go_sc ha]
      rfl
    have hC : CL fee (ft a) (lk_go fr ln gv lk_0 (nI a)) (lk_go fr ln gv lk_0 (nI a)) := by
      refine ⟨by rw [e0]; rfl, ⟨fun _ => rfl, rfl⟩, by rw [e0]; rfl, ?_, ⟨fun _ => rfl, fun h => absurd rfl h, trivial⟩, by simp [ft]⟩
      rw [e0]
      show (0 : Int64) + lN fee * lN 0 = lN 0
      rw [show lN 0 = 0 by decide +kernel]
      grind
    obtain ⟨w1, w2⟩ := wk_lk (gv := gv) (nd := nd) (n := n) p ks (ft a) _ _ (by omega) hC (by rw [e0]; simp) hr (fun k hk => h8 k (List.mem_cons_of_mem _ hk)) hv
    have em : lkl fr ln gv nd n (made a ks p) lk_0 = (lkl fr ln gv nd n (msg p ks) (lk_go fr ln gv lk_0 (nI a))).bind (lkl fr ln gv nd n (List.replicate (dpt 0 p) 21)) := by
      rw [made, lkl, if_pos hw, lkl_ap]
    refine ⟨fun t ht => ?_, fun ht => g2 (by rw [em, w2 ht]; rfl)⟩
    obtain ⟨A', B', a1, a2⟩ := w1 t ht
    obtain ⟨b1, b2, b3, b4⟩ := wk_len (by omega) p ks (ft a) t (by simp [ft]) hv ht
    have b1 : t.1.length = dpt 0 p + 1 := b1
    obtain ⟨c1, -, c3, c4, -, -⟩ := a2
    obtain ⟨sA, TA⟩ := A'
    dsimp only at c1 c3 c4
    subst c1
    have e2 : lkl fr ln gv nd n (made a ks p) lk_0 = some (stk (t.1.drop (dpt 0 p)), TA) := by
      rw [em, a1]
      exact lkl_cl _ _ (by omega)
    have e3 := g1 _ e2
    have e4 : ¬ 1 < (stk (t.1.drop (dpt 0 p))).length := by
      rw [stk_l, List.length_drop]
      omega
    rw [e3]
    refine ⟨?_, ?_, ?_, if_neg e4, c3, c4⟩
    · rw [b2, made, ft, b1]
      simp
    · simp only [ft] at b3
      omega
    · simp only [ft] at b4
      omega
  · rw [if_neg hw] at hr
    exact absurd rfl hr
