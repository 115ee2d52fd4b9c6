/-! ===== a telling gone through: the pure words ===== -/
/-- a frame: its teller, the last scene of it, its side -/
abbrev pf : Type := Option Nat × Option Nat × Int32
/-- what is known of a told scene: which one, how deep, its teller, its side -/
abbrev pt : Type := Nat × Nat × Option Nat × Int32
/-- frames, scenes told, how many, opened, deepest, given, jumps -/
abbrev pa : Type := List pf × (Nat → Option pt) × Nat × Nat × Nat × Int32 × Int64
def lk_0 : pa := ([(none, none, -9)], fun _ => none, 0, 0, 0, 0, 0)
def lk_on (fr ln : Nat → Int32) (A : pa) (k : Nat) : Bool := match A.1 with
  | (some t, l, sd) :: _ => decide (¬ ps fr ln k t = -9) && (l.isNone || decide (ps fr ln k t = sd))
  | _ => true
def lk_sc (fr ln nd : Nat → Int32) (n : Nat) (A : pa) (s : Int32) : Nat :=
  if ¬ (0 ≤ s ∧ s < nI n) then 1
  else if (A.2.1 s.toNatClampNeg).isSome = true then 2
  else if ¬ nd s.toNatClampNeg &&& (A.2.2.2.2.2.1 ^^^ (-1)) = 0 then 3
  else if lk_on fr ln A s.toNatClampNeg = true then 0 else 4
/-- why a sign is wrong; 0: it isn't -/
def lk_why (fr ln nd : Nat → Int32) (n : Nat) (A : pa) (s : Int32) : Nat :=
  if s = 20 then (match A.1 with
    | (_, some _, _) :: _ => 0
    | _ => 5)
  else if s = 21 then (match A.1 with
    | (some _, some _, _) :: _ => 0
    | _ => 6)
  else lk_sc fr ln nd n A s
def lk_js (fr ln : Nat → Int32) (l : Option Nat) (k : Nat) (js : Int64) : Int64 := match l with
  | none => js
  | some a => js + pj fr ln a k
def lk_sd (fr ln : Nat → Int32) (t : Option Nat) (k : Nat) : Int32 := match t with
  | none => -9
  | some t => ps fr ln k t
def lk_put (f : Nat → Option pt) (k : Nat) (x : pt) : Nat → Option pt := fun j => if j = k then some x else f j
/-- a sign taken -/
def lk_go (fr ln gv : Nat → Int32) (A : pa) (s : Int32) : pa := match A.1 with
  | (t, l, sd) :: r =>
    if s = 20 then ((l, none, -9) :: (t, l, sd) :: r, A.2.1, A.2.2.1, A.2.2.2.1 + 1, (if A.2.2.2.2.1 < r.length + 1 then r.length + 1 else A.2.2.2.2.1), A.2.2.2.2.2.1, A.2.2.2.2.2.2)
    else if s = 21 then (r, A.2)
    else ((t, some s.toNatClampNeg, lk_sd fr ln t s.toNatClampNeg) :: r, lk_put A.2.1 s.toNatClampNeg (A.2.2.1, r.length, t, lk_sd fr ln t s.toNatClampNeg), A.2.2.1 + 1, A.2.2.2.1, A.2.2.2.2.1, A.2.2.2.2.2.1 ||| gv s.toNatClampNeg, lk_js fr ln l s.toNatClampNeg A.2.2.2.2.2.2)
  | [] => A
/-- m signs from place i on -/
def lk_run (fr ln gv nd : Nat → Int32) (n : Nat) (row : Nat → Int32) : Nat → Nat → pa → Option (Nat × Nat) × pa
  | 0, i, A => (if 1 < A.1.length then some (i, 7) else none, A)
  | m + 1, i, A => if lk_why fr ln nd n A (row i) = 0 then lk_run fr ln gv nd n row m (i + 1) (lk_go fr ln gv A (row i)) else (some (i, lk_why fr ln nd n A (row i)), A)
/-- the whole look -/
def lk (v : pv) (row : Nat → Int32) (m : Nat) : Option (Nat × Nat) × pa := lk_run v.1 v.2.1 v.2.2.1 v.2.2.2.1 (v_n v).toNatClampNeg row m 0 lk_0
def lk_ch : List pf → Prop
  | [] => False
  | [f] => f.1 = none
  | f :: g :: r => (∃ a, f.1 = some a ∧ g.2.1 = some a) ∧ lk_ch (g :: r)
/-- what holds on the way -/
def LI (n i : Nat) (A : pa) : Prop := lk_ch A.1 ∧ (∀ f ∈ A.1, (f.2.1 = none → f.2.2 = -9) ∧ (f.1 = none → f.2.2 = -9) ∧ ((∃ t, f.1 = some t) → (∃ a, f.2.1 = some a) → f.2.2 ≠ -9) ∧ ∀ a, f.2.1 = some a → ∃ u dd, A.2.1 a = some (u, dd, f.1, f.2.2)) ∧ (∀ (k : Nat) (p : pt), A.2.1 k = some p → k < n ∧ p.1 < A.2.2.1) ∧ A.1.length ≤ i + 1 ∧ A.2.2.1 ≤ i ∧ A.2.2.2.1 ≤ i ∧ A.2.2.2.2.1 ≤ i
theorem LI_0 (n : Nat) : LI n 0 lk_0 := by
  refine ⟨rfl, fun f hf => ?_, fun k p h => (by cases h), (by simp [lk_0]), Nat.le_refl _, Nat.le_refl _, Nat.le_refl _⟩
  simp only [lk_0, List.mem_singleton] at hf
  subst hf
  exact ⟨fun _ => rfl, fun _ => rfl, fun h => (by obtain ⟨t, h⟩ := h; cases h), fun a h => (by cases h)⟩
theorem lk_ch_top {f : pf} {r : List pf} (h : lk_ch (f :: r)) : f.1 = none ∧ r = [] ∨ ∃ a g r', r = g :: r' ∧ f.1 = some a ∧ g.2.1 = some a ∧ lk_ch (g :: r') := by
  cases r with
  | nil => exact Or.inl ⟨h, rfl⟩
  | cons g r' =>
    obtain ⟨⟨a, h1, h2⟩, h3⟩ := h
    exact Or.inr ⟨a, g, r', rfl, h1, h2, h3⟩
theorem lk_ch_re {t l : Option Nat} {sd : Int32} {r : List pf} (l' : Option Nat) (sd' : Int32) (h : lk_ch ((t, l, sd) :: r)) : lk_ch ((t, l', sd') :: r) := by
  cases r with
  | nil => exact h
  | cons g r' => exact h
theorem LI_go {fr ln gv nd : Nat → Int32} {n i : Nat} {A : pa} {s : Int32} (hn : n ≤ 8) (h : LI n i A) (hw : lk_why fr ln nd n A s = 0) : LI n (i + 1) (lk_go fr ln gv A s) := by
  obtain ⟨st, told, cnt, opn, deep, gvn, js⟩ := A
  obtain ⟨h1, h2, h3, h4, h5, h6, h7⟩ := h
  dsimp only at h1 h2 h3 h4 h5 h6 h7
  cases st with
  | nil => exact h1.elim
  | cons f r =>
    obtain ⟨t, l, sd⟩ := f
    by_cases s20 : s = 20
    · subst s20
      cases l with
      | none => simp [lk_why] at hw
      | some a =>
        have e : lk_go fr ln gv ((t, some a, sd) :: r, told, cnt, opn, deep, gvn, js) 20 = ((some a, none, -9) :: (t, some a, sd) :: r, told, cnt, opn + 1, (if deep < r.length + 1 then r.length + 1 else deep), gvn, js) := rfl
        rw [e]
        simp only [List.length_cons] at h4
        refine ⟨⟨⟨a, rfl, rfl⟩, h1⟩, fun f hf => ?_, h3, (by simp only [List.length_cons]; omega), (by show cnt ≤ i + 1; omega), (by show opn + 1 ≤ i + 1; omega), ?_⟩
        · rcases List.mem_cons.mp hf with rfl | hf
          · exact ⟨fun _ => rfl, fun h => rfl, fun _ h => (by obtain ⟨q, h⟩ := h; cases h), fun q h => (by cases h)⟩
          · exact h2 f hf
        · show (if deep < r.length + 1 then r.length + 1 else deep) ≤ i + 1
          split <;> omega
    · by_cases s21 : s = 21
      · subst s21
        rcases lk_ch_top h1 with ⟨q1, q2⟩ | ⟨a, g, r', rfl, q1, q2, q3⟩
        · dsimp only at q1
          subst q1
          simp [lk_why] at hw
        · have e : lk_go fr ln gv ((t, l, sd) :: g :: r', told, cnt, opn, deep, gvn, js) 21 = (g :: r', told, cnt, opn, deep, gvn, js) := rfl
          rw [e]
          simp only [List.length_cons] at h4
          exact ⟨q3, fun f hf => h2 f (List.mem_cons_of_mem _ hf), h3, (by simp only [List.length_cons]; omega), (by show cnt ≤ i + 1; omega), (by show opn ≤ i + 1; omega), (by show deep ≤ i + 1; omega)⟩
      · have e : lk_go fr ln gv ((t, l, sd) :: r, told, cnt, opn, deep, gvn, js) s = ((t, some s.toNatClampNeg, lk_sd fr ln t s.toNatClampNeg) :: r, lk_put told s.toNatClampNeg (cnt, r.length, t, lk_sd fr ln t s.toNatClampNeg), cnt + 1, opn, deep, gvn ||| gv s.toNatClampNeg, lk_js fr ln l s.toNatClampNeg js) := by
          simp only [lk_go, s20, s21, if_false]
        rw [e]
        simp only [lk_why, s20, s21, if_false, lk_sc] at hw
        by_cases c1 : ¬ (0 ≤ s ∧ s < nI n)
        · rw [if_pos c1] at hw; cases hw
        rw [if_neg c1] at hw
        by_cases c2 : (told s.toNatClampNeg).isSome = true
        · rw [if_pos c2] at hw; cases hw
        rw [if_neg c2] at hw
        by_cases c3 : ¬ nd s.toNatClampNeg &&& (gvn ^^^ (-1)) = 0
        · rw [if_pos c3] at hw; cases hw
        rw [if_neg c3] at hw
        by_cases c4 : lk_on fr ln ((t, l, sd) :: r, told, cnt, opn, deep, gvn, js) s.toNatClampNeg = true
        · have c1 := Classical.not_not.mp c1
          obtain ⟨k, hk, rfl⟩ := vi_nI (n := n) (by omega) c1.1 c1.2
          rw [ni_cl (by omega)] at c2 c4 ⊢
          refine ⟨lk_ch_re _ _ h1, fun f hf => ?_, fun j p hj => ?_, (by simp only [List.length_cons] at h4 ⊢; omega), (by show cnt + 1 ≤ i + 1; omega), (by show opn ≤ i + 1; omega), (by show deep ≤ i + 1; omega)⟩
          · rcases List.mem_cons.mp hf with rfl | hf
            · refine ⟨fun h => (by cases h), fun h => ?_, fun ht _ => ?_, fun q h => ?_⟩
              · dsimp only at h ⊢
                subst h
                rfl
              · obtain ⟨t', ht⟩ := ht
                dsimp only at ht ⊢
                subst ht
                simp only [lk_on, Bool.and_eq_true, decide_eq_true_eq] at c4
                exact c4.1
              · cases h
                exact ⟨cnt, r.length, (by simp [lk_put])⟩
            · obtain ⟨q1, q2, q3, q4⟩ := h2 f (List.mem_cons_of_mem _ hf)
              refine ⟨q1, q2, q3, fun a ha => ?_⟩
              obtain ⟨u, dd, hu⟩ := q4 a ha
              refine ⟨u, dd, ?_⟩
              have hak : a ≠ k := fun e => c2 (by rw [← e, hu]; rfl)
              simp only [lk_put, hak, if_false]
              exact hu
          · simp only [lk_put] at hj
            split at hj
            · rename_i hjk
              cases hj
              exact ⟨(by rw [hjk]; exact hk), Nat.lt_succ_self _⟩
            · obtain ⟨q1, q2⟩ := h3 j p hj
              exact ⟨q1, Nat.lt_succ_of_lt q2⟩
        · rw [if_neg c4] at hw; cases hw
/-- at the end: what holds of what came out -/
theorem lk_run_LI {fr ln gv nd : Nat → Int32} {n : Nat} (hn : n ≤ 8) {row : Nat → Int32} : ∀ (m i : Nat) (A : pa), LI n i A → ∃ j, j ≤ i + m ∧ LI n j (lk_run fr ln gv nd n row m i A).2 := by
  intro m
  induction m with
  | zero => intro i A h; exact ⟨i, Nat.le_refl _, h⟩
  | succ m ih =>
    intro i A h
    unfold lk_run
    split
    · rename_i hw
      obtain ⟨j, h1, h2⟩ := ih (i + 1) _ (LI_go (gv := gv) hn h hw)
      exact ⟨j, (by omega), h2⟩
    · exact ⟨i, (by omega), h⟩
