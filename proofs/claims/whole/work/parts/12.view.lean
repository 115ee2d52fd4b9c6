/-! ===== the shared view, and what each simple call does to it ===== -/
abbrev pv : Type := (Nat → Int32) × (Nat → Int32) × (Nat → Int32) × (Nat → Int32) × (Nat → Int32) × Int32 × Int32 × Int32 × Int32
def vC (I : mm_I) : pv := (I 2, I 3, I 4, I 5, I 6, I 1 4, I 0 2, I 0 3, I 0 4)
def vR (J : mm_I) : pv := (J 1, J 2, J 3, J 4, J 5, J 0 0, J 0 6, J 0 5, J 0 8)
/-- a row written at one place, as a row -/
theorem uif (I : mm_I) (x y : Nat) (a : Int32) (k : Nat) : mm_ui I x y a k = if k = x then upd (I k) y a else I k := by
  split
  · rename_i h
    subst h
    exact mm_ui_row I k y a
  · rename_i h
    exact mm_ui_off I y a h
theorem uia (I : mm_I) (x y : Nat) (a : Int32) (k j : Nat) : mm_ui I x y a k j = if k = x then (if j = y then a else I k j) else I k j := rfl
/-- what holds of a view at every time -/
def vok (v : pv) : Prop := ∃ n ns : Nat, v.2.2.2.2.2.1 = nI n ∧ n ≤ 8 ∧ v.2.2.2.2.2.2.1 = nI ns ∧ ns ≤ 40 ∧ (∀ k, k < n → 1 ≤ v.2.1 k ∧ fi (pe v.1 v.2.1 k) ∧ (0 ≤ v.2.2.1 k ∧ v.2.2.1 k ≤ 255) ∧ (0 ≤ v.2.2.2.1 k ∧ v.2.2.2.1 k ≤ 255)) ∧ (∀ i, i < ns → (0 ≤ v.2.2.2.2.1 i ∧ v.2.2.2.2.1 i < 8) ∨ v.2.2.2.2.1 i = 20 ∨ v.2.2.2.2.1 i = 21) ∧ 0 ≤ v.2.2.2.2.2.2.2.1 ∧ v.2.2.2.2.2.2.2.1 ≤ 1000000
abbrev v_n (v : pv) : Int32 := v.2.2.2.2.2.1
abbrev v_ns (v : pv) : Int32 := v.2.2.2.2.2.2.1
abbrev v_fee (v : pv) : Int32 := v.2.2.2.2.2.2.2.1
abbrev is_sc (v : pv) (k : Int32) : Prop := 0 ≤ k ∧ k < v_n v
def q_scene (v : pv) (a b c e : Int32) : pv × Int32 :=
  if b < 1 ∨ ¬ (0 ≤ c ∧ c ≤ 255) ∨ ¬ (0 ≤ e ∧ e ≤ 255) then (v, -2)
  else if 8 ≤ v_n v then (v, -4)
  else if ¬ fi (a.toInt64 + b.toInt64) then (v, -5)
  else ((upd v.1 (v_n v).toNatClampNeg a, upd v.2.1 (v_n v).toNatClampNeg b, upd v.2.2.1 (v_n v).toNatClampNeg c, upd v.2.2.2.1 (v_n v).toNatClampNeg e, v.2.2.2.2.1, v_n v + 1, v.2.2.2.2.2.2), v_n v)
def q_ofScene (v : pv) (k w : Int32) : pv × Int64 :=
  if ¬ is_sc v k then (v, -9223372036854775808)
  else if w = 0 then (v, (v.1 k.toNatClampNeg).toInt64)
  else if w = 1 then (v, (v.2.1 k.toNatClampNeg).toInt64)
  else if w = 2 then (v, pe v.1 v.2.1 k.toNatClampNeg)
  else if w = 3 then (v, (v.2.2.1 k.toNatClampNeg).toInt64)
  else if w = 4 then (v, (v.2.2.2.1 k.toNatClampNeg).toInt64)
  else (v, -9223372036854775808)
def q_move (v : pv) (k e : Int32) : pv × Int32 :=
  if ¬ is_sc v k then (v, -1)
  else if ¬ (fi ((v.1 k.toNatClampNeg).toInt64 + e.toInt64) ∧ fi (pe v.1 v.2.1 k.toNatClampNeg + e.toInt64)) then (v, -5)
  else ((upd v.1 k.toNatClampNeg (v.1 k.toNatClampNeg + e), v.2), 1)
def q_stretch (v : pv) (k t : Int32) : pv × Int32 :=
  if ¬ is_sc v k then (v, -1)
  else if t < 1 then (v, -2)
  else if ¬ (fi ((v.2.1 k.toNatClampNeg).toInt64 * t.toInt64) ∧ fi ((v.1 k.toNatClampNeg).toInt64 + (v.2.1 k.toNatClampNeg).toInt64 * t.toInt64)) then (v, -5)
  else ((v.1, upd v.2.1 k.toNatClampNeg ((v.2.1 k.toNatClampNeg).toInt64 * t.toInt64).toInt32, v.2.2), 1)
def q_drop (v : pv) : pv × Int32 :=
  if v_n v ≤ 0 then (v, -3) else ((v.1, v.2.1, v.2.2.1, v.2.2.2.1, v.2.2.2.2.1, v_n v - 1, v.2.2.2.2.2.2), v_n v - 1)
def q_fee (v : pv) (a : Int32) : pv × Int32 :=
  if a < 0 ∨ 1000000 < a then (v, -2) else ((v.1, v.2.1, v.2.2.1, v.2.2.2.1, v.2.2.2.2.1, v_n v, v_ns v, a, v.2.2.2.2.2.2.2.2), v_fee v)
def q_jump (v : pv) (a b : Int32) : pv × Int64 :=
  if is_sc v a ∧ is_sc v b ∧ ¬ a = b then (v, pj v.1 v.2.1 a.toNatClampNeg b.toNatClampNeg) else (v, -9223372036854775808)
def q_add (v : pv) (a : Int32) : pv × Int32 :=
  if ¬ ((0 ≤ a ∧ a < 8) ∨ a = 20 ∨ a = 21) then (v, -2)
  else if 40 ≤ v_ns v then (v, -4)
  else ((v.1, v.2.1, v.2.2.1, v.2.2.2.1, upd v.2.2.2.2.1 (v_ns v).toNatClampNeg a, v_n v, v_ns v + 1, v.2.2.2.2.2.2.2), v_ns v + 1)
def q_cut (v : pv) (a : Int32) : pv × Int32 :=
  if a < 0 ∨ v_ns v < a then (v, -2) else ((v.1, v.2.1, v.2.2.1, v.2.2.2.1, v.2.2.2.2.1, v_n v, v_ns v - a, v.2.2.2.2.2.2.2), v_ns v - a)
def q_clue (v : pv) (k c w s : Int32) : pv × Int32 :=
  if ¬ (is_sc v k ∧ 0 ≤ c ∧ c < 8) then (v, -1)
  else if ¬ (w = 0 ∨ w = 1) then (v, -2)
  else if w = 0 then (if ((v.2.2.1 k.toNatClampNeg >>> (c &&& 31)) &&& 1 = 1) = (¬ s = 0) then (v, 0) else ((v.1, v.2.1, upd v.2.2.1 k.toNatClampNeg (if ¬ s = 0 then v.2.2.1 k.toNatClampNeg ||| (1 <<< (c &&& 31)) else v.2.2.1 k.toNatClampNeg &&& ((1 <<< (c &&& 31)) ^^^ (-1))), v.2.2.2), 1))
  else (if ((v.2.2.2.1 k.toNatClampNeg >>> (c &&& 31)) &&& 1 = 1) = (¬ s = 0) then (v, 0) else ((v.1, v.2.1, v.2.2.1, upd v.2.2.2.1 k.toNatClampNeg (if ¬ s = 0 then v.2.2.2.1 k.toNatClampNeg ||| (1 <<< (c &&& 31)) else v.2.2.2.1 k.toNatClampNeg &&& ((1 <<< (c &&& 31)) ^^^ (-1))), v.2.2.2.2), 1))
