/-! ===== FRAMED as a pure function ===== -/
/-- the last scene told and its side, then its teller and its side, outwards -/
abbrev fp : Type := List (Nat × Int32)
/-- jumps, frames, signs -/
abbrev fl : Type := Nat × Nat × List Int32
def ub (b : Option fl) (x : fl) : Option fl := match b with
  | none => some x
  | some y => if x.1 < y.1 ∨ (x.1 = y.1 ∧ x.2.1 < y.2.1) then some x else some y
/-- k may come beside the last scene, in the frame of which r is what lies outside -/
def bsd (fr ln : Nat → Int32) (r : fp) (k : Nat) (sd : Int32) : Bool := match r with
  | [] => true
  | p :: _ => decide (ps fr ln k p.1 = sd)
def dop (fr ln : Nat → Int32) (fee : Nat) (g : fp → List Int32 → Nat → Nat → Option fl → Option fl) (k : Nat) : fp → List Int32 → Nat → Nat → Option fl → Option fl
  | [], _, _, _, b => b
  | (a, sd) :: r, sg, s, f, b =>
    dop fr ln fee g k r (sg ++ [21]) s f
      (if ps fr ln k a = -9 then (if bsd fr ln r k sd = true then g ((k, sd) :: r) (sg ++ [nI k]) (s + cj fr ln a k) f b else b)
        else g ((k, ps fr ln k a) :: (a, sd) :: r) (sg ++ [20, nI k]) (s + fee) (f + 1) (if bsd fr ln r k sd = true then g ((k, sd) :: r) (sg ++ [nI k]) (s + cj fr ln a k) f b else b))
/-- all ways to set the scenes that remain, in their order; the best one kept -/
def dfs (fr ln : Nat → Int32) (fee : Nat) : List Nat → fp → List Int32 → Nat → Nat → Option fl → Option fl
  | [], p, sg, s, f, b => ub b (s, f, sg ++ List.replicate (p.length - 1) 21)
  | k :: ks, p, sg, s, f, b => dop fr ln fee (dfs fr ln fee ks) k p sg s f b
theorem dop_pr {fr ln : Nat → Int32} {fee k : Nat} {g : fp → List Int32 → Nat → Nat → Option fl → Option fl} {y : fl} (hg : ∀ p sg s f, ¬ (s < y.1 ∨ (s = y.1 ∧ f < y.2.1)) → g p sg s f (some y) = some y) : ∀ (p : fp) (sg : List Int32) (s f : Nat), ¬ (s < y.1 ∨ (s = y.1 ∧ f < y.2.1)) → dop fr ln fee g k p sg s f (some y) = some y := by
  intro p
  induction p with
  | nil => intro sg s f _; rfl
  | cons q r ih =>
    obtain ⟨a, sd⟩ := q
    intro sg s f h
    have h1 : (if bsd fr ln r k sd = true then g ((k, sd) :: r) (sg ++ [nI k]) (s + cj fr ln a k) f (some y) else some y) = some y := by
      split
      · exact hg _ _ _ _ (by omega)
      · rfl
    rw [dop, h1]
    split
    · exact ih _ _ _ h
    · rw [hg _ _ _ _ (by omega)]
      exact ih _ _ _ h
/-- what is not better than the best found so far changes nothing -/
theorem dfs_pr {fr ln : Nat → Int32} {fee : Nat} {y : fl} : ∀ (ks : List Nat) (p : fp) (sg : List Int32) (s f : Nat), ¬ (s < y.1 ∨ (s = y.1 ∧ f < y.2.1)) → dfs fr ln fee ks p sg s f (some y) = some y := by
  intro ks
  induction ks with
  | nil =>
    intro p sg s f h
    rw [dfs, ub, if_neg h]
  | cons k ks ih =>
    intro p sg s f h
    rw [dfs]
    exact dop_pr ih p sg s f h
theorem dop_all {fr ln : Nat → Int32} {fee k n : Nat} {g : fp → List Int32 → Nat → Nat → Option fl → Option fl} {Z : fl → Prop} (hfee : fee ≤ 6442450944)
    (hg : ∀ p sg s f b, p ≠ [] → (∀ x : fl, x.1 ≤ s + n * 6442450944 → x.2.1 ≤ f + n → x.2.2.length + 1 ≤ sg.length + p.length + 3 * n → Z x) → (∀ y, b = some y → Z y) → ∀ y, g p sg s f b = some y → Z y) :
    ∀ (p : fp) (sg : List Int32) (s f : Nat) (b : Option fl), (∀ x : fl, x.1 ≤ s + (n + 1) * 6442450944 → x.2.1 ≤ f + (n + 1) → x.2.2.length + 1 ≤ sg.length + p.length + 3 * (n + 1) → Z x) → (∀ y, b = some y → Z y) → ∀ y, dop fr ln fee g k p sg s f b = some y → Z y := by
  intro p
  induction p with
  | nil => intro sg s f b _ hb y h; exact hb y h
  | cons q r ih =>
    obtain ⟨a, sd⟩ := q
    intro sg s f b hx hb
    have hc := cj_le fr ln a k
    simp only [List.length_cons] at hx
    have h1 : ∀ y, (if bsd fr ln r k sd = true then g ((k, sd) :: r) (sg ++ [nI k]) (s + cj fr ln a k) f b else b) = some y → Z y := by
      split
      · refine hg _ _ _ _ _ (by simp) (fun x x1 x2 x3 => hx x (by omega) (by omega) ?_) hb
        simp only [List.length_append, List.length_cons, List.length_nil] at x3
        omega
      · exact hb
    rw [dop]
    refine ih _ _ _ _ (fun x x1 x2 x3 => hx x x1 x2 ?_) ?_
    · simp only [List.length_append, List.length_cons, List.length_nil] at x3
      omega
    · split
      · exact h1
      · refine hg _ _ _ _ _ (by simp) (fun x x1 x2 x3 => hx x (by omega) (by omega) ?_) h1
        simp only [List.length_append, List.length_cons, List.length_nil] at x3
        omega
theorem dfs_all {fr ln : Nat → Int32} {fee : Nat} {Z : fl → Prop} (hfee : fee ≤ 6442450944) : ∀ (ks : List Nat) (p : fp) (sg : List Int32) (s f : Nat) (b : Option fl), p ≠ [] → (∀ x : fl, x.1 ≤ s + ks.length * 6442450944 → x.2.1 ≤ f + ks.length → x.2.2.length + 1 ≤ sg.length + p.length + 3 * ks.length → Z x) → (∀ y, b = some y → Z y) → ∀ y, dfs fr ln fee ks p sg s f b = some y → Z y := by
  intro ks
  induction ks with
  | nil =>
    intro p sg s f b hp hx hb y h
    have hl : 0 < p.length := List.length_pos_iff.mpr hp
    have hz : Z (s, f, sg ++ List.replicate (p.length - 1) 21) := by
      refine hx _ (by simp) (by simp) ?_
      simp only [List.length_append, List.length_replicate, List.length_nil]
      omega
    rw [dfs] at h
    cases b with
    | none => cases h; exact hz
    | some w =>
      rw [ub] at h
      split at h
      · cases h; exact hz
      · exact hb y h
  | cons k ks ih =>
    intro p sg s f b hp hx hb
    rw [dfs]
    simp only [List.length_cons] at hx
    exact dop_all hfee ih p sg s f b hx hb
theorem dop_so {fr ln : Nat → Int32} {fee k : Nat} {g : fp → List Int32 → Nat → Nat → Option fl → Option fl} (hg : ∀ p sg s f y, ∃ z, g p sg s f (some y) = some z) : ∀ (p : fp) (sg : List Int32) (s f : Nat) (y : fl), ∃ z, dop fr ln fee g k p sg s f (some y) = some z := by
  intro p
  induction p with
  | nil => intro sg s f y; exact ⟨y, rfl⟩
  | cons q r ih =>
    obtain ⟨a, sd⟩ := q
    intro sg s f y
    have h1 : ∃ z, (if bsd fr ln r k sd = true then g ((k, sd) :: r) (sg ++ [nI k]) (s + cj fr ln a k) f (some y) else some y) = some z := by
      split
      · exact hg _ _ _ _ _
      · exact ⟨y, rfl⟩
    obtain ⟨z, h1⟩ := h1
    rw [dop, h1]
    split
    · exact ih _ _ _ _
    · obtain ⟨w, hw⟩ := hg ((k, ps fr ln k a) :: (a, sd) :: r) (sg ++ [20, nI k]) (s + fee) (f + 1) z
      rw [hw]
      exact ih _ _ _ _
theorem dfs_so {fr ln : Nat → Int32} {fee : Nat} : ∀ (ks : List Nat) (p : fp) (sg : List Int32) (s f : Nat) (y : fl), ∃ z, dfs fr ln fee ks p sg s f (some y) = some z := by
  intro ks
  induction ks with
  | nil =>
    intro p sg s f y
    rw [dfs, ub]
    split
    · exact ⟨_, rfl⟩
    · exact ⟨_, rfl⟩
  | cons k ks ih =>
    intro p sg s f y
    rw [dfs]
    exact dop_so ih p sg s f y
/-- without frames a row can always be told -/
theorem dfs_1 {fr ln : Nat → Int32} {fee : Nat} : ∀ (ks : List Nat) (a : Nat) (sd : Int32) (sg : List Int32) (s f : Nat) (b : Option fl), ∃ z, dfs fr ln fee ks [(a, sd)] sg s f b = some z := by
  intro ks
  induction ks with
  | nil =>
    intro a sd sg s f b
    rw [dfs]
    cases b with
    | none => exact ⟨_, rfl⟩
    | some y =>
      rw [ub]
      split
      · exact ⟨_, rfl⟩
      · exact ⟨_, rfl⟩
  | cons k ks ih =>
    intro a sd sg s f b
    rw [dfs, dop, if_pos (c := bsd fr ln [] k sd = true) rfl]
    obtain ⟨z, hz⟩ := ih k sd (sg ++ [nI k]) (s + cj fr ln a k) f b
    rw [hz]
    split
    · exact ⟨z, rfl⟩
    · obtain ⟨w, hw⟩ := dfs_so (fr := fr) (ln := ln) (fee := fee) ks [(k, ps fr ln k a), (a, sd)] (sg ++ [20, nI k]) (s + fee) (f + 1) z
      rw [hw]
      exact ⟨w, rfl⟩
def v_row (v : pv) : List Nat := (rwl v.2.2.2.2.1 (v_ns v).toNatClampNeg).map Int32.toNatClampNeg
def fbest (v : pv) : Option fl := match v_row v with
  | [] => none
  | a :: ks => if (lk v (v_f v) (v_m v)).1 = none then dfs v.1 v.2.1 (v_fee v).toNatClampNeg ks [(a, -9)] [nI a] 0 0 none else none
def q_framed (v : pv) (a : Int32) : pv × Int32 := (v, if a < -2 ∨ 40 ≤ a then -2 else match fbest v with
  | none => -3
  | some x => if a = -2 then nI x.2.2.length else if a = -1 then ovr (lN x.1) else if nI x.2.2.length ≤ a then -9 else x.2.2.getD a.toNatClampNeg 0)
