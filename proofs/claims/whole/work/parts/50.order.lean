/-! ===== THE ORDER as a pure function: sets of told scenes as numbers below 256 ===== -/
abbrev pb : Type := (Nat → Int32) × (Nat → Int32) × (Nat → Int32) × (Nat → Int32)
def vb (v : pv) : pb := (v.1, v.2.1, v.2.2.1, v.2.2.2.1)
/-- k may be told behind the scenes of S -/
abbrev oav (b : pb) (n S k : Nat) : Prop := S.testBit k = false ∧ b.2.2.2 k &&& (pg b.2.2.1 (nI S) n ^^^ (-1)) = 0
def ocs (b : pb) (S l k : Nat) : Nat := if S = 0 then 0 else cj b.1 b.2.1 l k
/-- the least of c below n, and the first place that has it -/
def obs (c : Nat → Option Nat) : Nat → Option (Nat × Nat)
  | 0 => none
  | k + 1 => match c k with
    | none => obs c k
    | some x => match obs c k with
      | none => some (x, k)
      | some (y, j) => if x < y then some (x, k) else some (y, j)
def oR (b : pb) (n : Nat) : Nat → Nat → Nat → Option Nat
  | 0, _, _ => none
  | f + 1, S, l => if S = 2 ^ n - 1 then some 0 else (obs (fun k => if oav b n S k then (oR b n f (S ||| 2 ^ k) k).map (· + ocs b S l k) else none) n).map Prod.fst
/-- the least jumps yet to come, with the scenes of S told and l the last of them -/
def orr (b : pb) (n S l : Nat) : Option Nat := oR b n (256 - S) S l
def oc (b : pb) (n S l k : Nat) : Option Nat := if oav b n S k then (orr b n (S ||| 2 ^ k) k).map (· + ocs b S l k) else none
theorem o_or : ∀ S : Nat, S < 256 → ∀ k : Nat, k < 8 → S.testBit k = false → S < S ||| 2 ^ k ∧ S ||| 2 ^ k < 256 := by decide +kernel
/-- how many of eight are not in S -/
def orm (S : Nat) : Nat := (List.range 8).foldl (fun a k => if S.testBit k then a else a + 1) 0
theorem orm_s : ∀ S : Nat, S < 256 → ∀ k : Nat, k < 8 → S.testBit k = false → orm (S ||| 2 ^ k) + 1 = orm S := by decide +kernel
theorem orm_8 : ∀ S : Nat, S < 256 → orm S ≤ 8 := by decide +kernel
theorem orm_a : ∀ n : Nat, n < 9 → orm (2 ^ n - 1) = 8 - n := by decide +kernel
theorem o_tb : ∀ S : Nat, S < 256 → ∀ k : Nat, k < 8 → (S ||| 2 ^ k).testBit k = true := by decide +kernel
theorem o_p2 : ∀ n : Nat, n < 9 → 1 ≤ 2 ^ n ∧ 2 ^ n ≤ 256 := by decide +kernel
theorem o_lt {n S k : Nat} (hS : S < 2 ^ n) (hk : k < n) : S ||| 2 ^ k < 2 ^ n := Nat.or_lt_two_pow hS (Nat.pow_lt_pow_right (by omega) hk)
theorem obs_c {c e : Nat → Option Nat} : ∀ n : Nat, (∀ k, k < n → c k = e k) → obs c n = obs e n := by
  intro n
  induction n with
  | zero => intro _; rfl
  | succ n ih =>
    intro h
    rw [obs, obs, ih (fun k hk => h k (by omega)), h n (by omega)]
theorem obs_s {c : Nat → Option Nat} : ∀ (n x k : Nat), obs c n = some (x, k) → k < n ∧ c k = some x ∧ (∀ j, j < n → ∀ y, c j = some y → x ≤ y) ∧ (∀ j, j < k → ∀ y, c j = some y → x < y) := by
  intro n
  induction n with
  | zero => intro x k h; cases h
  | succ n ih =>
    intro x k h
    rw [obs] at h
    cases hc : c n with
    | none =>
      rw [hc] at h
      obtain ⟨h1, h2, h3, h4⟩ := ih x k h
      refine ⟨by omega, h2, fun j hj y hy => ?_, h4⟩
      by_cases e : j = n
      · subst e; rw [hc] at hy; cases hy
      · exact h3 j (by omega) y hy
    | some z =>
      rw [hc] at h
      dsimp only at h
      cases ho : obs c n with
      | none =>
        rw [ho] at h
        cases h
        have hn : ∀ j, j < n → c j = none := by
          clear ih hc
          revert ho
          induction n with
          | zero => intro _ j hj; exact absurd hj (by omega)
          | succ n ih =>
            intro ho j hj
            rw [obs] at ho
            cases hc : c n with
            | some q =>
              rw [hc] at ho
              dsimp only at ho
              cases ho2 : obs c n with
              | none => rw [ho2] at ho; cases ho
              | some p => rw [ho2] at ho; dsimp only at ho; split at ho <;> cases ho
            | none =>
              rw [hc] at ho
              by_cases e : j = n
              · subst e; exact hc
              · exact ih ho j (by omega)
        refine ⟨by omega, hc, fun j hj y hy => ?_, fun j hj y hy => ?_⟩
        · by_cases e : j = n
          · subst e; rw [hc] at hy; cases hy; exact Nat.le_refl _
          · rw [hn j (by omega)] at hy; cases hy
        · rw [hn j hj] at hy; cases hy
      | some p =>
        obtain ⟨y, i⟩ := p
        obtain ⟨h1, h2, h3, h4⟩ := ih y i ho
        rw [ho] at h
        dsimp only at h
        split at h
        · cases h
          refine ⟨by omega, hc, fun j hj w hw => ?_, fun j hj w hw => ?_⟩
          · by_cases e : j = n
            · subst e; rw [hc] at hw; cases hw; exact Nat.le_refl _
            · have := h3 j (by omega) w hw; omega
          · have := h3 j (by omega) w hw; omega
        · cases h
          refine ⟨by omega, h2, fun j hj w hw => ?_, h4⟩
          by_cases e : j = n
          · subst e; rw [hc] at hw; cases hw; omega
          · exact h3 j (by omega) w hw
theorem obs_n {c : Nat → Option Nat} : ∀ n : Nat, obs c n = none → ∀ j, j < n → c j = none := by
  intro n
  induction n with
  | zero => intro _ j hj; exact absurd hj (by omega)
  | succ n ih =>
    intro ho j hj
    rw [obs] at ho
    cases hc : c n with
    | some q =>
      rw [hc] at ho
      dsimp only at ho
      cases ho2 : obs c n with
      | none => rw [ho2] at ho; cases ho
      | some p => rw [ho2] at ho; dsimp only at ho; split at ho <;> cases ho
    | none =>
      rw [hc] at ho
      by_cases e : j = n
      · subst e; exact hc
      · exact ih ho j (by omega)
theorem oR_f (b : pb) (n : Nat) (hn : n ≤ 8) : ∀ (f g S l : Nat), S < 256 → 256 ≤ f + S → 256 ≤ g + S → oR b n f S l = oR b n g S l := by
  intro f
  induction f with
  | zero => intro g S l h1 h2; exact absurd h2 (by omega)
  | succ f ih =>
    intro g S l h1 h2 h3
    cases g with
    | zero => exact absurd h3 (by omega)
    | succ g =>
      rw [oR, oR]
      split
      · rfl
      · congr 1
        refine obs_c n (fun k hk => ?_)
        split
        · rename_i ha
          have := o_or S h1 k (by omega) ha.1
          rw [ih g (S ||| 2 ^ k) k this.2 (by omega) (by omega)]
        · rfl
theorem orr_e {b : pb} {n S l : Nat} (hn : n ≤ 8) (hS : S < 256) : orr b n S l = if S = 2 ^ n - 1 then some 0 else (obs (oc b n S l) n).map Prod.fst := by
  unfold orr
  rw [show 256 - S = (255 - S) + 1 by omega, oR]
  split
  · rfl
  · congr 1
    refine obs_c n (fun k hk => ?_)
    unfold oc
    split
    · rename_i ha
      have := o_or S hS k (by omega) ha.1
      unfold orr
      rw [oR_f b n hn (255 - S) (256 - (S ||| 2 ^ k)) (S ||| 2 ^ k) k this.2 (by omega) (by omega)]
    · rfl
theorem oR_le {b : pb} {n : Nat} (hn : n ≤ 8) : ∀ (f S l x : Nat), S < 256 → oR b n f S l = some x → x ≤ orm S * 6442450944 := by
  intro f
  induction f with
  | zero => intro S l x _ h; cases h
  | succ f ih =>
    intro S l x hS h
    rw [oR] at h
    split at h
    · cases h; exact Nat.zero_le _
    · obtain ⟨⟨y, k⟩, h1, h2⟩ := Option.map_eq_some_iff.mp h
      cases h2
      obtain ⟨hk, hc, -⟩ := obs_s n y k h1
      split at hc
      · rename_i ha
        obtain ⟨z, h3, h4⟩ := Option.map_eq_some_iff.mp hc
        have h5 := o_or S hS k (by omega) ha.1
        have h6 := ih _ _ _ h5.2 h3
        have h7 := orm_s S hS k (by omega) ha.1
        have h8 : ocs b S l k ≤ 6442450944 := by
          unfold ocs
          split
          · omega
          · exact cj_le _ _ _ _
        dsimp only at h4 ⊢
        rw [← h4, ← h7]
        omega
      · cases hc
theorem orr_le {b : pb} {n S l x : Nat} (hn : n ≤ 8) (hS : S < 256) (h : orr b n S l = some x) : x ≤ 51539607552 := by
  have h1 := oR_le hn _ _ _ _ hS h
  have h2 := orm_8 S hS
  omega
theorem oc_le {b : pb} {n S l k x : Nat} (hn : n ≤ 8) (hk : k < n) (hS : S < 256) (h : oc b n S l k = some x) : x ≤ 57982058496 := by
  unfold oc at h
  split at h
  · rename_i ha
    obtain ⟨z, h3, h4⟩ := Option.map_eq_some_iff.mp h
    have h5 := o_or S hS k (by omega) ha.1
    have h6 := orr_le hn h5.2 h3
    have h8 : ocs b S l k ≤ 6442450944 := by
      unfold ocs
      split
      · omega
      · exact cj_le _ _ _ _
    omega
  · cases h
/-- the scenes told and the last of them behind i of THE ORDER -/
def ost (b : pb) (n : Nat) : Nat → Nat × Nat
  | 0 => (0, 0)
  | i + 1 => match obs (oc b n (ost b n i).1 (ost b n i).2) n with
    | none => ost b n i
    | some p => ((ost b n i).1 ||| 2 ^ p.2, p.2)
/-- the i-th of THE ORDER -/
def opk (b : pb) (n i : Nat) : Nat := match obs (oc b n (ost b n i).1 (ost b n i).2) n with
  | none => 0
  | some p => p.2
theorem ost_ok {b : pb} {n x : Nat} (hn : n ≤ 8) (h1 : 1 ≤ n) (h : orr b n 0 0 = some x) : ∀ i, i ≤ n → (ost b n i).1 < 2 ^ n ∧ orm (ost b n i).1 = 8 - i ∧ (∃ y, orr b n (ost b n i).1 (ost b n i).2 = some y) ∧ (ost b n i).2 < n ∧ (0 < i → (ost b n i).1.testBit (ost b n i).2 = true) := by
  intro i
  induction i with
  | zero => intro _; exact ⟨(o_p2 n (by omega)).1, (show orm 0 = 8 by decide +kernel), ⟨x, h⟩, h1, fun q => absurd q (by omega)⟩
  | succ i ih =>
    intro hi
    obtain ⟨a1, a2, ⟨y, a3⟩, a4, a5⟩ := ih (by omega)
    have p2 := o_p2 n (by omega)
    have hS : (ost b n i).1 < 256 := by omega
    rw [orr_e hn hS, if_neg (fun q => by rw [q, orm_a n (by omega)] at a2; omega)] at a3
    obtain ⟨⟨z, k⟩, b1, b2⟩ := Option.map_eq_some_iff.mp a3
    obtain ⟨hk, hc, -⟩ := obs_s n z k b1
    unfold oc at hc
    split at hc
    · rename_i ha
      obtain ⟨w, h3, h4⟩ := Option.map_eq_some_iff.mp hc
      rw [ost, b1]
      have h7 := orm_s _ hS k (by omega) ha.1
      exact ⟨o_lt a1 hk, by dsimp only; omega, ⟨w, h3⟩, hk, fun _ => o_tb _ hS k (by omega)⟩
    · cases hc
theorem ost_s {b : pb} {n x : Nat} (hn : n ≤ 8) (h1 : 1 ≤ n) (h : orr b n 0 0 = some x) {i : Nat} (hi : i < n) : ∃ z, obs (oc b n (ost b n i).1 (ost b n i).2) n = some (z, opk b n i) ∧ orr b n (ost b n i).1 (ost b n i).2 = some z ∧ ost b n (i + 1) = ((ost b n i).1 ||| 2 ^ (opk b n i), opk b n i) ∧ opk b n i < n := by
  obtain ⟨a1, a2, ⟨y, a3⟩, a4, a5⟩ := ost_ok hn h1 h i (by omega)
  have p2 := o_p2 n (by omega)
  have hS : (ost b n i).1 < 256 := by omega
  have a6 := a3
  rw [orr_e hn hS, if_neg (fun q => by rw [q, orm_a n (by omega)] at a2; omega)] at a6
  obtain ⟨⟨z, k⟩, b1, b2⟩ := Option.map_eq_some_iff.mp a6
  have e : opk b n i = k := by unfold opk; rw [b1]
  refine ⟨z, by rw [b1, e], by rw [a3]; exact congrArg some b2.symm, by rw [ost, b1, e], ?_⟩
  rw [e]
  exact (obs_s n z k b1).1
def q_order (v : pv) (a : Int32) : pv × Int32 := (v, if a < -1 ∨ 8 ≤ a then -2 else if (v_n v).toNatClampNeg = 0 then -9 else match orr (vb v) (v_n v).toNatClampNeg 0 0 with
  | none => -9
  | some x => if a < 0 then ovr (lN x) else if v_n v ≤ a then -9 else nI (opk (vb v) (v_n v).toNatClampNeg a.toNatClampNeg))
/-! sets in the program's words -/
theorem o_bi : ∀ S : Nat, S < 256 → ∀ k : Nat, k < 8 → (bi (nI S) k ↔ S.testBit k = true) := by decide +kernel
theorem o_or2 : ∀ S : Nat, S < 256 → ∀ k : Nat, k < 8 → nI S ||| (1 <<< (nI k &&& 31)) = nI (S ||| 2 ^ k) := by decide +kernel
theorem o_all : ∀ n : Nat, n < 9 → ((1 : Int32) <<< (nI n &&& 31)) - 1 = nI (2 ^ n - 1) := by decide +kernel
theorem o_one : ∀ k : Nat, k < 8 → (1 : Int32) <<< (nI k &&& 31) = nI (2 ^ k) := by decide +kernel
theorem o_or0 : ∀ k : Nat, k < 8 → 0 ||| 2 ^ k = 2 ^ k := by decide +kernel
