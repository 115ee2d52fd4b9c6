/-! ===== span as a pure function ===== -/
def sF (v : pv) (k : Nat) : Int := (v.1 k).toInt
def sE (v : pv) (k : Nat) : Int := (v.1 k).toInt + (v.2.1 k).toInt
def BD (F E : Nat → Int) (n : Nat) : Prop := ∀ k, k < n → -2147483648 ≤ F k ∧ F k < E k ∧ E k ≤ 2147483647
def mnF (F : Nat → Int) : Nat → Int
  | 0 => 9223372036854775807
  | k + 1 => if F k < mnF F k then F k else mnF F k
def mxE (E : Nat → Int) : Nat → Int
  | 0 => -9223372036854775808
  | k + 1 => if E k < mxE E k then mxE E k else E k
/-- told at the time t -/
abbrev gcv (F E : Nat → Int) (n : Nat) (t : Int) : Prop := ∃ k, k < n ∧ (F k ≤ t ∧ t < E k)
/-- the next from behind t -/
def gnx (F : Nat → Int) (t : Int) : Nat → Int
  | 0 => 9223372036854775807
  | k + 1 => if t < F k then (if F k < gnx F t k then F k else gnx F t k) else gnx F t k
def gap (F E : Nat → Int) (n : Nat) (t : Int) : Int := if gcv F E n t then 0 else if gnx F t n = 9223372036854775807 then 0 else gnx F t n - t
abbrev gfs (E : Nat → Int) (k : Nat) : Prop := ∀ j, j < k → ¬ E j = E k
def gS (F E : Nat → Int) (n : Nat) : Nat → Int
  | 0 => 0
  | k + 1 => if gfs E k then gS F E n k + gap F E n (E k) else gS F E n k
def q_span (v : pv) (a : Int32) : pv × Int64 := (v, if a < 0 ∨ 1 < a ∨ (v_n v).toNatClampNeg = 0 then -9223372036854775808 else if a = 0 then Int64.ofInt (mxE (sE v) (v_n v).toNatClampNeg - mnF (sF v) (v_n v).toNatClampNeg) else Int64.ofInt (gS (sF v) (sE v) (v_n v).toNatClampNeg (v_n v).toNatClampNeg))
theorem vok_BD {v : pv} (hv : vok v) : BD (sF v) (sE v) (v_n v).toNatClampNeg := by
  obtain ⟨n, ns, hn, h8, hns, h40, hsc, -⟩ := hv
  intro k hk
  rw [show v_n v = nI n from hn, ni_cl (by omega)] at hk
  obtain ⟨h1, h2, -⟩ := hsc k hk
  have a1 := i32b (v.1 k)
  have a2 := h2.2
  rw [Int64.le_iff_toInt_le, pe_i] at a2
  rw [Int32.le_iff_toInt_le] at h1
  have a3 : (1 : Int32).toInt = 1 := by decide
  have a4 : (2147483647 : Int64).toInt = 2147483647 := by decide
  unfold sF sE
  omega
theorem mnF_p {F E : Nat → Int} {n : Nat} (hB : BD F E n) : ∀ m, m ≤ n → 0 < m → (∃ j, j < m ∧ mnF F m = F j) ∧ ∀ j, j < m → mnF F m ≤ F j := by
  intro m
  induction m with
  | zero => intro _ h; exact absurd h (by omega)
  | succ m ih =>
    intro hm _
    have hb := hB m (by omega)
    rw [mnF]
    by_cases e : m = 0
    · subst e
      rw [mnF, if_pos (by omega)]
      refine ⟨⟨0, by omega, rfl⟩, fun j hj => ?_⟩
      have : j = 0 := by omega
      subst this
      exact Int.le_refl _
    · obtain ⟨⟨j, j1, j2⟩, h2⟩ := ih (by omega) (by omega)
      split
      · refine ⟨⟨m, by omega, rfl⟩, fun i hi => ?_⟩
        by_cases e2 : i = m
        · subst e2; exact Int.le_refl _
        · have := h2 i (by omega); omega
      · refine ⟨⟨j, by omega, j2⟩, fun i hi => ?_⟩
        by_cases e2 : i = m
        · subst e2; omega
        · exact h2 i (by omega)
theorem mxE_p {F E : Nat → Int} {n : Nat} (hB : BD F E n) : ∀ m, m ≤ n → 0 < m → (∃ j, j < m ∧ mxE E m = E j) ∧ ∀ j, j < m → E j ≤ mxE E m := by
  intro m
  induction m with
  | zero => intro _ h; exact absurd h (by omega)
  | succ m ih =>
    intro hm _
    have hb := hB m (by omega)
    rw [mxE]
    by_cases e : m = 0
    · subst e
      rw [mxE, if_neg (by omega)]
      refine ⟨⟨0, by omega, rfl⟩, fun j hj => ?_⟩
      have : j = 0 := by omega
      subst this
      exact Int.le_refl _
    · obtain ⟨⟨j, j1, j2⟩, h2⟩ := ih (by omega) (by omega)
      split
      · refine ⟨⟨j, by omega, j2⟩, fun i hi => ?_⟩
        by_cases e2 : i = m
        · subst e2; omega
        · exact h2 i (by omega)
      · refine ⟨⟨m, by omega, rfl⟩, fun i hi => ?_⟩
        by_cases e2 : i = m
        · subst e2; exact Int.le_refl _
        · have := h2 i (by omega); omega
theorem gnx_p {F E : Nat → Int} {n : Nat} {t : Int} (hB : BD F E n) : ∀ m, m ≤ n → (gnx F t m = 9223372036854775807 ∧ (∀ j, j < m → F j ≤ t)) ∨ ((∃ j, j < m ∧ t < F j ∧ gnx F t m = F j) ∧ ∀ j, j < m → t < F j → gnx F t m ≤ F j) := by
  intro m
  induction m with
  | zero => intro _; exact Or.inl ⟨rfl, fun j hj => absurd hj (by omega)⟩
  | succ m ih =>
    intro hm
    have hb := hB m (by omega)
    rw [gnx]
    by_cases h : t < F m
    · rw [if_pos h]
      right
      rcases ih (by omega) with ⟨a1, a2⟩ | ⟨⟨j, j1, j2, j3⟩, a2⟩
      · rw [a1, if_pos (by omega)]
        refine ⟨⟨m, by omega, h, rfl⟩, fun i hi hti => ?_⟩
        by_cases e2 : i = m
        · subst e2; exact Int.le_refl _
        · have := a2 i (by omega); omega
      · split
        · refine ⟨⟨m, by omega, h, rfl⟩, fun i hi hti => ?_⟩
          by_cases e2 : i = m
          · subst e2; exact Int.le_refl _
          · have := a2 i (by omega) hti; omega
        · refine ⟨⟨j, by omega, j2, j3⟩, fun i hi hti => ?_⟩
          by_cases e2 : i = m
          · subst e2; omega
          · exact a2 i (by omega) hti
    · rw [if_neg h]
      rcases ih (by omega) with ⟨a1, a2⟩ | ⟨⟨j, j1, j2, j3⟩, a2⟩
      · refine Or.inl ⟨a1, fun i hi => ?_⟩
        by_cases e2 : i = m
        · subst e2; omega
        · exact a2 i (by omega)
      · refine Or.inr ⟨⟨j, by omega, j2, j3⟩, fun i hi hti => ?_⟩
        by_cases e2 : i = m
        · subst e2; omega
        · exact a2 i (by omega) hti
theorem gap_b {F E : Nat → Int} {n : Nat} {t : Int} (hB : BD F E n) (ht : -2147483648 ≤ t) : 0 ≤ gap F E n t ∧ gap F E n t ≤ 4294967296 := by
  unfold gap
  split
  · omega
  · split
    · omega
    · rename_i h
      rcases gnx_p (t := t) hB n (Nat.le_refl n) with ⟨a1, a2⟩ | ⟨⟨j, j1, j2, j3⟩, a2⟩
      · exact absurd a1 h
      · have := hB j j1
        omega
theorem gS_b {F E : Nat → Int} {n : Nat} (hB : BD F E n) : ∀ m, m ≤ n → 0 ≤ gS F E n m ∧ gS F E n m ≤ 4294967296 * m := by
  intro m
  induction m with
  | zero => intro _; exact ⟨Int.le_refl _, Int.le_refl _⟩
  | succ m ih =>
    intro hm
    have a := ih (by omega)
    have hb := hB m (by omega)
    have b := gap_b (t := E m) hB (by omega)
    rw [gS]
    split
    · omega
    · omega
/-- the same sum over the ends from a time on -/
def gT (F E : Nat → Int) (n : Nat) (t : Int) : Nat → Int
  | 0 => 0
  | k + 1 => if gfs E k ∧ t ≤ E k then gT F E n t k + gap F E n (E k) else gT F E n t k
theorem gT_all {F E : Nat → Int} {n : Nat} {t : Int} : ∀ m, (∀ k, k < m → E k < t → gap F E n (E k) = 0) → gT F E n t m = gS F E n m := by
  intro m
  induction m with
  | zero => intro _; rfl
  | succ m ih =>
    intro h
    rw [gT, gS, ih (fun k hk => h k (by omega))]
    by_cases h1 : gfs E m
    · by_cases h2 : t ≤ E m
      · rw [if_pos ⟨h1, h2⟩, if_pos h1]
      · rw [if_neg (fun q => h2 q.2), if_pos h1, h m (by omega) (by omega)]
        omega
    · rw [if_neg (fun q => h1 q.1), if_neg h1]
theorem gT_up {F E : Nat → Int} {n : Nat} {t u : Int} (htu : t ≤ u) : ∀ m, (∀ k, k < m → t ≤ E k → E k < u → gap F E n (E k) = 0) → gT F E n t m = gT F E n u m := by
  intro m
  induction m with
  | zero => intro _; rfl
  | succ m ih =>
    intro h
    rw [gT, gT, ih (fun k hk => h k (by omega))]
    by_cases h1 : gfs E m
    · by_cases h2 : u ≤ E m
      · rw [if_pos ⟨h1, by omega⟩, if_pos ⟨h1, h2⟩]
      · rw [if_neg (c := _ ∧ u ≤ E m) (fun q => h2 q.2)]
        by_cases h3 : t ≤ E m
        · rw [if_pos ⟨h1, h3⟩, h m (by omega) h3 (by omega)]
          omega
        · rw [if_neg (fun q => h3 q.2)]
    · rw [if_neg (fun q => h1 q.1), if_neg (fun q => h1 q.1)]
theorem gT_0 {F E : Nat → Int} {n : Nat} {t : Int} : ∀ m, (∀ k, k < m → t ≤ E k → gap F E n (E k) = 0) → gT F E n t m = 0 := by
  intro m
  induction m with
  | zero => intro _; rfl
  | succ m ih =>
    intro h
    rw [gT, ih (fun k hk => h k (by omega))]
    split
    · rename_i q
      rw [h m (by omega) q.2]
      rfl
    · rfl
theorem gT_at {F E : Nat → Int} {n : Nat} {t : Int} : ∀ m, gT F E n t m = (if ∃ j, j < m ∧ E j = t then gap F E n t else 0) + gT F E n (t + 1) m := by
  intro m
  induction m with
  | zero => rw [gT, gT, if_neg (fun ⟨j, h, _⟩ => absurd h (by omega))]; rfl
  | succ m ih =>
    rw [gT, gT, ih]
    by_cases e : E m = t
    · have h3 : ¬ (gfs E m ∧ t + 1 ≤ E m) := fun q => by omega
      rw [if_neg h3, if_pos (c := ∃ j, j < m + 1 ∧ E j = t) ⟨m, by omega, e⟩]
      by_cases h1 : ∃ j, j < m ∧ E j = t
      · obtain ⟨j, j1, j2⟩ := h1
        rw [if_pos (c := ∃ j, j < m ∧ E j = t) ⟨j, j1, j2⟩, if_neg (fun q => q.1 j j1 (by omega))]
      · rw [if_neg h1, if_pos ⟨fun j hj q => h1 ⟨j, hj, by omega⟩, by omega⟩, e]
        omega
    · have h4 : (∃ j, j < m + 1 ∧ E j = t) ↔ ∃ j, j < m ∧ E j = t := by
        constructor
        · rintro ⟨j, j1, j2⟩
          refine ⟨j, ?_, j2⟩
          by_cases e2 : j = m
          · subst e2; exact absurd j2 e
          · omega
        · rintro ⟨j, j1, j2⟩
          exact ⟨j, by omega, j2⟩
      have h5 : (if ∃ j, j < m + 1 ∧ E j = t then gap F E n t else 0) = (if ∃ j, j < m ∧ E j = t then gap F E n t else 0) := by
        by_cases q : ∃ j, j < m ∧ E j = t
        · rw [if_pos q, if_pos (h4.mpr q)]
        · rw [if_neg q, if_neg (fun z => q (h4.mp z))]
      rw [h5]
      by_cases h1 : gfs E m ∧ t ≤ E m
      · have h7 : t + 1 ≤ E m := by
          have h6 := h1.2
          clear ih h4 h5 h1
          omega
        rw [if_pos h1, if_pos (c := gfs E m ∧ t + 1 ≤ E m) ⟨h1.1, h7⟩]
        clear ih h4 h5 h1 h7
        generalize (if ∃ j, j < m ∧ E j = t then gap F E n t else 0) = z
        omega
      · rw [if_neg h1, if_neg (c := gfs E m ∧ t + 1 ≤ E m) (fun q => h1 ⟨q.1, by
          have h6 := q.2
          clear ih h4 h5 h1 q
          omega⟩)]
theorem gap_cv {F E : Nat → Int} {n : Nat} {t : Int} (h : gcv F E n t) : gap F E n t = 0 := if_pos h
/-- how many end behind x -/
def gct (E : Nat → Int) (x : Int) : Nat → Nat
  | 0 => 0
  | k + 1 => gct E x k + (if x < E k then 1 else 0)
theorem gct_le {E : Nat → Int} {x y : Int} (h : x ≤ y) : ∀ m, gct E y m ≤ gct E x m := by
  intro m
  induction m with
  | zero => exact Nat.le_refl _
  | succ m ih =>
    rw [gct, gct]
    split
    · rw [if_pos (by omega)]
      omega
    · omega
theorem gct_lt {E : Nat → Int} {x y : Int} (h : x < y) : ∀ m, (∃ j, j < m ∧ E j = y) → gct E y m < gct E x m := by
  intro m
  induction m with
  | zero => rintro ⟨j, j1, _⟩; exact absurd j1 (by omega)
  | succ m ih =>
    rintro ⟨j, j1, j2⟩
    rw [gct, gct]
    by_cases e : j = m
    · subst e
      have := gct_le (E := E) (x := x) (y := y) (by omega) j
      rw [if_neg (by omega), if_pos (by omega)]
      omega
    · have := ih ⟨j, by omega, j2⟩
      split
      · rw [if_pos (by omega)]
        omega
      · omega
/-- what it is to be told on from t to r -/
def TP (F E : Nat → Int) (n : Nat) (t r : Int) : Prop := t ≤ r ∧ (∀ x, t ≤ x → x < r → gcv F E n x) ∧ (r = t ∨ ∃ j, j < n ∧ E j = r)
theorem g_start {F E : Nat → Int} {n : Nat} {r : Int} (hB : BD F E n) (h1 : 0 < n) (hT : TP F E n (mnF F n) r) (hu : ¬ gcv F E n r) : (∃ j, j < n ∧ E j = r) ∧ gT F E n r n = gS F E n n := by
  obtain ⟨⟨j, j1, j2⟩, hmn⟩ := mnF_p hB n (Nat.le_refl n) h1
  have hj := hB j j1
  have he : ∃ j, j < n ∧ E j = r := by
    rcases hT.2.2 with q | q
    · exfalso
      exact hu ⟨j, j1, by omega, by omega⟩
    · exact q
  refine ⟨he, gT_all n (fun k hk hkr => gap_cv (hT.2.1 _ ?_ hkr))⟩
  have := hmn k hk
  have := hB k hk
  omega
theorem g_step {F E : Nat → Int} {n : Nat} {t r : Int} (hB : BD F E n) (h1 : 0 < n) (hu : ¬ gcv F E n t) (he : ∃ j, j < n ∧ E j = t) (hl : t < mxE E n) (hT : TP F E n (gnx F t n) r) (hur : ¬ gcv F E n r) : t < gnx F t n ∧ gnx F t n ≤ 2147483647 ∧ t < r ∧ (∃ j, j < n ∧ E j = r) ∧ gT F E n t n = (gnx F t n - t) + gT F E n r n := by
  obtain ⟨⟨i, i1, i2⟩, hmx⟩ := mxE_p hB n (Nat.le_refl n) h1
  have hFi : t < F i := by
    apply Classical.byContradiction
    intro q
    exact hu ⟨i, i1, by omega, by omega⟩
  rcases gnx_p (t := t) hB n (Nat.le_refl n) with ⟨a1, a2⟩ | ⟨⟨j, j1, j2, j3⟩, a2⟩
  · have := a2 i i1
    omega
  · have hj := hB j j1
    have her : ∃ j, j < n ∧ E j = r := by
      rcases hT.2.2 with q | q
      · exfalso
        exact hur ⟨j, j1, by omega, by omega⟩
      · exact q
    have hr := hT.1
    refine ⟨by omega, by omega, by omega, her, ?_⟩
    rw [gT_at n, if_pos he, gT_up (t := t + 1) (u := r) (by omega) n]
    · congr 1
      rw [gap, if_neg hu, if_neg (by omega)]
    · intro k hk q1 q2
      refine gap_cv (hT.2.1 _ ?_ q2)
      have hk2 := hB k hk
      have : t < F k := by
        apply Classical.byContradiction
        intro q
        exact hu ⟨k, hk, by omega, by omega⟩
      have := a2 k hk this
      omega
theorem g_end {F E : Nat → Int} {n : Nat} {t : Int} (hB : BD F E n) (h1 : 0 < n) (hl : mxE E n ≤ t) : gT F E n t n = 0 := by
  obtain ⟨-, hmx⟩ := mxE_p hB n (Nat.le_refl n) h1
  refine gT_0 n (fun k hk hkt => ?_)
  have := hmx k hk
  have e : E k = t := by omega
  rw [e, gap]
  split
  · rfl
  · rcases gnx_p (t := t) hB n (Nat.le_refl n) with ⟨a1, a2⟩ | ⟨⟨j, j1, j2, j3⟩, a2⟩
    · rw [if_pos a1]
    · have := hmx j j1
      have := hB j j1
      omega
/-- the next from, at the most the last end -/
def gnl (F : Nat → Int) (t M : Int) : Nat → Int
  | 0 => M
  | k + 1 => if t < F k ∧ F k < gnl F t M k then F k else gnl F t M k
theorem gnl_e {F : Nat → Int} {t M : Int} (hM : M ≤ 9223372036854775807) : ∀ m, gnl F t M m = if gnx F t m < M then gnx F t m else M := by
  intro m
  induction m with
  | zero => rw [gnl, gnx, if_neg (by omega)]
  | succ m ih =>
    rw [gnl, gnx, ih]
    by_cases h : t < F m
    · rw [if_pos h]
      split <;> split <;> split <;> omega
    · rw [if_neg h, if_neg (fun q => h q.1)]
theorem gnl_x {F E : Nat → Int} {n : Nat} {t : Int} (hB : BD F E n) (h1 : 0 < n) (hu : ¬ gcv F E n t) (hl : t < mxE E n) : gnl F t (mxE E n) n = gnx F t n := by
  obtain ⟨⟨i, i1, i2⟩, hmx⟩ := mxE_p hB n (Nat.le_refl n) h1
  have hi := hB i i1
  have hFi : t < F i := by
    apply Classical.byContradiction
    intro q
    exact hu ⟨i, i1, by omega, by omega⟩
  rw [gnl_e (by omega) n, if_pos]
  rcases gnx_p (t := t) hB n (Nat.le_refl n) with ⟨a1, a2⟩ | ⟨⟨j, j1, j2, j3⟩, a2⟩
  · have := a2 i i1
    omega
  · have := a2 i i1 hFi
    omega
