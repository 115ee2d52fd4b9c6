/-! ===== The small machine is the machine: from mm_P to Met ===== -/
def mm_tv (ad : Nat → Nat) (v : Value) : Value := match v with
  | .ref r => .ref (ad r)
  | v => v
def mm_fv (ad : Nat → Nat) (I : mm_I) (L : mm_L) (r k kd : Nat) : Value := match kd with
  | 0 => .int (I r k)
  | 1 => .long (L r k)
  | 2 => .int (I r k)
  | n + 3 => .ref (ad n)
def mm_ce (ad : Nat → Nat) (cI cJ : ClassId) (I : mm_I) (L : mm_L) (r : Nat) (e : Nat × Nat × List Nat) : va_E := match e with
  | (1, n, _) => .inl (cI, n, .inl (I r))
  | (2, n, _) => .inl (cJ, n, .inr (.inl (L r)))
  | (_, ci, ks) => .inr (ci, ks.mapIdx (fun k kd => mm_fv ad I L r k kd))
def mm_ws (sh : mm_S) (ad : Nat → Nat) (cI cJ : ClassId) (I : mm_I) (L : mm_L) : va_W := sh.mapIdx (fun r e => (ad r, mm_ce ad cI cJ I L r e))
theorem mm_ws_at {sh : mm_S} {ad : Nat → Nat} {cI cJ : ClassId} {I : mm_I} {L : mm_L} {r : Nat} {e : Nat × Nat × List Nat} (h : sh[r]? = some e) : (mm_ws sh ad cI cJ I L)[r]? = some (ad r, mm_ce ad cI cJ I L r e) := by
  unfold mm_ws
  rw [List.getElem?_mapIdx, h]
  rfl
theorem mm_ia_at {sh : mm_S} {a : Nat} (h : 0 < mm_ia sh a) : ∃ ks, sh[a]? = some (1, mm_ia sh a, ks) := by
  unfold mm_ia at h ⊢
  split at h
  · rename_i n ks hq
    exact ⟨ks, by rw [hq]⟩
  · exact absurd h (Nat.lt_irrefl 0)
theorem mm_la_at {sh : mm_S} {a : Nat} (h : 0 < mm_la sh a) : ∃ ks, sh[a]? = some (2, mm_la sh a, ks) := by
  unfold mm_la at h ⊢
  split at h
  · rename_i n ks hq
    exact ⟨ks, by rw [hq]⟩
  · exact absurd h (Nat.lt_irrefl 0)
theorem mm_vp_pos {j : Int32} {n : Nat} (h : vp_in j n) : 0 < n := by
  rcases Nat.eq_zero_or_pos n with q | q
  · exact absurd (Or.inr (by rw [q]; exact Nat.zero_le _)) h
  · exact q
theorem mm_ui_row (I : mm_I) (a k : Nat) (v : Int32) : mm_ui I a k v a = upd (I a) k v := by
  funext j
  simp [mm_ui, upd]
theorem mm_ui_off (I : mm_I) {a b : Nat} (k : Nat) (v : Int32) (h : b ≠ a) : mm_ui I a k v b = I b := by
  funext j
  simp [mm_ui, h]
theorem mm_ul_row (L : mm_L) (a k : Nat) (v : Int64) : mm_ul L a k v a = vp_updL (L a) k v := by
  funext j
  simp [mm_ul, vp_updL]
theorem mm_ul_off (L : mm_L) {a b : Nat} (k : Nat) (v : Int64) (h : b ≠ a) : mm_ul L a k v b = L b := by
  funext j
  simp [mm_ul, h]
theorem mm_ur_row (I : mm_I) (a : Nat) (f : Nat → Int32) : mm_ur I a f a = f := by
  funext j
  simp [mm_ur]
theorem mm_ur_off (I : mm_I) {a b : Nat} (f : Nat → Int32) (h : b ≠ a) : mm_ur I a f b = I b := by
  funext j
  simp [mm_ur, h]
/-- worlds that differ at one cell -/
theorem mm_ws_set {sh : mm_S} {ad : Nat → Nat} {cI cJ : ClassId} {I I' : mm_I} {L L' : mm_L} {r : Nat} {e : Nat × Nat × List Nat} {x : va_E} (h : sh[r]? = some e) (hx : mm_ce ad cI cJ I' L' r e = x) (hi : ∀ b, b ≠ r → I' b = I b) (hl : ∀ b, b ≠ r → L' b = L b) :
    (mm_ws sh ad cI cJ I L).set r (ad r, x) = mm_ws sh ad cI cJ I' L' := by
  apply List.ext_getElem?
  intro j
  have hr : r < sh.length := (List.getElem?_eq_some_iff.mp h).1
  by_cases hj : j = r
  · subst hj
    rw [mm_ws_at h, List.getElem?_set_self (by unfold mm_ws; rw [List.length_mapIdx]; exact hr), hx]
  · rw [List.getElem?_set_ne (fun q => hj q.symm)]
    unfold mm_ws
    rw [List.getElem?_mapIdx, List.getElem?_mapIdx]
    cases hs : sh[j]? with
    | none => rfl
    | some e' =>
      have : mm_ce ad cI cJ I L j e' = mm_ce ad cI cJ I' L' j e' := by
        obtain ⟨t, n, ks⟩ := e'
        unfold mm_ce mm_fv
        rw [hi j hj, hl j hj]
      simp [this]
theorem mm_fs_set (ad : Nat → Nat) (I I' : mm_I) (L L' : mm_L) (r k : Nat) (v : Value) (ks : List Nat) (hk : ∀ kd, ks[k]? = some kd → mm_fv ad I' L' r k kd = v) (ho : ∀ j kd, j ≠ k → mm_fv ad I' L' r j kd = mm_fv ad I L r j kd) :
    ks.mapIdx (fun k kd => mm_fv ad I' L' r k kd) = (ks.mapIdx (fun k kd => mm_fv ad I L r k kd)).set k v := by
  apply List.ext_getElem?
  intro j
  by_cases hj : j = k
  · subst hj
    cases hs : ks[j]? with
    | none =>
      have : ks.length ≤ j := List.getElem?_eq_none_iff.mp hs
      rw [List.getElem?_mapIdx, hs, List.getElem?_eq_none (by simp; exact this)]
      rfl
    | some kd =>
      rw [List.getElem?_mapIdx, hs, List.getElem?_set_self (by rw [List.length_mapIdx]; exact (List.getElem?_eq_some_iff.mp hs).1)]
      simp [hk kd hs]
  · rw [List.getElem?_set_ne (fun q => hj q.symm), List.getElem?_mapIdx, List.getElem?_mapIdx]
    cases ks[j]? with
    | none => rfl
    | some kd => simp [ho j kd hj]
/-! locals -/
def mm_lr (ad : Nat → Nat) (ls : Array Slot) (nL : Nat) (lo : List Value) : Prop := ls.size = nL ∧ lo.length = nL ∧ lv_wf ls ∧ ∀ (i : Nat) (v : Value), lo[i]? = some v → v ≠ .null → ls[i]? = some (.val (mm_tv ad v))
theorem mm_tv_cat (ad : Nat → Nat) (v : Value) : (mm_tv ad v).category = v.category := by cases v <;> rfl
theorem mm_tv_ct (ad : Nat → Nat) (st : List Value) : ((st.map (mm_tv ad)).map fun v => v.category).sum = mm_ct st := by
  induction st with
  | nil => rfl
  | cons v t ih => simp only [List.map_cons, List.sum_cons, mm_ct, mm_tv_cat, ih]
def mm_one1 (ad : Nat → Nat) (lo : List Value) (j : Nat) : Option (Nat × Value) := match lo[j]? with
  | some .null => none
  | some u => some (j, mm_tv ad u)
  | none => none
def mm_as (ad : Nat → Nat) (lo : List Value) : List (Nat × Value) := (List.range lo.length).filterMap (mm_one1 ad lo)
theorem mm_as_in {ad : Nat → Nat} {lo : List Value} {i : Nat} {v : Value} (h : lo[i]? = some v) (hv : v ≠ .null) : (i, mm_tv ad v) ∈ mm_as ad lo := by
  refine List.mem_filterMap.mpr ⟨i, List.mem_range.mpr (List.getElem?_eq_some_iff.mp h).1, ?_⟩
  unfold mm_one1
  rw [h]
  cases v <;> first | rfl | exact absurd rfl hv
theorem mm_as_of {ad : Nat → Nat} {lo : List Value} {q : Nat × Value} (h : q ∈ mm_as ad lo) : ∃ v, lo[q.1]? = some v ∧ v ≠ .null ∧ q.2 = mm_tv ad v := by
  obtain ⟨j, -, hj⟩ := List.mem_filterMap.mp h
  unfold mm_one1 at hj
  split at hj
  · cases hj
  · rename_i u h1 h2
    cases hj
    exact ⟨u, h2, fun e => h1 (by rw [e]), rfl⟩
  · cases hj
theorem mm_lr_has {ad : Nat → Nat} {ls : Array Slot} {nL : Nat} {lo : List Value} (h : mm_lr ad ls nL lo) : lv_has ls nL (mm_as ad lo) := by
  refine ⟨h.1, h.2.2.1, fun q hq => ?_⟩
  obtain ⟨v, h1, h2, h3⟩ := mm_as_of hq
  rw [h3]
  exact h.2.2.2 _ _ h1 h2
theorem mm_set1_len (lo : List Value) (i : Nat) (v : Value) : (mm_set1 lo i v).length = lo.length := by
  unfold mm_set1 mm_cut
  split
  · simp
  · split <;> simp
theorem mm_set1_at {lo : List Value} {i : Nat} {v : Value} {j : Nat} {u : Value} (h : (mm_set1 lo i v)[j]? = some u) (hu : u ≠ .null) : (j = i ∧ u = v) ∨ (j ≠ i ∧ lo[j]? = some u ∧ ¬ (j + 1 = i ∧ u.category = 2)) := by
  unfold mm_set1 at h
  split at h
  · by_cases hj : j = 0
    · subst hj
      rw [List.getElem?_set_self' ] at h
      cases hl : lo[0]? with
      | none => rw [hl] at h; cases h
      | some w => rw [hl] at h; cases h; exact Or.inl ⟨rfl, rfl⟩
    · rw [List.getElem?_set_ne (fun q => hj q.symm)] at h
      exact Or.inr ⟨hj, h, fun q => by omega⟩
  · rename_i k
    by_cases hj : j = k + 1
    · subst hj
      rw [List.getElem?_set_self'] at h
      cases hl : (mm_cut lo k)[k + 1]? with
      | none => rw [hl] at h; cases h
      | some w => rw [hl] at h; cases h; exact Or.inl ⟨rfl, rfl⟩
    · rw [List.getElem?_set_ne (fun q => hj q.symm)] at h
      unfold mm_cut at h
      split at h
      · rename_i hc
        by_cases hk : j = k
        · subst hk
          rw [List.getElem?_set_self'] at h
          cases hl : lo[j]? with
          | none => rw [hl] at h; cases h
          | some w => rw [hl] at h; cases h; exact absurd rfl hu
        · rw [List.getElem?_set_ne (fun q => hk q.symm)] at h
          exact Or.inr ⟨hj, h, fun q => hk (by omega)⟩
      · rename_i hc
        refine Or.inr ⟨hj, h, fun q => hc ?_⟩
        have : j = k := by omega
        subst this
        rw [List.getD_eq_getElem?_getD, h]
        exact q.2
theorem mm_lr_1 {ad : Nat → Nat} {ls ls' : Array Slot} {nL i : Nat} {lo : List Value} {v : Value} (h : mm_lr ad ls nL lo) (q : lv_has ls' nL ((i, mm_tv ad v) :: (mm_as ad lo).filter (fun q => !(q.1 == i) && !(q.1 + 1 == i && q.2.category == 2)))) : mm_lr ad ls' nL (mm_set1 lo i v) := by
  refine ⟨q.1, by rw [mm_set1_len]; exact h.2.1, q.2.1, fun j u hj hu => ?_⟩
  rcases mm_set1_at hj hu with ⟨rfl, rfl⟩ | ⟨h1, h2, h3⟩
  · exact q.2.2 (j, mm_tv ad u) List.mem_cons_self
  · refine q.2.2 (j, mm_tv ad u) (List.mem_cons_of_mem _ (List.mem_filter.mpr ⟨mm_as_in h2 hu, ?_⟩))
    simp only [Bool.and_eq_true, Bool.not_eq_true', beq_eq_false_iff_ne, ne_eq, Bool.and_eq_false_iff, mm_tv_cat]
    refine ⟨h1, ?_⟩
    by_cases hz : j + 1 = i
    · exact Or.inr (fun e => h3 ⟨hz, e⟩)
    · exact Or.inl hz
theorem mm_lr_2 {ad : Nat → Nat} {ls ls' : Array Slot} {nL i : Nat} {lo : List Value} {v : Value} (h : mm_lr ad ls nL lo) (q : lv_has ls' nL ((i, mm_tv ad v) :: (mm_as ad lo).filter (fun q => !(q.1 == i) && (!(q.1 == i + 1) && !(q.1 + 1 == i && q.2.category == 2))))) : mm_lr ad ls' nL (mm_set2 lo i v) := by
  refine ⟨q.1, by unfold mm_set2; rw [List.length_set, mm_set1_len]; exact h.2.1, q.2.1, fun j u hj hu => ?_⟩
  unfold mm_set2 at hj
  by_cases hji : j = i + 1
  · subst hji
    rw [List.getElem?_set_self'] at hj
    cases hl : (mm_set1 lo i v)[i + 1]? with
    | none => rw [hl] at hj; cases hj
    | some w => rw [hl] at hj; cases hj; exact absurd rfl hu
  · rw [List.getElem?_set_ne (fun q => hji q.symm)] at hj
    rcases mm_set1_at hj hu with ⟨rfl, rfl⟩ | ⟨h1, h2, h3⟩
    · exact q.2.2 (j, mm_tv ad u) List.mem_cons_self
    · refine q.2.2 (j, mm_tv ad u) (List.mem_cons_of_mem _ (List.mem_filter.mpr ⟨mm_as_in h2 hu, ?_⟩))
      simp only [Bool.and_eq_true, Bool.not_eq_true', beq_eq_false_iff_ne, ne_eq, Bool.and_eq_false_iff, mm_tv_cat]
      refine ⟨h1, hji, ?_⟩
      by_cases hz : j + 1 = i
      · exact Or.inr (fun e => h3 ⟨hz, e⟩)
      · exact Or.inl hz
/-! the entry -/
theorem mm_sl_len (ad : Nat → Nat) (as : List Value) : (lg_sl (as.map (mm_tv ad))).length = (mm_sl as).length := by
  induction as with
  | nil => rfl
  | cons v t ih =>
    simp only [lg_sl, List.map_cons, List.flatMap_cons, List.length_append, mm_sl, mm_tv_cat] at ih ⊢
    rw [ih]
    split <;> simp <;> omega
theorem mm_sl_at (ad : Nat → Nat) : ∀ (as : List Value) (i : Nat) (v : Value), (mm_sl as)[i]? = some v → v ≠ .null → (lg_sl (as.map (mm_tv ad)))[i]? = some (.val (mm_tv ad v)) := by
  intro as
  induction as with
  | nil => intro i v h; simp [mm_sl] at h
  | cons w t ih =>
    intro i v h hv
    simp only [lg_sl, List.map_cons, List.flatMap_cons, mm_tv_cat] at ih ⊢
    simp only [mm_sl] at h
    split at h
    · rename_i hc
      rw [if_pos hc]
      match i, h with
      | 0, h => simp at h; rw [h]; rfl
      | 1, h => simp at h; exact absurd h.symm hv
      | k + 2, h => exact ih k v h hv
    · rename_i hc
      rw [if_neg hc]
      match i, h with
      | 0, h => simp at h; rw [h]; rfl
      | k + 1, h => exact ih k v h hv
theorem mm_lr_en (ad : Nat → Nat) (n : Nat) (as : List Value) (h : (mm_sl as).length ≤ n) : mm_lr ad ((lg_sl (as.map (mm_tv ad)) ++ List.replicate (n - (lg_sl (as.map (mm_tv ad))).length) Slot.unset).toArray) n (mm_en n as) := by
  have h1 := lv_entry (as.map (mm_tv ad)) (n := n) (by rw [mm_sl_len]; exact h)
  refine ⟨h1.1, ?_, h1.2.1, fun i v hi hv => ?_⟩
  · unfold mm_en
    rw [List.length_append, List.length_replicate]
    omega
  · unfold mm_en at hi
    by_cases hl : i < (mm_sl as).length
    · rw [List.getElem?_append_left hl] at hi
      rw [List.getElem?_toArray, List.getElem?_append_left (by rw [mm_sl_len]; exact hl)]
      exact mm_sl_at ad as i v hi hv
    · rw [List.getElem?_append_right (by omega)] at hi
      have := List.mem_replicate.mp (List.mem_of_getElem? hi)
      exact absurd this.2 hv
theorem mm_pop_of : ∀ (n : Nat) (acc st as t : List Value), mm_pop n acc st = some (as, t) → ∃ pre, st = pre ++ t ∧ as = pre.reverse ++ acc ∧ pre.length = n := by
  intro n
  induction n with
  | zero => intro acc st as t h; simp only [mm_pop, Option.some.injEq, Prod.mk.injEq] at h; exact ⟨[], by simp [h.2], by simp [h.1], rfl⟩
  | succ n ih =>
    intro acc st as t h
    cases st with
    | nil => simp [mm_pop] at h
    | cons v st =>
      simp only [mm_pop] at h
      obtain ⟨pre, h1, h2, h3⟩ := ih _ _ _ _ h
      exact ⟨v :: pre, by rw [h1]; rfl, by rw [h2]; simp, by simp [h3]⟩
