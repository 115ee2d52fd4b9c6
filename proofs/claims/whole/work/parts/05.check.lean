/-! ===== the checks, as programs that the kernel runs ===== -/
def mm_cb (T : mm_T) (md : mm_M) (i : Nat) (e : mm_E) : Bool := decide (decode md.2.1 e.1 = .ok (e.2.1, e.2.2.1)) && (decide (e.2.2.1 = mm_ln e.2.1 e.2.2.1) && mm_lk T md md.2.2.2.2.2.2 i e.1 e.2.1 e.2.2.2.2.1 e.2.2.2.2.2.1 e.2.2.2.2.2.2.1 e.2.2.2.2.2.2.2.1 e.2.2.2.2.2.2.2.2.1 e.2.2.2.2.2.2.2.2.2)
def mm_cbs (T : mm_T) (md : mm_M) : Nat → List mm_E → Bool
  | _, [] => true
  | i, e :: es => mm_cb T md i e && mm_cbs T md (i + 1) es
theorem mm_cbs_at {T : mm_T} {md : mm_M} : ∀ (es : List mm_E) (i : Nat), mm_cbs T md i es = true → ∀ (j : Nat) (e : mm_E), es[j]? = some e → mm_cb T md (i + j) e = true := by
  intro es
  induction es with
  | nil => intro i h j e hj; simp at hj
  | cons a es ih =>
    intro i h j e hj
    simp only [mm_cbs, Bool.and_eq_true] at h
    match j, hj with
    | 0, hj => simp at hj; subst hj; exact h.1
    | j + 1, hj =>
      have := ih (i + 1) h.2 j e hj
      rw [show i + (j + 1) = i + 1 + j by omega]
      exact this
def mm_mb (T : mm_T) (md : mm_M) : Bool := plainName md.1.cls && (decide (md.1.cls = mm_cn T md.2.2.2.2.1) && (decide (md.2.2.1 ≤ 40) && ((decide (md.1.cls ≠ "java/lang/invoke/MethodHandle") && decide (md.1.cls ≠ "java/lang/invoke/VarHandle")) && (decide (mm_bp md.2.2.2.2.2.2 0 = some 0) && mm_cbs T md 0 md.2.2.2.2.2.2))))
theorem mm_mo_ok {T : mm_T} {md : mm_M} (h : mm_mb T md = true) : mm_mo T md := by
  simp only [mm_mb, Bool.and_eq_true, decide_eq_true_eq] at h
  obtain ⟨h1, h2, h3, h4, h5, h6⟩ := h
  refine ⟨h1, h2, h3, h4, h5, fun i e he => ?_⟩
  have := mm_cbs_at _ _ h6 i e he
  rw [Nat.zero_add] at this
  simp only [mm_cb, Bool.and_eq_true, decide_eq_true_eq] at this
  exact this
def mm_fb (T : mm_T) (q : Nat × Nat × Nat × Nat) : Bool := match (mm_sh T)[q.2.2.1]? with
  | some (0, ci, ks) => (match (mm_cl T)[ci]? with
    | some r => decide (q.2.2.2 < r.2.2) && (decide (ks.length = r.2.2) && (match ks[q.2.2.2]? with
      | some 0 => decide (mm_ty T ci q.2.2.2 = .int) && decide ((r.2.1 q.2.2.2).2.2.2 = false)
      | some 1 => decide (mm_ty T ci q.2.2.2 = .long) && decide ((r.2.1 q.2.2.2).2.2.2 = false)
      | some 2 => decide (mm_ty T ci q.2.2.2 = .boolean) && decide ((r.2.1 q.2.2.2).2.2.2 = false)
      | _ => true))
    | none => false)
  | _ => false
theorem mm_fo_ok {T : mm_T} {q : Nat × Nat × Nat × Nat} (h : mm_fb T q = true) : mm_fo T q := by
  unfold mm_fb at h
  split at h
  · rename_i ci ks h1
    split at h
    · rename_i r h2
      simp only [Bool.and_eq_true, decide_eq_true_eq] at h
      refine ⟨ci, ks, r, h1, h2, h.1, h.2.1, ?_⟩
      have h3 := h.2.2
      split at h3 <;> rename_i hk <;> (try rw [hk]) <;> first | exact ⟨of_decide_eq_true (Bool.and_eq_true _ _ ▸ h3).1, of_decide_eq_true (Bool.and_eq_true _ _ ▸ h3).2⟩ | (split <;> first | trivial | (rename_i h9; exact (hk h9).elim) | simp_all)
    · cases h
  · cases h
def mm_vb (T : mm_T) (q : Nat × Nat × Nat × Nat × Nat) : Bool := match q.2.2.1 with
  | 0 => (match (mm_sh T)[q.2.2.2.2]? with
    | some (0, ci, _) => (match (mm_cl T)[ci]?, (mm_ms T)[q.2.2.2.1]? with
      | some r, some md => decide (r.1 = md.1.cls)
      | _, _ => false)
    | _ => false)
  | _ => true
theorem mm_vo_ok {T : mm_T} {q : Nat × Nat × Nat × Nat × Nat} (h : mm_vb T q = true) : mm_vo T q := by
  intro h0
  unfold mm_vb at h
  split at h
  · split at h
    · rename_i ci ks h1
      split at h
      · rename_i r md h2 h3
        exact ⟨ci, ks, r, md, h1, h2, h3, of_decide_eq_true h⟩
      · cases h
    · cases h
  · rename_i hne
    exact (hne h0).elim
theorem mm_ok_of {T : mm_T} (h1 : ∀ md ∈ mm_ms T, mm_mo T md) (h2 : (mm_FT T).all (mm_fb T) = true) (h3 : (mm_CT T).all (mm_vb T) = true)
    (h4 : ∀ (ci : Nat) (q : vw_C), (mm_cl T)[ci]? = some q → (∀ k, k < q.2.2 → parseFieldDescriptor (q.2.1 k).2.2.1 = some (mm_ty T ci k)) ∧ ∀ a, a < q.2.2 → ∀ b, b < q.2.2 → a ≠ b → (q.2.1 a).2.1 ≠ (q.2.1 b).2.1) (h5 : (mm_tb T).all goodWord = true) : mm_ok T :=
  ⟨fun _ md h => h1 md (List.mem_of_getElem? h), fun q hq => mm_fo_ok (List.all_eq_true.mp h2 q hq), fun q hq => mm_vo_ok (List.all_eq_true.mp h3 q hq), h4, fun w hw => List.all_eq_true.mp h5 w hw⟩
/-- a method begun: its first entry -/
theorem mm_P_in {sh : mm_S} {ms : List mm_M} {m d : Nat} {md : mm_M} (n : Nat) {as : List Value} {I : mm_I} {L : mm_L} {Q : mm_Q} (hm : ms[m]? = some md) (h0 : (mm_sl as).length ≤ md.2.2.1) (h : mm_v sh (mm_P sh ms d) md.2.2.2.2.2.2 Q n 0 (mm_en md.2.2.1 as) [] I L) : mm_P sh ms (d + 1) m as I L Q := by
  unfold mm_P
  rw [hm]
  exact ⟨h0, mm_v_ok (mm_P_le sh ms d).1 n h⟩
/-- words by their places -/
theorem mm_mem {big ws : List Cond} (ps : List Nat) (hp : ws.map some = ps.map (fun i => big[i]?)) : ∀ w ∈ ws, w ∈ big := by
  intro w hw
  have h1 : some w ∈ ws.map some := List.mem_map.mpr ⟨w, hw, rfl⟩
  rw [hp] at h1
  obtain ⟨i, -, hi⟩ := List.mem_map.mp h1
  exact List.mem_of_getElem? hi
theorem mm_tb_in {T : mm_T} {big : List Cond} (hm : ∀ q ∈ mm_ms T, mm_mw q ∈ big) (hf : ∀ q ∈ mm_FT T, mm_fw T q ∈ big) (hc : ∀ q ∈ mm_CT T, ∀ w ∈ mm_cw T q, w ∈ big) (hl : ∀ q ∈ mm_LT T, Cond.constantLong (mm_cn T q.1) q.2.1 (Int64.ofInt q.2.2) ∈ big) (hd : ∀ q ∈ mm_DT T, Cond.constant (mm_cn T q.1) q.2.1 (Int32.ofInt q.2.2) ∈ big)
    (hj : ∀ q ∈ mm_JT T, ∀ w ∈ mm_jw T q, w ∈ big) (hu : ∀ q ∈ mm_cl T, ∀ w ∈ u_ws q.1 q.2.1 q.2.2, w ∈ big) (hg : (mm_tb T).all goodWord = true) : GoodIn big (mm_tb T) := by
  intro w hw
  refine ⟨?_, good_of_word (List.all_eq_true.mp hg w hw)⟩
  unfold mm_tb at hw
  rcases List.mem_append.mp hw with h | hw
  · obtain ⟨q, hq, rfl⟩ := List.mem_map.mp h
    exact hm q hq
  rcases List.mem_append.mp hw with h | hw
  · obtain ⟨q, hq, rfl⟩ := List.mem_map.mp h
    exact hf q hq
  rcases List.mem_append.mp hw with h | hw
  · obtain ⟨q, hq, h⟩ := List.mem_flatMap.mp h
    exact hc q hq w h
  rcases List.mem_append.mp hw with h | hw
  · obtain ⟨q, hq, rfl⟩ := List.mem_map.mp h
    exact hl q hq
  rcases List.mem_append.mp hw with h | hw
  · obtain ⟨q, hq, rfl⟩ := List.mem_map.mp h
    exact hd q hq
  rcases List.mem_append.mp hw with h | h
  · obtain ⟨q, hq, h⟩ := List.mem_flatMap.mp h
    exact hj q hq w h
  · obtain ⟨q, hq, h⟩ := List.mem_flatMap.mp h
    exact hu q hq w h
