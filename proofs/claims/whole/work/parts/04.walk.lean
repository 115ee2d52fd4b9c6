/-! ===== a frame of the small machine, walked ===== -/
theorem mm_tg_of {tb : List mm_E} {x pc : Nat} {off : Int} (h : mm_tg tb x pc off = true) : ∃ t, mm_bp tb x = some t ∧ (pc : Int) + off = (t : Int) := by
  unfold mm_tg at h
  split at h
  · rename_i t ht
    exact ⟨t, ht, of_decide_eq_true h⟩
  · cases h
theorem mm_nx_of {tb : List mm_E} {i pc n : Nat} (h : mm_nx tb i pc n = true) : mm_bp tb (i + 1) = some (pc + n) := by
  unfold mm_nx at h
  exact eq_of_beq h
theorem mm_tgs_of {tb : List mm_E} {pc : Nat} : ∀ (ts : List Nat) (os : List Int), mm_tgs tb pc ts os = true → ∀ (j t : Nat), ts[j]? = some t → ∃ off pc', os[j]? = some off ∧ mm_bp tb t = some pc' ∧ (pc : Int) + off = (pc' : Int) := by
  intro ts
  induction ts with
  | nil => intro os h j t hj; simp at hj
  | cons a ts ih =>
    intro os h j t hj
    cases os with
    | nil => simp [mm_tgs] at h
    | cons o os =>
      simp only [mm_tgs, Bool.and_eq_true] at h
      match j, hj with
      | 0, hj =>
        simp at hj
        subst hj
        obtain ⟨t, h1, h2⟩ := mm_tg_of h.1
        exact ⟨o, t, rfl, h1, h2⟩
      | j + 1, hj => exact ih os h.2 j t hj
theorem mm_sw_at {z : Int32} {K : Nat → Prop} : ∀ (ts : List Nat) (n : Int), mm_sw z K n ts → ∀ (j t : Nat), ts[j]? = some t → z.toInt = n + j → K t := by
  intro ts
  induction ts with
  | nil => intro n h j t hj; simp at hj
  | cons a ts ih =>
    intro n h j t hj hz
    match j, hj with
    | 0, hj =>
      simp at hj
      subst hj
      refine h.1 ?_
      have : n = z.toInt := by omega
      rw [this, Int32.ofInt_toInt]
    | j + 1, hj => exact ih (n + 1) h.2 j t hj (by push_cast at hz; omega)
section MF
variable {T : mm_T} {D : va_G} {cI cJ : ClassId} {ad : Nat → Nat} {l : Launch} {p : Program} {e : Env} {s : State} {m : MethodId} {args : Array Value} {below : List Frame} {meth : Method} {c : Code} {A : Nat → Prop} {md : mm_M} {d : Nat} {Q : mm_Q}
def mm_X (T : mm_T) (D : va_G) (cI cJ : ClassId) (ad : Nat → Nat) (l : Launch) (p : Program) (e : Env) (s : State) (m : MethodId) (args : Array Value) (below : List Frame) (meth : Method) (c : Code) (A : Nat → Prop) (md : mm_M) (d : Nat) (Q : mm_Q) : mm_K := fun i lo st I L =>
  ∀ pc : Nat, mm_bp md.2.2.2.2.2.2 i = some pc → ∀ (ls : Array Slot) (H : Heap) (locs : List Loc), mm_lr ad ls md.2.2.1 lo → va_P D (mm_cl T) (mm_ws (mm_sh T) ad cI cJ I L) H → va_D A (mm_ws (mm_sh T) ad cI cJ I L) → va_S A s.heap H locs →
    W p l e (mm_rm (d + 1)) s m args below meth c H locs 0 0 (MQ below (mm_Qc T D cI cJ ad A md.2.2.2.2.2.1 Q) args s 0 0 A) (F0 m pc ls (st.map (mm_tv ad)))
theorem mm_after {i pc rk : Nat} {lo st0 t : List Value} {I : mm_I} {L : mm_L} {ls : Array Slot} {H : Heap} {locs : List Loc} {a : Array Value} (hn : mm_bp md.2.2.2.2.2.2 (i + 1) = some (pc + 3)) (hl : mm_lr ad ls md.2.2.1 lo) (hD : va_D A (mm_ws (mm_sh T) ad cI cJ I L)) (hS : va_S A s.heap H locs) (hA : ∀ q, s.heap.size ≤ q → A q)
    (hrun : va_Run p l e (mm_rm (d + 1)) s m args below meth c H locs 0 0 0 0 (F0 m pc ls st0) (t.map (mm_tv ad)) (mm_Qc T D cI cJ ad (va_A (mm_ws (mm_sh T) ad cI cJ I L) H.size) rk (fun I' L' ri rl => mm_X T D cI cJ ad l p e s m args below meth c A md d Q (i + 1) lo (mm_push rk ri rl t) I' L') a) (va_A (mm_ws (mm_sh T) ad cI cJ I L) H.size)) :
    W p l e (mm_rm (d + 1)) s m args below meth c H locs 0 0 (MQ below (mm_Qc T D cI cJ ad A md.2.2.2.2.2.1 Q) args s 0 0 A) (F0 m pc ls st0) := by
  have hF := mm_free hD hS hA
  match rk, hrun with
  | 0, hrun => exact va_callv (a := a) hrun hS (fun q _ h => hF q h) hF (fun u tt H1 locs1 ht hvm hw hB hz hk hS1 => hw _ hn ls H1 locs1 hl (by rw [← ht]; exact hB.1) (hB.2.2.weaken (fun _ q _ h => hF q.1 h)) hS1)
  | 1, hrun => exact va_calli (a := a) hrun hS (fun q _ h => hF q h) hF (fun r u tt H1 locs1 ht hvm hw hB hz hk hS1 => hw _ hn ls H1 locs1 hl (by rw [← ht]; exact hB.1) (hB.2.2.weaken (fun _ q _ h => hF q.1 h)) hS1)
  | _ + 2, hrun => exact va_calll (a := a) hrun hS (fun q _ h => hF q h) hF (fun r u tt H1 locs1 ht hvm hw hB hz hk hS1 => hw _ hn ls H1 locs1 hl (by rw [← ht]; exact hB.1) (hB.2.2.weaken (fun _ q _ h => hF q.1 h)) hS1)
/-- what a body knows -/
def mm_At (T : mm_T) (D : va_G) (cI cJ : ClassId) (p : Program) (s : State) (m : MethodId) (args : Array Value) (meth : Method) (c : Code) (A : Nat → Prop) (md : mm_M) : Prop :=
  p.tables.exec = Jvm.exec ∧ c.code = md.2.1 ∧ meth.sig.returnType = md.2.2.2.1 ∧ meth.locks = false ∧ c.maxLocals = md.2.2.1 ∧ s.vm.findClass (mm_cn T md.2.2.2.2.1) = some m.cls ∧ (∀ w ∈ mm_mw md :: mm_tb T, w.before args s = true) ∧ va_K D (mm_cl T) (mm_tys cI cJ) s ∧ mm_nw T s ∧ ∀ q, s.heap.size ≤ q → A q
def mm_hc (T : mm_T) (D : va_G) (cI cJ : ClassId) (ad : Nat → Nat) (l : Launch) (d : Nat) : Prop := ∀ (x : Nat) (mx : mm_M), (mm_ms T)[x]? = some mx → ∀ (as : List Value) (I : mm_I) (L : mm_L) (Q : mm_Q) (sz : Nat), mm_P (mm_sh T) (mm_ms T) d x as I L Q →
  Met l mx.1 (mm_mw mx :: mm_tb T) (mm_rm d) (mm_Pc T D cI cJ ad sz as I L) (mm_Qc T D cI cJ ad (va_A (mm_ws (mm_sh T) ad cI cJ I L) sz) mx.2.2.2.2.2.1 Q) 0 0 (va_A (mm_ws (mm_sh T) ad cI cJ I L) sz)
set_option maxHeartbeats 4000000 in
theorem mm_getf (ok : mm_ok T) (C0 : mm_At T D cI cJ p s m args meth c A md) {i pc idx x y u : Nat} {lo t : List Value} {I : mm_I} {L : mm_L} {ls : Array Slot} {H : Heap} {locs : List Loc} (hd : decode md.2.1 pc = .ok (.getfield idx, 3)) (hq : (md.2.2.2.2.1, idx, x, y) ∈ mm_FT T) (hk : mm_kd (mm_sh T) x y = some u)
    (hP : va_P D (mm_cl T) (mm_ws (mm_sh T) ad cI cJ I L) H) {QQ : State → Prop} (kk : W p l e (mm_rm (d + 1)) s m args below meth c H locs 0 0 QQ (F0 m (pc + 3) ls (mm_fv ad I L x y u :: t))) : W p l e (mm_rm (d + 1)) s m args below meth c H locs 0 0 QQ (F0 m pc ls (.ref (ad x) :: t)) := by
  obtain ⟨hx, hb, hr, hlk, hml, hown, hts, hK, hN, hA⟩ := C0
  obtain ⟨ci, ks, r, h1, h2, h3, h4, -⟩ := ok.2.1 _ hq
  dsimp only at h1 h3 h4
  have hks : ks[y]? = some u := by
    unfold mm_kd at hk
    rw [h1] at hk
    exact hk
  have hw := hts _ (List.mem_cons_of_mem _ (mm_in_f hq))
  unfold mm_fw at hw
  dsimp only at hw
  rw [h1] at hw
  dsimp only at hw
  rw [h2] at hw
  dsimp only at hw
  exact va_get (D := D) (ci := ci) (v := mm_fv ad I L x y u) (C := r.1) (T := r.2.1) (N := r.2.2) hx hb hts (fun w hw => List.mem_cons_of_mem _ (mm_in_u h2 hw)) hown hK hP x (mm_ws_at h1) h2 y h3 hw (fun _ h9 => h9) (by rw [List.getElem?_mapIdx, hks]; rfl) hd kk
set_option maxHeartbeats 4000000 in
theorem mm_putf (ok : mm_ok T) (C0 : mm_At T D cI cJ p s m args meth c A md) {pc idx x y u : Nat} {t : List Value} {I I' : mm_I} {L L' : mm_L} {v : Value} {ls : Array Slot} {H : Heap} {locs : List Loc} (hd : decode md.2.1 pc = .ok (.putfield idx, 3)) (hq : (md.2.2.2.2.1, idx, x, y) ∈ mm_FT T) (hk : mm_kd (mm_sh T) x y = some u) (hu : u < 3)
    (hP : va_P D (mm_cl T) (mm_ws (mm_sh T) ad cI cJ I L) H) (hD : va_D A (mm_ws (mm_sh T) ad cI cJ I L)) (hS : va_S A s.heap H locs) {QQ : State → Prop}
    (hv : mm_fv ad I' L' x y u = v) (hn : ∀ ty : FieldType, (u = 0 → ty = .int) → (u = 1 → ty = .long) → (u = 2 → ty = .boolean) → narrow ty v = v ∧ fits ty v = true) (hi : ∀ b, b ≠ x → I' b = I b) (hl : ∀ b, b ≠ x → L' b = L b) (ho : ∀ j kd, j ≠ y → mm_fv ad I' L' x j kd = mm_fv ad I L x j kd)
    (kk : ∀ (H1 : Heap) (locs1 : List Loc), va_P D (mm_cl T) (mm_ws (mm_sh T) ad cI cJ I' L') H1 → va_D A (mm_ws (mm_sh T) ad cI cJ I' L') → va_S A s.heap H1 locs1 → W p l e (mm_rm (d + 1)) s m args below meth c H1 locs1 0 0 QQ (F0 m (pc + 3) ls t)) : W p l e (mm_rm (d + 1)) s m args below meth c H locs 0 0 QQ (F0 m pc ls (v :: .ref (ad x) :: t)) := by
  obtain ⟨hx, hb, hr, hlk, hml, hown, hts, hK, hN, hA⟩ := C0
  obtain ⟨ci, ks, r, h1, h2, h3, h4, h5⟩ := ok.2.1 _ hq
  dsimp only at h1 h3 h4 h5
  have hks : ks[y]? = some u := by
    unfold mm_kd at hk
    rw [h1] at hk
    exact hk
  rw [hks] at h5
  have hw := hts _ (List.mem_cons_of_mem _ (mm_in_f hq))
  unfold mm_fw at hw
  dsimp only at hw
  rw [h1] at hw
  dsimp only at hw
  rw [h2] at hw
  dsimp only at hw
  obtain ⟨hty, hnm⟩ := ok.2.2.2.1 _ _ h2
  have h6 : (r.2.1 y).2.2.2 = false ∧ narrow (mm_ty T ci y) v = v ∧ fits (mm_ty T ci y) v = true := by
    match u, hu, h5, hn with
    | 0, _, h5, hn => exact ⟨h5.2, hn _ (fun _ => h5.1) (fun h => by cases h) (fun h => by cases h)⟩
    | 1, _, h5, hn => exact ⟨h5.2, hn _ (fun h => by cases h) (fun _ => h5.1) (fun h => by cases h)⟩
    | 2, _, h5, hn => exact ⟨h5.2, hn _ (fun h => by cases h) (fun h => by cases h) (fun _ => h5.1)⟩
  have he : (mm_ws (mm_sh T) ad cI cJ I L).set x (ad x, .inr (ci, (ks.mapIdx (fun k kd => mm_fv ad I L x k kd)).set y v)) = mm_ws (mm_sh T) ad cI cJ I' L' := by
    refine mm_ws_set h1 ?_ hi hl
    show Sum.inr (ci, ks.mapIdx (fun k kd => mm_fv ad I' L' x k kd)) = _
    rw [mm_fs_set ad I I' L L' x y v ks (fun kd hkd => by rw [hks] at hkd; cases hkd; exact hv) ho]
  refine va_put (D := D) (ci := ci) (v := v) (ty := mm_ty T ci y) (C := r.1) (T := r.2.1) (N := r.2.2) hx hb hts (fun w hw => List.mem_cons_of_mem _ (mm_in_u h2 hw)) (mm_ty T ci) hty hnm hown hK hP hD hS x (mm_ws_at h1) h2 y h3 hw (fun _ h9 => h9) h6.1 (hty y h3) h6.2.1 h6.2.2 (by rw [List.length_mapIdx, h4]; exact h3) hd (fun H1 locs1 hP1 hD1 hS1 => ?_)
  rw [he] at hP1 hD1
  exact kk H1 locs1 hP1 hD1 hS1
set_option maxHeartbeats 8000000 in
theorem mm_step (ok : mm_ok T) (hm : mm_mo T md) (C0 : mm_At T D cI cJ p s m args meth c A md) (hcall : mm_hc T D cI cJ ad l d) :
    ∀ (i : Nat) (lo st : List Value) (I : mm_I) (L : mm_L), mm_one (mm_sh T) (mm_P (mm_sh T) (mm_ms T) d) md.2.2.2.2.2.2 Q (mm_X T D cI cJ ad l p e s m args below meth c A md d Q) i lo st I L → mm_X T D cI cJ ad l p e s m args below meth c A md d Q i lo st I L := by
  intro i lo st I L h pc hpc ls H locs hl hP hD hS
  obtain ⟨hx, hb, hr, hlocks, hml, hown, hts, hK, hN, hA⟩ := id C0
  have hFr := mm_free hD hS hA
  unfold mm_one at h
  split at h
  case h_2 => exact h.elim
  rename_i bp ins len hdd x y u w z ts he
  obtain ⟨hd, hlen, hk⟩ := hm.2.2.2.2.2 i _ he
  have hpb : pc = bp := by
    unfold mm_bp at hpc
    rw [he] at hpc
    exact (Option.some.inj hpc).symm
  subst hpb
  dsimp only at hd hlen hk
  unfold mm_st at h
  split at h
  · simp only [mm_ln] at hlen
    subst hlen
    simp only [mm_lk, mm_ln] at hk
    have hn := mm_nx_of hk
    unfold mm_lda at h
    split at h
    · rename_i v hv
      exact lv_aload hx hb hd (hl.2.2.2 _ _ hv (by simp)) (h _ hn ls H locs hl hP hD hS)
    · exact h.elim
  · simp only [mm_ln] at hlen
    subst hlen
    simp only [mm_lk, mm_ln] at hk
    have hn := mm_nx_of hk
    unfold mm_lda at h
    split at h
    · rename_i v hv
      exact lv_aload_n hx hb hd rfl (hl.2.2.2 _ _ hv (by simp)) (h _ hn ls H locs hl hP hD hS)
    · exact h.elim
  · simp only [mm_ln] at hlen
    subst hlen
    simp only [mm_lk, mm_ln] at hk
    have hn := mm_nx_of hk
    unfold mm_ldi at h
    split at h
    · rename_i v hv
      exact lv_iload hx hb hd (hl.2.2.2 _ _ hv (by simp)) (h _ hn ls H locs hl hP hD hS)
    · exact h.elim
  · simp only [mm_ln] at hlen
    subst hlen
    simp only [mm_lk, mm_ln] at hk
    have hn := mm_nx_of hk
    unfold mm_ldi at h
    split at h
    · rename_i v hv
      exact lv_iload_n hx hb hd rfl (hl.2.2.2 _ _ hv (by simp)) (h _ hn ls H locs hl hP hD hS)
    · exact h.elim
  · simp only [mm_ln] at hlen
    subst hlen
    simp only [mm_lk, mm_ln] at hk
    have hn := mm_nx_of hk
    unfold mm_ldl at h
    split at h
    · rename_i v hv
      exact lv_lload hx hb hd (hl.2.2.2 _ _ hv (by simp)) (h _ hn ls H locs hl hP hD hS)
    · exact h.elim
  · simp only [mm_ln] at hlen
    subst hlen
    simp only [mm_lk, mm_ln] at hk
    have hn := mm_nx_of hk
    unfold mm_ldl at h
    split at h
    · rename_i v hv
      exact lv_lload_n hx hb hd rfl (hl.2.2.2 _ _ hv (by simp)) (h _ hn ls H locs hl hP hD hS)
    · exact h.elim
  · simp only [mm_ln] at hlen
    subst hlen
    simp only [mm_lk, mm_ln] at hk
    have hn := mm_nx_of hk
    unfold mm_i at h
    split at h
    · rename_i a t
      exact lv_istore hx hb hd (mm_lr_has hl) (by have := h.1; rw [hl.2.1] at this; exact this) rfl (fun ls1 h1 => h.2 _ hn ls1 H locs (mm_lr_1 hl h1) hP hD hS)
    · exact h.elim
  · simp only [mm_ln] at hlen
    subst hlen
    simp only [mm_lk, mm_ln] at hk
    have hn := mm_nx_of hk
    unfold mm_i at h
    split at h
    · rename_i a t
      exact lv_istore_n hx hb hd rfl (mm_lr_has hl) (by have := h.1; rw [hl.2.1] at this; exact this) rfl (fun ls1 h1 => h.2 _ hn ls1 H locs (mm_lr_1 hl h1) hP hD hS)
    · exact h.elim
  · simp only [mm_ln] at hlen
    subst hlen
    simp only [mm_lk, mm_ln] at hk
    have hn := mm_nx_of hk
    unfold mm_a at h
    split at h
    · rename_i a t
      exact lv_astore hx hb hd (mm_lr_has hl) (by have := h.1; rw [hl.2.1] at this; exact this) rfl (fun ls1 h1 => h.2 _ hn ls1 H locs (mm_lr_1 hl h1) hP hD hS)
    · exact h.elim
  · simp only [mm_ln] at hlen
    subst hlen
    simp only [mm_lk, mm_ln] at hk
    have hn := mm_nx_of hk
    unfold mm_a at h
    split at h
    · rename_i a t
      exact lv_astore_n hx hb hd rfl (mm_lr_has hl) (by have := h.1; rw [hl.2.1] at this; exact this) rfl (fun ls1 h1 => h.2 _ hn ls1 H locs (mm_lr_1 hl h1) hP hD hS)
    · exact h.elim
  · simp only [mm_ln] at hlen
    subst hlen
    simp only [mm_lk, mm_ln] at hk
    have hn := mm_nx_of hk
    unfold mm_l at h
    split at h
    · rename_i a t
      exact lv_lstore hx hb hd (mm_lr_has hl) (by have := h.1; rw [hl.2.1] at this; exact this) rfl (fun ls1 h1 => h.2 _ hn ls1 H locs (mm_lr_2 hl h1) hP hD hS)
    · exact h.elim
  · simp only [mm_ln] at hlen
    subst hlen
    simp only [mm_lk, mm_ln] at hk
    have hn := mm_nx_of hk
    unfold mm_l at h
    split at h
    · rename_i a t
      exact lv_lstore_n hx hb hd rfl (mm_lr_has hl) (by have := h.1; rw [hl.2.1] at this; exact this) rfl (fun ls1 h1 => h.2 _ hn ls1 H locs (mm_lr_2 hl h1) hP hD hS)
    · exact h.elim
  · simp only [mm_ln] at hlen
    subst hlen
    simp only [mm_lk, mm_ln] at hk
    have hn := mm_nx_of hk
    unfold mm_ldi at h
    split at h
    · rename_i n0 cst v hv
      have hin := mm_as_in (ad := ad) hv (by simp)
      obtain ⟨k, hk2⟩ := List.getElem?_of_mem hin
      exact lv_iinc (k := k) hx hb hd (mm_lr_has hl) hk2 rfl (by rw [← hl.2.1]; exact (List.getElem?_eq_some_iff.mp hv).1) rfl (fun ls1 h1 => h _ hn ls1 H locs (mm_lr_1 hl h1) hP hD hS)
    · exact h.elim
  · simp only [mm_ln] at hlen
    subst hlen
    simp only [mm_lk, mm_ln] at hk
    have hn := mm_nx_of hk
    exact lv_iconst hx hb hd rfl (h _ hn ls H locs hl hP hD hS)
  · simp only [mm_ln] at hlen
    subst hlen
    simp only [mm_lk, mm_ln] at hk
    have hn := mm_nx_of hk
    exact lv_bipush hx hb hd rfl (h _ hn ls H locs hl hP hD hS)
  · simp only [mm_ln] at hlen
    subst hlen
    simp only [mm_lk, mm_ln] at hk
    have hn := mm_nx_of hk
    exact lv_sipush hx hb hd rfl (h _ hn ls H locs hl hP hD hS)
  · simp only [mm_ln] at hlen
    subst hlen
    simp only [mm_lk, mm_ln] at hk
    have hn := mm_nx_of hk
    exact lv_lconst hx hb hd rfl (h _ hn ls H locs hl hP hD hS)
  · simp only [mm_ln] at hlen
    subst hlen
    simp only [mm_lk, mm_ln] at hk
    simp only [Bool.and_eq_true] at hk
    have hn := mm_nx_of hk.1
    have hq := of_decide_eq_true hk.2
    exact lv_ldc hx hb hown (hts _ (List.mem_cons_of_mem _ (mm_in_d hq))) hd (h _ hn ls H locs hl hP hD hS)
  · simp only [mm_ln] at hlen
    subst hlen
    simp only [mm_lk, mm_ln] at hk
    simp only [Bool.and_eq_true] at hk
    have hn := mm_nx_of hk.1
    have hq := of_decide_eq_true hk.2
    exact lv_ldcw hx hb hown (hts _ (List.mem_cons_of_mem _ (mm_in_d hq))) hd (h _ hn ls H locs hl hP hD hS)
  · simp only [mm_ln] at hlen
    subst hlen
    simp only [mm_lk, mm_ln] at hk
    simp only [Bool.and_eq_true] at hk
    have hn := mm_nx_of hk.1
    have hq := of_decide_eq_true hk.2
    exact lv_ldc2 hx hb hown (hts _ (List.mem_cons_of_mem _ (mm_in_l hq))) hd (h _ hn ls H locs hl hP hD hS)
  · simp only [mm_ln] at hlen
    subst hlen
    simp only [mm_lk, mm_ln] at hk
    have hn := mm_nx_of hk
    unfold mm_ii at h
    split at h
    · exact lv_iadd hx hb hd (h _ hn ls H locs hl hP hD hS)
    · exact h.elim
  · simp only [mm_ln] at hlen
    subst hlen
    simp only [mm_lk, mm_ln] at hk
    have hn := mm_nx_of hk
    unfold mm_ii at h
    split at h
    · exact lv_isub hx hb hd (h _ hn ls H locs hl hP hD hS)
    · exact h.elim
  · simp only [mm_ln] at hlen
    subst hlen
    simp only [mm_lk, mm_ln] at hk
    have hn := mm_nx_of hk
    unfold mm_ii at h
    split at h
    · exact lv_imul hx hb hd (h _ hn ls H locs hl hP hD hS)
    · exact h.elim
  · simp only [mm_ln] at hlen
    subst hlen
    simp only [mm_lk, mm_ln] at hk
    have hn := mm_nx_of hk
    unfold mm_ii at h
    split at h
    · exact lv_iand hx hb hd (h _ hn ls H locs hl hP hD hS)
    · exact h.elim
  · simp only [mm_ln] at hlen
    subst hlen
    simp only [mm_lk, mm_ln] at hk
    have hn := mm_nx_of hk
    unfold mm_ii at h
    split at h
    · exact lv_ior hx hb hd (h _ hn ls H locs hl hP hD hS)
    · exact h.elim
  · simp only [mm_ln] at hlen
    subst hlen
    simp only [mm_lk, mm_ln] at hk
    have hn := mm_nx_of hk
    unfold mm_ii at h
    split at h
    · exact lv_ixor hx hb hd (h _ hn ls H locs hl hP hD hS)
    · exact h.elim
  · simp only [mm_ln] at hlen
    subst hlen
    simp only [mm_lk, mm_ln] at hk
    have hn := mm_nx_of hk
    unfold mm_ii at h
    split at h
    · exact lv_ishl hx hb hd (h _ hn ls H locs hl hP hD hS)
    · exact h.elim
  · simp only [mm_ln] at hlen
    subst hlen
    simp only [mm_lk, mm_ln] at hk
    have hn := mm_nx_of hk
    unfold mm_ii at h
    split at h
    · exact lv_ishr hx hb hd (h _ hn ls H locs hl hP hD hS)
    · exact h.elim
  · simp only [mm_ln] at hlen
    subst hlen
    simp only [mm_lk, mm_ln] at hk
    have hn := mm_nx_of hk
    unfold mm_ii at h
    split at h
    · exact lv_iushr hx hb hd rfl (h _ hn ls H locs hl hP hD hS)
    · exact h.elim
  · simp only [mm_ln] at hlen
    subst hlen
    simp only [mm_lk, mm_ln] at hk
    have hn := mm_nx_of hk
    unfold mm_ii at h
    split at h
    · exact lv_idiv hx hb hd h.1 (h.2 _ hn ls H locs hl hP hD hS)
    · exact h.elim
  · simp only [mm_ln] at hlen
    subst hlen
    simp only [mm_lk, mm_ln] at hk
    have hn := mm_nx_of hk
    unfold mm_ii at h
    split at h
    · exact lv_irem hx hb hd h.1 (h.2 _ hn ls H locs hl hP hD hS)
    · exact h.elim
  · simp only [mm_ln] at hlen
    subst hlen
    simp only [mm_lk, mm_ln] at hk
    have hn := mm_nx_of hk
    unfold mm_ll at h
    split at h
    · exact lv_ladd hx hb hd (h _ hn ls H locs hl hP hD hS)
    · exact h.elim
  · simp only [mm_ln] at hlen
    subst hlen
    simp only [mm_lk, mm_ln] at hk
    have hn := mm_nx_of hk
    unfold mm_ll at h
    split at h
    · exact lv_lsub hx hb hd (h _ hn ls H locs hl hP hD hS)
    · exact h.elim
  · simp only [mm_ln] at hlen
    subst hlen
    simp only [mm_lk, mm_ln] at hk
    have hn := mm_nx_of hk
    unfold mm_ll at h
    split at h
    · exact lv_lmul hx hb hd (h _ hn ls H locs hl hP hD hS)
    · exact h.elim
  · simp only [mm_ln] at hlen
    subst hlen
    simp only [mm_lk, mm_ln] at hk
    have hn := mm_nx_of hk
    unfold mm_l at h
    split at h
    · exact lv_lneg hx hb hd (h _ hn ls H locs hl hP hD hS)
    · exact h.elim
  · simp only [mm_ln] at hlen
    subst hlen
    simp only [mm_lk, mm_ln] at hk
    have hn := mm_nx_of hk
    unfold mm_ll at h
    split at h
    · exact W.lcmp hx hb hd (h _ hn ls H locs hl hP hD hS)
    · exact h.elim
  · simp only [mm_ln] at hlen
    subst hlen
    simp only [mm_lk, mm_ln] at hk
    have hn := mm_nx_of hk
    unfold mm_i at h
    split at h
    · exact lv_i2l hx hb hd rfl (h _ hn ls H locs hl hP hD hS)
    · exact h.elim
  · simp only [mm_ln] at hlen
    subst hlen
    simp only [mm_lk, mm_ln] at hk
    have hn := mm_nx_of hk
    unfold mm_l at h
    split at h
    · exact lv_l2i hx hb hd rfl (h _ hn ls H locs hl hP hD hS)
    · exact h.elim
  · simp only [mm_ln] at hlen
    subst hlen
    simp only [mm_lk, mm_ln] at hk
    have hn := mm_nx_of hk
    split at h
    · exact lv_dup hx hb hd rfl (h _ hn ls H locs hl hP hD hS)
    · exact lv_dup hx hb hd rfl (h _ hn ls H locs hl hP hD hS)
    · exact h.elim
  · simp only [mm_ln] at hlen
    subst hlen
    simp only [mm_lk, mm_ln] at hk
    have hn := mm_nx_of hk
    unfold mm_ia2 at h
    split at h
    · exact lv_dup2_11 hx hb hd rfl rfl (h _ hn ls H locs hl hP hD hS)
    · exact h.elim
  · simp only [mm_ln] at hlen
    subst hlen
    simp only [mm_lk, mm_ln] at hk
    obtain ⟨t, h1, h2⟩ := mm_tg_of hk
    exact lv_goto (tgt := t) hx hb hd h2 (h _ h1 ls H locs hl hP hD hS)
  · simp only [mm_ln] at hlen
    subst hlen
    simp only [mm_lk, mm_ln] at hk
    simp only [Bool.and_eq_true] at hk
    obtain ⟨t, h1, h2⟩ := mm_tg_of hk.1
    have hn := mm_nx_of hk.2
    unfold mm_ii at h
    split at h
    · rename_i cnd off q0 a1 a2 a3
      cases cnd
      · exact lv_icmp_eq (tgt := t) hx hb hd h2 (fun q => h.1 q _ h1 ls H locs hl hP hD hS) (fun q => h.2 q _ hn ls H locs hl hP hD hS)
      · exact lv_icmp_ne (tgt := t) hx hb hd h2 (fun q => h.1 q _ h1 ls H locs hl hP hD hS) (fun q => h.2 (fun z => z q) _ hn ls H locs hl hP hD hS)
      · exact lv_icmp_lt (tgt := t) hx hb hd h2 (fun q => h.1 q _ h1 ls H locs hl hP hD hS) (fun q => h.2 q _ hn ls H locs hl hP hD hS)
      · exact lv_icmp_ge (tgt := t) hx hb hd h2 (fun q => h.1 q _ h1 ls H locs hl hP hD hS) (fun q => h.2 q _ hn ls H locs hl hP hD hS)
      · exact lv_icmp_gt (tgt := t) hx hb hd h2 (fun q => h.1 q _ h1 ls H locs hl hP hD hS) (fun q => h.2 q _ hn ls H locs hl hP hD hS)
      · exact lv_icmp_le (tgt := t) hx hb hd h2 (fun q => h.1 q _ h1 ls H locs hl hP hD hS) (fun q => h.2 q _ hn ls H locs hl hP hD hS)
    · exact h.elim
  · simp only [mm_ln] at hlen
    subst hlen
    simp only [mm_lk, mm_ln] at hk
    simp only [Bool.and_eq_true] at hk
    obtain ⟨t, h1, h2⟩ := mm_tg_of hk.1
    have hn := mm_nx_of hk.2
    unfold mm_i at h
    split at h
    · rename_i cnd off q0 a1 a2
      cases cnd
      · exact lv_if_eq (tgt := t) hx hb hd h2 (fun q => h.1 q _ h1 ls H locs hl hP hD hS) (fun q => h.2 q _ hn ls H locs hl hP hD hS)
      · exact lv_if_ne (tgt := t) hx hb hd h2 (fun q => h.1 q _ h1 ls H locs hl hP hD hS) (fun q => h.2 (fun z => z q) _ hn ls H locs hl hP hD hS)
      · exact lv_if_lt (tgt := t) hx hb hd h2 (fun q => h.1 q _ h1 ls H locs hl hP hD hS) (fun q => h.2 q _ hn ls H locs hl hP hD hS)
      · exact lv_if_ge (tgt := t) hx hb hd h2 (fun q => h.1 q _ h1 ls H locs hl hP hD hS) (fun q => h.2 q _ hn ls H locs hl hP hD hS)
      · exact lv_if_gt (tgt := t) hx hb hd h2 (fun q => h.1 q _ h1 ls H locs hl hP hD hS) (fun q => h.2 q _ hn ls H locs hl hP hD hS)
      · exact lv_if_le (tgt := t) hx hb hd h2 (fun q => h.1 q _ h1 ls H locs hl hP hD hS) (fun q => h.2 q _ hn ls H locs hl hP hD hS)
    · exact h.elim
  · clear hlen
    simp only [mm_lk] at hk
    simp only [Bool.and_eq_true] at hk
    obtain ⟨⟨⟨⟨k1, k2⟩, k3⟩, k4⟩, k5⟩ := hk
    have k3 := of_decide_eq_true k3
    unfold mm_i at h
    split at h
    · rename_i df n0 n1 offs q0 q1 a1 a2
      by_cases hz : a1.toInt < n0 ∨ n1 < a1.toInt
      · obtain ⟨t, h1, h2⟩ := mm_tg_of k1
        exact lv_tableOut (tgt := t) hx hb hd hz h2 (h.2 hz _ h1 ls H locs hl hP hD hS)
      · have hj : (a1.toInt - n0).toNat < ts.length := by omega
        obtain ⟨off, pc2, h1, h2, h3⟩ := mm_tgs_of ts _ k2 (a1.toInt - n0).toNat _ (List.getElem?_eq_getElem hj)
        exact lv_tableIn (off := off) (tgt := pc2) hx hb hd (fun q => hz (Or.inl q)) (fun q => hz (Or.inr q)) (by rw [← Array.getElem?_toList]; exact h1) h3 (mm_sw_at ts _ h.1 (a1.toInt - n0).toNat _ (List.getElem?_eq_getElem hj) (by omega) _ h2 ls H locs hl hP hD hS)
    · exact h.elim
  · simp only [mm_ln] at hlen
    subst hlen
    simp only [mm_lk, mm_ln] at hk
    simp only [Bool.and_eq_true] at hk
    have hn := mm_nx_of hk.1
    have hq := of_decide_eq_true hk.2.1
    have hu := of_decide_eq_true hk.2.2
    unfold mm_a at h
    split at h
    · unfold mm_get at h
      obtain ⟨rfl, h⟩ := h
      refine mm_getf (t := _) (i := i) (lo := lo) ok C0 hd hq hu hP ?_
      match u, h with
      | 0, h => exact h _ hn ls H locs hl hP hD hS
      | 1, h => exact h _ hn ls H locs hl hP hD hS
      | 2, h => exact h _ hn ls H locs hl hP hD hS
      | n + 3, h => exact h _ hn ls H locs hl hP hD hS
    · exact h.elim
  · simp only [mm_ln] at hlen
    subst hlen
    simp only [mm_lk, mm_ln] at hk
    simp only [Bool.and_eq_true] at hk
    have hn := mm_nx_of hk.1
    have hq := of_decide_eq_true hk.2.1
    have hu := of_decide_eq_true hk.2.2
    unfold mm_put at h
    split at h
    · split at h
      · obtain ⟨rfl, h⟩ := h
        rename_i v r t
        refine mm_putf (I' := mm_ui I r y v) (L' := L) ok C0 hd hq hu (by decide) hP hD hS (by simp [mm_fv, mm_ui]; rfl) (fun ty e _ _ => by rw [e rfl]; exact ⟨rfl, rfl⟩) (fun b hb => mm_ui_off I y v hb) (fun _ _ => rfl) (fun j kd hj => by unfold mm_fv mm_ui; simp [hj]) (fun H1 locs1 hP1 hD1 hS1 => h _ hn ls H1 locs1 hl hP1 hD1 hS1)
      · exact h.elim
    · split at h
      · obtain ⟨rfl, h⟩ := h
        rename_i v r t
        refine mm_putf (I' := I) (L' := mm_ul L r y v) ok C0 hd hq hu (by decide) hP hD hS (by simp [mm_fv, mm_ul]; rfl) (fun ty _ e _ => by rw [e rfl]; exact ⟨rfl, rfl⟩) (fun _ _ => rfl) (fun b hb => mm_ul_off L y v hb) (fun j kd hj => by unfold mm_fv mm_ul; simp [hj]) (fun H1 locs1 hP1 hD1 hS1 => h _ hn ls H1 locs1 hl hP1 hD1 hS1)
      · exact h.elim
    · split at h
      · obtain ⟨rfl, h0, h⟩ := h
        rename_i v r t
        refine mm_putf (I' := mm_ui I r y v) (L' := L) ok C0 hd hq hu (by decide) hP hD hS (by simp [mm_fv, mm_ui]; rfl) (fun ty _ _ e => by rw [e rfl]; rcases h0 with rfl | rfl <;> exact ⟨rfl, rfl⟩) (fun b hb => mm_ui_off I y v hb) (fun _ _ => rfl) (fun j kd hj => by unfold mm_fv mm_ui; simp [hj]) (fun H1 locs1 hP1 hD1 hS1 => h _ hn ls H1 locs1 hl hP1 hD1 hS1)
      · exact h.elim
    · exact h.elim
  · simp only [mm_ln] at hlen
    subst hlen
    simp only [mm_lk, mm_ln] at hk
    have hn := mm_nx_of hk
    unfold mm_ia2 at h
    split at h
    · rename_i j a t
      obtain ⟨ks, hs⟩ := mm_ia_at (mm_vp_pos h.1)
      exact va_iald hx hb hK hP a 0 (mm_ws_at hs) rfl h.1 hd (h.2 _ hn ls H locs hl hP hD hS)
    · exact h.elim
  · simp only [mm_ln] at hlen
    subst hlen
    simp only [mm_lk, mm_ln] at hk
    have hn := mm_nx_of hk
    unfold mm_ia2 at h
    split at h
    · rename_i j a t
      obtain ⟨ks, hs⟩ := mm_la_at (mm_vp_pos h.1)
      exact va_lald hx hb hK hP a 1 (mm_ws_at hs) rfl h.1 hd (h.2 _ hn ls H locs hl hP hD hS)
    · exact h.elim
  · simp only [mm_ln] at hlen
    subst hlen
    simp only [mm_lk, mm_ln] at hk
    have hn := mm_nx_of hk
    split at h
    · rename_i v j a t
      obtain ⟨ks, hs⟩ := mm_ia_at (mm_vp_pos h.1)
      refine va_iast hx hb hK hP hD hS a 0 (mm_ws_at hs) rfl h.1 hd (fun H1 locs1 hP1 hD1 hS1 => ?_)
      have he2 : (mm_ws (mm_sh T) ad cI cJ I L).set a (ad a, .inl (cI, mm_ia (mm_sh T) a, .inl (upd (I a) j.toNatClampNeg v))) = mm_ws (mm_sh T) ad cI cJ (mm_ui I a j.toNatClampNeg v) L := mm_ws_set hs (by
        show Sum.inl (cI, mm_ia (mm_sh T) a, Sum.inl (mm_ui I a j.toNatClampNeg v a)) = _
        rw [mm_ui_row]) (fun b hb => mm_ui_off I _ v hb) (fun _ _ => rfl)
      rw [he2] at hP1 hD1
      exact h.2 _ hn ls H1 locs1 hl hP1 hD1 hS1
    · exact h.elim
  · simp only [mm_ln] at hlen
    subst hlen
    simp only [mm_lk, mm_ln] at hk
    have hn := mm_nx_of hk
    split at h
    · rename_i v j a t
      obtain ⟨ks, hs⟩ := mm_la_at (mm_vp_pos h.1)
      refine va_last hx hb hK hP hD hS a 1 (mm_ws_at hs) rfl h.1 hd (fun H1 locs1 hP1 hD1 hS1 => ?_)
      have he2 : (mm_ws (mm_sh T) ad cI cJ I L).set a (ad a, .inl (cJ, mm_la (mm_sh T) a, .inr (.inl (vp_updL (L a) j.toNatClampNeg v)))) = mm_ws (mm_sh T) ad cI cJ I (mm_ul L a j.toNatClampNeg v) := mm_ws_set hs (by
        show Sum.inl (cJ, mm_la (mm_sh T) a, Sum.inr (Sum.inl (mm_ul L a j.toNatClampNeg v a))) = _
        rw [mm_ul_row]) (fun _ _ => rfl) (fun b hb => mm_ul_off L _ v hb)
      rw [he2] at hP1 hD1
      exact h.2 _ hn ls H1 locs1 hl hP1 hD1 hS1
    · exact h.elim
  · simp only [mm_ln] at hlen
    subst hlen
    simp only [mm_lk, mm_ln] at hk
    have hn := mm_nx_of hk
    unfold mm_a at h
    split at h
    · rename_i a t
      by_cases ha : 0 < mm_ia (mm_sh T) a
      · obtain ⟨ks, hs⟩ := mm_ia_at ha
        have h0 : mm_la (mm_sh T) a = 0 := by simp [mm_la, hs]
        refine va_alen hx hb hK hP a 0 (mm_ws_at hs) rfl (v := Int32.ofNat (mm_ia (mm_sh T) a)) rfl hd ?_
        have h2 := h.2
        rw [h0, Nat.add_zero] at h2
        exact h2 _ hn ls H locs hl hP hD hS
      · have ha0 : mm_ia (mm_sh T) a = 0 := by omega
        have h1 := h.1
        have h2 := h.2
        rw [ha0, Nat.zero_add] at h1 h2
        obtain ⟨ks, hs⟩ := mm_la_at (Nat.pos_of_ne_zero h1)
        exact va_alen hx hb hK hP a 1 (mm_ws_at hs) rfl (v := Int32.ofNat (mm_la (mm_sh T) a)) rfl hd (h2 _ hn ls H locs hl hP hD hS)
    · exact h.elim
  · simp only [mm_ln] at hlen
    subst hlen
    simp only [mm_lk, mm_ln] at hk
    simp only [Bool.and_eq_true] at hk
    have hn := mm_nx_of hk.1
    have hq := of_decide_eq_true hk.2.1
    have hu := of_decide_eq_true hk.2.2
    obtain ⟨hrc, h⟩ := h
    unfold mm_rcv at hrc
    unfold mm_inv at h
    split at h
    · rename_i as t hp
      rw [hp] at hrc
      obtain ⟨ci, ks, r, mx, q1, q2, q3, q4⟩ := ok.2.2.1 _ hq rfl
      dsimp only at q1 q3
      rw [q3] at hu
      simp only [Option.map_some, Option.some.injEq, Prod.mk.injEq] at hu
      obtain ⟨rfl, hu2⟩ := hu
      obtain ⟨pr, p1, p2, p3⟩ := mm_pop_of _ _ _ _ _ hp
      rw [List.append_nil] at p2
      cases has : as with
      | nil => rw [has] at hrc; exact hrc.elim
      | cons v as1 =>
        rw [has] at hrc
        cases v with
        | ref r0 =>
          dsimp only at hrc
          subst hrc
          have hM := hcall x mx q3 as I L _ H.size h.2
          have hst : st.map (mm_tv ad) = (as1.map (mm_tv ad)).reverse ++ .ref (ad r0) :: t.map (mm_tv ad) := by
            have : pr = as1.reverse ++ [.ref r0] := by
              have h9 := congrArg List.reverse p2
              rw [List.reverse_reverse, has, List.reverse_cons] at h9
              exact h9.symm
            rw [p1, this]
            simp [mm_tv]
          have hw0 : ∀ w ∈ mm_cw T (md.2.2.2.2.1, _, 0, x, r0), w ∈ mm_tb T := fun w hw => mm_in_c hq hw
          simp only [mm_cw, q3] at hw0
          have hnp : mm_np mx = some as1.length := by
            have h9 : pr.length = as1.length + 1 := by
              have := congrArg List.length p2
              rw [List.length_reverse, has, List.length_cons] at this
              exact this.symm
            cases hnp : mm_np mx with
            | none => rw [hnp] at hu2; cases hu2
            | some k =>
              rw [hnp] at hu2
              simp only [Option.map_some, Option.some.injEq] at hu2
              rw [show k = as1.length by omega]
          have hmx := ok.1 x mx q3
          rw [has] at hM
          have hcw := cwV (R := mm_rm (d + 1)) (s := s) (args := args) (own := mm_cn T md.2.2.2.2.1) (index := _) (C := mx.1.cls) (y := mx.1) (bytes := mx.2.1) (maxL := mx.2.2.1) (ret := mx.2.2.2.1) (ws := mm_mw mx :: mm_tb T) (ws' := mm_tb T) (rm := mm_rm d) (mc := 0) (ms := 0) as1.length hts
            (fun w hw => by
              rcases List.mem_append.mp hw with hw | hw
              · exact ⟨List.mem_cons_of_mem _ (hw0 w hw), good_of_word (ok.2.2.2.2 w (hw0 w hw))⟩
              · exact mm_good ok q3 w hw) rfl rfl rfl ⟨rfl, hmx.2.2.2.1.1, hmx.2.2.2.1.2, hnp⟩ ⟨Nat.le_refl _, by show 8 + (mx.2.2.1 + 11) + 64 * d ≤ 64 * (d + 1); have := hmx.2.2.1; omega⟩
          have hrv := va_recv hK hP q2 (mm_ws_at q1)
          rw [q4] at hrv
          have hrun := va_runV (e := e) (below := below) (meth := meth) (locs := locs) (n := as1.length) (As := as1.map (mm_tv ad)) (rest := t.map (mm_tv ad)) (g := F0 m pc ls (st.map (mm_tv ad))) ⟨hx, hb, hml, hown, hts⟩ hM hcw ⟨mm_blind, hrv, mm_pre (as := .ref r0 :: as1) hP hK hD hN⟩ rfl (by simp) hl.1 hst (lv_room (by rw [mm_tv_ct]; exact h.1)) hd ⟨Nat.zero_le _, Nat.zero_le _⟩
          exact mm_after (t := t) hn hl hD hS hA hrun
        | _ => exact hrc.elim
    · exact h.elim
  · simp only [mm_ln] at hlen
    subst hlen
    simp only [mm_lk, mm_ln, Bool.and_eq_true] at hk
    have hn := mm_nx_of hk.1
    have hk := hk.2
    have hlo : ∀ (t : List Value) (k : Nat), mm_ct t ≤ 8 → k ≤ 56 → ((t.map (mm_tv ad)).map fun v => v.category).sum + k ≤ (mm_rm (d + 1)).locals := fun t k h1 h2 => by
      rw [mm_tv_ct]
      show _ ≤ 64 * (d + 1)
      omega
    split at h
    · rw [if_pos (by decide), Bool.and_eq_true] at hk
      have hj : ∀ w ∈ mm_jw T _, w.before args s = true := fun w hw => hts _ (List.mem_cons_of_mem _ (mm_in_j (of_decide_eq_true hk.2) hw))
      simp only [mm_jw, List.forall_mem_cons] at hj
      unfold mm_l at h
      split at h
      · exact va_mabs_long hx hb (by rw [hml]; exact hl.1.symm) hown hj.1 hj.2.1 hj.2.2.1 hj.2.2.2.1 (Nat.succ_le_succ (Nat.zero_le _)) (hlo _ _ h.1 (by decide)) (Nat.zero_le _) (Nat.zero_le _) hd (h.2 _ hn ls H locs hl hP hD hS)
      · exact h.elim
    · rw [if_pos (by decide), Bool.and_eq_true] at hk
      have hj : ∀ w ∈ mm_jw T _, w.before args s = true := fun w hw => hts _ (List.mem_cons_of_mem _ (mm_in_j (of_decide_eq_true hk.2) hw))
      simp only [mm_jw, List.forall_mem_cons] at hj
      unfold mm_ii at h
      split at h
      · exact va_mmax hx hb (by rw [hml]; exact hl.1.symm) hown hj.1 hj.2.1 hj.2.2.1 hj.2.2.2.1 (Nat.succ_le_succ (Nat.zero_le _)) (hlo _ _ h.1 (by decide)) (Nat.zero_le _) (Nat.zero_le _) hd (h.2 _ hn ls H locs hl hP hD hS)
      · exact h.elim
    · rw [if_pos (by decide), Bool.and_eq_true] at hk
      have hj : ∀ w ∈ mm_jw T _, w.before args s = true := fun w hw => hts _ (List.mem_cons_of_mem _ (mm_in_j (of_decide_eq_true hk.2) hw))
      simp only [mm_jw, List.forall_mem_cons] at hj
      unfold mm_ll at h
      split at h
      · exact va_mmax_long hx hb (by rw [hml]; exact hl.1.symm) hown hj.1 hj.2.1 hj.2.2.1 hj.2.2.2.1 (Nat.succ_le_succ (Nat.zero_le _)) (hlo _ _ h.1 (by decide)) (Nat.zero_le _) (Nat.zero_le _) hd (h.2 _ hn ls H locs hl hP hD hS)
      · exact h.elim
    · rw [if_pos (by decide), Bool.and_eq_true] at hk
      have hj : ∀ w ∈ mm_jw T _, w.before args s = true := fun w hw => hts _ (List.mem_cons_of_mem _ (mm_in_j (of_decide_eq_true hk.2) hw))
      simp only [mm_jw, List.forall_mem_cons] at hj
      unfold mm_ll at h
      split at h
      · exact va_mmin_long hx hb (by rw [hml]; exact hl.1.symm) hown hj.1 hj.2.1 hj.2.2.1 hj.2.2.2.1 (Nat.succ_le_succ (Nat.zero_le _)) (hlo _ _ h.1 (by decide)) (Nat.zero_le _) (Nat.zero_le _) hd (h.2 _ hn ls H locs hl hP hD hS)
      · exact h.elim
    · rw [if_pos (by decide), Bool.and_eq_true] at hk
      have hj : ∀ w ∈ mm_jw T _, w.before args s = true := fun w hw => hts _ (List.mem_cons_of_mem _ (mm_in_j (of_decide_eq_true hk.2) hw))
      simp only [mm_jw, List.forall_mem_cons] at hj
      unfold mm_cpy at h
      split at h
      · rename_i n dp b sp a t
        obtain ⟨h0, ⟨-, -, h3, h4, h5, h6, h7, h8, h9⟩, h⟩ := h
        obtain ⟨ka, ha⟩ := mm_ia_at h3
        obtain ⟨kb, hb2⟩ := mm_ia_at h4
        refine va_copyi hx hb (by rw [hml]; exact hl.1.symm) hown hj.1 hj.2.1 hj.2.2.1 hj.2.2.2.1 hK hP hD hS a b 0 0 (mm_ws_at ha) (mm_ws_at hb2) rfl rfl rfl h5 h6 h7 h8 h9 (fun _ _ => rfl) (Nat.succ_le_succ (Nat.zero_le _)) (hlo _ _ h0 (by decide +kernel)) hd (fun H1 locs1 hP1 hD1 hS1 => ?_)
        have he2 : (mm_ws (mm_sh T) ad cI cJ I L).set b (ad b, .inl (cI, mm_ia (mm_sh T) b, .inl (va_cpy (I a) (I b) sp.toNatClampNeg dp.toNatClampNeg n.toNatClampNeg))) = mm_ws (mm_sh T) ad cI cJ (mm_ur I b (va_cpy (I a) (I b) sp.toNatClampNeg dp.toNatClampNeg n.toNatClampNeg)) L := mm_ws_set hb2 (by
          show Sum.inl (cI, mm_ia (mm_sh T) b, Sum.inl (mm_ur I b _ b)) = _
          rw [mm_ur_row]) (fun q hq => mm_ur_off I _ hq) (fun _ _ => rfl)
        rw [he2] at hP1 hD1
        exact h _ hn ls H1 locs1 hl hP1 hD1 hS1
      · exact h.elim
    · by_cases hu10 : 10 ≤ u
      · rw [if_pos hu10, Bool.and_eq_true] at hk
        have h14 := of_decide_eq_true hk.1
        rename_i n10 n11 n12 n13 n14
        exact (show False by
          rcases (show u = 10 ∨ u = 11 ∨ u = 12 ∨ u = 13 ∨ u = 14 by omega) with q | q | q | q | q
          · exact n10 q
          · exact n11 q
          · exact n12 q
          · exact n13 q
          · exact n14 q).elim
      · rw [if_neg hu10, Bool.and_eq_true] at hk
        have hu := of_decide_eq_true hk.2
        unfold mm_inv at h
        split at h
        · rename_i as t hp
          cases q3 : (mm_ms T)[x]? with
          | none => rw [q3] at hu; cases hu
          | some mx =>
            rw [q3] at hu
            simp only [Option.map_some, Option.some.injEq, Prod.mk.injEq] at hu
            obtain ⟨rfl, hu2⟩ := hu
            obtain ⟨pr, p1, p2, p3⟩ := mm_pop_of _ _ _ _ _ hp
            rw [List.append_nil] at p2
            have hM := hcall x mx q3 as I L _ H.size h.2
            have hst : st.map (mm_tv ad) = (as.map (mm_tv ad)).reverse ++ t.map (mm_tv ad) := by
              rw [p1, p2]
              simp
            have hnp : mm_np mx = some as.length := by
              rw [hu2, p2, List.length_reverse, p3]
            have hmx := ok.1 x mx q3
            have hroom : (mm_rm d).frames + 1 ≤ (mm_rm (d + 1)).frames ∧ 8 + (mx.2.2.1 + 11) + (mm_rm d).locals ≤ (mm_rm (d + 1)).locals := ⟨Nat.le_refl _, by show 8 + (mx.2.2.1 + 11) + 64 * d ≤ 64 * (d + 1); have := hmx.2.2.1; omega⟩
            rcases Bool.or_eq_true _ _ ▸ hk.1 with hq | hq
            · have hq := of_decide_eq_true hq
              have hw0 : ∀ w ∈ mm_cw T (md.2.2.2.2.1, _, 1, x, 0), w ∈ mm_tb T := fun w hw => mm_in_c hq hw
              simp only [mm_cw, q3] at hw0
              have hcw := va_cwS (R := mm_rm (d + 1)) (s := s) (args := args) (own := mm_cn T md.2.2.2.2.1) (index := _) (y := mx.1) (bytes := mx.2.1) (maxL := mx.2.2.1) (ret := mx.2.2.2.1) (ws := mm_mw mx :: mm_tb T) (ws' := mm_tb T) (rm := mm_rm d) (mc := 0) (ms := 0) as.length hts
                (fun w hw => by
                  rcases List.mem_append.mp hw with hw | hw
                  · exact ⟨List.mem_cons_of_mem _ (hw0 w hw), good_of_word (ok.2.2.2.2 w (hw0 w hw))⟩
                  · exact mm_good ok q3 w hw) rfl rfl rfl ⟨hmx.2.2.2.1.1, hmx.2.2.2.1.2, hnp⟩ hroom
              have hrun := va_runS (e := e) (below := below) (meth := meth) (locs := locs) (n := as.length) (As := as.map (mm_tv ad)) (rest := t.map (mm_tv ad)) (g := F0 m pc ls (st.map (mm_tv ad))) ⟨hx, hb, hml, hown, hts⟩ hM hcw ⟨mm_blind, mm_pre (as := as) hP hK hD hN⟩ rfl (by simp) hl.1 hst (lv_room (by rw [mm_tv_ct]; exact h.1)) hd ⟨Nat.zero_le _, Nat.zero_le _⟩
              exact mm_after (t := t) hn hl hD hS hA hrun
            · have hq := of_decide_eq_true hq
              have hw0 : ∀ w ∈ mm_cw T (md.2.2.2.2.1, _, 2, x, 0), w.before args s = true := fun w hw => hts _ (List.mem_cons_of_mem _ (mm_in_c hq hw))
              simp only [mm_cw, q3, List.forall_mem_cons] at hw0
              have hcw := va_cnB (R := mm_rm (d + 1)) (s := s) (args := args) (bytes := mx.2.1) (maxL := mx.2.2.1) (ret := mx.2.2.2.1) (ws := mm_mw mx :: mm_tb T) (ws' := mm_tb T) (rm := mm_rm d) (mc := 0) (ms := 0) as.length hts (mm_good ok q3) rfl rfl rfl (hN _ hq rfl mx q3) hw0.2.1 ⟨hmx.2.2.2.1.1, hmx.2.2.2.1.2, hnp⟩ hroom
              have hrun := va_runSN (e := e) (below := below) (meth := meth) (locs := locs) (n := as.length) (As := as.map (mm_tv ad)) (rest := t.map (mm_tv ad)) (g := F0 m pc ls (st.map (mm_tv ad))) ⟨hx, hb, hml, hown, hts⟩ hM ⟨hcw, hw0.1, trivial⟩ ⟨mm_blind, mm_pre (as := as) hP hK hD hN⟩ rfl (by simp) hl.1 hst (lv_room (by rw [mm_tv_ct]; exact h.1)) hd ⟨Nat.zero_le _, Nat.zero_le _⟩
              exact mm_after (t := t) hn hl hD hS hA hrun
        · exact h.elim
  · simp only [mm_ln] at hlen
    subst hlen
    simp only [mm_lk, mm_ln, Bool.and_eq_true] at hk
    have h1 := of_decide_eq_true hk.1
    have h2 := of_decide_eq_true hk.2
    rw [h1]
    split at h
    · rename_i a
      have hq : ∀ t : State, t.heap = H → s.WarmedH t.vm → mm_Qc T D cI cJ ad A 1 Q args s (.returned (some (.int a))) t := fun t ht hW => ⟨⟨a, (I, L, 0), rfl, h.2, by rw [ht]; exact hP, va_K.moved hW.alike hK, hD⟩, hS.F ht⟩
      rcases h2 with ⟨-, h2⟩ | ⟨hu, h2⟩
      · exact W.iret hx hb (hr.trans h2) hq hS.2.2 hd hlocks
      · exact W.zret hx hb (hr.trans h2) (by rcases h.1 hu with rfl | rfl <;> rfl) hq hS.2.2 hd hlocks
    · exact h.elim
  · simp only [mm_ln] at hlen
    subst hlen
    simp only [mm_lk, mm_ln, Bool.and_eq_true] at hk
    have h1 := of_decide_eq_true hk.1
    have h2 := of_decide_eq_true hk.2
    rw [h1]
    split at h
    · rename_i a
      exact W.lret hx hb (hr.trans h2) (fun t ht hW => ⟨⟨a, (I, L, 0), rfl, h, by rw [ht]; exact hP, va_K.moved hW.alike hK, hD⟩, hS.F ht⟩) hS.2.2 hd hlocks
    · exact h.elim
  · simp only [mm_ln] at hlen
    subst hlen
    simp only [mm_lk, mm_ln, Bool.and_eq_true] at hk
    have h1 := of_decide_eq_true hk.1
    have h2 := of_decide_eq_true hk.2
    rw [h1]
    split at h
    · exact W.vret hx hb (hr.trans h2) (fun t ht hW => ⟨⟨(I, L, 0, 0), rfl, h, by rw [ht]; exact hP, va_K.moved hW.alike hK, hD⟩, hS.F ht⟩) hS.2.2 hd hlocks
    · exact h.elim
  · exact h.elim
/-- a method of the small machine is the machine's -/
theorem mm_sound (ok : mm_ok T) : ∀ d : Nat, mm_hc T D cI cJ ad l d := by
  intro d
  induction d with
  | zero => intro x mx _ as I L Q sz h; exact h.elim
  | succ d ih =>
    intro x mx hx as I L Q sz h
    have hm := ok.1 x mx hx
    unfold mm_P at h
    rw [hx] at h
    obtain ⟨h0, h⟩ := h
    refine Met.ofW (cc := mx.2.1) (maxL := mx.2.2.1) (ret := mx.2.2.2.1) hm.1 rfl ?_
    intro p e s m args below meth c s₁ B hml hv
    obtain ⟨rfl, hsz, ⟨hP, hK, hD0⟩, hN⟩ := hv
    have hts := atoms_spec (ws := mm_mw mx :: mm_tb T) B.pre
    have hown : s.vm.findClass mx.1.cls = some m.cls := findClass_of_methodNamed B.named
    rw [hm.2.1] at hown
    subst hsz
    have hD := hD0.self (sz := s.heap.size)
    have hA : ∀ q : Nat, s.heap.size ≤ q → va_A (mm_ws (mm_sh T) ad cI cJ I L) s.heap.size q := fun q h => Or.inr h
    have hS : va_S (va_A (mm_ws (mm_sh T) ad cI cJ I L) s.heap.size) s.heap s.heap [] := va_S.rf
    have C0 : mm_At T D cI cJ p s m _ meth c (va_A (mm_ws (mm_sh T) ad cI cJ I L) s.heap.size) mx := ⟨B.exec, B.bytes, B.returns, B.notSynchronized, hml, hown, hts, hK, hN, hA⟩
    rw [lg_entry_eq]
    exact h _ (mm_step (d := d) (l := l) (ad := ad) (e := e) (below := below) (Q := Q) ok hm C0 ih) 0 hm.2.2.2.2.1 _ s.heap [] (mm_lr_en ad mx.2.2.1 as h0) hP hD hS
end MF
