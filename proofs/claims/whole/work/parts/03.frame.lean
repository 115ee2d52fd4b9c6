/-! ===== tables, their words, their check; a frame of the small machine is a frame of the machine ===== -/
/-- a side: its cells, methods, kinds, their types, owners' names; links: fields (owner, place, cell, field), calls (owner, place, way, method, receiver), longs, ints, calls of the JDK's own rows, hosts of nest calls -/
abbrev mm_T : Type := mm_S × List mm_M × List vw_C × (Nat → Nat → FieldType) × (Nat → String) × List (Nat × Nat × Nat × Nat) × List (Nat × Nat × Nat × Nat × Nat) × List (Nat × Nat × Int) × List (Nat × Nat × Int) × List (Nat × Nat × Nat) × String
def mm_sh (T : mm_T) : mm_S := T.1
def mm_ms (T : mm_T) : List mm_M := T.2.1
def mm_cl (T : mm_T) : List vw_C := T.2.2.1
def mm_ty (T : mm_T) : Nat → Nat → FieldType := T.2.2.2.1
def mm_cn (T : mm_T) : Nat → String := T.2.2.2.2.1
def mm_FT (T : mm_T) : List (Nat × Nat × Nat × Nat) := T.2.2.2.2.2.1
def mm_CT (T : mm_T) : List (Nat × Nat × Nat × Nat × Nat) := T.2.2.2.2.2.2.1
def mm_LT (T : mm_T) : List (Nat × Nat × Int) := T.2.2.2.2.2.2.2.1
def mm_DT (T : mm_T) : List (Nat × Nat × Int) := T.2.2.2.2.2.2.2.2.1
def mm_JT (T : mm_T) : List (Nat × Nat × Nat) := T.2.2.2.2.2.2.2.2.2.1
def mm_HO (T : mm_T) : String := T.2.2.2.2.2.2.2.2.2.2
def mm_mw (md : mm_M) : Cond := .code md.1 md.2.1 md.2.2.1 md.2.2.2.1
def mm_fw (T : mm_T) (q : Nat × Nat × Nat × Nat) : Cond := match (mm_sh T)[q.2.2.1]? with
  | some (_, ci, _) => (match (mm_cl T)[ci]? with
    | some r => .fieldLink (mm_cn T q.1) q.2.1 (r.2.1 q.2.2.2).1 (r.2.1 q.2.2.2).2.1 (r.2.1 q.2.2.2).2.2.1
    | none => .arrayClass .int)
  | none => .arrayClass .int
def mm_cw (T : mm_T) (q : Nat × Nat × Nat × Nat × Nat) : List Cond := match (mm_ms T)[q.2.2.2.1]? with
  | some md => (match q.2.2.1 with
    | 0 => [.methodLink (mm_cn T q.1) q.2.1 md.1, .instanceMethod md.1, .selects md.1.cls md.1 md.1, .initialized md.1.cls]
    | 1 => [.methodLink (mm_cn T q.1) q.2.1 md.1, .static md.1, .initialized md.1.cls]
    | _ => [.static md.1, .initialized md.1.cls])
  | none => []
def mm_jw (T : mm_T) (q : Nat × Nat × Nat) : List Cond := match q.2.2 with
  | 10 => [.methodLink (mm_cn T q.1) q.2.1 Lib.MathLoose.abs_long.x, .static Lib.MathLoose.abs_long.x, .initialized "java/lang/Math", .code Lib.MathLoose.abs_long.x Lib.MathLoose.abs_long.code 2 (some .long)]
  | 11 => [.methodLink (mm_cn T q.1) q.2.1 Lib.Math.max.name, .static Lib.Math.max.name, .initialized "java/lang/Math", .code Lib.Math.max.name Lib.Math.max.code 2 (some .int)]
  | 12 => [.methodLink (mm_cn T q.1) q.2.1 Lib.MathLoose.max_long.x, .static Lib.MathLoose.max_long.x, .initialized "java/lang/Math", .code Lib.MathLoose.max_long.x Lib.MathLoose.max_long.code 4 (some .long)]
  | 13 => [.methodLink (mm_cn T q.1) q.2.1 Lib.MathLoose.min_long.x, .static Lib.MathLoose.min_long.x, .initialized "java/lang/Math", .code Lib.MathLoose.min_long.x Lib.MathLoose.min_long.code 4 (some .long)]
  | 14 => [.methodLink (mm_cn T q.1) q.2.1 arraycopyName, .native arraycopyName, .static arraycopyName, .initialized "java/lang/System"]
  | _ => []
/-- the words of a side -/
def mm_tb (T : mm_T) : List Cond := (mm_ms T).map mm_mw ++ ((mm_FT T).map (mm_fw T) ++ ((mm_CT T).flatMap (mm_cw T) ++ ((mm_LT T).map (fun q => Cond.constantLong (mm_cn T q.1) q.2.1 (Int64.ofInt q.2.2)) ++ ((mm_DT T).map (fun q => Cond.constant (mm_cn T q.1) q.2.1 (Int32.ofInt q.2.2)) ++ ((mm_JT T).flatMap (mm_jw T) ++ (mm_cl T).flatMap (fun q => u_ws q.1 q.2.1 q.2.2))))))
/-- the links between nest mates -/
def mm_nw (T : mm_T) (U : State) : Prop := ∀ q ∈ mm_CT T, q.2.2.1 = 2 → ∀ md, (mm_ms T)[q.2.2.2.1]? = some md → va_Nw (.methodLinkNest (mm_cn T q.1) q.2.1 md.1 (mm_HO T)) U
def mm_bp (tb : List mm_E) (i : Nat) : Option Nat := (tb[i]?).map (fun e => e.1)
def mm_nx (tb : List mm_E) (i pc n : Nat) : Bool := mm_bp tb (i + 1) == some (pc + n)
def mm_tg (tb : List mm_E) (x pc : Nat) (off : Int) : Bool := match mm_bp tb x with
  | some t => decide ((pc : Int) + off = (t : Int))
  | none => false
def mm_tgs (tb : List mm_E) (pc : Nat) : List Nat → List Int → Bool
  | [], [] => true
  | t :: ts, o :: os => mm_tg tb t pc o && mm_tgs tb pc ts os
  | _, _ => false
def mm_kd (sh : mm_S) (r k : Nat) : Option Nat := match sh[r]? with
  | some (0, _, ks) => ks[k]?
  | _ => none
def mm_np (md : mm_M) : Option Nat := (parseMethodDescriptor md.1.desc).map (fun d => d.parameters.length)
def mm_ln (ins : Instr) (len : Nat) : Nat := match ins with
  | .aload _ | .iload _ | .lload _ | .istore _ | .astore _ | .lstore _ | .bipush _ | .ldc _ => 2
  | .sipush _ | .ldc_w _ | .ldc2_w _ | .iinc _ _ | .goto _ | .if_icmp _ _ | .ifCond _ _ | .getfield _ | .putfield _ | .invokevirtual _ | .invokestatic _ => 3
  | .tableswitch _ _ _ _ => len
  | _ => 1
def mm_lk (T : mm_T) (md : mm_M) (tb : List mm_E) (i pc : Nat) (ins : Instr) (x y u w : Nat) (z : Int) (ts : List Nat) : Bool := match ins with
  | .goto off => mm_tg tb x pc off
  | .if_icmp _ off => mm_tg tb x pc off && mm_nx tb i pc 3
  | .ifCond _ off => mm_tg tb x pc off && mm_nx tb i pc 3
  | .tableswitch d n h offs => mm_tg tb x pc d && mm_tgs tb pc ts offs.toList && decide ((ts.length : Int) = h - n + 1) && decide (-100000 < n) && decide (h < 100000)
  | .ireturn => decide (md.2.2.2.2.2.1 = 1) && decide ((u = 0 ∧ md.2.2.2.1 = some .int) ∨ (u = 1 ∧ md.2.2.2.1 = some .boolean))
  | .lreturn => decide (md.2.2.2.2.2.1 = 2) && decide (md.2.2.2.1 = some .long)
  | .return_ => decide (md.2.2.2.2.2.1 = 0) && decide (md.2.2.2.1 = none)
  | .getfield idx => mm_nx tb i pc 3 && (decide ((md.2.2.2.2.1, idx, x, y) ∈ mm_FT T) && decide (mm_kd (mm_sh T) x y = some u))
  | .putfield idx => mm_nx tb i pc 3 && (decide ((md.2.2.2.2.1, idx, x, y) ∈ mm_FT T) && decide (mm_kd (mm_sh T) x y = some u))
  | .invokevirtual idx => mm_nx tb i pc 3 && (decide ((md.2.2.2.2.1, idx, 0, x, w) ∈ mm_CT T) && decide (((mm_ms T)[x]?).map (fun q => (q.2.2.2.2.2.1, (mm_np q).map (· + 1))) = some (u, some y)))
  | .invokestatic idx => mm_nx tb i pc 3 && (if 10 ≤ u then decide (u ≤ 14) && decide ((md.2.2.2.2.1, idx, u) ∈ mm_JT T) else (decide ((md.2.2.2.2.1, idx, 1, x, 0) ∈ mm_CT T) || decide ((md.2.2.2.2.1, idx, 2, x, 0) ∈ mm_CT T)) && decide (((mm_ms T)[x]?).map (fun q => (q.2.2.2.2.2.1, mm_np q)) = some (u, some y)))
  | .ldc idx => mm_nx tb i pc 2 && decide ((md.2.2.2.2.1, idx, z) ∈ mm_DT T)
  | .ldc_w idx => mm_nx tb i pc 3 && decide ((md.2.2.2.2.1, idx, z) ∈ mm_DT T)
  | .ldc2_w idx => mm_nx tb i pc 3 && decide ((md.2.2.2.2.1, idx, z) ∈ mm_LT T)
  | ins => mm_nx tb i pc (mm_ln ins 0)
def mm_ck (T : mm_T) (md : mm_M) (i : Nat) (e : mm_E) : Prop := decode md.2.1 e.1 = .ok (e.2.1, e.2.2.1) ∧ e.2.2.1 = mm_ln e.2.1 e.2.2.1 ∧ mm_lk T md md.2.2.2.2.2.2 i e.1 e.2.1 e.2.2.2.2.1 e.2.2.2.2.2.1 e.2.2.2.2.2.2.1 e.2.2.2.2.2.2.2.1 e.2.2.2.2.2.2.2.2.1 e.2.2.2.2.2.2.2.2.2 = true
/-- a method's own check -/
def mm_mo (T : mm_T) (md : mm_M) : Prop := plainName md.1.cls = true ∧ md.1.cls = mm_cn T md.2.2.2.2.1 ∧ md.2.2.1 ≤ 40 ∧ (md.1.cls ≠ "java/lang/invoke/MethodHandle" ∧ md.1.cls ≠ "java/lang/invoke/VarHandle") ∧ mm_bp md.2.2.2.2.2.2 0 = some 0 ∧ ∀ (i : Nat) (e : mm_E), md.2.2.2.2.2.2[i]? = some e → mm_ck T md i e
/-- a field link's check -/
def mm_fo (T : mm_T) (q : Nat × Nat × Nat × Nat) : Prop := ∃ ci ks r, (mm_sh T)[q.2.2.1]? = some (0, ci, ks) ∧ (mm_cl T)[ci]? = some r ∧ q.2.2.2 < r.2.2 ∧ ks.length = r.2.2 ∧ (match ks[q.2.2.2]? with
  | some 0 => mm_ty T ci q.2.2.2 = .int ∧ (r.2.1 q.2.2.2).2.2.2 = false
  | some 1 => mm_ty T ci q.2.2.2 = .long ∧ (r.2.1 q.2.2.2).2.2.2 = false
  | some 2 => mm_ty T ci q.2.2.2 = .boolean ∧ (r.2.1 q.2.2.2).2.2.2 = false
  | _ => True)
/-- a virtual call's receiver -/
def mm_vo (T : mm_T) (q : Nat × Nat × Nat × Nat × Nat) : Prop := q.2.2.1 = 0 → ∃ ci ks r md, (mm_sh T)[q.2.2.2.2]? = some (0, ci, ks) ∧ (mm_cl T)[ci]? = some r ∧ (mm_ms T)[q.2.2.2.1]? = some md ∧ r.1 = md.1.cls
def mm_ok (T : mm_T) : Prop := (∀ (m : Nat) (md : mm_M), (mm_ms T)[m]? = some md → mm_mo T md) ∧ (∀ q ∈ mm_FT T, mm_fo T q) ∧ (∀ q ∈ mm_CT T, mm_vo T q) ∧ (∀ (ci : Nat) (q : vw_C), (mm_cl T)[ci]? = some q → (∀ k, k < q.2.2 → parseFieldDescriptor (q.2.1 k).2.2.1 = some (mm_ty T ci k)) ∧ ∀ a, a < q.2.2 → ∀ b, b < q.2.2 → a ≠ b → (q.2.1 a).2.1 ≠ (q.2.1 b).2.1) ∧ ∀ w ∈ mm_tb T, goodWord w = true
/-! the words, by where they come from -/
theorem mm_in_m {T : mm_T} {m : Nat} {md : mm_M} (h : (mm_ms T)[m]? = some md) : mm_mw md ∈ mm_tb T := List.mem_append_left _ (List.mem_map.mpr ⟨md, List.mem_of_getElem? h, rfl⟩)
theorem mm_in_f {T : mm_T} {q : Nat × Nat × Nat × Nat} (h : q ∈ mm_FT T) : mm_fw T q ∈ mm_tb T := List.mem_append_right _ (List.mem_append_left _ (List.mem_map.mpr ⟨q, h, rfl⟩))
theorem mm_in_c {T : mm_T} {q : Nat × Nat × Nat × Nat × Nat} (h : q ∈ mm_CT T) {w : Cond} (hw : w ∈ mm_cw T q) : w ∈ mm_tb T := List.mem_append_right _ (List.mem_append_right _ (List.mem_append_left _ (List.mem_flatMap.mpr ⟨q, h, hw⟩)))
theorem mm_in_l {T : mm_T} {q : Nat × Nat × Int} (h : q ∈ mm_LT T) : Cond.constantLong (mm_cn T q.1) q.2.1 (Int64.ofInt q.2.2) ∈ mm_tb T := List.mem_append_right _ (List.mem_append_right _ (List.mem_append_right _ (List.mem_append_left _ (List.mem_map.mpr ⟨q, h, rfl⟩))))
theorem mm_in_d {T : mm_T} {q : Nat × Nat × Int} (h : q ∈ mm_DT T) : Cond.constant (mm_cn T q.1) q.2.1 (Int32.ofInt q.2.2) ∈ mm_tb T := List.mem_append_right _ (List.mem_append_right _ (List.mem_append_right _ (List.mem_append_right _ (List.mem_append_left _ (List.mem_map.mpr ⟨q, h, rfl⟩)))))
theorem mm_in_j {T : mm_T} {q : Nat × Nat × Nat} (h : q ∈ mm_JT T) {w : Cond} (hw : w ∈ mm_jw T q) : w ∈ mm_tb T := List.mem_append_right _ (List.mem_append_right _ (List.mem_append_right _ (List.mem_append_right _ (List.mem_append_right _ (List.mem_append_left _ (List.mem_flatMap.mpr ⟨q, h, hw⟩))))))
theorem mm_in_u {T : mm_T} {ci : Nat} {q : vw_C} (h : (mm_cl T)[ci]? = some q) {w : Cond} (hw : w ∈ u_ws q.1 q.2.1 q.2.2) : w ∈ mm_tb T := List.mem_append_right _ (List.mem_append_right _ (List.mem_append_right _ (List.mem_append_right _ (List.mem_append_right _ (List.mem_append_right _ (List.mem_flatMap.mpr ⟨q, List.mem_of_getElem? h, hw⟩))))))
/-- a method's words are good words among any other's -/
theorem mm_good {T : mm_T} (ok : mm_ok T) {m : Nat} {md md0 : mm_M} (h : (mm_ms T)[m]? = some md) : GoodIn (mm_mw md0 :: mm_tb T) (mm_mw md :: mm_tb T) := by
  intro w hw
  have hw' : w ∈ mm_tb T := by
    rcases List.mem_cons.mp hw with rfl | hw
    · exact mm_in_m h
    · exact hw
  exact ⟨List.mem_cons_of_mem _ hw', good_of_word (ok.2.2.2.2 w hw')⟩
/-! contracts -/
def mm_tys (cI cJ : ClassId) : List (ClassId × FieldType) := [(cI, .int), (cJ, .long)]
def mm_B (T : mm_T) (D : va_G) (cI cJ : ClassId) (ad : Nat → Nat) (A : Nat → Prop) (I : mm_I) (L : mm_L) (t : State) : Prop := va_P D (mm_cl T) (mm_ws (mm_sh T) ad cI cJ I L) t.heap ∧ va_K D (mm_cl T) (mm_tys cI cJ) t ∧ va_D A (mm_ws (mm_sh T) ad cI cJ I L)
def mm_Pc (T : mm_T) (D : va_G) (cI cJ : ClassId) (ad : Nat → Nat) (sz : Nat) (as : List Value) (I : mm_I) (L : mm_L) : Array Value → State → Prop := va_Pc (as.map (mm_tv ad)) (fun U => U.heap.size = sz ∧ mm_B T D cI cJ ad (fun _ => True) I L U ∧ mm_nw T U)
def mm_Qc (T : mm_T) (D : va_G) (cI cJ : ClassId) (ad : Nat → Nat) (A : Nat → Prop) (rk : Nat) (Q : mm_Q) : Array Value → State → Outcome → State → Prop := match rk with
  | 0 => va_Qv (S := mm_I × mm_L × Int32 × Int64) (fun u => Q u.1 u.2.1 u.2.2.1 u.2.2.2) (fun u t => mm_B T D cI cJ ad A u.1 u.2.1 t) A
  | 1 => va_Qi (S := mm_I × mm_L × Int64) (fun r u => Q u.1 u.2.1 r u.2.2) (fun u t => mm_B T D cI cJ ad A u.1 u.2.1 t) A
  | _ => va_Ql (S := mm_I × mm_L × Int32) (fun r u => Q u.1 u.2.1 u.2.2 r) (fun u t => mm_B T D cI cJ ad A u.1 u.2.1 t) A
def mm_rm (d : Nat) : Room := { frames := d, cells := 0, slots := 0, locals := 64 * d }
theorem mm_nw_moved {T : mm_T} {s U : State} (hW : s.WarmedH U.vm) (h : mm_nw T s) : mm_nw T U := fun q hq h2 md hm => va_Nw.warmM hW (h q hq h2 md hm)
theorem mm_blind {T : mm_T} {D : va_G} {cI cJ : ClassId} {ad : Nat → Nat} {sz : Nat} {as : List Value} {I : mm_I} {L : mm_L} : FrameBlind (mm_Pc T D cI cJ ad sz as I L) := by
  intro a U g mk q
  obtain ⟨q0, q1, ⟨qP, qK, qD⟩, qN⟩ := q
  exact ⟨q0, q1, ⟨qP, va_K.moved (u := U) (U := U.calling g mk a) (Vm.Alike.refl U.vm) qK, qD⟩, fun r hr h2 md hm => va_Nw.same (w := .methodLinkNest (mm_cn T r.1) r.2.1 md.1 (mm_HO T)) rfl rfl (qN r hr h2 md hm)⟩
theorem mm_pre {T : mm_T} {D : va_G} {cI cJ : ClassId} {ad : Nat → Nat} {as : List Value} {I : mm_I} {L : mm_L} {s : State} {H : Heap} {A : Nat → Prop} (hP : va_P D (mm_cl T) (mm_ws (mm_sh T) ad cI cJ I L) H) (hK : va_K D (mm_cl T) (mm_tys cI cJ) s) (hD : va_D A (mm_ws (mm_sh T) ad cI cJ I L)) (hN : mm_nw T s) :
    ∀ U : State, U.heap = H → s.WarmedH U.vm → mm_Pc T D cI cJ ad H.size as I L (as.map (mm_tv ad)).toArray U :=
  fun U hU hW => ⟨rfl, by rw [hU], ⟨by rw [hU]; exact hP, va_K.moved hW.alike hK, hD.weaken (fun _ _ _ _ => trivial)⟩, mm_nw_moved hW hN⟩
theorem mm_free {A : Nat → Prop} {ws : va_W} {H0 H : Heap} {locs : List Loc} (hD : va_D A ws) (hS : va_S A H0 H locs) (hA : ∀ q, H0.size ≤ q → A q) : ∀ q, va_A ws H.size q → A q := by
  intro q h
  rcases h with ⟨k, e, h⟩ | h
  · exact hD.2 k (q, e) h
  · exact hA q (Nat.le_trans hS.1 h)
