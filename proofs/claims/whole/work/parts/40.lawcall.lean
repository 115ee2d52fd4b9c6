/-! ===== a call of the law, by a contract of the small machine ===== -/
section LC
variable {p : Program} {l : Launch} {e : Env} {s : State} {m : MethodId} {args : Array Value} {below : List Frame} {meth : Method} {c : Code} {H : Heap} {locs : List Loc} {cells slots : Nat} {Z : State → Prop} {D : va_G} {cI cJ : ClassId} {ad : Nat → Nat} {A : Nat → Prop} {T : mm_T}
set_option maxHeartbeats 4000000 in
theorem lw_call (ok : mm_ok T) (hin : GoodIn lw_tbl (mm_tb T)) {own : String} {nL d xm idx pc ci : Nat} {mx : mm_M} {ks : List Nat} {r : vw_C} {as rest : List Value} {I : mm_I} {L : mm_L} {Q : mm_Q} {ls : Array Slot} (hxm : (mm_ms T)[xm]? = some mx) (hp : mm_P (mm_sh T) (mm_ms T) d xm (.ref 0 :: as) I L Q)
    (hx : p.tables.exec = Jvm.exec) {cc : ByteArray} (hb : c.code = cc) (hml : c.maxLocals = nL) (hown : s.vm.findClass own = some m.cls) (hts : ∀ w ∈ lw_tbl, w.before args s = true) (hK : va_K D (mm_cl T) (mm_tys cI cJ) s) (hN : mm_nw T s)
    (hw : ∀ w ∈ ([.methodLink own idx mx.1, .instanceMethod mx.1, .selects mx.1.cls mx.1 mx.1, .initialized mx.1.cls] : List Cond), w ∈ lw_tbl) (hwg : ([.methodLink own idx mx.1, .instanceMethod mx.1, .selects mx.1.cls mx.1 mx.1, .initialized mx.1.cls] : List Cond).all goodWord = true)
    (h0 : (mm_sh T)[0]? = some (0, ci, ks)) (hcl : (mm_cl T)[ci]? = some r) (hrc : r.1 = mx.1.cls)
    (hP : va_P D (mm_cl T) (mm_ws (mm_sh T) ad cI cJ I L) H) (hD : va_D A (mm_ws (mm_sh T) ad cI cJ I L)) (hS : va_S A s.heap H locs) (hA : ∀ q, s.heap.size ≤ q → A q)
    (hnp : mm_np mx = some as.length) (hd : d ≤ 1000) (hrest : (rest.map fun v => v.category).sum ≤ 8) (hdg : decode cc pc = .ok (.invokevirtual idx, 3)) (hsz : ls.size = nL) (hc1 : cells ≤ 600000) (hc2 : slots ≤ 7302250)
    (kk : ∀ (I' : mm_I) (L' : mm_L) (ri : Int32) (rl : Int64) (H1 : Heap) (locs1 : List Loc), Q I' L' ri rl → va_P D (mm_cl T) (mm_ws (mm_sh T) ad cI cJ I' L') H1 → va_D A (mm_ws (mm_sh T) ad cI cJ I' L') → va_S A s.heap H1 locs1 → (∀ q : Nat, q < H.size → ¬ va_A (mm_ws (mm_sh T) ad cI cJ I L) H.size q → H1[q]? = H[q]?) → W p l e room_1 s m args below meth c H1 locs1 cells slots Z (F0 m (pc + 3) ls (mm_push mx.2.2.2.2.2.1 ri rl rest))) :
    W p l e room_1 s m args below meth c H locs cells slots Z (F0 m pc ls ((as.map (mm_tv ad)).reverse ++ .ref (ad 0) :: rest)) := by
  have hM := mm_sound (D := D) (cI := cI) (cJ := cJ) (ad := ad) (l := l) ok d xm mx hxm (.ref 0 :: as) I L Q H.size hp
  have hmx := ok.1 xm mx hxm
  have hcw := cwV (R := room_1) (s := s) (args := args) (own := own) (index := idx) (C := mx.1.cls) (y := mx.1) (bytes := mx.2.1) (maxL := mx.2.2.1) (ret := mx.2.2.2.1) (ws := mm_mw mx :: mm_tb T) (ws' := mm_tb T) (rm := mm_rm d) (mc := 0) (ms := 0) as.length hts
    (fun w hw2 => by
      rcases List.mem_append.mp hw2 with h | h
      · exact ⟨hw w h, good_of_word (List.all_eq_true.mp hwg w h)⟩
      · rcases List.mem_cons.mp h with rfl | h
        · exact hin _ (mm_in_m hxm)
        · exact hin _ h) rfl rfl rfl ⟨rfl, hmx.2.2.2.1.1, hmx.2.2.2.1.2, hnp⟩ ⟨by show d + 1 ≤ 2048; omega, by show 8 + (mx.2.2.1 + 11) + 64 * d ≤ 84000; have := hmx.2.2.1; omega⟩
  have hrv := va_recv hK hP hcl (mm_ws_at h0)
  rw [hrc] at hrv
  have hrun := va_runV (e := e) (below := below) (meth := meth) (locs := locs) (cells := cells) (slots := slots) (n := as.length) (As := as.map (mm_tv ad)) (rest := rest) (g := F0 m pc ls ((as.map (mm_tv ad)).reverse ++ .ref (ad 0) :: rest)) ⟨hx, hb, hml, hown, hts⟩ hM hcw ⟨mm_blind, hrv, mm_pre (as := .ref 0 :: as) hP hK hD hN⟩ rfl (by simp) hsz rfl (lv_room hrest) hdg ⟨hc1, hc2⟩
  have hF := mm_free hD hS hA
  generalize hrk : mx.2.2.2.2.2.1 = rk at kk hrun
  match rk, hrun with
  | 0, hrun => exact va_callv (a := (Value.ref (ad 0) :: as.map (mm_tv ad)).toArray) hrun hS (fun q _ h => hF q h) hF (fun u tt H1 locs1 ht hvm hw hB hz hk hS1 => kk u.1 u.2.1 u.2.2.1 u.2.2.2 H1 locs1 hw (by rw [← ht]; exact hB.1) (hB.2.2.weaken (fun _ q _ h => hF q.1 h)) hS1 hk)
  | 1, hrun => exact va_calli (a := (Value.ref (ad 0) :: as.map (mm_tv ad)).toArray) hrun hS (fun q _ h => hF q h) hF (fun ri u tt H1 locs1 ht hvm hw hB hz hk hS1 => kk u.1 u.2.1 ri u.2.2 H1 locs1 hw (by rw [← ht]; exact hB.1) (hB.2.2.weaken (fun _ q _ h => hF q.1 h)) hS1 hk)
  | _ + 2, hrun => exact va_calll (a := (Value.ref (ad 0) :: as.map (mm_tv ad)).toArray) hrun hS (fun q _ h => hF q h) hF (fun rl u tt H1 locs1 ht hvm hw hB hz hk hS1 => kk u.1 u.2.1 u.2.2 rl H1 locs1 hw (by rw [← ht]; exact hB.1) (hB.2.2.weaken (fun _ q _ h => hF q.1 h)) hS1 hk)
end LC
/-- the law's world: both sides' cells, apart -/
def LWd (D : va_G) (cI cJ : ClassId) (aC aR : Nat → Nat) (s : State) (I : mm_I) (L : mm_L) (J : mm_I) (M : mm_L) (H : Heap) (locs : List Loc) : Prop :=
  va_P D vwCl (mm_ws shC aC cI cJ I L) H ∧ va_P D vwCl (mm_ws shR aR cI cJ J M) H ∧ va_D (fun q : Nat => s.heap.size ≤ q) (mm_ws shC aC cI cJ I L) ∧ va_D (fun q : Nat => s.heap.size ≤ q) (mm_ws shR aR cI cJ J M) ∧ va_S (fun q : Nat => s.heap.size ≤ q) s.heap H locs
def LAp (aC aR : Nat → Nat) : Prop := ∀ i j, i < 22 → j < 19 → aC i ≠ aR j
theorem mm_ws_ad {sh : mm_S} {ad : Nat → Nat} {cI cJ : ClassId} {I : mm_I} {L : mm_L} {k : Nat} {q : Nat × va_E} (h : (mm_ws sh ad cI cJ I L)[k]? = some q) : k < sh.length ∧ q.1 = ad k := by
  unfold mm_ws at h
  rw [List.getElem?_mapIdx] at h
  cases hs : sh[k]? with
  | none => rw [hs] at h; cases h
  | some e =>
    rw [hs] at h
    cases h
    exact ⟨(List.getElem?_eq_some_iff.mp hs).1, rfl⟩
/-- cells of the other side stay -/
theorem lw_keep {D : va_G} {cl : List vw_C} {cI cJ : ClassId} {s1 s2 : mm_S} {a1 a2 : Nat → Nat} {I J : mm_I} {L M : mm_L} {H H1 : Heap} (hap : ∀ i j, i < s1.length → j < s2.length → a1 i ≠ a2 j) (hP : va_P D cl (mm_ws s2 a2 cI cJ J M) H) (hk : ∀ q : Nat, q < H.size → ¬ va_A (mm_ws s1 a1 cI cJ I L) H.size q → H1[q]? = H[q]?) : va_P D cl (mm_ws s2 a2 cI cJ J M) H1 := by
  refine hP.kept (fun k q hq => ?_)
  have hlt := (hP k q hq).lt
  refine hk q.1 hlt (fun h => ?_)
  rcases h with ⟨i, x, hi⟩ | h
  · obtain ⟨g1, g2⟩ := mm_ws_ad hi
    obtain ⟨g3, g4⟩ := mm_ws_ad hq
    exact hap i k g1 g3 (g2.symm.trans g4)
  · omega
