/-! ===== the law's loop, and its start, over the pairs of contracts ===== -/
def SPall (Cch : mm_I → mm_L → Prop) (qo qf : pv → Int32 → pv × Int32) (qs : pv → Int32 → pv × Int64) : Prop := (∀ a b c e : Int32, SPi Cch 36 5 [.int a, .int b, .int c, .int e] (fun v => q_scene v a b c e)) ∧ (∀ a b : Int32, SPl Cch 37 6 [.int a, .int b] (fun v => q_ofScene v a b)) ∧ (∀ a b : Int32, SPi Cch 38 8 [.int a, .int b] (fun v => q_move v a b)) ∧ (∀ a : Int32, SPi Cch 39 9 [.int a] (fun v => q_shift v a)) ∧ (∀ a b : Int32, SPi Cch 40 10 [.int a, .int b] (fun v => q_stretch v a b)) ∧ (∀ a b c e : Int32, (e = 0 ∨ e = 1) → SPi Cch 41 11 [.int a, .int b, .int c, .int e] (fun v => q_clue v a b c e)) ∧ (∀ a b : Int32, SPi Cch 42 13 [.int a, .int b] (fun v => q_ofClue v a b)) ∧ (SPi Cch 43 14 [] (fun v => q_drop v)) ∧ (∀ a : Int32, SPi Cch 44 15 [.int a] (fun v => q_fee v a)) ∧ (∀ a b : Int32, SPl Cch 45 17 [.int a, .int b] (fun v => q_jump v a b)) ∧ (∀ a : Int32, SPl Cch 46 23 [.int a] (fun v => qs v a)) ∧ (∀ a : Int32, SPi Cch 47 24 [.int a] (fun v => q_add v a)) ∧ (∀ a : Int32, SPi Cch 48 25 [.int a] (fun v => q_cut v a)) ∧ (∀ a : Int32, SPi Cch 49 35 [.int a] (fun v => q_judge v a)) ∧ (SPi Cch 50 37 [] (fun v => q_jumps v)) ∧ (∀ a b : Int32, SPi Cch 51 38 [.int a, .int b] (fun v => q_told v a b)) ∧ (∀ a : Int32, SPi Cch 52 43 [.int a] (fun v => qo v a)) ∧ (∀ a : Int32, SPi Cch 53 51 [.int a] (fun v => qf v a)) ∧ (SPi Cch 54 53 [] (fun v => q_untangled v)) ∧ (∀ a : Int32, SPi Cch 55 55 [.int a] (fun v => q_many v a))
set_option maxHeartbeats 8000000 in
set_option maxRecDepth 100000 in
theorem law_loop {p : Program} {l : Launch} {e : Env} {s : State} {m : MethodId} {below : List Frame} {meth : Method} {c : Code} {D : va_G} {cI cJ : ClassId} {aC aR : Nat → Nat} {b Ln cN sN : Nat} {xs : Nat → Int32} {Cch : mm_I → mm_L → Prop} {qo qf : pv → Int32 → pv × Int32} {qs : pv → Int32 → pv × Int64} (hsp : SPall Cch qo qf qs) (X : LX p s m meth c b Ln xs D cI cJ aC aR) (hcN : cN ≤ 600000) (hsN : sN ≤ 7302250) :
    ∀ (n i : Nat) (ls : Array Slot) (I : mm_I) (L : mm_L) (J : mm_I) (M : mm_L) (H : Heap) (locs : List Loc), i ≤ Ln → Ln + 1 ≤ i + n → lv_has ls 4 [(0, .ref b), (1, .ref (aC 0)), (2, .ref (aR 0)), (3, .int (nI i))] → LWd D cI cJ aC aR s I L J M H locs → LG Cch I L J → W p l e room_1 s m #[Value.ref b] below meth c H locs cN sN (lw_Z below #[Value.ref b] s) (F0 m 18 ls []) := by
  obtain ⟨⟨hx, hb, hr, hml, hown, hts, hX, hbl, hlocks, hgv⟩, hL, hK, hNC, hNR, hap⟩ := id X
  have hbA : ¬ (fun q : Nat => s.heap.size ≤ q) b := Nat.not_le.mpr hbl
  intro n
  induction n with
  | zero =>
    intro i ls I L J M H locs h1 h2
    exact absurd h2 (by omega)
  | succ n ih =>
    intro i ls I L J M H locs hi hin hl hW hG
    have hS := hW.2.2.2.2
    refine lv_iload_n hx hb eL_18 rfl (lv_at hl 3 rfl) ?_
    refine lv_aload_n hx hb eL_19 rfl (lv_at hl 0 rfl) ?_
    refine va_slen hx hb hX hbl hbA hS eL_20 ?_
    refine lv_iconst (v := 5) hx hb eL_21 (by decide) ?_
    refine lv_isub hx hb eL_22 ?_
    refine lv_icmp_gt (tgt := 703) hx hb eL_23 (by decide) (fun c9 => ?_) (fun c9 => ?_)
    · refine lv_iconst (v := 1) hx hb eL_703 (by decide) ?_
      refine va_forget (fun q hq => hS.2.2 q hq) ?_
      refine W.widen (k := 600000) (n := 7302250) hcN hsN ?_
      exact lw_ret hx hb hr hlocks eL_704
    · have hi5 : i + 5 ≤ Ln := by
        rcases Nat.lt_or_ge Ln (i + 5) with q | q
        · exfalso
          apply c9
          show nI Ln - 5 < nI i
          rw [show (5 : Int32) = nI 5 by decide +kernel]
          rcases Nat.lt_or_ge Ln 5 with q5 | q5
          · have h1 := pk_sneg (a := Ln) (b := 5) (by omega) q5
            have h2 : (0 : Int32) ≤ nI i := by rw [ni_00 (by omega)]; trivial
            grind
          · rw [pk_sub q5, ni_lt (by omega) (by omega)]
            omega
        · exact q
      have fin : ∀ I' L' J' M' H1 locs1, LWd D cI cJ aC aR s I' L' J' M' H1 locs1 → LG Cch I' L' J' → W p l e room_1 s m #[Value.ref b] below meth c H1 locs1 cN sN (lw_Z below #[Value.ref b] s) (F0 m 697 ls []) := by
        intro I' L' J' M' H1 locs1 hW1 hG1
        refine lv_iinc (v := nI (i + 5)) (lv' := [(3, .int (nI (i + 5))), (0, .ref b), (1, .ref (aC 0)), (2, .ref (aR 0))]) hx hb eL_697 hl (k := 3) rfl (by rw [show Int32.ofInt 5 = nI 5 by decide +kernel, nI_add]) (by decide) rfl (fun ls hl => ?_)
        refine lv_goto (tgt := 18) hx hb eL_700 (by decide) ?_
        exact ih (i + 5) ls I' L' J' M' H1 locs1 hi5 (by omega) (lv_sub hl [1, 2, 3, 0] rfl) hW1 hG1
      refine lv_aload_n hx hb eL_26 rfl (lv_at hl 0 rfl) ?_
      refine lv_iload_n hx hb eL_27 rfl (lv_at hl 3 rfl) ?_
      refine va_sld hx hb hX hbl hbA hS (vp_in_nI (by omega) (by omega)) eL_28 ?_
      refine lv_bipush (v := 31) hx hb eL_29 (by decide) ?_
      refine lv_iand hx hb eL_31 ?_
      generalize xs (nI i).toNatClampNeg &&& 31 = x
      by_cases hz : x.toInt < 0 ∨ 19 < x.toInt
      · exact lv_tableOut (tgt := 697) hx hb eL_32 hz (by decide) (fin I L J M H locs hW hG)
      rcases (show x.toInt = 0 ∨ x.toInt = 1 ∨ x.toInt = 2 ∨ x.toInt = 3 ∨ x.toInt = 4 ∨ x.toInt = 5 ∨ x.toInt = 6 ∨ x.toInt = 7 ∨ x.toInt = 8 ∨ x.toInt = 9 ∨ x.toInt = 10 ∨ x.toInt = 11 ∨ x.toInt = 12 ∨ x.toInt = 13 ∨ x.toInt = 14 ∨ x.toInt = 15 ∨ x.toInt = 16 ∨ x.toInt = 17 ∨ x.toInt = 18 ∨ x.toInt = 19 by omega) with hz | hz | hz | hz | hz | hz | hz | hz | hz | hz | hz | hz | hz | hz | hz | hz | hz | hz | hz | hz
      · exact lv_tableIn (off := 96) (tgt := 128) hx hb eL_32 (by omega) (by omega) (by rw [hz]; rfl) (by decide) (lw_c0 X hi5 hcN hsN hl (hsp.1 _ _ _ _) hW hG fin)
      · exact lv_tableIn (off := 149) (tgt := 181) hx hb eL_32 (by omega) (by omega) (by rw [hz]; rfl) (by decide) (lw_c1 X hi5 hcN hsN hl (hsp.2.1 _ _) hW hG fin)
      · exact lv_tableIn (off := 183) (tgt := 215) hx hb eL_32 (by omega) (by omega) (by rw [hz]; rfl) (by decide) (lw_c2 X hi5 hcN hsN hl (hsp.2.2.1 _ _) hW hG fin)
      · exact lv_tableIn (off := 216) (tgt := 248) hx hb eL_32 (by omega) (by omega) (by rw [hz]; rfl) (by decide) (lw_c3 X hi5 hcN hsN hl (hsp.2.2.2.1 _) hW hG fin)
      · exact lv_tableIn (off := 239) (tgt := 271) hx hb eL_32 (by omega) (by omega) (by rw [hz]; rfl) (by decide) (lw_c4 X hi5 hcN hsN hl (hsp.2.2.2.2.1 _ _) hW hG fin)
      · exact lv_tableIn (off := 272) (tgt := 304) hx hb eL_32 (by omega) (by omega) (by rw [hz]; rfl) (by decide) (lw_c5 X hi5 hcN hsN hl (hsp.2.2.2.2.2.1 _ _ _ 0 (Or.inl rfl)) (hsp.2.2.2.2.2.1 _ _ _ 1 (Or.inr rfl)) hW hG fin)
      · exact lv_tableIn (off := 341) (tgt := 373) hx hb eL_32 (by omega) (by omega) (by rw [hz]; rfl) (by decide) (lw_c6 X hi5 hcN hsN hl (hsp.2.2.2.2.2.2.1 _ _) hW hG fin)
      · exact lv_tableIn (off := 374) (tgt := 406) hx hb eL_32 (by omega) (by omega) (by rw [hz]; rfl) (by decide) (lw_c7 X hi5 hcN hsN hl (hsp.2.2.2.2.2.2.2.1) hW hG fin)
      · exact lv_tableIn (off := 387) (tgt := 419) hx hb eL_32 (by omega) (by omega) (by rw [hz]; rfl) (by decide) (lw_c8 X hi5 hcN hsN hl (hsp.2.2.2.2.2.2.2.2.1 _) hW hG fin)
      · exact lv_tableIn (off := 410) (tgt := 442) hx hb eL_32 (by omega) (by omega) (by rw [hz]; rfl) (by decide) (lw_c9 X hi5 hcN hsN hl (hsp.2.2.2.2.2.2.2.2.2.1 _ _) hW hG fin)
      · exact lv_tableIn (off := 444) (tgt := 476) hx hb eL_32 (by omega) (by omega) (by rw [hz]; rfl) (by decide) (lw_c10 X hi5 hcN hsN hl (hsp.2.2.2.2.2.2.2.2.2.2.1 _) hW hG fin)
      · exact lv_tableIn (off := 468) (tgt := 500) hx hb eL_32 (by omega) (by omega) (by rw [hz]; rfl) (by decide) (lw_c11 X hi5 hcN hsN hl (hsp.2.2.2.2.2.2.2.2.2.2.2.1 _) hW hG fin)
      · exact lv_tableIn (off := 491) (tgt := 523) hx hb eL_32 (by omega) (by omega) (by rw [hz]; rfl) (by decide) (lw_c12 X hi5 hcN hsN hl (hsp.2.2.2.2.2.2.2.2.2.2.2.2.1 _) hW hG fin)
      · exact lv_tableIn (off := 514) (tgt := 546) hx hb eL_32 (by omega) (by omega) (by rw [hz]; rfl) (by decide) (lw_c13 X hi5 hcN hsN hl (hsp.2.2.2.2.2.2.2.2.2.2.2.2.2.1 _) hW hG fin)
      · exact lv_tableIn (off := 537) (tgt := 569) hx hb eL_32 (by omega) (by omega) (by rw [hz]; rfl) (by decide) (lw_c14 X hi5 hcN hsN hl (hsp.2.2.2.2.2.2.2.2.2.2.2.2.2.2.1) hW hG fin)
      · exact lv_tableIn (off := 550) (tgt := 582) hx hb eL_32 (by omega) (by omega) (by rw [hz]; rfl) (by decide) (lw_c15 X hi5 hcN hsN hl (hsp.2.2.2.2.2.2.2.2.2.2.2.2.2.2.2.1 _ _) hW hG fin)
      · exact lv_tableIn (off := 583) (tgt := 615) hx hb eL_32 (by omega) (by omega) (by rw [hz]; rfl) (by decide) (lw_c16 X hi5 hcN hsN hl (hsp.2.2.2.2.2.2.2.2.2.2.2.2.2.2.2.2.1 _) hW hG fin)
      · exact lv_tableIn (off := 606) (tgt := 638) hx hb eL_32 (by omega) (by omega) (by rw [hz]; rfl) (by decide) (lw_c17 X hi5 hcN hsN hl (hsp.2.2.2.2.2.2.2.2.2.2.2.2.2.2.2.2.2.1 _) hW hG fin)
      · exact lv_tableIn (off := 629) (tgt := 661) hx hb eL_32 (by omega) (by omega) (by rw [hz]; rfl) (by decide) (lw_c18 X hi5 hcN hsN hl (hsp.2.2.2.2.2.2.2.2.2.2.2.2.2.2.2.2.2.2.1) hW hG fin)
      · exact lv_tableIn (off := 642) (tgt := 674) hx hb eL_32 (by omega) (by omega) (by rw [hz]; rfl) (by decide) (lw_c19 X hi5 hcN hsN hl (hsp.2.2.2.2.2.2.2.2.2.2.2.2.2.2.2.2.2.2.2 _) hW hG fin)
