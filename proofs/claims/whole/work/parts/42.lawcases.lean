/-! ===== the law's cases ===== -/
def LX (p : Program) (s : State) (m : MethodId) (meth : Method) (c : Code) (b Ln : Nat) (xs : Nat → Int32) (D : va_G) (cI cJ : ClassId) (aC aR : Nat → Nat) : Prop := lw_At p s m meth c b Ln xs ∧ Ln ≤ 2560 ∧ va_K D vwCl (mm_tys cI cJ) s ∧ mm_nw TC s ∧ mm_nw TR s ∧ LAp aC aR
def LG (Cch : mm_I → mm_L → Prop) (I : mm_I) (L : mm_L) (J : mm_I) : Prop := vC I = vR J ∧ vok (vC I) ∧ Cch I L
/-- a pair of contracts, of an int -/
def SPi (Cch : mm_I → mm_L → Prop) (mC mR : Nat) (as : List Value) (q : pv → pv × Int32) : Prop := (∀ I L, vok (vC I) → Cch I L → mm_P shC msC 60 mC (.ref 0 :: as) I L (fun I' L' ri _ => (vC I', ri) = q (vC I) ∧ Cch I' L')) ∧ (∀ J M, vok (vR J) → mm_P shR msR 60 mR (.ref 0 :: as) J M (fun J' _ ri _ => (vR J', ri) = q (vR J))) ∧ ∀ v, vok v → vok (q v).1
/-- a pair of contracts, of a long -/
def SPl (Cch : mm_I → mm_L → Prop) (mC mR : Nat) (as : List Value) (q : pv → pv × Int64) : Prop := (∀ I L, vok (vC I) → Cch I L → mm_P shC msC 60 mC (.ref 0 :: as) I L (fun I' L' _ rl => (vC I', rl) = q (vC I) ∧ Cch I' L')) ∧ (∀ J M, vok (vR J) → mm_P shR msR 60 mR (.ref 0 :: as) J M (fun J' _ _ rl => (vR J', rl) = q (vR J))) ∧ ∀ v, vok v → vok (q v).1
theorem in_k {i Ln : Nat} (k : Nat) (hk : k ≤ 4) (hi : i + 5 ≤ Ln) (hL : Ln ≤ 2560) {z : Int32} (hz : z = nI k) : vp_in (nI i + z) Ln := by
  rw [hz, nI_add]
  exact vp_in_nI (by omega) (by omega)
section LCS
variable {p : Program} {l : Launch} {e : Env} {s : State} {m : MethodId} {below : List Frame} {meth : Method} {c : Code} {H : Heap} {locs : List Loc} {cN sN : Nat} {Z : State → Prop} {D : va_G} {cI cJ : ClassId} {aC aR : Nat → Nat} {b Ln i : Nat} {xs : Nat → Int32} {ls : Array Slot} {I J : mm_I} {L M : mm_L} {Cch : mm_I → mm_L → Prop}
set_option maxHeartbeats 4000000 in
set_option maxRecDepth 100000 in
theorem lw_c0 {qq : pv → pv × Int32} (X : LX p s m meth c b Ln xs D cI cJ aC aR) (hi : i + 5 ≤ Ln) (hcN : cN ≤ 600000) (hsN : sN ≤ 7302250) (hl : lv_has ls 4 [(0, .ref b), (1, .ref (aC 0)), (2, .ref (aR 0)), (3, .int (nI i))]) (hsp : SPi Cch 36 5 [.int (xs (nI i + 1).toNatClampNeg), .int (xs (nI i + 2).toNatClampNeg), .int (xs (nI i + 3).toNatClampNeg), .int (xs (nI i + 4).toNatClampNeg)] qq) (hW : LWd D cI cJ aC aR s I L J M H locs) (hG : LG Cch I L J) (kk : ∀ I' L' J' M' H1 locs1, LWd D cI cJ aC aR s I' L' J' M' H1 locs1 → LG Cch I' L' J' → W p l e room_1 s m #[Value.ref b] below meth c H1 locs1 cN sN Z (F0 m 697 ls [])) : W p l e room_1 s m #[Value.ref b] below meth c H locs cN sN Z (F0 m 128 ls []) := by
  obtain ⟨⟨hx, hb, hr, hml, hown, hts, hX, hbl, hlocks, hgv⟩, hL, hK, hNC, hNR, hap⟩ := X
  obtain ⟨hPC, hPR, hDC, hDR, hS⟩ := hW
  obtain ⟨hv, hok, hch⟩ := hG
  have hA : ∀ q : Nat, s.heap.size ≤ q → (fun q : Nat => s.heap.size ≤ q) q := fun _ h => h
  have hbA : ¬ (fun q : Nat => s.heap.size ≤ q) b := Nat.not_le.mpr hbl
  refine lv_aload_n hx hb eL_128 rfl (lv_at hl 1 rfl) ?_
  refine lv_aload_n hx hb eL_129 rfl (lv_at hl 0 rfl) ?_
  refine lv_iload_n hx hb eL_130 rfl (lv_at hl 3 rfl) ?_
  refine lv_iconst (v := 1) hx hb eL_131 (by decide) ?_
  refine lv_iadd hx hb eL_132 ?_
  refine va_sld hx hb hX hbl hbA hS (in_k 1 (by omega) hi hL (by decide +kernel)) eL_133 ?_
  refine lv_aload_n hx hb eL_134 rfl (lv_at hl 0 rfl) ?_
  refine lv_iload_n hx hb eL_135 rfl (lv_at hl 3 rfl) ?_
  refine lv_iconst (v := 2) hx hb eL_136 (by decide) ?_
  refine lv_iadd hx hb eL_137 ?_
  refine va_sld hx hb hX hbl hbA hS (in_k 2 (by omega) hi hL (by decide +kernel)) eL_138 ?_
  refine lv_aload_n hx hb eL_139 rfl (lv_at hl 0 rfl) ?_
  refine lv_iload_n hx hb eL_140 rfl (lv_at hl 3 rfl) ?_
  refine lv_iconst (v := 3) hx hb eL_141 (by decide) ?_
  refine lv_iadd hx hb eL_142 ?_
  refine va_sld hx hb hX hbl hbA hS (in_k 3 (by omega) hi hL (by decide +kernel)) eL_143 ?_
  refine lv_aload_n hx hb eL_144 rfl (lv_at hl 0 rfl) ?_
  refine lv_iload_n hx hb eL_145 rfl (lv_at hl 3 rfl) ?_
  refine lv_iconst (v := 4) hx hb eL_146 (by decide) ?_
  refine lv_iadd hx hb eL_147 ?_
  refine va_sld hx hb hX hbl hbA hS (in_k 4 (by omega) hi hL (by decide +kernel)) eL_148 ?_
  refine W.eq (g2 := F0 m 149 ls ((([.int (xs (nI i + 1).toNatClampNeg), .int (xs (nI i + 2).toNatClampNeg), .int (xs (nI i + 3).toNatClampNeg), .int (xs (nI i + 4).toNatClampNeg)] : List Value).map (mm_tv aC)).reverse ++ .ref (aC 0) :: [])) rfl ?_
  refine lw_call (T := TC) okC inC (xm := 36) (mx := mdX4_scene) (as := [.int (xs (nI i + 1).toNatClampNeg), .int (xs (nI i + 2).toNatClampNeg), .int (xs (nI i + 3).toNatClampNeg), .int (xs (nI i + 4).toNatClampNeg)]) (rest := []) (d := 60) (ci := 4) rfl (hsp.1 I L hok hch) hx hb hml hown hts hK hNC (mm_mem [267, 268, 269, 56] rfl) (by decide +kernel) rfl rfl rfl hPC hDC hS hA rfl (by omega) (Nat.le_of_ble_eq_true rfl) eL_149 hl.1 hcN hsN (fun I' L' ri rl H1 locs1 hq hPC hDC hS hk => ?_)
  have hPR := lw_keep (s1 := shC) (s2 := shR) (fun i j h1 h2 => hap i j h1 h2) hPR hk
  refine W.eq (g2 := F0 m 152 ls [.int ri]) rfl ?_
  refine lv_aload_n hx hb eL_152 rfl (lv_at hl 2 rfl) ?_
  refine lv_aload_n hx hb eL_153 rfl (lv_at hl 0 rfl) ?_
  refine lv_iload_n hx hb eL_154 rfl (lv_at hl 3 rfl) ?_
  refine lv_iconst (v := 1) hx hb eL_155 (by decide) ?_
  refine lv_iadd hx hb eL_156 ?_
  refine va_sld hx hb hX hbl hbA hS (in_k 1 (by omega) hi hL (by decide +kernel)) eL_157 ?_
  refine lv_aload_n hx hb eL_158 rfl (lv_at hl 0 rfl) ?_
  refine lv_iload_n hx hb eL_159 rfl (lv_at hl 3 rfl) ?_
  refine lv_iconst (v := 2) hx hb eL_160 (by decide) ?_
  refine lv_iadd hx hb eL_161 ?_
  refine va_sld hx hb hX hbl hbA hS (in_k 2 (by omega) hi hL (by decide +kernel)) eL_162 ?_
  refine lv_aload_n hx hb eL_163 rfl (lv_at hl 0 rfl) ?_
  refine lv_iload_n hx hb eL_164 rfl (lv_at hl 3 rfl) ?_
  refine lv_iconst (v := 3) hx hb eL_165 (by decide) ?_
  refine lv_iadd hx hb eL_166 ?_
  refine va_sld hx hb hX hbl hbA hS (in_k 3 (by omega) hi hL (by decide +kernel)) eL_167 ?_
  refine lv_aload_n hx hb eL_168 rfl (lv_at hl 0 rfl) ?_
  refine lv_iload_n hx hb eL_169 rfl (lv_at hl 3 rfl) ?_
  refine lv_iconst (v := 4) hx hb eL_170 (by decide) ?_
  refine lv_iadd hx hb eL_171 ?_
  refine va_sld hx hb hX hbl hbA hS (in_k 4 (by omega) hi hL (by decide +kernel)) eL_172 ?_
  refine W.eq (g2 := F0 m 173 ls ((([.int (xs (nI i + 1).toNatClampNeg), .int (xs (nI i + 2).toNatClampNeg), .int (xs (nI i + 3).toNatClampNeg), .int (xs (nI i + 4).toNatClampNeg)] : List Value).map (mm_tv aR)).reverse ++ .ref (aR 0) :: [.int ri])) rfl ?_
  refine lw_call (T := TR) okR inR (xm := 5) (mx := mdX5_scene) (as := [.int (xs (nI i + 1).toNatClampNeg), .int (xs (nI i + 2).toNatClampNeg), .int (xs (nI i + 3).toNatClampNeg), .int (xs (nI i + 4).toNatClampNeg)]) (rest := [.int ri]) (d := 60) (ci := 5) rfl (hsp.2.1 J M (hv ▸ hok)) hx hb hml hown hts hK hNR (mm_mem [677, 678, 679, 61] rfl) (by decide +kernel) rfl rfl rfl hPR hDR hS hA rfl (by omega) (Nat.le_of_ble_eq_true rfl) eL_173 hl.1 hcN hsN (fun J' M' r2 rl2 H2 locs2 hq2 hPR hDR hS hk => ?_)
  have hPC := lw_keep (s1 := shR) (s2 := shC) (fun i j h1 h2 => (hap j i h2 h1).symm) hPC hk
  refine W.eq (g2 := F0 m 176 ls [.int r2, .int ri]) rfl ?_
  rw [← hv] at hq2
  have e1 := hq.1.trans hq2.symm
  have e2 : vC I' = vR J' := congrArg Prod.fst e1
  have e3 : ri = r2 := congrArg Prod.snd e1
  refine lv_icmp_eq (tgt := 697) hx hb eL_176 (by decide) (fun _ => ?_) (fun c9 => absurd e3 c9)
  exact kk I' L' J' M' _ _ ⟨hPC, hPR, hDC, hDR, hS⟩ ⟨e2, (by rw [show vC I' = (_ : pv × _).1 from congrArg Prod.fst hq.1]; exact hsp.2.2 _ hok), hq.2⟩
set_option maxHeartbeats 4000000 in
set_option maxRecDepth 100000 in
theorem lw_c1 {qq : pv → pv × Int64} (X : LX p s m meth c b Ln xs D cI cJ aC aR) (hi : i + 5 ≤ Ln) (hcN : cN ≤ 600000) (hsN : sN ≤ 7302250) (hl : lv_has ls 4 [(0, .ref b), (1, .ref (aC 0)), (2, .ref (aR 0)), (3, .int (nI i))]) (hsp : SPl Cch 37 6 [.int (xs (nI i + 1).toNatClampNeg), .int (xs (nI i + 2).toNatClampNeg)] qq) (hW : LWd D cI cJ aC aR s I L J M H locs) (hG : LG Cch I L J) (kk : ∀ I' L' J' M' H1 locs1, LWd D cI cJ aC aR s I' L' J' M' H1 locs1 → LG Cch I' L' J' → W p l e room_1 s m #[Value.ref b] below meth c H1 locs1 cN sN Z (F0 m 697 ls [])) : W p l e room_1 s m #[Value.ref b] below meth c H locs cN sN Z (F0 m 181 ls []) := by
  obtain ⟨⟨hx, hb, hr, hml, hown, hts, hX, hbl, hlocks, hgv⟩, hL, hK, hNC, hNR, hap⟩ := X
  obtain ⟨hPC, hPR, hDC, hDR, hS⟩ := hW
  obtain ⟨hv, hok, hch⟩ := hG
  have hA : ∀ q : Nat, s.heap.size ≤ q → (fun q : Nat => s.heap.size ≤ q) q := fun _ h => h
  have hbA : ¬ (fun q : Nat => s.heap.size ≤ q) b := Nat.not_le.mpr hbl
  refine lv_aload_n hx hb eL_181 rfl (lv_at hl 1 rfl) ?_
  refine lv_aload_n hx hb eL_182 rfl (lv_at hl 0 rfl) ?_
  refine lv_iload_n hx hb eL_183 rfl (lv_at hl 3 rfl) ?_
  refine lv_iconst (v := 1) hx hb eL_184 (by decide) ?_
  refine lv_iadd hx hb eL_185 ?_
  refine va_sld hx hb hX hbl hbA hS (in_k 1 (by omega) hi hL (by decide +kernel)) eL_186 ?_
  refine lv_aload_n hx hb eL_187 rfl (lv_at hl 0 rfl) ?_
  refine lv_iload_n hx hb eL_188 rfl (lv_at hl 3 rfl) ?_
  refine lv_iconst (v := 2) hx hb eL_189 (by decide) ?_
  refine lv_iadd hx hb eL_190 ?_
  refine va_sld hx hb hX hbl hbA hS (in_k 2 (by omega) hi hL (by decide +kernel)) eL_191 ?_
  refine W.eq (g2 := F0 m 192 ls ((([.int (xs (nI i + 1).toNatClampNeg), .int (xs (nI i + 2).toNatClampNeg)] : List Value).map (mm_tv aC)).reverse ++ .ref (aC 0) :: [])) rfl ?_
  refine lw_call (T := TC) okC inC (xm := 37) (mx := mdX4_ofScene) (as := [.int (xs (nI i + 1).toNatClampNeg), .int (xs (nI i + 2).toNatClampNeg)]) (rest := []) (d := 60) (ci := 4) rfl (hsp.1 I L hok hch) hx hb hml hown hts hK hNC (mm_mem [287, 288, 289, 56] rfl) (by decide +kernel) rfl rfl rfl hPC hDC hS hA rfl (by omega) (Nat.le_of_ble_eq_true rfl) eL_192 hl.1 hcN hsN (fun I' L' ri rl H1 locs1 hq hPC hDC hS hk => ?_)
  have hPR := lw_keep (s1 := shC) (s2 := shR) (fun i j h1 h2 => hap i j h1 h2) hPR hk
  refine W.eq (g2 := F0 m 195 ls [.long rl]) rfl ?_
  refine lv_aload_n hx hb eL_195 rfl (lv_at hl 2 rfl) ?_
  refine lv_aload_n hx hb eL_196 rfl (lv_at hl 0 rfl) ?_
  refine lv_iload_n hx hb eL_197 rfl (lv_at hl 3 rfl) ?_
  refine lv_iconst (v := 1) hx hb eL_198 (by decide) ?_
  refine lv_iadd hx hb eL_199 ?_
  refine va_sld hx hb hX hbl hbA hS (in_k 1 (by omega) hi hL (by decide +kernel)) eL_200 ?_
  refine lv_aload_n hx hb eL_201 rfl (lv_at hl 0 rfl) ?_
  refine lv_iload_n hx hb eL_202 rfl (lv_at hl 3 rfl) ?_
  refine lv_iconst (v := 2) hx hb eL_203 (by decide) ?_
  refine lv_iadd hx hb eL_204 ?_
  refine va_sld hx hb hX hbl hbA hS (in_k 2 (by omega) hi hL (by decide +kernel)) eL_205 ?_
  refine W.eq (g2 := F0 m 206 ls ((([.int (xs (nI i + 1).toNatClampNeg), .int (xs (nI i + 2).toNatClampNeg)] : List Value).map (mm_tv aR)).reverse ++ .ref (aR 0) :: [.long rl])) rfl ?_
  refine lw_call (T := TR) okR inR (xm := 6) (mx := mdX5_ofScene) (as := [.int (xs (nI i + 1).toNatClampNeg), .int (xs (nI i + 2).toNatClampNeg)]) (rest := [.long rl]) (d := 60) (ci := 5) rfl (hsp.2.1 J M (hv ▸ hok)) hx hb hml hown hts hK hNR (mm_mem [689, 690, 691, 61] rfl) (by decide +kernel) rfl rfl rfl hPR hDR hS hA rfl (by omega) (Nat.le_of_ble_eq_true rfl) eL_206 hl.1 hcN hsN (fun J' M' r2 rl2 H2 locs2 hq2 hPR hDR hS hk => ?_)
  have hPC := lw_keep (s1 := shR) (s2 := shC) (fun i j h1 h2 => (hap j i h2 h1).symm) hPC hk
  refine W.eq (g2 := F0 m 209 ls [.long rl2, .long rl]) rfl ?_
  rw [← hv] at hq2
  have e1 := hq.1.trans hq2.symm
  have e2 : vC I' = vR J' := congrArg Prod.fst e1
  have e3 : rl = rl2 := congrArg Prod.snd e1
  refine W.lcmp hx hb eL_209 ?_
  refine lv_if_eq (tgt := 697) hx hb eL_210 (by decide) (fun _ => ?_) (fun c9 => absurd ((lg_cmp_eq _ _).mpr e3) c9)
  exact kk I' L' J' M' _ _ ⟨hPC, hPR, hDC, hDR, hS⟩ ⟨e2, (by rw [show vC I' = (_ : pv × _).1 from congrArg Prod.fst hq.1]; exact hsp.2.2 _ hok), hq.2⟩
set_option maxHeartbeats 4000000 in
set_option maxRecDepth 100000 in
theorem lw_c2 {qq : pv → pv × Int32} (X : LX p s m meth c b Ln xs D cI cJ aC aR) (hi : i + 5 ≤ Ln) (hcN : cN ≤ 600000) (hsN : sN ≤ 7302250) (hl : lv_has ls 4 [(0, .ref b), (1, .ref (aC 0)), (2, .ref (aR 0)), (3, .int (nI i))]) (hsp : SPi Cch 38 8 [.int (xs (nI i + 1).toNatClampNeg), .int (xs (nI i + 2).toNatClampNeg)] qq) (hW : LWd D cI cJ aC aR s I L J M H locs) (hG : LG Cch I L J) (kk : ∀ I' L' J' M' H1 locs1, LWd D cI cJ aC aR s I' L' J' M' H1 locs1 → LG Cch I' L' J' → W p l e room_1 s m #[Value.ref b] below meth c H1 locs1 cN sN Z (F0 m 697 ls [])) : W p l e room_1 s m #[Value.ref b] below meth c H locs cN sN Z (F0 m 215 ls []) := by
  obtain ⟨⟨hx, hb, hr, hml, hown, hts, hX, hbl, hlocks, hgv⟩, hL, hK, hNC, hNR, hap⟩ := X
  obtain ⟨hPC, hPR, hDC, hDR, hS⟩ := hW
  obtain ⟨hv, hok, hch⟩ := hG
  have hA : ∀ q : Nat, s.heap.size ≤ q → (fun q : Nat => s.heap.size ≤ q) q := fun _ h => h
  have hbA : ¬ (fun q : Nat => s.heap.size ≤ q) b := Nat.not_le.mpr hbl
  refine lv_aload_n hx hb eL_215 rfl (lv_at hl 1 rfl) ?_
  refine lv_aload_n hx hb eL_216 rfl (lv_at hl 0 rfl) ?_
  refine lv_iload_n hx hb eL_217 rfl (lv_at hl 3 rfl) ?_
  refine lv_iconst (v := 1) hx hb eL_218 (by decide) ?_
  refine lv_iadd hx hb eL_219 ?_
  refine va_sld hx hb hX hbl hbA hS (in_k 1 (by omega) hi hL (by decide +kernel)) eL_220 ?_
  refine lv_aload_n hx hb eL_221 rfl (lv_at hl 0 rfl) ?_
  refine lv_iload_n hx hb eL_222 rfl (lv_at hl 3 rfl) ?_
  refine lv_iconst (v := 2) hx hb eL_223 (by decide) ?_
  refine lv_iadd hx hb eL_224 ?_
  refine va_sld hx hb hX hbl hbA hS (in_k 2 (by omega) hi hL (by decide +kernel)) eL_225 ?_
  refine W.eq (g2 := F0 m 226 ls ((([.int (xs (nI i + 1).toNatClampNeg), .int (xs (nI i + 2).toNatClampNeg)] : List Value).map (mm_tv aC)).reverse ++ .ref (aC 0) :: [])) rfl ?_
  refine lw_call (T := TC) okC inC (xm := 38) (mx := mdX4_move) (as := [.int (xs (nI i + 1).toNatClampNeg), .int (xs (nI i + 2).toNatClampNeg)]) (rest := []) (d := 60) (ci := 4) rfl (hsp.1 I L hok hch) hx hb hml hown hts hK hNC (mm_mem [300, 301, 302, 56] rfl) (by decide +kernel) rfl rfl rfl hPC hDC hS hA rfl (by omega) (Nat.le_of_ble_eq_true rfl) eL_226 hl.1 hcN hsN (fun I' L' ri rl H1 locs1 hq hPC hDC hS hk => ?_)
  have hPR := lw_keep (s1 := shC) (s2 := shR) (fun i j h1 h2 => hap i j h1 h2) hPR hk
  refine W.eq (g2 := F0 m 229 ls [.int ri]) rfl ?_
  refine lv_aload_n hx hb eL_229 rfl (lv_at hl 2 rfl) ?_
  refine lv_aload_n hx hb eL_230 rfl (lv_at hl 0 rfl) ?_
  refine lv_iload_n hx hb eL_231 rfl (lv_at hl 3 rfl) ?_
  refine lv_iconst (v := 1) hx hb eL_232 (by decide) ?_
  refine lv_iadd hx hb eL_233 ?_
  refine va_sld hx hb hX hbl hbA hS (in_k 1 (by omega) hi hL (by decide +kernel)) eL_234 ?_
  refine lv_aload_n hx hb eL_235 rfl (lv_at hl 0 rfl) ?_
  refine lv_iload_n hx hb eL_236 rfl (lv_at hl 3 rfl) ?_
  refine lv_iconst (v := 2) hx hb eL_237 (by decide) ?_
  refine lv_iadd hx hb eL_238 ?_
  refine va_sld hx hb hX hbl hbA hS (in_k 2 (by omega) hi hL (by decide +kernel)) eL_239 ?_
  refine W.eq (g2 := F0 m 240 ls ((([.int (xs (nI i + 1).toNatClampNeg), .int (xs (nI i + 2).toNatClampNeg)] : List Value).map (mm_tv aR)).reverse ++ .ref (aR 0) :: [.int ri])) rfl ?_
  refine lw_call (T := TR) okR inR (xm := 8) (mx := mdX5_move) (as := [.int (xs (nI i + 1).toNatClampNeg), .int (xs (nI i + 2).toNatClampNeg)]) (rest := [.int ri]) (d := 60) (ci := 5) rfl (hsp.2.1 J M (hv ▸ hok)) hx hb hml hown hts hK hNR (mm_mem [702, 703, 704, 61] rfl) (by decide +kernel) rfl rfl rfl hPR hDR hS hA rfl (by omega) (Nat.le_of_ble_eq_true rfl) eL_240 hl.1 hcN hsN (fun J' M' r2 rl2 H2 locs2 hq2 hPR hDR hS hk => ?_)
  have hPC := lw_keep (s1 := shR) (s2 := shC) (fun i j h1 h2 => (hap j i h2 h1).symm) hPC hk
  refine W.eq (g2 := F0 m 243 ls [.int r2, .int ri]) rfl ?_
  rw [← hv] at hq2
  have e1 := hq.1.trans hq2.symm
  have e2 : vC I' = vR J' := congrArg Prod.fst e1
  have e3 : ri = r2 := congrArg Prod.snd e1
  refine lv_icmp_eq (tgt := 697) hx hb eL_243 (by decide) (fun _ => ?_) (fun c9 => absurd e3 c9)
  exact kk I' L' J' M' _ _ ⟨hPC, hPR, hDC, hDR, hS⟩ ⟨e2, (by rw [show vC I' = (_ : pv × _).1 from congrArg Prod.fst hq.1]; exact hsp.2.2 _ hok), hq.2⟩
set_option maxHeartbeats 4000000 in
set_option maxRecDepth 100000 in
theorem lw_c3 {qq : pv → pv × Int32} (X : LX p s m meth c b Ln xs D cI cJ aC aR) (hi : i + 5 ≤ Ln) (hcN : cN ≤ 600000) (hsN : sN ≤ 7302250) (hl : lv_has ls 4 [(0, .ref b), (1, .ref (aC 0)), (2, .ref (aR 0)), (3, .int (nI i))]) (hsp : SPi Cch 39 9 [.int (xs (nI i + 1).toNatClampNeg)] qq) (hW : LWd D cI cJ aC aR s I L J M H locs) (hG : LG Cch I L J) (kk : ∀ I' L' J' M' H1 locs1, LWd D cI cJ aC aR s I' L' J' M' H1 locs1 → LG Cch I' L' J' → W p l e room_1 s m #[Value.ref b] below meth c H1 locs1 cN sN Z (F0 m 697 ls [])) : W p l e room_1 s m #[Value.ref b] below meth c H locs cN sN Z (F0 m 248 ls []) := by
  obtain ⟨⟨hx, hb, hr, hml, hown, hts, hX, hbl, hlocks, hgv⟩, hL, hK, hNC, hNR, hap⟩ := X
  obtain ⟨hPC, hPR, hDC, hDR, hS⟩ := hW
  obtain ⟨hv, hok, hch⟩ := hG
  have hA : ∀ q : Nat, s.heap.size ≤ q → (fun q : Nat => s.heap.size ≤ q) q := fun _ h => h
  have hbA : ¬ (fun q : Nat => s.heap.size ≤ q) b := Nat.not_le.mpr hbl
  refine lv_aload_n hx hb eL_248 rfl (lv_at hl 1 rfl) ?_
  refine lv_aload_n hx hb eL_249 rfl (lv_at hl 0 rfl) ?_
  refine lv_iload_n hx hb eL_250 rfl (lv_at hl 3 rfl) ?_
  refine lv_iconst (v := 1) hx hb eL_251 (by decide) ?_
  refine lv_iadd hx hb eL_252 ?_
  refine va_sld hx hb hX hbl hbA hS (in_k 1 (by omega) hi hL (by decide +kernel)) eL_253 ?_
  refine W.eq (g2 := F0 m 254 ls ((([.int (xs (nI i + 1).toNatClampNeg)] : List Value).map (mm_tv aC)).reverse ++ .ref (aC 0) :: [])) rfl ?_
  refine lw_call (T := TC) okC inC (xm := 39) (mx := mdX4_shift) (as := [.int (xs (nI i + 1).toNatClampNeg)]) (rest := []) (d := 60) (ci := 4) rfl (hsp.1 I L hok hch) hx hb hml hown hts hK hNC (mm_mem [311, 312, 313, 56] rfl) (by decide +kernel) rfl rfl rfl hPC hDC hS hA rfl (by omega) (Nat.le_of_ble_eq_true rfl) eL_254 hl.1 hcN hsN (fun I' L' ri rl H1 locs1 hq hPC hDC hS hk => ?_)
  have hPR := lw_keep (s1 := shC) (s2 := shR) (fun i j h1 h2 => hap i j h1 h2) hPR hk
  refine W.eq (g2 := F0 m 257 ls [.int ri]) rfl ?_
  refine lv_aload_n hx hb eL_257 rfl (lv_at hl 2 rfl) ?_
  refine lv_aload_n hx hb eL_258 rfl (lv_at hl 0 rfl) ?_
  refine lv_iload_n hx hb eL_259 rfl (lv_at hl 3 rfl) ?_
  refine lv_iconst (v := 1) hx hb eL_260 (by decide) ?_
  refine lv_iadd hx hb eL_261 ?_
  refine va_sld hx hb hX hbl hbA hS (in_k 1 (by omega) hi hL (by decide +kernel)) eL_262 ?_
  refine W.eq (g2 := F0 m 263 ls ((([.int (xs (nI i + 1).toNatClampNeg)] : List Value).map (mm_tv aR)).reverse ++ .ref (aR 0) :: [.int ri])) rfl ?_
  refine lw_call (T := TR) okR inR (xm := 9) (mx := mdX5_shift) (as := [.int (xs (nI i + 1).toNatClampNeg)]) (rest := [.int ri]) (d := 60) (ci := 5) rfl (hsp.2.1 J M (hv ▸ hok)) hx hb hml hown hts hK hNR (mm_mem [710, 711, 712, 61] rfl) (by decide +kernel) rfl rfl rfl hPR hDR hS hA rfl (by omega) (Nat.le_of_ble_eq_true rfl) eL_263 hl.1 hcN hsN (fun J' M' r2 rl2 H2 locs2 hq2 hPR hDR hS hk => ?_)
  have hPC := lw_keep (s1 := shR) (s2 := shC) (fun i j h1 h2 => (hap j i h2 h1).symm) hPC hk
  refine W.eq (g2 := F0 m 266 ls [.int r2, .int ri]) rfl ?_
  rw [← hv] at hq2
  have e1 := hq.1.trans hq2.symm
  have e2 : vC I' = vR J' := congrArg Prod.fst e1
  have e3 : ri = r2 := congrArg Prod.snd e1
  refine lv_icmp_eq (tgt := 697) hx hb eL_266 (by decide) (fun _ => ?_) (fun c9 => absurd e3 c9)
  exact kk I' L' J' M' _ _ ⟨hPC, hPR, hDC, hDR, hS⟩ ⟨e2, (by rw [show vC I' = (_ : pv × _).1 from congrArg Prod.fst hq.1]; exact hsp.2.2 _ hok), hq.2⟩
set_option maxHeartbeats 4000000 in
set_option maxRecDepth 100000 in
theorem lw_c4 {qq : pv → pv × Int32} (X : LX p s m meth c b Ln xs D cI cJ aC aR) (hi : i + 5 ≤ Ln) (hcN : cN ≤ 600000) (hsN : sN ≤ 7302250) (hl : lv_has ls 4 [(0, .ref b), (1, .ref (aC 0)), (2, .ref (aR 0)), (3, .int (nI i))]) (hsp : SPi Cch 40 10 [.int (xs (nI i + 1).toNatClampNeg), .int (xs (nI i + 2).toNatClampNeg)] qq) (hW : LWd D cI cJ aC aR s I L J M H locs) (hG : LG Cch I L J) (kk : ∀ I' L' J' M' H1 locs1, LWd D cI cJ aC aR s I' L' J' M' H1 locs1 → LG Cch I' L' J' → W p l e room_1 s m #[Value.ref b] below meth c H1 locs1 cN sN Z (F0 m 697 ls [])) : W p l e room_1 s m #[Value.ref b] below meth c H locs cN sN Z (F0 m 271 ls []) := by
  obtain ⟨⟨hx, hb, hr, hml, hown, hts, hX, hbl, hlocks, hgv⟩, hL, hK, hNC, hNR, hap⟩ := X
  obtain ⟨hPC, hPR, hDC, hDR, hS⟩ := hW
  obtain ⟨hv, hok, hch⟩ := hG
  have hA : ∀ q : Nat, s.heap.size ≤ q → (fun q : Nat => s.heap.size ≤ q) q := fun _ h => h
  have hbA : ¬ (fun q : Nat => s.heap.size ≤ q) b := Nat.not_le.mpr hbl
  refine lv_aload_n hx hb eL_271 rfl (lv_at hl 1 rfl) ?_
  refine lv_aload_n hx hb eL_272 rfl (lv_at hl 0 rfl) ?_
  refine lv_iload_n hx hb eL_273 rfl (lv_at hl 3 rfl) ?_
  refine lv_iconst (v := 1) hx hb eL_274 (by decide) ?_
  refine lv_iadd hx hb eL_275 ?_
  refine va_sld hx hb hX hbl hbA hS (in_k 1 (by omega) hi hL (by decide +kernel)) eL_276 ?_
  refine lv_aload_n hx hb eL_277 rfl (lv_at hl 0 rfl) ?_
  refine lv_iload_n hx hb eL_278 rfl (lv_at hl 3 rfl) ?_
  refine lv_iconst (v := 2) hx hb eL_279 (by decide) ?_
  refine lv_iadd hx hb eL_280 ?_
  refine va_sld hx hb hX hbl hbA hS (in_k 2 (by omega) hi hL (by decide +kernel)) eL_281 ?_
  refine W.eq (g2 := F0 m 282 ls ((([.int (xs (nI i + 1).toNatClampNeg), .int (xs (nI i + 2).toNatClampNeg)] : List Value).map (mm_tv aC)).reverse ++ .ref (aC 0) :: [])) rfl ?_
  refine lw_call (T := TC) okC inC (xm := 40) (mx := mdX4_stretch) (as := [.int (xs (nI i + 1).toNatClampNeg), .int (xs (nI i + 2).toNatClampNeg)]) (rest := []) (d := 60) (ci := 4) rfl (hsp.1 I L hok hch) hx hb hml hown hts hK hNC (mm_mem [315, 316, 317, 56] rfl) (by decide +kernel) rfl rfl rfl hPC hDC hS hA rfl (by omega) (Nat.le_of_ble_eq_true rfl) eL_282 hl.1 hcN hsN (fun I' L' ri rl H1 locs1 hq hPC hDC hS hk => ?_)
  have hPR := lw_keep (s1 := shC) (s2 := shR) (fun i j h1 h2 => hap i j h1 h2) hPR hk
  refine W.eq (g2 := F0 m 285 ls [.int ri]) rfl ?_
  refine lv_aload_n hx hb eL_285 rfl (lv_at hl 2 rfl) ?_
  refine lv_aload_n hx hb eL_286 rfl (lv_at hl 0 rfl) ?_
  refine lv_iload_n hx hb eL_287 rfl (lv_at hl 3 rfl) ?_
  refine lv_iconst (v := 1) hx hb eL_288 (by decide) ?_
  refine lv_iadd hx hb eL_289 ?_
  refine va_sld hx hb hX hbl hbA hS (in_k 1 (by omega) hi hL (by decide +kernel)) eL_290 ?_
  refine lv_aload_n hx hb eL_291 rfl (lv_at hl 0 rfl) ?_
  refine lv_iload_n hx hb eL_292 rfl (lv_at hl 3 rfl) ?_
  refine lv_iconst (v := 2) hx hb eL_293 (by decide) ?_
  refine lv_iadd hx hb eL_294 ?_
  refine va_sld hx hb hX hbl hbA hS (in_k 2 (by omega) hi hL (by decide +kernel)) eL_295 ?_
  refine W.eq (g2 := F0 m 296 ls ((([.int (xs (nI i + 1).toNatClampNeg), .int (xs (nI i + 2).toNatClampNeg)] : List Value).map (mm_tv aR)).reverse ++ .ref (aR 0) :: [.int ri])) rfl ?_
  refine lw_call (T := TR) okR inR (xm := 10) (mx := mdX5_stretch) (as := [.int (xs (nI i + 1).toNatClampNeg), .int (xs (nI i + 2).toNatClampNeg)]) (rest := [.int ri]) (d := 60) (ci := 5) rfl (hsp.2.1 J M (hv ▸ hok)) hx hb hml hown hts hK hNR (mm_mem [714, 715, 716, 61] rfl) (by decide +kernel) rfl rfl rfl hPR hDR hS hA rfl (by omega) (Nat.le_of_ble_eq_true rfl) eL_296 hl.1 hcN hsN (fun J' M' r2 rl2 H2 locs2 hq2 hPR hDR hS hk => ?_)
  have hPC := lw_keep (s1 := shR) (s2 := shC) (fun i j h1 h2 => (hap j i h2 h1).symm) hPC hk
  refine W.eq (g2 := F0 m 299 ls [.int r2, .int ri]) rfl ?_
  rw [← hv] at hq2
  have e1 := hq.1.trans hq2.symm
  have e2 : vC I' = vR J' := congrArg Prod.fst e1
  have e3 : ri = r2 := congrArg Prod.snd e1
  refine lv_icmp_eq (tgt := 697) hx hb eL_299 (by decide) (fun _ => ?_) (fun c9 => absurd e3 c9)
  exact kk I' L' J' M' _ _ ⟨hPC, hPR, hDC, hDR, hS⟩ ⟨e2, (by rw [show vC I' = (_ : pv × _).1 from congrArg Prod.fst hq.1]; exact hsp.2.2 _ hok), hq.2⟩
set_option maxHeartbeats 4000000 in
set_option maxRecDepth 100000 in
theorem lw_c5 {qq0 qq1 : pv → pv × Int32} (X : LX p s m meth c b Ln xs D cI cJ aC aR) (hi : i + 5 ≤ Ln) (hcN : cN ≤ 600000) (hsN : sN ≤ 7302250) (hl : lv_has ls 4 [(0, .ref b), (1, .ref (aC 0)), (2, .ref (aR 0)), (3, .int (nI i))]) (hsp0 : SPi Cch 41 11 [.int (xs (nI i + 1).toNatClampNeg), .int (xs (nI i + 2).toNatClampNeg), .int (xs (nI i + 3).toNatClampNeg), .int 0] (qq0)) (hsp1 : SPi Cch 41 11 [.int (xs (nI i + 1).toNatClampNeg), .int (xs (nI i + 2).toNatClampNeg), .int (xs (nI i + 3).toNatClampNeg), .int 1] (qq1)) (hW : LWd D cI cJ aC aR s I L J M H locs) (hG : LG Cch I L J) (kk : ∀ I' L' J' M' H1 locs1, LWd D cI cJ aC aR s I' L' J' M' H1 locs1 → LG Cch I' L' J' → W p l e room_1 s m #[Value.ref b] below meth c H1 locs1 cN sN Z (F0 m 697 ls [])) : W p l e room_1 s m #[Value.ref b] below meth c H locs cN sN Z (F0 m 304 ls []) := by
  obtain ⟨⟨hx, hb, hr, hml, hown, hts, hX, hbl, hlocks, hgv⟩, hL, hK, hNC, hNR, hap⟩ := X
  obtain ⟨hPC, hPR, hDC, hDR, hS⟩ := hW
  obtain ⟨hv, hok, hch⟩ := hG
  have hA : ∀ q : Nat, s.heap.size ≤ q → (fun q : Nat => s.heap.size ≤ q) q := fun _ h => h
  have hbA : ¬ (fun q : Nat => s.heap.size ≤ q) b := Nat.not_le.mpr hbl
  by_cases hb0 : xs (nI i + 4).toNatClampNeg = 0
  · refine lv_aload_n hx hb eL_304 rfl (lv_at hl 1 rfl) ?_
    refine lv_aload_n hx hb eL_305 rfl (lv_at hl 0 rfl) ?_
    refine lv_iload_n hx hb eL_306 rfl (lv_at hl 3 rfl) ?_
    refine lv_iconst (v := 1) hx hb eL_307 (by decide) ?_
    refine lv_iadd hx hb eL_308 ?_
    refine va_sld hx hb hX hbl hbA hS (in_k 1 (by omega) hi hL (by decide +kernel)) eL_309 ?_
    refine lv_aload_n hx hb eL_310 rfl (lv_at hl 0 rfl) ?_
    refine lv_iload_n hx hb eL_311 rfl (lv_at hl 3 rfl) ?_
    refine lv_iconst (v := 2) hx hb eL_312 (by decide) ?_
    refine lv_iadd hx hb eL_313 ?_
    refine va_sld hx hb hX hbl hbA hS (in_k 2 (by omega) hi hL (by decide +kernel)) eL_314 ?_
    refine lv_aload_n hx hb eL_315 rfl (lv_at hl 0 rfl) ?_
    refine lv_iload_n hx hb eL_316 rfl (lv_at hl 3 rfl) ?_
    refine lv_iconst (v := 3) hx hb eL_317 (by decide) ?_
    refine lv_iadd hx hb eL_318 ?_
    refine va_sld hx hb hX hbl hbA hS (in_k 3 (by omega) hi hL (by decide +kernel)) eL_319 ?_
    refine lv_aload_n hx hb eL_320 rfl (lv_at hl 0 rfl) ?_
    refine lv_iload_n hx hb eL_321 rfl (lv_at hl 3 rfl) ?_
    refine lv_iconst (v := 4) hx hb eL_322 (by decide) ?_
    refine lv_iadd hx hb eL_323 ?_
    refine va_sld hx hb hX hbl hbA hS (in_k 4 (by omega) hi hL (by decide +kernel)) eL_324 ?_
    refine lv_if_eq (tgt := 332) hx hb eL_325 (by decide) (fun _ => ?_) (fun q9 => absurd hb0 q9)
    refine lv_iconst (v := 0) hx hb eL_332 (by decide) ?_
    refine W.eq (g2 := F0 m 333 ls ((([.int (xs (nI i + 1).toNatClampNeg), .int (xs (nI i + 2).toNatClampNeg), .int (xs (nI i + 3).toNatClampNeg), .int 0] : List Value).map (mm_tv aC)).reverse ++ .ref (aC 0) :: [])) rfl ?_
    refine lw_call (T := TC) okC inC (xm := 41) (mx := mdX4_clue) (as := [.int (xs (nI i + 1).toNatClampNeg), .int (xs (nI i + 2).toNatClampNeg), .int (xs (nI i + 3).toNatClampNeg), .int 0]) (rest := []) (d := 60) (ci := 4) rfl ((hsp0).1 I L hok hch) hx hb hml hown hts hK hNC (mm_mem [319, 320, 321, 56] rfl) (by decide +kernel) rfl rfl rfl hPC hDC hS hA rfl (by omega) (Nat.le_of_ble_eq_true rfl) eL_333 hl.1 hcN hsN (fun I' L' ri rl H1 locs1 hq hPC hDC hS hk => ?_)
    have hPR := lw_keep (s1 := shC) (s2 := shR) (fun i j h1 h2 => hap i j h1 h2) hPR hk
    refine W.eq (g2 := F0 m 336 ls [.int ri]) rfl ?_
    refine lv_aload_n hx hb eL_336 rfl (lv_at hl 2 rfl) ?_
    refine lv_aload_n hx hb eL_337 rfl (lv_at hl 0 rfl) ?_
    refine lv_iload_n hx hb eL_338 rfl (lv_at hl 3 rfl) ?_
    refine lv_iconst (v := 1) hx hb eL_339 (by decide) ?_
    refine lv_iadd hx hb eL_340 ?_
    refine va_sld hx hb hX hbl hbA hS (in_k 1 (by omega) hi hL (by decide +kernel)) eL_341 ?_
    refine lv_aload_n hx hb eL_342 rfl (lv_at hl 0 rfl) ?_
    refine lv_iload_n hx hb eL_343 rfl (lv_at hl 3 rfl) ?_
    refine lv_iconst (v := 2) hx hb eL_344 (by decide) ?_
    refine lv_iadd hx hb eL_345 ?_
    refine va_sld hx hb hX hbl hbA hS (in_k 2 (by omega) hi hL (by decide +kernel)) eL_346 ?_
    refine lv_aload_n hx hb eL_347 rfl (lv_at hl 0 rfl) ?_
    refine lv_iload_n hx hb eL_348 rfl (lv_at hl 3 rfl) ?_
    refine lv_iconst (v := 3) hx hb eL_349 (by decide) ?_
    refine lv_iadd hx hb eL_350 ?_
    refine va_sld hx hb hX hbl hbA hS (in_k 3 (by omega) hi hL (by decide +kernel)) eL_351 ?_
    refine lv_aload_n hx hb eL_352 rfl (lv_at hl 0 rfl) ?_
    refine lv_iload_n hx hb eL_353 rfl (lv_at hl 3 rfl) ?_
    refine lv_iconst (v := 4) hx hb eL_354 (by decide) ?_
    refine lv_iadd hx hb eL_355 ?_
    refine va_sld hx hb hX hbl hbA hS (in_k 4 (by omega) hi hL (by decide +kernel)) eL_356 ?_
    refine lv_if_eq (tgt := 364) hx hb eL_357 (by decide) (fun _ => ?_) (fun q9 => absurd hb0 q9)
    refine lv_iconst (v := 0) hx hb eL_364 (by decide) ?_
    refine W.eq (g2 := F0 m 365 ls ((([.int (xs (nI i + 1).toNatClampNeg), .int (xs (nI i + 2).toNatClampNeg), .int (xs (nI i + 3).toNatClampNeg), .int 0] : List Value).map (mm_tv aR)).reverse ++ .ref (aR 0) :: [.int ri])) rfl ?_
    refine lw_call (T := TR) okR inR (xm := 11) (mx := mdX5_clue) (as := [.int (xs (nI i + 1).toNatClampNeg), .int (xs (nI i + 2).toNatClampNeg), .int (xs (nI i + 3).toNatClampNeg), .int 0]) (rest := [.int ri]) (d := 60) (ci := 5) rfl ((hsp0).2.1 J M (hv ▸ hok)) hx hb hml hown hts hK hNR (mm_mem [718, 719, 720, 61] rfl) (by decide +kernel) rfl rfl rfl hPR hDR hS hA rfl (by omega) (Nat.le_of_ble_eq_true rfl) eL_365 hl.1 hcN hsN (fun J' M' r2 rl2 H2 locs2 hq2 hPR hDR hS hk => ?_)
    have hPC := lw_keep (s1 := shR) (s2 := shC) (fun i j h1 h2 => (hap j i h2 h1).symm) hPC hk
    refine W.eq (g2 := F0 m 368 ls [.int r2, .int ri]) rfl ?_
    rw [← hv] at hq2
    have e1 := hq.1.trans hq2.symm
    have e2 : vC I' = vR J' := congrArg Prod.fst e1
    have e3 : ri = r2 := congrArg Prod.snd e1
    refine lv_icmp_eq (tgt := 697) hx hb eL_368 (by decide) (fun _ => ?_) (fun c9 => absurd e3 c9)
    exact kk I' L' J' M' _ _ ⟨hPC, hPR, hDC, hDR, hS⟩ ⟨e2, (by rw [show vC I' = (_ : pv × _).1 from congrArg Prod.fst hq.1]; exact (hsp0).2.2 _ hok), hq.2⟩
  · refine lv_aload_n hx hb eL_304 rfl (lv_at hl 1 rfl) ?_
    refine lv_aload_n hx hb eL_305 rfl (lv_at hl 0 rfl) ?_
    refine lv_iload_n hx hb eL_306 rfl (lv_at hl 3 rfl) ?_
    refine lv_iconst (v := 1) hx hb eL_307 (by decide) ?_
    refine lv_iadd hx hb eL_308 ?_
    refine va_sld hx hb hX hbl hbA hS (in_k 1 (by omega) hi hL (by decide +kernel)) eL_309 ?_
    refine lv_aload_n hx hb eL_310 rfl (lv_at hl 0 rfl) ?_
    refine lv_iload_n hx hb eL_311 rfl (lv_at hl 3 rfl) ?_
    refine lv_iconst (v := 2) hx hb eL_312 (by decide) ?_
    refine lv_iadd hx hb eL_313 ?_
    refine va_sld hx hb hX hbl hbA hS (in_k 2 (by omega) hi hL (by decide +kernel)) eL_314 ?_
    refine lv_aload_n hx hb eL_315 rfl (lv_at hl 0 rfl) ?_
    refine lv_iload_n hx hb eL_316 rfl (lv_at hl 3 rfl) ?_
    refine lv_iconst (v := 3) hx hb eL_317 (by decide) ?_
    refine lv_iadd hx hb eL_318 ?_
    refine va_sld hx hb hX hbl hbA hS (in_k 3 (by omega) hi hL (by decide +kernel)) eL_319 ?_
    refine lv_aload_n hx hb eL_320 rfl (lv_at hl 0 rfl) ?_
    refine lv_iload_n hx hb eL_321 rfl (lv_at hl 3 rfl) ?_
    refine lv_iconst (v := 4) hx hb eL_322 (by decide) ?_
    refine lv_iadd hx hb eL_323 ?_
    refine va_sld hx hb hX hbl hbA hS (in_k 4 (by omega) hi hL (by decide +kernel)) eL_324 ?_
    refine lv_if_eq (tgt := 332) hx hb eL_325 (by decide) (fun q9 => absurd q9 hb0) (fun _ => ?_)
    refine lv_iconst (v := 1) hx hb eL_328 (by decide) ?_
    refine lv_goto (tgt := 333) hx hb eL_329 (by decide) ?_
    refine W.eq (g2 := F0 m 333 ls ((([.int (xs (nI i + 1).toNatClampNeg), .int (xs (nI i + 2).toNatClampNeg), .int (xs (nI i + 3).toNatClampNeg), .int 1] : List Value).map (mm_tv aC)).reverse ++ .ref (aC 0) :: [])) rfl ?_
    refine lw_call (T := TC) okC inC (xm := 41) (mx := mdX4_clue) (as := [.int (xs (nI i + 1).toNatClampNeg), .int (xs (nI i + 2).toNatClampNeg), .int (xs (nI i + 3).toNatClampNeg), .int 1]) (rest := []) (d := 60) (ci := 4) rfl ((hsp1).1 I L hok hch) hx hb hml hown hts hK hNC (mm_mem [319, 320, 321, 56] rfl) (by decide +kernel) rfl rfl rfl hPC hDC hS hA rfl (by omega) (Nat.le_of_ble_eq_true rfl) eL_333 hl.1 hcN hsN (fun I' L' ri rl H1 locs1 hq hPC hDC hS hk => ?_)
    have hPR := lw_keep (s1 := shC) (s2 := shR) (fun i j h1 h2 => hap i j h1 h2) hPR hk
    refine W.eq (g2 := F0 m 336 ls [.int ri]) rfl ?_
    refine lv_aload_n hx hb eL_336 rfl (lv_at hl 2 rfl) ?_
    refine lv_aload_n hx hb eL_337 rfl (lv_at hl 0 rfl) ?_
    refine lv_iload_n hx hb eL_338 rfl (lv_at hl 3 rfl) ?_
    refine lv_iconst (v := 1) hx hb eL_339 (by decide) ?_
    refine lv_iadd hx hb eL_340 ?_
    refine va_sld hx hb hX hbl hbA hS (in_k 1 (by omega) hi hL (by decide +kernel)) eL_341 ?_
    refine lv_aload_n hx hb eL_342 rfl (lv_at hl 0 rfl) ?_
    refine lv_iload_n hx hb eL_343 rfl (lv_at hl 3 rfl) ?_
    refine lv_iconst (v := 2) hx hb eL_344 (by decide) ?_
    refine lv_iadd hx hb eL_345 ?_
    refine va_sld hx hb hX hbl hbA hS (in_k 2 (by omega) hi hL (by decide +kernel)) eL_346 ?_
    refine lv_aload_n hx hb eL_347 rfl (lv_at hl 0 rfl) ?_
    refine lv_iload_n hx hb eL_348 rfl (lv_at hl 3 rfl) ?_
    refine lv_iconst (v := 3) hx hb eL_349 (by decide) ?_
    refine lv_iadd hx hb eL_350 ?_
    refine va_sld hx hb hX hbl hbA hS (in_k 3 (by omega) hi hL (by decide +kernel)) eL_351 ?_
    refine lv_aload_n hx hb eL_352 rfl (lv_at hl 0 rfl) ?_
    refine lv_iload_n hx hb eL_353 rfl (lv_at hl 3 rfl) ?_
    refine lv_iconst (v := 4) hx hb eL_354 (by decide) ?_
    refine lv_iadd hx hb eL_355 ?_
    refine va_sld hx hb hX hbl hbA hS (in_k 4 (by omega) hi hL (by decide +kernel)) eL_356 ?_
    refine lv_if_eq (tgt := 364) hx hb eL_357 (by decide) (fun q9 => absurd q9 hb0) (fun _ => ?_)
    refine lv_iconst (v := 1) hx hb eL_360 (by decide) ?_
    refine lv_goto (tgt := 365) hx hb eL_361 (by decide) ?_
    refine W.eq (g2 := F0 m 365 ls ((([.int (xs (nI i + 1).toNatClampNeg), .int (xs (nI i + 2).toNatClampNeg), .int (xs (nI i + 3).toNatClampNeg), .int 1] : List Value).map (mm_tv aR)).reverse ++ .ref (aR 0) :: [.int ri])) rfl ?_
    refine lw_call (T := TR) okR inR (xm := 11) (mx := mdX5_clue) (as := [.int (xs (nI i + 1).toNatClampNeg), .int (xs (nI i + 2).toNatClampNeg), .int (xs (nI i + 3).toNatClampNeg), .int 1]) (rest := [.int ri]) (d := 60) (ci := 5) rfl ((hsp1).2.1 J M (hv ▸ hok)) hx hb hml hown hts hK hNR (mm_mem [718, 719, 720, 61] rfl) (by decide +kernel) rfl rfl rfl hPR hDR hS hA rfl (by omega) (Nat.le_of_ble_eq_true rfl) eL_365 hl.1 hcN hsN (fun J' M' r2 rl2 H2 locs2 hq2 hPR hDR hS hk => ?_)
    have hPC := lw_keep (s1 := shR) (s2 := shC) (fun i j h1 h2 => (hap j i h2 h1).symm) hPC hk
    refine W.eq (g2 := F0 m 368 ls [.int r2, .int ri]) rfl ?_
    rw [← hv] at hq2
    have e1 := hq.1.trans hq2.symm
    have e2 : vC I' = vR J' := congrArg Prod.fst e1
    have e3 : ri = r2 := congrArg Prod.snd e1
    refine lv_icmp_eq (tgt := 697) hx hb eL_368 (by decide) (fun _ => ?_) (fun c9 => absurd e3 c9)
    exact kk I' L' J' M' _ _ ⟨hPC, hPR, hDC, hDR, hS⟩ ⟨e2, (by rw [show vC I' = (_ : pv × _).1 from congrArg Prod.fst hq.1]; exact (hsp1).2.2 _ hok), hq.2⟩
set_option maxHeartbeats 4000000 in
set_option maxRecDepth 100000 in
theorem lw_c6 {qq : pv → pv × Int32} (X : LX p s m meth c b Ln xs D cI cJ aC aR) (hi : i + 5 ≤ Ln) (hcN : cN ≤ 600000) (hsN : sN ≤ 7302250) (hl : lv_has ls 4 [(0, .ref b), (1, .ref (aC 0)), (2, .ref (aR 0)), (3, .int (nI i))]) (hsp : SPi Cch 42 13 [.int (xs (nI i + 1).toNatClampNeg), .int (xs (nI i + 2).toNatClampNeg)] qq) (hW : LWd D cI cJ aC aR s I L J M H locs) (hG : LG Cch I L J) (kk : ∀ I' L' J' M' H1 locs1, LWd D cI cJ aC aR s I' L' J' M' H1 locs1 → LG Cch I' L' J' → W p l e room_1 s m #[Value.ref b] below meth c H1 locs1 cN sN Z (F0 m 697 ls [])) : W p l e room_1 s m #[Value.ref b] below meth c H locs cN sN Z (F0 m 373 ls []) := by
  obtain ⟨⟨hx, hb, hr, hml, hown, hts, hX, hbl, hlocks, hgv⟩, hL, hK, hNC, hNR, hap⟩ := X
  obtain ⟨hPC, hPR, hDC, hDR, hS⟩ := hW
  obtain ⟨hv, hok, hch⟩ := hG
  have hA : ∀ q : Nat, s.heap.size ≤ q → (fun q : Nat => s.heap.size ≤ q) q := fun _ h => h
  have hbA : ¬ (fun q : Nat => s.heap.size ≤ q) b := Nat.not_le.mpr hbl
  refine lv_aload_n hx hb eL_373 rfl (lv_at hl 1 rfl) ?_
  refine lv_aload_n hx hb eL_374 rfl (lv_at hl 0 rfl) ?_
  refine lv_iload_n hx hb eL_375 rfl (lv_at hl 3 rfl) ?_
  refine lv_iconst (v := 1) hx hb eL_376 (by decide) ?_
  refine lv_iadd hx hb eL_377 ?_
  refine va_sld hx hb hX hbl hbA hS (in_k 1 (by omega) hi hL (by decide +kernel)) eL_378 ?_
  refine lv_aload_n hx hb eL_379 rfl (lv_at hl 0 rfl) ?_
  refine lv_iload_n hx hb eL_380 rfl (lv_at hl 3 rfl) ?_
  refine lv_iconst (v := 2) hx hb eL_381 (by decide) ?_
  refine lv_iadd hx hb eL_382 ?_
  refine va_sld hx hb hX hbl hbA hS (in_k 2 (by omega) hi hL (by decide +kernel)) eL_383 ?_
  refine W.eq (g2 := F0 m 384 ls ((([.int (xs (nI i + 1).toNatClampNeg), .int (xs (nI i + 2).toNatClampNeg)] : List Value).map (mm_tv aC)).reverse ++ .ref (aC 0) :: [])) rfl ?_
  refine lw_call (T := TC) okC inC (xm := 42) (mx := mdX4_ofClue) (as := [.int (xs (nI i + 1).toNatClampNeg), .int (xs (nI i + 2).toNatClampNeg)]) (rest := []) (d := 60) (ci := 4) rfl (hsp.1 I L hok hch) hx hb hml hown hts hK hNC (mm_mem [326, 327, 328, 56] rfl) (by decide +kernel) rfl rfl rfl hPC hDC hS hA rfl (by omega) (Nat.le_of_ble_eq_true rfl) eL_384 hl.1 hcN hsN (fun I' L' ri rl H1 locs1 hq hPC hDC hS hk => ?_)
  have hPR := lw_keep (s1 := shC) (s2 := shR) (fun i j h1 h2 => hap i j h1 h2) hPR hk
  refine W.eq (g2 := F0 m 387 ls [.int ri]) rfl ?_
  refine lv_aload_n hx hb eL_387 rfl (lv_at hl 2 rfl) ?_
  refine lv_aload_n hx hb eL_388 rfl (lv_at hl 0 rfl) ?_
  refine lv_iload_n hx hb eL_389 rfl (lv_at hl 3 rfl) ?_
  refine lv_iconst (v := 1) hx hb eL_390 (by decide) ?_
  refine lv_iadd hx hb eL_391 ?_
  refine va_sld hx hb hX hbl hbA hS (in_k 1 (by omega) hi hL (by decide +kernel)) eL_392 ?_
  refine lv_aload_n hx hb eL_393 rfl (lv_at hl 0 rfl) ?_
  refine lv_iload_n hx hb eL_394 rfl (lv_at hl 3 rfl) ?_
  refine lv_iconst (v := 2) hx hb eL_395 (by decide) ?_
  refine lv_iadd hx hb eL_396 ?_
  refine va_sld hx hb hX hbl hbA hS (in_k 2 (by omega) hi hL (by decide +kernel)) eL_397 ?_
  refine W.eq (g2 := F0 m 398 ls ((([.int (xs (nI i + 1).toNatClampNeg), .int (xs (nI i + 2).toNatClampNeg)] : List Value).map (mm_tv aR)).reverse ++ .ref (aR 0) :: [.int ri])) rfl ?_
  refine lw_call (T := TR) okR inR (xm := 13) (mx := mdX5_ofClue) (as := [.int (xs (nI i + 1).toNatClampNeg), .int (xs (nI i + 2).toNatClampNeg)]) (rest := [.int ri]) (d := 60) (ci := 5) rfl (hsp.2.1 J M (hv ▸ hok)) hx hb hml hown hts hK hNR (mm_mem [725, 726, 727, 61] rfl) (by decide +kernel) rfl rfl rfl hPR hDR hS hA rfl (by omega) (Nat.le_of_ble_eq_true rfl) eL_398 hl.1 hcN hsN (fun J' M' r2 rl2 H2 locs2 hq2 hPR hDR hS hk => ?_)
  have hPC := lw_keep (s1 := shR) (s2 := shC) (fun i j h1 h2 => (hap j i h2 h1).symm) hPC hk
  refine W.eq (g2 := F0 m 401 ls [.int r2, .int ri]) rfl ?_
  rw [← hv] at hq2
  have e1 := hq.1.trans hq2.symm
  have e2 : vC I' = vR J' := congrArg Prod.fst e1
  have e3 : ri = r2 := congrArg Prod.snd e1
  refine lv_icmp_eq (tgt := 697) hx hb eL_401 (by decide) (fun _ => ?_) (fun c9 => absurd e3 c9)
  exact kk I' L' J' M' _ _ ⟨hPC, hPR, hDC, hDR, hS⟩ ⟨e2, (by rw [show vC I' = (_ : pv × _).1 from congrArg Prod.fst hq.1]; exact hsp.2.2 _ hok), hq.2⟩
set_option maxHeartbeats 4000000 in
set_option maxRecDepth 100000 in
theorem lw_c7 {qq : pv → pv × Int32} (X : LX p s m meth c b Ln xs D cI cJ aC aR) (hi : i + 5 ≤ Ln) (hcN : cN ≤ 600000) (hsN : sN ≤ 7302250) (hl : lv_has ls 4 [(0, .ref b), (1, .ref (aC 0)), (2, .ref (aR 0)), (3, .int (nI i))]) (hsp : SPi Cch 43 14 [] qq) (hW : LWd D cI cJ aC aR s I L J M H locs) (hG : LG Cch I L J) (kk : ∀ I' L' J' M' H1 locs1, LWd D cI cJ aC aR s I' L' J' M' H1 locs1 → LG Cch I' L' J' → W p l e room_1 s m #[Value.ref b] below meth c H1 locs1 cN sN Z (F0 m 697 ls [])) : W p l e room_1 s m #[Value.ref b] below meth c H locs cN sN Z (F0 m 406 ls []) := by
  obtain ⟨⟨hx, hb, hr, hml, hown, hts, hX, hbl, hlocks, hgv⟩, hL, hK, hNC, hNR, hap⟩ := X
  obtain ⟨hPC, hPR, hDC, hDR, hS⟩ := hW
  obtain ⟨hv, hok, hch⟩ := hG
  have hA : ∀ q : Nat, s.heap.size ≤ q → (fun q : Nat => s.heap.size ≤ q) q := fun _ h => h
  have hbA : ¬ (fun q : Nat => s.heap.size ≤ q) b := Nat.not_le.mpr hbl
  refine lv_aload_n hx hb eL_406 rfl (lv_at hl 1 rfl) ?_
  refine W.eq (g2 := F0 m 407 ls ((([] : List Value).map (mm_tv aC)).reverse ++ .ref (aC 0) :: [])) rfl ?_
  refine lw_call (T := TC) okC inC (xm := 43) (mx := mdX4_drop) (as := []) (rest := []) (d := 60) (ci := 4) rfl (hsp.1 I L hok hch) hx hb hml hown hts hK hNC (mm_mem [333, 334, 335, 56] rfl) (by decide +kernel) rfl rfl rfl hPC hDC hS hA rfl (by omega) (Nat.le_of_ble_eq_true rfl) eL_407 hl.1 hcN hsN (fun I' L' ri rl H1 locs1 hq hPC hDC hS hk => ?_)
  have hPR := lw_keep (s1 := shC) (s2 := shR) (fun i j h1 h2 => hap i j h1 h2) hPR hk
  refine W.eq (g2 := F0 m 410 ls [.int ri]) rfl ?_
  refine lv_aload_n hx hb eL_410 rfl (lv_at hl 2 rfl) ?_
  refine W.eq (g2 := F0 m 411 ls ((([] : List Value).map (mm_tv aR)).reverse ++ .ref (aR 0) :: [.int ri])) rfl ?_
  refine lw_call (T := TR) okR inR (xm := 14) (mx := mdX5_drop) (as := []) (rest := [.int ri]) (d := 60) (ci := 5) rfl (hsp.2.1 J M (hv ▸ hok)) hx hb hml hown hts hK hNR (mm_mem [733, 734, 735, 61] rfl) (by decide +kernel) rfl rfl rfl hPR hDR hS hA rfl (by omega) (Nat.le_of_ble_eq_true rfl) eL_411 hl.1 hcN hsN (fun J' M' r2 rl2 H2 locs2 hq2 hPR hDR hS hk => ?_)
  have hPC := lw_keep (s1 := shR) (s2 := shC) (fun i j h1 h2 => (hap j i h2 h1).symm) hPC hk
  refine W.eq (g2 := F0 m 414 ls [.int r2, .int ri]) rfl ?_
  rw [← hv] at hq2
  have e1 := hq.1.trans hq2.symm
  have e2 : vC I' = vR J' := congrArg Prod.fst e1
  have e3 : ri = r2 := congrArg Prod.snd e1
  refine lv_icmp_eq (tgt := 697) hx hb eL_414 (by decide) (fun _ => ?_) (fun c9 => absurd e3 c9)
  exact kk I' L' J' M' _ _ ⟨hPC, hPR, hDC, hDR, hS⟩ ⟨e2, (by rw [show vC I' = (_ : pv × _).1 from congrArg Prod.fst hq.1]; exact hsp.2.2 _ hok), hq.2⟩
set_option maxHeartbeats 4000000 in
set_option maxRecDepth 100000 in
theorem lw_c8 {qq : pv → pv × Int32} (X : LX p s m meth c b Ln xs D cI cJ aC aR) (hi : i + 5 ≤ Ln) (hcN : cN ≤ 600000) (hsN : sN ≤ 7302250) (hl : lv_has ls 4 [(0, .ref b), (1, .ref (aC 0)), (2, .ref (aR 0)), (3, .int (nI i))]) (hsp : SPi Cch 44 15 [.int (xs (nI i + 1).toNatClampNeg)] qq) (hW : LWd D cI cJ aC aR s I L J M H locs) (hG : LG Cch I L J) (kk : ∀ I' L' J' M' H1 locs1, LWd D cI cJ aC aR s I' L' J' M' H1 locs1 → LG Cch I' L' J' → W p l e room_1 s m #[Value.ref b] below meth c H1 locs1 cN sN Z (F0 m 697 ls [])) : W p l e room_1 s m #[Value.ref b] below meth c H locs cN sN Z (F0 m 419 ls []) := by
  obtain ⟨⟨hx, hb, hr, hml, hown, hts, hX, hbl, hlocks, hgv⟩, hL, hK, hNC, hNR, hap⟩ := X
  obtain ⟨hPC, hPR, hDC, hDR, hS⟩ := hW
  obtain ⟨hv, hok, hch⟩ := hG
  have hA : ∀ q : Nat, s.heap.size ≤ q → (fun q : Nat => s.heap.size ≤ q) q := fun _ h => h
  have hbA : ¬ (fun q : Nat => s.heap.size ≤ q) b := Nat.not_le.mpr hbl
  refine lv_aload_n hx hb eL_419 rfl (lv_at hl 1 rfl) ?_
  refine lv_aload_n hx hb eL_420 rfl (lv_at hl 0 rfl) ?_
  refine lv_iload_n hx hb eL_421 rfl (lv_at hl 3 rfl) ?_
  refine lv_iconst (v := 1) hx hb eL_422 (by decide) ?_
  refine lv_iadd hx hb eL_423 ?_
  refine va_sld hx hb hX hbl hbA hS (in_k 1 (by omega) hi hL (by decide +kernel)) eL_424 ?_
  refine W.eq (g2 := F0 m 425 ls ((([.int (xs (nI i + 1).toNatClampNeg)] : List Value).map (mm_tv aC)).reverse ++ .ref (aC 0) :: [])) rfl ?_
  refine lw_call (T := TC) okC inC (xm := 44) (mx := mdX4_fee) (as := [.int (xs (nI i + 1).toNatClampNeg)]) (rest := []) (d := 60) (ci := 4) rfl (hsp.1 I L hok hch) hx hb hml hown hts hK hNC (mm_mem [337, 338, 339, 56] rfl) (by decide +kernel) rfl rfl rfl hPC hDC hS hA rfl (by omega) (Nat.le_of_ble_eq_true rfl) eL_425 hl.1 hcN hsN (fun I' L' ri rl H1 locs1 hq hPC hDC hS hk => ?_)
  have hPR := lw_keep (s1 := shC) (s2 := shR) (fun i j h1 h2 => hap i j h1 h2) hPR hk
  refine W.eq (g2 := F0 m 428 ls [.int ri]) rfl ?_
  refine lv_aload_n hx hb eL_428 rfl (lv_at hl 2 rfl) ?_
  refine lv_aload_n hx hb eL_429 rfl (lv_at hl 0 rfl) ?_
  refine lv_iload_n hx hb eL_430 rfl (lv_at hl 3 rfl) ?_
  refine lv_iconst (v := 1) hx hb eL_431 (by decide) ?_
  refine lv_iadd hx hb eL_432 ?_
  refine va_sld hx hb hX hbl hbA hS (in_k 1 (by omega) hi hL (by decide +kernel)) eL_433 ?_
  refine W.eq (g2 := F0 m 434 ls ((([.int (xs (nI i + 1).toNatClampNeg)] : List Value).map (mm_tv aR)).reverse ++ .ref (aR 0) :: [.int ri])) rfl ?_
  refine lw_call (T := TR) okR inR (xm := 15) (mx := mdX5_fee) (as := [.int (xs (nI i + 1).toNatClampNeg)]) (rest := [.int ri]) (d := 60) (ci := 5) rfl (hsp.2.1 J M (hv ▸ hok)) hx hb hml hown hts hK hNR (mm_mem [737, 738, 739, 61] rfl) (by decide +kernel) rfl rfl rfl hPR hDR hS hA rfl (by omega) (Nat.le_of_ble_eq_true rfl) eL_434 hl.1 hcN hsN (fun J' M' r2 rl2 H2 locs2 hq2 hPR hDR hS hk => ?_)
  have hPC := lw_keep (s1 := shR) (s2 := shC) (fun i j h1 h2 => (hap j i h2 h1).symm) hPC hk
  refine W.eq (g2 := F0 m 437 ls [.int r2, .int ri]) rfl ?_
  rw [← hv] at hq2
  have e1 := hq.1.trans hq2.symm
  have e2 : vC I' = vR J' := congrArg Prod.fst e1
  have e3 : ri = r2 := congrArg Prod.snd e1
  refine lv_icmp_eq (tgt := 697) hx hb eL_437 (by decide) (fun _ => ?_) (fun c9 => absurd e3 c9)
  exact kk I' L' J' M' _ _ ⟨hPC, hPR, hDC, hDR, hS⟩ ⟨e2, (by rw [show vC I' = (_ : pv × _).1 from congrArg Prod.fst hq.1]; exact hsp.2.2 _ hok), hq.2⟩
set_option maxHeartbeats 4000000 in
set_option maxRecDepth 100000 in
theorem lw_c9 {qq : pv → pv × Int64} (X : LX p s m meth c b Ln xs D cI cJ aC aR) (hi : i + 5 ≤ Ln) (hcN : cN ≤ 600000) (hsN : sN ≤ 7302250) (hl : lv_has ls 4 [(0, .ref b), (1, .ref (aC 0)), (2, .ref (aR 0)), (3, .int (nI i))]) (hsp : SPl Cch 45 17 [.int (xs (nI i + 1).toNatClampNeg), .int (xs (nI i + 2).toNatClampNeg)] qq) (hW : LWd D cI cJ aC aR s I L J M H locs) (hG : LG Cch I L J) (kk : ∀ I' L' J' M' H1 locs1, LWd D cI cJ aC aR s I' L' J' M' H1 locs1 → LG Cch I' L' J' → W p l e room_1 s m #[Value.ref b] below meth c H1 locs1 cN sN Z (F0 m 697 ls [])) : W p l e room_1 s m #[Value.ref b] below meth c H locs cN sN Z (F0 m 442 ls []) := by
  obtain ⟨⟨hx, hb, hr, hml, hown, hts, hX, hbl, hlocks, hgv⟩, hL, hK, hNC, hNR, hap⟩ := X
  obtain ⟨hPC, hPR, hDC, hDR, hS⟩ := hW
  obtain ⟨hv, hok, hch⟩ := hG
  have hA : ∀ q : Nat, s.heap.size ≤ q → (fun q : Nat => s.heap.size ≤ q) q := fun _ h => h
  have hbA : ¬ (fun q : Nat => s.heap.size ≤ q) b := Nat.not_le.mpr hbl
  refine lv_aload_n hx hb eL_442 rfl (lv_at hl 1 rfl) ?_
  refine lv_aload_n hx hb eL_443 rfl (lv_at hl 0 rfl) ?_
  refine lv_iload_n hx hb eL_444 rfl (lv_at hl 3 rfl) ?_
  refine lv_iconst (v := 1) hx hb eL_445 (by decide) ?_
  refine lv_iadd hx hb eL_446 ?_
  refine va_sld hx hb hX hbl hbA hS (in_k 1 (by omega) hi hL (by decide +kernel)) eL_447 ?_
  refine lv_aload_n hx hb eL_448 rfl (lv_at hl 0 rfl) ?_
  refine lv_iload_n hx hb eL_449 rfl (lv_at hl 3 rfl) ?_
  refine lv_iconst (v := 2) hx hb eL_450 (by decide) ?_
  refine lv_iadd hx hb eL_451 ?_
  refine va_sld hx hb hX hbl hbA hS (in_k 2 (by omega) hi hL (by decide +kernel)) eL_452 ?_
  refine W.eq (g2 := F0 m 453 ls ((([.int (xs (nI i + 1).toNatClampNeg), .int (xs (nI i + 2).toNatClampNeg)] : List Value).map (mm_tv aC)).reverse ++ .ref (aC 0) :: [])) rfl ?_
  refine lw_call (T := TC) okC inC (xm := 45) (mx := mdX4_jump) (as := [.int (xs (nI i + 1).toNatClampNeg), .int (xs (nI i + 2).toNatClampNeg)]) (rest := []) (d := 60) (ci := 4) rfl (hsp.1 I L hok hch) hx hb hml hown hts hK hNC (mm_mem [342, 343, 344, 56] rfl) (by decide +kernel) rfl rfl rfl hPC hDC hS hA rfl (by omega) (Nat.le_of_ble_eq_true rfl) eL_453 hl.1 hcN hsN (fun I' L' ri rl H1 locs1 hq hPC hDC hS hk => ?_)
  have hPR := lw_keep (s1 := shC) (s2 := shR) (fun i j h1 h2 => hap i j h1 h2) hPR hk
  refine W.eq (g2 := F0 m 456 ls [.long rl]) rfl ?_
  refine lv_aload_n hx hb eL_456 rfl (lv_at hl 2 rfl) ?_
  refine lv_aload_n hx hb eL_457 rfl (lv_at hl 0 rfl) ?_
  refine lv_iload_n hx hb eL_458 rfl (lv_at hl 3 rfl) ?_
  refine lv_iconst (v := 1) hx hb eL_459 (by decide) ?_
  refine lv_iadd hx hb eL_460 ?_
  refine va_sld hx hb hX hbl hbA hS (in_k 1 (by omega) hi hL (by decide +kernel)) eL_461 ?_
  refine lv_aload_n hx hb eL_462 rfl (lv_at hl 0 rfl) ?_
  refine lv_iload_n hx hb eL_463 rfl (lv_at hl 3 rfl) ?_
  refine lv_iconst (v := 2) hx hb eL_464 (by decide) ?_
  refine lv_iadd hx hb eL_465 ?_
  refine va_sld hx hb hX hbl hbA hS (in_k 2 (by omega) hi hL (by decide +kernel)) eL_466 ?_
  refine W.eq (g2 := F0 m 467 ls ((([.int (xs (nI i + 1).toNatClampNeg), .int (xs (nI i + 2).toNatClampNeg)] : List Value).map (mm_tv aR)).reverse ++ .ref (aR 0) :: [.long rl])) rfl ?_
  refine lw_call (T := TR) okR inR (xm := 17) (mx := mdX5_jump) (as := [.int (xs (nI i + 1).toNatClampNeg), .int (xs (nI i + 2).toNatClampNeg)]) (rest := [.long rl]) (d := 60) (ci := 5) rfl (hsp.2.1 J M (hv ▸ hok)) hx hb hml hown hts hK hNR (mm_mem [742, 743, 744, 61] rfl) (by decide +kernel) rfl rfl rfl hPR hDR hS hA rfl (by omega) (Nat.le_of_ble_eq_true rfl) eL_467 hl.1 hcN hsN (fun J' M' r2 rl2 H2 locs2 hq2 hPR hDR hS hk => ?_)
  have hPC := lw_keep (s1 := shR) (s2 := shC) (fun i j h1 h2 => (hap j i h2 h1).symm) hPC hk
  refine W.eq (g2 := F0 m 470 ls [.long rl2, .long rl]) rfl ?_
  rw [← hv] at hq2
  have e1 := hq.1.trans hq2.symm
  have e2 : vC I' = vR J' := congrArg Prod.fst e1
  have e3 : rl = rl2 := congrArg Prod.snd e1
  refine W.lcmp hx hb eL_470 ?_
  refine lv_if_eq (tgt := 697) hx hb eL_471 (by decide) (fun _ => ?_) (fun c9 => absurd ((lg_cmp_eq _ _).mpr e3) c9)
  exact kk I' L' J' M' _ _ ⟨hPC, hPR, hDC, hDR, hS⟩ ⟨e2, (by rw [show vC I' = (_ : pv × _).1 from congrArg Prod.fst hq.1]; exact hsp.2.2 _ hok), hq.2⟩
set_option maxHeartbeats 4000000 in
set_option maxRecDepth 100000 in
theorem lw_c10 {qq : pv → pv × Int64} (X : LX p s m meth c b Ln xs D cI cJ aC aR) (hi : i + 5 ≤ Ln) (hcN : cN ≤ 600000) (hsN : sN ≤ 7302250) (hl : lv_has ls 4 [(0, .ref b), (1, .ref (aC 0)), (2, .ref (aR 0)), (3, .int (nI i))]) (hsp : SPl Cch 46 23 [.int (xs (nI i + 1).toNatClampNeg)] qq) (hW : LWd D cI cJ aC aR s I L J M H locs) (hG : LG Cch I L J) (kk : ∀ I' L' J' M' H1 locs1, LWd D cI cJ aC aR s I' L' J' M' H1 locs1 → LG Cch I' L' J' → W p l e room_1 s m #[Value.ref b] below meth c H1 locs1 cN sN Z (F0 m 697 ls [])) : W p l e room_1 s m #[Value.ref b] below meth c H locs cN sN Z (F0 m 476 ls []) := by
  obtain ⟨⟨hx, hb, hr, hml, hown, hts, hX, hbl, hlocks, hgv⟩, hL, hK, hNC, hNR, hap⟩ := X
  obtain ⟨hPC, hPR, hDC, hDR, hS⟩ := hW
  obtain ⟨hv, hok, hch⟩ := hG
  have hA : ∀ q : Nat, s.heap.size ≤ q → (fun q : Nat => s.heap.size ≤ q) q := fun _ h => h
  have hbA : ¬ (fun q : Nat => s.heap.size ≤ q) b := Nat.not_le.mpr hbl
  refine lv_aload_n hx hb eL_476 rfl (lv_at hl 1 rfl) ?_
  refine lv_aload_n hx hb eL_477 rfl (lv_at hl 0 rfl) ?_
  refine lv_iload_n hx hb eL_478 rfl (lv_at hl 3 rfl) ?_
  refine lv_iconst (v := 1) hx hb eL_479 (by decide) ?_
  refine lv_iadd hx hb eL_480 ?_
  refine va_sld hx hb hX hbl hbA hS (in_k 1 (by omega) hi hL (by decide +kernel)) eL_481 ?_
  refine W.eq (g2 := F0 m 482 ls ((([.int (xs (nI i + 1).toNatClampNeg)] : List Value).map (mm_tv aC)).reverse ++ .ref (aC 0) :: [])) rfl ?_
  refine lw_call (T := TC) okC inC (xm := 46) (mx := mdX4_span) (as := [.int (xs (nI i + 1).toNatClampNeg)]) (rest := []) (d := 60) (ci := 4) rfl (hsp.1 I L hok hch) hx hb hml hown hts hK hNC (mm_mem [353, 354, 355, 56] rfl) (by decide +kernel) rfl rfl rfl hPC hDC hS hA rfl (by omega) (Nat.le_of_ble_eq_true rfl) eL_482 hl.1 hcN hsN (fun I' L' ri rl H1 locs1 hq hPC hDC hS hk => ?_)
  have hPR := lw_keep (s1 := shC) (s2 := shR) (fun i j h1 h2 => hap i j h1 h2) hPR hk
  refine W.eq (g2 := F0 m 485 ls [.long rl]) rfl ?_
  refine lv_aload_n hx hb eL_485 rfl (lv_at hl 2 rfl) ?_
  refine lv_aload_n hx hb eL_486 rfl (lv_at hl 0 rfl) ?_
  refine lv_iload_n hx hb eL_487 rfl (lv_at hl 3 rfl) ?_
  refine lv_iconst (v := 1) hx hb eL_488 (by decide) ?_
  refine lv_iadd hx hb eL_489 ?_
  refine va_sld hx hb hX hbl hbA hS (in_k 1 (by omega) hi hL (by decide +kernel)) eL_490 ?_
  refine W.eq (g2 := F0 m 491 ls ((([.int (xs (nI i + 1).toNatClampNeg)] : List Value).map (mm_tv aR)).reverse ++ .ref (aR 0) :: [.long rl])) rfl ?_
  refine lw_call (T := TR) okR inR (xm := 23) (mx := mdX5_span) (as := [.int (xs (nI i + 1).toNatClampNeg)]) (rest := [.long rl]) (d := 60) (ci := 5) rfl (hsp.2.1 J M (hv ▸ hok)) hx hb hml hown hts hK hNR (mm_mem [750, 751, 752, 61] rfl) (by decide +kernel) rfl rfl rfl hPR hDR hS hA rfl (by omega) (Nat.le_of_ble_eq_true rfl) eL_491 hl.1 hcN hsN (fun J' M' r2 rl2 H2 locs2 hq2 hPR hDR hS hk => ?_)
  have hPC := lw_keep (s1 := shR) (s2 := shC) (fun i j h1 h2 => (hap j i h2 h1).symm) hPC hk
  refine W.eq (g2 := F0 m 494 ls [.long rl2, .long rl]) rfl ?_
  rw [← hv] at hq2
  have e1 := hq.1.trans hq2.symm
  have e2 : vC I' = vR J' := congrArg Prod.fst e1
  have e3 : rl = rl2 := congrArg Prod.snd e1
  refine W.lcmp hx hb eL_494 ?_
  refine lv_if_eq (tgt := 697) hx hb eL_495 (by decide) (fun _ => ?_) (fun c9 => absurd ((lg_cmp_eq _ _).mpr e3) c9)
  exact kk I' L' J' M' _ _ ⟨hPC, hPR, hDC, hDR, hS⟩ ⟨e2, (by rw [show vC I' = (_ : pv × _).1 from congrArg Prod.fst hq.1]; exact hsp.2.2 _ hok), hq.2⟩
set_option maxHeartbeats 4000000 in
set_option maxRecDepth 100000 in
theorem lw_c11 {qq : pv → pv × Int32} (X : LX p s m meth c b Ln xs D cI cJ aC aR) (hi : i + 5 ≤ Ln) (hcN : cN ≤ 600000) (hsN : sN ≤ 7302250) (hl : lv_has ls 4 [(0, .ref b), (1, .ref (aC 0)), (2, .ref (aR 0)), (3, .int (nI i))]) (hsp : SPi Cch 47 24 [.int (xs (nI i + 1).toNatClampNeg)] qq) (hW : LWd D cI cJ aC aR s I L J M H locs) (hG : LG Cch I L J) (kk : ∀ I' L' J' M' H1 locs1, LWd D cI cJ aC aR s I' L' J' M' H1 locs1 → LG Cch I' L' J' → W p l e room_1 s m #[Value.ref b] below meth c H1 locs1 cN sN Z (F0 m 697 ls [])) : W p l e room_1 s m #[Value.ref b] below meth c H locs cN sN Z (F0 m 500 ls []) := by
  obtain ⟨⟨hx, hb, hr, hml, hown, hts, hX, hbl, hlocks, hgv⟩, hL, hK, hNC, hNR, hap⟩ := X
  obtain ⟨hPC, hPR, hDC, hDR, hS⟩ := hW
  obtain ⟨hv, hok, hch⟩ := hG
  have hA : ∀ q : Nat, s.heap.size ≤ q → (fun q : Nat => s.heap.size ≤ q) q := fun _ h => h
  have hbA : ¬ (fun q : Nat => s.heap.size ≤ q) b := Nat.not_le.mpr hbl
  refine lv_aload_n hx hb eL_500 rfl (lv_at hl 1 rfl) ?_
  refine lv_aload_n hx hb eL_501 rfl (lv_at hl 0 rfl) ?_
  refine lv_iload_n hx hb eL_502 rfl (lv_at hl 3 rfl) ?_
  refine lv_iconst (v := 1) hx hb eL_503 (by decide) ?_
  refine lv_iadd hx hb eL_504 ?_
  refine va_sld hx hb hX hbl hbA hS (in_k 1 (by omega) hi hL (by decide +kernel)) eL_505 ?_
  refine W.eq (g2 := F0 m 506 ls ((([.int (xs (nI i + 1).toNatClampNeg)] : List Value).map (mm_tv aC)).reverse ++ .ref (aC 0) :: [])) rfl ?_
  refine lw_call (T := TC) okC inC (xm := 47) (mx := mdX4_add) (as := [.int (xs (nI i + 1).toNatClampNeg)]) (rest := []) (d := 60) (ci := 4) rfl (hsp.1 I L hok hch) hx hb hml hown hts hK hNC (mm_mem [381, 382, 383, 56] rfl) (by decide +kernel) rfl rfl rfl hPC hDC hS hA rfl (by omega) (Nat.le_of_ble_eq_true rfl) eL_506 hl.1 hcN hsN (fun I' L' ri rl H1 locs1 hq hPC hDC hS hk => ?_)
  have hPR := lw_keep (s1 := shC) (s2 := shR) (fun i j h1 h2 => hap i j h1 h2) hPR hk
  refine W.eq (g2 := F0 m 509 ls [.int ri]) rfl ?_
  refine lv_aload_n hx hb eL_509 rfl (lv_at hl 2 rfl) ?_
  refine lv_aload_n hx hb eL_510 rfl (lv_at hl 0 rfl) ?_
  refine lv_iload_n hx hb eL_511 rfl (lv_at hl 3 rfl) ?_
  refine lv_iconst (v := 1) hx hb eL_512 (by decide) ?_
  refine lv_iadd hx hb eL_513 ?_
  refine va_sld hx hb hX hbl hbA hS (in_k 1 (by omega) hi hL (by decide +kernel)) eL_514 ?_
  refine W.eq (g2 := F0 m 515 ls ((([.int (xs (nI i + 1).toNatClampNeg)] : List Value).map (mm_tv aR)).reverse ++ .ref (aR 0) :: [.int ri])) rfl ?_
  refine lw_call (T := TR) okR inR (xm := 24) (mx := mdX5_add) (as := [.int (xs (nI i + 1).toNatClampNeg)]) (rest := [.int ri]) (d := 60) (ci := 5) rfl (hsp.2.1 J M (hv ▸ hok)) hx hb hml hown hts hK hNR (mm_mem [774, 775, 776, 61] rfl) (by decide +kernel) rfl rfl rfl hPR hDR hS hA rfl (by omega) (Nat.le_of_ble_eq_true rfl) eL_515 hl.1 hcN hsN (fun J' M' r2 rl2 H2 locs2 hq2 hPR hDR hS hk => ?_)
  have hPC := lw_keep (s1 := shR) (s2 := shC) (fun i j h1 h2 => (hap j i h2 h1).symm) hPC hk
  refine W.eq (g2 := F0 m 518 ls [.int r2, .int ri]) rfl ?_
  rw [← hv] at hq2
  have e1 := hq.1.trans hq2.symm
  have e2 : vC I' = vR J' := congrArg Prod.fst e1
  have e3 : ri = r2 := congrArg Prod.snd e1
  refine lv_icmp_eq (tgt := 697) hx hb eL_518 (by decide) (fun _ => ?_) (fun c9 => absurd e3 c9)
  exact kk I' L' J' M' _ _ ⟨hPC, hPR, hDC, hDR, hS⟩ ⟨e2, (by rw [show vC I' = (_ : pv × _).1 from congrArg Prod.fst hq.1]; exact hsp.2.2 _ hok), hq.2⟩
set_option maxHeartbeats 4000000 in
set_option maxRecDepth 100000 in
theorem lw_c12 {qq : pv → pv × Int32} (X : LX p s m meth c b Ln xs D cI cJ aC aR) (hi : i + 5 ≤ Ln) (hcN : cN ≤ 600000) (hsN : sN ≤ 7302250) (hl : lv_has ls 4 [(0, .ref b), (1, .ref (aC 0)), (2, .ref (aR 0)), (3, .int (nI i))]) (hsp : SPi Cch 48 25 [.int (xs (nI i + 1).toNatClampNeg)] qq) (hW : LWd D cI cJ aC aR s I L J M H locs) (hG : LG Cch I L J) (kk : ∀ I' L' J' M' H1 locs1, LWd D cI cJ aC aR s I' L' J' M' H1 locs1 → LG Cch I' L' J' → W p l e room_1 s m #[Value.ref b] below meth c H1 locs1 cN sN Z (F0 m 697 ls [])) : W p l e room_1 s m #[Value.ref b] below meth c H locs cN sN Z (F0 m 523 ls []) := by
  obtain ⟨⟨hx, hb, hr, hml, hown, hts, hX, hbl, hlocks, hgv⟩, hL, hK, hNC, hNR, hap⟩ := X
  obtain ⟨hPC, hPR, hDC, hDR, hS⟩ := hW
  obtain ⟨hv, hok, hch⟩ := hG
  have hA : ∀ q : Nat, s.heap.size ≤ q → (fun q : Nat => s.heap.size ≤ q) q := fun _ h => h
  have hbA : ¬ (fun q : Nat => s.heap.size ≤ q) b := Nat.not_le.mpr hbl
  refine lv_aload_n hx hb eL_523 rfl (lv_at hl 1 rfl) ?_
  refine lv_aload_n hx hb eL_524 rfl (lv_at hl 0 rfl) ?_
  refine lv_iload_n hx hb eL_525 rfl (lv_at hl 3 rfl) ?_
  refine lv_iconst (v := 1) hx hb eL_526 (by decide) ?_
  refine lv_iadd hx hb eL_527 ?_
  refine va_sld hx hb hX hbl hbA hS (in_k 1 (by omega) hi hL (by decide +kernel)) eL_528 ?_
  refine W.eq (g2 := F0 m 529 ls ((([.int (xs (nI i + 1).toNatClampNeg)] : List Value).map (mm_tv aC)).reverse ++ .ref (aC 0) :: [])) rfl ?_
  refine lw_call (T := TC) okC inC (xm := 48) (mx := mdX4_cut) (as := [.int (xs (nI i + 1).toNatClampNeg)]) (rest := []) (d := 60) (ci := 4) rfl (hsp.1 I L hok hch) hx hb hml hown hts hK hNC (mm_mem [385, 386, 387, 56] rfl) (by decide +kernel) rfl rfl rfl hPC hDC hS hA rfl (by omega) (Nat.le_of_ble_eq_true rfl) eL_529 hl.1 hcN hsN (fun I' L' ri rl H1 locs1 hq hPC hDC hS hk => ?_)
  have hPR := lw_keep (s1 := shC) (s2 := shR) (fun i j h1 h2 => hap i j h1 h2) hPR hk
  refine W.eq (g2 := F0 m 532 ls [.int ri]) rfl ?_
  refine lv_aload_n hx hb eL_532 rfl (lv_at hl 2 rfl) ?_
  refine lv_aload_n hx hb eL_533 rfl (lv_at hl 0 rfl) ?_
  refine lv_iload_n hx hb eL_534 rfl (lv_at hl 3 rfl) ?_
  refine lv_iconst (v := 1) hx hb eL_535 (by decide) ?_
  refine lv_iadd hx hb eL_536 ?_
  refine va_sld hx hb hX hbl hbA hS (in_k 1 (by omega) hi hL (by decide +kernel)) eL_537 ?_
  refine W.eq (g2 := F0 m 538 ls ((([.int (xs (nI i + 1).toNatClampNeg)] : List Value).map (mm_tv aR)).reverse ++ .ref (aR 0) :: [.int ri])) rfl ?_
  refine lw_call (T := TR) okR inR (xm := 25) (mx := mdX5_cut) (as := [.int (xs (nI i + 1).toNatClampNeg)]) (rest := [.int ri]) (d := 60) (ci := 5) rfl (hsp.2.1 J M (hv ▸ hok)) hx hb hml hown hts hK hNR (mm_mem [778, 779, 780, 61] rfl) (by decide +kernel) rfl rfl rfl hPR hDR hS hA rfl (by omega) (Nat.le_of_ble_eq_true rfl) eL_538 hl.1 hcN hsN (fun J' M' r2 rl2 H2 locs2 hq2 hPR hDR hS hk => ?_)
  have hPC := lw_keep (s1 := shR) (s2 := shC) (fun i j h1 h2 => (hap j i h2 h1).symm) hPC hk
  refine W.eq (g2 := F0 m 541 ls [.int r2, .int ri]) rfl ?_
  rw [← hv] at hq2
  have e1 := hq.1.trans hq2.symm
  have e2 : vC I' = vR J' := congrArg Prod.fst e1
  have e3 : ri = r2 := congrArg Prod.snd e1
  refine lv_icmp_eq (tgt := 697) hx hb eL_541 (by decide) (fun _ => ?_) (fun c9 => absurd e3 c9)
  exact kk I' L' J' M' _ _ ⟨hPC, hPR, hDC, hDR, hS⟩ ⟨e2, (by rw [show vC I' = (_ : pv × _).1 from congrArg Prod.fst hq.1]; exact hsp.2.2 _ hok), hq.2⟩
set_option maxHeartbeats 4000000 in
set_option maxRecDepth 100000 in
theorem lw_c13 {qq : pv → pv × Int32} (X : LX p s m meth c b Ln xs D cI cJ aC aR) (hi : i + 5 ≤ Ln) (hcN : cN ≤ 600000) (hsN : sN ≤ 7302250) (hl : lv_has ls 4 [(0, .ref b), (1, .ref (aC 0)), (2, .ref (aR 0)), (3, .int (nI i))]) (hsp : SPi Cch 49 35 [.int (xs (nI i + 1).toNatClampNeg)] qq) (hW : LWd D cI cJ aC aR s I L J M H locs) (hG : LG Cch I L J) (kk : ∀ I' L' J' M' H1 locs1, LWd D cI cJ aC aR s I' L' J' M' H1 locs1 → LG Cch I' L' J' → W p l e room_1 s m #[Value.ref b] below meth c H1 locs1 cN sN Z (F0 m 697 ls [])) : W p l e room_1 s m #[Value.ref b] below meth c H locs cN sN Z (F0 m 546 ls []) := by
  obtain ⟨⟨hx, hb, hr, hml, hown, hts, hX, hbl, hlocks, hgv⟩, hL, hK, hNC, hNR, hap⟩ := X
  obtain ⟨hPC, hPR, hDC, hDR, hS⟩ := hW
  obtain ⟨hv, hok, hch⟩ := hG
  have hA : ∀ q : Nat, s.heap.size ≤ q → (fun q : Nat => s.heap.size ≤ q) q := fun _ h => h
  have hbA : ¬ (fun q : Nat => s.heap.size ≤ q) b := Nat.not_le.mpr hbl
  refine lv_aload_n hx hb eL_546 rfl (lv_at hl 1 rfl) ?_
  refine lv_aload_n hx hb eL_547 rfl (lv_at hl 0 rfl) ?_
  refine lv_iload_n hx hb eL_548 rfl (lv_at hl 3 rfl) ?_
  refine lv_iconst (v := 1) hx hb eL_549 (by decide) ?_
  refine lv_iadd hx hb eL_550 ?_
  refine va_sld hx hb hX hbl hbA hS (in_k 1 (by omega) hi hL (by decide +kernel)) eL_551 ?_
  refine W.eq (g2 := F0 m 552 ls ((([.int (xs (nI i + 1).toNatClampNeg)] : List Value).map (mm_tv aC)).reverse ++ .ref (aC 0) :: [])) rfl ?_
  refine lw_call (T := TC) okC inC (xm := 49) (mx := mdX4_judge) (as := [.int (xs (nI i + 1).toNatClampNeg)]) (rest := []) (d := 60) (ci := 4) rfl (hsp.1 I L hok hch) hx hb hml hown hts hK hNC (mm_mem [389, 390, 391, 56] rfl) (by decide +kernel) rfl rfl rfl hPC hDC hS hA rfl (by omega) (Nat.le_of_ble_eq_true rfl) eL_552 hl.1 hcN hsN (fun I' L' ri rl H1 locs1 hq hPC hDC hS hk => ?_)
  have hPR := lw_keep (s1 := shC) (s2 := shR) (fun i j h1 h2 => hap i j h1 h2) hPR hk
  refine W.eq (g2 := F0 m 555 ls [.int ri]) rfl ?_
  refine lv_aload_n hx hb eL_555 rfl (lv_at hl 2 rfl) ?_
  refine lv_aload_n hx hb eL_556 rfl (lv_at hl 0 rfl) ?_
  refine lv_iload_n hx hb eL_557 rfl (lv_at hl 3 rfl) ?_
  refine lv_iconst (v := 1) hx hb eL_558 (by decide) ?_
  refine lv_iadd hx hb eL_559 ?_
  refine va_sld hx hb hX hbl hbA hS (in_k 1 (by omega) hi hL (by decide +kernel)) eL_560 ?_
  refine W.eq (g2 := F0 m 561 ls ((([.int (xs (nI i + 1).toNatClampNeg)] : List Value).map (mm_tv aR)).reverse ++ .ref (aR 0) :: [.int ri])) rfl ?_
  refine lw_call (T := TR) okR inR (xm := 35) (mx := mdX5_judge) (as := [.int (xs (nI i + 1).toNatClampNeg)]) (rest := [.int ri]) (d := 60) (ci := 5) rfl (hsp.2.1 J M (hv ▸ hok)) hx hb hml hown hts hK hNR (mm_mem [782, 783, 784, 61] rfl) (by decide +kernel) rfl rfl rfl hPR hDR hS hA rfl (by omega) (Nat.le_of_ble_eq_true rfl) eL_561 hl.1 hcN hsN (fun J' M' r2 rl2 H2 locs2 hq2 hPR hDR hS hk => ?_)
  have hPC := lw_keep (s1 := shR) (s2 := shC) (fun i j h1 h2 => (hap j i h2 h1).symm) hPC hk
  refine W.eq (g2 := F0 m 564 ls [.int r2, .int ri]) rfl ?_
  rw [← hv] at hq2
  have e1 := hq.1.trans hq2.symm
  have e2 : vC I' = vR J' := congrArg Prod.fst e1
  have e3 : ri = r2 := congrArg Prod.snd e1
  refine lv_icmp_eq (tgt := 697) hx hb eL_564 (by decide) (fun _ => ?_) (fun c9 => absurd e3 c9)
  exact kk I' L' J' M' _ _ ⟨hPC, hPR, hDC, hDR, hS⟩ ⟨e2, (by rw [show vC I' = (_ : pv × _).1 from congrArg Prod.fst hq.1]; exact hsp.2.2 _ hok), hq.2⟩
set_option maxHeartbeats 4000000 in
set_option maxRecDepth 100000 in
theorem lw_c14 {qq : pv → pv × Int32} (X : LX p s m meth c b Ln xs D cI cJ aC aR) (hi : i + 5 ≤ Ln) (hcN : cN ≤ 600000) (hsN : sN ≤ 7302250) (hl : lv_has ls 4 [(0, .ref b), (1, .ref (aC 0)), (2, .ref (aR 0)), (3, .int (nI i))]) (hsp : SPi Cch 50 37 [] qq) (hW : LWd D cI cJ aC aR s I L J M H locs) (hG : LG Cch I L J) (kk : ∀ I' L' J' M' H1 locs1, LWd D cI cJ aC aR s I' L' J' M' H1 locs1 → LG Cch I' L' J' → W p l e room_1 s m #[Value.ref b] below meth c H1 locs1 cN sN Z (F0 m 697 ls [])) : W p l e room_1 s m #[Value.ref b] below meth c H locs cN sN Z (F0 m 569 ls []) := by
  obtain ⟨⟨hx, hb, hr, hml, hown, hts, hX, hbl, hlocks, hgv⟩, hL, hK, hNC, hNR, hap⟩ := X
  obtain ⟨hPC, hPR, hDC, hDR, hS⟩ := hW
  obtain ⟨hv, hok, hch⟩ := hG
  have hA : ∀ q : Nat, s.heap.size ≤ q → (fun q : Nat => s.heap.size ≤ q) q := fun _ h => h
  have hbA : ¬ (fun q : Nat => s.heap.size ≤ q) b := Nat.not_le.mpr hbl
  refine lv_aload_n hx hb eL_569 rfl (lv_at hl 1 rfl) ?_
  refine W.eq (g2 := F0 m 570 ls ((([] : List Value).map (mm_tv aC)).reverse ++ .ref (aC 0) :: [])) rfl ?_
  refine lw_call (T := TC) okC inC (xm := 50) (mx := mdX4_jumps) (as := []) (rest := []) (d := 60) (ci := 4) rfl (hsp.1 I L hok hch) hx hb hml hown hts hK hNC (mm_mem [445, 446, 447, 56] rfl) (by decide +kernel) rfl rfl rfl hPC hDC hS hA rfl (by omega) (Nat.le_of_ble_eq_true rfl) eL_570 hl.1 hcN hsN (fun I' L' ri rl H1 locs1 hq hPC hDC hS hk => ?_)
  have hPR := lw_keep (s1 := shC) (s2 := shR) (fun i j h1 h2 => hap i j h1 h2) hPR hk
  refine W.eq (g2 := F0 m 573 ls [.int ri]) rfl ?_
  refine lv_aload_n hx hb eL_573 rfl (lv_at hl 2 rfl) ?_
  refine W.eq (g2 := F0 m 574 ls ((([] : List Value).map (mm_tv aR)).reverse ++ .ref (aR 0) :: [.int ri])) rfl ?_
  refine lw_call (T := TR) okR inR (xm := 37) (mx := mdX5_jumps) (as := []) (rest := [.int ri]) (d := 60) (ci := 5) rfl (hsp.2.1 J M (hv ▸ hok)) hx hb hml hown hts hK hNR (mm_mem [822, 823, 824, 61] rfl) (by decide +kernel) rfl rfl rfl hPR hDR hS hA rfl (by omega) (Nat.le_of_ble_eq_true rfl) eL_574 hl.1 hcN hsN (fun J' M' r2 rl2 H2 locs2 hq2 hPR hDR hS hk => ?_)
  have hPC := lw_keep (s1 := shR) (s2 := shC) (fun i j h1 h2 => (hap j i h2 h1).symm) hPC hk
  refine W.eq (g2 := F0 m 577 ls [.int r2, .int ri]) rfl ?_
  rw [← hv] at hq2
  have e1 := hq.1.trans hq2.symm
  have e2 : vC I' = vR J' := congrArg Prod.fst e1
  have e3 : ri = r2 := congrArg Prod.snd e1
  refine lv_icmp_eq (tgt := 697) hx hb eL_577 (by decide) (fun _ => ?_) (fun c9 => absurd e3 c9)
  exact kk I' L' J' M' _ _ ⟨hPC, hPR, hDC, hDR, hS⟩ ⟨e2, (by rw [show vC I' = (_ : pv × _).1 from congrArg Prod.fst hq.1]; exact hsp.2.2 _ hok), hq.2⟩
set_option maxHeartbeats 4000000 in
set_option maxRecDepth 100000 in
theorem lw_c15 {qq : pv → pv × Int32} (X : LX p s m meth c b Ln xs D cI cJ aC aR) (hi : i + 5 ≤ Ln) (hcN : cN ≤ 600000) (hsN : sN ≤ 7302250) (hl : lv_has ls 4 [(0, .ref b), (1, .ref (aC 0)), (2, .ref (aR 0)), (3, .int (nI i))]) (hsp : SPi Cch 51 38 [.int (xs (nI i + 1).toNatClampNeg), .int (xs (nI i + 2).toNatClampNeg)] qq) (hW : LWd D cI cJ aC aR s I L J M H locs) (hG : LG Cch I L J) (kk : ∀ I' L' J' M' H1 locs1, LWd D cI cJ aC aR s I' L' J' M' H1 locs1 → LG Cch I' L' J' → W p l e room_1 s m #[Value.ref b] below meth c H1 locs1 cN sN Z (F0 m 697 ls [])) : W p l e room_1 s m #[Value.ref b] below meth c H locs cN sN Z (F0 m 582 ls []) := by
  obtain ⟨⟨hx, hb, hr, hml, hown, hts, hX, hbl, hlocks, hgv⟩, hL, hK, hNC, hNR, hap⟩ := X
  obtain ⟨hPC, hPR, hDC, hDR, hS⟩ := hW
  obtain ⟨hv, hok, hch⟩ := hG
  have hA : ∀ q : Nat, s.heap.size ≤ q → (fun q : Nat => s.heap.size ≤ q) q := fun _ h => h
  have hbA : ¬ (fun q : Nat => s.heap.size ≤ q) b := Nat.not_le.mpr hbl
  refine lv_aload_n hx hb eL_582 rfl (lv_at hl 1 rfl) ?_
  refine lv_aload_n hx hb eL_583 rfl (lv_at hl 0 rfl) ?_
  refine lv_iload_n hx hb eL_584 rfl (lv_at hl 3 rfl) ?_
  refine lv_iconst (v := 1) hx hb eL_585 (by decide) ?_
  refine lv_iadd hx hb eL_586 ?_
  refine va_sld hx hb hX hbl hbA hS (in_k 1 (by omega) hi hL (by decide +kernel)) eL_587 ?_
  refine lv_aload_n hx hb eL_588 rfl (lv_at hl 0 rfl) ?_
  refine lv_iload_n hx hb eL_589 rfl (lv_at hl 3 rfl) ?_
  refine lv_iconst (v := 2) hx hb eL_590 (by decide) ?_
  refine lv_iadd hx hb eL_591 ?_
  refine va_sld hx hb hX hbl hbA hS (in_k 2 (by omega) hi hL (by decide +kernel)) eL_592 ?_
  refine W.eq (g2 := F0 m 593 ls ((([.int (xs (nI i + 1).toNatClampNeg), .int (xs (nI i + 2).toNatClampNeg)] : List Value).map (mm_tv aC)).reverse ++ .ref (aC 0) :: [])) rfl ?_
  refine lw_call (T := TC) okC inC (xm := 51) (mx := mdX4_told) (as := [.int (xs (nI i + 1).toNatClampNeg), .int (xs (nI i + 2).toNatClampNeg)]) (rest := []) (d := 60) (ci := 4) rfl (hsp.1 I L hok hch) hx hb hml hown hts hK hNC (mm_mem [452, 453, 454, 56] rfl) (by decide +kernel) rfl rfl rfl hPC hDC hS hA rfl (by omega) (Nat.le_of_ble_eq_true rfl) eL_593 hl.1 hcN hsN (fun I' L' ri rl H1 locs1 hq hPC hDC hS hk => ?_)
  have hPR := lw_keep (s1 := shC) (s2 := shR) (fun i j h1 h2 => hap i j h1 h2) hPR hk
  refine W.eq (g2 := F0 m 596 ls [.int ri]) rfl ?_
  refine lv_aload_n hx hb eL_596 rfl (lv_at hl 2 rfl) ?_
  refine lv_aload_n hx hb eL_597 rfl (lv_at hl 0 rfl) ?_
  refine lv_iload_n hx hb eL_598 rfl (lv_at hl 3 rfl) ?_
  refine lv_iconst (v := 1) hx hb eL_599 (by decide) ?_
  refine lv_iadd hx hb eL_600 ?_
  refine va_sld hx hb hX hbl hbA hS (in_k 1 (by omega) hi hL (by decide +kernel)) eL_601 ?_
  refine lv_aload_n hx hb eL_602 rfl (lv_at hl 0 rfl) ?_
  refine lv_iload_n hx hb eL_603 rfl (lv_at hl 3 rfl) ?_
  refine lv_iconst (v := 2) hx hb eL_604 (by decide) ?_
  refine lv_iadd hx hb eL_605 ?_
  refine va_sld hx hb hX hbl hbA hS (in_k 2 (by omega) hi hL (by decide +kernel)) eL_606 ?_
  refine W.eq (g2 := F0 m 607 ls ((([.int (xs (nI i + 1).toNatClampNeg), .int (xs (nI i + 2).toNatClampNeg)] : List Value).map (mm_tv aR)).reverse ++ .ref (aR 0) :: [.int ri])) rfl ?_
  refine lw_call (T := TR) okR inR (xm := 38) (mx := mdX5_told) (as := [.int (xs (nI i + 1).toNatClampNeg), .int (xs (nI i + 2).toNatClampNeg)]) (rest := [.int ri]) (d := 60) (ci := 5) rfl (hsp.2.1 J M (hv ▸ hok)) hx hb hml hown hts hK hNR (mm_mem [829, 830, 831, 61] rfl) (by decide +kernel) rfl rfl rfl hPR hDR hS hA rfl (by omega) (Nat.le_of_ble_eq_true rfl) eL_607 hl.1 hcN hsN (fun J' M' r2 rl2 H2 locs2 hq2 hPR hDR hS hk => ?_)
  have hPC := lw_keep (s1 := shR) (s2 := shC) (fun i j h1 h2 => (hap j i h2 h1).symm) hPC hk
  refine W.eq (g2 := F0 m 610 ls [.int r2, .int ri]) rfl ?_
  rw [← hv] at hq2
  have e1 := hq.1.trans hq2.symm
  have e2 : vC I' = vR J' := congrArg Prod.fst e1
  have e3 : ri = r2 := congrArg Prod.snd e1
  refine lv_icmp_eq (tgt := 697) hx hb eL_610 (by decide) (fun _ => ?_) (fun c9 => absurd e3 c9)
  exact kk I' L' J' M' _ _ ⟨hPC, hPR, hDC, hDR, hS⟩ ⟨e2, (by rw [show vC I' = (_ : pv × _).1 from congrArg Prod.fst hq.1]; exact hsp.2.2 _ hok), hq.2⟩
set_option maxHeartbeats 4000000 in
set_option maxRecDepth 100000 in
theorem lw_c16 {qq : pv → pv × Int32} (X : LX p s m meth c b Ln xs D cI cJ aC aR) (hi : i + 5 ≤ Ln) (hcN : cN ≤ 600000) (hsN : sN ≤ 7302250) (hl : lv_has ls 4 [(0, .ref b), (1, .ref (aC 0)), (2, .ref (aR 0)), (3, .int (nI i))]) (hsp : SPi Cch 52 43 [.int (xs (nI i + 1).toNatClampNeg)] qq) (hW : LWd D cI cJ aC aR s I L J M H locs) (hG : LG Cch I L J) (kk : ∀ I' L' J' M' H1 locs1, LWd D cI cJ aC aR s I' L' J' M' H1 locs1 → LG Cch I' L' J' → W p l e room_1 s m #[Value.ref b] below meth c H1 locs1 cN sN Z (F0 m 697 ls [])) : W p l e room_1 s m #[Value.ref b] below meth c H locs cN sN Z (F0 m 615 ls []) := by
  obtain ⟨⟨hx, hb, hr, hml, hown, hts, hX, hbl, hlocks, hgv⟩, hL, hK, hNC, hNR, hap⟩ := X
  obtain ⟨hPC, hPR, hDC, hDR, hS⟩ := hW
  obtain ⟨hv, hok, hch⟩ := hG
  have hA : ∀ q : Nat, s.heap.size ≤ q → (fun q : Nat => s.heap.size ≤ q) q := fun _ h => h
  have hbA : ¬ (fun q : Nat => s.heap.size ≤ q) b := Nat.not_le.mpr hbl
  refine lv_aload_n hx hb eL_615 rfl (lv_at hl 1 rfl) ?_
  refine lv_aload_n hx hb eL_616 rfl (lv_at hl 0 rfl) ?_
  refine lv_iload_n hx hb eL_617 rfl (lv_at hl 3 rfl) ?_
  refine lv_iconst (v := 1) hx hb eL_618 (by decide) ?_
  refine lv_iadd hx hb eL_619 ?_
  refine va_sld hx hb hX hbl hbA hS (in_k 1 (by omega) hi hL (by decide +kernel)) eL_620 ?_
  refine W.eq (g2 := F0 m 621 ls ((([.int (xs (nI i + 1).toNatClampNeg)] : List Value).map (mm_tv aC)).reverse ++ .ref (aC 0) :: [])) rfl ?_
  refine lw_call (T := TC) okC inC (xm := 52) (mx := mdX4_order) (as := [.int (xs (nI i + 1).toNatClampNeg)]) (rest := []) (d := 60) (ci := 4) rfl (hsp.1 I L hok hch) hx hb hml hown hts hK hNC (mm_mem [457, 458, 459, 56] rfl) (by decide +kernel) rfl rfl rfl hPC hDC hS hA rfl (by omega) (Nat.le_of_ble_eq_true rfl) eL_621 hl.1 hcN hsN (fun I' L' ri rl H1 locs1 hq hPC hDC hS hk => ?_)
  have hPR := lw_keep (s1 := shC) (s2 := shR) (fun i j h1 h2 => hap i j h1 h2) hPR hk
  refine W.eq (g2 := F0 m 624 ls [.int ri]) rfl ?_
  refine lv_aload_n hx hb eL_624 rfl (lv_at hl 2 rfl) ?_
  refine lv_aload_n hx hb eL_625 rfl (lv_at hl 0 rfl) ?_
  refine lv_iload_n hx hb eL_626 rfl (lv_at hl 3 rfl) ?_
  refine lv_iconst (v := 1) hx hb eL_627 (by decide) ?_
  refine lv_iadd hx hb eL_628 ?_
  refine va_sld hx hb hX hbl hbA hS (in_k 1 (by omega) hi hL (by decide +kernel)) eL_629 ?_
  refine W.eq (g2 := F0 m 630 ls ((([.int (xs (nI i + 1).toNatClampNeg)] : List Value).map (mm_tv aR)).reverse ++ .ref (aR 0) :: [.int ri])) rfl ?_
  refine lw_call (T := TR) okR inR (xm := 43) (mx := mdX5_order) (as := [.int (xs (nI i + 1).toNatClampNeg)]) (rest := [.int ri]) (d := 60) (ci := 5) rfl (hsp.2.1 J M (hv ▸ hok)) hx hb hml hown hts hK hNR (mm_mem [833, 834, 835, 61] rfl) (by decide +kernel) rfl rfl rfl hPR hDR hS hA rfl (by omega) (Nat.le_of_ble_eq_true rfl) eL_630 hl.1 hcN hsN (fun J' M' r2 rl2 H2 locs2 hq2 hPR hDR hS hk => ?_)
  have hPC := lw_keep (s1 := shR) (s2 := shC) (fun i j h1 h2 => (hap j i h2 h1).symm) hPC hk
  refine W.eq (g2 := F0 m 633 ls [.int r2, .int ri]) rfl ?_
  rw [← hv] at hq2
  have e1 := hq.1.trans hq2.symm
  have e2 : vC I' = vR J' := congrArg Prod.fst e1
  have e3 : ri = r2 := congrArg Prod.snd e1
  refine lv_icmp_eq (tgt := 697) hx hb eL_633 (by decide) (fun _ => ?_) (fun c9 => absurd e3 c9)
  exact kk I' L' J' M' _ _ ⟨hPC, hPR, hDC, hDR, hS⟩ ⟨e2, (by rw [show vC I' = (_ : pv × _).1 from congrArg Prod.fst hq.1]; exact hsp.2.2 _ hok), hq.2⟩
set_option maxHeartbeats 4000000 in
set_option maxRecDepth 100000 in
theorem lw_c17 {qq : pv → pv × Int32} (X : LX p s m meth c b Ln xs D cI cJ aC aR) (hi : i + 5 ≤ Ln) (hcN : cN ≤ 600000) (hsN : sN ≤ 7302250) (hl : lv_has ls 4 [(0, .ref b), (1, .ref (aC 0)), (2, .ref (aR 0)), (3, .int (nI i))]) (hsp : SPi Cch 53 51 [.int (xs (nI i + 1).toNatClampNeg)] qq) (hW : LWd D cI cJ aC aR s I L J M H locs) (hG : LG Cch I L J) (kk : ∀ I' L' J' M' H1 locs1, LWd D cI cJ aC aR s I' L' J' M' H1 locs1 → LG Cch I' L' J' → W p l e room_1 s m #[Value.ref b] below meth c H1 locs1 cN sN Z (F0 m 697 ls [])) : W p l e room_1 s m #[Value.ref b] below meth c H locs cN sN Z (F0 m 638 ls []) := by
  obtain ⟨⟨hx, hb, hr, hml, hown, hts, hX, hbl, hlocks, hgv⟩, hL, hK, hNC, hNR, hap⟩ := X
  obtain ⟨hPC, hPR, hDC, hDR, hS⟩ := hW
  obtain ⟨hv, hok, hch⟩ := hG
  have hA : ∀ q : Nat, s.heap.size ≤ q → (fun q : Nat => s.heap.size ≤ q) q := fun _ h => h
  have hbA : ¬ (fun q : Nat => s.heap.size ≤ q) b := Nat.not_le.mpr hbl
  refine lv_aload_n hx hb eL_638 rfl (lv_at hl 1 rfl) ?_
  refine lv_aload_n hx hb eL_639 rfl (lv_at hl 0 rfl) ?_
  refine lv_iload_n hx hb eL_640 rfl (lv_at hl 3 rfl) ?_
  refine lv_iconst (v := 1) hx hb eL_641 (by decide) ?_
  refine lv_iadd hx hb eL_642 ?_
  refine va_sld hx hb hX hbl hbA hS (in_k 1 (by omega) hi hL (by decide +kernel)) eL_643 ?_
  refine W.eq (g2 := F0 m 644 ls ((([.int (xs (nI i + 1).toNatClampNeg)] : List Value).map (mm_tv aC)).reverse ++ .ref (aC 0) :: [])) rfl ?_
  refine lw_call (T := TC) okC inC (xm := 53) (mx := mdX4_framed) (as := [.int (xs (nI i + 1).toNatClampNeg)]) (rest := []) (d := 60) (ci := 4) rfl (hsp.1 I L hok hch) hx hb hml hown hts hK hNC (mm_mem [497, 498, 499, 56] rfl) (by decide +kernel) rfl rfl rfl hPC hDC hS hA rfl (by omega) (Nat.le_of_ble_eq_true rfl) eL_644 hl.1 hcN hsN (fun I' L' ri rl H1 locs1 hq hPC hDC hS hk => ?_)
  have hPR := lw_keep (s1 := shC) (s2 := shR) (fun i j h1 h2 => hap i j h1 h2) hPR hk
  refine W.eq (g2 := F0 m 647 ls [.int ri]) rfl ?_
  refine lv_aload_n hx hb eL_647 rfl (lv_at hl 2 rfl) ?_
  refine lv_aload_n hx hb eL_648 rfl (lv_at hl 0 rfl) ?_
  refine lv_iload_n hx hb eL_649 rfl (lv_at hl 3 rfl) ?_
  refine lv_iconst (v := 1) hx hb eL_650 (by decide) ?_
  refine lv_iadd hx hb eL_651 ?_
  refine va_sld hx hb hX hbl hbA hS (in_k 1 (by omega) hi hL (by decide +kernel)) eL_652 ?_
  refine W.eq (g2 := F0 m 653 ls ((([.int (xs (nI i + 1).toNatClampNeg)] : List Value).map (mm_tv aR)).reverse ++ .ref (aR 0) :: [.int ri])) rfl ?_
  refine lw_call (T := TR) okR inR (xm := 51) (mx := mdX5_framed) (as := [.int (xs (nI i + 1).toNatClampNeg)]) (rest := [.int ri]) (d := 60) (ci := 5) rfl (hsp.2.1 J M (hv ▸ hok)) hx hb hml hown hts hK hNR (mm_mem [854, 855, 856, 61] rfl) (by decide +kernel) rfl rfl rfl hPR hDR hS hA rfl (by omega) (Nat.le_of_ble_eq_true rfl) eL_653 hl.1 hcN hsN (fun J' M' r2 rl2 H2 locs2 hq2 hPR hDR hS hk => ?_)
  have hPC := lw_keep (s1 := shR) (s2 := shC) (fun i j h1 h2 => (hap j i h2 h1).symm) hPC hk
  refine W.eq (g2 := F0 m 656 ls [.int r2, .int ri]) rfl ?_
  rw [← hv] at hq2
  have e1 := hq.1.trans hq2.symm
  have e2 : vC I' = vR J' := congrArg Prod.fst e1
  have e3 : ri = r2 := congrArg Prod.snd e1
  refine lv_icmp_eq (tgt := 697) hx hb eL_656 (by decide) (fun _ => ?_) (fun c9 => absurd e3 c9)
  exact kk I' L' J' M' _ _ ⟨hPC, hPR, hDC, hDR, hS⟩ ⟨e2, (by rw [show vC I' = (_ : pv × _).1 from congrArg Prod.fst hq.1]; exact hsp.2.2 _ hok), hq.2⟩
set_option maxHeartbeats 4000000 in
set_option maxRecDepth 100000 in
theorem lw_c18 {qq : pv → pv × Int32} (X : LX p s m meth c b Ln xs D cI cJ aC aR) (hi : i + 5 ≤ Ln) (hcN : cN ≤ 600000) (hsN : sN ≤ 7302250) (hl : lv_has ls 4 [(0, .ref b), (1, .ref (aC 0)), (2, .ref (aR 0)), (3, .int (nI i))]) (hsp : SPi Cch 54 53 [] qq) (hW : LWd D cI cJ aC aR s I L J M H locs) (hG : LG Cch I L J) (kk : ∀ I' L' J' M' H1 locs1, LWd D cI cJ aC aR s I' L' J' M' H1 locs1 → LG Cch I' L' J' → W p l e room_1 s m #[Value.ref b] below meth c H1 locs1 cN sN Z (F0 m 697 ls [])) : W p l e room_1 s m #[Value.ref b] below meth c H locs cN sN Z (F0 m 661 ls []) := by
  obtain ⟨⟨hx, hb, hr, hml, hown, hts, hX, hbl, hlocks, hgv⟩, hL, hK, hNC, hNR, hap⟩ := X
  obtain ⟨hPC, hPR, hDC, hDR, hS⟩ := hW
  obtain ⟨hv, hok, hch⟩ := hG
  have hA : ∀ q : Nat, s.heap.size ≤ q → (fun q : Nat => s.heap.size ≤ q) q := fun _ h => h
  have hbA : ¬ (fun q : Nat => s.heap.size ≤ q) b := Nat.not_le.mpr hbl
  refine lv_aload_n hx hb eL_661 rfl (lv_at hl 1 rfl) ?_
  refine W.eq (g2 := F0 m 662 ls ((([] : List Value).map (mm_tv aC)).reverse ++ .ref (aC 0) :: [])) rfl ?_
  refine lw_call (T := TC) okC inC (xm := 54) (mx := mdX4_untangled) (as := []) (rest := []) (d := 60) (ci := 4) rfl (hsp.1 I L hok hch) hx hb hml hown hts hK hNC (mm_mem [544, 545, 546, 56] rfl) (by decide +kernel) rfl rfl rfl hPC hDC hS hA rfl (by omega) (Nat.le_of_ble_eq_true rfl) eL_662 hl.1 hcN hsN (fun I' L' ri rl H1 locs1 hq hPC hDC hS hk => ?_)
  have hPR := lw_keep (s1 := shC) (s2 := shR) (fun i j h1 h2 => hap i j h1 h2) hPR hk
  refine W.eq (g2 := F0 m 665 ls [.int ri]) rfl ?_
  refine lv_aload_n hx hb eL_665 rfl (lv_at hl 2 rfl) ?_
  refine W.eq (g2 := F0 m 666 ls ((([] : List Value).map (mm_tv aR)).reverse ++ .ref (aR 0) :: [.int ri])) rfl ?_
  refine lw_call (T := TR) okR inR (xm := 53) (mx := mdX5_untangled) (as := []) (rest := [.int ri]) (d := 60) (ci := 5) rfl (hsp.2.1 J M (hv ▸ hok)) hx hb hml hown hts hK hNR (mm_mem [886, 887, 888, 61] rfl) (by decide +kernel) rfl rfl rfl hPR hDR hS hA rfl (by omega) (Nat.le_of_ble_eq_true rfl) eL_666 hl.1 hcN hsN (fun J' M' r2 rl2 H2 locs2 hq2 hPR hDR hS hk => ?_)
  have hPC := lw_keep (s1 := shR) (s2 := shC) (fun i j h1 h2 => (hap j i h2 h1).symm) hPC hk
  refine W.eq (g2 := F0 m 669 ls [.int r2, .int ri]) rfl ?_
  rw [← hv] at hq2
  have e1 := hq.1.trans hq2.symm
  have e2 : vC I' = vR J' := congrArg Prod.fst e1
  have e3 : ri = r2 := congrArg Prod.snd e1
  refine lv_icmp_eq (tgt := 697) hx hb eL_669 (by decide) (fun _ => ?_) (fun c9 => absurd e3 c9)
  exact kk I' L' J' M' _ _ ⟨hPC, hPR, hDC, hDR, hS⟩ ⟨e2, (by rw [show vC I' = (_ : pv × _).1 from congrArg Prod.fst hq.1]; exact hsp.2.2 _ hok), hq.2⟩
set_option maxHeartbeats 4000000 in
set_option maxRecDepth 100000 in
theorem lw_c19 {qq : pv → pv × Int32} (X : LX p s m meth c b Ln xs D cI cJ aC aR) (hi : i + 5 ≤ Ln) (hcN : cN ≤ 600000) (hsN : sN ≤ 7302250) (hl : lv_has ls 4 [(0, .ref b), (1, .ref (aC 0)), (2, .ref (aR 0)), (3, .int (nI i))]) (hsp : SPi Cch 55 55 [.int (xs (nI i + 1).toNatClampNeg)] qq) (hW : LWd D cI cJ aC aR s I L J M H locs) (hG : LG Cch I L J) (kk : ∀ I' L' J' M' H1 locs1, LWd D cI cJ aC aR s I' L' J' M' H1 locs1 → LG Cch I' L' J' → W p l e room_1 s m #[Value.ref b] below meth c H1 locs1 cN sN Z (F0 m 697 ls [])) : W p l e room_1 s m #[Value.ref b] below meth c H locs cN sN Z (F0 m 674 ls []) := by
  obtain ⟨⟨hx, hb, hr, hml, hown, hts, hX, hbl, hlocks, hgv⟩, hL, hK, hNC, hNR, hap⟩ := X
  obtain ⟨hPC, hPR, hDC, hDR, hS⟩ := hW
  obtain ⟨hv, hok, hch⟩ := hG
  have hA : ∀ q : Nat, s.heap.size ≤ q → (fun q : Nat => s.heap.size ≤ q) q := fun _ h => h
  have hbA : ¬ (fun q : Nat => s.heap.size ≤ q) b := Nat.not_le.mpr hbl
  refine lv_aload_n hx hb eL_674 rfl (lv_at hl 1 rfl) ?_
  refine lv_aload_n hx hb eL_675 rfl (lv_at hl 0 rfl) ?_
  refine lv_iload_n hx hb eL_676 rfl (lv_at hl 3 rfl) ?_
  refine lv_iconst (v := 1) hx hb eL_677 (by decide) ?_
  refine lv_iadd hx hb eL_678 ?_
  refine va_sld hx hb hX hbl hbA hS (in_k 1 (by omega) hi hL (by decide +kernel)) eL_679 ?_
  refine W.eq (g2 := F0 m 680 ls ((([.int (xs (nI i + 1).toNatClampNeg)] : List Value).map (mm_tv aC)).reverse ++ .ref (aC 0) :: [])) rfl ?_
  refine lw_call (T := TC) okC inC (xm := 55) (mx := mdX4_many) (as := [.int (xs (nI i + 1).toNatClampNeg)]) (rest := []) (d := 60) (ci := 4) rfl (hsp.1 I L hok hch) hx hb hml hown hts hK hNC (mm_mem [552, 553, 554, 56] rfl) (by decide +kernel) rfl rfl rfl hPC hDC hS hA rfl (by omega) (Nat.le_of_ble_eq_true rfl) eL_680 hl.1 hcN hsN (fun I' L' ri rl H1 locs1 hq hPC hDC hS hk => ?_)
  have hPR := lw_keep (s1 := shC) (s2 := shR) (fun i j h1 h2 => hap i j h1 h2) hPR hk
  refine W.eq (g2 := F0 m 683 ls [.int ri]) rfl ?_
  refine lv_aload_n hx hb eL_683 rfl (lv_at hl 2 rfl) ?_
  refine lv_aload_n hx hb eL_684 rfl (lv_at hl 0 rfl) ?_
  refine lv_iload_n hx hb eL_685 rfl (lv_at hl 3 rfl) ?_
  refine lv_iconst (v := 1) hx hb eL_686 (by decide) ?_
  refine lv_iadd hx hb eL_687 ?_
  refine va_sld hx hb hX hbl hbA hS (in_k 1 (by omega) hi hL (by decide +kernel)) eL_688 ?_
  refine W.eq (g2 := F0 m 689 ls ((([.int (xs (nI i + 1).toNatClampNeg)] : List Value).map (mm_tv aR)).reverse ++ .ref (aR 0) :: [.int ri])) rfl ?_
  refine lw_call (T := TR) okR inR (xm := 55) (mx := mdX5_many) (as := [.int (xs (nI i + 1).toNatClampNeg)]) (rest := [.int ri]) (d := 60) (ci := 5) rfl (hsp.2.1 J M (hv ▸ hok)) hx hb hml hown hts hK hNR (mm_mem [894, 895, 896, 61] rfl) (by decide +kernel) rfl rfl rfl hPR hDR hS hA rfl (by omega) (Nat.le_of_ble_eq_true rfl) eL_689 hl.1 hcN hsN (fun J' M' r2 rl2 H2 locs2 hq2 hPR hDR hS hk => ?_)
  have hPC := lw_keep (s1 := shR) (s2 := shC) (fun i j h1 h2 => (hap j i h2 h1).symm) hPC hk
  refine W.eq (g2 := F0 m 692 ls [.int r2, .int ri]) rfl ?_
  rw [← hv] at hq2
  have e1 := hq.1.trans hq2.symm
  have e2 : vC I' = vR J' := congrArg Prod.fst e1
  have e3 : ri = r2 := congrArg Prod.snd e1
  refine lv_icmp_eq (tgt := 697) hx hb eL_692 (by decide) (fun _ => ?_) (fun c9 => absurd e3 c9)
  exact kk I' L' J' M' _ _ ⟨hPC, hPR, hDC, hDR, hS⟩ ⟨e2, (by rw [show vC I' = (_ : pv × _).1 from congrArg Prod.fst hq.1]; exact hsp.2.2 _ hok), hq.2⟩
end LCS
