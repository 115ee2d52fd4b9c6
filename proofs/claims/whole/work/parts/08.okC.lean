/-! ===== the checks of the tables (C) ===== -/
set_option maxRecDepth 100000 in
theorem okX0_has : mm_mo TC mdX0_has := mm_mo_ok (by decide +kernel)
set_option maxRecDepth 100000 in
theorem okX0_append : mm_mo TC mdX0_append := mm_mo_ok (by decide +kernel)
set_option maxRecDepth 100000 in
theorem okX0_endOf : mm_mo TC mdX0_endOf := mm_mo_ok (by decide +kernel)
set_option maxRecDepth 100000 in
theorem okX0_canMove : mm_mo TC mdX0_canMove := mm_mo_ok (by decide +kernel)
set_option maxRecDepth 100000 in
theorem okX0_jumpBetween : mm_mo TC mdX0_jumpBetween := mm_mo_ok (by decide +kernel)
set_option maxRecDepth 100000 in
theorem okX0_sideBy : mm_mo TC mdX0_sideBy := mm_mo_ok (by decide +kernel)
set_option maxRecDepth 100000 in
theorem okX0_everyone : mm_mo TC mdX0_everyone := mm_mo_ok (by decide +kernel)
set_option maxRecDepth 100000 in
theorem okX0_givenBy : mm_mo TC mdX0_givenBy := mm_mo_ok (by decide +kernel)
set_option maxRecDepth 100000 in
theorem okX0_allNeeds : mm_mo TC mdX0_allNeeds := mm_mo_ok (by decide +kernel)
set_option maxRecDepth 100000 in
theorem okX0_readyAfter : mm_mo TC mdX0_readyAfter := mm_mo_ok (by decide +kernel)
set_option maxRecDepth 100000 in
theorem okX0_extent : mm_mo TC mdX0_extent := mm_mo_ok (by decide +kernel)
set_option maxRecDepth 100000 in
theorem okX0_untold : mm_mo TC mdX0_untold := mm_mo_ok (by decide +kernel)
set_option maxRecDepth 100000 in
theorem okX0_isFirstToEnd : mm_mo TC mdX0_isFirstToEnd := mm_mo_ok (by decide +kernel)
set_option maxRecDepth 100000 in
theorem okX0_gapBehind : mm_mo TC mdX0_gapBehind := mm_mo_ok (by decide +kernel)
set_option maxRecDepth 100000 in
theorem okX1_find : mm_mo TC mdX1_find := mm_mo_ok (by decide +kernel)
set_option maxRecDepth 100000 in
theorem okX1_takeRow : mm_mo TC mdX1_takeRow := mm_mo_ok (by decide +kernel)
set_option maxRecDepth 100000 in
theorem okX1_setFrom : mm_mo TC mdX1_setFrom := mm_mo_ok (by decide +kernel)
set_option maxRecDepth 100000 in
theorem okX1_setBeside : mm_mo TC mdX1_setBeside := mm_mo_ok (by decide +kernel)
set_option maxRecDepth 100000 in
theorem okX1_setWithin : mm_mo TC mdX1_setWithin := mm_mo_ok (by decide +kernel)
set_option maxRecDepth 100000 in
theorem okX1_keep : mm_mo TC mdX1_keep := mm_mo_ok (by decide +kernel)
set_option maxRecDepth 100000 in
theorem okX1_closeAll : mm_mo TC mdX1_closeAll := mm_mo_ok (by decide +kernel)
set_option maxRecDepth 100000 in
theorem okX2_find : mm_mo TC mdX2_find := mm_mo_ok (by decide +kernel)
set_option maxRecDepth 100000 in
theorem okX2_fillRest : mm_mo TC mdX2_fillRest := mm_mo_ok (by decide +kernel)
set_option maxRecDepth 100000 in
theorem okX2_nextBehind : mm_mo TC mdX2_nextBehind := mm_mo_ok (by decide +kernel)
set_option maxRecDepth 100000 in
theorem okX2_restBy : mm_mo TC mdX2_restBy := mm_mo_ok (by decide +kernel)
set_option maxRecDepth 100000 in
theorem okX2_follow : mm_mo TC mdX2_follow := mm_mo_ok (by decide +kernel)
set_option maxRecDepth 100000 in
theorem okX3_isWrong : mm_mo TC mdX3_isWrong := mm_mo_ok (by decide +kernel)
set_option maxRecDepth 100000 in
theorem okX3_hasTold : mm_mo TC mdX3_hasTold := mm_mo_ok (by decide +kernel)
set_option maxRecDepth 100000 in
theorem okX3_goThrough : mm_mo TC mdX3_goThrough := mm_mo_ok (by decide +kernel)
set_option maxRecDepth 100000 in
theorem okX3_begin : mm_mo TC mdX3_begin := mm_mo_ok (by decide +kernel)
set_option maxRecDepth 100000 in
theorem okX3_whyWrong : mm_mo TC mdX3_whyWrong := mm_mo_ok (by decide +kernel)
set_option maxRecDepth 100000 in
theorem okX3_isOnSide : mm_mo TC mdX3_isOnSide := mm_mo_ok (by decide +kernel)
set_option maxRecDepth 100000 in
theorem okX3_take : mm_mo TC mdX3_take := mm_mo_ok (by decide +kernel)
set_option maxRecDepth 100000 in
theorem okX3_openFrame : mm_mo TC mdX3_openFrame := mm_mo_ok (by decide +kernel)
set_option maxRecDepth 100000 in
theorem okX3_closeFrame : mm_mo TC mdX3_closeFrame := mm_mo_ok (by decide +kernel)
set_option maxRecDepth 100000 in
theorem okX3_tell : mm_mo TC mdX3_tell := mm_mo_ok (by decide +kernel)
set_option maxRecDepth 100000 in
theorem okX4_scene : mm_mo TC mdX4_scene := mm_mo_ok (by decide +kernel)
set_option maxRecDepth 100000 in
theorem okX4_ofScene : mm_mo TC mdX4_ofScene := mm_mo_ok (by decide +kernel)
set_option maxRecDepth 100000 in
theorem okX4_move : mm_mo TC mdX4_move := mm_mo_ok (by decide +kernel)
set_option maxRecDepth 100000 in
theorem okX4_shift : mm_mo TC mdX4_shift := mm_mo_ok (by decide +kernel)
set_option maxRecDepth 100000 in
theorem okX4_stretch : mm_mo TC mdX4_stretch := mm_mo_ok (by decide +kernel)
set_option maxRecDepth 100000 in
theorem okX4_clue : mm_mo TC mdX4_clue := mm_mo_ok (by decide +kernel)
set_option maxRecDepth 100000 in
theorem okX4_ofClue : mm_mo TC mdX4_ofClue := mm_mo_ok (by decide +kernel)
set_option maxRecDepth 100000 in
theorem okX4_drop : mm_mo TC mdX4_drop := mm_mo_ok (by decide +kernel)
set_option maxRecDepth 100000 in
theorem okX4_fee : mm_mo TC mdX4_fee := mm_mo_ok (by decide +kernel)
set_option maxRecDepth 100000 in
theorem okX4_jump : mm_mo TC mdX4_jump := mm_mo_ok (by decide +kernel)
set_option maxRecDepth 100000 in
theorem okX4_span : mm_mo TC mdX4_span := mm_mo_ok (by decide +kernel)
set_option maxRecDepth 100000 in
theorem okX4_add : mm_mo TC mdX4_add := mm_mo_ok (by decide +kernel)
set_option maxRecDepth 100000 in
theorem okX4_cut : mm_mo TC mdX4_cut := mm_mo_ok (by decide +kernel)
set_option maxRecDepth 100000 in
theorem okX4_judge : mm_mo TC mdX4_judge := mm_mo_ok (by decide +kernel)
set_option maxRecDepth 100000 in
theorem okX4_jumps : mm_mo TC mdX4_jumps := mm_mo_ok (by decide +kernel)
set_option maxRecDepth 100000 in
theorem okX4_told : mm_mo TC mdX4_told := mm_mo_ok (by decide +kernel)
set_option maxRecDepth 100000 in
theorem okX4_order : mm_mo TC mdX4_order := mm_mo_ok (by decide +kernel)
set_option maxRecDepth 100000 in
theorem okX4_framed : mm_mo TC mdX4_framed := mm_mo_ok (by decide +kernel)
set_option maxRecDepth 100000 in
theorem okX4_untangled : mm_mo TC mdX4_untangled := mm_mo_ok (by decide +kernel)
set_option maxRecDepth 100000 in
theorem okX4_many : mm_mo TC mdX4_many := mm_mo_ok (by decide +kernel)
set_option maxRecDepth 100000 in
theorem okX4_forgetBest : mm_mo TC mdX4_forgetBest := mm_mo_ok (by decide +kernel)
set_option maxRecDepth 100000 in
theorem okX4_findFrames : mm_mo TC mdX4_findFrames := mm_mo_ok (by decide +kernel)
set_option maxRecDepth 100000 in
theorem okX4_writeRow : mm_mo TC mdX4_writeRow := mm_mo_ok (by decide +kernel)
set_option maxRecDepth 100000 in
theorem okX4_changePlaces : mm_mo TC mdX4_changePlaces := mm_mo_ok (by decide +kernel)
set_option maxRecDepth 100000 in
theorem okX4_isClue : mm_mo TC mdX4_isClue := mm_mo_ok (by decide +kernel)
set_option maxRecDepth 100000 in
theorem okX4_isClueSet : mm_mo TC mdX4_isClueSet := mm_mo_ok (by decide +kernel)
set_option maxRecDepth 100000 in
theorem okX4_isIn : mm_mo TC mdX4_isIn := mm_mo_ok (by decide +kernel)
set_option maxRecDepth 100000 in
theorem okX4_fitsInt : mm_mo TC mdX4_fitsInt := mm_mo_ok (by decide +kernel)
set_option maxRecDepth 100000 in
theorem okX4_intOrOver : mm_mo TC mdX4_intOrOver := mm_mo_ok (by decide +kernel)
set_option maxRecDepth 100000 in
theorem okJ6_bitCount_0f7a4 : mm_mo TC mdJ6_bitCount_0f7a4 := mm_mo_ok (by decide +kernel)
set_option maxRecDepth 100000 in
theorem okJ7_fill_53178 : mm_mo TC mdJ7_fill_53178 := mm_mo_ok (by decide +kernel)
set_option maxRecDepth 100000 in
theorem okC_ms : ∀ md ∈ msC, mm_mo TC md := List.forall_mem_cons.mpr ⟨okX0_has, List.forall_mem_cons.mpr ⟨okX0_append, List.forall_mem_cons.mpr ⟨okX0_endOf, List.forall_mem_cons.mpr ⟨okX0_canMove, List.forall_mem_cons.mpr ⟨okX0_jumpBetween, List.forall_mem_cons.mpr ⟨okX0_sideBy, List.forall_mem_cons.mpr ⟨okX0_everyone, List.forall_mem_cons.mpr ⟨okX0_givenBy, List.forall_mem_cons.mpr ⟨okX0_allNeeds, List.forall_mem_cons.mpr ⟨okX0_readyAfter, List.forall_mem_cons.mpr ⟨okX0_extent, List.forall_mem_cons.mpr ⟨okX0_untold, List.forall_mem_cons.mpr ⟨okX0_isFirstToEnd, List.forall_mem_cons.mpr ⟨okX0_gapBehind, List.forall_mem_cons.mpr ⟨okX1_find, List.forall_mem_cons.mpr ⟨okX1_takeRow, List.forall_mem_cons.mpr ⟨okX1_setFrom, List.forall_mem_cons.mpr ⟨okX1_setBeside, List.forall_mem_cons.mpr ⟨okX1_setWithin, List.forall_mem_cons.mpr ⟨okX1_keep, List.forall_mem_cons.mpr ⟨okX1_closeAll, List.forall_mem_cons.mpr ⟨okX2_find, List.forall_mem_cons.mpr ⟨okX2_fillRest, List.forall_mem_cons.mpr ⟨okX2_nextBehind, List.forall_mem_cons.mpr ⟨okX2_restBy, List.forall_mem_cons.mpr ⟨okX2_follow, List.forall_mem_cons.mpr ⟨okX3_isWrong, List.forall_mem_cons.mpr ⟨okX3_hasTold, List.forall_mem_cons.mpr ⟨okX3_goThrough, List.forall_mem_cons.mpr ⟨okX3_begin, List.forall_mem_cons.mpr ⟨okX3_whyWrong, List.forall_mem_cons.mpr ⟨okX3_isOnSide, List.forall_mem_cons.mpr ⟨okX3_take, List.forall_mem_cons.mpr ⟨okX3_openFrame, List.forall_mem_cons.mpr ⟨okX3_closeFrame, List.forall_mem_cons.mpr ⟨okX3_tell, List.forall_mem_cons.mpr ⟨okX4_scene, List.forall_mem_cons.mpr ⟨okX4_ofScene, List.forall_mem_cons.mpr ⟨okX4_move, List.forall_mem_cons.mpr ⟨okX4_shift, List.forall_mem_cons.mpr ⟨okX4_stretch, List.forall_mem_cons.mpr ⟨okX4_clue, List.forall_mem_cons.mpr ⟨okX4_ofClue, List.forall_mem_cons.mpr ⟨okX4_drop, List.forall_mem_cons.mpr ⟨okX4_fee, List.forall_mem_cons.mpr ⟨okX4_jump, List.forall_mem_cons.mpr ⟨okX4_span, List.forall_mem_cons.mpr ⟨okX4_add, List.forall_mem_cons.mpr ⟨okX4_cut, List.forall_mem_cons.mpr ⟨okX4_judge, List.forall_mem_cons.mpr ⟨okX4_jumps, List.forall_mem_cons.mpr ⟨okX4_told, List.forall_mem_cons.mpr ⟨okX4_order, List.forall_mem_cons.mpr ⟨okX4_framed, List.forall_mem_cons.mpr ⟨okX4_untangled, List.forall_mem_cons.mpr ⟨okX4_many, List.forall_mem_cons.mpr ⟨okX4_forgetBest, List.forall_mem_cons.mpr ⟨okX4_findFrames, List.forall_mem_cons.mpr ⟨okX4_writeRow, List.forall_mem_cons.mpr ⟨okX4_changePlaces, List.forall_mem_cons.mpr ⟨okX4_isClue, List.forall_mem_cons.mpr ⟨okX4_isClueSet, List.forall_mem_cons.mpr ⟨okX4_isIn, List.forall_mem_cons.mpr ⟨okX4_fitsInt, List.forall_mem_cons.mpr ⟨okX4_intOrOver, List.forall_mem_cons.mpr ⟨okJ6_bitCount_0f7a4, List.forall_mem_cons.mpr ⟨okJ7_fill_53178, fun _ h => absurd h List.not_mem_nil⟩⟩⟩⟩⟩⟩⟩⟩⟩⟩⟩⟩⟩⟩⟩⟩⟩⟩⟩⟩⟩⟩⟩⟩⟩⟩⟩⟩⟩⟩⟩⟩⟩⟩⟩⟩⟩⟩⟩⟩⟩⟩⟩⟩⟩⟩⟩⟩⟩⟩⟩⟩⟩⟩⟩⟩⟩⟩⟩⟩⟩⟩⟩⟩⟩⟩⟩
set_option maxRecDepth 100000 in
theorem goodC : (mm_tb TC).all goodWord = true := by decide +kernel
set_option maxRecDepth 100000 in
theorem okC : mm_ok TC := mm_ok_of okC_ms (by decide +kernel) (by decide +kernel) (fun ci q h => by
  match ci, h with
  | 0, h => cases h; exact ⟨tyX0_ok, nmX0⟩
  | 1, h => cases h; exact ⟨tyX1_ok, nmX1⟩
  | 2, h => cases h; exact ⟨tyX2_ok, nmX2⟩
  | 3, h => cases h; exact ⟨tyX3_ok, nmX3⟩
  | 4, h => cases h; exact ⟨tyX4_ok, nmX4⟩
  | 5, h => cases h; exact ⟨tyX5_ok, nmX5⟩
  | ci + 6, h => simp [mm_cl, TC, vwCl] at h) goodC
set_option maxRecDepth 100000 in
theorem inC_0 : ∀ w ∈ [mm_mw mdX0_has], w ∈ lw_tbl := mm_mem [294] (rfl)
set_option maxRecDepth 100000 in
theorem inC_1 : ∀ w ∈ [mm_mw mdX0_append], w ∈ lw_tbl := mm_mem [286] (rfl)
set_option maxRecDepth 100000 in
theorem inC_2 : ∀ w ∈ [mm_mw mdX0_endOf], w ∈ lw_tbl := mm_mem [299] (rfl)
set_option maxRecDepth 100000 in
theorem inC_3 : ∀ w ∈ [mm_mw mdX0_canMove], w ∈ lw_tbl := mm_mem [307] (rfl)
set_option maxRecDepth 100000 in
theorem inC_4 : ∀ w ∈ [mm_mw mdX0_jumpBetween], w ∈ lw_tbl := mm_mem [349] (rfl)
set_option maxRecDepth 100000 in
theorem inC_5 : ∀ w ∈ [mm_mw mdX0_sideBy], w ∈ lw_tbl := mm_mem [420] (rfl)
set_option maxRecDepth 100000 in
theorem inC_6 : ∀ w ∈ [mm_mw mdX0_everyone], w ∈ lw_tbl := mm_mem [468] (rfl)
set_option maxRecDepth 100000 in
theorem inC_7 : ∀ w ∈ [mm_mw mdX0_givenBy], w ∈ lw_tbl := mm_mem [480] (rfl)
set_option maxRecDepth 100000 in
theorem inC_8 : ∀ w ∈ [mm_mw mdX0_allNeeds], w ∈ lw_tbl := mm_mem [559] (rfl)
set_option maxRecDepth 100000 in
theorem inC_9 : ∀ w ∈ [mm_mw mdX0_readyAfter], w ∈ lw_tbl := mm_mem [476] (rfl)
set_option maxRecDepth 100000 in
theorem inC_10 : ∀ w ∈ [mm_mw mdX0_extent], w ∈ lw_tbl := mm_mem [360] (rfl)
set_option maxRecDepth 100000 in
theorem inC_11 : ∀ w ∈ [mm_mw mdX0_untold], w ∈ lw_tbl := mm_mem [372] (rfl)
set_option maxRecDepth 100000 in
theorem inC_12 : ∀ w ∈ [mm_mw mdX0_isFirstToEnd], w ∈ lw_tbl := mm_mem [376] (rfl)
set_option maxRecDepth 100000 in
theorem inC_13 : ∀ w ∈ [mm_mw mdX0_gapBehind], w ∈ lw_tbl := mm_mem [380] (rfl)
set_option maxRecDepth 100000 in
theorem inC_14 : ∀ w ∈ [mm_mw mdX1_find], w ∈ lw_tbl := mm_mem [512] (rfl)
set_option maxRecDepth 100000 in
theorem inC_15 : ∀ w ∈ [mm_mw mdX1_takeRow], w ∈ lw_tbl := mm_mem [517] (rfl)
set_option maxRecDepth 100000 in
theorem inC_16 : ∀ w ∈ [mm_mw mdX1_setFrom], w ∈ lw_tbl := mm_mem [522] (rfl)
set_option maxRecDepth 100000 in
theorem inC_17 : ∀ w ∈ [mm_mw mdX1_setBeside], w ∈ lw_tbl := mm_mem [537] (rfl)
set_option maxRecDepth 100000 in
theorem inC_18 : ∀ w ∈ [mm_mw mdX1_setWithin], w ∈ lw_tbl := mm_mem [543] (rfl)
set_option maxRecDepth 100000 in
theorem inC_19 : ∀ w ∈ [mm_mw mdX1_keep], w ∈ lw_tbl := mm_mem [526] (rfl)
set_option maxRecDepth 100000 in
theorem inC_20 : ∀ w ∈ [mm_mw mdX1_closeAll], w ∈ lw_tbl := mm_mem [533] (rfl)
set_option maxRecDepth 100000 in
theorem inC_21 : ∀ w ∈ [mm_mw mdX2_find], w ∈ lw_tbl := mm_mem [464] (rfl)
set_option maxRecDepth 100000 in
theorem inC_22 : ∀ w ∈ [mm_mw mdX2_fillRest], w ∈ lw_tbl := mm_mem [472] (rfl)
set_option maxRecDepth 100000 in
theorem inC_23 : ∀ w ∈ [mm_mw mdX2_nextBehind], w ∈ lw_tbl := mm_mem [486] (rfl)
set_option maxRecDepth 100000 in
theorem inC_24 : ∀ w ∈ [mm_mw mdX2_restBy], w ∈ lw_tbl := mm_mem [491] (rfl)
set_option maxRecDepth 100000 in
theorem inC_25 : ∀ w ∈ [mm_mw mdX2_follow], w ∈ lw_tbl := mm_mem [496] (rfl)
set_option maxRecDepth 100000 in
theorem inC_26 : ∀ w ∈ [mm_mw mdX3_isWrong], w ∈ lw_tbl := mm_mem [444] (rfl)
set_option maxRecDepth 100000 in
theorem inC_27 : ∀ w ∈ [mm_mw mdX3_hasTold], w ∈ lw_tbl := mm_mem [412] (rfl)
set_option maxRecDepth 100000 in
theorem inC_28 : ∀ w ∈ [mm_mw mdX3_goThrough], w ∈ lw_tbl := mm_mem [396] (rfl)
set_option maxRecDepth 100000 in
theorem inC_29 : ∀ w ∈ [mm_mw mdX3_begin], w ∈ lw_tbl := mm_mem [400] (rfl)
set_option maxRecDepth 100000 in
theorem inC_30 : ∀ w ∈ [mm_mw mdX3_whyWrong], w ∈ lw_tbl := mm_mem [407] (rfl)
set_option maxRecDepth 100000 in
theorem inC_31 : ∀ w ∈ [mm_mw mdX3_isOnSide], w ∈ lw_tbl := mm_mem [416] (rfl)
set_option maxRecDepth 100000 in
theorem inC_32 : ∀ w ∈ [mm_mw mdX3_take], w ∈ lw_tbl := mm_mem [424] (rfl)
set_option maxRecDepth 100000 in
theorem inC_33 : ∀ w ∈ [mm_mw mdX3_openFrame], w ∈ lw_tbl := mm_mem [428] (rfl)
set_option maxRecDepth 100000 in
theorem inC_34 : ∀ w ∈ [mm_mw mdX3_closeFrame], w ∈ lw_tbl := mm_mem [435] (rfl)
set_option maxRecDepth 100000 in
theorem inC_35 : ∀ w ∈ [mm_mw mdX3_tell], w ∈ lw_tbl := mm_mem [439] (rfl)
set_option maxRecDepth 100000 in
theorem inC_36 : ∀ w ∈ [mm_mw mdX4_scene], w ∈ lw_tbl := mm_mem [270] (rfl)
set_option maxRecDepth 100000 in
theorem inC_37 : ∀ w ∈ [mm_mw mdX4_ofScene], w ∈ lw_tbl := mm_mem [290] (rfl)
set_option maxRecDepth 100000 in
theorem inC_38 : ∀ w ∈ [mm_mw mdX4_move], w ∈ lw_tbl := mm_mem [303] (rfl)
set_option maxRecDepth 100000 in
theorem inC_39 : ∀ w ∈ [mm_mw mdX4_shift], w ∈ lw_tbl := mm_mem [314] (rfl)
set_option maxRecDepth 100000 in
theorem inC_40 : ∀ w ∈ [mm_mw mdX4_stretch], w ∈ lw_tbl := mm_mem [318] (rfl)
set_option maxRecDepth 100000 in
theorem inC_41 : ∀ w ∈ [mm_mw mdX4_clue], w ∈ lw_tbl := mm_mem [322] (rfl)
set_option maxRecDepth 100000 in
theorem inC_42 : ∀ w ∈ [mm_mw mdX4_ofClue], w ∈ lw_tbl := mm_mem [329] (rfl)
set_option maxRecDepth 100000 in
theorem inC_43 : ∀ w ∈ [mm_mw mdX4_drop], w ∈ lw_tbl := mm_mem [336] (rfl)
set_option maxRecDepth 100000 in
theorem inC_44 : ∀ w ∈ [mm_mw mdX4_fee], w ∈ lw_tbl := mm_mem [340] (rfl)
set_option maxRecDepth 100000 in
theorem inC_45 : ∀ w ∈ [mm_mw mdX4_jump], w ∈ lw_tbl := mm_mem [345] (rfl)
set_option maxRecDepth 100000 in
theorem inC_46 : ∀ w ∈ [mm_mw mdX4_span], w ∈ lw_tbl := mm_mem [356] (rfl)
set_option maxRecDepth 100000 in
theorem inC_47 : ∀ w ∈ [mm_mw mdX4_add], w ∈ lw_tbl := mm_mem [384] (rfl)
set_option maxRecDepth 100000 in
theorem inC_48 : ∀ w ∈ [mm_mw mdX4_cut], w ∈ lw_tbl := mm_mem [388] (rfl)
set_option maxRecDepth 100000 in
theorem inC_49 : ∀ w ∈ [mm_mw mdX4_judge], w ∈ lw_tbl := mm_mem [392] (rfl)
set_option maxRecDepth 100000 in
theorem inC_50 : ∀ w ∈ [mm_mw mdX4_jumps], w ∈ lw_tbl := mm_mem [448] (rfl)
set_option maxRecDepth 100000 in
theorem inC_51 : ∀ w ∈ [mm_mw mdX4_told], w ∈ lw_tbl := mm_mem [455] (rfl)
set_option maxRecDepth 100000 in
theorem inC_52 : ∀ w ∈ [mm_mw mdX4_order], w ∈ lw_tbl := mm_mem [460] (rfl)
set_option maxRecDepth 100000 in
theorem inC_53 : ∀ w ∈ [mm_mw mdX4_framed], w ∈ lw_tbl := mm_mem [500] (rfl)
set_option maxRecDepth 100000 in
theorem inC_54 : ∀ w ∈ [mm_mw mdX4_untangled], w ∈ lw_tbl := mm_mem [547] (rfl)
set_option maxRecDepth 100000 in
theorem inC_55 : ∀ w ∈ [mm_mw mdX4_many], w ∈ lw_tbl := mm_mem [555] (rfl)
set_option maxRecDepth 100000 in
theorem inC_56 : ∀ w ∈ [mm_mw mdX4_forgetBest], w ∈ lw_tbl := mm_mem [282] (rfl)
set_option maxRecDepth 100000 in
theorem inC_57 : ∀ w ∈ [mm_mw mdX4_findFrames], w ∈ lw_tbl := mm_mem [504] (rfl)
set_option maxRecDepth 100000 in
theorem inC_58 : ∀ w ∈ [mm_mw mdX4_writeRow], w ∈ lw_tbl := mm_mem [508] (rfl)
set_option maxRecDepth 100000 in
theorem inC_59 : ∀ w ∈ [mm_mw mdX4_changePlaces], w ∈ lw_tbl := mm_mem [551] (rfl)
set_option maxRecDepth 100000 in
theorem inC_60 : ∀ w ∈ [mm_mw mdX4_isClue], w ∈ lw_tbl := mm_mem [325] (rfl)
set_option maxRecDepth 100000 in
theorem inC_61 : ∀ w ∈ [mm_mw mdX4_isClueSet], w ∈ lw_tbl := mm_mem [273] (rfl)
set_option maxRecDepth 100000 in
theorem inC_62 : ∀ w ∈ [mm_mw mdX4_isIn], w ∈ lw_tbl := mm_mem [332] (rfl)
set_option maxRecDepth 100000 in
theorem inC_63 : ∀ w ∈ [mm_mw mdX4_fitsInt], w ∈ lw_tbl := mm_mem [276] (rfl)
set_option maxRecDepth 100000 in
theorem inC_64 : ∀ w ∈ [mm_mw mdX4_intOrOver], w ∈ lw_tbl := mm_mem [451] (rfl)
set_option maxRecDepth 100000 in
theorem inC_65 : ∀ w ∈ [mm_mw mdJ6_bitCount_0f7a4], w ∈ lw_tbl := mm_mem [564] (rfl)
set_option maxRecDepth 100000 in
theorem inC_66 : ∀ w ∈ [mm_mw mdJ7_fill_53178], w ∈ lw_tbl := mm_mem [403] (rfl)
set_option maxRecDepth 100000 in
theorem inC_67 : ∀ w ∈ [mm_fw TC (0, 24, 1, 4)], w ∈ lw_tbl := mm_mem [90] (rfl)
set_option maxRecDepth 100000 in
theorem inC_68 : ∀ w ∈ [mm_fw TC (0, 9, 1, 0)], w ∈ lw_tbl := mm_mem [80] (rfl)
set_option maxRecDepth 100000 in
theorem inC_69 : ∀ w ∈ [mm_fw TC (0, 15, 1, 1)], w ∈ lw_tbl := mm_mem [82] (rfl)
set_option maxRecDepth 100000 in
theorem inC_70 : ∀ w ∈ [mm_fw TC (0, 18, 1, 2)], w ∈ lw_tbl := mm_mem [84] (rfl)
set_option maxRecDepth 100000 in
theorem inC_71 : ∀ w ∈ [mm_fw TC (0, 21, 1, 3)], w ∈ lw_tbl := mm_mem [87] (rfl)
set_option maxRecDepth 100000 in
theorem inC_72 : ∀ w ∈ [mm_fw TC (1, 44, 16, 10)], w ∈ lw_tbl := mm_mem [214] (rfl)
set_option maxRecDepth 100000 in
theorem inC_73 : ∀ w ∈ [mm_fw TC (1, 37, 16, 8)], w ∈ lw_tbl := mm_mem [210] (rfl)
set_option maxRecDepth 100000 in
theorem inC_74 : ∀ w ∈ [mm_fw TC (1, 40, 16, 9)], w ∈ lw_tbl := mm_mem [212] (rfl)
set_option maxRecDepth 100000 in
theorem inC_75 : ∀ w ∈ [mm_fw TC (1, 31, 16, 6)], w ∈ lw_tbl := mm_mem [207] (rfl)
set_option maxRecDepth 100000 in
theorem inC_76 : ∀ w ∈ [mm_fw TC (1, 28, 16, 5)], w ∈ lw_tbl := mm_mem [206] (rfl)
set_option maxRecDepth 100000 in
theorem inC_77 : ∀ w ∈ [mm_fw TC (1, 15, 16, 1)], w ∈ lw_tbl := mm_mem [202] (rfl)
set_option maxRecDepth 100000 in
theorem inC_78 : ∀ w ∈ [mm_fw TC (1, 9, 16, 0)], w ∈ lw_tbl := mm_mem [201] (rfl)
set_option maxRecDepth 100000 in
theorem inC_79 : ∀ w ∈ [mm_fw TC (1, 19, 16, 2)], w ∈ lw_tbl := mm_mem [203] (rfl)
set_option maxRecDepth 100000 in
theorem inC_80 : ∀ w ∈ [mm_fw TC (1, 22, 16, 3)], w ∈ lw_tbl := mm_mem [204] (rfl)
set_option maxRecDepth 100000 in
theorem inC_81 : ∀ w ∈ [mm_fw TC (1, 25, 16, 4)], w ∈ lw_tbl := mm_mem [205] (rfl)
set_option maxRecDepth 100000 in
theorem inC_82 : ∀ w ∈ [mm_fw TC (1, 34, 16, 7)], w ∈ lw_tbl := mm_mem [208] (rfl)
set_option maxRecDepth 100000 in
theorem inC_83 : ∀ w ∈ [mm_fw TC (2, 27, 13, 4)], w ∈ lw_tbl := mm_mem [181] (rfl)
set_option maxRecDepth 100000 in
theorem inC_84 : ∀ w ∈ [mm_fw TC (2, 19, 13, 2)], w ∈ lw_tbl := mm_mem [177] (rfl)
set_option maxRecDepth 100000 in
theorem inC_85 : ∀ w ∈ [mm_fw TC (2, 23, 13, 3)], w ∈ lw_tbl := mm_mem [179] (rfl)
set_option maxRecDepth 100000 in
theorem inC_86 : ∀ w ∈ [mm_fw TC (2, 41, 1, 4)], w ∈ lw_tbl := mm_mem [92] (rfl)
set_option maxRecDepth 100000 in
theorem inC_87 : ∀ w ∈ [mm_fw TC (2, 11, 13, 0)], w ∈ lw_tbl := mm_mem [174] (rfl)
set_option maxRecDepth 100000 in
theorem inC_88 : ∀ w ∈ [mm_fw TC (2, 15, 13, 1)], w ∈ lw_tbl := mm_mem [175] (rfl)
set_option maxRecDepth 100000 in
theorem inC_89 : ∀ w ∈ [mm_fw TC (3, 24, 7, 5)], w ∈ lw_tbl := mm_mem [121] (rfl)
set_option maxRecDepth 100000 in
theorem inC_90 : ∀ w ∈ [mm_fw TC (3, 9, 7, 0)], w ∈ lw_tbl := mm_mem [111] (rfl)
set_option maxRecDepth 100000 in
theorem inC_91 : ∀ w ∈ [mm_fw TC (3, 39, 7, 4)], w ∈ lw_tbl := mm_mem [119] (rfl)
set_option maxRecDepth 100000 in
theorem inC_92 : ∀ w ∈ [mm_fw TC (3, 42, 7, 11)], w ∈ lw_tbl := mm_mem [133] (rfl)
set_option maxRecDepth 100000 in
theorem inC_93 : ∀ w ∈ [mm_fw TC (3, 51, 7, 6)], w ∈ lw_tbl := mm_mem [123] (rfl)
set_option maxRecDepth 100000 in
theorem inC_94 : ∀ w ∈ [mm_fw TC (3, 54, 7, 7)], w ∈ lw_tbl := mm_mem [125] (rfl)
set_option maxRecDepth 100000 in
theorem inC_95 : ∀ w ∈ [mm_fw TC (3, 57, 7, 8)], w ∈ lw_tbl := mm_mem [127] (rfl)
set_option maxRecDepth 100000 in
theorem inC_96 : ∀ w ∈ [mm_fw TC (3, 60, 7, 9)], w ∈ lw_tbl := mm_mem [129] (rfl)
set_option maxRecDepth 100000 in
theorem inC_97 : ∀ w ∈ [mm_fw TC (3, 63, 7, 10)], w ∈ lw_tbl := mm_mem [131] (rfl)
set_option maxRecDepth 100000 in
theorem inC_98 : ∀ w ∈ [mm_fw TC (3, 67, 7, 12)], w ∈ lw_tbl := mm_mem [134] (rfl)
set_option maxRecDepth 100000 in
theorem inC_99 : ∀ w ∈ [mm_fw TC (3, 70, 7, 13)], w ∈ lw_tbl := mm_mem [135] (rfl)
set_option maxRecDepth 100000 in
theorem inC_100 : ∀ w ∈ [mm_fw TC (3, 73, 7, 14)], w ∈ lw_tbl := mm_mem [136] (rfl)
set_option maxRecDepth 100000 in
theorem inC_101 : ∀ w ∈ [mm_fw TC (3, 85, 1, 3)], w ∈ lw_tbl := mm_mem [89] (rfl)
set_option maxRecDepth 100000 in
theorem inC_102 : ∀ w ∈ [mm_fw TC (3, 18, 7, 2)], w ∈ lw_tbl := mm_mem [115] (rfl)
set_option maxRecDepth 100000 in
theorem inC_103 : ∀ w ∈ [mm_fw TC (3, 21, 7, 3)], w ∈ lw_tbl := mm_mem [117] (rfl)
set_option maxRecDepth 100000 in
theorem inC_104 : ∀ w ∈ [mm_fw TC (3, 15, 7, 1)], w ∈ lw_tbl := mm_mem [113] (rfl)
set_option maxRecDepth 100000 in
theorem inC_105 : ∀ w ∈ [mm_fw TC (3, 114, 1, 2)], w ∈ lw_tbl := mm_mem [86] (rfl)
set_option maxRecDepth 100000 in
theorem inC_106 : ∀ w ∈ [mm_fw TC (4, 12, 0, 0)], w ∈ lw_tbl := mm_mem [239] (rfl)
set_option maxRecDepth 100000 in
theorem inC_107 : ∀ w ∈ [mm_fw TC (4, 60, 1, 4)], w ∈ lw_tbl := mm_mem [91] (rfl)
set_option maxRecDepth 100000 in
theorem inC_108 : ∀ w ∈ [mm_fw TC (4, 79, 1, 0)], w ∈ lw_tbl := mm_mem [81] (rfl)
set_option maxRecDepth 100000 in
theorem inC_109 : ∀ w ∈ [mm_fw TC (4, 82, 1, 1)], w ∈ lw_tbl := mm_mem [83] (rfl)
set_option maxRecDepth 100000 in
theorem inC_110 : ∀ w ∈ [mm_fw TC (4, 89, 1, 2)], w ∈ lw_tbl := mm_mem [85] (rfl)
set_option maxRecDepth 100000 in
theorem inC_111 : ∀ w ∈ [mm_fw TC (4, 92, 1, 3)], w ∈ lw_tbl := mm_mem [88] (rfl)
set_option maxRecDepth 100000 in
theorem inC_112 : ∀ w ∈ [mm_fw TC (4, 26, 0, 3)], w ∈ lw_tbl := mm_mem [242] (rfl)
set_option maxRecDepth 100000 in
theorem inC_113 : ∀ w ∈ [mm_fw TC (4, 22, 0, 2)], w ∈ lw_tbl := mm_mem [241] (rfl)
set_option maxRecDepth 100000 in
theorem inC_114 : ∀ w ∈ [mm_fw TC (4, 18, 0, 1)], w ∈ lw_tbl := mm_mem [240] (rfl)
set_option maxRecDepth 100000 in
theorem inC_115 : ∀ w ∈ [mm_fw TC (4, 29, 0, 4)], w ∈ lw_tbl := mm_mem [243] (rfl)
set_option maxRecDepth 100000 in
theorem inC_116 : ∀ w ∈ [mm_fw TC (4, 35, 0, 5)], w ∈ lw_tbl := mm_mem [244] (rfl)
set_option maxRecDepth 100000 in
theorem inC_117 : ∀ w ∈ [mm_fw TC (4, 125, 7, 4)], w ∈ lw_tbl := mm_mem [120] (rfl)
set_option maxRecDepth 100000 in
theorem inC_118 : ∀ w ∈ [mm_fw TC (4, 128, 7, 5)], w ∈ lw_tbl := mm_mem [122] (rfl)
set_option maxRecDepth 100000 in
theorem inC_119 : ∀ w ∈ [mm_fw TC (4, 131, 7, 6)], w ∈ lw_tbl := mm_mem [124] (rfl)
set_option maxRecDepth 100000 in
theorem inC_120 : ∀ w ∈ [mm_fw TC (4, 134, 7, 7)], w ∈ lw_tbl := mm_mem [126] (rfl)
set_option maxRecDepth 100000 in
theorem inC_121 : ∀ w ∈ [mm_fw TC (4, 137, 7, 8)], w ∈ lw_tbl := mm_mem [128] (rfl)
set_option maxRecDepth 100000 in
theorem inC_122 : ∀ w ∈ [mm_fw TC (4, 140, 7, 9)], w ∈ lw_tbl := mm_mem [130] (rfl)
set_option maxRecDepth 100000 in
theorem inC_123 : ∀ w ∈ [mm_fw TC (4, 143, 7, 10)], w ∈ lw_tbl := mm_mem [132] (rfl)
set_option maxRecDepth 100000 in
theorem inC_124 : ∀ w ∈ [mm_fw TC (4, 154, 7, 0)], w ∈ lw_tbl := mm_mem [112] (rfl)
set_option maxRecDepth 100000 in
theorem inC_125 : ∀ w ∈ [mm_fw TC (4, 157, 7, 1)], w ∈ lw_tbl := mm_mem [114] (rfl)
set_option maxRecDepth 100000 in
theorem inC_126 : ∀ w ∈ [mm_fw TC (4, 160, 7, 2)], w ∈ lw_tbl := mm_mem [116] (rfl)
set_option maxRecDepth 100000 in
theorem inC_127 : ∀ w ∈ [mm_fw TC (4, 163, 7, 3)], w ∈ lw_tbl := mm_mem [118] (rfl)
set_option maxRecDepth 100000 in
theorem inC_128 : ∀ w ∈ [mm_fw TC (4, 45, 0, 7)], w ∈ lw_tbl := mm_mem [246] (rfl)
set_option maxRecDepth 100000 in
theorem inC_129 : ∀ w ∈ [mm_fw TC (4, 166, 13, 4)], w ∈ lw_tbl := mm_mem [182] (rfl)
set_option maxRecDepth 100000 in
theorem inC_130 : ∀ w ∈ [mm_fw TC (4, 174, 13, 2)], w ∈ lw_tbl := mm_mem [178] (rfl)
set_option maxRecDepth 100000 in
theorem inC_131 : ∀ w ∈ [mm_fw TC (4, 175, 13, 3)], w ∈ lw_tbl := mm_mem [180] (rfl)
set_option maxRecDepth 100000 in
theorem inC_132 : ∀ w ∈ [mm_fw TC (4, 176, 13, 1)], w ∈ lw_tbl := mm_mem [176] (rfl)
set_option maxRecDepth 100000 in
theorem inC_133 : ∀ w ∈ [mm_fw TC (4, 52, 0, 8)], w ∈ lw_tbl := mm_mem [247] (rfl)
set_option maxRecDepth 100000 in
theorem inC_134 : ∀ w ∈ [mm_fw TC (4, 179, 16, 10)], w ∈ lw_tbl := mm_mem [215] (rfl)
set_option maxRecDepth 100000 in
theorem inC_135 : ∀ w ∈ [mm_fw TC (4, 183, 16, 8)], w ∈ lw_tbl := mm_mem [211] (rfl)
set_option maxRecDepth 100000 in
theorem inC_136 : ∀ w ∈ [mm_fw TC (4, 184, 16, 9)], w ∈ lw_tbl := mm_mem [213] (rfl)
set_option maxRecDepth 100000 in
theorem inC_137 : ∀ w ∈ [mm_fw TC (4, 185, 16, 7)], w ∈ lw_tbl := mm_mem [209] (rfl)
set_option maxRecDepth 100000 in
theorem inC_138 : ∀ w ∈ [mm_fw TC (4, 39, 0, 6)], w ∈ lw_tbl := mm_mem [245] (rfl)
set_option maxRecDepth 100000 in
theorem inC_139 : ∀ w ∈ mm_cw TC (0, 28, 0, 0, 1), w ∈ lw_tbl := mm_mem [308, 292, 293, 57] (rfl)
set_option maxRecDepth 100000 in
theorem inC_140 : ∀ w ∈ mm_cw TC (0, 32, 2, 63, 0), w ∈ lw_tbl := mm_mem [275, 56] (rfl)
set_option maxRecDepth 100000 in
theorem inC_141 : ∀ w ∈ mm_cw TC (0, 36, 0, 2, 1), w ∈ lw_tbl := mm_mem [310, 297, 298, 57] (rfl)
set_option maxRecDepth 100000 in
theorem inC_142 : ∀ w ∈ mm_cw TC (0, 46, 2, 62, 0), w ∈ lw_tbl := mm_mem [331, 56] (rfl)
set_option maxRecDepth 100000 in
theorem inC_143 : ∀ w ∈ mm_cw TC (0, 50, 0, 7, 1), w ∈ lw_tbl := mm_mem [477, 478, 479, 57] (rfl)
set_option maxRecDepth 100000 in
theorem inC_144 : ∀ w ∈ mm_cw TC (0, 67, 0, 12, 1), w ∈ lw_tbl := mm_mem [373, 375, 1, 57] (rfl)
set_option maxRecDepth 100000 in
theorem inC_145 : ∀ w ∈ mm_cw TC (0, 70, 0, 13, 1), w ∈ lw_tbl := mm_mem [377, 379, 2, 57] (rfl)
set_option maxRecDepth 100000 in
theorem inC_146 : ∀ w ∈ mm_cw TC (1, 52, 0, 15, 16), w ∈ lw_tbl := mm_mem [514, 516, 16, 60] (rfl)
set_option maxRecDepth 100000 in
theorem inC_147 : ∀ w ∈ mm_cw TC (1, 56, 0, 16, 16), w ∈ lw_tbl := mm_mem [519, 521, 17, 60] (rfl)
set_option maxRecDepth 100000 in
theorem inC_148 : ∀ w ∈ mm_cw TC (1, 60, 0, 0, 1), w ∈ lw_tbl := mm_mem [518, 292, 293, 57] (rfl)
set_option maxRecDepth 100000 in
theorem inC_149 : ∀ w ∈ mm_cw TC (1, 66, 0, 19, 16), w ∈ lw_tbl := mm_mem [523, 525, 18, 60] (rfl)
set_option maxRecDepth 100000 in
theorem inC_150 : ∀ w ∈ mm_cw TC (1, 70, 0, 17, 16), w ∈ lw_tbl := mm_mem [534, 536, 20, 60] (rfl)
set_option maxRecDepth 100000 in
theorem inC_151 : ∀ w ∈ mm_cw TC (1, 74, 0, 18, 16), w ∈ lw_tbl := mm_mem [540, 542, 21, 60] (rfl)
set_option maxRecDepth 100000 in
theorem inC_152 : ∀ w ∈ mm_cw TC (1, 77, 0, 5, 1), w ∈ lw_tbl := mm_mem [538, 418, 419, 57] (rfl)
set_option maxRecDepth 100000 in
theorem inC_153 : ∀ w ∈ mm_cw TC (1, 81, 0, 4, 1), w ∈ lw_tbl := mm_mem [539, 347, 348, 57] (rfl)
set_option maxRecDepth 100000 in
theorem inC_154 : ∀ w ∈ mm_cw TC (1, 91, 0, 20, 16), w ∈ lw_tbl := mm_mem [530, 532, 19, 60] (rfl)
set_option maxRecDepth 100000 in
theorem inC_155 : ∀ w ∈ mm_cw TC (2, 31, 0, 6, 1), w ∈ lw_tbl := mm_mem [465, 466, 467, 57] (rfl)
set_option maxRecDepth 100000 in
theorem inC_156 : ∀ w ∈ mm_cw TC (2, 37, 0, 22, 13), w ∈ lw_tbl := mm_mem [469, 471, 10, 59] (rfl)
set_option maxRecDepth 100000 in
theorem inC_157 : ∀ w ∈ mm_cw TC (2, 44, 0, 25, 13), w ∈ lw_tbl := mm_mem [493, 495, 13, 59] (rfl)
set_option maxRecDepth 100000 in
theorem inC_158 : ∀ w ∈ mm_cw TC (2, 48, 0, 9, 1), w ∈ lw_tbl := mm_mem [473, 474, 475, 57] (rfl)
set_option maxRecDepth 100000 in
theorem inC_159 : ∀ w ∈ mm_cw TC (2, 52, 2, 62, 0), w ∈ lw_tbl := mm_mem [331, 56] (rfl)
set_option maxRecDepth 100000 in
theorem inC_160 : ∀ w ∈ mm_cw TC (2, 56, 0, 23, 13), w ∈ lw_tbl := mm_mem [483, 485, 11, 59] (rfl)
set_option maxRecDepth 100000 in
theorem inC_161 : ∀ w ∈ mm_cw TC (2, 60, 0, 24, 13), w ∈ lw_tbl := mm_mem [488, 490, 12, 59] (rfl)
set_option maxRecDepth 100000 in
theorem inC_162 : ∀ w ∈ mm_cw TC (2, 64, 0, 4, 1), w ∈ lw_tbl := mm_mem [492, 347, 348, 57] (rfl)
set_option maxRecDepth 100000 in
theorem inC_163 : ∀ w ∈ mm_cw TC (3, 28, 0, 29, 7), w ∈ lw_tbl := mm_mem [397, 399, 3, 58] (rfl)
set_option maxRecDepth 100000 in
theorem inC_164 : ∀ w ∈ mm_cw TC (3, 31, 0, 30, 7), w ∈ lw_tbl := mm_mem [404, 406, 4, 58] (rfl)
set_option maxRecDepth 100000 in
theorem inC_165 : ∀ w ∈ mm_cw TC (3, 35, 0, 32, 7), w ∈ lw_tbl := mm_mem [421, 423, 6, 58] (rfl)
set_option maxRecDepth 100000 in
theorem inC_166 : ∀ w ∈ mm_cw TC (3, 45, 1, 66, 0), w ∈ lw_tbl := mm_mem [401, 402, 63] (rfl)
set_option maxRecDepth 100000 in
theorem inC_167 : ∀ w ∈ mm_cw TC (3, 76, 0, 0, 1), w ∈ lw_tbl := mm_mem [408, 292, 293, 57] (rfl)
set_option maxRecDepth 100000 in
theorem inC_168 : ∀ w ∈ mm_cw TC (3, 82, 0, 27, 7), w ∈ lw_tbl := mm_mem [409, 410, 411, 58] (rfl)
set_option maxRecDepth 100000 in
theorem inC_169 : ∀ w ∈ mm_cw TC (3, 88, 0, 31, 7), w ∈ lw_tbl := mm_mem [413, 415, 5, 58] (rfl)
set_option maxRecDepth 100000 in
theorem inC_170 : ∀ w ∈ mm_cw TC (3, 92, 0, 5, 1), w ∈ lw_tbl := mm_mem [417, 418, 419, 57] (rfl)
set_option maxRecDepth 100000 in
theorem inC_171 : ∀ w ∈ mm_cw TC (3, 96, 0, 33, 7), w ∈ lw_tbl := mm_mem [425, 427, 7, 58] (rfl)
set_option maxRecDepth 100000 in
theorem inC_172 : ∀ w ∈ mm_cw TC (3, 99, 0, 34, 7), w ∈ lw_tbl := mm_mem [432, 434, 8, 58] (rfl)
set_option maxRecDepth 100000 in
theorem inC_173 : ∀ w ∈ mm_cw TC (3, 102, 0, 35, 7), w ∈ lw_tbl := mm_mem [436, 438, 9, 58] (rfl)
set_option maxRecDepth 100000 in
theorem inC_174 : ∀ w ∈ mm_cw TC (3, 110, 0, 4, 1), w ∈ lw_tbl := mm_mem [440, 347, 348, 57] (rfl)
set_option maxRecDepth 100000 in
theorem inC_175 : ∀ w ∈ mm_cw TC (4, 56, 1, 61, 0), w ∈ lw_tbl := mm_mem [271, 272, 56] (rfl)
set_option maxRecDepth 100000 in
theorem inC_176 : ∀ w ∈ mm_cw TC (4, 63, 1, 63, 0), w ∈ lw_tbl := mm_mem [274, 275, 56] (rfl)
set_option maxRecDepth 100000 in
theorem inC_177 : ∀ w ∈ mm_cw TC (4, 67, 0, 56, 0), w ∈ lw_tbl := mm_mem [279, 281, 0, 56] (rfl)
set_option maxRecDepth 100000 in
theorem inC_178 : ∀ w ∈ mm_cw TC (4, 70, 0, 1, 1), w ∈ lw_tbl := mm_mem [283, 284, 285, 57] (rfl)
set_option maxRecDepth 100000 in
theorem inC_179 : ∀ w ∈ mm_cw TC (4, 74, 0, 0, 1), w ∈ lw_tbl := mm_mem [291, 292, 293, 57] (rfl)
set_option maxRecDepth 100000 in
theorem inC_180 : ∀ w ∈ mm_cw TC (4, 85, 0, 2, 1), w ∈ lw_tbl := mm_mem [296, 297, 298, 57] (rfl)
set_option maxRecDepth 100000 in
theorem inC_181 : ∀ w ∈ mm_cw TC (4, 95, 0, 3, 1), w ∈ lw_tbl := mm_mem [304, 305, 306, 57] (rfl)
set_option maxRecDepth 100000 in
theorem inC_182 : ∀ w ∈ mm_cw TC (4, 99, 1, 60, 0), w ∈ lw_tbl := mm_mem [323, 324, 56] (rfl)
set_option maxRecDepth 100000 in
theorem inC_183 : ∀ w ∈ mm_cw TC (4, 102, 1, 62, 0), w ∈ lw_tbl := mm_mem [330, 331, 56] (rfl)
set_option maxRecDepth 100000 in
theorem inC_184 : ∀ w ∈ mm_cw TC (4, 106, 0, 4, 1), w ∈ lw_tbl := mm_mem [346, 347, 348, 57] (rfl)
set_option maxRecDepth 100000 in
theorem inC_185 : ∀ w ∈ mm_cw TC (4, 110, 0, 10, 1), w ∈ lw_tbl := mm_mem [357, 358, 359, 57] (rfl)
set_option maxRecDepth 100000 in
theorem inC_186 : ∀ w ∈ mm_cw TC (4, 114, 0, 11, 1), w ∈ lw_tbl := mm_mem [369, 370, 371, 57] (rfl)
set_option maxRecDepth 100000 in
theorem inC_187 : ∀ w ∈ mm_cw TC (4, 117, 0, 28, 7), w ∈ lw_tbl := mm_mem [393, 394, 395, 58] (rfl)
set_option maxRecDepth 100000 in
theorem inC_188 : ∀ w ∈ mm_cw TC (4, 121, 0, 26, 7), w ∈ lw_tbl := mm_mem [441, 442, 443, 58] (rfl)
set_option maxRecDepth 100000 in
theorem inC_189 : ∀ w ∈ mm_cw TC (4, 147, 1, 64, 0), w ∈ lw_tbl := mm_mem [449, 450, 56] (rfl)
set_option maxRecDepth 100000 in
theorem inC_190 : ∀ w ∈ mm_cw TC (4, 151, 0, 27, 7), w ∈ lw_tbl := mm_mem [456, 410, 411, 58] (rfl)
set_option maxRecDepth 100000 in
theorem inC_191 : ∀ w ∈ mm_cw TC (4, 170, 0, 21, 13), w ∈ lw_tbl := mm_mem [461, 462, 463, 59] (rfl)
set_option maxRecDepth 100000 in
theorem inC_192 : ∀ w ∈ mm_cw TC (4, 180, 0, 57, 0), w ∈ lw_tbl := mm_mem [501, 503, 14, 56] (rfl)
set_option maxRecDepth 100000 in
theorem inC_193 : ∀ w ∈ mm_cw TC (4, 186, 0, 58, 0), w ∈ lw_tbl := mm_mem [505, 507, 15, 56] (rfl)
set_option maxRecDepth 100000 in
theorem inC_194 : ∀ w ∈ mm_cw TC (4, 190, 0, 59, 0), w ∈ lw_tbl := mm_mem [548, 550, 22, 56] (rfl)
set_option maxRecDepth 100000 in
theorem inC_195 : ∀ w ∈ mm_cw TC (4, 194, 0, 8, 1), w ∈ lw_tbl := mm_mem [556, 557, 558, 57] (rfl)
set_option maxRecDepth 100000 in
theorem inC_196 : ∀ w ∈ mm_cw TC (4, 197, 0, 6, 1), w ∈ lw_tbl := mm_mem [560, 466, 467, 57] (rfl)
set_option maxRecDepth 100000 in
theorem inC_197 : ∀ w ∈ mm_cw TC (4, 200, 0, 7, 1), w ∈ lw_tbl := mm_mem [561, 478, 479, 57] (rfl)
set_option maxRecDepth 100000 in
theorem inC_198 : ∀ w ∈ mm_cw TC (4, 204, 1, 65, 0), w ∈ lw_tbl := mm_mem [562, 563, 65] (rfl)
set_option maxRecDepth 100000 in
theorem inC_199 : ∀ w ∈ mm_cw TC (4, 209, 0, 14, 16), w ∈ lw_tbl := mm_mem [509, 510, 511, 60] (rfl)
set_option maxRecDepth 100000 in
theorem inC_200 : ∀ w ∈ [Cond.constantLong (mm_cn TC 0) 56 (Int64.ofInt (9223372036854775807))], w ∈ lw_tbl := mm_mem [361] (by decide +kernel)
set_option maxRecDepth 100000 in
theorem inC_201 : ∀ w ∈ [Cond.constantLong (mm_cn TC 0) 58 (Int64.ofInt (-9223372036854775808))], w ∈ lw_tbl := mm_mem [362] (by decide +kernel)
set_option maxRecDepth 100000 in
theorem inC_202 : ∀ w ∈ [Cond.constantLong (mm_cn TC 1) 50 (Int64.ofInt (9223372036854775807))], w ∈ lw_tbl := mm_mem [513] (by decide +kernel)
set_option maxRecDepth 100000 in
theorem inC_203 : ∀ w ∈ [Cond.constantLong (mm_cn TC 2) 42 (Int64.ofInt (-1))], w ∈ lw_tbl := mm_mem [487] (by decide +kernel)
set_option maxRecDepth 100000 in
theorem inC_204 : ∀ w ∈ [Cond.constantLong (mm_cn TC 4) 77 (Int64.ofInt (-9223372036854775808))], w ∈ lw_tbl := mm_mem [295] (by decide +kernel)
set_option maxRecDepth 100000 in
theorem inC_205 : ∀ w ∈ [Cond.constantLong (mm_cn TC 4) 212 (Int64.ofInt (-2147483648))], w ∈ lw_tbl := mm_mem [277] (by decide +kernel)
set_option maxRecDepth 100000 in
theorem inC_206 : ∀ w ∈ [Cond.constantLong (mm_cn TC 4) 214 (Int64.ofInt (2147483647))], w ∈ lw_tbl := mm_mem [278] (by decide +kernel)
set_option maxRecDepth 100000 in
theorem inC_207 : ∀ w ∈ [Cond.constant (mm_cn TC 4) 105 (Int32.ofInt (1000000))], w ∈ lw_tbl := mm_mem [341] (by decide +kernel)
set_option maxRecDepth 100000 in
theorem inC_208 : ∀ w ∈ [Cond.constant (mm_cn TC 6) 265 (Int32.ofInt (1431655765))], w ∈ lw_tbl := mm_mem [565] (by decide +kernel)
set_option maxRecDepth 100000 in
theorem inC_209 : ∀ w ∈ [Cond.constant (mm_cn TC 6) 266 (Int32.ofInt (858993459))], w ∈ lw_tbl := mm_mem [566] (by decide +kernel)
set_option maxRecDepth 100000 in
theorem inC_210 : ∀ w ∈ [Cond.constant (mm_cn TC 6) 267 (Int32.ofInt (252645135))], w ∈ lw_tbl := mm_mem [567] (by decide +kernel)
set_option maxRecDepth 100000 in
theorem inC_211 : ∀ w ∈ mm_jw TC (0, 40, 10), w ∈ lw_tbl := mm_mem [350, 351, 62, 352] (by decide +kernel)
set_option maxRecDepth 100000 in
theorem inC_212 : ∀ w ∈ mm_jw TC (0, 60, 13), w ∈ lw_tbl := mm_mem [363, 364, 62, 365] (by decide +kernel)
set_option maxRecDepth 100000 in
theorem inC_213 : ∀ w ∈ mm_jw TC (0, 64, 12), w ∈ lw_tbl := mm_mem [366, 367, 62, 368] (by decide +kernel)
set_option maxRecDepth 100000 in
theorem inC_214 : ∀ w ∈ mm_jw TC (1, 85, 14), w ∈ lw_tbl := mm_mem [527, 529, 528, 64] (by decide +kernel)
set_option maxRecDepth 100000 in
theorem inC_215 : ∀ w ∈ mm_jw TC (3, 105, 11), w ∈ lw_tbl := mm_mem [429, 430, 62, 431] (by decide +kernel)
set_option maxRecDepth 100000 in
theorem inC_216 : ∀ w ∈ u_ws RX0 TX0 5, w ∈ lw_tbl := mm_mem [93, 95, 97, 99, 101] (by decide +kernel)
set_option maxRecDepth 100000 in
theorem inC_217 : ∀ w ∈ u_ws RX1 TX1 11, w ∈ lw_tbl := mm_mem [216, 218, 220, 222, 224, 226, 228, 230, 232, 234, 236] (by decide +kernel)
set_option maxRecDepth 100000 in
theorem inC_218 : ∀ w ∈ u_ws RX2 TX2 5, w ∈ lw_tbl := mm_mem [183, 185, 187, 189, 191] (by decide +kernel)
set_option maxRecDepth 100000 in
theorem inC_219 : ∀ w ∈ u_ws RX3 TX3 15, w ∈ lw_tbl := mm_mem [137, 139, 141, 143, 145, 147, 149, 151, 153, 155, 157, 159, 161, 163, 165] (by decide +kernel)
set_option maxRecDepth 100000 in
theorem inC_220 : ∀ w ∈ u_ws RX4 TX4 9, w ∈ lw_tbl := mm_mem [248, 250, 252, 254, 256, 258, 260, 262, 264] (by decide +kernel)
set_option maxRecDepth 100000 in
theorem inC_221 : ∀ w ∈ u_ws RX5 TX5 34, w ∈ lw_tbl := mm_mem [608, 610, 612, 614, 616, 618, 620, 622, 624, 626, 628, 630, 632, 634, 636, 638, 640, 642, 644, 646, 648, 650, 652, 654, 656, 658, 660, 662, 664, 666, 668, 670, 672, 674] (by decide +kernel)
set_option maxRecDepth 100000 in
theorem inC_m : ∀ q ∈ mm_ms TC, mm_mw q ∈ lw_tbl := List.forall_mem_cons.mpr ⟨inC_0 _ List.mem_cons_self, List.forall_mem_cons.mpr ⟨inC_1 _ List.mem_cons_self, List.forall_mem_cons.mpr ⟨inC_2 _ List.mem_cons_self, List.forall_mem_cons.mpr ⟨inC_3 _ List.mem_cons_self, List.forall_mem_cons.mpr ⟨inC_4 _ List.mem_cons_self, List.forall_mem_cons.mpr ⟨inC_5 _ List.mem_cons_self, List.forall_mem_cons.mpr ⟨inC_6 _ List.mem_cons_self, List.forall_mem_cons.mpr ⟨inC_7 _ List.mem_cons_self, List.forall_mem_cons.mpr ⟨inC_8 _ List.mem_cons_self, List.forall_mem_cons.mpr ⟨inC_9 _ List.mem_cons_self, List.forall_mem_cons.mpr ⟨inC_10 _ List.mem_cons_self, List.forall_mem_cons.mpr ⟨inC_11 _ List.mem_cons_self, List.forall_mem_cons.mpr ⟨inC_12 _ List.mem_cons_self, List.forall_mem_cons.mpr ⟨inC_13 _ List.mem_cons_self, List.forall_mem_cons.mpr ⟨inC_14 _ List.mem_cons_self, List.forall_mem_cons.mpr ⟨inC_15 _ List.mem_cons_self, List.forall_mem_cons.mpr ⟨inC_16 _ List.mem_cons_self, List.forall_mem_cons.mpr ⟨inC_17 _ List.mem_cons_self, List.forall_mem_cons.mpr ⟨inC_18 _ List.mem_cons_self, List.forall_mem_cons.mpr ⟨inC_19 _ List.mem_cons_self, List.forall_mem_cons.mpr ⟨inC_20 _ List.mem_cons_self, List.forall_mem_cons.mpr ⟨inC_21 _ List.mem_cons_self, List.forall_mem_cons.mpr ⟨inC_22 _ List.mem_cons_self, List.forall_mem_cons.mpr ⟨inC_23 _ List.mem_cons_self, List.forall_mem_cons.mpr ⟨inC_24 _ List.mem_cons_self, List.forall_mem_cons.mpr ⟨inC_25 _ List.mem_cons_self, List.forall_mem_cons.mpr ⟨inC_26 _ List.mem_cons_self, List.forall_mem_cons.mpr ⟨inC_27 _ List.mem_cons_self, List.forall_mem_cons.mpr ⟨inC_28 _ List.mem_cons_self, List.forall_mem_cons.mpr ⟨inC_29 _ List.mem_cons_self, List.forall_mem_cons.mpr ⟨inC_30 _ List.mem_cons_self, List.forall_mem_cons.mpr ⟨inC_31 _ List.mem_cons_self, List.forall_mem_cons.mpr ⟨inC_32 _ List.mem_cons_self, List.forall_mem_cons.mpr ⟨inC_33 _ List.mem_cons_self, List.forall_mem_cons.mpr ⟨inC_34 _ List.mem_cons_self, List.forall_mem_cons.mpr ⟨inC_35 _ List.mem_cons_self, List.forall_mem_cons.mpr ⟨inC_36 _ List.mem_cons_self, List.forall_mem_cons.mpr ⟨inC_37 _ List.mem_cons_self, List.forall_mem_cons.mpr ⟨inC_38 _ List.mem_cons_self, List.forall_mem_cons.mpr ⟨inC_39 _ List.mem_cons_self, List.forall_mem_cons.mpr ⟨inC_40 _ List.mem_cons_self, List.forall_mem_cons.mpr ⟨inC_41 _ List.mem_cons_self, List.forall_mem_cons.mpr ⟨inC_42 _ List.mem_cons_self, List.forall_mem_cons.mpr ⟨inC_43 _ List.mem_cons_self, List.forall_mem_cons.mpr ⟨inC_44 _ List.mem_cons_self, List.forall_mem_cons.mpr ⟨inC_45 _ List.mem_cons_self, List.forall_mem_cons.mpr ⟨inC_46 _ List.mem_cons_self, List.forall_mem_cons.mpr ⟨inC_47 _ List.mem_cons_self, List.forall_mem_cons.mpr ⟨inC_48 _ List.mem_cons_self, List.forall_mem_cons.mpr ⟨inC_49 _ List.mem_cons_self, List.forall_mem_cons.mpr ⟨inC_50 _ List.mem_cons_self, List.forall_mem_cons.mpr ⟨inC_51 _ List.mem_cons_self, List.forall_mem_cons.mpr ⟨inC_52 _ List.mem_cons_self, List.forall_mem_cons.mpr ⟨inC_53 _ List.mem_cons_self, List.forall_mem_cons.mpr ⟨inC_54 _ List.mem_cons_self, List.forall_mem_cons.mpr ⟨inC_55 _ List.mem_cons_self, List.forall_mem_cons.mpr ⟨inC_56 _ List.mem_cons_self, List.forall_mem_cons.mpr ⟨inC_57 _ List.mem_cons_self, List.forall_mem_cons.mpr ⟨inC_58 _ List.mem_cons_self, List.forall_mem_cons.mpr ⟨inC_59 _ List.mem_cons_self, List.forall_mem_cons.mpr ⟨inC_60 _ List.mem_cons_self, List.forall_mem_cons.mpr ⟨inC_61 _ List.mem_cons_self, List.forall_mem_cons.mpr ⟨inC_62 _ List.mem_cons_self, List.forall_mem_cons.mpr ⟨inC_63 _ List.mem_cons_self, List.forall_mem_cons.mpr ⟨inC_64 _ List.mem_cons_self, List.forall_mem_cons.mpr ⟨inC_65 _ List.mem_cons_self, List.forall_mem_cons.mpr ⟨inC_66 _ List.mem_cons_self, fun _ h => absurd h List.not_mem_nil⟩⟩⟩⟩⟩⟩⟩⟩⟩⟩⟩⟩⟩⟩⟩⟩⟩⟩⟩⟩⟩⟩⟩⟩⟩⟩⟩⟩⟩⟩⟩⟩⟩⟩⟩⟩⟩⟩⟩⟩⟩⟩⟩⟩⟩⟩⟩⟩⟩⟩⟩⟩⟩⟩⟩⟩⟩⟩⟩⟩⟩⟩⟩⟩⟩⟩⟩
set_option maxRecDepth 100000 in
theorem inC_f : ∀ q ∈ mm_FT TC, mm_fw TC q ∈ lw_tbl := List.forall_mem_cons.mpr ⟨inC_67 _ List.mem_cons_self, List.forall_mem_cons.mpr ⟨inC_68 _ List.mem_cons_self, List.forall_mem_cons.mpr ⟨inC_69 _ List.mem_cons_self, List.forall_mem_cons.mpr ⟨inC_70 _ List.mem_cons_self, List.forall_mem_cons.mpr ⟨inC_71 _ List.mem_cons_self, List.forall_mem_cons.mpr ⟨inC_72 _ List.mem_cons_self, List.forall_mem_cons.mpr ⟨inC_73 _ List.mem_cons_self, List.forall_mem_cons.mpr ⟨inC_74 _ List.mem_cons_self, List.forall_mem_cons.mpr ⟨inC_75 _ List.mem_cons_self, List.forall_mem_cons.mpr ⟨inC_76 _ List.mem_cons_self, List.forall_mem_cons.mpr ⟨inC_77 _ List.mem_cons_self, List.forall_mem_cons.mpr ⟨inC_78 _ List.mem_cons_self, List.forall_mem_cons.mpr ⟨inC_79 _ List.mem_cons_self, List.forall_mem_cons.mpr ⟨inC_80 _ List.mem_cons_self, List.forall_mem_cons.mpr ⟨inC_81 _ List.mem_cons_self, List.forall_mem_cons.mpr ⟨inC_82 _ List.mem_cons_self, List.forall_mem_cons.mpr ⟨inC_83 _ List.mem_cons_self, List.forall_mem_cons.mpr ⟨inC_84 _ List.mem_cons_self, List.forall_mem_cons.mpr ⟨inC_85 _ List.mem_cons_self, List.forall_mem_cons.mpr ⟨inC_86 _ List.mem_cons_self, List.forall_mem_cons.mpr ⟨inC_87 _ List.mem_cons_self, List.forall_mem_cons.mpr ⟨inC_88 _ List.mem_cons_self, List.forall_mem_cons.mpr ⟨inC_89 _ List.mem_cons_self, List.forall_mem_cons.mpr ⟨inC_90 _ List.mem_cons_self, List.forall_mem_cons.mpr ⟨inC_91 _ List.mem_cons_self, List.forall_mem_cons.mpr ⟨inC_92 _ List.mem_cons_self, List.forall_mem_cons.mpr ⟨inC_93 _ List.mem_cons_self, List.forall_mem_cons.mpr ⟨inC_94 _ List.mem_cons_self, List.forall_mem_cons.mpr ⟨inC_95 _ List.mem_cons_self, List.forall_mem_cons.mpr ⟨inC_96 _ List.mem_cons_self, List.forall_mem_cons.mpr ⟨inC_97 _ List.mem_cons_self, List.forall_mem_cons.mpr ⟨inC_98 _ List.mem_cons_self, List.forall_mem_cons.mpr ⟨inC_99 _ List.mem_cons_self, List.forall_mem_cons.mpr ⟨inC_100 _ List.mem_cons_self, List.forall_mem_cons.mpr ⟨inC_101 _ List.mem_cons_self, List.forall_mem_cons.mpr ⟨inC_102 _ List.mem_cons_self, List.forall_mem_cons.mpr ⟨inC_103 _ List.mem_cons_self, List.forall_mem_cons.mpr ⟨inC_104 _ List.mem_cons_self, List.forall_mem_cons.mpr ⟨inC_105 _ List.mem_cons_self, List.forall_mem_cons.mpr ⟨inC_106 _ List.mem_cons_self, List.forall_mem_cons.mpr ⟨inC_107 _ List.mem_cons_self, List.forall_mem_cons.mpr ⟨inC_108 _ List.mem_cons_self, List.forall_mem_cons.mpr ⟨inC_109 _ List.mem_cons_self, List.forall_mem_cons.mpr ⟨inC_110 _ List.mem_cons_self, List.forall_mem_cons.mpr ⟨inC_111 _ List.mem_cons_self, List.forall_mem_cons.mpr ⟨inC_112 _ List.mem_cons_self, List.forall_mem_cons.mpr ⟨inC_113 _ List.mem_cons_self, List.forall_mem_cons.mpr ⟨inC_114 _ List.mem_cons_self, List.forall_mem_cons.mpr ⟨inC_115 _ List.mem_cons_self, List.forall_mem_cons.mpr ⟨inC_116 _ List.mem_cons_self, List.forall_mem_cons.mpr ⟨inC_117 _ List.mem_cons_self, List.forall_mem_cons.mpr ⟨inC_118 _ List.mem_cons_self, List.forall_mem_cons.mpr ⟨inC_119 _ List.mem_cons_self, List.forall_mem_cons.mpr ⟨inC_120 _ List.mem_cons_self, List.forall_mem_cons.mpr ⟨inC_121 _ List.mem_cons_self, List.forall_mem_cons.mpr ⟨inC_122 _ List.mem_cons_self, List.forall_mem_cons.mpr ⟨inC_123 _ List.mem_cons_self, List.forall_mem_cons.mpr ⟨inC_124 _ List.mem_cons_self, List.forall_mem_cons.mpr ⟨inC_125 _ List.mem_cons_self, List.forall_mem_cons.mpr ⟨inC_126 _ List.mem_cons_self, List.forall_mem_cons.mpr ⟨inC_127 _ List.mem_cons_self, List.forall_mem_cons.mpr ⟨inC_128 _ List.mem_cons_self, List.forall_mem_cons.mpr ⟨inC_129 _ List.mem_cons_self, List.forall_mem_cons.mpr ⟨inC_130 _ List.mem_cons_self, List.forall_mem_cons.mpr ⟨inC_131 _ List.mem_cons_self, List.forall_mem_cons.mpr ⟨inC_132 _ List.mem_cons_self, List.forall_mem_cons.mpr ⟨inC_133 _ List.mem_cons_self, List.forall_mem_cons.mpr ⟨inC_134 _ List.mem_cons_self, List.forall_mem_cons.mpr ⟨inC_135 _ List.mem_cons_self, List.forall_mem_cons.mpr ⟨inC_136 _ List.mem_cons_self, List.forall_mem_cons.mpr ⟨inC_137 _ List.mem_cons_self, List.forall_mem_cons.mpr ⟨inC_138 _ List.mem_cons_self, fun _ h => absurd h List.not_mem_nil⟩⟩⟩⟩⟩⟩⟩⟩⟩⟩⟩⟩⟩⟩⟩⟩⟩⟩⟩⟩⟩⟩⟩⟩⟩⟩⟩⟩⟩⟩⟩⟩⟩⟩⟩⟩⟩⟩⟩⟩⟩⟩⟩⟩⟩⟩⟩⟩⟩⟩⟩⟩⟩⟩⟩⟩⟩⟩⟩⟩⟩⟩⟩⟩⟩⟩⟩⟩⟩⟩⟩⟩
set_option maxRecDepth 100000 in
theorem inC_c : ∀ q ∈ mm_CT TC, ∀ w ∈ mm_cw TC q, w ∈ lw_tbl := List.forall_mem_cons.mpr ⟨inC_139, List.forall_mem_cons.mpr ⟨inC_140, List.forall_mem_cons.mpr ⟨inC_141, List.forall_mem_cons.mpr ⟨inC_142, List.forall_mem_cons.mpr ⟨inC_143, List.forall_mem_cons.mpr ⟨inC_144, List.forall_mem_cons.mpr ⟨inC_145, List.forall_mem_cons.mpr ⟨inC_146, List.forall_mem_cons.mpr ⟨inC_147, List.forall_mem_cons.mpr ⟨inC_148, List.forall_mem_cons.mpr ⟨inC_149, List.forall_mem_cons.mpr ⟨inC_150, List.forall_mem_cons.mpr ⟨inC_151, List.forall_mem_cons.mpr ⟨inC_152, List.forall_mem_cons.mpr ⟨inC_153, List.forall_mem_cons.mpr ⟨inC_154, List.forall_mem_cons.mpr ⟨inC_155, List.forall_mem_cons.mpr ⟨inC_156, List.forall_mem_cons.mpr ⟨inC_157, List.forall_mem_cons.mpr ⟨inC_158, List.forall_mem_cons.mpr ⟨inC_159, List.forall_mem_cons.mpr ⟨inC_160, List.forall_mem_cons.mpr ⟨inC_161, List.forall_mem_cons.mpr ⟨inC_162, List.forall_mem_cons.mpr ⟨inC_163, List.forall_mem_cons.mpr ⟨inC_164, List.forall_mem_cons.mpr ⟨inC_165, List.forall_mem_cons.mpr ⟨inC_166, List.forall_mem_cons.mpr ⟨inC_167, List.forall_mem_cons.mpr ⟨inC_168, List.forall_mem_cons.mpr ⟨inC_169, List.forall_mem_cons.mpr ⟨inC_170, List.forall_mem_cons.mpr ⟨inC_171, List.forall_mem_cons.mpr ⟨inC_172, List.forall_mem_cons.mpr ⟨inC_173, List.forall_mem_cons.mpr ⟨inC_174, List.forall_mem_cons.mpr ⟨inC_175, List.forall_mem_cons.mpr ⟨inC_176, List.forall_mem_cons.mpr ⟨inC_177, List.forall_mem_cons.mpr ⟨inC_178, List.forall_mem_cons.mpr ⟨inC_179, List.forall_mem_cons.mpr ⟨inC_180, List.forall_mem_cons.mpr ⟨inC_181, List.forall_mem_cons.mpr ⟨inC_182, List.forall_mem_cons.mpr ⟨inC_183, List.forall_mem_cons.mpr ⟨inC_184, List.forall_mem_cons.mpr ⟨inC_185, List.forall_mem_cons.mpr ⟨inC_186, List.forall_mem_cons.mpr ⟨inC_187, List.forall_mem_cons.mpr ⟨inC_188, List.forall_mem_cons.mpr ⟨inC_189, List.forall_mem_cons.mpr ⟨inC_190, List.forall_mem_cons.mpr ⟨inC_191, List.forall_mem_cons.mpr ⟨inC_192, List.forall_mem_cons.mpr ⟨inC_193, List.forall_mem_cons.mpr ⟨inC_194, List.forall_mem_cons.mpr ⟨inC_195, List.forall_mem_cons.mpr ⟨inC_196, List.forall_mem_cons.mpr ⟨inC_197, List.forall_mem_cons.mpr ⟨inC_198, List.forall_mem_cons.mpr ⟨inC_199, fun _ h => absurd h List.not_mem_nil⟩⟩⟩⟩⟩⟩⟩⟩⟩⟩⟩⟩⟩⟩⟩⟩⟩⟩⟩⟩⟩⟩⟩⟩⟩⟩⟩⟩⟩⟩⟩⟩⟩⟩⟩⟩⟩⟩⟩⟩⟩⟩⟩⟩⟩⟩⟩⟩⟩⟩⟩⟩⟩⟩⟩⟩⟩⟩⟩⟩⟩
set_option maxRecDepth 100000 in
theorem inC_l : ∀ q ∈ mm_LT TC, Cond.constantLong (mm_cn TC q.1) q.2.1 (Int64.ofInt q.2.2) ∈ lw_tbl := List.forall_mem_cons.mpr ⟨inC_200 _ List.mem_cons_self, List.forall_mem_cons.mpr ⟨inC_201 _ List.mem_cons_self, List.forall_mem_cons.mpr ⟨inC_202 _ List.mem_cons_self, List.forall_mem_cons.mpr ⟨inC_203 _ List.mem_cons_self, List.forall_mem_cons.mpr ⟨inC_204 _ List.mem_cons_self, List.forall_mem_cons.mpr ⟨inC_205 _ List.mem_cons_self, List.forall_mem_cons.mpr ⟨inC_206 _ List.mem_cons_self, fun _ h => absurd h List.not_mem_nil⟩⟩⟩⟩⟩⟩⟩
set_option maxRecDepth 100000 in
theorem inC_d : ∀ q ∈ mm_DT TC, Cond.constant (mm_cn TC q.1) q.2.1 (Int32.ofInt q.2.2) ∈ lw_tbl := List.forall_mem_cons.mpr ⟨inC_207 _ List.mem_cons_self, List.forall_mem_cons.mpr ⟨inC_208 _ List.mem_cons_self, List.forall_mem_cons.mpr ⟨inC_209 _ List.mem_cons_self, List.forall_mem_cons.mpr ⟨inC_210 _ List.mem_cons_self, fun _ h => absurd h List.not_mem_nil⟩⟩⟩⟩
set_option maxRecDepth 100000 in
theorem inC_j : ∀ q ∈ mm_JT TC, ∀ w ∈ mm_jw TC q, w ∈ lw_tbl := List.forall_mem_cons.mpr ⟨inC_211, List.forall_mem_cons.mpr ⟨inC_212, List.forall_mem_cons.mpr ⟨inC_213, List.forall_mem_cons.mpr ⟨inC_214, List.forall_mem_cons.mpr ⟨inC_215, fun _ h => absurd h List.not_mem_nil⟩⟩⟩⟩⟩
set_option maxRecDepth 100000 in
theorem inC_u : ∀ q ∈ mm_cl TC, ∀ w ∈ u_ws q.1 q.2.1 q.2.2, w ∈ lw_tbl := List.forall_mem_cons.mpr ⟨inC_216, List.forall_mem_cons.mpr ⟨inC_217, List.forall_mem_cons.mpr ⟨inC_218, List.forall_mem_cons.mpr ⟨inC_219, List.forall_mem_cons.mpr ⟨inC_220, List.forall_mem_cons.mpr ⟨inC_221, fun _ h => absurd h List.not_mem_nil⟩⟩⟩⟩⟩⟩
theorem inC : GoodIn lw_tbl (mm_tb TC) := mm_tb_in inC_m inC_f inC_c inC_l inC_d inC_j inC_u goodC
