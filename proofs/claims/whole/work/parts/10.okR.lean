/-! ===== the checks of the tables (R) ===== -/
set_option maxRecDepth 100000 in
theorem okX5_within : mm_mo TR mdX5_within := mm_mo_ok (by decide +kernel)
set_option maxRecDepth 100000 in
theorem okX5_isInt : mm_mo TR mdX5_isInt := mm_mo_ok (by decide +kernel)
set_option maxRecDepth 100000 in
theorem okX5_isScene : mm_mo TR mdX5_isScene := mm_mo_ok (by decide +kernel)
set_option maxRecDepth 100000 in
theorem okX5_isClue : mm_mo TR mdX5_isClue := mm_mo_ok (by decide +kernel)
set_option maxRecDepth 100000 in
theorem okX5_endOf : mm_mo TR mdX5_endOf := mm_mo_ok (by decide +kernel)
set_option maxRecDepth 100000 in
theorem okX5_scene : mm_mo TR mdX5_scene := mm_mo_ok (by decide +kernel)
set_option maxRecDepth 100000 in
theorem okX5_ofScene : mm_mo TR mdX5_ofScene := mm_mo_ok (by decide +kernel)
set_option maxRecDepth 100000 in
theorem okX5_mayMove : mm_mo TR mdX5_mayMove := mm_mo_ok (by decide +kernel)
set_option maxRecDepth 100000 in
theorem okX5_move : mm_mo TR mdX5_move := mm_mo_ok (by decide +kernel)
set_option maxRecDepth 100000 in
theorem okX5_shift : mm_mo TR mdX5_shift := mm_mo_ok (by decide +kernel)
set_option maxRecDepth 100000 in
theorem okX5_stretch : mm_mo TR mdX5_stretch := mm_mo_ok (by decide +kernel)
set_option maxRecDepth 100000 in
theorem okX5_clue : mm_mo TR mdX5_clue := mm_mo_ok (by decide +kernel)
set_option maxRecDepth 100000 in
theorem okX5_setOf : mm_mo TR mdX5_setOf := mm_mo_ok (by decide +kernel)
set_option maxRecDepth 100000 in
theorem okX5_ofClue : mm_mo TR mdX5_ofClue := mm_mo_ok (by decide +kernel)
set_option maxRecDepth 100000 in
theorem okX5_drop : mm_mo TR mdX5_drop := mm_mo_ok (by decide +kernel)
set_option maxRecDepth 100000 in
theorem okX5_fee : mm_mo TR mdX5_fee := mm_mo_ok (by decide +kernel)
set_option maxRecDepth 100000 in
theorem okX5_jumpOf : mm_mo TR mdX5_jumpOf := mm_mo_ok (by decide +kernel)
set_option maxRecDepth 100000 in
theorem okX5_jump : mm_mo TR mdX5_jump := mm_mo_ok (by decide +kernel)
set_option maxRecDepth 100000 in
theorem okX5_firstFrom : mm_mo TR mdX5_firstFrom := mm_mo_ok (by decide +kernel)
set_option maxRecDepth 100000 in
theorem okX5_lastEnd : mm_mo TR mdX5_lastEnd := mm_mo_ok (by decide +kernel)
set_option maxRecDepth 100000 in
theorem okX5_nextFrom : mm_mo TR mdX5_nextFrom := mm_mo_ok (by decide +kernel)
set_option maxRecDepth 100000 in
theorem okX5_toldTo : mm_mo TR mdX5_toldTo := mm_mo_ok (by decide +kernel)
set_option maxRecDepth 100000 in
theorem okX5_gaps : mm_mo TR mdX5_gaps := mm_mo_ok (by decide +kernel)
set_option maxRecDepth 100000 in
theorem okX5_span : mm_mo TR mdX5_span := mm_mo_ok (by decide +kernel)
set_option maxRecDepth 100000 in
theorem okX5_add : mm_mo TR mdX5_add := mm_mo_ok (by decide +kernel)
set_option maxRecDepth 100000 in
theorem okX5_cut : mm_mo TR mdX5_cut := mm_mo_ok (by decide +kernel)
set_option maxRecDepth 100000 in
theorem okX5_sideBy : mm_mo TR mdX5_sideBy := mm_mo_ok (by decide +kernel)
set_option maxRecDepth 100000 in
theorem okX5_isOnSide : mm_mo TR mdX5_isOnSide := mm_mo_ok (by decide +kernel)
set_option maxRecDepth 100000 in
theorem okX5_reasonOfScene : mm_mo TR mdX5_reasonOfScene := mm_mo_ok (by decide +kernel)
set_option maxRecDepth 100000 in
theorem okX5_reasonOf : mm_mo TR mdX5_reasonOf := mm_mo_ok (by decide +kernel)
set_option maxRecDepth 100000 in
theorem okX5_tells : mm_mo TR mdX5_tells := mm_mo_ok (by decide +kernel)
set_option maxRecDepth 100000 in
theorem okX5_opens : mm_mo TR mdX5_opens := mm_mo_ok (by decide +kernel)
set_option maxRecDepth 100000 in
theorem okX5_goesOn : mm_mo TR mdX5_goesOn := mm_mo_ok (by decide +kernel)
set_option maxRecDepth 100000 in
theorem okX5_looks : mm_mo TR mdX5_looks := mm_mo_ok (by decide +kernel)
set_option maxRecDepth 100000 in
theorem okX5_looksNow : mm_mo TR mdX5_looksNow := mm_mo_ok (by decide +kernel)
set_option maxRecDepth 100000 in
theorem okX5_judge : mm_mo TR mdX5_judge := mm_mo_ok (by decide +kernel)
set_option maxRecDepth 100000 in
theorem okX5_jumpsOf : mm_mo TR mdX5_jumpsOf := mm_mo_ok (by decide +kernel)
set_option maxRecDepth 100000 in
theorem okX5_jumps : mm_mo TR mdX5_jumps := mm_mo_ok (by decide +kernel)
set_option maxRecDepth 100000 in
theorem okX5_told : mm_mo TR mdX5_told := mm_mo_ok (by decide +kernel)
set_option maxRecDepth 100000 in
theorem okX5_mayCome : mm_mo TR mdX5_mayCome := mm_mo_ok (by decide +kernel)
set_option maxRecDepth 100000 in
theorem okX5_byNext : mm_mo TR mdX5_byNext := mm_mo_ok (by decide +kernel)
set_option maxRecDepth 100000 in
theorem okX5_findRest : mm_mo TR mdX5_findRest := mm_mo_ok (by decide +kernel)
set_option maxRecDepth 100000 in
theorem okX5_findOrder : mm_mo TR mdX5_findOrder := mm_mo_ok (by decide +kernel)
set_option maxRecDepth 100000 in
theorem okX5_order : mm_mo TR mdX5_order := mm_mo_ok (by decide +kernel)
set_option maxRecDepth 100000 in
theorem okX5_findRow : mm_mo TR mdX5_findRow := mm_mo_ok (by decide +kernel)
set_option maxRecDepth 100000 in
theorem okX5_puts : mm_mo TR mdX5_puts := mm_mo_ok (by decide +kernel)
set_option maxRecDepth 100000 in
theorem okX5_makes : mm_mo TR mdX5_makes := mm_mo_ok (by decide +kernel)
set_option maxRecDepth 100000 in
theorem okX5_depthAt : mm_mo TR mdX5_depthAt := mm_mo_ok (by decide +kernel)
set_option maxRecDepth 100000 in
theorem okX5_goesNext : mm_mo TR mdX5_goesNext := mm_mo_ok (by decide +kernel)
set_option maxRecDepth 100000 in
theorem okX5_keeps : mm_mo TR mdX5_keeps := mm_mo_ok (by decide +kernel)
set_option maxRecDepth 100000 in
theorem okX5_findFramed : mm_mo TR mdX5_findFramed := mm_mo_ok (by decide +kernel)
set_option maxRecDepth 100000 in
theorem okX5_framed : mm_mo TR mdX5_framed := mm_mo_ok (by decide +kernel)
set_option maxRecDepth 100000 in
theorem okX5_changes : mm_mo TR mdX5_changes := mm_mo_ok (by decide +kernel)
set_option maxRecDepth 100000 in
theorem okX5_untangled : mm_mo TR mdX5_untangled := mm_mo_ok (by decide +kernel)
set_option maxRecDepth 100000 in
theorem okX5_manyOpen : mm_mo TR mdX5_manyOpen := mm_mo_ok (by decide +kernel)
set_option maxRecDepth 100000 in
theorem okX5_many : mm_mo TR mdX5_many := mm_mo_ok (by decide +kernel)
set_option maxRecDepth 100000 in
theorem okR_ms : ∀ md ∈ msR, mm_mo TR md := List.forall_mem_cons.mpr ⟨okX5_within, List.forall_mem_cons.mpr ⟨okX5_isInt, List.forall_mem_cons.mpr ⟨okX5_isScene, List.forall_mem_cons.mpr ⟨okX5_isClue, List.forall_mem_cons.mpr ⟨okX5_endOf, List.forall_mem_cons.mpr ⟨okX5_scene, List.forall_mem_cons.mpr ⟨okX5_ofScene, List.forall_mem_cons.mpr ⟨okX5_mayMove, List.forall_mem_cons.mpr ⟨okX5_move, List.forall_mem_cons.mpr ⟨okX5_shift, List.forall_mem_cons.mpr ⟨okX5_stretch, List.forall_mem_cons.mpr ⟨okX5_clue, List.forall_mem_cons.mpr ⟨okX5_setOf, List.forall_mem_cons.mpr ⟨okX5_ofClue, List.forall_mem_cons.mpr ⟨okX5_drop, List.forall_mem_cons.mpr ⟨okX5_fee, List.forall_mem_cons.mpr ⟨okX5_jumpOf, List.forall_mem_cons.mpr ⟨okX5_jump, List.forall_mem_cons.mpr ⟨okX5_firstFrom, List.forall_mem_cons.mpr ⟨okX5_lastEnd, List.forall_mem_cons.mpr ⟨okX5_nextFrom, List.forall_mem_cons.mpr ⟨okX5_toldTo, List.forall_mem_cons.mpr ⟨okX5_gaps, List.forall_mem_cons.mpr ⟨okX5_span, List.forall_mem_cons.mpr ⟨okX5_add, List.forall_mem_cons.mpr ⟨okX5_cut, List.forall_mem_cons.mpr ⟨okX5_sideBy, List.forall_mem_cons.mpr ⟨okX5_isOnSide, List.forall_mem_cons.mpr ⟨okX5_reasonOfScene, List.forall_mem_cons.mpr ⟨okX5_reasonOf, List.forall_mem_cons.mpr ⟨okX5_tells, List.forall_mem_cons.mpr ⟨okX5_opens, List.forall_mem_cons.mpr ⟨okX5_goesOn, List.forall_mem_cons.mpr ⟨okX5_looks, List.forall_mem_cons.mpr ⟨okX5_looksNow, List.forall_mem_cons.mpr ⟨okX5_judge, List.forall_mem_cons.mpr ⟨okX5_jumpsOf, List.forall_mem_cons.mpr ⟨okX5_jumps, List.forall_mem_cons.mpr ⟨okX5_told, List.forall_mem_cons.mpr ⟨okX5_mayCome, List.forall_mem_cons.mpr ⟨okX5_byNext, List.forall_mem_cons.mpr ⟨okX5_findRest, List.forall_mem_cons.mpr ⟨okX5_findOrder, List.forall_mem_cons.mpr ⟨okX5_order, List.forall_mem_cons.mpr ⟨okX5_findRow, List.forall_mem_cons.mpr ⟨okX5_puts, List.forall_mem_cons.mpr ⟨okX5_makes, List.forall_mem_cons.mpr ⟨okX5_depthAt, List.forall_mem_cons.mpr ⟨okX5_goesNext, List.forall_mem_cons.mpr ⟨okX5_keeps, List.forall_mem_cons.mpr ⟨okX5_findFramed, List.forall_mem_cons.mpr ⟨okX5_framed, List.forall_mem_cons.mpr ⟨okX5_changes, List.forall_mem_cons.mpr ⟨okX5_untangled, List.forall_mem_cons.mpr ⟨okX5_manyOpen, List.forall_mem_cons.mpr ⟨okX5_many, fun _ h => absurd h List.not_mem_nil⟩⟩⟩⟩⟩⟩⟩⟩⟩⟩⟩⟩⟩⟩⟩⟩⟩⟩⟩⟩⟩⟩⟩⟩⟩⟩⟩⟩⟩⟩⟩⟩⟩⟩⟩⟩⟩⟩⟩⟩⟩⟩⟩⟩⟩⟩⟩⟩⟩⟩⟩⟩⟩⟩⟩⟩
set_option maxRecDepth 100000 in
theorem goodR : (mm_tb TR).all goodWord = true := by decide +kernel
set_option maxRecDepth 100000 in
theorem okR : mm_ok TR := mm_ok_of okR_ms (by decide +kernel) (by decide +kernel) (fun ci q h => by
  match ci, h with
  | 0, h => cases h; exact ⟨tyX0_ok, nmX0⟩
  | 1, h => cases h; exact ⟨tyX1_ok, nmX1⟩
  | 2, h => cases h; exact ⟨tyX2_ok, nmX2⟩
  | 3, h => cases h; exact ⟨tyX3_ok, nmX3⟩
  | 4, h => cases h; exact ⟨tyX4_ok, nmX4⟩
  | 5, h => cases h; exact ⟨tyX5_ok, nmX5⟩
  | ci + 6, h => simp [mm_cl, TR, vwCl] at h) goodR
set_option maxRecDepth 100000 in
theorem inR_0 : ∀ w ∈ [mm_mw mdX5_within], w ∈ lw_tbl := mm_mem [683] (rfl)
set_option maxRecDepth 100000 in
theorem inR_1 : ∀ w ∈ [mm_mw mdX5_isInt], w ∈ lw_tbl := mm_mem [686] (rfl)
set_option maxRecDepth 100000 in
theorem inR_2 : ∀ w ∈ [mm_mw mdX5_isScene], w ∈ lw_tbl := mm_mem [696] (rfl)
set_option maxRecDepth 100000 in
theorem inR_3 : ∀ w ∈ [mm_mw mdX5_isClue], w ∈ lw_tbl := mm_mem [724] (rfl)
set_option maxRecDepth 100000 in
theorem inR_4 : ∀ w ∈ [mm_mw mdX5_endOf], w ∈ lw_tbl := mm_mem [701] (rfl)
set_option maxRecDepth 100000 in
theorem inR_5 : ∀ w ∈ [mm_mw mdX5_scene], w ∈ lw_tbl := mm_mem [680] (rfl)
set_option maxRecDepth 100000 in
theorem inR_6 : ∀ w ∈ [mm_mw mdX5_ofScene], w ∈ lw_tbl := mm_mem [692] (rfl)
set_option maxRecDepth 100000 in
theorem inR_7 : ∀ w ∈ [mm_mw mdX5_mayMove], w ∈ lw_tbl := mm_mem [709] (rfl)
set_option maxRecDepth 100000 in
theorem inR_8 : ∀ w ∈ [mm_mw mdX5_move], w ∈ lw_tbl := mm_mem [705] (rfl)
set_option maxRecDepth 100000 in
theorem inR_9 : ∀ w ∈ [mm_mw mdX5_shift], w ∈ lw_tbl := mm_mem [713] (rfl)
set_option maxRecDepth 100000 in
theorem inR_10 : ∀ w ∈ [mm_mw mdX5_stretch], w ∈ lw_tbl := mm_mem [717] (rfl)
set_option maxRecDepth 100000 in
theorem inR_11 : ∀ w ∈ [mm_mw mdX5_clue], w ∈ lw_tbl := mm_mem [721] (rfl)
set_option maxRecDepth 100000 in
theorem inR_12 : ∀ w ∈ [mm_mw mdX5_setOf], w ∈ lw_tbl := mm_mem [732] (rfl)
set_option maxRecDepth 100000 in
theorem inR_13 : ∀ w ∈ [mm_mw mdX5_ofClue], w ∈ lw_tbl := mm_mem [728] (rfl)
set_option maxRecDepth 100000 in
theorem inR_14 : ∀ w ∈ [mm_mw mdX5_drop], w ∈ lw_tbl := mm_mem [736] (rfl)
set_option maxRecDepth 100000 in
theorem inR_15 : ∀ w ∈ [mm_mw mdX5_fee], w ∈ lw_tbl := mm_mem [740] (rfl)
set_option maxRecDepth 100000 in
theorem inR_16 : ∀ w ∈ [mm_mw mdX5_jumpOf], w ∈ lw_tbl := mm_mem [749] (rfl)
set_option maxRecDepth 100000 in
theorem inR_17 : ∀ w ∈ [mm_mw mdX5_jump], w ∈ lw_tbl := mm_mem [745] (rfl)
set_option maxRecDepth 100000 in
theorem inR_18 : ∀ w ∈ [mm_mw mdX5_firstFrom], w ∈ lw_tbl := mm_mem [761] (rfl)
set_option maxRecDepth 100000 in
theorem inR_19 : ∀ w ∈ [mm_mw mdX5_lastEnd], w ∈ lw_tbl := mm_mem [757] (rfl)
set_option maxRecDepth 100000 in
theorem inR_20 : ∀ w ∈ [mm_mw mdX5_nextFrom], w ∈ lw_tbl := mm_mem [773] (rfl)
set_option maxRecDepth 100000 in
theorem inR_21 : ∀ w ∈ [mm_mw mdX5_toldTo], w ∈ lw_tbl := mm_mem [769] (rfl)
set_option maxRecDepth 100000 in
theorem inR_22 : ∀ w ∈ [mm_mw mdX5_gaps], w ∈ lw_tbl := mm_mem [765] (rfl)
set_option maxRecDepth 100000 in
theorem inR_23 : ∀ w ∈ [mm_mw mdX5_span], w ∈ lw_tbl := mm_mem [753] (rfl)
set_option maxRecDepth 100000 in
theorem inR_24 : ∀ w ∈ [mm_mw mdX5_add], w ∈ lw_tbl := mm_mem [777] (rfl)
set_option maxRecDepth 100000 in
theorem inR_25 : ∀ w ∈ [mm_mw mdX5_cut], w ∈ lw_tbl := mm_mem [781] (rfl)
set_option maxRecDepth 100000 in
theorem inR_26 : ∀ w ∈ [mm_mw mdX5_sideBy], w ∈ lw_tbl := mm_mem [809] (rfl)
set_option maxRecDepth 100000 in
theorem inR_27 : ∀ w ∈ [mm_mw mdX5_isOnSide], w ∈ lw_tbl := mm_mem [805] (rfl)
set_option maxRecDepth 100000 in
theorem inR_28 : ∀ w ∈ [mm_mw mdX5_reasonOfScene], w ∈ lw_tbl := mm_mem [801] (rfl)
set_option maxRecDepth 100000 in
theorem inR_29 : ∀ w ∈ [mm_mw mdX5_reasonOf], w ∈ lw_tbl := mm_mem [797] (rfl)
set_option maxRecDepth 100000 in
theorem inR_30 : ∀ w ∈ [mm_mw mdX5_tells], w ∈ lw_tbl := mm_mem [821] (rfl)
set_option maxRecDepth 100000 in
theorem inR_31 : ∀ w ∈ [mm_mw mdX5_opens], w ∈ lw_tbl := mm_mem [817] (rfl)
set_option maxRecDepth 100000 in
theorem inR_32 : ∀ w ∈ [mm_mw mdX5_goesOn], w ∈ lw_tbl := mm_mem [813] (rfl)
set_option maxRecDepth 100000 in
theorem inR_33 : ∀ w ∈ [mm_mw mdX5_looks], w ∈ lw_tbl := mm_mem [793] (rfl)
set_option maxRecDepth 100000 in
theorem inR_34 : ∀ w ∈ [mm_mw mdX5_looksNow], w ∈ lw_tbl := mm_mem [789] (rfl)
set_option maxRecDepth 100000 in
theorem inR_35 : ∀ w ∈ [mm_mw mdX5_judge], w ∈ lw_tbl := mm_mem [785] (rfl)
set_option maxRecDepth 100000 in
theorem inR_36 : ∀ w ∈ [mm_mw mdX5_jumpsOf], w ∈ lw_tbl := mm_mem [828] (rfl)
set_option maxRecDepth 100000 in
theorem inR_37 : ∀ w ∈ [mm_mw mdX5_jumps], w ∈ lw_tbl := mm_mem [825] (rfl)
set_option maxRecDepth 100000 in
theorem inR_38 : ∀ w ∈ [mm_mw mdX5_told], w ∈ lw_tbl := mm_mem [832] (rfl)
set_option maxRecDepth 100000 in
theorem inR_39 : ∀ w ∈ [mm_mw mdX5_mayCome], w ∈ lw_tbl := mm_mem [849] (rfl)
set_option maxRecDepth 100000 in
theorem inR_40 : ∀ w ∈ [mm_mw mdX5_byNext], w ∈ lw_tbl := mm_mem [853] (rfl)
set_option maxRecDepth 100000 in
theorem inR_41 : ∀ w ∈ [mm_mw mdX5_findRest], w ∈ lw_tbl := mm_mem [844] (rfl)
set_option maxRecDepth 100000 in
theorem inR_42 : ∀ w ∈ [mm_mw mdX5_findOrder], w ∈ lw_tbl := mm_mem [840] (rfl)
set_option maxRecDepth 100000 in
theorem inR_43 : ∀ w ∈ [mm_mw mdX5_order], w ∈ lw_tbl := mm_mem [836] (rfl)
set_option maxRecDepth 100000 in
theorem inR_44 : ∀ w ∈ [mm_mw mdX5_findRow], w ∈ lw_tbl := mm_mem [861] (rfl)
set_option maxRecDepth 100000 in
theorem inR_45 : ∀ w ∈ [mm_mw mdX5_puts], w ∈ lw_tbl := mm_mem [873] (rfl)
set_option maxRecDepth 100000 in
theorem inR_46 : ∀ w ∈ [mm_mw mdX5_makes], w ∈ lw_tbl := mm_mem [869] (rfl)
set_option maxRecDepth 100000 in
theorem inR_47 : ∀ w ∈ [mm_mw mdX5_depthAt], w ∈ lw_tbl := mm_mem [885] (rfl)
set_option maxRecDepth 100000 in
theorem inR_48 : ∀ w ∈ [mm_mw mdX5_goesNext], w ∈ lw_tbl := mm_mem [881] (rfl)
set_option maxRecDepth 100000 in
theorem inR_49 : ∀ w ∈ [mm_mw mdX5_keeps], w ∈ lw_tbl := mm_mem [877] (rfl)
set_option maxRecDepth 100000 in
theorem inR_50 : ∀ w ∈ [mm_mw mdX5_findFramed], w ∈ lw_tbl := mm_mem [865] (rfl)
set_option maxRecDepth 100000 in
theorem inR_51 : ∀ w ∈ [mm_mw mdX5_framed], w ∈ lw_tbl := mm_mem [857] (rfl)
set_option maxRecDepth 100000 in
theorem inR_52 : ∀ w ∈ [mm_mw mdX5_changes], w ∈ lw_tbl := mm_mem [893] (rfl)
set_option maxRecDepth 100000 in
theorem inR_53 : ∀ w ∈ [mm_mw mdX5_untangled], w ∈ lw_tbl := mm_mem [889] (rfl)
set_option maxRecDepth 100000 in
theorem inR_54 : ∀ w ∈ [mm_mw mdX5_manyOpen], w ∈ lw_tbl := mm_mem [901] (rfl)
set_option maxRecDepth 100000 in
theorem inR_55 : ∀ w ∈ [mm_mw mdX5_many], w ∈ lw_tbl := mm_mem [897] (rfl)
set_option maxRecDepth 100000 in
theorem inR_56 : ∀ w ∈ [mm_fw TR (5, 73, 0, 0)], w ∈ lw_tbl := mm_mem [574] (rfl)
set_option maxRecDepth 100000 in
theorem inR_57 : ∀ w ∈ [mm_fw TR (5, 7, 0, 1)], w ∈ lw_tbl := mm_mem [575] (rfl)
set_option maxRecDepth 100000 in
theorem inR_58 : ∀ w ∈ [mm_fw TR (5, 13, 0, 2)], w ∈ lw_tbl := mm_mem [576] (rfl)
set_option maxRecDepth 100000 in
theorem inR_59 : ∀ w ∈ [mm_fw TR (5, 16, 0, 3)], w ∈ lw_tbl := mm_mem [577] (rfl)
set_option maxRecDepth 100000 in
theorem inR_60 : ∀ w ∈ [mm_fw TR (5, 19, 0, 4)], w ∈ lw_tbl := mm_mem [578] (rfl)
set_option maxRecDepth 100000 in
theorem inR_61 : ∀ w ∈ [mm_fw TR (5, 22, 0, 5)], w ∈ lw_tbl := mm_mem [579] (rfl)
set_option maxRecDepth 100000 in
theorem inR_62 : ∀ w ∈ [mm_fw TR (5, 127, 0, 6)], w ∈ lw_tbl := mm_mem [580] (rfl)
set_option maxRecDepth 100000 in
theorem inR_63 : ∀ w ∈ [mm_fw TR (5, 26, 0, 7)], w ∈ lw_tbl := mm_mem [581] (rfl)
set_option maxRecDepth 100000 in
theorem inR_64 : ∀ w ∈ [mm_fw TR (5, 130, 0, 9)], w ∈ lw_tbl := mm_mem [583] (rfl)
set_option maxRecDepth 100000 in
theorem inR_65 : ∀ w ∈ [mm_fw TR (5, 32, 0, 11)], w ∈ lw_tbl := mm_mem [585] (rfl)
set_option maxRecDepth 100000 in
theorem inR_66 : ∀ w ∈ [mm_fw TR (5, 29, 0, 10)], w ∈ lw_tbl := mm_mem [584] (rfl)
set_option maxRecDepth 100000 in
theorem inR_67 : ∀ w ∈ [mm_fw TR (5, 35, 0, 12)], w ∈ lw_tbl := mm_mem [586] (rfl)
set_option maxRecDepth 100000 in
theorem inR_68 : ∀ w ∈ [mm_fw TR (5, 136, 0, 18)], w ∈ lw_tbl := mm_mem [592] (rfl)
set_option maxRecDepth 100000 in
theorem inR_69 : ∀ w ∈ [mm_fw TR (5, 139, 0, 19)], w ∈ lw_tbl := mm_mem [593] (rfl)
set_option maxRecDepth 100000 in
theorem inR_70 : ∀ w ∈ [mm_fw TR (5, 149, 0, 20)], w ∈ lw_tbl := mm_mem [594] (rfl)
set_option maxRecDepth 100000 in
theorem inR_71 : ∀ w ∈ [mm_fw TR (5, 38, 0, 21)], w ∈ lw_tbl := mm_mem [595] (rfl)
set_option maxRecDepth 100000 in
theorem inR_72 : ∀ w ∈ [mm_fw TR (5, 153, 0, 17)], w ∈ lw_tbl := mm_mem [591] (rfl)
set_option maxRecDepth 100000 in
theorem inR_73 : ∀ w ∈ [mm_fw TR (5, 41, 0, 22)], w ∈ lw_tbl := mm_mem [596] (rfl)
set_option maxRecDepth 100000 in
theorem inR_74 : ∀ w ∈ [mm_fw TR (5, 44, 0, 23)], w ∈ lw_tbl := mm_mem [597] (rfl)
set_option maxRecDepth 100000 in
theorem inR_75 : ∀ w ∈ [mm_fw TR (5, 47, 0, 24)], w ∈ lw_tbl := mm_mem [598] (rfl)
set_option maxRecDepth 100000 in
theorem inR_76 : ∀ w ∈ [mm_fw TR (5, 156, 0, 15)], w ∈ lw_tbl := mm_mem [589] (rfl)
set_option maxRecDepth 100000 in
theorem inR_77 : ∀ w ∈ [mm_fw TR (5, 159, 0, 16)], w ∈ lw_tbl := mm_mem [590] (rfl)
set_option maxRecDepth 100000 in
theorem inR_78 : ∀ w ∈ [mm_fw TR (5, 169, 0, 13)], w ∈ lw_tbl := mm_mem [587] (rfl)
set_option maxRecDepth 100000 in
theorem inR_79 : ∀ w ∈ [mm_fw TR (5, 172, 0, 14)], w ∈ lw_tbl := mm_mem [588] (rfl)
set_option maxRecDepth 100000 in
theorem inR_80 : ∀ w ∈ [mm_fw TR (5, 181, 0, 8)], w ∈ lw_tbl := mm_mem [582] (rfl)
set_option maxRecDepth 100000 in
theorem inR_81 : ∀ w ∈ [mm_fw TR (5, 50, 0, 25)], w ∈ lw_tbl := mm_mem [599] (rfl)
set_option maxRecDepth 100000 in
theorem inR_82 : ∀ w ∈ [mm_fw TR (5, 54, 0, 26)], w ∈ lw_tbl := mm_mem [600] (rfl)
set_option maxRecDepth 100000 in
theorem inR_83 : ∀ w ∈ [mm_fw TR (5, 210, 0, 27)], w ∈ lw_tbl := mm_mem [601] (rfl)
set_option maxRecDepth 100000 in
theorem inR_84 : ∀ w ∈ [mm_fw TR (5, 57, 0, 28)], w ∈ lw_tbl := mm_mem [602] (rfl)
set_option maxRecDepth 100000 in
theorem inR_85 : ∀ w ∈ [mm_fw TR (5, 63, 0, 30)], w ∈ lw_tbl := mm_mem [604] (rfl)
set_option maxRecDepth 100000 in
theorem inR_86 : ∀ w ∈ [mm_fw TR (5, 213, 0, 31)], w ∈ lw_tbl := mm_mem [605] (rfl)
set_option maxRecDepth 100000 in
theorem inR_87 : ∀ w ∈ [mm_fw TR (5, 60, 0, 29)], w ∈ lw_tbl := mm_mem [603] (rfl)
set_option maxRecDepth 100000 in
theorem inR_88 : ∀ w ∈ [mm_fw TR (5, 222, 0, 33)], w ∈ lw_tbl := mm_mem [607] (rfl)
set_option maxRecDepth 100000 in
theorem inR_89 : ∀ w ∈ [mm_fw TR (5, 66, 0, 32)], w ∈ lw_tbl := mm_mem [606] (rfl)
set_option maxRecDepth 100000 in
theorem inR_90 : ∀ w ∈ mm_cw TR (5, 76, 1, 0, 0), w ∈ lw_tbl := mm_mem [681, 682, 61] (rfl)
set_option maxRecDepth 100000 in
theorem inR_91 : ∀ w ∈ mm_cw TR (5, 80, 1, 1, 0), w ∈ lw_tbl := mm_mem [684, 685, 61] (rfl)
set_option maxRecDepth 100000 in
theorem inR_92 : ∀ w ∈ mm_cw TR (5, 84, 0, 2, 0), w ∈ lw_tbl := mm_mem [693, 695, 23, 61] (rfl)
set_option maxRecDepth 100000 in
theorem inR_93 : ∀ w ∈ mm_cw TR (5, 90, 0, 4, 0), w ∈ lw_tbl := mm_mem [698, 700, 24, 61] (rfl)
set_option maxRecDepth 100000 in
theorem inR_94 : ∀ w ∈ mm_cw TR (5, 94, 0, 7, 0), w ∈ lw_tbl := mm_mem [706, 708, 25, 61] (rfl)
set_option maxRecDepth 100000 in
theorem inR_95 : ∀ w ∈ mm_cw TR (5, 98, 1, 3, 0), w ∈ lw_tbl := mm_mem [722, 723, 61] (rfl)
set_option maxRecDepth 100000 in
theorem inR_96 : ∀ w ∈ mm_cw TR (5, 101, 0, 12, 0), w ∈ lw_tbl := mm_mem [729, 731, 26, 61] (rfl)
set_option maxRecDepth 100000 in
theorem inR_97 : ∀ w ∈ mm_cw TR (5, 106, 0, 16, 0), w ∈ lw_tbl := mm_mem [746, 748, 27, 61] (rfl)
set_option maxRecDepth 100000 in
theorem inR_98 : ∀ w ∈ mm_cw TR (5, 110, 0, 19, 0), w ∈ lw_tbl := mm_mem [754, 756, 28, 61] (rfl)
set_option maxRecDepth 100000 in
theorem inR_99 : ∀ w ∈ mm_cw TR (5, 114, 0, 18, 0), w ∈ lw_tbl := mm_mem [758, 760, 29, 61] (rfl)
set_option maxRecDepth 100000 in
theorem inR_100 : ∀ w ∈ mm_cw TR (5, 117, 0, 21, 0), w ∈ lw_tbl := mm_mem [766, 768, 31, 61] (rfl)
set_option maxRecDepth 100000 in
theorem inR_101 : ∀ w ∈ mm_cw TR (5, 121, 0, 20, 0), w ∈ lw_tbl := mm_mem [770, 772, 32, 61] (rfl)
set_option maxRecDepth 100000 in
theorem inR_102 : ∀ w ∈ mm_cw TR (5, 124, 0, 22, 0), w ∈ lw_tbl := mm_mem [762, 764, 30, 61] (rfl)
set_option maxRecDepth 100000 in
theorem inR_103 : ∀ w ∈ mm_cw TR (5, 133, 0, 26, 0), w ∈ lw_tbl := mm_mem [806, 808, 38, 61] (rfl)
set_option maxRecDepth 100000 in
theorem inR_104 : ∀ w ∈ mm_cw TR (5, 142, 0, 27, 0), w ∈ lw_tbl := mm_mem [802, 804, 37, 61] (rfl)
set_option maxRecDepth 100000 in
theorem inR_105 : ∀ w ∈ mm_cw TR (5, 145, 0, 28, 0), w ∈ lw_tbl := mm_mem [798, 800, 36, 61] (rfl)
set_option maxRecDepth 100000 in
theorem inR_106 : ∀ w ∈ mm_cw TR (5, 162, 0, 31, 0), w ∈ lw_tbl := mm_mem [814, 816, 40, 61] (rfl)
set_option maxRecDepth 100000 in
theorem inR_107 : ∀ w ∈ mm_cw TR (5, 165, 0, 30, 0), w ∈ lw_tbl := mm_mem [818, 820, 41, 61] (rfl)
set_option maxRecDepth 100000 in
theorem inR_108 : ∀ w ∈ mm_cw TR (5, 175, 0, 29, 0), w ∈ lw_tbl := mm_mem [794, 796, 35, 61] (rfl)
set_option maxRecDepth 100000 in
theorem inR_109 : ∀ w ∈ mm_cw TR (5, 178, 0, 32, 0), w ∈ lw_tbl := mm_mem [810, 812, 39, 61] (rfl)
set_option maxRecDepth 100000 in
theorem inR_110 : ∀ w ∈ mm_cw TR (5, 184, 0, 33, 0), w ∈ lw_tbl := mm_mem [790, 792, 34, 61] (rfl)
set_option maxRecDepth 100000 in
theorem inR_111 : ∀ w ∈ mm_cw TR (5, 188, 0, 34, 0), w ∈ lw_tbl := mm_mem [786, 788, 33, 61] (rfl)
set_option maxRecDepth 100000 in
theorem inR_112 : ∀ w ∈ mm_cw TR (5, 191, 1, 36, 0), w ∈ lw_tbl := mm_mem [826, 827, 61] (rfl)
set_option maxRecDepth 100000 in
theorem inR_113 : ∀ w ∈ mm_cw TR (5, 197, 0, 39, 0), w ∈ lw_tbl := mm_mem [846, 848, 44, 61] (rfl)
set_option maxRecDepth 100000 in
theorem inR_114 : ∀ w ∈ mm_cw TR (5, 200, 0, 40, 0), w ∈ lw_tbl := mm_mem [850, 852, 45, 61] (rfl)
set_option maxRecDepth 100000 in
theorem inR_115 : ∀ w ∈ mm_cw TR (5, 204, 0, 41, 0), w ∈ lw_tbl := mm_mem [841, 843, 43, 61] (rfl)
set_option maxRecDepth 100000 in
theorem inR_116 : ∀ w ∈ mm_cw TR (5, 207, 0, 42, 0), w ∈ lw_tbl := mm_mem [837, 839, 42, 61] (rfl)
set_option maxRecDepth 100000 in
theorem inR_117 : ∀ w ∈ mm_cw TR (5, 216, 0, 45, 0), w ∈ lw_tbl := mm_mem [870, 872, 49, 61] (rfl)
set_option maxRecDepth 100000 in
theorem inR_118 : ∀ w ∈ mm_cw TR (5, 219, 0, 47, 0), w ∈ lw_tbl := mm_mem [882, 884, 52, 61] (rfl)
set_option maxRecDepth 100000 in
theorem inR_119 : ∀ w ∈ mm_cw TR (5, 225, 0, 46, 0), w ∈ lw_tbl := mm_mem [866, 868, 48, 61] (rfl)
set_option maxRecDepth 100000 in
theorem inR_120 : ∀ w ∈ mm_cw TR (5, 228, 0, 49, 0), w ∈ lw_tbl := mm_mem [874, 876, 50, 61] (rfl)
set_option maxRecDepth 100000 in
theorem inR_121 : ∀ w ∈ mm_cw TR (5, 231, 0, 48, 0), w ∈ lw_tbl := mm_mem [878, 880, 51, 61] (rfl)
set_option maxRecDepth 100000 in
theorem inR_122 : ∀ w ∈ mm_cw TR (5, 235, 0, 44, 0), w ∈ lw_tbl := mm_mem [858, 860, 46, 61] (rfl)
set_option maxRecDepth 100000 in
theorem inR_123 : ∀ w ∈ mm_cw TR (5, 238, 0, 50, 0), w ∈ lw_tbl := mm_mem [862, 864, 47, 61] (rfl)
set_option maxRecDepth 100000 in
theorem inR_124 : ∀ w ∈ mm_cw TR (5, 241, 0, 52, 0), w ∈ lw_tbl := mm_mem [890, 892, 53, 61] (rfl)
set_option maxRecDepth 100000 in
theorem inR_125 : ∀ w ∈ mm_cw TR (5, 244, 0, 54, 0), w ∈ lw_tbl := mm_mem [898, 900, 54, 61] (rfl)
set_option maxRecDepth 100000 in
theorem inR_126 : ∀ w ∈ [Cond.constantLong (mm_cn TR 5) 69 (Int64.ofInt (2147483647))], w ∈ lw_tbl := mm_mem [687] (by decide +kernel)
set_option maxRecDepth 100000 in
theorem inR_127 : ∀ w ∈ [Cond.constantLong (mm_cn TR 5) 71 (Int64.ofInt (-2147483648))], w ∈ lw_tbl := mm_mem [688] (by decide +kernel)
set_option maxRecDepth 100000 in
theorem inR_128 : ∀ w ∈ [Cond.constantLong (mm_cn TR 5) 88 (Int64.ofInt (-9223372036854775808))], w ∈ lw_tbl := mm_mem [697] (by decide +kernel)
set_option maxRecDepth 100000 in
theorem inR_129 : ∀ w ∈ [Cond.constantLong (mm_cn TR 5) 195 (Int64.ofInt (1000000000000))], w ∈ lw_tbl := mm_mem [845] (by decide +kernel)
set_option maxRecDepth 100000 in
theorem inR_130 : ∀ w ∈ [Cond.constant (mm_cn TR 5) 105 (Int32.ofInt (1000000))], w ∈ lw_tbl := mm_mem [741] (by decide +kernel)
set_option maxRecDepth 100000 in
theorem inR_131 : ∀ w ∈ u_ws RX0 TX0 5, w ∈ lw_tbl := mm_mem [93, 95, 97, 99, 101] (by decide +kernel)
set_option maxRecDepth 100000 in
theorem inR_132 : ∀ w ∈ u_ws RX1 TX1 11, w ∈ lw_tbl := mm_mem [216, 218, 220, 222, 224, 226, 228, 230, 232, 234, 236] (by decide +kernel)
set_option maxRecDepth 100000 in
theorem inR_133 : ∀ w ∈ u_ws RX2 TX2 5, w ∈ lw_tbl := mm_mem [183, 185, 187, 189, 191] (by decide +kernel)
set_option maxRecDepth 100000 in
theorem inR_134 : ∀ w ∈ u_ws RX3 TX3 15, w ∈ lw_tbl := mm_mem [137, 139, 141, 143, 145, 147, 149, 151, 153, 155, 157, 159, 161, 163, 165] (by decide +kernel)
set_option maxRecDepth 100000 in
theorem inR_135 : ∀ w ∈ u_ws RX4 TX4 9, w ∈ lw_tbl := mm_mem [248, 250, 252, 254, 256, 258, 260, 262, 264] (by decide +kernel)
set_option maxRecDepth 100000 in
theorem inR_136 : ∀ w ∈ u_ws RX5 TX5 34, w ∈ lw_tbl := mm_mem [608, 610, 612, 614, 616, 618, 620, 622, 624, 626, 628, 630, 632, 634, 636, 638, 640, 642, 644, 646, 648, 650, 652, 654, 656, 658, 660, 662, 664, 666, 668, 670, 672, 674] (by decide +kernel)
set_option maxRecDepth 100000 in
theorem inR_m : ∀ q ∈ mm_ms TR, mm_mw q ∈ lw_tbl := List.forall_mem_cons.mpr ⟨inR_0 _ List.mem_cons_self, List.forall_mem_cons.mpr ⟨inR_1 _ List.mem_cons_self, List.forall_mem_cons.mpr ⟨inR_2 _ List.mem_cons_self, List.forall_mem_cons.mpr ⟨inR_3 _ List.mem_cons_self, List.forall_mem_cons.mpr ⟨inR_4 _ List.mem_cons_self, List.forall_mem_cons.mpr ⟨inR_5 _ List.mem_cons_self, List.forall_mem_cons.mpr ⟨inR_6 _ List.mem_cons_self, List.forall_mem_cons.mpr ⟨inR_7 _ List.mem_cons_self, List.forall_mem_cons.mpr ⟨inR_8 _ List.mem_cons_self, List.forall_mem_cons.mpr ⟨inR_9 _ List.mem_cons_self, List.forall_mem_cons.mpr ⟨inR_10 _ List.mem_cons_self, List.forall_mem_cons.mpr ⟨inR_11 _ List.mem_cons_self, List.forall_mem_cons.mpr ⟨inR_12 _ List.mem_cons_self, List.forall_mem_cons.mpr ⟨inR_13 _ List.mem_cons_self, List.forall_mem_cons.mpr ⟨inR_14 _ List.mem_cons_self, List.forall_mem_cons.mpr ⟨inR_15 _ List.mem_cons_self, List.forall_mem_cons.mpr ⟨inR_16 _ List.mem_cons_self, List.forall_mem_cons.mpr ⟨inR_17 _ List.mem_cons_self, List.forall_mem_cons.mpr ⟨inR_18 _ List.mem_cons_self, List.forall_mem_cons.mpr ⟨inR_19 _ List.mem_cons_self, List.forall_mem_cons.mpr ⟨inR_20 _ List.mem_cons_self, List.forall_mem_cons.mpr ⟨inR_21 _ List.mem_cons_self, List.forall_mem_cons.mpr ⟨inR_22 _ List.mem_cons_self, List.forall_mem_cons.mpr ⟨inR_23 _ List.mem_cons_self, List.forall_mem_cons.mpr ⟨inR_24 _ List.mem_cons_self, List.forall_mem_cons.mpr ⟨inR_25 _ List.mem_cons_self, List.forall_mem_cons.mpr ⟨inR_26 _ List.mem_cons_self, List.forall_mem_cons.mpr ⟨inR_27 _ List.mem_cons_self, List.forall_mem_cons.mpr ⟨inR_28 _ List.mem_cons_self, List.forall_mem_cons.mpr ⟨inR_29 _ List.mem_cons_self, List.forall_mem_cons.mpr ⟨inR_30 _ List.mem_cons_self, List.forall_mem_cons.mpr ⟨inR_31 _ List.mem_cons_self, List.forall_mem_cons.mpr ⟨inR_32 _ List.mem_cons_self, List.forall_mem_cons.mpr ⟨inR_33 _ List.mem_cons_self, List.forall_mem_cons.mpr ⟨inR_34 _ List.mem_cons_self, List.forall_mem_cons.mpr ⟨inR_35 _ List.mem_cons_self, List.forall_mem_cons.mpr ⟨inR_36 _ List.mem_cons_self, List.forall_mem_cons.mpr ⟨inR_37 _ List.mem_cons_self, List.forall_mem_cons.mpr ⟨inR_38 _ List.mem_cons_self, List.forall_mem_cons.mpr ⟨inR_39 _ List.mem_cons_self, List.forall_mem_cons.mpr ⟨inR_40 _ List.mem_cons_self, List.forall_mem_cons.mpr ⟨inR_41 _ List.mem_cons_self, List.forall_mem_cons.mpr ⟨inR_42 _ List.mem_cons_self, List.forall_mem_cons.mpr ⟨inR_43 _ List.mem_cons_self, List.forall_mem_cons.mpr ⟨inR_44 _ List.mem_cons_self, List.forall_mem_cons.mpr ⟨inR_45 _ List.mem_cons_self, List.forall_mem_cons.mpr ⟨inR_46 _ List.mem_cons_self, List.forall_mem_cons.mpr ⟨inR_47 _ List.mem_cons_self, List.forall_mem_cons.mpr ⟨inR_48 _ List.mem_cons_self, List.forall_mem_cons.mpr ⟨inR_49 _ List.mem_cons_self, List.forall_mem_cons.mpr ⟨inR_50 _ List.mem_cons_self, List.forall_mem_cons.mpr ⟨inR_51 _ List.mem_cons_self, List.forall_mem_cons.mpr ⟨inR_52 _ List.mem_cons_self, List.forall_mem_cons.mpr ⟨inR_53 _ List.mem_cons_self, List.forall_mem_cons.mpr ⟨inR_54 _ List.mem_cons_self, List.forall_mem_cons.mpr ⟨inR_55 _ List.mem_cons_self, fun _ h => absurd h List.not_mem_nil⟩⟩⟩⟩⟩⟩⟩⟩⟩⟩⟩⟩⟩⟩⟩⟩⟩⟩⟩⟩⟩⟩⟩⟩⟩⟩⟩⟩⟩⟩⟩⟩⟩⟩⟩⟩⟩⟩⟩⟩⟩⟩⟩⟩⟩⟩⟩⟩⟩⟩⟩⟩⟩⟩⟩⟩
set_option maxRecDepth 100000 in
theorem inR_f : ∀ q ∈ mm_FT TR, mm_fw TR q ∈ lw_tbl := List.forall_mem_cons.mpr ⟨inR_56 _ List.mem_cons_self, List.forall_mem_cons.mpr ⟨inR_57 _ List.mem_cons_self, List.forall_mem_cons.mpr ⟨inR_58 _ List.mem_cons_self, List.forall_mem_cons.mpr ⟨inR_59 _ List.mem_cons_self, List.forall_mem_cons.mpr ⟨inR_60 _ List.mem_cons_self, List.forall_mem_cons.mpr ⟨inR_61 _ List.mem_cons_self, List.forall_mem_cons.mpr ⟨inR_62 _ List.mem_cons_self, List.forall_mem_cons.mpr ⟨inR_63 _ List.mem_cons_self, List.forall_mem_cons.mpr ⟨inR_64 _ List.mem_cons_self, List.forall_mem_cons.mpr ⟨inR_65 _ List.mem_cons_self, List.forall_mem_cons.mpr ⟨inR_66 _ List.mem_cons_self, List.forall_mem_cons.mpr ⟨inR_67 _ List.mem_cons_self, List.forall_mem_cons.mpr ⟨inR_68 _ List.mem_cons_self, List.forall_mem_cons.mpr ⟨inR_69 _ List.mem_cons_self, List.forall_mem_cons.mpr ⟨inR_70 _ List.mem_cons_self, List.forall_mem_cons.mpr ⟨inR_71 _ List.mem_cons_self, List.forall_mem_cons.mpr ⟨inR_72 _ List.mem_cons_self, List.forall_mem_cons.mpr ⟨inR_73 _ List.mem_cons_self, List.forall_mem_cons.mpr ⟨inR_74 _ List.mem_cons_self, List.forall_mem_cons.mpr ⟨inR_75 _ List.mem_cons_self, List.forall_mem_cons.mpr ⟨inR_76 _ List.mem_cons_self, List.forall_mem_cons.mpr ⟨inR_77 _ List.mem_cons_self, List.forall_mem_cons.mpr ⟨inR_78 _ List.mem_cons_self, List.forall_mem_cons.mpr ⟨inR_79 _ List.mem_cons_self, List.forall_mem_cons.mpr ⟨inR_80 _ List.mem_cons_self, List.forall_mem_cons.mpr ⟨inR_81 _ List.mem_cons_self, List.forall_mem_cons.mpr ⟨inR_82 _ List.mem_cons_self, List.forall_mem_cons.mpr ⟨inR_83 _ List.mem_cons_self, List.forall_mem_cons.mpr ⟨inR_84 _ List.mem_cons_self, List.forall_mem_cons.mpr ⟨inR_85 _ List.mem_cons_self, List.forall_mem_cons.mpr ⟨inR_86 _ List.mem_cons_self, List.forall_mem_cons.mpr ⟨inR_87 _ List.mem_cons_self, List.forall_mem_cons.mpr ⟨inR_88 _ List.mem_cons_self, List.forall_mem_cons.mpr ⟨inR_89 _ List.mem_cons_self, fun _ h => absurd h List.not_mem_nil⟩⟩⟩⟩⟩⟩⟩⟩⟩⟩⟩⟩⟩⟩⟩⟩⟩⟩⟩⟩⟩⟩⟩⟩⟩⟩⟩⟩⟩⟩⟩⟩⟩⟩
set_option maxRecDepth 100000 in
theorem inR_c : ∀ q ∈ mm_CT TR, ∀ w ∈ mm_cw TR q, w ∈ lw_tbl := List.forall_mem_cons.mpr ⟨inR_90, List.forall_mem_cons.mpr ⟨inR_91, List.forall_mem_cons.mpr ⟨inR_92, List.forall_mem_cons.mpr ⟨inR_93, List.forall_mem_cons.mpr ⟨inR_94, List.forall_mem_cons.mpr ⟨inR_95, List.forall_mem_cons.mpr ⟨inR_96, List.forall_mem_cons.mpr ⟨inR_97, List.forall_mem_cons.mpr ⟨inR_98, List.forall_mem_cons.mpr ⟨inR_99, List.forall_mem_cons.mpr ⟨inR_100, List.forall_mem_cons.mpr ⟨inR_101, List.forall_mem_cons.mpr ⟨inR_102, List.forall_mem_cons.mpr ⟨inR_103, List.forall_mem_cons.mpr ⟨inR_104, List.forall_mem_cons.mpr ⟨inR_105, List.forall_mem_cons.mpr ⟨inR_106, List.forall_mem_cons.mpr ⟨inR_107, List.forall_mem_cons.mpr ⟨inR_108, List.forall_mem_cons.mpr ⟨inR_109, List.forall_mem_cons.mpr ⟨inR_110, List.forall_mem_cons.mpr ⟨inR_111, List.forall_mem_cons.mpr ⟨inR_112, List.forall_mem_cons.mpr ⟨inR_113, List.forall_mem_cons.mpr ⟨inR_114, List.forall_mem_cons.mpr ⟨inR_115, List.forall_mem_cons.mpr ⟨inR_116, List.forall_mem_cons.mpr ⟨inR_117, List.forall_mem_cons.mpr ⟨inR_118, List.forall_mem_cons.mpr ⟨inR_119, List.forall_mem_cons.mpr ⟨inR_120, List.forall_mem_cons.mpr ⟨inR_121, List.forall_mem_cons.mpr ⟨inR_122, List.forall_mem_cons.mpr ⟨inR_123, List.forall_mem_cons.mpr ⟨inR_124, List.forall_mem_cons.mpr ⟨inR_125, fun _ h => absurd h List.not_mem_nil⟩⟩⟩⟩⟩⟩⟩⟩⟩⟩⟩⟩⟩⟩⟩⟩⟩⟩⟩⟩⟩⟩⟩⟩⟩⟩⟩⟩⟩⟩⟩⟩⟩⟩⟩⟩
set_option maxRecDepth 100000 in
theorem inR_l : ∀ q ∈ mm_LT TR, Cond.constantLong (mm_cn TR q.1) q.2.1 (Int64.ofInt q.2.2) ∈ lw_tbl := List.forall_mem_cons.mpr ⟨inR_126 _ List.mem_cons_self, List.forall_mem_cons.mpr ⟨inR_127 _ List.mem_cons_self, List.forall_mem_cons.mpr ⟨inR_128 _ List.mem_cons_self, List.forall_mem_cons.mpr ⟨inR_129 _ List.mem_cons_self, fun _ h => absurd h List.not_mem_nil⟩⟩⟩⟩
set_option maxRecDepth 100000 in
theorem inR_d : ∀ q ∈ mm_DT TR, Cond.constant (mm_cn TR q.1) q.2.1 (Int32.ofInt q.2.2) ∈ lw_tbl := List.forall_mem_cons.mpr ⟨inR_130 _ List.mem_cons_self, fun _ h => absurd h List.not_mem_nil⟩
set_option maxRecDepth 100000 in
theorem inR_j : ∀ q ∈ mm_JT TR, ∀ w ∈ mm_jw TR q, w ∈ lw_tbl := fun _ h => absurd h List.not_mem_nil
set_option maxRecDepth 100000 in
theorem inR_u : ∀ q ∈ mm_cl TR, ∀ w ∈ u_ws q.1 q.2.1 q.2.2, w ∈ lw_tbl := List.forall_mem_cons.mpr ⟨inR_131, List.forall_mem_cons.mpr ⟨inR_132, List.forall_mem_cons.mpr ⟨inR_133, List.forall_mem_cons.mpr ⟨inR_134, List.forall_mem_cons.mpr ⟨inR_135, List.forall_mem_cons.mpr ⟨inR_136, fun _ h => absurd h List.not_mem_nil⟩⟩⟩⟩⟩⟩
theorem inR : GoodIn lw_tbl (mm_tb TR) := mm_tb_in inR_m inR_f inR_c inR_l inR_d inR_j inR_u goodR
