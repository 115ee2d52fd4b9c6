/-! ===== all pairs of contracts ===== -/
def Cch (I : mm_I) (L : mm_L) : Prop := OC I L ∧ FC I L
theorem BE_c {b : Option fl} {I I' : mm_I} {L L' : mm_L} (h : BE b I L) (h16 : I' 16 = I 16) (h21 : I' 21 = I 21) (hL : L' 16 = L 16) : BE b I' L' := by
  cases b with
  | none => exact ⟨by rw [hL]; exact h.1, by rw [h16]; exact h.2.1, by rw [h16]; exact h.2.2⟩
  | some x => exact ⟨by rw [hL]; exact h.1, by rw [h16]; exact h.2.1, by rw [h16]; exact h.2.2.1, by rw [h21]; exact h.2.2.2.1, h.2.2.2.2⟩
theorem OD_c {b : pb} {n : Nat} {I I' : mm_I} {L L' : mm_L} (h : OD b n I L) (h13 : I' 13 = I 13) (h15 : I' 15 = I 15) (hL : L' 13 = L 13) : OD b n I' L' := by
  unfold OD OW at h ⊢
  rw [h13, h15, hL]
  exact h
theorem OC_c {I I' : mm_I} {L L' : mm_L} (h : OC I L) (hb : bC I' = bC I) (hn : I' 1 4 = I 1 4) (h13 : I' 13 = I 13) (h15 : I' 15 = I 15) (hL : L' 13 = L 13) : OC I' L' := by
  rcases h with h | h
  · exact Or.inl (by rw [h13]; exact h)
  · exact Or.inr (by rw [hb, hn]; exact OD_c h h13 h15 hL)
theorem FC_c {I I' : mm_I} {L L' : mm_L} (h : FC I L) (hb : fbest (vC I') = fbest (vC I)) (h16 : I' 16 = I 16) (h21 : I' 21 = I 21) (hL : L' 16 = L 16) : FC I' L' := by
  rcases h with h | h
  · exact Or.inl (by rw [h16]; exact h)
  · exact Or.inr (by rw [hb]; exact BE_c h h16 h21 hL)
theorem Cch_kc {I I' : mm_I} {L L' : mm_L} (h : Cch I L) (hk : kc I L I' L') : Cch I' L' := by
  rcases hk with ⟨h1, h2⟩ | ⟨⟨w, hv⟩, k13, k15, k16, k21, l13, l16⟩
  · exact ⟨Or.inl h1, Or.inl h2⟩
  · have hv' : (I' 2, I' 3, I' 4, I' 5, I' 6, I' 1 4, I' 0 2, I' 0 3, I' 0 4) = (I 2, I 3, I 4, I 5, I 6, I 1 4, I 0 2, I 0 3, w) := hv
    simp only [Prod.mk.injEq] at hv'
    obtain ⟨e2, e3, e4, e5, e6, e1, e02, e03, -⟩ := hv'
    refine ⟨OC_c h.1 ?_ e1 k13 k15 l13, FC_c h.2 ?_ k16 k21 l16⟩
    · unfold bC
      rw [e2, e3, e4, e5]
    · rw [hv]
      rfl
theorem Cch_0 : Cch iC i0L := ⟨Or.inl rfl, Or.inl rfl⟩
theorem mm_mq {sh : mm_S} {ms : List mm_M} {d m : Nat} {as : List Value} {I : mm_I} {L : mm_L} {Q Q' : mm_Q} (h : mm_P sh ms d m as I L Q) (hq : ∀ I L a b, Q I L a b → Q' I L a b) : mm_P sh ms d m as I L Q' := (mm_P_le sh ms d).1 m as I L Q Q' hq h
theorem mkc {d m : Nat} {as : List Value} {I : mm_I} {L : mm_L} {R : mm_Q} (hc : Cch I L) (h : mm_P shC msC d m as I L (fun I' L' ri rl => R I' L' ri rl ∧ kc I L I' L')) : mm_P shC msC d m as I L (fun I' L' ri rl => R I' L' ri rl ∧ Cch I' L') := mm_mq h (fun _ _ _ _ q => ⟨q.1, Cch_kc hc q.2⟩)
theorem sp_all : SPall Cch q_order q_framed q_span := by
  refine ⟨fun a b c e => ⟨fun I L hv hc => mkc hc (kX4_scene (d := 58) hv), fun J M hv => kX5_scene (d := 58) hv, fun v hv => vok_scene hv⟩,
    fun a b => ⟨fun I L hv hc => mkc hc (kX4_ofScene (d := 58) hv), fun J M hv => kX5_ofScene (d := 57) hv, fun v hv => vok_ofScene hv⟩,
    fun a b => ⟨fun I L hv hc => mkc hc (kX4_move (d := 57) hv), fun J M hv => kX5_move (d := 57) hv, fun v hv => vok_move hv⟩,
    fun a => ⟨fun I L hv hc => mkc hc (kX4_shift (d := 57) hv), fun J M hv => kX5_shift (d := 57) hv, fun v hv => vok_shift hv⟩,
    fun a b => ⟨fun I L hv hc => mkc hc (kX4_stretch (d := 58) hv), fun J M hv => kX5_stretch (d := 57) hv, fun v hv => vok_stretch hv⟩,
    fun a b c e he => ⟨fun I L hv hc => mkc hc (kX4_clue (d := 58) hv), fun J M hv => kX5_clue (d := 57) hv he, fun v hv => vok_clue hv⟩,
    fun a b => ⟨fun I L hv hc => mkc hc (kX4_ofClue (d := 58) hv), fun J M hv => kX5_ofClue (d := 57) hv, fun v hv => vok_ofClue hv⟩,
    ⟨fun I L _ hc => mkc hc (kX4_drop (d := 58)), fun J M hv => kX5_drop (d := 59) hv, fun v hv => vok_drop hv⟩,
    fun a => ⟨fun I L _ hc => mkc hc (kX4_fee (d := 58)), fun J M _ => kX5_fee (d := 58), fun v hv => vok_feeq hv⟩,
    fun a b => ⟨fun I L hv hc => mkc hc (kX4_jump (d := 57) hv), fun J M hv => kX5_jump (d := 57) hv, fun v hv => vok_jump hv⟩,
    fun a => ⟨fun I L hv hc => mkc hc (kX4_span (d := 56) hv), fun J M hv => kX5_span (d := 55) hv, fun v hv => ?_⟩,
    fun a => ⟨fun I L hv hc => mkc hc (kX4_add (d := 58) hv), fun J M hv => kX5_add (d := 58) hv, fun v hv => vok_add hv⟩,
    fun a => ⟨fun I L _ hc => mkc hc (kX4_cut (d := 58)), fun J M _ => kX5_cut (d := 58), fun v hv => vok_cut hv⟩,
    fun a => ⟨fun I L hv hc => mkc hc (kX4_judge (d := 54) hv), fun J M hv => kX5_judge (d := 52) hv, fun v hv => vok_v1 hv⟩,
    ⟨fun I L hv hc => mkc hc (kX4_jumps (d := 54) hv), fun J M hv => kX5_jumps (d := 52) hv, fun v hv => ?_⟩,
    fun a b => ⟨fun I L hv hc => mkc hc (kX4_told (d := 54) hv), fun J M hv => kX5_told (d := 52) hv, fun v hv => ?_⟩,
    fun a => ⟨fun I L hv hc => mm_mq (kX4_order (d := 53) hv hc.1) (fun I' L' _ _ q => ⟨q.1, q.2.2, FC_c hc.2 (by rw [c13_v q.2.1]) (q.2.1.1 16 (by omega) (by omega)) (q.2.1.1 21 (by omega) (by omega)) (q.2.1.2 16 (by omega) (by omega))⟩), fun J M hv => kX5_order (d := 54) hv, fun v hv => ?_⟩,
    fun a => ⟨fun I L hv hc => mm_mq (kX4_framed (d := 38) hv hc.2) (fun I' L' _ _ q => ⟨q.1, OC_c hc.1 (by unfold bC; rw [q.2.1.1 2 (by omega), q.2.1.1 3 (by omega), q.2.1.1 4 (by omega), q.2.1.1 5 (by omega)]) (by rw [q.2.1.1 1 (by omega)]) (q.2.1.1 13 (by omega)) (q.2.1.1 15 (by omega)) (q.2.1.2 13 (by omega) (by omega)), q.2.2⟩), fun J M hv => kX5_framed (d := 52) hv, fun v hv => ?_⟩,
    ⟨fun I L hv hc => mkc hc (kX4_untangled (d := 54) hv), fun J M hv => kX5_untangled (d := 53) hv, fun v hv => ?_⟩,
    fun a => ⟨fun I L hv hc => mkc hc (kX4_many (d := 57) hv), fun J M hv => kX5_many (d := 57) hv, fun v hv => ?_⟩⟩
  · exact hv
  · exact hv
  · exact hv
  · exact hv
  · exact hv
  · exact hv
  · exact hv
