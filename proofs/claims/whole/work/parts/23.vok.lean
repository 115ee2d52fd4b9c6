/-! ===== what holds of a view stays so ===== -/
theorem upd_s (f : Nat → Int32) (k : Nat) (x : Int32) : upd f k x k = x := by simp [upd]
theorem upd_n (f : Nat → Int32) {k j : Nat} (x : Int32) (h : j ≠ k) : upd f k x j = f j := by simp [upd, h]
theorem vok_scene {v : pv} {a b c e : Int32} (hv : vok v) : vok (q_scene v a b c e).1 := by
  unfold q_scene
  split
  · exact hv
  · rename_i h1
    split
    · exact hv
    · rename_i h2
      split
      · exact hv
      · rename_i h3
        obtain ⟨n, ns, e1, e2, e3, e4, e5, e6, e7, e8⟩ := hv
        have e1' : v_n v = nI n := e1
        rw [e1', nl8, ni_le (by omega) (by omega)] at h2
        refine ⟨n + 1, ns, ?_, by omega, e3, e4, fun k hk => ?_, e6, e7, e8⟩
        · show v_n v + 1 = nI (n + 1)
          rw [e1', nI_1]
        · dsimp only
          rw [e1', ni_cl (by omega)]
          by_cases hkn : k = n
          · subst hkn
            unfold pe
            rw [upd_s, upd_s, upd_s, upd_s]
            exact ⟨by grind, Classical.not_not.mp h3, by grind, by grind⟩
          · unfold pe
            rw [upd_n _ _ hkn, upd_n _ _ hkn, upd_n _ _ hkn, upd_n _ _ hkn]
            exact e5 k (by omega)
theorem i32_fi {x : Int64} (h : fi x) : x.toInt32.toInt64 = x := by
  obtain ⟨h1, h2⟩ := h
  rw [Int64.le_iff_toInt_le] at h1 h2
  have e1 : (-2147483648 : Int64).toInt = -2147483648 := by decide
  have e2 : (2147483647 : Int64).toInt = 2147483647 := by decide
  apply Int64.toInt_inj.mp
  rw [i32l, Int64.toInt_toInt32]
  exact Int.bmod_eq_of_le (by omega) (by omega)
theorem i32_add {x y : Int32} (h : fi (x.toInt64 + y.toInt64)) : (x + y).toInt64 = x.toInt64 + y.toInt64 := by
  obtain ⟨h1, h2⟩ := h
  have b1 := i32b x
  have b2 := i32b y
  rw [Int64.le_iff_toInt_le, i64a (by rw [i32l, i32l]; omega) (by rw [i32l, i32l]; omega), i32l, i32l] at h1 h2
  have e1 : (-2147483648 : Int64).toInt = -2147483648 := by decide
  have e2 : (2147483647 : Int64).toInt = 2147483647 := by decide
  apply Int64.toInt_inj.mp
  rw [i64a (by rw [i32l, i32l]; omega) (by rw [i32l, i32l]; omega), i32l, i32l, i32l, Int32.toInt_add]
  exact Int.bmod_eq_of_le (by omega) (by omega)
theorem vok_move {v : pv} {k e : Int32} (hv : vok v) : vok (q_move v k e).1 := by
  unfold q_move
  split
  · exact hv
  · rename_i h1
    split
    · exact hv
    · rename_i h2
      have h1 := Classical.not_not.mp h1
      have h2 := Classical.not_not.mp h2
      obtain ⟨n, ns, e1, e2, e3, e4, e5, e6, e7, e8⟩ := hv
      refine ⟨n, ns, e1, e2, e3, e4, fun j hj => ?_, e6, e7, e8⟩
      obtain ⟨g1, g2, g3⟩ := e5 j hj
      dsimp only
      refine ⟨g1, ?_, g3⟩
      by_cases hjk : j = k.toNatClampNeg
      · subst hjk
        unfold pe
        rw [upd_s, i32_add h2.1]
        have h9 := h2.2
        unfold pe at h9
        have : (v.fst k.toNatClampNeg).toInt64 + e.toInt64 + (v.snd.fst k.toNatClampNeg).toInt64 = (v.fst k.toNatClampNeg).toInt64 + (v.snd.fst k.toNatClampNeg).toInt64 + e.toInt64 := by grind
        rw [this]
        exact h9
      · unfold pe
        rw [upd_n _ _ hjk]
        exact g2
theorem vok_stretch {v : pv} {k t : Int32} (hv : vok v) : vok (q_stretch v k t).1 := by
  unfold q_stretch
  split
  · exact hv
  · rename_i h1
    split
    · exact hv
    · rename_i h0
      split
      · exact hv
      · rename_i h2
        have h1 := Classical.not_not.mp h1
        have h2 := Classical.not_not.mp h2
        obtain ⟨n, ns, e1, e2, e3, e4, e5, e6, e7, e8⟩ := hv
        refine ⟨n, ns, e1, e2, e3, e4, fun j hj => ?_, e6, e7, e8⟩
        obtain ⟨g1, g2, g3⟩ := e5 j hj
        dsimp only
        by_cases hjk : j = k.toNatClampNeg
        · subst hjk
          refine ⟨?_, ?_, g3⟩
          · rw [upd_s]
            have f1 := i32_fi h2.1
            have b1 := i32b (v.2.1 k.toNatClampNeg)
            have b2 := i32b t
            rw [Int32.le_iff_toInt_le] at g1 ⊢
            have o1 : (1 : Int32).toInt = 1 := by decide
            rw [o1] at g1 ⊢
            have ht : 1 ≤ t.toInt := by
              rw [Int32.not_lt, Int32.le_iff_toInt_le, o1] at h0
              exact h0
            have hm : 1 ≤ (v.2.1 k.toNatClampNeg).toInt * t.toInt := by
              have := Int.mul_le_mul g1 ht (by omega) (by omega)
              omega
            have hm2 : (v.2.1 k.toNatClampNeg).toInt * t.toInt ≤ 2147483647 * 2147483647 := Int.mul_le_mul (by omega) (by omega) (by omega) (by omega)
            have hmul : ((v.2.1 k.toNatClampNeg).toInt64 * t.toInt64).toInt = (v.2.1 k.toNatClampNeg).toInt * t.toInt := by
              rw [Int64.toInt_mul, i32l, i32l]
              exact Int.bmod_eq_of_le (by omega) (by omega)
            have := congrArg Int64.toInt f1
            rw [i32l, hmul] at this
            omega
          · unfold pe
            rw [upd_s, i32_fi h2.1]
            exact h2.2
        · unfold pe
          rw [upd_n _ _ hjk]
          exact ⟨g1, g2, g3⟩
theorem vok_shift {v : pv} {e : Int32} (hv : vok v) : vok (q_shift v e).1 := by
  unfold q_shift
  split
  · rename_i h
    obtain ⟨n, ns, e1, e2, e3, e4, e5, e6, e7, e8⟩ := hv
    have e1' : v_n v = nI n := e1
    rw [e1', ni_cl (by omega)] at h
    refine ⟨n, ns, e1, e2, e3, e4, fun j hj => ?_, e6, e7, e8⟩
    obtain ⟨g1, g2, g3⟩ := e5 j hj
    obtain ⟨f1, f2⟩ := h j hj
    dsimp only
    refine ⟨g1, ?_, g3⟩
    unfold pe shf
    rw [e1', ni_cl (by omega), if_pos hj, i32_add f1]
    unfold pe at f2
    have : (v.fst j).toInt64 + e.toInt64 + (v.snd.fst j).toInt64 = (v.fst j).toInt64 + (v.snd.fst j).toInt64 + e.toInt64 := by grind
    rw [this]
    exact f2
  · exact hv
theorem vok_drop {v : pv} (hv : vok v) : vok (q_drop v).1 := by
  unfold q_drop
  split
  · exact hv
  · rename_i h
    obtain ⟨n, ns, e1, e2, e3, e4, e5, e6, e7, e8⟩ := hv
    have e1' : v_n v = nI n := e1
    rw [e1', nl0, ni_le (by omega) (by omega)] at h
    refine ⟨n - 1, ns, ?_, by omega, e3, e4, fun j hj => e5 j (by omega), e6, e7, e8⟩
    show v_n v - 1 = nI (n - 1)
    rw [e1', nl1, pk_sub (by omega)]
theorem vok_feeq {v : pv} {a : Int32} (hv : vok v) : vok (q_fee v a).1 := by
  unfold q_fee
  split
  · exact hv
  · rename_i h
    obtain ⟨n, ns, e1, e2, e3, e4, e5, e6, e7, e8⟩ := hv
    exact ⟨n, ns, e1, e2, e3, e4, e5, e6, by show 0 ≤ a; grind, by show a ≤ 1000000; grind⟩
theorem vok_add {v : pv} {a : Int32} (hv : vok v) : vok (q_add v a).1 := by
  unfold q_add
  split
  · exact hv
  · rename_i h1
    split
    · exact hv
    · rename_i h2
      obtain ⟨n, ns, e1, e2, e3, e4, e5, e6, e7, e8⟩ := hv
      have e3' : v_ns v = nI ns := e3
      rw [e3', nl40, ni_le (by omega) (by omega)] at h2
      refine ⟨n, ns + 1, e1, e2, ?_, by omega, e5, fun i hi => ?_, e7, e8⟩
      · show v_ns v + 1 = nI (ns + 1)
        rw [e3', nI_1]
      · dsimp only
        rw [e3', ni_cl (by omega)]
        by_cases hin : i = ns
        · subst hin
          rw [upd_s]
          exact Classical.not_not.mp h1
        · rw [upd_n _ _ hin]
          exact e6 i (by omega)
theorem vok_cut {v : pv} {a : Int32} (hv : vok v) : vok (q_cut v a).1 := by
  unfold q_cut
  split
  · exact hv
  · rename_i h
    obtain ⟨n, ns, e1, e2, e3, e4, e5, e6, e7, e8⟩ := hv
    have e3' : v_ns v = nI ns := e3
    have h1 : 0 ≤ a := by grind
    obtain ⟨j, hj, rfl⟩ := vi_nI (x := a) (n := ns + 1) (by omega) h1 (by rw [← nI_1, ← e3']; have := vok_ns0 ⟨n, ns, e1, e2, e3, e4, e5, e6, e7, e8⟩; grind)
    refine ⟨n, ns - j, e1, e2, ?_, by omega, e5, fun i hi => e6 i (by omega), e7, e8⟩
    show v_ns v - nI j = nI (ns - j)
    rw [e3', pk_sub (by omega)]
theorem b8_or {x : Int32} {j : Nat} (hj : j < 8) (h0 : 0 ≤ x) (h : x ≤ 255) : (0 : Int32) ≤ x ||| (1 <<< (nI j &&& 31)) ∧ x ||| (1 <<< (nI j &&& 31)) ≤ 255 := by
  have hb : ∀ i, i < 32 → 8 ≤ i → bt (x ||| (1 <<< (nI j &&& 31))) i = false := fun i hi hi8 => by
    rw [b_or, b8_v h0 h i hi hi8, b_sh1 (by omega) hi]
    simp
    omega
  obtain ⟨y, hy, e⟩ := b8_n hb
  rw [e, ni_00 (by omega), show (255 : Int32) = nI 255 by decide +kernel, ni_le (by omega) (by omega)]
  exact ⟨trivial, by omega⟩
theorem b8_nd {x y : Int32} (h0 : 0 ≤ x) (h : x ≤ 255) : (0 : Int32) ≤ x &&& y ∧ x &&& y ≤ 255 := by
  have hb : ∀ i, i < 32 → 8 ≤ i → bt (x &&& y) i = false := fun i hi hi8 => by
    rw [b_and, b8_v h0 h i hi hi8]
    rfl
  obtain ⟨y, hy, e⟩ := b8_n hb
  rw [e, ni_00 (by omega), show (255 : Int32) = nI 255 by decide +kernel, ni_le (by omega) (by omega)]
  exact ⟨trivial, by omega⟩
theorem vok_clue {v : pv} {k c w s : Int32} (hv : vok v) : vok (q_clue v k c w s).1 := by
  unfold q_clue
  split
  · exact hv
  · rename_i h1
    have h1 := Classical.not_not.mp h1
    obtain ⟨j, hj, rfl⟩ := vi_nI (x := c) (n := 8) (by omega) h1.2.1 (by rw [← nl8]; exact h1.2.2)
    have hm : ∀ x : Int32, 0 ≤ x → x ≤ 255 → (0 : Int32) ≤ (if ¬ s = 0 then x ||| (1 <<< (nI j &&& 31)) else x &&& ((1 <<< (nI j &&& 31)) ^^^ (-1))) ∧ (if ¬ s = 0 then x ||| (1 <<< (nI j &&& 31)) else x &&& ((1 <<< (nI j &&& 31)) ^^^ (-1))) ≤ 255 := fun x a b => by
      split
      · exact b8_or hj a b
      · exact b8_nd a b
    split
    · exact hv
    · split
      · split
        · exact hv
        · obtain ⟨n, ns, e1, e2, e3, e4, e5, e6, e7, e8⟩ := hv
          refine ⟨n, ns, e1, e2, e3, e4, fun i hi => ?_, e6, e7, e8⟩
          obtain ⟨g1, g2, g3, g4⟩ := e5 i hi
          refine ⟨g1, g2, ?_, g4⟩
          dsimp only
          by_cases hik : i = k.toNatClampNeg
          · subst hik
            rw [upd_s]
            exact hm _ g3.1 g3.2
          · rw [upd_n _ _ hik]
            exact g3
      · split
        · exact hv
        · obtain ⟨n, ns, e1, e2, e3, e4, e5, e6, e7, e8⟩ := hv
          refine ⟨n, ns, e1, e2, e3, e4, fun i hi => ?_, e6, e7, e8⟩
          obtain ⟨g1, g2, g3, g4⟩ := e5 i hi
          refine ⟨g1, g2, g3, ?_⟩
          dsimp only
          by_cases hik : i = k.toNatClampNeg
          · subst hik
            rw [upd_s]
            exact hm _ g4.1 g4.2
          · rw [upd_n _ _ hik]
            exact g4
theorem vok_v1 {v : pv} (hv : vok v) : vok (v1 v) := hv
theorem vok_ofScene {v : pv} {k w : Int32} (hv : vok v) : vok (q_ofScene v k w).1 := by
  unfold q_ofScene
  repeat' split
  all_goals exact hv
theorem vok_jump {v : pv} {a b : Int32} (hv : vok v) : vok (q_jump v a b).1 := by
  unfold q_jump
  split <;> exact hv
theorem vok_ofClue {v : pv} {c w : Int32} (hv : vok v) : vok (q_ofClue v c w).1 := by
  unfold q_ofClue
  repeat' split
  all_goals exact hv
