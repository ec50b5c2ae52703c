noncomputable def f_X3_letter (μ : Mem) (x1 : Int32) : Option (Mem × Int32) :=
 (if x1 < (1 : Int32) then
 (some (μ, (-102 : Int32)))
 else
 (if x1 ≤ (126 : Int32) then
 (bd2 (f_X1_append μ ((x1).toUInt32 % 65536).toInt32) fun μ4 v5 =>
 (some (μ4, v5)))
 else
 (some (μ, (-102 : Int32)))))
set_option maxHeartbeats 4000000 in
theorem c_X3_letter {l : Launch} {G : GW} {μ : Mem} {x1 : Int32} {μ' : Mem} {r : Int32} (hf : f_X3_letter μ x1 = some (μ', r)) : MZ l (YR G) yX3_letter cX3_letter 2 (some .int) { frames := 1, cells := 0, slots := 0, locals := 21 } [.ref (G.1 0), .int x1] μ μ' (some (.int r)) := by
  refine z_met RX3 rfl (by decide) (Nat.le_of_ble_eq_true rfl) (fun X hX C hR => ?_)
  show Z X (YR G) 2 μ 0 [(0, .ref (G.1 0)), (1, .int x1)] []
  unfold f_X3_letter at hf
  refine z_iload_n C 1 dX3_letter_0 rfl ?_
  refine z_iconst C dX3_letter_1 (v := (1 : Int32)) (by decide) ?_
  refine z_icmp_lt C 11 dX3_letter_2 (by decide) (fun c1 => ?_) (fun c1 => ?_)
  · replace hf := it_t hf c1
    refine z_bipush C dX3_letter_11 (v := (-102 : Int32)) (by decide) ?_
    exact z_iret C hR dX3_letter_13 (rt2 hf).1 (rt2 hf).2
  · replace hf := it_f hf c1
    refine z_iload_n C 1 dX3_letter_5 rfl ?_
    refine z_bipush C dX3_letter_6 (v := (126 : Int32)) (by decide) ?_
    refine z_icmp_le C 14 dX3_letter_8 (by decide) (fun c2 => ?_) (fun c2 => ?_)
    · replace hf := it_t hf c2
      refine z_aload_n C 0 dX3_letter_14 rfl ?_
      refine zg_X3_10_0 C dX3_letter_15 ?_
      refine z_iload_n C 1 dX3_letter_18 rfl ?_
      refine z_i2c C dX3_letter_19 ?_
      obtain ⟨μ4, v5, h3, hf⟩ := bd2_e hf
      refine z_callVi C (As := [.int ((x1).toUInt32 % 65536).toInt32]) (rest := []) (c_X1_append h3) vw_X3_40 ⟨rfl, rfl, by decide, by decide⟩ (z_rv C (q0 := 1) (ci := 1) rfl rfl rfl) rfl (Nat.le_of_ble_eq_true rfl) dX3_letter_20 ?_
      exact z_iret C hR dX3_letter_23 (rt2 hf).1 (rt2 hf).2
    · replace hf := it_f hf c2
      refine z_bipush C dX3_letter_11 (v := (-102 : Int32)) (by decide) ?_
      exact z_iret C hR dX3_letter_13 (rt2 hf).1 (rt2 hf).2
noncomputable def f_X3_blank (μ : Mem) : Option (Mem × Int32) :=
 (bd2 (f_X1_clear μ) fun μ2 v3 =>
 (some (μ2, v3)))
set_option maxHeartbeats 4000000 in
theorem c_X3_blank {l : Launch} {G : GW} {μ : Mem} {μ' : Mem} {r : Int32} (hf : f_X3_blank μ = some (μ', r)) : MZ l (YR G) yX3_blank cX3_blank 1 (some .int) { frames := 1, cells := 0, slots := 0, locals := 21 } [.ref (G.1 0)] μ μ' (some (.int r)) := by
  refine z_met RX3 rfl (by decide) (Nat.le_of_ble_eq_true rfl) (fun X hX C hR => ?_)
  show Z X (YR G) 1 μ 0 [(0, .ref (G.1 0))] []
  unfold f_X3_blank at hf
  refine z_aload_n C 0 dX3_blank_0 rfl ?_
  refine zg_X3_10_0 C dX3_blank_1 ?_
  obtain ⟨μ2, v3, h1, hf⟩ := bd2_e hf
  refine z_callVi C (As := []) (rest := []) (c_X1_clear h1) vw_X3_44 ⟨rfl, rfl, by decide, by decide⟩ (z_rv C (q0 := 1) (ci := 1) rfl rfl rfl) rfl (Nat.le_of_ble_eq_true rfl) dX3_blank_4 ?_
  exact z_iret C hR dX3_blank_7 (rt2 hf).1 (rt2 hf).2
noncomputable def f_X3_fault (μ : Mem) : Option Int32 :=
 (bd (f_X1_firstFault μ) fun v2 =>
 (some v2))
set_option maxHeartbeats 4000000 in
theorem c_X3_fault {l : Launch} {G : GW} {μ : Mem} {r : Int32} (hf : f_X3_fault μ = some r) : MZ l (YR G) yX3_fault cX3_fault 1 (some .int) { frames := 6, cells := 0, slots := 0, locals := 136 } [.ref (G.1 0)] μ μ (some (.int r)) := by
  refine z_met RX3 rfl (by decide) (Nat.le_of_ble_eq_true rfl) (fun X hX C hR => ?_)
  show Z X (YR G) 1 μ 0 [(0, .ref (G.1 0))] []
  unfold f_X3_fault at hf
  refine z_aload_n C 0 dX3_fault_0 rfl ?_
  refine zg_X3_10_0 C dX3_fault_1 ?_
  obtain ⟨v2, h1, hf⟩ := bd_e hf
  refine z_callVi C (As := []) (rest := []) (c_X1_firstFault h1) vw_X3_48 ⟨rfl, rfl, by decide, by decide⟩ (z_rv C (q0 := 1) (ci := 1) rfl rfl rfl) rfl (Nat.le_of_ble_eq_true rfl) dX3_fault_4 ?_
  exact z_iret C hR dX3_fault_7 rfl (rt1 hf)
noncomputable def f_X3_ring (μ : Mem) : Option (Mem × Int32) :=
 (bd (f_X1_isWhole μ) fun v2 =>
 (if v2 = 0 then
 (some (μ, (-103 : Int32)))
 else
 (bd (f_X2_startFrom μ) fun μ5 =>
 (bd2 (f_X1_clear μ5) fun μ7 v8 =>
 (nm (up μ7 0 3 (0 : Int32)) fun μ9 : Mem =>
 (nm (((μ9 0 4) + (1 : Int32))) fun v10 : Int32 =>
 (nm (up μ9 0 4 v10) fun μ11 : Mem =>
 (some (μ11, (μ11 3 7))))))))))
set_option maxHeartbeats 4000000 in
theorem c_X3_ring {l : Launch} {G : GW} {μ : Mem} {μ' : Mem} {r : Int32} (hf : f_X3_ring μ = some (μ', r)) : MZ l (YR G) yX3_ring cX3_ring 1 (some .int) { frames := 7, cells := 0, slots := 0, locals := 156 } [.ref (G.1 0)] μ μ' (some (.int r)) := by
  refine z_met RX3 rfl (by decide) (Nat.le_of_ble_eq_true rfl) (fun X hX C hR => ?_)
  show Z X (YR G) 1 μ 0 [(0, .ref (G.1 0))] []
  unfold f_X3_ring at hf
  refine z_aload_n C 0 dX3_ring_0 rfl ?_
  refine zg_X3_10_0 C dX3_ring_1 ?_
  obtain ⟨v2, h1, hf⟩ := bd_e hf
  refine z_callVi C (As := []) (rest := []) (c_X1_isWhole h1) vw_X3_51 ⟨rfl, rfl, by decide, by decide⟩ (z_rv C (q0 := 1) (ci := 1) rfl rfl rfl) rfl (Nat.le_of_ble_eq_true rfl) dX3_ring_4 ?_
  refine z_if_ne C 13 dX3_ring_7 (by decide) (fun c3 => ?_) (fun c3 => ?_)
  · replace hf := it_f hf c3
    refine z_aload_n C 0 dX3_ring_13 rfl ?_
    refine zg_X3_19_0 C dX3_ring_14 ?_
    refine z_aload_n C 0 dX3_ring_17 rfl ?_
    refine zg_X3_10_0 C dX3_ring_18 ?_
    obtain ⟨μ5, h4, hf⟩ := bd_e hf
    refine z_callVv C (As := [.ref (G.1 1)]) (rest := []) (c_X2_startFrom h4) vw_X3_55 ⟨rfl, rfl, by decide, by decide⟩ (z_rv C (q0 := 3) (ci := 2) rfl rfl rfl) rfl (Nat.le_of_ble_eq_true rfl) dX3_ring_21 ?_
    refine z_aload_n C 0 dX3_ring_24 rfl ?_
    refine zg_X3_10_0 C dX3_ring_25 ?_
    obtain ⟨μ7, v8, h6, hf⟩ := bd2_e hf
    refine z_callVi C (As := []) (rest := []) (c_X1_clear h6) vw_X3_44 ⟨rfl, rfl, by decide, by decide⟩ (z_rv C (q0 := 1) (ci := 1) rfl rfl rfl) rfl (Nat.le_of_ble_eq_true rfl) dX3_ring_28 ?_
    refine z_pop C dX3_ring_31 rfl ?_
    refine z_aload_n C 0 dX3_ring_32 rfl ?_
    refine z_iconst C dX3_ring_33 (v := (0 : Int32)) (by decide) ?_
    refine zp_X3_59_0 C dX3_ring_34 rfl rfl ?_
    refine z_mem (fun μ9 eμ9 => ?_)
    replace hf := nm_e2 hf μ9 eμ9
    refine z_aload_n C 0 dX3_ring_37 rfl ?_
    refine z_dup C dX3_ring_38 rfl ?_
    refine zg_X3_63_0 C dX3_ring_39 ?_
    refine z_iconst C dX3_ring_42 (v := (1 : Int32)) (by decide) ?_
    refine z_iadd C dX3_ring_43 ?_
    refine z_topi (fun v10 ev10 => ?_)
    replace hf := nm_e2 hf v10 ev10
    refine zp_X3_63_0 C dX3_ring_44 ?_
    refine z_mem (fun μ11 eμ11 => ?_)
    replace hf := nm_e2 hf μ11 eμ11
    refine z_aload_n C 0 dX3_ring_47 rfl ?_
    refine zg_X3_19_0 C dX3_ring_48 ?_
    refine zg_X3_67_3 C dX3_ring_51 ?_
    exact z_iret C hR dX3_ring_54 (rt2 hf).1 (rt2 hf).2
  · replace hf := it_t hf c3
    refine z_bipush C dX3_ring_10 (v := (-103 : Int32)) (by decide) ?_
    exact z_iret C hR dX3_ring_12 (rt2 hf).1 (rt2 hf).2
noncomputable def f_X3_isPlace (μ : Mem) (x1 : Int32) : Int32 :=
 (if x1 < 0 then
 (0 : Int32)
 else
 (if (μ 3 7) ≤ x1 then
 (0 : Int32)
 else
 (1 : Int32)))
set_option maxHeartbeats 4000000 in
theorem c_X3_isPlace {l : Launch} {G : GW} {μ : Mem} {x1 : Int32} {r : Int32} (hf : f_X3_isPlace μ x1 = r) : MZ l (YR G) yX3_isPlace cX3_isPlace 2 (some .boolean) { frames := 0, cells := 0, slots := 0, locals := 0 } [.ref (G.1 0), .int x1] μ μ (some (.int r)) := by
  refine z_met RX3 rfl (by decide) (Nat.le_of_ble_eq_true rfl) (fun X hX C hR => ?_)
  show Z X (YR G) 2 μ 0 [(0, .ref (G.1 0)), (1, .int x1)] []
  unfold f_X3_isPlace at hf
  refine z_iload_n C 1 dX3_isPlace_0 rfl ?_
  refine z_if_lt C 19 dX3_isPlace_1 (by decide) (fun c1 => ?_) (fun c1 => ?_)
  · replace hf := it_t hf c1
    refine z_iconst C dX3_isPlace_19 (v := (0 : Int32)) (by decide) ?_
    exact z_zret C hR dX3_isPlace_20 rfl rfl hf
  · replace hf := it_f hf c1
    refine z_iload_n C 1 dX3_isPlace_4 rfl ?_
    refine z_aload_n C 0 dX3_isPlace_5 rfl ?_
    refine zg_X3_19_0 C dX3_isPlace_6 ?_
    refine zg_X3_67_3 C dX3_isPlace_9 ?_
    refine z_icmp_ge C 19 dX3_isPlace_12 (by decide) (fun c2 => ?_) (fun c2 => ?_)
    · replace hf := it_t hf c2
      refine z_iconst C dX3_isPlace_19 (v := (0 : Int32)) (by decide) ?_
      exact z_zret C hR dX3_isPlace_20 rfl rfl hf
    · replace hf := it_f hf c2
      refine z_iconst C dX3_isPlace_15 (v := (1 : Int32)) (by decide) ?_
      refine z_goto C 20 dX3_isPlace_16 (by decide) ?_
      exact z_zret C hR dX3_isPlace_20 rfl rfl hf
theorem bz_X3_isPlace {μ : Mem} {x1 : Int32} : narrow .boolean (.int (f_X3_isPlace μ x1)) = .int (f_X3_isPlace μ x1) := by
  simp only [f_X3_isPlace, nm]
  (repeat' split)
  all_goals first | rfl | exact bz_X4_in
noncomputable def f_X3_madeBy (μ : Mem) (x1 : Int32) (x2 : Int32) : Option Int32 :=
 (ck (vp_in x1 6) <|
 (nm (f_X0_made μ (μ 4 (x1).toNatClampNeg) (μ 5 (x1).toNatClampNeg) (μ 3 8) x2) fun v3 : Int32 =>
 (some v3)))
set_option maxHeartbeats 4000000 in
theorem c_X3_madeBy {l : Launch} {G : GW} {μ : Mem} {x1 : Int32} {x2 : Int32} {r : Int32} (hf : f_X3_madeBy μ x1 x2 = some r) : MZ l (YR G) yX3_madeBy cX3_madeBy 3 (some .int) { frames := 1, cells := 0, slots := 0, locals := 24 } [.ref (G.1 0), .int x1, .int x2] μ μ (some (.int r)) := by
  refine z_met RX3 rfl (by decide) (Nat.le_of_ble_eq_true rfl) (fun X hX C hR => ?_)
  show Z X (YR G) 3 μ 0 [(0, .ref (G.1 0)), (1, .int x1), (2, .int x2)] []
  unfold f_X3_madeBy at hf
  refine z_aload_n C 0 dX3_madeBy_0 rfl ?_
  refine zg_X3_19_0 C dX3_madeBy_1 ?_
  refine zg_X3_74_3 C dX3_madeBy_4 ?_
  refine z_iload_n C 1 dX3_madeBy_7 rfl ?_
  obtain ⟨h1, hf⟩ := ck_e hf
  refine zRl_4 C dX3_madeBy_8 h1 ?_
  refine z_aload_n C 0 dX3_madeBy_9 rfl ?_
  refine zg_X3_19_0 C dX3_madeBy_10 ?_
  refine zg_X3_77_3 C dX3_madeBy_13 ?_
  refine z_iload_n C 1 dX3_madeBy_16 rfl ?_
  refine zRl_5 C dX3_madeBy_17 h1 ?_
  refine z_aload_n C 0 dX3_madeBy_18 rfl ?_
  refine zg_X3_19_0 C dX3_madeBy_19 ?_
  refine zg_X3_104_3 C dX3_madeBy_22 ?_
  refine z_iload_n C 2 dX3_madeBy_25 rfl ?_
  obtain ⟨v3, h2⟩ : ∃ z, z = f_X0_made μ (μ 4 (x1).toNatClampNeg) (μ 5 (x1).toNatClampNeg) (μ 3 8) x2 := ⟨_, rfl⟩
  replace hf := nm_e2 hf v3 h2
  refine z_callSi C (As := [.int (μ 4 (x1).toNatClampNeg), .int (μ 5 (x1).toNatClampNeg), .int (μ 3 8), .int x2]) (rest := []) (c_X0_made h2.symm) sw_X3_199 ⟨rfl, rfl, by decide, by decide⟩ rfl (Nat.le_of_ble_eq_true rfl) dX3_madeBy_26 ?_
  exact z_iret C hR dX3_madeBy_29 rfl (rt1 hf)
noncomputable def f_X3_about (μ : Mem) (x1 : Int32) (x2 : Int32) : Option Int32 :=
 (nm (f_X3_isPlace μ x1) fun v2 : Int32 =>
 (if v2 = 0 then
 (some (-101 : Int32))
 else
 (if x2 = (0 : Int32) then
 (ck (vp_in x1 6) <|
 (some (μ 4 (x1).toNatClampNeg)))
 else
 (if x2 = (1 : Int32) then
 (ck (vp_in x1 6) <|
 (some (μ 5 (x1).toNatClampNeg)))
 else
 (if x2 = (2 : Int32) then
 (bd (f_X2_placeOf μ x1) fun v10 =>
 (some v10))
 else
 (if x2 = (3 : Int32) then
 (ck (vp_in x1 6) <|
 (some (μ 6 (x1).toNatClampNeg)))
 else
 (if x2 < (10 : Int32) then
 (some (-102 : Int32))
 else
 (if (18 : Int32) ≤ x2 then
 (some (-102 : Int32))
 else
 (bd (f_X3_madeBy μ x1 (x2 - (10 : Int32))) fun v16 =>
 (some v16))))))))))
set_option maxHeartbeats 4000000 in
theorem c_X3_about {l : Launch} {G : GW} {μ : Mem} {x1 : Int32} {x2 : Int32} {r : Int32} (hf : f_X3_about μ x1 x2 = some r) : MZ l (YR G) yX3_about cX3_about 3 (some .int) { frames := 2, cells := 0, slots := 0, locals := 46 } [.ref (G.1 0), .int x1, .int x2] μ μ (some (.int r)) := by
  refine z_met RX3 rfl (by decide) (Nat.le_of_ble_eq_true rfl) (fun X hX C hR => ?_)
  show Z X (YR G) 3 μ 0 [(0, .ref (G.1 0)), (1, .int x1), (2, .int x2)] []
  unfold f_X3_about at hf
  refine z_aload_n C 0 dX3_about_0 rfl ?_
  refine z_iload_n C 1 dX3_about_1 rfl ?_
  obtain ⟨v2, h1⟩ : ∃ z, z = f_X3_isPlace μ x1 := ⟨_, rfl⟩
  replace hf := nm_e2 hf v2 h1
  refine z_callVi C (As := [.int x1]) (rest := []) (c_X3_isPlace h1.symm) vw_X3_70 ⟨rfl, rfl, by decide, by decide⟩ (z_rv C (q0 := 0) (ci := 3) rfl rfl rfl) rfl (Nat.le_of_ble_eq_true rfl) dX3_about_2 ?_
  refine z_if_ne C 11 dX3_about_5 (by decide) (fun c3 => ?_) (fun c3 => ?_)
  · replace hf := it_f hf c3
    refine z_iload_n C 2 dX3_about_11 rfl ?_
    rcases Decidable.em (x2 = (0 : Int32)) with c4 | c4
    · replace hf := it_t hf c4
      refine z_tabI C 44 dX3_about_12 (off := 32) (by rw [c4]; decide) (by rw [c4]; decide) (by rw [c4]; first | rfl | decide +kernel) (by decide) ?_
      refine z_aload_n C 0 dX3_about_44 rfl ?_
      refine zg_X3_19_0 C dX3_about_45 ?_
      refine zg_X3_74_3 C dX3_about_48 ?_
      refine z_iload_n C 1 dX3_about_51 rfl ?_
      obtain ⟨h5, hf⟩ := ck_e hf
      refine zRl_4 C dX3_about_52 h5 ?_
      exact z_iret C hR dX3_about_53 rfl (rt1 hf)
    · replace hf := it_f hf c4
      rcases Decidable.em (x2 = (1 : Int32)) with c6 | c6
      · replace hf := it_t hf c6
        refine z_tabI C 54 dX3_about_12 (off := 42) (by rw [c6]; decide) (by rw [c6]; decide) (by rw [c6]; first | rfl | decide +kernel) (by decide) ?_
        refine z_aload_n C 0 dX3_about_54 rfl ?_
        refine zg_X3_19_0 C dX3_about_55 ?_
        refine zg_X3_77_3 C dX3_about_58 ?_
        refine z_iload_n C 1 dX3_about_61 rfl ?_
        obtain ⟨h7, hf⟩ := ck_e hf
        refine zRl_5 C dX3_about_62 h7 ?_
        exact z_iret C hR dX3_about_63 rfl (rt1 hf)
      · replace hf := it_f hf c6
        rcases Decidable.em (x2 = (2 : Int32)) with c8 | c8
        · replace hf := it_t hf c8
          refine z_tabI C 64 dX3_about_12 (off := 52) (by rw [c8]; decide) (by rw [c8]; decide) (by rw [c8]; first | rfl | decide +kernel) (by decide) ?_
          refine z_aload_n C 0 dX3_about_64 rfl ?_
          refine zg_X3_19_0 C dX3_about_65 ?_
          refine z_iload_n C 1 dX3_about_68 rfl ?_
          obtain ⟨v10, h9, hf⟩ := bd_e hf
          refine z_callVi C (As := [.int x1]) (rest := []) (c_X2_placeOf h9) vw_X3_80 ⟨rfl, rfl, by decide, by decide⟩ (z_rv C (q0 := 3) (ci := 2) rfl rfl rfl) rfl (Nat.le_of_ble_eq_true rfl) dX3_about_69 ?_
          exact z_iret C hR dX3_about_72 rfl (rt1 hf)
        · replace hf := it_f hf c8
          rcases Decidable.em (x2 = (3 : Int32)) with c11 | c11
          · replace hf := it_t hf c11
            refine z_tabI C 73 dX3_about_12 (off := 61) (by rw [c11]; decide) (by rw [c11]; decide) (by rw [c11]; first | rfl | decide +kernel) (by decide) ?_
            refine z_aload_n C 0 dX3_about_73 rfl ?_
            refine zg_X3_19_0 C dX3_about_74 ?_
            refine zg_X3_84_3 C dX3_about_77 ?_
            refine z_iload_n C 1 dX3_about_80 rfl ?_
            obtain ⟨h12, hf⟩ := ck_e hf
            refine zRl_6 C dX3_about_81 h12 ?_
            exact z_iret C hR dX3_about_82 rfl (rt1 hf)
          · replace hf := it_f hf c11
            refine z_tabO C 83 dX3_about_12 (by have hc4 := lv_neT c4 (a := 0) (by decide); have hc6 := lv_neT c6 (a := 1) (by decide); have hc8 := lv_neT c8 (a := 2) (by decide); have hc11 := lv_neT c11 (a := 3) (by decide); omega) (by decide) ?_
            refine z_iload_n C 2 dX3_about_83 rfl ?_
            refine z_bipush C dX3_about_84 (v := (10 : Int32)) (by decide) ?_
            refine z_icmp_lt C 107 dX3_about_86 (by decide) (fun c13 => ?_) (fun c13 => ?_)
            · replace hf := it_t hf c13
              refine z_bipush C dX3_about_107 (v := (-102 : Int32)) (by decide) ?_
              exact z_iret C hR dX3_about_109 rfl (rt1 hf)
            · replace hf := it_f hf c13
              refine z_iload_n C 2 dX3_about_89 rfl ?_
              refine z_bipush C dX3_about_90 (v := (18 : Int32)) (by decide) ?_
              refine z_icmp_ge C 107 dX3_about_92 (by decide) (fun c14 => ?_) (fun c14 => ?_)
              · replace hf := it_t hf c14
                refine z_bipush C dX3_about_107 (v := (-102 : Int32)) (by decide) ?_
                exact z_iret C hR dX3_about_109 rfl (rt1 hf)
              · replace hf := it_f hf c14
                refine z_aload_n C 0 dX3_about_95 rfl ?_
                refine z_iload_n C 1 dX3_about_96 rfl ?_
                refine z_iload_n C 2 dX3_about_97 rfl ?_
                refine z_bipush C dX3_about_98 (v := (10 : Int32)) (by decide) ?_
                refine z_isub C dX3_about_100 ?_
                obtain ⟨v16, h15, hf⟩ := bd_e hf
                refine z_callVi C (As := [.int x1, .int (x2 - (10 : Int32))]) (rest := []) (c_X3_madeBy h15) vw_X3_87 ⟨rfl, rfl, by decide, by decide⟩ (z_rv C (q0 := 0) (ci := 3) rfl rfl rfl) rfl (Nat.le_of_ble_eq_true rfl) dX3_about_101 ?_
                refine z_goto C 109 dX3_about_104 (by decide) ?_
                exact z_iret C hR dX3_about_109 rfl (rt1 hf)
  · replace hf := it_t hf c3
    refine z_bipush C dX3_about_8 (v := (-101 : Int32)) (by decide) ?_
    exact z_iret C hR dX3_about_10 rfl (rt1 hf)
noncomputable def f_X3_isOf (μ : Mem) (x0 : Int32) (x1 : Int32) : Int32 :=
 (if x1 = 0 then
 (1 : Int32)
 else
 (if x1 = x0 then
 (1 : Int32)
 else
 (if x1 = (2 : Int32) then
 (if x0 = (4 : Int32) then
 (1 : Int32)
 else
 (0 : Int32))
 else
 (0 : Int32))))
set_option maxHeartbeats 4000000 in
theorem c_X3_isOf {l : Launch} {G : GW} {μ : Mem} {x0 : Int32} {x1 : Int32} {r : Int32} (hf : f_X3_isOf μ x0 x1 = r) : MZ l (YR G) yX3_isOf cX3_isOf 2 (some .boolean) { frames := 0, cells := 0, slots := 0, locals := 0 } [.int x0, .int x1] μ μ (some (.int r)) := by
  refine z_met RX3 rfl (by decide) (Nat.le_of_ble_eq_true rfl) (fun X hX C hR => ?_)
  show Z X (YR G) 2 μ 0 [(0, .int x0), (1, .int x1)] []
  unfold f_X3_isOf at hf
  refine z_iload_n C 1 dX3_isOf_0 rfl ?_
  refine z_if_eq C 19 dX3_isOf_1 (by decide) (fun c1 => ?_) (fun c1 => ?_)
  · replace hf := it_t hf c1
    refine z_iconst C dX3_isOf_19 (v := (1 : Int32)) (by decide) ?_
    refine z_goto C 24 dX3_isOf_20 (by decide) ?_
    exact z_zret C hR dX3_isOf_24 rfl rfl hf
  · replace hf := it_f hf c1
    refine z_iload_n C 1 dX3_isOf_4 rfl ?_
    refine z_iload_n C 0 dX3_isOf_5 rfl ?_
    refine z_icmp_eq C 19 dX3_isOf_6 (by decide) (fun c2 => ?_) (fun c2 => ?_)
    · replace hf := it_t hf c2
      refine z_iconst C dX3_isOf_19 (v := (1 : Int32)) (by decide) ?_
      refine z_goto C 24 dX3_isOf_20 (by decide) ?_
      exact z_zret C hR dX3_isOf_24 rfl rfl hf
    · replace hf := it_f hf c2
      refine z_iload_n C 1 dX3_isOf_9 rfl ?_
      refine z_iconst C dX3_isOf_10 (v := (2 : Int32)) (by decide) ?_
      refine z_icmp_ne C 23 dX3_isOf_11 (by decide) (fun c3 => ?_) (fun c3 => ?_)
      · replace hf := it_f hf c3
        refine z_iconst C dX3_isOf_23 (v := (0 : Int32)) (by decide) ?_
        exact z_zret C hR dX3_isOf_24 rfl rfl hf
      · replace hf := it_t hf c3
        refine z_iload_n C 0 dX3_isOf_14 rfl ?_
        refine z_iconst C dX3_isOf_15 (v := (4 : Int32)) (by decide) ?_
        refine z_icmp_ne C 23 dX3_isOf_16 (by decide) (fun c4 => ?_) (fun c4 => ?_)
        · replace hf := it_f hf c4
          refine z_iconst C dX3_isOf_23 (v := (0 : Int32)) (by decide) ?_
          exact z_zret C hR dX3_isOf_24 rfl rfl hf
        · replace hf := it_t hf c4
          refine z_iconst C dX3_isOf_19 (v := (1 : Int32)) (by decide) ?_
          refine z_goto C 24 dX3_isOf_20 (by decide) ?_
          exact z_zret C hR dX3_isOf_24 rfl rfl hf
theorem bz_X3_isOf {μ : Mem} {x0 : Int32} {x1 : Int32} : narrow .boolean (.int (f_X3_isOf μ x0 x1)) = .int (f_X3_isOf μ x0 x1) := by
  simp only [f_X3_isOf, nm]
  (repeat' split)
  all_goals first | rfl | exact bz_X4_in
noncomputable def f_X3_as (μ : Mem) (x1 : Int32) (x2 : Int32) : Option Int32 :=
 (nm (f_X3_isPlace μ x1) fun v2 : Int32 =>
 (if v2 = 0 then
 (some (-101 : Int32))
 else
 (if x2 < 0 then
 (some (-102 : Int32))
 else
 (if x2 < (5 : Int32) then
 (ck (vp_in x1 6) <|
 (nm (f_X3_isOf μ (μ 4 (x1).toNatClampNeg) x2) fun v8 : Int32 =>
 (if v8 = 0 then
 (some (-1 : Int32))
 else
 (some x1))))
 else
 (some (-102 : Int32))))))
set_option maxHeartbeats 4000000 in
theorem c_X3_as {l : Launch} {G : GW} {μ : Mem} {x1 : Int32} {x2 : Int32} {r : Int32} (hf : f_X3_as μ x1 x2 = some r) : MZ l (YR G) yX3_as cX3_as 3 (some .int) { frames := 1, cells := 0, slots := 0, locals := 21 } [.ref (G.1 0), .int x1, .int x2] μ μ (some (.int r)) := by
  refine z_met RX3 rfl (by decide) (Nat.le_of_ble_eq_true rfl) (fun X hX C hR => ?_)
  show Z X (YR G) 3 μ 0 [(0, .ref (G.1 0)), (1, .int x1), (2, .int x2)] []
  unfold f_X3_as at hf
  refine z_aload_n C 0 dX3_as_0 rfl ?_
  refine z_iload_n C 1 dX3_as_1 rfl ?_
  obtain ⟨v2, h1⟩ : ∃ z, z = f_X3_isPlace μ x1 := ⟨_, rfl⟩
  replace hf := nm_e2 hf v2 h1
  refine z_callVi C (As := [.int x1]) (rest := []) (c_X3_isPlace h1.symm) vw_X3_70 ⟨rfl, rfl, by decide, by decide⟩ (z_rv C (q0 := 0) (ci := 3) rfl rfl rfl) rfl (Nat.le_of_ble_eq_true rfl) dX3_as_2 ?_
  refine z_if_ne C 11 dX3_as_5 (by decide) (fun c3 => ?_) (fun c3 => ?_)
  · replace hf := it_f hf c3
    refine z_iload_n C 2 dX3_as_11 rfl ?_
    refine z_if_lt C 20 dX3_as_12 (by decide) (fun c4 => ?_) (fun c4 => ?_)
    · replace hf := it_t hf c4
      refine z_bipush C dX3_as_20 (v := (-102 : Int32)) (by decide) ?_
      exact z_iret C hR dX3_as_22 rfl (rt1 hf)
    · replace hf := it_f hf c4
      refine z_iload_n C 2 dX3_as_15 rfl ?_
      refine z_iconst C dX3_as_16 (v := (5 : Int32)) (by decide) ?_
      refine z_icmp_lt C 23 dX3_as_17 (by decide) (fun c5 => ?_) (fun c5 => ?_)
      · replace hf := it_t hf c5
        refine z_aload_n C 0 dX3_as_23 rfl ?_
        refine zg_X3_19_0 C dX3_as_24 ?_
        refine zg_X3_74_3 C dX3_as_27 ?_
        refine z_iload_n C 1 dX3_as_30 rfl ?_
        obtain ⟨h6, hf⟩ := ck_e hf
        refine zRl_4 C dX3_as_31 h6 ?_
        refine z_iload_n C 2 dX3_as_32 rfl ?_
        obtain ⟨v8, h7⟩ : ∃ z, z = f_X3_isOf μ (μ 4 (x1).toNatClampNeg) x2 := ⟨_, rfl⟩
        replace hf := nm_e2 hf v8 h7
        refine z_callSi C (As := [.int (μ 4 (x1).toNatClampNeg), .int x2]) (rest := []) (c_X3_isOf h7.symm) sw_X3_91 ⟨rfl, rfl, by decide, by decide⟩ rfl (Nat.le_of_ble_eq_true rfl) dX3_as_33 ?_
        refine z_if_eq C 43 dX3_as_36 (by decide) (fun c9 => ?_) (fun c9 => ?_)
        · replace hf := it_t hf c9
          refine z_iconst C dX3_as_43 (v := (-1 : Int32)) (by decide) ?_
          exact z_iret C hR dX3_as_44 rfl (rt1 hf)
        · replace hf := it_f hf c9
          refine z_iload_n C 1 dX3_as_39 rfl ?_
          refine z_goto C 44 dX3_as_40 (by decide) ?_
          exact z_iret C hR dX3_as_44 rfl (rt1 hf)
      · replace hf := it_f hf c5
        refine z_bipush C dX3_as_20 (v := (-102 : Int32)) (by decide) ?_
        exact z_iret C hR dX3_as_22 rfl (rt1 hf)
  · replace hf := it_t hf c3
    refine z_bipush C dX3_as_8 (v := (-101 : Int32)) (by decide) ?_
    exact z_iret C hR dX3_as_10 rfl (rt1 hf)
noncomputable def f_X3_seat (μ : Mem) (x1 : Int32) : Option Int32 :=
 (nm (f_X3_isPlace μ x1) fun v2 : Int32 =>
 (if v2 = 0 then
 (some (-101 : Int32))
 else
 (ck (vp_in x1 6) <|
 (some (μ 7 (x1).toNatClampNeg)))))
set_option maxHeartbeats 4000000 in
theorem c_X3_seat {l : Launch} {G : GW} {μ : Mem} {x1 : Int32} {r : Int32} (hf : f_X3_seat μ x1 = some r) : MZ l (YR G) yX3_seat cX3_seat 2 (some .int) { frames := 1, cells := 0, slots := 0, locals := 21 } [.ref (G.1 0), .int x1] μ μ (some (.int r)) := by
  refine z_met RX3 rfl (by decide) (Nat.le_of_ble_eq_true rfl) (fun X hX C hR => ?_)
  show Z X (YR G) 2 μ 0 [(0, .ref (G.1 0)), (1, .int x1)] []
  unfold f_X3_seat at hf
  refine z_aload_n C 0 dX3_seat_0 rfl ?_
  refine z_iload_n C 1 dX3_seat_1 rfl ?_
  obtain ⟨v2, h1⟩ : ∃ z, z = f_X3_isPlace μ x1 := ⟨_, rfl⟩
  replace hf := nm_e2 hf v2 h1
  refine z_callVi C (As := [.int x1]) (rest := []) (c_X3_isPlace h1.symm) vw_X3_70 ⟨rfl, rfl, by decide, by decide⟩ (z_rv C (q0 := 0) (ci := 3) rfl rfl rfl) rfl (Nat.le_of_ble_eq_true rfl) dX3_seat_2 ?_
  refine z_if_eq C 20 dX3_seat_5 (by decide) (fun c3 => ?_) (fun c3 => ?_)
  · replace hf := it_t hf c3
    refine z_bipush C dX3_seat_20 (v := (-101 : Int32)) (by decide) ?_
    exact z_iret C hR dX3_seat_22 rfl (rt1 hf)
  · replace hf := it_f hf c3
    refine z_aload_n C 0 dX3_seat_8 rfl ?_
    refine zg_X3_19_0 C dX3_seat_9 ?_
    refine zg_X3_95_3 C dX3_seat_12 ?_
    refine z_iload_n C 1 dX3_seat_15 rfl ?_
    obtain ⟨h4, hf⟩ := ck_e hf
    refine zRl_7 C dX3_seat_16 h4 ?_
    refine z_goto C 22 dX3_seat_17 (by decide) ?_
    exact z_iret C hR dX3_seat_22 rfl (rt1 hf)
noncomputable def f_X3_exchange (μ : Mem) (x1 : Int32) (x2 : Int32) : Option (Mem × Int32) :=
 (nm (f_X3_isPlace μ x1) fun v2 : Int32 =>
 (if v2 = 0 then
 (some (μ, (-101 : Int32)))
 else
 (nm (f_X3_isPlace μ x2) fun v5 : Int32 =>
 (if v5 = 0 then
 (some (μ, (-101 : Int32)))
 else
 (ck (vp_in x1 6) <|
 (nm ((μ 7 (x1).toNatClampNeg)) fun v8 : Int32 =>
 (ck (vp_in x2 6) <|
 (nm ((μ 7 (x2).toNatClampNeg)) fun v10 : Int32 =>
 (nm (up μ 7 (x1).toNatClampNeg v10) fun μ11 : Mem =>
 (nm (up μ11 7 (x2).toNatClampNeg v8) fun μ12 : Mem =>
 (some (μ12, (μ12 7 (x1).toNatClampNeg)))))))))))))
set_option maxHeartbeats 4000000 in
theorem c_X3_exchange {l : Launch} {G : GW} {μ : Mem} {x1 : Int32} {x2 : Int32} {μ' : Mem} {r : Int32} (hf : f_X3_exchange μ x1 x2 = some (μ', r)) : MZ l (YR G) yX3_exchange cX3_exchange 4 (some .int) { frames := 1, cells := 0, slots := 0, locals := 21 } [.ref (G.1 0), .int x1, .int x2] μ μ' (some (.int r)) := by
  refine z_met RX3 rfl (by decide) (Nat.le_of_ble_eq_true rfl) (fun X hX C hR => ?_)
  show Z X (YR G) 4 μ 0 [(0, .ref (G.1 0)), (1, .int x1), (2, .int x2)] []
  unfold f_X3_exchange at hf
  refine z_aload_n C 0 dX3_exchange_0 rfl ?_
  refine z_iload_n C 1 dX3_exchange_1 rfl ?_
  obtain ⟨v2, h1⟩ : ∃ z, z = f_X3_isPlace μ x1 := ⟨_, rfl⟩
  replace hf := nm_e2 hf v2 h1
  refine z_callVi C (As := [.int x1]) (rest := []) (c_X3_isPlace h1.symm) vw_X3_70 ⟨rfl, rfl, by decide, by decide⟩ (z_rv C (q0 := 0) (ci := 3) rfl rfl rfl) rfl (Nat.le_of_ble_eq_true rfl) dX3_exchange_2 ?_
  refine z_if_eq C 16 dX3_exchange_5 (by decide) (fun c3 => ?_) (fun c3 => ?_)
  · replace hf := it_t hf c3
    refine z_bipush C dX3_exchange_16 (v := (-101 : Int32)) (by decide) ?_
    exact z_iret C hR dX3_exchange_18 (rt2 hf).1 (rt2 hf).2
  · replace hf := it_f hf c3
    refine z_aload_n C 0 dX3_exchange_8 rfl ?_
    refine z_iload_n C 2 dX3_exchange_9 rfl ?_
    obtain ⟨v5, h4⟩ : ∃ z, z = f_X3_isPlace μ x2 := ⟨_, rfl⟩
    replace hf := nm_e2 hf v5 h4
    refine z_callVi C (As := [.int x2]) (rest := []) (c_X3_isPlace h4.symm) vw_X3_70 ⟨rfl, rfl, by decide, by decide⟩ (z_rv C (q0 := 0) (ci := 3) rfl rfl rfl) rfl (Nat.le_of_ble_eq_true rfl) dX3_exchange_10 ?_
    refine z_if_ne C 19 dX3_exchange_13 (by decide) (fun c6 => ?_) (fun c6 => ?_)
    · replace hf := it_f hf c6
      refine z_aload_n C 0 dX3_exchange_19 rfl ?_
      refine zg_X3_19_0 C dX3_exchange_20 ?_
      refine zg_X3_95_3 C dX3_exchange_23 ?_
      refine z_iload_n C 1 dX3_exchange_26 rfl ?_
      obtain ⟨h7, hf⟩ := ck_e hf
      refine zRl_7 C dX3_exchange_27 h7 ?_
      refine z_topi (fun v8 ev8 => ?_)
      replace hf := nm_e2 hf v8 ev8
      refine z_istore_n C dX3_exchange_28 (i := 3) (lv' := [(3, .int v8), (0, .ref (G.1 0)), (1, .int x1), (2, .int x2)]) rfl (by decide) rfl ?_
      refine z_aload_n C 1 dX3_exchange_29 rfl ?_
      refine zg_X3_19_0 C dX3_exchange_30 ?_
      refine zg_X3_95_3 C dX3_exchange_33 ?_
      refine z_iload_n C 2 dX3_exchange_36 rfl ?_
      refine z_aload_n C 1 dX3_exchange_37 rfl ?_
      refine zg_X3_19_0 C dX3_exchange_38 ?_
      refine zg_X3_95_3 C dX3_exchange_41 ?_
      refine z_iload_n C 3 dX3_exchange_44 rfl ?_
      obtain ⟨h9, hf⟩ := ck_e hf
      refine zRl_7 C dX3_exchange_45 h9 ?_
      refine z_topi (fun v10 ev10 => ?_)
      replace hf := nm_e2 hf v10 ev10
      refine zRs_7 C dX3_exchange_46 h7 ?_
      refine z_mem (fun μ11 eμ11 => ?_)
      replace hf := nm_e2 hf μ11 eμ11
      refine z_aload_n C 1 dX3_exchange_47 rfl ?_
      refine zg_X3_19_0 C dX3_exchange_48 ?_
      refine zg_X3_95_3 C dX3_exchange_51 ?_
      refine z_iload_n C 3 dX3_exchange_54 rfl ?_
      refine z_iload_n C 0 dX3_exchange_55 rfl ?_
      refine zRs_7 C dX3_exchange_56 h9 ?_
      refine z_mem (fun μ12 eμ12 => ?_)
      replace hf := nm_e2 hf μ12 eμ12
      refine z_aload_n C 1 dX3_exchange_57 rfl ?_
      refine zg_X3_19_0 C dX3_exchange_58 ?_
      refine zg_X3_95_3 C dX3_exchange_61 ?_
      refine z_iload_n C 2 dX3_exchange_64 rfl ?_
      refine zRl_7 C dX3_exchange_65 h7 ?_
      exact z_iret C hR dX3_exchange_66 (rt2 hf).1 (rt2 hf).2
    · replace hf := it_t hf c6
      refine z_bipush C dX3_exchange_16 (v := (-101 : Int32)) (by decide) ?_
      exact z_iret C hR dX3_exchange_18 (rt2 hf).1 (rt2 hf).2
noncomputable def f_X3_isWord (μ : Mem) (x0 : Int32) : Int32 :=
 (if x0 < 0 then
 (0 : Int32)
 else
 (if (8 : Int32) ≤ x0 then
 (0 : Int32)
 else
 (1 : Int32)))
set_option maxHeartbeats 4000000 in
theorem c_X3_isWord {l : Launch} {G : GW} {μ : Mem} {x0 : Int32} {r : Int32} (hf : f_X3_isWord μ x0 = r) : MZ l (YR G) yX3_isWord cX3_isWord 1 (some .boolean) { frames := 0, cells := 0, slots := 0, locals := 0 } [.int x0] μ μ (some (.int r)) := by
  refine z_met RX3 rfl (by decide) (Nat.le_of_ble_eq_true rfl) (fun X hX C hR => ?_)
  show Z X (YR G) 1 μ 0 [(0, .int x0)] []
  unfold f_X3_isWord at hf
  refine z_iload_n C 0 dX3_isWord_0 rfl ?_
  refine z_if_lt C 14 dX3_isWord_1 (by decide) (fun c1 => ?_) (fun c1 => ?_)
  · replace hf := it_t hf c1
    refine z_iconst C dX3_isWord_14 (v := (0 : Int32)) (by decide) ?_
    exact z_zret C hR dX3_isWord_15 rfl rfl hf
  · replace hf := it_f hf c1
    refine z_iload_n C 0 dX3_isWord_4 rfl ?_
    refine z_bipush C dX3_isWord_5 (v := (8 : Int32)) (by decide) ?_
    refine z_icmp_ge C 14 dX3_isWord_7 (by decide) (fun c2 => ?_) (fun c2 => ?_)
    · replace hf := it_t hf c2
      refine z_iconst C dX3_isWord_14 (v := (0 : Int32)) (by decide) ?_
      exact z_zret C hR dX3_isWord_15 rfl rfl hf
    · replace hf := it_f hf c2
      refine z_iconst C dX3_isWord_10 (v := (1 : Int32)) (by decide) ?_
      refine z_goto C 15 dX3_isWord_11 (by decide) ?_
      exact z_zret C hR dX3_isWord_15 rfl rfl hf
theorem bz_X3_isWord {μ : Mem} {x0 : Int32} : narrow .boolean (.int (f_X3_isWord μ x0)) = .int (f_X3_isWord μ x0) := by
  simp only [f_X3_isWord, nm]
  (repeat' split)
  all_goals first | rfl | exact bz_X4_in
noncomputable def f_X3_twig (μ : Mem) (x1 : Int32) (x2 : Int32) : Option (Mem × Int32) :=
 (nm (f_X3_isPlace μ x1) fun v2 : Int32 =>
 (if v2 = 0 then
 (some (μ, (-101 : Int32)))
 else
 (nm (f_X3_isWord μ x2) fun v5 : Int32 =>
 (if v5 = 0 then
 (some (μ, (-102 : Int32)))
 else
 (ck (vp_in x1 6) <|
 (nm ((μ 5 (x1).toNatClampNeg)) fun v8 : Int32 =>
 (nm (up μ 5 (x1).toNatClampNeg x2) fun μ9 : Mem =>
 (some (μ9, v8)))))))))
set_option maxHeartbeats 4000000 in
theorem c_X3_twig {l : Launch} {G : GW} {μ : Mem} {x1 : Int32} {x2 : Int32} {μ' : Mem} {r : Int32} (hf : f_X3_twig μ x1 x2 = some (μ', r)) : MZ l (YR G) yX3_twig cX3_twig 4 (some .int) { frames := 1, cells := 0, slots := 0, locals := 21 } [.ref (G.1 0), .int x1, .int x2] μ μ' (some (.int r)) := by
  refine z_met RX3 rfl (by decide) (Nat.le_of_ble_eq_true rfl) (fun X hX C hR => ?_)
  show Z X (YR G) 4 μ 0 [(0, .ref (G.1 0)), (1, .int x1), (2, .int x2)] []
  unfold f_X3_twig at hf
  refine z_aload_n C 0 dX3_twig_0 rfl ?_
  refine z_iload_n C 1 dX3_twig_1 rfl ?_
  obtain ⟨v2, h1⟩ : ∃ z, z = f_X3_isPlace μ x1 := ⟨_, rfl⟩
  replace hf := nm_e2 hf v2 h1
  refine z_callVi C (As := [.int x1]) (rest := []) (c_X3_isPlace h1.symm) vw_X3_70 ⟨rfl, rfl, by decide, by decide⟩ (z_rv C (q0 := 0) (ci := 3) rfl rfl rfl) rfl (Nat.le_of_ble_eq_true rfl) dX3_twig_2 ?_
  refine z_if_ne C 11 dX3_twig_5 (by decide) (fun c3 => ?_) (fun c3 => ?_)
  · replace hf := it_f hf c3
    refine z_iload_n C 2 dX3_twig_11 rfl ?_
    obtain ⟨v5, h4⟩ : ∃ z, z = f_X3_isWord μ x2 := ⟨_, rfl⟩
    replace hf := nm_e2 hf v5 h4
    refine z_callSi C (As := [.int x2]) (rest := []) (c_X3_isWord h4.symm) sw_X3_98 ⟨rfl, rfl, by decide, by decide⟩ rfl (Nat.le_of_ble_eq_true rfl) dX3_twig_12 ?_
    refine z_if_ne C 21 dX3_twig_15 (by decide) (fun c6 => ?_) (fun c6 => ?_)
    · replace hf := it_f hf c6
      refine z_aload_n C 0 dX3_twig_21 rfl ?_
      refine zg_X3_19_0 C dX3_twig_22 ?_
      refine zg_X3_77_3 C dX3_twig_25 ?_
      refine z_iload_n C 1 dX3_twig_28 rfl ?_
      obtain ⟨h7, hf⟩ := ck_e hf
      refine zRl_5 C dX3_twig_29 h7 ?_
      refine z_topi (fun v8 ev8 => ?_)
      replace hf := nm_e2 hf v8 ev8
      refine z_istore_n C dX3_twig_30 (i := 3) (lv' := [(3, .int v8), (0, .ref (G.1 0)), (1, .int x1), (2, .int x2)]) rfl (by decide) rfl ?_
      refine z_aload_n C 1 dX3_twig_31 rfl ?_
      refine zg_X3_19_0 C dX3_twig_32 ?_
      refine zg_X3_77_3 C dX3_twig_35 ?_
      refine z_iload_n C 2 dX3_twig_38 rfl ?_
      refine z_iload_n C 3 dX3_twig_39 rfl ?_
      refine zRs_5 C dX3_twig_40 h7 ?_
      refine z_mem (fun μ9 eμ9 => ?_)
      replace hf := nm_e2 hf μ9 eμ9
      refine z_iload_n C 0 dX3_twig_41 rfl ?_
      exact z_iret C hR dX3_twig_42 (rt2 hf).1 (rt2 hf).2
    · replace hf := it_t hf c6
      refine z_bipush C dX3_twig_18 (v := (-102 : Int32)) (by decide) ?_
      exact z_iret C hR dX3_twig_20 (rt2 hf).1 (rt2 hf).2
  · replace hf := it_t hf c3
    refine z_bipush C dX3_twig_8 (v := (-101 : Int32)) (by decide) ?_
    exact z_iret C hR dX3_twig_10 (rt2 hf).1 (rt2 hf).2
noncomputable def f_X3_hasRing (μ : Mem) : Int32 :=
 (if (μ 3 7) ≤ 0 then
 (0 : Int32)
 else
 (1 : Int32))
set_option maxHeartbeats 4000000 in
theorem c_X3_hasRing {l : Launch} {G : GW} {μ : Mem} {r : Int32} (hf : f_X3_hasRing μ = r) : MZ l (YR G) yX3_hasRing cX3_hasRing 1 (some .boolean) { frames := 0, cells := 0, slots := 0, locals := 0 } [.ref (G.1 0)] μ μ (some (.int r)) := by
  refine z_met RX3 rfl (by decide) (Nat.le_of_ble_eq_true rfl) (fun X hX C hR => ?_)
  show Z X (YR G) 1 μ 0 [(0, .ref (G.1 0))] []
  unfold f_X3_hasRing at hf
  refine z_aload_n C 0 dX3_hasRing_0 rfl ?_
  refine zg_X3_19_0 C dX3_hasRing_1 ?_
  refine zg_X3_67_3 C dX3_hasRing_4 ?_
  refine z_if_le C 14 dX3_hasRing_7 (by decide) (fun c1 => ?_) (fun c1 => ?_)
  · replace hf := it_t hf c1
    refine z_iconst C dX3_hasRing_14 (v := (0 : Int32)) (by decide) ?_
    exact z_zret C hR dX3_hasRing_15 rfl rfl hf
  · replace hf := it_f hf c1
    refine z_iconst C dX3_hasRing_10 (v := (1 : Int32)) (by decide) ?_
    refine z_goto C 15 dX3_hasRing_11 (by decide) ?_
    exact z_zret C hR dX3_hasRing_15 rfl rfl hf
theorem bz_X3_hasRing {μ : Mem} : narrow .boolean (.int (f_X3_hasRing μ)) = .int (f_X3_hasRing μ) := by
  simp only [f_X3_hasRing, nm]
  (repeat' split)
  all_goals first | rfl | exact bz_X4_in
noncomputable def f_X3_wind (μ : Mem) (x1 : Int32) : Option (Mem × Int32) :=
 (if x1 < 0 then
 (some (μ, (-102 : Int32)))
 else
 (if x1 ≤ (1 : Int32) then
 (nm (f_X3_hasRing μ) fun v4 : Int32 =>
 (if v4 = 0 then
 (some (μ, (-103 : Int32)))
 else
 (nm ((μ 3 8)) fun v6 : Int32 =>
 (nm (up μ 3 8 x1) fun μ7 : Mem =>
 (some (μ7, v6))))))
 else
 (some (μ, (-102 : Int32)))))
set_option maxHeartbeats 4000000 in
theorem c_X3_wind {l : Launch} {G : GW} {μ : Mem} {x1 : Int32} {μ' : Mem} {r : Int32} (hf : f_X3_wind μ x1 = some (μ', r)) : MZ l (YR G) yX3_wind cX3_wind 3 (some .int) { frames := 1, cells := 0, slots := 0, locals := 20 } [.ref (G.1 0), .int x1] μ μ' (some (.int r)) := by
  refine z_met RX3 rfl (by decide) (Nat.le_of_ble_eq_true rfl) (fun X hX C hR => ?_)
  show Z X (YR G) 3 μ 0 [(0, .ref (G.1 0)), (1, .int x1)] []
  unfold f_X3_wind at hf
  refine z_iload_n C 1 dX3_wind_0 rfl ?_
  refine z_if_lt C 9 dX3_wind_1 (by decide) (fun c1 => ?_) (fun c1 => ?_)
  · replace hf := it_t hf c1
    refine z_bipush C dX3_wind_9 (v := (-102 : Int32)) (by decide) ?_
    exact z_iret C hR dX3_wind_11 (rt2 hf).1 (rt2 hf).2
  · replace hf := it_f hf c1
    refine z_iload_n C 1 dX3_wind_4 rfl ?_
    refine z_iconst C dX3_wind_5 (v := (1 : Int32)) (by decide) ?_
    refine z_icmp_le C 12 dX3_wind_6 (by decide) (fun c2 => ?_) (fun c2 => ?_)
    · replace hf := it_t hf c2
      refine z_aload_n C 0 dX3_wind_12 rfl ?_
      obtain ⟨v4, h3⟩ : ∃ z, z = f_X3_hasRing μ := ⟨_, rfl⟩
      replace hf := nm_e2 hf v4 h3
      refine z_callVi C (As := []) (rest := []) (c_X3_hasRing h3.symm) vw_X3_101 ⟨rfl, rfl, by decide, by decide⟩ (z_rv C (q0 := 0) (ci := 3) rfl rfl rfl) rfl (Nat.le_of_ble_eq_true rfl) dX3_wind_13 ?_
      refine z_if_ne C 22 dX3_wind_16 (by decide) (fun c5 => ?_) (fun c5 => ?_)
      · replace hf := it_f hf c5
        refine z_aload_n C 0 dX3_wind_22 rfl ?_
        refine zg_X3_19_0 C dX3_wind_23 ?_
        refine zg_X3_104_3 C dX3_wind_26 ?_
        refine z_topi (fun v6 ev6 => ?_)
        replace hf := nm_e2 hf v6 ev6
        refine z_istore_n C dX3_wind_29 (i := 2) (lv' := [(2, .int v6), (0, .ref (G.1 0)), (1, .int x1)]) rfl (by decide) rfl ?_
        refine z_aload_n C 1 dX3_wind_30 rfl ?_
        refine zg_X3_19_0 C dX3_wind_31 ?_
        refine z_iload_n C 2 dX3_wind_34 rfl ?_
        refine zp_X3_104_3 C dX3_wind_35 ?_
        refine z_mem (fun μ7 eμ7 => ?_)
        replace hf := nm_e2 hf μ7 eμ7
        refine z_iload_n C 0 dX3_wind_38 rfl ?_
        exact z_iret C hR dX3_wind_39 (rt2 hf).1 (rt2 hf).2
      · replace hf := it_t hf c5
        refine z_bipush C dX3_wind_19 (v := (-103 : Int32)) (by decide) ?_
        exact z_iret C hR dX3_wind_21 (rt2 hf).1 (rt2 hf).2
    · replace hf := it_f hf c2
      refine z_bipush C dX3_wind_9 (v := (-102 : Int32)) (by decide) ?_
      exact z_iret C hR dX3_wind_11 (rt2 hf).1 (rt2 hf).2
noncomputable def f_X3_comes (μ : Mem) (x1 : Int32) (x2 : Int32) : Option (Mem × Int32) :=
 (nm (f_X3_isPlace μ x1) fun v2 : Int32 =>
 (if v2 = 0 then
 (some (μ, (-101 : Int32)))
 else
 (nm (f_X3_isWord μ x2) fun v5 : Int32 =>
 (if v5 = 0 then
 (some (μ, (-102 : Int32)))
 else
 (bd (f_X0_seatAll μ) fun μ8 =>
 (bd (f_X0_outcome μ8 x1 x2) fun v10 =>
 (some (μ8, v10))))))))
set_option maxHeartbeats 4000000 in
theorem c_X3_comes {l : Launch} {G : GW} {μ : Mem} {x1 : Int32} {x2 : Int32} {μ' : Mem} {r : Int32} (hf : f_X3_comes μ x1 x2 = some (μ', r)) : MZ l (YR G) yX3_comes cX3_comes 3 (some .int) { frames := 3, cells := 0, slots := 0, locals := 75 } [.ref (G.1 0), .int x1, .int x2] μ μ' (some (.int r)) := by
  refine z_met RX3 rfl (by decide) (Nat.le_of_ble_eq_true rfl) (fun X hX C hR => ?_)
  show Z X (YR G) 3 μ 0 [(0, .ref (G.1 0)), (1, .int x1), (2, .int x2)] []
  unfold f_X3_comes at hf
  refine z_aload_n C 0 dX3_comes_0 rfl ?_
  refine z_iload_n C 1 dX3_comes_1 rfl ?_
  obtain ⟨v2, h1⟩ : ∃ z, z = f_X3_isPlace μ x1 := ⟨_, rfl⟩
  replace hf := nm_e2 hf v2 h1
  refine z_callVi C (As := [.int x1]) (rest := []) (c_X3_isPlace h1.symm) vw_X3_70 ⟨rfl, rfl, by decide, by decide⟩ (z_rv C (q0 := 0) (ci := 3) rfl rfl rfl) rfl (Nat.le_of_ble_eq_true rfl) dX3_comes_2 ?_
  refine z_if_ne C 11 dX3_comes_5 (by decide) (fun c3 => ?_) (fun c3 => ?_)
  · replace hf := it_f hf c3
    refine z_iload_n C 2 dX3_comes_11 rfl ?_
    obtain ⟨v5, h4⟩ : ∃ z, z = f_X3_isWord μ x2 := ⟨_, rfl⟩
    replace hf := nm_e2 hf v5 h4
    refine z_callSi C (As := [.int x2]) (rest := []) (c_X3_isWord h4.symm) sw_X3_98 ⟨rfl, rfl, by decide, by decide⟩ rfl (Nat.le_of_ble_eq_true rfl) dX3_comes_12 ?_
    refine z_if_ne C 21 dX3_comes_15 (by decide) (fun c6 => ?_) (fun c6 => ?_)
    · replace hf := it_f hf c6
      refine z_aload_n C 0 dX3_comes_21 rfl ?_
      refine zg_X3_29_0 C dX3_comes_22 ?_
      refine z_aload_n C 0 dX3_comes_25 rfl ?_
      refine zg_X3_19_0 C dX3_comes_26 ?_
      obtain ⟨μ8, h7, hf⟩ := bd_e hf
      refine z_callVv C (As := [.ref (G.1 3)]) (rest := []) (c_X0_seatAll h7) vw_X3_107 ⟨rfl, rfl, by decide, by decide⟩ (z_rv C (q0 := 19) (ci := 0) rfl rfl rfl) rfl (Nat.le_of_ble_eq_true rfl) dX3_comes_29 ?_
      refine z_aload_n C 0 dX3_comes_32 rfl ?_
      refine zg_X3_29_0 C dX3_comes_33 ?_
      refine z_iload_n C 1 dX3_comes_36 rfl ?_
      refine z_iload_n C 2 dX3_comes_37 rfl ?_
      obtain ⟨v10, h9, hf⟩ := bd_e hf
      refine z_callVi C (As := [.int x1, .int x2]) (rest := []) (c_X0_outcome h9) vw_X3_111 ⟨rfl, rfl, by decide, by decide⟩ (z_rv C (q0 := 19) (ci := 0) rfl rfl rfl) rfl (Nat.le_of_ble_eq_true rfl) dX3_comes_38 ?_
      exact z_iret C hR dX3_comes_41 (rt2 hf).1 (rt2 hf).2
    · replace hf := it_t hf c6
      refine z_bipush C dX3_comes_18 (v := (-102 : Int32)) (by decide) ?_
      exact z_iret C hR dX3_comes_20 (rt2 hf).1 (rt2 hf).2
  · replace hf := it_t hf c3
    refine z_bipush C dX3_comes_8 (v := (-101 : Int32)) (by decide) ?_
    exact z_iret C hR dX3_comes_10 (rt2 hf).1 (rt2 hf).2
noncomputable def f_X3_sit (μ : Mem) (x1 : Int32) (x2 : Int32) : Option (Mem × Int32) :=
 (bd2 (f_X3_comes μ x1 x2) fun μ2 v3 =>
 (nm (f_X3_isWord μ2 v3) fun v5 : Int32 =>
 (if v5 = 0 then
 (some (μ2, v3))
 else
 (if v3 = x2 then
 (ck (vp_in x1 6) <|
 (nm ((μ2 7 (x1).toNatClampNeg)) fun v12 : Int32 =>
 (ck (vp_in v12 6) <|
 (nm (((μ2 6 (v12).toNatClampNeg) + (1 : Int32))) fun v14 : Int32 =>
 (nm (up μ2 6 (v12).toNatClampNeg v14) fun μ15 : Mem =>
 (some (μ15, (-1 : Int32))))))))
 else
 (nm (((μ2 3 9) + (1 : Int32))) fun v8 : Int32 =>
 (nm (up μ2 3 9 v8) fun μ9 : Mem =>
 (nm (up μ9 3 10 v3) fun μ10 : Mem =>
 (some (μ10, v3)))))))))
set_option maxHeartbeats 4000000 in
theorem c_X3_sit {l : Launch} {G : GW} {μ : Mem} {x1 : Int32} {x2 : Int32} {μ' : Mem} {r : Int32} (hf : f_X3_sit μ x1 x2 = some (μ', r)) : MZ l (YR G) yX3_sit cX3_sit 4 (some .int) { frames := 4, cells := 0, slots := 0, locals := 97 } [.ref (G.1 0), .int x1, .int x2] μ μ' (some (.int r)) := by
  refine z_met RX3 rfl (by decide) (Nat.le_of_ble_eq_true rfl) (fun X hX C hR => ?_)
  show Z X (YR G) 4 μ 0 [(0, .ref (G.1 0)), (1, .int x1), (2, .int x2)] []
  unfold f_X3_sit at hf
  refine z_aload_n C 0 dX3_sit_0 rfl ?_
  refine z_iload_n C 1 dX3_sit_1 rfl ?_
  refine z_iload_n C 2 dX3_sit_2 rfl ?_
  obtain ⟨μ2, v3, h1, hf⟩ := bd2_e hf
  refine z_callVi C (As := [.int x1, .int x2]) (rest := []) (c_X3_comes h1) vw_X3_114 ⟨rfl, rfl, by decide, by decide⟩ (z_rv C (q0 := 0) (ci := 3) rfl rfl rfl) rfl (Nat.le_of_ble_eq_true rfl) dX3_sit_3 ?_
  refine z_istore_n C dX3_sit_6 (i := 3) (lv' := [(3, .int v3), (0, .ref (G.1 0)), (1, .int x1), (2, .int x2)]) rfl (by decide) rfl ?_
  refine z_iload_n C 0 dX3_sit_7 rfl ?_
  obtain ⟨v5, h4⟩ : ∃ z, z = f_X3_isWord μ2 v3 := ⟨_, rfl⟩
  replace hf := nm_e2 hf v5 h4
  refine z_callSi C (As := [.int v3]) (rest := []) (c_X3_isWord h4.symm) sw_X3_98 ⟨rfl, rfl, by decide, by decide⟩ rfl (Nat.le_of_ble_eq_true rfl) dX3_sit_8 ?_
  refine z_if_ne C 16 dX3_sit_11 (by decide) (fun c6 => ?_) (fun c6 => ?_)
  · replace hf := it_f hf c6
    refine z_iload_n C 0 dX3_sit_16 rfl ?_
    refine z_iload_n C 3 dX3_sit_17 rfl ?_
    refine z_icmp_ne C 44 dX3_sit_18 (by decide) (fun c7 => ?_) (fun c7 => ?_)
    · replace hf := it_f hf c7
      refine z_aload_n C 1 dX3_sit_44 rfl ?_
      refine zg_X3_19_0 C dX3_sit_45 ?_
      refine z_dup C dX3_sit_48 rfl ?_
      refine zg_X3_117_3 C dX3_sit_49 ?_
      refine z_iconst C dX3_sit_52 (v := (1 : Int32)) (by decide) ?_
      refine z_iadd C dX3_sit_53 ?_
      refine z_topi (fun v8 ev8 => ?_)
      replace hf := nm_e2 hf v8 ev8
      refine zp_X3_117_3 C dX3_sit_54 ?_
      refine z_mem (fun μ9 eμ9 => ?_)
      replace hf := nm_e2 hf μ9 eμ9
      refine z_aload_n C 1 dX3_sit_57 rfl ?_
      refine zg_X3_19_0 C dX3_sit_58 ?_
      refine z_iload_n C 0 dX3_sit_61 rfl ?_
      refine zp_X3_120_3 C dX3_sit_62 ?_
      refine z_mem (fun μ10 eμ10 => ?_)
      replace hf := nm_e2 hf μ10 eμ10
      refine z_iload_n C 0 dX3_sit_65 rfl ?_
      exact z_iret C hR dX3_sit_66 (rt2 hf).1 (rt2 hf).2
    · replace hf := it_t hf c7
      refine z_aload_n C 1 dX3_sit_21 rfl ?_
      refine zg_X3_19_0 C dX3_sit_22 ?_
      refine zg_X3_84_3 C dX3_sit_25 ?_
      refine z_aload_n C 1 dX3_sit_28 rfl ?_
      refine zg_X3_19_0 C dX3_sit_29 ?_
      refine zg_X3_95_3 C dX3_sit_32 ?_
      refine z_iload_n C 2 dX3_sit_35 rfl ?_
      obtain ⟨h11, hf⟩ := ck_e hf
      refine zRl_7 C dX3_sit_36 h11 ?_
      refine z_topi (fun v12 ev12 => ?_)
      replace hf := nm_e2 hf v12 ev12
      refine z_dup2 C dX3_sit_37 rfl rfl ?_
      obtain ⟨h13, hf⟩ := ck_e hf
      refine zRl_6 C dX3_sit_38 h13 ?_
      refine z_iconst C dX3_sit_39 (v := (1 : Int32)) (by decide) ?_
      refine z_iadd C dX3_sit_40 ?_
      refine z_topi (fun v14 ev14 => ?_)
      replace hf := nm_e2 hf v14 ev14
      refine zRs_6 C dX3_sit_41 h13 ?_
      refine z_mem (fun μ15 eμ15 => ?_)
      replace hf := nm_e2 hf μ15 eμ15
      refine z_iconst C dX3_sit_42 (v := (-1 : Int32)) (by decide) ?_
      exact z_iret C hR dX3_sit_43 (rt2 hf).1 (rt2 hf).2
  · replace hf := it_t hf c6
    refine z_iload_n C 0 dX3_sit_14 rfl ?_
    exact z_iret C hR dX3_sit_15 (rt2 hf).1 (rt2 hf).2
noncomputable def g_X3_where_76 (μ : Mem) (x1 : Int32) (x2 : Int32) (x3 : Int32) (x4 : Int32) (ih43 : Int32 × Int32 → Option (Mem × Int32)) : Option (Mem × Int32) :=
 ih43 (x3, (x4 + (1 : Int32)))
set_option maxHeartbeats 4000000 in
theorem zj_X3_where_76 {X : ZX} {G : GW} {μ' : Mem} {r : Int32} (μ : Mem) (x1 : Int32) (x2 : Int32) (x3 : Int32) (x4 : Int32) (C : CX X (YR G) cX3_where 5 RX3 { frames := 3, cells := 0, slots := 0, locals := 75 }) (hR : ZR X (YR G) (some .int) μ' (some (.int r))) (ih43 : Int32 × Int32 → Option (Mem × Int32)) (hih43 : ∀ σ, ih43 σ = some (μ', r) → Z X (YR G) 5 μ 43 [(0, .ref (G.1 0)), (1, .int x1), (2, .int x2), (3, .int σ.1), (4, .int σ.2)] []) (hf : g_X3_where_76 μ x1 x2 x3 x4 ih43 = some (μ', r)) : Z X (YR G) 5 μ 76 [(0, .ref (G.1 0)), (1, .int x1), (2, .int x2), (3, .int x3), (4, .int x4)] [] := by
  unfold g_X3_where_76 at hf
  refine z_iinc C 4 dX3_where_76 (v := (x4 + (1 : Int32))) (lv' := [(4, .int (x4 + (1 : Int32))), (0, .ref (G.1 0)), (1, .int x1), (2, .int x2), (3, .int x3)]) rfl rfl (by decide) rfl ?_
  refine z_goto C 43 dX3_where_79 (by decide) ?_
  refine z_lv C [1, 2, 3, 4, 0] (lv' := [(0, .ref (G.1 0)), (1, .int x1), (2, .int x2), (3, .int x3), (4, .int (x4 + (1 : Int32)))]) rfl ?_
  exact hih43 (x3, (x4 + (1 : Int32))) hf
noncomputable def b_X3_where_43 (μ : Mem) (x1 : Int32) (x2 : Int32) (ih43 : Int32 × Int32 → Option (Mem × Int32)) (x3 : Int32) (x4 : Int32) : Option (Mem × Int32) :=
 (if (μ 3 7) ≤ x4 then
 (some (μ, x3))
 else
 (bd (f_X0_outcome μ x4 x1) fun v14 =>
 (if v14 = x2 then
 (nm ((x3 ||| ((1 : Int32) <<< (x4 &&& 31)))) fun v16 : Int32 =>
 g_X3_where_76 μ x1 x2 v16 x4 ih43)
 else
 g_X3_where_76 μ x1 x2 x3 x4 ih43)))
set_option maxHeartbeats 4000000 in
theorem zl_X3_where_43 {X : ZX} {G : GW} {μ' : Mem} {r : Int32} (μ : Mem) (x1 : Int32) (x2 : Int32) (C : CX X (YR G) cX3_where 5 RX3 { frames := 3, cells := 0, slots := 0, locals := 75 }) (hR : ZR X (YR G) (some .int) μ' (some (.int r))) : ∀ (n : Nat) (σ : Int32 × Int32), lp (fun ih σ => b_X3_where_43 μ x1 x2 ih σ.1 σ.2) n σ = some (μ', r) → Z X (YR G) 5 μ 43 [(0, .ref (G.1 0)), (1, .int x1), (2, .int x2), (3, .int σ.1), (4, .int σ.2)] [] := by
  refine lp_z (P := fun σ : Int32 × Int32 => Z X (YR G) 5 μ 43 [(0, .ref (G.1 0)), (1, .int x1), (2, .int x2), (3, .int σ.1), (4, .int σ.2)] []) (fun ih43 hih43 σ hf => ?_)
  obtain ⟨x3, x4⟩ := σ
  have hf : b_X3_where_43 μ x1 x2 ih43 x3 x4 = some (μ', r) := hf
  show Z X (YR G) 5 μ 43 [(0, .ref (G.1 0)), (1, .int x1), (2, .int x2), (3, .int x3), (4, .int x4)] []
  unfold b_X3_where_43 at hf
  refine z_iload C 4 dX3_where_43 rfl ?_
  refine z_aload_n C 0 dX3_where_45 rfl ?_
  refine zg_X3_19_0 C dX3_where_46 ?_
  refine zg_X3_67_3 C dX3_where_49 ?_
  refine z_icmp_ge C 82 dX3_where_52 (by decide) (fun c12 => ?_) (fun c12 => ?_)
  · replace hf := it_t hf c12
    refine z_iload_n C 3 dX3_where_82 rfl ?_
    exact z_iret C hR dX3_where_83 (rt2 hf).1 (rt2 hf).2
  · replace hf := it_f hf c12
    refine z_aload_n C 0 dX3_where_55 rfl ?_
    refine zg_X3_29_0 C dX3_where_56 ?_
    refine z_iload C 4 dX3_where_59 rfl ?_
    refine z_iload_n C 1 dX3_where_61 rfl ?_
    obtain ⟨v14, h13, hf⟩ := bd_e hf
    refine z_callVi C (As := [.int x4, .int x1]) (rest := []) (c_X0_outcome h13) vw_X3_111 ⟨rfl, rfl, by decide, by decide⟩ (z_rv C (q0 := 19) (ci := 0) rfl rfl rfl) rfl (Nat.le_of_ble_eq_true rfl) dX3_where_62 ?_
    refine z_iload_n C 2 dX3_where_65 rfl ?_
    refine z_icmp_ne C 76 dX3_where_66 (by decide) (fun c15 => ?_) (fun c15 => ?_)
    · replace hf := it_f hf c15
      exact zj_X3_where_76 μ x1 x2 x3 x4 C hR ih43 hih43 hf
    · replace hf := it_t hf c15
      refine z_iload_n C 3 dX3_where_69 rfl ?_
      refine z_iconst C dX3_where_70 (v := (1 : Int32)) (by decide) ?_
      refine z_iload C 4 dX3_where_71 rfl ?_
      refine z_ishl C dX3_where_73 ?_
      refine z_ior C dX3_where_74 ?_
      refine z_topi (fun v16 ev16 => ?_)
      replace hf := nm_e2 hf v16 ev16
      refine z_istore_n C dX3_where_75 (i := 3) (lv' := [(3, .int v16), (0, .ref (G.1 0)), (1, .int x1), (2, .int x2), (4, .int x4)]) rfl (by decide) rfl ?_
      refine z_lv C [1, 2, 3, 0, 4] (lv' := [(0, .ref (G.1 0)), (1, .int x1), (2, .int x2), (3, .int v16), (4, .int x4)]) rfl ?_
      exact zj_X3_where_76 μ x1 x2 v16 x4 C hR ih43 hih43 hf
noncomputable def f_X3_where (μ : Mem) (x1 : Int32) (x2 : Int32) : Option (Mem × Int32) :=
 (nm (f_X3_isWord μ x1) fun v2 : Int32 =>
 (if v2 = 0 then
 (some (μ, (-102 : Int32)))
 else
 (nm (f_X3_isWord μ x2) fun v5 : Int32 =>
 (if v5 = 0 then
 (some (μ, (-102 : Int32)))
 else
 (nm (f_X3_hasRing μ) fun v8 : Int32 =>
 (if v8 = 0 then
 (some (μ, (-103 : Int32)))
 else
 (bd (f_X0_seatAll μ) fun μ11 =>
 lp (fun ih σ => b_X3_where_43 μ11 x1 x2 ih σ.1 σ.2) fu ((0 : Int32), (0 : Int32)))))))))
set_option maxHeartbeats 4000000 in
theorem c_X3_where {l : Launch} {G : GW} {μ : Mem} {x1 : Int32} {x2 : Int32} {μ' : Mem} {r : Int32} (hf : f_X3_where μ x1 x2 = some (μ', r)) : MZ l (YR G) yX3_where cX3_where 5 (some .int) { frames := 3, cells := 0, slots := 0, locals := 75 } [.ref (G.1 0), .int x1, .int x2] μ μ' (some (.int r)) := by
  refine z_met RX3 rfl (by decide) (Nat.le_of_ble_eq_true rfl) (fun X hX C hR => ?_)
  show Z X (YR G) 5 μ 0 [(0, .ref (G.1 0)), (1, .int x1), (2, .int x2)] []
  unfold f_X3_where at hf
  refine z_iload_n C 1 dX3_where_0 rfl ?_
  obtain ⟨v2, h1⟩ : ∃ z, z = f_X3_isWord μ x1 := ⟨_, rfl⟩
  replace hf := nm_e2 hf v2 h1
  refine z_callSi C (As := [.int x1]) (rest := []) (c_X3_isWord h1.symm) sw_X3_98 ⟨rfl, rfl, by decide, by decide⟩ rfl (Nat.le_of_ble_eq_true rfl) dX3_where_1 ?_
  refine z_if_eq C 14 dX3_where_4 (by decide) (fun c3 => ?_) (fun c3 => ?_)
  · replace hf := it_t hf c3
    refine z_bipush C dX3_where_14 (v := (-102 : Int32)) (by decide) ?_
    exact z_iret C hR dX3_where_16 (rt2 hf).1 (rt2 hf).2
  · replace hf := it_f hf c3
    refine z_iload_n C 2 dX3_where_7 rfl ?_
    obtain ⟨v5, h4⟩ : ∃ z, z = f_X3_isWord μ x2 := ⟨_, rfl⟩
    replace hf := nm_e2 hf v5 h4
    refine z_callSi C (As := [.int x2]) (rest := []) (c_X3_isWord h4.symm) sw_X3_98 ⟨rfl, rfl, by decide, by decide⟩ rfl (Nat.le_of_ble_eq_true rfl) dX3_where_8 ?_
    refine z_if_ne C 17 dX3_where_11 (by decide) (fun c6 => ?_) (fun c6 => ?_)
    · replace hf := it_f hf c6
      refine z_aload_n C 0 dX3_where_17 rfl ?_
      obtain ⟨v8, h7⟩ : ∃ z, z = f_X3_hasRing μ := ⟨_, rfl⟩
      replace hf := nm_e2 hf v8 h7
      refine z_callVi C (As := []) (rest := []) (c_X3_hasRing h7.symm) vw_X3_101 ⟨rfl, rfl, by decide, by decide⟩ (z_rv C (q0 := 0) (ci := 3) rfl rfl rfl) rfl (Nat.le_of_ble_eq_true rfl) dX3_where_18 ?_
      refine z_if_ne C 27 dX3_where_21 (by decide) (fun c9 => ?_) (fun c9 => ?_)
      · replace hf := it_f hf c9
        refine z_aload_n C 0 dX3_where_27 rfl ?_
        refine zg_X3_29_0 C dX3_where_28 ?_
        refine z_aload_n C 0 dX3_where_31 rfl ?_
        refine zg_X3_19_0 C dX3_where_32 ?_
        obtain ⟨μ11, h10, hf⟩ := bd_e hf
        refine z_callVv C (As := [.ref (G.1 3)]) (rest := []) (c_X0_seatAll h10) vw_X3_107 ⟨rfl, rfl, by decide, by decide⟩ (z_rv C (q0 := 19) (ci := 0) rfl rfl rfl) rfl (Nat.le_of_ble_eq_true rfl) dX3_where_35 ?_
        refine z_iconst C dX3_where_38 (v := (0 : Int32)) (by decide) ?_
        refine z_istore_n C dX3_where_39 (i := 3) (lv' := [(3, .int (0 : Int32)), (0, .ref (G.1 0)), (1, .int x1), (2, .int x2)]) rfl (by decide) rfl ?_
        refine z_iconst C dX3_where_40 (v := (0 : Int32)) (by decide) ?_
        refine z_istore C dX3_where_41 (i := 4) (lv' := [(4, .int (0 : Int32)), (3, .int (0 : Int32)), (0, .ref (G.1 0)), (1, .int x1), (2, .int x2)]) (by decide) rfl ?_
        refine z_lv C [2, 3, 4, 1, 0] (lv' := [(0, .ref (G.1 0)), (1, .int x1), (2, .int x2), (3, .int (0 : Int32)), (4, .int (0 : Int32))]) rfl ?_
        exact zl_X3_where_43 μ11 x1 x2 C hR fu ((0 : Int32), (0 : Int32)) hf
      · replace hf := it_t hf c9
        refine z_bipush C dX3_where_24 (v := (-103 : Int32)) (by decide) ?_
        exact z_iret C hR dX3_where_26 (rt2 hf).1 (rt2 hf).2
    · replace hf := it_t hf c6
      refine z_bipush C dX3_where_14 (v := (-102 : Int32)) (by decide) ?_
      exact z_iret C hR dX3_where_16 (rt2 hf).1 (rt2 hf).2
noncomputable def g_X3_can_74 (μ : Mem) (x1 : Int32) (x2 : Int32) (ih25 : Int32 × Int32 → Option (Mem × Int32)) : Option (Mem × Int32) :=
 ih25 (x1, (x2 + (1 : Int32)))
set_option maxHeartbeats 4000000 in
theorem zj_X3_can_74 {X : ZX} {G : GW} {μ' : Mem} {r : Int32} (μ : Mem) (x1 : Int32) (x2 : Int32) (C : CX X (YR G) cX3_can 5 RX3 { frames := 3, cells := 0, slots := 0, locals := 75 }) (hR : ZR X (YR G) (some .int) μ' (some (.int r))) (ih25 : Int32 × Int32 → Option (Mem × Int32)) (hih25 : ∀ σ, ih25 σ = some (μ', r) → Z X (YR G) 5 μ 25 [(0, .ref (G.1 0)), (1, .int σ.1), (2, .int σ.2)] []) (hf : g_X3_can_74 μ x1 x2 ih25 = some (μ', r)) : Z X (YR G) 5 μ 74 [(0, .ref (G.1 0)), (1, .int x1), (2, .int x2)] [] := by
  unfold g_X3_can_74 at hf
  refine z_iinc C 2 dX3_can_74 (v := (x2 + (1 : Int32))) (lv' := [(2, .int (x2 + (1 : Int32))), (0, .ref (G.1 0)), (1, .int x1)]) rfl rfl (by decide) rfl ?_
  refine z_goto C 25 dX3_can_77 (by decide) ?_
  refine z_lv C [1, 2, 0] (lv' := [(0, .ref (G.1 0)), (1, .int x1), (2, .int (x2 + (1 : Int32)))]) rfl ?_
  exact hih25 (x1, (x2 + (1 : Int32))) hf
noncomputable def g_X3_can_68 (μ : Mem) (x1 : Int32) (x2 : Int32) (x3 : Int32) (ih25 : Int32 × Int32 → Option (Mem × Int32)) (ih38 : Int32 × Int32 → Option (Mem × Int32)) : Option (Mem × Int32) :=
 ih38 (x1, (x3 + (1 : Int32)))
set_option maxHeartbeats 4000000 in
theorem zj_X3_can_68 {X : ZX} {G : GW} {μ' : Mem} {r : Int32} (μ : Mem) (x1 : Int32) (x2 : Int32) (x3 : Int32) (C : CX X (YR G) cX3_can 5 RX3 { frames := 3, cells := 0, slots := 0, locals := 75 }) (hR : ZR X (YR G) (some .int) μ' (some (.int r))) (ih25 : Int32 × Int32 → Option (Mem × Int32)) (hih25 : ∀ σ, ih25 σ = some (μ', r) → Z X (YR G) 5 μ 25 [(0, .ref (G.1 0)), (1, .int σ.1), (2, .int σ.2)] []) (ih38 : Int32 × Int32 → Option (Mem × Int32)) (hih38 : ∀ σ, ih38 σ = some (μ', r) → Z X (YR G) 5 μ 38 [(0, .ref (G.1 0)), (1, .int σ.1), (2, .int x2), (3, .int σ.2)] []) (hf : g_X3_can_68 μ x1 x2 x3 ih25 ih38 = some (μ', r)) : Z X (YR G) 5 μ 68 [(0, .ref (G.1 0)), (1, .int x1), (2, .int x2), (3, .int x3)] [] := by
  unfold g_X3_can_68 at hf
  refine z_iinc C 3 dX3_can_68 (v := (x3 + (1 : Int32))) (lv' := [(3, .int (x3 + (1 : Int32))), (0, .ref (G.1 0)), (1, .int x1), (2, .int x2)]) rfl rfl (by decide) rfl ?_
  refine z_goto C 38 dX3_can_71 (by decide) ?_
  refine z_lv C [1, 2, 3, 0] (lv' := [(0, .ref (G.1 0)), (1, .int x1), (2, .int x2), (3, .int (x3 + (1 : Int32)))]) rfl ?_
  exact hih38 (x1, (x3 + (1 : Int32))) hf
noncomputable def b_X3_can_38 (μ : Mem) (x2 : Int32) (ih25 : Int32 × Int32 → Option (Mem × Int32)) (ih38 : Int32 × Int32 → Option (Mem × Int32)) (x1 : Int32) (x3 : Int32) : Option (Mem × Int32) :=
 (if (8 : Int32) ≤ x3 then
 g_X3_can_74 μ x1 x2 ih25
 else
 (bd (f_X0_outcome μ x2 x3) fun v9 =>
 (if v9 = x3 then
 g_X3_can_68 μ x1 x2 x3 ih25 ih38
 else
 (nm ((x1 ||| ((1 : Int32) <<< (v9 &&& 31)))) fun v11 : Int32 =>
 g_X3_can_68 μ v11 x2 x3 ih25 ih38))))
set_option maxHeartbeats 4000000 in
theorem zl_X3_can_38 {X : ZX} {G : GW} {μ' : Mem} {r : Int32} (μ : Mem) (x2 : Int32) (C : CX X (YR G) cX3_can 5 RX3 { frames := 3, cells := 0, slots := 0, locals := 75 }) (hR : ZR X (YR G) (some .int) μ' (some (.int r))) (ih25 : Int32 × Int32 → Option (Mem × Int32)) (hih25 : ∀ σ, ih25 σ = some (μ', r) → Z X (YR G) 5 μ 25 [(0, .ref (G.1 0)), (1, .int σ.1), (2, .int σ.2)] []) : ∀ (n : Nat) (σ : Int32 × Int32), lp (fun ih σ => b_X3_can_38 μ x2 ih25 ih σ.1 σ.2) n σ = some (μ', r) → Z X (YR G) 5 μ 38 [(0, .ref (G.1 0)), (1, .int σ.1), (2, .int x2), (3, .int σ.2)] [] := by
  refine lp_z (P := fun σ : Int32 × Int32 => Z X (YR G) 5 μ 38 [(0, .ref (G.1 0)), (1, .int σ.1), (2, .int x2), (3, .int σ.2)] []) (fun ih38 hih38 σ hf => ?_)
  obtain ⟨x1, x3⟩ := σ
  have hf : b_X3_can_38 μ x2 ih25 ih38 x1 x3 = some (μ', r) := hf
  show Z X (YR G) 5 μ 38 [(0, .ref (G.1 0)), (1, .int x1), (2, .int x2), (3, .int x3)] []
  unfold b_X3_can_38 at hf
  refine z_iload_n C 3 dX3_can_38 rfl ?_
  refine z_bipush C dX3_can_39 (v := (8 : Int32)) (by decide) ?_
  refine z_icmp_ge C 74 dX3_can_41 (by decide) (fun c7 => ?_) (fun c7 => ?_)
  · replace hf := it_t hf c7
    refine z_lv C [0, 1, 2] (lv' := [(0, .ref (G.1 0)), (1, .int x1), (2, .int x2)]) rfl ?_
    exact zj_X3_can_74 μ x1 x2 C hR ih25 hih25 hf
  · replace hf := it_f hf c7
    refine z_aload_n C 0 dX3_can_44 rfl ?_
    refine zg_X3_29_0 C dX3_can_45 ?_
    refine z_iload_n C 2 dX3_can_48 rfl ?_
    refine z_iload_n C 3 dX3_can_49 rfl ?_
    obtain ⟨v9, h8, hf⟩ := bd_e hf
    refine z_callVi C (As := [.int x2, .int x3]) (rest := []) (c_X0_outcome h8) vw_X3_111 ⟨rfl, rfl, by decide, by decide⟩ (z_rv C (q0 := 19) (ci := 0) rfl rfl rfl) rfl (Nat.le_of_ble_eq_true rfl) dX3_can_50 ?_
    refine z_istore C dX3_can_53 (i := 4) (lv' := [(4, .int v9), (0, .ref (G.1 0)), (1, .int x1), (2, .int x2), (3, .int x3)]) (by decide) rfl ?_
    refine z_iload C 0 dX3_can_55 rfl ?_
    refine z_iload_n C 4 dX3_can_57 rfl ?_
    refine z_icmp_eq C 68 dX3_can_58 (by decide) (fun c10 => ?_) (fun c10 => ?_)
    · replace hf := it_t hf c10
      refine z_lv C [1, 2, 3, 4] (lv' := [(0, .ref (G.1 0)), (1, .int x1), (2, .int x2), (3, .int x3)]) rfl ?_
      exact zj_X3_can_68 μ x1 x2 x3 C hR ih25 hih25 ih38 hih38 hf
    · replace hf := it_f hf c10
      refine z_iload_n C 2 dX3_can_61 rfl ?_
      refine z_iconst C dX3_can_62 (v := (1 : Int32)) (by decide) ?_
      refine z_iload C 0 dX3_can_63 rfl ?_
      refine z_ishl C dX3_can_65 ?_
      refine z_ior C dX3_can_66 ?_
      refine z_topi (fun v11 ev11 => ?_)
      replace hf := nm_e2 hf v11 ev11
      refine z_istore_n C dX3_can_67 (i := 1) (lv' := [(1, .int v11), (4, .int v9), (0, .ref (G.1 0)), (2, .int x2), (3, .int x3)]) rfl (by decide) rfl ?_
      refine z_lv C [2, 0, 3, 4] (lv' := [(0, .ref (G.1 0)), (1, .int v11), (2, .int x2), (3, .int x3)]) rfl ?_
      exact zj_X3_can_68 μ v11 x2 x3 C hR ih25 hih25 ih38 hih38 hf
noncomputable def b_X3_can_25 (μ : Mem) (ih25 : Int32 × Int32 → Option (Mem × Int32)) (x1 : Int32) (x2 : Int32) : Option (Mem × Int32) :=
 (if (μ 3 7) ≤ x2 then
 (some (μ, x1))
 else
 lp (fun ih σ => b_X3_can_38 μ x2 ih25 ih σ.1 σ.2) fu (x1, (0 : Int32)))
set_option maxHeartbeats 4000000 in
theorem zl_X3_can_25 {X : ZX} {G : GW} {μ' : Mem} {r : Int32} (μ : Mem) (C : CX X (YR G) cX3_can 5 RX3 { frames := 3, cells := 0, slots := 0, locals := 75 }) (hR : ZR X (YR G) (some .int) μ' (some (.int r))) : ∀ (n : Nat) (σ : Int32 × Int32), lp (fun ih σ => b_X3_can_25 μ ih σ.1 σ.2) n σ = some (μ', r) → Z X (YR G) 5 μ 25 [(0, .ref (G.1 0)), (1, .int σ.1), (2, .int σ.2)] [] := by
  refine lp_z (P := fun σ : Int32 × Int32 => Z X (YR G) 5 μ 25 [(0, .ref (G.1 0)), (1, .int σ.1), (2, .int σ.2)] []) (fun ih25 hih25 σ hf => ?_)
  obtain ⟨x1, x2⟩ := σ
  have hf : b_X3_can_25 μ ih25 x1 x2 = some (μ', r) := hf
  show Z X (YR G) 5 μ 25 [(0, .ref (G.1 0)), (1, .int x1), (2, .int x2)] []
  unfold b_X3_can_25 at hf
  refine z_iload_n C 2 dX3_can_25 rfl ?_
  refine z_aload_n C 0 dX3_can_26 rfl ?_
  refine zg_X3_19_0 C dX3_can_27 ?_
  refine zg_X3_67_3 C dX3_can_30 ?_
  refine z_icmp_ge C 80 dX3_can_33 (by decide) (fun c6 => ?_) (fun c6 => ?_)
  · replace hf := it_t hf c6
    refine z_iload_n C 1 dX3_can_80 rfl ?_
    exact z_iret C hR dX3_can_81 (rt2 hf).1 (rt2 hf).2
  · replace hf := it_f hf c6
    refine z_iconst C dX3_can_36 (v := (0 : Int32)) (by decide) ?_
    refine z_istore_n C dX3_can_37 (i := 3) (lv' := [(3, .int (0 : Int32)), (0, .ref (G.1 0)), (1, .int x1), (2, .int x2)]) rfl (by decide) rfl ?_
    refine z_lv C [1, 2, 3, 0] (lv' := [(0, .ref (G.1 0)), (1, .int x1), (2, .int x2), (3, .int (0 : Int32))]) rfl ?_
    exact zl_X3_can_38 μ x2 C hR ih25 hih25 fu (x1, (0 : Int32)) hf
noncomputable def f_X3_can (μ : Mem) : Option (Mem × Int32) :=
 (nm (f_X3_hasRing μ) fun v2 : Int32 =>
 (if v2 = 0 then
 (some (μ, (-103 : Int32)))
 else
 (bd (f_X0_seatAll μ) fun μ5 =>
 lp (fun ih σ => b_X3_can_25 μ5 ih σ.1 σ.2) fu ((0 : Int32), (0 : Int32)))))
set_option maxHeartbeats 4000000 in
theorem c_X3_can {l : Launch} {G : GW} {μ : Mem} {μ' : Mem} {r : Int32} (hf : f_X3_can μ = some (μ', r)) : MZ l (YR G) yX3_can cX3_can 5 (some .int) { frames := 3, cells := 0, slots := 0, locals := 75 } [.ref (G.1 0)] μ μ' (some (.int r)) := by
  refine z_met RX3 rfl (by decide) (Nat.le_of_ble_eq_true rfl) (fun X hX C hR => ?_)
  show Z X (YR G) 5 μ 0 [(0, .ref (G.1 0))] []
  unfold f_X3_can at hf
  refine z_aload_n C 0 dX3_can_0 rfl ?_
  obtain ⟨v2, h1⟩ : ∃ z, z = f_X3_hasRing μ := ⟨_, rfl⟩
  replace hf := nm_e2 hf v2 h1
  refine z_callVi C (As := []) (rest := []) (c_X3_hasRing h1.symm) vw_X3_101 ⟨rfl, rfl, by decide, by decide⟩ (z_rv C (q0 := 0) (ci := 3) rfl rfl rfl) rfl (Nat.le_of_ble_eq_true rfl) dX3_can_1 ?_
  refine z_if_ne C 10 dX3_can_4 (by decide) (fun c3 => ?_) (fun c3 => ?_)
  · replace hf := it_f hf c3
    refine z_aload_n C 0 dX3_can_10 rfl ?_
    refine zg_X3_29_0 C dX3_can_11 ?_
    refine z_aload_n C 0 dX3_can_14 rfl ?_
    refine zg_X3_19_0 C dX3_can_15 ?_
    obtain ⟨μ5, h4, hf⟩ := bd_e hf
    refine z_callVv C (As := [.ref (G.1 3)]) (rest := []) (c_X0_seatAll h4) vw_X3_107 ⟨rfl, rfl, by decide, by decide⟩ (z_rv C (q0 := 19) (ci := 0) rfl rfl rfl) rfl (Nat.le_of_ble_eq_true rfl) dX3_can_18 ?_
    refine z_iconst C dX3_can_21 (v := (0 : Int32)) (by decide) ?_
    refine z_istore_n C dX3_can_22 (i := 1) (lv' := [(1, .int (0 : Int32)), (0, .ref (G.1 0))]) rfl (by decide) rfl ?_
    refine z_iconst C dX3_can_23 (v := (0 : Int32)) (by decide) ?_
    refine z_istore_n C dX3_can_24 (i := 2) (lv' := [(2, .int (0 : Int32)), (1, .int (0 : Int32)), (0, .ref (G.1 0))]) rfl (by decide) rfl ?_
    refine z_lv C [2, 1, 0] (lv' := [(0, .ref (G.1 0)), (1, .int (0 : Int32)), (2, .int (0 : Int32))]) rfl ?_
    exact zl_X3_can_25 μ5 C hR fu ((0 : Int32), (0 : Int32)) hf
  · replace hf := it_t hf c3
    refine z_bipush C dX3_can_7 (v := (-103 : Int32)) (by decide) ?_
    exact z_iret C hR dX3_can_9 (rt2 hf).1 (rt2 hf).2
noncomputable def f_X3_roundsTold (μ : Mem) (x0 : Int32) (x1 : Int32) (x2 : Int32) : Int32 :=
 (if x2 = (0 : Int32) then
 x0
 else
 (if x2 = (1 : Int32) then
 (x0 - x1)
 else
 (-1 : Int32)))
set_option maxHeartbeats 4000000 in
theorem c_X3_roundsTold {l : Launch} {G : GW} {μ : Mem} {x0 : Int32} {x1 : Int32} {x2 : Int32} {r : Int32} (hf : f_X3_roundsTold μ x0 x1 x2 = r) : MZ l (YR G) yX3_roundsTold cX3_roundsTold 3 (some .int) { frames := 0, cells := 0, slots := 0, locals := 0 } [.int x0, .int x1, .int x2] μ μ (some (.int r)) := by
  refine z_met RX3 rfl (by decide) (Nat.le_of_ble_eq_true rfl) (fun X hX C hR => ?_)
  show Z X (YR G) 3 μ 0 [(0, .int x0), (1, .int x1), (2, .int x2)] []
  unfold f_X3_roundsTold at hf
  refine z_iload_n C 2 dX3_roundsTold_0 rfl ?_
  rcases Decidable.em (x2 = (0 : Int32)) with c1 | c1
  · replace hf := it_t hf c1
    refine z_look C 28 dX3_roundsTold_1 (off := 27) (by decide) (by rw [c1]; first | rfl | decide +kernel) (by decide) ?_
    refine z_iload_n C 0 dX3_roundsTold_28 rfl ?_
    exact z_iret C hR dX3_roundsTold_29 rfl hf
  · replace hf := it_f hf c1
    rcases Decidable.em (x2 = (1 : Int32)) with c2 | c2
    · replace hf := it_t hf c2
      refine z_look C 30 dX3_roundsTold_1 (off := 29) (by decide) (by rw [c2]; first | rfl | decide +kernel) (by decide) ?_
      refine z_iload_n C 0 dX3_roundsTold_30 rfl ?_
      refine z_iload_n C 1 dX3_roundsTold_31 rfl ?_
      refine z_isub C dX3_roundsTold_32 ?_
      exact z_iret C hR dX3_roundsTold_33 rfl hf
    · replace hf := it_f hf c2
      refine z_look C 34 dX3_roundsTold_1 (off := 33) (by decide) (by show Op.lookupswitch.offset [(0, 27), (1, 29)] 33 _ = _; rw [lv_osw c1 (by decide), lv_osw c2 (by decide)]; rfl) (by decide) ?_
      refine z_iconst C dX3_roundsTold_34 (v := (-1 : Int32)) (by decide) ?_
      exact z_iret C hR dX3_roundsTold_35 rfl hf
noncomputable def g_X3_sittingsOn_102 (μ : Mem) (x3 : Int32) (x6 : Int32) : Option (Mem × Int32) :=
 (if x3 = (2 : Int32) then
 (some (μ, (x6 + (1 : Int32))))
 else
 (some (μ, (-1 : Int32))))
set_option maxHeartbeats 4000000 in
theorem zj_X3_sittingsOn_102 {X : ZX} {G : GW} {μ' : Mem} {r : Int32} (μ : Mem) (x3 : Int32) (x6 : Int32) (C : CX X (YR G) cX3_sittingsOn 9 RX3 { frames := 3, cells := 0, slots := 0, locals := 75 }) (hR : ZR X (YR G) (some .int) μ' (some (.int r))) (hf : g_X3_sittingsOn_102 μ x3 x6 = some (μ', r)) : Z X (YR G) 9 μ 102 [(3, .int x3), (6, .int x6)] [] := by
  unfold g_X3_sittingsOn_102 at hf
  refine z_iload_n C 0 dX3_sittingsOn_102 rfl ?_
  refine z_iconst C dX3_sittingsOn_103 (v := (2 : Int32)) (by decide) ?_
  refine z_icmp_ne C 114 dX3_sittingsOn_104 (by decide) (fun c15 => ?_) (fun c15 => ?_)
  · replace hf := it_f hf c15
    refine z_iconst C dX3_sittingsOn_114 (v := (-1 : Int32)) (by decide) ?_
    exact z_iret C hR dX3_sittingsOn_115 (rt2 hf).1 (rt2 hf).2
  · replace hf := it_t hf c15
    refine z_iload C 1 dX3_sittingsOn_107 rfl ?_
    refine z_iconst C dX3_sittingsOn_109 (v := (1 : Int32)) (by decide) ?_
    refine z_iadd C dX3_sittingsOn_110 ?_
    refine z_goto C 115 dX3_sittingsOn_111 (by decide) ?_
    exact z_iret C hR dX3_sittingsOn_115 (rt2 hf).1 (rt2 hf).2
noncomputable def g_X3_sittingsOn_59 (μ : Mem) (x3 : Int32) (x6 : Int32) (x7 : Int32) : Option (Mem × Int32) :=
 (ck (vp_in x7 48) <|
 (nm (f_X3_roundsTold μ x6 (μ 23 (x7).toNatClampNeg) x3) fun v18 : Int32 =>
 (some (μ, v18))))
set_option maxHeartbeats 4000000 in
theorem zj_X3_sittingsOn_59 {X : ZX} {G : GW} {μ' : Mem} {r : Int32} (μ : Mem) (x3 : Int32) (x6 : Int32) (x7 : Int32) (C : CX X (YR G) cX3_sittingsOn 9 RX3 { frames := 3, cells := 0, slots := 0, locals := 75 }) (hR : ZR X (YR G) (some .int) μ' (some (.int r))) (hf : g_X3_sittingsOn_59 μ x3 x6 x7 = some (μ', r)) : Z X (YR G) 9 μ 59 [(0, .ref (G.1 0)), (3, .int x3), (6, .int x6), (7, .int x7)] [] := by
  unfold g_X3_sittingsOn_59 at hf
  refine z_iload C 2 dX3_sittingsOn_59 rfl ?_
  refine z_aload_n C 0 dX3_sittingsOn_61 rfl ?_
  refine zg_X3_37_0 C dX3_sittingsOn_62 ?_
  refine z_iload C 3 dX3_sittingsOn_65 rfl ?_
  obtain ⟨h16, hf⟩ := ck_e hf
  refine zRl_23 C dX3_sittingsOn_67 h16 ?_
  refine z_iload_n C 1 dX3_sittingsOn_68 rfl ?_
  obtain ⟨v18, h17⟩ : ∃ z, z = f_X3_roundsTold μ x6 (μ 23 (x7).toNatClampNeg) x3 := ⟨_, rfl⟩
  replace hf := nm_e2 hf v18 h17
  refine z_callSi C (As := [.int x6, .int (μ 23 (x7).toNatClampNeg), .int x3]) (rest := []) (c_X3_roundsTold h17.symm) sw_X3_208 ⟨rfl, rfl, by decide, by decide⟩ rfl (Nat.le_of_ble_eq_true rfl) dX3_sittingsOn_69 ?_
  exact z_iret C hR dX3_sittingsOn_72 (rt2 hf).1 (rt2 hf).2
noncomputable def b_X3_sittingsOn_28 (x3 : Int32) (ih28 : Mem × Int32 × Int32 × Int32 → Option (Mem × Int32)) (μ : Mem) (x4 : Int32) (x5 : Int32) (x6 : Int32) : Option (Mem × Int32) :=
 (if (48 : Int32) < x6 then
 (some (μ, (-1 : Int32)))
 else
 (nm (((x4 * (8 : Int32)) + x5)) fun v6 : Int32 =>
 (ck (vp_in v6 48) <|
 (if (μ 23 (v6).toNatClampNeg) = (-1 : Int32) then
 (nm (up μ 23 (v6).toNatClampNeg x6) fun μ9 : Mem =>
 (bd (f_X0_outcome μ9 x4 x5) fun v11 =>
 (if v11 = x5 then
 g_X3_sittingsOn_102 μ9 x3 x6
 else
 (nm (f_X0_leftOf μ9 x4) fun v14 : Int32 =>
 ih28 (μ9, v14, v11, (x6 + (1 : Int32)))))))
 else
 g_X3_sittingsOn_59 μ x3 x6 v6))))
set_option maxHeartbeats 4000000 in
theorem zl_X3_sittingsOn_28 {X : ZX} {G : GW} {μ' : Mem} {r : Int32} (x3 : Int32) (C : CX X (YR G) cX3_sittingsOn 9 RX3 { frames := 3, cells := 0, slots := 0, locals := 75 }) (hR : ZR X (YR G) (some .int) μ' (some (.int r))) : ∀ (n : Nat) (σ : Mem × Int32 × Int32 × Int32), lp (fun ih σ => b_X3_sittingsOn_28 x3 ih σ.1 σ.2.1 σ.2.2.1 σ.2.2.2) n σ = some (μ', r) → Z X (YR G) 9 σ.1 28 [(0, .ref (G.1 0)), (3, .int x3), (4, .int σ.2.1), (5, .int σ.2.2.1), (6, .int σ.2.2.2)] [] := by
  refine lp_z (P := fun σ : Mem × Int32 × Int32 × Int32 => Z X (YR G) 9 σ.1 28 [(0, .ref (G.1 0)), (3, .int x3), (4, .int σ.2.1), (5, .int σ.2.2.1), (6, .int σ.2.2.2)] []) (fun ih28 hih28 σ hf => ?_)
  obtain ⟨μ, x4, x5, x6⟩ := σ
  have hf : b_X3_sittingsOn_28 x3 ih28 μ x4 x5 x6 = some (μ', r) := hf
  show Z X (YR G) 9 μ 28 [(0, .ref (G.1 0)), (3, .int x3), (4, .int x4), (5, .int x5), (6, .int x6)] []
  unfold b_X3_sittingsOn_28 at hf
  refine z_iload C 4 dX3_sittingsOn_28 rfl ?_
  refine z_aload_n C 0 dX3_sittingsOn_30 rfl ?_
  refine zg_X3_37_0 C dX3_sittingsOn_31 ?_
  refine zRn_23 C dX3_sittingsOn_34 ?_
  refine z_icmp_gt C 137 dX3_sittingsOn_35 (by decide) (fun c5 => ?_) (fun c5 => ?_)
  · replace hf := it_t hf c5
    refine z_iconst C dX3_sittingsOn_137 (v := (-1 : Int32)) (by decide) ?_
    exact z_iret C hR dX3_sittingsOn_138 (rt2 hf).1 (rt2 hf).2
  · replace hf := it_f hf c5
    refine z_iload C 2 dX3_sittingsOn_38 rfl ?_
    refine z_bipush C dX3_sittingsOn_40 (v := (8 : Int32)) (by decide) ?_
    refine z_imul C dX3_sittingsOn_42 ?_
    refine z_iload C 3 dX3_sittingsOn_43 rfl ?_
    refine z_iadd C dX3_sittingsOn_45 ?_
    refine z_topi (fun v6 ev6 => ?_)
    replace hf := nm_e2 hf v6 ev6
    refine z_istore C dX3_sittingsOn_46 (i := 7) (lv' := [(7, .int v6), (0, .ref (G.1 0)), (3, .int x3), (4, .int x4), (5, .int x5), (6, .int x6)]) (by decide) rfl ?_
    refine z_aload_n C 1 dX3_sittingsOn_48 rfl ?_
    refine zg_X3_37_0 C dX3_sittingsOn_49 ?_
    refine z_iload C 0 dX3_sittingsOn_52 rfl ?_
    obtain ⟨h7, hf⟩ := ck_e hf
    refine zRl_23 C dX3_sittingsOn_54 h7 ?_
    refine z_iconst C dX3_sittingsOn_55 (v := (-1 : Int32)) (by decide) ?_
    refine z_icmp_eq C 73 dX3_sittingsOn_56 (by decide) (fun c8 => ?_) (fun c8 => ?_)
    · replace hf := it_t hf c8
      refine z_aload_n C 1 dX3_sittingsOn_73 rfl ?_
      refine zg_X3_37_0 C dX3_sittingsOn_74 ?_
      refine z_iload C 0 dX3_sittingsOn_77 rfl ?_
      refine z_iload C 5 dX3_sittingsOn_79 rfl ?_
      refine zRs_23 C dX3_sittingsOn_81 h7 ?_
      refine z_mem (fun μ9 eμ9 => ?_)
      replace hf := nm_e2 hf μ9 eμ9
      refine z_aload_n C 1 dX3_sittingsOn_82 rfl ?_
      refine zg_X3_29_0 C dX3_sittingsOn_83 ?_
      refine z_iload C 3 dX3_sittingsOn_86 rfl ?_
      refine z_iload C 4 dX3_sittingsOn_88 rfl ?_
      obtain ⟨v11, h10, hf⟩ := bd_e hf
      refine z_callVi C (As := [.int x4, .int x5]) (rest := []) (c_X0_outcome h10) vw_X3_111 ⟨rfl, rfl, by decide, by decide⟩ (z_rv C (q0 := 19) (ci := 0) rfl rfl rfl) rfl (Nat.le_of_ble_eq_true rfl) dX3_sittingsOn_90 ?_
      refine z_istore C dX3_sittingsOn_93 (i := 8) (lv' := [(8, .int v11), (7, .int v6), (0, .ref (G.1 0)), (3, .int x3), (4, .int x4), (5, .int x5), (6, .int x6)]) (by decide) rfl ?_
      refine z_iload C 0 dX3_sittingsOn_95 rfl ?_
      refine z_iload C 5 dX3_sittingsOn_97 rfl ?_
      refine z_icmp_ne C 116 dX3_sittingsOn_99 (by decide) (fun c12 => ?_) (fun c12 => ?_)
      · replace hf := it_f hf c12
        refine z_iload C 0 dX3_sittingsOn_116 rfl ?_
        refine z_istore C dX3_sittingsOn_118 (i := 5) (lv' := [(5, .int v11), (8, .int v11), (7, .int v6), (0, .ref (G.1 0)), (3, .int x3), (4, .int x4), (6, .int x6)]) (by decide) rfl ?_
        refine z_aload_n C 3 dX3_sittingsOn_120 rfl ?_
        refine zg_X3_29_0 C dX3_sittingsOn_121 ?_
        refine z_iload C 5 dX3_sittingsOn_124 rfl ?_
        obtain ⟨v14, h13⟩ : ∃ z, z = f_X0_leftOf μ9 x4 := ⟨_, rfl⟩
        replace hf := nm_e2 hf v14 h13
        refine z_callVi C (As := [.int x4]) (rest := []) (c_X0_leftOf h13.symm) vw_X3_211 ⟨rfl, rfl, by decide, by decide⟩ (z_rv C (q0 := 19) (ci := 0) rfl rfl rfl) rfl (Nat.le_of_ble_eq_true rfl) dX3_sittingsOn_126 ?_
        refine z_istore C dX3_sittingsOn_129 (i := 4) (lv' := [(4, .int v14), (5, .int v11), (8, .int v11), (7, .int v6), (0, .ref (G.1 0)), (3, .int x3), (6, .int x6)]) (by decide) rfl ?_
        refine z_iinc C 6 dX3_sittingsOn_131 (v := (x6 + (1 : Int32))) (lv' := [(6, .int (x6 + (1 : Int32))), (4, .int v14), (5, .int v11), (8, .int v11), (7, .int v6), (0, .ref (G.1 0)), (3, .int x3)]) rfl rfl (by decide) rfl ?_
        refine z_goto C 28 dX3_sittingsOn_134 (by decide) ?_
        refine z_lv C [5, 6, 1, 2, 0] (lv' := [(0, .ref (G.1 0)), (3, .int x3), (4, .int v14), (5, .int v11), (6, .int (x6 + (1 : Int32)))]) rfl ?_
        exact hih28 (μ9, v14, v11, (x6 + (1 : Int32))) hf
      · replace hf := it_t hf c12
        refine z_lv C [3, 6] (lv' := [(3, .int x3), (6, .int x6)]) rfl ?_
        exact zj_X3_sittingsOn_102 μ9 x3 x6 C hR hf
    · replace hf := it_f hf c8
      refine z_lv C [1, 2, 5, 0] (lv' := [(0, .ref (G.1 0)), (3, .int x3), (6, .int x6), (7, .int v6)]) rfl ?_
      exact zj_X3_sittingsOn_59 μ x3 x6 v6 C hR hf
noncomputable def f_X3_sittingsOn (μ : Mem) (x1 : Int32) (x2 : Int32) (x3 : Int32) : Option (Mem × Int32) :=
 (bd (f_X0_seatAll μ) fun μ2 =>
 (bd (f_J7_fill_53178_23 μ2 (-1 : Int32)) fun μ4 =>
 lp (fun ih σ => b_X3_sittingsOn_28 x3 ih σ.1 σ.2.1 σ.2.2.1 σ.2.2.2) fu (μ4, x1, x2, (0 : Int32))))
set_option maxHeartbeats 4000000 in
theorem c_X3_sittingsOn {l : Launch} {G : GW} {μ : Mem} {x1 : Int32} {x2 : Int32} {x3 : Int32} {μ' : Mem} {r : Int32} (hf : f_X3_sittingsOn μ x1 x2 x3 = some (μ', r)) : MZ l (YR G) yX3_sittingsOn cX3_sittingsOn 9 (some .int) { frames := 3, cells := 0, slots := 0, locals := 75 } [.ref (G.1 0), .int x1, .int x2, .int x3] μ μ' (some (.int r)) := by
  refine z_met RX3 rfl (by decide) (Nat.le_of_ble_eq_true rfl) (fun X hX C hR => ?_)
  show Z X (YR G) 9 μ 0 [(0, .ref (G.1 0)), (1, .int x1), (2, .int x2), (3, .int x3)] []
  unfold f_X3_sittingsOn at hf
  refine z_aload_n C 0 dX3_sittingsOn_0 rfl ?_
  refine zg_X3_29_0 C dX3_sittingsOn_1 ?_
  refine z_aload_n C 0 dX3_sittingsOn_4 rfl ?_
  refine zg_X3_19_0 C dX3_sittingsOn_5 ?_
  obtain ⟨μ2, h1, hf⟩ := bd_e hf
  refine z_callVv C (As := [.ref (G.1 3)]) (rest := []) (c_X0_seatAll h1) vw_X3_107 ⟨rfl, rfl, by decide, by decide⟩ (z_rv C (q0 := 19) (ci := 0) rfl rfl rfl) rfl (Nat.le_of_ble_eq_true rfl) dX3_sittingsOn_8 ?_
  refine z_aload_n C 0 dX3_sittingsOn_11 rfl ?_
  refine zg_X3_37_0 C dX3_sittingsOn_12 ?_
  refine z_iconst C dX3_sittingsOn_15 (v := (-1 : Int32)) (by decide) ?_
  obtain ⟨μ4, h3, hf⟩ := bd_e hf
  refine z_callSv C (As := [.ref (G.1 23), .int (-1 : Int32)]) (rest := []) (c_J7_fill_53178_23 h3) sw_X3_202 ⟨rfl, rfl, by decide, by decide⟩ rfl (Nat.le_of_ble_eq_true rfl) dX3_sittingsOn_16 ?_
  refine z_iload_n C 1 dX3_sittingsOn_19 rfl ?_
  refine z_istore C dX3_sittingsOn_20 (i := 4) (lv' := [(4, .int x1), (0, .ref (G.1 0)), (1, .int x1), (2, .int x2), (3, .int x3)]) (by decide) rfl ?_
  refine z_iload_n C 3 dX3_sittingsOn_22 rfl ?_
  refine z_istore C dX3_sittingsOn_23 (i := 5) (lv' := [(5, .int x2), (4, .int x1), (0, .ref (G.1 0)), (1, .int x1), (2, .int x2), (3, .int x3)]) (by decide) rfl ?_
  refine z_iconst C dX3_sittingsOn_25 (v := (0 : Int32)) (by decide) ?_
  refine z_istore C dX3_sittingsOn_26 (i := 6) (lv' := [(6, .int (0 : Int32)), (5, .int x2), (4, .int x1), (0, .ref (G.1 0)), (1, .int x1), (2, .int x2), (3, .int x3)]) (by decide) rfl ?_
  refine z_lv C [3, 6, 2, 1, 0] (lv' := [(0, .ref (G.1 0)), (3, .int x3), (4, .int x1), (5, .int x2), (6, .int (0 : Int32))]) rfl ?_
  exact zl_X3_sittingsOn_28 x3 C hR fu (μ4, x1, x2, (0 : Int32)) hf
noncomputable def f_X3_endless (μ : Mem) (x1 : Int32) (x2 : Int32) (x3 : Int32) : Option (Mem × Int32) :=
 (nm (f_X3_isPlace μ x1) fun v2 : Int32 =>
 (if v2 = 0 then
 (some (μ, (-101 : Int32)))
 else
 (nm (f_X3_isWord μ x2) fun v5 : Int32 =>
 (if v5 = 0 then
 (some (μ, (-102 : Int32)))
 else
 (if x3 < 0 then
 (some (μ, (-102 : Int32)))
 else
 (if x3 ≤ (2 : Int32) then
 (bd2 (f_X3_sittingsOn μ x1 x2 x3) fun μ10 v11 =>
 (some (μ10, v11)))
 else
 (some (μ, (-102 : Int32)))))))))
set_option maxHeartbeats 4000000 in
theorem c_X3_endless {l : Launch} {G : GW} {μ : Mem} {x1 : Int32} {x2 : Int32} {x3 : Int32} {μ' : Mem} {r : Int32} (hf : f_X3_endless μ x1 x2 x3 = some (μ', r)) : MZ l (YR G) yX3_endless cX3_endless 4 (some .int) { frames := 4, cells := 0, slots := 0, locals := 103 } [.ref (G.1 0), .int x1, .int x2, .int x3] μ μ' (some (.int r)) := by
  refine z_met RX3 rfl (by decide) (Nat.le_of_ble_eq_true rfl) (fun X hX C hR => ?_)
  show Z X (YR G) 4 μ 0 [(0, .ref (G.1 0)), (1, .int x1), (2, .int x2), (3, .int x3)] []
  unfold f_X3_endless at hf
  refine z_aload_n C 0 dX3_endless_0 rfl ?_
  refine z_iload_n C 1 dX3_endless_1 rfl ?_
  obtain ⟨v2, h1⟩ : ∃ z, z = f_X3_isPlace μ x1 := ⟨_, rfl⟩
  replace hf := nm_e2 hf v2 h1
  refine z_callVi C (As := [.int x1]) (rest := []) (c_X3_isPlace h1.symm) vw_X3_70 ⟨rfl, rfl, by decide, by decide⟩ (z_rv C (q0 := 0) (ci := 3) rfl rfl rfl) rfl (Nat.le_of_ble_eq_true rfl) dX3_endless_2 ?_
  refine z_if_ne C 11 dX3_endless_5 (by decide) (fun c3 => ?_) (fun c3 => ?_)
  · replace hf := it_f hf c3
    refine z_iload_n C 2 dX3_endless_11 rfl ?_
    obtain ⟨v5, h4⟩ : ∃ z, z = f_X3_isWord μ x2 := ⟨_, rfl⟩
    replace hf := nm_e2 hf v5 h4
    refine z_callSi C (As := [.int x2]) (rest := []) (c_X3_isWord h4.symm) sw_X3_98 ⟨rfl, rfl, by decide, by decide⟩ rfl (Nat.le_of_ble_eq_true rfl) dX3_endless_12 ?_
    refine z_if_eq C 27 dX3_endless_15 (by decide) (fun c6 => ?_) (fun c6 => ?_)
    · replace hf := it_t hf c6
      refine z_bipush C dX3_endless_27 (v := (-102 : Int32)) (by decide) ?_
      exact z_iret C hR dX3_endless_29 (rt2 hf).1 (rt2 hf).2
    · replace hf := it_f hf c6
      refine z_iload_n C 3 dX3_endless_18 rfl ?_
      refine z_if_lt C 27 dX3_endless_19 (by decide) (fun c7 => ?_) (fun c7 => ?_)
      · replace hf := it_t hf c7
        refine z_bipush C dX3_endless_27 (v := (-102 : Int32)) (by decide) ?_
        exact z_iret C hR dX3_endless_29 (rt2 hf).1 (rt2 hf).2
      · replace hf := it_f hf c7
        refine z_iload_n C 3 dX3_endless_22 rfl ?_
        refine z_iconst C dX3_endless_23 (v := (2 : Int32)) (by decide) ?_
        refine z_icmp_le C 30 dX3_endless_24 (by decide) (fun c8 => ?_) (fun c8 => ?_)
        · replace hf := it_t hf c8
          refine z_aload_n C 0 dX3_endless_30 rfl ?_
          refine z_iload_n C 1 dX3_endless_31 rfl ?_
          refine z_iload_n C 2 dX3_endless_32 rfl ?_
          refine z_iload_n C 3 dX3_endless_33 rfl ?_
          obtain ⟨μ10, v11, h9, hf⟩ := bd2_e hf
          refine z_callVi C (As := [.int x1, .int x2, .int x3]) (rest := []) (c_X3_sittingsOn h9) vw_X3_123 ⟨rfl, rfl, by decide, by decide⟩ (z_rv C (q0 := 0) (ci := 3) rfl rfl rfl) rfl (Nat.le_of_ble_eq_true rfl) dX3_endless_34 ?_
          exact z_iret C hR dX3_endless_37 (rt2 hf).1 (rt2 hf).2
        · replace hf := it_f hf c8
          refine z_bipush C dX3_endless_27 (v := (-102 : Int32)) (by decide) ?_
          exact z_iret C hR dX3_endless_29 (rt2 hf).1 (rt2 hf).2
  · replace hf := it_t hf c3
    refine z_bipush C dX3_endless_8 (v := (-101 : Int32)) (by decide) ?_
    exact z_iret C hR dX3_endless_10 (rt2 hf).1 (rt2 hf).2
noncomputable def b_X3_ordersOf_4 (μ : Mem) (x0 : Int32) (ih4 : Int32 × Int32 → Option Int32) (x1 : Int32) (x2 : Int32) : Option Int32 :=
 (if x0 < x2 then
 (some x1)
 else
 (nm ((x1 * x2)) fun v2 : Int32 =>
 ih4 (v2, (x2 + (1 : Int32)))))
set_option maxHeartbeats 4000000 in
theorem zl_X3_ordersOf_4 {X : ZX} {G : GW} {r : Int32} (μ : Mem) (x0 : Int32) (C : CX X (YR G) cX3_ordersOf 3 RX3 { frames := 0, cells := 0, slots := 0, locals := 0 }) (hR : ZR X (YR G) (some .int) μ (some (.int r))) : ∀ (n : Nat) (σ : Int32 × Int32), lp (fun ih σ => b_X3_ordersOf_4 μ x0 ih σ.1 σ.2) n σ = some r → Z X (YR G) 3 μ 4 [(0, .int x0), (1, .int σ.1), (2, .int σ.2)] [] := by
  refine lp_z (P := fun σ : Int32 × Int32 => Z X (YR G) 3 μ 4 [(0, .int x0), (1, .int σ.1), (2, .int σ.2)] []) (fun ih4 hih4 σ hf => ?_)
  obtain ⟨x1, x2⟩ := σ
  have hf : b_X3_ordersOf_4 μ x0 ih4 x1 x2 = some r := hf
  show Z X (YR G) 3 μ 4 [(0, .int x0), (1, .int x1), (2, .int x2)] []
  unfold b_X3_ordersOf_4 at hf
  refine z_iload_n C 2 dX3_ordersOf_4 rfl ?_
  refine z_iload_n C 0 dX3_ordersOf_5 rfl ?_
  refine z_icmp_gt C 19 dX3_ordersOf_6 (by decide) (fun c1 => ?_) (fun c1 => ?_)
  · replace hf := it_t hf c1
    refine z_iload_n C 1 dX3_ordersOf_19 rfl ?_
    exact z_iret C hR dX3_ordersOf_20 rfl (rt1 hf)
  · replace hf := it_f hf c1
    refine z_iload_n C 1 dX3_ordersOf_9 rfl ?_
    refine z_iload_n C 2 dX3_ordersOf_10 rfl ?_
    refine z_imul C dX3_ordersOf_11 ?_
    refine z_topi (fun v2 ev2 => ?_)
    replace hf := nm_e2 hf v2 ev2
    refine z_istore_n C dX3_ordersOf_12 (i := 1) (lv' := [(1, .int v2), (0, .int x0), (2, .int x2)]) rfl (by decide) rfl ?_
    refine z_iinc C 2 dX3_ordersOf_13 (v := (x2 + (1 : Int32))) (lv' := [(2, .int (x2 + (1 : Int32))), (1, .int v2), (0, .int x0)]) rfl rfl (by decide) rfl ?_
    refine z_goto C 4 dX3_ordersOf_16 (by decide) ?_
    refine z_lv C [2, 1, 0] (lv' := [(0, .int x0), (1, .int v2), (2, .int (x2 + (1 : Int32)))]) rfl ?_
    exact hih4 (v2, (x2 + (1 : Int32))) hf
noncomputable def f_X3_ordersOf (μ : Mem) (x0 : Int32) : Option Int32 :=
 lp (fun ih σ => b_X3_ordersOf_4 μ x0 ih σ.1 σ.2) fu ((1 : Int32), (2 : Int32))
set_option maxHeartbeats 4000000 in
theorem c_X3_ordersOf {l : Launch} {G : GW} {μ : Mem} {x0 : Int32} {r : Int32} (hf : f_X3_ordersOf μ x0 = some r) : MZ l (YR G) yX3_ordersOf cX3_ordersOf 3 (some .int) { frames := 0, cells := 0, slots := 0, locals := 0 } [.int x0] μ μ (some (.int r)) := by
  refine z_met RX3 rfl (by decide) (Nat.le_of_ble_eq_true rfl) (fun X hX C hR => ?_)
  show Z X (YR G) 3 μ 0 [(0, .int x0)] []
  unfold f_X3_ordersOf at hf
  refine z_iconst C dX3_ordersOf_0 (v := (1 : Int32)) (by decide) ?_
  refine z_istore_n C dX3_ordersOf_1 (i := 1) (lv' := [(1, .int (1 : Int32)), (0, .int x0)]) rfl (by decide) rfl ?_
  refine z_iconst C dX3_ordersOf_2 (v := (2 : Int32)) (by decide) ?_
  refine z_istore_n C dX3_ordersOf_3 (i := 2) (lv' := [(2, .int (2 : Int32)), (1, .int (1 : Int32)), (0, .int x0)]) rfl (by decide) rfl ?_
  refine z_lv C [2, 1, 0] (lv' := [(0, .int x0), (1, .int (1 : Int32)), (2, .int (2 : Int32))]) rfl ?_
  exact zl_X3_ordersOf_4 μ x0 C hR fu ((1 : Int32), (2 : Int32)) hf
