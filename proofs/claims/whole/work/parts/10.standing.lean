noncomputable def g_X2_startFrom_60 (μ : Mem) : Option Mem :=
 (bd (f_X1_windTold μ) fun v6 =>
 (nm (up μ 3 8 v6) fun μ7 : Mem =>
 (nm (up μ7 3 9 (0 : Int32)) fun μ8 : Mem =>
 (nm (up μ8 3 10 (-1 : Int32)) fun μ9 : Mem =>
 (nm (up μ9 3 11 (0 : Int32)) fun μ10 : Mem =>
 (some (μ10)))))))
set_option maxHeartbeats 4000000 in
theorem zj_X2_startFrom_60 {X : ZX} {G : GW} {μ' : Mem} (μ : Mem) (C : CX X (YR G) cX2_startFrom 3 RX2 { frames := 5, cells := 0, slots := 0, locals := 112 }) (hR : ZR X (YR G) none μ' none) (hf : g_X2_startFrom_60 μ = some μ') : Z X (YR G) 3 μ 60 [(0, .ref (G.1 3)), (1, .ref (G.1 1))] [] := by
  unfold g_X2_startFrom_60 at hf
  refine z_aload_n C 0 dX2_startFrom_60 rfl ?_
  refine z_aload_n C 1 dX2_startFrom_61 rfl ?_
  obtain ⟨v6, h5, hf⟩ := bd_e hf
  refine z_callVi C (As := []) (rest := [.ref (G.1 3)]) (c_X1_windTold h5) vw_X2_53 ⟨rfl, rfl, by decide, by decide⟩ (z_rv C (q0 := 1) (ci := 1) rfl rfl rfl) rfl (Nat.le_of_ble_eq_true rfl) dX2_startFrom_62 ?_
  refine zp_X2_56_3 C dX2_startFrom_65 ?_
  refine z_mem (fun μ7 eμ7 => ?_)
  replace hf := nm_e2 hf μ7 eμ7
  refine z_aload_n C 0 dX2_startFrom_68 rfl ?_
  refine z_iconst C dX2_startFrom_69 (v := (0 : Int32)) (by decide) ?_
  refine zp_X2_59_3 C dX2_startFrom_70 ?_
  refine z_mem (fun μ8 eμ8 => ?_)
  replace hf := nm_e2 hf μ8 eμ8
  refine z_aload_n C 0 dX2_startFrom_73 rfl ?_
  refine z_iconst C dX2_startFrom_74 (v := (-1 : Int32)) (by decide) ?_
  refine zp_X2_33_3 C dX2_startFrom_75 ?_
  refine z_mem (fun μ9 eμ9 => ?_)
  replace hf := nm_e2 hf μ9 eμ9
  refine z_aload_n C 0 dX2_startFrom_78 rfl ?_
  refine z_iconst C dX2_startFrom_79 (v := (0 : Int32)) (by decide) ?_
  refine zp_X2_62_3 C dX2_startFrom_80 ?_
  refine z_mem (fun μ10 eμ10 => ?_)
  replace hf := nm_e2 hf μ10 eμ10
  exact z_vret C hR dX2_startFrom_83 (rt1 hf)
noncomputable def b_X2_startFrom_10 (ih10 : Mem × Int32 → Option Mem) (μ : Mem) (x2 : Int32) : Option Mem :=
 (if (μ 3 7) ≤ x2 then
 g_X2_startFrom_60 μ
 else
 (bd (f_X1_kindTold μ x2) fun v12 =>
 (ck (vp_in x2 6) <|
 (nm (up μ 4 (x2).toNatClampNeg v12) fun μ14 : Mem =>
 (bd (f_X1_twigTold μ14 x2) fun v16 =>
 (nm (up μ14 5 (x2).toNatClampNeg v16) fun μ17 : Mem =>
 (nm (up μ17 6 (x2).toNatClampNeg (0 : Int32)) fun μ18 : Mem =>
 (nm (up μ18 7 (x2).toNatClampNeg x2) fun μ19 : Mem =>
 ih10 (μ19, (x2 + (1 : Int32)))))))))))
set_option maxHeartbeats 4000000 in
theorem zl_X2_startFrom_10 {X : ZX} {G : GW} {μ' : Mem} (C : CX X (YR G) cX2_startFrom 3 RX2 { frames := 5, cells := 0, slots := 0, locals := 112 }) (hR : ZR X (YR G) none μ' none) : ∀ (n : Nat) (σ : Mem × Int32), lp (fun ih σ => b_X2_startFrom_10 ih σ.1 σ.2) n σ = some μ' → Z X (YR G) 3 σ.1 10 [(0, .ref (G.1 3)), (1, .ref (G.1 1)), (2, .int σ.2)] [] := by
  refine lp_z (P := fun σ : Mem × Int32 => Z X (YR G) 3 σ.1 10 [(0, .ref (G.1 3)), (1, .ref (G.1 1)), (2, .int σ.2)] []) (fun ih10 hih10 σ hf => ?_)
  obtain ⟨μ, x2⟩ := σ
  have hf : b_X2_startFrom_10 ih10 μ x2 = some μ' := hf
  show Z X (YR G) 3 μ 10 [(0, .ref (G.1 3)), (1, .ref (G.1 1)), (2, .int x2)] []
  unfold b_X2_startFrom_10 at hf
  refine z_iload_n C 2 dX2_startFrom_10 rfl ?_
  refine z_aload_n C 0 dX2_startFrom_11 rfl ?_
  refine zg_X2_43_3 C dX2_startFrom_12 ?_
  refine z_icmp_ge C 60 dX2_startFrom_15 (by decide) (fun c4 => ?_) (fun c4 => ?_)
  · replace hf := it_t hf c4
    refine z_lv C [0, 1] (lv' := [(0, .ref (G.1 3)), (1, .ref (G.1 1))]) rfl ?_
    exact zj_X2_startFrom_60 μ C hR hf
  · replace hf := it_f hf c4
    refine z_aload_n C 0 dX2_startFrom_18 rfl ?_
    refine zg_X2_9_3 C dX2_startFrom_19 ?_
    refine z_iload_n C 2 dX2_startFrom_22 rfl ?_
    refine z_aload_n C 1 dX2_startFrom_23 rfl ?_
    refine z_iload_n C 2 dX2_startFrom_24 rfl ?_
    obtain ⟨v12, h11, hf⟩ := bd_e hf
    refine z_callVi C (As := [.int x2]) (rest := [.int x2, .ref (G.1 4)]) (c_X1_kindTold h11) vw_X2_46 ⟨rfl, rfl, by decide, by decide⟩ (z_rv C (q0 := 1) (ci := 1) rfl rfl rfl) rfl (Nat.le_of_ble_eq_true rfl) dX2_startFrom_25 ?_
    obtain ⟨h13, hf⟩ := ck_e hf
    refine zRs_4 C dX2_startFrom_28 h13 ?_
    refine z_mem (fun μ14 eμ14 => ?_)
    replace hf := nm_e2 hf μ14 eμ14
    refine z_aload_n C 0 dX2_startFrom_29 rfl ?_
    refine zg_X2_15_3 C dX2_startFrom_30 ?_
    refine z_iload_n C 2 dX2_startFrom_33 rfl ?_
    refine z_aload_n C 1 dX2_startFrom_34 rfl ?_
    refine z_iload_n C 2 dX2_startFrom_35 rfl ?_
    obtain ⟨v16, h15, hf⟩ := bd_e hf
    refine z_callVi C (As := [.int x2]) (rest := [.int x2, .ref (G.1 5)]) (c_X1_twigTold h15) vw_X2_50 ⟨rfl, rfl, by decide, by decide⟩ (z_rv C (q0 := 1) (ci := 1) rfl rfl rfl) rfl (Nat.le_of_ble_eq_true rfl) dX2_startFrom_36 ?_
    refine zRs_5 C dX2_startFrom_39 h13 ?_
    refine z_mem (fun μ17 eμ17 => ?_)
    replace hf := nm_e2 hf μ17 eμ17
    refine z_aload_n C 0 dX2_startFrom_40 rfl ?_
    refine zg_X2_18_3 C dX2_startFrom_41 ?_
    refine z_iload_n C 2 dX2_startFrom_44 rfl ?_
    refine z_iconst C dX2_startFrom_45 (v := (0 : Int32)) (by decide) ?_
    refine zRs_6 C dX2_startFrom_46 h13 ?_
    refine z_mem (fun μ18 eμ18 => ?_)
    replace hf := nm_e2 hf μ18 eμ18
    refine z_aload_n C 0 dX2_startFrom_47 rfl ?_
    refine zg_X2_21_3 C dX2_startFrom_48 ?_
    refine z_iload_n C 2 dX2_startFrom_51 rfl ?_
    refine z_iload_n C 2 dX2_startFrom_52 rfl ?_
    refine zRs_7 C dX2_startFrom_53 h13 ?_
    refine z_mem (fun μ19 eμ19 => ?_)
    replace hf := nm_e2 hf μ19 eμ19
    refine z_iinc C 2 dX2_startFrom_54 (v := (x2 + (1 : Int32))) (lv' := [(2, .int (x2 + (1 : Int32))), (0, .ref (G.1 3)), (1, .ref (G.1 1))]) rfl rfl (by decide) rfl ?_
    refine z_goto C 10 dX2_startFrom_57 (by decide) ?_
    refine z_lv C [1, 2, 0] (lv' := [(0, .ref (G.1 3)), (1, .ref (G.1 1)), (2, .int (x2 + (1 : Int32)))]) rfl ?_
    exact hih10 (μ19, (x2 + (1 : Int32))) hf
noncomputable def f_X2_startFrom (μ : Mem) : Option Mem :=
 (nm (f_X1_rooksTold μ) fun v2 : Int32 =>
 (nm (up μ 3 7 v2) fun μ3 : Mem =>
 lp (fun ih σ => b_X2_startFrom_10 ih σ.1 σ.2) fu (μ3, (0 : Int32))))
set_option maxHeartbeats 4000000 in
theorem c_X2_startFrom {l : Launch} {G : GW} {μ : Mem} {μ' : Mem} (hf : f_X2_startFrom μ = some μ') : MZ l (YR G) yX2_startFrom cX2_startFrom 3 none { frames := 5, cells := 0, slots := 0, locals := 112 } [.ref (G.1 3), .ref (G.1 1)] μ μ' none := by
  refine z_met RX2 rfl (by decide) (Nat.le_of_ble_eq_true rfl) (fun X hX C hR => ?_)
  show Z X (YR G) 3 μ 0 [(0, .ref (G.1 3)), (1, .ref (G.1 1))] []
  unfold f_X2_startFrom at hf
  refine z_aload_n C 0 dX2_startFrom_0 rfl ?_
  refine z_aload_n C 1 dX2_startFrom_1 rfl ?_
  obtain ⟨v2, h1⟩ : ∃ z, z = f_X1_rooksTold μ := ⟨_, rfl⟩
  replace hf := nm_e2 hf v2 h1
  refine z_callVi C (As := []) (rest := [.ref (G.1 3)]) (c_X1_rooksTold h1.symm) vw_X2_37 ⟨rfl, rfl, by decide, by decide⟩ (z_rv C (q0 := 1) (ci := 1) rfl rfl rfl) rfl (Nat.le_of_ble_eq_true rfl) dX2_startFrom_2 ?_
  refine zp_X2_43_3 C dX2_startFrom_5 ?_
  refine z_mem (fun μ3 eμ3 => ?_)
  replace hf := nm_e2 hf μ3 eμ3
  refine z_iconst C dX2_startFrom_8 (v := (0 : Int32)) (by decide) ?_
  refine z_istore_n C dX2_startFrom_9 (i := 2) (lv' := [(2, .int (0 : Int32)), (0, .ref (G.1 3)), (1, .ref (G.1 1))]) rfl (by decide) rfl ?_
  refine z_lv C [1, 2, 0] (lv' := [(0, .ref (G.1 3)), (1, .ref (G.1 1)), (2, .int (0 : Int32))]) rfl ?_
  exact zl_X2_startFrom_10 C hR fu (μ3, (0 : Int32)) hf
noncomputable def f_X2_copyOf_3_11 (μ : Mem) : Option Mem :=
 (nm (upA μ 4 (va_cpy (μ 12) (μ 4) (0 : Int32).toNatClampNeg (0 : Int32).toNatClampNeg (6 : Int32).toNatClampNeg)) fun μ1 : Mem =>
 (nm (upA μ1 5 (va_cpy (μ1 13) (μ1 5) (0 : Int32).toNatClampNeg (0 : Int32).toNatClampNeg (6 : Int32).toNatClampNeg)) fun μ2 : Mem =>
 (nm (upA μ2 6 (va_cpy (μ2 14) (μ2 6) (0 : Int32).toNatClampNeg (0 : Int32).toNatClampNeg (6 : Int32).toNatClampNeg)) fun μ3 : Mem =>
 (nm (upA μ3 7 (va_cpy (μ3 15) (μ3 7) (0 : Int32).toNatClampNeg (0 : Int32).toNatClampNeg (6 : Int32).toNatClampNeg)) fun μ4 : Mem =>
 (nm (upA μ4 8 (va_cpy (μ4 16) (μ4 8) (0 : Int32).toNatClampNeg (0 : Int32).toNatClampNeg (8 : Int32).toNatClampNeg)) fun μ5 : Mem =>
 (nm (upA μ5 9 (va_cpy (μ5 17) (μ5 9) (0 : Int32).toNatClampNeg (0 : Int32).toNatClampNeg (8 : Int32).toNatClampNeg)) fun μ6 : Mem =>
 (nm (upA μ6 10 (va_cpy (μ6 18) (μ6 10) (0 : Int32).toNatClampNeg (0 : Int32).toNatClampNeg (8 : Int32).toNatClampNeg)) fun μ7 : Mem =>
 (nm ((μ7 11 7)) fun v8 : Int32 =>
 (nm (up μ7 3 7 v8) fun μ9 : Mem =>
 (nm ((μ9 11 8)) fun v10 : Int32 =>
 (nm (up μ9 3 8 v10) fun μ11 : Mem =>
 (nm ((μ11 11 9)) fun v12 : Int32 =>
 (nm (up μ11 3 9 v12) fun μ13 : Mem =>
 (nm ((μ13 11 10)) fun v14 : Int32 =>
 (nm (up μ13 3 10 v14) fun μ15 : Mem =>
 (nm ((μ15 11 11)) fun v16 : Int32 =>
 (nm (up μ15 3 11 v16) fun μ17 : Mem =>
 (some (μ17)))))))))))))))))))
set_option maxHeartbeats 4000000 in
theorem c_X2_copyOf_3_11 {l : Launch} {G : GW} {μ : Mem} {μ' : Mem} (hf : f_X2_copyOf_3_11 μ = some μ') : MZ l (YR G) yX2_copyOf cX2_copyOf 2 none { frames := 1, cells := 0, slots := 0, locals := 40 } [.ref (G.1 3), .ref (G.1 11)] μ μ' none := by
  refine z_met RX2 rfl (by decide) (Nat.le_of_ble_eq_true rfl) (fun X hX C hR => ?_)
  show Z X (YR G) 2 μ 0 [(0, .ref (G.1 3)), (1, .ref (G.1 11))] []
  unfold f_X2_copyOf_3_11 at hf
  refine z_aload_n C 1 dX2_copyOf_0 rfl ?_
  refine zg_X2_9_11 C dX2_copyOf_1 ?_
  refine z_iconst C dX2_copyOf_4 (v := (0 : Int32)) (by decide) ?_
  refine z_aload_n C 0 dX2_copyOf_5 rfl ?_
  refine zg_X2_9_3 C dX2_copyOf_6 ?_
  refine z_iconst C dX2_copyOf_9 (v := (0 : Int32)) (by decide) ?_
  refine z_bipush C dX2_copyOf_10 (v := (6 : Int32)) (by decide) ?_
  refine z_copy C (ww_in 550 (by decide +kernel) (by decide +kernel)) (ww_in 552 (by decide +kernel) (by decide +kernel)) (ww_in 551 (by decide +kernel) (by decide +kernel)) (ww_in 48 (by decide +kernel) (by decide +kernel)) 12 4 0 rfl rfl rfl (by decide) (by decide) (by decide) (by decide) (by decide) (by decide) (Nat.le_of_ble_eq_true rfl) dX2_copyOf_12 (μ' := upA μ 4 (va_cpy (μ 12) (μ 4) (0 : Int32).toNatClampNeg (0 : Int32).toNatClampNeg (6 : Int32).toNatClampNeg)) rfl ?_
  refine z_mem (fun μ1 eμ1 => ?_)
  replace hf := nm_e2 hf μ1 eμ1
  refine z_aload_n C 1 dX2_copyOf_15 rfl ?_
  refine zg_X2_15_11 C dX2_copyOf_16 ?_
  refine z_iconst C dX2_copyOf_19 (v := (0 : Int32)) (by decide) ?_
  refine z_aload_n C 0 dX2_copyOf_20 rfl ?_
  refine zg_X2_15_3 C dX2_copyOf_21 ?_
  refine z_iconst C dX2_copyOf_24 (v := (0 : Int32)) (by decide) ?_
  refine z_bipush C dX2_copyOf_25 (v := (6 : Int32)) (by decide) ?_
  refine z_copy C (ww_in 550 (by decide +kernel) (by decide +kernel)) (ww_in 552 (by decide +kernel) (by decide +kernel)) (ww_in 551 (by decide +kernel) (by decide +kernel)) (ww_in 48 (by decide +kernel) (by decide +kernel)) 13 5 0 rfl rfl rfl (by decide) (by decide) (by decide) (by decide) (by decide) (by decide) (Nat.le_of_ble_eq_true rfl) dX2_copyOf_27 (μ' := upA μ1 5 (va_cpy (μ1 13) (μ1 5) (0 : Int32).toNatClampNeg (0 : Int32).toNatClampNeg (6 : Int32).toNatClampNeg)) rfl ?_
  refine z_mem (fun μ2 eμ2 => ?_)
  replace hf := nm_e2 hf μ2 eμ2
  refine z_aload_n C 1 dX2_copyOf_30 rfl ?_
  refine zg_X2_18_11 C dX2_copyOf_31 ?_
  refine z_iconst C dX2_copyOf_34 (v := (0 : Int32)) (by decide) ?_
  refine z_aload_n C 0 dX2_copyOf_35 rfl ?_
  refine zg_X2_18_3 C dX2_copyOf_36 ?_
  refine z_iconst C dX2_copyOf_39 (v := (0 : Int32)) (by decide) ?_
  refine z_bipush C dX2_copyOf_40 (v := (6 : Int32)) (by decide) ?_
  refine z_copy C (ww_in 550 (by decide +kernel) (by decide +kernel)) (ww_in 552 (by decide +kernel) (by decide +kernel)) (ww_in 551 (by decide +kernel) (by decide +kernel)) (ww_in 48 (by decide +kernel) (by decide +kernel)) 14 6 0 rfl rfl rfl (by decide) (by decide) (by decide) (by decide) (by decide) (by decide) (Nat.le_of_ble_eq_true rfl) dX2_copyOf_42 (μ' := upA μ2 6 (va_cpy (μ2 14) (μ2 6) (0 : Int32).toNatClampNeg (0 : Int32).toNatClampNeg (6 : Int32).toNatClampNeg)) rfl ?_
  refine z_mem (fun μ3 eμ3 => ?_)
  replace hf := nm_e2 hf μ3 eμ3
  refine z_aload_n C 1 dX2_copyOf_45 rfl ?_
  refine zg_X2_21_11 C dX2_copyOf_46 ?_
  refine z_iconst C dX2_copyOf_49 (v := (0 : Int32)) (by decide) ?_
  refine z_aload_n C 0 dX2_copyOf_50 rfl ?_
  refine zg_X2_21_3 C dX2_copyOf_51 ?_
  refine z_iconst C dX2_copyOf_54 (v := (0 : Int32)) (by decide) ?_
  refine z_bipush C dX2_copyOf_55 (v := (6 : Int32)) (by decide) ?_
  refine z_copy C (ww_in 550 (by decide +kernel) (by decide +kernel)) (ww_in 552 (by decide +kernel) (by decide +kernel)) (ww_in 551 (by decide +kernel) (by decide +kernel)) (ww_in 48 (by decide +kernel) (by decide +kernel)) 15 7 0 rfl rfl rfl (by decide) (by decide) (by decide) (by decide) (by decide) (by decide) (Nat.le_of_ble_eq_true rfl) dX2_copyOf_57 (μ' := upA μ3 7 (va_cpy (μ3 15) (μ3 7) (0 : Int32).toNatClampNeg (0 : Int32).toNatClampNeg (6 : Int32).toNatClampNeg)) rfl ?_
  refine z_mem (fun μ4 eμ4 => ?_)
  replace hf := nm_e2 hf μ4 eμ4
  refine z_aload_n C 1 dX2_copyOf_60 rfl ?_
  refine zg_X2_24_11 C dX2_copyOf_61 ?_
  refine z_iconst C dX2_copyOf_64 (v := (0 : Int32)) (by decide) ?_
  refine z_aload_n C 0 dX2_copyOf_65 rfl ?_
  refine zg_X2_24_3 C dX2_copyOf_66 ?_
  refine z_iconst C dX2_copyOf_69 (v := (0 : Int32)) (by decide) ?_
  refine z_bipush C dX2_copyOf_70 (v := (8 : Int32)) (by decide) ?_
  refine z_copy C (ww_in 550 (by decide +kernel) (by decide +kernel)) (ww_in 552 (by decide +kernel) (by decide +kernel)) (ww_in 551 (by decide +kernel) (by decide +kernel)) (ww_in 48 (by decide +kernel) (by decide +kernel)) 16 8 0 rfl rfl rfl (by decide) (by decide) (by decide) (by decide) (by decide) (by decide) (Nat.le_of_ble_eq_true rfl) dX2_copyOf_72 (μ' := upA μ4 8 (va_cpy (μ4 16) (μ4 8) (0 : Int32).toNatClampNeg (0 : Int32).toNatClampNeg (8 : Int32).toNatClampNeg)) rfl ?_
  refine z_mem (fun μ5 eμ5 => ?_)
  replace hf := nm_e2 hf μ5 eμ5
  refine z_aload_n C 1 dX2_copyOf_75 rfl ?_
  refine zg_X2_27_11 C dX2_copyOf_76 ?_
  refine z_iconst C dX2_copyOf_79 (v := (0 : Int32)) (by decide) ?_
  refine z_aload_n C 0 dX2_copyOf_80 rfl ?_
  refine zg_X2_27_3 C dX2_copyOf_81 ?_
  refine z_iconst C dX2_copyOf_84 (v := (0 : Int32)) (by decide) ?_
  refine z_bipush C dX2_copyOf_85 (v := (8 : Int32)) (by decide) ?_
  refine z_copy C (ww_in 550 (by decide +kernel) (by decide +kernel)) (ww_in 552 (by decide +kernel) (by decide +kernel)) (ww_in 551 (by decide +kernel) (by decide +kernel)) (ww_in 48 (by decide +kernel) (by decide +kernel)) 17 9 0 rfl rfl rfl (by decide) (by decide) (by decide) (by decide) (by decide) (by decide) (Nat.le_of_ble_eq_true rfl) dX2_copyOf_87 (μ' := upA μ5 9 (va_cpy (μ5 17) (μ5 9) (0 : Int32).toNatClampNeg (0 : Int32).toNatClampNeg (8 : Int32).toNatClampNeg)) rfl ?_
  refine z_mem (fun μ6 eμ6 => ?_)
  replace hf := nm_e2 hf μ6 eμ6
  refine z_aload_n C 1 dX2_copyOf_90 rfl ?_
  refine zg_X2_30_11 C dX2_copyOf_91 ?_
  refine z_iconst C dX2_copyOf_94 (v := (0 : Int32)) (by decide) ?_
  refine z_aload_n C 0 dX2_copyOf_95 rfl ?_
  refine zg_X2_30_3 C dX2_copyOf_96 ?_
  refine z_iconst C dX2_copyOf_99 (v := (0 : Int32)) (by decide) ?_
  refine z_bipush C dX2_copyOf_100 (v := (8 : Int32)) (by decide) ?_
  refine z_copy C (ww_in 550 (by decide +kernel) (by decide +kernel)) (ww_in 552 (by decide +kernel) (by decide +kernel)) (ww_in 551 (by decide +kernel) (by decide +kernel)) (ww_in 48 (by decide +kernel) (by decide +kernel)) 18 10 0 rfl rfl rfl (by decide) (by decide) (by decide) (by decide) (by decide) (by decide) (Nat.le_of_ble_eq_true rfl) dX2_copyOf_102 (μ' := upA μ6 10 (va_cpy (μ6 18) (μ6 10) (0 : Int32).toNatClampNeg (0 : Int32).toNatClampNeg (8 : Int32).toNatClampNeg)) rfl ?_
  refine z_mem (fun μ7 eμ7 => ?_)
  replace hf := nm_e2 hf μ7 eμ7
  refine z_aload_n C 0 dX2_copyOf_105 rfl ?_
  refine z_aload_n C 1 dX2_copyOf_106 rfl ?_
  refine zg_X2_43_11 C dX2_copyOf_107 ?_
  refine z_topi (fun v8 ev8 => ?_)
  replace hf := nm_e2 hf v8 ev8
  refine zp_X2_43_3 C dX2_copyOf_110 ?_
  refine z_mem (fun μ9 eμ9 => ?_)
  replace hf := nm_e2 hf μ9 eμ9
  refine z_aload_n C 0 dX2_copyOf_113 rfl ?_
  refine z_aload_n C 1 dX2_copyOf_114 rfl ?_
  refine zg_X2_56_11 C dX2_copyOf_115 ?_
  refine z_topi (fun v10 ev10 => ?_)
  replace hf := nm_e2 hf v10 ev10
  refine zp_X2_56_3 C dX2_copyOf_118 ?_
  refine z_mem (fun μ11 eμ11 => ?_)
  replace hf := nm_e2 hf μ11 eμ11
  refine z_aload_n C 0 dX2_copyOf_121 rfl ?_
  refine z_aload_n C 1 dX2_copyOf_122 rfl ?_
  refine zg_X2_59_11 C dX2_copyOf_123 ?_
  refine z_topi (fun v12 ev12 => ?_)
  replace hf := nm_e2 hf v12 ev12
  refine zp_X2_59_3 C dX2_copyOf_126 ?_
  refine z_mem (fun μ13 eμ13 => ?_)
  replace hf := nm_e2 hf μ13 eμ13
  refine z_aload_n C 0 dX2_copyOf_129 rfl ?_
  refine z_aload_n C 1 dX2_copyOf_130 rfl ?_
  refine zg_X2_33_11 C dX2_copyOf_131 ?_
  refine z_topi (fun v14 ev14 => ?_)
  replace hf := nm_e2 hf v14 ev14
  refine zp_X2_33_3 C dX2_copyOf_134 ?_
  refine z_mem (fun μ15 eμ15 => ?_)
  replace hf := nm_e2 hf μ15 eμ15
  refine z_aload_n C 0 dX2_copyOf_137 rfl ?_
  refine z_aload_n C 1 dX2_copyOf_138 rfl ?_
  refine zg_X2_62_11 C dX2_copyOf_139 ?_
  refine z_topi (fun v16 ev16 => ?_)
  replace hf := nm_e2 hf v16 ev16
  refine zp_X2_62_3 C dX2_copyOf_142 ?_
  refine z_mem (fun μ17 eμ17 => ?_)
  replace hf := nm_e2 hf μ17 eμ17
  exact z_vret C hR dX2_copyOf_145 (rt1 hf)
noncomputable def f_X2_copyOf_11_3 (μ : Mem) : Option Mem :=
 (nm (upA μ 12 (va_cpy (μ 4) (μ 12) (0 : Int32).toNatClampNeg (0 : Int32).toNatClampNeg (6 : Int32).toNatClampNeg)) fun μ1 : Mem =>
 (nm (upA μ1 13 (va_cpy (μ1 5) (μ1 13) (0 : Int32).toNatClampNeg (0 : Int32).toNatClampNeg (6 : Int32).toNatClampNeg)) fun μ2 : Mem =>
 (nm (upA μ2 14 (va_cpy (μ2 6) (μ2 14) (0 : Int32).toNatClampNeg (0 : Int32).toNatClampNeg (6 : Int32).toNatClampNeg)) fun μ3 : Mem =>
 (nm (upA μ3 15 (va_cpy (μ3 7) (μ3 15) (0 : Int32).toNatClampNeg (0 : Int32).toNatClampNeg (6 : Int32).toNatClampNeg)) fun μ4 : Mem =>
 (nm (upA μ4 16 (va_cpy (μ4 8) (μ4 16) (0 : Int32).toNatClampNeg (0 : Int32).toNatClampNeg (8 : Int32).toNatClampNeg)) fun μ5 : Mem =>
 (nm (upA μ5 17 (va_cpy (μ5 9) (μ5 17) (0 : Int32).toNatClampNeg (0 : Int32).toNatClampNeg (8 : Int32).toNatClampNeg)) fun μ6 : Mem =>
 (nm (upA μ6 18 (va_cpy (μ6 10) (μ6 18) (0 : Int32).toNatClampNeg (0 : Int32).toNatClampNeg (8 : Int32).toNatClampNeg)) fun μ7 : Mem =>
 (nm ((μ7 3 7)) fun v8 : Int32 =>
 (nm (up μ7 11 7 v8) fun μ9 : Mem =>
 (nm ((μ9 3 8)) fun v10 : Int32 =>
 (nm (up μ9 11 8 v10) fun μ11 : Mem =>
 (nm ((μ11 3 9)) fun v12 : Int32 =>
 (nm (up μ11 11 9 v12) fun μ13 : Mem =>
 (nm ((μ13 3 10)) fun v14 : Int32 =>
 (nm (up μ13 11 10 v14) fun μ15 : Mem =>
 (nm ((μ15 3 11)) fun v16 : Int32 =>
 (nm (up μ15 11 11 v16) fun μ17 : Mem =>
 (some (μ17)))))))))))))))))))
set_option maxHeartbeats 4000000 in
theorem c_X2_copyOf_11_3 {l : Launch} {G : GW} {μ : Mem} {μ' : Mem} (hf : f_X2_copyOf_11_3 μ = some μ') : MZ l (YR G) yX2_copyOf cX2_copyOf 2 none { frames := 1, cells := 0, slots := 0, locals := 40 } [.ref (G.1 11), .ref (G.1 3)] μ μ' none := by
  refine z_met RX2 rfl (by decide) (Nat.le_of_ble_eq_true rfl) (fun X hX C hR => ?_)
  show Z X (YR G) 2 μ 0 [(0, .ref (G.1 11)), (1, .ref (G.1 3))] []
  unfold f_X2_copyOf_11_3 at hf
  refine z_aload_n C 1 dX2_copyOf_0 rfl ?_
  refine zg_X2_9_3 C dX2_copyOf_1 ?_
  refine z_iconst C dX2_copyOf_4 (v := (0 : Int32)) (by decide) ?_
  refine z_aload_n C 0 dX2_copyOf_5 rfl ?_
  refine zg_X2_9_11 C dX2_copyOf_6 ?_
  refine z_iconst C dX2_copyOf_9 (v := (0 : Int32)) (by decide) ?_
  refine z_bipush C dX2_copyOf_10 (v := (6 : Int32)) (by decide) ?_
  refine z_copy C (ww_in 550 (by decide +kernel) (by decide +kernel)) (ww_in 552 (by decide +kernel) (by decide +kernel)) (ww_in 551 (by decide +kernel) (by decide +kernel)) (ww_in 48 (by decide +kernel) (by decide +kernel)) 4 12 0 rfl rfl rfl (by decide) (by decide) (by decide) (by decide) (by decide) (by decide) (Nat.le_of_ble_eq_true rfl) dX2_copyOf_12 (μ' := upA μ 12 (va_cpy (μ 4) (μ 12) (0 : Int32).toNatClampNeg (0 : Int32).toNatClampNeg (6 : Int32).toNatClampNeg)) rfl ?_
  refine z_mem (fun μ1 eμ1 => ?_)
  replace hf := nm_e2 hf μ1 eμ1
  refine z_aload_n C 1 dX2_copyOf_15 rfl ?_
  refine zg_X2_15_3 C dX2_copyOf_16 ?_
  refine z_iconst C dX2_copyOf_19 (v := (0 : Int32)) (by decide) ?_
  refine z_aload_n C 0 dX2_copyOf_20 rfl ?_
  refine zg_X2_15_11 C dX2_copyOf_21 ?_
  refine z_iconst C dX2_copyOf_24 (v := (0 : Int32)) (by decide) ?_
  refine z_bipush C dX2_copyOf_25 (v := (6 : Int32)) (by decide) ?_
  refine z_copy C (ww_in 550 (by decide +kernel) (by decide +kernel)) (ww_in 552 (by decide +kernel) (by decide +kernel)) (ww_in 551 (by decide +kernel) (by decide +kernel)) (ww_in 48 (by decide +kernel) (by decide +kernel)) 5 13 0 rfl rfl rfl (by decide) (by decide) (by decide) (by decide) (by decide) (by decide) (Nat.le_of_ble_eq_true rfl) dX2_copyOf_27 (μ' := upA μ1 13 (va_cpy (μ1 5) (μ1 13) (0 : Int32).toNatClampNeg (0 : Int32).toNatClampNeg (6 : Int32).toNatClampNeg)) rfl ?_
  refine z_mem (fun μ2 eμ2 => ?_)
  replace hf := nm_e2 hf μ2 eμ2
  refine z_aload_n C 1 dX2_copyOf_30 rfl ?_
  refine zg_X2_18_3 C dX2_copyOf_31 ?_
  refine z_iconst C dX2_copyOf_34 (v := (0 : Int32)) (by decide) ?_
  refine z_aload_n C 0 dX2_copyOf_35 rfl ?_
  refine zg_X2_18_11 C dX2_copyOf_36 ?_
  refine z_iconst C dX2_copyOf_39 (v := (0 : Int32)) (by decide) ?_
  refine z_bipush C dX2_copyOf_40 (v := (6 : Int32)) (by decide) ?_
  refine z_copy C (ww_in 550 (by decide +kernel) (by decide +kernel)) (ww_in 552 (by decide +kernel) (by decide +kernel)) (ww_in 551 (by decide +kernel) (by decide +kernel)) (ww_in 48 (by decide +kernel) (by decide +kernel)) 6 14 0 rfl rfl rfl (by decide) (by decide) (by decide) (by decide) (by decide) (by decide) (Nat.le_of_ble_eq_true rfl) dX2_copyOf_42 (μ' := upA μ2 14 (va_cpy (μ2 6) (μ2 14) (0 : Int32).toNatClampNeg (0 : Int32).toNatClampNeg (6 : Int32).toNatClampNeg)) rfl ?_
  refine z_mem (fun μ3 eμ3 => ?_)
  replace hf := nm_e2 hf μ3 eμ3
  refine z_aload_n C 1 dX2_copyOf_45 rfl ?_
  refine zg_X2_21_3 C dX2_copyOf_46 ?_
  refine z_iconst C dX2_copyOf_49 (v := (0 : Int32)) (by decide) ?_
  refine z_aload_n C 0 dX2_copyOf_50 rfl ?_
  refine zg_X2_21_11 C dX2_copyOf_51 ?_
  refine z_iconst C dX2_copyOf_54 (v := (0 : Int32)) (by decide) ?_
  refine z_bipush C dX2_copyOf_55 (v := (6 : Int32)) (by decide) ?_
  refine z_copy C (ww_in 550 (by decide +kernel) (by decide +kernel)) (ww_in 552 (by decide +kernel) (by decide +kernel)) (ww_in 551 (by decide +kernel) (by decide +kernel)) (ww_in 48 (by decide +kernel) (by decide +kernel)) 7 15 0 rfl rfl rfl (by decide) (by decide) (by decide) (by decide) (by decide) (by decide) (Nat.le_of_ble_eq_true rfl) dX2_copyOf_57 (μ' := upA μ3 15 (va_cpy (μ3 7) (μ3 15) (0 : Int32).toNatClampNeg (0 : Int32).toNatClampNeg (6 : Int32).toNatClampNeg)) rfl ?_
  refine z_mem (fun μ4 eμ4 => ?_)
  replace hf := nm_e2 hf μ4 eμ4
  refine z_aload_n C 1 dX2_copyOf_60 rfl ?_
  refine zg_X2_24_3 C dX2_copyOf_61 ?_
  refine z_iconst C dX2_copyOf_64 (v := (0 : Int32)) (by decide) ?_
  refine z_aload_n C 0 dX2_copyOf_65 rfl ?_
  refine zg_X2_24_11 C dX2_copyOf_66 ?_
  refine z_iconst C dX2_copyOf_69 (v := (0 : Int32)) (by decide) ?_
  refine z_bipush C dX2_copyOf_70 (v := (8 : Int32)) (by decide) ?_
  refine z_copy C (ww_in 550 (by decide +kernel) (by decide +kernel)) (ww_in 552 (by decide +kernel) (by decide +kernel)) (ww_in 551 (by decide +kernel) (by decide +kernel)) (ww_in 48 (by decide +kernel) (by decide +kernel)) 8 16 0 rfl rfl rfl (by decide) (by decide) (by decide) (by decide) (by decide) (by decide) (Nat.le_of_ble_eq_true rfl) dX2_copyOf_72 (μ' := upA μ4 16 (va_cpy (μ4 8) (μ4 16) (0 : Int32).toNatClampNeg (0 : Int32).toNatClampNeg (8 : Int32).toNatClampNeg)) rfl ?_
  refine z_mem (fun μ5 eμ5 => ?_)
  replace hf := nm_e2 hf μ5 eμ5
  refine z_aload_n C 1 dX2_copyOf_75 rfl ?_
  refine zg_X2_27_3 C dX2_copyOf_76 ?_
  refine z_iconst C dX2_copyOf_79 (v := (0 : Int32)) (by decide) ?_
  refine z_aload_n C 0 dX2_copyOf_80 rfl ?_
  refine zg_X2_27_11 C dX2_copyOf_81 ?_
  refine z_iconst C dX2_copyOf_84 (v := (0 : Int32)) (by decide) ?_
  refine z_bipush C dX2_copyOf_85 (v := (8 : Int32)) (by decide) ?_
  refine z_copy C (ww_in 550 (by decide +kernel) (by decide +kernel)) (ww_in 552 (by decide +kernel) (by decide +kernel)) (ww_in 551 (by decide +kernel) (by decide +kernel)) (ww_in 48 (by decide +kernel) (by decide +kernel)) 9 17 0 rfl rfl rfl (by decide) (by decide) (by decide) (by decide) (by decide) (by decide) (Nat.le_of_ble_eq_true rfl) dX2_copyOf_87 (μ' := upA μ5 17 (va_cpy (μ5 9) (μ5 17) (0 : Int32).toNatClampNeg (0 : Int32).toNatClampNeg (8 : Int32).toNatClampNeg)) rfl ?_
  refine z_mem (fun μ6 eμ6 => ?_)
  replace hf := nm_e2 hf μ6 eμ6
  refine z_aload_n C 1 dX2_copyOf_90 rfl ?_
  refine zg_X2_30_3 C dX2_copyOf_91 ?_
  refine z_iconst C dX2_copyOf_94 (v := (0 : Int32)) (by decide) ?_
  refine z_aload_n C 0 dX2_copyOf_95 rfl ?_
  refine zg_X2_30_11 C dX2_copyOf_96 ?_
  refine z_iconst C dX2_copyOf_99 (v := (0 : Int32)) (by decide) ?_
  refine z_bipush C dX2_copyOf_100 (v := (8 : Int32)) (by decide) ?_
  refine z_copy C (ww_in 550 (by decide +kernel) (by decide +kernel)) (ww_in 552 (by decide +kernel) (by decide +kernel)) (ww_in 551 (by decide +kernel) (by decide +kernel)) (ww_in 48 (by decide +kernel) (by decide +kernel)) 10 18 0 rfl rfl rfl (by decide) (by decide) (by decide) (by decide) (by decide) (by decide) (Nat.le_of_ble_eq_true rfl) dX2_copyOf_102 (μ' := upA μ6 18 (va_cpy (μ6 10) (μ6 18) (0 : Int32).toNatClampNeg (0 : Int32).toNatClampNeg (8 : Int32).toNatClampNeg)) rfl ?_
  refine z_mem (fun μ7 eμ7 => ?_)
  replace hf := nm_e2 hf μ7 eμ7
  refine z_aload_n C 0 dX2_copyOf_105 rfl ?_
  refine z_aload_n C 1 dX2_copyOf_106 rfl ?_
  refine zg_X2_43_3 C dX2_copyOf_107 ?_
  refine z_topi (fun v8 ev8 => ?_)
  replace hf := nm_e2 hf v8 ev8
  refine zp_X2_43_11 C dX2_copyOf_110 ?_
  refine z_mem (fun μ9 eμ9 => ?_)
  replace hf := nm_e2 hf μ9 eμ9
  refine z_aload_n C 0 dX2_copyOf_113 rfl ?_
  refine z_aload_n C 1 dX2_copyOf_114 rfl ?_
  refine zg_X2_56_3 C dX2_copyOf_115 ?_
  refine z_topi (fun v10 ev10 => ?_)
  replace hf := nm_e2 hf v10 ev10
  refine zp_X2_56_11 C dX2_copyOf_118 ?_
  refine z_mem (fun μ11 eμ11 => ?_)
  replace hf := nm_e2 hf μ11 eμ11
  refine z_aload_n C 0 dX2_copyOf_121 rfl ?_
  refine z_aload_n C 1 dX2_copyOf_122 rfl ?_
  refine zg_X2_59_3 C dX2_copyOf_123 ?_
  refine z_topi (fun v12 ev12 => ?_)
  replace hf := nm_e2 hf v12 ev12
  refine zp_X2_59_11 C dX2_copyOf_126 ?_
  refine z_mem (fun μ13 eμ13 => ?_)
  replace hf := nm_e2 hf μ13 eμ13
  refine z_aload_n C 0 dX2_copyOf_129 rfl ?_
  refine z_aload_n C 1 dX2_copyOf_130 rfl ?_
  refine zg_X2_33_3 C dX2_copyOf_131 ?_
  refine z_topi (fun v14 ev14 => ?_)
  replace hf := nm_e2 hf v14 ev14
  refine zp_X2_33_11 C dX2_copyOf_134 ?_
  refine z_mem (fun μ15 eμ15 => ?_)
  replace hf := nm_e2 hf μ15 eμ15
  refine z_aload_n C 0 dX2_copyOf_137 rfl ?_
  refine z_aload_n C 1 dX2_copyOf_138 rfl ?_
  refine zg_X2_62_3 C dX2_copyOf_139 ?_
  refine z_topi (fun v16 ev16 => ?_)
  replace hf := nm_e2 hf v16 ev16
  refine zp_X2_62_11 C dX2_copyOf_142 ?_
  refine z_mem (fun μ17 eμ17 => ?_)
  replace hf := nm_e2 hf μ17 eμ17
  exact z_vret C hR dX2_copyOf_145 (rt1 hf)
noncomputable def b_X2_placeOf_2 (μ : Mem) (x1 : Int32) (ih2 : Int32 → Option Int32) (x2 : Int32) : Option Int32 :=
 (if (μ 3 7) ≤ x2 then
 (some (-1 : Int32))
 else
 (ck (vp_in x2 6) <|
 (if (μ 7 (x2).toNatClampNeg) = x1 then
 (some x2)
 else
 ih2 ((x2 + (1 : Int32))))))
set_option maxHeartbeats 4000000 in
theorem zl_X2_placeOf_2 {X : ZX} {G : GW} {r : Int32} (μ : Mem) (x1 : Int32) (C : CX X (YR G) cX2_placeOf 3 RX2 { frames := 0, cells := 0, slots := 0, locals := 0 }) (hR : ZR X (YR G) (some .int) μ (some (.int r))) : ∀ (n : Nat) (σ : Int32), lp (fun ih σ => b_X2_placeOf_2 μ x1 ih σ) n σ = some r → Z X (YR G) 3 μ 2 [(0, .ref (G.1 3)), (1, .int x1), (2, .int σ)] [] := by
  refine lp_z (P := fun σ : Int32 => Z X (YR G) 3 μ 2 [(0, .ref (G.1 3)), (1, .int x1), (2, .int σ)] []) (fun ih2 hih2 σ hf => ?_)
  obtain ⟨x2, rfl⟩ : ∃ z, z = σ := ⟨_, rfl⟩
  have hf : b_X2_placeOf_2 μ x1 ih2 x2 = some r := hf
  show Z X (YR G) 3 μ 2 [(0, .ref (G.1 3)), (1, .int x1), (2, .int x2)] []
  unfold b_X2_placeOf_2 at hf
  refine z_iload_n C 2 dX2_placeOf_2 rfl ?_
  refine z_aload_n C 0 dX2_placeOf_3 rfl ?_
  refine zg_X2_43_3 C dX2_placeOf_4 ?_
  refine z_icmp_ge C 28 dX2_placeOf_7 (by decide) (fun c1 => ?_) (fun c1 => ?_)
  · replace hf := it_t hf c1
    refine z_iconst C dX2_placeOf_28 (v := (-1 : Int32)) (by decide) ?_
    exact z_iret C hR dX2_placeOf_29 rfl (rt1 hf)
  · replace hf := it_f hf c1
    refine z_aload_n C 0 dX2_placeOf_10 rfl ?_
    refine zg_X2_21_3 C dX2_placeOf_11 ?_
    refine z_iload_n C 2 dX2_placeOf_14 rfl ?_
    obtain ⟨h2, hf⟩ := ck_e hf
    refine zRl_7 C dX2_placeOf_15 h2 ?_
    refine z_iload_n C 1 dX2_placeOf_16 rfl ?_
    refine z_icmp_ne C 22 dX2_placeOf_17 (by decide) (fun c3 => ?_) (fun c3 => ?_)
    · replace hf := it_f hf c3
      refine z_iinc C 2 dX2_placeOf_22 (v := (x2 + (1 : Int32))) (lv' := [(2, .int (x2 + (1 : Int32))), (0, .ref (G.1 3)), (1, .int x1)]) rfl rfl (by decide) rfl ?_
      refine z_goto C 2 dX2_placeOf_25 (by decide) ?_
      refine z_lv C [1, 2, 0] (lv' := [(0, .ref (G.1 3)), (1, .int x1), (2, .int (x2 + (1 : Int32)))]) rfl ?_
      exact hih2 ((x2 + (1 : Int32))) hf
    · replace hf := it_t hf c3
      refine z_iload_n C 2 dX2_placeOf_20 rfl ?_
      exact z_iret C hR dX2_placeOf_21 rfl (rt1 hf)
noncomputable def f_X2_placeOf (μ : Mem) (x1 : Int32) : Option Int32 :=
 lp (fun ih σ => b_X2_placeOf_2 μ x1 ih σ) fu ((0 : Int32))
set_option maxHeartbeats 4000000 in
theorem c_X2_placeOf {l : Launch} {G : GW} {μ : Mem} {x1 : Int32} {r : Int32} (hf : f_X2_placeOf μ x1 = some r) : MZ l (YR G) yX2_placeOf cX2_placeOf 3 (some .int) { frames := 0, cells := 0, slots := 0, locals := 0 } [.ref (G.1 3), .int x1] μ μ (some (.int r)) := by
  refine z_met RX2 rfl (by decide) (Nat.le_of_ble_eq_true rfl) (fun X hX C hR => ?_)
  show Z X (YR G) 3 μ 0 [(0, .ref (G.1 3)), (1, .int x1)] []
  unfold f_X2_placeOf at hf
  refine z_iconst C dX2_placeOf_0 (v := (0 : Int32)) (by decide) ?_
  refine z_istore_n C dX2_placeOf_1 (i := 2) (lv' := [(2, .int (0 : Int32)), (0, .ref (G.1 3)), (1, .int x1)]) rfl (by decide) rfl ?_
  refine z_lv C [1, 2, 0] (lv' := [(0, .ref (G.1 3)), (1, .int x1), (2, .int (0 : Int32))]) rfl ?_
  exact zl_X2_placeOf_2 μ x1 C hR fu ((0 : Int32)) hf
noncomputable def b_X2_allPecks_4 (μ : Mem) (ih4 : Int32 × Int32 → Option Int32) (x1 : Int32) (x2 : Int32) : Option Int32 :=
 (if (μ 3 7) ≤ x2 then
 (some x1)
 else
 (ck (vp_in x2 6) <|
 (nm ((x1 + (μ 6 (x2).toNatClampNeg))) fun v3 : Int32 =>
 ih4 (v3, (x2 + (1 : Int32))))))
set_option maxHeartbeats 4000000 in
theorem zl_X2_allPecks_4 {X : ZX} {G : GW} {r : Int32} (μ : Mem) (C : CX X (YR G) cX2_allPecks 3 RX2 { frames := 0, cells := 0, slots := 0, locals := 0 }) (hR : ZR X (YR G) (some .int) μ (some (.int r))) : ∀ (n : Nat) (σ : Int32 × Int32), lp (fun ih σ => b_X2_allPecks_4 μ ih σ.1 σ.2) n σ = some r → Z X (YR G) 3 μ 4 [(0, .ref (G.1 3)), (1, .int σ.1), (2, .int σ.2)] [] := by
  refine lp_z (P := fun σ : Int32 × Int32 => Z X (YR G) 3 μ 4 [(0, .ref (G.1 3)), (1, .int σ.1), (2, .int σ.2)] []) (fun ih4 hih4 σ hf => ?_)
  obtain ⟨x1, x2⟩ := σ
  have hf : b_X2_allPecks_4 μ ih4 x1 x2 = some r := hf
  show Z X (YR G) 3 μ 4 [(0, .ref (G.1 3)), (1, .int x1), (2, .int x2)] []
  unfold b_X2_allPecks_4 at hf
  refine z_iload_n C 2 dX2_allPecks_4 rfl ?_
  refine z_aload_n C 0 dX2_allPecks_5 rfl ?_
  refine zg_X2_43_3 C dX2_allPecks_6 ?_
  refine z_icmp_ge C 27 dX2_allPecks_9 (by decide) (fun c1 => ?_) (fun c1 => ?_)
  · replace hf := it_t hf c1
    refine z_iload_n C 1 dX2_allPecks_27 rfl ?_
    exact z_iret C hR dX2_allPecks_28 rfl (rt1 hf)
  · replace hf := it_f hf c1
    refine z_iload_n C 1 dX2_allPecks_12 rfl ?_
    refine z_aload_n C 0 dX2_allPecks_13 rfl ?_
    refine zg_X2_18_3 C dX2_allPecks_14 ?_
    refine z_iload_n C 2 dX2_allPecks_17 rfl ?_
    obtain ⟨h2, hf⟩ := ck_e hf
    refine zRl_6 C dX2_allPecks_18 h2 ?_
    refine z_iadd C dX2_allPecks_19 ?_
    refine z_topi (fun v3 ev3 => ?_)
    replace hf := nm_e2 hf v3 ev3
    refine z_istore_n C dX2_allPecks_20 (i := 1) (lv' := [(1, .int v3), (0, .ref (G.1 3)), (2, .int x2)]) rfl (by decide) rfl ?_
    refine z_iinc C 2 dX2_allPecks_21 (v := (x2 + (1 : Int32))) (lv' := [(2, .int (x2 + (1 : Int32))), (1, .int v3), (0, .ref (G.1 3))]) rfl rfl (by decide) rfl ?_
    refine z_goto C 4 dX2_allPecks_24 (by decide) ?_
    refine z_lv C [2, 1, 0] (lv' := [(0, .ref (G.1 3)), (1, .int v3), (2, .int (x2 + (1 : Int32)))]) rfl ?_
    exact hih4 (v3, (x2 + (1 : Int32))) hf
noncomputable def f_X2_allPecks (μ : Mem) : Option Int32 :=
 lp (fun ih σ => b_X2_allPecks_4 μ ih σ.1 σ.2) fu ((0 : Int32), (0 : Int32))
set_option maxHeartbeats 4000000 in
theorem c_X2_allPecks {l : Launch} {G : GW} {μ : Mem} {r : Int32} (hf : f_X2_allPecks μ = some r) : MZ l (YR G) yX2_allPecks cX2_allPecks 3 (some .int) { frames := 0, cells := 0, slots := 0, locals := 0 } [.ref (G.1 3)] μ μ (some (.int r)) := by
  refine z_met RX2 rfl (by decide) (Nat.le_of_ble_eq_true rfl) (fun X hX C hR => ?_)
  show Z X (YR G) 3 μ 0 [(0, .ref (G.1 3))] []
  unfold f_X2_allPecks at hf
  refine z_iconst C dX2_allPecks_0 (v := (0 : Int32)) (by decide) ?_
  refine z_istore_n C dX2_allPecks_1 (i := 1) (lv' := [(1, .int (0 : Int32)), (0, .ref (G.1 3))]) rfl (by decide) rfl ?_
  refine z_iconst C dX2_allPecks_2 (v := (0 : Int32)) (by decide) ?_
  refine z_istore_n C dX2_allPecks_3 (i := 2) (lv' := [(2, .int (0 : Int32)), (1, .int (0 : Int32)), (0, .ref (G.1 3))]) rfl (by decide) rfl ?_
  refine z_lv C [2, 1, 0] (lv' := [(0, .ref (G.1 3)), (1, .int (0 : Int32)), (2, .int (0 : Int32))]) rfl ?_
  exact zl_X2_allPecks_4 μ C hR fu ((0 : Int32), (0 : Int32)) hf
noncomputable def f_X2_note (μ : Mem) (x1 : Int32) (x2 : Int32) (x3 : Int32) : Option (Mem × Int32) :=
 (if (μ 3 11) < (8 : Int32) then
 (ck (vp_in (μ 3 11) 8) <|
 (nm (up μ 8 ((μ 3 11)).toNatClampNeg x1) fun μ3 : Mem =>
 (ck (vp_in (μ3 3 11) 8) <|
 (nm (up μ3 9 ((μ3 3 11)).toNatClampNeg x2) fun μ5 : Mem =>
 (ck (vp_in (μ5 3 11) 8) <|
 (nm (up μ5 10 ((μ5 3 11)).toNatClampNeg x3) fun μ7 : Mem =>
 (nm (((μ7 3 11) + (1 : Int32))) fun v8 : Int32 =>
 (nm (up μ7 3 11 v8) fun μ9 : Mem =>
 (some (μ9, (μ9 3 11)))))))))))
 else
 (some (μ, (-104 : Int32))))
set_option maxHeartbeats 4000000 in
theorem c_X2_note {l : Launch} {G : GW} {μ : Mem} {x1 : Int32} {x2 : Int32} {x3 : Int32} {μ' : Mem} {r : Int32} (hf : f_X2_note μ x1 x2 x3 = some (μ', r)) : MZ l (YR G) yX2_note cX2_note 4 (some .int) { frames := 0, cells := 0, slots := 0, locals := 0 } [.ref (G.1 3), .int x1, .int x2, .int x3] μ μ' (some (.int r)) := by
  refine z_met RX2 rfl (by decide) (Nat.le_of_ble_eq_true rfl) (fun X hX C hR => ?_)
  show Z X (YR G) 4 μ 0 [(0, .ref (G.1 3)), (1, .int x1), (2, .int x2), (3, .int x3)] []
  unfold f_X2_note at hf
  refine z_aload_n C 0 dX2_note_0 rfl ?_
  refine zg_X2_62_3 C dX2_note_1 ?_
  refine z_bipush C dX2_note_4 (v := (8 : Int32)) (by decide) ?_
  refine z_icmp_lt C 12 dX2_note_6 (by decide) (fun c1 => ?_) (fun c1 => ?_)
  · replace hf := it_t hf c1
    refine z_aload_n C 0 dX2_note_12 rfl ?_
    refine zg_X2_24_3 C dX2_note_13 ?_
    refine z_aload_n C 0 dX2_note_16 rfl ?_
    refine zg_X2_62_3 C dX2_note_17 ?_
    refine z_iload_n C 1 dX2_note_20 rfl ?_
    obtain ⟨h2, hf⟩ := ck_e hf
    refine zRs_8 C dX2_note_21 h2 ?_
    refine z_mem (fun μ3 eμ3 => ?_)
    replace hf := nm_e2 hf μ3 eμ3
    refine z_aload_n C 0 dX2_note_22 rfl ?_
    refine zg_X2_27_3 C dX2_note_23 ?_
    refine z_aload_n C 0 dX2_note_26 rfl ?_
    refine zg_X2_62_3 C dX2_note_27 ?_
    refine z_iload_n C 2 dX2_note_30 rfl ?_
    obtain ⟨h4, hf⟩ := ck_e hf
    refine zRs_9 C dX2_note_31 h4 ?_
    refine z_mem (fun μ5 eμ5 => ?_)
    replace hf := nm_e2 hf μ5 eμ5
    refine z_aload_n C 0 dX2_note_32 rfl ?_
    refine zg_X2_30_3 C dX2_note_33 ?_
    refine z_aload_n C 0 dX2_note_36 rfl ?_
    refine zg_X2_62_3 C dX2_note_37 ?_
    refine z_iload_n C 3 dX2_note_40 rfl ?_
    obtain ⟨h6, hf⟩ := ck_e hf
    refine zRs_10 C dX2_note_41 h6 ?_
    refine z_mem (fun μ7 eμ7 => ?_)
    replace hf := nm_e2 hf μ7 eμ7
    refine z_aload_n C 0 dX2_note_42 rfl ?_
    refine z_dup C dX2_note_43 rfl ?_
    refine zg_X2_62_3 C dX2_note_44 ?_
    refine z_iconst C dX2_note_47 (v := (1 : Int32)) (by decide) ?_
    refine z_iadd C dX2_note_48 ?_
    refine z_topi (fun v8 ev8 => ?_)
    replace hf := nm_e2 hf v8 ev8
    refine zp_X2_62_3 C dX2_note_49 ?_
    refine z_mem (fun μ9 eμ9 => ?_)
    replace hf := nm_e2 hf μ9 eμ9
    refine z_aload_n C 0 dX2_note_52 rfl ?_
    refine zg_X2_62_3 C dX2_note_53 ?_
    exact z_iret C hR dX2_note_56 (rt2 hf).1 (rt2 hf).2
  · replace hf := it_f hf c1
    refine z_bipush C dX2_note_9 (v := (-104 : Int32)) (by decide) ?_
    exact z_iret C hR dX2_note_11 (rt2 hf).1 (rt2 hf).2
noncomputable def b_X2_allSeenIn_2 (μ : Mem) (ih2 : Int32 → Option Int32) (x2 : Int32) : Option Int32 :=
 (if (μ 3 11) ≤ x2 then
 (some (1 : Int32))
 else
 (ck (vp_in x2 8) <|
 (bd (f_X0_outcome μ (μ 8 (x2).toNatClampNeg) (μ 9 (x2).toNatClampNeg)) fun v4 =>
 (if v4 = (μ 10 (x2).toNatClampNeg) then
 ih2 ((x2 + (1 : Int32)))
 else
 (some (0 : Int32))))))
set_option maxHeartbeats 4000000 in
theorem zl_X2_allSeenIn_2 {X : ZX} {G : GW} {r : Int32} (μ : Mem) (C : CX X (YR G) cX2_allSeenIn 3 RX2 { frames := 3, cells := 0, slots := 0, locals := 75 }) (hR : ZR X (YR G) (some .boolean) μ (some (.int r))) : ∀ (n : Nat) (σ : Int32), lp (fun ih σ => b_X2_allSeenIn_2 μ ih σ) n σ = some r → Z X (YR G) 3 μ 2 [(0, .ref (G.1 3)), (1, .ref (G.1 19)), (2, .int σ)] [] := by
  refine lp_z (P := fun σ : Int32 => Z X (YR G) 3 μ 2 [(0, .ref (G.1 3)), (1, .ref (G.1 19)), (2, .int σ)] []) (fun ih2 hih2 σ hf => ?_)
  obtain ⟨x2, rfl⟩ : ∃ z, z = σ := ⟨_, rfl⟩
  have hf : b_X2_allSeenIn_2 μ ih2 x2 = some r := hf
  show Z X (YR G) 3 μ 2 [(0, .ref (G.1 3)), (1, .ref (G.1 19)), (2, .int x2)] []
  unfold b_X2_allSeenIn_2 at hf
  refine z_iload_n C 2 dX2_allSeenIn_2 rfl ?_
  refine z_aload_n C 0 dX2_allSeenIn_3 rfl ?_
  refine zg_X2_62_3 C dX2_allSeenIn_4 ?_
  refine z_icmp_ge C 43 dX2_allSeenIn_7 (by decide) (fun c1 => ?_) (fun c1 => ?_)
  · replace hf := it_t hf c1
    refine z_iconst C dX2_allSeenIn_43 (v := (1 : Int32)) (by decide) ?_
    exact z_zret C hR dX2_allSeenIn_44 rfl rfl (rt1 hf)
  · replace hf := it_f hf c1
    refine z_aload_n C 1 dX2_allSeenIn_10 rfl ?_
    refine z_aload_n C 0 dX2_allSeenIn_11 rfl ?_
    refine zg_X2_24_3 C dX2_allSeenIn_12 ?_
    refine z_iload_n C 2 dX2_allSeenIn_15 rfl ?_
    obtain ⟨h2, hf⟩ := ck_e hf
    refine zRl_8 C dX2_allSeenIn_16 h2 ?_
    refine z_aload_n C 0 dX2_allSeenIn_17 rfl ?_
    refine zg_X2_27_3 C dX2_allSeenIn_18 ?_
    refine z_iload_n C 2 dX2_allSeenIn_21 rfl ?_
    refine zRl_9 C dX2_allSeenIn_22 h2 ?_
    obtain ⟨v4, h3, hf⟩ := bd_e hf
    refine z_callVi C (As := [.int (μ 8 (x2).toNatClampNeg), .int (μ 9 (x2).toNatClampNeg)]) (rest := []) (c_X0_outcome h3) vw_X2_71 ⟨rfl, rfl, by decide, by decide⟩ (z_rv C (q0 := 19) (ci := 0) rfl rfl rfl) rfl (Nat.le_of_ble_eq_true rfl) dX2_allSeenIn_23 ?_
    refine z_aload_n C 0 dX2_allSeenIn_26 rfl ?_
    refine zg_X2_30_3 C dX2_allSeenIn_27 ?_
    refine z_iload_n C 2 dX2_allSeenIn_30 rfl ?_
    refine zRl_10 C dX2_allSeenIn_31 h2 ?_
    refine z_icmp_eq C 37 dX2_allSeenIn_32 (by decide) (fun c5 => ?_) (fun c5 => ?_)
    · replace hf := it_t hf c5
      refine z_iinc C 2 dX2_allSeenIn_37 (v := (x2 + (1 : Int32))) (lv' := [(2, .int (x2 + (1 : Int32))), (0, .ref (G.1 3)), (1, .ref (G.1 19))]) rfl rfl (by decide) rfl ?_
      refine z_goto C 2 dX2_allSeenIn_40 (by decide) ?_
      refine z_lv C [1, 2, 0] (lv' := [(0, .ref (G.1 3)), (1, .ref (G.1 19)), (2, .int (x2 + (1 : Int32)))]) rfl ?_
      exact hih2 ((x2 + (1 : Int32))) hf
    · replace hf := it_f hf c5
      refine z_iconst C dX2_allSeenIn_35 (v := (0 : Int32)) (by decide) ?_
      exact z_zret C hR dX2_allSeenIn_36 rfl rfl (rt1 hf)
noncomputable def f_X2_allSeenIn (μ : Mem) : Option Int32 :=
 lp (fun ih σ => b_X2_allSeenIn_2 μ ih σ) fu ((0 : Int32))
set_option maxHeartbeats 4000000 in
theorem c_X2_allSeenIn {l : Launch} {G : GW} {μ : Mem} {r : Int32} (hf : f_X2_allSeenIn μ = some r) : MZ l (YR G) yX2_allSeenIn cX2_allSeenIn 3 (some .boolean) { frames := 3, cells := 0, slots := 0, locals := 75 } [.ref (G.1 3), .ref (G.1 19)] μ μ (some (.int r)) := by
  refine z_met RX2 rfl (by decide) (Nat.le_of_ble_eq_true rfl) (fun X hX C hR => ?_)
  show Z X (YR G) 3 μ 0 [(0, .ref (G.1 3)), (1, .ref (G.1 19))] []
  unfold f_X2_allSeenIn at hf
  refine z_iconst C dX2_allSeenIn_0 (v := (0 : Int32)) (by decide) ?_
  refine z_istore_n C dX2_allSeenIn_1 (i := 2) (lv' := [(2, .int (0 : Int32)), (0, .ref (G.1 3)), (1, .ref (G.1 19))]) rfl (by decide) rfl ?_
  refine z_lv C [1, 2, 0] (lv' := [(0, .ref (G.1 3)), (1, .ref (G.1 19)), (2, .int (0 : Int32))]) rfl ?_
  exact zl_X2_allSeenIn_2 μ C hR fu ((0 : Int32)) hf
