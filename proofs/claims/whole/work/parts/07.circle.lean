noncomputable def b_X0_seatAll_18 (ih18 : Mem × Int32 → Option Mem) (μ : Mem) (x2 : Int32) : Option Mem :=
 (if (μ 19 2) ≤ x2 then
 (some (μ))
 else
 (ck (vp_in x2 6) <|
 (nm ((μ 7 (x2).toNatClampNeg)) fun v7 : Int32 =>
 (ck (vp_in v7 6) <|
 (nm ((μ 4 (v7).toNatClampNeg)) fun v9 : Int32 =>
 (nm (up μ 20 (x2).toNatClampNeg v9) fun μ10 : Mem =>
 (nm ((μ10 5 (v7).toNatClampNeg)) fun v11 : Int32 =>
 (nm (up μ10 21 (x2).toNatClampNeg v11) fun μ12 : Mem =>
 ih18 (μ12, (x2 + (1 : Int32)))))))))))
set_option maxHeartbeats 4000000 in
theorem zl_X0_seatAll_18 {X : ZX} {G : GW} {μ' : Mem} (C : CX X (YR G) cX0_seatAll 4 RX0 { frames := 0, cells := 0, slots := 0, locals := 0 }) (hR : ZR X (YR G) none μ' none) : ∀ (n : Nat) (σ : Mem × Int32), lp (fun ih σ => b_X0_seatAll_18 ih σ.1 σ.2) n σ = some μ' → Z X (YR G) 4 σ.1 18 [(0, .ref (G.1 19)), (1, .ref (G.1 3)), (2, .int σ.2)] [] := by
  refine lp_z (P := fun σ : Mem × Int32 => Z X (YR G) 4 σ.1 18 [(0, .ref (G.1 19)), (1, .ref (G.1 3)), (2, .int σ.2)] []) (fun ih18 hih18 σ hf => ?_)
  obtain ⟨μ, x2⟩ := σ
  have hf : b_X0_seatAll_18 ih18 μ x2 = some μ' := hf
  show Z X (YR G) 4 μ 18 [(0, .ref (G.1 19)), (1, .ref (G.1 3)), (2, .int x2)] []
  unfold b_X0_seatAll_18 at hf
  refine z_iload_n C 2 dX0_seatAll_18 rfl ?_
  refine z_aload_n C 0 dX0_seatAll_19 rfl ?_
  refine zg_X0_24_19 C dX0_seatAll_20 ?_
  refine z_icmp_ge C 63 dX0_seatAll_23 (by decide) (fun c5 => ?_) (fun c5 => ?_)
  · replace hf := it_t hf c5
    exact z_vret C hR dX0_seatAll_63 (rt1 hf)
  · replace hf := it_f hf c5
    refine z_aload_n C 1 dX0_seatAll_26 rfl ?_
    refine zg_X0_31_3 C dX0_seatAll_27 ?_
    refine z_iload_n C 2 dX0_seatAll_30 rfl ?_
    obtain ⟨h6, hf⟩ := ck_e hf
    refine zRl_7 C dX0_seatAll_31 h6 ?_
    refine z_topi (fun v7 ev7 => ?_)
    replace hf := nm_e2 hf v7 ev7
    refine z_istore_n C dX0_seatAll_32 (i := 3) (lv' := [(3, .int v7), (0, .ref (G.1 19)), (1, .ref (G.1 3)), (2, .int x2)]) rfl (by decide) rfl ?_
    refine z_aload_n C 1 dX0_seatAll_33 rfl ?_
    refine zg_X0_9_19 C dX0_seatAll_34 ?_
    refine z_iload_n C 3 dX0_seatAll_37 rfl ?_
    refine z_aload_n C 2 dX0_seatAll_38 rfl ?_
    refine zg_X0_34_3 C dX0_seatAll_39 ?_
    refine z_iload_n C 0 dX0_seatAll_42 rfl ?_
    obtain ⟨h8, hf⟩ := ck_e hf
    refine zRl_4 C dX0_seatAll_43 h8 ?_
    refine z_topi (fun v9 ev9 => ?_)
    replace hf := nm_e2 hf v9 ev9
    refine zRs_20 C dX0_seatAll_44 h6 ?_
    refine z_mem (fun μ10 eμ10 => ?_)
    replace hf := nm_e2 hf μ10 eμ10
    refine z_aload_n C 1 dX0_seatAll_45 rfl ?_
    refine zg_X0_15_19 C dX0_seatAll_46 ?_
    refine z_iload_n C 3 dX0_seatAll_49 rfl ?_
    refine z_aload_n C 2 dX0_seatAll_50 rfl ?_
    refine zg_X0_35_3 C dX0_seatAll_51 ?_
    refine z_iload_n C 0 dX0_seatAll_54 rfl ?_
    refine zRl_5 C dX0_seatAll_55 h8 ?_
    refine z_topi (fun v11 ev11 => ?_)
    replace hf := nm_e2 hf v11 ev11
    refine zRs_21 C dX0_seatAll_56 h6 ?_
    refine z_mem (fun μ12 eμ12 => ?_)
    replace hf := nm_e2 hf μ12 eμ12
    refine z_iinc C 3 dX0_seatAll_57 (v := (x2 + (1 : Int32))) (lv' := [(2, .int (x2 + (1 : Int32))), (3, .int v7), (0, .ref (G.1 19)), (1, .ref (G.1 3))]) rfl rfl (by decide) rfl ?_
    refine z_goto C 18 dX0_seatAll_60 (by decide) ?_
    refine z_lv C [2, 3, 0] (lv' := [(0, .ref (G.1 19)), (1, .ref (G.1 3)), (2, .int (x2 + (1 : Int32)))]) rfl ?_
    exact hih18 (μ12, (x2 + (1 : Int32))) hf
noncomputable def f_X0_seatAll (μ : Mem) : Option Mem :=
 (nm ((μ 3 7)) fun v1 : Int32 =>
 (nm (up μ 19 2 v1) fun μ2 : Mem =>
 (nm ((μ2 3 8)) fun v3 : Int32 =>
 (nm (up μ2 19 3 v3) fun μ4 : Mem =>
 lp (fun ih σ => b_X0_seatAll_18 ih σ.1 σ.2) fu (μ4, (0 : Int32))))))
set_option maxHeartbeats 4000000 in
theorem c_X0_seatAll {l : Launch} {G : GW} {μ : Mem} {μ' : Mem} (hf : f_X0_seatAll μ = some μ') : MZ l (YR G) yX0_seatAll cX0_seatAll 4 none { frames := 0, cells := 0, slots := 0, locals := 0 } [.ref (G.1 19), .ref (G.1 3)] μ μ' none := by
  refine z_met RX0 rfl (by decide) (Nat.le_of_ble_eq_true rfl) (fun X hX C hR => ?_)
  show Z X (YR G) 4 μ 0 [(0, .ref (G.1 19)), (1, .ref (G.1 3))] []
  unfold f_X0_seatAll at hf
  refine z_aload_n C 0 dX0_seatAll_0 rfl ?_
  refine z_aload_n C 1 dX0_seatAll_1 rfl ?_
  refine zg_X0_18_3 C dX0_seatAll_2 ?_
  refine z_topi (fun v1 ev1 => ?_)
  replace hf := nm_e2 hf v1 ev1
  refine zp_X0_24_19 C dX0_seatAll_5 ?_
  refine z_mem (fun μ2 eμ2 => ?_)
  replace hf := nm_e2 hf μ2 eμ2
  refine z_aload_n C 0 dX0_seatAll_8 rfl ?_
  refine z_aload_n C 1 dX0_seatAll_9 rfl ?_
  refine zg_X0_27_3 C dX0_seatAll_10 ?_
  refine z_topi (fun v3 ev3 => ?_)
  replace hf := nm_e2 hf v3 ev3
  refine zp_X0_30_19 C dX0_seatAll_13 ?_
  refine z_mem (fun μ4 eμ4 => ?_)
  replace hf := nm_e2 hf μ4 eμ4
  refine z_iconst C dX0_seatAll_16 (v := (0 : Int32)) (by decide) ?_
  refine z_istore_n C dX0_seatAll_17 (i := 2) (lv' := [(2, .int (0 : Int32)), (0, .ref (G.1 19)), (1, .ref (G.1 3))]) rfl (by decide) rfl ?_
  refine z_lv C [1, 2, 0] (lv' := [(0, .ref (G.1 19)), (1, .ref (G.1 3)), (2, .int (0 : Int32))]) rfl ?_
  exact zl_X0_seatAll_18 C hR fu (μ4, (0 : Int32)) hf
noncomputable def f_X0_put (μ : Mem) (x1 : Int32) (x2 : Int32) (x3 : Int32) : Option Mem :=
 (ck (vp_in x1 6) <|
 (nm (up μ 20 (x1).toNatClampNeg x2) fun μ2 : Mem =>
 (nm (up μ2 21 (x1).toNatClampNeg x3) fun μ3 : Mem =>
 (some (μ3)))))
set_option maxHeartbeats 4000000 in
theorem c_X0_put {l : Launch} {G : GW} {μ : Mem} {x1 : Int32} {x2 : Int32} {x3 : Int32} {μ' : Mem} (hf : f_X0_put μ x1 x2 x3 = some μ') : MZ l (YR G) yX0_put cX0_put 4 none { frames := 0, cells := 0, slots := 0, locals := 0 } [.ref (G.1 19), .int x1, .int x2, .int x3] μ μ' none := by
  refine z_met RX0 rfl (by decide) (Nat.le_of_ble_eq_true rfl) (fun X hX C hR => ?_)
  show Z X (YR G) 4 μ 0 [(0, .ref (G.1 19)), (1, .int x1), (2, .int x2), (3, .int x3)] []
  unfold f_X0_put at hf
  refine z_aload_n C 0 dX0_put_0 rfl ?_
  refine zg_X0_9_19 C dX0_put_1 ?_
  refine z_iload_n C 1 dX0_put_4 rfl ?_
  refine z_iload_n C 2 dX0_put_5 rfl ?_
  obtain ⟨h1, hf⟩ := ck_e hf
  refine zRs_20 C dX0_put_6 h1 ?_
  refine z_mem (fun μ2 eμ2 => ?_)
  replace hf := nm_e2 hf μ2 eμ2
  refine z_aload_n C 0 dX0_put_7 rfl ?_
  refine zg_X0_15_19 C dX0_put_8 ?_
  refine z_iload_n C 1 dX0_put_11 rfl ?_
  refine z_iload_n C 3 dX0_put_12 rfl ?_
  refine zRs_21 C dX0_put_13 h1 ?_
  refine z_mem (fun μ3 eμ3 => ?_)
  replace hf := nm_e2 hf μ3 eμ3
  exact z_vret C hR dX0_put_14 (rt1 hf)
noncomputable def f_X0_swap (μ : Mem) (x1 : Int32) (x2 : Int32) : Option Mem :=
 (ck (vp_in x1 6) <|
 (nm ((μ 20 (x1).toNatClampNeg)) fun v2 : Int32 =>
 (nm ((μ 21 (x1).toNatClampNeg)) fun v3 : Int32 =>
 (ck (vp_in x2 6) <|
 (bd (f_X0_put μ x1 (μ 20 (x2).toNatClampNeg) (μ 21 (x2).toNatClampNeg)) fun μ6 =>
 (bd (f_X0_put μ6 x2 v2 v3) fun μ8 =>
 (some (μ8))))))))
set_option maxHeartbeats 4000000 in
theorem c_X0_swap {l : Launch} {G : GW} {μ : Mem} {x1 : Int32} {x2 : Int32} {μ' : Mem} (hf : f_X0_swap μ x1 x2 = some μ') : MZ l (YR G) yX0_swap cX0_swap 5 none { frames := 1, cells := 0, slots := 0, locals := 23 } [.ref (G.1 19), .int x1, .int x2] μ μ' none := by
  refine z_met RX0 rfl (by decide) (Nat.le_of_ble_eq_true rfl) (fun X hX C hR => ?_)
  show Z X (YR G) 5 μ 0 [(0, .ref (G.1 19)), (1, .int x1), (2, .int x2)] []
  unfold f_X0_swap at hf
  refine z_aload_n C 0 dX0_swap_0 rfl ?_
  refine zg_X0_9_19 C dX0_swap_1 ?_
  refine z_iload_n C 1 dX0_swap_4 rfl ?_
  obtain ⟨h1, hf⟩ := ck_e hf
  refine zRl_20 C dX0_swap_5 h1 ?_
  refine z_topi (fun v2 ev2 => ?_)
  replace hf := nm_e2 hf v2 ev2
  refine z_istore_n C dX0_swap_6 (i := 3) (lv' := [(3, .int v2), (0, .ref (G.1 19)), (1, .int x1), (2, .int x2)]) rfl (by decide) rfl ?_
  refine z_aload_n C 1 dX0_swap_7 rfl ?_
  refine zg_X0_15_19 C dX0_swap_8 ?_
  refine z_iload_n C 2 dX0_swap_11 rfl ?_
  refine zRl_21 C dX0_swap_12 h1 ?_
  refine z_topi (fun v3 ev3 => ?_)
  replace hf := nm_e2 hf v3 ev3
  refine z_istore C dX0_swap_13 (i := 4) (lv' := [(4, .int v3), (3, .int v2), (0, .ref (G.1 19)), (1, .int x1), (2, .int x2)]) (by decide) rfl ?_
  refine z_aload_n C 2 dX0_swap_15 rfl ?_
  refine z_iload_n C 3 dX0_swap_16 rfl ?_
  refine z_aload_n C 2 dX0_swap_17 rfl ?_
  refine zg_X0_9_19 C dX0_swap_18 ?_
  refine z_iload_n C 4 dX0_swap_21 rfl ?_
  obtain ⟨h4, hf⟩ := ck_e hf
  refine zRl_20 C dX0_swap_22 h4 ?_
  refine z_aload_n C 2 dX0_swap_23 rfl ?_
  refine zg_X0_15_19 C dX0_swap_24 ?_
  refine z_iload_n C 4 dX0_swap_27 rfl ?_
  refine zRl_21 C dX0_swap_28 h4 ?_
  obtain ⟨μ6, h5, hf⟩ := bd_e hf
  refine z_callVv C (As := [.int x1, .int (μ 20 (x2).toNatClampNeg), .int (μ 21 (x2).toNatClampNeg)]) (rest := []) (c_X0_put h5) vw_X0_36 ⟨rfl, rfl, by decide, by decide⟩ (z_rv C (q0 := 19) (ci := 0) rfl rfl rfl) rfl (Nat.le_of_ble_eq_true rfl) dX0_swap_29 ?_
  refine z_aload_n C 2 dX0_swap_32 rfl ?_
  refine z_iload_n C 4 dX0_swap_33 rfl ?_
  refine z_iload_n C 1 dX0_swap_34 rfl ?_
  refine z_iload C 0 dX0_swap_35 rfl ?_
  obtain ⟨μ8, h7, hf⟩ := bd_e hf
  refine z_callVv C (As := [.int x2, .int v2, .int v3]) (rest := []) (c_X0_put h7) vw_X0_36 ⟨rfl, rfl, by decide, by decide⟩ (z_rv C (q0 := 19) (ci := 0) rfl rfl rfl) rfl (Nat.le_of_ble_eq_true rfl) dX0_swap_37 ?_
  exact z_vret C hR dX0_swap_40 (rt1 hf)
noncomputable def g_X0_lend_50 (μ : Mem) (x1 : Int32) (x2 : Int32) (x3 : Int32) (ih2 : Mem × Int32 → Option Mem) : Option Mem :=
 ih2 (μ, (x3 + (1 : Int32)))
set_option maxHeartbeats 4000000 in
theorem zj_X0_lend_50 {X : ZX} {G : GW} {μ' : Mem} (μ : Mem) (x1 : Int32) (x2 : Int32) (x3 : Int32) (C : CX X (YR G) cX0_lend 5 RX0 { frames := 1, cells := 0, slots := 0, locals := 23 }) (hR : ZR X (YR G) none μ' none) (ih2 : Mem × Int32 → Option Mem) (hih2 : ∀ σ, ih2 σ = some μ' → Z X (YR G) 5 σ.1 2 [(0, .ref (G.1 19)), (1, .int x1), (2, .int x2), (3, .int σ.2)] []) (hf : g_X0_lend_50 μ x1 x2 x3 ih2 = some μ') : Z X (YR G) 5 μ 50 [(0, .ref (G.1 19)), (1, .int x1), (2, .int x2), (3, .int x3)] [] := by
  unfold g_X0_lend_50 at hf
  refine z_iinc C 3 dX0_lend_50 (v := (x3 + (1 : Int32))) (lv' := [(3, .int (x3 + (1 : Int32))), (0, .ref (G.1 19)), (1, .int x1), (2, .int x2)]) rfl rfl (by decide) rfl ?_
  refine z_goto C 2 dX0_lend_53 (by decide) ?_
  refine z_lv C [1, 2, 3, 0] (lv' := [(0, .ref (G.1 19)), (1, .int x1), (2, .int x2), (3, .int (x3 + (1 : Int32)))]) rfl ?_
  exact hih2 (μ, (x3 + (1 : Int32))) hf
noncomputable def g_X0_lend_45 (μ : Mem) (x1 : Int32) (x2 : Int32) (x3 : Int32) (t0 : Int32) (t1 : Int32) (ih2 : Mem × Int32 → Option Mem) : Option Mem :=
 (bd (f_X0_put μ t1 t0 (7 : Int32)) fun μ6 =>
 g_X0_lend_50 μ6 x1 x2 x3 ih2)
set_option maxHeartbeats 4000000 in
theorem zj_X0_lend_45 {X : ZX} {G : GW} {μ' : Mem} (μ : Mem) (x1 : Int32) (x2 : Int32) (x3 : Int32) (t0 : Int32) (t1 : Int32) (C : CX X (YR G) cX0_lend 5 RX0 { frames := 1, cells := 0, slots := 0, locals := 23 }) (hR : ZR X (YR G) none μ' none) (ih2 : Mem × Int32 → Option Mem) (hih2 : ∀ σ, ih2 σ = some μ' → Z X (YR G) 5 σ.1 2 [(0, .ref (G.1 19)), (1, .int x1), (2, .int x2), (3, .int σ.2)] []) (hf : g_X0_lend_45 μ x1 x2 x3 t0 t1 ih2 = some μ') : Z X (YR G) 5 μ 45 [(0, .ref (G.1 19)), (1, .int x1), (2, .int x2), (3, .int x3)] [.int t0, .int t1, .ref (G.1 19)] := by
  unfold g_X0_lend_45 at hf
  refine z_bipush C dX0_lend_45 (v := (7 : Int32)) (by decide) ?_
  obtain ⟨μ6, h5, hf⟩ := bd_e hf
  refine z_callVv C (As := [.int t1, .int t0, .int (7 : Int32)]) (rest := []) (c_X0_put h5) vw_X0_36 ⟨rfl, rfl, by decide, by decide⟩ (z_rv C (q0 := 19) (ci := 0) rfl rfl rfl) rfl (Nat.le_of_ble_eq_true rfl) dX0_lend_47 ?_
  exact zj_X0_lend_50 μ6 x1 x2 x3 C hR ih2 hih2 hf
noncomputable def g_X0_lend_31 (μ : Mem) (x1 : Int32) (x2 : Int32) (x3 : Int32) (t0 : Int32) (ih2 : Mem × Int32 → Option Mem) : Option Mem :=
 (if t0 = 0 then
 g_X0_lend_45 μ x1 x2 x3 (0 : Int32) x3 ih2
 else
 g_X0_lend_45 μ x1 x2 x3 (1 : Int32) x3 ih2)
set_option maxHeartbeats 4000000 in
theorem zj_X0_lend_31 {X : ZX} {G : GW} {μ' : Mem} (μ : Mem) (x1 : Int32) (x2 : Int32) (x3 : Int32) (t0 : Int32) (C : CX X (YR G) cX0_lend 5 RX0 { frames := 1, cells := 0, slots := 0, locals := 23 }) (hR : ZR X (YR G) none μ' none) (ih2 : Mem × Int32 → Option Mem) (hih2 : ∀ σ, ih2 σ = some μ' → Z X (YR G) 5 σ.1 2 [(0, .ref (G.1 19)), (1, .int x1), (2, .int x2), (3, .int σ.2)] []) (hf : g_X0_lend_31 μ x1 x2 x3 t0 ih2 = some μ') : Z X (YR G) 5 μ 31 [(0, .ref (G.1 19)), (1, .int x1), (2, .int x2), (3, .int x3)] [.int t0] := by
  unfold g_X0_lend_31 at hf
  refine z_istore C dX0_lend_31 (i := 4) (lv' := [(4, .int t0), (0, .ref (G.1 19)), (1, .int x1), (2, .int x2), (3, .int x3)]) (by decide) rfl ?_
  refine z_aload_n C 1 dX0_lend_33 rfl ?_
  refine z_iload_n C 4 dX0_lend_34 rfl ?_
  refine z_iload C 0 dX0_lend_35 rfl ?_
  refine z_if_eq C 44 dX0_lend_37 (by decide) (fun c4 => ?_) (fun c4 => ?_)
  · replace hf := it_t hf c4
    refine z_iconst C dX0_lend_44 (v := (0 : Int32)) (by decide) ?_
    refine z_lv C [1, 2, 3, 4] (lv' := [(0, .ref (G.1 19)), (1, .int x1), (2, .int x2), (3, .int x3)]) rfl ?_
    exact zj_X0_lend_45 μ x1 x2 x3 (0 : Int32) x3 C hR ih2 hih2 hf
  · replace hf := it_f hf c4
    refine z_iconst C dX0_lend_40 (v := (1 : Int32)) (by decide) ?_
    refine z_goto C 45 dX0_lend_41 (by decide) ?_
    refine z_lv C [1, 2, 3, 4] (lv' := [(0, .ref (G.1 19)), (1, .int x1), (2, .int x2), (3, .int x3)]) rfl ?_
    exact zj_X0_lend_45 μ x1 x2 x3 (1 : Int32) x3 C hR ih2 hih2 hf
noncomputable def b_X0_lend_2 (x1 : Int32) (x2 : Int32) (ih2 : Mem × Int32 → Option Mem) (μ : Mem) (x3 : Int32) : Option Mem :=
 (if (μ 19 2) ≤ x3 then
 (some (μ))
 else
 (if ((x1 >>> (x3 &&& 31)) &&& (1 : Int32)) = 0 then
 g_X0_lend_50 μ x1 x2 x3 ih2
 else
 (if ((x2 >>> (x3 &&& 31)) &&& (1 : Int32)) = 0 then
 g_X0_lend_31 μ x1 x2 x3 (0 : Int32) ih2
 else
 g_X0_lend_31 μ x1 x2 x3 (1 : Int32) ih2)))
set_option maxHeartbeats 4000000 in
theorem zl_X0_lend_2 {X : ZX} {G : GW} {μ' : Mem} (x1 : Int32) (x2 : Int32) (C : CX X (YR G) cX0_lend 5 RX0 { frames := 1, cells := 0, slots := 0, locals := 23 }) (hR : ZR X (YR G) none μ' none) : ∀ (n : Nat) (σ : Mem × Int32), lp (fun ih σ => b_X0_lend_2 x1 x2 ih σ.1 σ.2) n σ = some μ' → Z X (YR G) 5 σ.1 2 [(0, .ref (G.1 19)), (1, .int x1), (2, .int x2), (3, .int σ.2)] [] := by
  refine lp_z (P := fun σ : Mem × Int32 => Z X (YR G) 5 σ.1 2 [(0, .ref (G.1 19)), (1, .int x1), (2, .int x2), (3, .int σ.2)] []) (fun ih2 hih2 σ hf => ?_)
  obtain ⟨μ, x3⟩ := σ
  have hf : b_X0_lend_2 x1 x2 ih2 μ x3 = some μ' := hf
  show Z X (YR G) 5 μ 2 [(0, .ref (G.1 19)), (1, .int x1), (2, .int x2), (3, .int x3)] []
  unfold b_X0_lend_2 at hf
  refine z_iload_n C 3 dX0_lend_2 rfl ?_
  refine z_aload_n C 0 dX0_lend_3 rfl ?_
  refine zg_X0_24_19 C dX0_lend_4 ?_
  refine z_icmp_ge C 56 dX0_lend_7 (by decide) (fun c1 => ?_) (fun c1 => ?_)
  · replace hf := it_t hf c1
    exact z_vret C hR dX0_lend_56 (rt1 hf)
  · replace hf := it_f hf c1
    refine z_iload_n C 1 dX0_lend_10 rfl ?_
    refine z_iload_n C 3 dX0_lend_11 rfl ?_
    refine z_ishr C dX0_lend_12 ?_
    refine z_iconst C dX0_lend_13 (v := (1 : Int32)) (by decide) ?_
    refine z_iand C dX0_lend_14 ?_
    refine z_if_eq C 50 dX0_lend_15 (by decide) (fun c2 => ?_) (fun c2 => ?_)
    · replace hf := it_t hf c2
      exact zj_X0_lend_50 μ x1 x2 x3 C hR ih2 hih2 hf
    · replace hf := it_f hf c2
      refine z_iload_n C 2 dX0_lend_18 rfl ?_
      refine z_iload_n C 3 dX0_lend_19 rfl ?_
      refine z_ishr C dX0_lend_20 ?_
      refine z_iconst C dX0_lend_21 (v := (1 : Int32)) (by decide) ?_
      refine z_iand C dX0_lend_22 ?_
      refine z_if_eq C 30 dX0_lend_23 (by decide) (fun c3 => ?_) (fun c3 => ?_)
      · replace hf := it_t hf c3
        refine z_iconst C dX0_lend_30 (v := (0 : Int32)) (by decide) ?_
        exact zj_X0_lend_31 μ x1 x2 x3 (0 : Int32) C hR ih2 hih2 hf
      · replace hf := it_f hf c3
        refine z_iconst C dX0_lend_26 (v := (1 : Int32)) (by decide) ?_
        refine z_goto C 31 dX0_lend_27 (by decide) ?_
        exact zj_X0_lend_31 μ x1 x2 x3 (1 : Int32) C hR ih2 hih2 hf
noncomputable def f_X0_lend (μ : Mem) (x1 : Int32) (x2 : Int32) : Option Mem :=
 lp (fun ih σ => b_X0_lend_2 x1 x2 ih σ.1 σ.2) fu (μ, (0 : Int32))
set_option maxHeartbeats 4000000 in
theorem c_X0_lend {l : Launch} {G : GW} {μ : Mem} {x1 : Int32} {x2 : Int32} {μ' : Mem} (hf : f_X0_lend μ x1 x2 = some μ') : MZ l (YR G) yX0_lend cX0_lend 5 none { frames := 1, cells := 0, slots := 0, locals := 23 } [.ref (G.1 19), .int x1, .int x2] μ μ' none := by
  refine z_met RX0 rfl (by decide) (Nat.le_of_ble_eq_true rfl) (fun X hX C hR => ?_)
  show Z X (YR G) 5 μ 0 [(0, .ref (G.1 19)), (1, .int x1), (2, .int x2)] []
  unfold f_X0_lend at hf
  refine z_iconst C dX0_lend_0 (v := (0 : Int32)) (by decide) ?_
  refine z_istore_n C dX0_lend_1 (i := 3) (lv' := [(3, .int (0 : Int32)), (0, .ref (G.1 19)), (1, .int x1), (2, .int x2)]) rfl (by decide) rfl ?_
  refine z_lv C [1, 2, 3, 0] (lv' := [(0, .ref (G.1 19)), (1, .int x1), (2, .int x2), (3, .int (0 : Int32))]) rfl ?_
  exact zl_X0_lend_2 x1 x2 C hR fu (μ, (0 : Int32)) hf
noncomputable def f_X0_turnWind (μ : Mem) : Option Mem :=
 (nm (((1 : Int32) - (μ 19 3))) fun v1 : Int32 =>
 (nm (up μ 19 3 v1) fun μ2 : Mem =>
 (some (μ2))))
set_option maxHeartbeats 4000000 in
theorem c_X0_turnWind {l : Launch} {G : GW} {μ : Mem} {μ' : Mem} (hf : f_X0_turnWind μ = some μ') : MZ l (YR G) yX0_turnWind cX0_turnWind 1 none { frames := 0, cells := 0, slots := 0, locals := 0 } [.ref (G.1 19)] μ μ' none := by
  refine z_met RX0 rfl (by decide) (Nat.le_of_ble_eq_true rfl) (fun X hX C hR => ?_)
  show Z X (YR G) 1 μ 0 [(0, .ref (G.1 19))] []
  unfold f_X0_turnWind at hf
  refine z_aload_n C 0 dX0_turnWind_0 rfl ?_
  refine z_iconst C dX0_turnWind_1 (v := (1 : Int32)) (by decide) ?_
  refine z_aload_n C 0 dX0_turnWind_2 rfl ?_
  refine zg_X0_30_19 C dX0_turnWind_3 ?_
  refine z_isub C dX0_turnWind_6 ?_
  refine z_topi (fun v1 ev1 => ?_)
  replace hf := nm_e2 hf v1 ev1
  refine zp_X0_30_19 C dX0_turnWind_7 ?_
  refine z_mem (fun μ2 eμ2 => ?_)
  replace hf := nm_e2 hf μ2 eμ2
  exact z_vret C hR dX0_turnWind_10 (rt1 hf)
noncomputable def f_X0_leftOf (μ : Mem) (x1 : Int32) : Int32 :=
 (if (μ 19 2) ≤ (x1 + (1 : Int32)) then
 (0 : Int32)
 else
 (x1 + (1 : Int32)))
set_option maxHeartbeats 4000000 in
theorem c_X0_leftOf {l : Launch} {G : GW} {μ : Mem} {x1 : Int32} {r : Int32} (hf : f_X0_leftOf μ x1 = r) : MZ l (YR G) yX0_leftOf cX0_leftOf 2 (some .int) { frames := 0, cells := 0, slots := 0, locals := 0 } [.ref (G.1 19), .int x1] μ μ (some (.int r)) := by
  refine z_met RX0 rfl (by decide) (Nat.le_of_ble_eq_true rfl) (fun X hX C hR => ?_)
  show Z X (YR G) 2 μ 0 [(0, .ref (G.1 19)), (1, .int x1)] []
  unfold f_X0_leftOf at hf
  refine z_iload_n C 1 dX0_leftOf_0 rfl ?_
  refine z_iconst C dX0_leftOf_1 (v := (1 : Int32)) (by decide) ?_
  refine z_iadd C dX0_leftOf_2 ?_
  refine z_aload_n C 0 dX0_leftOf_3 rfl ?_
  refine zg_X0_24_19 C dX0_leftOf_4 ?_
  refine z_icmp_ge C 16 dX0_leftOf_7 (by decide) (fun c1 => ?_) (fun c1 => ?_)
  · replace hf := it_t hf c1
    refine z_iconst C dX0_leftOf_16 (v := (0 : Int32)) (by decide) ?_
    exact z_iret C hR dX0_leftOf_17 rfl hf
  · replace hf := it_f hf c1
    refine z_iload_n C 1 dX0_leftOf_10 rfl ?_
    refine z_iconst C dX0_leftOf_11 (v := (1 : Int32)) (by decide) ?_
    refine z_iadd C dX0_leftOf_12 ?_
    refine z_goto C 17 dX0_leftOf_13 (by decide) ?_
    exact z_iret C hR dX0_leftOf_17 rfl hf
noncomputable def g_X0_made_12 (μ : Mem) (x0 : Int32) (x1 : Int32) (x3 : Int32) (t0 : Int32) : Int32 :=
 (if x0 = (1 : Int32) then
 (x3 ^^^ x1)
 else
 (if x0 = (2 : Int32) then
 ((x3 + t0) - (x3 + t0) / (8 : Int32) * (8 : Int32))
 else
 (if x0 = (3 : Int32) then
 x3
 else
 (if x0 = (4 : Int32) then
 (((x3 + t0) + (1 : Int32)) - ((x3 + t0) + (1 : Int32)) / (8 : Int32) * (8 : Int32))
 else
 x3))))
set_option maxHeartbeats 4000000 in
theorem zj_X0_made_12 {X : ZX} {G : GW} {r : Int32} (μ : Mem) (x0 : Int32) (x1 : Int32) (x3 : Int32) (t0 : Int32) (C : CX X (YR G) cX0_made 5 RX0 { frames := 0, cells := 0, slots := 0, locals := 0 }) (hR : ZR X (YR G) (some .int) μ (some (.int r))) (hf : g_X0_made_12 μ x0 x1 x3 t0 = r) : Z X (YR G) 5 μ 12 [(0, .int x0), (1, .int x1), (3, .int x3)] [.int t0] := by
  unfold g_X0_made_12 at hf
  refine z_istore C dX0_made_12 (i := 4) (lv' := [(4, .int t0), (0, .int x0), (1, .int x1), (3, .int x3)]) (by decide) rfl ?_
  refine z_iload_n C 1 dX0_made_14 rfl ?_
  rcases Decidable.em (x0 = (1 : Int32)) with c2 | c2
  · replace hf := it_t hf c2
    refine z_tabI C 44 dX0_made_15 (off := 29) (by rw [c2]; decide) (by rw [c2]; decide) (by rw [c2]; first | rfl | decide +kernel) (by decide) ?_
    refine z_iload_n C 3 dX0_made_44 rfl ?_
    refine z_iload_n C 2 dX0_made_45 rfl ?_
    refine z_ixor C dX0_made_46 ?_
    exact z_iret C hR dX0_made_47 rfl hf
  · replace hf := it_f hf c2
    rcases Decidable.em (x0 = (2 : Int32)) with c3 | c3
    · replace hf := it_t hf c3
      refine z_tabI C 48 dX0_made_15 (off := 33) (by rw [c3]; decide) (by rw [c3]; decide) (by rw [c3]; first | rfl | decide +kernel) (by decide) ?_
      refine z_iload_n C 3 dX0_made_48 rfl ?_
      refine z_iload C 0 dX0_made_49 rfl ?_
      refine z_iadd C dX0_made_51 ?_
      refine z_bipush C dX0_made_52 (v := (8 : Int32)) (by decide) ?_
      refine z_irem C dX0_made_54 (by decide) ?_
      exact z_iret C hR dX0_made_55 rfl hf
    · replace hf := it_f hf c3
      rcases Decidable.em (x0 = (3 : Int32)) with c4 | c4
      · replace hf := it_t hf c4
        refine z_tabI C 66 dX0_made_15 (off := 51) (by rw [c4]; decide) (by rw [c4]; decide) (by rw [c4]; first | rfl | decide +kernel) (by decide) ?_
        refine z_iload_n C 3 dX0_made_66 rfl ?_
        exact z_iret C hR dX0_made_67 rfl hf
      · replace hf := it_f hf c4
        rcases Decidable.em (x0 = (4 : Int32)) with c5 | c5
        · replace hf := it_t hf c5
          refine z_tabI C 56 dX0_made_15 (off := 41) (by rw [c5]; decide) (by rw [c5]; decide) (by rw [c5]; first | rfl | decide +kernel) (by decide) ?_
          refine z_iload_n C 3 dX0_made_56 rfl ?_
          refine z_iload C 0 dX0_made_57 rfl ?_
          refine z_iadd C dX0_made_59 ?_
          refine z_iconst C dX0_made_60 (v := (1 : Int32)) (by decide) ?_
          refine z_iadd C dX0_made_61 ?_
          refine z_bipush C dX0_made_62 (v := (8 : Int32)) (by decide) ?_
          refine z_irem C dX0_made_64 (by decide) ?_
          exact z_iret C hR dX0_made_65 rfl hf
        · replace hf := it_f hf c5
          refine z_tabO C 66 dX0_made_15 (by have hc2 := lv_neT c2 (a := 1) (by decide); have hc3 := lv_neT c3 (a := 2) (by decide); have hc4 := lv_neT c4 (a := 3) (by decide); have hc5 := lv_neT c5 (a := 4) (by decide); omega) (by decide) ?_
          refine z_iload_n C 3 dX0_made_66 rfl ?_
          exact z_iret C hR dX0_made_67 rfl hf
noncomputable def f_X0_made (μ : Mem) (x0 : Int32) (x1 : Int32) (x2 : Int32) (x3 : Int32) : Int32 :=
 (if x2 = (1 : Int32) then
 g_X0_made_12 μ x0 x1 x3 (((2 : Int32) * x1))
 else
 g_X0_made_12 μ x0 x1 x3 x1)
set_option maxHeartbeats 4000000 in
theorem c_X0_made {l : Launch} {G : GW} {μ : Mem} {x0 : Int32} {x1 : Int32} {x2 : Int32} {x3 : Int32} {r : Int32} (hf : f_X0_made μ x0 x1 x2 x3 = r) : MZ l (YR G) yX0_made cX0_made 5 (some .int) { frames := 0, cells := 0, slots := 0, locals := 0 } [.int x0, .int x1, .int x2, .int x3] μ μ (some (.int r)) := by
  refine z_met RX0 rfl (by decide) (Nat.le_of_ble_eq_true rfl) (fun X hX C hR => ?_)
  show Z X (YR G) 5 μ 0 [(0, .int x0), (1, .int x1), (2, .int x2), (3, .int x3)] []
  unfold f_X0_made at hf
  refine z_iload_n C 2 dX0_made_0 rfl ?_
  refine z_iconst C dX0_made_1 (v := (1 : Int32)) (by decide) ?_
  refine z_icmp_ne C 11 dX0_made_2 (by decide) (fun c1 => ?_) (fun c1 => ?_)
  · replace hf := it_f hf c1
    refine z_iload_n C 1 dX0_made_11 rfl ?_
    refine z_lv C [0, 1, 3] (lv' := [(0, .int x0), (1, .int x1), (3, .int x3)]) rfl ?_
    exact zj_X0_made_12 μ x0 x1 x3 x1 C hR hf
  · replace hf := it_t hf c1
    refine z_iconst C dX0_made_5 (v := (2 : Int32)) (by decide) ?_
    refine z_iload_n C 1 dX0_made_6 rfl ?_
    refine z_imul C dX0_made_7 ?_
    refine z_goto C 12 dX0_made_8 (by decide) ?_
    refine z_lv C [0, 1, 3] (lv' := [(0, .int x0), (1, .int x1), (3, .int x3)]) rfl ?_
    exact zj_X0_made_12 μ x0 x1 x3 (((2 : Int32) * x1)) C hR hf
noncomputable def b_X0_madeOften_6 (μ : Mem) (x1 : Int32) (x3 : Int32) (ih6 : Int32 × Int32 → Option Int32) (x4 : Int32) (x5 : Int32) : Option Int32 :=
 (if x3 ≤ x5 then
 (some x4)
 else
 (ck (vp_in x1 6) <|
 (nm (f_X0_made μ (μ 20 (x1).toNatClampNeg) (μ 21 (x1).toNatClampNeg) (μ 19 3) x4) fun v4 : Int32 =>
 ih6 (v4, (x5 + (1 : Int32))))))
set_option maxHeartbeats 4000000 in
theorem zl_X0_madeOften_6 {X : ZX} {G : GW} {r : Int32} (μ : Mem) (x1 : Int32) (x3 : Int32) (C : CX X (YR G) cX0_madeOften 6 RX0 { frames := 1, cells := 0, slots := 0, locals := 24 }) (hR : ZR X (YR G) (some .int) μ (some (.int r))) : ∀ (n : Nat) (σ : Int32 × Int32), lp (fun ih σ => b_X0_madeOften_6 μ x1 x3 ih σ.1 σ.2) n σ = some r → Z X (YR G) 6 μ 6 [(0, .ref (G.1 19)), (1, .int x1), (3, .int x3), (4, .int σ.1), (5, .int σ.2)] [] := by
  refine lp_z (P := fun σ : Int32 × Int32 => Z X (YR G) 6 μ 6 [(0, .ref (G.1 19)), (1, .int x1), (3, .int x3), (4, .int σ.1), (5, .int σ.2)] []) (fun ih6 hih6 σ hf => ?_)
  obtain ⟨x4, x5⟩ := σ
  have hf : b_X0_madeOften_6 μ x1 x3 ih6 x4 x5 = some r := hf
  show Z X (YR G) 6 μ 6 [(0, .ref (G.1 19)), (1, .int x1), (3, .int x3), (4, .int x4), (5, .int x5)] []
  unfold b_X0_madeOften_6 at hf
  refine z_iload C 4 dX0_madeOften_6 rfl ?_
  refine z_iload_n C 2 dX0_madeOften_8 rfl ?_
  refine z_icmp_ge C 41 dX0_madeOften_9 (by decide) (fun c1 => ?_) (fun c1 => ?_)
  · replace hf := it_t hf c1
    refine z_iload C 3 dX0_madeOften_41 rfl ?_
    exact z_iret C hR dX0_madeOften_43 rfl (rt1 hf)
  · replace hf := it_f hf c1
    refine z_aload_n C 0 dX0_madeOften_12 rfl ?_
    refine zg_X0_9_19 C dX0_madeOften_13 ?_
    refine z_iload_n C 1 dX0_madeOften_16 rfl ?_
    obtain ⟨h2, hf⟩ := ck_e hf
    refine zRl_20 C dX0_madeOften_17 h2 ?_
    refine z_aload_n C 0 dX0_madeOften_18 rfl ?_
    refine zg_X0_15_19 C dX0_madeOften_19 ?_
    refine z_iload_n C 1 dX0_madeOften_22 rfl ?_
    refine zRl_21 C dX0_madeOften_23 h2 ?_
    refine z_aload_n C 0 dX0_madeOften_24 rfl ?_
    refine zg_X0_30_19 C dX0_madeOften_25 ?_
    refine z_iload C 3 dX0_madeOften_28 rfl ?_
    obtain ⟨v4, h3⟩ : ∃ z, z = f_X0_made μ (μ 20 (x1).toNatClampNeg) (μ 21 (x1).toNatClampNeg) (μ 19 3) x4 := ⟨_, rfl⟩
    replace hf := nm_e2 hf v4 h3
    refine z_callSi C (As := [.int (μ 20 (x1).toNatClampNeg), .int (μ 21 (x1).toNatClampNeg), .int (μ 19 3), .int x4]) (rest := []) (c_X0_made h3.symm) sw_X0_48 ⟨rfl, rfl, by decide, by decide⟩ rfl (Nat.le_of_ble_eq_true rfl) dX0_madeOften_30 ?_
    refine z_istore C dX0_madeOften_33 (i := 4) (lv' := [(4, .int v4), (0, .ref (G.1 19)), (1, .int x1), (3, .int x3), (5, .int x5)]) (by decide) rfl ?_
    refine z_iinc C 4 dX0_madeOften_35 (v := (x5 + (1 : Int32))) (lv' := [(5, .int (x5 + (1 : Int32))), (4, .int v4), (0, .ref (G.1 19)), (1, .int x1), (3, .int x3)]) rfl rfl (by decide) rfl ?_
    refine z_goto C 6 dX0_madeOften_38 (by decide) ?_
    refine z_lv C [2, 3, 4, 1, 0] (lv' := [(0, .ref (G.1 19)), (1, .int x1), (3, .int x3), (4, .int v4), (5, .int (x5 + (1 : Int32)))]) rfl ?_
    exact hih6 (v4, (x5 + (1 : Int32))) hf
noncomputable def f_X0_madeOften (μ : Mem) (x1 : Int32) (x2 : Int32) (x3 : Int32) : Option Int32 :=
 lp (fun ih σ => b_X0_madeOften_6 μ x1 x3 ih σ.1 σ.2) fu (x2, (0 : Int32))
set_option maxHeartbeats 4000000 in
theorem c_X0_madeOften {l : Launch} {G : GW} {μ : Mem} {x1 : Int32} {x2 : Int32} {x3 : Int32} {r : Int32} (hf : f_X0_madeOften μ x1 x2 x3 = some r) : MZ l (YR G) yX0_madeOften cX0_madeOften 6 (some .int) { frames := 1, cells := 0, slots := 0, locals := 24 } [.ref (G.1 19), .int x1, .int x2, .int x3] μ μ (some (.int r)) := by
  refine z_met RX0 rfl (by decide) (Nat.le_of_ble_eq_true rfl) (fun X hX C hR => ?_)
  show Z X (YR G) 6 μ 0 [(0, .ref (G.1 19)), (1, .int x1), (2, .int x2), (3, .int x3)] []
  unfold f_X0_madeOften at hf
  refine z_iload_n C 2 dX0_madeOften_0 rfl ?_
  refine z_istore C dX0_madeOften_1 (i := 4) (lv' := [(4, .int x2), (0, .ref (G.1 19)), (1, .int x1), (2, .int x2), (3, .int x3)]) (by decide) rfl ?_
  refine z_iconst C dX0_madeOften_3 (v := (0 : Int32)) (by decide) ?_
  refine z_istore C dX0_madeOften_4 (i := 5) (lv' := [(5, .int (0 : Int32)), (4, .int x2), (0, .ref (G.1 19)), (1, .int x1), (2, .int x2), (3, .int x3)]) (by decide) rfl ?_
  refine z_lv C [2, 3, 5, 1, 0] (lv' := [(0, .ref (G.1 19)), (1, .int x1), (3, .int x3), (4, .int x2), (5, .int (0 : Int32))]) rfl ?_
  exact zl_X0_madeOften_6 μ x1 x3 C hR fu (x2, (0 : Int32)) hf
noncomputable def g_X0_outcome_61 (μ : Mem) (x3 : Int32) (x4 : Int32) (x5 : Int32) (x6 : Int32) (ih11 : Int32 × Int32 × Int32 × Int32 → Option Int32) : Option Int32 :=
 ih11 (x3, x4, x5, (x6 + (1 : Int32)))
set_option maxHeartbeats 4000000 in
theorem zj_X0_outcome_61 {X : ZX} {G : GW} {r : Int32} (μ : Mem) (x3 : Int32) (x4 : Int32) (x5 : Int32) (x6 : Int32) (C : CX X (YR G) cX0_outcome 7 RX0 { frames := 2, cells := 0, slots := 0, locals := 49 }) (hR : ZR X (YR G) (some .int) μ (some (.int r))) (ih11 : Int32 × Int32 × Int32 × Int32 → Option Int32) (hih11 : ∀ σ, ih11 σ = some r → Z X (YR G) 7 μ 11 [(0, .ref (G.1 19)), (3, .int σ.1), (4, .int σ.2.1), (5, .int σ.2.2.1), (6, .int σ.2.2.2)] []) (hf : g_X0_outcome_61 μ x3 x4 x5 x6 ih11 = some r) : Z X (YR G) 7 μ 61 [(0, .ref (G.1 19)), (3, .int x3), (4, .int x4), (5, .int x5), (6, .int x6)] [] := by
  unfold g_X0_outcome_61 at hf
  refine z_iinc C 4 dX0_outcome_61 (v := (x6 + (1 : Int32))) (lv' := [(6, .int (x6 + (1 : Int32))), (0, .ref (G.1 19)), (3, .int x3), (4, .int x4), (5, .int x5)]) rfl rfl (by decide) rfl ?_
  refine z_goto C 11 dX0_outcome_64 (by decide) ?_
  refine z_lv C [1, 2, 3, 4, 0] (lv' := [(0, .ref (G.1 19)), (3, .int x3), (4, .int x4), (5, .int x5), (6, .int (x6 + (1 : Int32)))]) rfl ?_
  exact hih11 (x3, x4, x5, (x6 + (1 : Int32))) hf
noncomputable def b_X0_outcome_11 (μ : Mem) (ih11 : Int32 × Int32 × Int32 × Int32 → Option Int32) (x3 : Int32) (x4 : Int32) (x5 : Int32) (x6 : Int32) : Option Int32 :=
 (if (μ 19 2) ≤ x6 then
 (some x3)
 else
 (nm (f_X0_leftOf μ x5) fun v3 : Int32 =>
 (ck (vp_in v3 6) <|
 (if (μ 20 (v3).toNatClampNeg) = (3 : Int32) then
 (nm ((x4 * (2 : Int32))) fun v8 : Int32 =>
 g_X0_outcome_61 μ x3 v8 v3 x6 ih11)
 else
 (bd (f_X0_madeOften μ v3 x3 x4) fun v7 =>
 g_X0_outcome_61 μ v7 (1 : Int32) v3 x6 ih11)))))
set_option maxHeartbeats 4000000 in
theorem zl_X0_outcome_11 {X : ZX} {G : GW} {r : Int32} (μ : Mem) (C : CX X (YR G) cX0_outcome 7 RX0 { frames := 2, cells := 0, slots := 0, locals := 49 }) (hR : ZR X (YR G) (some .int) μ (some (.int r))) : ∀ (n : Nat) (σ : Int32 × Int32 × Int32 × Int32), lp (fun ih σ => b_X0_outcome_11 μ ih σ.1 σ.2.1 σ.2.2.1 σ.2.2.2) n σ = some r → Z X (YR G) 7 μ 11 [(0, .ref (G.1 19)), (3, .int σ.1), (4, .int σ.2.1), (5, .int σ.2.2.1), (6, .int σ.2.2.2)] [] := by
  refine lp_z (P := fun σ : Int32 × Int32 × Int32 × Int32 => Z X (YR G) 7 μ 11 [(0, .ref (G.1 19)), (3, .int σ.1), (4, .int σ.2.1), (5, .int σ.2.2.1), (6, .int σ.2.2.2)] []) (fun ih11 hih11 σ hf => ?_)
  obtain ⟨x3, x4, x5, x6⟩ := σ
  have hf : b_X0_outcome_11 μ ih11 x3 x4 x5 x6 = some r := hf
  show Z X (YR G) 7 μ 11 [(0, .ref (G.1 19)), (3, .int x3), (4, .int x4), (5, .int x5), (6, .int x6)] []
  unfold b_X0_outcome_11 at hf
  refine z_iload C 4 dX0_outcome_11 rfl ?_
  refine z_aload_n C 0 dX0_outcome_13 rfl ?_
  refine zg_X0_24_19 C dX0_outcome_14 ?_
  refine z_icmp_ge C 67 dX0_outcome_17 (by decide) (fun c1 => ?_) (fun c1 => ?_)
  · replace hf := it_t hf c1
    refine z_iload_n C 1 dX0_outcome_67 rfl ?_
    exact z_iret C hR dX0_outcome_68 rfl (rt1 hf)
  · replace hf := it_f hf c1
    refine z_aload_n C 0 dX0_outcome_20 rfl ?_
    refine z_iload C 3 dX0_outcome_21 rfl ?_
    obtain ⟨v3, h2⟩ : ∃ z, z = f_X0_leftOf μ x5 := ⟨_, rfl⟩
    replace hf := nm_e2 hf v3 h2
    refine z_callVi C (As := [.int x5]) (rest := []) (c_X0_leftOf h2.symm) vw_X0_40 ⟨rfl, rfl, by decide, by decide⟩ (z_rv C (q0 := 19) (ci := 0) rfl rfl rfl) rfl (Nat.le_of_ble_eq_true rfl) dX0_outcome_23 ?_
    refine z_istore C dX0_outcome_26 (i := 5) (lv' := [(5, .int v3), (0, .ref (G.1 19)), (3, .int x3), (4, .int x4), (6, .int x6)]) (by decide) rfl ?_
    refine z_aload_n C 1 dX0_outcome_28 rfl ?_
    refine zg_X0_9_19 C dX0_outcome_29 ?_
    refine z_iload C 0 dX0_outcome_32 rfl ?_
    obtain ⟨h4, hf⟩ := ck_e hf
    refine zRl_20 C dX0_outcome_34 h4 ?_
    refine z_iconst C dX0_outcome_35 (v := (3 : Int32)) (by decide) ?_
    refine z_icmp_ne C 48 dX0_outcome_36 (by decide) (fun c5 => ?_) (fun c5 => ?_)
    · replace hf := it_f hf c5
      refine z_aload_n C 1 dX0_outcome_48 rfl ?_
      refine z_iload C 0 dX0_outcome_49 rfl ?_
      refine z_iload_n C 2 dX0_outcome_51 rfl ?_
      refine z_iload C 3 dX0_outcome_52 rfl ?_
      obtain ⟨v7, h6, hf⟩ := bd_e hf
      refine z_callVi C (As := [.int v3, .int x3, .int x4]) (rest := []) (c_X0_madeOften h6) vw_X0_44 ⟨rfl, rfl, by decide, by decide⟩ (z_rv C (q0 := 19) (ci := 0) rfl rfl rfl) rfl (Nat.le_of_ble_eq_true rfl) dX0_outcome_54 ?_
      refine z_istore_n C dX0_outcome_57 (i := 3) (lv' := [(3, .int v7), (5, .int v3), (0, .ref (G.1 19)), (4, .int x4), (6, .int x6)]) rfl (by decide) rfl ?_
      refine z_iconst C dX0_outcome_58 (v := (1 : Int32)) (by decide) ?_
      refine z_istore C dX0_outcome_59 (i := 4) (lv' := [(4, .int (1 : Int32)), (3, .int v7), (5, .int v3), (0, .ref (G.1 19)), (6, .int x6)]) (by decide) rfl ?_
      refine z_lv C [3, 1, 0, 2, 4] (lv' := [(0, .ref (G.1 19)), (3, .int v7), (4, .int (1 : Int32)), (5, .int v3), (6, .int x6)]) rfl ?_
      exact zj_X0_outcome_61 μ v7 (1 : Int32) v3 x6 C hR ih11 hih11 hf
    · replace hf := it_t hf c5
      refine z_iload C 3 dX0_outcome_39 rfl ?_
      refine z_iconst C dX0_outcome_41 (v := (2 : Int32)) (by decide) ?_
      refine z_imul C dX0_outcome_42 ?_
      refine z_topi (fun v8 ev8 => ?_)
      replace hf := nm_e2 hf v8 ev8
      refine z_istore C dX0_outcome_43 (i := 4) (lv' := [(4, .int v8), (5, .int v3), (0, .ref (G.1 19)), (3, .int x3), (6, .int x6)]) (by decide) rfl ?_
      refine z_goto C 61 dX0_outcome_45 (by decide) ?_
      refine z_lv C [2, 3, 0, 1, 4] (lv' := [(0, .ref (G.1 19)), (3, .int x3), (4, .int v8), (5, .int v3), (6, .int x6)]) rfl ?_
      exact zj_X0_outcome_61 μ x3 v8 v3 x6 C hR ih11 hih11 hf
noncomputable def f_X0_outcome (μ : Mem) (x1 : Int32) (x2 : Int32) : Option Int32 :=
 lp (fun ih σ => b_X0_outcome_11 μ ih σ.1 σ.2.1 σ.2.2.1 σ.2.2.2) fu (x2, (1 : Int32), x1, (0 : Int32))
set_option maxHeartbeats 4000000 in
theorem c_X0_outcome {l : Launch} {G : GW} {μ : Mem} {x1 : Int32} {x2 : Int32} {r : Int32} (hf : f_X0_outcome μ x1 x2 = some r) : MZ l (YR G) yX0_outcome cX0_outcome 7 (some .int) { frames := 2, cells := 0, slots := 0, locals := 49 } [.ref (G.1 19), .int x1, .int x2] μ μ (some (.int r)) := by
  refine z_met RX0 rfl (by decide) (Nat.le_of_ble_eq_true rfl) (fun X hX C hR => ?_)
  show Z X (YR G) 7 μ 0 [(0, .ref (G.1 19)), (1, .int x1), (2, .int x2)] []
  unfold f_X0_outcome at hf
  refine z_iload_n C 2 dX0_outcome_0 rfl ?_
  refine z_istore_n C dX0_outcome_1 (i := 3) (lv' := [(3, .int x2), (0, .ref (G.1 19)), (1, .int x1), (2, .int x2)]) rfl (by decide) rfl ?_
  refine z_iconst C dX0_outcome_2 (v := (1 : Int32)) (by decide) ?_
  refine z_istore C dX0_outcome_3 (i := 4) (lv' := [(4, .int (1 : Int32)), (3, .int x2), (0, .ref (G.1 19)), (1, .int x1), (2, .int x2)]) (by decide) rfl ?_
  refine z_iload_n C 3 dX0_outcome_5 rfl ?_
  refine z_istore C dX0_outcome_6 (i := 5) (lv' := [(5, .int x1), (4, .int (1 : Int32)), (3, .int x2), (0, .ref (G.1 19)), (1, .int x1), (2, .int x2)]) (by decide) rfl ?_
  refine z_iconst C dX0_outcome_8 (v := (0 : Int32)) (by decide) ?_
  refine z_istore C dX0_outcome_9 (i := 6) (lv' := [(6, .int (0 : Int32)), (5, .int x1), (4, .int (1 : Int32)), (3, .int x2), (0, .ref (G.1 19)), (1, .int x1), (2, .int x2)]) (by decide) rfl ?_
  refine z_lv C [4, 3, 2, 1, 0] (lv' := [(0, .ref (G.1 19)), (3, .int x2), (4, .int (1 : Int32)), (5, .int x1), (6, .int (0 : Int32))]) rfl ?_
  exact zl_X0_outcome_11 μ C hR fu (x2, (1 : Int32), x1, (0 : Int32)) hf
