noncomputable def f_X1_append (μ : Mem) (x1 : Int32) : Option (Mem × Int32) :=
 (if (μ 1 1) < (22 : Int32) then
 (ck (vp_in (μ 1 1) 22) <|
 (nm (up μ 2 ((μ 1 1)).toNatClampNeg (vp_nar .char x1)) fun μ3 : Mem =>
 (nm (((μ3 1 1) + (1 : Int32))) fun v4 : Int32 =>
 (nm (up μ3 1 1 v4) fun μ5 : Mem =>
 (some (μ5, (μ5 1 1)))))))
 else
 (some (μ, (-104 : Int32))))
set_option maxHeartbeats 4000000 in
theorem c_X1_append {l : Launch} {G : GW} {μ : Mem} {x1 : Int32} {μ' : Mem} {r : Int32} (hf : f_X1_append μ x1 = some (μ', r)) : MZ l (YR G) yX1_append cX1_append 2 (some .int) { frames := 0, cells := 0, slots := 0, locals := 0 } [.ref (G.1 1), .int x1] μ μ' (some (.int r)) := by
  refine z_met RX1 rfl (by decide) (Nat.le_of_ble_eq_true rfl) (fun X hX C hR => ?_)
  show Z X (YR G) 2 μ 0 [(0, .ref (G.1 1)), (1, .int x1)] []
  unfold f_X1_append at hf
  refine z_aload_n C 0 dX1_append_0 rfl ?_
  refine zg_X1_15_1 C dX1_append_1 ?_
  refine z_bipush C dX1_append_4 (v := (22 : Int32)) (by decide) ?_
  refine z_icmp_lt C 12 dX1_append_6 (by decide) (fun c1 => ?_) (fun c1 => ?_)
  · replace hf := it_t hf c1
    refine z_aload_n C 0 dX1_append_12 rfl ?_
    refine zg_X1_9_1 C dX1_append_13 ?_
    refine z_aload_n C 0 dX1_append_16 rfl ?_
    refine zg_X1_15_1 C dX1_append_17 ?_
    refine z_iload_n C 1 dX1_append_20 rfl ?_
    obtain ⟨h2, hf⟩ := ck_e hf
    refine zRs_2 C dX1_append_21 h2 ?_
    refine z_mem (fun μ3 eμ3 => ?_)
    replace hf := nm_e2 hf μ3 eμ3
    refine z_aload_n C 0 dX1_append_22 rfl ?_
    refine z_dup C dX1_append_23 rfl ?_
    refine zg_X1_15_1 C dX1_append_24 ?_
    refine z_iconst C dX1_append_27 (v := (1 : Int32)) (by decide) ?_
    refine z_iadd C dX1_append_28 ?_
    refine z_topi (fun v4 ev4 => ?_)
    replace hf := nm_e2 hf v4 ev4
    refine zp_X1_15_1 C dX1_append_29 ?_
    refine z_mem (fun μ5 eμ5 => ?_)
    replace hf := nm_e2 hf μ5 eμ5
    refine z_aload_n C 0 dX1_append_32 rfl ?_
    refine zg_X1_15_1 C dX1_append_33 ?_
    exact z_iret C hR dX1_append_36 (rt2 hf).1 (rt2 hf).2
  · replace hf := it_f hf c1
    refine z_bipush C dX1_append_9 (v := (-104 : Int32)) (by decide) ?_
    exact z_iret C hR dX1_append_11 (rt2 hf).1 (rt2 hf).2
noncomputable def f_X1_clear (μ : Mem) : Option (Mem × Int32) :=
 (nm ((μ 1 1)) fun v1 : Int32 =>
 (nm (up μ 1 1 (0 : Int32)) fun μ2 : Mem =>
 (some (μ2, v1))))
set_option maxHeartbeats 4000000 in
theorem c_X1_clear {l : Launch} {G : GW} {μ : Mem} {μ' : Mem} {r : Int32} (hf : f_X1_clear μ = some (μ', r)) : MZ l (YR G) yX1_clear cX1_clear 2 (some .int) { frames := 0, cells := 0, slots := 0, locals := 0 } [.ref (G.1 1)] μ μ' (some (.int r)) := by
  refine z_met RX1 rfl (by decide) (Nat.le_of_ble_eq_true rfl) (fun X hX C hR => ?_)
  show Z X (YR G) 2 μ 0 [(0, .ref (G.1 1))] []
  unfold f_X1_clear at hf
  refine z_aload_n C 0 dX1_clear_0 rfl ?_
  refine zg_X1_15_1 C dX1_clear_1 ?_
  refine z_topi (fun v1 ev1 => ?_)
  replace hf := nm_e2 hf v1 ev1
  refine z_istore_n C dX1_clear_4 (i := 1) (lv' := [(1, .int v1), (0, .ref (G.1 1))]) rfl (by decide) rfl ?_
  refine z_aload_n C 1 dX1_clear_5 rfl ?_
  refine z_iconst C dX1_clear_6 (v := (0 : Int32)) (by decide) ?_
  refine zp_X1_15_1 C dX1_clear_7 ?_
  refine z_mem (fun μ2 eμ2 => ?_)
  replace hf := nm_e2 hf μ2 eμ2
  refine z_iload_n C 0 dX1_clear_10 rfl ?_
  exact z_iret C hR dX1_clear_11 (rt2 hf).1 (rt2 hf).2
noncomputable def f_X1_fitsBehind (μ : Mem) (x0 : Int32) (x1 : Int32) : Int32 :=
 (if x1 = (44 : Int32) then
 (if (6 : Int32) ≤ x0 then
 (0 : Int32)
 else
 (1 : Int32))
 else
 (if x1 = (59 : Int32) then
 (if x0 < (3 : Int32) then
 (0 : Int32)
 else
 (1 : Int32))
 else
 (0 : Int32)))
set_option maxHeartbeats 4000000 in
theorem c_X1_fitsBehind {l : Launch} {G : GW} {μ : Mem} {x0 : Int32} {x1 : Int32} {r : Int32} (hf : f_X1_fitsBehind μ x0 x1 = r) : MZ l (YR G) yX1_fitsBehind cX1_fitsBehind 2 (some .boolean) { frames := 0, cells := 0, slots := 0, locals := 0 } [.int x0, .int x1] μ μ (some (.int r)) := by
  refine z_met RX1 rfl (by decide) (Nat.le_of_ble_eq_true rfl) (fun X hX C hR => ?_)
  show Z X (YR G) 2 μ 0 [(0, .int x0), (1, .int x1)] []
  unfold f_X1_fitsBehind at hf
  refine z_iload_n C 1 dX1_fitsBehind_0 rfl ?_
  refine z_bipush C dX1_fitsBehind_1 (v := (44 : Int32)) (by decide) ?_
  refine z_icmp_ne C 18 dX1_fitsBehind_3 (by decide) (fun c1 => ?_) (fun c1 => ?_)
  · replace hf := it_f hf c1
    refine z_iload_n C 1 dX1_fitsBehind_18 rfl ?_
    refine z_bipush C dX1_fitsBehind_19 (v := (59 : Int32)) (by decide) ?_
    refine z_icmp_ne C 33 dX1_fitsBehind_21 (by decide) (fun c2 => ?_) (fun c2 => ?_)
    · replace hf := it_f hf c2
      refine z_iconst C dX1_fitsBehind_33 (v := (0 : Int32)) (by decide) ?_
      exact z_zret C hR dX1_fitsBehind_34 rfl rfl hf
    · replace hf := it_t hf c2
      refine z_iload_n C 0 dX1_fitsBehind_24 rfl ?_
      refine z_iconst C dX1_fitsBehind_25 (v := (3 : Int32)) (by decide) ?_
      refine z_icmp_lt C 33 dX1_fitsBehind_26 (by decide) (fun c3 => ?_) (fun c3 => ?_)
      · replace hf := it_t hf c3
        refine z_iconst C dX1_fitsBehind_33 (v := (0 : Int32)) (by decide) ?_
        exact z_zret C hR dX1_fitsBehind_34 rfl rfl hf
      · replace hf := it_f hf c3
        refine z_iconst C dX1_fitsBehind_29 (v := (1 : Int32)) (by decide) ?_
        refine z_goto C 34 dX1_fitsBehind_30 (by decide) ?_
        exact z_zret C hR dX1_fitsBehind_34 rfl rfl hf
  · replace hf := it_t hf c1
    refine z_iload_n C 0 dX1_fitsBehind_6 rfl ?_
    refine z_bipush C dX1_fitsBehind_7 (v := (6 : Int32)) (by decide) ?_
    refine z_icmp_ge C 16 dX1_fitsBehind_9 (by decide) (fun c4 => ?_) (fun c4 => ?_)
    · replace hf := it_t hf c4
      refine z_iconst C dX1_fitsBehind_16 (v := (0 : Int32)) (by decide) ?_
      exact z_zret C hR dX1_fitsBehind_17 rfl rfl hf
    · replace hf := it_f hf c4
      refine z_iconst C dX1_fitsBehind_12 (v := (1 : Int32)) (by decide) ?_
      refine z_goto C 17 dX1_fitsBehind_13 (by decide) ?_
      exact z_zret C hR dX1_fitsBehind_17 rfl rfl hf
theorem bz_X1_fitsBehind {μ : Mem} {x0 : Int32} {x1 : Int32} : narrow .boolean (.int (f_X1_fitsBehind μ x0 x1)) = .int (f_X1_fitsBehind μ x0 x1) := by
  simp only [f_X1_fitsBehind, nm]
  (repeat' split)
  all_goals first | rfl | exact bz_X4_in
noncomputable def f_X1_fits (μ : Mem) (x1 : Int32) (x2 : Int32) : Option Int32 :=
 (ck (vp_in x1 22) <|
 (nm ((μ 2 (x1).toNatClampNeg)) fun v2 : Int32 =>
 (if x2 = (-1 : Int32) then
 (if (x1 - x1 / (3 : Int32) * (3 : Int32)) = (0 : Int32) then
 (bd (f_J0_indexOf_0f7a4 μ v2) fun v6 =>
 (if v6 < 0 then
 (some (0 : Int32))
 else
 (some (1 : Int32))))
 else
 (if (x1 - x1 / (3 : Int32) * (3 : Int32)) = (1 : Int32) then
 (if v2 < (48 : Int32) then
 (some (0 : Int32))
 else
 (if (55 : Int32) < v2 then
 (some (0 : Int32))
 else
 (some (1 : Int32))))
 else
 (nm (f_X1_fitsBehind μ ((x1 + (1 : Int32)) / (3 : Int32)) v2) fun v12 : Int32 =>
 (some v12))))
 else
 (if x1 = (x2 + (1 : Int32)) then
 (if v2 = (48 : Int32) then
 (some (1 : Int32))
 else
 (if v2 = (49 : Int32) then
 (some (1 : Int32))
 else
 (some (0 : Int32))))
 else
 (some (0 : Int32))))))
set_option maxHeartbeats 4000000 in
theorem c_X1_fits {l : Launch} {G : GW} {μ : Mem} {x1 : Int32} {x2 : Int32} {r : Int32} (hf : f_X1_fits μ x1 x2 = some r) : MZ l (YR G) yX1_fits cX1_fits 4 (some .boolean) { frames := 4, cells := 0, slots := 0, locals := 91 } [.ref (G.1 1), .int x1, .int x2] μ μ (some (.int r)) := by
  refine z_met RX1 rfl (by decide) (Nat.le_of_ble_eq_true rfl) (fun X hX C hR => ?_)
  show Z X (YR G) 4 μ 0 [(0, .ref (G.1 1)), (1, .int x1), (2, .int x2)] []
  unfold f_X1_fits at hf
  refine z_aload_n C 0 dX1_fits_0 rfl ?_
  refine zg_X1_9_1 C dX1_fits_1 ?_
  refine z_iload_n C 1 dX1_fits_4 rfl ?_
  obtain ⟨h1, hf⟩ := ck_e hf
  refine zRl_2 C dX1_fits_5 h1 ?_
  refine z_topi (fun v2 ev2 => ?_)
  replace hf := nm_e2 hf v2 ev2
  refine z_istore_n C dX1_fits_6 (i := 3) (lv' := [(3, .int v2), (0, .ref (G.1 1)), (1, .int x1), (2, .int x2)]) rfl (by decide) rfl ?_
  refine z_iload_n C 3 dX1_fits_7 rfl ?_
  refine z_iconst C dX1_fits_8 (v := (-1 : Int32)) (by decide) ?_
  refine z_icmp_eq C 37 dX1_fits_9 (by decide) (fun c3 => ?_) (fun c3 => ?_)
  · replace hf := it_t hf c3
    refine z_iload_n C 2 dX1_fits_37 rfl ?_
    refine z_iconst C dX1_fits_38 (v := (3 : Int32)) (by decide) ?_
    refine z_irem C dX1_fits_39 (by decide) ?_
    rcases Decidable.em ((x1 - x1 / (3 : Int32) * (3 : Int32)) = (0 : Int32)) with c4 | c4
    · replace hf := it_t hf c4
      refine z_look C 68 dX1_fits_40 (off := 28) (by decide) (by rw [c4]; first | rfl | decide +kernel) (by decide) ?_
      refine z_ldcS C rfl dX1_fits_68 ?_
      refine z_iload_n C 0 dX1_fits_70 rfl ?_
      obtain ⟨v6, h5, hf⟩ := bd_e hf
      refine z_callVi C (As := [.int v2]) (rest := []) (c_J0_indexOf_0f7a4 h5) vw_X1_29 ⟨rfl, rfl, by decide, by decide⟩ (z_rs C rfl) rfl (Nat.le_of_ble_eq_true rfl) dX1_fits_71 ?_
      refine z_if_lt C 81 dX1_fits_74 (by decide) (fun c7 => ?_) (fun c7 => ?_)
      · replace hf := it_t hf c7
        refine z_iconst C dX1_fits_81 (v := (0 : Int32)) (by decide) ?_
        exact z_zret C hR dX1_fits_82 rfl rfl (rt1 hf)
      · replace hf := it_f hf c7
        refine z_iconst C dX1_fits_77 (v := (1 : Int32)) (by decide) ?_
        refine z_goto C 82 dX1_fits_78 (by decide) ?_
        exact z_zret C hR dX1_fits_82 rfl rfl (rt1 hf)
    · replace hf := it_f hf c4
      rcases Decidable.em ((x1 - x1 / (3 : Int32) * (3 : Int32)) = (1 : Int32)) with c8 | c8
      · replace hf := it_t hf c8
        refine z_look C 83 dX1_fits_40 (off := 43) (by decide) (by rw [c8]; first | rfl | decide +kernel) (by decide) ?_
        refine z_iload_n C 0 dX1_fits_83 rfl ?_
        refine z_bipush C dX1_fits_84 (v := (48 : Int32)) (by decide) ?_
        refine z_icmp_lt C 99 dX1_fits_86 (by decide) (fun c9 => ?_) (fun c9 => ?_)
        · replace hf := it_t hf c9
          refine z_iconst C dX1_fits_99 (v := (0 : Int32)) (by decide) ?_
          exact z_zret C hR dX1_fits_100 rfl rfl (rt1 hf)
        · replace hf := it_f hf c9
          refine z_iload_n C 0 dX1_fits_89 rfl ?_
          refine z_bipush C dX1_fits_90 (v := (55 : Int32)) (by decide) ?_
          refine z_icmp_gt C 99 dX1_fits_92 (by decide) (fun c10 => ?_) (fun c10 => ?_)
          · replace hf := it_t hf c10
            refine z_iconst C dX1_fits_99 (v := (0 : Int32)) (by decide) ?_
            exact z_zret C hR dX1_fits_100 rfl rfl (rt1 hf)
          · replace hf := it_f hf c10
            refine z_iconst C dX1_fits_95 (v := (1 : Int32)) (by decide) ?_
            refine z_goto C 100 dX1_fits_96 (by decide) ?_
            exact z_zret C hR dX1_fits_100 rfl rfl (rt1 hf)
      · replace hf := it_f hf c8
        refine z_look C 101 dX1_fits_40 (off := 61) (by decide) (by show Op.lookupswitch.offset [(0, 28), (1, 43)] 61 _ = _; rw [lv_osw c4 (by decide), lv_osw c8 (by decide)]; rfl) (by decide) ?_
        refine z_iload_n C 2 dX1_fits_101 rfl ?_
        refine z_iconst C dX1_fits_102 (v := (1 : Int32)) (by decide) ?_
        refine z_iadd C dX1_fits_103 ?_
        refine z_iconst C dX1_fits_104 (v := (3 : Int32)) (by decide) ?_
        refine z_idiv C dX1_fits_105 (by decide) ?_
        refine z_iload_n C 0 dX1_fits_106 rfl ?_
        obtain ⟨v12, h11⟩ : ∃ z, z = f_X1_fitsBehind μ ((x1 + (1 : Int32)) / (3 : Int32)) v2 := ⟨_, rfl⟩
        replace hf := nm_e2 hf v12 h11
        refine z_callSi C (As := [.int ((x1 + (1 : Int32)) / (3 : Int32)), .int v2]) (rest := []) (c_X1_fitsBehind h11.symm) sw_X1_35 ⟨rfl, rfl, by decide, by decide⟩ rfl (Nat.le_of_ble_eq_true rfl) dX1_fits_107 ?_
        exact z_zret C hR dX1_fits_110 (by rw [h11]; exact bz_X1_fitsBehind) rfl (rt1 hf)
  · replace hf := it_f hf c3
    refine z_iload_n C 2 dX1_fits_12 rfl ?_
    refine z_iload_n C 3 dX1_fits_13 rfl ?_
    refine z_iconst C dX1_fits_14 (v := (1 : Int32)) (by decide) ?_
    refine z_iadd C dX1_fits_15 ?_
    refine z_icmp_ne C 35 dX1_fits_16 (by decide) (fun c13 => ?_) (fun c13 => ?_)
    · replace hf := it_f hf c13
      refine z_iconst C dX1_fits_35 (v := (0 : Int32)) (by decide) ?_
      exact z_zret C hR dX1_fits_36 rfl rfl (rt1 hf)
    · replace hf := it_t hf c13
      refine z_iload_n C 0 dX1_fits_19 rfl ?_
      refine z_bipush C dX1_fits_20 (v := (48 : Int32)) (by decide) ?_
      refine z_icmp_eq C 31 dX1_fits_22 (by decide) (fun c14 => ?_) (fun c14 => ?_)
      · replace hf := it_t hf c14
        refine z_iconst C dX1_fits_31 (v := (1 : Int32)) (by decide) ?_
        refine z_goto C 36 dX1_fits_32 (by decide) ?_
        exact z_zret C hR dX1_fits_36 rfl rfl (rt1 hf)
      · replace hf := it_f hf c14
        refine z_iload_n C 0 dX1_fits_25 rfl ?_
        refine z_bipush C dX1_fits_26 (v := (49 : Int32)) (by decide) ?_
        refine z_icmp_ne C 35 dX1_fits_28 (by decide) (fun c15 => ?_) (fun c15 => ?_)
        · replace hf := it_f hf c15
          refine z_iconst C dX1_fits_35 (v := (0 : Int32)) (by decide) ?_
          exact z_zret C hR dX1_fits_36 rfl rfl (rt1 hf)
        · replace hf := it_t hf c15
          refine z_iconst C dX1_fits_31 (v := (1 : Int32)) (by decide) ?_
          refine z_goto C 36 dX1_fits_32 (by decide) ?_
          exact z_zret C hR dX1_fits_36 rfl rfl (rt1 hf)
noncomputable def g_X1_firstFault_42 (μ : Mem) : Option Int32 :=
 (some (μ 1 1))
set_option maxHeartbeats 4000000 in
theorem zj_X1_firstFault_42 {X : ZX} {G : GW} {r : Int32} (μ : Mem) (C : CX X (YR G) cX1_firstFault 3 RX1 { frames := 5, cells := 0, slots := 0, locals := 114 }) (hR : ZR X (YR G) (some .int) μ (some (.int r))) (hf : g_X1_firstFault_42 μ = some r) : Z X (YR G) 3 μ 42 [(0, .ref (G.1 1))] [] := by
  unfold g_X1_firstFault_42 at hf
  refine z_aload_n C 0 dX1_firstFault_42 rfl ?_
  refine zg_X1_15_1 C dX1_firstFault_43 ?_
  exact z_iret C hR dX1_firstFault_46 rfl (rt1 hf)
noncomputable def g_X1_firstFault_36 (μ : Mem) (x1 : Int32) (x2 : Int32) (ih4 : Int32 × Int32 → Option Int32) : Option Int32 :=
 ih4 (x1, (x2 + (1 : Int32)))
set_option maxHeartbeats 4000000 in
theorem zj_X1_firstFault_36 {X : ZX} {G : GW} {r : Int32} (μ : Mem) (x1 : Int32) (x2 : Int32) (C : CX X (YR G) cX1_firstFault 3 RX1 { frames := 5, cells := 0, slots := 0, locals := 114 }) (hR : ZR X (YR G) (some .int) μ (some (.int r))) (ih4 : Int32 × Int32 → Option Int32) (hih4 : ∀ σ, ih4 σ = some r → Z X (YR G) 3 μ 4 [(0, .ref (G.1 1)), (1, .int σ.1), (2, .int σ.2)] []) (hf : g_X1_firstFault_36 μ x1 x2 ih4 = some r) : Z X (YR G) 3 μ 36 [(0, .ref (G.1 1)), (1, .int x1), (2, .int x2)] [] := by
  unfold g_X1_firstFault_36 at hf
  refine z_iinc C 2 dX1_firstFault_36 (v := (x2 + (1 : Int32))) (lv' := [(2, .int (x2 + (1 : Int32))), (0, .ref (G.1 1)), (1, .int x1)]) rfl rfl (by decide) rfl ?_
  refine z_goto C 4 dX1_firstFault_39 (by decide) ?_
  refine z_lv C [1, 2, 0] (lv' := [(0, .ref (G.1 1)), (1, .int x1), (2, .int (x2 + (1 : Int32)))]) rfl ?_
  exact hih4 (x1, (x2 + (1 : Int32))) hf
noncomputable def b_X1_firstFault_4 (μ : Mem) (ih4 : Int32 × Int32 → Option Int32) (x1 : Int32) (x2 : Int32) : Option Int32 :=
 (if (μ 1 1) ≤ x2 then
 g_X1_firstFault_42 μ
 else
 (bd (f_X1_fits μ x2 x1) fun v3 =>
 (if v3 = 0 then
 (some x2)
 else
 (ck (vp_in x2 22) <|
 (if (μ 2 (x2).toNatClampNeg) = (59 : Int32) then
 g_X1_firstFault_36 μ x2 x2 ih4
 else
 g_X1_firstFault_36 μ x1 x2 ih4)))))
set_option maxHeartbeats 4000000 in
theorem zl_X1_firstFault_4 {X : ZX} {G : GW} {r : Int32} (μ : Mem) (C : CX X (YR G) cX1_firstFault 3 RX1 { frames := 5, cells := 0, slots := 0, locals := 114 }) (hR : ZR X (YR G) (some .int) μ (some (.int r))) : ∀ (n : Nat) (σ : Int32 × Int32), lp (fun ih σ => b_X1_firstFault_4 μ ih σ.1 σ.2) n σ = some r → Z X (YR G) 3 μ 4 [(0, .ref (G.1 1)), (1, .int σ.1), (2, .int σ.2)] [] := by
  refine lp_z (P := fun σ : Int32 × Int32 => Z X (YR G) 3 μ 4 [(0, .ref (G.1 1)), (1, .int σ.1), (2, .int σ.2)] []) (fun ih4 hih4 σ hf => ?_)
  obtain ⟨x1, x2⟩ := σ
  have hf : b_X1_firstFault_4 μ ih4 x1 x2 = some r := hf
  show Z X (YR G) 3 μ 4 [(0, .ref (G.1 1)), (1, .int x1), (2, .int x2)] []
  unfold b_X1_firstFault_4 at hf
  refine z_iload_n C 2 dX1_firstFault_4 rfl ?_
  refine z_aload_n C 0 dX1_firstFault_5 rfl ?_
  refine zg_X1_15_1 C dX1_firstFault_6 ?_
  refine z_icmp_ge C 42 dX1_firstFault_9 (by decide) (fun c1 => ?_) (fun c1 => ?_)
  · replace hf := it_t hf c1
    refine z_lv C [0] (lv' := [(0, .ref (G.1 1))]) rfl ?_
    exact zj_X1_firstFault_42 μ C hR hf
  · replace hf := it_f hf c1
    refine z_aload_n C 0 dX1_firstFault_12 rfl ?_
    refine z_iload_n C 2 dX1_firstFault_13 rfl ?_
    refine z_iload_n C 1 dX1_firstFault_14 rfl ?_
    obtain ⟨v3, h2, hf⟩ := bd_e hf
    refine z_callVi C (As := [.int x2, .int x1]) (rest := []) (c_X1_fits h2) vw_X1_19 ⟨rfl, rfl, by decide, by decide⟩ (z_rv C (q0 := 1) (ci := 1) rfl rfl rfl) rfl (Nat.le_of_ble_eq_true rfl) dX1_firstFault_15 ?_
    refine z_if_ne C 23 dX1_firstFault_18 (by decide) (fun c4 => ?_) (fun c4 => ?_)
    · replace hf := it_f hf c4
      refine z_aload_n C 0 dX1_firstFault_23 rfl ?_
      refine zg_X1_9_1 C dX1_firstFault_24 ?_
      refine z_iload_n C 2 dX1_firstFault_27 rfl ?_
      obtain ⟨h5, hf⟩ := ck_e hf
      refine zRl_2 C dX1_firstFault_28 h5 ?_
      refine z_bipush C dX1_firstFault_29 (v := (59 : Int32)) (by decide) ?_
      refine z_icmp_ne C 36 dX1_firstFault_31 (by decide) (fun c6 => ?_) (fun c6 => ?_)
      · replace hf := it_f hf c6
        exact zj_X1_firstFault_36 μ x1 x2 C hR ih4 hih4 hf
      · replace hf := it_t hf c6
        refine z_iload_n C 2 dX1_firstFault_34 rfl ?_
        refine z_istore_n C dX1_firstFault_35 (i := 1) (lv' := [(1, .int x2), (0, .ref (G.1 1)), (2, .int x2)]) rfl (by decide) rfl ?_
        refine z_lv C [1, 0, 2] (lv' := [(0, .ref (G.1 1)), (1, .int x2), (2, .int x2)]) rfl ?_
        exact zj_X1_firstFault_36 μ x2 x2 C hR ih4 hih4 hf
    · replace hf := it_t hf c4
      refine z_iload_n C 2 dX1_firstFault_21 rfl ?_
      exact z_iret C hR dX1_firstFault_22 rfl (rt1 hf)
noncomputable def f_X1_firstFault (μ : Mem) : Option Int32 :=
 lp (fun ih σ => b_X1_firstFault_4 μ ih σ.1 σ.2) fu ((-1 : Int32), (0 : Int32))
set_option maxHeartbeats 4000000 in
theorem c_X1_firstFault {l : Launch} {G : GW} {μ : Mem} {r : Int32} (hf : f_X1_firstFault μ = some r) : MZ l (YR G) yX1_firstFault cX1_firstFault 3 (some .int) { frames := 5, cells := 0, slots := 0, locals := 114 } [.ref (G.1 1)] μ μ (some (.int r)) := by
  refine z_met RX1 rfl (by decide) (Nat.le_of_ble_eq_true rfl) (fun X hX C hR => ?_)
  show Z X (YR G) 3 μ 0 [(0, .ref (G.1 1))] []
  unfold f_X1_firstFault at hf
  refine z_iconst C dX1_firstFault_0 (v := (-1 : Int32)) (by decide) ?_
  refine z_istore_n C dX1_firstFault_1 (i := 1) (lv' := [(1, .int (-1 : Int32)), (0, .ref (G.1 1))]) rfl (by decide) rfl ?_
  refine z_iconst C dX1_firstFault_2 (v := (0 : Int32)) (by decide) ?_
  refine z_istore_n C dX1_firstFault_3 (i := 2) (lv' := [(2, .int (0 : Int32)), (1, .int (-1 : Int32)), (0, .ref (G.1 1))]) rfl (by decide) rfl ?_
  refine z_lv C [2, 1, 0] (lv' := [(0, .ref (G.1 1)), (1, .int (-1 : Int32)), (2, .int (0 : Int32))]) rfl ?_
  exact zl_X1_firstFault_4 μ C hR fu ((-1 : Int32), (0 : Int32)) hf
noncomputable def f_X1_isWhole (μ : Mem) : Option Int32 :=
 (if (μ 1 1) < (2 : Int32) then
 (some (0 : Int32))
 else
 (ck (vp_in ((μ 1 1) - (2 : Int32)) 22) <|
 (if (μ 2 (((μ 1 1) - (2 : Int32))).toNatClampNeg) = (59 : Int32) then
 (bd (f_X1_firstFault μ) fun v5 =>
 (if v5 = (μ 1 1) then
 (some (1 : Int32))
 else
 (some (0 : Int32))))
 else
 (some (0 : Int32)))))
set_option maxHeartbeats 4000000 in
theorem c_X1_isWhole {l : Launch} {G : GW} {μ : Mem} {r : Int32} (hf : f_X1_isWhole μ = some r) : MZ l (YR G) yX1_isWhole cX1_isWhole 1 (some .boolean) { frames := 6, cells := 0, slots := 0, locals := 136 } [.ref (G.1 1)] μ μ (some (.int r)) := by
  refine z_met RX1 rfl (by decide) (Nat.le_of_ble_eq_true rfl) (fun X hX C hR => ?_)
  show Z X (YR G) 1 μ 0 [(0, .ref (G.1 1))] []
  unfold f_X1_isWhole at hf
  refine z_aload_n C 0 dX1_isWhole_0 rfl ?_
  refine zg_X1_15_1 C dX1_isWhole_1 ?_
  refine z_iconst C dX1_isWhole_4 (v := (2 : Int32)) (by decide) ?_
  refine z_icmp_lt C 39 dX1_isWhole_5 (by decide) (fun c1 => ?_) (fun c1 => ?_)
  · replace hf := it_t hf c1
    refine z_iconst C dX1_isWhole_39 (v := (0 : Int32)) (by decide) ?_
    exact z_zret C hR dX1_isWhole_40 rfl rfl (rt1 hf)
  · replace hf := it_f hf c1
    refine z_aload_n C 0 dX1_isWhole_8 rfl ?_
    refine zg_X1_9_1 C dX1_isWhole_9 ?_
    refine z_aload_n C 0 dX1_isWhole_12 rfl ?_
    refine zg_X1_15_1 C dX1_isWhole_13 ?_
    refine z_iconst C dX1_isWhole_16 (v := (2 : Int32)) (by decide) ?_
    refine z_isub C dX1_isWhole_17 ?_
    obtain ⟨h2, hf⟩ := ck_e hf
    refine zRl_2 C dX1_isWhole_18 h2 ?_
    refine z_bipush C dX1_isWhole_19 (v := (59 : Int32)) (by decide) ?_
    refine z_icmp_ne C 39 dX1_isWhole_21 (by decide) (fun c3 => ?_) (fun c3 => ?_)
    · replace hf := it_f hf c3
      refine z_iconst C dX1_isWhole_39 (v := (0 : Int32)) (by decide) ?_
      exact z_zret C hR dX1_isWhole_40 rfl rfl (rt1 hf)
    · replace hf := it_t hf c3
      refine z_aload_n C 0 dX1_isWhole_24 rfl ?_
      obtain ⟨v5, h4, hf⟩ := bd_e hf
      refine z_callVi C (As := []) (rest := []) (c_X1_firstFault h4) vw_X1_23 ⟨rfl, rfl, by decide, by decide⟩ (z_rv C (q0 := 1) (ci := 1) rfl rfl rfl) rfl (Nat.le_of_ble_eq_true rfl) dX1_isWhole_25 ?_
      refine z_aload_n C 0 dX1_isWhole_28 rfl ?_
      refine zg_X1_15_1 C dX1_isWhole_29 ?_
      refine z_icmp_ne C 39 dX1_isWhole_32 (by decide) (fun c6 => ?_) (fun c6 => ?_)
      · replace hf := it_f hf c6
        refine z_iconst C dX1_isWhole_39 (v := (0 : Int32)) (by decide) ?_
        exact z_zret C hR dX1_isWhole_40 rfl rfl (rt1 hf)
      · replace hf := it_t hf c6
        refine z_iconst C dX1_isWhole_35 (v := (1 : Int32)) (by decide) ?_
        refine z_goto C 40 dX1_isWhole_36 (by decide) ?_
        exact z_zret C hR dX1_isWhole_40 rfl rfl (rt1 hf)
noncomputable def f_X1_rooksTold (μ : Mem) : Int32 :=
 (((μ 1 1) - (1 : Int32)) / (3 : Int32))
set_option maxHeartbeats 4000000 in
theorem c_X1_rooksTold {l : Launch} {G : GW} {μ : Mem} {r : Int32} (hf : f_X1_rooksTold μ = r) : MZ l (YR G) yX1_rooksTold cX1_rooksTold 1 (some .int) { frames := 0, cells := 0, slots := 0, locals := 0 } [.ref (G.1 1)] μ μ (some (.int r)) := by
  refine z_met RX1 rfl (by decide) (Nat.le_of_ble_eq_true rfl) (fun X hX C hR => ?_)
  show Z X (YR G) 1 μ 0 [(0, .ref (G.1 1))] []
  unfold f_X1_rooksTold at hf
  refine z_aload_n C 0 dX1_rooksTold_0 rfl ?_
  refine zg_X1_15_1 C dX1_rooksTold_1 ?_
  refine z_iconst C dX1_rooksTold_4 (v := (1 : Int32)) (by decide) ?_
  refine z_isub C dX1_rooksTold_5 ?_
  refine z_iconst C dX1_rooksTold_6 (v := (3 : Int32)) (by decide) ?_
  refine z_idiv C dX1_rooksTold_7 (by decide) ?_
  exact z_iret C hR dX1_rooksTold_8 rfl hf
noncomputable def f_X1_kindTold (μ : Mem) (x1 : Int32) : Option Int32 :=
 (ck (vp_in ((3 : Int32) * x1) 22) <|
 (bd (f_J0_indexOf_0f7a4 μ (μ 2 (((3 : Int32) * x1)).toNatClampNeg)) fun v3 =>
 (some v3)))
set_option maxHeartbeats 4000000 in
theorem c_X1_kindTold {l : Launch} {G : GW} {μ : Mem} {x1 : Int32} {r : Int32} (hf : f_X1_kindTold μ x1 = some r) : MZ l (YR G) yX1_kindTold cX1_kindTold 2 (some .int) { frames := 4, cells := 0, slots := 0, locals := 91 } [.ref (G.1 1), .int x1] μ μ (some (.int r)) := by
  refine z_met RX1 rfl (by decide) (Nat.le_of_ble_eq_true rfl) (fun X hX C hR => ?_)
  show Z X (YR G) 2 μ 0 [(0, .ref (G.1 1)), (1, .int x1)] []
  unfold f_X1_kindTold at hf
  refine z_ldcS C rfl dX1_kindTold_0 ?_
  refine z_aload_n C 0 dX1_kindTold_2 rfl ?_
  refine zg_X1_9_1 C dX1_kindTold_3 ?_
  refine z_iconst C dX1_kindTold_6 (v := (3 : Int32)) (by decide) ?_
  refine z_iload_n C 1 dX1_kindTold_7 rfl ?_
  refine z_imul C dX1_kindTold_8 ?_
  obtain ⟨h1, hf⟩ := ck_e hf
  refine zRl_2 C dX1_kindTold_9 h1 ?_
  obtain ⟨v3, h2, hf⟩ := bd_e hf
  refine z_callVi C (As := [.int (μ 2 (((3 : Int32) * x1)).toNatClampNeg)]) (rest := []) (c_J0_indexOf_0f7a4 h2) vw_X1_29 ⟨rfl, rfl, by decide, by decide⟩ (z_rs C rfl) rfl (Nat.le_of_ble_eq_true rfl) dX1_kindTold_10 ?_
  exact z_iret C hR dX1_kindTold_13 rfl (rt1 hf)
noncomputable def f_X1_twigTold (μ : Mem) (x1 : Int32) : Option Int32 :=
 (ck (vp_in (((3 : Int32) * x1) + (1 : Int32)) 22) <|
 (some ((μ 2 ((((3 : Int32) * x1) + (1 : Int32))).toNatClampNeg) - (48 : Int32))))
set_option maxHeartbeats 4000000 in
theorem c_X1_twigTold {l : Launch} {G : GW} {μ : Mem} {x1 : Int32} {r : Int32} (hf : f_X1_twigTold μ x1 = some r) : MZ l (YR G) yX1_twigTold cX1_twigTold 2 (some .int) { frames := 0, cells := 0, slots := 0, locals := 0 } [.ref (G.1 1), .int x1] μ μ (some (.int r)) := by
  refine z_met RX1 rfl (by decide) (Nat.le_of_ble_eq_true rfl) (fun X hX C hR => ?_)
  show Z X (YR G) 2 μ 0 [(0, .ref (G.1 1)), (1, .int x1)] []
  unfold f_X1_twigTold at hf
  refine z_aload_n C 0 dX1_twigTold_0 rfl ?_
  refine zg_X1_9_1 C dX1_twigTold_1 ?_
  refine z_iconst C dX1_twigTold_4 (v := (3 : Int32)) (by decide) ?_
  refine z_iload_n C 1 dX1_twigTold_5 rfl ?_
  refine z_imul C dX1_twigTold_6 ?_
  refine z_iconst C dX1_twigTold_7 (v := (1 : Int32)) (by decide) ?_
  refine z_iadd C dX1_twigTold_8 ?_
  obtain ⟨h1, hf⟩ := ck_e hf
  refine zRl_2 C dX1_twigTold_9 h1 ?_
  refine z_bipush C dX1_twigTold_10 (v := (48 : Int32)) (by decide) ?_
  refine z_isub C dX1_twigTold_12 ?_
  exact z_iret C hR dX1_twigTold_13 rfl (rt1 hf)
noncomputable def f_X1_windTold (μ : Mem) : Option Int32 :=
 (ck (vp_in ((μ 1 1) - (1 : Int32)) 22) <|
 (some ((μ 2 (((μ 1 1) - (1 : Int32))).toNatClampNeg) - (48 : Int32))))
set_option maxHeartbeats 4000000 in
theorem c_X1_windTold {l : Launch} {G : GW} {μ : Mem} {r : Int32} (hf : f_X1_windTold μ = some r) : MZ l (YR G) yX1_windTold cX1_windTold 1 (some .int) { frames := 0, cells := 0, slots := 0, locals := 0 } [.ref (G.1 1)] μ μ (some (.int r)) := by
  refine z_met RX1 rfl (by decide) (Nat.le_of_ble_eq_true rfl) (fun X hX C hR => ?_)
  show Z X (YR G) 1 μ 0 [(0, .ref (G.1 1))] []
  unfold f_X1_windTold at hf
  refine z_aload_n C 0 dX1_windTold_0 rfl ?_
  refine zg_X1_9_1 C dX1_windTold_1 ?_
  refine z_aload_n C 0 dX1_windTold_4 rfl ?_
  refine zg_X1_15_1 C dX1_windTold_5 ?_
  refine z_iconst C dX1_windTold_8 (v := (1 : Int32)) (by decide) ?_
  refine z_isub C dX1_windTold_9 ?_
  obtain ⟨h1, hf⟩ := ck_e hf
  refine zRl_2 C dX1_windTold_10 h1 ?_
  refine z_bipush C dX1_windTold_11 (v := (48 : Int32)) (by decide) ?_
  refine z_isub C dX1_windTold_13 ?_
  exact z_iret C hR dX1_windTold_14 rfl (rt1 hf)
