noncomputable def f_J6_bitCount_0f7a4 (μ : Mem) (x0 : Int32) : Int32 :=
 (nm ((x0 - ((((x0).toUInt32 >>> (((1 : Int32)).toUInt32 &&& Int32.toUInt32 31)).toInt32) &&& (1431655765 : Int32)))) fun v1 : Int32 =>
 (nm (((v1 &&& (858993459 : Int32)) + ((((v1).toUInt32 >>> (((2 : Int32)).toUInt32 &&& Int32.toUInt32 31)).toInt32) &&& (858993459 : Int32)))) fun v2 : Int32 =>
 (nm (((v2 + (((v2).toUInt32 >>> (((4 : Int32)).toUInt32 &&& Int32.toUInt32 31)).toInt32)) &&& (252645135 : Int32))) fun v3 : Int32 =>
 (nm ((v3 + (((v3).toUInt32 >>> (((8 : Int32)).toUInt32 &&& Int32.toUInt32 31)).toInt32))) fun v4 : Int32 =>
 (nm ((v4 + (((v4).toUInt32 >>> (((16 : Int32)).toUInt32 &&& Int32.toUInt32 31)).toInt32))) fun v5 : Int32 =>
 (v5 &&& (63 : Int32)))))))
set_option maxHeartbeats 4000000 in
theorem c_J6_bitCount_0f7a4 {l : Launch} {G : GW} {μ : Mem} {x0 : Int32} {r : Int32} (hf : f_J6_bitCount_0f7a4 μ x0 = r) : MZ l (YR G) yJ6_bitCount_0f7a4 cJ6_bitCount_0f7a4 1 (some .int) { frames := 0, cells := 0, slots := 0, locals := 0 } [.int x0] μ μ (some (.int r)) := by
  refine z_met RJ6 rfl (by decide) (Nat.le_of_ble_eq_true rfl) (fun X hX C hR => ?_)
  show Z X (YR G) 1 μ 0 [(0, .int x0)] []
  unfold f_J6_bitCount_0f7a4 at hf
  refine z_iload_n C 0 dJ6_bitCount_0f7a4_0 rfl ?_
  refine z_iload_n C 0 dJ6_bitCount_0f7a4_1 rfl ?_
  refine z_iconst C dJ6_bitCount_0f7a4_2 (v := (1 : Int32)) (by decide) ?_
  refine z_iushr C dJ6_bitCount_0f7a4_3 ?_
  refine z_ldcw C dJ6_bitCount_0f7a4_4 (v := (1431655765 : Int32)) (ww_in 462 (by decide +kernel) (by decide +kernel)) ?_
  refine z_iand C dJ6_bitCount_0f7a4_7 ?_
  refine z_isub C dJ6_bitCount_0f7a4_8 ?_
  refine z_topi (fun v1 ev1 => ?_)
  replace hf := nm_e2 hf v1 ev1
  refine z_istore_n C dJ6_bitCount_0f7a4_9 (i := 0) (lv' := [(0, .int v1)]) rfl (by decide) rfl ?_
  refine z_iload_n C 0 dJ6_bitCount_0f7a4_10 rfl ?_
  refine z_ldcw C dJ6_bitCount_0f7a4_11 (v := (858993459 : Int32)) (ww_in 463 (by decide +kernel) (by decide +kernel)) ?_
  refine z_iand C dJ6_bitCount_0f7a4_14 ?_
  refine z_iload_n C 0 dJ6_bitCount_0f7a4_15 rfl ?_
  refine z_iconst C dJ6_bitCount_0f7a4_16 (v := (2 : Int32)) (by decide) ?_
  refine z_iushr C dJ6_bitCount_0f7a4_17 ?_
  refine z_ldcw C dJ6_bitCount_0f7a4_18 (v := (858993459 : Int32)) (ww_in 463 (by decide +kernel) (by decide +kernel)) ?_
  refine z_iand C dJ6_bitCount_0f7a4_21 ?_
  refine z_iadd C dJ6_bitCount_0f7a4_22 ?_
  refine z_topi (fun v2 ev2 => ?_)
  replace hf := nm_e2 hf v2 ev2
  refine z_istore_n C dJ6_bitCount_0f7a4_23 (i := 0) (lv' := [(0, .int v2)]) rfl (by decide) rfl ?_
  refine z_iload_n C 0 dJ6_bitCount_0f7a4_24 rfl ?_
  refine z_iload_n C 0 dJ6_bitCount_0f7a4_25 rfl ?_
  refine z_iconst C dJ6_bitCount_0f7a4_26 (v := (4 : Int32)) (by decide) ?_
  refine z_iushr C dJ6_bitCount_0f7a4_27 ?_
  refine z_iadd C dJ6_bitCount_0f7a4_28 ?_
  refine z_ldcw C dJ6_bitCount_0f7a4_29 (v := (252645135 : Int32)) (ww_in 464 (by decide +kernel) (by decide +kernel)) ?_
  refine z_iand C dJ6_bitCount_0f7a4_32 ?_
  refine z_topi (fun v3 ev3 => ?_)
  replace hf := nm_e2 hf v3 ev3
  refine z_istore_n C dJ6_bitCount_0f7a4_33 (i := 0) (lv' := [(0, .int v3)]) rfl (by decide) rfl ?_
  refine z_iload_n C 0 dJ6_bitCount_0f7a4_34 rfl ?_
  refine z_iload_n C 0 dJ6_bitCount_0f7a4_35 rfl ?_
  refine z_bipush C dJ6_bitCount_0f7a4_36 (v := (8 : Int32)) (by decide) ?_
  refine z_iushr C dJ6_bitCount_0f7a4_38 ?_
  refine z_iadd C dJ6_bitCount_0f7a4_39 ?_
  refine z_topi (fun v4 ev4 => ?_)
  replace hf := nm_e2 hf v4 ev4
  refine z_istore_n C dJ6_bitCount_0f7a4_40 (i := 0) (lv' := [(0, .int v4)]) rfl (by decide) rfl ?_
  refine z_iload_n C 0 dJ6_bitCount_0f7a4_41 rfl ?_
  refine z_iload_n C 0 dJ6_bitCount_0f7a4_42 rfl ?_
  refine z_bipush C dJ6_bitCount_0f7a4_43 (v := (16 : Int32)) (by decide) ?_
  refine z_iushr C dJ6_bitCount_0f7a4_45 ?_
  refine z_iadd C dJ6_bitCount_0f7a4_46 ?_
  refine z_topi (fun v5 ev5 => ?_)
  replace hf := nm_e2 hf v5 ev5
  refine z_istore_n C dJ6_bitCount_0f7a4_47 (i := 0) (lv' := [(0, .int v5)]) rfl (by decide) rfl ?_
  refine z_iload_n C 0 dJ6_bitCount_0f7a4_48 rfl ?_
  refine z_bipush C dJ6_bitCount_0f7a4_49 (v := (63 : Int32)) (by decide) ?_
  refine z_iand C dJ6_bitCount_0f7a4_51 ?_
  exact z_iret C hR dJ6_bitCount_0f7a4_52 rfl hf
noncomputable def f_J13_bitCount_95d88 (μ : Mem) (x0 : Int64) : Int32 :=
 (nm ((x0 - ((((x0).toUInt64 >>> (((1 : Int32)).toInt64.toUInt64 &&& Int64.toUInt64 63)).toInt64) &&& (6148914691236517205 : Int64)))) fun v1 : Int64 =>
 (nm (((v1 &&& (3689348814741910323 : Int64)) + ((((v1).toUInt64 >>> (((2 : Int32)).toInt64.toUInt64 &&& Int64.toUInt64 63)).toInt64) &&& (3689348814741910323 : Int64)))) fun v2 : Int64 =>
 (nm (((v2 + (((v2).toUInt64 >>> (((4 : Int32)).toInt64.toUInt64 &&& Int64.toUInt64 63)).toInt64)) &&& (1085102592571150095 : Int64))) fun v3 : Int64 =>
 (nm ((v3 + (((v3).toUInt64 >>> (((8 : Int32)).toInt64.toUInt64 &&& Int64.toUInt64 63)).toInt64))) fun v4 : Int64 =>
 (nm ((v4 + (((v4).toUInt64 >>> (((16 : Int32)).toInt64.toUInt64 &&& Int64.toUInt64 63)).toInt64))) fun v5 : Int64 =>
 (nm ((v5 + (((v5).toUInt64 >>> (((32 : Int32)).toInt64.toUInt64 &&& Int64.toUInt64 63)).toInt64))) fun v6 : Int64 =>
 ((v6).toInt32 &&& (127 : Int32))))))))
set_option maxHeartbeats 4000000 in
theorem c_J13_bitCount_95d88 {l : Launch} {G : GW} {μ : Mem} {x0 : Int64} {r : Int32} (hf : f_J13_bitCount_95d88 μ x0 = r) : MZ l (YR G) yJ13_bitCount_95d88 cJ13_bitCount_95d88 2 (some .int) { frames := 0, cells := 0, slots := 0, locals := 0 } [.long x0] μ μ (some (.int r)) := by
  refine z_met RJ13 rfl (by decide) (Nat.le_of_ble_eq_true rfl) (fun X hX C hR => ?_)
  show Z X (YR G) 2 μ 0 [(0, .long x0)] []
  unfold f_J13_bitCount_95d88 at hf
  refine z_lload_n C 0 dJ13_bitCount_95d88_0 rfl ?_
  refine z_lload_n C 0 dJ13_bitCount_95d88_1 rfl ?_
  refine z_iconst C dJ13_bitCount_95d88_2 (v := (1 : Int32)) (by decide) ?_
  refine z_lushr C dJ13_bitCount_95d88_3 ?_
  refine z_ldc2 C dJ13_bitCount_95d88_4 (v := (6148914691236517205 : Int64)) (ww_in 494 (by decide +kernel) (by decide +kernel)) ?_
  refine z_land C dJ13_bitCount_95d88_7 ?_
  refine z_lsub C dJ13_bitCount_95d88_8 ?_
  refine z_topl (fun v1 ev1 => ?_)
  replace hf := nm_e2 hf v1 ev1
  refine z_lstore_n C dJ13_bitCount_95d88_9 (i := 0) (lv' := [(0, .long v1)]) rfl (by decide) rfl ?_
  refine z_lload_n C 0 dJ13_bitCount_95d88_10 rfl ?_
  refine z_ldc2 C dJ13_bitCount_95d88_11 (v := (3689348814741910323 : Int64)) (ww_in 495 (by decide +kernel) (by decide +kernel)) ?_
  refine z_land C dJ13_bitCount_95d88_14 ?_
  refine z_lload_n C 0 dJ13_bitCount_95d88_15 rfl ?_
  refine z_iconst C dJ13_bitCount_95d88_16 (v := (2 : Int32)) (by decide) ?_
  refine z_lushr C dJ13_bitCount_95d88_17 ?_
  refine z_ldc2 C dJ13_bitCount_95d88_18 (v := (3689348814741910323 : Int64)) (ww_in 495 (by decide +kernel) (by decide +kernel)) ?_
  refine z_land C dJ13_bitCount_95d88_21 ?_
  refine z_ladd C dJ13_bitCount_95d88_22 ?_
  refine z_topl (fun v2 ev2 => ?_)
  replace hf := nm_e2 hf v2 ev2
  refine z_lstore_n C dJ13_bitCount_95d88_23 (i := 0) (lv' := [(0, .long v2)]) rfl (by decide) rfl ?_
  refine z_lload_n C 0 dJ13_bitCount_95d88_24 rfl ?_
  refine z_lload_n C 0 dJ13_bitCount_95d88_25 rfl ?_
  refine z_iconst C dJ13_bitCount_95d88_26 (v := (4 : Int32)) (by decide) ?_
  refine z_lushr C dJ13_bitCount_95d88_27 ?_
  refine z_ladd C dJ13_bitCount_95d88_28 ?_
  refine z_ldc2 C dJ13_bitCount_95d88_29 (v := (1085102592571150095 : Int64)) (ww_in 496 (by decide +kernel) (by decide +kernel)) ?_
  refine z_land C dJ13_bitCount_95d88_32 ?_
  refine z_topl (fun v3 ev3 => ?_)
  replace hf := nm_e2 hf v3 ev3
  refine z_lstore_n C dJ13_bitCount_95d88_33 (i := 0) (lv' := [(0, .long v3)]) rfl (by decide) rfl ?_
  refine z_lload_n C 0 dJ13_bitCount_95d88_34 rfl ?_
  refine z_lload_n C 0 dJ13_bitCount_95d88_35 rfl ?_
  refine z_bipush C dJ13_bitCount_95d88_36 (v := (8 : Int32)) (by decide) ?_
  refine z_lushr C dJ13_bitCount_95d88_38 ?_
  refine z_ladd C dJ13_bitCount_95d88_39 ?_
  refine z_topl (fun v4 ev4 => ?_)
  replace hf := nm_e2 hf v4 ev4
  refine z_lstore_n C dJ13_bitCount_95d88_40 (i := 0) (lv' := [(0, .long v4)]) rfl (by decide) rfl ?_
  refine z_lload_n C 0 dJ13_bitCount_95d88_41 rfl ?_
  refine z_lload_n C 0 dJ13_bitCount_95d88_42 rfl ?_
  refine z_bipush C dJ13_bitCount_95d88_43 (v := (16 : Int32)) (by decide) ?_
  refine z_lushr C dJ13_bitCount_95d88_45 ?_
  refine z_ladd C dJ13_bitCount_95d88_46 ?_
  refine z_topl (fun v5 ev5 => ?_)
  replace hf := nm_e2 hf v5 ev5
  refine z_lstore_n C dJ13_bitCount_95d88_47 (i := 0) (lv' := [(0, .long v5)]) rfl (by decide) rfl ?_
  refine z_lload_n C 0 dJ13_bitCount_95d88_48 rfl ?_
  refine z_lload_n C 0 dJ13_bitCount_95d88_49 rfl ?_
  refine z_bipush C dJ13_bitCount_95d88_50 (v := (32 : Int32)) (by decide) ?_
  refine z_lushr C dJ13_bitCount_95d88_52 ?_
  refine z_ladd C dJ13_bitCount_95d88_53 ?_
  refine z_topl (fun v6 ev6 => ?_)
  replace hf := nm_e2 hf v6 ev6
  refine z_lstore_n C dJ13_bitCount_95d88_54 (i := 0) (lv' := [(0, .long v6)]) rfl (by decide) rfl ?_
  refine z_lload_n C 0 dJ13_bitCount_95d88_55 rfl ?_
  refine z_l2i C dJ13_bitCount_95d88_56 ?_
  refine z_bipush C dJ13_bitCount_95d88_57 (v := (127 : Int32)) (by decide) ?_
  refine z_iand C dJ13_bitCount_95d88_59 ?_
  exact z_iret C hR dJ13_bitCount_95d88_60 rfl hf
