noncomputable def g_J6_numberOfTrailingZeros_0f7a4_74 (μ : Mem) (x0 : Int32) (x1 : Int32) : Int32 :=
 (x1 + (((x0).toUInt32 >>> (((1 : Int32)).toUInt32 &&& Int32.toUInt32 31)).toInt32))
set_option maxHeartbeats 4000000 in
theorem zj_J6_numberOfTrailingZeros_0f7a4_74 {X : ZX} {G : GW} {r : Int32} (μ : Mem) (x0 : Int32) (x1 : Int32) (C : CX X (YR G) cJ6_numberOfTrailingZeros_0f7a4 2 RJ6 { frames := 0, cells := 0, slots := 0, locals := 0 }) (hR : ZR X (YR G) (some .int) μ (some (.int r))) (hf : g_J6_numberOfTrailingZeros_0f7a4_74 μ x0 x1 = r) : Z X (YR G) 2 μ 74 [(0, .int x0), (1, .int x1)] [] := by
  unfold g_J6_numberOfTrailingZeros_0f7a4_74 at hf
  refine z_iload_n C 1 dJ6_numberOfTrailingZeros_0f7a4_74 rfl ?_
  refine z_iload_n C 0 dJ6_numberOfTrailingZeros_0f7a4_75 rfl ?_
  refine z_iconst C dJ6_numberOfTrailingZeros_0f7a4_76 (v := (1 : Int32)) (by decide) ?_
  refine z_iushr C dJ6_numberOfTrailingZeros_0f7a4_77 ?_
  refine z_iadd C dJ6_numberOfTrailingZeros_0f7a4_78 ?_
  exact z_iret C hR dJ6_numberOfTrailingZeros_0f7a4_79 rfl hf
noncomputable def g_J6_numberOfTrailingZeros_0f7a4_62 (μ : Mem) (x0 : Int32) (x1 : Int32) : Int32 :=
 (if x0 ≤ (4 : Int32) then
 g_J6_numberOfTrailingZeros_0f7a4_74 μ x0 x1
 else
 (nm ((((x0).toUInt32 >>> (((2 : Int32)).toUInt32 &&& Int32.toUInt32 31)).toInt32)) fun v7 : Int32 =>
 g_J6_numberOfTrailingZeros_0f7a4_74 μ v7 ((x1 + (2 : Int32)))))
set_option maxHeartbeats 4000000 in
theorem zj_J6_numberOfTrailingZeros_0f7a4_62 {X : ZX} {G : GW} {r : Int32} (μ : Mem) (x0 : Int32) (x1 : Int32) (C : CX X (YR G) cJ6_numberOfTrailingZeros_0f7a4 2 RJ6 { frames := 0, cells := 0, slots := 0, locals := 0 }) (hR : ZR X (YR G) (some .int) μ (some (.int r))) (hf : g_J6_numberOfTrailingZeros_0f7a4_62 μ x0 x1 = r) : Z X (YR G) 2 μ 62 [(0, .int x0), (1, .int x1)] [] := by
  unfold g_J6_numberOfTrailingZeros_0f7a4_62 at hf
  refine z_iload_n C 0 dJ6_numberOfTrailingZeros_0f7a4_62 rfl ?_
  refine z_iconst C dJ6_numberOfTrailingZeros_0f7a4_63 (v := (4 : Int32)) (by decide) ?_
  refine z_icmp_le C 74 dJ6_numberOfTrailingZeros_0f7a4_64 (by decide) (fun c6 => ?_) (fun c6 => ?_)
  · replace hf := it_t hf c6
    exact zj_J6_numberOfTrailingZeros_0f7a4_74 μ x0 x1 C hR hf
  · replace hf := it_f hf c6
    refine z_iinc C 1 dJ6_numberOfTrailingZeros_0f7a4_67 (v := (x1 + (2 : Int32))) (lv' := [(1, .int (x1 + (2 : Int32))), (0, .int x0)]) rfl rfl (by decide) rfl ?_
    refine z_iload_n C 1 dJ6_numberOfTrailingZeros_0f7a4_70 rfl ?_
    refine z_iconst C dJ6_numberOfTrailingZeros_0f7a4_71 (v := (2 : Int32)) (by decide) ?_
    refine z_iushr C dJ6_numberOfTrailingZeros_0f7a4_72 ?_
    refine z_topi (fun v7 ev7 => ?_)
    replace hf := nm_e2 hf v7 ev7
    refine z_istore_n C dJ6_numberOfTrailingZeros_0f7a4_73 (i := 0) (lv' := [(0, .int v7), (1, .int (x1 + (2 : Int32)))]) rfl (by decide) rfl ?_
    exact zj_J6_numberOfTrailingZeros_0f7a4_74 μ v7 ((x1 + (2 : Int32))) C hR hf
noncomputable def g_J6_numberOfTrailingZeros_0f7a4_49 (μ : Mem) (x0 : Int32) (x1 : Int32) : Int32 :=
 (if x0 ≤ (16 : Int32) then
 g_J6_numberOfTrailingZeros_0f7a4_62 μ x0 x1
 else
 (nm ((((x0).toUInt32 >>> (((4 : Int32)).toUInt32 &&& Int32.toUInt32 31)).toInt32)) fun v8 : Int32 =>
 g_J6_numberOfTrailingZeros_0f7a4_62 μ v8 ((x1 + (4 : Int32)))))
set_option maxHeartbeats 4000000 in
theorem zj_J6_numberOfTrailingZeros_0f7a4_49 {X : ZX} {G : GW} {r : Int32} (μ : Mem) (x0 : Int32) (x1 : Int32) (C : CX X (YR G) cJ6_numberOfTrailingZeros_0f7a4 2 RJ6 { frames := 0, cells := 0, slots := 0, locals := 0 }) (hR : ZR X (YR G) (some .int) μ (some (.int r))) (hf : g_J6_numberOfTrailingZeros_0f7a4_49 μ x0 x1 = r) : Z X (YR G) 2 μ 49 [(0, .int x0), (1, .int x1)] [] := by
  unfold g_J6_numberOfTrailingZeros_0f7a4_49 at hf
  refine z_iload_n C 0 dJ6_numberOfTrailingZeros_0f7a4_49 rfl ?_
  refine z_bipush C dJ6_numberOfTrailingZeros_0f7a4_50 (v := (16 : Int32)) (by decide) ?_
  refine z_icmp_le C 62 dJ6_numberOfTrailingZeros_0f7a4_52 (by decide) (fun c5 => ?_) (fun c5 => ?_)
  · replace hf := it_t hf c5
    exact zj_J6_numberOfTrailingZeros_0f7a4_62 μ x0 x1 C hR hf
  · replace hf := it_f hf c5
    refine z_iinc C 1 dJ6_numberOfTrailingZeros_0f7a4_55 (v := (x1 + (4 : Int32))) (lv' := [(1, .int (x1 + (4 : Int32))), (0, .int x0)]) rfl rfl (by decide) rfl ?_
    refine z_iload_n C 1 dJ6_numberOfTrailingZeros_0f7a4_58 rfl ?_
    refine z_iconst C dJ6_numberOfTrailingZeros_0f7a4_59 (v := (4 : Int32)) (by decide) ?_
    refine z_iushr C dJ6_numberOfTrailingZeros_0f7a4_60 ?_
    refine z_topi (fun v8 ev8 => ?_)
    replace hf := nm_e2 hf v8 ev8
    refine z_istore_n C dJ6_numberOfTrailingZeros_0f7a4_61 (i := 0) (lv' := [(0, .int v8), (1, .int (x1 + (4 : Int32)))]) rfl (by decide) rfl ?_
    exact zj_J6_numberOfTrailingZeros_0f7a4_62 μ v8 ((x1 + (4 : Int32))) C hR hf
noncomputable def g_J6_numberOfTrailingZeros_0f7a4_34 (μ : Mem) (x0 : Int32) (x1 : Int32) : Int32 :=
 (if x0 ≤ (256 : Int32) then
 g_J6_numberOfTrailingZeros_0f7a4_49 μ x0 x1
 else
 (nm ((((x0).toUInt32 >>> (((8 : Int32)).toUInt32 &&& Int32.toUInt32 31)).toInt32)) fun v9 : Int32 =>
 g_J6_numberOfTrailingZeros_0f7a4_49 μ v9 ((x1 + (8 : Int32)))))
set_option maxHeartbeats 4000000 in
theorem zj_J6_numberOfTrailingZeros_0f7a4_34 {X : ZX} {G : GW} {r : Int32} (μ : Mem) (x0 : Int32) (x1 : Int32) (C : CX X (YR G) cJ6_numberOfTrailingZeros_0f7a4 2 RJ6 { frames := 0, cells := 0, slots := 0, locals := 0 }) (hR : ZR X (YR G) (some .int) μ (some (.int r))) (hf : g_J6_numberOfTrailingZeros_0f7a4_34 μ x0 x1 = r) : Z X (YR G) 2 μ 34 [(0, .int x0), (1, .int x1)] [] := by
  unfold g_J6_numberOfTrailingZeros_0f7a4_34 at hf
  refine z_iload_n C 0 dJ6_numberOfTrailingZeros_0f7a4_34 rfl ?_
  refine z_sipush C dJ6_numberOfTrailingZeros_0f7a4_35 (v := (256 : Int32)) (by decide) ?_
  refine z_icmp_le C 49 dJ6_numberOfTrailingZeros_0f7a4_38 (by decide) (fun c4 => ?_) (fun c4 => ?_)
  · replace hf := it_t hf c4
    exact zj_J6_numberOfTrailingZeros_0f7a4_49 μ x0 x1 C hR hf
  · replace hf := it_f hf c4
    refine z_iinc C 1 dJ6_numberOfTrailingZeros_0f7a4_41 (v := (x1 + (8 : Int32))) (lv' := [(1, .int (x1 + (8 : Int32))), (0, .int x0)]) rfl rfl (by decide) rfl ?_
    refine z_iload_n C 1 dJ6_numberOfTrailingZeros_0f7a4_44 rfl ?_
    refine z_bipush C dJ6_numberOfTrailingZeros_0f7a4_45 (v := (8 : Int32)) (by decide) ?_
    refine z_iushr C dJ6_numberOfTrailingZeros_0f7a4_47 ?_
    refine z_topi (fun v9 ev9 => ?_)
    replace hf := nm_e2 hf v9 ev9
    refine z_istore_n C dJ6_numberOfTrailingZeros_0f7a4_48 (i := 0) (lv' := [(0, .int v9), (1, .int (x1 + (8 : Int32)))]) rfl (by decide) rfl ?_
    exact zj_J6_numberOfTrailingZeros_0f7a4_49 μ v9 ((x1 + (8 : Int32))) C hR hf
noncomputable def f_J6_numberOfTrailingZeros_0f7a4 (μ : Mem) (x0 : Int32) : Int32 :=
 (nm (((x0 ^^^ (-1 : Int32)) &&& (x0 - (1 : Int32)))) fun v1 : Int32 =>
 (if 0 < v1 then
 (if v1 ≤ (65536 : Int32) then
 g_J6_numberOfTrailingZeros_0f7a4_34 μ v1 (1 : Int32)
 else
 (nm ((((v1).toUInt32 >>> (((16 : Int32)).toUInt32 &&& Int32.toUInt32 31)).toInt32)) fun v10 : Int32 =>
 g_J6_numberOfTrailingZeros_0f7a4_34 μ v10 (((1 : Int32) + (16 : Int32)))))
 else
 (v1 &&& (32 : Int32))))
set_option maxHeartbeats 4000000 in
theorem c_J6_numberOfTrailingZeros_0f7a4 {l : Launch} {G : GW} {μ : Mem} {x0 : Int32} {r : Int32} (hf : f_J6_numberOfTrailingZeros_0f7a4 μ x0 = r) : MZ l (YR G) yJ6_numberOfTrailingZeros_0f7a4 cJ6_numberOfTrailingZeros_0f7a4 2 (some .int) { frames := 0, cells := 0, slots := 0, locals := 0 } [.int x0] μ μ (some (.int r)) := by
  refine z_met RJ6 rfl (by decide) (Nat.le_of_ble_eq_true rfl) (fun X hX C hR => ?_)
  show Z X (YR G) 2 μ 0 [(0, .int x0)] []
  unfold f_J6_numberOfTrailingZeros_0f7a4 at hf
  refine z_iload_n C 0 dJ6_numberOfTrailingZeros_0f7a4_0 rfl ?_
  refine z_iconst C dJ6_numberOfTrailingZeros_0f7a4_1 (v := (-1 : Int32)) (by decide) ?_
  refine z_ixor C dJ6_numberOfTrailingZeros_0f7a4_2 ?_
  refine z_iload_n C 0 dJ6_numberOfTrailingZeros_0f7a4_3 rfl ?_
  refine z_iconst C dJ6_numberOfTrailingZeros_0f7a4_4 (v := (1 : Int32)) (by decide) ?_
  refine z_isub C dJ6_numberOfTrailingZeros_0f7a4_5 ?_
  refine z_iand C dJ6_numberOfTrailingZeros_0f7a4_6 ?_
  refine z_topi (fun v1 ev1 => ?_)
  replace hf := nm_e2 hf v1 ev1
  refine z_istore_n C dJ6_numberOfTrailingZeros_0f7a4_7 (i := 0) (lv' := [(0, .int v1)]) rfl (by decide) rfl ?_
  refine z_iload_n C 0 dJ6_numberOfTrailingZeros_0f7a4_8 rfl ?_
  refine z_if_gt C 17 dJ6_numberOfTrailingZeros_0f7a4_9 (by decide) (fun c2 => ?_) (fun c2 => ?_)
  · replace hf := it_t hf c2
    refine z_iconst C dJ6_numberOfTrailingZeros_0f7a4_17 (v := (1 : Int32)) (by decide) ?_
    refine z_istore_n C dJ6_numberOfTrailingZeros_0f7a4_18 (i := 1) (lv' := [(1, .int (1 : Int32)), (0, .int v1)]) rfl (by decide) rfl ?_
    refine z_iload_n C 1 dJ6_numberOfTrailingZeros_0f7a4_19 rfl ?_
    refine z_ldcw C dJ6_numberOfTrailingZeros_0f7a4_20 (v := (65536 : Int32)) (ww_in 506 (by decide +kernel) (by decide +kernel)) ?_
    refine z_icmp_le C 34 dJ6_numberOfTrailingZeros_0f7a4_23 (by decide) (fun c3 => ?_) (fun c3 => ?_)
    · replace hf := it_t hf c3
      refine z_lv C [1, 0] (lv' := [(0, .int v1), (1, .int (1 : Int32))]) rfl ?_
      exact zj_J6_numberOfTrailingZeros_0f7a4_34 μ v1 (1 : Int32) C hR hf
    · replace hf := it_f hf c3
      refine z_iinc C 0 dJ6_numberOfTrailingZeros_0f7a4_26 (v := ((1 : Int32) + (16 : Int32))) (lv' := [(1, .int ((1 : Int32) + (16 : Int32))), (0, .int v1)]) rfl rfl (by decide) rfl ?_
      refine z_iload_n C 1 dJ6_numberOfTrailingZeros_0f7a4_29 rfl ?_
      refine z_bipush C dJ6_numberOfTrailingZeros_0f7a4_30 (v := (16 : Int32)) (by decide) ?_
      refine z_iushr C dJ6_numberOfTrailingZeros_0f7a4_32 ?_
      refine z_topi (fun v10 ev10 => ?_)
      replace hf := nm_e2 hf v10 ev10
      refine z_istore_n C dJ6_numberOfTrailingZeros_0f7a4_33 (i := 0) (lv' := [(0, .int v10), (1, .int ((1 : Int32) + (16 : Int32)))]) rfl (by decide) rfl ?_
      exact zj_J6_numberOfTrailingZeros_0f7a4_34 μ v10 (((1 : Int32) + (16 : Int32))) C hR hf
  · replace hf := it_f hf c2
    refine z_iload_n C 0 dJ6_numberOfTrailingZeros_0f7a4_12 rfl ?_
    refine z_bipush C dJ6_numberOfTrailingZeros_0f7a4_13 (v := (32 : Int32)) (by decide) ?_
    refine z_iand C dJ6_numberOfTrailingZeros_0f7a4_15 ?_
    exact z_iret C hR dJ6_numberOfTrailingZeros_0f7a4_16 rfl hf
noncomputable def f_J13_numberOfTrailingZeros_95d88 (μ : Mem) (x0 : Int64) : Int32 :=
 (nm ((x0).toInt32) fun v1 : Int32 =>
 (if v1 = 0 then
 (nm (f_J6_numberOfTrailingZeros_0f7a4 μ ((((x0).toUInt64 >>> (((32 : Int32)).toInt64.toUInt64 &&& Int64.toUInt64 63)).toInt64)).toInt32) fun v6 : Int32 =>
 ((32 : Int32) + v6))
 else
 (nm (f_J6_numberOfTrailingZeros_0f7a4 μ v1) fun v4 : Int32 =>
 v4)))
set_option maxHeartbeats 4000000 in
theorem c_J13_numberOfTrailingZeros_95d88 {l : Launch} {G : GW} {μ : Mem} {x0 : Int64} {r : Int32} (hf : f_J13_numberOfTrailingZeros_95d88 μ x0 = r) : MZ l (YR G) yJ13_numberOfTrailingZeros_95d88 cJ13_numberOfTrailingZeros_95d88 3 (some .int) { frames := 1, cells := 0, slots := 0, locals := 21 } [.long x0] μ μ (some (.int r)) := by
  refine z_met RJ13 rfl (by decide) (Nat.le_of_ble_eq_true rfl) (fun X hX C hR => ?_)
  show Z X (YR G) 3 μ 0 [(0, .long x0)] []
  unfold f_J13_numberOfTrailingZeros_95d88 at hf
  refine z_lload_n C 0 dJ13_numberOfTrailingZeros_95d88_0 rfl ?_
  refine z_l2i C dJ13_numberOfTrailingZeros_95d88_1 ?_
  refine z_topi (fun v1 ev1 => ?_)
  replace hf := nm_e2 hf v1 ev1
  refine z_istore_n C dJ13_numberOfTrailingZeros_95d88_2 (i := 2) (lv' := [(2, .int v1), (0, .long x0)]) rfl (by decide) rfl ?_
  refine z_iload_n C 0 dJ13_numberOfTrailingZeros_95d88_3 rfl ?_
  refine z_if_ne C 21 dJ13_numberOfTrailingZeros_95d88_4 (by decide) (fun c2 => ?_) (fun c2 => ?_)
  · replace hf := it_f hf c2
    refine z_iload_n C 0 dJ13_numberOfTrailingZeros_95d88_21 rfl ?_
    obtain ⟨v4, h3⟩ : ∃ z, z = f_J6_numberOfTrailingZeros_0f7a4 μ v1 := ⟨_, rfl⟩
    replace hf := nm_e2 hf v4 h3
    refine z_callSi C (As := [.int v1]) (rest := []) (c_J6_numberOfTrailingZeros_0f7a4 h3.symm) sw_J13_311 ⟨rfl, rfl, by decide, by decide⟩ rfl (Nat.le_of_ble_eq_true rfl) dJ13_numberOfTrailingZeros_95d88_22 ?_
    exact z_iret C hR dJ13_numberOfTrailingZeros_95d88_25 rfl hf
  · replace hf := it_t hf c2
    refine z_bipush C dJ13_numberOfTrailingZeros_95d88_7 (v := (32 : Int32)) (by decide) ?_
    refine z_lload_n C 1 dJ13_numberOfTrailingZeros_95d88_9 rfl ?_
    refine z_bipush C dJ13_numberOfTrailingZeros_95d88_10 (v := (32 : Int32)) (by decide) ?_
    refine z_lushr C dJ13_numberOfTrailingZeros_95d88_12 ?_
    refine z_l2i C dJ13_numberOfTrailingZeros_95d88_13 ?_
    obtain ⟨v6, h5⟩ : ∃ z, z = f_J6_numberOfTrailingZeros_0f7a4 μ ((((x0).toUInt64 >>> (((32 : Int32)).toInt64.toUInt64 &&& Int64.toUInt64 63)).toInt64)).toInt32 := ⟨_, rfl⟩
    replace hf := nm_e2 hf v6 h5
    refine z_callSi C (As := [.int ((((x0).toUInt64 >>> (((32 : Int32)).toInt64.toUInt64 &&& Int64.toUInt64 63)).toInt64)).toInt32]) (rest := [.int (32 : Int32)]) (c_J6_numberOfTrailingZeros_0f7a4 h5.symm) sw_J13_311 ⟨rfl, rfl, by decide, by decide⟩ rfl (Nat.le_of_ble_eq_true rfl) dJ13_numberOfTrailingZeros_95d88_14 ?_
    refine z_iadd C dJ13_numberOfTrailingZeros_95d88_17 ?_
    refine z_goto C 25 dJ13_numberOfTrailingZeros_95d88_18 (by decide) ?_
    exact z_iret C hR dJ13_numberOfTrailingZeros_95d88_25 rfl hf
