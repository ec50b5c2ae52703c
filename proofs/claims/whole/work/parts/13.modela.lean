noncomputable def f_X4_in (μ : MM) (x0 : Int64) (x2 : Int64) (x4 : Int64) : Int32 :=
 (if (lg_cmp x0 x2) < 0 then
 (0 : Int32)
 else
 (if 0 < (lg_cmp x0 x4) then
 (0 : Int32)
 else
 (1 : Int32)))
set_option maxHeartbeats 4000000 in
theorem c_X4_in {l : Launch} {G : GW} {μ : MM} {x0 : Int64} {x2 : Int64} {x4 : Int64} {r : Int32} (hf : f_X4_in μ x0 x2 x4 = r) : MZ l (YM G) yX4_in cX4_in 6 (some .boolean) { frames := 0, cells := 0, slots := 0, locals := 0 } [.long x0, .long x2, .long x4] μ μ (some (.int r)) := by
  refine z_met RX4 rfl (by decide) (Nat.le_of_ble_eq_true rfl) (fun X hX C hR => ?_)
  show Z X (YM G) 6 μ 0 [(0, .long x0), (2, .long x2), (4, .long x4)] []
  unfold f_X4_in at hf
  refine z_lload_n C 0 dX4_in_0 rfl ?_
  refine z_lload_n C 1 dX4_in_1 rfl ?_
  refine z_lcmp C dX4_in_2 ?_
  refine z_if_lt C 17 dX4_in_3 (by decide) (fun c1 => ?_) (fun c1 => ?_)
  · replace hf := it_t hf c1
    refine z_iconst C dX4_in_17 (v := (0 : Int32)) (by decide) ?_
    exact z_zret C hR dX4_in_18 rfl rfl hf
  · replace hf := it_f hf c1
    refine z_lload_n C 0 dX4_in_6 rfl ?_
    refine z_lload C 2 dX4_in_7 rfl ?_
    refine z_lcmp C dX4_in_9 ?_
    refine z_if_gt C 17 dX4_in_10 (by decide) (fun c2 => ?_) (fun c2 => ?_)
    · replace hf := it_t hf c2
      refine z_iconst C dX4_in_17 (v := (0 : Int32)) (by decide) ?_
      exact z_zret C hR dX4_in_18 rfl rfl hf
    · replace hf := it_f hf c2
      refine z_iconst C dX4_in_13 (v := (1 : Int32)) (by decide) ?_
      refine z_goto C 18 dX4_in_14 (by decide) ?_
      exact z_zret C hR dX4_in_18 rfl rfl hf
theorem bz_X4_in {μ : MM} {x0 : Int64} {x2 : Int64} {x4 : Int64} : narrow .boolean (.int (f_X4_in μ x0 x2 x4)) = .int (f_X4_in μ x0 x2 x4) := by
  simp only [f_X4_in, nm]
  (repeat' split)
  all_goals first | rfl | exact bz_X4_in
noncomputable def f_X4_letter (μ : MM) (x1 : Int32) : Option (MM × Int32) :=
 (nm (f_X4_in μ (x1).toInt64 (1 : Int64) (126 : Int64)) fun v2 : Int32 =>
 (if v2 = 0 then
 (some (μ, (-102 : Int32)))
 else
 (if (μ.1 0 1) = (22 : Int32) then
 (some (μ, (-104 : Int32)))
 else
 (ck (vp_in (μ.1 0 1) 22) <|
 (nm (upM μ 1 ((μ.1 0 1)).toNatClampNeg x1) fun μ6 : MM =>
 (nm (((μ6.1 0 1) + (1 : Int32))) fun v7 : Int32 =>
 (nm (upM μ6 0 1 v7) fun μ8 : MM =>
 (some (μ8, (μ8.1 0 1))))))))))
set_option maxHeartbeats 4000000 in
theorem c_X4_letter {l : Launch} {G : GW} {μ : MM} {x1 : Int32} {μ' : MM} {r : Int32} (hf : f_X4_letter μ x1 = some (μ', r)) : MZ l (YM G) yX4_letter cX4_letter 2 (some .int) { frames := 1, cells := 0, slots := 0, locals := 25 } [.ref (G.1 0), .int x1] μ μ' (some (.int r)) := by
  refine z_met RX4 rfl (by decide) (Nat.le_of_ble_eq_true rfl) (fun X hX C hR => ?_)
  show Z X (YM G) 2 μ 0 [(0, .ref (G.1 0)), (1, .int x1)] []
  unfold f_X4_letter at hf
  refine z_iload_n C 1 dX4_letter_0 rfl ?_
  refine z_i2l C dX4_letter_1 ?_
  refine z_lconst C dX4_letter_2 (v := (1 : Int64)) (by decide) ?_
  refine z_ldc2 C dX4_letter_3 (v := (126 : Int64)) (ww_in 690 (by decide +kernel) (by decide +kernel)) ?_
  obtain ⟨v2, h1⟩ : ∃ z, z = f_X4_in μ (x1).toInt64 (1 : Int64) (126 : Int64) := ⟨_, rfl⟩
  replace hf := nm_e2 hf v2 h1
  refine z_callSi C (As := [.long (x1).toInt64, .long (1 : Int64), .long (126 : Int64)]) (rest := []) (c_X4_in h1.symm) sw_X4_58 ⟨rfl, rfl, by decide, by decide⟩ rfl (Nat.le_of_ble_eq_true rfl) dX4_letter_6 ?_
  refine z_if_ne C 15 dX4_letter_9 (by decide) (fun c3 => ?_) (fun c3 => ?_)
  · replace hf := it_f hf c3
    refine z_aload_n C 0 dX4_letter_15 rfl ?_
    refine zg_X4_62_0 C dX4_letter_16 ?_
    refine z_bipush C dX4_letter_19 (v := (22 : Int32)) (by decide) ?_
    refine z_icmp_ne C 27 dX4_letter_21 (by decide) (fun c4 => ?_) (fun c4 => ?_)
    · replace hf := it_f hf c4
      refine z_aload_n C 0 dX4_letter_27 rfl ?_
      refine zg_X4_7_0 C dX4_letter_28 ?_
      refine z_aload_n C 0 dX4_letter_31 rfl ?_
      refine zg_X4_62_0 C dX4_letter_32 ?_
      refine z_iload_n C 1 dX4_letter_35 rfl ?_
      obtain ⟨h5, hf⟩ := ck_e hf
      refine zMs_1 C dX4_letter_36 h5 ?_
      refine z_mem (fun μ6 eμ6 => ?_)
      replace hf := nm_e2 hf μ6 eμ6
      refine z_aload_n C 0 dX4_letter_37 rfl ?_
      refine z_dup C dX4_letter_38 rfl ?_
      refine zg_X4_62_0 C dX4_letter_39 ?_
      refine z_iconst C dX4_letter_42 (v := (1 : Int32)) (by decide) ?_
      refine z_iadd C dX4_letter_43 ?_
      refine z_topi (fun v7 ev7 => ?_)
      replace hf := nm_e2 hf v7 ev7
      refine zp_X4_62_0 C dX4_letter_44 ?_
      refine z_mem (fun μ8 eμ8 => ?_)
      replace hf := nm_e2 hf μ8 eμ8
      refine z_aload_n C 0 dX4_letter_47 rfl ?_
      refine zg_X4_62_0 C dX4_letter_48 ?_
      exact z_iret C hR dX4_letter_51 (rt2 hf).1 (rt2 hf).2
    · replace hf := it_t hf c4
      refine z_bipush C dX4_letter_24 (v := (-104 : Int32)) (by decide) ?_
      exact z_iret C hR dX4_letter_26 (rt2 hf).1 (rt2 hf).2
  · replace hf := it_t hf c3
    refine z_bipush C dX4_letter_12 (v := (-102 : Int32)) (by decide) ?_
    exact z_iret C hR dX4_letter_14 (rt2 hf).1 (rt2 hf).2
noncomputable def f_X4_blank (μ : MM) : Option (MM × Int32) :=
 (nm ((μ.1 0 1)) fun v1 : Int32 =>
 (nm (upM μ 0 1 (0 : Int32)) fun μ2 : MM =>
 (some (μ2, v1))))
set_option maxHeartbeats 4000000 in
theorem c_X4_blank {l : Launch} {G : GW} {μ : MM} {μ' : MM} {r : Int32} (hf : f_X4_blank μ = some (μ', r)) : MZ l (YM G) yX4_blank cX4_blank 2 (some .int) { frames := 0, cells := 0, slots := 0, locals := 0 } [.ref (G.1 0)] μ μ' (some (.int r)) := by
  refine z_met RX4 rfl (by decide) (Nat.le_of_ble_eq_true rfl) (fun X hX C hR => ?_)
  show Z X (YM G) 2 μ 0 [(0, .ref (G.1 0))] []
  unfold f_X4_blank at hf
  refine z_aload_n C 0 dX4_blank_0 rfl ?_
  refine zg_X4_62_0 C dX4_blank_1 ?_
  refine z_topi (fun v1 ev1 => ?_)
  replace hf := nm_e2 hf v1 ev1
  refine z_istore_n C dX4_blank_4 (i := 1) (lv' := [(1, .int v1), (0, .ref (G.1 0))]) rfl (by decide) rfl ?_
  refine z_aload_n C 1 dX4_blank_5 rfl ?_
  refine z_iconst C dX4_blank_6 (v := (0 : Int32)) (by decide) ?_
  refine zp_X4_62_0 C dX4_blank_7 ?_
  refine z_mem (fun μ2 eμ2 => ?_)
  replace hf := nm_e2 hf μ2 eμ2
  refine z_iload_n C 0 dX4_blank_10 rfl ?_
  exact z_iret C hR dX4_blank_11 (rt2 hf).1 (rt2 hf).2
noncomputable def f_X4_kindBy (μ : MM) (x0 : Int32) : Int32 :=
 (if x0 = (114 : Int32) then
 (0 : Int32)
 else
 (if x0 = (116 : Int32) then
 (1 : Int32)
 else
 (if x0 = (111 : Int32) then
 (2 : Int32)
 else
 (if x0 = (109 : Int32) then
 (3 : Int32)
 else
 (if x0 = (101 : Int32) then
 (4 : Int32)
 else
 (-1 : Int32))))))
set_option maxHeartbeats 4000000 in
theorem c_X4_kindBy {l : Launch} {G : GW} {μ : MM} {x0 : Int32} {r : Int32} (hf : f_X4_kindBy μ x0 = r) : MZ l (YM G) yX4_kindBy cX4_kindBy 1 (some .int) { frames := 0, cells := 0, slots := 0, locals := 0 } [.int x0] μ μ (some (.int r)) := by
  refine z_met RX4 rfl (by decide) (Nat.le_of_ble_eq_true rfl) (fun X hX C hR => ?_)
  show Z X (YM G) 1 μ 0 [(0, .int x0)] []
  unfold f_X4_kindBy at hf
  refine z_iload_n C 0 dX4_kindBy_0 rfl ?_
  refine z_bipush C dX4_kindBy_1 (v := (114 : Int32)) (by decide) ?_
  refine z_icmp_ne C 10 dX4_kindBy_3 (by decide) (fun c1 => ?_) (fun c1 => ?_)
  · replace hf := it_f hf c1
    refine z_iload_n C 0 dX4_kindBy_10 rfl ?_
    refine z_bipush C dX4_kindBy_11 (v := (116 : Int32)) (by decide) ?_
    refine z_icmp_ne C 20 dX4_kindBy_13 (by decide) (fun c2 => ?_) (fun c2 => ?_)
    · replace hf := it_f hf c2
      refine z_iload_n C 0 dX4_kindBy_20 rfl ?_
      refine z_bipush C dX4_kindBy_21 (v := (111 : Int32)) (by decide) ?_
      refine z_icmp_ne C 30 dX4_kindBy_23 (by decide) (fun c3 => ?_) (fun c3 => ?_)
      · replace hf := it_f hf c3
        refine z_iload_n C 0 dX4_kindBy_30 rfl ?_
        refine z_bipush C dX4_kindBy_31 (v := (109 : Int32)) (by decide) ?_
        refine z_icmp_ne C 40 dX4_kindBy_33 (by decide) (fun c4 => ?_) (fun c4 => ?_)
        · replace hf := it_f hf c4
          refine z_iload_n C 0 dX4_kindBy_40 rfl ?_
          refine z_bipush C dX4_kindBy_41 (v := (101 : Int32)) (by decide) ?_
          refine z_icmp_ne C 50 dX4_kindBy_43 (by decide) (fun c5 => ?_) (fun c5 => ?_)
          · replace hf := it_f hf c5
            refine z_iconst C dX4_kindBy_50 (v := (-1 : Int32)) (by decide) ?_
            exact z_iret C hR dX4_kindBy_51 rfl hf
          · replace hf := it_t hf c5
            refine z_iconst C dX4_kindBy_46 (v := (4 : Int32)) (by decide) ?_
            refine z_goto C 51 dX4_kindBy_47 (by decide) ?_
            exact z_iret C hR dX4_kindBy_51 rfl hf
        · replace hf := it_t hf c4
          refine z_iconst C dX4_kindBy_36 (v := (3 : Int32)) (by decide) ?_
          refine z_goto C 51 dX4_kindBy_37 (by decide) ?_
          exact z_iret C hR dX4_kindBy_51 rfl hf
      · replace hf := it_t hf c3
        refine z_iconst C dX4_kindBy_26 (v := (2 : Int32)) (by decide) ?_
        refine z_goto C 51 dX4_kindBy_27 (by decide) ?_
        exact z_iret C hR dX4_kindBy_51 rfl hf
    · replace hf := it_t hf c2
      refine z_iconst C dX4_kindBy_16 (v := (1 : Int32)) (by decide) ?_
      refine z_goto C 51 dX4_kindBy_17 (by decide) ?_
      exact z_iret C hR dX4_kindBy_51 rfl hf
  · replace hf := it_t hf c1
    refine z_iconst C dX4_kindBy_6 (v := (0 : Int32)) (by decide) ?_
    refine z_goto C 51 dX4_kindBy_7 (by decide) ?_
    exact z_iret C hR dX4_kindBy_51 rfl hf
noncomputable def g_X4_go_109 (μ : MM) (x1 : Int32) (t0 : Int32) : Option (MM × Int32) :=
 (nm (upM μ 0 5 t0) fun μ14 : MM =>
 (if x1 = (44 : Int32) then
 (if (6 : Int32) ≤ (μ14.1 0 3) then
 (some (μ14, (0 : Int32)))
 else
 (some (μ14, (1 : Int32))))
 else
 (if x1 = (59 : Int32) then
 (if (μ14.1 0 3) ≤ (2 : Int32) then
 (some (μ14, (0 : Int32)))
 else
 (some (μ14, (1 : Int32))))
 else
 (some (μ14, (0 : Int32))))))
set_option maxHeartbeats 4000000 in
theorem zj_X4_go_109 {X : ZX} {G : GW} {μ' : MM} {r : Int32} (μ : MM) (x1 : Int32) (t0 : Int32) (C : CX X (YM G) cX4_go 4 RX4 { frames := 1, cells := 0, slots := 0, locals := 25 }) (hR : ZR X (YM G) (some .boolean) μ' (some (.int r))) (hf : g_X4_go_109 μ x1 t0 = some (μ', r)) : Z X (YM G) 4 μ 109 [(0, .ref (G.1 0)), (1, .int x1)] [.int t0, .ref (G.1 0)] := by
  unfold g_X4_go_109 at hf
  refine zp_X4_65_0 C dX4_go_109 ?_
  refine z_mem (fun μ14 eμ14 => ?_)
  replace hf := nm_e2 hf μ14 eμ14
  refine z_iload_n C 1 dX4_go_112 rfl ?_
  refine z_bipush C dX4_go_113 (v := (44 : Int32)) (by decide) ?_
  refine z_icmp_ne C 135 dX4_go_115 (by decide) (fun c15 => ?_) (fun c15 => ?_)
  · replace hf := it_f hf c15
    refine z_iload_n C 1 dX4_go_135 rfl ?_
    refine z_bipush C dX4_go_136 (v := (59 : Int32)) (by decide) ?_
    refine z_icmp_ne C 153 dX4_go_138 (by decide) (fun c16 => ?_) (fun c16 => ?_)
    · replace hf := it_f hf c16
      refine z_iconst C dX4_go_153 (v := (0 : Int32)) (by decide) ?_
      exact z_zret C hR dX4_go_154 rfl (rt2 hf).1 (rt2 hf).2
    · replace hf := it_t hf c16
      refine z_aload_n C 0 dX4_go_141 rfl ?_
      refine zg_X4_68_0 C dX4_go_142 ?_
      refine z_iconst C dX4_go_145 (v := (2 : Int32)) (by decide) ?_
      refine z_icmp_le C 153 dX4_go_146 (by decide) (fun c17 => ?_) (fun c17 => ?_)
      · replace hf := it_t hf c17
        refine z_iconst C dX4_go_153 (v := (0 : Int32)) (by decide) ?_
        exact z_zret C hR dX4_go_154 rfl (rt2 hf).1 (rt2 hf).2
      · replace hf := it_f hf c17
        refine z_iconst C dX4_go_149 (v := (1 : Int32)) (by decide) ?_
        refine z_goto C 154 dX4_go_150 (by decide) ?_
        exact z_zret C hR dX4_go_154 rfl (rt2 hf).1 (rt2 hf).2
  · replace hf := it_t hf c15
    refine z_aload_n C 0 dX4_go_118 rfl ?_
    refine zg_X4_68_0 C dX4_go_119 ?_
    refine z_bipush C dX4_go_122 (v := (6 : Int32)) (by decide) ?_
    refine z_icmp_ge C 131 dX4_go_124 (by decide) (fun c18 => ?_) (fun c18 => ?_)
    · replace hf := it_t hf c18
      refine z_iconst C dX4_go_131 (v := (0 : Int32)) (by decide) ?_
      refine z_goto C 154 dX4_go_132 (by decide) ?_
      exact z_zret C hR dX4_go_154 rfl (rt2 hf).1 (rt2 hf).2
    · replace hf := it_f hf c18
      refine z_iconst C dX4_go_127 (v := (1 : Int32)) (by decide) ?_
      refine z_goto C 154 dX4_go_128 (by decide) ?_
      exact z_zret C hR dX4_go_154 rfl (rt2 hf).1 (rt2 hf).2
noncomputable def f_X4_go (μ : MM) (x1 : Int32) : Option (MM × Int32) :=
 (nm ((x1 - (48 : Int32))) fun v1 : Int32 =>
 (nm ((μ.1 0 5)) fun v2 : Int32 =>
 (nm (((μ.1 0 5) + (1 : Int32))) fun v3 : Int32 =>
 (nm (upM μ 0 5 v3) fun μ4 : MM =>
 (if v2 = 0 then
 (nm (f_X4_kindBy μ4 x1) fun v26 : Int32 =>
 (ck (vp_in ((2 : Int32) * (μ4.1 0 3)) 12) <|
 (nm (upM μ4 2 (((2 : Int32) * (μ4.1 0 3))).toNatClampNeg v26) fun μ28 : MM =>
 (nm (f_X4_kindBy μ28 x1) fun v30 : Int32 =>
 (if v30 = (-1 : Int32) then
 (some (μ28, (0 : Int32)))
 else
 (some (μ28, (1 : Int32))))))))
 else
 (if v2 = (1 : Int32) then
 (ck (vp_in (((2 : Int32) * (μ4.1 0 3)) + (1 : Int32)) 12) <|
 (nm (upM μ4 2 ((((2 : Int32) * (μ4.1 0 3)) + (1 : Int32))).toNatClampNeg v1) fun μ20 : MM =>
 (nm (((μ20.1 0 3) + (1 : Int32))) fun v21 : Int32 =>
 (nm (upM μ20 0 3 v21) fun μ22 : MM =>
 (nm (f_X4_in μ22 (v1).toInt64 (0 : Int64) (7 : Int64)) fun v24 : Int32 =>
 (some (μ22, v24)))))))
 else
 (if v2 = (2 : Int32) then
 (if x1 = (44 : Int32) then
 g_X4_go_109 μ4 x1 (0 : Int32)
 else
 g_X4_go_109 μ4 x1 (3 : Int32))
 else
 (nm (upM μ4 0 4 v1) fun μ8 : MM =>
 (if v2 = (3 : Int32) then
 (nm (f_X4_in μ8 (v1).toInt64 (0 : Int64) (1 : Int64)) fun v11 : Int32 =>
 (if v11 = 0 then
 (some (μ8, (0 : Int32)))
 else
 (some (μ8, (1 : Int32)))))
 else
 (some (μ8, (0 : Int32))))))))))))
set_option maxHeartbeats 4000000 in
theorem c_X4_go {l : Launch} {G : GW} {μ : MM} {x1 : Int32} {μ' : MM} {r : Int32} (hf : f_X4_go μ x1 = some (μ', r)) : MZ l (YM G) yX4_go cX4_go 4 (some .boolean) { frames := 1, cells := 0, slots := 0, locals := 25 } [.ref (G.1 0), .int x1] μ μ' (some (.int r)) := by
  refine z_met RX4 rfl (by decide) (Nat.le_of_ble_eq_true rfl) (fun X hX C hR => ?_)
  show Z X (YM G) 4 μ 0 [(0, .ref (G.1 0)), (1, .int x1)] []
  unfold f_X4_go at hf
  refine z_iload_n C 1 dX4_go_0 rfl ?_
  refine z_bipush C dX4_go_1 (v := (48 : Int32)) (by decide) ?_
  refine z_isub C dX4_go_3 ?_
  refine z_topi (fun v1 ev1 => ?_)
  replace hf := nm_e2 hf v1 ev1
  refine z_istore_n C dX4_go_4 (i := 2) (lv' := [(2, .int v1), (0, .ref (G.1 0)), (1, .int x1)]) rfl (by decide) rfl ?_
  refine z_aload_n C 1 dX4_go_5 rfl ?_
  refine zg_X4_65_0 C dX4_go_6 ?_
  refine z_topi (fun v2 ev2 => ?_)
  replace hf := nm_e2 hf v2 ev2
  refine z_istore_n C dX4_go_9 (i := 3) (lv' := [(3, .int v2), (2, .int v1), (0, .ref (G.1 0)), (1, .int x1)]) rfl (by decide) rfl ?_
  refine z_aload_n C 2 dX4_go_10 rfl ?_
  refine z_dup C dX4_go_11 rfl ?_
  refine zg_X4_65_0 C dX4_go_12 ?_
  refine z_iconst C dX4_go_15 (v := (1 : Int32)) (by decide) ?_
  refine z_iadd C dX4_go_16 ?_
  refine z_topi (fun v3 ev3 => ?_)
  replace hf := nm_e2 hf v3 ev3
  refine zp_X4_65_0 C dX4_go_17 ?_
  refine z_mem (fun μ4 eμ4 => ?_)
  replace hf := nm_e2 hf μ4 eμ4
  refine z_iload_n C 0 dX4_go_20 rfl ?_
  refine z_if_ne C 53 dX4_go_21 (by decide) (fun c5 => ?_) (fun c5 => ?_)
  · replace hf := it_f hf c5
    refine z_iload_n C 0 dX4_go_53 rfl ?_
    refine z_iconst C dX4_go_54 (v := (1 : Int32)) (by decide) ?_
    refine z_icmp_ne C 92 dX4_go_55 (by decide) (fun c6 => ?_) (fun c6 => ?_)
    · replace hf := it_f hf c6
      refine z_iload_n C 0 dX4_go_92 rfl ?_
      refine z_iconst C dX4_go_93 (v := (2 : Int32)) (by decide) ?_
      refine z_icmp_ne C 155 dX4_go_94 (by decide) (fun c7 => ?_) (fun c7 => ?_)
      · replace hf := it_f hf c7
        refine z_aload_n C 2 dX4_go_155 rfl ?_
        refine z_iload_n C 1 dX4_go_156 rfl ?_
        refine zp_X4_77_0 C dX4_go_157 ?_
        refine z_mem (fun μ8 eμ8 => ?_)
        replace hf := nm_e2 hf μ8 eμ8
        refine z_iload_n C 0 dX4_go_160 rfl ?_
        refine z_iconst C dX4_go_161 (v := (3 : Int32)) (by decide) ?_
        refine z_icmp_ne C 179 dX4_go_162 (by decide) (fun c9 => ?_) (fun c9 => ?_)
        · replace hf := it_f hf c9
          refine z_iconst C dX4_go_179 (v := (0 : Int32)) (by decide) ?_
          exact z_zret C hR dX4_go_180 rfl (rt2 hf).1 (rt2 hf).2
        · replace hf := it_t hf c9
          refine z_iload_n C 1 dX4_go_165 rfl ?_
          refine z_i2l C dX4_go_166 ?_
          refine z_lconst C dX4_go_167 (v := (0 : Int64)) (by decide) ?_
          refine z_lconst C dX4_go_168 (v := (1 : Int64)) (by decide) ?_
          obtain ⟨v11, h10⟩ : ∃ z, z = f_X4_in μ8 (v1).toInt64 (0 : Int64) (1 : Int64) := ⟨_, rfl⟩
          replace hf := nm_e2 hf v11 h10
          refine z_callSi C (As := [.long (v1).toInt64, .long (0 : Int64), .long (1 : Int64)]) (rest := []) (c_X4_in h10.symm) sw_X4_58 ⟨rfl, rfl, by decide, by decide⟩ rfl (Nat.le_of_ble_eq_true rfl) dX4_go_169 ?_
          refine z_if_eq C 179 dX4_go_172 (by decide) (fun c12 => ?_) (fun c12 => ?_)
          · replace hf := it_t hf c12
            refine z_iconst C dX4_go_179 (v := (0 : Int32)) (by decide) ?_
            exact z_zret C hR dX4_go_180 rfl (rt2 hf).1 (rt2 hf).2
          · replace hf := it_f hf c12
            refine z_iconst C dX4_go_175 (v := (1 : Int32)) (by decide) ?_
            refine z_goto C 180 dX4_go_176 (by decide) ?_
            exact z_zret C hR dX4_go_180 rfl (rt2 hf).1 (rt2 hf).2
      · replace hf := it_t hf c7
        refine z_aload_n C 2 dX4_go_97 rfl ?_
        refine z_iload_n C 3 dX4_go_98 rfl ?_
        refine z_bipush C dX4_go_99 (v := (44 : Int32)) (by decide) ?_
        refine z_icmp_ne C 108 dX4_go_101 (by decide) (fun c13 => ?_) (fun c13 => ?_)
        · replace hf := it_f hf c13
          refine z_iconst C dX4_go_108 (v := (3 : Int32)) (by decide) ?_
          refine z_lv C [2, 3] (lv' := [(0, .ref (G.1 0)), (1, .int x1)]) rfl ?_
          exact zj_X4_go_109 μ4 x1 (3 : Int32) C hR hf
        · replace hf := it_t hf c13
          refine z_iconst C dX4_go_104 (v := (0 : Int32)) (by decide) ?_
          refine z_goto C 109 dX4_go_105 (by decide) ?_
          refine z_lv C [2, 3] (lv' := [(0, .ref (G.1 0)), (1, .int x1)]) rfl ?_
          exact zj_X4_go_109 μ4 x1 (0 : Int32) C hR hf
    · replace hf := it_t hf c6
      refine z_aload_n C 2 dX4_go_58 rfl ?_
      refine zg_X4_13_0 C dX4_go_59 ?_
      refine z_iconst C dX4_go_62 (v := (2 : Int32)) (by decide) ?_
      refine z_aload_n C 2 dX4_go_63 rfl ?_
      refine zg_X4_68_0 C dX4_go_64 ?_
      refine z_imul C dX4_go_67 ?_
      refine z_iconst C dX4_go_68 (v := (1 : Int32)) (by decide) ?_
      refine z_iadd C dX4_go_69 ?_
      refine z_iload_n C 1 dX4_go_70 rfl ?_
      obtain ⟨h19, hf⟩ := ck_e hf
      refine zMs_2 C dX4_go_71 h19 ?_
      refine z_mem (fun μ20 eμ20 => ?_)
      replace hf := nm_e2 hf μ20 eμ20
      refine z_aload_n C 2 dX4_go_72 rfl ?_
      refine z_dup C dX4_go_73 rfl ?_
      refine zg_X4_68_0 C dX4_go_74 ?_
      refine z_iconst C dX4_go_77 (v := (1 : Int32)) (by decide) ?_
      refine z_iadd C dX4_go_78 ?_
      refine z_topi (fun v21 ev21 => ?_)
      replace hf := nm_e2 hf v21 ev21
      refine zp_X4_68_0 C dX4_go_79 ?_
      refine z_mem (fun μ22 eμ22 => ?_)
      replace hf := nm_e2 hf μ22 eμ22
      refine z_iload_n C 1 dX4_go_82 rfl ?_
      refine z_i2l C dX4_go_83 ?_
      refine z_lconst C dX4_go_84 (v := (0 : Int64)) (by decide) ?_
      refine z_ldc2 C dX4_go_85 (v := (7 : Int64)) (ww_in 713 (by decide +kernel) (by decide +kernel)) ?_
      obtain ⟨v24, h23⟩ : ∃ z, z = f_X4_in μ22 (v1).toInt64 (0 : Int64) (7 : Int64) := ⟨_, rfl⟩
      replace hf := nm_e2 hf v24 h23
      refine z_callSi C (As := [.long (v1).toInt64, .long (0 : Int64), .long (7 : Int64)]) (rest := []) (c_X4_in h23.symm) sw_X4_58 ⟨rfl, rfl, by decide, by decide⟩ rfl (Nat.le_of_ble_eq_true rfl) dX4_go_88 ?_
      exact z_zret C hR dX4_go_91 (by rw [h23]; exact bz_X4_in) (rt2 hf).1 (rt2 hf).2
  · replace hf := it_t hf c5
    refine z_aload_n C 2 dX4_go_24 rfl ?_
    refine zg_X4_13_0 C dX4_go_25 ?_
    refine z_iconst C dX4_go_28 (v := (2 : Int32)) (by decide) ?_
    refine z_aload_n C 2 dX4_go_29 rfl ?_
    refine zg_X4_68_0 C dX4_go_30 ?_
    refine z_imul C dX4_go_33 ?_
    refine z_iload_n C 3 dX4_go_34 rfl ?_
    obtain ⟨v26, h25⟩ : ∃ z, z = f_X4_kindBy μ4 x1 := ⟨_, rfl⟩
    replace hf := nm_e2 hf v26 h25
    refine z_callSi C (As := [.int x1]) (rest := [.int ((2 : Int32) * (μ4.1 0 3)), .ref (G.1 2)]) (c_X4_kindBy h25.symm) sw_X4_71 ⟨rfl, rfl, by decide, by decide⟩ rfl (Nat.le_of_ble_eq_true rfl) dX4_go_35 ?_
    obtain ⟨h27, hf⟩ := ck_e hf
    refine zMs_2 C dX4_go_38 h27 ?_
    refine z_mem (fun μ28 eμ28 => ?_)
    replace hf := nm_e2 hf μ28 eμ28
    refine z_iload_n C 3 dX4_go_39 rfl ?_
    obtain ⟨v30, h29⟩ : ∃ z, z = f_X4_kindBy μ28 x1 := ⟨_, rfl⟩
    replace hf := nm_e2 hf v30 h29
    refine z_callSi C (As := [.int x1]) (rest := []) (c_X4_kindBy h29.symm) sw_X4_71 ⟨rfl, rfl, by decide, by decide⟩ rfl (Nat.le_of_ble_eq_true rfl) dX4_go_40 ?_
    refine z_iconst C dX4_go_43 (v := (-1 : Int32)) (by decide) ?_
    refine z_icmp_eq C 51 dX4_go_44 (by decide) (fun c31 => ?_) (fun c31 => ?_)
    · replace hf := it_t hf c31
      refine z_iconst C dX4_go_51 (v := (0 : Int32)) (by decide) ?_
      exact z_zret C hR dX4_go_52 rfl (rt2 hf).1 (rt2 hf).2
    · replace hf := it_f hf c31
      refine z_iconst C dX4_go_47 (v := (1 : Int32)) (by decide) ?_
      refine z_goto C 52 dX4_go_48 (by decide) ?_
      exact z_zret C hR dX4_go_52 rfl (rt2 hf).1 (rt2 hf).2
noncomputable def b_X4_faultOf_12 (ih12 : MM × Int32 → Option (MM × Int32)) (μ : MM) (x1 : Int32) : Option (MM × Int32) :=
 (if (μ.1 0 1) ≤ x1 then
 (some (μ, x1))
 else
 (ck (vp_in x1 22) <|
 (bd2 (f_X4_go μ (μ.1 1 (x1).toNatClampNeg)) fun μ6 v7 =>
 (if v7 = 0 then
 (some (μ6, x1))
 else
 ih12 (μ6, (x1 + (1 : Int32)))))))
set_option maxHeartbeats 4000000 in
theorem zl_X4_faultOf_12 {X : ZX} {G : GW} {μ' : MM} {r : Int32} (C : CX X (YM G) cX4_faultOf 2 RX4 { frames := 2, cells := 0, slots := 0, locals := 48 }) (hR : ZR X (YM G) (some .int) μ' (some (.int r))) : ∀ (n : Nat) (σ : MM × Int32), lp (fun ih σ => b_X4_faultOf_12 ih σ.1 σ.2) n σ = some (μ', r) → Z X (YM G) 2 σ.1 12 [(0, .ref (G.1 0)), (1, .int σ.2)] [] := by
  refine lp_z (P := fun σ : MM × Int32 => Z X (YM G) 2 σ.1 12 [(0, .ref (G.1 0)), (1, .int σ.2)] []) (fun ih12 hih12 σ hf => ?_)
  obtain ⟨μ, x1⟩ := σ
  have hf : b_X4_faultOf_12 ih12 μ x1 = some (μ', r) := hf
  show Z X (YM G) 2 μ 12 [(0, .ref (G.1 0)), (1, .int x1)] []
  unfold b_X4_faultOf_12 at hf
  refine z_iload_n C 1 dX4_faultOf_12 rfl ?_
  refine z_aload_n C 0 dX4_faultOf_13 rfl ?_
  refine zg_X4_62_0 C dX4_faultOf_14 ?_
  refine z_icmp_ge C 39 dX4_faultOf_17 (by decide) (fun c3 => ?_) (fun c3 => ?_)
  · replace hf := it_t hf c3
    refine z_iload_n C 1 dX4_faultOf_39 rfl ?_
    exact z_iret C hR dX4_faultOf_40 (rt2 hf).1 (rt2 hf).2
  · replace hf := it_f hf c3
    refine z_aload_n C 0 dX4_faultOf_20 rfl ?_
    refine z_aload_n C 0 dX4_faultOf_21 rfl ?_
    refine zg_X4_7_0 C dX4_faultOf_22 ?_
    refine z_iload_n C 1 dX4_faultOf_25 rfl ?_
    obtain ⟨h4, hf⟩ := ck_e hf
    refine zMl_1 C dX4_faultOf_26 h4 ?_
    obtain ⟨μ6, v7, h5, hf⟩ := bd2_e hf
    refine z_callVi C (As := [.int (μ.1 1 (x1).toNatClampNeg)]) (rest := []) (c_X4_go h5) vw_X4_80 ⟨rfl, rfl, by decide, by decide⟩ (z_rv C (q0 := 0) (ci := 4) rfl rfl rfl) rfl (Nat.le_of_ble_eq_true rfl) dX4_faultOf_27 ?_
    refine z_if_eq C 39 dX4_faultOf_30 (by decide) (fun c8 => ?_) (fun c8 => ?_)
    · replace hf := it_t hf c8
      refine z_iload_n C 1 dX4_faultOf_39 rfl ?_
      exact z_iret C hR dX4_faultOf_40 (rt2 hf).1 (rt2 hf).2
    · replace hf := it_f hf c8
      refine z_iinc C 1 dX4_faultOf_33 (v := (x1 + (1 : Int32))) (lv' := [(1, .int (x1 + (1 : Int32))), (0, .ref (G.1 0))]) rfl rfl (by decide) rfl ?_
      refine z_goto C 12 dX4_faultOf_36 (by decide) ?_
      refine z_lv C [1, 0] (lv' := [(0, .ref (G.1 0)), (1, .int (x1 + (1 : Int32)))]) rfl ?_
      exact hih12 (μ6, (x1 + (1 : Int32))) hf
noncomputable def f_X4_faultOf (μ : MM) : Option (MM × Int32) :=
 (nm (upM μ 0 3 (0 : Int32)) fun μ1 : MM =>
 (nm (upM μ1 0 5 (0 : Int32)) fun μ2 : MM =>
 lp (fun ih σ => b_X4_faultOf_12 ih σ.1 σ.2) fu (μ2, (0 : Int32))))
set_option maxHeartbeats 4000000 in
theorem c_X4_faultOf {l : Launch} {G : GW} {μ : MM} {μ' : MM} {r : Int32} (hf : f_X4_faultOf μ = some (μ', r)) : MZ l (YM G) yX4_faultOf cX4_faultOf 2 (some .int) { frames := 2, cells := 0, slots := 0, locals := 48 } [.ref (G.1 0)] μ μ' (some (.int r)) := by
  refine z_met RX4 rfl (by decide) (Nat.le_of_ble_eq_true rfl) (fun X hX C hR => ?_)
  show Z X (YM G) 2 μ 0 [(0, .ref (G.1 0))] []
  unfold f_X4_faultOf at hf
  refine z_aload_n C 0 dX4_faultOf_0 rfl ?_
  refine z_iconst C dX4_faultOf_1 (v := (0 : Int32)) (by decide) ?_
  refine zp_X4_68_0 C dX4_faultOf_2 ?_
  refine z_mem (fun μ1 eμ1 => ?_)
  replace hf := nm_e2 hf μ1 eμ1
  refine z_aload_n C 0 dX4_faultOf_5 rfl ?_
  refine z_iconst C dX4_faultOf_6 (v := (0 : Int32)) (by decide) ?_
  refine zp_X4_65_0 C dX4_faultOf_7 ?_
  refine z_mem (fun μ2 eμ2 => ?_)
  replace hf := nm_e2 hf μ2 eμ2
  refine z_iconst C dX4_faultOf_10 (v := (0 : Int32)) (by decide) ?_
  refine z_istore_n C dX4_faultOf_11 (i := 1) (lv' := [(1, .int (0 : Int32)), (0, .ref (G.1 0))]) rfl (by decide) rfl ?_
  refine z_lv C [1, 0] (lv' := [(0, .ref (G.1 0)), (1, .int (0 : Int32))]) rfl ?_
  exact zl_X4_faultOf_12 C hR fu (μ2, (0 : Int32)) hf
noncomputable def f_X4_fault (μ : MM) : Option (MM × Int32) :=
 (bd2 (f_X4_faultOf μ) fun μ2 v3 =>
 (some (μ2, v3)))
set_option maxHeartbeats 4000000 in
theorem c_X4_fault {l : Launch} {G : GW} {μ : MM} {μ' : MM} {r : Int32} (hf : f_X4_fault μ = some (μ', r)) : MZ l (YM G) yX4_fault cX4_fault 1 (some .int) { frames := 3, cells := 0, slots := 0, locals := 69 } [.ref (G.1 0)] μ μ' (some (.int r)) := by
  refine z_met RX4 rfl (by decide) (Nat.le_of_ble_eq_true rfl) (fun X hX C hR => ?_)
  show Z X (YM G) 1 μ 0 [(0, .ref (G.1 0))] []
  unfold f_X4_fault at hf
  refine z_aload_n C 0 dX4_fault_0 rfl ?_
  obtain ⟨μ2, v3, h1, hf⟩ := bd2_e hf
  refine z_callVi C (As := []) (rest := []) (c_X4_faultOf h1) vw_X4_84 ⟨rfl, rfl, by decide, by decide⟩ (z_rv C (q0 := 0) (ci := 4) rfl rfl rfl) rfl (Nat.le_of_ble_eq_true rfl) dX4_fault_1 ?_
  exact z_iret C hR dX4_fault_4 (rt2 hf).1 (rt2 hf).2
noncomputable def g_X4_ring_103 (μ : MM) : Option (MM × Int32) :=
 (nm ((μ.1 0 3)) fun v7 : Int32 =>
 (nm (upM μ 0 6 v7) fun μ8 : MM =>
 (nm ((μ8.1 0 4)) fun v9 : Int32 =>
 (nm (upM μ8 0 7 v9) fun μ10 : MM =>
 (nm (upM μ10 0 8 (0 : Int32)) fun μ11 : MM =>
 (nm (upM μ11 0 9 (-1 : Int32)) fun μ12 : MM =>
 (nm (upM μ12 0 18 (0 : Int32)) fun μ13 : MM =>
 (nm (((μ13.1 0 10) + (1 : Int32))) fun v14 : Int32 =>
 (nm (upM μ13 0 10 v14) fun μ15 : MM =>
 (nm (upM μ15 0 1 (0 : Int32)) fun μ16 : MM =>
 (some (μ16, (μ16.1 0 6)))))))))))))
set_option maxHeartbeats 4000000 in
theorem zj_X4_ring_103 {X : ZX} {G : GW} {μ' : MM} {r : Int32} (μ : MM) (C : CX X (YM G) cX4_ring 2 RX4 { frames := 3, cells := 0, slots := 0, locals := 69 }) (hR : ZR X (YM G) (some .int) μ' (some (.int r))) (hf : g_X4_ring_103 μ = some (μ', r)) : Z X (YM G) 2 μ 103 [(0, .ref (G.1 0))] [] := by
  unfold g_X4_ring_103 at hf
  refine z_aload_n C 0 dX4_ring_103 rfl ?_
  refine z_aload_n C 0 dX4_ring_104 rfl ?_
  refine zg_X4_68_0 C dX4_ring_105 ?_
  refine z_topi (fun v7 ev7 => ?_)
  replace hf := nm_e2 hf v7 ev7
  refine zp_X4_88_0 C dX4_ring_108 ?_
  refine z_mem (fun μ8 eμ8 => ?_)
  replace hf := nm_e2 hf μ8 eμ8
  refine z_aload_n C 0 dX4_ring_111 rfl ?_
  refine z_aload_n C 0 dX4_ring_112 rfl ?_
  refine zg_X4_77_0 C dX4_ring_113 ?_
  refine z_topi (fun v9 ev9 => ?_)
  replace hf := nm_e2 hf v9 ev9
  refine zp_X4_91_0 C dX4_ring_116 ?_
  refine z_mem (fun μ10 eμ10 => ?_)
  replace hf := nm_e2 hf μ10 eμ10
  refine z_aload_n C 0 dX4_ring_119 rfl ?_
  refine z_iconst C dX4_ring_120 (v := (0 : Int32)) (by decide) ?_
  refine zp_X4_94_0 C dX4_ring_121 ?_
  refine z_mem (fun μ11 eμ11 => ?_)
  replace hf := nm_e2 hf μ11 eμ11
  refine z_aload_n C 0 dX4_ring_124 rfl ?_
  refine z_iconst C dX4_ring_125 (v := (-1 : Int32)) (by decide) ?_
  refine zp_X4_53_0 C dX4_ring_126 ?_
  refine z_mem (fun μ12 eμ12 => ?_)
  replace hf := nm_e2 hf μ12 eμ12
  refine z_aload_n C 0 dX4_ring_129 rfl ?_
  refine z_iconst C dX4_ring_130 (v := (0 : Int32)) (by decide) ?_
  refine zp_X4_97_0 C dX4_ring_131 ?_
  refine z_mem (fun μ13 eμ13 => ?_)
  replace hf := nm_e2 hf μ13 eμ13
  refine z_aload_n C 0 dX4_ring_134 rfl ?_
  refine z_dup C dX4_ring_135 rfl ?_
  refine zg_X4_100_0 C dX4_ring_136 ?_
  refine z_iconst C dX4_ring_139 (v := (1 : Int32)) (by decide) ?_
  refine z_iadd C dX4_ring_140 ?_
  refine z_topi (fun v14 ev14 => ?_)
  replace hf := nm_e2 hf v14 ev14
  refine zp_X4_100_0 C dX4_ring_141 ?_
  refine z_mem (fun μ15 eμ15 => ?_)
  replace hf := nm_e2 hf μ15 eμ15
  refine z_aload_n C 0 dX4_ring_144 rfl ?_
  refine z_iconst C dX4_ring_145 (v := (0 : Int32)) (by decide) ?_
  refine zp_X4_62_0 C dX4_ring_146 ?_
  refine z_mem (fun μ16 eμ16 => ?_)
  replace hf := nm_e2 hf μ16 eμ16
  refine z_aload_n C 0 dX4_ring_149 rfl ?_
  refine zg_X4_88_0 C dX4_ring_150 ?_
  exact z_iret C hR dX4_ring_153 (rt2 hf).1 (rt2 hf).2
noncomputable def b_X4_ring_24 (ih24 : MM × Int32 → Option (MM × Int32)) (μ : MM) (x1 : Int32) : Option (MM × Int32) :=
 (if (μ.1 0 3) ≤ x1 then
 g_X4_ring_103 μ
 else
 (ck (vp_in ((2 : Int32) * x1) 12) <|
 (nm ((μ.1 2 (((2 : Int32) * x1)).toNatClampNeg)) fun v18 : Int32 =>
 (ck (vp_in ((4 : Int32) * x1) 24) <|
 (nm (upM μ 3 (((4 : Int32) * x1)).toNatClampNeg v18) fun μ20 : MM =>
 (ck (vp_in (((2 : Int32) * x1) + (1 : Int32)) 12) <|
 (nm ((μ20.1 2 ((((2 : Int32) * x1) + (1 : Int32))).toNatClampNeg)) fun v22 : Int32 =>
 (ck (vp_in (((4 : Int32) * x1) + (1 : Int32)) 24) <|
 (nm (upM μ20 3 ((((4 : Int32) * x1) + (1 : Int32))).toNatClampNeg v22) fun μ24 : MM =>
 (ck (vp_in (((4 : Int32) * x1) + (2 : Int32)) 24) <|
 (nm (upM μ24 3 ((((4 : Int32) * x1) + (2 : Int32))).toNatClampNeg x1) fun μ26 : MM =>
 (ck (vp_in (((4 : Int32) * x1) + (3 : Int32)) 24) <|
 (nm (upM μ26 3 ((((4 : Int32) * x1) + (3 : Int32))).toNatClampNeg (0 : Int32)) fun μ28 : MM =>
 (ck (vp_in x1 6) <|
 (nm (upM μ28 4 (x1).toNatClampNeg x1) fun μ30 : MM =>
 ih24 (μ30, (x1 + (1 : Int32))))))))))))))))))
set_option maxHeartbeats 4000000 in
theorem zl_X4_ring_24 {X : ZX} {G : GW} {μ' : MM} {r : Int32} (C : CX X (YM G) cX4_ring 2 RX4 { frames := 3, cells := 0, slots := 0, locals := 69 }) (hR : ZR X (YM G) (some .int) μ' (some (.int r))) : ∀ (n : Nat) (σ : MM × Int32), lp (fun ih σ => b_X4_ring_24 ih σ.1 σ.2) n σ = some (μ', r) → Z X (YM G) 2 σ.1 24 [(0, .ref (G.1 0)), (1, .int σ.2)] [] := by
  refine lp_z (P := fun σ : MM × Int32 => Z X (YM G) 2 σ.1 24 [(0, .ref (G.1 0)), (1, .int σ.2)] []) (fun ih24 hih24 σ hf => ?_)
  obtain ⟨μ, x1⟩ := σ
  have hf : b_X4_ring_24 ih24 μ x1 = some (μ', r) := hf
  show Z X (YM G) 2 μ 24 [(0, .ref (G.1 0)), (1, .int x1)] []
  unfold b_X4_ring_24 at hf
  refine z_iload_n C 1 dX4_ring_24 rfl ?_
  refine z_aload_n C 0 dX4_ring_25 rfl ?_
  refine zg_X4_68_0 C dX4_ring_26 ?_
  refine z_icmp_ge C 103 dX4_ring_29 (by decide) (fun c6 => ?_) (fun c6 => ?_)
  · replace hf := it_t hf c6
    refine z_lv C [0] (lv' := [(0, .ref (G.1 0))]) rfl ?_
    exact zj_X4_ring_103 μ C hR hf
  · replace hf := it_f hf c6
    refine z_aload_n C 0 dX4_ring_32 rfl ?_
    refine zg_X4_16_0 C dX4_ring_33 ?_
    refine z_iconst C dX4_ring_36 (v := (4 : Int32)) (by decide) ?_
    refine z_iload_n C 1 dX4_ring_37 rfl ?_
    refine z_imul C dX4_ring_38 ?_
    refine z_aload_n C 0 dX4_ring_39 rfl ?_
    refine zg_X4_13_0 C dX4_ring_40 ?_
    refine z_iconst C dX4_ring_43 (v := (2 : Int32)) (by decide) ?_
    refine z_iload_n C 1 dX4_ring_44 rfl ?_
    refine z_imul C dX4_ring_45 ?_
    obtain ⟨h17, hf⟩ := ck_e hf
    refine zMl_2 C dX4_ring_46 h17 ?_
    refine z_topi (fun v18 ev18 => ?_)
    replace hf := nm_e2 hf v18 ev18
    obtain ⟨h19, hf⟩ := ck_e hf
    refine zMs_3 C dX4_ring_47 h19 ?_
    refine z_mem (fun μ20 eμ20 => ?_)
    replace hf := nm_e2 hf μ20 eμ20
    refine z_aload_n C 0 dX4_ring_48 rfl ?_
    refine zg_X4_16_0 C dX4_ring_49 ?_
    refine z_iconst C dX4_ring_52 (v := (4 : Int32)) (by decide) ?_
    refine z_iload_n C 1 dX4_ring_53 rfl ?_
    refine z_imul C dX4_ring_54 ?_
    refine z_iconst C dX4_ring_55 (v := (1 : Int32)) (by decide) ?_
    refine z_iadd C dX4_ring_56 ?_
    refine z_aload_n C 0 dX4_ring_57 rfl ?_
    refine zg_X4_13_0 C dX4_ring_58 ?_
    refine z_iconst C dX4_ring_61 (v := (2 : Int32)) (by decide) ?_
    refine z_iload_n C 1 dX4_ring_62 rfl ?_
    refine z_imul C dX4_ring_63 ?_
    refine z_iconst C dX4_ring_64 (v := (1 : Int32)) (by decide) ?_
    refine z_iadd C dX4_ring_65 ?_
    obtain ⟨h21, hf⟩ := ck_e hf
    refine zMl_2 C dX4_ring_66 h21 ?_
    refine z_topi (fun v22 ev22 => ?_)
    replace hf := nm_e2 hf v22 ev22
    obtain ⟨h23, hf⟩ := ck_e hf
    refine zMs_3 C dX4_ring_67 h23 ?_
    refine z_mem (fun μ24 eμ24 => ?_)
    replace hf := nm_e2 hf μ24 eμ24
    refine z_aload_n C 0 dX4_ring_68 rfl ?_
    refine zg_X4_16_0 C dX4_ring_69 ?_
    refine z_iconst C dX4_ring_72 (v := (4 : Int32)) (by decide) ?_
    refine z_iload_n C 1 dX4_ring_73 rfl ?_
    refine z_imul C dX4_ring_74 ?_
    refine z_iconst C dX4_ring_75 (v := (2 : Int32)) (by decide) ?_
    refine z_iadd C dX4_ring_76 ?_
    refine z_iload_n C 1 dX4_ring_77 rfl ?_
    obtain ⟨h25, hf⟩ := ck_e hf
    refine zMs_3 C dX4_ring_78 h25 ?_
    refine z_mem (fun μ26 eμ26 => ?_)
    replace hf := nm_e2 hf μ26 eμ26
    refine z_aload_n C 0 dX4_ring_79 rfl ?_
    refine zg_X4_16_0 C dX4_ring_80 ?_
    refine z_iconst C dX4_ring_83 (v := (4 : Int32)) (by decide) ?_
    refine z_iload_n C 1 dX4_ring_84 rfl ?_
    refine z_imul C dX4_ring_85 ?_
    refine z_iconst C dX4_ring_86 (v := (3 : Int32)) (by decide) ?_
    refine z_iadd C dX4_ring_87 ?_
    refine z_iconst C dX4_ring_88 (v := (0 : Int32)) (by decide) ?_
    obtain ⟨h27, hf⟩ := ck_e hf
    refine zMs_3 C dX4_ring_89 h27 ?_
    refine z_mem (fun μ28 eμ28 => ?_)
    replace hf := nm_e2 hf μ28 eμ28
    refine z_aload_n C 0 dX4_ring_90 rfl ?_
    refine zg_X4_19_0 C dX4_ring_91 ?_
    refine z_iload_n C 1 dX4_ring_94 rfl ?_
    refine z_iload_n C 1 dX4_ring_95 rfl ?_
    obtain ⟨h29, hf⟩ := ck_e hf
    refine zMs_4 C dX4_ring_96 h29 ?_
    refine z_mem (fun μ30 eμ30 => ?_)
    replace hf := nm_e2 hf μ30 eμ30
    refine z_iinc C 1 dX4_ring_97 (v := (x1 + (1 : Int32))) (lv' := [(1, .int (x1 + (1 : Int32))), (0, .ref (G.1 0))]) rfl rfl (by decide) rfl ?_
    refine z_goto C 24 dX4_ring_100 (by decide) ?_
    refine z_lv C [1, 0] (lv' := [(0, .ref (G.1 0)), (1, .int (x1 + (1 : Int32)))]) rfl ?_
    exact hih24 (μ30, (x1 + (1 : Int32))) hf
noncomputable def f_X4_ring (μ : MM) : Option (MM × Int32) :=
 (bd2 (f_X4_faultOf μ) fun μ2 v3 =>
 (if v3 < (μ2.1 0 1) then
 (some (μ2, (-103 : Int32)))
 else
 (if (μ2.1 0 5) = (4 : Int32) then
 lp (fun ih σ => b_X4_ring_24 ih σ.1 σ.2) fu (μ2, (0 : Int32))
 else
 (some (μ2, (-103 : Int32))))))
set_option maxHeartbeats 4000000 in
theorem c_X4_ring {l : Launch} {G : GW} {μ : MM} {μ' : MM} {r : Int32} (hf : f_X4_ring μ = some (μ', r)) : MZ l (YM G) yX4_ring cX4_ring 2 (some .int) { frames := 3, cells := 0, slots := 0, locals := 69 } [.ref (G.1 0)] μ μ' (some (.int r)) := by
  refine z_met RX4 rfl (by decide) (Nat.le_of_ble_eq_true rfl) (fun X hX C hR => ?_)
  show Z X (YM G) 2 μ 0 [(0, .ref (G.1 0))] []
  unfold f_X4_ring at hf
  refine z_aload_n C 0 dX4_ring_0 rfl ?_
  obtain ⟨μ2, v3, h1, hf⟩ := bd2_e hf
  refine z_callVi C (As := []) (rest := []) (c_X4_faultOf h1) vw_X4_84 ⟨rfl, rfl, by decide, by decide⟩ (z_rv C (q0 := 0) (ci := 4) rfl rfl rfl) rfl (Nat.le_of_ble_eq_true rfl) dX4_ring_1 ?_
  refine z_aload_n C 0 dX4_ring_4 rfl ?_
  refine zg_X4_62_0 C dX4_ring_5 ?_
  refine z_icmp_lt C 19 dX4_ring_8 (by decide) (fun c4 => ?_) (fun c4 => ?_)
  · replace hf := it_t hf c4
    refine z_bipush C dX4_ring_19 (v := (-103 : Int32)) (by decide) ?_
    exact z_iret C hR dX4_ring_21 (rt2 hf).1 (rt2 hf).2
  · replace hf := it_f hf c4
    refine z_aload_n C 0 dX4_ring_11 rfl ?_
    refine zg_X4_65_0 C dX4_ring_12 ?_
    refine z_iconst C dX4_ring_15 (v := (4 : Int32)) (by decide) ?_
    refine z_icmp_eq C 22 dX4_ring_16 (by decide) (fun c5 => ?_) (fun c5 => ?_)
    · replace hf := it_t hf c5
      refine z_iconst C dX4_ring_22 (v := (0 : Int32)) (by decide) ?_
      refine z_istore_n C dX4_ring_23 (i := 1) (lv' := [(1, .int (0 : Int32)), (0, .ref (G.1 0))]) rfl (by decide) rfl ?_
      refine z_lv C [1, 0] (lv' := [(0, .ref (G.1 0)), (1, .int (0 : Int32))]) rfl ?_
      exact zl_X4_ring_24 C hR fu (μ2, (0 : Int32)) hf
    · replace hf := it_f hf c5
      refine z_bipush C dX4_ring_19 (v := (-103 : Int32)) (by decide) ?_
      exact z_iret C hR dX4_ring_21 (rt2 hf).1 (rt2 hf).2
noncomputable def f_X4_lacks (μ : MM) : Int32 :=
 (if (μ.1 0 6) = 0 then
 (1 : Int32)
 else
 (0 : Int32))
set_option maxHeartbeats 4000000 in
theorem c_X4_lacks {l : Launch} {G : GW} {μ : MM} {r : Int32} (hf : f_X4_lacks μ = r) : MZ l (YM G) yX4_lacks cX4_lacks 1 (some .boolean) { frames := 0, cells := 0, slots := 0, locals := 0 } [.ref (G.1 0)] μ μ (some (.int r)) := by
  refine z_met RX4 rfl (by decide) (Nat.le_of_ble_eq_true rfl) (fun X hX C hR => ?_)
  show Z X (YM G) 1 μ 0 [(0, .ref (G.1 0))] []
  unfold f_X4_lacks at hf
  refine z_aload_n C 0 dX4_lacks_0 rfl ?_
  refine zg_X4_88_0 C dX4_lacks_1 ?_
  refine z_if_ne C 11 dX4_lacks_4 (by decide) (fun c1 => ?_) (fun c1 => ?_)
  · replace hf := it_f hf c1
    refine z_iconst C dX4_lacks_11 (v := (0 : Int32)) (by decide) ?_
    exact z_zret C hR dX4_lacks_12 rfl rfl hf
  · replace hf := it_t hf c1
    refine z_iconst C dX4_lacks_7 (v := (1 : Int32)) (by decide) ?_
    refine z_goto C 12 dX4_lacks_8 (by decide) ?_
    exact z_zret C hR dX4_lacks_12 rfl rfl hf
theorem bz_X4_lacks {μ : MM} : narrow .boolean (.int (f_X4_lacks μ)) = .int (f_X4_lacks μ) := by
  simp only [f_X4_lacks, nm]
  (repeat' split)
  all_goals first | rfl | exact bz_X4_in
noncomputable def f_X4_isRook (μ : MM) (x1 : Int32) : Int32 :=
 (nm (f_X4_in μ (x1).toInt64 (0 : Int64) (((μ.1 0 6) - (1 : Int32))).toInt64) fun v2 : Int32 =>
 v2)
set_option maxHeartbeats 4000000 in
theorem c_X4_isRook {l : Launch} {G : GW} {μ : MM} {x1 : Int32} {r : Int32} (hf : f_X4_isRook μ x1 = r) : MZ l (YM G) yX4_isRook cX4_isRook 2 (some .boolean) { frames := 1, cells := 0, slots := 0, locals := 25 } [.ref (G.1 0), .int x1] μ μ (some (.int r)) := by
  refine z_met RX4 rfl (by decide) (Nat.le_of_ble_eq_true rfl) (fun X hX C hR => ?_)
  show Z X (YM G) 2 μ 0 [(0, .ref (G.1 0)), (1, .int x1)] []
  unfold f_X4_isRook at hf
  refine z_iload_n C 1 dX4_isRook_0 rfl ?_
  refine z_i2l C dX4_isRook_1 ?_
  refine z_lconst C dX4_isRook_2 (v := (0 : Int64)) (by decide) ?_
  refine z_aload_n C 0 dX4_isRook_3 rfl ?_
  refine zg_X4_88_0 C dX4_isRook_4 ?_
  refine z_iconst C dX4_isRook_7 (v := (1 : Int32)) (by decide) ?_
  refine z_isub C dX4_isRook_8 ?_
  refine z_i2l C dX4_isRook_9 ?_
  obtain ⟨v2, h1⟩ : ∃ z, z = f_X4_in μ (x1).toInt64 (0 : Int64) (((μ.1 0 6) - (1 : Int32))).toInt64 := ⟨_, rfl⟩
  replace hf := nm_e2 hf v2 h1
  refine z_callSi C (As := [.long (x1).toInt64, .long (0 : Int64), .long (((μ.1 0 6) - (1 : Int32))).toInt64]) (rest := []) (c_X4_in h1.symm) sw_X4_58 ⟨rfl, rfl, by decide, by decide⟩ rfl (Nat.le_of_ble_eq_true rfl) dX4_isRook_10 ?_
  exact z_zret C hR dX4_isRook_13 (by rw [h1]; exact bz_X4_in) rfl hf
theorem bz_X4_isRook {μ : MM} {x1 : Int32} : narrow .boolean (.int (f_X4_isRook μ x1)) = .int (f_X4_isRook μ x1) := by
  simp only [f_X4_isRook, nm]
  (repeat' split)
  all_goals first | rfl | exact bz_X4_in
noncomputable def f_X4_isWord (μ : MM) (x0 : Int32) : Int32 :=
 (nm (f_X4_in μ (x0).toInt64 (0 : Int64) (7 : Int64)) fun v2 : Int32 =>
 v2)
set_option maxHeartbeats 4000000 in
theorem c_X4_isWord {l : Launch} {G : GW} {μ : MM} {x0 : Int32} {r : Int32} (hf : f_X4_isWord μ x0 = r) : MZ l (YM G) yX4_isWord cX4_isWord 1 (some .boolean) { frames := 1, cells := 0, slots := 0, locals := 25 } [.int x0] μ μ (some (.int r)) := by
  refine z_met RX4 rfl (by decide) (Nat.le_of_ble_eq_true rfl) (fun X hX C hR => ?_)
  show Z X (YM G) 1 μ 0 [(0, .int x0)] []
  unfold f_X4_isWord at hf
  refine z_iload_n C 0 dX4_isWord_0 rfl ?_
  refine z_i2l C dX4_isWord_1 ?_
  refine z_lconst C dX4_isWord_2 (v := (0 : Int64)) (by decide) ?_
  refine z_ldc2 C dX4_isWord_3 (v := (7 : Int64)) (ww_in 713 (by decide +kernel) (by decide +kernel)) ?_
  obtain ⟨v2, h1⟩ : ∃ z, z = f_X4_in μ (x0).toInt64 (0 : Int64) (7 : Int64) := ⟨_, rfl⟩
  replace hf := nm_e2 hf v2 h1
  refine z_callSi C (As := [.long (x0).toInt64, .long (0 : Int64), .long (7 : Int64)]) (rest := []) (c_X4_in h1.symm) sw_X4_58 ⟨rfl, rfl, by decide, by decide⟩ rfl (Nat.le_of_ble_eq_true rfl) dX4_isWord_6 ?_
  exact z_zret C hR dX4_isWord_9 (by rw [h1]; exact bz_X4_in) rfl hf
theorem bz_X4_isWord {μ : MM} {x0 : Int32} : narrow .boolean (.int (f_X4_isWord μ x0)) = .int (f_X4_isWord μ x0) := by
  simp only [f_X4_isWord, nm]
  (repeat' split)
  all_goals first | rfl | exact bz_X4_in
noncomputable def g_X4_makes_38 (μ : MM) (t0 : Int32) (t1 : Int32) : Int32 :=
 ((t1 + t0) - (t1 + t0) / (8 : Int32) * (8 : Int32))
set_option maxHeartbeats 4000000 in
theorem zj_X4_makes_38 {X : ZX} {G : GW} {r : Int32} (μ : MM) (t0 : Int32) (t1 : Int32) (C : CX X (YM G) cX4_makes 4 RX4 { frames := 0, cells := 0, slots := 0, locals := 0 }) (hR : ZR X (YM G) (some .int) μ (some (.int r))) (hf : g_X4_makes_38 μ t0 t1 = r) : Z X (YM G) 4 μ 38 [] [.int t0, .int t1] := by
  unfold g_X4_makes_38 at hf
  refine z_iadd C dX4_makes_38 ?_
  refine z_bipush C dX4_makes_39 (v := (8 : Int32)) (by decide) ?_
  refine z_irem C dX4_makes_41 (by decide) ?_
  refine z_goto C 46 dX4_makes_42 (by decide) ?_
  exact z_iret C hR dX4_makes_46 rfl hf
noncomputable def g_X4_makes_21 (μ : MM) (x0 : Int32) (x1 : Int32) (x2 : Int32) (x3 : Int32) : Int32 :=
 (if x0 = (4 : Int32) then
 g_X4_makes_38 μ (1 : Int32) (((x3 + x1) + (x1 * x2)))
 else
 g_X4_makes_38 μ (0 : Int32) (((x3 + x1) + (x1 * x2))))
set_option maxHeartbeats 4000000 in
theorem zj_X4_makes_21 {X : ZX} {G : GW} {r : Int32} (μ : MM) (x0 : Int32) (x1 : Int32) (x2 : Int32) (x3 : Int32) (C : CX X (YM G) cX4_makes 4 RX4 { frames := 0, cells := 0, slots := 0, locals := 0 }) (hR : ZR X (YM G) (some .int) μ (some (.int r))) (hf : g_X4_makes_21 μ x0 x1 x2 x3 = r) : Z X (YM G) 4 μ 21 [(0, .int x0), (1, .int x1), (2, .int x2), (3, .int x3)] [] := by
  unfold g_X4_makes_21 at hf
  refine z_iload_n C 3 dX4_makes_21 rfl ?_
  refine z_iload_n C 1 dX4_makes_22 rfl ?_
  refine z_iadd C dX4_makes_23 ?_
  refine z_iload_n C 1 dX4_makes_24 rfl ?_
  refine z_iload_n C 2 dX4_makes_25 rfl ?_
  refine z_imul C dX4_makes_26 ?_
  refine z_iadd C dX4_makes_27 ?_
  refine z_iload_n C 0 dX4_makes_28 rfl ?_
  refine z_iconst C dX4_makes_29 (v := (4 : Int32)) (by decide) ?_
  refine z_icmp_ne C 37 dX4_makes_30 (by decide) (fun c3 => ?_) (fun c3 => ?_)
  · replace hf := it_f hf c3
    refine z_iconst C dX4_makes_37 (v := (0 : Int32)) (by decide) ?_
    refine z_lv C [] (lv' := []) rfl ?_
    exact zj_X4_makes_38 μ (0 : Int32) (((x3 + x1) + (x1 * x2))) C hR hf
  · replace hf := it_t hf c3
    refine z_iconst C dX4_makes_33 (v := (1 : Int32)) (by decide) ?_
    refine z_goto C 38 dX4_makes_34 (by decide) ?_
    refine z_lv C [] (lv' := []) rfl ?_
    exact zj_X4_makes_38 μ (1 : Int32) (((x3 + x1) + (x1 * x2))) C hR hf
noncomputable def f_X4_makes (μ : MM) (x0 : Int32) (x1 : Int32) (x2 : Int32) (x3 : Int32) : Int32 :=
 (if x0 = (1 : Int32) then
 (x3 ^^^ x1)
 else
 (if x0 = (2 : Int32) then
 g_X4_makes_21 μ x0 x1 x2 x3
 else
 (if x0 = (4 : Int32) then
 g_X4_makes_21 μ x0 x1 x2 x3
 else
 x3)))
set_option maxHeartbeats 4000000 in
theorem c_X4_makes {l : Launch} {G : GW} {μ : MM} {x0 : Int32} {x1 : Int32} {x2 : Int32} {x3 : Int32} {r : Int32} (hf : f_X4_makes μ x0 x1 x2 x3 = r) : MZ l (YM G) yX4_makes cX4_makes 4 (some .int) { frames := 0, cells := 0, slots := 0, locals := 0 } [.int x0, .int x1, .int x2, .int x3] μ μ (some (.int r)) := by
  refine z_met RX4 rfl (by decide) (Nat.le_of_ble_eq_true rfl) (fun X hX C hR => ?_)
  show Z X (YM G) 4 μ 0 [(0, .int x0), (1, .int x1), (2, .int x2), (3, .int x3)] []
  unfold f_X4_makes at hf
  refine z_iload_n C 0 dX4_makes_0 rfl ?_
  refine z_iconst C dX4_makes_1 (v := (1 : Int32)) (by decide) ?_
  refine z_icmp_ne C 11 dX4_makes_2 (by decide) (fun c1 => ?_) (fun c1 => ?_)
  · replace hf := it_f hf c1
    refine z_iload_n C 0 dX4_makes_11 rfl ?_
    refine z_iconst C dX4_makes_12 (v := (2 : Int32)) (by decide) ?_
    refine z_icmp_eq C 21 dX4_makes_13 (by decide) (fun c2 => ?_) (fun c2 => ?_)
    · replace hf := it_t hf c2
      exact zj_X4_makes_21 μ x0 x1 x2 x3 C hR hf
    · replace hf := it_f hf c2
      refine z_iload_n C 0 dX4_makes_16 rfl ?_
      refine z_iconst C dX4_makes_17 (v := (4 : Int32)) (by decide) ?_
      refine z_icmp_ne C 45 dX4_makes_18 (by decide) (fun c4 => ?_) (fun c4 => ?_)
      · replace hf := it_f hf c4
        refine z_iload_n C 3 dX4_makes_45 rfl ?_
        exact z_iret C hR dX4_makes_46 rfl hf
      · replace hf := it_t hf c4
        exact zj_X4_makes_21 μ x0 x1 x2 x3 C hR hf
  · replace hf := it_t hf c1
    refine z_iload_n C 3 dX4_makes_5 rfl ?_
    refine z_iload_n C 1 dX4_makes_6 rfl ?_
    refine z_ixor C dX4_makes_7 ?_
    refine z_goto C 46 dX4_makes_8 (by decide) ?_
    exact z_iret C hR dX4_makes_46 rfl hf
noncomputable def f_X4_tell (μ : MM) (x1 : Int32) (x2 : Int32) : Option Int32 :=
 (nm (f_X4_in μ (x2).toInt64 (10 : Int64) (17 : Int64)) fun v2 : Int32 =>
 (if v2 = 0 then
 (nm (f_X4_in μ (x2).toInt64 (0 : Int64) (3 : Int64)) fun v5 : Int32 =>
 (if v5 = 0 then
 (some (-102 : Int32))
 else
 (ck (vp_in (((4 : Int32) * x1) + x2) 24) <|
 (some (μ.1 3 ((((4 : Int32) * x1) + x2)).toNatClampNeg)))))
 else
 (ck (vp_in ((4 : Int32) * x1) 24) <|
 (ck (vp_in (((4 : Int32) * x1) + (1 : Int32)) 24) <|
 (nm (f_X4_makes μ (μ.1 3 (((4 : Int32) * x1)).toNatClampNeg) (μ.1 3 ((((4 : Int32) * x1) + (1 : Int32))).toNatClampNeg) (μ.1 0 7) (x2 - (10 : Int32))) fun v11 : Int32 =>
 (some v11))))))
set_option maxHeartbeats 4000000 in
theorem c_X4_tell {l : Launch} {G : GW} {μ : MM} {x1 : Int32} {x2 : Int32} {r : Int32} (hf : f_X4_tell μ x1 x2 = some r) : MZ l (YM G) yX4_tell cX4_tell 3 (some .int) { frames := 1, cells := 0, slots := 0, locals := 25 } [.ref (G.1 0), .int x1, .int x2] μ μ (some (.int r)) := by
  refine z_met RX4 rfl (by decide) (Nat.le_of_ble_eq_true rfl) (fun X hX C hR => ?_)
  show Z X (YM G) 3 μ 0 [(0, .ref (G.1 0)), (1, .int x1), (2, .int x2)] []
  unfold f_X4_tell at hf
  refine z_iload_n C 2 dX4_tell_0 rfl ?_
  refine z_i2l C dX4_tell_1 ?_
  refine z_ldc2 C dX4_tell_2 (v := (10 : Int64)) (ww_in 730 (by decide +kernel) (by decide +kernel)) ?_
  refine z_ldc2 C dX4_tell_5 (v := (17 : Int64)) (ww_in 731 (by decide +kernel) (by decide +kernel)) ?_
  obtain ⟨v2, h1⟩ : ∃ z, z = f_X4_in μ (x2).toInt64 (10 : Int64) (17 : Int64) := ⟨_, rfl⟩
  replace hf := nm_e2 hf v2 h1
  refine z_callSi C (As := [.long (x2).toInt64, .long (10 : Int64), .long (17 : Int64)]) (rest := []) (c_X4_in h1.symm) sw_X4_58 ⟨rfl, rfl, by decide, by decide⟩ rfl (Nat.le_of_ble_eq_true rfl) dX4_tell_8 ?_
  refine z_if_eq C 44 dX4_tell_11 (by decide) (fun c3 => ?_) (fun c3 => ?_)
  · replace hf := it_t hf c3
    refine z_iload_n C 2 dX4_tell_44 rfl ?_
    refine z_i2l C dX4_tell_45 ?_
    refine z_lconst C dX4_tell_46 (v := (0 : Int64)) (by decide) ?_
    refine z_ldc2 C dX4_tell_47 (v := (3 : Int64)) (ww_in 735 (by decide +kernel) (by decide +kernel)) ?_
    obtain ⟨v5, h4⟩ : ∃ z, z = f_X4_in μ (x2).toInt64 (0 : Int64) (3 : Int64) := ⟨_, rfl⟩
    replace hf := nm_e2 hf v5 h4
    refine z_callSi C (As := [.long (x2).toInt64, .long (0 : Int64), .long (3 : Int64)]) (rest := []) (c_X4_in h4.symm) sw_X4_58 ⟨rfl, rfl, by decide, by decide⟩ rfl (Nat.le_of_ble_eq_true rfl) dX4_tell_50 ?_
    refine z_if_eq C 69 dX4_tell_53 (by decide) (fun c6 => ?_) (fun c6 => ?_)
    · replace hf := it_t hf c6
      refine z_bipush C dX4_tell_69 (v := (-102 : Int32)) (by decide) ?_
      exact z_iret C hR dX4_tell_71 rfl (rt1 hf)
    · replace hf := it_f hf c6
      refine z_aload_n C 0 dX4_tell_56 rfl ?_
      refine zg_X4_16_0 C dX4_tell_57 ?_
      refine z_iconst C dX4_tell_60 (v := (4 : Int32)) (by decide) ?_
      refine z_iload_n C 1 dX4_tell_61 rfl ?_
      refine z_imul C dX4_tell_62 ?_
      refine z_iload_n C 2 dX4_tell_63 rfl ?_
      refine z_iadd C dX4_tell_64 ?_
      obtain ⟨h7, hf⟩ := ck_e hf
      refine zMl_3 C dX4_tell_65 h7 ?_
      refine z_goto C 71 dX4_tell_66 (by decide) ?_
      exact z_iret C hR dX4_tell_71 rfl (rt1 hf)
  · replace hf := it_f hf c3
    refine z_aload_n C 0 dX4_tell_14 rfl ?_
    refine zg_X4_16_0 C dX4_tell_15 ?_
    refine z_iconst C dX4_tell_18 (v := (4 : Int32)) (by decide) ?_
    refine z_iload_n C 1 dX4_tell_19 rfl ?_
    refine z_imul C dX4_tell_20 ?_
    obtain ⟨h8, hf⟩ := ck_e hf
    refine zMl_3 C dX4_tell_21 h8 ?_
    refine z_aload_n C 0 dX4_tell_22 rfl ?_
    refine zg_X4_16_0 C dX4_tell_23 ?_
    refine z_iconst C dX4_tell_26 (v := (4 : Int32)) (by decide) ?_
    refine z_iload_n C 1 dX4_tell_27 rfl ?_
    refine z_imul C dX4_tell_28 ?_
    refine z_iconst C dX4_tell_29 (v := (1 : Int32)) (by decide) ?_
    refine z_iadd C dX4_tell_30 ?_
    obtain ⟨h9, hf⟩ := ck_e hf
    refine zMl_3 C dX4_tell_31 h9 ?_
    refine z_aload_n C 0 dX4_tell_32 rfl ?_
    refine zg_X4_91_0 C dX4_tell_33 ?_
    refine z_iload_n C 2 dX4_tell_36 rfl ?_
    refine z_bipush C dX4_tell_37 (v := (10 : Int32)) (by decide) ?_
    refine z_isub C dX4_tell_39 ?_
    obtain ⟨v11, h10⟩ : ∃ z, z = f_X4_makes μ (μ.1 3 (((4 : Int32) * x1)).toNatClampNeg) (μ.1 3 ((((4 : Int32) * x1) + (1 : Int32))).toNatClampNeg) (μ.1 0 7) (x2 - (10 : Int32)) := ⟨_, rfl⟩
    replace hf := nm_e2 hf v11 h10
    refine z_callSi C (As := [.int (μ.1 3 (((4 : Int32) * x1)).toNatClampNeg), .int (μ.1 3 ((((4 : Int32) * x1) + (1 : Int32))).toNatClampNeg), .int (μ.1 0 7), .int (x2 - (10 : Int32))]) (rest := []) (c_X4_makes h10.symm) sw_X4_107 ⟨rfl, rfl, by decide, by decide⟩ rfl (Nat.le_of_ble_eq_true rfl) dX4_tell_40 ?_
    exact z_iret C hR dX4_tell_43 rfl (rt1 hf)
noncomputable def f_X4_about (μ : MM) (x1 : Int32) (x2 : Int32) : Option Int32 :=
 (nm (f_X4_isRook μ x1) fun v2 : Int32 =>
 (if v2 = 0 then
 (some (-101 : Int32))
 else
 (bd (f_X4_tell μ x1 x2) fun v5 =>
 (some v5))))
set_option maxHeartbeats 4000000 in
theorem c_X4_about {l : Launch} {G : GW} {μ : MM} {x1 : Int32} {x2 : Int32} {r : Int32} (hf : f_X4_about μ x1 x2 = some r) : MZ l (YM G) yX4_about cX4_about 3 (some .int) { frames := 2, cells := 0, slots := 0, locals := 47 } [.ref (G.1 0), .int x1, .int x2] μ μ (some (.int r)) := by
  refine z_met RX4 rfl (by decide) (Nat.le_of_ble_eq_true rfl) (fun X hX C hR => ?_)
  show Z X (YM G) 3 μ 0 [(0, .ref (G.1 0)), (1, .int x1), (2, .int x2)] []
  unfold f_X4_about at hf
  refine z_aload_n C 0 dX4_about_0 rfl ?_
  refine z_iload_n C 1 dX4_about_1 rfl ?_
  obtain ⟨v2, h1⟩ : ∃ z, z = f_X4_isRook μ x1 := ⟨_, rfl⟩
  replace hf := nm_e2 hf v2 h1
  refine z_callVi C (As := [.int x1]) (rest := []) (c_X4_isRook h1.symm) vw_X4_113 ⟨rfl, rfl, by decide, by decide⟩ (z_rv C (q0 := 0) (ci := 4) rfl rfl rfl) rfl (Nat.le_of_ble_eq_true rfl) dX4_about_2 ?_
  refine z_if_eq C 17 dX4_about_5 (by decide) (fun c3 => ?_) (fun c3 => ?_)
  · replace hf := it_t hf c3
    refine z_bipush C dX4_about_17 (v := (-101 : Int32)) (by decide) ?_
    exact z_iret C hR dX4_about_19 rfl (rt1 hf)
  · replace hf := it_f hf c3
    refine z_aload_n C 0 dX4_about_8 rfl ?_
    refine z_iload_n C 1 dX4_about_9 rfl ?_
    refine z_iload_n C 2 dX4_about_10 rfl ?_
    obtain ⟨v5, h4, hf⟩ := bd_e hf
    refine z_callVi C (As := [.int x1, .int x2]) (rest := []) (c_X4_tell h4) vw_X4_116 ⟨rfl, rfl, by decide, by decide⟩ (z_rv C (q0 := 0) (ci := 4) rfl rfl rfl) rfl (Nat.le_of_ble_eq_true rfl) dX4_about_11 ?_
    refine z_goto C 19 dX4_about_14 (by decide) ?_
    exact z_iret C hR dX4_about_19 rfl (rt1 hf)
noncomputable def g_X4_as_59 (μ : MM) (x1 : Int32) (t0 : Int32) : Option Int32 :=
 (if t0 = 0 then
 (some (-1 : Int32))
 else
 (some x1))
set_option maxHeartbeats 4000000 in
theorem zj_X4_as_59 {X : ZX} {G : GW} {r : Int32} (μ : MM) (x1 : Int32) (t0 : Int32) (C : CX X (YM G) cX4_as 5 RX4 { frames := 2, cells := 0, slots := 0, locals := 46 }) (hR : ZR X (YM G) (some .int) μ (some (.int r))) (hf : g_X4_as_59 μ x1 t0 = some r) : Z X (YM G) 5 μ 59 [(1, .int x1)] [.int t0] := by
  unfold g_X4_as_59 at hf
  refine z_istore C dX4_as_59 (i := 4) (lv' := [(4, .int t0), (1, .int x1)]) (by decide) rfl ?_
  refine z_iload C 0 dX4_as_61 rfl ?_
  refine z_if_eq C 70 dX4_as_63 (by decide) (fun c10 => ?_) (fun c10 => ?_)
  · replace hf := it_t hf c10
    refine z_iconst C dX4_as_70 (v := (-1 : Int32)) (by decide) ?_
    exact z_iret C hR dX4_as_71 rfl (rt1 hf)
  · replace hf := it_f hf c10
    refine z_iload_n C 1 dX4_as_66 rfl ?_
    refine z_goto C 71 dX4_as_67 (by decide) ?_
    exact z_iret C hR dX4_as_71 rfl (rt1 hf)
noncomputable def g_X4_as_54 (μ : MM) (x1 : Int32) : Option Int32 :=
 g_X4_as_59 μ x1 (1 : Int32)
set_option maxHeartbeats 4000000 in
theorem zj_X4_as_54 {X : ZX} {G : GW} {r : Int32} (μ : MM) (x1 : Int32) (C : CX X (YM G) cX4_as 5 RX4 { frames := 2, cells := 0, slots := 0, locals := 46 }) (hR : ZR X (YM G) (some .int) μ (some (.int r))) (hf : g_X4_as_54 μ x1 = some r) : Z X (YM G) 5 μ 54 [(1, .int x1)] [] := by
  unfold g_X4_as_54 at hf
  refine z_iconst C dX4_as_54 (v := (1 : Int32)) (by decide) ?_
  refine z_goto C 59 dX4_as_55 (by decide) ?_
  exact zj_X4_as_59 μ x1 (1 : Int32) C hR hf
noncomputable def g_X4_as_58 (μ : MM) (x1 : Int32) : Option Int32 :=
 g_X4_as_59 μ x1 (0 : Int32)
set_option maxHeartbeats 4000000 in
theorem zj_X4_as_58 {X : ZX} {G : GW} {r : Int32} (μ : MM) (x1 : Int32) (C : CX X (YM G) cX4_as 5 RX4 { frames := 2, cells := 0, slots := 0, locals := 46 }) (hR : ZR X (YM G) (some .int) μ (some (.int r))) (hf : g_X4_as_58 μ x1 = some r) : Z X (YM G) 5 μ 58 [(1, .int x1)] [] := by
  unfold g_X4_as_58 at hf
  refine z_iconst C dX4_as_58 (v := (0 : Int32)) (by decide) ?_
  exact zj_X4_as_59 μ x1 (0 : Int32) C hR hf
noncomputable def f_X4_as (μ : MM) (x1 : Int32) (x2 : Int32) : Option Int32 :=
 (nm (f_X4_isRook μ x1) fun v2 : Int32 =>
 (if v2 = 0 then
 (some (-101 : Int32))
 else
 (nm (f_X4_in μ (x2).toInt64 (0 : Int64) (4 : Int64)) fun v5 : Int32 =>
 (if v5 = 0 then
 (some (-102 : Int32))
 else
 (ck (vp_in ((4 : Int32) * x1) 24) <|
 (nm ((μ.1 3 (((4 : Int32) * x1)).toNatClampNeg)) fun v8 : Int32 =>
 (if x2 = 0 then
 g_X4_as_54 μ x1
 else
 (if x2 = v8 then
 g_X4_as_54 μ x1
 else
 (if x2 = (2 : Int32) then
 (if v8 = (4 : Int32) then
 g_X4_as_54 μ x1
 else
 g_X4_as_58 μ x1)
 else
 g_X4_as_58 μ x1)))))))))
set_option maxHeartbeats 4000000 in
theorem c_X4_as {l : Launch} {G : GW} {μ : MM} {x1 : Int32} {x2 : Int32} {r : Int32} (hf : f_X4_as μ x1 x2 = some r) : MZ l (YM G) yX4_as cX4_as 5 (some .int) { frames := 2, cells := 0, slots := 0, locals := 46 } [.ref (G.1 0), .int x1, .int x2] μ μ (some (.int r)) := by
  refine z_met RX4 rfl (by decide) (Nat.le_of_ble_eq_true rfl) (fun X hX C hR => ?_)
  show Z X (YM G) 5 μ 0 [(0, .ref (G.1 0)), (1, .int x1), (2, .int x2)] []
  unfold f_X4_as at hf
  refine z_aload_n C 0 dX4_as_0 rfl ?_
  refine z_iload_n C 1 dX4_as_1 rfl ?_
  obtain ⟨v2, h1⟩ : ∃ z, z = f_X4_isRook μ x1 := ⟨_, rfl⟩
  replace hf := nm_e2 hf v2 h1
  refine z_callVi C (As := [.int x1]) (rest := []) (c_X4_isRook h1.symm) vw_X4_113 ⟨rfl, rfl, by decide, by decide⟩ (z_rv C (q0 := 0) (ci := 4) rfl rfl rfl) rfl (Nat.le_of_ble_eq_true rfl) dX4_as_2 ?_
  refine z_if_ne C 11 dX4_as_5 (by decide) (fun c3 => ?_) (fun c3 => ?_)
  · replace hf := it_f hf c3
    refine z_iload_n C 2 dX4_as_11 rfl ?_
    refine z_i2l C dX4_as_12 ?_
    refine z_lconst C dX4_as_13 (v := (0 : Int64)) (by decide) ?_
    refine z_ldc2 C dX4_as_14 (v := (4 : Int64)) (ww_in 740 (by decide +kernel) (by decide +kernel)) ?_
    obtain ⟨v5, h4⟩ : ∃ z, z = f_X4_in μ (x2).toInt64 (0 : Int64) (4 : Int64) := ⟨_, rfl⟩
    replace hf := nm_e2 hf v5 h4
    refine z_callSi C (As := [.long (x2).toInt64, .long (0 : Int64), .long (4 : Int64)]) (rest := []) (c_X4_in h4.symm) sw_X4_58 ⟨rfl, rfl, by decide, by decide⟩ rfl (Nat.le_of_ble_eq_true rfl) dX4_as_17 ?_
    refine z_if_ne C 26 dX4_as_20 (by decide) (fun c6 => ?_) (fun c6 => ?_)
    · replace hf := it_f hf c6
      refine z_aload_n C 0 dX4_as_26 rfl ?_
      refine zg_X4_16_0 C dX4_as_27 ?_
      refine z_iconst C dX4_as_30 (v := (4 : Int32)) (by decide) ?_
      refine z_iload_n C 1 dX4_as_31 rfl ?_
      refine z_imul C dX4_as_32 ?_
      obtain ⟨h7, hf⟩ := ck_e hf
      refine zMl_3 C dX4_as_33 h7 ?_
      refine z_topi (fun v8 ev8 => ?_)
      replace hf := nm_e2 hf v8 ev8
      refine z_istore_n C dX4_as_34 (i := 3) (lv' := [(3, .int v8), (0, .ref (G.1 0)), (1, .int x1), (2, .int x2)]) rfl (by decide) rfl ?_
      refine z_iload_n C 3 dX4_as_35 rfl ?_
      refine z_if_eq C 54 dX4_as_36 (by decide) (fun c9 => ?_) (fun c9 => ?_)
      · replace hf := it_t hf c9
        refine z_lv C [2] (lv' := [(1, .int x1)]) rfl ?_
        exact zj_X4_as_54 μ x1 C hR hf
      · replace hf := it_f hf c9
        refine z_iload_n C 3 dX4_as_39 rfl ?_
        refine z_iload_n C 0 dX4_as_40 rfl ?_
        refine z_icmp_eq C 54 dX4_as_41 (by decide) (fun c11 => ?_) (fun c11 => ?_)
        · replace hf := it_t hf c11
          refine z_lv C [2] (lv' := [(1, .int x1)]) rfl ?_
          exact zj_X4_as_54 μ x1 C hR hf
        · replace hf := it_f hf c11
          refine z_iload_n C 3 dX4_as_44 rfl ?_
          refine z_iconst C dX4_as_45 (v := (2 : Int32)) (by decide) ?_
          refine z_icmp_ne C 58 dX4_as_46 (by decide) (fun c12 => ?_) (fun c12 => ?_)
          · replace hf := it_f hf c12
            refine z_lv C [2] (lv' := [(1, .int x1)]) rfl ?_
            exact zj_X4_as_58 μ x1 C hR hf
          · replace hf := it_t hf c12
            refine z_iload_n C 0 dX4_as_49 rfl ?_
            refine z_iconst C dX4_as_50 (v := (4 : Int32)) (by decide) ?_
            refine z_icmp_ne C 58 dX4_as_51 (by decide) (fun c13 => ?_) (fun c13 => ?_)
            · replace hf := it_f hf c13
              refine z_lv C [2] (lv' := [(1, .int x1)]) rfl ?_
              exact zj_X4_as_58 μ x1 C hR hf
            · replace hf := it_t hf c13
              refine z_lv C [2] (lv' := [(1, .int x1)]) rfl ?_
              exact zj_X4_as_54 μ x1 C hR hf
    · replace hf := it_t hf c6
      refine z_bipush C dX4_as_23 (v := (-102 : Int32)) (by decide) ?_
      exact z_iret C hR dX4_as_25 rfl (rt1 hf)
  · replace hf := it_t hf c3
    refine z_bipush C dX4_as_8 (v := (-101 : Int32)) (by decide) ?_
    exact z_iret C hR dX4_as_10 rfl (rt1 hf)
noncomputable def f_X4_seat (μ : MM) (x1 : Int32) : Option Int32 :=
 (nm (f_X4_isRook μ x1) fun v2 : Int32 =>
 (if v2 = 0 then
 (some (-101 : Int32))
 else
 (ck (vp_in x1 6) <|
 (some (μ.1 4 (x1).toNatClampNeg)))))
set_option maxHeartbeats 4000000 in
theorem c_X4_seat {l : Launch} {G : GW} {μ : MM} {x1 : Int32} {r : Int32} (hf : f_X4_seat μ x1 = some r) : MZ l (YM G) yX4_seat cX4_seat 2 (some .int) { frames := 2, cells := 0, slots := 0, locals := 46 } [.ref (G.1 0), .int x1] μ μ (some (.int r)) := by
  refine z_met RX4 rfl (by decide) (Nat.le_of_ble_eq_true rfl) (fun X hX C hR => ?_)
  show Z X (YM G) 2 μ 0 [(0, .ref (G.1 0)), (1, .int x1)] []
  unfold f_X4_seat at hf
  refine z_aload_n C 0 dX4_seat_0 rfl ?_
  refine z_iload_n C 1 dX4_seat_1 rfl ?_
  obtain ⟨v2, h1⟩ : ∃ z, z = f_X4_isRook μ x1 := ⟨_, rfl⟩
  replace hf := nm_e2 hf v2 h1
  refine z_callVi C (As := [.int x1]) (rest := []) (c_X4_isRook h1.symm) vw_X4_113 ⟨rfl, rfl, by decide, by decide⟩ (z_rv C (q0 := 0) (ci := 4) rfl rfl rfl) rfl (Nat.le_of_ble_eq_true rfl) dX4_seat_2 ?_
  refine z_if_eq C 17 dX4_seat_5 (by decide) (fun c3 => ?_) (fun c3 => ?_)
  · replace hf := it_t hf c3
    refine z_bipush C dX4_seat_17 (v := (-101 : Int32)) (by decide) ?_
    exact z_iret C hR dX4_seat_19 rfl (rt1 hf)
  · replace hf := it_f hf c3
    refine z_aload_n C 0 dX4_seat_8 rfl ?_
    refine zg_X4_19_0 C dX4_seat_9 ?_
    refine z_iload_n C 1 dX4_seat_12 rfl ?_
    obtain ⟨h4, hf⟩ := ck_e hf
    refine zMl_4 C dX4_seat_13 h4 ?_
    refine z_goto C 19 dX4_seat_14 (by decide) ?_
    exact z_iret C hR dX4_seat_19 rfl (rt1 hf)
noncomputable def f_X4_exchange (μ : MM) (x1 : Int32) (x2 : Int32) : Option (MM × Int32) :=
 (nm (f_X4_isRook μ x1) fun v2 : Int32 =>
 (if v2 = 0 then
 (some (μ, (-101 : Int32)))
 else
 (nm (f_X4_isRook μ x2) fun v5 : Int32 =>
 (if v5 = 0 then
 (some (μ, (-101 : Int32)))
 else
 (ck (vp_in x1 6) <|
 (nm ((μ.1 4 (x1).toNatClampNeg)) fun v8 : Int32 =>
 (ck (vp_in x2 6) <|
 (nm ((μ.1 4 (x2).toNatClampNeg)) fun v10 : Int32 =>
 (nm (upM μ 4 (x1).toNatClampNeg v10) fun μ11 : MM =>
 (nm (upM μ11 4 (x2).toNatClampNeg v8) fun μ12 : MM =>
 (ck (vp_in (((4 : Int32) * (μ12.1 4 (x1).toNatClampNeg)) + (2 : Int32)) 24) <|
 (nm (upM μ12 3 ((((4 : Int32) * (μ12.1 4 (x1).toNatClampNeg)) + (2 : Int32))).toNatClampNeg x1) fun μ14 : MM =>
 (ck (vp_in (((4 : Int32) * (μ14.1 4 (x2).toNatClampNeg)) + (2 : Int32)) 24) <|
 (nm (upM μ14 3 ((((4 : Int32) * (μ14.1 4 (x2).toNatClampNeg)) + (2 : Int32))).toNatClampNeg x2) fun μ16 : MM =>
 (some (μ16, (μ16.1 4 (x1).toNatClampNeg)))))))))))))))))
set_option maxHeartbeats 4000000 in
theorem c_X4_exchange {l : Launch} {G : GW} {μ : MM} {x1 : Int32} {x2 : Int32} {μ' : MM} {r : Int32} (hf : f_X4_exchange μ x1 x2 = some (μ', r)) : MZ l (YM G) yX4_exchange cX4_exchange 4 (some .int) { frames := 2, cells := 0, slots := 0, locals := 46 } [.ref (G.1 0), .int x1, .int x2] μ μ' (some (.int r)) := by
  refine z_met RX4 rfl (by decide) (Nat.le_of_ble_eq_true rfl) (fun X hX C hR => ?_)
  show Z X (YM G) 4 μ 0 [(0, .ref (G.1 0)), (1, .int x1), (2, .int x2)] []
  unfold f_X4_exchange at hf
  refine z_aload_n C 0 dX4_exchange_0 rfl ?_
  refine z_iload_n C 1 dX4_exchange_1 rfl ?_
  obtain ⟨v2, h1⟩ : ∃ z, z = f_X4_isRook μ x1 := ⟨_, rfl⟩
  replace hf := nm_e2 hf v2 h1
  refine z_callVi C (As := [.int x1]) (rest := []) (c_X4_isRook h1.symm) vw_X4_113 ⟨rfl, rfl, by decide, by decide⟩ (z_rv C (q0 := 0) (ci := 4) rfl rfl rfl) rfl (Nat.le_of_ble_eq_true rfl) dX4_exchange_2 ?_
  refine z_if_eq C 16 dX4_exchange_5 (by decide) (fun c3 => ?_) (fun c3 => ?_)
  · replace hf := it_t hf c3
    refine z_bipush C dX4_exchange_16 (v := (-101 : Int32)) (by decide) ?_
    exact z_iret C hR dX4_exchange_18 (rt2 hf).1 (rt2 hf).2
  · replace hf := it_f hf c3
    refine z_aload_n C 0 dX4_exchange_8 rfl ?_
    refine z_iload_n C 2 dX4_exchange_9 rfl ?_
    obtain ⟨v5, h4⟩ : ∃ z, z = f_X4_isRook μ x2 := ⟨_, rfl⟩
    replace hf := nm_e2 hf v5 h4
    refine z_callVi C (As := [.int x2]) (rest := []) (c_X4_isRook h4.symm) vw_X4_113 ⟨rfl, rfl, by decide, by decide⟩ (z_rv C (q0 := 0) (ci := 4) rfl rfl rfl) rfl (Nat.le_of_ble_eq_true rfl) dX4_exchange_10 ?_
    refine z_if_ne C 19 dX4_exchange_13 (by decide) (fun c6 => ?_) (fun c6 => ?_)
    · replace hf := it_f hf c6
      refine z_aload_n C 0 dX4_exchange_19 rfl ?_
      refine zg_X4_19_0 C dX4_exchange_20 ?_
      refine z_iload_n C 1 dX4_exchange_23 rfl ?_
      obtain ⟨h7, hf⟩ := ck_e hf
      refine zMl_4 C dX4_exchange_24 h7 ?_
      refine z_topi (fun v8 ev8 => ?_)
      replace hf := nm_e2 hf v8 ev8
      refine z_istore_n C dX4_exchange_25 (i := 3) (lv' := [(3, .int v8), (0, .ref (G.1 0)), (1, .int x1), (2, .int x2)]) rfl (by decide) rfl ?_
      refine z_aload_n C 1 dX4_exchange_26 rfl ?_
      refine zg_X4_19_0 C dX4_exchange_27 ?_
      refine z_iload_n C 2 dX4_exchange_30 rfl ?_
      refine z_aload_n C 1 dX4_exchange_31 rfl ?_
      refine zg_X4_19_0 C dX4_exchange_32 ?_
      refine z_iload_n C 3 dX4_exchange_35 rfl ?_
      obtain ⟨h9, hf⟩ := ck_e hf
      refine zMl_4 C dX4_exchange_36 h9 ?_
      refine z_topi (fun v10 ev10 => ?_)
      replace hf := nm_e2 hf v10 ev10
      refine zMs_4 C dX4_exchange_37 h7 ?_
      refine z_mem (fun μ11 eμ11 => ?_)
      replace hf := nm_e2 hf μ11 eμ11
      refine z_aload_n C 1 dX4_exchange_38 rfl ?_
      refine zg_X4_19_0 C dX4_exchange_39 ?_
      refine z_iload_n C 3 dX4_exchange_42 rfl ?_
      refine z_iload_n C 0 dX4_exchange_43 rfl ?_
      refine zMs_4 C dX4_exchange_44 h9 ?_
      refine z_mem (fun μ12 eμ12 => ?_)
      replace hf := nm_e2 hf μ12 eμ12
      refine z_aload_n C 1 dX4_exchange_45 rfl ?_
      refine zg_X4_16_0 C dX4_exchange_46 ?_
      refine z_iconst C dX4_exchange_49 (v := (4 : Int32)) (by decide) ?_
      refine z_aload_n C 1 dX4_exchange_50 rfl ?_
      refine zg_X4_19_0 C dX4_exchange_51 ?_
      refine z_iload_n C 2 dX4_exchange_54 rfl ?_
      refine zMl_4 C dX4_exchange_55 h7 ?_
      refine z_imul C dX4_exchange_56 ?_
      refine z_iconst C dX4_exchange_57 (v := (2 : Int32)) (by decide) ?_
      refine z_iadd C dX4_exchange_58 ?_
      refine z_iload_n C 2 dX4_exchange_59 rfl ?_
      obtain ⟨h13, hf⟩ := ck_e hf
      refine zMs_3 C dX4_exchange_60 h13 ?_
      refine z_mem (fun μ14 eμ14 => ?_)
      replace hf := nm_e2 hf μ14 eμ14
      refine z_aload_n C 1 dX4_exchange_61 rfl ?_
      refine zg_X4_16_0 C dX4_exchange_62 ?_
      refine z_iconst C dX4_exchange_65 (v := (4 : Int32)) (by decide) ?_
      refine z_aload_n C 1 dX4_exchange_66 rfl ?_
      refine zg_X4_19_0 C dX4_exchange_67 ?_
      refine z_iload_n C 3 dX4_exchange_70 rfl ?_
      refine zMl_4 C dX4_exchange_71 h9 ?_
      refine z_imul C dX4_exchange_72 ?_
      refine z_iconst C dX4_exchange_73 (v := (2 : Int32)) (by decide) ?_
      refine z_iadd C dX4_exchange_74 ?_
      refine z_iload_n C 3 dX4_exchange_75 rfl ?_
      obtain ⟨h15, hf⟩ := ck_e hf
      refine zMs_3 C dX4_exchange_76 h15 ?_
      refine z_mem (fun μ16 eμ16 => ?_)
      replace hf := nm_e2 hf μ16 eμ16
      refine z_aload_n C 1 dX4_exchange_77 rfl ?_
      refine zg_X4_19_0 C dX4_exchange_78 ?_
      refine z_iload_n C 2 dX4_exchange_81 rfl ?_
      refine zMl_4 C dX4_exchange_82 h7 ?_
      exact z_iret C hR dX4_exchange_83 (rt2 hf).1 (rt2 hf).2
    · replace hf := it_t hf c6
      refine z_bipush C dX4_exchange_16 (v := (-101 : Int32)) (by decide) ?_
      exact z_iret C hR dX4_exchange_18 (rt2 hf).1 (rt2 hf).2
noncomputable def f_X4_twig (μ : MM) (x1 : Int32) (x2 : Int32) : Option (MM × Int32) :=
 (nm (f_X4_isRook μ x1) fun v2 : Int32 =>
 (if v2 = 0 then
 (some (μ, (-101 : Int32)))
 else
 (nm (f_X4_in μ (x2).toInt64 (0 : Int64) (7 : Int64)) fun v5 : Int32 =>
 (if v5 = 0 then
 (some (μ, (-102 : Int32)))
 else
 (ck (vp_in (((4 : Int32) * x1) + (1 : Int32)) 24) <|
 (nm ((μ.1 3 ((((4 : Int32) * x1) + (1 : Int32))).toNatClampNeg)) fun v8 : Int32 =>
 (nm (upM μ 3 ((((4 : Int32) * x1) + (1 : Int32))).toNatClampNeg x2) fun μ9 : MM =>
 (some (μ9, v8)))))))))
set_option maxHeartbeats 4000000 in
theorem c_X4_twig {l : Launch} {G : GW} {μ : MM} {x1 : Int32} {x2 : Int32} {μ' : MM} {r : Int32} (hf : f_X4_twig μ x1 x2 = some (μ', r)) : MZ l (YM G) yX4_twig cX4_twig 4 (some .int) { frames := 2, cells := 0, slots := 0, locals := 46 } [.ref (G.1 0), .int x1, .int x2] μ μ' (some (.int r)) := by
  refine z_met RX4 rfl (by decide) (Nat.le_of_ble_eq_true rfl) (fun X hX C hR => ?_)
  show Z X (YM G) 4 μ 0 [(0, .ref (G.1 0)), (1, .int x1), (2, .int x2)] []
  unfold f_X4_twig at hf
  refine z_aload_n C 0 dX4_twig_0 rfl ?_
  refine z_iload_n C 1 dX4_twig_1 rfl ?_
  obtain ⟨v2, h1⟩ : ∃ z, z = f_X4_isRook μ x1 := ⟨_, rfl⟩
  replace hf := nm_e2 hf v2 h1
  refine z_callVi C (As := [.int x1]) (rest := []) (c_X4_isRook h1.symm) vw_X4_113 ⟨rfl, rfl, by decide, by decide⟩ (z_rv C (q0 := 0) (ci := 4) rfl rfl rfl) rfl (Nat.le_of_ble_eq_true rfl) dX4_twig_2 ?_
  refine z_if_ne C 11 dX4_twig_5 (by decide) (fun c3 => ?_) (fun c3 => ?_)
  · replace hf := it_f hf c3
    refine z_iload_n C 2 dX4_twig_11 rfl ?_
    refine z_i2l C dX4_twig_12 ?_
    refine z_lconst C dX4_twig_13 (v := (0 : Int64)) (by decide) ?_
    refine z_ldc2 C dX4_twig_14 (v := (7 : Int64)) (ww_in 713 (by decide +kernel) (by decide +kernel)) ?_
    obtain ⟨v5, h4⟩ : ∃ z, z = f_X4_in μ (x2).toInt64 (0 : Int64) (7 : Int64) := ⟨_, rfl⟩
    replace hf := nm_e2 hf v5 h4
    refine z_callSi C (As := [.long (x2).toInt64, .long (0 : Int64), .long (7 : Int64)]) (rest := []) (c_X4_in h4.symm) sw_X4_58 ⟨rfl, rfl, by decide, by decide⟩ rfl (Nat.le_of_ble_eq_true rfl) dX4_twig_17 ?_
    refine z_if_ne C 26 dX4_twig_20 (by decide) (fun c6 => ?_) (fun c6 => ?_)
    · replace hf := it_f hf c6
      refine z_aload_n C 0 dX4_twig_26 rfl ?_
      refine zg_X4_16_0 C dX4_twig_27 ?_
      refine z_iconst C dX4_twig_30 (v := (4 : Int32)) (by decide) ?_
      refine z_iload_n C 1 dX4_twig_31 rfl ?_
      refine z_imul C dX4_twig_32 ?_
      refine z_iconst C dX4_twig_33 (v := (1 : Int32)) (by decide) ?_
      refine z_iadd C dX4_twig_34 ?_
      obtain ⟨h7, hf⟩ := ck_e hf
      refine zMl_3 C dX4_twig_35 h7 ?_
      refine z_topi (fun v8 ev8 => ?_)
      replace hf := nm_e2 hf v8 ev8
      refine z_istore_n C dX4_twig_36 (i := 3) (lv' := [(3, .int v8), (0, .ref (G.1 0)), (1, .int x1), (2, .int x2)]) rfl (by decide) rfl ?_
      refine z_aload_n C 1 dX4_twig_37 rfl ?_
      refine zg_X4_16_0 C dX4_twig_38 ?_
      refine z_iconst C dX4_twig_41 (v := (4 : Int32)) (by decide) ?_
      refine z_iload_n C 2 dX4_twig_42 rfl ?_
      refine z_imul C dX4_twig_43 ?_
      refine z_iconst C dX4_twig_44 (v := (1 : Int32)) (by decide) ?_
      refine z_iadd C dX4_twig_45 ?_
      refine z_iload_n C 3 dX4_twig_46 rfl ?_
      refine zMs_3 C dX4_twig_47 h7 ?_
      refine z_mem (fun μ9 eμ9 => ?_)
      replace hf := nm_e2 hf μ9 eμ9
      refine z_iload_n C 0 dX4_twig_48 rfl ?_
      exact z_iret C hR dX4_twig_49 (rt2 hf).1 (rt2 hf).2
    · replace hf := it_t hf c6
      refine z_bipush C dX4_twig_23 (v := (-102 : Int32)) (by decide) ?_
      exact z_iret C hR dX4_twig_25 (rt2 hf).1 (rt2 hf).2
  · replace hf := it_t hf c3
    refine z_bipush C dX4_twig_8 (v := (-101 : Int32)) (by decide) ?_
    exact z_iret C hR dX4_twig_10 (rt2 hf).1 (rt2 hf).2
noncomputable def f_X4_wind (μ : MM) (x1 : Int32) : Option (MM × Int32) :=
 (nm (f_X4_in μ (x1).toInt64 (0 : Int64) (1 : Int64)) fun v2 : Int32 =>
 (if v2 = 0 then
 (some (μ, (-102 : Int32)))
 else
 (nm (f_X4_lacks μ) fun v5 : Int32 =>
 (if v5 = 0 then
 (nm ((μ.1 0 7)) fun v7 : Int32 =>
 (nm (upM μ 0 7 x1) fun μ8 : MM =>
 (some (μ8, v7))))
 else
 (some (μ, (-103 : Int32)))))))
set_option maxHeartbeats 4000000 in
theorem c_X4_wind {l : Launch} {G : GW} {μ : MM} {x1 : Int32} {μ' : MM} {r : Int32} (hf : f_X4_wind μ x1 = some (μ', r)) : MZ l (YM G) yX4_wind cX4_wind 3 (some .int) { frames := 1, cells := 0, slots := 0, locals := 25 } [.ref (G.1 0), .int x1] μ μ' (some (.int r)) := by
  refine z_met RX4 rfl (by decide) (Nat.le_of_ble_eq_true rfl) (fun X hX C hR => ?_)
  show Z X (YM G) 3 μ 0 [(0, .ref (G.1 0)), (1, .int x1)] []
  unfold f_X4_wind at hf
  refine z_iload_n C 1 dX4_wind_0 rfl ?_
  refine z_i2l C dX4_wind_1 ?_
  refine z_lconst C dX4_wind_2 (v := (0 : Int64)) (by decide) ?_
  refine z_lconst C dX4_wind_3 (v := (1 : Int64)) (by decide) ?_
  obtain ⟨v2, h1⟩ : ∃ z, z = f_X4_in μ (x1).toInt64 (0 : Int64) (1 : Int64) := ⟨_, rfl⟩
  replace hf := nm_e2 hf v2 h1
  refine z_callSi C (As := [.long (x1).toInt64, .long (0 : Int64), .long (1 : Int64)]) (rest := []) (c_X4_in h1.symm) sw_X4_58 ⟨rfl, rfl, by decide, by decide⟩ rfl (Nat.le_of_ble_eq_true rfl) dX4_wind_4 ?_
  refine z_if_ne C 13 dX4_wind_7 (by decide) (fun c3 => ?_) (fun c3 => ?_)
  · replace hf := it_f hf c3
    refine z_aload_n C 0 dX4_wind_13 rfl ?_
    obtain ⟨v5, h4⟩ : ∃ z, z = f_X4_lacks μ := ⟨_, rfl⟩
    replace hf := nm_e2 hf v5 h4
    refine z_callVi C (As := []) (rest := []) (c_X4_lacks h4.symm) vw_X4_122 ⟨rfl, rfl, by decide, by decide⟩ (z_rv C (q0 := 0) (ci := 4) rfl rfl rfl) rfl (Nat.le_of_ble_eq_true rfl) dX4_wind_14 ?_
    refine z_if_eq C 23 dX4_wind_17 (by decide) (fun c6 => ?_) (fun c6 => ?_)
    · replace hf := it_t hf c6
      refine z_aload_n C 0 dX4_wind_23 rfl ?_
      refine zg_X4_91_0 C dX4_wind_24 ?_
      refine z_topi (fun v7 ev7 => ?_)
      replace hf := nm_e2 hf v7 ev7
      refine z_istore_n C dX4_wind_27 (i := 2) (lv' := [(2, .int v7), (0, .ref (G.1 0)), (1, .int x1)]) rfl (by decide) rfl ?_
      refine z_aload_n C 1 dX4_wind_28 rfl ?_
      refine z_iload_n C 2 dX4_wind_29 rfl ?_
      refine zp_X4_91_0 C dX4_wind_30 ?_
      refine z_mem (fun μ8 eμ8 => ?_)
      replace hf := nm_e2 hf μ8 eμ8
      refine z_iload_n C 0 dX4_wind_33 rfl ?_
      exact z_iret C hR dX4_wind_34 (rt2 hf).1 (rt2 hf).2
    · replace hf := it_f hf c6
      refine z_bipush C dX4_wind_20 (v := (-103 : Int32)) (by decide) ?_
      exact z_iret C hR dX4_wind_22 (rt2 hf).1 (rt2 hf).2
  · replace hf := it_t hf c3
    refine z_bipush C dX4_wind_10 (v := (-102 : Int32)) (by decide) ?_
    exact z_iret C hR dX4_wind_12 (rt2 hf).1 (rt2 hf).2
noncomputable def b_X4_asTheySit_2 (ih2 : MM × Int32 → Option MM) (μ : MM) (x1 : Int32) : Option MM :=
 (if (μ.1 0 6) ≤ x1 then
 (some (μ))
 else
 (ck (vp_in x1 6) <|
 (ck (vp_in ((4 : Int32) * (μ.1 4 (x1).toNatClampNeg)) 24) <|
 (nm ((μ.1 3 (((4 : Int32) * (μ.1 4 (x1).toNatClampNeg))).toNatClampNeg)) fun v4 : Int32 =>
 (nm (upM μ 5 (x1).toNatClampNeg v4) fun μ5 : MM =>
 (ck (vp_in (((4 : Int32) * (μ5.1 4 (x1).toNatClampNeg)) + (1 : Int32)) 24) <|
 (nm ((μ5.1 3 ((((4 : Int32) * (μ5.1 4 (x1).toNatClampNeg)) + (1 : Int32))).toNatClampNeg)) fun v7 : Int32 =>
 (nm (upM μ5 6 (x1).toNatClampNeg v7) fun μ8 : MM =>
 ih2 (μ8, (x1 + (1 : Int32)))))))))))
set_option maxHeartbeats 4000000 in
theorem zl_X4_asTheySit_2 {X : ZX} {G : GW} {μ' : MM} (C : CX X (YM G) cX4_asTheySit 2 RX4 { frames := 0, cells := 0, slots := 0, locals := 0 }) (hR : ZR X (YM G) none μ' none) : ∀ (n : Nat) (σ : MM × Int32), lp (fun ih σ => b_X4_asTheySit_2 ih σ.1 σ.2) n σ = some μ' → Z X (YM G) 2 σ.1 2 [(0, .ref (G.1 0)), (1, .int σ.2)] [] := by
  refine lp_z (P := fun σ : MM × Int32 => Z X (YM G) 2 σ.1 2 [(0, .ref (G.1 0)), (1, .int σ.2)] []) (fun ih2 hih2 σ hf => ?_)
  obtain ⟨μ, x1⟩ := σ
  have hf : b_X4_asTheySit_2 ih2 μ x1 = some μ' := hf
  show Z X (YM G) 2 μ 2 [(0, .ref (G.1 0)), (1, .int x1)] []
  unfold b_X4_asTheySit_2 at hf
  refine z_iload_n C 1 dX4_asTheySit_2 rfl ?_
  refine z_aload_n C 0 dX4_asTheySit_3 rfl ?_
  refine zg_X4_88_0 C dX4_asTheySit_4 ?_
  refine z_icmp_ge C 56 dX4_asTheySit_7 (by decide) (fun c1 => ?_) (fun c1 => ?_)
  · replace hf := it_t hf c1
    exact z_vret C hR dX4_asTheySit_56 (rt1 hf)
  · replace hf := it_f hf c1
    refine z_aload_n C 0 dX4_asTheySit_10 rfl ?_
    refine zg_X4_22_0 C dX4_asTheySit_11 ?_
    refine z_iload_n C 1 dX4_asTheySit_14 rfl ?_
    refine z_aload_n C 0 dX4_asTheySit_15 rfl ?_
    refine zg_X4_16_0 C dX4_asTheySit_16 ?_
    refine z_iconst C dX4_asTheySit_19 (v := (4 : Int32)) (by decide) ?_
    refine z_aload_n C 0 dX4_asTheySit_20 rfl ?_
    refine zg_X4_19_0 C dX4_asTheySit_21 ?_
    refine z_iload_n C 1 dX4_asTheySit_24 rfl ?_
    obtain ⟨h2, hf⟩ := ck_e hf
    refine zMl_4 C dX4_asTheySit_25 h2 ?_
    refine z_imul C dX4_asTheySit_26 ?_
    obtain ⟨h3, hf⟩ := ck_e hf
    refine zMl_3 C dX4_asTheySit_27 h3 ?_
    refine z_topi (fun v4 ev4 => ?_)
    replace hf := nm_e2 hf v4 ev4
    refine zMs_5 C dX4_asTheySit_28 h2 ?_
    refine z_mem (fun μ5 eμ5 => ?_)
    replace hf := nm_e2 hf μ5 eμ5
    refine z_aload_n C 0 dX4_asTheySit_29 rfl ?_
    refine zg_X4_25_0 C dX4_asTheySit_30 ?_
    refine z_iload_n C 1 dX4_asTheySit_33 rfl ?_
    refine z_aload_n C 0 dX4_asTheySit_34 rfl ?_
    refine zg_X4_16_0 C dX4_asTheySit_35 ?_
    refine z_iconst C dX4_asTheySit_38 (v := (4 : Int32)) (by decide) ?_
    refine z_aload_n C 0 dX4_asTheySit_39 rfl ?_
    refine zg_X4_19_0 C dX4_asTheySit_40 ?_
    refine z_iload_n C 1 dX4_asTheySit_43 rfl ?_
    refine zMl_4 C dX4_asTheySit_44 h2 ?_
    refine z_imul C dX4_asTheySit_45 ?_
    refine z_iconst C dX4_asTheySit_46 (v := (1 : Int32)) (by decide) ?_
    refine z_iadd C dX4_asTheySit_47 ?_
    obtain ⟨h6, hf⟩ := ck_e hf
    refine zMl_3 C dX4_asTheySit_48 h6 ?_
    refine z_topi (fun v7 ev7 => ?_)
    replace hf := nm_e2 hf v7 ev7
    refine zMs_6 C dX4_asTheySit_49 h2 ?_
    refine z_mem (fun μ8 eμ8 => ?_)
    replace hf := nm_e2 hf μ8 eμ8
    refine z_iinc C 1 dX4_asTheySit_50 (v := (x1 + (1 : Int32))) (lv' := [(1, .int (x1 + (1 : Int32))), (0, .ref (G.1 0))]) rfl rfl (by decide) rfl ?_
    refine z_goto C 2 dX4_asTheySit_53 (by decide) ?_
    refine z_lv C [1, 0] (lv' := [(0, .ref (G.1 0)), (1, .int (x1 + (1 : Int32)))]) rfl ?_
    exact hih2 (μ8, (x1 + (1 : Int32))) hf
noncomputable def f_X4_asTheySit (μ : MM) : Option MM :=
 lp (fun ih σ => b_X4_asTheySit_2 ih σ.1 σ.2) fu (μ, (0 : Int32))
set_option maxHeartbeats 4000000 in
theorem c_X4_asTheySit {l : Launch} {G : GW} {μ : MM} {μ' : MM} (hf : f_X4_asTheySit μ = some μ') : MZ l (YM G) yX4_asTheySit cX4_asTheySit 2 none { frames := 0, cells := 0, slots := 0, locals := 0 } [.ref (G.1 0)] μ μ' none := by
  refine z_met RX4 rfl (by decide) (Nat.le_of_ble_eq_true rfl) (fun X hX C hR => ?_)
  show Z X (YM G) 2 μ 0 [(0, .ref (G.1 0))] []
  unfold f_X4_asTheySit at hf
  refine z_iconst C dX4_asTheySit_0 (v := (0 : Int32)) (by decide) ?_
  refine z_istore_n C dX4_asTheySit_1 (i := 1) (lv' := [(1, .int (0 : Int32)), (0, .ref (G.1 0))]) rfl (by decide) rfl ?_
  refine z_lv C [1, 0] (lv' := [(0, .ref (G.1 0)), (1, .int (0 : Int32))]) rfl ?_
  exact zl_X4_asTheySit_2 C hR fu (μ, (0 : Int32)) hf
noncomputable def g_X4_comesOf_90 (μ : MM) (x1 : Int32) (x3 : Int32) (x4 : Int32) (x5 : Int32) (x6 : Int32) (ih9 : Int32 × Int32 × Int32 → Option Int32) : Option Int32 :=
 ih9 (x4, x5, (x6 + (1 : Int32)))
set_option maxHeartbeats 4000000 in
theorem zj_X4_comesOf_90 {X : ZX} {G : GW} {r : Int32} (μ : MM) (x1 : Int32) (x3 : Int32) (x4 : Int32) (x5 : Int32) (x6 : Int32) (C : CX X (YM G) cX4_comesOf 9 RX4 { frames := 1, cells := 0, slots := 0, locals := 23 }) (hR : ZR X (YM G) (some .int) μ (some (.int r))) (ih9 : Int32 × Int32 × Int32 → Option Int32) (hih9 : ∀ σ, ih9 σ = some r → Z X (YM G) 9 μ 9 [(0, .ref (G.1 0)), (1, .int x1), (3, .int x3), (4, .int σ.1), (5, .int σ.2.1), (6, .int σ.2.2)] []) (hf : g_X4_comesOf_90 μ x1 x3 x4 x5 x6 ih9 = some r) : Z X (YM G) 9 μ 90 [(0, .ref (G.1 0)), (1, .int x1), (3, .int x3), (4, .int x4), (5, .int x5), (6, .int x6)] [] := by
  unfold g_X4_comesOf_90 at hf
  refine z_iinc C 5 dX4_comesOf_90 (v := (x6 + (1 : Int32))) (lv' := [(6, .int (x6 + (1 : Int32))), (0, .ref (G.1 0)), (1, .int x1), (3, .int x3), (4, .int x4), (5, .int x5)]) rfl rfl (by decide) rfl ?_
  refine z_goto C 9 dX4_comesOf_93 (by decide) ?_
  refine z_lv C [1, 2, 3, 4, 5, 0] (lv' := [(0, .ref (G.1 0)), (1, .int x1), (3, .int x3), (4, .int x4), (5, .int x5), (6, .int (x6 + (1 : Int32)))]) rfl ?_
  exact hih9 (x4, x5, (x6 + (1 : Int32))) hf
noncomputable def g_X4_comesOf_87 (μ : MM) (x1 : Int32) (x3 : Int32) (x4 : Int32) (x6 : Int32) (ih9 : Int32 × Int32 × Int32 → Option Int32) : Option Int32 :=
 g_X4_comesOf_90 μ x1 x3 x4 (1 : Int32) x6 ih9
set_option maxHeartbeats 4000000 in
theorem zj_X4_comesOf_87 {X : ZX} {G : GW} {r : Int32} (μ : MM) (x1 : Int32) (x3 : Int32) (x4 : Int32) (x6 : Int32) (C : CX X (YM G) cX4_comesOf 9 RX4 { frames := 1, cells := 0, slots := 0, locals := 23 }) (hR : ZR X (YM G) (some .int) μ (some (.int r))) (ih9 : Int32 × Int32 × Int32 → Option Int32) (hih9 : ∀ σ, ih9 σ = some r → Z X (YM G) 9 μ 9 [(0, .ref (G.1 0)), (1, .int x1), (3, .int x3), (4, .int σ.1), (5, .int σ.2.1), (6, .int σ.2.2)] []) (hf : g_X4_comesOf_87 μ x1 x3 x4 x6 ih9 = some r) : Z X (YM G) 9 μ 87 [(0, .ref (G.1 0)), (1, .int x1), (3, .int x3), (4, .int x4), (6, .int x6)] [] := by
  unfold g_X4_comesOf_87 at hf
  refine z_iconst C dX4_comesOf_87 (v := (1 : Int32)) (by decide) ?_
  refine z_istore C dX4_comesOf_88 (i := 5) (lv' := [(5, .int (1 : Int32)), (0, .ref (G.1 0)), (1, .int x1), (3, .int x3), (4, .int x4), (6, .int x6)]) (by decide) rfl ?_
  refine z_lv C [1, 2, 3, 4, 0, 5] (lv' := [(0, .ref (G.1 0)), (1, .int x1), (3, .int x3), (4, .int x4), (5, .int (1 : Int32)), (6, .int x6)]) rfl ?_
  exact zj_X4_comesOf_90 μ x1 x3 x4 (1 : Int32) x6 C hR ih9 hih9 hf
noncomputable def b_X4_comesOf_52 (μ : MM) (x1 : Int32) (x3 : Int32) (x5 : Int32) (x6 : Int32) (x7 : Int32) (ih9 : Int32 × Int32 × Int32 → Option Int32) (ih52 : Int32 × Int32 → Option Int32) (x4 : Int32) (x8 : Int32) : Option Int32 :=
 (if x5 ≤ x8 then
 g_X4_comesOf_87 μ x1 x3 x4 x6 ih9
 else
 (ck (vp_in x7 6) <|
 (nm (f_X4_makes μ (μ.1 5 (x7).toNatClampNeg) (μ.1 6 (x7).toNatClampNeg) x3 x4) fun v9 : Int32 =>
 ih52 (v9, (x8 + (1 : Int32))))))
set_option maxHeartbeats 4000000 in
theorem zl_X4_comesOf_52 {X : ZX} {G : GW} {r : Int32} (μ : MM) (x1 : Int32) (x3 : Int32) (x5 : Int32) (x6 : Int32) (x7 : Int32) (C : CX X (YM G) cX4_comesOf 9 RX4 { frames := 1, cells := 0, slots := 0, locals := 23 }) (hR : ZR X (YM G) (some .int) μ (some (.int r))) (ih9 : Int32 × Int32 × Int32 → Option Int32) (hih9 : ∀ σ, ih9 σ = some r → Z X (YM G) 9 μ 9 [(0, .ref (G.1 0)), (1, .int x1), (3, .int x3), (4, .int σ.1), (5, .int σ.2.1), (6, .int σ.2.2)] []) : ∀ (n : Nat) (σ : Int32 × Int32), lp (fun ih σ => b_X4_comesOf_52 μ x1 x3 x5 x6 x7 ih9 ih σ.1 σ.2) n σ = some r → Z X (YM G) 9 μ 52 [(0, .ref (G.1 0)), (1, .int x1), (3, .int x3), (4, .int σ.1), (5, .int x5), (6, .int x6), (7, .int x7), (8, .int σ.2)] [] := by
  refine lp_z (P := fun σ : Int32 × Int32 => Z X (YM G) 9 μ 52 [(0, .ref (G.1 0)), (1, .int x1), (3, .int x3), (4, .int σ.1), (5, .int x5), (6, .int x6), (7, .int x7), (8, .int σ.2)] []) (fun ih52 hih52 σ hf => ?_)
  obtain ⟨x4, x8⟩ := σ
  have hf : b_X4_comesOf_52 μ x1 x3 x5 x6 x7 ih9 ih52 x4 x8 = some r := hf
  show Z X (YM G) 9 μ 52 [(0, .ref (G.1 0)), (1, .int x1), (3, .int x3), (4, .int x4), (5, .int x5), (6, .int x6), (7, .int x7), (8, .int x8)] []
  unfold b_X4_comesOf_52 at hf
  refine z_iload C 7 dX4_comesOf_52 rfl ?_
  refine z_iload C 4 dX4_comesOf_54 rfl ?_
  refine z_icmp_ge C 87 dX4_comesOf_56 (by decide) (fun c6 => ?_) (fun c6 => ?_)
  · replace hf := it_t hf c6
    refine z_lv C [0, 1, 2, 3, 5] (lv' := [(0, .ref (G.1 0)), (1, .int x1), (3, .int x3), (4, .int x4), (6, .int x6)]) rfl ?_
    exact zj_X4_comesOf_87 μ x1 x3 x4 x6 C hR ih9 hih9 hf
  · replace hf := it_f hf c6
    refine z_aload_n C 0 dX4_comesOf_59 rfl ?_
    refine zg_X4_22_0 C dX4_comesOf_60 ?_
    refine z_iload C 6 dX4_comesOf_63 rfl ?_
    obtain ⟨h7, hf⟩ := ck_e hf
    refine zMl_5 C dX4_comesOf_65 h7 ?_
    refine z_aload_n C 0 dX4_comesOf_66 rfl ?_
    refine zg_X4_25_0 C dX4_comesOf_67 ?_
    refine z_iload C 6 dX4_comesOf_70 rfl ?_
    refine zMl_6 C dX4_comesOf_72 h7 ?_
    refine z_iload_n C 2 dX4_comesOf_73 rfl ?_
    refine z_iload C 3 dX4_comesOf_74 rfl ?_
    obtain ⟨v9, h8⟩ : ∃ z, z = f_X4_makes μ (μ.1 5 (x7).toNatClampNeg) (μ.1 6 (x7).toNatClampNeg) x3 x4 := ⟨_, rfl⟩
    replace hf := nm_e2 hf v9 h8
    refine z_callSi C (As := [.int (μ.1 5 (x7).toNatClampNeg), .int (μ.1 6 (x7).toNatClampNeg), .int x3, .int x4]) (rest := []) (c_X4_makes h8.symm) sw_X4_107 ⟨rfl, rfl, by decide, by decide⟩ rfl (Nat.le_of_ble_eq_true rfl) dX4_comesOf_76 ?_
    refine z_istore C dX4_comesOf_79 (i := 4) (lv' := [(4, .int v9), (0, .ref (G.1 0)), (1, .int x1), (3, .int x3), (5, .int x5), (6, .int x6), (7, .int x7), (8, .int x8)]) (by decide) rfl ?_
    refine z_iinc C 7 dX4_comesOf_81 (v := (x8 + (1 : Int32))) (lv' := [(8, .int (x8 + (1 : Int32))), (4, .int v9), (0, .ref (G.1 0)), (1, .int x1), (3, .int x3), (5, .int x5), (6, .int x6), (7, .int x7)]) rfl rfl (by decide) rfl ?_
    refine z_goto C 52 dX4_comesOf_84 (by decide) ?_
    refine z_lv C [2, 3, 4, 1, 5, 6, 7, 0] (lv' := [(0, .ref (G.1 0)), (1, .int x1), (3, .int x3), (4, .int v9), (5, .int x5), (6, .int x6), (7, .int x7), (8, .int (x8 + (1 : Int32)))]) rfl ?_
    exact hih52 (v9, (x8 + (1 : Int32))) hf
noncomputable def b_X4_comesOf_9 (μ : MM) (x1 : Int32) (x3 : Int32) (ih9 : Int32 × Int32 × Int32 → Option Int32) (x4 : Int32) (x5 : Int32) (x6 : Int32) : Option Int32 :=
 (if (μ.1 0 6) < x6 then
 (some x4)
 else
 (ck (¬ (μ.1 0 6) = 0) <|
 (nm (((x1 + x6) - (x1 + x6) / (μ.1 0 6) * (μ.1 0 6))) fun v3 : Int32 =>
 (ck (vp_in v3 6) <|
 (if (μ.1 5 (v3).toNatClampNeg) = (3 : Int32) then
 (nm ((x5 * (2 : Int32))) fun v10 : Int32 =>
 g_X4_comesOf_90 μ x1 x3 x4 v10 x6 ih9)
 else
 lp (fun ih σ => b_X4_comesOf_52 μ x1 x3 x5 x6 v3 ih9 ih σ.1 σ.2) fu (x4, (0 : Int32)))))))
set_option maxHeartbeats 4000000 in
theorem zl_X4_comesOf_9 {X : ZX} {G : GW} {r : Int32} (μ : MM) (x1 : Int32) (x3 : Int32) (C : CX X (YM G) cX4_comesOf 9 RX4 { frames := 1, cells := 0, slots := 0, locals := 23 }) (hR : ZR X (YM G) (some .int) μ (some (.int r))) : ∀ (n : Nat) (σ : Int32 × Int32 × Int32), lp (fun ih σ => b_X4_comesOf_9 μ x1 x3 ih σ.1 σ.2.1 σ.2.2) n σ = some r → Z X (YM G) 9 μ 9 [(0, .ref (G.1 0)), (1, .int x1), (3, .int x3), (4, .int σ.1), (5, .int σ.2.1), (6, .int σ.2.2)] [] := by
  refine lp_z (P := fun σ : Int32 × Int32 × Int32 => Z X (YM G) 9 μ 9 [(0, .ref (G.1 0)), (1, .int x1), (3, .int x3), (4, .int σ.1), (5, .int σ.2.1), (6, .int σ.2.2)] []) (fun ih9 hih9 σ hf => ?_)
  obtain ⟨x4, x5, x6⟩ := σ
  have hf : b_X4_comesOf_9 μ x1 x3 ih9 x4 x5 x6 = some r := hf
  show Z X (YM G) 9 μ 9 [(0, .ref (G.1 0)), (1, .int x1), (3, .int x3), (4, .int x4), (5, .int x5), (6, .int x6)] []
  unfold b_X4_comesOf_9 at hf
  refine z_iload C 5 dX4_comesOf_9 rfl ?_
  refine z_aload_n C 0 dX4_comesOf_11 rfl ?_
  refine zg_X4_88_0 C dX4_comesOf_12 ?_
  refine z_icmp_gt C 96 dX4_comesOf_15 (by decide) (fun c1 => ?_) (fun c1 => ?_)
  · replace hf := it_t hf c1
    refine z_iload C 3 dX4_comesOf_96 rfl ?_
    exact z_iret C hR dX4_comesOf_98 rfl (rt1 hf)
  · replace hf := it_f hf c1
    refine z_iload_n C 1 dX4_comesOf_18 rfl ?_
    refine z_iload C 5 dX4_comesOf_19 rfl ?_
    refine z_iadd C dX4_comesOf_21 ?_
    refine z_aload_n C 0 dX4_comesOf_22 rfl ?_
    refine zg_X4_88_0 C dX4_comesOf_23 ?_
    obtain ⟨h2, hf⟩ := ck_e hf
    refine z_irem C dX4_comesOf_26 h2 ?_
    refine z_topi (fun v3 ev3 => ?_)
    replace hf := nm_e2 hf v3 ev3
    refine z_istore C dX4_comesOf_27 (i := 7) (lv' := [(7, .int v3), (0, .ref (G.1 0)), (1, .int x1), (3, .int x3), (4, .int x4), (5, .int x5), (6, .int x6)]) (by decide) rfl ?_
    refine z_aload_n C 1 dX4_comesOf_29 rfl ?_
    refine zg_X4_22_0 C dX4_comesOf_30 ?_
    refine z_iload C 0 dX4_comesOf_33 rfl ?_
    obtain ⟨h4, hf⟩ := ck_e hf
    refine zMl_5 C dX4_comesOf_35 h4 ?_
    refine z_iconst C dX4_comesOf_36 (v := (3 : Int32)) (by decide) ?_
    refine z_icmp_ne C 49 dX4_comesOf_37 (by decide) (fun c5 => ?_) (fun c5 => ?_)
    · replace hf := it_f hf c5
      refine z_iconst C dX4_comesOf_49 (v := (0 : Int32)) (by decide) ?_
      refine z_istore C dX4_comesOf_50 (i := 8) (lv' := [(8, .int (0 : Int32)), (7, .int v3), (0, .ref (G.1 0)), (1, .int x1), (3, .int x3), (4, .int x4), (5, .int x5), (6, .int x6)]) (by decide) rfl ?_
      refine z_lv C [2, 3, 4, 5, 6, 7, 1, 0] (lv' := [(0, .ref (G.1 0)), (1, .int x1), (3, .int x3), (4, .int x4), (5, .int x5), (6, .int x6), (7, .int v3), (8, .int (0 : Int32))]) rfl ?_
      exact zl_X4_comesOf_52 μ x1 x3 x5 x6 v3 C hR ih9 hih9 fu (x4, (0 : Int32)) hf
    · replace hf := it_t hf c5
      refine z_iload C 5 dX4_comesOf_40 rfl ?_
      refine z_iconst C dX4_comesOf_42 (v := (2 : Int32)) (by decide) ?_
      refine z_imul C dX4_comesOf_43 ?_
      refine z_topi (fun v10 ev10 => ?_)
      replace hf := nm_e2 hf v10 ev10
      refine z_istore C dX4_comesOf_44 (i := 5) (lv' := [(5, .int v10), (7, .int v3), (0, .ref (G.1 0)), (1, .int x1), (3, .int x3), (4, .int x4), (6, .int x6)]) (by decide) rfl ?_
      refine z_goto C 90 dX4_comesOf_46 (by decide) ?_
      refine z_lv C [2, 3, 4, 5, 0, 6] (lv' := [(0, .ref (G.1 0)), (1, .int x1), (3, .int x3), (4, .int x4), (5, .int v10), (6, .int x6)]) rfl ?_
      exact zj_X4_comesOf_90 μ x1 x3 x4 v10 x6 C hR ih9 hih9 hf
noncomputable def f_X4_comesOf (μ : MM) (x1 : Int32) (x2 : Int32) (x3 : Int32) : Option Int32 :=
 lp (fun ih σ => b_X4_comesOf_9 μ x1 x3 ih σ.1 σ.2.1 σ.2.2) fu (x2, (1 : Int32), (1 : Int32))
set_option maxHeartbeats 4000000 in
theorem c_X4_comesOf {l : Launch} {G : GW} {μ : MM} {x1 : Int32} {x2 : Int32} {x3 : Int32} {r : Int32} (hf : f_X4_comesOf μ x1 x2 x3 = some r) : MZ l (YM G) yX4_comesOf cX4_comesOf 9 (some .int) { frames := 1, cells := 0, slots := 0, locals := 23 } [.ref (G.1 0), .int x1, .int x2, .int x3] μ μ (some (.int r)) := by
  refine z_met RX4 rfl (by decide) (Nat.le_of_ble_eq_true rfl) (fun X hX C hR => ?_)
  show Z X (YM G) 9 μ 0 [(0, .ref (G.1 0)), (1, .int x1), (2, .int x2), (3, .int x3)] []
  unfold f_X4_comesOf at hf
  refine z_iload_n C 2 dX4_comesOf_0 rfl ?_
  refine z_istore C dX4_comesOf_1 (i := 4) (lv' := [(4, .int x2), (0, .ref (G.1 0)), (1, .int x1), (2, .int x2), (3, .int x3)]) (by decide) rfl ?_
  refine z_iconst C dX4_comesOf_3 (v := (1 : Int32)) (by decide) ?_
  refine z_istore C dX4_comesOf_4 (i := 5) (lv' := [(5, .int (1 : Int32)), (4, .int x2), (0, .ref (G.1 0)), (1, .int x1), (2, .int x2), (3, .int x3)]) (by decide) rfl ?_
  refine z_iconst C dX4_comesOf_6 (v := (1 : Int32)) (by decide) ?_
  refine z_istore C dX4_comesOf_7 (i := 6) (lv' := [(6, .int (1 : Int32)), (5, .int (1 : Int32)), (4, .int x2), (0, .ref (G.1 0)), (1, .int x1), (2, .int x2), (3, .int x3)]) (by decide) rfl ?_
  refine z_lv C [3, 4, 6, 2, 1, 0] (lv' := [(0, .ref (G.1 0)), (1, .int x1), (3, .int x3), (4, .int x2), (5, .int (1 : Int32)), (6, .int (1 : Int32))]) rfl ?_
  exact zl_X4_comesOf_9 μ x1 x3 C hR fu (x2, (1 : Int32), (1 : Int32)) hf
noncomputable def f_X4_comes (μ : MM) (x1 : Int32) (x2 : Int32) : Option (MM × Int32) :=
 (nm (f_X4_isRook μ x1) fun v2 : Int32 =>
 (if v2 = 0 then
 (some (μ, (-101 : Int32)))
 else
 (nm (f_X4_isWord μ x2) fun v5 : Int32 =>
 (if v5 = 0 then
 (some (μ, (-102 : Int32)))
 else
 (bd (f_X4_asTheySit μ) fun μ8 =>
 (bd (f_X4_comesOf μ8 x1 x2 (μ8.1 0 7)) fun v10 =>
 (some (μ8, v10))))))))
set_option maxHeartbeats 4000000 in
theorem c_X4_comes {l : Launch} {G : GW} {μ : MM} {x1 : Int32} {x2 : Int32} {μ' : MM} {r : Int32} (hf : f_X4_comes μ x1 x2 = some (μ', r)) : MZ l (YM G) yX4_comes cX4_comes 3 (some .int) { frames := 2, cells := 0, slots := 0, locals := 51 } [.ref (G.1 0), .int x1, .int x2] μ μ' (some (.int r)) := by
  refine z_met RX4 rfl (by decide) (Nat.le_of_ble_eq_true rfl) (fun X hX C hR => ?_)
  show Z X (YM G) 3 μ 0 [(0, .ref (G.1 0)), (1, .int x1), (2, .int x2)] []
  unfold f_X4_comes at hf
  refine z_aload_n C 0 dX4_comes_0 rfl ?_
  refine z_iload_n C 1 dX4_comes_1 rfl ?_
  obtain ⟨v2, h1⟩ : ∃ z, z = f_X4_isRook μ x1 := ⟨_, rfl⟩
  replace hf := nm_e2 hf v2 h1
  refine z_callVi C (As := [.int x1]) (rest := []) (c_X4_isRook h1.symm) vw_X4_113 ⟨rfl, rfl, by decide, by decide⟩ (z_rv C (q0 := 0) (ci := 4) rfl rfl rfl) rfl (Nat.le_of_ble_eq_true rfl) dX4_comes_2 ?_
  refine z_if_ne C 11 dX4_comes_5 (by decide) (fun c3 => ?_) (fun c3 => ?_)
  · replace hf := it_f hf c3
    refine z_iload_n C 2 dX4_comes_11 rfl ?_
    obtain ⟨v5, h4⟩ : ∃ z, z = f_X4_isWord μ x2 := ⟨_, rfl⟩
    replace hf := nm_e2 hf v5 h4
    refine z_callSi C (As := [.int x2]) (rest := []) (c_X4_isWord h4.symm) sw_X4_126 ⟨rfl, rfl, by decide, by decide⟩ rfl (Nat.le_of_ble_eq_true rfl) dX4_comes_12 ?_
    refine z_if_ne C 21 dX4_comes_15 (by decide) (fun c6 => ?_) (fun c6 => ?_)
    · replace hf := it_f hf c6
      refine z_aload_n C 0 dX4_comes_21 rfl ?_
      obtain ⟨μ8, h7, hf⟩ := bd_e hf
      refine z_callVv C (As := []) (rest := []) (c_X4_asTheySit h7) vw_X4_129 ⟨rfl, rfl, by decide, by decide⟩ (z_rv C (q0 := 0) (ci := 4) rfl rfl rfl) rfl (Nat.le_of_ble_eq_true rfl) dX4_comes_22 ?_
      refine z_aload_n C 0 dX4_comes_25 rfl ?_
      refine z_iload_n C 1 dX4_comes_26 rfl ?_
      refine z_iload_n C 2 dX4_comes_27 rfl ?_
      refine z_aload_n C 0 dX4_comes_28 rfl ?_
      refine zg_X4_91_0 C dX4_comes_29 ?_
      obtain ⟨v10, h9, hf⟩ := bd_e hf
      refine z_callVi C (As := [.int x1, .int x2, .int (μ8.1 0 7)]) (rest := []) (c_X4_comesOf h9) vw_X4_132 ⟨rfl, rfl, by decide, by decide⟩ (z_rv C (q0 := 0) (ci := 4) rfl rfl rfl) rfl (Nat.le_of_ble_eq_true rfl) dX4_comes_32 ?_
      exact z_iret C hR dX4_comes_35 (rt2 hf).1 (rt2 hf).2
    · replace hf := it_t hf c6
      refine z_bipush C dX4_comes_18 (v := (-102 : Int32)) (by decide) ?_
      exact z_iret C hR dX4_comes_20 (rt2 hf).1 (rt2 hf).2
  · replace hf := it_t hf c3
    refine z_bipush C dX4_comes_8 (v := (-101 : Int32)) (by decide) ?_
    exact z_iret C hR dX4_comes_10 (rt2 hf).1 (rt2 hf).2
noncomputable def f_X4_sit (μ : MM) (x1 : Int32) (x2 : Int32) : Option (MM × Int32) :=
 (nm (f_X4_isRook μ x1) fun v2 : Int32 =>
 (if v2 = 0 then
 (some (μ, (-101 : Int32)))
 else
 (nm (f_X4_isWord μ x2) fun v5 : Int32 =>
 (if v5 = 0 then
 (some (μ, (-102 : Int32)))
 else
 (bd (f_X4_asTheySit μ) fun μ8 =>
 (bd (f_X4_comesOf μ8 x1 x2 (μ8.1 0 7)) fun v10 =>
 (if v10 = x2 then
 (ck (vp_in x1 6) <|
 (nm ((((4 : Int32) * (μ8.1 4 (x1).toNatClampNeg)) + (3 : Int32))) fun v16 : Int32 =>
 (ck (vp_in v16 24) <|
 (nm (((μ8.1 3 (v16).toNatClampNeg) + (1 : Int32))) fun v18 : Int32 =>
 (nm (upM μ8 3 (v16).toNatClampNeg v18) fun μ19 : MM =>
 (some (μ19, (-1 : Int32))))))))
 else
 (nm (((μ8.1 0 8) + (1 : Int32))) fun v12 : Int32 =>
 (nm (upM μ8 0 8 v12) fun μ13 : MM =>
 (nm (upM μ13 0 9 v10) fun μ14 : MM =>
 (some (μ14, v10))))))))))))
set_option maxHeartbeats 4000000 in
theorem c_X4_sit {l : Launch} {G : GW} {μ : MM} {x1 : Int32} {x2 : Int32} {μ' : MM} {r : Int32} (hf : f_X4_sit μ x1 x2 = some (μ', r)) : MZ l (YM G) yX4_sit cX4_sit 4 (some .int) { frames := 2, cells := 0, slots := 0, locals := 51 } [.ref (G.1 0), .int x1, .int x2] μ μ' (some (.int r)) := by
  refine z_met RX4 rfl (by decide) (Nat.le_of_ble_eq_true rfl) (fun X hX C hR => ?_)
  show Z X (YM G) 4 μ 0 [(0, .ref (G.1 0)), (1, .int x1), (2, .int x2)] []
  unfold f_X4_sit at hf
  refine z_aload_n C 0 dX4_sit_0 rfl ?_
  refine z_iload_n C 1 dX4_sit_1 rfl ?_
  obtain ⟨v2, h1⟩ : ∃ z, z = f_X4_isRook μ x1 := ⟨_, rfl⟩
  replace hf := nm_e2 hf v2 h1
  refine z_callVi C (As := [.int x1]) (rest := []) (c_X4_isRook h1.symm) vw_X4_113 ⟨rfl, rfl, by decide, by decide⟩ (z_rv C (q0 := 0) (ci := 4) rfl rfl rfl) rfl (Nat.le_of_ble_eq_true rfl) dX4_sit_2 ?_
  refine z_if_ne C 11 dX4_sit_5 (by decide) (fun c3 => ?_) (fun c3 => ?_)
  · replace hf := it_f hf c3
    refine z_iload_n C 2 dX4_sit_11 rfl ?_
    obtain ⟨v5, h4⟩ : ∃ z, z = f_X4_isWord μ x2 := ⟨_, rfl⟩
    replace hf := nm_e2 hf v5 h4
    refine z_callSi C (As := [.int x2]) (rest := []) (c_X4_isWord h4.symm) sw_X4_126 ⟨rfl, rfl, by decide, by decide⟩ rfl (Nat.le_of_ble_eq_true rfl) dX4_sit_12 ?_
    refine z_if_ne C 21 dX4_sit_15 (by decide) (fun c6 => ?_) (fun c6 => ?_)
    · replace hf := it_f hf c6
      refine z_aload_n C 0 dX4_sit_21 rfl ?_
      obtain ⟨μ8, h7, hf⟩ := bd_e hf
      refine z_callVv C (As := []) (rest := []) (c_X4_asTheySit h7) vw_X4_129 ⟨rfl, rfl, by decide, by decide⟩ (z_rv C (q0 := 0) (ci := 4) rfl rfl rfl) rfl (Nat.le_of_ble_eq_true rfl) dX4_sit_22 ?_
      refine z_aload_n C 0 dX4_sit_25 rfl ?_
      refine z_iload_n C 1 dX4_sit_26 rfl ?_
      refine z_iload_n C 2 dX4_sit_27 rfl ?_
      refine z_aload_n C 0 dX4_sit_28 rfl ?_
      refine zg_X4_91_0 C dX4_sit_29 ?_
      obtain ⟨v10, h9, hf⟩ := bd_e hf
      refine z_callVi C (As := [.int x1, .int x2, .int (μ8.1 0 7)]) (rest := []) (c_X4_comesOf h9) vw_X4_132 ⟨rfl, rfl, by decide, by decide⟩ (z_rv C (q0 := 0) (ci := 4) rfl rfl rfl) rfl (Nat.le_of_ble_eq_true rfl) dX4_sit_32 ?_
      refine z_istore_n C dX4_sit_35 (i := 3) (lv' := [(3, .int v10), (0, .ref (G.1 0)), (1, .int x1), (2, .int x2)]) rfl (by decide) rfl ?_
      refine z_iload_n C 0 dX4_sit_36 rfl ?_
      refine z_iload_n C 3 dX4_sit_37 rfl ?_
      refine z_icmp_ne C 62 dX4_sit_38 (by decide) (fun c11 => ?_) (fun c11 => ?_)
      · replace hf := it_f hf c11
        refine z_aload_n C 1 dX4_sit_62 rfl ?_
        refine z_dup C dX4_sit_63 rfl ?_
        refine zg_X4_94_0 C dX4_sit_64 ?_
        refine z_iconst C dX4_sit_67 (v := (1 : Int32)) (by decide) ?_
        refine z_iadd C dX4_sit_68 ?_
        refine z_topi (fun v12 ev12 => ?_)
        replace hf := nm_e2 hf v12 ev12
        refine zp_X4_94_0 C dX4_sit_69 ?_
        refine z_mem (fun μ13 eμ13 => ?_)
        replace hf := nm_e2 hf μ13 eμ13
        refine z_aload_n C 1 dX4_sit_72 rfl ?_
        refine z_iload_n C 0 dX4_sit_73 rfl ?_
        refine zp_X4_53_0 C dX4_sit_74 ?_
        refine z_mem (fun μ14 eμ14 => ?_)
        replace hf := nm_e2 hf μ14 eμ14
        refine z_iload_n C 0 dX4_sit_77 rfl ?_
        exact z_iret C hR dX4_sit_78 (rt2 hf).1 (rt2 hf).2
      · replace hf := it_t hf c11
        refine z_aload_n C 1 dX4_sit_41 rfl ?_
        refine zg_X4_16_0 C dX4_sit_42 ?_
        refine z_iconst C dX4_sit_45 (v := (4 : Int32)) (by decide) ?_
        refine z_aload_n C 1 dX4_sit_46 rfl ?_
        refine zg_X4_19_0 C dX4_sit_47 ?_
        refine z_iload_n C 2 dX4_sit_50 rfl ?_
        obtain ⟨h15, hf⟩ := ck_e hf
        refine zMl_4 C dX4_sit_51 h15 ?_
        refine z_imul C dX4_sit_52 ?_
        refine z_iconst C dX4_sit_53 (v := (3 : Int32)) (by decide) ?_
        refine z_iadd C dX4_sit_54 ?_
        refine z_topi (fun v16 ev16 => ?_)
        replace hf := nm_e2 hf v16 ev16
        refine z_dup2 C dX4_sit_55 rfl rfl ?_
        obtain ⟨h17, hf⟩ := ck_e hf
        refine zMl_3 C dX4_sit_56 h17 ?_
        refine z_iconst C dX4_sit_57 (v := (1 : Int32)) (by decide) ?_
        refine z_iadd C dX4_sit_58 ?_
        refine z_topi (fun v18 ev18 => ?_)
        replace hf := nm_e2 hf v18 ev18
        refine zMs_3 C dX4_sit_59 h17 ?_
        refine z_mem (fun μ19 eμ19 => ?_)
        replace hf := nm_e2 hf μ19 eμ19
        refine z_iconst C dX4_sit_60 (v := (-1 : Int32)) (by decide) ?_
        exact z_iret C hR dX4_sit_61 (rt2 hf).1 (rt2 hf).2
    · replace hf := it_t hf c6
      refine z_bipush C dX4_sit_18 (v := (-102 : Int32)) (by decide) ?_
      exact z_iret C hR dX4_sit_20 (rt2 hf).1 (rt2 hf).2
  · replace hf := it_t hf c3
    refine z_bipush C dX4_sit_8 (v := (-101 : Int32)) (by decide) ?_
    exact z_iret C hR dX4_sit_10 (rt2 hf).1 (rt2 hf).2
noncomputable def g_X4_where_69 (μ : MM) (x1 : Int32) (x2 : Int32) (x4 : Int32) (t0 : Int32) (t1 : Int32) (ih36 : Int32 × Int32 → Option (MM × Int32)) : Option (MM × Int32) :=
 (nm ((t1 ||| t0)) fun v16 : Int32 =>
 ih36 (v16, (x4 + (1 : Int32))))
set_option maxHeartbeats 4000000 in
theorem zj_X4_where_69 {X : ZX} {G : GW} {μ' : MM} {r : Int32} (μ : MM) (x1 : Int32) (x2 : Int32) (x4 : Int32) (t0 : Int32) (t1 : Int32) (C : CX X (YM G) cX4_where 5 RX4 { frames := 2, cells := 0, slots := 0, locals := 51 }) (hR : ZR X (YM G) (some .int) μ' (some (.int r))) (ih36 : Int32 × Int32 → Option (MM × Int32)) (hih36 : ∀ σ, ih36 σ = some (μ', r) → Z X (YM G) 5 μ 36 [(0, .ref (G.1 0)), (1, .int x1), (2, .int x2), (3, .int σ.1), (4, .int σ.2)] []) (hf : g_X4_where_69 μ x1 x2 x4 t0 t1 ih36 = some (μ', r)) : Z X (YM G) 5 μ 69 [(0, .ref (G.1 0)), (1, .int x1), (2, .int x2), (4, .int x4)] [.int t0, .int t1] := by
  unfold g_X4_where_69 at hf
  refine z_ior C dX4_where_69 ?_
  refine z_topi (fun v16 ev16 => ?_)
  replace hf := nm_e2 hf v16 ev16
  refine z_istore_n C dX4_where_70 (i := 3) (lv' := [(3, .int v16), (0, .ref (G.1 0)), (1, .int x1), (2, .int x2), (4, .int x4)]) rfl (by decide) rfl ?_
  refine z_iinc C 4 dX4_where_71 (v := (x4 + (1 : Int32))) (lv' := [(4, .int (x4 + (1 : Int32))), (3, .int v16), (0, .ref (G.1 0)), (1, .int x1), (2, .int x2)]) rfl rfl (by decide) rfl ?_
  refine z_goto C 36 dX4_where_74 (by decide) ?_
  refine z_lv C [2, 3, 4, 1, 0] (lv' := [(0, .ref (G.1 0)), (1, .int x1), (2, .int x2), (3, .int v16), (4, .int (x4 + (1 : Int32)))]) rfl ?_
  exact hih36 (v16, (x4 + (1 : Int32))) hf
noncomputable def b_X4_where_36 (μ : MM) (x1 : Int32) (x2 : Int32) (ih36 : Int32 × Int32 → Option (MM × Int32)) (x3 : Int32) (x4 : Int32) : Option (MM × Int32) :=
 (if (μ.1 0 6) ≤ x4 then
 (some (μ, x3))
 else
 (bd (f_X4_comesOf μ x4 x1 (μ.1 0 7)) fun v14 =>
 (if v14 = x2 then
 g_X4_where_69 μ x1 x2 x4 (((1 : Int32) <<< (x4 &&& 31))) x3 ih36
 else
 g_X4_where_69 μ x1 x2 x4 (0 : Int32) x3 ih36)))
set_option maxHeartbeats 4000000 in
theorem zl_X4_where_36 {X : ZX} {G : GW} {μ' : MM} {r : Int32} (μ : MM) (x1 : Int32) (x2 : Int32) (C : CX X (YM G) cX4_where 5 RX4 { frames := 2, cells := 0, slots := 0, locals := 51 }) (hR : ZR X (YM G) (some .int) μ' (some (.int r))) : ∀ (n : Nat) (σ : Int32 × Int32), lp (fun ih σ => b_X4_where_36 μ x1 x2 ih σ.1 σ.2) n σ = some (μ', r) → Z X (YM G) 5 μ 36 [(0, .ref (G.1 0)), (1, .int x1), (2, .int x2), (3, .int σ.1), (4, .int σ.2)] [] := by
  refine lp_z (P := fun σ : Int32 × Int32 => Z X (YM G) 5 μ 36 [(0, .ref (G.1 0)), (1, .int x1), (2, .int x2), (3, .int σ.1), (4, .int σ.2)] []) (fun ih36 hih36 σ hf => ?_)
  obtain ⟨x3, x4⟩ := σ
  have hf : b_X4_where_36 μ x1 x2 ih36 x3 x4 = some (μ', r) := hf
  show Z X (YM G) 5 μ 36 [(0, .ref (G.1 0)), (1, .int x1), (2, .int x2), (3, .int x3), (4, .int x4)] []
  unfold b_X4_where_36 at hf
  refine z_iload C 4 dX4_where_36 rfl ?_
  refine z_aload_n C 0 dX4_where_38 rfl ?_
  refine zg_X4_88_0 C dX4_where_39 ?_
  refine z_icmp_ge C 77 dX4_where_42 (by decide) (fun c12 => ?_) (fun c12 => ?_)
  · replace hf := it_t hf c12
    refine z_iload_n C 3 dX4_where_77 rfl ?_
    exact z_iret C hR dX4_where_78 (rt2 hf).1 (rt2 hf).2
  · replace hf := it_f hf c12
    refine z_iload_n C 3 dX4_where_45 rfl ?_
    refine z_aload_n C 0 dX4_where_46 rfl ?_
    refine z_iload C 4 dX4_where_47 rfl ?_
    refine z_iload_n C 1 dX4_where_49 rfl ?_
    refine z_aload_n C 0 dX4_where_50 rfl ?_
    refine zg_X4_91_0 C dX4_where_51 ?_
    obtain ⟨v14, h13, hf⟩ := bd_e hf
    refine z_callVi C (As := [.int x4, .int x1, .int (μ.1 0 7)]) (rest := [.int x3]) (c_X4_comesOf h13) vw_X4_132 ⟨rfl, rfl, by decide, by decide⟩ (z_rv C (q0 := 0) (ci := 4) rfl rfl rfl) rfl (Nat.le_of_ble_eq_true rfl) dX4_where_54 ?_
    refine z_iload_n C 2 dX4_where_57 rfl ?_
    refine z_icmp_ne C 68 dX4_where_58 (by decide) (fun c15 => ?_) (fun c15 => ?_)
    · replace hf := it_f hf c15
      refine z_iconst C dX4_where_68 (v := (0 : Int32)) (by decide) ?_
      refine z_lv C [0, 1, 2, 4] (lv' := [(0, .ref (G.1 0)), (1, .int x1), (2, .int x2), (4, .int x4)]) rfl ?_
      exact zj_X4_where_69 μ x1 x2 x4 (0 : Int32) x3 C hR ih36 hih36 hf
    · replace hf := it_t hf c15
      refine z_iconst C dX4_where_61 (v := (1 : Int32)) (by decide) ?_
      refine z_iload C 4 dX4_where_62 rfl ?_
      refine z_ishl C dX4_where_64 ?_
      refine z_goto C 69 dX4_where_65 (by decide) ?_
      refine z_lv C [0, 1, 2, 4] (lv' := [(0, .ref (G.1 0)), (1, .int x1), (2, .int x2), (4, .int x4)]) rfl ?_
      exact zj_X4_where_69 μ x1 x2 x4 (((1 : Int32) <<< (x4 &&& 31))) x3 C hR ih36 hih36 hf
noncomputable def f_X4_where (μ : MM) (x1 : Int32) (x2 : Int32) : Option (MM × Int32) :=
 (nm (f_X4_isWord μ x1) fun v2 : Int32 =>
 (if v2 = 0 then
 (some (μ, (-102 : Int32)))
 else
 (nm (f_X4_isWord μ x2) fun v5 : Int32 =>
 (if v5 = 0 then
 (some (μ, (-102 : Int32)))
 else
 (nm (f_X4_lacks μ) fun v8 : Int32 =>
 (if v8 = 0 then
 (bd (f_X4_asTheySit μ) fun μ11 =>
 lp (fun ih σ => b_X4_where_36 μ11 x1 x2 ih σ.1 σ.2) fu ((0 : Int32), (0 : Int32)))
 else
 (some (μ, (-103 : Int32)))))))))
set_option maxHeartbeats 4000000 in
theorem c_X4_where {l : Launch} {G : GW} {μ : MM} {x1 : Int32} {x2 : Int32} {μ' : MM} {r : Int32} (hf : f_X4_where μ x1 x2 = some (μ', r)) : MZ l (YM G) yX4_where cX4_where 5 (some .int) { frames := 2, cells := 0, slots := 0, locals := 51 } [.ref (G.1 0), .int x1, .int x2] μ μ' (some (.int r)) := by
  refine z_met RX4 rfl (by decide) (Nat.le_of_ble_eq_true rfl) (fun X hX C hR => ?_)
  show Z X (YM G) 5 μ 0 [(0, .ref (G.1 0)), (1, .int x1), (2, .int x2)] []
  unfold f_X4_where at hf
  refine z_iload_n C 1 dX4_where_0 rfl ?_
  obtain ⟨v2, h1⟩ : ∃ z, z = f_X4_isWord μ x1 := ⟨_, rfl⟩
  replace hf := nm_e2 hf v2 h1
  refine z_callSi C (As := [.int x1]) (rest := []) (c_X4_isWord h1.symm) sw_X4_126 ⟨rfl, rfl, by decide, by decide⟩ rfl (Nat.le_of_ble_eq_true rfl) dX4_where_1 ?_
  refine z_if_eq C 14 dX4_where_4 (by decide) (fun c3 => ?_) (fun c3 => ?_)
  · replace hf := it_t hf c3
    refine z_bipush C dX4_where_14 (v := (-102 : Int32)) (by decide) ?_
    exact z_iret C hR dX4_where_16 (rt2 hf).1 (rt2 hf).2
  · replace hf := it_f hf c3
    refine z_iload_n C 2 dX4_where_7 rfl ?_
    obtain ⟨v5, h4⟩ : ∃ z, z = f_X4_isWord μ x2 := ⟨_, rfl⟩
    replace hf := nm_e2 hf v5 h4
    refine z_callSi C (As := [.int x2]) (rest := []) (c_X4_isWord h4.symm) sw_X4_126 ⟨rfl, rfl, by decide, by decide⟩ rfl (Nat.le_of_ble_eq_true rfl) dX4_where_8 ?_
    refine z_if_ne C 17 dX4_where_11 (by decide) (fun c6 => ?_) (fun c6 => ?_)
    · replace hf := it_f hf c6
      refine z_aload_n C 0 dX4_where_17 rfl ?_
      obtain ⟨v8, h7⟩ : ∃ z, z = f_X4_lacks μ := ⟨_, rfl⟩
      replace hf := nm_e2 hf v8 h7
      refine z_callVi C (As := []) (rest := []) (c_X4_lacks h7.symm) vw_X4_122 ⟨rfl, rfl, by decide, by decide⟩ (z_rv C (q0 := 0) (ci := 4) rfl rfl rfl) rfl (Nat.le_of_ble_eq_true rfl) dX4_where_18 ?_
      refine z_if_eq C 27 dX4_where_21 (by decide) (fun c9 => ?_) (fun c9 => ?_)
      · replace hf := it_t hf c9
        refine z_aload_n C 0 dX4_where_27 rfl ?_
        obtain ⟨μ11, h10, hf⟩ := bd_e hf
        refine z_callVv C (As := []) (rest := []) (c_X4_asTheySit h10) vw_X4_129 ⟨rfl, rfl, by decide, by decide⟩ (z_rv C (q0 := 0) (ci := 4) rfl rfl rfl) rfl (Nat.le_of_ble_eq_true rfl) dX4_where_28 ?_
        refine z_iconst C dX4_where_31 (v := (0 : Int32)) (by decide) ?_
        refine z_istore_n C dX4_where_32 (i := 3) (lv' := [(3, .int (0 : Int32)), (0, .ref (G.1 0)), (1, .int x1), (2, .int x2)]) rfl (by decide) rfl ?_
        refine z_iconst C dX4_where_33 (v := (0 : Int32)) (by decide) ?_
        refine z_istore C dX4_where_34 (i := 4) (lv' := [(4, .int (0 : Int32)), (3, .int (0 : Int32)), (0, .ref (G.1 0)), (1, .int x1), (2, .int x2)]) (by decide) rfl ?_
        refine z_lv C [2, 3, 4, 1, 0] (lv' := [(0, .ref (G.1 0)), (1, .int x1), (2, .int x2), (3, .int (0 : Int32)), (4, .int (0 : Int32))]) rfl ?_
        exact zl_X4_where_36 μ11 x1 x2 C hR fu ((0 : Int32), (0 : Int32)) hf
      · replace hf := it_f hf c9
        refine z_bipush C dX4_where_24 (v := (-103 : Int32)) (by decide) ?_
        exact z_iret C hR dX4_where_26 (rt2 hf).1 (rt2 hf).2
    · replace hf := it_t hf c6
      refine z_bipush C dX4_where_14 (v := (-102 : Int32)) (by decide) ?_
      exact z_iret C hR dX4_where_16 (rt2 hf).1 (rt2 hf).2
