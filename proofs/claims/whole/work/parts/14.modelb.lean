noncomputable def g_X4_canOf_52 (μ : MM) (x2 : Int32) (t0 : Int32) (t1 : Int32) (ih8 : Int32 × Int32 → Option (MM × Int32)) : Option (MM × Int32) :=
 (nm ((t1 ||| t0)) fun v7 : Int32 =>
 ih8 (v7, (x2 + (1 : Int32))))
set_option maxHeartbeats 4000000 in
theorem zj_X4_canOf_52 {X : ZX} {G : GW} {μ' : MM} {r : Int32} (μ : MM) (x2 : Int32) (t0 : Int32) (t1 : Int32) (C : CX X (YM G) cX4_canOf 4 RX4 { frames := 2, cells := 0, slots := 0, locals := 51 }) (hR : ZR X (YM G) (some .int) μ' (some (.int r))) (ih8 : Int32 × Int32 → Option (MM × Int32)) (hih8 : ∀ σ, ih8 σ = some (μ', r) → Z X (YM G) 4 μ 8 [(0, .ref (G.1 0)), (1, .int σ.1), (2, .int σ.2)] []) (hf : g_X4_canOf_52 μ x2 t0 t1 ih8 = some (μ', r)) : Z X (YM G) 4 μ 52 [(0, .ref (G.1 0)), (2, .int x2)] [.int t0, .int t1] := by
  unfold g_X4_canOf_52 at hf
  refine z_ior C dX4_canOf_52 ?_
  refine z_topi (fun v7 ev7 => ?_)
  replace hf := nm_e2 hf v7 ev7
  refine z_istore_n C dX4_canOf_53 (i := 1) (lv' := [(1, .int v7), (0, .ref (G.1 0)), (2, .int x2)]) rfl (by decide) rfl ?_
  refine z_iinc C 2 dX4_canOf_54 (v := (x2 + (1 : Int32))) (lv' := [(2, .int (x2 + (1 : Int32))), (1, .int v7), (0, .ref (G.1 0))]) rfl rfl (by decide) rfl ?_
  refine z_goto C 8 dX4_canOf_57 (by decide) ?_
  refine z_lv C [2, 1, 0] (lv' := [(0, .ref (G.1 0)), (1, .int v7), (2, .int (x2 + (1 : Int32)))]) rfl ?_
  exact hih8 (v7, (x2 + (1 : Int32))) hf
noncomputable def b_X4_canOf_8 (μ : MM) (ih8 : Int32 × Int32 → Option (MM × Int32)) (x1 : Int32) (x2 : Int32) : Option (MM × Int32) :=
 (if ((8 : Int32) * (μ.1 0 6)) ≤ x2 then
 (some (μ, x1))
 else
 (bd (f_X4_comesOf μ (x2 / (8 : Int32)) (x2 - x2 / (8 : Int32) * (8 : Int32)) (μ.1 0 7)) fun v5 =>
 (if v5 = (x2 - x2 / (8 : Int32) * (8 : Int32)) then
 g_X4_canOf_52 μ x2 (0 : Int32) x1 ih8
 else
 g_X4_canOf_52 μ x2 (((1 : Int32) <<< (v5 &&& 31))) x1 ih8)))
set_option maxHeartbeats 4000000 in
theorem zl_X4_canOf_8 {X : ZX} {G : GW} {μ' : MM} {r : Int32} (μ : MM) (C : CX X (YM G) cX4_canOf 4 RX4 { frames := 2, cells := 0, slots := 0, locals := 51 }) (hR : ZR X (YM G) (some .int) μ' (some (.int r))) : ∀ (n : Nat) (σ : Int32 × Int32), lp (fun ih σ => b_X4_canOf_8 μ ih σ.1 σ.2) n σ = some (μ', r) → Z X (YM G) 4 μ 8 [(0, .ref (G.1 0)), (1, .int σ.1), (2, .int σ.2)] [] := by
  refine lp_z (P := fun σ : Int32 × Int32 => Z X (YM G) 4 μ 8 [(0, .ref (G.1 0)), (1, .int σ.1), (2, .int σ.2)] []) (fun ih8 hih8 σ hf => ?_)
  obtain ⟨x1, x2⟩ := σ
  have hf : b_X4_canOf_8 μ ih8 x1 x2 = some (μ', r) := hf
  show Z X (YM G) 4 μ 8 [(0, .ref (G.1 0)), (1, .int x1), (2, .int x2)] []
  unfold b_X4_canOf_8 at hf
  refine z_iload_n C 2 dX4_canOf_8 rfl ?_
  refine z_bipush C dX4_canOf_9 (v := (8 : Int32)) (by decide) ?_
  refine z_aload_n C 0 dX4_canOf_11 rfl ?_
  refine zg_X4_88_0 C dX4_canOf_12 ?_
  refine z_imul C dX4_canOf_15 ?_
  refine z_icmp_ge C 60 dX4_canOf_16 (by decide) (fun c3 => ?_) (fun c3 => ?_)
  · replace hf := it_t hf c3
    refine z_iload_n C 1 dX4_canOf_60 rfl ?_
    exact z_iret C hR dX4_canOf_61 (rt2 hf).1 (rt2 hf).2
  · replace hf := it_f hf c3
    refine z_aload_n C 0 dX4_canOf_19 rfl ?_
    refine z_iload_n C 2 dX4_canOf_20 rfl ?_
    refine z_bipush C dX4_canOf_21 (v := (8 : Int32)) (by decide) ?_
    refine z_idiv C dX4_canOf_23 (by decide) ?_
    refine z_iload_n C 2 dX4_canOf_24 rfl ?_
    refine z_bipush C dX4_canOf_25 (v := (8 : Int32)) (by decide) ?_
    refine z_irem C dX4_canOf_27 (by decide) ?_
    refine z_aload_n C 0 dX4_canOf_28 rfl ?_
    refine zg_X4_91_0 C dX4_canOf_29 ?_
    obtain ⟨v5, h4, hf⟩ := bd_e hf
    refine z_callVi C (As := [.int (x2 / (8 : Int32)), .int (x2 - x2 / (8 : Int32) * (8 : Int32)), .int (μ.1 0 7)]) (rest := []) (c_X4_comesOf h4) vw_X4_132 ⟨rfl, rfl, by decide, by decide⟩ (z_rv C (q0 := 0) (ci := 4) rfl rfl rfl) rfl (Nat.le_of_ble_eq_true rfl) dX4_canOf_32 ?_
    refine z_istore_n C dX4_canOf_35 (i := 3) (lv' := [(3, .int v5), (0, .ref (G.1 0)), (1, .int x1), (2, .int x2)]) rfl (by decide) rfl ?_
    refine z_iload_n C 2 dX4_canOf_36 rfl ?_
    refine z_iload_n C 0 dX4_canOf_37 rfl ?_
    refine z_iload_n C 3 dX4_canOf_38 rfl ?_
    refine z_bipush C dX4_canOf_39 (v := (8 : Int32)) (by decide) ?_
    refine z_irem C dX4_canOf_41 (by decide) ?_
    refine z_icmp_ne C 49 dX4_canOf_42 (by decide) (fun c6 => ?_) (fun c6 => ?_)
    · replace hf := it_f hf c6
      refine z_iconst C dX4_canOf_49 (v := (1 : Int32)) (by decide) ?_
      refine z_iload_n C 0 dX4_canOf_50 rfl ?_
      refine z_ishl C dX4_canOf_51 ?_
      refine z_lv C [1, 3] (lv' := [(0, .ref (G.1 0)), (2, .int x2)]) rfl ?_
      exact zj_X4_canOf_52 μ x2 (((1 : Int32) <<< (v5 &&& 31))) x1 C hR ih8 hih8 hf
    · replace hf := it_t hf c6
      refine z_iconst C dX4_canOf_45 (v := (0 : Int32)) (by decide) ?_
      refine z_goto C 52 dX4_canOf_46 (by decide) ?_
      refine z_lv C [1, 3] (lv' := [(0, .ref (G.1 0)), (2, .int x2)]) rfl ?_
      exact zj_X4_canOf_52 μ x2 (0 : Int32) x1 C hR ih8 hih8 hf
noncomputable def f_X4_canOf (μ : MM) : Option (MM × Int32) :=
 (bd (f_X4_asTheySit μ) fun μ2 =>
 lp (fun ih σ => b_X4_canOf_8 μ2 ih σ.1 σ.2) fu ((0 : Int32), (0 : Int32)))
set_option maxHeartbeats 4000000 in
theorem c_X4_canOf {l : Launch} {G : GW} {μ : MM} {μ' : MM} {r : Int32} (hf : f_X4_canOf μ = some (μ', r)) : MZ l (YM G) yX4_canOf cX4_canOf 4 (some .int) { frames := 2, cells := 0, slots := 0, locals := 51 } [.ref (G.1 0)] μ μ' (some (.int r)) := by
  refine z_met RX4 rfl (by decide) (Nat.le_of_ble_eq_true rfl) (fun X hX C hR => ?_)
  show Z X (YM G) 4 μ 0 [(0, .ref (G.1 0))] []
  unfold f_X4_canOf at hf
  refine z_aload_n C 0 dX4_canOf_0 rfl ?_
  obtain ⟨μ2, h1, hf⟩ := bd_e hf
  refine z_callVv C (As := []) (rest := []) (c_X4_asTheySit h1) vw_X4_129 ⟨rfl, rfl, by decide, by decide⟩ (z_rv C (q0 := 0) (ci := 4) rfl rfl rfl) rfl (Nat.le_of_ble_eq_true rfl) dX4_canOf_1 ?_
  refine z_iconst C dX4_canOf_4 (v := (0 : Int32)) (by decide) ?_
  refine z_istore_n C dX4_canOf_5 (i := 1) (lv' := [(1, .int (0 : Int32)), (0, .ref (G.1 0))]) rfl (by decide) rfl ?_
  refine z_iconst C dX4_canOf_6 (v := (0 : Int32)) (by decide) ?_
  refine z_istore_n C dX4_canOf_7 (i := 2) (lv' := [(2, .int (0 : Int32)), (1, .int (0 : Int32)), (0, .ref (G.1 0))]) rfl (by decide) rfl ?_
  refine z_lv C [2, 1, 0] (lv' := [(0, .ref (G.1 0)), (1, .int (0 : Int32)), (2, .int (0 : Int32))]) rfl ?_
  exact zl_X4_canOf_8 μ2 C hR fu ((0 : Int32), (0 : Int32)) hf
noncomputable def f_X4_can (μ : MM) : Option (MM × Int32) :=
 (nm (f_X4_lacks μ) fun v2 : Int32 =>
 (if v2 = 0 then
 (bd2 (f_X4_canOf μ) fun μ5 v6 =>
 (some (μ5, v6)))
 else
 (some (μ, (-103 : Int32)))))
set_option maxHeartbeats 4000000 in
theorem c_X4_can {l : Launch} {G : GW} {μ : MM} {μ' : MM} {r : Int32} (hf : f_X4_can μ = some (μ', r)) : MZ l (YM G) yX4_can cX4_can 1 (some .int) { frames := 3, cells := 0, slots := 0, locals := 74 } [.ref (G.1 0)] μ μ' (some (.int r)) := by
  refine z_met RX4 rfl (by decide) (Nat.le_of_ble_eq_true rfl) (fun X hX C hR => ?_)
  show Z X (YM G) 1 μ 0 [(0, .ref (G.1 0))] []
  unfold f_X4_can at hf
  refine z_aload_n C 0 dX4_can_0 rfl ?_
  obtain ⟨v2, h1⟩ : ∃ z, z = f_X4_lacks μ := ⟨_, rfl⟩
  replace hf := nm_e2 hf v2 h1
  refine z_callVi C (As := []) (rest := []) (c_X4_lacks h1.symm) vw_X4_122 ⟨rfl, rfl, by decide, by decide⟩ (z_rv C (q0 := 0) (ci := 4) rfl rfl rfl) rfl (Nat.le_of_ble_eq_true rfl) dX4_can_1 ?_
  refine z_if_eq C 12 dX4_can_4 (by decide) (fun c3 => ?_) (fun c3 => ?_)
  · replace hf := it_t hf c3
    refine z_aload_n C 0 dX4_can_12 rfl ?_
    obtain ⟨μ5, v6, h4, hf⟩ := bd2_e hf
    refine z_callVi C (As := []) (rest := []) (c_X4_canOf h4) vw_X4_136 ⟨rfl, rfl, by decide, by decide⟩ (z_rv C (q0 := 0) (ci := 4) rfl rfl rfl) rfl (Nat.le_of_ble_eq_true rfl) dX4_can_13 ?_
    exact z_iret C hR dX4_can_16 (rt2 hf).1 (rt2 hf).2
  · replace hf := it_f hf c3
    refine z_bipush C dX4_can_7 (v := (-103 : Int32)) (by decide) ?_
    refine z_goto C 16 dX4_can_9 (by decide) ?_
    exact z_iret C hR dX4_can_16 (rt2 hf).1 (rt2 hf).2
noncomputable def g_X4_endless_156 (μ : MM) (x3 : Int32) (x4 : Int32) (x5 : Int32) (x6 : Int32) : Option (MM × Int32) :=
 (if x3 = 0 then
 (some (μ, x6))
 else
 (if x3 = (1 : Int32) then
 (ck (vp_in (((8 : Int32) * x4) + x5) 48) <|
 (some (μ, (x6 - (μ.1 7 ((((8 : Int32) * x4) + x5)).toNatClampNeg)))))
 else
 (some (μ, (-1 : Int32)))))
set_option maxHeartbeats 4000000 in
theorem zj_X4_endless_156 {X : ZX} {G : GW} {μ' : MM} {r : Int32} (μ : MM) (x3 : Int32) (x4 : Int32) (x5 : Int32) (x6 : Int32) (C : CX X (YM G) cX4_endless 8 RX4 { frames := 2, cells := 0, slots := 0, locals := 51 }) (hR : ZR X (YM G) (some .int) μ' (some (.int r))) (hf : g_X4_endless_156 μ x3 x4 x5 x6 = some (μ', r)) : Z X (YM G) 8 μ 156 [(0, .ref (G.1 0)), (3, .int x3), (4, .int x4), (5, .int x5), (6, .int x6)] [] := by
  unfold g_X4_endless_156 at hf
  refine z_iload_n C 1 dX4_endless_156 rfl ?_
  refine z_if_ne C 165 dX4_endless_157 (by decide) (fun c15 => ?_) (fun c15 => ?_)
  · replace hf := it_f hf c15
    refine z_iload_n C 1 dX4_endless_165 rfl ?_
    refine z_iconst C dX4_endless_166 (v := (1 : Int32)) (by decide) ?_
    refine z_icmp_ne C 189 dX4_endless_167 (by decide) (fun c16 => ?_) (fun c16 => ?_)
    · replace hf := it_f hf c16
      refine z_iconst C dX4_endless_189 (v := (-1 : Int32)) (by decide) ?_
      exact z_iret C hR dX4_endless_190 (rt2 hf).1 (rt2 hf).2
    · replace hf := it_t hf c16
      refine z_iload C 4 dX4_endless_170 rfl ?_
      refine z_aload_n C 0 dX4_endless_172 rfl ?_
      refine zg_X4_28_0 C dX4_endless_173 ?_
      refine z_bipush C dX4_endless_176 (v := (8 : Int32)) (by decide) ?_
      refine z_iload C 2 dX4_endless_178 rfl ?_
      refine z_imul C dX4_endless_180 ?_
      refine z_iload C 3 dX4_endless_181 rfl ?_
      refine z_iadd C dX4_endless_183 ?_
      obtain ⟨h17, hf⟩ := ck_e hf
      refine zMl_7 C dX4_endless_184 h17 ?_
      refine z_isub C dX4_endless_185 ?_
      refine z_goto C 190 dX4_endless_186 (by decide) ?_
      exact z_iret C hR dX4_endless_190 (rt2 hf).1 (rt2 hf).2
  · replace hf := it_t hf c15
    refine z_iload C 4 dX4_endless_160 rfl ?_
    refine z_goto C 190 dX4_endless_162 (by decide) ?_
    exact z_iret C hR dX4_endless_190 (rt2 hf).1 (rt2 hf).2
noncomputable def g_X4_endless_126 (μ : MM) (x3 : Int32) (x6 : Int32) : Option (MM × Int32) :=
 (if x3 = (2 : Int32) then
 (some (μ, x6))
 else
 (some (μ, (-1 : Int32))))
set_option maxHeartbeats 4000000 in
theorem zj_X4_endless_126 {X : ZX} {G : GW} {μ' : MM} {r : Int32} (μ : MM) (x3 : Int32) (x6 : Int32) (C : CX X (YM G) cX4_endless 8 RX4 { frames := 2, cells := 0, slots := 0, locals := 51 }) (hR : ZR X (YM G) (some .int) μ' (some (.int r))) (hf : g_X4_endless_126 μ x3 x6 = some (μ', r)) : Z X (YM G) 8 μ 126 [(3, .int x3), (6, .int x6)] [] := by
  unfold g_X4_endless_126 at hf
  refine z_iload_n C 0 dX4_endless_126 rfl ?_
  refine z_iconst C dX4_endless_127 (v := (2 : Int32)) (by decide) ?_
  refine z_icmp_ne C 136 dX4_endless_128 (by decide) (fun c24 => ?_) (fun c24 => ?_)
  · replace hf := it_f hf c24
    refine z_iconst C dX4_endless_136 (v := (-1 : Int32)) (by decide) ?_
    exact z_iret C hR dX4_endless_137 (rt2 hf).1 (rt2 hf).2
  · replace hf := it_t hf c24
    refine z_iload C 1 dX4_endless_131 rfl ?_
    refine z_goto C 137 dX4_endless_133 (by decide) ?_
    exact z_iret C hR dX4_endless_137 (rt2 hf).1 (rt2 hf).2
noncomputable def b_X4_endless_70 (x3 : Int32) (ih70 : MM × Int32 × Int32 × Int32 → Option (MM × Int32)) (μ : MM) (x4 : Int32) (x5 : Int32) (x6 : Int32) : Option (MM × Int32) :=
 (ck (vp_in (((8 : Int32) * x4) + x5) 48) <|
 (if (μ.1 7 ((((8 : Int32) * x4) + x5)).toNatClampNeg) = (-1 : Int32) then
 (nm (upM μ 7 ((((8 : Int32) * x4) + x5)).toNatClampNeg x6) fun μ18 : MM =>
 (bd (f_X4_comesOf μ18 x4 x5 (μ18.1 0 7)) fun v20 =>
 (if v20 = x5 then
 g_X4_endless_126 μ18 x3 ((x6 + (1 : Int32)))
 else
 (ck (¬ (μ18.1 0 6) = 0) <|
 (nm (((x4 + (1 : Int32)) - (x4 + (1 : Int32)) / (μ18.1 0 6) * (μ18.1 0 6))) fun v23 : Int32 =>
 ih70 (μ18, v23, v20, (x6 + (1 : Int32))))))))
 else
 g_X4_endless_156 μ x3 x4 x5 x6))
set_option maxHeartbeats 4000000 in
theorem zl_X4_endless_70 {X : ZX} {G : GW} {μ' : MM} {r : Int32} (x3 : Int32) (C : CX X (YM G) cX4_endless 8 RX4 { frames := 2, cells := 0, slots := 0, locals := 51 }) (hR : ZR X (YM G) (some .int) μ' (some (.int r))) : ∀ (n : Nat) (σ : MM × Int32 × Int32 × Int32), lp (fun ih σ => b_X4_endless_70 x3 ih σ.1 σ.2.1 σ.2.2.1 σ.2.2.2) n σ = some (μ', r) → Z X (YM G) 8 σ.1 70 [(0, .ref (G.1 0)), (3, .int x3), (4, .int σ.2.1), (5, .int σ.2.2.1), (6, .int σ.2.2.2)] [] := by
  refine lp_z (P := fun σ : MM × Int32 × Int32 × Int32 => Z X (YM G) 8 σ.1 70 [(0, .ref (G.1 0)), (3, .int x3), (4, .int σ.2.1), (5, .int σ.2.2.1), (6, .int σ.2.2.2)] []) (fun ih70 hih70 σ hf => ?_)
  obtain ⟨μ, x4, x5, x6⟩ := σ
  have hf : b_X4_endless_70 x3 ih70 μ x4 x5 x6 = some (μ', r) := hf
  show Z X (YM G) 8 μ 70 [(0, .ref (G.1 0)), (3, .int x3), (4, .int x4), (5, .int x5), (6, .int x6)] []
  unfold b_X4_endless_70 at hf
  refine z_aload_n C 0 dX4_endless_70 rfl ?_
  refine zg_X4_28_0 C dX4_endless_71 ?_
  refine z_bipush C dX4_endless_74 (v := (8 : Int32)) (by decide) ?_
  refine z_iload C 2 dX4_endless_76 rfl ?_
  refine z_imul C dX4_endless_78 ?_
  refine z_iload C 3 dX4_endless_79 rfl ?_
  refine z_iadd C dX4_endless_81 ?_
  obtain ⟨h13, hf⟩ := ck_e hf
  refine zMl_7 C dX4_endless_82 h13 ?_
  refine z_iconst C dX4_endless_83 (v := (-1 : Int32)) (by decide) ?_
  refine z_icmp_ne C 156 dX4_endless_84 (by decide) (fun c14 => ?_) (fun c14 => ?_)
  · replace hf := it_f hf c14
    exact zj_X4_endless_156 μ x3 x4 x5 x6 C hR hf
  · replace hf := it_t hf c14
    refine z_aload_n C 0 dX4_endless_87 rfl ?_
    refine zg_X4_28_0 C dX4_endless_88 ?_
    refine z_bipush C dX4_endless_91 (v := (8 : Int32)) (by decide) ?_
    refine z_iload C 2 dX4_endless_93 rfl ?_
    refine z_imul C dX4_endless_95 ?_
    refine z_iload C 3 dX4_endless_96 rfl ?_
    refine z_iadd C dX4_endless_98 ?_
    refine z_iload C 4 dX4_endless_99 rfl ?_
    refine zMs_7 C dX4_endless_101 h13 ?_
    refine z_mem (fun μ18 eμ18 => ?_)
    replace hf := nm_e2 hf μ18 eμ18
    refine z_iinc C 4 dX4_endless_102 (v := (x6 + (1 : Int32))) (lv' := [(6, .int (x6 + (1 : Int32))), (0, .ref (G.1 0)), (3, .int x3), (4, .int x4), (5, .int x5)]) rfl rfl (by decide) rfl ?_
    refine z_aload_n C 1 dX4_endless_105 rfl ?_
    refine z_iload C 3 dX4_endless_106 rfl ?_
    refine z_iload C 4 dX4_endless_108 rfl ?_
    refine z_aload_n C 1 dX4_endless_110 rfl ?_
    refine zg_X4_91_0 C dX4_endless_111 ?_
    obtain ⟨v20, h19, hf⟩ := bd_e hf
    refine z_callVi C (As := [.int x4, .int x5, .int (μ18.1 0 7)]) (rest := []) (c_X4_comesOf h19) vw_X4_132 ⟨rfl, rfl, by decide, by decide⟩ (z_rv C (q0 := 0) (ci := 4) rfl rfl rfl) rfl (Nat.le_of_ble_eq_true rfl) dX4_endless_114 ?_
    refine z_istore C dX4_endless_117 (i := 7) (lv' := [(7, .int v20), (6, .int (x6 + (1 : Int32))), (0, .ref (G.1 0)), (3, .int x3), (4, .int x4), (5, .int x5)]) (by decide) rfl ?_
    refine z_iload C 0 dX4_endless_119 rfl ?_
    refine z_iload C 5 dX4_endless_121 rfl ?_
    refine z_icmp_ne C 138 dX4_endless_123 (by decide) (fun c21 => ?_) (fun c21 => ?_)
    · replace hf := it_f hf c21
      refine z_iload C 4 dX4_endless_138 rfl ?_
      refine z_iconst C dX4_endless_140 (v := (1 : Int32)) (by decide) ?_
      refine z_iadd C dX4_endless_141 ?_
      refine z_aload_n C 2 dX4_endless_142 rfl ?_
      refine zg_X4_88_0 C dX4_endless_143 ?_
      obtain ⟨h22, hf⟩ := ck_e hf
      refine z_irem C dX4_endless_146 h22 ?_
      refine z_topi (fun v23 ev23 => ?_)
      replace hf := nm_e2 hf v23 ev23
      refine z_istore C dX4_endless_147 (i := 4) (lv' := [(4, .int v23), (7, .int v20), (6, .int (x6 + (1 : Int32))), (0, .ref (G.1 0)), (3, .int x3), (5, .int x5)]) (by decide) rfl ?_
      refine z_iload C 1 dX4_endless_149 rfl ?_
      refine z_istore C dX4_endless_151 (i := 5) (lv' := [(5, .int v20), (4, .int v23), (7, .int v20), (6, .int (x6 + (1 : Int32))), (0, .ref (G.1 0)), (3, .int x3)]) (by decide) rfl ?_
      refine z_goto C 70 dX4_endless_153 (by decide) ?_
      refine z_lv C [4, 5, 1, 0, 3] (lv' := [(0, .ref (G.1 0)), (3, .int x3), (4, .int v23), (5, .int v20), (6, .int (x6 + (1 : Int32)))]) rfl ?_
      exact hih70 (μ18, v23, v20, (x6 + (1 : Int32))) hf
    · replace hf := it_t hf c21
      refine z_lv C [3, 1] (lv' := [(3, .int x3), (6, .int (x6 + (1 : Int32)))]) rfl ?_
      exact zj_X4_endless_126 μ18 x3 ((x6 + (1 : Int32))) C hR hf
noncomputable def g_X4_endless_61 (μ : MM) (x1 : Int32) (x2 : Int32) (x3 : Int32) : Option (MM × Int32) :=
 lp (fun ih σ => b_X4_endless_70 x3 ih σ.1 σ.2.1 σ.2.2.1 σ.2.2.2) fu (μ, x1, x2, (0 : Int32))
set_option maxHeartbeats 4000000 in
theorem zj_X4_endless_61 {X : ZX} {G : GW} {μ' : MM} {r : Int32} (μ : MM) (x1 : Int32) (x2 : Int32) (x3 : Int32) (C : CX X (YM G) cX4_endless 8 RX4 { frames := 2, cells := 0, slots := 0, locals := 51 }) (hR : ZR X (YM G) (some .int) μ' (some (.int r))) (hf : g_X4_endless_61 μ x1 x2 x3 = some (μ', r)) : Z X (YM G) 8 μ 61 [(0, .ref (G.1 0)), (1, .int x1), (2, .int x2), (3, .int x3)] [] := by
  unfold g_X4_endless_61 at hf
  refine z_iload_n C 1 dX4_endless_61 rfl ?_
  refine z_istore C dX4_endless_62 (i := 4) (lv' := [(4, .int x1), (0, .ref (G.1 0)), (1, .int x1), (2, .int x2), (3, .int x3)]) (by decide) rfl ?_
  refine z_iload_n C 3 dX4_endless_64 rfl ?_
  refine z_istore C dX4_endless_65 (i := 5) (lv' := [(5, .int x2), (4, .int x1), (0, .ref (G.1 0)), (1, .int x1), (2, .int x2), (3, .int x3)]) (by decide) rfl ?_
  refine z_iconst C dX4_endless_67 (v := (0 : Int32)) (by decide) ?_
  refine z_istore C dX4_endless_68 (i := 6) (lv' := [(6, .int (0 : Int32)), (5, .int x2), (4, .int x1), (0, .ref (G.1 0)), (1, .int x1), (2, .int x2), (3, .int x3)]) (by decide) rfl ?_
  refine z_lv C [3, 6, 2, 1, 0] (lv' := [(0, .ref (G.1 0)), (3, .int x3), (4, .int x1), (5, .int x2), (6, .int (0 : Int32))]) rfl ?_
  exact zl_X4_endless_70 x3 C hR fu (μ, x1, x2, (0 : Int32)) hf
noncomputable def b_X4_endless_40 (x1 : Int32) (x2 : Int32) (x3 : Int32) (ih40 : MM × Int32 → Option (MM × Int32)) (μ : MM) (x4 : Int32) : Option (MM × Int32) :=
 (if (48 : Int32) ≤ x4 then
 g_X4_endless_61 μ x1 x2 x3
 else
 (ck (vp_in x4 48) <|
 (nm (upM μ 7 (x4).toNatClampNeg (-1 : Int32)) fun μ26 : MM =>
 ih40 (μ26, (x4 + (1 : Int32))))))
set_option maxHeartbeats 4000000 in
theorem zl_X4_endless_40 {X : ZX} {G : GW} {μ' : MM} {r : Int32} (x1 : Int32) (x2 : Int32) (x3 : Int32) (C : CX X (YM G) cX4_endless 8 RX4 { frames := 2, cells := 0, slots := 0, locals := 51 }) (hR : ZR X (YM G) (some .int) μ' (some (.int r))) : ∀ (n : Nat) (σ : MM × Int32), lp (fun ih σ => b_X4_endless_40 x1 x2 x3 ih σ.1 σ.2) n σ = some (μ', r) → Z X (YM G) 8 σ.1 40 [(0, .ref (G.1 0)), (1, .int x1), (2, .int x2), (3, .int x3), (4, .int σ.2)] [] := by
  refine lp_z (P := fun σ : MM × Int32 => Z X (YM G) 8 σ.1 40 [(0, .ref (G.1 0)), (1, .int x1), (2, .int x2), (3, .int x3), (4, .int σ.2)] []) (fun ih40 hih40 σ hf => ?_)
  obtain ⟨μ, x4⟩ := σ
  have hf : b_X4_endless_40 x1 x2 x3 ih40 μ x4 = some (μ', r) := hf
  show Z X (YM G) 8 μ 40 [(0, .ref (G.1 0)), (1, .int x1), (2, .int x2), (3, .int x3), (4, .int x4)] []
  unfold b_X4_endless_40 at hf
  refine z_iload C 4 dX4_endless_40 rfl ?_
  refine z_bipush C dX4_endless_42 (v := (48 : Int32)) (by decide) ?_
  refine z_icmp_ge C 61 dX4_endless_44 (by decide) (fun c12 => ?_) (fun c12 => ?_)
  · replace hf := it_t hf c12
    refine z_lv C [0, 1, 2, 3] (lv' := [(0, .ref (G.1 0)), (1, .int x1), (2, .int x2), (3, .int x3)]) rfl ?_
    exact zj_X4_endless_61 μ x1 x2 x3 C hR hf
  · replace hf := it_f hf c12
    refine z_aload_n C 0 dX4_endless_47 rfl ?_
    refine zg_X4_28_0 C dX4_endless_48 ?_
    refine z_iload C 4 dX4_endless_51 rfl ?_
    refine z_iconst C dX4_endless_53 (v := (-1 : Int32)) (by decide) ?_
    obtain ⟨h25, hf⟩ := ck_e hf
    refine zMs_7 C dX4_endless_54 h25 ?_
    refine z_mem (fun μ26 eμ26 => ?_)
    replace hf := nm_e2 hf μ26 eμ26
    refine z_iinc C 4 dX4_endless_55 (v := (x4 + (1 : Int32))) (lv' := [(4, .int (x4 + (1 : Int32))), (0, .ref (G.1 0)), (1, .int x1), (2, .int x2), (3, .int x3)]) rfl rfl (by decide) rfl ?_
    refine z_goto C 40 dX4_endless_58 (by decide) ?_
    refine z_lv C [1, 2, 3, 4, 0] (lv' := [(0, .ref (G.1 0)), (1, .int x1), (2, .int x2), (3, .int x3), (4, .int (x4 + (1 : Int32)))]) rfl ?_
    exact hih40 (μ26, (x4 + (1 : Int32))) hf
noncomputable def f_X4_endless (μ : MM) (x1 : Int32) (x2 : Int32) (x3 : Int32) : Option (MM × Int32) :=
 (nm (f_X4_isRook μ x1) fun v2 : Int32 =>
 (if v2 = 0 then
 (some (μ, (-101 : Int32)))
 else
 (nm (f_X4_isWord μ x2) fun v5 : Int32 =>
 (if v5 = 0 then
 (some (μ, (-102 : Int32)))
 else
 (nm (f_X4_in μ (x3).toInt64 (0 : Int64) (2 : Int64)) fun v8 : Int32 =>
 (if v8 = 0 then
 (some (μ, (-102 : Int32)))
 else
 (bd (f_X4_asTheySit μ) fun μ11 =>
 lp (fun ih σ => b_X4_endless_40 x1 x2 x3 ih σ.1 σ.2) fu (μ11, (0 : Int32)))))))))
set_option maxHeartbeats 4000000 in
theorem c_X4_endless {l : Launch} {G : GW} {μ : MM} {x1 : Int32} {x2 : Int32} {x3 : Int32} {μ' : MM} {r : Int32} (hf : f_X4_endless μ x1 x2 x3 = some (μ', r)) : MZ l (YM G) yX4_endless cX4_endless 8 (some .int) { frames := 2, cells := 0, slots := 0, locals := 51 } [.ref (G.1 0), .int x1, .int x2, .int x3] μ μ' (some (.int r)) := by
  refine z_met RX4 rfl (by decide) (Nat.le_of_ble_eq_true rfl) (fun X hX C hR => ?_)
  show Z X (YM G) 8 μ 0 [(0, .ref (G.1 0)), (1, .int x1), (2, .int x2), (3, .int x3)] []
  unfold f_X4_endless at hf
  refine z_aload_n C 0 dX4_endless_0 rfl ?_
  refine z_iload_n C 1 dX4_endless_1 rfl ?_
  obtain ⟨v2, h1⟩ : ∃ z, z = f_X4_isRook μ x1 := ⟨_, rfl⟩
  replace hf := nm_e2 hf v2 h1
  refine z_callVi C (As := [.int x1]) (rest := []) (c_X4_isRook h1.symm) vw_X4_113 ⟨rfl, rfl, by decide, by decide⟩ (z_rv C (q0 := 0) (ci := 4) rfl rfl rfl) rfl (Nat.le_of_ble_eq_true rfl) dX4_endless_2 ?_
  refine z_if_ne C 11 dX4_endless_5 (by decide) (fun c3 => ?_) (fun c3 => ?_)
  · replace hf := it_f hf c3
    refine z_iload_n C 2 dX4_endless_11 rfl ?_
    obtain ⟨v5, h4⟩ : ∃ z, z = f_X4_isWord μ x2 := ⟨_, rfl⟩
    replace hf := nm_e2 hf v5 h4
    refine z_callSi C (As := [.int x2]) (rest := []) (c_X4_isWord h4.symm) sw_X4_126 ⟨rfl, rfl, by decide, by decide⟩ rfl (Nat.le_of_ble_eq_true rfl) dX4_endless_12 ?_
    refine z_if_eq C 30 dX4_endless_15 (by decide) (fun c6 => ?_) (fun c6 => ?_)
    · replace hf := it_t hf c6
      refine z_bipush C dX4_endless_30 (v := (-102 : Int32)) (by decide) ?_
      exact z_iret C hR dX4_endless_32 (rt2 hf).1 (rt2 hf).2
    · replace hf := it_f hf c6
      refine z_iload_n C 3 dX4_endless_18 rfl ?_
      refine z_i2l C dX4_endless_19 ?_
      refine z_lconst C dX4_endless_20 (v := (0 : Int64)) (by decide) ?_
      refine z_ldc2 C dX4_endless_21 (v := (2 : Int64)) (ww_in 796 (by decide +kernel) (by decide +kernel)) ?_
      obtain ⟨v8, h7⟩ : ∃ z, z = f_X4_in μ (x3).toInt64 (0 : Int64) (2 : Int64) := ⟨_, rfl⟩
      replace hf := nm_e2 hf v8 h7
      refine z_callSi C (As := [.long (x3).toInt64, .long (0 : Int64), .long (2 : Int64)]) (rest := []) (c_X4_in h7.symm) sw_X4_58 ⟨rfl, rfl, by decide, by decide⟩ rfl (Nat.le_of_ble_eq_true rfl) dX4_endless_24 ?_
      refine z_if_ne C 33 dX4_endless_27 (by decide) (fun c9 => ?_) (fun c9 => ?_)
      · replace hf := it_f hf c9
        refine z_aload_n C 0 dX4_endless_33 rfl ?_
        obtain ⟨μ11, h10, hf⟩ := bd_e hf
        refine z_callVv C (As := []) (rest := []) (c_X4_asTheySit h10) vw_X4_129 ⟨rfl, rfl, by decide, by decide⟩ (z_rv C (q0 := 0) (ci := 4) rfl rfl rfl) rfl (Nat.le_of_ble_eq_true rfl) dX4_endless_34 ?_
        refine z_iconst C dX4_endless_37 (v := (0 : Int32)) (by decide) ?_
        refine z_istore C dX4_endless_38 (i := 4) (lv' := [(4, .int (0 : Int32)), (0, .ref (G.1 0)), (1, .int x1), (2, .int x2), (3, .int x3)]) (by decide) rfl ?_
        refine z_lv C [1, 2, 3, 4, 0] (lv' := [(0, .ref (G.1 0)), (1, .int x1), (2, .int x2), (3, .int x3), (4, .int (0 : Int32))]) rfl ?_
        exact zl_X4_endless_40 x1 x2 x3 C hR fu (μ11, (0 : Int32)) hf
      · replace hf := it_t hf c9
        refine z_bipush C dX4_endless_30 (v := (-102 : Int32)) (by decide) ?_
        exact z_iret C hR dX4_endless_32 (rt2 hf).1 (rt2 hf).2
  · replace hf := it_t hf c3
    refine z_bipush C dX4_endless_8 (v := (-101 : Int32)) (by decide) ?_
    exact z_iret C hR dX4_endless_10 (rt2 hf).1 (rt2 hf).2
noncomputable def g_X4_isOrder_54 (μ : MM) (x3 : Int32) : Option (MM × Int32) :=
 (if x3 = (((1 : Int32) <<< ((μ.1 0 6) &&& 31)) - (1 : Int32)) then
 (some (μ, (1 : Int32)))
 else
 (some (μ, (0 : Int32))))
set_option maxHeartbeats 4000000 in
theorem zj_X4_isOrder_54 {X : ZX} {G : GW} {μ' : MM} {r : Int32} (μ : MM) (x3 : Int32) (C : CX X (YM G) cX4_isOrder 5 RX4 { frames := 0, cells := 0, slots := 0, locals := 0 }) (hR : ZR X (YM G) (some .boolean) μ' (some (.int r))) (hf : g_X4_isOrder_54 μ x3 = some (μ', r)) : Z X (YM G) 5 μ 54 [(0, .ref (G.1 0)), (3, .int x3)] [] := by
  unfold g_X4_isOrder_54 at hf
  refine z_iload_n C 1 dX4_isOrder_54 rfl ?_
  refine z_iconst C dX4_isOrder_55 (v := (1 : Int32)) (by decide) ?_
  refine z_aload_n C 0 dX4_isOrder_56 rfl ?_
  refine zg_X4_88_0 C dX4_isOrder_57 ?_
  refine z_ishl C dX4_isOrder_60 ?_
  refine z_iconst C dX4_isOrder_61 (v := (1 : Int32)) (by decide) ?_
  refine z_isub C dX4_isOrder_62 ?_
  refine z_icmp_ne C 70 dX4_isOrder_63 (by decide) (fun c2 => ?_) (fun c2 => ?_)
  · replace hf := it_f hf c2
    refine z_iconst C dX4_isOrder_70 (v := (0 : Int32)) (by decide) ?_
    exact z_zret C hR dX4_isOrder_71 rfl (rt2 hf).1 (rt2 hf).2
  · replace hf := it_t hf c2
    refine z_iconst C dX4_isOrder_66 (v := (1 : Int32)) (by decide) ?_
    refine z_goto C 71 dX4_isOrder_67 (by decide) ?_
    exact z_zret C hR dX4_isOrder_71 rfl (rt2 hf).1 (rt2 hf).2
noncomputable def b_X4_isOrder_7 (ih7 : MM × Int32 × Int32 × Int32 → Option (MM × Int32)) (μ : MM) (x2 : Int32) (x3 : Int32) (x4 : Int32) : Option (MM × Int32) :=
 (if (μ.1 0 6) ≤ x4 then
 g_X4_isOrder_54 μ x3
 else
 (ck (¬ (μ.1 0 6) = 0) <|
 (nm ((x2 - x2 / (μ.1 0 6) * (μ.1 0 6))) fun v4 : Int32 =>
 (ck (vp_in x4 6) <|
 (nm (upM μ 8 (x4).toNatClampNeg v4) fun μ6 : MM =>
 (nm ((x3 ||| ((1 : Int32) <<< ((μ6.1 8 (x4).toNatClampNeg) &&& 31)))) fun v7 : Int32 =>
 (ck (¬ (μ6.1 0 6) = 0) <|
 (nm ((x2 / (μ6.1 0 6))) fun v9 : Int32 =>
 ih7 (μ6, v9, v7, (x4 + (1 : Int32)))))))))))
set_option maxHeartbeats 4000000 in
theorem zl_X4_isOrder_7 {X : ZX} {G : GW} {μ' : MM} {r : Int32} (C : CX X (YM G) cX4_isOrder 5 RX4 { frames := 0, cells := 0, slots := 0, locals := 0 }) (hR : ZR X (YM G) (some .boolean) μ' (some (.int r))) : ∀ (n : Nat) (σ : MM × Int32 × Int32 × Int32), lp (fun ih σ => b_X4_isOrder_7 ih σ.1 σ.2.1 σ.2.2.1 σ.2.2.2) n σ = some (μ', r) → Z X (YM G) 5 σ.1 7 [(0, .ref (G.1 0)), (2, .int σ.2.1), (3, .int σ.2.2.1), (4, .int σ.2.2.2)] [] := by
  refine lp_z (P := fun σ : MM × Int32 × Int32 × Int32 => Z X (YM G) 5 σ.1 7 [(0, .ref (G.1 0)), (2, .int σ.2.1), (3, .int σ.2.2.1), (4, .int σ.2.2.2)] []) (fun ih7 hih7 σ hf => ?_)
  obtain ⟨μ, x2, x3, x4⟩ := σ
  have hf : b_X4_isOrder_7 ih7 μ x2 x3 x4 = some (μ', r) := hf
  show Z X (YM G) 5 μ 7 [(0, .ref (G.1 0)), (2, .int x2), (3, .int x3), (4, .int x4)] []
  unfold b_X4_isOrder_7 at hf
  refine z_iload C 3 dX4_isOrder_7 rfl ?_
  refine z_aload_n C 0 dX4_isOrder_9 rfl ?_
  refine zg_X4_88_0 C dX4_isOrder_10 ?_
  refine z_icmp_ge C 54 dX4_isOrder_13 (by decide) (fun c1 => ?_) (fun c1 => ?_)
  · replace hf := it_t hf c1
    refine z_lv C [0, 2] (lv' := [(0, .ref (G.1 0)), (3, .int x3)]) rfl ?_
    exact zj_X4_isOrder_54 μ x3 C hR hf
  · replace hf := it_f hf c1
    refine z_aload_n C 0 dX4_isOrder_16 rfl ?_
    refine zg_X4_31_0 C dX4_isOrder_17 ?_
    refine z_iload C 3 dX4_isOrder_20 rfl ?_
    refine z_iload_n C 1 dX4_isOrder_22 rfl ?_
    refine z_aload_n C 0 dX4_isOrder_23 rfl ?_
    refine zg_X4_88_0 C dX4_isOrder_24 ?_
    obtain ⟨h3, hf⟩ := ck_e hf
    refine z_irem C dX4_isOrder_27 h3 ?_
    refine z_topi (fun v4 ev4 => ?_)
    replace hf := nm_e2 hf v4 ev4
    obtain ⟨h5, hf⟩ := ck_e hf
    refine zMs_8 C dX4_isOrder_28 h5 ?_
    refine z_mem (fun μ6 eμ6 => ?_)
    replace hf := nm_e2 hf μ6 eμ6
    refine z_iload_n C 2 dX4_isOrder_29 rfl ?_
    refine z_iconst C dX4_isOrder_30 (v := (1 : Int32)) (by decide) ?_
    refine z_aload_n C 0 dX4_isOrder_31 rfl ?_
    refine zg_X4_31_0 C dX4_isOrder_32 ?_
    refine z_iload C 3 dX4_isOrder_35 rfl ?_
    refine zMl_8 C dX4_isOrder_37 h5 ?_
    refine z_ishl C dX4_isOrder_38 ?_
    refine z_ior C dX4_isOrder_39 ?_
    refine z_topi (fun v7 ev7 => ?_)
    replace hf := nm_e2 hf v7 ev7
    refine z_istore_n C dX4_isOrder_40 (i := 3) (lv' := [(3, .int v7), (0, .ref (G.1 0)), (2, .int x2), (4, .int x4)]) rfl (by decide) rfl ?_
    refine z_iload_n C 2 dX4_isOrder_41 rfl ?_
    refine z_aload_n C 1 dX4_isOrder_42 rfl ?_
    refine zg_X4_88_0 C dX4_isOrder_43 ?_
    obtain ⟨h8, hf⟩ := ck_e hf
    refine z_idiv C dX4_isOrder_46 h8 ?_
    refine z_topi (fun v9 ev9 => ?_)
    replace hf := nm_e2 hf v9 ev9
    refine z_istore_n C dX4_isOrder_47 (i := 2) (lv' := [(2, .int v9), (3, .int v7), (0, .ref (G.1 0)), (4, .int x4)]) rfl (by decide) rfl ?_
    refine z_iinc C 3 dX4_isOrder_48 (v := (x4 + (1 : Int32))) (lv' := [(4, .int (x4 + (1 : Int32))), (2, .int v9), (3, .int v7), (0, .ref (G.1 0))]) rfl rfl (by decide) rfl ?_
    refine z_goto C 7 dX4_isOrder_51 (by decide) ?_
    refine z_lv C [3, 1, 2, 0] (lv' := [(0, .ref (G.1 0)), (2, .int v9), (3, .int v7), (4, .int (x4 + (1 : Int32)))]) rfl ?_
    exact hih7 (μ6, v9, v7, (x4 + (1 : Int32))) hf
noncomputable def f_X4_isOrder (μ : MM) (x1 : Int32) : Option (MM × Int32) :=
 lp (fun ih σ => b_X4_isOrder_7 ih σ.1 σ.2.1 σ.2.2.1 σ.2.2.2) fu (μ, x1, (0 : Int32), (0 : Int32))
set_option maxHeartbeats 4000000 in
theorem c_X4_isOrder {l : Launch} {G : GW} {μ : MM} {x1 : Int32} {μ' : MM} {r : Int32} (hf : f_X4_isOrder μ x1 = some (μ', r)) : MZ l (YM G) yX4_isOrder cX4_isOrder 5 (some .boolean) { frames := 0, cells := 0, slots := 0, locals := 0 } [.ref (G.1 0), .int x1] μ μ' (some (.int r)) := by
  refine z_met RX4 rfl (by decide) (Nat.le_of_ble_eq_true rfl) (fun X hX C hR => ?_)
  show Z X (YM G) 5 μ 0 [(0, .ref (G.1 0)), (1, .int x1)] []
  unfold f_X4_isOrder at hf
  refine z_iload_n C 1 dX4_isOrder_0 rfl ?_
  refine z_istore_n C dX4_isOrder_1 (i := 2) (lv' := [(2, .int x1), (0, .ref (G.1 0)), (1, .int x1)]) rfl (by decide) rfl ?_
  refine z_iconst C dX4_isOrder_2 (v := (0 : Int32)) (by decide) ?_
  refine z_istore_n C dX4_isOrder_3 (i := 3) (lv' := [(3, .int (0 : Int32)), (2, .int x1), (0, .ref (G.1 0)), (1, .int x1)]) rfl (by decide) rfl ?_
  refine z_iconst C dX4_isOrder_4 (v := (0 : Int32)) (by decide) ?_
  refine z_istore C dX4_isOrder_5 (i := 4) (lv' := [(4, .int (0 : Int32)), (3, .int (0 : Int32)), (2, .int x1), (0, .ref (G.1 0)), (1, .int x1)]) (by decide) rfl ?_
  refine z_lv C [3, 2, 1, 0] (lv' := [(0, .ref (G.1 0)), (2, .int x1), (3, .int (0 : Int32)), (4, .int (0 : Int32))]) rfl ?_
  exact zl_X4_isOrder_7 C hR fu (μ, x1, (0 : Int32), (0 : Int32)) hf
noncomputable def g_X4_exchanges_67 (μ : MM) (x1 : Int32) : Option Int32 :=
 (some ((μ.1 0 6) - x1))
set_option maxHeartbeats 4000000 in
theorem zj_X4_exchanges_67 {X : ZX} {G : GW} {r : Int32} (μ : MM) (x1 : Int32) (C : CX X (YM G) cX4_exchanges 5 RX4 { frames := 0, cells := 0, slots := 0, locals := 0 }) (hR : ZR X (YM G) (some .int) μ (some (.int r))) (hf : g_X4_exchanges_67 μ x1 = some r) : Z X (YM G) 5 μ 67 [(0, .ref (G.1 0)), (1, .int x1)] [] := by
  unfold g_X4_exchanges_67 at hf
  refine z_aload_n C 0 dX4_exchanges_67 rfl ?_
  refine zg_X4_88_0 C dX4_exchanges_68 ?_
  refine z_iload_n C 1 dX4_exchanges_71 rfl ?_
  refine z_isub C dX4_exchanges_72 ?_
  exact z_iret C hR dX4_exchanges_73 rfl (rt1 hf)
noncomputable def g_X4_exchanges_61 (μ : MM) (x1 : Int32) (x2 : Int32) (x3 : Int32) (ih6 : Int32 × Int32 × Int32 → Option Int32) : Option Int32 :=
 ih6 (x1, x2, (x3 + (1 : Int32)))
set_option maxHeartbeats 4000000 in
theorem zj_X4_exchanges_61 {X : ZX} {G : GW} {r : Int32} (μ : MM) (x1 : Int32) (x2 : Int32) (x3 : Int32) (C : CX X (YM G) cX4_exchanges 5 RX4 { frames := 0, cells := 0, slots := 0, locals := 0 }) (hR : ZR X (YM G) (some .int) μ (some (.int r))) (ih6 : Int32 × Int32 × Int32 → Option Int32) (hih6 : ∀ σ, ih6 σ = some r → Z X (YM G) 5 μ 6 [(0, .ref (G.1 0)), (1, .int σ.1), (2, .int σ.2.1), (3, .int σ.2.2)] []) (hf : g_X4_exchanges_61 μ x1 x2 x3 ih6 = some r) : Z X (YM G) 5 μ 61 [(0, .ref (G.1 0)), (1, .int x1), (2, .int x2), (3, .int x3)] [] := by
  unfold g_X4_exchanges_61 at hf
  refine z_iinc C 3 dX4_exchanges_61 (v := (x3 + (1 : Int32))) (lv' := [(3, .int (x3 + (1 : Int32))), (0, .ref (G.1 0)), (1, .int x1), (2, .int x2)]) rfl rfl (by decide) rfl ?_
  refine z_goto C 6 dX4_exchanges_64 (by decide) ?_
  refine z_lv C [1, 2, 3, 0] (lv' := [(0, .ref (G.1 0)), (1, .int x1), (2, .int x2), (3, .int (x3 + (1 : Int32)))]) rfl ?_
  exact hih6 (x1, x2, (x3 + (1 : Int32))) hf
noncomputable def b_X4_exchanges_33 (μ : MM) (x1 : Int32) (x3 : Int32) (ih6 : Int32 × Int32 × Int32 → Option Int32) (ih33 : Int32 × Int32 → Option Int32) (x2 : Int32) (x4 : Int32) : Option Int32 :=
 (if ((x2 >>> (x4 &&& 31)) &&& (1 : Int32)) = 0 then
 (nm ((x2 ||| ((1 : Int32) <<< (x4 &&& 31)))) fun v5 : Int32 =>
 (ck (vp_in x4 6) <|
 (nm ((μ.1 8 (x4).toNatClampNeg)) fun v7 : Int32 =>
 ih33 (v5, v7))))
 else
 g_X4_exchanges_61 μ x1 x2 x3 ih6)
set_option maxHeartbeats 4000000 in
theorem zl_X4_exchanges_33 {X : ZX} {G : GW} {r : Int32} (μ : MM) (x1 : Int32) (x3 : Int32) (C : CX X (YM G) cX4_exchanges 5 RX4 { frames := 0, cells := 0, slots := 0, locals := 0 }) (hR : ZR X (YM G) (some .int) μ (some (.int r))) (ih6 : Int32 × Int32 × Int32 → Option Int32) (hih6 : ∀ σ, ih6 σ = some r → Z X (YM G) 5 μ 6 [(0, .ref (G.1 0)), (1, .int σ.1), (2, .int σ.2.1), (3, .int σ.2.2)] []) : ∀ (n : Nat) (σ : Int32 × Int32), lp (fun ih σ => b_X4_exchanges_33 μ x1 x3 ih6 ih σ.1 σ.2) n σ = some r → Z X (YM G) 5 μ 33 [(0, .ref (G.1 0)), (1, .int x1), (2, .int σ.1), (3, .int x3), (4, .int σ.2)] [] := by
  refine lp_z (P := fun σ : Int32 × Int32 => Z X (YM G) 5 μ 33 [(0, .ref (G.1 0)), (1, .int x1), (2, .int σ.1), (3, .int x3), (4, .int σ.2)] []) (fun ih33 hih33 σ hf => ?_)
  obtain ⟨x2, x4⟩ := σ
  have hf : b_X4_exchanges_33 μ x1 x3 ih6 ih33 x2 x4 = some r := hf
  show Z X (YM G) 5 μ 33 [(0, .ref (G.1 0)), (1, .int x1), (2, .int x2), (3, .int x3), (4, .int x4)] []
  unfold b_X4_exchanges_33 at hf
  refine z_iload_n C 2 dX4_exchanges_33 rfl ?_
  refine z_iload C 4 dX4_exchanges_34 rfl ?_
  refine z_ishr C dX4_exchanges_36 ?_
  refine z_iconst C dX4_exchanges_37 (v := (1 : Int32)) (by decide) ?_
  refine z_iand C dX4_exchanges_38 ?_
  refine z_if_ne C 61 dX4_exchanges_39 (by decide) (fun c4 => ?_) (fun c4 => ?_)
  · replace hf := it_f hf c4
    refine z_lv C [0, 1, 2, 3] (lv' := [(0, .ref (G.1 0)), (1, .int x1), (2, .int x2), (3, .int x3)]) rfl ?_
    exact zj_X4_exchanges_61 μ x1 x2 x3 C hR ih6 hih6 hf
  · replace hf := it_t hf c4
    refine z_iload_n C 2 dX4_exchanges_42 rfl ?_
    refine z_iconst C dX4_exchanges_43 (v := (1 : Int32)) (by decide) ?_
    refine z_iload C 4 dX4_exchanges_44 rfl ?_
    refine z_ishl C dX4_exchanges_46 ?_
    refine z_ior C dX4_exchanges_47 ?_
    refine z_topi (fun v5 ev5 => ?_)
    replace hf := nm_e2 hf v5 ev5
    refine z_istore_n C dX4_exchanges_48 (i := 2) (lv' := [(2, .int v5), (0, .ref (G.1 0)), (1, .int x1), (3, .int x3), (4, .int x4)]) rfl (by decide) rfl ?_
    refine z_aload_n C 1 dX4_exchanges_49 rfl ?_
    refine zg_X4_31_0 C dX4_exchanges_50 ?_
    refine z_iload C 4 dX4_exchanges_53 rfl ?_
    obtain ⟨h6, hf⟩ := ck_e hf
    refine zMl_8 C dX4_exchanges_55 h6 ?_
    refine z_topi (fun v7 ev7 => ?_)
    replace hf := nm_e2 hf v7 ev7
    refine z_istore C dX4_exchanges_56 (i := 4) (lv' := [(4, .int v7), (2, .int v5), (0, .ref (G.1 0)), (1, .int x1), (3, .int x3)]) (by decide) rfl ?_
    refine z_goto C 33 dX4_exchanges_58 (by decide) ?_
    refine z_lv C [2, 3, 1, 4, 0] (lv' := [(0, .ref (G.1 0)), (1, .int x1), (2, .int v5), (3, .int x3), (4, .int v7)]) rfl ?_
    exact hih33 (v5, v7) hf
noncomputable def g_X4_exchanges_28 (μ : MM) (x2 : Int32) (x3 : Int32) (t0 : Int32) (t1 : Int32) (ih6 : Int32 × Int32 × Int32 → Option Int32) : Option Int32 :=
 (nm ((t1 + t0)) fun v3 : Int32 =>
 lp (fun ih σ => b_X4_exchanges_33 μ v3 x3 ih6 ih σ.1 σ.2) fu (x2, x3))
set_option maxHeartbeats 4000000 in
theorem zj_X4_exchanges_28 {X : ZX} {G : GW} {r : Int32} (μ : MM) (x2 : Int32) (x3 : Int32) (t0 : Int32) (t1 : Int32) (C : CX X (YM G) cX4_exchanges 5 RX4 { frames := 0, cells := 0, slots := 0, locals := 0 }) (hR : ZR X (YM G) (some .int) μ (some (.int r))) (ih6 : Int32 × Int32 × Int32 → Option Int32) (hih6 : ∀ σ, ih6 σ = some r → Z X (YM G) 5 μ 6 [(0, .ref (G.1 0)), (1, .int σ.1), (2, .int σ.2.1), (3, .int σ.2.2)] []) (hf : g_X4_exchanges_28 μ x2 x3 t0 t1 ih6 = some r) : Z X (YM G) 5 μ 28 [(0, .ref (G.1 0)), (2, .int x2), (3, .int x3)] [.int t0, .int t1] := by
  unfold g_X4_exchanges_28 at hf
  refine z_iadd C dX4_exchanges_28 ?_
  refine z_topi (fun v3 ev3 => ?_)
  replace hf := nm_e2 hf v3 ev3
  refine z_istore_n C dX4_exchanges_29 (i := 1) (lv' := [(1, .int v3), (0, .ref (G.1 0)), (2, .int x2), (3, .int x3)]) rfl (by decide) rfl ?_
  refine z_iload_n C 3 dX4_exchanges_30 rfl ?_
  refine z_istore C dX4_exchanges_31 (i := 4) (lv' := [(4, .int x3), (1, .int v3), (0, .ref (G.1 0)), (2, .int x2), (3, .int x3)]) (by decide) rfl ?_
  refine z_lv C [2, 1, 3, 4, 0] (lv' := [(0, .ref (G.1 0)), (1, .int v3), (2, .int x2), (3, .int x3), (4, .int x3)]) rfl ?_
  exact zl_X4_exchanges_33 μ v3 x3 C hR ih6 hih6 fu (x2, x3) hf
noncomputable def b_X4_exchanges_6 (μ : MM) (ih6 : Int32 × Int32 × Int32 → Option Int32) (x1 : Int32) (x2 : Int32) (x3 : Int32) : Option Int32 :=
 (if (μ.1 0 6) ≤ x3 then
 g_X4_exchanges_67 μ x1
 else
 (if ((x2 >>> (x3 &&& 31)) &&& (1 : Int32)) = 0 then
 g_X4_exchanges_28 μ x2 x3 (1 : Int32) x1 ih6
 else
 g_X4_exchanges_28 μ x2 x3 (0 : Int32) x1 ih6))
set_option maxHeartbeats 4000000 in
theorem zl_X4_exchanges_6 {X : ZX} {G : GW} {r : Int32} (μ : MM) (C : CX X (YM G) cX4_exchanges 5 RX4 { frames := 0, cells := 0, slots := 0, locals := 0 }) (hR : ZR X (YM G) (some .int) μ (some (.int r))) : ∀ (n : Nat) (σ : Int32 × Int32 × Int32), lp (fun ih σ => b_X4_exchanges_6 μ ih σ.1 σ.2.1 σ.2.2) n σ = some r → Z X (YM G) 5 μ 6 [(0, .ref (G.1 0)), (1, .int σ.1), (2, .int σ.2.1), (3, .int σ.2.2)] [] := by
  refine lp_z (P := fun σ : Int32 × Int32 × Int32 => Z X (YM G) 5 μ 6 [(0, .ref (G.1 0)), (1, .int σ.1), (2, .int σ.2.1), (3, .int σ.2.2)] []) (fun ih6 hih6 σ hf => ?_)
  obtain ⟨x1, x2, x3⟩ := σ
  have hf : b_X4_exchanges_6 μ ih6 x1 x2 x3 = some r := hf
  show Z X (YM G) 5 μ 6 [(0, .ref (G.1 0)), (1, .int x1), (2, .int x2), (3, .int x3)] []
  unfold b_X4_exchanges_6 at hf
  refine z_iload_n C 3 dX4_exchanges_6 rfl ?_
  refine z_aload_n C 0 dX4_exchanges_7 rfl ?_
  refine zg_X4_88_0 C dX4_exchanges_8 ?_
  refine z_icmp_ge C 67 dX4_exchanges_11 (by decide) (fun c1 => ?_) (fun c1 => ?_)
  · replace hf := it_t hf c1
    refine z_lv C [0, 1] (lv' := [(0, .ref (G.1 0)), (1, .int x1)]) rfl ?_
    exact zj_X4_exchanges_67 μ x1 C hR hf
  · replace hf := it_f hf c1
    refine z_iload_n C 1 dX4_exchanges_14 rfl ?_
    refine z_iload_n C 2 dX4_exchanges_15 rfl ?_
    refine z_iload_n C 3 dX4_exchanges_16 rfl ?_
    refine z_ishr C dX4_exchanges_17 ?_
    refine z_iconst C dX4_exchanges_18 (v := (1 : Int32)) (by decide) ?_
    refine z_iand C dX4_exchanges_19 ?_
    refine z_if_ne C 27 dX4_exchanges_20 (by decide) (fun c2 => ?_) (fun c2 => ?_)
    · replace hf := it_f hf c2
      refine z_iconst C dX4_exchanges_27 (v := (0 : Int32)) (by decide) ?_
      refine z_lv C [0, 2, 3] (lv' := [(0, .ref (G.1 0)), (2, .int x2), (3, .int x3)]) rfl ?_
      exact zj_X4_exchanges_28 μ x2 x3 (0 : Int32) x1 C hR ih6 hih6 hf
    · replace hf := it_t hf c2
      refine z_iconst C dX4_exchanges_23 (v := (1 : Int32)) (by decide) ?_
      refine z_goto C 28 dX4_exchanges_24 (by decide) ?_
      refine z_lv C [0, 2, 3] (lv' := [(0, .ref (G.1 0)), (2, .int x2), (3, .int x3)]) rfl ?_
      exact zj_X4_exchanges_28 μ x2 x3 (1 : Int32) x1 C hR ih6 hih6 hf
noncomputable def f_X4_exchanges (μ : MM) : Option Int32 :=
 lp (fun ih σ => b_X4_exchanges_6 μ ih σ.1 σ.2.1 σ.2.2) fu ((0 : Int32), (0 : Int32), (0 : Int32))
set_option maxHeartbeats 4000000 in
theorem c_X4_exchanges {l : Launch} {G : GW} {μ : MM} {r : Int32} (hf : f_X4_exchanges μ = some r) : MZ l (YM G) yX4_exchanges cX4_exchanges 5 (some .int) { frames := 0, cells := 0, slots := 0, locals := 0 } [.ref (G.1 0)] μ μ (some (.int r)) := by
  refine z_met RX4 rfl (by decide) (Nat.le_of_ble_eq_true rfl) (fun X hX C hR => ?_)
  show Z X (YM G) 5 μ 0 [(0, .ref (G.1 0))] []
  unfold f_X4_exchanges at hf
  refine z_iconst C dX4_exchanges_0 (v := (0 : Int32)) (by decide) ?_
  refine z_istore_n C dX4_exchanges_1 (i := 1) (lv' := [(1, .int (0 : Int32)), (0, .ref (G.1 0))]) rfl (by decide) rfl ?_
  refine z_iconst C dX4_exchanges_2 (v := (0 : Int32)) (by decide) ?_
  refine z_istore_n C dX4_exchanges_3 (i := 2) (lv' := [(2, .int (0 : Int32)), (1, .int (0 : Int32)), (0, .ref (G.1 0))]) rfl (by decide) rfl ?_
  refine z_iconst C dX4_exchanges_4 (v := (0 : Int32)) (by decide) ?_
  refine z_istore_n C dX4_exchanges_5 (i := 3) (lv' := [(3, .int (0 : Int32)), (2, .int (0 : Int32)), (1, .int (0 : Int32)), (0, .ref (G.1 0))]) rfl (by decide) rfl ?_
  refine z_lv C [3, 2, 1, 0] (lv' := [(0, .ref (G.1 0)), (1, .int (0 : Int32)), (2, .int (0 : Int32)), (3, .int (0 : Int32))]) rfl ?_
  exact zl_X4_exchanges_6 μ C hR fu ((0 : Int32), (0 : Int32), (0 : Int32)) hf
noncomputable def g_X4_seating_266 (μ : MM) (x3 : Int32) (x5 : Int32) (x6 : Int32) : Option (MM × Int32) :=
 (if x3 = 0 then
 (some (μ, x5))
 else
 (some (μ, x6)))
set_option maxHeartbeats 4000000 in
theorem zj_X4_seating_266 {X : ZX} {G : GW} {μ' : MM} {r : Int32} (μ : MM) (x3 : Int32) (x5 : Int32) (x6 : Int32) (C : CX X (YM G) cX4_seating 9 RX4 { frames := 2, cells := 0, slots := 0, locals := 51 }) (hR : ZR X (YM G) (some .int) μ' (some (.int r))) (hf : g_X4_seating_266 μ x3 x5 x6 = some (μ', r)) : Z X (YM G) 9 μ 266 [(3, .int x3), (5, .int x5), (6, .int x6)] [] := by
  unfold g_X4_seating_266 at hf
  refine z_iload_n C 0 dX4_seating_266 rfl ?_
  refine z_if_ne C 275 dX4_seating_267 (by decide) (fun c18 => ?_) (fun c18 => ?_)
  · replace hf := it_f hf c18
    refine z_iload C 2 dX4_seating_275 rfl ?_
    exact z_iret C hR dX4_seating_277 (rt2 hf).1 (rt2 hf).2
  · replace hf := it_t hf c18
    refine z_iload C 1 dX4_seating_270 rfl ?_
    refine z_goto C 277 dX4_seating_272 (by decide) ?_
    exact z_iret C hR dX4_seating_277 (rt2 hf).1 (rt2 hf).2
noncomputable def g_X4_seating_260 (μ : MM) (x1 : Int32) (x2 : Int32) (x3 : Int32) (x4 : Int32) (x5 : Int32) (x6 : Int32) (x7 : Int32) (ih95 : MM × Int32 × Int32 × Int32 → Option (MM × Int32)) : Option (MM × Int32) :=
 ih95 (μ, x5, x6, (x7 + (1 : Int32)))
set_option maxHeartbeats 4000000 in
theorem zj_X4_seating_260 {X : ZX} {G : GW} {μ' : MM} {r : Int32} (μ : MM) (x1 : Int32) (x2 : Int32) (x3 : Int32) (x4 : Int32) (x5 : Int32) (x6 : Int32) (x7 : Int32) (C : CX X (YM G) cX4_seating 9 RX4 { frames := 2, cells := 0, slots := 0, locals := 51 }) (hR : ZR X (YM G) (some .int) μ' (some (.int r))) (ih95 : MM × Int32 × Int32 × Int32 → Option (MM × Int32)) (hih95 : ∀ σ, ih95 σ = some (μ', r) → Z X (YM G) 9 σ.1 95 [(0, .ref (G.1 0)), (1, .int x1), (2, .int x2), (3, .int x3), (4, .int x4), (5, .int σ.2.1), (6, .int σ.2.2.1), (7, .int σ.2.2.2)] []) (hf : g_X4_seating_260 μ x1 x2 x3 x4 x5 x6 x7 ih95 = some (μ', r)) : Z X (YM G) 9 μ 260 [(0, .ref (G.1 0)), (1, .int x1), (2, .int x2), (3, .int x3), (4, .int x4), (5, .int x5), (6, .int x6), (7, .int x7)] [] := by
  unfold g_X4_seating_260 at hf
  refine z_iinc C 7 dX4_seating_260 (v := (x7 + (1 : Int32))) (lv' := [(7, .int (x7 + (1 : Int32))), (0, .ref (G.1 0)), (1, .int x1), (2, .int x2), (3, .int x3), (4, .int x4), (5, .int x5), (6, .int x6)]) rfl rfl (by decide) rfl ?_
  refine z_goto C 95 dX4_seating_263 (by decide) ?_
  refine z_lv C [1, 2, 3, 4, 5, 6, 7, 0] (lv' := [(0, .ref (G.1 0)), (1, .int x1), (2, .int x2), (3, .int x3), (4, .int x4), (5, .int x5), (6, .int x6), (7, .int (x7 + (1 : Int32)))]) rfl ?_
  exact hih95 (μ, x5, x6, (x7 + (1 : Int32))) hf
noncomputable def g_X4_seating_258 (μ : MM) (x1 : Int32) (x2 : Int32) (x3 : Int32) (x4 : Int32) (x6 : Int32) (x7 : Int32) (t0 : Int32) (ih95 : MM × Int32 × Int32 × Int32 → Option (MM × Int32)) : Option (MM × Int32) :=
 g_X4_seating_260 μ x1 x2 x3 x4 t0 x6 x7 ih95
set_option maxHeartbeats 4000000 in
theorem zj_X4_seating_258 {X : ZX} {G : GW} {μ' : MM} {r : Int32} (μ : MM) (x1 : Int32) (x2 : Int32) (x3 : Int32) (x4 : Int32) (x6 : Int32) (x7 : Int32) (t0 : Int32) (C : CX X (YM G) cX4_seating 9 RX4 { frames := 2, cells := 0, slots := 0, locals := 51 }) (hR : ZR X (YM G) (some .int) μ' (some (.int r))) (ih95 : MM × Int32 × Int32 × Int32 → Option (MM × Int32)) (hih95 : ∀ σ, ih95 σ = some (μ', r) → Z X (YM G) 9 σ.1 95 [(0, .ref (G.1 0)), (1, .int x1), (2, .int x2), (3, .int x3), (4, .int x4), (5, .int σ.2.1), (6, .int σ.2.2.1), (7, .int σ.2.2.2)] []) (hf : g_X4_seating_258 μ x1 x2 x3 x4 x6 x7 t0 ih95 = some (μ', r)) : Z X (YM G) 9 μ 258 [(0, .ref (G.1 0)), (1, .int x1), (2, .int x2), (3, .int x3), (4, .int x4), (6, .int x6), (7, .int x7)] [.int t0] := by
  unfold g_X4_seating_258 at hf
  refine z_istore C dX4_seating_258 (i := 5) (lv' := [(5, .int t0), (0, .ref (G.1 0)), (1, .int x1), (2, .int x2), (3, .int x3), (4, .int x4), (6, .int x6), (7, .int x7)]) (by decide) rfl ?_
  refine z_lv C [1, 2, 3, 4, 5, 0, 6, 7] (lv' := [(0, .ref (G.1 0)), (1, .int x1), (2, .int x2), (3, .int x3), (4, .int x4), (5, .int t0), (6, .int x6), (7, .int x7)]) rfl ?_
  exact zj_X4_seating_260 μ x1 x2 x3 x4 t0 x6 x7 C hR ih95 hih95 hf
noncomputable def g_X4_seating_251 (μ : MM) (x1 : Int32) (x2 : Int32) (x3 : Int32) (x4 : Int32) (x6 : Int32) (x7 : Int32) (x8 : Int32) (ih95 : MM × Int32 × Int32 × Int32 → Option (MM × Int32)) : Option (MM × Int32) :=
 g_X4_seating_258 μ x1 x2 x3 x4 x6 x7 x8 ih95
set_option maxHeartbeats 4000000 in
theorem zj_X4_seating_251 {X : ZX} {G : GW} {μ' : MM} {r : Int32} (μ : MM) (x1 : Int32) (x2 : Int32) (x3 : Int32) (x4 : Int32) (x6 : Int32) (x7 : Int32) (x8 : Int32) (C : CX X (YM G) cX4_seating 9 RX4 { frames := 2, cells := 0, slots := 0, locals := 51 }) (hR : ZR X (YM G) (some .int) μ' (some (.int r))) (ih95 : MM × Int32 × Int32 × Int32 → Option (MM × Int32)) (hih95 : ∀ σ, ih95 σ = some (μ', r) → Z X (YM G) 9 σ.1 95 [(0, .ref (G.1 0)), (1, .int x1), (2, .int x2), (3, .int x3), (4, .int x4), (5, .int σ.2.1), (6, .int σ.2.2.1), (7, .int σ.2.2.2)] []) (hf : g_X4_seating_251 μ x1 x2 x3 x4 x6 x7 x8 ih95 = some (μ', r)) : Z X (YM G) 9 μ 251 [(0, .ref (G.1 0)), (1, .int x1), (2, .int x2), (3, .int x3), (4, .int x4), (6, .int x6), (7, .int x7), (8, .int x8)] [] := by
  unfold g_X4_seating_251 at hf
  refine z_iload C 7 dX4_seating_251 rfl ?_
  refine z_goto C 258 dX4_seating_253 (by decide) ?_
  refine z_lv C [0, 1, 2, 3, 4, 5, 6] (lv' := [(0, .ref (G.1 0)), (1, .int x1), (2, .int x2), (3, .int x3), (4, .int x4), (6, .int x6), (7, .int x7)]) rfl ?_
  exact zj_X4_seating_258 μ x1 x2 x3 x4 x6 x7 x8 C hR ih95 hih95 hf
noncomputable def g_X4_seating_236 (μ : MM) (x1 : Int32) (x2 : Int32) (x3 : Int32) (x4 : Int32) (x5 : Int32) (x7 : Int32) (x8 : Int32) (t0 : Int32) (ih95 : MM × Int32 × Int32 × Int32 → Option (MM × Int32)) : Option (MM × Int32) :=
 (if x5 = (-1 : Int32) then
 g_X4_seating_251 μ x1 x2 x3 x4 t0 x7 x8 ih95
 else
 (if x5 ≤ x8 then
 g_X4_seating_258 μ x1 x2 x3 x4 t0 x7 x5 ih95
 else
 g_X4_seating_251 μ x1 x2 x3 x4 t0 x7 x8 ih95))
set_option maxHeartbeats 4000000 in
theorem zj_X4_seating_236 {X : ZX} {G : GW} {μ' : MM} {r : Int32} (μ : MM) (x1 : Int32) (x2 : Int32) (x3 : Int32) (x4 : Int32) (x5 : Int32) (x7 : Int32) (x8 : Int32) (t0 : Int32) (C : CX X (YM G) cX4_seating 9 RX4 { frames := 2, cells := 0, slots := 0, locals := 51 }) (hR : ZR X (YM G) (some .int) μ' (some (.int r))) (ih95 : MM × Int32 × Int32 × Int32 → Option (MM × Int32)) (hih95 : ∀ σ, ih95 σ = some (μ', r) → Z X (YM G) 9 σ.1 95 [(0, .ref (G.1 0)), (1, .int x1), (2, .int x2), (3, .int x3), (4, .int x4), (5, .int σ.2.1), (6, .int σ.2.2.1), (7, .int σ.2.2.2)] []) (hf : g_X4_seating_236 μ x1 x2 x3 x4 x5 x7 x8 t0 ih95 = some (μ', r)) : Z X (YM G) 9 μ 236 [(0, .ref (G.1 0)), (1, .int x1), (2, .int x2), (3, .int x3), (4, .int x4), (5, .int x5), (7, .int x7), (8, .int x8)] [.int t0] := by
  unfold g_X4_seating_236 at hf
  refine z_istore C dX4_seating_236 (i := 6) (lv' := [(6, .int t0), (0, .ref (G.1 0)), (1, .int x1), (2, .int x2), (3, .int x3), (4, .int x4), (5, .int x5), (7, .int x7), (8, .int x8)]) (by decide) rfl ?_
  refine z_iload C 6 dX4_seating_238 rfl ?_
  refine z_iconst C dX4_seating_240 (v := (-1 : Int32)) (by decide) ?_
  refine z_icmp_eq C 251 dX4_seating_241 (by decide) (fun c30 => ?_) (fun c30 => ?_)
  · replace hf := it_t hf c30
    refine z_lv C [1, 2, 3, 4, 5, 0, 7, 8] (lv' := [(0, .ref (G.1 0)), (1, .int x1), (2, .int x2), (3, .int x3), (4, .int x4), (6, .int t0), (7, .int x7), (8, .int x8)]) rfl ?_
    exact zj_X4_seating_251 μ x1 x2 x3 x4 t0 x7 x8 C hR ih95 hih95 hf
  · replace hf := it_f hf c30
    refine z_iload C 8 dX4_seating_244 rfl ?_
    refine z_iload C 6 dX4_seating_246 rfl ?_
    refine z_icmp_ge C 256 dX4_seating_248 (by decide) (fun c31 => ?_) (fun c31 => ?_)
    · replace hf := it_t hf c31
      refine z_iload C 6 dX4_seating_256 rfl ?_
      refine z_lv C [1, 2, 3, 4, 5, 0, 7] (lv' := [(0, .ref (G.1 0)), (1, .int x1), (2, .int x2), (3, .int x3), (4, .int x4), (6, .int t0), (7, .int x7)]) rfl ?_
      exact zj_X4_seating_258 μ x1 x2 x3 x4 t0 x7 x5 C hR ih95 hih95 hf
    · replace hf := it_f hf c31
      refine z_lv C [1, 2, 3, 4, 5, 0, 7, 8] (lv' := [(0, .ref (G.1 0)), (1, .int x1), (2, .int x2), (3, .int x3), (4, .int x4), (6, .int t0), (7, .int x7), (8, .int x8)]) rfl ?_
      exact zj_X4_seating_251 μ x1 x2 x3 x4 t0 x7 x8 C hR ih95 hih95 hf
noncomputable def g_X4_seating_216 (μ : MM) (x1 : Int32) (x2 : Int32) (x3 : Int32) (x4 : Int32) (x5 : Int32) (x7 : Int32) (x8 : Int32) (ih95 : MM × Int32 × Int32 × Int32 → Option (MM × Int32)) : Option (MM × Int32) :=
 g_X4_seating_236 μ x1 x2 x3 x4 x5 x7 x8 (1 : Int32) ih95
set_option maxHeartbeats 4000000 in
theorem zj_X4_seating_216 {X : ZX} {G : GW} {μ' : MM} {r : Int32} (μ : MM) (x1 : Int32) (x2 : Int32) (x3 : Int32) (x4 : Int32) (x5 : Int32) (x7 : Int32) (x8 : Int32) (C : CX X (YM G) cX4_seating 9 RX4 { frames := 2, cells := 0, slots := 0, locals := 51 }) (hR : ZR X (YM G) (some .int) μ' (some (.int r))) (ih95 : MM × Int32 × Int32 × Int32 → Option (MM × Int32)) (hih95 : ∀ σ, ih95 σ = some (μ', r) → Z X (YM G) 9 σ.1 95 [(0, .ref (G.1 0)), (1, .int x1), (2, .int x2), (3, .int x3), (4, .int x4), (5, .int σ.2.1), (6, .int σ.2.2.1), (7, .int σ.2.2.2)] []) (hf : g_X4_seating_216 μ x1 x2 x3 x4 x5 x7 x8 ih95 = some (μ', r)) : Z X (YM G) 9 μ 216 [(0, .ref (G.1 0)), (1, .int x1), (2, .int x2), (3, .int x3), (4, .int x4), (5, .int x5), (7, .int x7), (8, .int x8)] [] := by
  unfold g_X4_seating_216 at hf
  refine z_iconst C dX4_seating_216 (v := (1 : Int32)) (by decide) ?_
  refine z_goto C 236 dX4_seating_217 (by decide) ?_
  exact zj_X4_seating_236 μ x1 x2 x3 x4 x5 x7 x8 (1 : Int32) C hR ih95 hih95 hf
noncomputable def g_X4_seating_183 (μ : MM) (x1 : Int32) (x2 : Int32) (x3 : Int32) (x4 : Int32) (x5 : Int32) (x6 : Int32) (x7 : Int32) (ih95 : MM × Int32 × Int32 × Int32 → Option (MM × Int32)) : Option (MM × Int32) :=
 (bd (f_X4_comesOf μ (0 : Int32) x1 (μ.1 0 7)) fun v25 =>
 (if v25 = x2 then
 (bd (f_X4_exchanges μ) fun v28 =>
 (if x5 = (-1 : Int32) then
 g_X4_seating_216 μ x1 x2 x3 x4 x5 x7 v28 ih95
 else
 (if x5 ≤ v28 then
 (if v28 = x5 then
 g_X4_seating_236 μ x1 x2 x3 x4 x5 x7 v28 ((x6 + (1 : Int32))) ih95
 else
 g_X4_seating_236 μ x1 x2 x3 x4 x5 x7 v28 x6 ih95)
 else
 g_X4_seating_216 μ x1 x2 x3 x4 x5 x7 v28 ih95)))
 else
 g_X4_seating_260 μ x1 x2 x3 x4 x5 x6 x7 ih95))
set_option maxHeartbeats 4000000 in
theorem zj_X4_seating_183 {X : ZX} {G : GW} {μ' : MM} {r : Int32} (μ : MM) (x1 : Int32) (x2 : Int32) (x3 : Int32) (x4 : Int32) (x5 : Int32) (x6 : Int32) (x7 : Int32) (C : CX X (YM G) cX4_seating 9 RX4 { frames := 2, cells := 0, slots := 0, locals := 51 }) (hR : ZR X (YM G) (some .int) μ' (some (.int r))) (ih95 : MM × Int32 × Int32 × Int32 → Option (MM × Int32)) (hih95 : ∀ σ, ih95 σ = some (μ', r) → Z X (YM G) 9 σ.1 95 [(0, .ref (G.1 0)), (1, .int x1), (2, .int x2), (3, .int x3), (4, .int x4), (5, .int σ.2.1), (6, .int σ.2.2.1), (7, .int σ.2.2.2)] []) (hf : g_X4_seating_183 μ x1 x2 x3 x4 x5 x6 x7 ih95 = some (μ', r)) : Z X (YM G) 9 μ 183 [(0, .ref (G.1 0)), (1, .int x1), (2, .int x2), (3, .int x3), (4, .int x4), (5, .int x5), (6, .int x6), (7, .int x7)] [] := by
  unfold g_X4_seating_183 at hf
  refine z_aload_n C 0 dX4_seating_183 rfl ?_
  refine z_iconst C dX4_seating_184 (v := (0 : Int32)) (by decide) ?_
  refine z_iload_n C 1 dX4_seating_185 rfl ?_
  refine z_aload_n C 0 dX4_seating_186 rfl ?_
  refine zg_X4_91_0 C dX4_seating_187 ?_
  obtain ⟨v25, h24, hf⟩ := bd_e hf
  refine z_callVi C (As := [.int (0 : Int32), .int x1, .int (μ.1 0 7)]) (rest := []) (c_X4_comesOf h24) vw_X4_132 ⟨rfl, rfl, by decide, by decide⟩ (z_rv C (q0 := 0) (ci := 4) rfl rfl rfl) rfl (Nat.le_of_ble_eq_true rfl) dX4_seating_190 ?_
  refine z_iload_n C 2 dX4_seating_193 rfl ?_
  refine z_icmp_ne C 260 dX4_seating_194 (by decide) (fun c26 => ?_) (fun c26 => ?_)
  · replace hf := it_f hf c26
    exact zj_X4_seating_260 μ x1 x2 x3 x4 x5 x6 x7 C hR ih95 hih95 hf
  · replace hf := it_t hf c26
    refine z_aload_n C 0 dX4_seating_197 rfl ?_
    obtain ⟨v28, h27, hf⟩ := bd_e hf
    refine z_callVi C (As := []) (rest := []) (c_X4_exchanges h27) vw_X4_147 ⟨rfl, rfl, by decide, by decide⟩ (z_rv C (q0 := 0) (ci := 4) rfl rfl rfl) rfl (Nat.le_of_ble_eq_true rfl) dX4_seating_198 ?_
    refine z_istore C dX4_seating_201 (i := 8) (lv' := [(8, .int v28), (0, .ref (G.1 0)), (1, .int x1), (2, .int x2), (3, .int x3), (4, .int x4), (5, .int x5), (6, .int x6), (7, .int x7)]) (by decide) rfl ?_
    refine z_iload C 6 dX4_seating_203 rfl ?_
    refine z_iconst C dX4_seating_205 (v := (-1 : Int32)) (by decide) ?_
    refine z_icmp_eq C 216 dX4_seating_206 (by decide) (fun c29 => ?_) (fun c29 => ?_)
    · replace hf := it_t hf c29
      refine z_lv C [1, 2, 3, 4, 5, 6, 8, 0] (lv' := [(0, .ref (G.1 0)), (1, .int x1), (2, .int x2), (3, .int x3), (4, .int x4), (5, .int x5), (7, .int x7), (8, .int v28)]) rfl ?_
      exact zj_X4_seating_216 μ x1 x2 x3 x4 x5 x7 v28 C hR ih95 hih95 hf
    · replace hf := it_f hf c29
      refine z_iload C 0 dX4_seating_209 rfl ?_
      refine z_iload C 6 dX4_seating_211 rfl ?_
      refine z_icmp_ge C 220 dX4_seating_213 (by decide) (fun c32 => ?_) (fun c32 => ?_)
      · replace hf := it_t hf c32
        refine z_iload C 0 dX4_seating_220 rfl ?_
        refine z_iload C 6 dX4_seating_222 rfl ?_
        refine z_icmp_ne C 234 dX4_seating_224 (by decide) (fun c33 => ?_) (fun c33 => ?_)
        · replace hf := it_f hf c33
          refine z_iload C 7 dX4_seating_234 rfl ?_
          refine z_lv C [1, 2, 3, 4, 5, 6, 8, 0] (lv' := [(0, .ref (G.1 0)), (1, .int x1), (2, .int x2), (3, .int x3), (4, .int x4), (5, .int x5), (7, .int x7), (8, .int v28)]) rfl ?_
          exact zj_X4_seating_236 μ x1 x2 x3 x4 x5 x7 v28 x6 C hR ih95 hih95 hf
        · replace hf := it_t hf c33
          refine z_iload C 7 dX4_seating_227 rfl ?_
          refine z_iconst C dX4_seating_229 (v := (1 : Int32)) (by decide) ?_
          refine z_iadd C dX4_seating_230 ?_
          refine z_goto C 236 dX4_seating_231 (by decide) ?_
          refine z_lv C [1, 2, 3, 4, 5, 6, 8, 0] (lv' := [(0, .ref (G.1 0)), (1, .int x1), (2, .int x2), (3, .int x3), (4, .int x4), (5, .int x5), (7, .int x7), (8, .int v28)]) rfl ?_
          exact zj_X4_seating_236 μ x1 x2 x3 x4 x5 x7 v28 ((x6 + (1 : Int32))) C hR ih95 hih95 hf
      · replace hf := it_f hf c32
        refine z_lv C [1, 2, 3, 4, 5, 6, 8, 0] (lv' := [(0, .ref (G.1 0)), (1, .int x1), (2, .int x2), (3, .int x3), (4, .int x4), (5, .int x5), (7, .int x7), (8, .int v28)]) rfl ?_
        exact zj_X4_seating_216 μ x1 x2 x3 x4 x5 x7 v28 C hR ih95 hih95 hf
noncomputable def b_X4_seating_114 (x1 : Int32) (x2 : Int32) (x3 : Int32) (x4 : Int32) (x5 : Int32) (x6 : Int32) (x7 : Int32) (ih95 : MM × Int32 × Int32 × Int32 → Option (MM × Int32)) (ih114 : MM × Int32 → Option (MM × Int32)) (μ : MM) (x8 : Int32) : Option (MM × Int32) :=
 (if (μ.1 0 6) ≤ x8 then
 g_X4_seating_183 μ x1 x2 x3 x4 x5 x6 x7 ih95
 else
 (ck (vp_in x8 6) <|
 (ck (vp_in (μ.1 8 (x8).toNatClampNeg) 6) <|
 (ck (vp_in ((4 : Int32) * (μ.1 4 ((μ.1 8 (x8).toNatClampNeg)).toNatClampNeg)) 24) <|
 (nm ((μ.1 3 (((4 : Int32) * (μ.1 4 ((μ.1 8 (x8).toNatClampNeg)).toNatClampNeg))).toNatClampNeg)) fun v37 : Int32 =>
 (nm (upM μ 5 (x8).toNatClampNeg v37) fun μ38 : MM =>
 (ck (vp_in (μ38.1 8 (x8).toNatClampNeg) 6) <|
 (ck (vp_in (((4 : Int32) * (μ38.1 4 ((μ38.1 8 (x8).toNatClampNeg)).toNatClampNeg)) + (1 : Int32)) 24) <|
 (nm ((μ38.1 3 ((((4 : Int32) * (μ38.1 4 ((μ38.1 8 (x8).toNatClampNeg)).toNatClampNeg)) + (1 : Int32))).toNatClampNeg)) fun v41 : Int32 =>
 (nm (upM μ38 6 (x8).toNatClampNeg v41) fun μ42 : MM =>
 ih114 (μ42, (x8 + (1 : Int32)))))))))))))
set_option maxHeartbeats 4000000 in
theorem zl_X4_seating_114 {X : ZX} {G : GW} {μ' : MM} {r : Int32} (x1 : Int32) (x2 : Int32) (x3 : Int32) (x4 : Int32) (x5 : Int32) (x6 : Int32) (x7 : Int32) (C : CX X (YM G) cX4_seating 9 RX4 { frames := 2, cells := 0, slots := 0, locals := 51 }) (hR : ZR X (YM G) (some .int) μ' (some (.int r))) (ih95 : MM × Int32 × Int32 × Int32 → Option (MM × Int32)) (hih95 : ∀ σ, ih95 σ = some (μ', r) → Z X (YM G) 9 σ.1 95 [(0, .ref (G.1 0)), (1, .int x1), (2, .int x2), (3, .int x3), (4, .int x4), (5, .int σ.2.1), (6, .int σ.2.2.1), (7, .int σ.2.2.2)] []) : ∀ (n : Nat) (σ : MM × Int32), lp (fun ih σ => b_X4_seating_114 x1 x2 x3 x4 x5 x6 x7 ih95 ih σ.1 σ.2) n σ = some (μ', r) → Z X (YM G) 9 σ.1 114 [(0, .ref (G.1 0)), (1, .int x1), (2, .int x2), (3, .int x3), (4, .int x4), (5, .int x5), (6, .int x6), (7, .int x7), (8, .int σ.2)] [] := by
  refine lp_z (P := fun σ : MM × Int32 => Z X (YM G) 9 σ.1 114 [(0, .ref (G.1 0)), (1, .int x1), (2, .int x2), (3, .int x3), (4, .int x4), (5, .int x5), (6, .int x6), (7, .int x7), (8, .int σ.2)] []) (fun ih114 hih114 σ hf => ?_)
  obtain ⟨μ, x8⟩ := σ
  have hf : b_X4_seating_114 x1 x2 x3 x4 x5 x6 x7 ih95 ih114 μ x8 = some (μ', r) := hf
  show Z X (YM G) 9 μ 114 [(0, .ref (G.1 0)), (1, .int x1), (2, .int x2), (3, .int x3), (4, .int x4), (5, .int x5), (6, .int x6), (7, .int x7), (8, .int x8)] []
  unfold b_X4_seating_114 at hf
  refine z_iload C 8 dX4_seating_114 rfl ?_
  refine z_aload_n C 0 dX4_seating_116 rfl ?_
  refine zg_X4_88_0 C dX4_seating_117 ?_
  refine z_icmp_ge C 183 dX4_seating_120 (by decide) (fun c23 => ?_) (fun c23 => ?_)
  · replace hf := it_t hf c23
    refine z_lv C [0, 1, 2, 3, 4, 5, 6, 7] (lv' := [(0, .ref (G.1 0)), (1, .int x1), (2, .int x2), (3, .int x3), (4, .int x4), (5, .int x5), (6, .int x6), (7, .int x7)]) rfl ?_
    exact zj_X4_seating_183 μ x1 x2 x3 x4 x5 x6 x7 C hR ih95 hih95 hf
  · replace hf := it_f hf c23
    refine z_aload_n C 0 dX4_seating_123 rfl ?_
    refine zg_X4_22_0 C dX4_seating_124 ?_
    refine z_iload C 8 dX4_seating_127 rfl ?_
    refine z_aload_n C 0 dX4_seating_129 rfl ?_
    refine zg_X4_16_0 C dX4_seating_130 ?_
    refine z_iconst C dX4_seating_133 (v := (4 : Int32)) (by decide) ?_
    refine z_aload_n C 0 dX4_seating_134 rfl ?_
    refine zg_X4_19_0 C dX4_seating_135 ?_
    refine z_aload_n C 0 dX4_seating_138 rfl ?_
    refine zg_X4_31_0 C dX4_seating_139 ?_
    refine z_iload C 8 dX4_seating_142 rfl ?_
    obtain ⟨h34, hf⟩ := ck_e hf
    refine zMl_8 C dX4_seating_144 h34 ?_
    obtain ⟨h35, hf⟩ := ck_e hf
    refine zMl_4 C dX4_seating_145 h35 ?_
    refine z_imul C dX4_seating_146 ?_
    obtain ⟨h36, hf⟩ := ck_e hf
    refine zMl_3 C dX4_seating_147 h36 ?_
    refine z_topi (fun v37 ev37 => ?_)
    replace hf := nm_e2 hf v37 ev37
    refine zMs_5 C dX4_seating_148 h34 ?_
    refine z_mem (fun μ38 eμ38 => ?_)
    replace hf := nm_e2 hf μ38 eμ38
    refine z_aload_n C 0 dX4_seating_149 rfl ?_
    refine zg_X4_25_0 C dX4_seating_150 ?_
    refine z_iload C 8 dX4_seating_153 rfl ?_
    refine z_aload_n C 0 dX4_seating_155 rfl ?_
    refine zg_X4_16_0 C dX4_seating_156 ?_
    refine z_iconst C dX4_seating_159 (v := (4 : Int32)) (by decide) ?_
    refine z_aload_n C 0 dX4_seating_160 rfl ?_
    refine zg_X4_19_0 C dX4_seating_161 ?_
    refine z_aload_n C 0 dX4_seating_164 rfl ?_
    refine zg_X4_31_0 C dX4_seating_165 ?_
    refine z_iload C 8 dX4_seating_168 rfl ?_
    refine zMl_8 C dX4_seating_170 h34 ?_
    obtain ⟨h39, hf⟩ := ck_e hf
    refine zMl_4 C dX4_seating_171 h39 ?_
    refine z_imul C dX4_seating_172 ?_
    refine z_iconst C dX4_seating_173 (v := (1 : Int32)) (by decide) ?_
    refine z_iadd C dX4_seating_174 ?_
    obtain ⟨h40, hf⟩ := ck_e hf
    refine zMl_3 C dX4_seating_175 h40 ?_
    refine z_topi (fun v41 ev41 => ?_)
    replace hf := nm_e2 hf v41 ev41
    refine zMs_6 C dX4_seating_176 h34 ?_
    refine z_mem (fun μ42 eμ42 => ?_)
    replace hf := nm_e2 hf μ42 eμ42
    refine z_iinc C 8 dX4_seating_177 (v := (x8 + (1 : Int32))) (lv' := [(8, .int (x8 + (1 : Int32))), (0, .ref (G.1 0)), (1, .int x1), (2, .int x2), (3, .int x3), (4, .int x4), (5, .int x5), (6, .int x6), (7, .int x7)]) rfl rfl (by decide) rfl ?_
    refine z_goto C 114 dX4_seating_180 (by decide) ?_
    refine z_lv C [1, 2, 3, 4, 5, 6, 7, 8, 0] (lv' := [(0, .ref (G.1 0)), (1, .int x1), (2, .int x2), (3, .int x3), (4, .int x4), (5, .int x5), (6, .int x6), (7, .int x7), (8, .int (x8 + (1 : Int32)))]) rfl ?_
    exact hih114 (μ42, (x8 + (1 : Int32))) hf
noncomputable def b_X4_seating_95 (x1 : Int32) (x2 : Int32) (x3 : Int32) (x4 : Int32) (ih95 : MM × Int32 × Int32 × Int32 → Option (MM × Int32)) (μ : MM) (x5 : Int32) (x6 : Int32) (x7 : Int32) : Option (MM × Int32) :=
 (if x4 ≤ x7 then
 g_X4_seating_266 μ x3 x5 x6
 else
 (bd2 (f_X4_isOrder μ x7) fun μ20 v21 =>
 (if v21 = 0 then
 g_X4_seating_260 μ20 x1 x2 x3 x4 x5 x6 x7 ih95
 else
 lp (fun ih σ => b_X4_seating_114 x1 x2 x3 x4 x5 x6 x7 ih95 ih σ.1 σ.2) fu (μ20, (0 : Int32)))))
set_option maxHeartbeats 4000000 in
theorem zl_X4_seating_95 {X : ZX} {G : GW} {μ' : MM} {r : Int32} (x1 : Int32) (x2 : Int32) (x3 : Int32) (x4 : Int32) (C : CX X (YM G) cX4_seating 9 RX4 { frames := 2, cells := 0, slots := 0, locals := 51 }) (hR : ZR X (YM G) (some .int) μ' (some (.int r))) : ∀ (n : Nat) (σ : MM × Int32 × Int32 × Int32), lp (fun ih σ => b_X4_seating_95 x1 x2 x3 x4 ih σ.1 σ.2.1 σ.2.2.1 σ.2.2.2) n σ = some (μ', r) → Z X (YM G) 9 σ.1 95 [(0, .ref (G.1 0)), (1, .int x1), (2, .int x2), (3, .int x3), (4, .int x4), (5, .int σ.2.1), (6, .int σ.2.2.1), (7, .int σ.2.2.2)] [] := by
  refine lp_z (P := fun σ : MM × Int32 × Int32 × Int32 => Z X (YM G) 9 σ.1 95 [(0, .ref (G.1 0)), (1, .int x1), (2, .int x2), (3, .int x3), (4, .int x4), (5, .int σ.2.1), (6, .int σ.2.2.1), (7, .int σ.2.2.2)] []) (fun ih95 hih95 σ hf => ?_)
  obtain ⟨μ, x5, x6, x7⟩ := σ
  have hf : b_X4_seating_95 x1 x2 x3 x4 ih95 μ x5 x6 x7 = some (μ', r) := hf
  show Z X (YM G) 9 μ 95 [(0, .ref (G.1 0)), (1, .int x1), (2, .int x2), (3, .int x3), (4, .int x4), (5, .int x5), (6, .int x6), (7, .int x7)] []
  unfold b_X4_seating_95 at hf
  refine z_iload C 7 dX4_seating_95 rfl ?_
  refine z_iload C 4 dX4_seating_97 rfl ?_
  refine z_icmp_ge C 266 dX4_seating_99 (by decide) (fun c17 => ?_) (fun c17 => ?_)
  · replace hf := it_t hf c17
    refine z_lv C [3, 5, 6] (lv' := [(3, .int x3), (5, .int x5), (6, .int x6)]) rfl ?_
    exact zj_X4_seating_266 μ x3 x5 x6 C hR hf
  · replace hf := it_f hf c17
    refine z_aload_n C 0 dX4_seating_102 rfl ?_
    refine z_iload C 7 dX4_seating_103 rfl ?_
    obtain ⟨μ20, v21, h19, hf⟩ := bd2_e hf
    refine z_callVi C (As := [.int x7]) (rest := []) (c_X4_isOrder h19) vw_X4_144 ⟨rfl, rfl, by decide, by decide⟩ (z_rv C (q0 := 0) (ci := 4) rfl rfl rfl) rfl (Nat.le_of_ble_eq_true rfl) dX4_seating_105 ?_
    refine z_if_eq C 260 dX4_seating_108 (by decide) (fun c22 => ?_) (fun c22 => ?_)
    · replace hf := it_t hf c22
      exact zj_X4_seating_260 μ20 x1 x2 x3 x4 x5 x6 x7 C hR ih95 hih95 hf
    · replace hf := it_f hf c22
      refine z_iconst C dX4_seating_111 (v := (0 : Int32)) (by decide) ?_
      refine z_istore C dX4_seating_112 (i := 8) (lv' := [(8, .int (0 : Int32)), (0, .ref (G.1 0)), (1, .int x1), (2, .int x2), (3, .int x3), (4, .int x4), (5, .int x5), (6, .int x6), (7, .int x7)]) (by decide) rfl ?_
      refine z_lv C [1, 2, 3, 4, 5, 6, 7, 8, 0] (lv' := [(0, .ref (G.1 0)), (1, .int x1), (2, .int x2), (3, .int x3), (4, .int x4), (5, .int x5), (6, .int x6), (7, .int x7), (8, .int (0 : Int32))]) rfl ?_
      exact zl_X4_seating_114 x1 x2 x3 x4 x5 x6 x7 C hR ih95 hih95 fu (μ20, (0 : Int32)) hf
noncomputable def g_X4_seating_86 (μ : MM) (x1 : Int32) (x2 : Int32) (x3 : Int32) (x4 : Int32) : Option (MM × Int32) :=
 lp (fun ih σ => b_X4_seating_95 x1 x2 x3 x4 ih σ.1 σ.2.1 σ.2.2.1 σ.2.2.2) fu (μ, (-1 : Int32), (-1 : Int32), (0 : Int32))
set_option maxHeartbeats 4000000 in
theorem zj_X4_seating_86 {X : ZX} {G : GW} {μ' : MM} {r : Int32} (μ : MM) (x1 : Int32) (x2 : Int32) (x3 : Int32) (x4 : Int32) (C : CX X (YM G) cX4_seating 9 RX4 { frames := 2, cells := 0, slots := 0, locals := 51 }) (hR : ZR X (YM G) (some .int) μ' (some (.int r))) (hf : g_X4_seating_86 μ x1 x2 x3 x4 = some (μ', r)) : Z X (YM G) 9 μ 86 [(0, .ref (G.1 0)), (1, .int x1), (2, .int x2), (3, .int x3), (4, .int x4)] [] := by
  unfold g_X4_seating_86 at hf
  refine z_iconst C dX4_seating_86 (v := (-1 : Int32)) (by decide) ?_
  refine z_istore C dX4_seating_87 (i := 5) (lv' := [(5, .int (-1 : Int32)), (0, .ref (G.1 0)), (1, .int x1), (2, .int x2), (3, .int x3), (4, .int x4)]) (by decide) rfl ?_
  refine z_iconst C dX4_seating_89 (v := (-1 : Int32)) (by decide) ?_
  refine z_istore C dX4_seating_90 (i := 6) (lv' := [(6, .int (-1 : Int32)), (5, .int (-1 : Int32)), (0, .ref (G.1 0)), (1, .int x1), (2, .int x2), (3, .int x3), (4, .int x4)]) (by decide) rfl ?_
  refine z_iconst C dX4_seating_92 (v := (0 : Int32)) (by decide) ?_
  refine z_istore C dX4_seating_93 (i := 7) (lv' := [(7, .int (0 : Int32)), (6, .int (-1 : Int32)), (5, .int (-1 : Int32)), (0, .ref (G.1 0)), (1, .int x1), (2, .int x2), (3, .int x3), (4, .int x4)]) (by decide) rfl ?_
  refine z_lv C [3, 4, 5, 6, 7, 2, 1, 0] (lv' := [(0, .ref (G.1 0)), (1, .int x1), (2, .int x2), (3, .int x3), (4, .int x4), (5, .int (-1 : Int32)), (6, .int (-1 : Int32)), (7, .int (0 : Int32))]) rfl ?_
  exact zl_X4_seating_95 x1 x2 x3 x4 C hR fu (μ, (-1 : Int32), (-1 : Int32), (0 : Int32)) hf
noncomputable def b_X4_seating_62 (μ : MM) (x1 : Int32) (x2 : Int32) (x3 : Int32) (ih62 : Int32 × Int32 → Option (MM × Int32)) (x4 : Int32) (x5 : Int32) : Option (MM × Int32) :=
 (if (μ.1 0 6) ≤ x5 then
 g_X4_seating_86 μ x1 x2 x3 x4
 else
 (nm ((x4 * (μ.1 0 6))) fun v43 : Int32 =>
 ih62 (v43, (x5 + (1 : Int32)))))
set_option maxHeartbeats 4000000 in
theorem zl_X4_seating_62 {X : ZX} {G : GW} {μ' : MM} {r : Int32} (μ : MM) (x1 : Int32) (x2 : Int32) (x3 : Int32) (C : CX X (YM G) cX4_seating 9 RX4 { frames := 2, cells := 0, slots := 0, locals := 51 }) (hR : ZR X (YM G) (some .int) μ' (some (.int r))) : ∀ (n : Nat) (σ : Int32 × Int32), lp (fun ih σ => b_X4_seating_62 μ x1 x2 x3 ih σ.1 σ.2) n σ = some (μ', r) → Z X (YM G) 9 μ 62 [(0, .ref (G.1 0)), (1, .int x1), (2, .int x2), (3, .int x3), (4, .int σ.1), (5, .int σ.2)] [] := by
  refine lp_z (P := fun σ : Int32 × Int32 => Z X (YM G) 9 μ 62 [(0, .ref (G.1 0)), (1, .int x1), (2, .int x2), (3, .int x3), (4, .int σ.1), (5, .int σ.2)] []) (fun ih62 hih62 σ hf => ?_)
  obtain ⟨x4, x5⟩ := σ
  have hf : b_X4_seating_62 μ x1 x2 x3 ih62 x4 x5 = some (μ', r) := hf
  show Z X (YM G) 9 μ 62 [(0, .ref (G.1 0)), (1, .int x1), (2, .int x2), (3, .int x3), (4, .int x4), (5, .int x5)] []
  unfold b_X4_seating_62 at hf
  refine z_iload C 5 dX4_seating_62 rfl ?_
  refine z_aload_n C 0 dX4_seating_64 rfl ?_
  refine zg_X4_88_0 C dX4_seating_65 ?_
  refine z_icmp_ge C 86 dX4_seating_68 (by decide) (fun c16 => ?_) (fun c16 => ?_)
  · replace hf := it_t hf c16
    refine z_lv C [0, 1, 2, 3, 4] (lv' := [(0, .ref (G.1 0)), (1, .int x1), (2, .int x2), (3, .int x3), (4, .int x4)]) rfl ?_
    exact zj_X4_seating_86 μ x1 x2 x3 x4 C hR hf
  · replace hf := it_f hf c16
    refine z_iload C 4 dX4_seating_71 rfl ?_
    refine z_aload_n C 0 dX4_seating_73 rfl ?_
    refine zg_X4_88_0 C dX4_seating_74 ?_
    refine z_imul C dX4_seating_77 ?_
    refine z_topi (fun v43 ev43 => ?_)
    replace hf := nm_e2 hf v43 ev43
    refine z_istore C dX4_seating_78 (i := 4) (lv' := [(4, .int v43), (0, .ref (G.1 0)), (1, .int x1), (2, .int x2), (3, .int x3), (5, .int x5)]) (by decide) rfl ?_
    refine z_iinc C 5 dX4_seating_80 (v := (x5 + (1 : Int32))) (lv' := [(5, .int (x5 + (1 : Int32))), (4, .int v43), (0, .ref (G.1 0)), (1, .int x1), (2, .int x2), (3, .int x3)]) rfl rfl (by decide) rfl ?_
    refine z_goto C 62 dX4_seating_83 (by decide) ?_
    refine z_lv C [2, 3, 4, 5, 1, 0] (lv' := [(0, .ref (G.1 0)), (1, .int x1), (2, .int x2), (3, .int x3), (4, .int v43), (5, .int (x5 + (1 : Int32)))]) rfl ?_
    exact hih62 (v43, (x5 + (1 : Int32))) hf
noncomputable def f_X4_seating (μ : MM) (x1 : Int32) (x2 : Int32) (x3 : Int32) : Option (MM × Int32) :=
 (nm (f_X4_isWord μ x1) fun v2 : Int32 =>
 (if v2 = 0 then
 (some (μ, (-102 : Int32)))
 else
 (nm (f_X4_isWord μ x2) fun v5 : Int32 =>
 (if v5 = 0 then
 (some (μ, (-102 : Int32)))
 else
 (nm (f_X4_in μ (x3).toInt64 (0 : Int64) (1 : Int64)) fun v8 : Int32 =>
 (if v8 = 0 then
 (some (μ, (-102 : Int32)))
 else
 (nm (f_X4_lacks μ) fun v11 : Int32 =>
 (if v11 = 0 then
 (if (μ.1 0 16) = (20 : Int32) then
 (some (μ, (-103 : Int32)))
 else
 (nm (((μ.1 0 16) + (1 : Int32))) fun v14 : Int32 =>
 (nm (upM μ 0 16 v14) fun μ15 : MM =>
 lp (fun ih σ => b_X4_seating_62 μ15 x1 x2 x3 ih σ.1 σ.2) fu ((1 : Int32), (0 : Int32)))))
 else
 (some (μ, (-103 : Int32)))))))))))
set_option maxHeartbeats 4000000 in
theorem c_X4_seating {l : Launch} {G : GW} {μ : MM} {x1 : Int32} {x2 : Int32} {x3 : Int32} {μ' : MM} {r : Int32} (hf : f_X4_seating μ x1 x2 x3 = some (μ', r)) : MZ l (YM G) yX4_seating cX4_seating 9 (some .int) { frames := 2, cells := 0, slots := 0, locals := 51 } [.ref (G.1 0), .int x1, .int x2, .int x3] μ μ' (some (.int r)) := by
  refine z_met RX4 rfl (by decide) (Nat.le_of_ble_eq_true rfl) (fun X hX C hR => ?_)
  show Z X (YM G) 9 μ 0 [(0, .ref (G.1 0)), (1, .int x1), (2, .int x2), (3, .int x3)] []
  unfold f_X4_seating at hf
  refine z_iload_n C 1 dX4_seating_0 rfl ?_
  obtain ⟨v2, h1⟩ : ∃ z, z = f_X4_isWord μ x1 := ⟨_, rfl⟩
  replace hf := nm_e2 hf v2 h1
  refine z_callSi C (As := [.int x1]) (rest := []) (c_X4_isWord h1.symm) sw_X4_126 ⟨rfl, rfl, by decide, by decide⟩ rfl (Nat.le_of_ble_eq_true rfl) dX4_seating_1 ?_
  refine z_if_eq C 24 dX4_seating_4 (by decide) (fun c3 => ?_) (fun c3 => ?_)
  · replace hf := it_t hf c3
    refine z_bipush C dX4_seating_24 (v := (-102 : Int32)) (by decide) ?_
    exact z_iret C hR dX4_seating_26 (rt2 hf).1 (rt2 hf).2
  · replace hf := it_f hf c3
    refine z_iload_n C 2 dX4_seating_7 rfl ?_
    obtain ⟨v5, h4⟩ : ∃ z, z = f_X4_isWord μ x2 := ⟨_, rfl⟩
    replace hf := nm_e2 hf v5 h4
    refine z_callSi C (As := [.int x2]) (rest := []) (c_X4_isWord h4.symm) sw_X4_126 ⟨rfl, rfl, by decide, by decide⟩ rfl (Nat.le_of_ble_eq_true rfl) dX4_seating_8 ?_
    refine z_if_eq C 24 dX4_seating_11 (by decide) (fun c6 => ?_) (fun c6 => ?_)
    · replace hf := it_t hf c6
      refine z_bipush C dX4_seating_24 (v := (-102 : Int32)) (by decide) ?_
      exact z_iret C hR dX4_seating_26 (rt2 hf).1 (rt2 hf).2
    · replace hf := it_f hf c6
      refine z_iload_n C 3 dX4_seating_14 rfl ?_
      refine z_i2l C dX4_seating_15 ?_
      refine z_lconst C dX4_seating_16 (v := (0 : Int64)) (by decide) ?_
      refine z_lconst C dX4_seating_17 (v := (1 : Int64)) (by decide) ?_
      obtain ⟨v8, h7⟩ : ∃ z, z = f_X4_in μ (x3).toInt64 (0 : Int64) (1 : Int64) := ⟨_, rfl⟩
      replace hf := nm_e2 hf v8 h7
      refine z_callSi C (As := [.long (x3).toInt64, .long (0 : Int64), .long (1 : Int64)]) (rest := []) (c_X4_in h7.symm) sw_X4_58 ⟨rfl, rfl, by decide, by decide⟩ rfl (Nat.le_of_ble_eq_true rfl) dX4_seating_18 ?_
      refine z_if_ne C 27 dX4_seating_21 (by decide) (fun c9 => ?_) (fun c9 => ?_)
      · replace hf := it_f hf c9
        refine z_aload_n C 0 dX4_seating_27 rfl ?_
        obtain ⟨v11, h10⟩ : ∃ z, z = f_X4_lacks μ := ⟨_, rfl⟩
        replace hf := nm_e2 hf v11 h10
        refine z_callVi C (As := []) (rest := []) (c_X4_lacks h10.symm) vw_X4_122 ⟨rfl, rfl, by decide, by decide⟩ (z_rv C (q0 := 0) (ci := 4) rfl rfl rfl) rfl (Nat.le_of_ble_eq_true rfl) dX4_seating_28 ?_
        refine z_if_ne C 43 dX4_seating_31 (by decide) (fun c12 => ?_) (fun c12 => ?_)
        · replace hf := it_f hf c12
          refine z_bipush C dX4_seating_43 (v := (-103 : Int32)) (by decide) ?_
          exact z_iret C hR dX4_seating_45 (rt2 hf).1 (rt2 hf).2
        · replace hf := it_t hf c12
          refine z_aload_n C 0 dX4_seating_34 rfl ?_
          refine zg_X4_141_0 C dX4_seating_35 ?_
          refine z_bipush C dX4_seating_38 (v := (20 : Int32)) (by decide) ?_
          refine z_icmp_ne C 46 dX4_seating_40 (by decide) (fun c13 => ?_) (fun c13 => ?_)
          · replace hf := it_f hf c13
            refine z_aload_n C 0 dX4_seating_46 rfl ?_
            refine z_dup C dX4_seating_47 rfl ?_
            refine zg_X4_141_0 C dX4_seating_48 ?_
            refine z_iconst C dX4_seating_51 (v := (1 : Int32)) (by decide) ?_
            refine z_iadd C dX4_seating_52 ?_
            refine z_topi (fun v14 ev14 => ?_)
            replace hf := nm_e2 hf v14 ev14
            refine zp_X4_141_0 C dX4_seating_53 ?_
            refine z_mem (fun μ15 eμ15 => ?_)
            replace hf := nm_e2 hf μ15 eμ15
            refine z_iconst C dX4_seating_56 (v := (1 : Int32)) (by decide) ?_
            refine z_istore C dX4_seating_57 (i := 4) (lv' := [(4, .int (1 : Int32)), (0, .ref (G.1 0)), (1, .int x1), (2, .int x2), (3, .int x3)]) (by decide) rfl ?_
            refine z_iconst C dX4_seating_59 (v := (0 : Int32)) (by decide) ?_
            refine z_istore C dX4_seating_60 (i := 5) (lv' := [(5, .int (0 : Int32)), (4, .int (1 : Int32)), (0, .ref (G.1 0)), (1, .int x1), (2, .int x2), (3, .int x3)]) (by decide) rfl ?_
            refine z_lv C [2, 3, 4, 5, 1, 0] (lv' := [(0, .ref (G.1 0)), (1, .int x1), (2, .int x2), (3, .int x3), (4, .int (1 : Int32)), (5, .int (0 : Int32))]) rfl ?_
            exact zl_X4_seating_62 μ15 x1 x2 x3 C hR fu ((1 : Int32), (0 : Int32)) hf
          · replace hf := it_t hf c13
            refine z_bipush C dX4_seating_43 (v := (-103 : Int32)) (by decide) ?_
            exact z_iret C hR dX4_seating_45 (rt2 hf).1 (rt2 hf).2
      · replace hf := it_t hf c9
        refine z_bipush C dX4_seating_24 (v := (-102 : Int32)) (by decide) ?_
        exact z_iret C hR dX4_seating_26 (rt2 hf).1 (rt2 hf).2
noncomputable def g_X4_term_24 (μ : MM) (x0 : Int32) (x1 : Int32) (x2 : Int32) (x4 : Int32) : Option Int32 :=
 (if x2 = 0 then
 (ck (¬ x4 = 0) <|
 (some (x0 / x4)))
 else
 (ck (¬ x4 = 0) <|
 (some (x1 / x4))))
set_option maxHeartbeats 4000000 in
theorem zj_X4_term_24 {X : ZX} {G : GW} {r : Int32} (μ : MM) (x0 : Int32) (x1 : Int32) (x2 : Int32) (x4 : Int32) (C : CX X (YM G) cX4_term 6 RX4 { frames := 0, cells := 0, slots := 0, locals := 0 }) (hR : ZR X (YM G) (some .int) μ (some (.int r))) (hf : g_X4_term_24 μ x0 x1 x2 x4 = some r) : Z X (YM G) 6 μ 24 [(0, .int x0), (1, .int x1), (2, .int x2), (4, .int x4)] [] := by
  unfold g_X4_term_24 at hf
  refine z_iload_n C 2 dX4_term_24 rfl ?_
  refine z_if_ne C 35 dX4_term_25 (by decide) (fun c2 => ?_) (fun c2 => ?_)
  · replace hf := it_f hf c2
    refine z_iload_n C 1 dX4_term_35 rfl ?_
    refine z_iload C 3 dX4_term_36 rfl ?_
    obtain ⟨h3, hf⟩ := ck_e hf
    refine z_idiv C dX4_term_38 h3 ?_
    exact z_iret C hR dX4_term_39 rfl (rt1 hf)
  · replace hf := it_t hf c2
    refine z_iload_n C 0 dX4_term_28 rfl ?_
    refine z_iload C 3 dX4_term_29 rfl ?_
    obtain ⟨h4, hf⟩ := ck_e hf
    refine z_idiv C dX4_term_31 h4 ?_
    refine z_goto C 39 dX4_term_32 (by decide) ?_
    exact z_iret C hR dX4_term_39 rfl (rt1 hf)
noncomputable def b_X4_term_5 (μ : MM) (x0 : Int32) (x1 : Int32) (x2 : Int32) (ih5 : Int32 × Int32 → Option Int32) (x3 : Int32) (x4 : Int32) : Option Int32 :=
 (if x3 = 0 then
 g_X4_term_24 μ x0 x1 x2 x4
 else
 (ck (¬ x3 = 0) <|
 (nm ((x4 - x4 / x3 * x3)) fun v6 : Int32 =>
 ih5 (v6, x3))))
set_option maxHeartbeats 4000000 in
theorem zl_X4_term_5 {X : ZX} {G : GW} {r : Int32} (μ : MM) (x0 : Int32) (x1 : Int32) (x2 : Int32) (C : CX X (YM G) cX4_term 6 RX4 { frames := 0, cells := 0, slots := 0, locals := 0 }) (hR : ZR X (YM G) (some .int) μ (some (.int r))) : ∀ (n : Nat) (σ : Int32 × Int32), lp (fun ih σ => b_X4_term_5 μ x0 x1 x2 ih σ.1 σ.2) n σ = some r → Z X (YM G) 6 μ 5 [(0, .int x0), (1, .int x1), (2, .int x2), (3, .int σ.1), (4, .int σ.2)] [] := by
  refine lp_z (P := fun σ : Int32 × Int32 => Z X (YM G) 6 μ 5 [(0, .int x0), (1, .int x1), (2, .int x2), (3, .int σ.1), (4, .int σ.2)] []) (fun ih5 hih5 σ hf => ?_)
  obtain ⟨x3, x4⟩ := σ
  have hf : b_X4_term_5 μ x0 x1 x2 ih5 x3 x4 = some r := hf
  show Z X (YM G) 6 μ 5 [(0, .int x0), (1, .int x1), (2, .int x2), (3, .int x3), (4, .int x4)] []
  unfold b_X4_term_5 at hf
  refine z_iload_n C 3 dX4_term_5 rfl ?_
  refine z_if_eq C 24 dX4_term_6 (by decide) (fun c1 => ?_) (fun c1 => ?_)
  · replace hf := it_t hf c1
    refine z_lv C [0, 1, 2, 4] (lv' := [(0, .int x0), (1, .int x1), (2, .int x2), (4, .int x4)]) rfl ?_
    exact zj_X4_term_24 μ x0 x1 x2 x4 C hR hf
  · replace hf := it_f hf c1
    refine z_iload C 4 dX4_term_9 rfl ?_
    refine z_iload_n C 3 dX4_term_11 rfl ?_
    obtain ⟨h5, hf⟩ := ck_e hf
    refine z_irem C dX4_term_12 h5 ?_
    refine z_topi (fun v6 ev6 => ?_)
    replace hf := nm_e2 hf v6 ev6
    refine z_istore C dX4_term_13 (i := 5) (lv' := [(5, .int v6), (0, .int x0), (1, .int x1), (2, .int x2), (3, .int x3), (4, .int x4)]) (by decide) rfl ?_
    refine z_iload_n C 4 dX4_term_15 rfl ?_
    refine z_istore C dX4_term_16 (i := 4) (lv' := [(4, .int x3), (5, .int v6), (0, .int x0), (1, .int x1), (2, .int x2), (3, .int x3)]) (by decide) rfl ?_
    refine z_iload C 1 dX4_term_18 rfl ?_
    refine z_istore_n C dX4_term_20 (i := 3) (lv' := [(3, .int v6), (4, .int x3), (5, .int v6), (0, .int x0), (1, .int x1), (2, .int x2)]) rfl (by decide) rfl ?_
    refine z_goto C 5 dX4_term_21 (by decide) ?_
    refine z_lv C [3, 4, 5, 0, 1] (lv' := [(0, .int x0), (1, .int x1), (2, .int x2), (3, .int v6), (4, .int x3)]) rfl ?_
    exact hih5 (v6, x3) hf
noncomputable def f_X4_term (μ : MM) (x0 : Int32) (x1 : Int32) (x2 : Int32) : Option Int32 :=
 lp (fun ih σ => b_X4_term_5 μ x0 x1 x2 ih σ.1 σ.2) fu (x0, x1)
set_option maxHeartbeats 4000000 in
theorem c_X4_term {l : Launch} {G : GW} {μ : MM} {x0 : Int32} {x1 : Int32} {x2 : Int32} {r : Int32} (hf : f_X4_term μ x0 x1 x2 = some r) : MZ l (YM G) yX4_term cX4_term 6 (some .int) { frames := 0, cells := 0, slots := 0, locals := 0 } [.int x0, .int x1, .int x2] μ μ (some (.int r)) := by
  refine z_met RX4 rfl (by decide) (Nat.le_of_ble_eq_true rfl) (fun X hX C hR => ?_)
  show Z X (YM G) 6 μ 0 [(0, .int x0), (1, .int x1), (2, .int x2)] []
  unfold f_X4_term at hf
  refine z_iload_n C 0 dX4_term_0 rfl ?_
  refine z_istore_n C dX4_term_1 (i := 3) (lv' := [(3, .int x0), (0, .int x0), (1, .int x1), (2, .int x2)]) rfl (by decide) rfl ?_
  refine z_iload_n C 2 dX4_term_2 rfl ?_
  refine z_istore C dX4_term_3 (i := 4) (lv' := [(4, .int x1), (3, .int x0), (0, .int x0), (1, .int x1), (2, .int x2)]) (by decide) rfl ?_
  refine z_lv C [2, 3, 4, 1, 0] (lv' := [(0, .int x0), (1, .int x1), (2, .int x2), (3, .int x0), (4, .int x1)]) rfl ?_
  exact zl_X4_term_5 μ x0 x1 x2 C hR fu (x0, x1) hf
noncomputable def g_X4_nestlings_213 (μ : MM) (x5 : Int32) (x6 : Int32) (x7 : Int32) : Option (MM × Int32) :=
 (bd (f_X4_term μ x6 x7 x5) fun v20 =>
 (some (μ, v20)))
set_option maxHeartbeats 4000000 in
theorem zj_X4_nestlings_213 {X : ZX} {G : GW} {μ' : MM} {r : Int32} (μ : MM) (x5 : Int32) (x6 : Int32) (x7 : Int32) (C : CX X (YM G) cX4_nestlings 11 RX4 { frames := 2, cells := 0, slots := 0, locals := 51 }) (hR : ZR X (YM G) (some .int) μ' (some (.int r))) (hf : g_X4_nestlings_213 μ x5 x6 x7 = some (μ', r)) : Z X (YM G) 11 μ 213 [(5, .int x5), (6, .int x6), (7, .int x7)] [] := by
  unfold g_X4_nestlings_213 at hf
  refine z_iload C 1 dX4_nestlings_213 rfl ?_
  refine z_iload C 2 dX4_nestlings_215 rfl ?_
  refine z_iload C 0 dX4_nestlings_217 rfl ?_
  obtain ⟨v20, h19, hf⟩ := bd_e hf
  refine z_callSi C (As := [.int x6, .int x7, .int x5]) (rest := []) (c_X4_term h19) sw_X4_150 ⟨rfl, rfl, by decide, by decide⟩ rfl (Nat.le_of_ble_eq_true rfl) dX4_nestlings_219 ?_
  exact z_iret C hR dX4_nestlings_222 (rt2 hf).1 (rt2 hf).2
noncomputable def g_X4_nestlings_207 (μ : MM) (x1 : Int32) (x2 : Int32) (x3 : Int32) (x4 : Int32) (x5 : Int32) (x6 : Int32) (x7 : Int32) (x8 : Int32) (ih71 : MM × Int32 × Int32 × Int32 → Option (MM × Int32)) : Option (MM × Int32) :=
 ih71 (μ, x6, x7, (x8 + (1 : Int32)))
set_option maxHeartbeats 4000000 in
theorem zj_X4_nestlings_207 {X : ZX} {G : GW} {μ' : MM} {r : Int32} (μ : MM) (x1 : Int32) (x2 : Int32) (x3 : Int32) (x4 : Int32) (x5 : Int32) (x6 : Int32) (x7 : Int32) (x8 : Int32) (C : CX X (YM G) cX4_nestlings 11 RX4 { frames := 2, cells := 0, slots := 0, locals := 51 }) (hR : ZR X (YM G) (some .int) μ' (some (.int r))) (ih71 : MM × Int32 × Int32 × Int32 → Option (MM × Int32)) (hih71 : ∀ σ, ih71 σ = some (μ', r) → Z X (YM G) 11 σ.1 71 [(0, .ref (G.1 0)), (1, .int x1), (2, .int x2), (3, .int x3), (4, .int x4), (5, .int x5), (6, .int σ.2.1), (7, .int σ.2.2.1), (8, .int σ.2.2.2)] []) (hf : g_X4_nestlings_207 μ x1 x2 x3 x4 x5 x6 x7 x8 ih71 = some (μ', r)) : Z X (YM G) 11 μ 207 [(0, .ref (G.1 0)), (1, .int x1), (2, .int x2), (3, .int x3), (4, .int x4), (5, .int x5), (6, .int x6), (7, .int x7), (8, .int x8)] [] := by
  unfold g_X4_nestlings_207 at hf
  refine z_iinc C 8 dX4_nestlings_207 (v := (x8 + (1 : Int32))) (lv' := [(8, .int (x8 + (1 : Int32))), (0, .ref (G.1 0)), (1, .int x1), (2, .int x2), (3, .int x3), (4, .int x4), (5, .int x5), (6, .int x6), (7, .int x7)]) rfl rfl (by decide) rfl ?_
  refine z_goto C 71 dX4_nestlings_210 (by decide) ?_
  refine z_lv C [1, 2, 3, 4, 5, 6, 7, 8, 0] (lv' := [(0, .ref (G.1 0)), (1, .int x1), (2, .int x2), (3, .int x3), (4, .int x4), (5, .int x5), (6, .int x6), (7, .int x7), (8, .int (x8 + (1 : Int32)))]) rfl ?_
  exact hih71 (μ, x6, x7, (x8 + (1 : Int32))) hf
noncomputable def g_X4_nestlings_201 (μ : MM) (x1 : Int32) (x2 : Int32) (x3 : Int32) (x4 : Int32) (x5 : Int32) (x7 : Int32) (x8 : Int32) (t0 : Int32) (t1 : Int32) (ih71 : MM × Int32 × Int32 × Int32 → Option (MM × Int32)) : Option (MM × Int32) :=
 (nm ((t1 + t0)) fun v26 : Int32 =>
 g_X4_nestlings_207 μ x1 x2 x3 x4 x5 v26 ((x7 + (1 : Int32))) x8 ih71)
set_option maxHeartbeats 4000000 in
theorem zj_X4_nestlings_201 {X : ZX} {G : GW} {μ' : MM} {r : Int32} (μ : MM) (x1 : Int32) (x2 : Int32) (x3 : Int32) (x4 : Int32) (x5 : Int32) (x7 : Int32) (x8 : Int32) (t0 : Int32) (t1 : Int32) (C : CX X (YM G) cX4_nestlings 11 RX4 { frames := 2, cells := 0, slots := 0, locals := 51 }) (hR : ZR X (YM G) (some .int) μ' (some (.int r))) (ih71 : MM × Int32 × Int32 × Int32 → Option (MM × Int32)) (hih71 : ∀ σ, ih71 σ = some (μ', r) → Z X (YM G) 11 σ.1 71 [(0, .ref (G.1 0)), (1, .int x1), (2, .int x2), (3, .int x3), (4, .int x4), (5, .int x5), (6, .int σ.2.1), (7, .int σ.2.2.1), (8, .int σ.2.2.2)] []) (hf : g_X4_nestlings_201 μ x1 x2 x3 x4 x5 x7 x8 t0 t1 ih71 = some (μ', r)) : Z X (YM G) 11 μ 201 [(0, .ref (G.1 0)), (1, .int x1), (2, .int x2), (3, .int x3), (4, .int x4), (5, .int x5), (7, .int x7), (8, .int x8)] [.int t0, .int t1] := by
  unfold g_X4_nestlings_201 at hf
  refine z_iadd C dX4_nestlings_201 ?_
  refine z_topi (fun v26 ev26 => ?_)
  replace hf := nm_e2 hf v26 ev26
  refine z_istore C dX4_nestlings_202 (i := 6) (lv' := [(6, .int v26), (0, .ref (G.1 0)), (1, .int x1), (2, .int x2), (3, .int x3), (4, .int x4), (5, .int x5), (7, .int x7), (8, .int x8)]) (by decide) rfl ?_
  refine z_iinc C 7 dX4_nestlings_204 (v := (x7 + (1 : Int32))) (lv' := [(7, .int (x7 + (1 : Int32))), (6, .int v26), (0, .ref (G.1 0)), (1, .int x1), (2, .int x2), (3, .int x3), (4, .int x4), (5, .int x5), (8, .int x8)]) rfl rfl (by decide) rfl ?_
  refine z_lv C [2, 3, 4, 5, 6, 7, 1, 0, 8] (lv' := [(0, .ref (G.1 0)), (1, .int x1), (2, .int x2), (3, .int x3), (4, .int x4), (5, .int x5), (6, .int v26), (7, .int (x7 + (1 : Int32))), (8, .int x8)]) rfl ?_
  exact zj_X4_nestlings_207 μ x1 x2 x3 x4 x5 v26 ((x7 + (1 : Int32))) x8 C hR ih71 hih71 hf
noncomputable def g_X4_nestlings_179 (μ : MM) (x1 : Int32) (x2 : Int32) (x3 : Int32) (x4 : Int32) (x5 : Int32) (x6 : Int32) (x7 : Int32) (x8 : Int32) (ih71 : MM × Int32 × Int32 × Int32 → Option (MM × Int32)) : Option (MM × Int32) :=
 (bd (f_X4_comesOf μ x2 x3 (μ.1 0 7)) fun v24 =>
 (if v24 = x4 then
 g_X4_nestlings_201 μ x1 x2 x3 x4 x5 x7 x8 (1 : Int32) x6 ih71
 else
 g_X4_nestlings_201 μ x1 x2 x3 x4 x5 x7 x8 (0 : Int32) x6 ih71))
set_option maxHeartbeats 4000000 in
theorem zj_X4_nestlings_179 {X : ZX} {G : GW} {μ' : MM} {r : Int32} (μ : MM) (x1 : Int32) (x2 : Int32) (x3 : Int32) (x4 : Int32) (x5 : Int32) (x6 : Int32) (x7 : Int32) (x8 : Int32) (C : CX X (YM G) cX4_nestlings 11 RX4 { frames := 2, cells := 0, slots := 0, locals := 51 }) (hR : ZR X (YM G) (some .int) μ' (some (.int r))) (ih71 : MM × Int32 × Int32 × Int32 → Option (MM × Int32)) (hih71 : ∀ σ, ih71 σ = some (μ', r) → Z X (YM G) 11 σ.1 71 [(0, .ref (G.1 0)), (1, .int x1), (2, .int x2), (3, .int x3), (4, .int x4), (5, .int x5), (6, .int σ.2.1), (7, .int σ.2.2.1), (8, .int σ.2.2.2)] []) (hf : g_X4_nestlings_179 μ x1 x2 x3 x4 x5 x6 x7 x8 ih71 = some (μ', r)) : Z X (YM G) 11 μ 179 [(0, .ref (G.1 0)), (1, .int x1), (2, .int x2), (3, .int x3), (4, .int x4), (5, .int x5), (6, .int x6), (7, .int x7), (8, .int x8)] [] := by
  unfold g_X4_nestlings_179 at hf
  refine z_iload C 6 dX4_nestlings_179 rfl ?_
  refine z_aload_n C 0 dX4_nestlings_181 rfl ?_
  refine z_iload_n C 2 dX4_nestlings_182 rfl ?_
  refine z_iload_n C 3 dX4_nestlings_183 rfl ?_
  refine z_aload_n C 0 dX4_nestlings_184 rfl ?_
  refine zg_X4_91_0 C dX4_nestlings_185 ?_
  obtain ⟨v24, h23, hf⟩ := bd_e hf
  refine z_callVi C (As := [.int x2, .int x3, .int (μ.1 0 7)]) (rest := [.int x6]) (c_X4_comesOf h23) vw_X4_132 ⟨rfl, rfl, by decide, by decide⟩ (z_rv C (q0 := 0) (ci := 4) rfl rfl rfl) rfl (Nat.le_of_ble_eq_true rfl) dX4_nestlings_188 ?_
  refine z_iload C 4 dX4_nestlings_191 rfl ?_
  refine z_icmp_ne C 200 dX4_nestlings_193 (by decide) (fun c25 => ?_) (fun c25 => ?_)
  · replace hf := it_f hf c25
    refine z_iconst C dX4_nestlings_200 (v := (0 : Int32)) (by decide) ?_
    refine z_lv C [0, 1, 2, 3, 4, 5, 7, 8] (lv' := [(0, .ref (G.1 0)), (1, .int x1), (2, .int x2), (3, .int x3), (4, .int x4), (5, .int x5), (7, .int x7), (8, .int x8)]) rfl ?_
    exact zj_X4_nestlings_201 μ x1 x2 x3 x4 x5 x7 x8 (0 : Int32) x6 C hR ih71 hih71 hf
  · replace hf := it_t hf c25
    refine z_iconst C dX4_nestlings_196 (v := (1 : Int32)) (by decide) ?_
    refine z_goto C 201 dX4_nestlings_197 (by decide) ?_
    refine z_lv C [0, 1, 2, 3, 4, 5, 7, 8] (lv' := [(0, .ref (G.1 0)), (1, .int x1), (2, .int x2), (3, .int x3), (4, .int x4), (5, .int x5), (7, .int x7), (8, .int x8)]) rfl ?_
    exact zj_X4_nestlings_201 μ x1 x2 x3 x4 x5 x7 x8 (1 : Int32) x6 C hR ih71 hih71 hf
noncomputable def g_X4_nestlings_172 (μ : MM) (x1 : Int32) (x2 : Int32) (x3 : Int32) (x4 : Int32) (x5 : Int32) (x6 : Int32) (x7 : Int32) (x8 : Int32) (x9 : Int32) (t0 : Int32) (t1 : Int32) (ih71 : MM × Int32 × Int32 × Int32 → Option (MM × Int32)) (ih94 : MM × Int32 → Option (MM × Int32)) : Option (MM × Int32) :=
 (ck (vp_in t1 6) <|
 (nm (upM μ 6 (t1).toNatClampNeg t0) fun μ35 : MM =>
 ih94 (μ35, (x9 + (1 : Int32)))))
set_option maxHeartbeats 4000000 in
theorem zj_X4_nestlings_172 {X : ZX} {G : GW} {μ' : MM} {r : Int32} (μ : MM) (x1 : Int32) (x2 : Int32) (x3 : Int32) (x4 : Int32) (x5 : Int32) (x6 : Int32) (x7 : Int32) (x8 : Int32) (x9 : Int32) (t0 : Int32) (t1 : Int32) (C : CX X (YM G) cX4_nestlings 11 RX4 { frames := 2, cells := 0, slots := 0, locals := 51 }) (hR : ZR X (YM G) (some .int) μ' (some (.int r))) (ih71 : MM × Int32 × Int32 × Int32 → Option (MM × Int32)) (hih71 : ∀ σ, ih71 σ = some (μ', r) → Z X (YM G) 11 σ.1 71 [(0, .ref (G.1 0)), (1, .int x1), (2, .int x2), (3, .int x3), (4, .int x4), (5, .int x5), (6, .int σ.2.1), (7, .int σ.2.2.1), (8, .int σ.2.2.2)] []) (ih94 : MM × Int32 → Option (MM × Int32)) (hih94 : ∀ σ, ih94 σ = some (μ', r) → Z X (YM G) 11 σ.1 94 [(0, .ref (G.1 0)), (1, .int x1), (2, .int x2), (3, .int x3), (4, .int x4), (5, .int x5), (6, .int x6), (7, .int x7), (8, .int x8), (9, .int σ.2)] []) (hf : g_X4_nestlings_172 μ x1 x2 x3 x4 x5 x6 x7 x8 x9 t0 t1 ih71 ih94 = some (μ', r)) : Z X (YM G) 11 μ 172 [(0, .ref (G.1 0)), (1, .int x1), (2, .int x2), (3, .int x3), (4, .int x4), (5, .int x5), (6, .int x6), (7, .int x7), (8, .int x8), (9, .int x9)] [.int t0, .int t1, .ref (G.1 6)] := by
  unfold g_X4_nestlings_172 at hf
  obtain ⟨h34, hf⟩ := ck_e hf
  refine zMs_6 C dX4_nestlings_172 h34 ?_
  refine z_mem (fun μ35 eμ35 => ?_)
  replace hf := nm_e2 hf μ35 eμ35
  refine z_iinc C 9 dX4_nestlings_173 (v := (x9 + (1 : Int32))) (lv' := [(9, .int (x9 + (1 : Int32))), (0, .ref (G.1 0)), (1, .int x1), (2, .int x2), (3, .int x3), (4, .int x4), (5, .int x5), (6, .int x6), (7, .int x7), (8, .int x8)]) rfl rfl (by decide) rfl ?_
  refine z_goto C 94 dX4_nestlings_176 (by decide) ?_
  refine z_lv C [1, 2, 3, 4, 5, 6, 7, 8, 9, 0] (lv' := [(0, .ref (G.1 0)), (1, .int x1), (2, .int x2), (3, .int x3), (4, .int x4), (5, .int x5), (6, .int x6), (7, .int x7), (8, .int x8), (9, .int (x9 + (1 : Int32)))]) rfl ?_
  exact hih94 (μ35, (x9 + (1 : Int32))) hf
noncomputable def g_X4_nestlings_148 (μ : MM) (x1 : Int32) (x2 : Int32) (x3 : Int32) (x4 : Int32) (x5 : Int32) (x6 : Int32) (x7 : Int32) (x8 : Int32) (x9 : Int32) (x10 : Int32) (t0 : Int32) (t1 : Int32) (ih71 : MM × Int32 × Int32 × Int32 → Option (MM × Int32)) (ih94 : MM × Int32 → Option (MM × Int32)) : Option (MM × Int32) :=
 (ck (vp_in t1 6) <|
 (nm (upM μ 5 (t1).toNatClampNeg t0) fun μ31 : MM =>
 (if x10 = 0 then
 (ck (vp_in x9 6) <|
 g_X4_nestlings_172 μ31 x1 x2 x3 x4 x5 x6 x7 x8 x9 ((μ31.1 6 (x9).toNatClampNeg)) x9 ih71 ih94)
 else
 g_X4_nestlings_172 μ31 x1 x2 x3 x4 x5 x6 x7 x8 x9 (7 : Int32) x9 ih71 ih94)))
set_option maxHeartbeats 4000000 in
theorem zj_X4_nestlings_148 {X : ZX} {G : GW} {μ' : MM} {r : Int32} (μ : MM) (x1 : Int32) (x2 : Int32) (x3 : Int32) (x4 : Int32) (x5 : Int32) (x6 : Int32) (x7 : Int32) (x8 : Int32) (x9 : Int32) (x10 : Int32) (t0 : Int32) (t1 : Int32) (C : CX X (YM G) cX4_nestlings 11 RX4 { frames := 2, cells := 0, slots := 0, locals := 51 }) (hR : ZR X (YM G) (some .int) μ' (some (.int r))) (ih71 : MM × Int32 × Int32 × Int32 → Option (MM × Int32)) (hih71 : ∀ σ, ih71 σ = some (μ', r) → Z X (YM G) 11 σ.1 71 [(0, .ref (G.1 0)), (1, .int x1), (2, .int x2), (3, .int x3), (4, .int x4), (5, .int x5), (6, .int σ.2.1), (7, .int σ.2.2.1), (8, .int σ.2.2.2)] []) (ih94 : MM × Int32 → Option (MM × Int32)) (hih94 : ∀ σ, ih94 σ = some (μ', r) → Z X (YM G) 11 σ.1 94 [(0, .ref (G.1 0)), (1, .int x1), (2, .int x2), (3, .int x3), (4, .int x4), (5, .int x5), (6, .int x6), (7, .int x7), (8, .int x8), (9, .int σ.2)] []) (hf : g_X4_nestlings_148 μ x1 x2 x3 x4 x5 x6 x7 x8 x9 x10 t0 t1 ih71 ih94 = some (μ', r)) : Z X (YM G) 11 μ 148 [(0, .ref (G.1 0)), (1, .int x1), (2, .int x2), (3, .int x3), (4, .int x4), (5, .int x5), (6, .int x6), (7, .int x7), (8, .int x8), (9, .int x9), (10, .int x10)] [.int t0, .int t1, .ref (G.1 5)] := by
  unfold g_X4_nestlings_148 at hf
  obtain ⟨h30, hf⟩ := ck_e hf
  refine zMs_5 C dX4_nestlings_148 h30 ?_
  refine z_mem (fun μ31 eμ31 => ?_)
  replace hf := nm_e2 hf μ31 eμ31
  refine z_aload_n C 0 dX4_nestlings_149 rfl ?_
  refine zg_X4_25_0 C dX4_nestlings_150 ?_
  refine z_iload C 9 dX4_nestlings_153 rfl ?_
  refine z_iload C 10 dX4_nestlings_155 rfl ?_
  refine z_if_eq C 165 dX4_nestlings_157 (by decide) (fun c32 => ?_) (fun c32 => ?_)
  · replace hf := it_t hf c32
    refine z_aload_n C 0 dX4_nestlings_165 rfl ?_
    refine zg_X4_25_0 C dX4_nestlings_166 ?_
    refine z_iload C 9 dX4_nestlings_169 rfl ?_
    obtain ⟨h33, hf⟩ := ck_e hf
    refine zMl_6 C dX4_nestlings_171 h33 ?_
    refine z_lv C [0, 1, 2, 3, 4, 5, 6, 7, 8, 9] (lv' := [(0, .ref (G.1 0)), (1, .int x1), (2, .int x2), (3, .int x3), (4, .int x4), (5, .int x5), (6, .int x6), (7, .int x7), (8, .int x8), (9, .int x9)]) rfl ?_
    exact zj_X4_nestlings_172 μ31 x1 x2 x3 x4 x5 x6 x7 x8 x9 ((μ31.1 6 (x9).toNatClampNeg)) x9 C hR ih71 hih71 ih94 hih94 hf
  · replace hf := it_f hf c32
    refine z_bipush C dX4_nestlings_160 (v := (7 : Int32)) (by decide) ?_
    refine z_goto C 172 dX4_nestlings_162 (by decide) ?_
    refine z_lv C [0, 1, 2, 3, 4, 5, 6, 7, 8, 9] (lv' := [(0, .ref (G.1 0)), (1, .int x1), (2, .int x2), (3, .int x3), (4, .int x4), (5, .int x5), (6, .int x6), (7, .int x7), (8, .int x8), (9, .int x9)]) rfl ?_
    exact zj_X4_nestlings_172 μ31 x1 x2 x3 x4 x5 x6 x7 x8 x9 (7 : Int32) x9 C hR ih71 hih71 ih94 hih94 hf
noncomputable def g_X4_nestlings_118 (μ : MM) (x1 : Int32) (x2 : Int32) (x3 : Int32) (x4 : Int32) (x5 : Int32) (x6 : Int32) (x7 : Int32) (x8 : Int32) (x9 : Int32) (t0 : Int32) (ih71 : MM × Int32 × Int32 × Int32 → Option (MM × Int32)) (ih94 : MM × Int32 → Option (MM × Int32)) : Option (MM × Int32) :=
 (if t0 = 0 then
 (ck (vp_in x9 6) <|
 g_X4_nestlings_148 μ x1 x2 x3 x4 x5 x6 x7 x8 x9 t0 ((μ.1 5 (x9).toNatClampNeg)) x9 ih71 ih94)
 else
 g_X4_nestlings_148 μ x1 x2 x3 x4 x5 x6 x7 x8 x9 t0 (((x8 >>> (x9 &&& 31)) &&& (1 : Int32))) x9 ih71 ih94)
set_option maxHeartbeats 4000000 in
theorem zj_X4_nestlings_118 {X : ZX} {G : GW} {μ' : MM} {r : Int32} (μ : MM) (x1 : Int32) (x2 : Int32) (x3 : Int32) (x4 : Int32) (x5 : Int32) (x6 : Int32) (x7 : Int32) (x8 : Int32) (x9 : Int32) (t0 : Int32) (C : CX X (YM G) cX4_nestlings 11 RX4 { frames := 2, cells := 0, slots := 0, locals := 51 }) (hR : ZR X (YM G) (some .int) μ' (some (.int r))) (ih71 : MM × Int32 × Int32 × Int32 → Option (MM × Int32)) (hih71 : ∀ σ, ih71 σ = some (μ', r) → Z X (YM G) 11 σ.1 71 [(0, .ref (G.1 0)), (1, .int x1), (2, .int x2), (3, .int x3), (4, .int x4), (5, .int x5), (6, .int σ.2.1), (7, .int σ.2.2.1), (8, .int σ.2.2.2)] []) (ih94 : MM × Int32 → Option (MM × Int32)) (hih94 : ∀ σ, ih94 σ = some (μ', r) → Z X (YM G) 11 σ.1 94 [(0, .ref (G.1 0)), (1, .int x1), (2, .int x2), (3, .int x3), (4, .int x4), (5, .int x5), (6, .int x6), (7, .int x7), (8, .int x8), (9, .int σ.2)] []) (hf : g_X4_nestlings_118 μ x1 x2 x3 x4 x5 x6 x7 x8 x9 t0 ih71 ih94 = some (μ', r)) : Z X (YM G) 11 μ 118 [(0, .ref (G.1 0)), (1, .int x1), (2, .int x2), (3, .int x3), (4, .int x4), (5, .int x5), (6, .int x6), (7, .int x7), (8, .int x8), (9, .int x9)] [.int t0] := by
  unfold g_X4_nestlings_118 at hf
  refine z_istore C dX4_nestlings_118 (i := 10) (lv' := [(10, .int t0), (0, .ref (G.1 0)), (1, .int x1), (2, .int x2), (3, .int x3), (4, .int x4), (5, .int x5), (6, .int x6), (7, .int x7), (8, .int x8), (9, .int x9)]) (by decide) rfl ?_
  refine z_aload_n C 1 dX4_nestlings_120 rfl ?_
  refine zg_X4_22_0 C dX4_nestlings_121 ?_
  refine z_iload C 10 dX4_nestlings_124 rfl ?_
  refine z_iload C 0 dX4_nestlings_126 rfl ?_
  refine z_if_eq C 141 dX4_nestlings_128 (by decide) (fun c28 => ?_) (fun c28 => ?_)
  · replace hf := it_t hf c28
    refine z_aload_n C 1 dX4_nestlings_141 rfl ?_
    refine zg_X4_22_0 C dX4_nestlings_142 ?_
    refine z_iload C 10 dX4_nestlings_145 rfl ?_
    obtain ⟨h29, hf⟩ := ck_e hf
    refine zMl_5 C dX4_nestlings_147 h29 ?_
    refine z_lv C [1, 2, 3, 4, 5, 6, 7, 8, 9, 10, 0] (lv' := [(0, .ref (G.1 0)), (1, .int x1), (2, .int x2), (3, .int x3), (4, .int x4), (5, .int x5), (6, .int x6), (7, .int x7), (8, .int x8), (9, .int x9), (10, .int t0)]) rfl ?_
    exact zj_X4_nestlings_148 μ x1 x2 x3 x4 x5 x6 x7 x8 x9 t0 ((μ.1 5 (x9).toNatClampNeg)) x9 C hR ih71 hih71 ih94 hih94 hf
  · replace hf := it_f hf c28
    refine z_iload C 9 dX4_nestlings_131 rfl ?_
    refine z_iload C 10 dX4_nestlings_133 rfl ?_
    refine z_ishr C dX4_nestlings_135 ?_
    refine z_iconst C dX4_nestlings_136 (v := (1 : Int32)) (by decide) ?_
    refine z_iand C dX4_nestlings_137 ?_
    refine z_goto C 148 dX4_nestlings_138 (by decide) ?_
    refine z_lv C [1, 2, 3, 4, 5, 6, 7, 8, 9, 10, 0] (lv' := [(0, .ref (G.1 0)), (1, .int x1), (2, .int x2), (3, .int x3), (4, .int x4), (5, .int x5), (6, .int x6), (7, .int x7), (8, .int x8), (9, .int x9), (10, .int t0)]) rfl ?_
    exact zj_X4_nestlings_148 μ x1 x2 x3 x4 x5 x6 x7 x8 x9 t0 (((x8 >>> (x9 &&& 31)) &&& (1 : Int32))) x9 C hR ih71 hih71 ih94 hih94 hf
noncomputable def b_X4_nestlings_94 (x1 : Int32) (x2 : Int32) (x3 : Int32) (x4 : Int32) (x5 : Int32) (x6 : Int32) (x7 : Int32) (x8 : Int32) (ih71 : MM × Int32 × Int32 × Int32 → Option (MM × Int32)) (ih94 : MM × Int32 → Option (MM × Int32)) (μ : MM) (x9 : Int32) : Option (MM × Int32) :=
 (if (μ.1 0 6) ≤ x9 then
 g_X4_nestlings_179 μ x1 x2 x3 x4 x5 x6 x7 x8 ih71
 else
 (if ((x1 >>> (x9 &&& 31)) &&& (1 : Int32)) = (1 : Int32) then
 g_X4_nestlings_118 μ x1 x2 x3 x4 x5 x6 x7 x8 x9 (1 : Int32) ih71 ih94
 else
 g_X4_nestlings_118 μ x1 x2 x3 x4 x5 x6 x7 x8 x9 (0 : Int32) ih71 ih94))
set_option maxHeartbeats 4000000 in
theorem zl_X4_nestlings_94 {X : ZX} {G : GW} {μ' : MM} {r : Int32} (x1 : Int32) (x2 : Int32) (x3 : Int32) (x4 : Int32) (x5 : Int32) (x6 : Int32) (x7 : Int32) (x8 : Int32) (C : CX X (YM G) cX4_nestlings 11 RX4 { frames := 2, cells := 0, slots := 0, locals := 51 }) (hR : ZR X (YM G) (some .int) μ' (some (.int r))) (ih71 : MM × Int32 × Int32 × Int32 → Option (MM × Int32)) (hih71 : ∀ σ, ih71 σ = some (μ', r) → Z X (YM G) 11 σ.1 71 [(0, .ref (G.1 0)), (1, .int x1), (2, .int x2), (3, .int x3), (4, .int x4), (5, .int x5), (6, .int σ.2.1), (7, .int σ.2.2.1), (8, .int σ.2.2.2)] []) : ∀ (n : Nat) (σ : MM × Int32), lp (fun ih σ => b_X4_nestlings_94 x1 x2 x3 x4 x5 x6 x7 x8 ih71 ih σ.1 σ.2) n σ = some (μ', r) → Z X (YM G) 11 σ.1 94 [(0, .ref (G.1 0)), (1, .int x1), (2, .int x2), (3, .int x3), (4, .int x4), (5, .int x5), (6, .int x6), (7, .int x7), (8, .int x8), (9, .int σ.2)] [] := by
  refine lp_z (P := fun σ : MM × Int32 => Z X (YM G) 11 σ.1 94 [(0, .ref (G.1 0)), (1, .int x1), (2, .int x2), (3, .int x3), (4, .int x4), (5, .int x5), (6, .int x6), (7, .int x7), (8, .int x8), (9, .int σ.2)] []) (fun ih94 hih94 σ hf => ?_)
  obtain ⟨μ, x9⟩ := σ
  have hf : b_X4_nestlings_94 x1 x2 x3 x4 x5 x6 x7 x8 ih71 ih94 μ x9 = some (μ', r) := hf
  show Z X (YM G) 11 μ 94 [(0, .ref (G.1 0)), (1, .int x1), (2, .int x2), (3, .int x3), (4, .int x4), (5, .int x5), (6, .int x6), (7, .int x7), (8, .int x8), (9, .int x9)] []
  unfold b_X4_nestlings_94 at hf
  refine z_iload C 9 dX4_nestlings_94 rfl ?_
  refine z_aload_n C 0 dX4_nestlings_96 rfl ?_
  refine zg_X4_88_0 C dX4_nestlings_97 ?_
  refine z_icmp_ge C 179 dX4_nestlings_100 (by decide) (fun c22 => ?_) (fun c22 => ?_)
  · replace hf := it_t hf c22
    refine z_lv C [0, 1, 2, 3, 4, 5, 6, 7, 8] (lv' := [(0, .ref (G.1 0)), (1, .int x1), (2, .int x2), (3, .int x3), (4, .int x4), (5, .int x5), (6, .int x6), (7, .int x7), (8, .int x8)]) rfl ?_
    exact zj_X4_nestlings_179 μ x1 x2 x3 x4 x5 x6 x7 x8 C hR ih71 hih71 hf
  · replace hf := it_f hf c22
    refine z_iload_n C 1 dX4_nestlings_103 rfl ?_
    refine z_iload C 9 dX4_nestlings_104 rfl ?_
    refine z_ishr C dX4_nestlings_106 ?_
    refine z_iconst C dX4_nestlings_107 (v := (1 : Int32)) (by decide) ?_
    refine z_iand C dX4_nestlings_108 ?_
    refine z_iconst C dX4_nestlings_109 (v := (1 : Int32)) (by decide) ?_
    refine z_icmp_ne C 117 dX4_nestlings_110 (by decide) (fun c27 => ?_) (fun c27 => ?_)
    · replace hf := it_f hf c27
      refine z_iconst C dX4_nestlings_117 (v := (0 : Int32)) (by decide) ?_
      exact zj_X4_nestlings_118 μ x1 x2 x3 x4 x5 x6 x7 x8 x9 (0 : Int32) C hR ih71 hih71 ih94 hih94 hf
    · replace hf := it_t hf c27
      refine z_iconst C dX4_nestlings_113 (v := (1 : Int32)) (by decide) ?_
      refine z_goto C 118 dX4_nestlings_114 (by decide) ?_
      exact zj_X4_nestlings_118 μ x1 x2 x3 x4 x5 x6 x7 x8 x9 (1 : Int32) C hR ih71 hih71 ih94 hih94 hf
noncomputable def b_X4_nestlings_71 (x1 : Int32) (x2 : Int32) (x3 : Int32) (x4 : Int32) (x5 : Int32) (ih71 : MM × Int32 × Int32 × Int32 → Option (MM × Int32)) (μ : MM) (x6 : Int32) (x7 : Int32) (x8 : Int32) : Option (MM × Int32) :=
 (if ((1 : Int32) <<< ((μ.1 0 6) &&& 31)) ≤ x8 then
 g_X4_nestlings_213 μ x5 x6 x7
 else
 (if (x8 &&& (x1 ^^^ (-1 : Int32))) = 0 then
 lp (fun ih σ => b_X4_nestlings_94 x1 x2 x3 x4 x5 x6 x7 x8 ih71 ih σ.1 σ.2) fu (μ, (0 : Int32))
 else
 g_X4_nestlings_207 μ x1 x2 x3 x4 x5 x6 x7 x8 ih71))
set_option maxHeartbeats 4000000 in
theorem zl_X4_nestlings_71 {X : ZX} {G : GW} {μ' : MM} {r : Int32} (x1 : Int32) (x2 : Int32) (x3 : Int32) (x4 : Int32) (x5 : Int32) (C : CX X (YM G) cX4_nestlings 11 RX4 { frames := 2, cells := 0, slots := 0, locals := 51 }) (hR : ZR X (YM G) (some .int) μ' (some (.int r))) : ∀ (n : Nat) (σ : MM × Int32 × Int32 × Int32), lp (fun ih σ => b_X4_nestlings_71 x1 x2 x3 x4 x5 ih σ.1 σ.2.1 σ.2.2.1 σ.2.2.2) n σ = some (μ', r) → Z X (YM G) 11 σ.1 71 [(0, .ref (G.1 0)), (1, .int x1), (2, .int x2), (3, .int x3), (4, .int x4), (5, .int x5), (6, .int σ.2.1), (7, .int σ.2.2.1), (8, .int σ.2.2.2)] [] := by
  refine lp_z (P := fun σ : MM × Int32 × Int32 × Int32 => Z X (YM G) 11 σ.1 71 [(0, .ref (G.1 0)), (1, .int x1), (2, .int x2), (3, .int x3), (4, .int x4), (5, .int x5), (6, .int σ.2.1), (7, .int σ.2.2.1), (8, .int σ.2.2.2)] []) (fun ih71 hih71 σ hf => ?_)
  obtain ⟨μ, x6, x7, x8⟩ := σ
  have hf : b_X4_nestlings_71 x1 x2 x3 x4 x5 ih71 μ x6 x7 x8 = some (μ', r) := hf
  show Z X (YM G) 11 μ 71 [(0, .ref (G.1 0)), (1, .int x1), (2, .int x2), (3, .int x3), (4, .int x4), (5, .int x5), (6, .int x6), (7, .int x7), (8, .int x8)] []
  unfold b_X4_nestlings_71 at hf
  refine z_iload C 8 dX4_nestlings_71 rfl ?_
  refine z_iconst C dX4_nestlings_73 (v := (1 : Int32)) (by decide) ?_
  refine z_aload_n C 0 dX4_nestlings_74 rfl ?_
  refine zg_X4_88_0 C dX4_nestlings_75 ?_
  refine z_ishl C dX4_nestlings_78 ?_
  refine z_icmp_ge C 213 dX4_nestlings_79 (by decide) (fun c18 => ?_) (fun c18 => ?_)
  · replace hf := it_t hf c18
    refine z_lv C [5, 6, 7] (lv' := [(5, .int x5), (6, .int x6), (7, .int x7)]) rfl ?_
    exact zj_X4_nestlings_213 μ x5 x6 x7 C hR hf
  · replace hf := it_f hf c18
    refine z_iload C 8 dX4_nestlings_82 rfl ?_
    refine z_iload_n C 1 dX4_nestlings_84 rfl ?_
    refine z_iconst C dX4_nestlings_85 (v := (-1 : Int32)) (by decide) ?_
    refine z_ixor C dX4_nestlings_86 ?_
    refine z_iand C dX4_nestlings_87 ?_
    refine z_if_ne C 207 dX4_nestlings_88 (by decide) (fun c21 => ?_) (fun c21 => ?_)
    · replace hf := it_f hf c21
      exact zj_X4_nestlings_207 μ x1 x2 x3 x4 x5 x6 x7 x8 C hR ih71 hih71 hf
    · replace hf := it_t hf c21
      refine z_iconst C dX4_nestlings_91 (v := (0 : Int32)) (by decide) ?_
      refine z_istore C dX4_nestlings_92 (i := 9) (lv' := [(9, .int (0 : Int32)), (0, .ref (G.1 0)), (1, .int x1), (2, .int x2), (3, .int x3), (4, .int x4), (5, .int x5), (6, .int x6), (7, .int x7), (8, .int x8)]) (by decide) rfl ?_
      refine z_lv C [1, 2, 3, 4, 5, 6, 7, 8, 9, 0] (lv' := [(0, .ref (G.1 0)), (1, .int x1), (2, .int x2), (3, .int x3), (4, .int x4), (5, .int x5), (6, .int x6), (7, .int x7), (8, .int x8), (9, .int (0 : Int32))]) rfl ?_
      exact zl_X4_nestlings_94 x1 x2 x3 x4 x5 x6 x7 x8 C hR ih71 hih71 fu (μ, (0 : Int32)) hf
noncomputable def f_X4_nestlings (μ : MM) (x1 : Int32) (x2 : Int32) (x3 : Int32) (x4 : Int32) (x5 : Int32) : Option (MM × Int32) :=
 (nm (f_X4_isRook μ x2) fun v2 : Int32 =>
 (if v2 = 0 then
 (some (μ, (-101 : Int32)))
 else
 (nm (f_X4_in μ (x1).toInt64 (0 : Int64) ((((1 : Int32) <<< ((μ.1 0 6) &&& 31)) - (1 : Int32))).toInt64) fun v5 : Int32 =>
 (if v5 = 0 then
 (some (μ, (-102 : Int32)))
 else
 (nm (f_X4_isWord μ x3) fun v8 : Int32 =>
 (if v8 = 0 then
 (some (μ, (-102 : Int32)))
 else
 (nm (f_X4_isWord μ x4) fun v11 : Int32 =>
 (if v11 = 0 then
 (some (μ, (-102 : Int32)))
 else
 (nm (f_X4_in μ (x5).toInt64 (0 : Int64) (1 : Int64)) fun v14 : Int32 =>
 (if v14 = 0 then
 (some (μ, (-102 : Int32)))
 else
 (bd (f_X4_asTheySit μ) fun μ17 =>
 lp (fun ih σ => b_X4_nestlings_71 x1 x2 x3 x4 x5 ih σ.1 σ.2.1 σ.2.2.1 σ.2.2.2) fu (μ17, (0 : Int32), (0 : Int32), (0 : Int32)))))))))))))
set_option maxHeartbeats 4000000 in
theorem c_X4_nestlings {l : Launch} {G : GW} {μ : MM} {x1 : Int32} {x2 : Int32} {x3 : Int32} {x4 : Int32} {x5 : Int32} {μ' : MM} {r : Int32} (hf : f_X4_nestlings μ x1 x2 x3 x4 x5 = some (μ', r)) : MZ l (YM G) yX4_nestlings cX4_nestlings 11 (some .int) { frames := 2, cells := 0, slots := 0, locals := 51 } [.ref (G.1 0), .int x1, .int x2, .int x3, .int x4, .int x5] μ μ' (some (.int r)) := by
  refine z_met RX4 rfl (by decide) (Nat.le_of_ble_eq_true rfl) (fun X hX C hR => ?_)
  show Z X (YM G) 11 μ 0 [(0, .ref (G.1 0)), (1, .int x1), (2, .int x2), (3, .int x3), (4, .int x4), (5, .int x5)] []
  unfold f_X4_nestlings at hf
  refine z_aload_n C 0 dX4_nestlings_0 rfl ?_
  refine z_iload_n C 2 dX4_nestlings_1 rfl ?_
  obtain ⟨v2, h1⟩ : ∃ z, z = f_X4_isRook μ x2 := ⟨_, rfl⟩
  replace hf := nm_e2 hf v2 h1
  refine z_callVi C (As := [.int x2]) (rest := []) (c_X4_isRook h1.symm) vw_X4_113 ⟨rfl, rfl, by decide, by decide⟩ (z_rv C (q0 := 0) (ci := 4) rfl rfl rfl) rfl (Nat.le_of_ble_eq_true rfl) dX4_nestlings_2 ?_
  refine z_if_ne C 11 dX4_nestlings_5 (by decide) (fun c3 => ?_) (fun c3 => ?_)
  · replace hf := it_f hf c3
    refine z_iload_n C 1 dX4_nestlings_11 rfl ?_
    refine z_i2l C dX4_nestlings_12 ?_
    refine z_lconst C dX4_nestlings_13 (v := (0 : Int64)) (by decide) ?_
    refine z_iconst C dX4_nestlings_14 (v := (1 : Int32)) (by decide) ?_
    refine z_aload_n C 0 dX4_nestlings_15 rfl ?_
    refine zg_X4_88_0 C dX4_nestlings_16 ?_
    refine z_ishl C dX4_nestlings_19 ?_
    refine z_iconst C dX4_nestlings_20 (v := (1 : Int32)) (by decide) ?_
    refine z_isub C dX4_nestlings_21 ?_
    refine z_i2l C dX4_nestlings_22 ?_
    obtain ⟨v5, h4⟩ : ∃ z, z = f_X4_in μ (x1).toInt64 (0 : Int64) ((((1 : Int32) <<< ((μ.1 0 6) &&& 31)) - (1 : Int32))).toInt64 := ⟨_, rfl⟩
    replace hf := nm_e2 hf v5 h4
    refine z_callSi C (As := [.long (x1).toInt64, .long (0 : Int64), .long ((((1 : Int32) <<< ((μ.1 0 6) &&& 31)) - (1 : Int32))).toInt64]) (rest := []) (c_X4_in h4.symm) sw_X4_58 ⟨rfl, rfl, by decide, by decide⟩ rfl (Nat.le_of_ble_eq_true rfl) dX4_nestlings_23 ?_
    refine z_if_eq C 55 dX4_nestlings_26 (by decide) (fun c6 => ?_) (fun c6 => ?_)
    · replace hf := it_t hf c6
      refine z_bipush C dX4_nestlings_55 (v := (-102 : Int32)) (by decide) ?_
      exact z_iret C hR dX4_nestlings_57 (rt2 hf).1 (rt2 hf).2
    · replace hf := it_f hf c6
      refine z_iload_n C 3 dX4_nestlings_29 rfl ?_
      obtain ⟨v8, h7⟩ : ∃ z, z = f_X4_isWord μ x3 := ⟨_, rfl⟩
      replace hf := nm_e2 hf v8 h7
      refine z_callSi C (As := [.int x3]) (rest := []) (c_X4_isWord h7.symm) sw_X4_126 ⟨rfl, rfl, by decide, by decide⟩ rfl (Nat.le_of_ble_eq_true rfl) dX4_nestlings_30 ?_
      refine z_if_eq C 55 dX4_nestlings_33 (by decide) (fun c9 => ?_) (fun c9 => ?_)
      · replace hf := it_t hf c9
        refine z_bipush C dX4_nestlings_55 (v := (-102 : Int32)) (by decide) ?_
        exact z_iret C hR dX4_nestlings_57 (rt2 hf).1 (rt2 hf).2
      · replace hf := it_f hf c9
        refine z_iload C 4 dX4_nestlings_36 rfl ?_
        obtain ⟨v11, h10⟩ : ∃ z, z = f_X4_isWord μ x4 := ⟨_, rfl⟩
        replace hf := nm_e2 hf v11 h10
        refine z_callSi C (As := [.int x4]) (rest := []) (c_X4_isWord h10.symm) sw_X4_126 ⟨rfl, rfl, by decide, by decide⟩ rfl (Nat.le_of_ble_eq_true rfl) dX4_nestlings_38 ?_
        refine z_if_eq C 55 dX4_nestlings_41 (by decide) (fun c12 => ?_) (fun c12 => ?_)
        · replace hf := it_t hf c12
          refine z_bipush C dX4_nestlings_55 (v := (-102 : Int32)) (by decide) ?_
          exact z_iret C hR dX4_nestlings_57 (rt2 hf).1 (rt2 hf).2
        · replace hf := it_f hf c12
          refine z_iload C 5 dX4_nestlings_44 rfl ?_
          refine z_i2l C dX4_nestlings_46 ?_
          refine z_lconst C dX4_nestlings_47 (v := (0 : Int64)) (by decide) ?_
          refine z_lconst C dX4_nestlings_48 (v := (1 : Int64)) (by decide) ?_
          obtain ⟨v14, h13⟩ : ∃ z, z = f_X4_in μ (x5).toInt64 (0 : Int64) (1 : Int64) := ⟨_, rfl⟩
          replace hf := nm_e2 hf v14 h13
          refine z_callSi C (As := [.long (x5).toInt64, .long (0 : Int64), .long (1 : Int64)]) (rest := []) (c_X4_in h13.symm) sw_X4_58 ⟨rfl, rfl, by decide, by decide⟩ rfl (Nat.le_of_ble_eq_true rfl) dX4_nestlings_49 ?_
          refine z_if_ne C 58 dX4_nestlings_52 (by decide) (fun c15 => ?_) (fun c15 => ?_)
          · replace hf := it_f hf c15
            refine z_aload_n C 0 dX4_nestlings_58 rfl ?_
            obtain ⟨μ17, h16, hf⟩ := bd_e hf
            refine z_callVv C (As := []) (rest := []) (c_X4_asTheySit h16) vw_X4_129 ⟨rfl, rfl, by decide, by decide⟩ (z_rv C (q0 := 0) (ci := 4) rfl rfl rfl) rfl (Nat.le_of_ble_eq_true rfl) dX4_nestlings_59 ?_
            refine z_iconst C dX4_nestlings_62 (v := (0 : Int32)) (by decide) ?_
            refine z_istore C dX4_nestlings_63 (i := 6) (lv' := [(6, .int (0 : Int32)), (0, .ref (G.1 0)), (1, .int x1), (2, .int x2), (3, .int x3), (4, .int x4), (5, .int x5)]) (by decide) rfl ?_
            refine z_iconst C dX4_nestlings_65 (v := (0 : Int32)) (by decide) ?_
            refine z_istore C dX4_nestlings_66 (i := 7) (lv' := [(7, .int (0 : Int32)), (6, .int (0 : Int32)), (0, .ref (G.1 0)), (1, .int x1), (2, .int x2), (3, .int x3), (4, .int x4), (5, .int x5)]) (by decide) rfl ?_
            refine z_iconst C dX4_nestlings_68 (v := (0 : Int32)) (by decide) ?_
            refine z_istore C dX4_nestlings_69 (i := 8) (lv' := [(8, .int (0 : Int32)), (7, .int (0 : Int32)), (6, .int (0 : Int32)), (0, .ref (G.1 0)), (1, .int x1), (2, .int x2), (3, .int x3), (4, .int x4), (5, .int x5)]) (by decide) rfl ?_
            refine z_lv C [3, 4, 5, 6, 7, 8, 2, 1, 0] (lv' := [(0, .ref (G.1 0)), (1, .int x1), (2, .int x2), (3, .int x3), (4, .int x4), (5, .int x5), (6, .int (0 : Int32)), (7, .int (0 : Int32)), (8, .int (0 : Int32))]) rfl ?_
            exact zl_X4_nestlings_71 x1 x2 x3 x4 x5 C hR fu (μ17, (0 : Int32), (0 : Int32), (0 : Int32)) hf
          · replace hf := it_t hf c15
            refine z_bipush C dX4_nestlings_55 (v := (-102 : Int32)) (by decide) ?_
            exact z_iret C hR dX4_nestlings_57 (rt2 hf).1 (rt2 hf).2
  · replace hf := it_t hf c3
    refine z_bipush C dX4_nestlings_8 (v := (-101 : Int32)) (by decide) ?_
    exact z_iret C hR dX4_nestlings_10 (rt2 hf).1 (rt2 hf).2
noncomputable def f_X4_observe (μ : MM) (x1 : Int32) (x2 : Int32) (x3 : Int32) : Option (MM × Int32) :=
 (nm (f_X4_isRook μ x1) fun v2 : Int32 =>
 (if v2 = 0 then
 (some (μ, (-101 : Int32)))
 else
 (nm (f_X4_isWord μ x2) fun v5 : Int32 =>
 (if v5 = 0 then
 (some (μ, (-102 : Int32)))
 else
 (nm (f_X4_isWord μ x3) fun v8 : Int32 =>
 (if v8 = 0 then
 (some (μ, (-102 : Int32)))
 else
 (if (μ.1 0 18) = (8 : Int32) then
 (some (μ, (-104 : Int32)))
 else
 (ck (vp_in ((3 : Int32) * (μ.1 0 18)) 24) <|
 (nm (upM μ 9 (((3 : Int32) * (μ.1 0 18))).toNatClampNeg x1) fun μ12 : MM =>
 (ck (vp_in (((3 : Int32) * (μ12.1 0 18)) + (1 : Int32)) 24) <|
 (nm (upM μ12 9 ((((3 : Int32) * (μ12.1 0 18)) + (1 : Int32))).toNatClampNeg x2) fun μ14 : MM =>
 (ck (vp_in (((3 : Int32) * (μ14.1 0 18)) + (2 : Int32)) 24) <|
 (nm (upM μ14 9 ((((3 : Int32) * (μ14.1 0 18)) + (2 : Int32))).toNatClampNeg x3) fun μ16 : MM =>
 (nm (((μ16.1 0 18) + (1 : Int32))) fun v17 : Int32 =>
 (nm (upM μ16 0 18 v17) fun μ18 : MM =>
 (some (μ18, (μ18.1 0 18))))))))))))))))))
set_option maxHeartbeats 4000000 in
theorem c_X4_observe {l : Launch} {G : GW} {μ : MM} {x1 : Int32} {x2 : Int32} {x3 : Int32} {μ' : MM} {r : Int32} (hf : f_X4_observe μ x1 x2 x3 = some (μ', r)) : MZ l (YM G) yX4_observe cX4_observe 4 (some .int) { frames := 2, cells := 0, slots := 0, locals := 46 } [.ref (G.1 0), .int x1, .int x2, .int x3] μ μ' (some (.int r)) := by
  refine z_met RX4 rfl (by decide) (Nat.le_of_ble_eq_true rfl) (fun X hX C hR => ?_)
  show Z X (YM G) 4 μ 0 [(0, .ref (G.1 0)), (1, .int x1), (2, .int x2), (3, .int x3)] []
  unfold f_X4_observe at hf
  refine z_aload_n C 0 dX4_observe_0 rfl ?_
  refine z_iload_n C 1 dX4_observe_1 rfl ?_
  obtain ⟨v2, h1⟩ : ∃ z, z = f_X4_isRook μ x1 := ⟨_, rfl⟩
  replace hf := nm_e2 hf v2 h1
  refine z_callVi C (As := [.int x1]) (rest := []) (c_X4_isRook h1.symm) vw_X4_113 ⟨rfl, rfl, by decide, by decide⟩ (z_rv C (q0 := 0) (ci := 4) rfl rfl rfl) rfl (Nat.le_of_ble_eq_true rfl) dX4_observe_2 ?_
  refine z_if_ne C 11 dX4_observe_5 (by decide) (fun c3 => ?_) (fun c3 => ?_)
  · replace hf := it_f hf c3
    refine z_iload_n C 2 dX4_observe_11 rfl ?_
    obtain ⟨v5, h4⟩ : ∃ z, z = f_X4_isWord μ x2 := ⟨_, rfl⟩
    replace hf := nm_e2 hf v5 h4
    refine z_callSi C (As := [.int x2]) (rest := []) (c_X4_isWord h4.symm) sw_X4_126 ⟨rfl, rfl, by decide, by decide⟩ rfl (Nat.le_of_ble_eq_true rfl) dX4_observe_12 ?_
    refine z_if_eq C 25 dX4_observe_15 (by decide) (fun c6 => ?_) (fun c6 => ?_)
    · replace hf := it_t hf c6
      refine z_bipush C dX4_observe_25 (v := (-102 : Int32)) (by decide) ?_
      exact z_iret C hR dX4_observe_27 (rt2 hf).1 (rt2 hf).2
    · replace hf := it_f hf c6
      refine z_iload_n C 3 dX4_observe_18 rfl ?_
      obtain ⟨v8, h7⟩ : ∃ z, z = f_X4_isWord μ x3 := ⟨_, rfl⟩
      replace hf := nm_e2 hf v8 h7
      refine z_callSi C (As := [.int x3]) (rest := []) (c_X4_isWord h7.symm) sw_X4_126 ⟨rfl, rfl, by decide, by decide⟩ rfl (Nat.le_of_ble_eq_true rfl) dX4_observe_19 ?_
      refine z_if_ne C 28 dX4_observe_22 (by decide) (fun c9 => ?_) (fun c9 => ?_)
      · replace hf := it_f hf c9
        refine z_aload_n C 0 dX4_observe_28 rfl ?_
        refine zg_X4_97_0 C dX4_observe_29 ?_
        refine z_bipush C dX4_observe_32 (v := (8 : Int32)) (by decide) ?_
        refine z_icmp_ne C 40 dX4_observe_34 (by decide) (fun c10 => ?_) (fun c10 => ?_)
        · replace hf := it_f hf c10
          refine z_aload_n C 0 dX4_observe_40 rfl ?_
          refine zg_X4_34_0 C dX4_observe_41 ?_
          refine z_iconst C dX4_observe_44 (v := (3 : Int32)) (by decide) ?_
          refine z_aload_n C 0 dX4_observe_45 rfl ?_
          refine zg_X4_97_0 C dX4_observe_46 ?_
          refine z_imul C dX4_observe_49 ?_
          refine z_iload_n C 1 dX4_observe_50 rfl ?_
          obtain ⟨h11, hf⟩ := ck_e hf
          refine zMs_9 C dX4_observe_51 h11 ?_
          refine z_mem (fun μ12 eμ12 => ?_)
          replace hf := nm_e2 hf μ12 eμ12
          refine z_aload_n C 0 dX4_observe_52 rfl ?_
          refine zg_X4_34_0 C dX4_observe_53 ?_
          refine z_iconst C dX4_observe_56 (v := (3 : Int32)) (by decide) ?_
          refine z_aload_n C 0 dX4_observe_57 rfl ?_
          refine zg_X4_97_0 C dX4_observe_58 ?_
          refine z_imul C dX4_observe_61 ?_
          refine z_iconst C dX4_observe_62 (v := (1 : Int32)) (by decide) ?_
          refine z_iadd C dX4_observe_63 ?_
          refine z_iload_n C 2 dX4_observe_64 rfl ?_
          obtain ⟨h13, hf⟩ := ck_e hf
          refine zMs_9 C dX4_observe_65 h13 ?_
          refine z_mem (fun μ14 eμ14 => ?_)
          replace hf := nm_e2 hf μ14 eμ14
          refine z_aload_n C 0 dX4_observe_66 rfl ?_
          refine zg_X4_34_0 C dX4_observe_67 ?_
          refine z_iconst C dX4_observe_70 (v := (3 : Int32)) (by decide) ?_
          refine z_aload_n C 0 dX4_observe_71 rfl ?_
          refine zg_X4_97_0 C dX4_observe_72 ?_
          refine z_imul C dX4_observe_75 ?_
          refine z_iconst C dX4_observe_76 (v := (2 : Int32)) (by decide) ?_
          refine z_iadd C dX4_observe_77 ?_
          refine z_iload_n C 3 dX4_observe_78 rfl ?_
          obtain ⟨h15, hf⟩ := ck_e hf
          refine zMs_9 C dX4_observe_79 h15 ?_
          refine z_mem (fun μ16 eμ16 => ?_)
          replace hf := nm_e2 hf μ16 eμ16
          refine z_aload_n C 0 dX4_observe_80 rfl ?_
          refine z_dup C dX4_observe_81 rfl ?_
          refine zg_X4_97_0 C dX4_observe_82 ?_
          refine z_iconst C dX4_observe_85 (v := (1 : Int32)) (by decide) ?_
          refine z_iadd C dX4_observe_86 ?_
          refine z_topi (fun v17 ev17 => ?_)
          replace hf := nm_e2 hf v17 ev17
          refine zp_X4_97_0 C dX4_observe_87 ?_
          refine z_mem (fun μ18 eμ18 => ?_)
          replace hf := nm_e2 hf μ18 eμ18
          refine z_aload_n C 0 dX4_observe_90 rfl ?_
          refine zg_X4_97_0 C dX4_observe_91 ?_
          exact z_iret C hR dX4_observe_94 (rt2 hf).1 (rt2 hf).2
        · replace hf := it_t hf c10
          refine z_bipush C dX4_observe_37 (v := (-104 : Int32)) (by decide) ?_
          exact z_iret C hR dX4_observe_39 (rt2 hf).1 (rt2 hf).2
      · replace hf := it_t hf c9
        refine z_bipush C dX4_observe_25 (v := (-102 : Int32)) (by decide) ?_
        exact z_iret C hR dX4_observe_27 (rt2 hf).1 (rt2 hf).2
  · replace hf := it_t hf c3
    refine z_bipush C dX4_observe_8 (v := (-101 : Int32)) (by decide) ?_
    exact z_iret C hR dX4_observe_10 (rt2 hf).1 (rt2 hf).2
noncomputable def f_X4_forget (μ : MM) : Option (MM × Int32) :=
 (nm ((μ.1 0 18)) fun v1 : Int32 =>
 (nm (upM μ 0 18 (0 : Int32)) fun μ2 : MM =>
 (some (μ2, v1))))
set_option maxHeartbeats 4000000 in
theorem c_X4_forget {l : Launch} {G : GW} {μ : MM} {μ' : MM} {r : Int32} (hf : f_X4_forget μ = some (μ', r)) : MZ l (YM G) yX4_forget cX4_forget 2 (some .int) { frames := 0, cells := 0, slots := 0, locals := 0 } [.ref (G.1 0)] μ μ' (some (.int r)) := by
  refine z_met RX4 rfl (by decide) (Nat.le_of_ble_eq_true rfl) (fun X hX C hR => ?_)
  show Z X (YM G) 2 μ 0 [(0, .ref (G.1 0))] []
  unfold f_X4_forget at hf
  refine z_aload_n C 0 dX4_forget_0 rfl ?_
  refine zg_X4_97_0 C dX4_forget_1 ?_
  refine z_topi (fun v1 ev1 => ?_)
  replace hf := nm_e2 hf v1 ev1
  refine z_istore_n C dX4_forget_4 (i := 1) (lv' := [(1, .int v1), (0, .ref (G.1 0))]) rfl (by decide) rfl ?_
  refine z_aload_n C 1 dX4_forget_5 rfl ?_
  refine z_iconst C dX4_forget_6 (v := (0 : Int32)) (by decide) ?_
  refine zp_X4_97_0 C dX4_forget_7 ?_
  refine z_mem (fun μ2 eμ2 => ?_)
  replace hf := nm_e2 hf μ2 eμ2
  refine z_iload_n C 0 dX4_forget_10 rfl ?_
  exact z_iret C hR dX4_forget_11 (rt2 hf).1 (rt2 hf).2
noncomputable def g_X4_isSeenBy_85 (μ : MM) (x4 : Int32) (t0 : Int32) (ih25 : Int32 × Int32 → Option (MM × Int32)) : Option (MM × Int32) :=
 ih25 (t0, (x4 + (1 : Int32)))
set_option maxHeartbeats 4000000 in
theorem zj_X4_isSeenBy_85 {X : ZX} {G : GW} {μ' : MM} {r : Int32} (μ : MM) (x4 : Int32) (t0 : Int32) (C : CX X (YM G) cX4_isSeenBy 5 RX4 { frames := 2, cells := 0, slots := 0, locals := 51 }) (hR : ZR X (YM G) (some .boolean) μ' (some (.int r))) (ih25 : Int32 × Int32 → Option (MM × Int32)) (hih25 : ∀ σ, ih25 σ = some (μ', r) → Z X (YM G) 5 μ 25 [(0, .ref (G.1 0)), (3, .int σ.1), (4, .int σ.2)] []) (hf : g_X4_isSeenBy_85 μ x4 t0 ih25 = some (μ', r)) : Z X (YM G) 5 μ 85 [(0, .ref (G.1 0)), (4, .int x4)] [.int t0] := by
  unfold g_X4_isSeenBy_85 at hf
  refine z_istore_n C dX4_isSeenBy_85 (i := 3) (lv' := [(3, .int t0), (0, .ref (G.1 0)), (4, .int x4)]) rfl (by decide) rfl ?_
  refine z_iinc C 2 dX4_isSeenBy_86 (v := (x4 + (1 : Int32))) (lv' := [(4, .int (x4 + (1 : Int32))), (3, .int t0), (0, .ref (G.1 0))]) rfl rfl (by decide) rfl ?_
  refine z_goto C 25 dX4_isSeenBy_89 (by decide) ?_
  refine z_lv C [2, 1, 0] (lv' := [(0, .ref (G.1 0)), (3, .int t0), (4, .int (x4 + (1 : Int32)))]) rfl ?_
  exact hih25 (t0, (x4 + (1 : Int32))) hf
noncomputable def g_X4_isSeenBy_84 (μ : MM) (x4 : Int32) (ih25 : Int32 × Int32 → Option (MM × Int32)) : Option (MM × Int32) :=
 g_X4_isSeenBy_85 μ x4 (0 : Int32) ih25
set_option maxHeartbeats 4000000 in
theorem zj_X4_isSeenBy_84 {X : ZX} {G : GW} {μ' : MM} {r : Int32} (μ : MM) (x4 : Int32) (C : CX X (YM G) cX4_isSeenBy 5 RX4 { frames := 2, cells := 0, slots := 0, locals := 51 }) (hR : ZR X (YM G) (some .boolean) μ' (some (.int r))) (ih25 : Int32 × Int32 → Option (MM × Int32)) (hih25 : ∀ σ, ih25 σ = some (μ', r) → Z X (YM G) 5 μ 25 [(0, .ref (G.1 0)), (3, .int σ.1), (4, .int σ.2)] []) (hf : g_X4_isSeenBy_84 μ x4 ih25 = some (μ', r)) : Z X (YM G) 5 μ 84 [(0, .ref (G.1 0)), (4, .int x4)] [] := by
  unfold g_X4_isSeenBy_84 at hf
  refine z_iconst C dX4_isSeenBy_84 (v := (0 : Int32)) (by decide) ?_
  exact zj_X4_isSeenBy_85 μ x4 (0 : Int32) C hR ih25 hih25 hf
noncomputable def b_X4_isSeenBy_25 (μ : MM) (ih25 : Int32 × Int32 → Option (MM × Int32)) (x3 : Int32) (x4 : Int32) : Option (MM × Int32) :=
 (if (μ.1 0 18) ≤ x4 then
 (ck (narrow .boolean (.int x3) = .int x3) <|
 (some (μ, x3)))
 else
 (if x3 = 0 then
 g_X4_isSeenBy_84 μ x4 ih25
 else
 (ck (vp_in ((3 : Int32) * x4) 24) <|
 (ck (vp_in (((3 : Int32) * x4) + (1 : Int32)) 24) <|
 (bd (f_X4_comesOf μ (μ.1 9 (((3 : Int32) * x4)).toNatClampNeg) (μ.1 9 ((((3 : Int32) * x4) + (1 : Int32))).toNatClampNeg) (μ.1 0 7)) fun v12 =>
 (ck (vp_in (((3 : Int32) * x4) + (2 : Int32)) 24) <|
 (if v12 = (μ.1 9 ((((3 : Int32) * x4) + (2 : Int32))).toNatClampNeg) then
 g_X4_isSeenBy_85 μ x4 (1 : Int32) ih25
 else
 g_X4_isSeenBy_84 μ x4 ih25)))))))
set_option maxHeartbeats 4000000 in
theorem zl_X4_isSeenBy_25 {X : ZX} {G : GW} {μ' : MM} {r : Int32} (μ : MM) (C : CX X (YM G) cX4_isSeenBy 5 RX4 { frames := 2, cells := 0, slots := 0, locals := 51 }) (hR : ZR X (YM G) (some .boolean) μ' (some (.int r))) : ∀ (n : Nat) (σ : Int32 × Int32), lp (fun ih σ => b_X4_isSeenBy_25 μ ih σ.1 σ.2) n σ = some (μ', r) → Z X (YM G) 5 μ 25 [(0, .ref (G.1 0)), (3, .int σ.1), (4, .int σ.2)] [] := by
  refine lp_z (P := fun σ : Int32 × Int32 => Z X (YM G) 5 μ 25 [(0, .ref (G.1 0)), (3, .int σ.1), (4, .int σ.2)] []) (fun ih25 hih25 σ hf => ?_)
  obtain ⟨x3, x4⟩ := σ
  have hf : b_X4_isSeenBy_25 μ ih25 x3 x4 = some (μ', r) := hf
  show Z X (YM G) 5 μ 25 [(0, .ref (G.1 0)), (3, .int x3), (4, .int x4)] []
  unfold b_X4_isSeenBy_25 at hf
  refine z_iload C 2 dX4_isSeenBy_25 rfl ?_
  refine z_aload_n C 0 dX4_isSeenBy_27 rfl ?_
  refine zg_X4_97_0 C dX4_isSeenBy_28 ?_
  refine z_icmp_ge C 92 dX4_isSeenBy_31 (by decide) (fun c6 => ?_) (fun c6 => ?_)
  · replace hf := it_t hf c6
    refine z_iload_n C 1 dX4_isSeenBy_92 rfl ?_
    obtain ⟨h7, hf⟩ := ck_e hf
    exact z_zret C hR dX4_isSeenBy_93 h7 (rt2 hf).1 (rt2 hf).2
  · replace hf := it_f hf c6
    refine z_iload_n C 1 dX4_isSeenBy_34 rfl ?_
    refine z_if_eq C 84 dX4_isSeenBy_35 (by decide) (fun c8 => ?_) (fun c8 => ?_)
    · replace hf := it_t hf c8
      refine z_lv C [0, 2] (lv' := [(0, .ref (G.1 0)), (4, .int x4)]) rfl ?_
      exact zj_X4_isSeenBy_84 μ x4 C hR ih25 hih25 hf
    · replace hf := it_f hf c8
      refine z_aload_n C 0 dX4_isSeenBy_38 rfl ?_
      refine z_aload_n C 0 dX4_isSeenBy_39 rfl ?_
      refine zg_X4_34_0 C dX4_isSeenBy_40 ?_
      refine z_iconst C dX4_isSeenBy_43 (v := (3 : Int32)) (by decide) ?_
      refine z_iload C 2 dX4_isSeenBy_44 rfl ?_
      refine z_imul C dX4_isSeenBy_46 ?_
      obtain ⟨h9, hf⟩ := ck_e hf
      refine zMl_9 C dX4_isSeenBy_47 h9 ?_
      refine z_aload_n C 0 dX4_isSeenBy_48 rfl ?_
      refine zg_X4_34_0 C dX4_isSeenBy_49 ?_
      refine z_iconst C dX4_isSeenBy_52 (v := (3 : Int32)) (by decide) ?_
      refine z_iload C 2 dX4_isSeenBy_53 rfl ?_
      refine z_imul C dX4_isSeenBy_55 ?_
      refine z_iconst C dX4_isSeenBy_56 (v := (1 : Int32)) (by decide) ?_
      refine z_iadd C dX4_isSeenBy_57 ?_
      obtain ⟨h10, hf⟩ := ck_e hf
      refine zMl_9 C dX4_isSeenBy_58 h10 ?_
      refine z_aload_n C 0 dX4_isSeenBy_59 rfl ?_
      refine zg_X4_91_0 C dX4_isSeenBy_60 ?_
      obtain ⟨v12, h11, hf⟩ := bd_e hf
      refine z_callVi C (As := [.int (μ.1 9 (((3 : Int32) * x4)).toNatClampNeg), .int (μ.1 9 ((((3 : Int32) * x4) + (1 : Int32))).toNatClampNeg), .int (μ.1 0 7)]) (rest := []) (c_X4_comesOf h11) vw_X4_132 ⟨rfl, rfl, by decide, by decide⟩ (z_rv C (q0 := 0) (ci := 4) rfl rfl rfl) rfl (Nat.le_of_ble_eq_true rfl) dX4_isSeenBy_63 ?_
      refine z_aload_n C 0 dX4_isSeenBy_66 rfl ?_
      refine zg_X4_34_0 C dX4_isSeenBy_67 ?_
      refine z_iconst C dX4_isSeenBy_70 (v := (3 : Int32)) (by decide) ?_
      refine z_iload C 2 dX4_isSeenBy_71 rfl ?_
      refine z_imul C dX4_isSeenBy_73 ?_
      refine z_iconst C dX4_isSeenBy_74 (v := (2 : Int32)) (by decide) ?_
      refine z_iadd C dX4_isSeenBy_75 ?_
      obtain ⟨h13, hf⟩ := ck_e hf
      refine zMl_9 C dX4_isSeenBy_76 h13 ?_
      refine z_icmp_ne C 84 dX4_isSeenBy_77 (by decide) (fun c14 => ?_) (fun c14 => ?_)
      · replace hf := it_f hf c14
        refine z_lv C [0, 2] (lv' := [(0, .ref (G.1 0)), (4, .int x4)]) rfl ?_
        exact zj_X4_isSeenBy_84 μ x4 C hR ih25 hih25 hf
      · replace hf := it_t hf c14
        refine z_iconst C dX4_isSeenBy_80 (v := (1 : Int32)) (by decide) ?_
        refine z_goto C 85 dX4_isSeenBy_81 (by decide) ?_
        refine z_lv C [0, 2] (lv' := [(0, .ref (G.1 0)), (4, .int x4)]) rfl ?_
        exact zj_X4_isSeenBy_85 μ x4 (1 : Int32) C hR ih25 hih25 hf
noncomputable def f_X4_isSeenBy (μ : MM) (x1 : Int32) (x2 : Int32) : Option (MM × Int32) :=
 (nm ((x2 / (8 : Int32))) fun v1 : Int32 =>
 (ck (vp_in x1 6) <|
 (nm (upM μ 5 (x1).toNatClampNeg v1) fun μ3 : MM =>
 (nm ((x2 - x2 / (8 : Int32) * (8 : Int32))) fun v4 : Int32 =>
 (nm (upM μ3 6 (x1).toNatClampNeg v4) fun μ5 : MM =>
 lp (fun ih σ => b_X4_isSeenBy_25 μ5 ih σ.1 σ.2) fu ((1 : Int32), (0 : Int32)))))))
set_option maxHeartbeats 4000000 in
theorem c_X4_isSeenBy {l : Launch} {G : GW} {μ : MM} {x1 : Int32} {x2 : Int32} {μ' : MM} {r : Int32} (hf : f_X4_isSeenBy μ x1 x2 = some (μ', r)) : MZ l (YM G) yX4_isSeenBy cX4_isSeenBy 5 (some .boolean) { frames := 2, cells := 0, slots := 0, locals := 51 } [.ref (G.1 0), .int x1, .int x2] μ μ' (some (.int r)) := by
  refine z_met RX4 rfl (by decide) (Nat.le_of_ble_eq_true rfl) (fun X hX C hR => ?_)
  show Z X (YM G) 5 μ 0 [(0, .ref (G.1 0)), (1, .int x1), (2, .int x2)] []
  unfold f_X4_isSeenBy at hf
  refine z_aload_n C 0 dX4_isSeenBy_0 rfl ?_
  refine zg_X4_22_0 C dX4_isSeenBy_1 ?_
  refine z_iload_n C 1 dX4_isSeenBy_4 rfl ?_
  refine z_iload_n C 2 dX4_isSeenBy_5 rfl ?_
  refine z_bipush C dX4_isSeenBy_6 (v := (8 : Int32)) (by decide) ?_
  refine z_idiv C dX4_isSeenBy_8 (by decide) ?_
  refine z_topi (fun v1 ev1 => ?_)
  replace hf := nm_e2 hf v1 ev1
  obtain ⟨h2, hf⟩ := ck_e hf
  refine zMs_5 C dX4_isSeenBy_9 h2 ?_
  refine z_mem (fun μ3 eμ3 => ?_)
  replace hf := nm_e2 hf μ3 eμ3
  refine z_aload_n C 0 dX4_isSeenBy_10 rfl ?_
  refine zg_X4_25_0 C dX4_isSeenBy_11 ?_
  refine z_iload_n C 1 dX4_isSeenBy_14 rfl ?_
  refine z_iload_n C 2 dX4_isSeenBy_15 rfl ?_
  refine z_bipush C dX4_isSeenBy_16 (v := (8 : Int32)) (by decide) ?_
  refine z_irem C dX4_isSeenBy_18 (by decide) ?_
  refine z_topi (fun v4 ev4 => ?_)
  replace hf := nm_e2 hf v4 ev4
  refine zMs_6 C dX4_isSeenBy_19 h2 ?_
  refine z_mem (fun μ5 eμ5 => ?_)
  replace hf := nm_e2 hf μ5 eμ5
  refine z_iconst C dX4_isSeenBy_20 (v := (1 : Int32)) (by decide) ?_
  refine z_istore_n C dX4_isSeenBy_21 (i := 3) (lv' := [(3, .int (1 : Int32)), (0, .ref (G.1 0)), (1, .int x1), (2, .int x2)]) rfl (by decide) rfl ?_
  refine z_iconst C dX4_isSeenBy_22 (v := (0 : Int32)) (by decide) ?_
  refine z_istore C dX4_isSeenBy_23 (i := 4) (lv' := [(4, .int (0 : Int32)), (3, .int (1 : Int32)), (0, .ref (G.1 0)), (1, .int x1), (2, .int x2)]) (by decide) rfl ?_
  refine z_lv C [2, 1, 0] (lv' := [(0, .ref (G.1 0)), (3, .int (1 : Int32)), (4, .int (0 : Int32))]) rfl ?_
  exact zl_X4_isSeenBy_25 μ5 C hR fu ((1 : Int32), (0 : Int32)) hf
noncomputable def g_X4_guessOf_41 (μ : MM) (x2 : Int32) (x3 : Int32) (x4 : Int32) : Option (MM × Int32) :=
 (if x2 = 0 then
 (some (μ, x3))
 else
 (some (μ, x4)))
set_option maxHeartbeats 4000000 in
theorem zj_X4_guessOf_41 {X : ZX} {G : GW} {μ' : MM} {r : Int32} (μ : MM) (x2 : Int32) (x3 : Int32) (x4 : Int32) (C : CX X (YM G) cX4_guessOf 6 RX4 { frames := 3, cells := 0, slots := 0, locals := 75 }) (hR : ZR X (YM G) (some .int) μ' (some (.int r))) (hf : g_X4_guessOf_41 μ x2 x3 x4 = some (μ', r)) : Z X (YM G) 6 μ 41 [(2, .int x2), (3, .int x3), (4, .int x4)] [] := by
  unfold g_X4_guessOf_41 at hf
  refine z_iload_n C 0 dX4_guessOf_41 rfl ?_
  refine z_if_ne C 49 dX4_guessOf_42 (by decide) (fun c4 => ?_) (fun c4 => ?_)
  · replace hf := it_f hf c4
    refine z_iload C 2 dX4_guessOf_49 rfl ?_
    exact z_iret C hR dX4_guessOf_51 (rt2 hf).1 (rt2 hf).2
  · replace hf := it_t hf c4
    refine z_iload_n C 1 dX4_guessOf_45 rfl ?_
    refine z_goto C 51 dX4_guessOf_46 (by decide) ?_
    exact z_iret C hR dX4_guessOf_51 (rt2 hf).1 (rt2 hf).2
noncomputable def g_X4_guessOf_35 (μ : MM) (x1 : Int32) (x2 : Int32) (x3 : Int32) (x4 : Int32) (x5 : Int32) (ih13 : MM × Int32 × Int32 × Int32 → Option (MM × Int32)) : Option (MM × Int32) :=
 ih13 (μ, x3, x4, (x5 + (-1 : Int32)))
set_option maxHeartbeats 4000000 in
theorem zj_X4_guessOf_35 {X : ZX} {G : GW} {μ' : MM} {r : Int32} (μ : MM) (x1 : Int32) (x2 : Int32) (x3 : Int32) (x4 : Int32) (x5 : Int32) (C : CX X (YM G) cX4_guessOf 6 RX4 { frames := 3, cells := 0, slots := 0, locals := 75 }) (hR : ZR X (YM G) (some .int) μ' (some (.int r))) (ih13 : MM × Int32 × Int32 × Int32 → Option (MM × Int32)) (hih13 : ∀ σ, ih13 σ = some (μ', r) → Z X (YM G) 6 σ.1 13 [(0, .ref (G.1 0)), (1, .int x1), (2, .int x2), (3, .int σ.2.1), (4, .int σ.2.2.1), (5, .int σ.2.2.2)] []) (hf : g_X4_guessOf_35 μ x1 x2 x3 x4 x5 ih13 = some (μ', r)) : Z X (YM G) 6 μ 35 [(0, .ref (G.1 0)), (1, .int x1), (2, .int x2), (3, .int x3), (4, .int x4), (5, .int x5)] [] := by
  unfold g_X4_guessOf_35 at hf
  refine z_iinc C 5 dX4_guessOf_35 (v := (x5 + (-1 : Int32))) (lv' := [(5, .int (x5 + (-1 : Int32))), (0, .ref (G.1 0)), (1, .int x1), (2, .int x2), (3, .int x3), (4, .int x4)]) rfl rfl (by decide) rfl ?_
  refine z_goto C 13 dX4_guessOf_38 (by decide) ?_
  refine z_lv C [1, 2, 3, 4, 5, 0] (lv' := [(0, .ref (G.1 0)), (1, .int x1), (2, .int x2), (3, .int x3), (4, .int x4), (5, .int (x5 + (-1 : Int32)))]) rfl ?_
  exact hih13 (μ, x3, x4, (x5 + (-1 : Int32))) hf
noncomputable def b_X4_guessOf_13 (x1 : Int32) (x2 : Int32) (ih13 : MM × Int32 × Int32 × Int32 → Option (MM × Int32)) (μ : MM) (x3 : Int32) (x4 : Int32) (x5 : Int32) : Option (MM × Int32) :=
 (if x5 < 0 then
 g_X4_guessOf_41 μ x2 x3 x4
 else
 (bd2 (f_X4_isSeenBy μ x1 x5) fun μ6 v7 =>
 (if v7 = 0 then
 g_X4_guessOf_35 μ6 x1 x2 x3 x4 x5 ih13
 else
 g_X4_guessOf_35 μ6 x1 x2 ((x3 + (1 : Int32))) x5 x5 ih13)))
set_option maxHeartbeats 4000000 in
theorem zl_X4_guessOf_13 {X : ZX} {G : GW} {μ' : MM} {r : Int32} (x1 : Int32) (x2 : Int32) (C : CX X (YM G) cX4_guessOf 6 RX4 { frames := 3, cells := 0, slots := 0, locals := 75 }) (hR : ZR X (YM G) (some .int) μ' (some (.int r))) : ∀ (n : Nat) (σ : MM × Int32 × Int32 × Int32), lp (fun ih σ => b_X4_guessOf_13 x1 x2 ih σ.1 σ.2.1 σ.2.2.1 σ.2.2.2) n σ = some (μ', r) → Z X (YM G) 6 σ.1 13 [(0, .ref (G.1 0)), (1, .int x1), (2, .int x2), (3, .int σ.2.1), (4, .int σ.2.2.1), (5, .int σ.2.2.2)] [] := by
  refine lp_z (P := fun σ : MM × Int32 × Int32 × Int32 => Z X (YM G) 6 σ.1 13 [(0, .ref (G.1 0)), (1, .int x1), (2, .int x2), (3, .int σ.2.1), (4, .int σ.2.2.1), (5, .int σ.2.2.2)] []) (fun ih13 hih13 σ hf => ?_)
  obtain ⟨μ, x3, x4, x5⟩ := σ
  have hf : b_X4_guessOf_13 x1 x2 ih13 μ x3 x4 x5 = some (μ', r) := hf
  show Z X (YM G) 6 μ 13 [(0, .ref (G.1 0)), (1, .int x1), (2, .int x2), (3, .int x3), (4, .int x4), (5, .int x5)] []
  unfold b_X4_guessOf_13 at hf
  refine z_iload C 5 dX4_guessOf_13 rfl ?_
  refine z_if_lt C 41 dX4_guessOf_15 (by decide) (fun c3 => ?_) (fun c3 => ?_)
  · replace hf := it_t hf c3
    refine z_lv C [2, 3, 4] (lv' := [(2, .int x2), (3, .int x3), (4, .int x4)]) rfl ?_
    exact zj_X4_guessOf_41 μ x2 x3 x4 C hR hf
  · replace hf := it_f hf c3
    refine z_aload_n C 0 dX4_guessOf_18 rfl ?_
    refine z_iload_n C 1 dX4_guessOf_19 rfl ?_
    refine z_iload C 5 dX4_guessOf_20 rfl ?_
    obtain ⟨μ6, v7, h5, hf⟩ := bd2_e hf
    refine z_callVi C (As := [.int x1, .int x5]) (rest := []) (c_X4_isSeenBy h5) vw_X4_153 ⟨rfl, rfl, by decide, by decide⟩ (z_rv C (q0 := 0) (ci := 4) rfl rfl rfl) rfl (Nat.le_of_ble_eq_true rfl) dX4_guessOf_22 ?_
    refine z_if_eq C 35 dX4_guessOf_25 (by decide) (fun c8 => ?_) (fun c8 => ?_)
    · replace hf := it_t hf c8
      exact zj_X4_guessOf_35 μ6 x1 x2 x3 x4 x5 C hR ih13 hih13 hf
    · replace hf := it_f hf c8
      refine z_iinc C 3 dX4_guessOf_28 (v := (x3 + (1 : Int32))) (lv' := [(3, .int (x3 + (1 : Int32))), (0, .ref (G.1 0)), (1, .int x1), (2, .int x2), (4, .int x4), (5, .int x5)]) rfl rfl (by decide) rfl ?_
      refine z_iload C 5 dX4_guessOf_31 rfl ?_
      refine z_istore C dX4_guessOf_33 (i := 4) (lv' := [(4, .int x5), (3, .int (x3 + (1 : Int32))), (0, .ref (G.1 0)), (1, .int x1), (2, .int x2), (5, .int x5)]) (by decide) rfl ?_
      refine z_lv C [2, 3, 4, 1, 0, 5] (lv' := [(0, .ref (G.1 0)), (1, .int x1), (2, .int x2), (3, .int (x3 + (1 : Int32))), (4, .int x5), (5, .int x5)]) rfl ?_
      exact zj_X4_guessOf_35 μ6 x1 x2 ((x3 + (1 : Int32))) x5 x5 C hR ih13 hih13 hf
noncomputable def f_X4_guessOf (μ : MM) (x1 : Int32) (x2 : Int32) : Option (MM × Int32) :=
 (bd (f_X4_asTheySit μ) fun μ2 =>
 lp (fun ih σ => b_X4_guessOf_13 x1 x2 ih σ.1 σ.2.1 σ.2.2.1 σ.2.2.2) fu (μ2, (0 : Int32), (-1 : Int32), (39 : Int32)))
set_option maxHeartbeats 4000000 in
theorem c_X4_guessOf {l : Launch} {G : GW} {μ : MM} {x1 : Int32} {x2 : Int32} {μ' : MM} {r : Int32} (hf : f_X4_guessOf μ x1 x2 = some (μ', r)) : MZ l (YM G) yX4_guessOf cX4_guessOf 6 (some .int) { frames := 3, cells := 0, slots := 0, locals := 75 } [.ref (G.1 0), .int x1, .int x2] μ μ' (some (.int r)) := by
  refine z_met RX4 rfl (by decide) (Nat.le_of_ble_eq_true rfl) (fun X hX C hR => ?_)
  show Z X (YM G) 6 μ 0 [(0, .ref (G.1 0)), (1, .int x1), (2, .int x2)] []
  unfold f_X4_guessOf at hf
  refine z_aload_n C 0 dX4_guessOf_0 rfl ?_
  obtain ⟨μ2, h1, hf⟩ := bd_e hf
  refine z_callVv C (As := []) (rest := []) (c_X4_asTheySit h1) vw_X4_129 ⟨rfl, rfl, by decide, by decide⟩ (z_rv C (q0 := 0) (ci := 4) rfl rfl rfl) rfl (Nat.le_of_ble_eq_true rfl) dX4_guessOf_1 ?_
  refine z_iconst C dX4_guessOf_4 (v := (0 : Int32)) (by decide) ?_
  refine z_istore_n C dX4_guessOf_5 (i := 3) (lv' := [(3, .int (0 : Int32)), (0, .ref (G.1 0)), (1, .int x1), (2, .int x2)]) rfl (by decide) rfl ?_
  refine z_iconst C dX4_guessOf_6 (v := (-1 : Int32)) (by decide) ?_
  refine z_istore C dX4_guessOf_7 (i := 4) (lv' := [(4, .int (-1 : Int32)), (3, .int (0 : Int32)), (0, .ref (G.1 0)), (1, .int x1), (2, .int x2)]) (by decide) rfl ?_
  refine z_bipush C dX4_guessOf_9 (v := (39 : Int32)) (by decide) ?_
  refine z_istore C dX4_guessOf_11 (i := 5) (lv' := [(5, .int (39 : Int32)), (4, .int (-1 : Int32)), (3, .int (0 : Int32)), (0, .ref (G.1 0)), (1, .int x1), (2, .int x2)]) (by decide) rfl ?_
  refine z_lv C [3, 4, 5, 2, 1, 0] (lv' := [(0, .ref (G.1 0)), (1, .int x1), (2, .int x2), (3, .int (0 : Int32)), (4, .int (-1 : Int32)), (5, .int (39 : Int32))]) rfl ?_
  exact zl_X4_guessOf_13 x1 x2 C hR fu (μ2, (0 : Int32), (-1 : Int32), (39 : Int32)) hf
noncomputable def f_X4_guess (μ : MM) (x1 : Int32) (x2 : Int32) : Option (MM × Int32) :=
 (nm (f_X4_isRook μ x1) fun v2 : Int32 =>
 (if v2 = 0 then
 (some (μ, (-101 : Int32)))
 else
 (nm (f_X4_in μ (x2).toInt64 (0 : Int64) (1 : Int64)) fun v5 : Int32 =>
 (if v5 = 0 then
 (some (μ, (-102 : Int32)))
 else
 (bd2 (f_X4_guessOf μ x1 x2) fun μ8 v9 =>
 (some (μ8, v9)))))))
set_option maxHeartbeats 4000000 in
theorem c_X4_guess {l : Launch} {G : GW} {μ : MM} {x1 : Int32} {x2 : Int32} {μ' : MM} {r : Int32} (hf : f_X4_guess μ x1 x2 = some (μ', r)) : MZ l (YM G) yX4_guess cX4_guess 3 (some .int) { frames := 4, cells := 0, slots := 0, locals := 100 } [.ref (G.1 0), .int x1, .int x2] μ μ' (some (.int r)) := by
  refine z_met RX4 rfl (by decide) (Nat.le_of_ble_eq_true rfl) (fun X hX C hR => ?_)
  show Z X (YM G) 3 μ 0 [(0, .ref (G.1 0)), (1, .int x1), (2, .int x2)] []
  unfold f_X4_guess at hf
  refine z_aload_n C 0 dX4_guess_0 rfl ?_
  refine z_iload_n C 1 dX4_guess_1 rfl ?_
  obtain ⟨v2, h1⟩ : ∃ z, z = f_X4_isRook μ x1 := ⟨_, rfl⟩
  replace hf := nm_e2 hf v2 h1
  refine z_callVi C (As := [.int x1]) (rest := []) (c_X4_isRook h1.symm) vw_X4_113 ⟨rfl, rfl, by decide, by decide⟩ (z_rv C (q0 := 0) (ci := 4) rfl rfl rfl) rfl (Nat.le_of_ble_eq_true rfl) dX4_guess_2 ?_
  refine z_if_ne C 11 dX4_guess_5 (by decide) (fun c3 => ?_) (fun c3 => ?_)
  · replace hf := it_f hf c3
    refine z_iload_n C 2 dX4_guess_11 rfl ?_
    refine z_i2l C dX4_guess_12 ?_
    refine z_lconst C dX4_guess_13 (v := (0 : Int64)) (by decide) ?_
    refine z_lconst C dX4_guess_14 (v := (1 : Int64)) (by decide) ?_
    obtain ⟨v5, h4⟩ : ∃ z, z = f_X4_in μ (x2).toInt64 (0 : Int64) (1 : Int64) := ⟨_, rfl⟩
    replace hf := nm_e2 hf v5 h4
    refine z_callSi C (As := [.long (x2).toInt64, .long (0 : Int64), .long (1 : Int64)]) (rest := []) (c_X4_in h4.symm) sw_X4_58 ⟨rfl, rfl, by decide, by decide⟩ rfl (Nat.le_of_ble_eq_true rfl) dX4_guess_15 ?_
    refine z_if_eq C 30 dX4_guess_18 (by decide) (fun c6 => ?_) (fun c6 => ?_)
    · replace hf := it_t hf c6
      refine z_bipush C dX4_guess_30 (v := (-102 : Int32)) (by decide) ?_
      exact z_iret C hR dX4_guess_32 (rt2 hf).1 (rt2 hf).2
    · replace hf := it_f hf c6
      refine z_aload_n C 0 dX4_guess_21 rfl ?_
      refine z_iload_n C 1 dX4_guess_22 rfl ?_
      refine z_iload_n C 2 dX4_guess_23 rfl ?_
      obtain ⟨μ8, v9, h7, hf⟩ := bd2_e hf
      refine z_callVi C (As := [.int x1, .int x2]) (rest := []) (c_X4_guessOf h7) vw_X4_157 ⟨rfl, rfl, by decide, by decide⟩ (z_rv C (q0 := 0) (ci := 4) rfl rfl rfl) rfl (Nat.le_of_ble_eq_true rfl) dX4_guess_24 ?_
      refine z_goto C 32 dX4_guess_27 (by decide) ?_
      exact z_iret C hR dX4_guess_32 (rt2 hf).1 (rt2 hf).2
  · replace hf := it_t hf c3
    refine z_bipush C dX4_guess_8 (v := (-101 : Int32)) (by decide) ?_
    exact z_iret C hR dX4_guess_10 (rt2 hf).1 (rt2 hf).2
noncomputable def g_X4_cawOf_164 (μ : MM) (x1 : Int32) (x2 : Int32) (x4 : Int32) (t0 : Int32) (ih12 : MM × Int32 × Int32 × Int32 → Option (MM × Int32)) : Option (MM × Int32) :=
 ih12 (μ, x2, t0, (x4 + (1 : Int32)))
set_option maxHeartbeats 4000000 in
theorem zj_X4_cawOf_164 {X : ZX} {G : GW} {μ' : MM} {r : Int32} (μ : MM) (x1 : Int32) (x2 : Int32) (x4 : Int32) (t0 : Int32) (C : CX X (YM G) cX4_cawOf 7 RX4 { frames := 3, cells := 0, slots := 0, locals := 75 }) (hR : ZR X (YM G) (some .int) μ' (some (.int r))) (ih12 : MM × Int32 × Int32 × Int32 → Option (MM × Int32)) (hih12 : ∀ σ, ih12 σ = some (μ', r) → Z X (YM G) 7 σ.1 12 [(0, .ref (G.1 0)), (1, .int x1), (2, .int σ.2.1), (3, .int σ.2.2.1), (4, .int σ.2.2.2)] []) (hf : g_X4_cawOf_164 μ x1 x2 x4 t0 ih12 = some (μ', r)) : Z X (YM G) 7 μ 164 [(0, .ref (G.1 0)), (1, .int x1), (2, .int x2), (4, .int x4)] [.int t0] := by
  unfold g_X4_cawOf_164 at hf
  refine z_istore_n C dX4_cawOf_164 (i := 3) (lv' := [(3, .int t0), (0, .ref (G.1 0)), (1, .int x1), (2, .int x2), (4, .int x4)]) rfl (by decide) rfl ?_
  refine z_iinc C 4 dX4_cawOf_165 (v := (x4 + (1 : Int32))) (lv' := [(4, .int (x4 + (1 : Int32))), (3, .int t0), (0, .ref (G.1 0)), (1, .int x1), (2, .int x2)]) rfl rfl (by decide) rfl ?_
  refine z_goto C 12 dX4_cawOf_168 (by decide) ?_
  refine z_lv C [2, 3, 4, 1, 0] (lv' := [(0, .ref (G.1 0)), (1, .int x1), (2, .int x2), (3, .int t0), (4, .int (x4 + (1 : Int32)))]) rfl ?_
  exact hih12 (μ, x2, t0, (x4 + (1 : Int32))) hf
noncomputable def g_X4_cawOf_151 (μ : MM) (x1 : Int32) (x3 : Int32) (x4 : Int32) (x5 : Int32) (t0 : Int32) (ih12 : MM × Int32 × Int32 × Int32 → Option (MM × Int32)) : Option (MM × Int32) :=
 (if x3 ≤ x5 then
 g_X4_cawOf_164 μ x1 t0 x4 x3 ih12
 else
 g_X4_cawOf_164 μ x1 t0 x4 x5 ih12)
set_option maxHeartbeats 4000000 in
theorem zj_X4_cawOf_151 {X : ZX} {G : GW} {μ' : MM} {r : Int32} (μ : MM) (x1 : Int32) (x3 : Int32) (x4 : Int32) (x5 : Int32) (t0 : Int32) (C : CX X (YM G) cX4_cawOf 7 RX4 { frames := 3, cells := 0, slots := 0, locals := 75 }) (hR : ZR X (YM G) (some .int) μ' (some (.int r))) (ih12 : MM × Int32 × Int32 × Int32 → Option (MM × Int32)) (hih12 : ∀ σ, ih12 σ = some (μ', r) → Z X (YM G) 7 σ.1 12 [(0, .ref (G.1 0)), (1, .int x1), (2, .int σ.2.1), (3, .int σ.2.2.1), (4, .int σ.2.2.2)] []) (hf : g_X4_cawOf_151 μ x1 x3 x4 x5 t0 ih12 = some (μ', r)) : Z X (YM G) 7 μ 151 [(0, .ref (G.1 0)), (1, .int x1), (3, .int x3), (4, .int x4), (5, .int x5)] [.int t0] := by
  unfold g_X4_cawOf_151 at hf
  refine z_istore_n C dX4_cawOf_151 (i := 2) (lv' := [(2, .int t0), (0, .ref (G.1 0)), (1, .int x1), (3, .int x3), (4, .int x4), (5, .int x5)]) rfl (by decide) rfl ?_
  refine z_iload C 5 dX4_cawOf_152 rfl ?_
  refine z_iload_n C 3 dX4_cawOf_154 rfl ?_
  refine z_icmp_ge C 163 dX4_cawOf_155 (by decide) (fun c8 => ?_) (fun c8 => ?_)
  · replace hf := it_t hf c8
    refine z_iload_n C 3 dX4_cawOf_163 rfl ?_
    refine z_lv C [1, 2, 0, 4] (lv' := [(0, .ref (G.1 0)), (1, .int x1), (2, .int t0), (4, .int x4)]) rfl ?_
    exact zj_X4_cawOf_164 μ x1 t0 x4 x3 C hR ih12 hih12 hf
  · replace hf := it_f hf c8
    refine z_iload C 5 dX4_cawOf_158 rfl ?_
    refine z_goto C 164 dX4_cawOf_160 (by decide) ?_
    refine z_lv C [1, 2, 0, 4] (lv' := [(0, .ref (G.1 0)), (1, .int x1), (2, .int t0), (4, .int x4)]) rfl ?_
    exact zj_X4_cawOf_164 μ x1 t0 x4 x5 C hR ih12 hih12 hf
noncomputable def g_X4_cawOf_150 (μ : MM) (x1 : Int32) (x2 : Int32) (x3 : Int32) (x4 : Int32) (x5 : Int32) (ih12 : MM × Int32 × Int32 × Int32 → Option (MM × Int32)) : Option (MM × Int32) :=
 g_X4_cawOf_151 μ x1 x3 x4 x5 x2 ih12
set_option maxHeartbeats 4000000 in
theorem zj_X4_cawOf_150 {X : ZX} {G : GW} {μ' : MM} {r : Int32} (μ : MM) (x1 : Int32) (x2 : Int32) (x3 : Int32) (x4 : Int32) (x5 : Int32) (C : CX X (YM G) cX4_cawOf 7 RX4 { frames := 3, cells := 0, slots := 0, locals := 75 }) (hR : ZR X (YM G) (some .int) μ' (some (.int r))) (ih12 : MM × Int32 × Int32 × Int32 → Option (MM × Int32)) (hih12 : ∀ σ, ih12 σ = some (μ', r) → Z X (YM G) 7 σ.1 12 [(0, .ref (G.1 0)), (1, .int x1), (2, .int σ.2.1), (3, .int σ.2.2.1), (4, .int σ.2.2.2)] []) (hf : g_X4_cawOf_150 μ x1 x2 x3 x4 x5 ih12 = some (μ', r)) : Z X (YM G) 7 μ 150 [(0, .ref (G.1 0)), (1, .int x1), (2, .int x2), (3, .int x3), (4, .int x4), (5, .int x5)] [] := by
  unfold g_X4_cawOf_150 at hf
  refine z_iload_n C 2 dX4_cawOf_150 rfl ?_
  refine z_lv C [0, 1, 3, 4, 5] (lv' := [(0, .ref (G.1 0)), (1, .int x1), (3, .int x3), (4, .int x4), (5, .int x5)]) rfl ?_
  exact zj_X4_cawOf_151 μ x1 x3 x4 x5 x2 C hR ih12 hih12 hf
noncomputable def g_X4_cawOf_134 (μ : MM) (x1 : Int32) (x2 : Int32) (x3 : Int32) (x4 : Int32) (x5 : Int32) (ih12 : MM × Int32 × Int32 × Int32 → Option (MM × Int32)) : Option (MM × Int32) :=
 (if x5 ≤ 0 then
 g_X4_cawOf_150 μ x1 x2 x3 x4 x5 ih12
 else
 (if x3 ≤ x5 then
 g_X4_cawOf_150 μ x1 x2 x3 x4 x5 ih12
 else
 g_X4_cawOf_151 μ x1 x3 x4 x5 x4 ih12))
set_option maxHeartbeats 4000000 in
theorem zj_X4_cawOf_134 {X : ZX} {G : GW} {μ' : MM} {r : Int32} (μ : MM) (x1 : Int32) (x2 : Int32) (x3 : Int32) (x4 : Int32) (x5 : Int32) (C : CX X (YM G) cX4_cawOf 7 RX4 { frames := 3, cells := 0, slots := 0, locals := 75 }) (hR : ZR X (YM G) (some .int) μ' (some (.int r))) (ih12 : MM × Int32 × Int32 × Int32 → Option (MM × Int32)) (hih12 : ∀ σ, ih12 σ = some (μ', r) → Z X (YM G) 7 σ.1 12 [(0, .ref (G.1 0)), (1, .int x1), (2, .int σ.2.1), (3, .int σ.2.2.1), (4, .int σ.2.2.2)] []) (hf : g_X4_cawOf_134 μ x1 x2 x3 x4 x5 ih12 = some (μ', r)) : Z X (YM G) 7 μ 134 [(0, .ref (G.1 0)), (1, .int x1), (2, .int x2), (3, .int x3), (4, .int x4), (5, .int x5)] [] := by
  unfold g_X4_cawOf_134 at hf
  refine z_iload C 5 dX4_cawOf_134 rfl ?_
  refine z_if_le C 150 dX4_cawOf_136 (by decide) (fun c7 => ?_) (fun c7 => ?_)
  · replace hf := it_t hf c7
    exact zj_X4_cawOf_150 μ x1 x2 x3 x4 x5 C hR ih12 hih12 hf
  · replace hf := it_f hf c7
    refine z_iload C 5 dX4_cawOf_139 rfl ?_
    refine z_iload_n C 3 dX4_cawOf_141 rfl ?_
    refine z_icmp_ge C 150 dX4_cawOf_142 (by decide) (fun c9 => ?_) (fun c9 => ?_)
    · replace hf := it_t hf c9
      exact zj_X4_cawOf_150 μ x1 x2 x3 x4 x5 C hR ih12 hih12 hf
    · replace hf := it_f hf c9
      refine z_iload C 4 dX4_cawOf_145 rfl ?_
      refine z_goto C 151 dX4_cawOf_147 (by decide) ?_
      refine z_lv C [0, 1, 3, 4, 5] (lv' := [(0, .ref (G.1 0)), (1, .int x1), (3, .int x3), (4, .int x4), (5, .int x5)]) rfl ?_
      exact zj_X4_cawOf_151 μ x1 x3 x4 x5 x4 C hR ih12 hih12 hf
noncomputable def g_X4_cawOf_126 (μ : MM) (x1 : Int32) (x2 : Int32) (x3 : Int32) (x4 : Int32) (x6 : Int32) (t0 : Int32) (ih12 : MM × Int32 × Int32 × Int32 → Option (MM × Int32)) (ih95 : Int32 × Int32 → Option (MM × Int32)) : Option (MM × Int32) :=
 ih95 (t0, (x6 + (1 : Int32)))
set_option maxHeartbeats 4000000 in
theorem zj_X4_cawOf_126 {X : ZX} {G : GW} {μ' : MM} {r : Int32} (μ : MM) (x1 : Int32) (x2 : Int32) (x3 : Int32) (x4 : Int32) (x6 : Int32) (t0 : Int32) (C : CX X (YM G) cX4_cawOf 7 RX4 { frames := 3, cells := 0, slots := 0, locals := 75 }) (hR : ZR X (YM G) (some .int) μ' (some (.int r))) (ih12 : MM × Int32 × Int32 × Int32 → Option (MM × Int32)) (hih12 : ∀ σ, ih12 σ = some (μ', r) → Z X (YM G) 7 σ.1 12 [(0, .ref (G.1 0)), (1, .int x1), (2, .int σ.2.1), (3, .int σ.2.2.1), (4, .int σ.2.2.2)] []) (ih95 : Int32 × Int32 → Option (MM × Int32)) (hih95 : ∀ σ, ih95 σ = some (μ', r) → Z X (YM G) 7 μ 95 [(0, .ref (G.1 0)), (1, .int x1), (2, .int x2), (3, .int x3), (4, .int x4), (5, .int σ.1), (6, .int σ.2)] []) (hf : g_X4_cawOf_126 μ x1 x2 x3 x4 x6 t0 ih12 ih95 = some (μ', r)) : Z X (YM G) 7 μ 126 [(0, .ref (G.1 0)), (1, .int x1), (2, .int x2), (3, .int x3), (4, .int x4), (6, .int x6)] [.int t0] := by
  unfold g_X4_cawOf_126 at hf
  refine z_istore C dX4_cawOf_126 (i := 5) (lv' := [(5, .int t0), (0, .ref (G.1 0)), (1, .int x1), (2, .int x2), (3, .int x3), (4, .int x4), (6, .int x6)]) (by decide) rfl ?_
  refine z_iinc C 6 dX4_cawOf_128 (v := (x6 + (1 : Int32))) (lv' := [(6, .int (x6 + (1 : Int32))), (5, .int t0), (0, .ref (G.1 0)), (1, .int x1), (2, .int x2), (3, .int x3), (4, .int x4)]) rfl rfl (by decide) rfl ?_
  refine z_goto C 95 dX4_cawOf_131 (by decide) ?_
  refine z_lv C [2, 3, 4, 5, 6, 1, 0] (lv' := [(0, .ref (G.1 0)), (1, .int x1), (2, .int x2), (3, .int x3), (4, .int x4), (5, .int t0), (6, .int (x6 + (1 : Int32)))]) rfl ?_
  exact hih95 (t0, (x6 + (1 : Int32))) hf
noncomputable def b_X4_cawOf_95 (μ : MM) (x1 : Int32) (x2 : Int32) (x3 : Int32) (x4 : Int32) (ih12 : MM × Int32 × Int32 × Int32 → Option (MM × Int32)) (ih95 : Int32 × Int32 → Option (MM × Int32)) (x5 : Int32) (x6 : Int32) : Option (MM × Int32) :=
 (if (8 : Int32) ≤ x6 then
 g_X4_cawOf_134 μ x1 x2 x3 x4 x5 ih12
 else
 (ck (vp_in x6 8) <|
 (if (μ.1 10 (x6).toNatClampNeg) ≤ x5 then
 g_X4_cawOf_126 μ x1 x2 x3 x4 x6 x5 ih12 ih95
 else
 g_X4_cawOf_126 μ x1 x2 x3 x4 x6 ((μ.1 10 (x6).toNatClampNeg)) ih12 ih95)))
set_option maxHeartbeats 4000000 in
theorem zl_X4_cawOf_95 {X : ZX} {G : GW} {μ' : MM} {r : Int32} (μ : MM) (x1 : Int32) (x2 : Int32) (x3 : Int32) (x4 : Int32) (C : CX X (YM G) cX4_cawOf 7 RX4 { frames := 3, cells := 0, slots := 0, locals := 75 }) (hR : ZR X (YM G) (some .int) μ' (some (.int r))) (ih12 : MM × Int32 × Int32 × Int32 → Option (MM × Int32)) (hih12 : ∀ σ, ih12 σ = some (μ', r) → Z X (YM G) 7 σ.1 12 [(0, .ref (G.1 0)), (1, .int x1), (2, .int σ.2.1), (3, .int σ.2.2.1), (4, .int σ.2.2.2)] []) : ∀ (n : Nat) (σ : Int32 × Int32), lp (fun ih σ => b_X4_cawOf_95 μ x1 x2 x3 x4 ih12 ih σ.1 σ.2) n σ = some (μ', r) → Z X (YM G) 7 μ 95 [(0, .ref (G.1 0)), (1, .int x1), (2, .int x2), (3, .int x3), (4, .int x4), (5, .int σ.1), (6, .int σ.2)] [] := by
  refine lp_z (P := fun σ : Int32 × Int32 => Z X (YM G) 7 μ 95 [(0, .ref (G.1 0)), (1, .int x1), (2, .int x2), (3, .int x3), (4, .int x4), (5, .int σ.1), (6, .int σ.2)] []) (fun ih95 hih95 σ hf => ?_)
  obtain ⟨x5, x6⟩ := σ
  have hf : b_X4_cawOf_95 μ x1 x2 x3 x4 ih12 ih95 x5 x6 = some (μ', r) := hf
  show Z X (YM G) 7 μ 95 [(0, .ref (G.1 0)), (1, .int x1), (2, .int x2), (3, .int x3), (4, .int x4), (5, .int x5), (6, .int x6)] []
  unfold b_X4_cawOf_95 at hf
  refine z_iload C 6 dX4_cawOf_95 rfl ?_
  refine z_bipush C dX4_cawOf_97 (v := (8 : Int32)) (by decide) ?_
  refine z_icmp_ge C 134 dX4_cawOf_99 (by decide) (fun c6 => ?_) (fun c6 => ?_)
  · replace hf := it_t hf c6
    refine z_lv C [0, 1, 2, 3, 4, 5] (lv' := [(0, .ref (G.1 0)), (1, .int x1), (2, .int x2), (3, .int x3), (4, .int x4), (5, .int x5)]) rfl ?_
    exact zj_X4_cawOf_134 μ x1 x2 x3 x4 x5 C hR ih12 hih12 hf
  · replace hf := it_f hf c6
    refine z_aload_n C 0 dX4_cawOf_102 rfl ?_
    refine zg_X4_37_0 C dX4_cawOf_103 ?_
    refine z_iload C 6 dX4_cawOf_106 rfl ?_
    obtain ⟨h10, hf⟩ := ck_e hf
    refine zMl_10 C dX4_cawOf_108 h10 ?_
    refine z_iload C 5 dX4_cawOf_109 rfl ?_
    refine z_icmp_le C 124 dX4_cawOf_111 (by decide) (fun c11 => ?_) (fun c11 => ?_)
    · replace hf := it_t hf c11
      refine z_iload C 5 dX4_cawOf_124 rfl ?_
      refine z_lv C [0, 1, 2, 3, 4, 6] (lv' := [(0, .ref (G.1 0)), (1, .int x1), (2, .int x2), (3, .int x3), (4, .int x4), (6, .int x6)]) rfl ?_
      exact zj_X4_cawOf_126 μ x1 x2 x3 x4 x6 x5 C hR ih12 hih12 ih95 hih95 hf
    · replace hf := it_f hf c11
      refine z_aload_n C 0 dX4_cawOf_114 rfl ?_
      refine zg_X4_37_0 C dX4_cawOf_115 ?_
      refine z_iload C 6 dX4_cawOf_118 rfl ?_
      refine zMl_10 C dX4_cawOf_120 h10 ?_
      refine z_goto C 126 dX4_cawOf_121 (by decide) ?_
      refine z_lv C [0, 1, 2, 3, 4, 6] (lv' := [(0, .ref (G.1 0)), (1, .int x1), (2, .int x2), (3, .int x3), (4, .int x4), (6, .int x6)]) rfl ?_
      exact zj_X4_cawOf_126 μ x1 x2 x3 x4 x6 ((μ.1 10 (x6).toNatClampNeg)) C hR ih12 hih12 ih95 hih95 hf
noncomputable def g_X4_cawOf_89 (μ : MM) (x1 : Int32) (x2 : Int32) (x3 : Int32) (x4 : Int32) (ih12 : MM × Int32 × Int32 × Int32 → Option (MM × Int32)) : Option (MM × Int32) :=
 lp (fun ih σ => b_X4_cawOf_95 μ x1 x2 x3 x4 ih12 ih σ.1 σ.2) fu ((0 : Int32), (0 : Int32))
set_option maxHeartbeats 4000000 in
theorem zj_X4_cawOf_89 {X : ZX} {G : GW} {μ' : MM} {r : Int32} (μ : MM) (x1 : Int32) (x2 : Int32) (x3 : Int32) (x4 : Int32) (C : CX X (YM G) cX4_cawOf 7 RX4 { frames := 3, cells := 0, slots := 0, locals := 75 }) (hR : ZR X (YM G) (some .int) μ' (some (.int r))) (ih12 : MM × Int32 × Int32 × Int32 → Option (MM × Int32)) (hih12 : ∀ σ, ih12 σ = some (μ', r) → Z X (YM G) 7 σ.1 12 [(0, .ref (G.1 0)), (1, .int x1), (2, .int σ.2.1), (3, .int σ.2.2.1), (4, .int σ.2.2.2)] []) (hf : g_X4_cawOf_89 μ x1 x2 x3 x4 ih12 = some (μ', r)) : Z X (YM G) 7 μ 89 [(0, .ref (G.1 0)), (1, .int x1), (2, .int x2), (3, .int x3), (4, .int x4)] [] := by
  unfold g_X4_cawOf_89 at hf
  refine z_iconst C dX4_cawOf_89 (v := (0 : Int32)) (by decide) ?_
  refine z_istore C dX4_cawOf_90 (i := 5) (lv' := [(5, .int (0 : Int32)), (0, .ref (G.1 0)), (1, .int x1), (2, .int x2), (3, .int x3), (4, .int x4)]) (by decide) rfl ?_
  refine z_iconst C dX4_cawOf_92 (v := (0 : Int32)) (by decide) ?_
  refine z_istore C dX4_cawOf_93 (i := 6) (lv' := [(6, .int (0 : Int32)), (5, .int (0 : Int32)), (0, .ref (G.1 0)), (1, .int x1), (2, .int x2), (3, .int x3), (4, .int x4)]) (by decide) rfl ?_
  refine z_lv C [2, 3, 4, 5, 6, 1, 0] (lv' := [(0, .ref (G.1 0)), (1, .int x1), (2, .int x2), (3, .int x3), (4, .int x4), (5, .int (0 : Int32)), (6, .int (0 : Int32))]) rfl ?_
  exact zl_X4_cawOf_95 μ x1 x2 x3 x4 C hR ih12 hih12 fu ((0 : Int32), (0 : Int32)) hf
noncomputable def g_X4_cawOf_83 (μ : MM) (x1 : Int32) (x2 : Int32) (x3 : Int32) (x4 : Int32) (x5 : Int32) (ih12 : MM × Int32 × Int32 × Int32 → Option (MM × Int32)) (ih46 : MM × Int32 → Option (MM × Int32)) : Option (MM × Int32) :=
 ih46 (μ, (x5 + (1 : Int32)))
set_option maxHeartbeats 4000000 in
theorem zj_X4_cawOf_83 {X : ZX} {G : GW} {μ' : MM} {r : Int32} (μ : MM) (x1 : Int32) (x2 : Int32) (x3 : Int32) (x4 : Int32) (x5 : Int32) (C : CX X (YM G) cX4_cawOf 7 RX4 { frames := 3, cells := 0, slots := 0, locals := 75 }) (hR : ZR X (YM G) (some .int) μ' (some (.int r))) (ih12 : MM × Int32 × Int32 × Int32 → Option (MM × Int32)) (hih12 : ∀ σ, ih12 σ = some (μ', r) → Z X (YM G) 7 σ.1 12 [(0, .ref (G.1 0)), (1, .int x1), (2, .int σ.2.1), (3, .int σ.2.2.1), (4, .int σ.2.2.2)] []) (ih46 : MM × Int32 → Option (MM × Int32)) (hih46 : ∀ σ, ih46 σ = some (μ', r) → Z X (YM G) 7 σ.1 46 [(0, .ref (G.1 0)), (1, .int x1), (2, .int x2), (3, .int x3), (4, .int x4), (5, .int σ.2)] []) (hf : g_X4_cawOf_83 μ x1 x2 x3 x4 x5 ih12 ih46 = some (μ', r)) : Z X (YM G) 7 μ 83 [(0, .ref (G.1 0)), (1, .int x1), (2, .int x2), (3, .int x3), (4, .int x4), (5, .int x5)] [] := by
  unfold g_X4_cawOf_83 at hf
  refine z_iinc C 5 dX4_cawOf_83 (v := (x5 + (1 : Int32))) (lv' := [(5, .int (x5 + (1 : Int32))), (0, .ref (G.1 0)), (1, .int x1), (2, .int x2), (3, .int x3), (4, .int x4)]) rfl rfl (by decide) rfl ?_
  refine z_goto C 46 dX4_cawOf_86 (by decide) ?_
  refine z_lv C [1, 2, 3, 4, 5, 0] (lv' := [(0, .ref (G.1 0)), (1, .int x1), (2, .int x2), (3, .int x3), (4, .int x4), (5, .int (x5 + (1 : Int32)))]) rfl ?_
  exact hih46 (μ, (x5 + (1 : Int32))) hf
noncomputable def b_X4_cawOf_46 (x1 : Int32) (x2 : Int32) (x3 : Int32) (x4 : Int32) (ih12 : MM × Int32 × Int32 × Int32 → Option (MM × Int32)) (ih46 : MM × Int32 → Option (MM × Int32)) (μ : MM) (x5 : Int32) : Option (MM × Int32) :=
 (if (40 : Int32) ≤ x5 then
 g_X4_cawOf_89 μ x1 x2 x3 x4 ih12
 else
 (bd2 (f_X4_isSeenBy μ x1 x5) fun μ13 v14 =>
 (if v14 = 0 then
 g_X4_cawOf_83 μ13 x1 x2 x3 x4 x5 ih12 ih46
 else
 (bd (f_X4_comesOf μ13 x1 x4 (μ13.1 0 7)) fun v17 =>
 (ck (vp_in v17 8) <|
 (nm (((μ13.1 10 (v17).toNatClampNeg) + (1 : Int32))) fun v19 : Int32 =>
 (nm (upM μ13 10 (v17).toNatClampNeg v19) fun μ20 : MM =>
 g_X4_cawOf_83 μ20 x1 x2 x3 x4 x5 ih12 ih46)))))))
set_option maxHeartbeats 4000000 in
theorem zl_X4_cawOf_46 {X : ZX} {G : GW} {μ' : MM} {r : Int32} (x1 : Int32) (x2 : Int32) (x3 : Int32) (x4 : Int32) (C : CX X (YM G) cX4_cawOf 7 RX4 { frames := 3, cells := 0, slots := 0, locals := 75 }) (hR : ZR X (YM G) (some .int) μ' (some (.int r))) (ih12 : MM × Int32 × Int32 × Int32 → Option (MM × Int32)) (hih12 : ∀ σ, ih12 σ = some (μ', r) → Z X (YM G) 7 σ.1 12 [(0, .ref (G.1 0)), (1, .int x1), (2, .int σ.2.1), (3, .int σ.2.2.1), (4, .int σ.2.2.2)] []) : ∀ (n : Nat) (σ : MM × Int32), lp (fun ih σ => b_X4_cawOf_46 x1 x2 x3 x4 ih12 ih σ.1 σ.2) n σ = some (μ', r) → Z X (YM G) 7 σ.1 46 [(0, .ref (G.1 0)), (1, .int x1), (2, .int x2), (3, .int x3), (4, .int x4), (5, .int σ.2)] [] := by
  refine lp_z (P := fun σ : MM × Int32 => Z X (YM G) 7 σ.1 46 [(0, .ref (G.1 0)), (1, .int x1), (2, .int x2), (3, .int x3), (4, .int x4), (5, .int σ.2)] []) (fun ih46 hih46 σ hf => ?_)
  obtain ⟨μ, x5⟩ := σ
  have hf : b_X4_cawOf_46 x1 x2 x3 x4 ih12 ih46 μ x5 = some (μ', r) := hf
  show Z X (YM G) 7 μ 46 [(0, .ref (G.1 0)), (1, .int x1), (2, .int x2), (3, .int x3), (4, .int x4), (5, .int x5)] []
  unfold b_X4_cawOf_46 at hf
  refine z_iload C 5 dX4_cawOf_46 rfl ?_
  refine z_bipush C dX4_cawOf_48 (v := (40 : Int32)) (by decide) ?_
  refine z_icmp_ge C 89 dX4_cawOf_50 (by decide) (fun c5 => ?_) (fun c5 => ?_)
  · replace hf := it_t hf c5
    refine z_lv C [0, 1, 2, 3, 4] (lv' := [(0, .ref (G.1 0)), (1, .int x1), (2, .int x2), (3, .int x3), (4, .int x4)]) rfl ?_
    exact zj_X4_cawOf_89 μ x1 x2 x3 x4 C hR ih12 hih12 hf
  · replace hf := it_f hf c5
    refine z_aload_n C 0 dX4_cawOf_53 rfl ?_
    refine z_iload_n C 1 dX4_cawOf_54 rfl ?_
    refine z_iload C 5 dX4_cawOf_55 rfl ?_
    obtain ⟨μ13, v14, h12, hf⟩ := bd2_e hf
    refine z_callVi C (As := [.int x1, .int x5]) (rest := []) (c_X4_isSeenBy h12) vw_X4_153 ⟨rfl, rfl, by decide, by decide⟩ (z_rv C (q0 := 0) (ci := 4) rfl rfl rfl) rfl (Nat.le_of_ble_eq_true rfl) dX4_cawOf_57 ?_
    refine z_if_eq C 83 dX4_cawOf_60 (by decide) (fun c15 => ?_) (fun c15 => ?_)
    · replace hf := it_t hf c15
      exact zj_X4_cawOf_83 μ13 x1 x2 x3 x4 x5 C hR ih12 hih12 ih46 hih46 hf
    · replace hf := it_f hf c15
      refine z_aload_n C 0 dX4_cawOf_63 rfl ?_
      refine zg_X4_37_0 C dX4_cawOf_64 ?_
      refine z_aload_n C 0 dX4_cawOf_67 rfl ?_
      refine z_iload_n C 1 dX4_cawOf_68 rfl ?_
      refine z_iload C 4 dX4_cawOf_69 rfl ?_
      refine z_aload_n C 0 dX4_cawOf_71 rfl ?_
      refine zg_X4_91_0 C dX4_cawOf_72 ?_
      obtain ⟨v17, h16, hf⟩ := bd_e hf
      refine z_callVi C (As := [.int x1, .int x4, .int (μ13.1 0 7)]) (rest := [.ref (G.1 10)]) (c_X4_comesOf h16) vw_X4_132 ⟨rfl, rfl, by decide, by decide⟩ (z_rv C (q0 := 0) (ci := 4) rfl rfl rfl) rfl (Nat.le_of_ble_eq_true rfl) dX4_cawOf_75 ?_
      refine z_dup2 C dX4_cawOf_78 rfl rfl ?_
      obtain ⟨h18, hf⟩ := ck_e hf
      refine zMl_10 C dX4_cawOf_79 h18 ?_
      refine z_iconst C dX4_cawOf_80 (v := (1 : Int32)) (by decide) ?_
      refine z_iadd C dX4_cawOf_81 ?_
      refine z_topi (fun v19 ev19 => ?_)
      replace hf := nm_e2 hf v19 ev19
      refine zMs_10 C dX4_cawOf_82 h18 ?_
      refine z_mem (fun μ20 eμ20 => ?_)
      replace hf := nm_e2 hf μ20 eμ20
      exact zj_X4_cawOf_83 μ20 x1 x2 x3 x4 x5 C hR ih12 hih12 ih46 hih46 hf
noncomputable def g_X4_cawOf_43 (μ : MM) (x1 : Int32) (x2 : Int32) (x3 : Int32) (x4 : Int32) (ih12 : MM × Int32 × Int32 × Int32 → Option (MM × Int32)) : Option (MM × Int32) :=
 lp (fun ih σ => b_X4_cawOf_46 x1 x2 x3 x4 ih12 ih σ.1 σ.2) fu (μ, (0 : Int32))
set_option maxHeartbeats 4000000 in
theorem zj_X4_cawOf_43 {X : ZX} {G : GW} {μ' : MM} {r : Int32} (μ : MM) (x1 : Int32) (x2 : Int32) (x3 : Int32) (x4 : Int32) (C : CX X (YM G) cX4_cawOf 7 RX4 { frames := 3, cells := 0, slots := 0, locals := 75 }) (hR : ZR X (YM G) (some .int) μ' (some (.int r))) (ih12 : MM × Int32 × Int32 × Int32 → Option (MM × Int32)) (hih12 : ∀ σ, ih12 σ = some (μ', r) → Z X (YM G) 7 σ.1 12 [(0, .ref (G.1 0)), (1, .int x1), (2, .int σ.2.1), (3, .int σ.2.2.1), (4, .int σ.2.2.2)] []) (hf : g_X4_cawOf_43 μ x1 x2 x3 x4 ih12 = some (μ', r)) : Z X (YM G) 7 μ 43 [(0, .ref (G.1 0)), (1, .int x1), (2, .int x2), (3, .int x3), (4, .int x4)] [] := by
  unfold g_X4_cawOf_43 at hf
  refine z_iconst C dX4_cawOf_43 (v := (0 : Int32)) (by decide) ?_
  refine z_istore C dX4_cawOf_44 (i := 5) (lv' := [(5, .int (0 : Int32)), (0, .ref (G.1 0)), (1, .int x1), (2, .int x2), (3, .int x3), (4, .int x4)]) (by decide) rfl ?_
  refine z_lv C [1, 2, 3, 4, 5, 0] (lv' := [(0, .ref (G.1 0)), (1, .int x1), (2, .int x2), (3, .int x3), (4, .int x4), (5, .int (0 : Int32))]) rfl ?_
  exact zl_X4_cawOf_46 x1 x2 x3 x4 C hR ih12 hih12 fu (μ, (0 : Int32)) hf
noncomputable def b_X4_cawOf_22 (x1 : Int32) (x2 : Int32) (x3 : Int32) (x4 : Int32) (ih12 : MM × Int32 × Int32 × Int32 → Option (MM × Int32)) (ih22 : MM × Int32 → Option (MM × Int32)) (μ : MM) (x5 : Int32) : Option (MM × Int32) :=
 (if (8 : Int32) ≤ x5 then
 g_X4_cawOf_43 μ x1 x2 x3 x4 ih12
 else
 (ck (vp_in x5 8) <|
 (nm (upM μ 10 (x5).toNatClampNeg (0 : Int32)) fun μ22 : MM =>
 ih22 (μ22, (x5 + (1 : Int32))))))
set_option maxHeartbeats 4000000 in
theorem zl_X4_cawOf_22 {X : ZX} {G : GW} {μ' : MM} {r : Int32} (x1 : Int32) (x2 : Int32) (x3 : Int32) (x4 : Int32) (C : CX X (YM G) cX4_cawOf 7 RX4 { frames := 3, cells := 0, slots := 0, locals := 75 }) (hR : ZR X (YM G) (some .int) μ' (some (.int r))) (ih12 : MM × Int32 × Int32 × Int32 → Option (MM × Int32)) (hih12 : ∀ σ, ih12 σ = some (μ', r) → Z X (YM G) 7 σ.1 12 [(0, .ref (G.1 0)), (1, .int x1), (2, .int σ.2.1), (3, .int σ.2.2.1), (4, .int σ.2.2.2)] []) : ∀ (n : Nat) (σ : MM × Int32), lp (fun ih σ => b_X4_cawOf_22 x1 x2 x3 x4 ih12 ih σ.1 σ.2) n σ = some (μ', r) → Z X (YM G) 7 σ.1 22 [(0, .ref (G.1 0)), (1, .int x1), (2, .int x2), (3, .int x3), (4, .int x4), (5, .int σ.2)] [] := by
  refine lp_z (P := fun σ : MM × Int32 => Z X (YM G) 7 σ.1 22 [(0, .ref (G.1 0)), (1, .int x1), (2, .int x2), (3, .int x3), (4, .int x4), (5, .int σ.2)] []) (fun ih22 hih22 σ hf => ?_)
  obtain ⟨μ, x5⟩ := σ
  have hf : b_X4_cawOf_22 x1 x2 x3 x4 ih12 ih22 μ x5 = some (μ', r) := hf
  show Z X (YM G) 7 μ 22 [(0, .ref (G.1 0)), (1, .int x1), (2, .int x2), (3, .int x3), (4, .int x4), (5, .int x5)] []
  unfold b_X4_cawOf_22 at hf
  refine z_iload C 5 dX4_cawOf_22 rfl ?_
  refine z_bipush C dX4_cawOf_24 (v := (8 : Int32)) (by decide) ?_
  refine z_icmp_ge C 43 dX4_cawOf_26 (by decide) (fun c4 => ?_) (fun c4 => ?_)
  · replace hf := it_t hf c4
    refine z_lv C [0, 1, 2, 3, 4] (lv' := [(0, .ref (G.1 0)), (1, .int x1), (2, .int x2), (3, .int x3), (4, .int x4)]) rfl ?_
    exact zj_X4_cawOf_43 μ x1 x2 x3 x4 C hR ih12 hih12 hf
  · replace hf := it_f hf c4
    refine z_aload_n C 0 dX4_cawOf_29 rfl ?_
    refine zg_X4_37_0 C dX4_cawOf_30 ?_
    refine z_iload C 5 dX4_cawOf_33 rfl ?_
    refine z_iconst C dX4_cawOf_35 (v := (0 : Int32)) (by decide) ?_
    obtain ⟨h21, hf⟩ := ck_e hf
    refine zMs_10 C dX4_cawOf_36 h21 ?_
    refine z_mem (fun μ22 eμ22 => ?_)
    replace hf := nm_e2 hf μ22 eμ22
    refine z_iinc C 5 dX4_cawOf_37 (v := (x5 + (1 : Int32))) (lv' := [(5, .int (x5 + (1 : Int32))), (0, .ref (G.1 0)), (1, .int x1), (2, .int x2), (3, .int x3), (4, .int x4)]) rfl rfl (by decide) rfl ?_
    refine z_goto C 22 dX4_cawOf_40 (by decide) ?_
    refine z_lv C [1, 2, 3, 4, 5, 0] (lv' := [(0, .ref (G.1 0)), (1, .int x1), (2, .int x2), (3, .int x3), (4, .int x4), (5, .int (x5 + (1 : Int32)))]) rfl ?_
    exact hih22 (μ22, (x5 + (1 : Int32))) hf
noncomputable def b_X4_cawOf_12 (x1 : Int32) (ih12 : MM × Int32 × Int32 × Int32 → Option (MM × Int32)) (μ : MM) (x2 : Int32) (x3 : Int32) (x4 : Int32) : Option (MM × Int32) :=
 (if (8 : Int32) ≤ x4 then
 (some (μ, x2))
 else
 lp (fun ih σ => b_X4_cawOf_22 x1 x2 x3 x4 ih12 ih σ.1 σ.2) fu (μ, (0 : Int32)))
set_option maxHeartbeats 4000000 in
theorem zl_X4_cawOf_12 {X : ZX} {G : GW} {μ' : MM} {r : Int32} (x1 : Int32) (C : CX X (YM G) cX4_cawOf 7 RX4 { frames := 3, cells := 0, slots := 0, locals := 75 }) (hR : ZR X (YM G) (some .int) μ' (some (.int r))) : ∀ (n : Nat) (σ : MM × Int32 × Int32 × Int32), lp (fun ih σ => b_X4_cawOf_12 x1 ih σ.1 σ.2.1 σ.2.2.1 σ.2.2.2) n σ = some (μ', r) → Z X (YM G) 7 σ.1 12 [(0, .ref (G.1 0)), (1, .int x1), (2, .int σ.2.1), (3, .int σ.2.2.1), (4, .int σ.2.2.2)] [] := by
  refine lp_z (P := fun σ : MM × Int32 × Int32 × Int32 => Z X (YM G) 7 σ.1 12 [(0, .ref (G.1 0)), (1, .int x1), (2, .int σ.2.1), (3, .int σ.2.2.1), (4, .int σ.2.2.2)] []) (fun ih12 hih12 σ hf => ?_)
  obtain ⟨μ, x2, x3, x4⟩ := σ
  have hf : b_X4_cawOf_12 x1 ih12 μ x2 x3 x4 = some (μ', r) := hf
  show Z X (YM G) 7 μ 12 [(0, .ref (G.1 0)), (1, .int x1), (2, .int x2), (3, .int x3), (4, .int x4)] []
  unfold b_X4_cawOf_12 at hf
  refine z_iload C 4 dX4_cawOf_12 rfl ?_
  refine z_bipush C dX4_cawOf_14 (v := (8 : Int32)) (by decide) ?_
  refine z_icmp_ge C 171 dX4_cawOf_16 (by decide) (fun c3 => ?_) (fun c3 => ?_)
  · replace hf := it_t hf c3
    refine z_iload_n C 2 dX4_cawOf_171 rfl ?_
    exact z_iret C hR dX4_cawOf_172 (rt2 hf).1 (rt2 hf).2
  · replace hf := it_f hf c3
    refine z_iconst C dX4_cawOf_19 (v := (0 : Int32)) (by decide) ?_
    refine z_istore C dX4_cawOf_20 (i := 5) (lv' := [(5, .int (0 : Int32)), (0, .ref (G.1 0)), (1, .int x1), (2, .int x2), (3, .int x3), (4, .int x4)]) (by decide) rfl ?_
    refine z_lv C [1, 2, 3, 4, 5, 0] (lv' := [(0, .ref (G.1 0)), (1, .int x1), (2, .int x2), (3, .int x3), (4, .int x4), (5, .int (0 : Int32))]) rfl ?_
    exact zl_X4_cawOf_22 x1 x2 x3 x4 C hR ih12 hih12 fu (μ, (0 : Int32)) hf
noncomputable def f_X4_cawOf (μ : MM) (x1 : Int32) : Option (MM × Int32) :=
 (bd (f_X4_asTheySit μ) fun μ2 =>
 lp (fun ih σ => b_X4_cawOf_12 x1 ih σ.1 σ.2.1 σ.2.2.1 σ.2.2.2) fu (μ2, (-1 : Int32), (41 : Int32), (0 : Int32)))
set_option maxHeartbeats 4000000 in
theorem c_X4_cawOf {l : Launch} {G : GW} {μ : MM} {x1 : Int32} {μ' : MM} {r : Int32} (hf : f_X4_cawOf μ x1 = some (μ', r)) : MZ l (YM G) yX4_cawOf cX4_cawOf 7 (some .int) { frames := 3, cells := 0, slots := 0, locals := 75 } [.ref (G.1 0), .int x1] μ μ' (some (.int r)) := by
  refine z_met RX4 rfl (by decide) (Nat.le_of_ble_eq_true rfl) (fun X hX C hR => ?_)
  show Z X (YM G) 7 μ 0 [(0, .ref (G.1 0)), (1, .int x1)] []
  unfold f_X4_cawOf at hf
  refine z_aload_n C 0 dX4_cawOf_0 rfl ?_
  obtain ⟨μ2, h1, hf⟩ := bd_e hf
  refine z_callVv C (As := []) (rest := []) (c_X4_asTheySit h1) vw_X4_129 ⟨rfl, rfl, by decide, by decide⟩ (z_rv C (q0 := 0) (ci := 4) rfl rfl rfl) rfl (Nat.le_of_ble_eq_true rfl) dX4_cawOf_1 ?_
  refine z_iconst C dX4_cawOf_4 (v := (-1 : Int32)) (by decide) ?_
  refine z_istore_n C dX4_cawOf_5 (i := 2) (lv' := [(2, .int (-1 : Int32)), (0, .ref (G.1 0)), (1, .int x1)]) rfl (by decide) rfl ?_
  refine z_bipush C dX4_cawOf_6 (v := (41 : Int32)) (by decide) ?_
  refine z_istore_n C dX4_cawOf_8 (i := 3) (lv' := [(3, .int (41 : Int32)), (2, .int (-1 : Int32)), (0, .ref (G.1 0)), (1, .int x1)]) rfl (by decide) rfl ?_
  refine z_iconst C dX4_cawOf_9 (v := (0 : Int32)) (by decide) ?_
  refine z_istore C dX4_cawOf_10 (i := 4) (lv' := [(4, .int (0 : Int32)), (3, .int (41 : Int32)), (2, .int (-1 : Int32)), (0, .ref (G.1 0)), (1, .int x1)]) (by decide) rfl ?_
  refine z_lv C [3, 4, 2, 1, 0] (lv' := [(0, .ref (G.1 0)), (1, .int x1), (2, .int (-1 : Int32)), (3, .int (41 : Int32)), (4, .int (0 : Int32))]) rfl ?_
  exact zl_X4_cawOf_12 x1 C hR fu (μ2, (-1 : Int32), (41 : Int32), (0 : Int32)) hf
noncomputable def f_X4_caw (μ : MM) (x1 : Int32) : Option (MM × Int32) :=
 (nm (f_X4_isRook μ x1) fun v2 : Int32 =>
 (if v2 = 0 then
 (some (μ, (-101 : Int32)))
 else
 (bd2 (f_X4_cawOf μ x1) fun μ5 v6 =>
 (some (μ5, v6)))))
set_option maxHeartbeats 4000000 in
theorem c_X4_caw {l : Launch} {G : GW} {μ : MM} {x1 : Int32} {μ' : MM} {r : Int32} (hf : f_X4_caw μ x1 = some (μ', r)) : MZ l (YM G) yX4_caw cX4_caw 2 (some .int) { frames := 4, cells := 0, slots := 0, locals := 101 } [.ref (G.1 0), .int x1] μ μ' (some (.int r)) := by
  refine z_met RX4 rfl (by decide) (Nat.le_of_ble_eq_true rfl) (fun X hX C hR => ?_)
  show Z X (YM G) 2 μ 0 [(0, .ref (G.1 0)), (1, .int x1)] []
  unfold f_X4_caw at hf
  refine z_aload_n C 0 dX4_caw_0 rfl ?_
  refine z_iload_n C 1 dX4_caw_1 rfl ?_
  obtain ⟨v2, h1⟩ : ∃ z, z = f_X4_isRook μ x1 := ⟨_, rfl⟩
  replace hf := nm_e2 hf v2 h1
  refine z_callVi C (As := [.int x1]) (rest := []) (c_X4_isRook h1.symm) vw_X4_113 ⟨rfl, rfl, by decide, by decide⟩ (z_rv C (q0 := 0) (ci := 4) rfl rfl rfl) rfl (Nat.le_of_ble_eq_true rfl) dX4_caw_2 ?_
  refine z_if_eq C 16 dX4_caw_5 (by decide) (fun c3 => ?_) (fun c3 => ?_)
  · replace hf := it_t hf c3
    refine z_bipush C dX4_caw_16 (v := (-101 : Int32)) (by decide) ?_
    exact z_iret C hR dX4_caw_18 (rt2 hf).1 (rt2 hf).2
  · replace hf := it_f hf c3
    refine z_aload_n C 0 dX4_caw_8 rfl ?_
    refine z_iload_n C 1 dX4_caw_9 rfl ?_
    obtain ⟨μ5, v6, h4, hf⟩ := bd2_e hf
    refine z_callVi C (As := [.int x1]) (rest := []) (c_X4_cawOf h4) vw_X4_160 ⟨rfl, rfl, by decide, by decide⟩ (z_rv C (q0 := 0) (ci := 4) rfl rfl rfl) rfl (Nat.le_of_ble_eq_true rfl) dX4_caw_10 ?_
    refine z_goto C 18 dX4_caw_13 (by decide) ?_
    exact z_iret C hR dX4_caw_18 (rt2 hf).1 (rt2 hf).2
noncomputable def f_X4_draw (μ : MM) (x1 : Int32) : Option (MM × Int32) :=
 (nm ((((((1103515245 : Int64) * ((μ.1 0 21)).toInt64) + (12345 : Int64)) &&& (2147483647 : Int64))).toInt32) fun v1 : Int32 =>
 (nm (upM μ 0 21 v1) fun μ2 : MM =>
 (ck (¬ x1 = 0) <|
 (some (μ2, (((μ2.1 0 21) / (65536 : Int32)) - ((μ2.1 0 21) / (65536 : Int32)) / x1 * x1))))))
set_option maxHeartbeats 4000000 in
theorem c_X4_draw {l : Launch} {G : GW} {μ : MM} {x1 : Int32} {μ' : MM} {r : Int32} (hf : f_X4_draw μ x1 = some (μ', r)) : MZ l (YM G) yX4_draw cX4_draw 2 (some .int) { frames := 0, cells := 0, slots := 0, locals := 0 } [.ref (G.1 0), .int x1] μ μ' (some (.int r)) := by
  refine z_met RX4 rfl (by decide) (Nat.le_of_ble_eq_true rfl) (fun X hX C hR => ?_)
  show Z X (YM G) 2 μ 0 [(0, .ref (G.1 0)), (1, .int x1)] []
  unfold f_X4_draw at hf
  refine z_aload_n C 0 dX4_draw_0 rfl ?_
  refine z_ldc2 C dX4_draw_1 (v := (1103515245 : Int64)) (ww_in 853 (by decide +kernel) (by decide +kernel)) ?_
  refine z_aload_n C 0 dX4_draw_4 rfl ?_
  refine zg_X4_165_0 C dX4_draw_5 ?_
  refine z_i2l C dX4_draw_8 ?_
  refine z_lmul C dX4_draw_9 ?_
  refine z_ldc2 C dX4_draw_10 (v := (12345 : Int64)) (ww_in 854 (by decide +kernel) (by decide +kernel)) ?_
  refine z_ladd C dX4_draw_13 ?_
  refine z_ldc2 C dX4_draw_14 (v := (2147483647 : Int64)) (ww_in 855 (by decide +kernel) (by decide +kernel)) ?_
  refine z_land C dX4_draw_17 ?_
  refine z_l2i C dX4_draw_18 ?_
  refine z_topi (fun v1 ev1 => ?_)
  replace hf := nm_e2 hf v1 ev1
  refine zp_X4_165_0 C dX4_draw_19 ?_
  refine z_mem (fun μ2 eμ2 => ?_)
  replace hf := nm_e2 hf μ2 eμ2
  refine z_aload_n C 0 dX4_draw_22 rfl ?_
  refine zg_X4_165_0 C dX4_draw_23 ?_
  refine z_ldc C dX4_draw_26 (v := (65536 : Int32)) (ww_in 856 (by decide +kernel) (by decide +kernel)) ?_
  refine z_idiv C dX4_draw_28 (by decide) ?_
  refine z_iload_n C 1 dX4_draw_29 rfl ?_
  obtain ⟨h3, hf⟩ := ck_e hf
  refine z_irem C dX4_draw_30 h3 ?_
  exact z_iret C hR dX4_draw_31 (rt2 hf).1 (rt2 hf).2
noncomputable def g_X4_years_130 (μ : MM) (x3 : Int32) (x5 : Int32) (x6 : Int32) : Option (MM × Int32) :=
 (if x3 = 0 then
 (some (μ, x5))
 else
 (if x3 = (1 : Int32) then
 (some (μ, x6))
 else
 (some (μ, (μ.1 0 21)))))
set_option maxHeartbeats 4000000 in
theorem zj_X4_years_130 {X : ZX} {G : GW} {μ' : MM} {r : Int32} (μ : MM) (x3 : Int32) (x5 : Int32) (x6 : Int32) (C : CX X (YM G) cX4_years 11 RX4 { frames := 2, cells := 0, slots := 0, locals := 51 }) (hR : ZR X (YM G) (some .int) μ' (some (.int r))) (hf : g_X4_years_130 μ x3 x5 x6 = some (μ', r)) : Z X (YM G) 11 μ 130 [(0, .ref (G.1 0)), (3, .int x3), (5, .int x5), (6, .int x6)] [] := by
  unfold g_X4_years_130 at hf
  refine z_iload_n C 1 dX4_years_130 rfl ?_
  refine z_if_ne C 139 dX4_years_131 (by decide) (fun c16 => ?_) (fun c16 => ?_)
  · replace hf := it_f hf c16
    refine z_iload_n C 1 dX4_years_139 rfl ?_
    refine z_iconst C dX4_years_140 (v := (1 : Int32)) (by decide) ?_
    refine z_icmp_ne C 149 dX4_years_141 (by decide) (fun c17 => ?_) (fun c17 => ?_)
    · replace hf := it_f hf c17
      refine z_aload_n C 0 dX4_years_149 rfl ?_
      refine zg_X4_165_0 C dX4_years_150 ?_
      exact z_iret C hR dX4_years_153 (rt2 hf).1 (rt2 hf).2
    · replace hf := it_t hf c17
      refine z_iload C 3 dX4_years_144 rfl ?_
      refine z_goto C 153 dX4_years_146 (by decide) ?_
      exact z_iret C hR dX4_years_153 (rt2 hf).1 (rt2 hf).2
  · replace hf := it_t hf c16
    refine z_iload C 2 dX4_years_134 rfl ?_
    refine z_goto C 153 dX4_years_136 (by decide) ?_
    exact z_iret C hR dX4_years_153 (rt2 hf).1 (rt2 hf).2
noncomputable def g_X4_years_124 (μ : MM) (x1 : Int32) (x3 : Int32) (x4 : Int32) (x5 : Int32) (x6 : Int32) (x7 : Int32) (ih65 : MM × Int32 × Int32 × Int32 × Int32 → Option (MM × Int32)) : Option (MM × Int32) :=
 ih65 (μ, x4, x5, x6, (x7 + (1 : Int32)))
set_option maxHeartbeats 4000000 in
theorem zj_X4_years_124 {X : ZX} {G : GW} {μ' : MM} {r : Int32} (μ : MM) (x1 : Int32) (x3 : Int32) (x4 : Int32) (x5 : Int32) (x6 : Int32) (x7 : Int32) (C : CX X (YM G) cX4_years 11 RX4 { frames := 2, cells := 0, slots := 0, locals := 51 }) (hR : ZR X (YM G) (some .int) μ' (some (.int r))) (ih65 : MM × Int32 × Int32 × Int32 × Int32 → Option (MM × Int32)) (hih65 : ∀ σ, ih65 σ = some (μ', r) → Z X (YM G) 11 σ.1 65 [(0, .ref (G.1 0)), (1, .int x1), (3, .int x3), (4, .int σ.2.1), (5, .int σ.2.2.1), (6, .int σ.2.2.2.1), (7, .int σ.2.2.2.2)] []) (hf : g_X4_years_124 μ x1 x3 x4 x5 x6 x7 ih65 = some (μ', r)) : Z X (YM G) 11 μ 124 [(0, .ref (G.1 0)), (1, .int x1), (3, .int x3), (4, .int x4), (5, .int x5), (6, .int x6), (7, .int x7)] [] := by
  unfold g_X4_years_124 at hf
  refine z_iinc C 6 dX4_years_124 (v := (x7 + (1 : Int32))) (lv' := [(7, .int (x7 + (1 : Int32))), (0, .ref (G.1 0)), (1, .int x1), (3, .int x3), (4, .int x4), (5, .int x5), (6, .int x6)]) rfl rfl (by decide) rfl ?_
  refine z_goto C 65 dX4_years_127 (by decide) ?_
  refine z_lv C [1, 2, 3, 4, 5, 6, 0] (lv' := [(0, .ref (G.1 0)), (1, .int x1), (3, .int x3), (4, .int x4), (5, .int x5), (6, .int x6), (7, .int (x7 + (1 : Int32)))]) rfl ?_
  exact hih65 (μ, x4, x5, x6, (x7 + (1 : Int32))) hf
noncomputable def b_X4_years_65 (x1 : Int32) (x3 : Int32) (ih65 : MM × Int32 × Int32 × Int32 × Int32 → Option (MM × Int32)) (μ : MM) (x4 : Int32) (x5 : Int32) (x6 : Int32) (x7 : Int32) : Option (MM × Int32) :=
 (if x1 ≤ x7 then
 g_X4_years_130 μ x3 x5 x6
 else
 (bd2 (f_X4_draw μ (μ.1 0 6)) fun μ19 v20 =>
 (bd2 (f_X4_draw μ19 (8 : Int32)) fun μ22 v23 =>
 (bd (f_X4_comesOf μ22 v20 v23 x4) fun v25 =>
 (if v25 = v23 then
 (nm (((1 : Int32) - x4)) fun v27 : Int32 =>
 g_X4_years_124 μ22 x1 x3 v27 x5 x6 x7 ih65)
 else
 g_X4_years_124 μ22 x1 x3 x4 ((x5 + (1 : Int32))) v25 x7 ih65)))))
set_option maxHeartbeats 4000000 in
theorem zl_X4_years_65 {X : ZX} {G : GW} {μ' : MM} {r : Int32} (x1 : Int32) (x3 : Int32) (C : CX X (YM G) cX4_years 11 RX4 { frames := 2, cells := 0, slots := 0, locals := 51 }) (hR : ZR X (YM G) (some .int) μ' (some (.int r))) : ∀ (n : Nat) (σ : MM × Int32 × Int32 × Int32 × Int32), lp (fun ih σ => b_X4_years_65 x1 x3 ih σ.1 σ.2.1 σ.2.2.1 σ.2.2.2.1 σ.2.2.2.2) n σ = some (μ', r) → Z X (YM G) 11 σ.1 65 [(0, .ref (G.1 0)), (1, .int x1), (3, .int x3), (4, .int σ.2.1), (5, .int σ.2.2.1), (6, .int σ.2.2.2.1), (7, .int σ.2.2.2.2)] [] := by
  refine lp_z (P := fun σ : MM × Int32 × Int32 × Int32 × Int32 => Z X (YM G) 11 σ.1 65 [(0, .ref (G.1 0)), (1, .int x1), (3, .int x3), (4, .int σ.2.1), (5, .int σ.2.2.1), (6, .int σ.2.2.2.1), (7, .int σ.2.2.2.2)] []) (fun ih65 hih65 σ hf => ?_)
  obtain ⟨μ, x4, x5, x6, x7⟩ := σ
  have hf : b_X4_years_65 x1 x3 ih65 μ x4 x5 x6 x7 = some (μ', r) := hf
  show Z X (YM G) 11 μ 65 [(0, .ref (G.1 0)), (1, .int x1), (3, .int x3), (4, .int x4), (5, .int x5), (6, .int x6), (7, .int x7)] []
  unfold b_X4_years_65 at hf
  refine z_iload C 6 dX4_years_65 rfl ?_
  refine z_iload_n C 1 dX4_years_67 rfl ?_
  refine z_icmp_ge C 130 dX4_years_68 (by decide) (fun c15 => ?_) (fun c15 => ?_)
  · replace hf := it_t hf c15
    refine z_lv C [0, 2, 4, 5] (lv' := [(0, .ref (G.1 0)), (3, .int x3), (5, .int x5), (6, .int x6)]) rfl ?_
    exact zj_X4_years_130 μ x3 x5 x6 C hR hf
  · replace hf := it_f hf c15
    refine z_aload_n C 0 dX4_years_71 rfl ?_
    refine z_aload_n C 0 dX4_years_72 rfl ?_
    refine zg_X4_88_0 C dX4_years_73 ?_
    obtain ⟨μ19, v20, h18, hf⟩ := bd2_e hf
    refine z_callVi C (As := [.int (μ.1 0 6)]) (rest := []) (c_X4_draw h18) vw_X4_175 ⟨rfl, rfl, by decide, by decide⟩ (z_rv C (q0 := 0) (ci := 4) rfl rfl rfl) rfl (Nat.le_of_ble_eq_true rfl) dX4_years_76 ?_
    refine z_istore C dX4_years_79 (i := 8) (lv' := [(8, .int v20), (0, .ref (G.1 0)), (1, .int x1), (3, .int x3), (4, .int x4), (5, .int x5), (6, .int x6), (7, .int x7)]) (by decide) rfl ?_
    refine z_aload_n C 1 dX4_years_81 rfl ?_
    refine z_bipush C dX4_years_82 (v := (8 : Int32)) (by decide) ?_
    obtain ⟨μ22, v23, h21, hf⟩ := bd2_e hf
    refine z_callVi C (As := [.int (8 : Int32)]) (rest := []) (c_X4_draw h21) vw_X4_175 ⟨rfl, rfl, by decide, by decide⟩ (z_rv C (q0 := 0) (ci := 4) rfl rfl rfl) rfl (Nat.le_of_ble_eq_true rfl) dX4_years_84 ?_
    refine z_istore C dX4_years_87 (i := 9) (lv' := [(9, .int v23), (8, .int v20), (0, .ref (G.1 0)), (1, .int x1), (3, .int x3), (4, .int x4), (5, .int x5), (6, .int x6), (7, .int x7)]) (by decide) rfl ?_
    refine z_aload_n C 2 dX4_years_89 rfl ?_
    refine z_iload C 1 dX4_years_90 rfl ?_
    refine z_iload C 0 dX4_years_92 rfl ?_
    refine z_iload C 5 dX4_years_94 rfl ?_
    obtain ⟨v25, h24, hf⟩ := bd_e hf
    refine z_callVi C (As := [.int v20, .int v23, .int x4]) (rest := []) (c_X4_comesOf h24) vw_X4_132 ⟨rfl, rfl, by decide, by decide⟩ (z_rv C (q0 := 0) (ci := 4) rfl rfl rfl) rfl (Nat.le_of_ble_eq_true rfl) dX4_years_96 ?_
    refine z_istore C dX4_years_99 (i := 10) (lv' := [(10, .int v25), (9, .int v23), (8, .int v20), (0, .ref (G.1 0)), (1, .int x1), (3, .int x3), (4, .int x4), (5, .int x5), (6, .int x6), (7, .int x7)]) (by decide) rfl ?_
    refine z_iload C 0 dX4_years_101 rfl ?_
    refine z_iload C 1 dX4_years_103 rfl ?_
    refine z_icmp_ne C 117 dX4_years_105 (by decide) (fun c26 => ?_) (fun c26 => ?_)
    · replace hf := it_f hf c26
      refine z_iinc C 7 dX4_years_117 (v := (x5 + (1 : Int32))) (lv' := [(5, .int (x5 + (1 : Int32))), (10, .int v25), (9, .int v23), (8, .int v20), (0, .ref (G.1 0)), (1, .int x1), (3, .int x3), (4, .int x4), (6, .int x6), (7, .int x7)]) rfl rfl (by decide) rfl ?_
      refine z_iload C 1 dX4_years_120 rfl ?_
      refine z_istore C dX4_years_122 (i := 6) (lv' := [(6, .int v25), (5, .int (x5 + (1 : Int32))), (10, .int v25), (9, .int v23), (8, .int v20), (0, .ref (G.1 0)), (1, .int x1), (3, .int x3), (4, .int x4), (7, .int x7)]) (by decide) rfl ?_
      refine z_lv C [5, 6, 7, 8, 1, 0, 9] (lv' := [(0, .ref (G.1 0)), (1, .int x1), (3, .int x3), (4, .int x4), (5, .int (x5 + (1 : Int32))), (6, .int v25), (7, .int x7)]) rfl ?_
      exact zj_X4_years_124 μ22 x1 x3 x4 ((x5 + (1 : Int32))) v25 x7 C hR ih65 hih65 hf
    · replace hf := it_t hf c26
      refine z_iconst C dX4_years_108 (v := (1 : Int32)) (by decide) ?_
      refine z_iload C 6 dX4_years_109 rfl ?_
      refine z_isub C dX4_years_111 ?_
      refine z_topi (fun v27 ev27 => ?_)
      replace hf := nm_e2 hf v27 ev27
      refine z_istore C dX4_years_112 (i := 4) (lv' := [(4, .int v27), (10, .int v25), (9, .int v23), (8, .int v20), (0, .ref (G.1 0)), (1, .int x1), (3, .int x3), (5, .int x5), (6, .int x6), (7, .int x7)]) (by decide) rfl ?_
      refine z_goto C 124 dX4_years_114 (by decide) ?_
      refine z_lv C [4, 5, 6, 0, 7, 8, 9] (lv' := [(0, .ref (G.1 0)), (1, .int x1), (3, .int x3), (4, .int v27), (5, .int x5), (6, .int x6), (7, .int x7)]) rfl ?_
      exact zj_X4_years_124 μ22 x1 x3 v27 x5 x6 x7 C hR ih65 hih65 hf
noncomputable def f_X4_years (μ : MM) (x1 : Int32) (x2 : Int32) (x3 : Int32) : Option (MM × Int32) :=
 (nm (f_X4_in μ (x1).toInt64 (1 : Int64) (60 : Int64)) fun v2 : Int32 =>
 (if v2 = 0 then
 (some (μ, (-102 : Int32)))
 else
 (if x2 < 0 then
 (some (μ, (-102 : Int32)))
 else
 (nm (f_X4_in μ (x3).toInt64 (0 : Int64) (2 : Int64)) fun v6 : Int32 =>
 (if v6 = 0 then
 (some (μ, (-102 : Int32)))
 else
 (nm (f_X4_lacks μ) fun v9 : Int32 =>
 (if v9 = 0 then
 (bd (f_X4_asTheySit μ) fun μ12 =>
 (nm (upM μ12 0 21 x2) fun μ13 : MM =>
 (nm ((μ13.1 0 7)) fun v14 : Int32 =>
 lp (fun ih σ => b_X4_years_65 x1 x3 ih σ.1 σ.2.1 σ.2.2.1 σ.2.2.2.1 σ.2.2.2.2) fu (μ13, v14, (0 : Int32), (-1 : Int32), (0 : Int32)))))
 else
 (some (μ, (-103 : Int32))))))))))
set_option maxHeartbeats 4000000 in
theorem c_X4_years {l : Launch} {G : GW} {μ : MM} {x1 : Int32} {x2 : Int32} {x3 : Int32} {μ' : MM} {r : Int32} (hf : f_X4_years μ x1 x2 x3 = some (μ', r)) : MZ l (YM G) yX4_years cX4_years 11 (some .int) { frames := 2, cells := 0, slots := 0, locals := 51 } [.ref (G.1 0), .int x1, .int x2, .int x3] μ μ' (some (.int r)) := by
  refine z_met RX4 rfl (by decide) (Nat.le_of_ble_eq_true rfl) (fun X hX C hR => ?_)
  show Z X (YM G) 11 μ 0 [(0, .ref (G.1 0)), (1, .int x1), (2, .int x2), (3, .int x3)] []
  unfold f_X4_years at hf
  refine z_iload_n C 1 dX4_years_0 rfl ?_
  refine z_i2l C dX4_years_1 ?_
  refine z_lconst C dX4_years_2 (v := (1 : Int64)) (by decide) ?_
  refine z_ldc2 C dX4_years_3 (v := (60 : Int64)) (ww_in 848 (by decide +kernel) (by decide +kernel)) ?_
  obtain ⟨v2, h1⟩ : ∃ z, z = f_X4_in μ (x1).toInt64 (1 : Int64) (60 : Int64) := ⟨_, rfl⟩
  replace hf := nm_e2 hf v2 h1
  refine z_callSi C (As := [.long (x1).toInt64, .long (1 : Int64), .long (60 : Int64)]) (rest := []) (c_X4_in h1.symm) sw_X4_58 ⟨rfl, rfl, by decide, by decide⟩ rfl (Nat.le_of_ble_eq_true rfl) dX4_years_6 ?_
  refine z_if_eq C 28 dX4_years_9 (by decide) (fun c3 => ?_) (fun c3 => ?_)
  · replace hf := it_t hf c3
    refine z_bipush C dX4_years_28 (v := (-102 : Int32)) (by decide) ?_
    exact z_iret C hR dX4_years_30 (rt2 hf).1 (rt2 hf).2
  · replace hf := it_f hf c3
    refine z_iload_n C 2 dX4_years_12 rfl ?_
    refine z_if_lt C 28 dX4_years_13 (by decide) (fun c4 => ?_) (fun c4 => ?_)
    · replace hf := it_t hf c4
      refine z_bipush C dX4_years_28 (v := (-102 : Int32)) (by decide) ?_
      exact z_iret C hR dX4_years_30 (rt2 hf).1 (rt2 hf).2
    · replace hf := it_f hf c4
      refine z_iload_n C 3 dX4_years_16 rfl ?_
      refine z_i2l C dX4_years_17 ?_
      refine z_lconst C dX4_years_18 (v := (0 : Int64)) (by decide) ?_
      refine z_ldc2 C dX4_years_19 (v := (2 : Int64)) (ww_in 796 (by decide +kernel) (by decide +kernel)) ?_
      obtain ⟨v6, h5⟩ : ∃ z, z = f_X4_in μ (x3).toInt64 (0 : Int64) (2 : Int64) := ⟨_, rfl⟩
      replace hf := nm_e2 hf v6 h5
      refine z_callSi C (As := [.long (x3).toInt64, .long (0 : Int64), .long (2 : Int64)]) (rest := []) (c_X4_in h5.symm) sw_X4_58 ⟨rfl, rfl, by decide, by decide⟩ rfl (Nat.le_of_ble_eq_true rfl) dX4_years_22 ?_
      refine z_if_ne C 31 dX4_years_25 (by decide) (fun c7 => ?_) (fun c7 => ?_)
      · replace hf := it_f hf c7
        refine z_aload_n C 0 dX4_years_31 rfl ?_
        obtain ⟨v9, h8⟩ : ∃ z, z = f_X4_lacks μ := ⟨_, rfl⟩
        replace hf := nm_e2 hf v9 h8
        refine z_callVi C (As := []) (rest := []) (c_X4_lacks h8.symm) vw_X4_122 ⟨rfl, rfl, by decide, by decide⟩ (z_rv C (q0 := 0) (ci := 4) rfl rfl rfl) rfl (Nat.le_of_ble_eq_true rfl) dX4_years_32 ?_
        refine z_if_eq C 41 dX4_years_35 (by decide) (fun c10 => ?_) (fun c10 => ?_)
        · replace hf := it_t hf c10
          refine z_aload_n C 0 dX4_years_41 rfl ?_
          obtain ⟨μ12, h11, hf⟩ := bd_e hf
          refine z_callVv C (As := []) (rest := []) (c_X4_asTheySit h11) vw_X4_129 ⟨rfl, rfl, by decide, by decide⟩ (z_rv C (q0 := 0) (ci := 4) rfl rfl rfl) rfl (Nat.le_of_ble_eq_true rfl) dX4_years_42 ?_
          refine z_aload_n C 0 dX4_years_45 rfl ?_
          refine z_iload_n C 2 dX4_years_46 rfl ?_
          refine zp_X4_165_0 C dX4_years_47 ?_
          refine z_mem (fun μ13 eμ13 => ?_)
          replace hf := nm_e2 hf μ13 eμ13
          refine z_aload_n C 0 dX4_years_50 rfl ?_
          refine zg_X4_91_0 C dX4_years_51 ?_
          refine z_topi (fun v14 ev14 => ?_)
          replace hf := nm_e2 hf v14 ev14
          refine z_istore C dX4_years_54 (i := 4) (lv' := [(4, .int v14), (0, .ref (G.1 0)), (1, .int x1), (2, .int x2), (3, .int x3)]) (by decide) rfl ?_
          refine z_iconst C dX4_years_56 (v := (0 : Int32)) (by decide) ?_
          refine z_istore C dX4_years_57 (i := 5) (lv' := [(5, .int (0 : Int32)), (4, .int v14), (0, .ref (G.1 0)), (1, .int x1), (2, .int x2), (3, .int x3)]) (by decide) rfl ?_
          refine z_iconst C dX4_years_59 (v := (-1 : Int32)) (by decide) ?_
          refine z_istore C dX4_years_60 (i := 6) (lv' := [(6, .int (-1 : Int32)), (5, .int (0 : Int32)), (4, .int v14), (0, .ref (G.1 0)), (1, .int x1), (2, .int x2), (3, .int x3)]) (by decide) rfl ?_
          refine z_iconst C dX4_years_62 (v := (0 : Int32)) (by decide) ?_
          refine z_istore C dX4_years_63 (i := 7) (lv' := [(7, .int (0 : Int32)), (6, .int (-1 : Int32)), (5, .int (0 : Int32)), (4, .int v14), (0, .ref (G.1 0)), (1, .int x1), (2, .int x2), (3, .int x3)]) (by decide) rfl ?_
          refine z_lv C [4, 5, 7, 3, 2, 1, 0] (lv' := [(0, .ref (G.1 0)), (1, .int x1), (3, .int x3), (4, .int v14), (5, .int (0 : Int32)), (6, .int (-1 : Int32)), (7, .int (0 : Int32))]) rfl ?_
          exact zl_X4_years_65 x1 x3 C hR fu (μ13, v14, (0 : Int32), (-1 : Int32), (0 : Int32)) hf
        · replace hf := it_f hf c10
          refine z_bipush C dX4_years_38 (v := (-103 : Int32)) (by decide) ?_
          exact z_iret C hR dX4_years_40 (rt2 hf).1 (rt2 hf).2
      · replace hf := it_t hf c7
        refine z_bipush C dX4_years_28 (v := (-102 : Int32)) (by decide) ?_
        exact z_iret C hR dX4_years_30 (rt2 hf).1 (rt2 hf).2
noncomputable def b_X4_copy_3_11_2 (ih2 : MM × Int32 → Option MM) (μ : MM) (x2 : Int32) : Option MM :=
 (if (24 : Int32) ≤ x2 then
 (some (μ))
 else
 (ck (vp_in x2 24) <|
 (nm ((μ.1 3 (x2).toNatClampNeg)) fun v3 : Int32 =>
 (nm (upM μ 11 (x2).toNatClampNeg v3) fun μ4 : MM =>
 ih2 (μ4, (x2 + (1 : Int32)))))))
set_option maxHeartbeats 4000000 in
theorem zl_X4_copy_3_11_2 {X : ZX} {G : GW} {μ' : MM} (C : CX X (YM G) cX4_copy 3 RX4 { frames := 0, cells := 0, slots := 0, locals := 0 }) (hR : ZR X (YM G) none μ' none) : ∀ (n : Nat) (σ : MM × Int32), lp (fun ih σ => b_X4_copy_3_11_2 ih σ.1 σ.2) n σ = some μ' → Z X (YM G) 3 σ.1 2 [(0, .ref (G.1 3)), (1, .ref (G.1 11)), (2, .int σ.2)] [] := by
  refine lp_z (P := fun σ : MM × Int32 => Z X (YM G) 3 σ.1 2 [(0, .ref (G.1 3)), (1, .ref (G.1 11)), (2, .int σ.2)] []) (fun ih2 hih2 σ hf => ?_)
  obtain ⟨μ, x2⟩ := σ
  have hf : b_X4_copy_3_11_2 ih2 μ x2 = some μ' := hf
  show Z X (YM G) 3 μ 2 [(0, .ref (G.1 3)), (1, .ref (G.1 11)), (2, .int x2)] []
  unfold b_X4_copy_3_11_2 at hf
  refine z_iload_n C 2 dX4_copy_2 rfl ?_
  refine z_aload_n C 0 dX4_copy_3 rfl ?_
  refine zMn_3 C dX4_copy_4 ?_
  refine z_icmp_ge C 20 dX4_copy_5 (by decide) (fun c1 => ?_) (fun c1 => ?_)
  · replace hf := it_t hf c1
    exact z_vret C hR dX4_copy_20 (rt1 hf)
  · replace hf := it_f hf c1
    refine z_aload_n C 1 dX4_copy_8 rfl ?_
    refine z_iload_n C 2 dX4_copy_9 rfl ?_
    refine z_aload_n C 0 dX4_copy_10 rfl ?_
    refine z_iload_n C 2 dX4_copy_11 rfl ?_
    obtain ⟨h2, hf⟩ := ck_e hf
    refine zMl_3 C dX4_copy_12 h2 ?_
    refine z_topi (fun v3 ev3 => ?_)
    replace hf := nm_e2 hf v3 ev3
    refine zMs_11 C dX4_copy_13 h2 ?_
    refine z_mem (fun μ4 eμ4 => ?_)
    replace hf := nm_e2 hf μ4 eμ4
    refine z_iinc C 2 dX4_copy_14 (v := (x2 + (1 : Int32))) (lv' := [(2, .int (x2 + (1 : Int32))), (0, .ref (G.1 3)), (1, .ref (G.1 11))]) rfl rfl (by decide) rfl ?_
    refine z_goto C 2 dX4_copy_17 (by decide) ?_
    refine z_lv C [1, 2, 0] (lv' := [(0, .ref (G.1 3)), (1, .ref (G.1 11)), (2, .int (x2 + (1 : Int32)))]) rfl ?_
    exact hih2 (μ4, (x2 + (1 : Int32))) hf
noncomputable def f_X4_copy_3_11 (μ : MM) : Option MM :=
 lp (fun ih σ => b_X4_copy_3_11_2 ih σ.1 σ.2) fu (μ, (0 : Int32))
set_option maxHeartbeats 4000000 in
theorem c_X4_copy_3_11 {l : Launch} {G : GW} {μ : MM} {μ' : MM} (hf : f_X4_copy_3_11 μ = some μ') : MZ l (YM G) yX4_copy cX4_copy 3 none { frames := 0, cells := 0, slots := 0, locals := 0 } [.ref (G.1 3), .ref (G.1 11)] μ μ' none := by
  refine z_met RX4 rfl (by decide) (Nat.le_of_ble_eq_true rfl) (fun X hX C hR => ?_)
  show Z X (YM G) 3 μ 0 [(0, .ref (G.1 3)), (1, .ref (G.1 11))] []
  unfold f_X4_copy_3_11 at hf
  refine z_iconst C dX4_copy_0 (v := (0 : Int32)) (by decide) ?_
  refine z_istore_n C dX4_copy_1 (i := 2) (lv' := [(2, .int (0 : Int32)), (0, .ref (G.1 3)), (1, .ref (G.1 11))]) rfl (by decide) rfl ?_
  refine z_lv C [1, 2, 0] (lv' := [(0, .ref (G.1 3)), (1, .ref (G.1 11)), (2, .int (0 : Int32))]) rfl ?_
  exact zl_X4_copy_3_11_2 C hR fu (μ, (0 : Int32)) hf
noncomputable def b_X4_copy_4_12_2 (ih2 : MM × Int32 → Option MM) (μ : MM) (x2 : Int32) : Option MM :=
 (if (6 : Int32) ≤ x2 then
 (some (μ))
 else
 (ck (vp_in x2 6) <|
 (nm ((μ.1 4 (x2).toNatClampNeg)) fun v3 : Int32 =>
 (nm (upM μ 12 (x2).toNatClampNeg v3) fun μ4 : MM =>
 ih2 (μ4, (x2 + (1 : Int32)))))))
set_option maxHeartbeats 4000000 in
theorem zl_X4_copy_4_12_2 {X : ZX} {G : GW} {μ' : MM} (C : CX X (YM G) cX4_copy 3 RX4 { frames := 0, cells := 0, slots := 0, locals := 0 }) (hR : ZR X (YM G) none μ' none) : ∀ (n : Nat) (σ : MM × Int32), lp (fun ih σ => b_X4_copy_4_12_2 ih σ.1 σ.2) n σ = some μ' → Z X (YM G) 3 σ.1 2 [(0, .ref (G.1 4)), (1, .ref (G.1 12)), (2, .int σ.2)] [] := by
  refine lp_z (P := fun σ : MM × Int32 => Z X (YM G) 3 σ.1 2 [(0, .ref (G.1 4)), (1, .ref (G.1 12)), (2, .int σ.2)] []) (fun ih2 hih2 σ hf => ?_)
  obtain ⟨μ, x2⟩ := σ
  have hf : b_X4_copy_4_12_2 ih2 μ x2 = some μ' := hf
  show Z X (YM G) 3 μ 2 [(0, .ref (G.1 4)), (1, .ref (G.1 12)), (2, .int x2)] []
  unfold b_X4_copy_4_12_2 at hf
  refine z_iload_n C 2 dX4_copy_2 rfl ?_
  refine z_aload_n C 0 dX4_copy_3 rfl ?_
  refine zMn_4 C dX4_copy_4 ?_
  refine z_icmp_ge C 20 dX4_copy_5 (by decide) (fun c1 => ?_) (fun c1 => ?_)
  · replace hf := it_t hf c1
    exact z_vret C hR dX4_copy_20 (rt1 hf)
  · replace hf := it_f hf c1
    refine z_aload_n C 1 dX4_copy_8 rfl ?_
    refine z_iload_n C 2 dX4_copy_9 rfl ?_
    refine z_aload_n C 0 dX4_copy_10 rfl ?_
    refine z_iload_n C 2 dX4_copy_11 rfl ?_
    obtain ⟨h2, hf⟩ := ck_e hf
    refine zMl_4 C dX4_copy_12 h2 ?_
    refine z_topi (fun v3 ev3 => ?_)
    replace hf := nm_e2 hf v3 ev3
    refine zMs_12 C dX4_copy_13 h2 ?_
    refine z_mem (fun μ4 eμ4 => ?_)
    replace hf := nm_e2 hf μ4 eμ4
    refine z_iinc C 2 dX4_copy_14 (v := (x2 + (1 : Int32))) (lv' := [(2, .int (x2 + (1 : Int32))), (0, .ref (G.1 4)), (1, .ref (G.1 12))]) rfl rfl (by decide) rfl ?_
    refine z_goto C 2 dX4_copy_17 (by decide) ?_
    refine z_lv C [1, 2, 0] (lv' := [(0, .ref (G.1 4)), (1, .ref (G.1 12)), (2, .int (x2 + (1 : Int32)))]) rfl ?_
    exact hih2 (μ4, (x2 + (1 : Int32))) hf
noncomputable def f_X4_copy_4_12 (μ : MM) : Option MM :=
 lp (fun ih σ => b_X4_copy_4_12_2 ih σ.1 σ.2) fu (μ, (0 : Int32))
set_option maxHeartbeats 4000000 in
theorem c_X4_copy_4_12 {l : Launch} {G : GW} {μ : MM} {μ' : MM} (hf : f_X4_copy_4_12 μ = some μ') : MZ l (YM G) yX4_copy cX4_copy 3 none { frames := 0, cells := 0, slots := 0, locals := 0 } [.ref (G.1 4), .ref (G.1 12)] μ μ' none := by
  refine z_met RX4 rfl (by decide) (Nat.le_of_ble_eq_true rfl) (fun X hX C hR => ?_)
  show Z X (YM G) 3 μ 0 [(0, .ref (G.1 4)), (1, .ref (G.1 12))] []
  unfold f_X4_copy_4_12 at hf
  refine z_iconst C dX4_copy_0 (v := (0 : Int32)) (by decide) ?_
  refine z_istore_n C dX4_copy_1 (i := 2) (lv' := [(2, .int (0 : Int32)), (0, .ref (G.1 4)), (1, .ref (G.1 12))]) rfl (by decide) rfl ?_
  refine z_lv C [1, 2, 0] (lv' := [(0, .ref (G.1 4)), (1, .ref (G.1 12)), (2, .int (0 : Int32))]) rfl ?_
  exact zl_X4_copy_4_12_2 C hR fu (μ, (0 : Int32)) hf
noncomputable def b_X4_copy_9_13_2 (ih2 : MM × Int32 → Option MM) (μ : MM) (x2 : Int32) : Option MM :=
 (if (24 : Int32) ≤ x2 then
 (some (μ))
 else
 (ck (vp_in x2 24) <|
 (nm ((μ.1 9 (x2).toNatClampNeg)) fun v3 : Int32 =>
 (nm (upM μ 13 (x2).toNatClampNeg v3) fun μ4 : MM =>
 ih2 (μ4, (x2 + (1 : Int32)))))))
set_option maxHeartbeats 4000000 in
theorem zl_X4_copy_9_13_2 {X : ZX} {G : GW} {μ' : MM} (C : CX X (YM G) cX4_copy 3 RX4 { frames := 0, cells := 0, slots := 0, locals := 0 }) (hR : ZR X (YM G) none μ' none) : ∀ (n : Nat) (σ : MM × Int32), lp (fun ih σ => b_X4_copy_9_13_2 ih σ.1 σ.2) n σ = some μ' → Z X (YM G) 3 σ.1 2 [(0, .ref (G.1 9)), (1, .ref (G.1 13)), (2, .int σ.2)] [] := by
  refine lp_z (P := fun σ : MM × Int32 => Z X (YM G) 3 σ.1 2 [(0, .ref (G.1 9)), (1, .ref (G.1 13)), (2, .int σ.2)] []) (fun ih2 hih2 σ hf => ?_)
  obtain ⟨μ, x2⟩ := σ
  have hf : b_X4_copy_9_13_2 ih2 μ x2 = some μ' := hf
  show Z X (YM G) 3 μ 2 [(0, .ref (G.1 9)), (1, .ref (G.1 13)), (2, .int x2)] []
  unfold b_X4_copy_9_13_2 at hf
  refine z_iload_n C 2 dX4_copy_2 rfl ?_
  refine z_aload_n C 0 dX4_copy_3 rfl ?_
  refine zMn_9 C dX4_copy_4 ?_
  refine z_icmp_ge C 20 dX4_copy_5 (by decide) (fun c1 => ?_) (fun c1 => ?_)
  · replace hf := it_t hf c1
    exact z_vret C hR dX4_copy_20 (rt1 hf)
  · replace hf := it_f hf c1
    refine z_aload_n C 1 dX4_copy_8 rfl ?_
    refine z_iload_n C 2 dX4_copy_9 rfl ?_
    refine z_aload_n C 0 dX4_copy_10 rfl ?_
    refine z_iload_n C 2 dX4_copy_11 rfl ?_
    obtain ⟨h2, hf⟩ := ck_e hf
    refine zMl_9 C dX4_copy_12 h2 ?_
    refine z_topi (fun v3 ev3 => ?_)
    replace hf := nm_e2 hf v3 ev3
    refine zMs_13 C dX4_copy_13 h2 ?_
    refine z_mem (fun μ4 eμ4 => ?_)
    replace hf := nm_e2 hf μ4 eμ4
    refine z_iinc C 2 dX4_copy_14 (v := (x2 + (1 : Int32))) (lv' := [(2, .int (x2 + (1 : Int32))), (0, .ref (G.1 9)), (1, .ref (G.1 13))]) rfl rfl (by decide) rfl ?_
    refine z_goto C 2 dX4_copy_17 (by decide) ?_
    refine z_lv C [1, 2, 0] (lv' := [(0, .ref (G.1 9)), (1, .ref (G.1 13)), (2, .int (x2 + (1 : Int32)))]) rfl ?_
    exact hih2 (μ4, (x2 + (1 : Int32))) hf
noncomputable def f_X4_copy_9_13 (μ : MM) : Option MM :=
 lp (fun ih σ => b_X4_copy_9_13_2 ih σ.1 σ.2) fu (μ, (0 : Int32))
set_option maxHeartbeats 4000000 in
theorem c_X4_copy_9_13 {l : Launch} {G : GW} {μ : MM} {μ' : MM} (hf : f_X4_copy_9_13 μ = some μ') : MZ l (YM G) yX4_copy cX4_copy 3 none { frames := 0, cells := 0, slots := 0, locals := 0 } [.ref (G.1 9), .ref (G.1 13)] μ μ' none := by
  refine z_met RX4 rfl (by decide) (Nat.le_of_ble_eq_true rfl) (fun X hX C hR => ?_)
  show Z X (YM G) 3 μ 0 [(0, .ref (G.1 9)), (1, .ref (G.1 13))] []
  unfold f_X4_copy_9_13 at hf
  refine z_iconst C dX4_copy_0 (v := (0 : Int32)) (by decide) ?_
  refine z_istore_n C dX4_copy_1 (i := 2) (lv' := [(2, .int (0 : Int32)), (0, .ref (G.1 9)), (1, .ref (G.1 13))]) rfl (by decide) rfl ?_
  refine z_lv C [1, 2, 0] (lv' := [(0, .ref (G.1 9)), (1, .ref (G.1 13)), (2, .int (0 : Int32))]) rfl ?_
  exact zl_X4_copy_9_13_2 C hR fu (μ, (0 : Int32)) hf
noncomputable def b_X4_copy_11_3_2 (ih2 : MM × Int32 → Option MM) (μ : MM) (x2 : Int32) : Option MM :=
 (if (24 : Int32) ≤ x2 then
 (some (μ))
 else
 (ck (vp_in x2 24) <|
 (nm ((μ.1 11 (x2).toNatClampNeg)) fun v3 : Int32 =>
 (nm (upM μ 3 (x2).toNatClampNeg v3) fun μ4 : MM =>
 ih2 (μ4, (x2 + (1 : Int32)))))))
set_option maxHeartbeats 4000000 in
theorem zl_X4_copy_11_3_2 {X : ZX} {G : GW} {μ' : MM} (C : CX X (YM G) cX4_copy 3 RX4 { frames := 0, cells := 0, slots := 0, locals := 0 }) (hR : ZR X (YM G) none μ' none) : ∀ (n : Nat) (σ : MM × Int32), lp (fun ih σ => b_X4_copy_11_3_2 ih σ.1 σ.2) n σ = some μ' → Z X (YM G) 3 σ.1 2 [(0, .ref (G.1 11)), (1, .ref (G.1 3)), (2, .int σ.2)] [] := by
  refine lp_z (P := fun σ : MM × Int32 => Z X (YM G) 3 σ.1 2 [(0, .ref (G.1 11)), (1, .ref (G.1 3)), (2, .int σ.2)] []) (fun ih2 hih2 σ hf => ?_)
  obtain ⟨μ, x2⟩ := σ
  have hf : b_X4_copy_11_3_2 ih2 μ x2 = some μ' := hf
  show Z X (YM G) 3 μ 2 [(0, .ref (G.1 11)), (1, .ref (G.1 3)), (2, .int x2)] []
  unfold b_X4_copy_11_3_2 at hf
  refine z_iload_n C 2 dX4_copy_2 rfl ?_
  refine z_aload_n C 0 dX4_copy_3 rfl ?_
  refine zMn_11 C dX4_copy_4 ?_
  refine z_icmp_ge C 20 dX4_copy_5 (by decide) (fun c1 => ?_) (fun c1 => ?_)
  · replace hf := it_t hf c1
    exact z_vret C hR dX4_copy_20 (rt1 hf)
  · replace hf := it_f hf c1
    refine z_aload_n C 1 dX4_copy_8 rfl ?_
    refine z_iload_n C 2 dX4_copy_9 rfl ?_
    refine z_aload_n C 0 dX4_copy_10 rfl ?_
    refine z_iload_n C 2 dX4_copy_11 rfl ?_
    obtain ⟨h2, hf⟩ := ck_e hf
    refine zMl_11 C dX4_copy_12 h2 ?_
    refine z_topi (fun v3 ev3 => ?_)
    replace hf := nm_e2 hf v3 ev3
    refine zMs_3 C dX4_copy_13 h2 ?_
    refine z_mem (fun μ4 eμ4 => ?_)
    replace hf := nm_e2 hf μ4 eμ4
    refine z_iinc C 2 dX4_copy_14 (v := (x2 + (1 : Int32))) (lv' := [(2, .int (x2 + (1 : Int32))), (0, .ref (G.1 11)), (1, .ref (G.1 3))]) rfl rfl (by decide) rfl ?_
    refine z_goto C 2 dX4_copy_17 (by decide) ?_
    refine z_lv C [1, 2, 0] (lv' := [(0, .ref (G.1 11)), (1, .ref (G.1 3)), (2, .int (x2 + (1 : Int32)))]) rfl ?_
    exact hih2 (μ4, (x2 + (1 : Int32))) hf
noncomputable def f_X4_copy_11_3 (μ : MM) : Option MM :=
 lp (fun ih σ => b_X4_copy_11_3_2 ih σ.1 σ.2) fu (μ, (0 : Int32))
set_option maxHeartbeats 4000000 in
theorem c_X4_copy_11_3 {l : Launch} {G : GW} {μ : MM} {μ' : MM} (hf : f_X4_copy_11_3 μ = some μ') : MZ l (YM G) yX4_copy cX4_copy 3 none { frames := 0, cells := 0, slots := 0, locals := 0 } [.ref (G.1 11), .ref (G.1 3)] μ μ' none := by
  refine z_met RX4 rfl (by decide) (Nat.le_of_ble_eq_true rfl) (fun X hX C hR => ?_)
  show Z X (YM G) 3 μ 0 [(0, .ref (G.1 11)), (1, .ref (G.1 3))] []
  unfold f_X4_copy_11_3 at hf
  refine z_iconst C dX4_copy_0 (v := (0 : Int32)) (by decide) ?_
  refine z_istore_n C dX4_copy_1 (i := 2) (lv' := [(2, .int (0 : Int32)), (0, .ref (G.1 11)), (1, .ref (G.1 3))]) rfl (by decide) rfl ?_
  refine z_lv C [1, 2, 0] (lv' := [(0, .ref (G.1 11)), (1, .ref (G.1 3)), (2, .int (0 : Int32))]) rfl ?_
  exact zl_X4_copy_11_3_2 C hR fu (μ, (0 : Int32)) hf
noncomputable def b_X4_copy_12_4_2 (ih2 : MM × Int32 → Option MM) (μ : MM) (x2 : Int32) : Option MM :=
 (if (6 : Int32) ≤ x2 then
 (some (μ))
 else
 (ck (vp_in x2 6) <|
 (nm ((μ.1 12 (x2).toNatClampNeg)) fun v3 : Int32 =>
 (nm (upM μ 4 (x2).toNatClampNeg v3) fun μ4 : MM =>
 ih2 (μ4, (x2 + (1 : Int32)))))))
set_option maxHeartbeats 4000000 in
theorem zl_X4_copy_12_4_2 {X : ZX} {G : GW} {μ' : MM} (C : CX X (YM G) cX4_copy 3 RX4 { frames := 0, cells := 0, slots := 0, locals := 0 }) (hR : ZR X (YM G) none μ' none) : ∀ (n : Nat) (σ : MM × Int32), lp (fun ih σ => b_X4_copy_12_4_2 ih σ.1 σ.2) n σ = some μ' → Z X (YM G) 3 σ.1 2 [(0, .ref (G.1 12)), (1, .ref (G.1 4)), (2, .int σ.2)] [] := by
  refine lp_z (P := fun σ : MM × Int32 => Z X (YM G) 3 σ.1 2 [(0, .ref (G.1 12)), (1, .ref (G.1 4)), (2, .int σ.2)] []) (fun ih2 hih2 σ hf => ?_)
  obtain ⟨μ, x2⟩ := σ
  have hf : b_X4_copy_12_4_2 ih2 μ x2 = some μ' := hf
  show Z X (YM G) 3 μ 2 [(0, .ref (G.1 12)), (1, .ref (G.1 4)), (2, .int x2)] []
  unfold b_X4_copy_12_4_2 at hf
  refine z_iload_n C 2 dX4_copy_2 rfl ?_
  refine z_aload_n C 0 dX4_copy_3 rfl ?_
  refine zMn_12 C dX4_copy_4 ?_
  refine z_icmp_ge C 20 dX4_copy_5 (by decide) (fun c1 => ?_) (fun c1 => ?_)
  · replace hf := it_t hf c1
    exact z_vret C hR dX4_copy_20 (rt1 hf)
  · replace hf := it_f hf c1
    refine z_aload_n C 1 dX4_copy_8 rfl ?_
    refine z_iload_n C 2 dX4_copy_9 rfl ?_
    refine z_aload_n C 0 dX4_copy_10 rfl ?_
    refine z_iload_n C 2 dX4_copy_11 rfl ?_
    obtain ⟨h2, hf⟩ := ck_e hf
    refine zMl_12 C dX4_copy_12 h2 ?_
    refine z_topi (fun v3 ev3 => ?_)
    replace hf := nm_e2 hf v3 ev3
    refine zMs_4 C dX4_copy_13 h2 ?_
    refine z_mem (fun μ4 eμ4 => ?_)
    replace hf := nm_e2 hf μ4 eμ4
    refine z_iinc C 2 dX4_copy_14 (v := (x2 + (1 : Int32))) (lv' := [(2, .int (x2 + (1 : Int32))), (0, .ref (G.1 12)), (1, .ref (G.1 4))]) rfl rfl (by decide) rfl ?_
    refine z_goto C 2 dX4_copy_17 (by decide) ?_
    refine z_lv C [1, 2, 0] (lv' := [(0, .ref (G.1 12)), (1, .ref (G.1 4)), (2, .int (x2 + (1 : Int32)))]) rfl ?_
    exact hih2 (μ4, (x2 + (1 : Int32))) hf
noncomputable def f_X4_copy_12_4 (μ : MM) : Option MM :=
 lp (fun ih σ => b_X4_copy_12_4_2 ih σ.1 σ.2) fu (μ, (0 : Int32))
set_option maxHeartbeats 4000000 in
theorem c_X4_copy_12_4 {l : Launch} {G : GW} {μ : MM} {μ' : MM} (hf : f_X4_copy_12_4 μ = some μ') : MZ l (YM G) yX4_copy cX4_copy 3 none { frames := 0, cells := 0, slots := 0, locals := 0 } [.ref (G.1 12), .ref (G.1 4)] μ μ' none := by
  refine z_met RX4 rfl (by decide) (Nat.le_of_ble_eq_true rfl) (fun X hX C hR => ?_)
  show Z X (YM G) 3 μ 0 [(0, .ref (G.1 12)), (1, .ref (G.1 4))] []
  unfold f_X4_copy_12_4 at hf
  refine z_iconst C dX4_copy_0 (v := (0 : Int32)) (by decide) ?_
  refine z_istore_n C dX4_copy_1 (i := 2) (lv' := [(2, .int (0 : Int32)), (0, .ref (G.1 12)), (1, .ref (G.1 4))]) rfl (by decide) rfl ?_
  refine z_lv C [1, 2, 0] (lv' := [(0, .ref (G.1 12)), (1, .ref (G.1 4)), (2, .int (0 : Int32))]) rfl ?_
  exact zl_X4_copy_12_4_2 C hR fu (μ, (0 : Int32)) hf
noncomputable def b_X4_copy_13_9_2 (ih2 : MM × Int32 → Option MM) (μ : MM) (x2 : Int32) : Option MM :=
 (if (24 : Int32) ≤ x2 then
 (some (μ))
 else
 (ck (vp_in x2 24) <|
 (nm ((μ.1 13 (x2).toNatClampNeg)) fun v3 : Int32 =>
 (nm (upM μ 9 (x2).toNatClampNeg v3) fun μ4 : MM =>
 ih2 (μ4, (x2 + (1 : Int32)))))))
set_option maxHeartbeats 4000000 in
theorem zl_X4_copy_13_9_2 {X : ZX} {G : GW} {μ' : MM} (C : CX X (YM G) cX4_copy 3 RX4 { frames := 0, cells := 0, slots := 0, locals := 0 }) (hR : ZR X (YM G) none μ' none) : ∀ (n : Nat) (σ : MM × Int32), lp (fun ih σ => b_X4_copy_13_9_2 ih σ.1 σ.2) n σ = some μ' → Z X (YM G) 3 σ.1 2 [(0, .ref (G.1 13)), (1, .ref (G.1 9)), (2, .int σ.2)] [] := by
  refine lp_z (P := fun σ : MM × Int32 => Z X (YM G) 3 σ.1 2 [(0, .ref (G.1 13)), (1, .ref (G.1 9)), (2, .int σ.2)] []) (fun ih2 hih2 σ hf => ?_)
  obtain ⟨μ, x2⟩ := σ
  have hf : b_X4_copy_13_9_2 ih2 μ x2 = some μ' := hf
  show Z X (YM G) 3 μ 2 [(0, .ref (G.1 13)), (1, .ref (G.1 9)), (2, .int x2)] []
  unfold b_X4_copy_13_9_2 at hf
  refine z_iload_n C 2 dX4_copy_2 rfl ?_
  refine z_aload_n C 0 dX4_copy_3 rfl ?_
  refine zMn_13 C dX4_copy_4 ?_
  refine z_icmp_ge C 20 dX4_copy_5 (by decide) (fun c1 => ?_) (fun c1 => ?_)
  · replace hf := it_t hf c1
    exact z_vret C hR dX4_copy_20 (rt1 hf)
  · replace hf := it_f hf c1
    refine z_aload_n C 1 dX4_copy_8 rfl ?_
    refine z_iload_n C 2 dX4_copy_9 rfl ?_
    refine z_aload_n C 0 dX4_copy_10 rfl ?_
    refine z_iload_n C 2 dX4_copy_11 rfl ?_
    obtain ⟨h2, hf⟩ := ck_e hf
    refine zMl_13 C dX4_copy_12 h2 ?_
    refine z_topi (fun v3 ev3 => ?_)
    replace hf := nm_e2 hf v3 ev3
    refine zMs_9 C dX4_copy_13 h2 ?_
    refine z_mem (fun μ4 eμ4 => ?_)
    replace hf := nm_e2 hf μ4 eμ4
    refine z_iinc C 2 dX4_copy_14 (v := (x2 + (1 : Int32))) (lv' := [(2, .int (x2 + (1 : Int32))), (0, .ref (G.1 13)), (1, .ref (G.1 9))]) rfl rfl (by decide) rfl ?_
    refine z_goto C 2 dX4_copy_17 (by decide) ?_
    refine z_lv C [1, 2, 0] (lv' := [(0, .ref (G.1 13)), (1, .ref (G.1 9)), (2, .int (x2 + (1 : Int32)))]) rfl ?_
    exact hih2 (μ4, (x2 + (1 : Int32))) hf
noncomputable def f_X4_copy_13_9 (μ : MM) : Option MM :=
 lp (fun ih σ => b_X4_copy_13_9_2 ih σ.1 σ.2) fu (μ, (0 : Int32))
set_option maxHeartbeats 4000000 in
theorem c_X4_copy_13_9 {l : Launch} {G : GW} {μ : MM} {μ' : MM} (hf : f_X4_copy_13_9 μ = some μ') : MZ l (YM G) yX4_copy cX4_copy 3 none { frames := 0, cells := 0, slots := 0, locals := 0 } [.ref (G.1 13), .ref (G.1 9)] μ μ' none := by
  refine z_met RX4 rfl (by decide) (Nat.le_of_ble_eq_true rfl) (fun X hX C hR => ?_)
  show Z X (YM G) 3 μ 0 [(0, .ref (G.1 13)), (1, .ref (G.1 9))] []
  unfold f_X4_copy_13_9 at hf
  refine z_iconst C dX4_copy_0 (v := (0 : Int32)) (by decide) ?_
  refine z_istore_n C dX4_copy_1 (i := 2) (lv' := [(2, .int (0 : Int32)), (0, .ref (G.1 13)), (1, .ref (G.1 9))]) rfl (by decide) rfl ?_
  refine z_lv C [1, 2, 0] (lv' := [(0, .ref (G.1 13)), (1, .ref (G.1 9)), (2, .int (0 : Int32))]) rfl ?_
  exact zl_X4_copy_13_9_2 C hR fu (μ, (0 : Int32)) hf
noncomputable def f_X4_image (μ : MM) : Option (MM × Int32) :=
 (nm (f_X4_lacks μ) fun v2 : Int32 =>
 (if v2 = 0 then
 (bd (f_X4_copy_3_11 μ) fun μ5 =>
 (bd (f_X4_copy_4_12 μ5) fun μ7 =>
 (bd (f_X4_copy_9_13 μ7) fun μ9 =>
 (nm ((μ9.1 0 7)) fun v10 : Int32 =>
 (nm (upM μ9 0 23 v10) fun μ11 : MM =>
 (nm ((μ11.1 0 8)) fun v12 : Int32 =>
 (nm (upM μ11 0 24 v12) fun μ13 : MM =>
 (nm ((μ13.1 0 9)) fun v14 : Int32 =>
 (nm (upM μ13 0 25 v14) fun μ15 : MM =>
 (nm ((μ15.1 0 18)) fun v16 : Int32 =>
 (nm (upM μ15 0 26 v16) fun μ17 : MM =>
 (nm ((μ17.1 0 10)) fun v18 : Int32 =>
 (nm (upM μ17 0 22 v18) fun μ19 : MM =>
 (some (μ19, (μ19.1 0 8))))))))))))))))
 else
 (some (μ, (-103 : Int32)))))
set_option maxHeartbeats 4000000 in
theorem c_X4_image {l : Launch} {G : GW} {μ : MM} {μ' : MM} {r : Int32} (hf : f_X4_image μ = some (μ', r)) : MZ l (YM G) yX4_image cX4_image 1 (some .int) { frames := 1, cells := 0, slots := 0, locals := 22 } [.ref (G.1 0)] μ μ' (some (.int r)) := by
  refine z_met RX4 rfl (by decide) (Nat.le_of_ble_eq_true rfl) (fun X hX C hR => ?_)
  show Z X (YM G) 1 μ 0 [(0, .ref (G.1 0))] []
  unfold f_X4_image at hf
  refine z_aload_n C 0 dX4_image_0 rfl ?_
  obtain ⟨v2, h1⟩ : ∃ z, z = f_X4_lacks μ := ⟨_, rfl⟩
  replace hf := nm_e2 hf v2 h1
  refine z_callVi C (As := []) (rest := []) (c_X4_lacks h1.symm) vw_X4_122 ⟨rfl, rfl, by decide, by decide⟩ (z_rv C (q0 := 0) (ci := 4) rfl rfl rfl) rfl (Nat.le_of_ble_eq_true rfl) dX4_image_1 ?_
  refine z_if_eq C 10 dX4_image_4 (by decide) (fun c3 => ?_) (fun c3 => ?_)
  · replace hf := it_t hf c3
    refine z_aload_n C 0 dX4_image_10 rfl ?_
    refine zg_X4_16_0 C dX4_image_11 ?_
    refine z_aload_n C 0 dX4_image_14 rfl ?_
    refine zg_X4_40_0 C dX4_image_15 ?_
    obtain ⟨μ5, h4, hf⟩ := bd_e hf
    refine z_callSv C (As := [.ref (G.1 3), .ref (G.1 11)]) (rest := []) (c_X4_copy_3_11 h4) sw_X4_178 ⟨rfl, rfl, by decide, by decide⟩ rfl (Nat.le_of_ble_eq_true rfl) dX4_image_18 ?_
    refine z_aload_n C 0 dX4_image_21 rfl ?_
    refine zg_X4_19_0 C dX4_image_22 ?_
    refine z_aload_n C 0 dX4_image_25 rfl ?_
    refine zg_X4_43_0 C dX4_image_26 ?_
    obtain ⟨μ7, h6, hf⟩ := bd_e hf
    refine z_callSv C (As := [.ref (G.1 4), .ref (G.1 12)]) (rest := []) (c_X4_copy_4_12 h6) sw_X4_178 ⟨rfl, rfl, by decide, by decide⟩ rfl (Nat.le_of_ble_eq_true rfl) dX4_image_29 ?_
    refine z_aload_n C 0 dX4_image_32 rfl ?_
    refine zg_X4_34_0 C dX4_image_33 ?_
    refine z_aload_n C 0 dX4_image_36 rfl ?_
    refine zg_X4_46_0 C dX4_image_37 ?_
    obtain ⟨μ9, h8, hf⟩ := bd_e hf
    refine z_callSv C (As := [.ref (G.1 9), .ref (G.1 13)]) (rest := []) (c_X4_copy_9_13 h8) sw_X4_178 ⟨rfl, rfl, by decide, by decide⟩ rfl (Nat.le_of_ble_eq_true rfl) dX4_image_40 ?_
    refine z_aload_n C 0 dX4_image_43 rfl ?_
    refine z_aload_n C 0 dX4_image_44 rfl ?_
    refine zg_X4_91_0 C dX4_image_45 ?_
    refine z_topi (fun v10 ev10 => ?_)
    replace hf := nm_e2 hf v10 ev10
    refine zp_X4_182_0 C dX4_image_48 ?_
    refine z_mem (fun μ11 eμ11 => ?_)
    replace hf := nm_e2 hf μ11 eμ11
    refine z_aload_n C 0 dX4_image_51 rfl ?_
    refine z_aload_n C 0 dX4_image_52 rfl ?_
    refine zg_X4_94_0 C dX4_image_53 ?_
    refine z_topi (fun v12 ev12 => ?_)
    replace hf := nm_e2 hf v12 ev12
    refine zp_X4_185_0 C dX4_image_56 ?_
    refine z_mem (fun μ13 eμ13 => ?_)
    replace hf := nm_e2 hf μ13 eμ13
    refine z_aload_n C 0 dX4_image_59 rfl ?_
    refine z_aload_n C 0 dX4_image_60 rfl ?_
    refine zg_X4_53_0 C dX4_image_61 ?_
    refine z_topi (fun v14 ev14 => ?_)
    replace hf := nm_e2 hf v14 ev14
    refine zp_X4_188_0 C dX4_image_64 ?_
    refine z_mem (fun μ15 eμ15 => ?_)
    replace hf := nm_e2 hf μ15 eμ15
    refine z_aload_n C 0 dX4_image_67 rfl ?_
    refine z_aload_n C 0 dX4_image_68 rfl ?_
    refine zg_X4_97_0 C dX4_image_69 ?_
    refine z_topi (fun v16 ev16 => ?_)
    replace hf := nm_e2 hf v16 ev16
    refine zp_X4_191_0 C dX4_image_72 ?_
    refine z_mem (fun μ17 eμ17 => ?_)
    replace hf := nm_e2 hf μ17 eμ17
    refine z_aload_n C 0 dX4_image_75 rfl ?_
    refine z_aload_n C 0 dX4_image_76 rfl ?_
    refine zg_X4_100_0 C dX4_image_77 ?_
    refine z_topi (fun v18 ev18 => ?_)
    replace hf := nm_e2 hf v18 ev18
    refine zp_X4_49_0 C dX4_image_80 ?_
    refine z_mem (fun μ19 eμ19 => ?_)
    replace hf := nm_e2 hf μ19 eμ19
    refine z_aload_n C 0 dX4_image_83 rfl ?_
    refine zg_X4_94_0 C dX4_image_84 ?_
    exact z_iret C hR dX4_image_87 (rt2 hf).1 (rt2 hf).2
  · replace hf := it_f hf c3
    refine z_bipush C dX4_image_7 (v := (-103 : Int32)) (by decide) ?_
    exact z_iret C hR dX4_image_9 (rt2 hf).1 (rt2 hf).2
noncomputable def f_X4_restore (μ : MM) : Option (MM × Int32) :=
 (if (μ.1 0 22) = (μ.1 0 10) then
 (bd (f_X4_copy_11_3 μ) fun μ3 =>
 (bd (f_X4_copy_12_4 μ3) fun μ5 =>
 (bd (f_X4_copy_13_9 μ5) fun μ7 =>
 (nm ((μ7.1 0 23)) fun v8 : Int32 =>
 (nm (upM μ7 0 7 v8) fun μ9 : MM =>
 (nm ((μ9.1 0 24)) fun v10 : Int32 =>
 (nm (upM μ9 0 8 v10) fun μ11 : MM =>
 (nm ((μ11.1 0 25)) fun v12 : Int32 =>
 (nm (upM μ11 0 9 v12) fun μ13 : MM =>
 (nm ((μ13.1 0 26)) fun v14 : Int32 =>
 (nm (upM μ13 0 18 v14) fun μ15 : MM =>
 (some (μ15, (μ15.1 0 8))))))))))))))
 else
 (some (μ, (-103 : Int32))))
set_option maxHeartbeats 4000000 in
theorem c_X4_restore {l : Launch} {G : GW} {μ : MM} {μ' : MM} {r : Int32} (hf : f_X4_restore μ = some (μ', r)) : MZ l (YM G) yX4_restore cX4_restore 1 (some .int) { frames := 1, cells := 0, slots := 0, locals := 22 } [.ref (G.1 0)] μ μ' (some (.int r)) := by
  refine z_met RX4 rfl (by decide) (Nat.le_of_ble_eq_true rfl) (fun X hX C hR => ?_)
  show Z X (YM G) 1 μ 0 [(0, .ref (G.1 0))] []
  unfold f_X4_restore at hf
  refine z_aload_n C 0 dX4_restore_0 rfl ?_
  refine zg_X4_49_0 C dX4_restore_1 ?_
  refine z_aload_n C 0 dX4_restore_4 rfl ?_
  refine zg_X4_100_0 C dX4_restore_5 ?_
  refine z_icmp_eq C 14 dX4_restore_8 (by decide) (fun c1 => ?_) (fun c1 => ?_)
  · replace hf := it_t hf c1
    refine z_aload_n C 0 dX4_restore_14 rfl ?_
    refine zg_X4_40_0 C dX4_restore_15 ?_
    refine z_aload_n C 0 dX4_restore_18 rfl ?_
    refine zg_X4_16_0 C dX4_restore_19 ?_
    obtain ⟨μ3, h2, hf⟩ := bd_e hf
    refine z_callSv C (As := [.ref (G.1 11), .ref (G.1 3)]) (rest := []) (c_X4_copy_11_3 h2) sw_X4_178 ⟨rfl, rfl, by decide, by decide⟩ rfl (Nat.le_of_ble_eq_true rfl) dX4_restore_22 ?_
    refine z_aload_n C 0 dX4_restore_25 rfl ?_
    refine zg_X4_43_0 C dX4_restore_26 ?_
    refine z_aload_n C 0 dX4_restore_29 rfl ?_
    refine zg_X4_19_0 C dX4_restore_30 ?_
    obtain ⟨μ5, h4, hf⟩ := bd_e hf
    refine z_callSv C (As := [.ref (G.1 12), .ref (G.1 4)]) (rest := []) (c_X4_copy_12_4 h4) sw_X4_178 ⟨rfl, rfl, by decide, by decide⟩ rfl (Nat.le_of_ble_eq_true rfl) dX4_restore_33 ?_
    refine z_aload_n C 0 dX4_restore_36 rfl ?_
    refine zg_X4_46_0 C dX4_restore_37 ?_
    refine z_aload_n C 0 dX4_restore_40 rfl ?_
    refine zg_X4_34_0 C dX4_restore_41 ?_
    obtain ⟨μ7, h6, hf⟩ := bd_e hf
    refine z_callSv C (As := [.ref (G.1 13), .ref (G.1 9)]) (rest := []) (c_X4_copy_13_9 h6) sw_X4_178 ⟨rfl, rfl, by decide, by decide⟩ rfl (Nat.le_of_ble_eq_true rfl) dX4_restore_44 ?_
    refine z_aload_n C 0 dX4_restore_47 rfl ?_
    refine z_aload_n C 0 dX4_restore_48 rfl ?_
    refine zg_X4_182_0 C dX4_restore_49 ?_
    refine z_topi (fun v8 ev8 => ?_)
    replace hf := nm_e2 hf v8 ev8
    refine zp_X4_91_0 C dX4_restore_52 ?_
    refine z_mem (fun μ9 eμ9 => ?_)
    replace hf := nm_e2 hf μ9 eμ9
    refine z_aload_n C 0 dX4_restore_55 rfl ?_
    refine z_aload_n C 0 dX4_restore_56 rfl ?_
    refine zg_X4_185_0 C dX4_restore_57 ?_
    refine z_topi (fun v10 ev10 => ?_)
    replace hf := nm_e2 hf v10 ev10
    refine zp_X4_94_0 C dX4_restore_60 ?_
    refine z_mem (fun μ11 eμ11 => ?_)
    replace hf := nm_e2 hf μ11 eμ11
    refine z_aload_n C 0 dX4_restore_63 rfl ?_
    refine z_aload_n C 0 dX4_restore_64 rfl ?_
    refine zg_X4_188_0 C dX4_restore_65 ?_
    refine z_topi (fun v12 ev12 => ?_)
    replace hf := nm_e2 hf v12 ev12
    refine zp_X4_53_0 C dX4_restore_68 ?_
    refine z_mem (fun μ13 eμ13 => ?_)
    replace hf := nm_e2 hf μ13 eμ13
    refine z_aload_n C 0 dX4_restore_71 rfl ?_
    refine z_aload_n C 0 dX4_restore_72 rfl ?_
    refine zg_X4_191_0 C dX4_restore_73 ?_
    refine z_topi (fun v14 ev14 => ?_)
    replace hf := nm_e2 hf v14 ev14
    refine zp_X4_97_0 C dX4_restore_76 ?_
    refine z_mem (fun μ15 eμ15 => ?_)
    replace hf := nm_e2 hf μ15 eμ15
    refine z_aload_n C 0 dX4_restore_79 rfl ?_
    refine zg_X4_94_0 C dX4_restore_80 ?_
    exact z_iret C hR dX4_restore_83 (rt2 hf).1 (rt2 hf).2
  · replace hf := it_f hf c1
    refine z_bipush C dX4_restore_11 (v := (-103 : Int32)) (by decide) ?_
    exact z_iret C hR dX4_restore_13 (rt2 hf).1 (rt2 hf).2
noncomputable def g_X4_countOf_31 (μ : MM) (x1 : Int32) (x2 : Int32) : Option Int32 :=
 (if x1 = (0 : Int32) then
 (some (μ.1 0 6))
 else
 (if x1 = (1 : Int32) then
 (some (μ.1 0 7))
 else
 (if x1 = (2 : Int32) then
 (some (μ.1 0 8))
 else
 (if x1 = (3 : Int32) then
 (some (μ.1 0 9))
 else
 (if x1 = (4 : Int32) then
 (some x2)
 else
 (if x1 = (5 : Int32) then
 (some (μ.1 0 18))
 else
 (if x1 = (6 : Int32) then
 (some (μ.1 0 1))
 else
 (if x1 = (7 : Int32) then
 (some (μ.1 0 10))
 else
 (if x1 = (8 : Int32) then
 (some (μ.1 0 16))
 else
 (some (-102 : Int32)))))))))))
set_option maxHeartbeats 4000000 in
theorem zj_X4_countOf_31 {X : ZX} {G : GW} {r : Int32} (μ : MM) (x1 : Int32) (x2 : Int32) (C : CX X (YM G) cX4_countOf 4 RX4 { frames := 0, cells := 0, slots := 0, locals := 0 }) (hR : ZR X (YM G) (some .int) μ (some (.int r))) (hf : g_X4_countOf_31 μ x1 x2 = some r) : Z X (YM G) 4 μ 31 [(0, .ref (G.1 0)), (1, .int x1), (2, .int x2)] [] := by
  unfold g_X4_countOf_31 at hf
  refine z_iload_n C 1 dX4_countOf_31 rfl ?_
  rcases Decidable.em (x1 = (0 : Int32)) with c2 | c2
  · replace hf := it_t hf c2
    refine z_tabI C 84 dX4_countOf_32 (off := 52) (by rw [c2]; decide) (by rw [c2]; decide) (by rw [c2]; first | rfl | decide +kernel) (by decide) ?_
    refine z_aload_n C 0 dX4_countOf_84 rfl ?_
    refine zg_X4_88_0 C dX4_countOf_85 ?_
    exact z_iret C hR dX4_countOf_88 rfl (rt1 hf)
  · replace hf := it_f hf c2
    rcases Decidable.em (x1 = (1 : Int32)) with c3 | c3
    · replace hf := it_t hf c3
      refine z_tabI C 89 dX4_countOf_32 (off := 57) (by rw [c3]; decide) (by rw [c3]; decide) (by rw [c3]; first | rfl | decide +kernel) (by decide) ?_
      refine z_aload_n C 0 dX4_countOf_89 rfl ?_
      refine zg_X4_91_0 C dX4_countOf_90 ?_
      exact z_iret C hR dX4_countOf_93 rfl (rt1 hf)
    · replace hf := it_f hf c3
      rcases Decidable.em (x1 = (2 : Int32)) with c4 | c4
      · replace hf := it_t hf c4
        refine z_tabI C 94 dX4_countOf_32 (off := 62) (by rw [c4]; decide) (by rw [c4]; decide) (by rw [c4]; first | rfl | decide +kernel) (by decide) ?_
        refine z_aload_n C 0 dX4_countOf_94 rfl ?_
        refine zg_X4_94_0 C dX4_countOf_95 ?_
        exact z_iret C hR dX4_countOf_98 rfl (rt1 hf)
      · replace hf := it_f hf c4
        rcases Decidable.em (x1 = (3 : Int32)) with c5 | c5
        · replace hf := it_t hf c5
          refine z_tabI C 99 dX4_countOf_32 (off := 67) (by rw [c5]; decide) (by rw [c5]; decide) (by rw [c5]; first | rfl | decide +kernel) (by decide) ?_
          refine z_aload_n C 0 dX4_countOf_99 rfl ?_
          refine zg_X4_53_0 C dX4_countOf_100 ?_
          exact z_iret C hR dX4_countOf_103 rfl (rt1 hf)
        · replace hf := it_f hf c5
          rcases Decidable.em (x1 = (4 : Int32)) with c6 | c6
          · replace hf := it_t hf c6
            refine z_tabI C 104 dX4_countOf_32 (off := 72) (by rw [c6]; decide) (by rw [c6]; decide) (by rw [c6]; first | rfl | decide +kernel) (by decide) ?_
            refine z_iload_n C 2 dX4_countOf_104 rfl ?_
            exact z_iret C hR dX4_countOf_105 rfl (rt1 hf)
          · replace hf := it_f hf c6
            rcases Decidable.em (x1 = (5 : Int32)) with c7 | c7
            · replace hf := it_t hf c7
              refine z_tabI C 106 dX4_countOf_32 (off := 74) (by rw [c7]; decide) (by rw [c7]; decide) (by rw [c7]; first | rfl | decide +kernel) (by decide) ?_
              refine z_aload_n C 0 dX4_countOf_106 rfl ?_
              refine zg_X4_97_0 C dX4_countOf_107 ?_
              exact z_iret C hR dX4_countOf_110 rfl (rt1 hf)
            · replace hf := it_f hf c7
              rcases Decidable.em (x1 = (6 : Int32)) with c8 | c8
              · replace hf := it_t hf c8
                refine z_tabI C 111 dX4_countOf_32 (off := 79) (by rw [c8]; decide) (by rw [c8]; decide) (by rw [c8]; first | rfl | decide +kernel) (by decide) ?_
                refine z_aload_n C 0 dX4_countOf_111 rfl ?_
                refine zg_X4_62_0 C dX4_countOf_112 ?_
                exact z_iret C hR dX4_countOf_115 rfl (rt1 hf)
              · replace hf := it_f hf c8
                rcases Decidable.em (x1 = (7 : Int32)) with c9 | c9
                · replace hf := it_t hf c9
                  refine z_tabI C 116 dX4_countOf_32 (off := 84) (by rw [c9]; decide) (by rw [c9]; decide) (by rw [c9]; first | rfl | decide +kernel) (by decide) ?_
                  refine z_aload_n C 0 dX4_countOf_116 rfl ?_
                  refine zg_X4_100_0 C dX4_countOf_117 ?_
                  exact z_iret C hR dX4_countOf_120 rfl (rt1 hf)
                · replace hf := it_f hf c9
                  rcases Decidable.em (x1 = (8 : Int32)) with c10 | c10
                  · replace hf := it_t hf c10
                    refine z_tabI C 121 dX4_countOf_32 (off := 89) (by rw [c10]; decide) (by rw [c10]; decide) (by rw [c10]; first | rfl | decide +kernel) (by decide) ?_
                    refine z_aload_n C 0 dX4_countOf_121 rfl ?_
                    refine zg_X4_141_0 C dX4_countOf_122 ?_
                    exact z_iret C hR dX4_countOf_125 rfl (rt1 hf)
                  · replace hf := it_f hf c10
                    refine z_tabO C 126 dX4_countOf_32 (by have hc2 := lv_neT c2 (a := 0) (by decide); have hc3 := lv_neT c3 (a := 1) (by decide); have hc4 := lv_neT c4 (a := 2) (by decide); have hc5 := lv_neT c5 (a := 3) (by decide); have hc6 := lv_neT c6 (a := 4) (by decide); have hc7 := lv_neT c7 (a := 5) (by decide); have hc8 := lv_neT c8 (a := 6) (by decide); have hc9 := lv_neT c9 (a := 7) (by decide); have hc10 := lv_neT c10 (a := 8) (by decide); omega) (by decide) ?_
                    refine z_bipush C dX4_countOf_126 (v := (-102 : Int32)) (by decide) ?_
                    exact z_iret C hR dX4_countOf_128 rfl (rt1 hf)
noncomputable def b_X4_countOf_4 (μ : MM) (x1 : Int32) (ih4 : Int32 × Int32 → Option Int32) (x2 : Int32) (x3 : Int32) : Option Int32 :=
 (if (μ.1 0 6) ≤ x3 then
 g_X4_countOf_31 μ x1 x2
 else
 (ck (vp_in (((4 : Int32) * x3) + (3 : Int32)) 24) <|
 (nm ((x2 + (μ.1 3 ((((4 : Int32) * x3) + (3 : Int32))).toNatClampNeg))) fun v12 : Int32 =>
 ih4 (v12, (x3 + (1 : Int32))))))
set_option maxHeartbeats 4000000 in
theorem zl_X4_countOf_4 {X : ZX} {G : GW} {r : Int32} (μ : MM) (x1 : Int32) (C : CX X (YM G) cX4_countOf 4 RX4 { frames := 0, cells := 0, slots := 0, locals := 0 }) (hR : ZR X (YM G) (some .int) μ (some (.int r))) : ∀ (n : Nat) (σ : Int32 × Int32), lp (fun ih σ => b_X4_countOf_4 μ x1 ih σ.1 σ.2) n σ = some r → Z X (YM G) 4 μ 4 [(0, .ref (G.1 0)), (1, .int x1), (2, .int σ.1), (3, .int σ.2)] [] := by
  refine lp_z (P := fun σ : Int32 × Int32 => Z X (YM G) 4 μ 4 [(0, .ref (G.1 0)), (1, .int x1), (2, .int σ.1), (3, .int σ.2)] []) (fun ih4 hih4 σ hf => ?_)
  obtain ⟨x2, x3⟩ := σ
  have hf : b_X4_countOf_4 μ x1 ih4 x2 x3 = some r := hf
  show Z X (YM G) 4 μ 4 [(0, .ref (G.1 0)), (1, .int x1), (2, .int x2), (3, .int x3)] []
  unfold b_X4_countOf_4 at hf
  refine z_iload_n C 3 dX4_countOf_4 rfl ?_
  refine z_aload_n C 0 dX4_countOf_5 rfl ?_
  refine zg_X4_88_0 C dX4_countOf_6 ?_
  refine z_icmp_ge C 31 dX4_countOf_9 (by decide) (fun c1 => ?_) (fun c1 => ?_)
  · replace hf := it_t hf c1
    refine z_lv C [0, 1, 2] (lv' := [(0, .ref (G.1 0)), (1, .int x1), (2, .int x2)]) rfl ?_
    exact zj_X4_countOf_31 μ x1 x2 C hR hf
  · replace hf := it_f hf c1
    refine z_iload_n C 2 dX4_countOf_12 rfl ?_
    refine z_aload_n C 0 dX4_countOf_13 rfl ?_
    refine zg_X4_16_0 C dX4_countOf_14 ?_
    refine z_iconst C dX4_countOf_17 (v := (4 : Int32)) (by decide) ?_
    refine z_iload_n C 3 dX4_countOf_18 rfl ?_
    refine z_imul C dX4_countOf_19 ?_
    refine z_iconst C dX4_countOf_20 (v := (3 : Int32)) (by decide) ?_
    refine z_iadd C dX4_countOf_21 ?_
    obtain ⟨h11, hf⟩ := ck_e hf
    refine zMl_3 C dX4_countOf_22 h11 ?_
    refine z_iadd C dX4_countOf_23 ?_
    refine z_topi (fun v12 ev12 => ?_)
    replace hf := nm_e2 hf v12 ev12
    refine z_istore_n C dX4_countOf_24 (i := 2) (lv' := [(2, .int v12), (0, .ref (G.1 0)), (1, .int x1), (3, .int x3)]) rfl (by decide) rfl ?_
    refine z_iinc C 3 dX4_countOf_25 (v := (x3 + (1 : Int32))) (lv' := [(3, .int (x3 + (1 : Int32))), (2, .int v12), (0, .ref (G.1 0)), (1, .int x1)]) rfl rfl (by decide) rfl ?_
    refine z_goto C 4 dX4_countOf_28 (by decide) ?_
    refine z_lv C [2, 3, 1, 0] (lv' := [(0, .ref (G.1 0)), (1, .int x1), (2, .int v12), (3, .int (x3 + (1 : Int32)))]) rfl ?_
    exact hih4 (v12, (x3 + (1 : Int32))) hf
noncomputable def f_X4_countOf (μ : MM) (x1 : Int32) : Option Int32 :=
 lp (fun ih σ => b_X4_countOf_4 μ x1 ih σ.1 σ.2) fu ((0 : Int32), (0 : Int32))
set_option maxHeartbeats 4000000 in
theorem c_X4_countOf {l : Launch} {G : GW} {μ : MM} {x1 : Int32} {r : Int32} (hf : f_X4_countOf μ x1 = some r) : MZ l (YM G) yX4_countOf cX4_countOf 4 (some .int) { frames := 0, cells := 0, slots := 0, locals := 0 } [.ref (G.1 0), .int x1] μ μ (some (.int r)) := by
  refine z_met RX4 rfl (by decide) (Nat.le_of_ble_eq_true rfl) (fun X hX C hR => ?_)
  show Z X (YM G) 4 μ 0 [(0, .ref (G.1 0)), (1, .int x1)] []
  unfold f_X4_countOf at hf
  refine z_iconst C dX4_countOf_0 (v := (0 : Int32)) (by decide) ?_
  refine z_istore_n C dX4_countOf_1 (i := 2) (lv' := [(2, .int (0 : Int32)), (0, .ref (G.1 0)), (1, .int x1)]) rfl (by decide) rfl ?_
  refine z_iconst C dX4_countOf_2 (v := (0 : Int32)) (by decide) ?_
  refine z_istore_n C dX4_countOf_3 (i := 3) (lv' := [(3, .int (0 : Int32)), (2, .int (0 : Int32)), (0, .ref (G.1 0)), (1, .int x1)]) rfl (by decide) rfl ?_
  refine z_lv C [2, 3, 1, 0] (lv' := [(0, .ref (G.1 0)), (1, .int x1), (2, .int (0 : Int32)), (3, .int (0 : Int32))]) rfl ?_
  exact zl_X4_countOf_4 μ x1 C hR fu ((0 : Int32), (0 : Int32)) hf
noncomputable def f_X4_count (μ : MM) (x1 : Int32) : Option Int32 :=
 (bd (f_X4_countOf μ x1) fun v2 =>
 (some v2))
set_option maxHeartbeats 4000000 in
theorem c_X4_count {l : Launch} {G : GW} {μ : MM} {x1 : Int32} {r : Int32} (hf : f_X4_count μ x1 = some r) : MZ l (YM G) yX4_count cX4_count 2 (some .int) { frames := 1, cells := 0, slots := 0, locals := 23 } [.ref (G.1 0), .int x1] μ μ (some (.int r)) := by
  refine z_met RX4 rfl (by decide) (Nat.le_of_ble_eq_true rfl) (fun X hX C hR => ?_)
  show Z X (YM G) 2 μ 0 [(0, .ref (G.1 0)), (1, .int x1)] []
  unfold f_X4_count at hf
  refine z_aload_n C 0 dX4_count_0 rfl ?_
  refine z_iload_n C 1 dX4_count_1 rfl ?_
  obtain ⟨v2, h1, hf⟩ := bd_e hf
  refine z_callVi C (As := [.int x1]) (rest := []) (c_X4_countOf h1) vw_X4_194 ⟨rfl, rfl, by decide, by decide⟩ (z_rv C (q0 := 0) (ci := 4) rfl rfl rfl) rfl (Nat.le_of_ble_eq_true rfl) dX4_count_2 ?_
  exact z_iret C hR dX4_count_5 rfl (rt1 hf)
noncomputable def f_X4_say (μ : MM) (x1 : Int64) : Option MM :=
 (nm ((((31 : Int64) * μ.2) + x1)) fun v1 : Int64 =>
 (nm ((μ.1, v1)) fun μ2 : MM =>
 (some (μ2))))
set_option maxHeartbeats 4000000 in
theorem c_X4_say {l : Launch} {G : GW} {μ : MM} {x1 : Int64} {μ' : MM} (hf : f_X4_say μ x1 = some μ') : MZ l (YM G) yX4_say cX4_say 3 none { frames := 0, cells := 0, slots := 0, locals := 0 } [.ref (G.1 0), .long x1] μ μ' none := by
  refine z_met RX4 rfl (by decide) (Nat.le_of_ble_eq_true rfl) (fun X hX C hR => ?_)
  show Z X (YM G) 3 μ 0 [(0, .ref (G.1 0)), (1, .long x1)] []
  unfold f_X4_say at hf
  refine z_aload_n C 0 dX4_say_0 rfl ?_
  refine z_ldc2 C dX4_say_1 (v := (31 : Int64)) (ww_in 885 (by decide +kernel) (by decide +kernel)) ?_
  refine z_aload_n C 0 dX4_say_4 rfl ?_
  refine zg_X4_199_0 C dX4_say_5 ?_
  refine z_lmul C dX4_say_8 ?_
  refine z_lload_n C 1 dX4_say_9 rfl ?_
  refine z_ladd C dX4_say_10 ?_
  refine z_topl (fun v1 ev1 => ?_)
  replace hf := nm_e2 hf v1 ev1
  refine zp_X4_199_0 C dX4_say_11 ?_
  refine z_mem (fun μ2 eμ2 => ?_)
  replace hf := nm_e2 hf μ2 eμ2
  exact z_vret C hR dX4_say_14 (rt1 hf)
noncomputable def f_X4_saySeat (μ : MM) (x1 : Int32) : Option MM :=
 (ck (vp_in x1 6) <|
 (bd (f_X4_say μ ((μ.1 4 (x1).toNatClampNeg)).toInt64) fun μ3 =>
 (bd (f_X4_asTheySit μ3) fun μ5 =>
 (bd (f_X4_comesOf μ5 x1 (0 : Int32) (μ5.1 0 7)) fun v7 =>
 (bd (f_X4_say μ5 (v7).toInt64) fun μ9 =>
 (bd (f_X4_comesOf μ9 x1 (5 : Int32) (μ9.1 0 7)) fun v11 =>
 (bd (f_X4_say μ9 (v11).toInt64) fun μ13 =>
 (bd2 (f_X4_guessOf μ13 x1 (0 : Int32)) fun μ15 v16 =>
 (bd (f_X4_say μ15 (v16).toInt64) fun μ18 =>
 (bd2 (f_X4_guessOf μ18 x1 (1 : Int32)) fun μ20 v21 =>
 (bd (f_X4_say μ20 (v21).toInt64) fun μ23 =>
 (bd2 (f_X4_cawOf μ23 x1) fun μ25 v26 =>
 (bd (f_X4_say μ25 (v26).toInt64) fun μ28 =>
 (some (μ28)))))))))))))))
set_option maxHeartbeats 4000000 in
theorem c_X4_saySeat {l : Launch} {G : GW} {μ : MM} {x1 : Int32} {μ' : MM} (hf : f_X4_saySeat μ x1 = some μ') : MZ l (YM G) yX4_saySeat cX4_saySeat 2 none { frames := 4, cells := 0, slots := 0, locals := 101 } [.ref (G.1 0), .int x1] μ μ' none := by
  refine z_met RX4 rfl (by decide) (Nat.le_of_ble_eq_true rfl) (fun X hX C hR => ?_)
  show Z X (YM G) 2 μ 0 [(0, .ref (G.1 0)), (1, .int x1)] []
  unfold f_X4_saySeat at hf
  refine z_aload_n C 0 dX4_saySeat_0 rfl ?_
  refine z_aload_n C 0 dX4_saySeat_1 rfl ?_
  refine zg_X4_19_0 C dX4_saySeat_2 ?_
  refine z_iload_n C 1 dX4_saySeat_5 rfl ?_
  obtain ⟨h1, hf⟩ := ck_e hf
  refine zMl_4 C dX4_saySeat_6 h1 ?_
  refine z_i2l C dX4_saySeat_7 ?_
  obtain ⟨μ3, h2, hf⟩ := bd_e hf
  refine z_callVv C (As := [.long ((μ.1 4 (x1).toNatClampNeg)).toInt64]) (rest := []) (c_X4_say h2) vw_X4_203 ⟨rfl, rfl, by decide, by decide⟩ (z_rv C (q0 := 0) (ci := 4) rfl rfl rfl) rfl (Nat.le_of_ble_eq_true rfl) dX4_saySeat_8 ?_
  refine z_aload_n C 0 dX4_saySeat_11 rfl ?_
  obtain ⟨μ5, h4, hf⟩ := bd_e hf
  refine z_callVv C (As := []) (rest := []) (c_X4_asTheySit h4) vw_X4_129 ⟨rfl, rfl, by decide, by decide⟩ (z_rv C (q0 := 0) (ci := 4) rfl rfl rfl) rfl (Nat.le_of_ble_eq_true rfl) dX4_saySeat_12 ?_
  refine z_aload_n C 0 dX4_saySeat_15 rfl ?_
  refine z_aload_n C 0 dX4_saySeat_16 rfl ?_
  refine z_iload_n C 1 dX4_saySeat_17 rfl ?_
  refine z_iconst C dX4_saySeat_18 (v := (0 : Int32)) (by decide) ?_
  refine z_aload_n C 0 dX4_saySeat_19 rfl ?_
  refine zg_X4_91_0 C dX4_saySeat_20 ?_
  obtain ⟨v7, h6, hf⟩ := bd_e hf
  refine z_callVi C (As := [.int x1, .int (0 : Int32), .int (μ5.1 0 7)]) (rest := [.ref (G.1 0)]) (c_X4_comesOf h6) vw_X4_132 ⟨rfl, rfl, by decide, by decide⟩ (z_rv C (q0 := 0) (ci := 4) rfl rfl rfl) rfl (Nat.le_of_ble_eq_true rfl) dX4_saySeat_23 ?_
  refine z_i2l C dX4_saySeat_26 ?_
  obtain ⟨μ9, h8, hf⟩ := bd_e hf
  refine z_callVv C (As := [.long (v7).toInt64]) (rest := []) (c_X4_say h8) vw_X4_203 ⟨rfl, rfl, by decide, by decide⟩ (z_rv C (q0 := 0) (ci := 4) rfl rfl rfl) rfl (Nat.le_of_ble_eq_true rfl) dX4_saySeat_27 ?_
  refine z_aload_n C 0 dX4_saySeat_30 rfl ?_
  refine z_aload_n C 0 dX4_saySeat_31 rfl ?_
  refine z_iload_n C 1 dX4_saySeat_32 rfl ?_
  refine z_iconst C dX4_saySeat_33 (v := (5 : Int32)) (by decide) ?_
  refine z_aload_n C 0 dX4_saySeat_34 rfl ?_
  refine zg_X4_91_0 C dX4_saySeat_35 ?_
  obtain ⟨v11, h10, hf⟩ := bd_e hf
  refine z_callVi C (As := [.int x1, .int (5 : Int32), .int (μ9.1 0 7)]) (rest := [.ref (G.1 0)]) (c_X4_comesOf h10) vw_X4_132 ⟨rfl, rfl, by decide, by decide⟩ (z_rv C (q0 := 0) (ci := 4) rfl rfl rfl) rfl (Nat.le_of_ble_eq_true rfl) dX4_saySeat_38 ?_
  refine z_i2l C dX4_saySeat_41 ?_
  obtain ⟨μ13, h12, hf⟩ := bd_e hf
  refine z_callVv C (As := [.long (v11).toInt64]) (rest := []) (c_X4_say h12) vw_X4_203 ⟨rfl, rfl, by decide, by decide⟩ (z_rv C (q0 := 0) (ci := 4) rfl rfl rfl) rfl (Nat.le_of_ble_eq_true rfl) dX4_saySeat_42 ?_
  refine z_aload_n C 0 dX4_saySeat_45 rfl ?_
  refine z_aload_n C 0 dX4_saySeat_46 rfl ?_
  refine z_iload_n C 1 dX4_saySeat_47 rfl ?_
  refine z_iconst C dX4_saySeat_48 (v := (0 : Int32)) (by decide) ?_
  obtain ⟨μ15, v16, h14, hf⟩ := bd2_e hf
  refine z_callVi C (As := [.int x1, .int (0 : Int32)]) (rest := [.ref (G.1 0)]) (c_X4_guessOf h14) vw_X4_157 ⟨rfl, rfl, by decide, by decide⟩ (z_rv C (q0 := 0) (ci := 4) rfl rfl rfl) rfl (Nat.le_of_ble_eq_true rfl) dX4_saySeat_49 ?_
  refine z_i2l C dX4_saySeat_52 ?_
  obtain ⟨μ18, h17, hf⟩ := bd_e hf
  refine z_callVv C (As := [.long (v16).toInt64]) (rest := []) (c_X4_say h17) vw_X4_203 ⟨rfl, rfl, by decide, by decide⟩ (z_rv C (q0 := 0) (ci := 4) rfl rfl rfl) rfl (Nat.le_of_ble_eq_true rfl) dX4_saySeat_53 ?_
  refine z_aload_n C 0 dX4_saySeat_56 rfl ?_
  refine z_aload_n C 0 dX4_saySeat_57 rfl ?_
  refine z_iload_n C 1 dX4_saySeat_58 rfl ?_
  refine z_iconst C dX4_saySeat_59 (v := (1 : Int32)) (by decide) ?_
  obtain ⟨μ20, v21, h19, hf⟩ := bd2_e hf
  refine z_callVi C (As := [.int x1, .int (1 : Int32)]) (rest := [.ref (G.1 0)]) (c_X4_guessOf h19) vw_X4_157 ⟨rfl, rfl, by decide, by decide⟩ (z_rv C (q0 := 0) (ci := 4) rfl rfl rfl) rfl (Nat.le_of_ble_eq_true rfl) dX4_saySeat_60 ?_
  refine z_i2l C dX4_saySeat_63 ?_
  obtain ⟨μ23, h22, hf⟩ := bd_e hf
  refine z_callVv C (As := [.long (v21).toInt64]) (rest := []) (c_X4_say h22) vw_X4_203 ⟨rfl, rfl, by decide, by decide⟩ (z_rv C (q0 := 0) (ci := 4) rfl rfl rfl) rfl (Nat.le_of_ble_eq_true rfl) dX4_saySeat_64 ?_
  refine z_aload_n C 0 dX4_saySeat_67 rfl ?_
  refine z_aload_n C 0 dX4_saySeat_68 rfl ?_
  refine z_iload_n C 1 dX4_saySeat_69 rfl ?_
  obtain ⟨μ25, v26, h24, hf⟩ := bd2_e hf
  refine z_callVi C (As := [.int x1]) (rest := [.ref (G.1 0)]) (c_X4_cawOf h24) vw_X4_160 ⟨rfl, rfl, by decide, by decide⟩ (z_rv C (q0 := 0) (ci := 4) rfl rfl rfl) rfl (Nat.le_of_ble_eq_true rfl) dX4_saySeat_70 ?_
  refine z_i2l C dX4_saySeat_73 ?_
  obtain ⟨μ28, h27, hf⟩ := bd_e hf
  refine z_callVv C (As := [.long (v26).toInt64]) (rest := []) (c_X4_say h27) vw_X4_203 ⟨rfl, rfl, by decide, by decide⟩ (z_rv C (q0 := 0) (ci := 4) rfl rfl rfl) rfl (Nat.le_of_ble_eq_true rfl) dX4_saySeat_74 ?_
  exact z_vret C hR dX4_saySeat_77 (rt1 hf)
noncomputable def g_X4_digest_147 (μ : MM) : Option (MM × Int64) :=
 (some (μ, μ.2))
set_option maxHeartbeats 4000000 in
theorem zj_X4_digest_147 {X : ZX} {G : GW} {μ' : MM} {r : Int64} (μ : MM) (C : CX X (YM G) cX4_digest 3 RX4 { frames := 5, cells := 0, slots := 0, locals := 122 }) (hR : ZR X (YM G) (some .long) μ' (some (.long r))) (hf : g_X4_digest_147 μ = some (μ', r)) : Z X (YM G) 3 μ 147 [(0, .ref (G.1 0))] [] := by
  unfold g_X4_digest_147 at hf
  refine z_aload_n C 0 dX4_digest_147 rfl ?_
  refine zg_X4_199_0 C dX4_digest_148 ?_
  exact z_lret C hR dX4_digest_151 (rt2 hf).1 (rt2 hf).2
noncomputable def b_X4_digest_125 (ih125 : MM × Int32 → Option (MM × Int64)) (μ : MM) (x1 : Int32) : Option (MM × Int64) :=
 (if (9 : Int32) ≤ x1 then
 g_X4_digest_147 μ
 else
 (bd (f_X4_countOf μ x1) fun v10 =>
 (bd (f_X4_say μ (v10).toInt64) fun μ12 =>
 ih125 (μ12, (x1 + (1 : Int32))))))
set_option maxHeartbeats 4000000 in
theorem zl_X4_digest_125 {X : ZX} {G : GW} {μ' : MM} {r : Int64} (C : CX X (YM G) cX4_digest 3 RX4 { frames := 5, cells := 0, slots := 0, locals := 122 }) (hR : ZR X (YM G) (some .long) μ' (some (.long r))) : ∀ (n : Nat) (σ : MM × Int32), lp (fun ih σ => b_X4_digest_125 ih σ.1 σ.2) n σ = some (μ', r) → Z X (YM G) 3 σ.1 125 [(0, .ref (G.1 0)), (1, .int σ.2)] [] := by
  refine lp_z (P := fun σ : MM × Int32 => Z X (YM G) 3 σ.1 125 [(0, .ref (G.1 0)), (1, .int σ.2)] []) (fun ih125 hih125 σ hf => ?_)
  obtain ⟨μ, x1⟩ := σ
  have hf : b_X4_digest_125 ih125 μ x1 = some (μ', r) := hf
  show Z X (YM G) 3 μ 125 [(0, .ref (G.1 0)), (1, .int x1)] []
  unfold b_X4_digest_125 at hf
  refine z_iload_n C 1 dX4_digest_125 rfl ?_
  refine z_bipush C dX4_digest_126 (v := (9 : Int32)) (by decide) ?_
  refine z_icmp_ge C 147 dX4_digest_128 (by decide) (fun c8 => ?_) (fun c8 => ?_)
  · replace hf := it_t hf c8
    refine z_lv C [0] (lv' := [(0, .ref (G.1 0))]) rfl ?_
    exact zj_X4_digest_147 μ C hR hf
  · replace hf := it_f hf c8
    refine z_aload_n C 0 dX4_digest_131 rfl ?_
    refine z_aload_n C 0 dX4_digest_132 rfl ?_
    refine z_iload_n C 1 dX4_digest_133 rfl ?_
    obtain ⟨v10, h9, hf⟩ := bd_e hf
    refine z_callVi C (As := [.int x1]) (rest := [.ref (G.1 0)]) (c_X4_countOf h9) vw_X4_194 ⟨rfl, rfl, by decide, by decide⟩ (z_rv C (q0 := 0) (ci := 4) rfl rfl rfl) rfl (Nat.le_of_ble_eq_true rfl) dX4_digest_134 ?_
    refine z_i2l C dX4_digest_137 ?_
    obtain ⟨μ12, h11, hf⟩ := bd_e hf
    refine z_callVv C (As := [.long (v10).toInt64]) (rest := []) (c_X4_say h11) vw_X4_203 ⟨rfl, rfl, by decide, by decide⟩ (z_rv C (q0 := 0) (ci := 4) rfl rfl rfl) rfl (Nat.le_of_ble_eq_true rfl) dX4_digest_138 ?_
    refine z_iinc C 1 dX4_digest_141 (v := (x1 + (1 : Int32))) (lv' := [(1, .int (x1 + (1 : Int32))), (0, .ref (G.1 0))]) rfl rfl (by decide) rfl ?_
    refine z_goto C 125 dX4_digest_144 (by decide) ?_
    refine z_lv C [1, 0] (lv' := [(0, .ref (G.1 0)), (1, .int (x1 + (1 : Int32)))]) rfl ?_
    exact hih125 (μ12, (x1 + (1 : Int32))) hf
noncomputable def g_X4_digest_123 (μ : MM) : Option (MM × Int64) :=
 lp (fun ih σ => b_X4_digest_125 ih σ.1 σ.2) fu (μ, (0 : Int32))
set_option maxHeartbeats 4000000 in
theorem zj_X4_digest_123 {X : ZX} {G : GW} {μ' : MM} {r : Int64} (μ : MM) (C : CX X (YM G) cX4_digest 3 RX4 { frames := 5, cells := 0, slots := 0, locals := 122 }) (hR : ZR X (YM G) (some .long) μ' (some (.long r))) (hf : g_X4_digest_123 μ = some (μ', r)) : Z X (YM G) 3 μ 123 [(0, .ref (G.1 0))] [] := by
  unfold g_X4_digest_123 at hf
  refine z_iconst C dX4_digest_123 (v := (0 : Int32)) (by decide) ?_
  refine z_istore_n C dX4_digest_124 (i := 1) (lv' := [(1, .int (0 : Int32)), (0, .ref (G.1 0))]) rfl (by decide) rfl ?_
  refine z_lv C [1, 0] (lv' := [(0, .ref (G.1 0)), (1, .int (0 : Int32))]) rfl ?_
  exact zl_X4_digest_125 C hR fu (μ, (0 : Int32)) hf
noncomputable def b_X4_digest_98 (ih98 : MM × Int32 → Option (MM × Int64)) (μ : MM) (x1 : Int32) : Option (MM × Int64) :=
 (if (μ.1 0 1) ≤ x1 then
 g_X4_digest_123 μ
 else
 (ck (vp_in x1 22) <|
 (bd (f_X4_say μ ((μ.1 1 (x1).toNatClampNeg)).toInt64) fun μ15 =>
 ih98 (μ15, (x1 + (1 : Int32))))))
set_option maxHeartbeats 4000000 in
theorem zl_X4_digest_98 {X : ZX} {G : GW} {μ' : MM} {r : Int64} (C : CX X (YM G) cX4_digest 3 RX4 { frames := 5, cells := 0, slots := 0, locals := 122 }) (hR : ZR X (YM G) (some .long) μ' (some (.long r))) : ∀ (n : Nat) (σ : MM × Int32), lp (fun ih σ => b_X4_digest_98 ih σ.1 σ.2) n σ = some (μ', r) → Z X (YM G) 3 σ.1 98 [(0, .ref (G.1 0)), (1, .int σ.2)] [] := by
  refine lp_z (P := fun σ : MM × Int32 => Z X (YM G) 3 σ.1 98 [(0, .ref (G.1 0)), (1, .int σ.2)] []) (fun ih98 hih98 σ hf => ?_)
  obtain ⟨μ, x1⟩ := σ
  have hf : b_X4_digest_98 ih98 μ x1 = some (μ', r) := hf
  show Z X (YM G) 3 μ 98 [(0, .ref (G.1 0)), (1, .int x1)] []
  unfold b_X4_digest_98 at hf
  refine z_iload_n C 1 dX4_digest_98 rfl ?_
  refine z_aload_n C 0 dX4_digest_99 rfl ?_
  refine zg_X4_62_0 C dX4_digest_100 ?_
  refine z_icmp_ge C 123 dX4_digest_103 (by decide) (fun c7 => ?_) (fun c7 => ?_)
  · replace hf := it_t hf c7
    refine z_lv C [0] (lv' := [(0, .ref (G.1 0))]) rfl ?_
    exact zj_X4_digest_123 μ C hR hf
  · replace hf := it_f hf c7
    refine z_aload_n C 0 dX4_digest_106 rfl ?_
    refine z_aload_n C 0 dX4_digest_107 rfl ?_
    refine zg_X4_7_0 C dX4_digest_108 ?_
    refine z_iload_n C 1 dX4_digest_111 rfl ?_
    obtain ⟨h13, hf⟩ := ck_e hf
    refine zMl_1 C dX4_digest_112 h13 ?_
    refine z_i2l C dX4_digest_113 ?_
    obtain ⟨μ15, h14, hf⟩ := bd_e hf
    refine z_callVv C (As := [.long ((μ.1 1 (x1).toNatClampNeg)).toInt64]) (rest := []) (c_X4_say h14) vw_X4_203 ⟨rfl, rfl, by decide, by decide⟩ (z_rv C (q0 := 0) (ci := 4) rfl rfl rfl) rfl (Nat.le_of_ble_eq_true rfl) dX4_digest_114 ?_
    refine z_iinc C 1 dX4_digest_117 (v := (x1 + (1 : Int32))) (lv' := [(1, .int (x1 + (1 : Int32))), (0, .ref (G.1 0))]) rfl rfl (by decide) rfl ?_
    refine z_goto C 98 dX4_digest_120 (by decide) ?_
    refine z_lv C [1, 0] (lv' := [(0, .ref (G.1 0)), (1, .int (x1 + (1 : Int32)))]) rfl ?_
    exact hih98 (μ15, (x1 + (1 : Int32))) hf
noncomputable def g_X4_digest_96 (μ : MM) : Option (MM × Int64) :=
 lp (fun ih σ => b_X4_digest_98 ih σ.1 σ.2) fu (μ, (0 : Int32))
set_option maxHeartbeats 4000000 in
theorem zj_X4_digest_96 {X : ZX} {G : GW} {μ' : MM} {r : Int64} (μ : MM) (C : CX X (YM G) cX4_digest 3 RX4 { frames := 5, cells := 0, slots := 0, locals := 122 }) (hR : ZR X (YM G) (some .long) μ' (some (.long r))) (hf : g_X4_digest_96 μ = some (μ', r)) : Z X (YM G) 3 μ 96 [(0, .ref (G.1 0))] [] := by
  unfold g_X4_digest_96 at hf
  refine z_iconst C dX4_digest_96 (v := (0 : Int32)) (by decide) ?_
  refine z_istore_n C dX4_digest_97 (i := 1) (lv' := [(1, .int (0 : Int32)), (0, .ref (G.1 0))]) rfl (by decide) rfl ?_
  refine z_lv C [1, 0] (lv' := [(0, .ref (G.1 0)), (1, .int (0 : Int32))]) rfl ?_
  exact zl_X4_digest_98 C hR fu (μ, (0 : Int32)) hf
noncomputable def g_X4_digest_80 (μ : MM) : Option (MM × Int64) :=
 (nm (f_X4_lacks μ) fun v5 : Int32 =>
 (if v5 = 0 then
 (bd2 (f_X4_canOf μ) fun μ17 v18 =>
 (bd (f_X4_say μ17 (v18).toInt64) fun μ20 =>
 g_X4_digest_96 μ20))
 else
 g_X4_digest_96 μ))
set_option maxHeartbeats 4000000 in
theorem zj_X4_digest_80 {X : ZX} {G : GW} {μ' : MM} {r : Int64} (μ : MM) (C : CX X (YM G) cX4_digest 3 RX4 { frames := 5, cells := 0, slots := 0, locals := 122 }) (hR : ZR X (YM G) (some .long) μ' (some (.long r))) (hf : g_X4_digest_80 μ = some (μ', r)) : Z X (YM G) 3 μ 80 [(0, .ref (G.1 0))] [] := by
  unfold g_X4_digest_80 at hf
  refine z_aload_n C 0 dX4_digest_80 rfl ?_
  obtain ⟨v5, h4⟩ : ∃ z, z = f_X4_lacks μ := ⟨_, rfl⟩
  replace hf := nm_e2 hf v5 h4
  refine z_callVi C (As := []) (rest := []) (c_X4_lacks h4.symm) vw_X4_122 ⟨rfl, rfl, by decide, by decide⟩ (z_rv C (q0 := 0) (ci := 4) rfl rfl rfl) rfl (Nat.le_of_ble_eq_true rfl) dX4_digest_81 ?_
  refine z_if_ne C 96 dX4_digest_84 (by decide) (fun c6 => ?_) (fun c6 => ?_)
  · replace hf := it_f hf c6
    exact zj_X4_digest_96 μ C hR hf
  · replace hf := it_t hf c6
    refine z_aload_n C 0 dX4_digest_87 rfl ?_
    refine z_aload_n C 0 dX4_digest_88 rfl ?_
    obtain ⟨μ17, v18, h16, hf⟩ := bd2_e hf
    refine z_callVi C (As := []) (rest := [.ref (G.1 0)]) (c_X4_canOf h16) vw_X4_136 ⟨rfl, rfl, by decide, by decide⟩ (z_rv C (q0 := 0) (ci := 4) rfl rfl rfl) rfl (Nat.le_of_ble_eq_true rfl) dX4_digest_89 ?_
    refine z_i2l C dX4_digest_92 ?_
    obtain ⟨μ20, h19, hf⟩ := bd_e hf
    refine z_callVv C (As := [.long (v18).toInt64]) (rest := []) (c_X4_say h19) vw_X4_203 ⟨rfl, rfl, by decide, by decide⟩ (z_rv C (q0 := 0) (ci := 4) rfl rfl rfl) rfl (Nat.le_of_ble_eq_true rfl) dX4_digest_93 ?_
    exact zj_X4_digest_96 μ20 C hR hf
noncomputable def b_X4_digest_61 (ih61 : MM × Int32 → Option (MM × Int64)) (μ : MM) (x1 : Int32) : Option (MM × Int64) :=
 (if (μ.1 0 6) ≤ x1 then
 g_X4_digest_80 μ
 else
 (bd (f_X4_saySeat μ x1) fun μ22 =>
 ih61 (μ22, (x1 + (1 : Int32)))))
set_option maxHeartbeats 4000000 in
theorem zl_X4_digest_61 {X : ZX} {G : GW} {μ' : MM} {r : Int64} (C : CX X (YM G) cX4_digest 3 RX4 { frames := 5, cells := 0, slots := 0, locals := 122 }) (hR : ZR X (YM G) (some .long) μ' (some (.long r))) : ∀ (n : Nat) (σ : MM × Int32), lp (fun ih σ => b_X4_digest_61 ih σ.1 σ.2) n σ = some (μ', r) → Z X (YM G) 3 σ.1 61 [(0, .ref (G.1 0)), (1, .int σ.2)] [] := by
  refine lp_z (P := fun σ : MM × Int32 => Z X (YM G) 3 σ.1 61 [(0, .ref (G.1 0)), (1, .int σ.2)] []) (fun ih61 hih61 σ hf => ?_)
  obtain ⟨μ, x1⟩ := σ
  have hf : b_X4_digest_61 ih61 μ x1 = some (μ', r) := hf
  show Z X (YM G) 3 μ 61 [(0, .ref (G.1 0)), (1, .int x1)] []
  unfold b_X4_digest_61 at hf
  refine z_iload_n C 1 dX4_digest_61 rfl ?_
  refine z_aload_n C 0 dX4_digest_62 rfl ?_
  refine zg_X4_88_0 C dX4_digest_63 ?_
  refine z_icmp_ge C 80 dX4_digest_66 (by decide) (fun c3 => ?_) (fun c3 => ?_)
  · replace hf := it_t hf c3
    refine z_lv C [0] (lv' := [(0, .ref (G.1 0))]) rfl ?_
    exact zj_X4_digest_80 μ C hR hf
  · replace hf := it_f hf c3
    refine z_aload_n C 0 dX4_digest_69 rfl ?_
    refine z_iload_n C 1 dX4_digest_70 rfl ?_
    obtain ⟨μ22, h21, hf⟩ := bd_e hf
    refine z_callVv C (As := [.int x1]) (rest := []) (c_X4_saySeat h21) vw_X4_209 ⟨rfl, rfl, by decide, by decide⟩ (z_rv C (q0 := 0) (ci := 4) rfl rfl rfl) rfl (Nat.le_of_ble_eq_true rfl) dX4_digest_71 ?_
    refine z_iinc C 1 dX4_digest_74 (v := (x1 + (1 : Int32))) (lv' := [(1, .int (x1 + (1 : Int32))), (0, .ref (G.1 0))]) rfl rfl (by decide) rfl ?_
    refine z_goto C 61 dX4_digest_77 (by decide) ?_
    refine z_lv C [1, 0] (lv' := [(0, .ref (G.1 0)), (1, .int (x1 + (1 : Int32)))]) rfl ?_
    exact hih61 (μ22, (x1 + (1 : Int32))) hf
noncomputable def g_X4_digest_59 (μ : MM) : Option (MM × Int64) :=
 lp (fun ih σ => b_X4_digest_61 ih σ.1 σ.2) fu (μ, (0 : Int32))
set_option maxHeartbeats 4000000 in
theorem zj_X4_digest_59 {X : ZX} {G : GW} {μ' : MM} {r : Int64} (μ : MM) (C : CX X (YM G) cX4_digest 3 RX4 { frames := 5, cells := 0, slots := 0, locals := 122 }) (hR : ZR X (YM G) (some .long) μ' (some (.long r))) (hf : g_X4_digest_59 μ = some (μ', r)) : Z X (YM G) 3 μ 59 [(0, .ref (G.1 0))] [] := by
  unfold g_X4_digest_59 at hf
  refine z_iconst C dX4_digest_59 (v := (0 : Int32)) (by decide) ?_
  refine z_istore_n C dX4_digest_60 (i := 1) (lv' := [(1, .int (0 : Int32)), (0, .ref (G.1 0))]) rfl (by decide) rfl ?_
  refine z_lv C [1, 0] (lv' := [(0, .ref (G.1 0)), (1, .int (0 : Int32))]) rfl ?_
  exact zl_X4_digest_61 C hR fu (μ, (0 : Int32)) hf
noncomputable def g_X4_digest_53 (μ : MM) (x1 : Int32) (ih9 : MM × Int32 → Option (MM × Int64)) : Option (MM × Int64) :=
 ih9 (μ, (x1 + (1 : Int32)))
set_option maxHeartbeats 4000000 in
theorem zj_X4_digest_53 {X : ZX} {G : GW} {μ' : MM} {r : Int64} (μ : MM) (x1 : Int32) (C : CX X (YM G) cX4_digest 3 RX4 { frames := 5, cells := 0, slots := 0, locals := 122 }) (hR : ZR X (YM G) (some .long) μ' (some (.long r))) (ih9 : MM × Int32 → Option (MM × Int64)) (hih9 : ∀ σ, ih9 σ = some (μ', r) → Z X (YM G) 3 σ.1 9 [(0, .ref (G.1 0)), (1, .int σ.2)] []) (hf : g_X4_digest_53 μ x1 ih9 = some (μ', r)) : Z X (YM G) 3 μ 53 [(0, .ref (G.1 0)), (1, .int x1)] [] := by
  unfold g_X4_digest_53 at hf
  refine z_iinc C 1 dX4_digest_53 (v := (x1 + (1 : Int32))) (lv' := [(1, .int (x1 + (1 : Int32))), (0, .ref (G.1 0))]) rfl rfl (by decide) rfl ?_
  refine z_goto C 9 dX4_digest_56 (by decide) ?_
  refine z_lv C [1, 0] (lv' := [(0, .ref (G.1 0)), (1, .int (x1 + (1 : Int32)))]) rfl ?_
  exact hih9 (μ, (x1 + (1 : Int32))) hf
noncomputable def g_X4_digest_47 (μ : MM) (x1 : Int32) (x2 : Int32) (ih9 : MM × Int32 → Option (MM × Int64)) (ih19 : MM × Int32 → Option (MM × Int64)) : Option (MM × Int64) :=
 ih19 (μ, (x2 + (1 : Int32)))
set_option maxHeartbeats 4000000 in
theorem zj_X4_digest_47 {X : ZX} {G : GW} {μ' : MM} {r : Int64} (μ : MM) (x1 : Int32) (x2 : Int32) (C : CX X (YM G) cX4_digest 3 RX4 { frames := 5, cells := 0, slots := 0, locals := 122 }) (hR : ZR X (YM G) (some .long) μ' (some (.long r))) (ih9 : MM × Int32 → Option (MM × Int64)) (hih9 : ∀ σ, ih9 σ = some (μ', r) → Z X (YM G) 3 σ.1 9 [(0, .ref (G.1 0)), (1, .int σ.2)] []) (ih19 : MM × Int32 → Option (MM × Int64)) (hih19 : ∀ σ, ih19 σ = some (μ', r) → Z X (YM G) 3 σ.1 19 [(0, .ref (G.1 0)), (1, .int x1), (2, .int σ.2)] []) (hf : g_X4_digest_47 μ x1 x2 ih9 ih19 = some (μ', r)) : Z X (YM G) 3 μ 47 [(0, .ref (G.1 0)), (1, .int x1), (2, .int x2)] [] := by
  unfold g_X4_digest_47 at hf
  refine z_iinc C 2 dX4_digest_47 (v := (x2 + (1 : Int32))) (lv' := [(2, .int (x2 + (1 : Int32))), (0, .ref (G.1 0)), (1, .int x1)]) rfl rfl (by decide) rfl ?_
  refine z_goto C 19 dX4_digest_50 (by decide) ?_
  refine z_lv C [1, 2, 0] (lv' := [(0, .ref (G.1 0)), (1, .int x1), (2, .int (x2 + (1 : Int32)))]) rfl ?_
  exact hih19 (μ, (x2 + (1 : Int32))) hf
noncomputable def g_X4_digest_36 (μ : MM) (x1 : Int32) (x2 : Int32) (ih9 : MM × Int32 → Option (MM × Int64)) (ih19 : MM × Int32 → Option (MM × Int64)) : Option (MM × Int64) :=
 (bd (f_X4_tell μ x1 x2) fun v26 =>
 (bd (f_X4_say μ (v26).toInt64) fun μ28 =>
 g_X4_digest_47 μ28 x1 x2 ih9 ih19))
set_option maxHeartbeats 4000000 in
theorem zj_X4_digest_36 {X : ZX} {G : GW} {μ' : MM} {r : Int64} (μ : MM) (x1 : Int32) (x2 : Int32) (C : CX X (YM G) cX4_digest 3 RX4 { frames := 5, cells := 0, slots := 0, locals := 122 }) (hR : ZR X (YM G) (some .long) μ' (some (.long r))) (ih9 : MM × Int32 → Option (MM × Int64)) (hih9 : ∀ σ, ih9 σ = some (μ', r) → Z X (YM G) 3 σ.1 9 [(0, .ref (G.1 0)), (1, .int σ.2)] []) (ih19 : MM × Int32 → Option (MM × Int64)) (hih19 : ∀ σ, ih19 σ = some (μ', r) → Z X (YM G) 3 σ.1 19 [(0, .ref (G.1 0)), (1, .int x1), (2, .int σ.2)] []) (hf : g_X4_digest_36 μ x1 x2 ih9 ih19 = some (μ', r)) : Z X (YM G) 3 μ 36 [(0, .ref (G.1 0)), (1, .int x1), (2, .int x2)] [] := by
  unfold g_X4_digest_36 at hf
  refine z_aload_n C 0 dX4_digest_36 rfl ?_
  refine z_aload_n C 0 dX4_digest_37 rfl ?_
  refine z_iload_n C 1 dX4_digest_38 rfl ?_
  refine z_iload_n C 2 dX4_digest_39 rfl ?_
  obtain ⟨v26, h25, hf⟩ := bd_e hf
  refine z_callVi C (As := [.int x1, .int x2]) (rest := [.ref (G.1 0)]) (c_X4_tell h25) vw_X4_116 ⟨rfl, rfl, by decide, by decide⟩ (z_rv C (q0 := 0) (ci := 4) rfl rfl rfl) rfl (Nat.le_of_ble_eq_true rfl) dX4_digest_40 ?_
  refine z_i2l C dX4_digest_43 ?_
  obtain ⟨μ28, h27, hf⟩ := bd_e hf
  refine z_callVv C (As := [.long (v26).toInt64]) (rest := []) (c_X4_say h27) vw_X4_203 ⟨rfl, rfl, by decide, by decide⟩ (z_rv C (q0 := 0) (ci := 4) rfl rfl rfl) rfl (Nat.le_of_ble_eq_true rfl) dX4_digest_44 ?_
  exact zj_X4_digest_47 μ28 x1 x2 C hR ih9 hih9 ih19 hih19 hf
noncomputable def b_X4_digest_19 (x1 : Int32) (ih9 : MM × Int32 → Option (MM × Int64)) (ih19 : MM × Int32 → Option (MM × Int64)) (μ : MM) (x2 : Int32) : Option (MM × Int64) :=
 (if (18 : Int32) ≤ x2 then
 g_X4_digest_53 μ x1 ih9
 else
 (if x2 < (4 : Int32) then
 g_X4_digest_36 μ x1 x2 ih9 ih19
 else
 (if x2 ≤ (9 : Int32) then
 g_X4_digest_47 μ x1 x2 ih9 ih19
 else
 g_X4_digest_36 μ x1 x2 ih9 ih19)))
set_option maxHeartbeats 4000000 in
theorem zl_X4_digest_19 {X : ZX} {G : GW} {μ' : MM} {r : Int64} (x1 : Int32) (C : CX X (YM G) cX4_digest 3 RX4 { frames := 5, cells := 0, slots := 0, locals := 122 }) (hR : ZR X (YM G) (some .long) μ' (some (.long r))) (ih9 : MM × Int32 → Option (MM × Int64)) (hih9 : ∀ σ, ih9 σ = some (μ', r) → Z X (YM G) 3 σ.1 9 [(0, .ref (G.1 0)), (1, .int σ.2)] []) : ∀ (n : Nat) (σ : MM × Int32), lp (fun ih σ => b_X4_digest_19 x1 ih9 ih σ.1 σ.2) n σ = some (μ', r) → Z X (YM G) 3 σ.1 19 [(0, .ref (G.1 0)), (1, .int x1), (2, .int σ.2)] [] := by
  refine lp_z (P := fun σ : MM × Int32 => Z X (YM G) 3 σ.1 19 [(0, .ref (G.1 0)), (1, .int x1), (2, .int σ.2)] []) (fun ih19 hih19 σ hf => ?_)
  obtain ⟨μ, x2⟩ := σ
  have hf : b_X4_digest_19 x1 ih9 ih19 μ x2 = some (μ', r) := hf
  show Z X (YM G) 3 μ 19 [(0, .ref (G.1 0)), (1, .int x1), (2, .int x2)] []
  unfold b_X4_digest_19 at hf
  refine z_iload_n C 2 dX4_digest_19 rfl ?_
  refine z_bipush C dX4_digest_20 (v := (18 : Int32)) (by decide) ?_
  refine z_icmp_ge C 53 dX4_digest_22 (by decide) (fun c23 => ?_) (fun c23 => ?_)
  · replace hf := it_t hf c23
    refine z_lv C [0, 1] (lv' := [(0, .ref (G.1 0)), (1, .int x1)]) rfl ?_
    exact zj_X4_digest_53 μ x1 C hR ih9 hih9 hf
  · replace hf := it_f hf c23
    refine z_iload_n C 2 dX4_digest_25 rfl ?_
    refine z_iconst C dX4_digest_26 (v := (4 : Int32)) (by decide) ?_
    refine z_icmp_lt C 36 dX4_digest_27 (by decide) (fun c24 => ?_) (fun c24 => ?_)
    · replace hf := it_t hf c24
      exact zj_X4_digest_36 μ x1 x2 C hR ih9 hih9 ih19 hih19 hf
    · replace hf := it_f hf c24
      refine z_iload_n C 2 dX4_digest_30 rfl ?_
      refine z_bipush C dX4_digest_31 (v := (9 : Int32)) (by decide) ?_
      refine z_icmp_le C 47 dX4_digest_33 (by decide) (fun c29 => ?_) (fun c29 => ?_)
      · replace hf := it_t hf c29
        exact zj_X4_digest_47 μ x1 x2 C hR ih9 hih9 ih19 hih19 hf
      · replace hf := it_f hf c29
        exact zj_X4_digest_36 μ x1 x2 C hR ih9 hih9 ih19 hih19 hf
noncomputable def b_X4_digest_9 (ih9 : MM × Int32 → Option (MM × Int64)) (μ : MM) (x1 : Int32) : Option (MM × Int64) :=
 (if (μ.1 0 6) ≤ x1 then
 g_X4_digest_59 μ
 else
 lp (fun ih σ => b_X4_digest_19 x1 ih9 ih σ.1 σ.2) fu (μ, (0 : Int32)))
set_option maxHeartbeats 4000000 in
theorem zl_X4_digest_9 {X : ZX} {G : GW} {μ' : MM} {r : Int64} (C : CX X (YM G) cX4_digest 3 RX4 { frames := 5, cells := 0, slots := 0, locals := 122 }) (hR : ZR X (YM G) (some .long) μ' (some (.long r))) : ∀ (n : Nat) (σ : MM × Int32), lp (fun ih σ => b_X4_digest_9 ih σ.1 σ.2) n σ = some (μ', r) → Z X (YM G) 3 σ.1 9 [(0, .ref (G.1 0)), (1, .int σ.2)] [] := by
  refine lp_z (P := fun σ : MM × Int32 => Z X (YM G) 3 σ.1 9 [(0, .ref (G.1 0)), (1, .int σ.2)] []) (fun ih9 hih9 σ hf => ?_)
  obtain ⟨μ, x1⟩ := σ
  have hf : b_X4_digest_9 ih9 μ x1 = some (μ', r) := hf
  show Z X (YM G) 3 μ 9 [(0, .ref (G.1 0)), (1, .int x1)] []
  unfold b_X4_digest_9 at hf
  refine z_iload_n C 1 dX4_digest_9 rfl ?_
  refine z_aload_n C 0 dX4_digest_10 rfl ?_
  refine zg_X4_88_0 C dX4_digest_11 ?_
  refine z_icmp_ge C 59 dX4_digest_14 (by decide) (fun c2 => ?_) (fun c2 => ?_)
  · replace hf := it_t hf c2
    refine z_lv C [0] (lv' := [(0, .ref (G.1 0))]) rfl ?_
    exact zj_X4_digest_59 μ C hR hf
  · replace hf := it_f hf c2
    refine z_iconst C dX4_digest_17 (v := (0 : Int32)) (by decide) ?_
    refine z_istore_n C dX4_digest_18 (i := 2) (lv' := [(2, .int (0 : Int32)), (0, .ref (G.1 0)), (1, .int x1)]) rfl (by decide) rfl ?_
    refine z_lv C [1, 2, 0] (lv' := [(0, .ref (G.1 0)), (1, .int x1), (2, .int (0 : Int32))]) rfl ?_
    exact zl_X4_digest_19 x1 C hR ih9 hih9 fu (μ, (0 : Int32)) hf
noncomputable def f_X4_digest (μ : MM) : Option (MM × Int64) :=
 (nm ((μ.1, (797 : Int64))) fun μ1 : MM =>
 lp (fun ih σ => b_X4_digest_9 ih σ.1 σ.2) fu (μ1, (0 : Int32)))
set_option maxHeartbeats 4000000 in
theorem c_X4_digest {l : Launch} {G : GW} {μ : MM} {μ' : MM} {r : Int64} (hf : f_X4_digest μ = some (μ', r)) : MZ l (YM G) yX4_digest cX4_digest 3 (some .long) { frames := 5, cells := 0, slots := 0, locals := 122 } [.ref (G.1 0)] μ μ' (some (.long r)) := by
  refine z_met RX4 rfl (by decide) (Nat.le_of_ble_eq_true rfl) (fun X hX C hR => ?_)
  show Z X (YM G) 3 μ 0 [(0, .ref (G.1 0))] []
  unfold f_X4_digest at hf
  refine z_aload_n C 0 dX4_digest_0 rfl ?_
  refine z_ldc2 C dX4_digest_1 (v := (797 : Int64)) (ww_in 880 (by decide +kernel) (by decide +kernel)) ?_
  refine zp_X4_199_0 C dX4_digest_4 ?_
  refine z_mem (fun μ1 eμ1 => ?_)
  replace hf := nm_e2 hf μ1 eμ1
  refine z_iconst C dX4_digest_7 (v := (0 : Int32)) (by decide) ?_
  refine z_istore_n C dX4_digest_8 (i := 1) (lv' := [(1, .int (0 : Int32)), (0, .ref (G.1 0))]) rfl (by decide) rfl ?_
  refine z_lv C [1, 0] (lv' := [(0, .ref (G.1 0)), (1, .int (0 : Int32))]) rfl ?_
  exact zl_X4_digest_9 C hR fu (μ1, (0 : Int32)) hf
