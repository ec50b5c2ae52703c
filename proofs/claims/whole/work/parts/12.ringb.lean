noncomputable def g_X3_seatByOrder_66 (μ : Mem) (x2 : Int32) (x3 : Int32) (x4 : Int32) (ih18 : Mem × Int32 × Int32 × Int32 → Option (Mem × Int32)) : Option (Mem × Int32) :=
 ih18 (μ, x2, x3, (x4 + (1 : Int32)))
set_option maxHeartbeats 4000000 in
theorem zj_X3_seatByOrder_66 {X : ZX} {G : GW} {μ' : Mem} {r : Int32} (μ : Mem) (x2 : Int32) (x3 : Int32) (x4 : Int32) (C : CX X (YR G) cX3_seatByOrder 6 RX3 { frames := 2, cells := 0, slots := 0, locals := 47 }) (hR : ZR X (YR G) (some .int) μ' (some (.int r))) (ih18 : Mem × Int32 × Int32 × Int32 → Option (Mem × Int32)) (hih18 : ∀ σ, ih18 σ = some (μ', r) → Z X (YR G) 6 σ.1 18 [(0, .ref (G.1 0)), (2, .int σ.2.1), (3, .int σ.2.2.1), (4, .int σ.2.2.2)] []) (hf : g_X3_seatByOrder_66 μ x2 x3 x4 ih18 = some (μ', r)) : Z X (YR G) 6 μ 66 [(0, .ref (G.1 0)), (2, .int x2), (3, .int x3), (4, .int x4)] [] := by
  unfold g_X3_seatByOrder_66 at hf
  refine z_iinc C 3 dX3_seatByOrder_66 (v := (x4 + (1 : Int32))) (lv' := [(4, .int (x4 + (1 : Int32))), (0, .ref (G.1 0)), (2, .int x2), (3, .int x3)]) rfl rfl (by decide) rfl ?_
  refine z_goto C 18 dX3_seatByOrder_69 (by decide) ?_
  refine z_lv C [1, 2, 3, 0] (lv' := [(0, .ref (G.1 0)), (2, .int x2), (3, .int x3), (4, .int (x4 + (1 : Int32)))]) rfl ?_
  exact hih18 (μ, x2, x3, (x4 + (1 : Int32))) hf
noncomputable def b_X3_seatByOrder_18 (ih18 : Mem × Int32 × Int32 × Int32 → Option (Mem × Int32)) (μ : Mem) (x2 : Int32) (x3 : Int32) (x4 : Int32) : Option (Mem × Int32) :=
 (if (μ 3 7) ≤ x4 then
 (some (μ, x3))
 else
 (ck (¬ (x4 + (1 : Int32)) = 0) <|
 (nm ((x2 - x2 / (x4 + (1 : Int32)) * (x4 + (1 : Int32)))) fun v5 : Int32 =>
 (nm ((x2 / (x4 + (1 : Int32)))) fun v6 : Int32 =>
 (if v5 = x4 then
 g_X3_seatByOrder_66 μ v6 x3 x4 ih18
 else
 (bd (f_X0_swap μ x4 v5) fun μ9 =>
 g_X3_seatByOrder_66 μ9 v6 ((x3 + (1 : Int32))) x4 ih18))))))
set_option maxHeartbeats 4000000 in
theorem zl_X3_seatByOrder_18 {X : ZX} {G : GW} {μ' : Mem} {r : Int32} (C : CX X (YR G) cX3_seatByOrder 6 RX3 { frames := 2, cells := 0, slots := 0, locals := 47 }) (hR : ZR X (YR G) (some .int) μ' (some (.int r))) : ∀ (n : Nat) (σ : Mem × Int32 × Int32 × Int32), lp (fun ih σ => b_X3_seatByOrder_18 ih σ.1 σ.2.1 σ.2.2.1 σ.2.2.2) n σ = some (μ', r) → Z X (YR G) 6 σ.1 18 [(0, .ref (G.1 0)), (2, .int σ.2.1), (3, .int σ.2.2.1), (4, .int σ.2.2.2)] [] := by
  refine lp_z (P := fun σ : Mem × Int32 × Int32 × Int32 => Z X (YR G) 6 σ.1 18 [(0, .ref (G.1 0)), (2, .int σ.2.1), (3, .int σ.2.2.1), (4, .int σ.2.2.2)] []) (fun ih18 hih18 σ hf => ?_)
  obtain ⟨μ, x2, x3, x4⟩ := σ
  have hf : b_X3_seatByOrder_18 ih18 μ x2 x3 x4 = some (μ', r) := hf
  show Z X (YR G) 6 μ 18 [(0, .ref (G.1 0)), (2, .int x2), (3, .int x3), (4, .int x4)] []
  unfold b_X3_seatByOrder_18 at hf
  refine z_iload C 3 dX3_seatByOrder_18 rfl ?_
  refine z_aload_n C 0 dX3_seatByOrder_20 rfl ?_
  refine zg_X3_19_0 C dX3_seatByOrder_21 ?_
  refine zg_X3_67_3 C dX3_seatByOrder_24 ?_
  refine z_icmp_ge C 72 dX3_seatByOrder_27 (by decide) (fun c3 => ?_) (fun c3 => ?_)
  · replace hf := it_t hf c3
    refine z_iload_n C 2 dX3_seatByOrder_72 rfl ?_
    exact z_iret C hR dX3_seatByOrder_73 (rt2 hf).1 (rt2 hf).2
  · replace hf := it_f hf c3
    refine z_iload_n C 1 dX3_seatByOrder_30 rfl ?_
    refine z_iload C 3 dX3_seatByOrder_31 rfl ?_
    refine z_iconst C dX3_seatByOrder_33 (v := (1 : Int32)) (by decide) ?_
    refine z_iadd C dX3_seatByOrder_34 ?_
    obtain ⟨h4, hf⟩ := ck_e hf
    refine z_irem C dX3_seatByOrder_35 h4 ?_
    refine z_topi (fun v5 ev5 => ?_)
    replace hf := nm_e2 hf v5 ev5
    refine z_istore C dX3_seatByOrder_36 (i := 5) (lv' := [(5, .int v5), (0, .ref (G.1 0)), (2, .int x2), (3, .int x3), (4, .int x4)]) (by decide) rfl ?_
    refine z_iload_n C 2 dX3_seatByOrder_38 rfl ?_
    refine z_iload C 4 dX3_seatByOrder_39 rfl ?_
    refine z_iconst C dX3_seatByOrder_41 (v := (1 : Int32)) (by decide) ?_
    refine z_iadd C dX3_seatByOrder_42 ?_
    refine z_idiv C dX3_seatByOrder_43 h4 ?_
    refine z_topi (fun v6 ev6 => ?_)
    replace hf := nm_e2 hf v6 ev6
    refine z_istore_n C dX3_seatByOrder_44 (i := 2) (lv' := [(2, .int v6), (5, .int v5), (0, .ref (G.1 0)), (3, .int x3), (4, .int x4)]) rfl (by decide) rfl ?_
    refine z_iload C 1 dX3_seatByOrder_45 rfl ?_
    refine z_iload C 4 dX3_seatByOrder_47 rfl ?_
    refine z_icmp_eq C 66 dX3_seatByOrder_49 (by decide) (fun c7 => ?_) (fun c7 => ?_)
    · replace hf := it_t hf c7
      refine z_lv C [2, 0, 3, 4] (lv' := [(0, .ref (G.1 0)), (2, .int v6), (3, .int x3), (4, .int x4)]) rfl ?_
      exact zj_X3_seatByOrder_66 μ v6 x3 x4 C hR ih18 hih18 hf
    · replace hf := it_f hf c7
      refine z_aload_n C 2 dX3_seatByOrder_52 rfl ?_
      refine zg_X3_29_0 C dX3_seatByOrder_53 ?_
      refine z_iload C 4 dX3_seatByOrder_56 rfl ?_
      refine z_iload C 1 dX3_seatByOrder_58 rfl ?_
      obtain ⟨μ9, h8, hf⟩ := bd_e hf
      refine z_callVv C (As := [.int x4, .int v5]) (rest := []) (c_X0_swap h8) vw_X3_220 ⟨rfl, rfl, by decide, by decide⟩ (z_rv C (q0 := 19) (ci := 0) rfl rfl rfl) rfl (Nat.le_of_ble_eq_true rfl) dX3_seatByOrder_60 ?_
      refine z_iinc C 3 dX3_seatByOrder_63 (v := (x3 + (1 : Int32))) (lv' := [(3, .int (x3 + (1 : Int32))), (2, .int v6), (5, .int v5), (0, .ref (G.1 0)), (4, .int x4)]) rfl rfl (by decide) rfl ?_
      refine z_lv C [3, 1, 0, 4] (lv' := [(0, .ref (G.1 0)), (2, .int v6), (3, .int (x3 + (1 : Int32))), (4, .int x4)]) rfl ?_
      exact zj_X3_seatByOrder_66 μ9 v6 ((x3 + (1 : Int32))) x4 C hR ih18 hih18 hf
noncomputable def f_X3_seatByOrder (μ : Mem) (x1 : Int32) : Option (Mem × Int32) :=
 (bd (f_X0_seatAll μ) fun μ2 =>
 lp (fun ih σ => b_X3_seatByOrder_18 ih σ.1 σ.2.1 σ.2.2.1 σ.2.2.2) fu (μ2, x1, (0 : Int32), (1 : Int32)))
set_option maxHeartbeats 4000000 in
theorem c_X3_seatByOrder {l : Launch} {G : GW} {μ : Mem} {x1 : Int32} {μ' : Mem} {r : Int32} (hf : f_X3_seatByOrder μ x1 = some (μ', r)) : MZ l (YR G) yX3_seatByOrder cX3_seatByOrder 6 (some .int) { frames := 2, cells := 0, slots := 0, locals := 47 } [.ref (G.1 0), .int x1] μ μ' (some (.int r)) := by
  refine z_met RX3 rfl (by decide) (Nat.le_of_ble_eq_true rfl) (fun X hX C hR => ?_)
  show Z X (YR G) 6 μ 0 [(0, .ref (G.1 0)), (1, .int x1)] []
  unfold f_X3_seatByOrder at hf
  refine z_aload_n C 0 dX3_seatByOrder_0 rfl ?_
  refine zg_X3_29_0 C dX3_seatByOrder_1 ?_
  refine z_aload_n C 0 dX3_seatByOrder_4 rfl ?_
  refine zg_X3_19_0 C dX3_seatByOrder_5 ?_
  obtain ⟨μ2, h1, hf⟩ := bd_e hf
  refine z_callVv C (As := [.ref (G.1 3)]) (rest := []) (c_X0_seatAll h1) vw_X3_107 ⟨rfl, rfl, by decide, by decide⟩ (z_rv C (q0 := 19) (ci := 0) rfl rfl rfl) rfl (Nat.le_of_ble_eq_true rfl) dX3_seatByOrder_8 ?_
  refine z_iload_n C 1 dX3_seatByOrder_11 rfl ?_
  refine z_istore_n C dX3_seatByOrder_12 (i := 2) (lv' := [(2, .int x1), (0, .ref (G.1 0)), (1, .int x1)]) rfl (by decide) rfl ?_
  refine z_iconst C dX3_seatByOrder_13 (v := (0 : Int32)) (by decide) ?_
  refine z_istore_n C dX3_seatByOrder_14 (i := 3) (lv' := [(3, .int (0 : Int32)), (2, .int x1), (0, .ref (G.1 0)), (1, .int x1)]) rfl (by decide) rfl ?_
  refine z_iconst C dX3_seatByOrder_15 (v := (1 : Int32)) (by decide) ?_
  refine z_istore C dX3_seatByOrder_16 (i := 4) (lv' := [(4, .int (1 : Int32)), (3, .int (0 : Int32)), (2, .int x1), (0, .ref (G.1 0)), (1, .int x1)]) (by decide) rfl ?_
  refine z_lv C [3, 2, 1, 0] (lv' := [(0, .ref (G.1 0)), (2, .int x1), (3, .int (0 : Int32)), (4, .int (1 : Int32))]) rfl ?_
  exact zl_X3_seatByOrder_18 C hR fu (μ2, x1, (0 : Int32), (1 : Int32)) hf
noncomputable def g_X3_nearestSeatings_88 (μ : Mem) (x3 : Int32) (x4 : Int32) (x5 : Int32) : Option (Mem × Int32) :=
 (if x4 = (-1 : Int32) then
 (some (μ, (-1 : Int32)))
 else
 (if x3 = 0 then
 (some (μ, x4))
 else
 (some (μ, x5))))
set_option maxHeartbeats 4000000 in
theorem zj_X3_nearestSeatings_88 {X : ZX} {G : GW} {μ' : Mem} {r : Int32} (μ : Mem) (x3 : Int32) (x4 : Int32) (x5 : Int32) (C : CX X (YR G) cX3_nearestSeatings 9 RX3 { frames := 3, cells := 0, slots := 0, locals := 75 }) (hR : ZR X (YR G) (some .int) μ' (some (.int r))) (hf : g_X3_nearestSeatings_88 μ x3 x4 x5 = some (μ', r)) : Z X (YR G) 9 μ 88 [(3, .int x3), (4, .int x4), (5, .int x5)] [] := by
  unfold g_X3_nearestSeatings_88 at hf
  refine z_iload C 1 dX3_nearestSeatings_88 rfl ?_
  refine z_iconst C dX3_nearestSeatings_90 (v := (-1 : Int32)) (by decide) ?_
  refine z_icmp_ne C 96 dX3_nearestSeatings_91 (by decide) (fun c4 => ?_) (fun c4 => ?_)
  · replace hf := it_f hf c4
    refine z_iload_n C 0 dX3_nearestSeatings_96 rfl ?_
    refine z_if_ne C 105 dX3_nearestSeatings_97 (by decide) (fun c5 => ?_) (fun c5 => ?_)
    · replace hf := it_f hf c5
      refine z_iload C 2 dX3_nearestSeatings_105 rfl ?_
      exact z_iret C hR dX3_nearestSeatings_107 (rt2 hf).1 (rt2 hf).2
    · replace hf := it_t hf c5
      refine z_iload C 1 dX3_nearestSeatings_100 rfl ?_
      refine z_goto C 107 dX3_nearestSeatings_102 (by decide) ?_
      exact z_iret C hR dX3_nearestSeatings_107 (rt2 hf).1 (rt2 hf).2
  · replace hf := it_t hf c4
    refine z_iconst C dX3_nearestSeatings_94 (v := (-1 : Int32)) (by decide) ?_
    exact z_iret C hR dX3_nearestSeatings_95 (rt2 hf).1 (rt2 hf).2
noncomputable def g_X3_nearestSeatings_82 (μ : Mem) (x1 : Int32) (x2 : Int32) (x3 : Int32) (x4 : Int32) (x5 : Int32) (x6 : Int32) (x7 : Int32) (ih21 : Mem × Int32 × Int32 × Int32 → Option (Mem × Int32)) : Option (Mem × Int32) :=
 ih21 (μ, x4, x5, (x7 + (1 : Int32)))
set_option maxHeartbeats 4000000 in
theorem zj_X3_nearestSeatings_82 {X : ZX} {G : GW} {μ' : Mem} {r : Int32} (μ : Mem) (x1 : Int32) (x2 : Int32) (x3 : Int32) (x4 : Int32) (x5 : Int32) (x6 : Int32) (x7 : Int32) (C : CX X (YR G) cX3_nearestSeatings 9 RX3 { frames := 3, cells := 0, slots := 0, locals := 75 }) (hR : ZR X (YR G) (some .int) μ' (some (.int r))) (ih21 : Mem × Int32 × Int32 × Int32 → Option (Mem × Int32)) (hih21 : ∀ σ, ih21 σ = some (μ', r) → Z X (YR G) 9 σ.1 21 [(0, .ref (G.1 0)), (1, .int x1), (2, .int x2), (3, .int x3), (4, .int σ.2.1), (5, .int σ.2.2.1), (6, .int x6), (7, .int σ.2.2.2)] []) (hf : g_X3_nearestSeatings_82 μ x1 x2 x3 x4 x5 x6 x7 ih21 = some (μ', r)) : Z X (YR G) 9 μ 82 [(0, .ref (G.1 0)), (1, .int x1), (2, .int x2), (3, .int x3), (4, .int x4), (5, .int x5), (6, .int x6), (7, .int x7)] [] := by
  unfold g_X3_nearestSeatings_82 at hf
  refine z_iinc C 7 dX3_nearestSeatings_82 (v := (x7 + (1 : Int32))) (lv' := [(7, .int (x7 + (1 : Int32))), (0, .ref (G.1 0)), (1, .int x1), (2, .int x2), (3, .int x3), (4, .int x4), (5, .int x5), (6, .int x6)]) rfl rfl (by decide) rfl ?_
  refine z_goto C 21 dX3_nearestSeatings_85 (by decide) ?_
  refine z_lv C [1, 2, 3, 4, 5, 6, 7, 0] (lv' := [(0, .ref (G.1 0)), (1, .int x1), (2, .int x2), (3, .int x3), (4, .int x4), (5, .int x5), (6, .int x6), (7, .int (x7 + (1 : Int32)))]) rfl ?_
  exact hih21 (μ, x4, x5, (x7 + (1 : Int32))) hf
noncomputable def g_X3_nearestSeatings_72 (μ : Mem) (x1 : Int32) (x2 : Int32) (x3 : Int32) (x4 : Int32) (x5 : Int32) (x6 : Int32) (x7 : Int32) (x8 : Int32) (ih21 : Mem × Int32 × Int32 × Int32 → Option (Mem × Int32)) : Option (Mem × Int32) :=
 (if x8 = x4 then
 g_X3_nearestSeatings_82 μ x1 x2 x3 x4 ((x5 + (1 : Int32))) x6 x7 ih21
 else
 g_X3_nearestSeatings_82 μ x1 x2 x3 x4 x5 x6 x7 ih21)
set_option maxHeartbeats 4000000 in
theorem zj_X3_nearestSeatings_72 {X : ZX} {G : GW} {μ' : Mem} {r : Int32} (μ : Mem) (x1 : Int32) (x2 : Int32) (x3 : Int32) (x4 : Int32) (x5 : Int32) (x6 : Int32) (x7 : Int32) (x8 : Int32) (C : CX X (YR G) cX3_nearestSeatings 9 RX3 { frames := 3, cells := 0, slots := 0, locals := 75 }) (hR : ZR X (YR G) (some .int) μ' (some (.int r))) (ih21 : Mem × Int32 × Int32 × Int32 → Option (Mem × Int32)) (hih21 : ∀ σ, ih21 σ = some (μ', r) → Z X (YR G) 9 σ.1 21 [(0, .ref (G.1 0)), (1, .int x1), (2, .int x2), (3, .int x3), (4, .int σ.2.1), (5, .int σ.2.2.1), (6, .int x6), (7, .int σ.2.2.2)] []) (hf : g_X3_nearestSeatings_72 μ x1 x2 x3 x4 x5 x6 x7 x8 ih21 = some (μ', r)) : Z X (YR G) 9 μ 72 [(0, .ref (G.1 0)), (1, .int x1), (2, .int x2), (3, .int x3), (4, .int x4), (5, .int x5), (6, .int x6), (7, .int x7), (8, .int x8)] [] := by
  unfold g_X3_nearestSeatings_72 at hf
  refine z_iload C 8 dX3_nearestSeatings_72 rfl ?_
  refine z_iload C 4 dX3_nearestSeatings_74 rfl ?_
  refine z_icmp_ne C 82 dX3_nearestSeatings_76 (by decide) (fun c13 => ?_) (fun c13 => ?_)
  · replace hf := it_f hf c13
    refine z_lv C [0, 1, 2, 3, 4, 5, 6, 7] (lv' := [(0, .ref (G.1 0)), (1, .int x1), (2, .int x2), (3, .int x3), (4, .int x4), (5, .int x5), (6, .int x6), (7, .int x7)]) rfl ?_
    exact zj_X3_nearestSeatings_82 μ x1 x2 x3 x4 x5 x6 x7 C hR ih21 hih21 hf
  · replace hf := it_t hf c13
    refine z_iinc C 5 dX3_nearestSeatings_79 (v := (x5 + (1 : Int32))) (lv' := [(5, .int (x5 + (1 : Int32))), (0, .ref (G.1 0)), (1, .int x1), (2, .int x2), (3, .int x3), (4, .int x4), (6, .int x6), (7, .int x7), (8, .int x8)]) rfl rfl (by decide) rfl ?_
    refine z_lv C [1, 2, 3, 4, 5, 0, 6, 7] (lv' := [(0, .ref (G.1 0)), (1, .int x1), (2, .int x2), (3, .int x3), (4, .int x4), (5, .int (x5 + (1 : Int32))), (6, .int x6), (7, .int x7)]) rfl ?_
    exact zj_X3_nearestSeatings_82 μ x1 x2 x3 x4 ((x5 + (1 : Int32))) x6 x7 C hR ih21 hih21 hf
noncomputable def g_X3_nearestSeatings_65 (μ : Mem) (x1 : Int32) (x2 : Int32) (x3 : Int32) (x6 : Int32) (x7 : Int32) (x8 : Int32) (ih21 : Mem × Int32 × Int32 × Int32 → Option (Mem × Int32)) : Option (Mem × Int32) :=
 g_X3_nearestSeatings_72 μ x1 x2 x3 x8 (0 : Int32) x6 x7 x8 ih21
set_option maxHeartbeats 4000000 in
theorem zj_X3_nearestSeatings_65 {X : ZX} {G : GW} {μ' : Mem} {r : Int32} (μ : Mem) (x1 : Int32) (x2 : Int32) (x3 : Int32) (x6 : Int32) (x7 : Int32) (x8 : Int32) (C : CX X (YR G) cX3_nearestSeatings 9 RX3 { frames := 3, cells := 0, slots := 0, locals := 75 }) (hR : ZR X (YR G) (some .int) μ' (some (.int r))) (ih21 : Mem × Int32 × Int32 × Int32 → Option (Mem × Int32)) (hih21 : ∀ σ, ih21 σ = some (μ', r) → Z X (YR G) 9 σ.1 21 [(0, .ref (G.1 0)), (1, .int x1), (2, .int x2), (3, .int x3), (4, .int σ.2.1), (5, .int σ.2.2.1), (6, .int x6), (7, .int σ.2.2.2)] []) (hf : g_X3_nearestSeatings_65 μ x1 x2 x3 x6 x7 x8 ih21 = some (μ', r)) : Z X (YR G) 9 μ 65 [(0, .ref (G.1 0)), (1, .int x1), (2, .int x2), (3, .int x3), (6, .int x6), (7, .int x7), (8, .int x8)] [] := by
  unfold g_X3_nearestSeatings_65 at hf
  refine z_iload C 6 dX3_nearestSeatings_65 rfl ?_
  refine z_istore C dX3_nearestSeatings_67 (i := 4) (lv' := [(4, .int x8), (0, .ref (G.1 0)), (1, .int x1), (2, .int x2), (3, .int x3), (6, .int x6), (7, .int x7), (8, .int x8)]) (by decide) rfl ?_
  refine z_iconst C dX3_nearestSeatings_69 (v := (0 : Int32)) (by decide) ?_
  refine z_istore C dX3_nearestSeatings_70 (i := 5) (lv' := [(5, .int (0 : Int32)), (4, .int x8), (0, .ref (G.1 0)), (1, .int x1), (2, .int x2), (3, .int x3), (6, .int x6), (7, .int x7), (8, .int x8)]) (by decide) rfl ?_
  refine z_lv C [2, 3, 4, 5, 1, 0, 6, 7, 8] (lv' := [(0, .ref (G.1 0)), (1, .int x1), (2, .int x2), (3, .int x3), (4, .int x8), (5, .int (0 : Int32)), (6, .int x6), (7, .int x7), (8, .int x8)]) rfl ?_
  exact zj_X3_nearestSeatings_72 μ x1 x2 x3 x8 (0 : Int32) x6 x7 x8 C hR ih21 hih21 hf
noncomputable def b_X3_nearestSeatings_21 (x1 : Int32) (x2 : Int32) (x3 : Int32) (x6 : Int32) (ih21 : Mem × Int32 × Int32 × Int32 → Option (Mem × Int32)) (μ : Mem) (x4 : Int32) (x5 : Int32) (x7 : Int32) : Option (Mem × Int32) :=
 (if x6 ≤ x7 then
 g_X3_nearestSeatings_88 μ x3 x4 x5
 else
 (bd2 (f_X3_seatByOrder μ x7) fun μ7 v8 =>
 (bd (f_X0_outcome μ7 (0 : Int32) x1) fun v10 =>
 (if v10 = x2 then
 (if x4 = (-1 : Int32) then
 g_X3_nearestSeatings_65 μ7 x1 x2 x3 x6 x7 v8 ih21
 else
 (if x4 ≤ v8 then
 g_X3_nearestSeatings_72 μ7 x1 x2 x3 x4 x5 x6 x7 v8 ih21
 else
 g_X3_nearestSeatings_65 μ7 x1 x2 x3 x6 x7 v8 ih21))
 else
 g_X3_nearestSeatings_82 μ7 x1 x2 x3 x4 x5 x6 x7 ih21))))
set_option maxHeartbeats 4000000 in
theorem zl_X3_nearestSeatings_21 {X : ZX} {G : GW} {μ' : Mem} {r : Int32} (x1 : Int32) (x2 : Int32) (x3 : Int32) (x6 : Int32) (C : CX X (YR G) cX3_nearestSeatings 9 RX3 { frames := 3, cells := 0, slots := 0, locals := 75 }) (hR : ZR X (YR G) (some .int) μ' (some (.int r))) : ∀ (n : Nat) (σ : Mem × Int32 × Int32 × Int32), lp (fun ih σ => b_X3_nearestSeatings_21 x1 x2 x3 x6 ih σ.1 σ.2.1 σ.2.2.1 σ.2.2.2) n σ = some (μ', r) → Z X (YR G) 9 σ.1 21 [(0, .ref (G.1 0)), (1, .int x1), (2, .int x2), (3, .int x3), (4, .int σ.2.1), (5, .int σ.2.2.1), (6, .int x6), (7, .int σ.2.2.2)] [] := by
  refine lp_z (P := fun σ : Mem × Int32 × Int32 × Int32 => Z X (YR G) 9 σ.1 21 [(0, .ref (G.1 0)), (1, .int x1), (2, .int x2), (3, .int x3), (4, .int σ.2.1), (5, .int σ.2.2.1), (6, .int x6), (7, .int σ.2.2.2)] []) (fun ih21 hih21 σ hf => ?_)
  obtain ⟨μ, x4, x5, x7⟩ := σ
  have hf : b_X3_nearestSeatings_21 x1 x2 x3 x6 ih21 μ x4 x5 x7 = some (μ', r) := hf
  show Z X (YR G) 9 μ 21 [(0, .ref (G.1 0)), (1, .int x1), (2, .int x2), (3, .int x3), (4, .int x4), (5, .int x5), (6, .int x6), (7, .int x7)] []
  unfold b_X3_nearestSeatings_21 at hf
  refine z_iload C 7 dX3_nearestSeatings_21 rfl ?_
  refine z_iload C 6 dX3_nearestSeatings_23 rfl ?_
  refine z_icmp_ge C 88 dX3_nearestSeatings_25 (by decide) (fun c3 => ?_) (fun c3 => ?_)
  · replace hf := it_t hf c3
    refine z_lv C [3, 4, 5] (lv' := [(3, .int x3), (4, .int x4), (5, .int x5)]) rfl ?_
    exact zj_X3_nearestSeatings_88 μ x3 x4 x5 C hR hf
  · replace hf := it_f hf c3
    refine z_aload_n C 0 dX3_nearestSeatings_28 rfl ?_
    refine z_iload C 7 dX3_nearestSeatings_29 rfl ?_
    obtain ⟨μ7, v8, h6, hf⟩ := bd2_e hf
    refine z_callVi C (As := [.int x7]) (rest := []) (c_X3_seatByOrder h6) vw_X3_217 ⟨rfl, rfl, by decide, by decide⟩ (z_rv C (q0 := 0) (ci := 3) rfl rfl rfl) rfl (Nat.le_of_ble_eq_true rfl) dX3_nearestSeatings_31 ?_
    refine z_istore C dX3_nearestSeatings_34 (i := 8) (lv' := [(8, .int v8), (0, .ref (G.1 0)), (1, .int x1), (2, .int x2), (3, .int x3), (4, .int x4), (5, .int x5), (6, .int x6), (7, .int x7)]) (by decide) rfl ?_
    refine z_aload_n C 1 dX3_nearestSeatings_36 rfl ?_
    refine zg_X3_29_0 C dX3_nearestSeatings_37 ?_
    refine z_iconst C dX3_nearestSeatings_40 (v := (0 : Int32)) (by decide) ?_
    refine z_iload_n C 2 dX3_nearestSeatings_41 rfl ?_
    obtain ⟨v10, h9, hf⟩ := bd_e hf
    refine z_callVi C (As := [.int (0 : Int32), .int x1]) (rest := []) (c_X0_outcome h9) vw_X3_111 ⟨rfl, rfl, by decide, by decide⟩ (z_rv C (q0 := 19) (ci := 0) rfl rfl rfl) rfl (Nat.le_of_ble_eq_true rfl) dX3_nearestSeatings_42 ?_
    refine z_iload_n C 3 dX3_nearestSeatings_45 rfl ?_
    refine z_icmp_eq C 52 dX3_nearestSeatings_46 (by decide) (fun c11 => ?_) (fun c11 => ?_)
    · replace hf := it_t hf c11
      refine z_iload C 5 dX3_nearestSeatings_52 rfl ?_
      refine z_iconst C dX3_nearestSeatings_54 (v := (-1 : Int32)) (by decide) ?_
      refine z_icmp_eq C 65 dX3_nearestSeatings_55 (by decide) (fun c12 => ?_) (fun c12 => ?_)
      · replace hf := it_t hf c12
        refine z_lv C [1, 2, 3, 4, 7, 8, 0] (lv' := [(0, .ref (G.1 0)), (1, .int x1), (2, .int x2), (3, .int x3), (6, .int x6), (7, .int x7), (8, .int v8)]) rfl ?_
        exact zj_X3_nearestSeatings_65 μ7 x1 x2 x3 x6 x7 v8 C hR ih21 hih21 hf
      · replace hf := it_f hf c12
        refine z_iload C 0 dX3_nearestSeatings_58 rfl ?_
        refine z_iload C 5 dX3_nearestSeatings_60 rfl ?_
        refine z_icmp_ge C 72 dX3_nearestSeatings_62 (by decide) (fun c14 => ?_) (fun c14 => ?_)
        · replace hf := it_t hf c14
          refine z_lv C [1, 2, 3, 4, 5, 6, 7, 8, 0] (lv' := [(0, .ref (G.1 0)), (1, .int x1), (2, .int x2), (3, .int x3), (4, .int x4), (5, .int x5), (6, .int x6), (7, .int x7), (8, .int v8)]) rfl ?_
          exact zj_X3_nearestSeatings_72 μ7 x1 x2 x3 x4 x5 x6 x7 v8 C hR ih21 hih21 hf
        · replace hf := it_f hf c14
          refine z_lv C [1, 2, 3, 4, 7, 8, 0] (lv' := [(0, .ref (G.1 0)), (1, .int x1), (2, .int x2), (3, .int x3), (6, .int x6), (7, .int x7), (8, .int v8)]) rfl ?_
          exact zj_X3_nearestSeatings_65 μ7 x1 x2 x3 x6 x7 v8 C hR ih21 hih21 hf
    · replace hf := it_f hf c11
      refine z_goto C 82 dX3_nearestSeatings_49 (by decide) ?_
      refine z_lv C [1, 2, 3, 4, 5, 6, 7, 8] (lv' := [(0, .ref (G.1 0)), (1, .int x1), (2, .int x2), (3, .int x3), (4, .int x4), (5, .int x5), (6, .int x6), (7, .int x7)]) rfl ?_
      exact zj_X3_nearestSeatings_82 μ7 x1 x2 x3 x4 x5 x6 x7 C hR ih21 hih21 hf
noncomputable def f_X3_nearestSeatings (μ : Mem) (x1 : Int32) (x2 : Int32) (x3 : Int32) : Option (Mem × Int32) :=
 (bd (f_X3_ordersOf μ (μ 3 7)) fun v2 =>
 lp (fun ih σ => b_X3_nearestSeatings_21 x1 x2 x3 v2 ih σ.1 σ.2.1 σ.2.2.1 σ.2.2.2) fu (μ, (-1 : Int32), (0 : Int32), (0 : Int32)))
set_option maxHeartbeats 4000000 in
theorem c_X3_nearestSeatings {l : Launch} {G : GW} {μ : Mem} {x1 : Int32} {x2 : Int32} {x3 : Int32} {μ' : Mem} {r : Int32} (hf : f_X3_nearestSeatings μ x1 x2 x3 = some (μ', r)) : MZ l (YR G) yX3_nearestSeatings cX3_nearestSeatings 9 (some .int) { frames := 3, cells := 0, slots := 0, locals := 75 } [.ref (G.1 0), .int x1, .int x2, .int x3] μ μ' (some (.int r)) := by
  refine z_met RX3 rfl (by decide) (Nat.le_of_ble_eq_true rfl) (fun X hX C hR => ?_)
  show Z X (YR G) 9 μ 0 [(0, .ref (G.1 0)), (1, .int x1), (2, .int x2), (3, .int x3)] []
  unfold f_X3_nearestSeatings at hf
  refine z_iconst C dX3_nearestSeatings_0 (v := (-1 : Int32)) (by decide) ?_
  refine z_istore C dX3_nearestSeatings_1 (i := 4) (lv' := [(4, .int (-1 : Int32)), (0, .ref (G.1 0)), (1, .int x1), (2, .int x2), (3, .int x3)]) (by decide) rfl ?_
  refine z_iconst C dX3_nearestSeatings_3 (v := (0 : Int32)) (by decide) ?_
  refine z_istore C dX3_nearestSeatings_4 (i := 5) (lv' := [(5, .int (0 : Int32)), (4, .int (-1 : Int32)), (0, .ref (G.1 0)), (1, .int x1), (2, .int x2), (3, .int x3)]) (by decide) rfl ?_
  refine z_aload_n C 2 dX3_nearestSeatings_6 rfl ?_
  refine zg_X3_19_0 C dX3_nearestSeatings_7 ?_
  refine zg_X3_67_3 C dX3_nearestSeatings_10 ?_
  obtain ⟨v2, h1, hf⟩ := bd_e hf
  refine z_callSi C (As := [.int (μ 3 7)]) (rest := []) (c_X3_ordersOf h1) sw_X3_214 ⟨rfl, rfl, by decide, by decide⟩ rfl (Nat.le_of_ble_eq_true rfl) dX3_nearestSeatings_13 ?_
  refine z_istore C dX3_nearestSeatings_16 (i := 6) (lv' := [(6, .int v2), (5, .int (0 : Int32)), (4, .int (-1 : Int32)), (0, .ref (G.1 0)), (1, .int x1), (2, .int x2), (3, .int x3)]) (by decide) rfl ?_
  refine z_iconst C dX3_nearestSeatings_18 (v := (0 : Int32)) (by decide) ?_
  refine z_istore C dX3_nearestSeatings_19 (i := 7) (lv' := [(7, .int (0 : Int32)), (6, .int v2), (5, .int (0 : Int32)), (4, .int (-1 : Int32)), (0, .ref (G.1 0)), (1, .int x1), (2, .int x2), (3, .int x3)]) (by decide) rfl ?_
  refine z_lv C [4, 5, 6, 7, 3, 2, 1, 0] (lv' := [(0, .ref (G.1 0)), (1, .int x1), (2, .int x2), (3, .int x3), (4, .int (-1 : Int32)), (5, .int (0 : Int32)), (6, .int v2), (7, .int (0 : Int32))]) rfl ?_
  exact zl_X3_nearestSeatings_21 x1 x2 x3 v2 C hR fu (μ, (-1 : Int32), (0 : Int32), (0 : Int32)) hf
noncomputable def f_X3_seating (μ : Mem) (x1 : Int32) (x2 : Int32) (x3 : Int32) : Option (Mem × Int32) :=
 (nm (f_X3_isWord μ x1) fun v2 : Int32 =>
 (if v2 = 0 then
 (some (μ, (-102 : Int32)))
 else
 (nm (f_X3_isWord μ x2) fun v5 : Int32 =>
 (if v5 = 0 then
 (some (μ, (-102 : Int32)))
 else
 (if x3 < 0 then
 (some (μ, (-102 : Int32)))
 else
 (if x3 ≤ (1 : Int32) then
 (nm (f_X3_hasRing μ) fun v10 : Int32 =>
 (if v10 = 0 then
 (some (μ, (-103 : Int32)))
 else
 (if (μ 0 5) < (20 : Int32) then
 (nm (((μ 0 5) + (1 : Int32))) fun v13 : Int32 =>
 (nm (up μ 0 5 v13) fun μ14 : Mem =>
 (bd2 (f_X3_nearestSeatings μ14 x1 x2 x3) fun μ16 v17 =>
 (some (μ16, v17)))))
 else
 (some (μ, (-103 : Int32))))))
 else
 (some (μ, (-102 : Int32)))))))))
set_option maxHeartbeats 4000000 in
theorem c_X3_seating {l : Launch} {G : GW} {μ : Mem} {x1 : Int32} {x2 : Int32} {x3 : Int32} {μ' : Mem} {r : Int32} (hf : f_X3_seating μ x1 x2 x3 = some (μ', r)) : MZ l (YR G) yX3_seating cX3_seating 4 (some .int) { frames := 4, cells := 0, slots := 0, locals := 103 } [.ref (G.1 0), .int x1, .int x2, .int x3] μ μ' (some (.int r)) := by
  refine z_met RX3 rfl (by decide) (Nat.le_of_ble_eq_true rfl) (fun X hX C hR => ?_)
  show Z X (YR G) 4 μ 0 [(0, .ref (G.1 0)), (1, .int x1), (2, .int x2), (3, .int x3)] []
  unfold f_X3_seating at hf
  refine z_iload_n C 1 dX3_seating_0 rfl ?_
  obtain ⟨v2, h1⟩ : ∃ z, z = f_X3_isWord μ x1 := ⟨_, rfl⟩
  replace hf := nm_e2 hf v2 h1
  refine z_callSi C (As := [.int x1]) (rest := []) (c_X3_isWord h1.symm) sw_X3_98 ⟨rfl, rfl, by decide, by decide⟩ rfl (Nat.le_of_ble_eq_true rfl) dX3_seating_1 ?_
  refine z_if_eq C 23 dX3_seating_4 (by decide) (fun c3 => ?_) (fun c3 => ?_)
  · replace hf := it_t hf c3
    refine z_bipush C dX3_seating_23 (v := (-102 : Int32)) (by decide) ?_
    exact z_iret C hR dX3_seating_25 (rt2 hf).1 (rt2 hf).2
  · replace hf := it_f hf c3
    refine z_iload_n C 2 dX3_seating_7 rfl ?_
    obtain ⟨v5, h4⟩ : ∃ z, z = f_X3_isWord μ x2 := ⟨_, rfl⟩
    replace hf := nm_e2 hf v5 h4
    refine z_callSi C (As := [.int x2]) (rest := []) (c_X3_isWord h4.symm) sw_X3_98 ⟨rfl, rfl, by decide, by decide⟩ rfl (Nat.le_of_ble_eq_true rfl) dX3_seating_8 ?_
    refine z_if_eq C 23 dX3_seating_11 (by decide) (fun c6 => ?_) (fun c6 => ?_)
    · replace hf := it_t hf c6
      refine z_bipush C dX3_seating_23 (v := (-102 : Int32)) (by decide) ?_
      exact z_iret C hR dX3_seating_25 (rt2 hf).1 (rt2 hf).2
    · replace hf := it_f hf c6
      refine z_iload_n C 3 dX3_seating_14 rfl ?_
      refine z_if_lt C 23 dX3_seating_15 (by decide) (fun c7 => ?_) (fun c7 => ?_)
      · replace hf := it_t hf c7
        refine z_bipush C dX3_seating_23 (v := (-102 : Int32)) (by decide) ?_
        exact z_iret C hR dX3_seating_25 (rt2 hf).1 (rt2 hf).2
      · replace hf := it_f hf c7
        refine z_iload_n C 3 dX3_seating_18 rfl ?_
        refine z_iconst C dX3_seating_19 (v := (1 : Int32)) (by decide) ?_
        refine z_icmp_le C 26 dX3_seating_20 (by decide) (fun c8 => ?_) (fun c8 => ?_)
        · replace hf := it_t hf c8
          refine z_aload_n C 0 dX3_seating_26 rfl ?_
          obtain ⟨v10, h9⟩ : ∃ z, z = f_X3_hasRing μ := ⟨_, rfl⟩
          replace hf := nm_e2 hf v10 h9
          refine z_callVi C (As := []) (rest := []) (c_X3_hasRing h9.symm) vw_X3_101 ⟨rfl, rfl, by decide, by decide⟩ (z_rv C (q0 := 0) (ci := 3) rfl rfl rfl) rfl (Nat.le_of_ble_eq_true rfl) dX3_seating_27 ?_
          refine z_if_eq C 42 dX3_seating_30 (by decide) (fun c11 => ?_) (fun c11 => ?_)
          · replace hf := it_t hf c11
            refine z_bipush C dX3_seating_42 (v := (-103 : Int32)) (by decide) ?_
            exact z_iret C hR dX3_seating_44 (rt2 hf).1 (rt2 hf).2
          · replace hf := it_f hf c11
            refine z_aload_n C 0 dX3_seating_33 rfl ?_
            refine zg_X3_127_0 C dX3_seating_34 ?_
            refine z_bipush C dX3_seating_37 (v := (20 : Int32)) (by decide) ?_
            refine z_icmp_lt C 45 dX3_seating_39 (by decide) (fun c12 => ?_) (fun c12 => ?_)
            · replace hf := it_t hf c12
              refine z_aload_n C 0 dX3_seating_45 rfl ?_
              refine z_dup C dX3_seating_46 rfl ?_
              refine zg_X3_127_0 C dX3_seating_47 ?_
              refine z_iconst C dX3_seating_50 (v := (1 : Int32)) (by decide) ?_
              refine z_iadd C dX3_seating_51 ?_
              refine z_topi (fun v13 ev13 => ?_)
              replace hf := nm_e2 hf v13 ev13
              refine zp_X3_127_0 C dX3_seating_52 ?_
              refine z_mem (fun μ14 eμ14 => ?_)
              replace hf := nm_e2 hf μ14 eμ14
              refine z_aload_n C 0 dX3_seating_55 rfl ?_
              refine z_iload_n C 1 dX3_seating_56 rfl ?_
              refine z_iload_n C 2 dX3_seating_57 rfl ?_
              refine z_iload_n C 3 dX3_seating_58 rfl ?_
              obtain ⟨μ16, v17, h15, hf⟩ := bd2_e hf
              refine z_callVi C (As := [.int x1, .int x2, .int x3]) (rest := []) (c_X3_nearestSeatings h15) vw_X3_130 ⟨rfl, rfl, by decide, by decide⟩ (z_rv C (q0 := 0) (ci := 3) rfl rfl rfl) rfl (Nat.le_of_ble_eq_true rfl) dX3_seating_59 ?_
              exact z_iret C hR dX3_seating_62 (rt2 hf).1 (rt2 hf).2
            · replace hf := it_f hf c12
              refine z_bipush C dX3_seating_42 (v := (-103 : Int32)) (by decide) ?_
              exact z_iret C hR dX3_seating_44 (rt2 hf).1 (rt2 hf).2
        · replace hf := it_f hf c8
          refine z_bipush C dX3_seating_23 (v := (-102 : Int32)) (by decide) ?_
          exact z_iret C hR dX3_seating_25 (rt2 hf).1 (rt2 hf).2
noncomputable def g_X3_broodsThatSay_62 (μ : Mem) (x1 : Int32) (x2 : Int32) (x3 : Int32) (x4 : Int32) (x5 : Int32) (x6 : Int32) (ih17 : Mem × Int32 × Int32 → Option (Mem × Int32)) : Option (Mem × Int32) :=
 ih17 (μ, x5, (x6 + (1 : Int32)))
set_option maxHeartbeats 4000000 in
theorem zj_X3_broodsThatSay_62 {X : ZX} {G : GW} {μ' : Mem} {r : Int32} (μ : Mem) (x1 : Int32) (x2 : Int32) (x3 : Int32) (x4 : Int32) (x5 : Int32) (x6 : Int32) (C : CX X (YR G) cX3_broodsThatSay 7 RX3 { frames := 3, cells := 0, slots := 0, locals := 75 }) (hR : ZR X (YR G) (some .int) μ' (some (.int r))) (ih17 : Mem × Int32 × Int32 → Option (Mem × Int32)) (hih17 : ∀ σ, ih17 σ = some (μ', r) → Z X (YR G) 7 σ.1 17 [(0, .ref (G.1 0)), (1, .int x1), (2, .int x2), (3, .int x3), (4, .int x4), (5, .int σ.2.1), (6, .int σ.2.2)] []) (hf : g_X3_broodsThatSay_62 μ x1 x2 x3 x4 x5 x6 ih17 = some (μ', r)) : Z X (YR G) 7 μ 62 [(0, .ref (G.1 0)), (1, .int x1), (2, .int x2), (3, .int x3), (4, .int x4), (5, .int x5), (6, .int x6)] [] := by
  unfold g_X3_broodsThatSay_62 at hf
  refine z_iinc C 6 dX3_broodsThatSay_62 (v := (x6 + (1 : Int32))) (lv' := [(6, .int (x6 + (1 : Int32))), (0, .ref (G.1 0)), (1, .int x1), (2, .int x2), (3, .int x3), (4, .int x4), (5, .int x5)]) rfl rfl (by decide) rfl ?_
  refine z_goto C 17 dX3_broodsThatSay_65 (by decide) ?_
  refine z_lv C [1, 2, 3, 4, 5, 6, 0] (lv' := [(0, .ref (G.1 0)), (1, .int x1), (2, .int x2), (3, .int x3), (4, .int x4), (5, .int x5), (6, .int (x6 + (1 : Int32)))]) rfl ?_
  exact hih17 (μ, x5, (x6 + (1 : Int32))) hf
noncomputable def b_X3_broodsThatSay_17 (x1 : Int32) (x2 : Int32) (x3 : Int32) (x4 : Int32) (ih17 : Mem × Int32 × Int32 → Option (Mem × Int32)) (μ : Mem) (x5 : Int32) (x6 : Int32) : Option (Mem × Int32) :=
 (if x1 < x6 then
 (some (μ, x5))
 else
 (if (x6 &&& (x1 ^^^ (-1 : Int32))) = 0 then
 (bd (f_X0_lend μ x1 x6) fun μ6 =>
 (bd (f_X0_outcome μ6 x2 x3) fun v8 =>
 (if v8 = x4 then
 g_X3_broodsThatSay_62 μ6 x1 x2 x3 x4 ((x5 + (1 : Int32))) x6 ih17
 else
 g_X3_broodsThatSay_62 μ6 x1 x2 x3 x4 x5 x6 ih17)))
 else
 g_X3_broodsThatSay_62 μ x1 x2 x3 x4 x5 x6 ih17))
set_option maxHeartbeats 4000000 in
theorem zl_X3_broodsThatSay_17 {X : ZX} {G : GW} {μ' : Mem} {r : Int32} (x1 : Int32) (x2 : Int32) (x3 : Int32) (x4 : Int32) (C : CX X (YR G) cX3_broodsThatSay 7 RX3 { frames := 3, cells := 0, slots := 0, locals := 75 }) (hR : ZR X (YR G) (some .int) μ' (some (.int r))) : ∀ (n : Nat) (σ : Mem × Int32 × Int32), lp (fun ih σ => b_X3_broodsThatSay_17 x1 x2 x3 x4 ih σ.1 σ.2.1 σ.2.2) n σ = some (μ', r) → Z X (YR G) 7 σ.1 17 [(0, .ref (G.1 0)), (1, .int x1), (2, .int x2), (3, .int x3), (4, .int x4), (5, .int σ.2.1), (6, .int σ.2.2)] [] := by
  refine lp_z (P := fun σ : Mem × Int32 × Int32 => Z X (YR G) 7 σ.1 17 [(0, .ref (G.1 0)), (1, .int x1), (2, .int x2), (3, .int x3), (4, .int x4), (5, .int σ.2.1), (6, .int σ.2.2)] []) (fun ih17 hih17 σ hf => ?_)
  obtain ⟨μ, x5, x6⟩ := σ
  have hf : b_X3_broodsThatSay_17 x1 x2 x3 x4 ih17 μ x5 x6 = some (μ', r) := hf
  show Z X (YR G) 7 μ 17 [(0, .ref (G.1 0)), (1, .int x1), (2, .int x2), (3, .int x3), (4, .int x4), (5, .int x5), (6, .int x6)] []
  unfold b_X3_broodsThatSay_17 at hf
  refine z_iload C 6 dX3_broodsThatSay_17 rfl ?_
  refine z_iload_n C 1 dX3_broodsThatSay_19 rfl ?_
  refine z_icmp_gt C 68 dX3_broodsThatSay_20 (by decide) (fun c3 => ?_) (fun c3 => ?_)
  · replace hf := it_t hf c3
    refine z_iload C 5 dX3_broodsThatSay_68 rfl ?_
    exact z_iret C hR dX3_broodsThatSay_70 (rt2 hf).1 (rt2 hf).2
  · replace hf := it_f hf c3
    refine z_iload C 6 dX3_broodsThatSay_23 rfl ?_
    refine z_iload_n C 1 dX3_broodsThatSay_25 rfl ?_
    refine z_iconst C dX3_broodsThatSay_26 (v := (-1 : Int32)) (by decide) ?_
    refine z_ixor C dX3_broodsThatSay_27 ?_
    refine z_iand C dX3_broodsThatSay_28 ?_
    refine z_if_eq C 35 dX3_broodsThatSay_29 (by decide) (fun c4 => ?_) (fun c4 => ?_)
    · replace hf := it_t hf c4
      refine z_aload_n C 0 dX3_broodsThatSay_35 rfl ?_
      refine zg_X3_29_0 C dX3_broodsThatSay_36 ?_
      refine z_iload_n C 1 dX3_broodsThatSay_39 rfl ?_
      refine z_iload C 6 dX3_broodsThatSay_40 rfl ?_
      obtain ⟨μ6, h5, hf⟩ := bd_e hf
      refine z_callVv C (As := [.int x1, .int x6]) (rest := []) (c_X0_lend h5) vw_X3_224 ⟨rfl, rfl, by decide, by decide⟩ (z_rv C (q0 := 19) (ci := 0) rfl rfl rfl) rfl (Nat.le_of_ble_eq_true rfl) dX3_broodsThatSay_42 ?_
      refine z_aload_n C 0 dX3_broodsThatSay_45 rfl ?_
      refine zg_X3_29_0 C dX3_broodsThatSay_46 ?_
      refine z_iload_n C 2 dX3_broodsThatSay_49 rfl ?_
      refine z_iload_n C 3 dX3_broodsThatSay_50 rfl ?_
      obtain ⟨v8, h7, hf⟩ := bd_e hf
      refine z_callVi C (As := [.int x2, .int x3]) (rest := []) (c_X0_outcome h7) vw_X3_111 ⟨rfl, rfl, by decide, by decide⟩ (z_rv C (q0 := 19) (ci := 0) rfl rfl rfl) rfl (Nat.le_of_ble_eq_true rfl) dX3_broodsThatSay_51 ?_
      refine z_iload C 4 dX3_broodsThatSay_54 rfl ?_
      refine z_icmp_ne C 62 dX3_broodsThatSay_56 (by decide) (fun c9 => ?_) (fun c9 => ?_)
      · replace hf := it_f hf c9
        exact zj_X3_broodsThatSay_62 μ6 x1 x2 x3 x4 x5 x6 C hR ih17 hih17 hf
      · replace hf := it_t hf c9
        refine z_iinc C 5 dX3_broodsThatSay_59 (v := (x5 + (1 : Int32))) (lv' := [(5, .int (x5 + (1 : Int32))), (0, .ref (G.1 0)), (1, .int x1), (2, .int x2), (3, .int x3), (4, .int x4), (6, .int x6)]) rfl rfl (by decide) rfl ?_
        refine z_lv C [1, 2, 3, 4, 5, 0, 6] (lv' := [(0, .ref (G.1 0)), (1, .int x1), (2, .int x2), (3, .int x3), (4, .int x4), (5, .int (x5 + (1 : Int32))), (6, .int x6)]) rfl ?_
        exact zj_X3_broodsThatSay_62 μ6 x1 x2 x3 x4 ((x5 + (1 : Int32))) x6 C hR ih17 hih17 hf
    · replace hf := it_f hf c4
      refine z_goto C 62 dX3_broodsThatSay_32 (by decide) ?_
      exact zj_X3_broodsThatSay_62 μ x1 x2 x3 x4 x5 x6 C hR ih17 hih17 hf
noncomputable def f_X3_broodsThatSay (μ : Mem) (x1 : Int32) (x2 : Int32) (x3 : Int32) (x4 : Int32) : Option (Mem × Int32) :=
 (bd (f_X0_seatAll μ) fun μ2 =>
 lp (fun ih σ => b_X3_broodsThatSay_17 x1 x2 x3 x4 ih σ.1 σ.2.1 σ.2.2) fu (μ2, (0 : Int32), (0 : Int32)))
set_option maxHeartbeats 4000000 in
theorem c_X3_broodsThatSay {l : Launch} {G : GW} {μ : Mem} {x1 : Int32} {x2 : Int32} {x3 : Int32} {x4 : Int32} {μ' : Mem} {r : Int32} (hf : f_X3_broodsThatSay μ x1 x2 x3 x4 = some (μ', r)) : MZ l (YR G) yX3_broodsThatSay cX3_broodsThatSay 7 (some .int) { frames := 3, cells := 0, slots := 0, locals := 75 } [.ref (G.1 0), .int x1, .int x2, .int x3, .int x4] μ μ' (some (.int r)) := by
  refine z_met RX3 rfl (by decide) (Nat.le_of_ble_eq_true rfl) (fun X hX C hR => ?_)
  show Z X (YR G) 7 μ 0 [(0, .ref (G.1 0)), (1, .int x1), (2, .int x2), (3, .int x3), (4, .int x4)] []
  unfold f_X3_broodsThatSay at hf
  refine z_aload_n C 0 dX3_broodsThatSay_0 rfl ?_
  refine zg_X3_29_0 C dX3_broodsThatSay_1 ?_
  refine z_aload_n C 0 dX3_broodsThatSay_4 rfl ?_
  refine zg_X3_19_0 C dX3_broodsThatSay_5 ?_
  obtain ⟨μ2, h1, hf⟩ := bd_e hf
  refine z_callVv C (As := [.ref (G.1 3)]) (rest := []) (c_X0_seatAll h1) vw_X3_107 ⟨rfl, rfl, by decide, by decide⟩ (z_rv C (q0 := 19) (ci := 0) rfl rfl rfl) rfl (Nat.le_of_ble_eq_true rfl) dX3_broodsThatSay_8 ?_
  refine z_iconst C dX3_broodsThatSay_11 (v := (0 : Int32)) (by decide) ?_
  refine z_istore C dX3_broodsThatSay_12 (i := 5) (lv' := [(5, .int (0 : Int32)), (0, .ref (G.1 0)), (1, .int x1), (2, .int x2), (3, .int x3), (4, .int x4)]) (by decide) rfl ?_
  refine z_iconst C dX3_broodsThatSay_14 (v := (0 : Int32)) (by decide) ?_
  refine z_istore C dX3_broodsThatSay_15 (i := 6) (lv' := [(6, .int (0 : Int32)), (5, .int (0 : Int32)), (0, .ref (G.1 0)), (1, .int x1), (2, .int x2), (3, .int x3), (4, .int x4)]) (by decide) rfl ?_
  refine z_lv C [2, 3, 4, 5, 6, 1, 0] (lv' := [(0, .ref (G.1 0)), (1, .int x1), (2, .int x2), (3, .int x3), (4, .int x4), (5, .int (0 : Int32)), (6, .int (0 : Int32))]) rfl ?_
  exact zl_X3_broodsThatSay_17 x1 x2 x3 x4 C hR fu (μ2, (0 : Int32), (0 : Int32)) hf
noncomputable def g_X3_nestlings_101 (μ : Mem) (x5 : Int32) (x6 : Int32) (x7 : Int32) : Option (Mem × Int32) :=
 (if x5 = 0 then
 (some (μ, x6))
 else
 (some (μ, ((1 : Int32) <<< (x7 &&& 31)))))
set_option maxHeartbeats 4000000 in
theorem zj_X3_nestlings_101 {X : ZX} {G : GW} {μ' : Mem} {r : Int32} (μ : Mem) (x5 : Int32) (x6 : Int32) (x7 : Int32) (C : CX X (YR G) cX3_nestlings 8 RX3 { frames := 4, cells := 0, slots := 0, locals := 101 }) (hR : ZR X (YR G) (some .int) μ' (some (.int r))) (hf : g_X3_nestlings_101 μ x5 x6 x7 = some (μ', r)) : Z X (YR G) 8 μ 101 [(5, .int x5), (6, .int x6), (7, .int x7)] [] := by
  unfold g_X3_nestlings_101 at hf
  refine z_iload C 0 dX3_nestlings_101 rfl ?_
  refine z_if_ne C 111 dX3_nestlings_103 (by decide) (fun c20 => ?_) (fun c20 => ?_)
  · replace hf := it_f hf c20
    refine z_iconst C dX3_nestlings_111 (v := (1 : Int32)) (by decide) ?_
    refine z_iload C 2 dX3_nestlings_112 rfl ?_
    refine z_ishl C dX3_nestlings_114 ?_
    exact z_iret C hR dX3_nestlings_115 (rt2 hf).1 (rt2 hf).2
  · replace hf := it_t hf c20
    refine z_iload C 1 dX3_nestlings_106 rfl ?_
    refine z_goto C 115 dX3_nestlings_108 (by decide) ?_
    exact z_iret C hR dX3_nestlings_115 (rt2 hf).1 (rt2 hf).2
noncomputable def b_X3_nestlings_77 (μ : Mem) (x5 : Int32) (ih77 : Int32 × Int32 → Option (Mem × Int32)) (x6 : Int32) (x7 : Int32) : Option (Mem × Int32) :=
 (if x7 ≤ 0 then
 g_X3_nestlings_101 μ x5 x6 x7
 else
 (if (x6 - x6 / (2 : Int32) * (2 : Int32)) = 0 then
 (nm ((x6 / (2 : Int32))) fun v22 : Int32 =>
 ih77 (v22, (x7 + (-1 : Int32))))
 else
 g_X3_nestlings_101 μ x5 x6 x7))
set_option maxHeartbeats 4000000 in
theorem zl_X3_nestlings_77 {X : ZX} {G : GW} {μ' : Mem} {r : Int32} (μ : Mem) (x5 : Int32) (C : CX X (YR G) cX3_nestlings 8 RX3 { frames := 4, cells := 0, slots := 0, locals := 101 }) (hR : ZR X (YR G) (some .int) μ' (some (.int r))) : ∀ (n : Nat) (σ : Int32 × Int32), lp (fun ih σ => b_X3_nestlings_77 μ x5 ih σ.1 σ.2) n σ = some (μ', r) → Z X (YR G) 8 μ 77 [(5, .int x5), (6, .int σ.1), (7, .int σ.2)] [] := by
  refine lp_z (P := fun σ : Int32 × Int32 => Z X (YR G) 8 μ 77 [(5, .int x5), (6, .int σ.1), (7, .int σ.2)] []) (fun ih77 hih77 σ hf => ?_)
  obtain ⟨x6, x7⟩ := σ
  have hf : b_X3_nestlings_77 μ x5 ih77 x6 x7 = some (μ', r) := hf
  show Z X (YR G) 8 μ 77 [(5, .int x5), (6, .int x6), (7, .int x7)] []
  unfold b_X3_nestlings_77 at hf
  refine z_iload C 2 dX3_nestlings_77 rfl ?_
  refine z_if_le C 101 dX3_nestlings_79 (by decide) (fun c19 => ?_) (fun c19 => ?_)
  · replace hf := it_t hf c19
    exact zj_X3_nestlings_101 μ x5 x6 x7 C hR hf
  · replace hf := it_f hf c19
    refine z_iload C 1 dX3_nestlings_82 rfl ?_
    refine z_iconst C dX3_nestlings_84 (v := (2 : Int32)) (by decide) ?_
    refine z_irem C dX3_nestlings_85 (by decide) ?_
    refine z_if_ne C 101 dX3_nestlings_86 (by decide) (fun c21 => ?_) (fun c21 => ?_)
    · replace hf := it_f hf c21
      exact zj_X3_nestlings_101 μ x5 x6 x7 C hR hf
    · replace hf := it_t hf c21
      refine z_iload C 1 dX3_nestlings_89 rfl ?_
      refine z_iconst C dX3_nestlings_91 (v := (2 : Int32)) (by decide) ?_
      refine z_idiv C dX3_nestlings_92 (by decide) ?_
      refine z_topi (fun v22 ev22 => ?_)
      replace hf := nm_e2 hf v22 ev22
      refine z_istore C dX3_nestlings_93 (i := 6) (lv' := [(6, .int v22), (5, .int x5), (7, .int x7)]) (by decide) rfl ?_
      refine z_iinc C 2 dX3_nestlings_95 (v := (x7 + (-1 : Int32))) (lv' := [(7, .int (x7 + (-1 : Int32))), (6, .int v22), (5, .int x5)]) rfl rfl (by decide) rfl ?_
      refine z_goto C 77 dX3_nestlings_98 (by decide) ?_
      refine z_lv C [2, 1, 0] (lv' := [(5, .int x5), (6, .int v22), (7, .int (x7 + (-1 : Int32)))]) rfl ?_
      exact hih77 (v22, (x7 + (-1 : Int32))) hf
noncomputable def f_X3_nestlings (μ : Mem) (x1 : Int32) (x2 : Int32) (x3 : Int32) (x4 : Int32) (x5 : Int32) : Option (Mem × Int32) :=
 (nm (f_X3_isPlace μ x2) fun v2 : Int32 =>
 (if v2 = 0 then
 (some (μ, (-101 : Int32)))
 else
 (if x1 < 0 then
 (some (μ, (-102 : Int32)))
 else
 (if ((1 : Int32) <<< ((μ 3 7) &&& 31)) ≤ x1 then
 (some (μ, (-102 : Int32)))
 else
 (nm (f_X3_isWord μ x3) fun v7 : Int32 =>
 (if v7 = 0 then
 (some (μ, (-102 : Int32)))
 else
 (nm (f_X3_isWord μ x4) fun v10 : Int32 =>
 (if v10 = 0 then
 (some (μ, (-102 : Int32)))
 else
 (if x5 < 0 then
 (some (μ, (-102 : Int32)))
 else
 (if x5 ≤ (1 : Int32) then
 (bd2 (f_X3_broodsThatSay μ x1 x2 x3 x4) fun μ15 v16 =>
 (nm (f_J6_bitCount_0f7a4 μ15 x1) fun v18 : Int32 =>
 lp (fun ih σ => b_X3_nestlings_77 μ15 x5 ih σ.1 σ.2) fu (v16, v18)))
 else
 (some (μ, (-102 : Int32)))))))))))))
set_option maxHeartbeats 4000000 in
theorem c_X3_nestlings {l : Launch} {G : GW} {μ : Mem} {x1 : Int32} {x2 : Int32} {x3 : Int32} {x4 : Int32} {x5 : Int32} {μ' : Mem} {r : Int32} (hf : f_X3_nestlings μ x1 x2 x3 x4 x5 = some (μ', r)) : MZ l (YR G) yX3_nestlings cX3_nestlings 8 (some .int) { frames := 4, cells := 0, slots := 0, locals := 101 } [.ref (G.1 0), .int x1, .int x2, .int x3, .int x4, .int x5] μ μ' (some (.int r)) := by
  refine z_met RX3 rfl (by decide) (Nat.le_of_ble_eq_true rfl) (fun X hX C hR => ?_)
  show Z X (YR G) 8 μ 0 [(0, .ref (G.1 0)), (1, .int x1), (2, .int x2), (3, .int x3), (4, .int x4), (5, .int x5)] []
  unfold f_X3_nestlings at hf
  refine z_aload_n C 0 dX3_nestlings_0 rfl ?_
  refine z_iload_n C 2 dX3_nestlings_1 rfl ?_
  obtain ⟨v2, h1⟩ : ∃ z, z = f_X3_isPlace μ x2 := ⟨_, rfl⟩
  replace hf := nm_e2 hf v2 h1
  refine z_callVi C (As := [.int x2]) (rest := []) (c_X3_isPlace h1.symm) vw_X3_70 ⟨rfl, rfl, by decide, by decide⟩ (z_rv C (q0 := 0) (ci := 3) rfl rfl rfl) rfl (Nat.le_of_ble_eq_true rfl) dX3_nestlings_2 ?_
  refine z_if_ne C 11 dX3_nestlings_5 (by decide) (fun c3 => ?_) (fun c3 => ?_)
  · replace hf := it_f hf c3
    refine z_iload_n C 1 dX3_nestlings_11 rfl ?_
    refine z_if_lt C 43 dX3_nestlings_12 (by decide) (fun c4 => ?_) (fun c4 => ?_)
    · replace hf := it_t hf c4
      refine z_bipush C dX3_nestlings_43 (v := (-102 : Int32)) (by decide) ?_
      exact z_iret C hR dX3_nestlings_45 (rt2 hf).1 (rt2 hf).2
    · replace hf := it_f hf c4
      refine z_iload_n C 1 dX3_nestlings_15 rfl ?_
      refine z_iconst C dX3_nestlings_16 (v := (1 : Int32)) (by decide) ?_
      refine z_aload_n C 0 dX3_nestlings_17 rfl ?_
      refine zg_X3_19_0 C dX3_nestlings_18 ?_
      refine zg_X3_67_3 C dX3_nestlings_21 ?_
      refine z_ishl C dX3_nestlings_24 ?_
      refine z_icmp_ge C 43 dX3_nestlings_25 (by decide) (fun c5 => ?_) (fun c5 => ?_)
      · replace hf := it_t hf c5
        refine z_bipush C dX3_nestlings_43 (v := (-102 : Int32)) (by decide) ?_
        exact z_iret C hR dX3_nestlings_45 (rt2 hf).1 (rt2 hf).2
      · replace hf := it_f hf c5
        refine z_iload_n C 3 dX3_nestlings_28 rfl ?_
        obtain ⟨v7, h6⟩ : ∃ z, z = f_X3_isWord μ x3 := ⟨_, rfl⟩
        replace hf := nm_e2 hf v7 h6
        refine z_callSi C (As := [.int x3]) (rest := []) (c_X3_isWord h6.symm) sw_X3_98 ⟨rfl, rfl, by decide, by decide⟩ rfl (Nat.le_of_ble_eq_true rfl) dX3_nestlings_29 ?_
        refine z_if_eq C 43 dX3_nestlings_32 (by decide) (fun c8 => ?_) (fun c8 => ?_)
        · replace hf := it_t hf c8
          refine z_bipush C dX3_nestlings_43 (v := (-102 : Int32)) (by decide) ?_
          exact z_iret C hR dX3_nestlings_45 (rt2 hf).1 (rt2 hf).2
        · replace hf := it_f hf c8
          refine z_iload C 4 dX3_nestlings_35 rfl ?_
          obtain ⟨v10, h9⟩ : ∃ z, z = f_X3_isWord μ x4 := ⟨_, rfl⟩
          replace hf := nm_e2 hf v10 h9
          refine z_callSi C (As := [.int x4]) (rest := []) (c_X3_isWord h9.symm) sw_X3_98 ⟨rfl, rfl, by decide, by decide⟩ rfl (Nat.le_of_ble_eq_true rfl) dX3_nestlings_37 ?_
          refine z_if_ne C 46 dX3_nestlings_40 (by decide) (fun c11 => ?_) (fun c11 => ?_)
          · replace hf := it_f hf c11
            refine z_iload C 5 dX3_nestlings_46 rfl ?_
            refine z_if_lt C 57 dX3_nestlings_48 (by decide) (fun c12 => ?_) (fun c12 => ?_)
            · replace hf := it_t hf c12
              refine z_bipush C dX3_nestlings_57 (v := (-102 : Int32)) (by decide) ?_
              exact z_iret C hR dX3_nestlings_59 (rt2 hf).1 (rt2 hf).2
            · replace hf := it_f hf c12
              refine z_iload C 5 dX3_nestlings_51 rfl ?_
              refine z_iconst C dX3_nestlings_53 (v := (1 : Int32)) (by decide) ?_
              refine z_icmp_le C 60 dX3_nestlings_54 (by decide) (fun c13 => ?_) (fun c13 => ?_)
              · replace hf := it_t hf c13
                refine z_aload_n C 0 dX3_nestlings_60 rfl ?_
                refine z_iload_n C 1 dX3_nestlings_61 rfl ?_
                refine z_iload_n C 2 dX3_nestlings_62 rfl ?_
                refine z_iload_n C 3 dX3_nestlings_63 rfl ?_
                refine z_iload C 4 dX3_nestlings_64 rfl ?_
                obtain ⟨μ15, v16, h14, hf⟩ := bd2_e hf
                refine z_callVi C (As := [.int x1, .int x2, .int x3, .int x4]) (rest := []) (c_X3_broodsThatSay h14) vw_X3_133 ⟨rfl, rfl, by decide, by decide⟩ (z_rv C (q0 := 0) (ci := 3) rfl rfl rfl) rfl (Nat.le_of_ble_eq_true rfl) dX3_nestlings_66 ?_
                refine z_istore C dX3_nestlings_69 (i := 6) (lv' := [(6, .int v16), (0, .ref (G.1 0)), (1, .int x1), (2, .int x2), (3, .int x3), (4, .int x4), (5, .int x5)]) (by decide) rfl ?_
                refine z_iload_n C 2 dX3_nestlings_71 rfl ?_
                obtain ⟨v18, h17⟩ : ∃ z, z = f_J6_bitCount_0f7a4 μ15 x1 := ⟨_, rfl⟩
                replace hf := nm_e2 hf v18 h17
                refine z_callSi C (As := [.int x1]) (rest := []) (c_J6_bitCount_0f7a4 h17.symm) sw_X3_137 ⟨rfl, rfl, by decide, by decide⟩ rfl (Nat.le_of_ble_eq_true rfl) dX3_nestlings_72 ?_
                refine z_istore C dX3_nestlings_75 (i := 7) (lv' := [(7, .int v18), (6, .int v16), (0, .ref (G.1 0)), (1, .int x1), (2, .int x2), (3, .int x3), (4, .int x4), (5, .int x5)]) (by decide) rfl ?_
                refine z_lv C [7, 1, 0] (lv' := [(5, .int x5), (6, .int v16), (7, .int v18)]) rfl ?_
                exact zl_X3_nestlings_77 μ15 x5 C hR fu (v16, v18) hf
              · replace hf := it_f hf c13
                refine z_bipush C dX3_nestlings_57 (v := (-102 : Int32)) (by decide) ?_
                exact z_iret C hR dX3_nestlings_59 (rt2 hf).1 (rt2 hf).2
          · replace hf := it_t hf c11
            refine z_bipush C dX3_nestlings_43 (v := (-102 : Int32)) (by decide) ?_
            exact z_iret C hR dX3_nestlings_45 (rt2 hf).1 (rt2 hf).2
  · replace hf := it_t hf c3
    refine z_bipush C dX3_nestlings_8 (v := (-101 : Int32)) (by decide) ?_
    exact z_iret C hR dX3_nestlings_10 (rt2 hf).1 (rt2 hf).2
noncomputable def f_X3_observe (μ : Mem) (x1 : Int32) (x2 : Int32) (x3 : Int32) : Option (Mem × Int32) :=
 (nm (f_X3_isPlace μ x1) fun v2 : Int32 =>
 (if v2 = 0 then
 (some (μ, (-101 : Int32)))
 else
 (nm (f_X3_isWord μ x2) fun v5 : Int32 =>
 (if v5 = 0 then
 (some (μ, (-102 : Int32)))
 else
 (nm (f_X3_isWord μ x3) fun v8 : Int32 =>
 (if v8 = 0 then
 (some (μ, (-102 : Int32)))
 else
 (bd2 (f_X2_note μ x1 x2 x3) fun μ11 v12 =>
 (some (μ11, v12)))))))))
set_option maxHeartbeats 4000000 in
theorem c_X3_observe {l : Launch} {G : GW} {μ : Mem} {x1 : Int32} {x2 : Int32} {x3 : Int32} {μ' : Mem} {r : Int32} (hf : f_X3_observe μ x1 x2 x3 = some (μ', r)) : MZ l (YR G) yX3_observe cX3_observe 4 (some .int) { frames := 1, cells := 0, slots := 0, locals := 23 } [.ref (G.1 0), .int x1, .int x2, .int x3] μ μ' (some (.int r)) := by
  refine z_met RX3 rfl (by decide) (Nat.le_of_ble_eq_true rfl) (fun X hX C hR => ?_)
  show Z X (YR G) 4 μ 0 [(0, .ref (G.1 0)), (1, .int x1), (2, .int x2), (3, .int x3)] []
  unfold f_X3_observe at hf
  refine z_aload_n C 0 dX3_observe_0 rfl ?_
  refine z_iload_n C 1 dX3_observe_1 rfl ?_
  obtain ⟨v2, h1⟩ : ∃ z, z = f_X3_isPlace μ x1 := ⟨_, rfl⟩
  replace hf := nm_e2 hf v2 h1
  refine z_callVi C (As := [.int x1]) (rest := []) (c_X3_isPlace h1.symm) vw_X3_70 ⟨rfl, rfl, by decide, by decide⟩ (z_rv C (q0 := 0) (ci := 3) rfl rfl rfl) rfl (Nat.le_of_ble_eq_true rfl) dX3_observe_2 ?_
  refine z_if_ne C 11 dX3_observe_5 (by decide) (fun c3 => ?_) (fun c3 => ?_)
  · replace hf := it_f hf c3
    refine z_iload_n C 2 dX3_observe_11 rfl ?_
    obtain ⟨v5, h4⟩ : ∃ z, z = f_X3_isWord μ x2 := ⟨_, rfl⟩
    replace hf := nm_e2 hf v5 h4
    refine z_callSi C (As := [.int x2]) (rest := []) (c_X3_isWord h4.symm) sw_X3_98 ⟨rfl, rfl, by decide, by decide⟩ rfl (Nat.le_of_ble_eq_true rfl) dX3_observe_12 ?_
    refine z_if_eq C 25 dX3_observe_15 (by decide) (fun c6 => ?_) (fun c6 => ?_)
    · replace hf := it_t hf c6
      refine z_bipush C dX3_observe_25 (v := (-102 : Int32)) (by decide) ?_
      exact z_iret C hR dX3_observe_27 (rt2 hf).1 (rt2 hf).2
    · replace hf := it_f hf c6
      refine z_iload_n C 3 dX3_observe_18 rfl ?_
      obtain ⟨v8, h7⟩ : ∃ z, z = f_X3_isWord μ x3 := ⟨_, rfl⟩
      replace hf := nm_e2 hf v8 h7
      refine z_callSi C (As := [.int x3]) (rest := []) (c_X3_isWord h7.symm) sw_X3_98 ⟨rfl, rfl, by decide, by decide⟩ rfl (Nat.le_of_ble_eq_true rfl) dX3_observe_19 ?_
      refine z_if_ne C 28 dX3_observe_22 (by decide) (fun c9 => ?_) (fun c9 => ?_)
      · replace hf := it_f hf c9
        refine z_aload_n C 0 dX3_observe_28 rfl ?_
        refine zg_X3_19_0 C dX3_observe_29 ?_
        refine z_iload_n C 1 dX3_observe_32 rfl ?_
        refine z_iload_n C 2 dX3_observe_33 rfl ?_
        refine z_iload_n C 3 dX3_observe_34 rfl ?_
        obtain ⟨μ11, v12, h10, hf⟩ := bd2_e hf
        refine z_callVi C (As := [.int x1, .int x2, .int x3]) (rest := []) (c_X2_note h10) vw_X3_142 ⟨rfl, rfl, by decide, by decide⟩ (z_rv C (q0 := 3) (ci := 2) rfl rfl rfl) rfl (Nat.le_of_ble_eq_true rfl) dX3_observe_35 ?_
        exact z_iret C hR dX3_observe_38 (rt2 hf).1 (rt2 hf).2
      · replace hf := it_t hf c9
        refine z_bipush C dX3_observe_25 (v := (-102 : Int32)) (by decide) ?_
        exact z_iret C hR dX3_observe_27 (rt2 hf).1 (rt2 hf).2
  · replace hf := it_t hf c3
    refine z_bipush C dX3_observe_8 (v := (-101 : Int32)) (by decide) ?_
    exact z_iret C hR dX3_observe_10 (rt2 hf).1 (rt2 hf).2
noncomputable def f_X3_forget (μ : Mem) : Option (Mem × Int32) :=
 (nm ((μ 3 11)) fun v1 : Int32 =>
 (nm (up μ 3 11 (0 : Int32)) fun μ2 : Mem =>
 (some (μ2, v1))))
set_option maxHeartbeats 4000000 in
theorem c_X3_forget {l : Launch} {G : GW} {μ : Mem} {μ' : Mem} {r : Int32} (hf : f_X3_forget μ = some (μ', r)) : MZ l (YR G) yX3_forget cX3_forget 2 (some .int) { frames := 0, cells := 0, slots := 0, locals := 0 } [.ref (G.1 0)] μ μ' (some (.int r)) := by
  refine z_met RX3 rfl (by decide) (Nat.le_of_ble_eq_true rfl) (fun X hX C hR => ?_)
  show Z X (YR G) 2 μ 0 [(0, .ref (G.1 0))] []
  unfold f_X3_forget at hf
  refine z_aload_n C 0 dX3_forget_0 rfl ?_
  refine zg_X3_19_0 C dX3_forget_1 ?_
  refine zg_X3_145_3 C dX3_forget_4 ?_
  refine z_topi (fun v1 ev1 => ?_)
  replace hf := nm_e2 hf v1 ev1
  refine z_istore_n C dX3_forget_7 (i := 1) (lv' := [(1, .int v1), (0, .ref (G.1 0))]) rfl (by decide) rfl ?_
  refine z_aload_n C 1 dX3_forget_8 rfl ?_
  refine zg_X3_19_0 C dX3_forget_9 ?_
  refine z_iconst C dX3_forget_12 (v := (0 : Int32)) (by decide) ?_
  refine zp_X3_145_3 C dX3_forget_13 ?_
  refine z_mem (fun μ2 eμ2 => ?_)
  replace hf := nm_e2 hf μ2 eμ2
  refine z_iload_n C 0 dX3_forget_16 rfl ?_
  exact z_iret C hR dX3_forget_17 (rt2 hf).1 (rt2 hf).2
noncomputable def g_X3_guessesFor_62 (μ : Mem) (x1 : Int32) (x2 : Int64) (x4 : Int32) (ih16 : Mem × Int64 × Int32 → Option (Mem × Int64)) : Option (Mem × Int64) :=
 ih16 (μ, x2, (x4 + (1 : Int32)))
set_option maxHeartbeats 4000000 in
theorem zj_X3_guessesFor_62 {X : ZX} {G : GW} {μ' : Mem} {r : Int64} (μ : Mem) (x1 : Int32) (x2 : Int64) (x4 : Int32) (C : CX X (YR G) cX3_guessesFor 5 RX3 { frames := 4, cells := 0, slots := 0, locals := 97 }) (hR : ZR X (YR G) (some .long) μ' (some (.long r))) (ih16 : Mem × Int64 × Int32 → Option (Mem × Int64)) (hih16 : ∀ σ, ih16 σ = some (μ', r) → Z X (YR G) 5 σ.1 16 [(0, .ref (G.1 0)), (1, .int x1), (2, .long σ.2.1), (4, .int σ.2.2)] []) (hf : g_X3_guessesFor_62 μ x1 x2 x4 ih16 = some (μ', r)) : Z X (YR G) 5 μ 62 [(0, .ref (G.1 0)), (1, .int x1), (2, .long x2), (4, .int x4)] [] := by
  unfold g_X3_guessesFor_62 at hf
  refine z_iinc C 3 dX3_guessesFor_62 (v := (x4 + (1 : Int32))) (lv' := [(4, .int (x4 + (1 : Int32))), (0, .ref (G.1 0)), (1, .int x1), (2, .long x2)]) rfl rfl (by decide) rfl ?_
  refine z_goto C 16 dX3_guessesFor_65 (by decide) ?_
  refine z_lv C [1, 2, 3, 0] (lv' := [(0, .ref (G.1 0)), (1, .int x1), (2, .long x2), (4, .int (x4 + (1 : Int32)))]) rfl ?_
  exact hih16 (μ, x2, (x4 + (1 : Int32))) hf
noncomputable def b_X3_guessesFor_16 (x1 : Int32) (ih16 : Mem × Int64 × Int32 → Option (Mem × Int64)) (μ : Mem) (x2 : Int64) (x4 : Int32) : Option (Mem × Int64) :=
 (if (40 : Int32) ≤ x4 then
 (some (μ, x2))
 else
 (bd (f_X0_put μ x1 (x4 / (8 : Int32)) (x4 - x4 / (8 : Int32) * (8 : Int32))) fun μ5 =>
 (bd (f_X2_allSeenIn μ5) fun v7 =>
 (if v7 = 0 then
 g_X3_guessesFor_62 μ5 x1 x2 x4 ih16
 else
 (nm ((x2 ||| ((1 : Int64) <<< ((x4).toInt64 &&& 63)))) fun v9 : Int64 =>
 g_X3_guessesFor_62 μ5 x1 v9 x4 ih16)))))
set_option maxHeartbeats 4000000 in
theorem zl_X3_guessesFor_16 {X : ZX} {G : GW} {μ' : Mem} {r : Int64} (x1 : Int32) (C : CX X (YR G) cX3_guessesFor 5 RX3 { frames := 4, cells := 0, slots := 0, locals := 97 }) (hR : ZR X (YR G) (some .long) μ' (some (.long r))) : ∀ (n : Nat) (σ : Mem × Int64 × Int32), lp (fun ih σ => b_X3_guessesFor_16 x1 ih σ.1 σ.2.1 σ.2.2) n σ = some (μ', r) → Z X (YR G) 5 σ.1 16 [(0, .ref (G.1 0)), (1, .int x1), (2, .long σ.2.1), (4, .int σ.2.2)] [] := by
  refine lp_z (P := fun σ : Mem × Int64 × Int32 => Z X (YR G) 5 σ.1 16 [(0, .ref (G.1 0)), (1, .int x1), (2, .long σ.2.1), (4, .int σ.2.2)] []) (fun ih16 hih16 σ hf => ?_)
  obtain ⟨μ, x2, x4⟩ := σ
  have hf : b_X3_guessesFor_16 x1 ih16 μ x2 x4 = some (μ', r) := hf
  show Z X (YR G) 5 μ 16 [(0, .ref (G.1 0)), (1, .int x1), (2, .long x2), (4, .int x4)] []
  unfold b_X3_guessesFor_16 at hf
  refine z_iload C 3 dX3_guessesFor_16 rfl ?_
  refine z_bipush C dX3_guessesFor_18 (v := (40 : Int32)) (by decide) ?_
  refine z_icmp_ge C 68 dX3_guessesFor_20 (by decide) (fun c3 => ?_) (fun c3 => ?_)
  · replace hf := it_t hf c3
    refine z_lload_n C 2 dX3_guessesFor_68 rfl ?_
    exact z_lret C hR dX3_guessesFor_69 (rt2 hf).1 (rt2 hf).2
  · replace hf := it_f hf c3
    refine z_aload_n C 0 dX3_guessesFor_23 rfl ?_
    refine zg_X3_29_0 C dX3_guessesFor_24 ?_
    refine z_iload_n C 1 dX3_guessesFor_27 rfl ?_
    refine z_iload C 3 dX3_guessesFor_28 rfl ?_
    refine z_bipush C dX3_guessesFor_30 (v := (8 : Int32)) (by decide) ?_
    refine z_idiv C dX3_guessesFor_32 (by decide) ?_
    refine z_iload C 3 dX3_guessesFor_33 rfl ?_
    refine z_bipush C dX3_guessesFor_35 (v := (8 : Int32)) (by decide) ?_
    refine z_irem C dX3_guessesFor_37 (by decide) ?_
    obtain ⟨μ5, h4, hf⟩ := bd_e hf
    refine z_callVv C (As := [.int x1, .int (x4 / (8 : Int32)), .int (x4 - x4 / (8 : Int32) * (8 : Int32))]) (rest := []) (c_X0_put h4) vw_X3_227 ⟨rfl, rfl, by decide, by decide⟩ (z_rv C (q0 := 19) (ci := 0) rfl rfl rfl) rfl (Nat.le_of_ble_eq_true rfl) dX3_guessesFor_38 ?_
    refine z_aload_n C 0 dX3_guessesFor_41 rfl ?_
    refine zg_X3_19_0 C dX3_guessesFor_42 ?_
    refine z_aload_n C 0 dX3_guessesFor_45 rfl ?_
    refine zg_X3_29_0 C dX3_guessesFor_46 ?_
    obtain ⟨v7, h6, hf⟩ := bd_e hf
    refine z_callVi C (As := [.ref (G.1 19)]) (rest := []) (c_X2_allSeenIn h6) vw_X3_231 ⟨rfl, rfl, by decide, by decide⟩ (z_rv C (q0 := 3) (ci := 2) rfl rfl rfl) rfl (Nat.le_of_ble_eq_true rfl) dX3_guessesFor_49 ?_
    refine z_if_eq C 62 dX3_guessesFor_52 (by decide) (fun c8 => ?_) (fun c8 => ?_)
    · replace hf := it_t hf c8
      exact zj_X3_guessesFor_62 μ5 x1 x2 x4 C hR ih16 hih16 hf
    · replace hf := it_f hf c8
      refine z_lload_n C 2 dX3_guessesFor_55 rfl ?_
      refine z_lconst C dX3_guessesFor_56 (v := (1 : Int64)) (by decide) ?_
      refine z_iload C 3 dX3_guessesFor_57 rfl ?_
      refine z_lshl C dX3_guessesFor_59 ?_
      refine z_lor C dX3_guessesFor_60 ?_
      refine z_topl (fun v9 ev9 => ?_)
      replace hf := nm_e2 hf v9 ev9
      refine z_lstore_n C dX3_guessesFor_61 (i := 2) (lv' := [(2, .long v9), (0, .ref (G.1 0)), (1, .int x1), (4, .int x4)]) rfl (by decide) rfl ?_
      refine z_lv C [1, 2, 0, 3] (lv' := [(0, .ref (G.1 0)), (1, .int x1), (2, .long v9), (4, .int x4)]) rfl ?_
      exact zj_X3_guessesFor_62 μ5 x1 v9 x4 C hR ih16 hih16 hf
noncomputable def f_X3_guessesFor (μ : Mem) (x1 : Int32) : Option (Mem × Int64) :=
 (bd (f_X0_seatAll μ) fun μ2 =>
 lp (fun ih σ => b_X3_guessesFor_16 x1 ih σ.1 σ.2.1 σ.2.2) fu (μ2, (0 : Int64), (0 : Int32)))
set_option maxHeartbeats 4000000 in
theorem c_X3_guessesFor {l : Launch} {G : GW} {μ : Mem} {x1 : Int32} {μ' : Mem} {r : Int64} (hf : f_X3_guessesFor μ x1 = some (μ', r)) : MZ l (YR G) yX3_guessesFor cX3_guessesFor 5 (some .long) { frames := 4, cells := 0, slots := 0, locals := 97 } [.ref (G.1 0), .int x1] μ μ' (some (.long r)) := by
  refine z_met RX3 rfl (by decide) (Nat.le_of_ble_eq_true rfl) (fun X hX C hR => ?_)
  show Z X (YR G) 5 μ 0 [(0, .ref (G.1 0)), (1, .int x1)] []
  unfold f_X3_guessesFor at hf
  refine z_aload_n C 0 dX3_guessesFor_0 rfl ?_
  refine zg_X3_29_0 C dX3_guessesFor_1 ?_
  refine z_aload_n C 0 dX3_guessesFor_4 rfl ?_
  refine zg_X3_19_0 C dX3_guessesFor_5 ?_
  obtain ⟨μ2, h1, hf⟩ := bd_e hf
  refine z_callVv C (As := [.ref (G.1 3)]) (rest := []) (c_X0_seatAll h1) vw_X3_107 ⟨rfl, rfl, by decide, by decide⟩ (z_rv C (q0 := 19) (ci := 0) rfl rfl rfl) rfl (Nat.le_of_ble_eq_true rfl) dX3_guessesFor_8 ?_
  refine z_lconst C dX3_guessesFor_11 (v := (0 : Int64)) (by decide) ?_
  refine z_lstore_n C dX3_guessesFor_12 (i := 2) (lv' := [(2, .long (0 : Int64)), (0, .ref (G.1 0)), (1, .int x1)]) rfl (by decide) rfl ?_
  refine z_iconst C dX3_guessesFor_13 (v := (0 : Int32)) (by decide) ?_
  refine z_istore C dX3_guessesFor_14 (i := 4) (lv' := [(4, .int (0 : Int32)), (2, .long (0 : Int64)), (0, .ref (G.1 0)), (1, .int x1)]) (by decide) rfl ?_
  refine z_lv C [2, 3, 1, 0] (lv' := [(0, .ref (G.1 0)), (1, .int x1), (2, .long (0 : Int64)), (4, .int (0 : Int32))]) rfl ?_
  exact zl_X3_guessesFor_16 x1 C hR fu (μ2, (0 : Int64), (0 : Int32)) hf
noncomputable def f_X3_leastOf (μ : Mem) (x0 : Int64) : Int32 :=
 (if (lg_cmp x0 (0 : Int64)) = 0 then
 (-1 : Int32)
 else
 (nm (f_J13_numberOfTrailingZeros_95d88 μ x0) fun v3 : Int32 =>
 v3))
set_option maxHeartbeats 4000000 in
theorem c_X3_leastOf {l : Launch} {G : GW} {μ : Mem} {x0 : Int64} {r : Int32} (hf : f_X3_leastOf μ x0 = r) : MZ l (YR G) yX3_leastOf cX3_leastOf 2 (some .int) { frames := 2, cells := 0, slots := 0, locals := 43 } [.long x0] μ μ (some (.int r)) := by
  refine z_met RX3 rfl (by decide) (Nat.le_of_ble_eq_true rfl) (fun X hX C hR => ?_)
  show Z X (YR G) 2 μ 0 [(0, .long x0)] []
  unfold f_X3_leastOf at hf
  refine z_lload_n C 0 dX3_leastOf_0 rfl ?_
  refine z_lconst C dX3_leastOf_1 (v := (0 : Int64)) (by decide) ?_
  refine z_lcmp C dX3_leastOf_2 ?_
  refine z_if_ne C 10 dX3_leastOf_3 (by decide) (fun c1 => ?_) (fun c1 => ?_)
  · replace hf := it_f hf c1
    refine z_lload_n C 0 dX3_leastOf_10 rfl ?_
    obtain ⟨v3, h2⟩ : ∃ z, z = f_J13_numberOfTrailingZeros_95d88 μ x0 := ⟨_, rfl⟩
    replace hf := nm_e2 hf v3 h2
    refine z_callSi C (As := [.long x0]) (rest := []) (c_J13_numberOfTrailingZeros_95d88 h2.symm) sw_X3_235 ⟨rfl, rfl, by decide, by decide⟩ rfl (Nat.le_of_ble_eq_true rfl) dX3_leastOf_11 ?_
    exact z_iret C hR dX3_leastOf_14 rfl hf
  · replace hf := it_t hf c1
    refine z_iconst C dX3_leastOf_6 (v := (-1 : Int32)) (by decide) ?_
    refine z_goto C 14 dX3_leastOf_7 (by decide) ?_
    exact z_iret C hR dX3_leastOf_14 rfl hf
noncomputable def f_X3_guess (μ : Mem) (x1 : Int32) (x2 : Int32) : Option (Mem × Int32) :=
 (nm (f_X3_isPlace μ x1) fun v2 : Int32 =>
 (if v2 = 0 then
 (some (μ, (-101 : Int32)))
 else
 (if x2 < 0 then
 (some (μ, (-102 : Int32)))
 else
 (if x2 ≤ (1 : Int32) then
 (bd2 (f_X3_guessesFor μ x1) fun μ7 v8 =>
 (if x2 = 0 then
 (nm (f_J13_bitCount_95d88 μ7 v8) fun v13 : Int32 =>
 (some (μ7, v13)))
 else
 (nm (f_X3_leastOf μ7 v8) fun v11 : Int32 =>
 (some (μ7, v11)))))
 else
 (some (μ, (-102 : Int32)))))))
set_option maxHeartbeats 4000000 in
theorem c_X3_guess {l : Launch} {G : GW} {μ : Mem} {x1 : Int32} {x2 : Int32} {μ' : Mem} {r : Int32} (hf : f_X3_guess μ x1 x2 = some (μ', r)) : MZ l (YR G) yX3_guess cX3_guess 5 (some .int) { frames := 5, cells := 0, slots := 0, locals := 121 } [.ref (G.1 0), .int x1, .int x2] μ μ' (some (.int r)) := by
  refine z_met RX3 rfl (by decide) (Nat.le_of_ble_eq_true rfl) (fun X hX C hR => ?_)
  show Z X (YR G) 5 μ 0 [(0, .ref (G.1 0)), (1, .int x1), (2, .int x2)] []
  unfold f_X3_guess at hf
  refine z_aload_n C 0 dX3_guess_0 rfl ?_
  refine z_iload_n C 1 dX3_guess_1 rfl ?_
  obtain ⟨v2, h1⟩ : ∃ z, z = f_X3_isPlace μ x1 := ⟨_, rfl⟩
  replace hf := nm_e2 hf v2 h1
  refine z_callVi C (As := [.int x1]) (rest := []) (c_X3_isPlace h1.symm) vw_X3_70 ⟨rfl, rfl, by decide, by decide⟩ (z_rv C (q0 := 0) (ci := 3) rfl rfl rfl) rfl (Nat.le_of_ble_eq_true rfl) dX3_guess_2 ?_
  refine z_if_ne C 11 dX3_guess_5 (by decide) (fun c3 => ?_) (fun c3 => ?_)
  · replace hf := it_f hf c3
    refine z_iload_n C 2 dX3_guess_11 rfl ?_
    refine z_if_lt C 20 dX3_guess_12 (by decide) (fun c4 => ?_) (fun c4 => ?_)
    · replace hf := it_t hf c4
      refine z_bipush C dX3_guess_20 (v := (-102 : Int32)) (by decide) ?_
      exact z_iret C hR dX3_guess_22 (rt2 hf).1 (rt2 hf).2
    · replace hf := it_f hf c4
      refine z_iload_n C 2 dX3_guess_15 rfl ?_
      refine z_iconst C dX3_guess_16 (v := (1 : Int32)) (by decide) ?_
      refine z_icmp_le C 23 dX3_guess_17 (by decide) (fun c5 => ?_) (fun c5 => ?_)
      · replace hf := it_t hf c5
        refine z_aload_n C 0 dX3_guess_23 rfl ?_
        refine z_iload_n C 1 dX3_guess_24 rfl ?_
        obtain ⟨μ7, v8, h6, hf⟩ := bd2_e hf
        refine z_callVl C (As := [.int x1]) (rest := []) (c_X3_guessesFor h6) vw_X3_148 ⟨rfl, rfl, by decide, by decide⟩ (z_rv C (q0 := 0) (ci := 3) rfl rfl rfl) rfl (Nat.le_of_ble_eq_true rfl) dX3_guess_25 ?_
        refine z_lstore_n C dX3_guess_28 (i := 3) (lv' := [(3, .long v8), (0, .ref (G.1 0)), (1, .int x1), (2, .int x2)]) rfl (by decide) rfl ?_
        refine z_iload_n C 3 dX3_guess_29 rfl ?_
        refine z_if_ne C 40 dX3_guess_30 (by decide) (fun c9 => ?_) (fun c9 => ?_)
        · replace hf := it_f hf c9
          refine z_lload_n C 0 dX3_guess_40 rfl ?_
          obtain ⟨v11, h10⟩ : ∃ z, z = f_X3_leastOf μ7 v8 := ⟨_, rfl⟩
          replace hf := nm_e2 hf v11 h10
          refine z_callSi C (As := [.long v8]) (rest := []) (c_X3_leastOf h10.symm) sw_X3_157 ⟨rfl, rfl, by decide, by decide⟩ rfl (Nat.le_of_ble_eq_true rfl) dX3_guess_41 ?_
          exact z_iret C hR dX3_guess_44 (rt2 hf).1 (rt2 hf).2
        · replace hf := it_t hf c9
          refine z_lload_n C 0 dX3_guess_33 rfl ?_
          obtain ⟨v13, h12⟩ : ∃ z, z = f_J13_bitCount_95d88 μ7 v8 := ⟨_, rfl⟩
          replace hf := nm_e2 hf v13 h12
          refine z_callSi C (As := [.long v8]) (rest := []) (c_J13_bitCount_95d88 h12.symm) sw_X3_152 ⟨rfl, rfl, by decide, by decide⟩ rfl (Nat.le_of_ble_eq_true rfl) dX3_guess_34 ?_
          refine z_goto C 44 dX3_guess_37 (by decide) ?_
          exact z_iret C hR dX3_guess_44 (rt2 hf).1 (rt2 hf).2
      · replace hf := it_f hf c5
        refine z_bipush C dX3_guess_20 (v := (-102 : Int32)) (by decide) ?_
        exact z_iret C hR dX3_guess_22 (rt2 hf).1 (rt2 hf).2
  · replace hf := it_t hf c3
    refine z_bipush C dX3_guess_8 (v := (-101 : Int32)) (by decide) ?_
    exact z_iret C hR dX3_guess_10 (rt2 hf).1 (rt2 hf).2
noncomputable def g_X3_leftAtWorst_100 (μ : Mem) (x1 : Int32) (x2 : Int32) (x3 : Int64) (x5 : Int32) (x6 : Int32) (ih25 : Mem × Int32 × Int32 → Option (Mem × Int32)) : Option (Mem × Int32) :=
 ih25 (μ, x5, (x6 + (1 : Int32)))
set_option maxHeartbeats 4000000 in
theorem zj_X3_leftAtWorst_100 {X : ZX} {G : GW} {μ' : Mem} {r : Int32} (μ : Mem) (x1 : Int32) (x2 : Int32) (x3 : Int64) (x5 : Int32) (x6 : Int32) (C : CX X (YR G) cX3_leftAtWorst 8 RX3 { frames := 3, cells := 0, slots := 0, locals := 75 }) (hR : ZR X (YR G) (some .int) μ' (some (.int r))) (ih25 : Mem × Int32 × Int32 → Option (Mem × Int32)) (hih25 : ∀ σ, ih25 σ = some (μ', r) → Z X (YR G) 8 σ.1 25 [(0, .ref (G.1 0)), (1, .int x1), (2, .int x2), (3, .long x3), (5, .int σ.2.1), (6, .int σ.2.2)] []) (hf : g_X3_leftAtWorst_100 μ x1 x2 x3 x5 x6 ih25 = some (μ', r)) : Z X (YR G) 8 μ 100 [(0, .ref (G.1 0)), (1, .int x1), (2, .int x2), (3, .long x3), (5, .int x5), (6, .int x6)] [] := by
  unfold g_X3_leftAtWorst_100 at hf
  refine z_iinc C 5 dX3_leftAtWorst_100 (v := (x6 + (1 : Int32))) (lv' := [(6, .int (x6 + (1 : Int32))), (0, .ref (G.1 0)), (1, .int x1), (2, .int x2), (3, .long x3), (5, .int x5)]) rfl rfl (by decide) rfl ?_
  refine z_goto C 25 dX3_leftAtWorst_103 (by decide) ?_
  refine z_lv C [1, 2, 3, 4, 5, 0] (lv' := [(0, .ref (G.1 0)), (1, .int x1), (2, .int x2), (3, .long x3), (5, .int x5), (6, .int (x6 + (1 : Int32)))]) rfl ?_
  exact hih25 (μ, x5, (x6 + (1 : Int32))) hf
noncomputable def b_X3_leftAtWorst_25 (x1 : Int32) (x2 : Int32) (x3 : Int64) (ih25 : Mem × Int32 × Int32 → Option (Mem × Int32)) (μ : Mem) (x5 : Int32) (x6 : Int32) : Option (Mem × Int32) :=
 (if (40 : Int32) ≤ x6 then
 (some (μ, x5))
 else
 (if (lg_cmp ((x3 >>> ((x6).toInt64 &&& 63)) &&& (1 : Int64)) (0 : Int64)) = 0 then
 g_X3_leftAtWorst_100 μ x1 x2 x3 x5 x6 ih25
 else
 (bd (f_X0_put μ x1 (x6 / (8 : Int32)) (x6 - x6 / (8 : Int32) * (8 : Int32))) fun μ8 =>
 (bd (f_X0_outcome μ8 x1 x2) fun v10 =>
 (ck (vp_in v10 8) <|
 (nm (((μ8 22 (v10).toNatClampNeg) + (1 : Int32))) fun v12 : Int32 =>
 (nm (up μ8 22 (v10).toNatClampNeg v12) fun μ13 : Mem =>
 (nm ((if x5 < (μ13 22 (v10).toNatClampNeg) then (μ13 22 (v10).toNatClampNeg) else x5)) fun v14 : Int32 =>
 g_X3_leftAtWorst_100 μ13 x1 x2 x3 v14 x6 ih25))))))))
set_option maxHeartbeats 4000000 in
theorem zl_X3_leftAtWorst_25 {X : ZX} {G : GW} {μ' : Mem} {r : Int32} (x1 : Int32) (x2 : Int32) (x3 : Int64) (C : CX X (YR G) cX3_leftAtWorst 8 RX3 { frames := 3, cells := 0, slots := 0, locals := 75 }) (hR : ZR X (YR G) (some .int) μ' (some (.int r))) : ∀ (n : Nat) (σ : Mem × Int32 × Int32), lp (fun ih σ => b_X3_leftAtWorst_25 x1 x2 x3 ih σ.1 σ.2.1 σ.2.2) n σ = some (μ', r) → Z X (YR G) 8 σ.1 25 [(0, .ref (G.1 0)), (1, .int x1), (2, .int x2), (3, .long x3), (5, .int σ.2.1), (6, .int σ.2.2)] [] := by
  refine lp_z (P := fun σ : Mem × Int32 × Int32 => Z X (YR G) 8 σ.1 25 [(0, .ref (G.1 0)), (1, .int x1), (2, .int x2), (3, .long x3), (5, .int σ.2.1), (6, .int σ.2.2)] []) (fun ih25 hih25 σ hf => ?_)
  obtain ⟨μ, x5, x6⟩ := σ
  have hf : b_X3_leftAtWorst_25 x1 x2 x3 ih25 μ x5 x6 = some (μ', r) := hf
  show Z X (YR G) 8 μ 25 [(0, .ref (G.1 0)), (1, .int x1), (2, .int x2), (3, .long x3), (5, .int x5), (6, .int x6)] []
  unfold b_X3_leftAtWorst_25 at hf
  refine z_iload C 5 dX3_leftAtWorst_25 rfl ?_
  refine z_bipush C dX3_leftAtWorst_27 (v := (40 : Int32)) (by decide) ?_
  refine z_icmp_ge C 106 dX3_leftAtWorst_29 (by decide) (fun c5 => ?_) (fun c5 => ?_)
  · replace hf := it_t hf c5
    refine z_iload C 4 dX3_leftAtWorst_106 rfl ?_
    exact z_iret C hR dX3_leftAtWorst_108 (rt2 hf).1 (rt2 hf).2
  · replace hf := it_f hf c5
    refine z_lload_n C 3 dX3_leftAtWorst_32 rfl ?_
    refine z_iload C 5 dX3_leftAtWorst_33 rfl ?_
    refine z_lshr C dX3_leftAtWorst_35 ?_
    refine z_lconst C dX3_leftAtWorst_36 (v := (1 : Int64)) (by decide) ?_
    refine z_land C dX3_leftAtWorst_37 ?_
    refine z_lconst C dX3_leftAtWorst_38 (v := (0 : Int64)) (by decide) ?_
    refine z_lcmp C dX3_leftAtWorst_39 ?_
    refine z_if_ne C 46 dX3_leftAtWorst_40 (by decide) (fun c6 => ?_) (fun c6 => ?_)
    · replace hf := it_f hf c6
      refine z_aload_n C 0 dX3_leftAtWorst_46 rfl ?_
      refine zg_X3_29_0 C dX3_leftAtWorst_47 ?_
      refine z_iload_n C 1 dX3_leftAtWorst_50 rfl ?_
      refine z_iload C 5 dX3_leftAtWorst_51 rfl ?_
      refine z_bipush C dX3_leftAtWorst_53 (v := (8 : Int32)) (by decide) ?_
      refine z_idiv C dX3_leftAtWorst_55 (by decide) ?_
      refine z_iload C 5 dX3_leftAtWorst_56 rfl ?_
      refine z_bipush C dX3_leftAtWorst_58 (v := (8 : Int32)) (by decide) ?_
      refine z_irem C dX3_leftAtWorst_60 (by decide) ?_
      obtain ⟨μ8, h7, hf⟩ := bd_e hf
      refine z_callVv C (As := [.int x1, .int (x6 / (8 : Int32)), .int (x6 - x6 / (8 : Int32) * (8 : Int32))]) (rest := []) (c_X0_put h7) vw_X3_227 ⟨rfl, rfl, by decide, by decide⟩ (z_rv C (q0 := 19) (ci := 0) rfl rfl rfl) rfl (Nat.le_of_ble_eq_true rfl) dX3_leftAtWorst_61 ?_
      refine z_aload_n C 0 dX3_leftAtWorst_64 rfl ?_
      refine zg_X3_29_0 C dX3_leftAtWorst_65 ?_
      refine z_iload_n C 1 dX3_leftAtWorst_68 rfl ?_
      refine z_iload_n C 2 dX3_leftAtWorst_69 rfl ?_
      obtain ⟨v10, h9, hf⟩ := bd_e hf
      refine z_callVi C (As := [.int x1, .int x2]) (rest := []) (c_X0_outcome h9) vw_X3_111 ⟨rfl, rfl, by decide, by decide⟩ (z_rv C (q0 := 19) (ci := 0) rfl rfl rfl) rfl (Nat.le_of_ble_eq_true rfl) dX3_leftAtWorst_70 ?_
      refine z_istore C dX3_leftAtWorst_73 (i := 7) (lv' := [(7, .int v10), (0, .ref (G.1 0)), (1, .int x1), (2, .int x2), (3, .long x3), (5, .int x5), (6, .int x6)]) (by decide) rfl ?_
      refine z_aload_n C 1 dX3_leftAtWorst_75 rfl ?_
      refine zg_X3_33_0 C dX3_leftAtWorst_76 ?_
      refine z_iload C 0 dX3_leftAtWorst_79 rfl ?_
      refine z_dup2 C dX3_leftAtWorst_81 rfl rfl ?_
      obtain ⟨h11, hf⟩ := ck_e hf
      refine zRl_22 C dX3_leftAtWorst_82 h11 ?_
      refine z_iconst C dX3_leftAtWorst_83 (v := (1 : Int32)) (by decide) ?_
      refine z_iadd C dX3_leftAtWorst_84 ?_
      refine z_topi (fun v12 ev12 => ?_)
      replace hf := nm_e2 hf v12 ev12
      refine zRs_22 C dX3_leftAtWorst_85 h11 ?_
      refine z_mem (fun μ13 eμ13 => ?_)
      replace hf := nm_e2 hf μ13 eμ13
      refine z_iload C 5 dX3_leftAtWorst_86 rfl ?_
      refine z_aload_n C 1 dX3_leftAtWorst_88 rfl ?_
      refine zg_X3_33_0 C dX3_leftAtWorst_89 ?_
      refine z_iload C 0 dX3_leftAtWorst_92 rfl ?_
      refine zRl_22 C dX3_leftAtWorst_94 h11 ?_
      refine z_mmax C (ww_in 519 (by decide +kernel) (by decide +kernel)) (ww_in 236 (by decide +kernel) (by decide +kernel)) (ww_in 40 (by decide +kernel) (by decide +kernel)) (ww_in 237 (by decide +kernel) (by decide +kernel)) (by decide) (Nat.le_of_ble_eq_true rfl) dX3_leftAtWorst_95 ?_
      refine z_topi (fun v14 ev14 => ?_)
      replace hf := nm_e2 hf v14 ev14
      refine z_istore C dX3_leftAtWorst_98 (i := 5) (lv' := [(5, .int v14), (7, .int v10), (0, .ref (G.1 0)), (1, .int x1), (2, .int x2), (3, .long x3), (6, .int x6)]) (by decide) rfl ?_
      refine z_lv C [2, 3, 4, 5, 0, 6] (lv' := [(0, .ref (G.1 0)), (1, .int x1), (2, .int x2), (3, .long x3), (5, .int v14), (6, .int x6)]) rfl ?_
      exact zj_X3_leftAtWorst_100 μ13 x1 x2 x3 v14 x6 C hR ih25 hih25 hf
    · replace hf := it_t hf c6
      refine z_goto C 100 dX3_leftAtWorst_43 (by decide) ?_
      exact zj_X3_leftAtWorst_100 μ x1 x2 x3 x5 x6 C hR ih25 hih25 hf
noncomputable def f_X3_leftAtWorst (μ : Mem) (x1 : Int32) (x2 : Int32) (x3 : Int64) : Option (Mem × Int32) :=
 (bd (f_X0_seatAll μ) fun μ2 =>
 (bd (f_J7_fill_53178_22 μ2 (0 : Int32)) fun μ4 =>
 lp (fun ih σ => b_X3_leftAtWorst_25 x1 x2 x3 ih σ.1 σ.2.1 σ.2.2) fu (μ4, (0 : Int32), (0 : Int32))))
set_option maxHeartbeats 4000000 in
theorem c_X3_leftAtWorst {l : Launch} {G : GW} {μ : Mem} {x1 : Int32} {x2 : Int32} {x3 : Int64} {μ' : Mem} {r : Int32} (hf : f_X3_leftAtWorst μ x1 x2 x3 = some (μ', r)) : MZ l (YR G) yX3_leftAtWorst cX3_leftAtWorst 8 (some .int) { frames := 3, cells := 0, slots := 0, locals := 75 } [.ref (G.1 0), .int x1, .int x2, .long x3] μ μ' (some (.int r)) := by
  refine z_met RX3 rfl (by decide) (Nat.le_of_ble_eq_true rfl) (fun X hX C hR => ?_)
  show Z X (YR G) 8 μ 0 [(0, .ref (G.1 0)), (1, .int x1), (2, .int x2), (3, .long x3)] []
  unfold f_X3_leftAtWorst at hf
  refine z_aload_n C 0 dX3_leftAtWorst_0 rfl ?_
  refine zg_X3_29_0 C dX3_leftAtWorst_1 ?_
  refine z_aload_n C 0 dX3_leftAtWorst_4 rfl ?_
  refine zg_X3_19_0 C dX3_leftAtWorst_5 ?_
  obtain ⟨μ2, h1, hf⟩ := bd_e hf
  refine z_callVv C (As := [.ref (G.1 3)]) (rest := []) (c_X0_seatAll h1) vw_X3_107 ⟨rfl, rfl, by decide, by decide⟩ (z_rv C (q0 := 19) (ci := 0) rfl rfl rfl) rfl (Nat.le_of_ble_eq_true rfl) dX3_leftAtWorst_8 ?_
  refine z_aload_n C 0 dX3_leftAtWorst_11 rfl ?_
  refine zg_X3_33_0 C dX3_leftAtWorst_12 ?_
  refine z_iconst C dX3_leftAtWorst_15 (v := (0 : Int32)) (by decide) ?_
  obtain ⟨μ4, h3, hf⟩ := bd_e hf
  refine z_callSv C (As := [.ref (G.1 22), .int (0 : Int32)]) (rest := []) (c_J7_fill_53178_22 h3) sw_X3_202 ⟨rfl, rfl, by decide, by decide⟩ rfl (Nat.le_of_ble_eq_true rfl) dX3_leftAtWorst_16 ?_
  refine z_iconst C dX3_leftAtWorst_19 (v := (0 : Int32)) (by decide) ?_
  refine z_istore C dX3_leftAtWorst_20 (i := 5) (lv' := [(5, .int (0 : Int32)), (0, .ref (G.1 0)), (1, .int x1), (2, .int x2), (3, .long x3)]) (by decide) rfl ?_
  refine z_iconst C dX3_leftAtWorst_22 (v := (0 : Int32)) (by decide) ?_
  refine z_istore C dX3_leftAtWorst_23 (i := 6) (lv' := [(6, .int (0 : Int32)), (5, .int (0 : Int32)), (0, .ref (G.1 0)), (1, .int x1), (2, .int x2), (3, .long x3)]) (by decide) rfl ?_
  refine z_lv C [2, 3, 4, 5, 1, 0] (lv' := [(0, .ref (G.1 0)), (1, .int x1), (2, .int x2), (3, .long x3), (5, .int (0 : Int32)), (6, .int (0 : Int32))]) rfl ?_
  exact zl_X3_leftAtWorst_25 x1 x2 x3 C hR fu (μ4, (0 : Int32), (0 : Int32)) hf
noncomputable def g_X3_bestMotion_55 (μ : Mem) (x1 : Int32) (x2 : Int64) (x4 : Int32) (x5 : Int32) (x6 : Int32) (ih23 : Mem × Int32 × Int32 × Int32 → Option (Mem × Int32)) : Option (Mem × Int32) :=
 ih23 (μ, x4, x5, (x6 + (1 : Int32)))
set_option maxHeartbeats 4000000 in
theorem zj_X3_bestMotion_55 {X : ZX} {G : GW} {μ' : Mem} {r : Int32} (μ : Mem) (x1 : Int32) (x2 : Int64) (x4 : Int32) (x5 : Int32) (x6 : Int32) (C : CX X (YR G) cX3_bestMotion 8 RX3 { frames := 4, cells := 0, slots := 0, locals := 102 }) (hR : ZR X (YR G) (some .int) μ' (some (.int r))) (ih23 : Mem × Int32 × Int32 × Int32 → Option (Mem × Int32)) (hih23 : ∀ σ, ih23 σ = some (μ', r) → Z X (YR G) 8 σ.1 23 [(0, .ref (G.1 0)), (1, .int x1), (2, .long x2), (4, .int σ.2.1), (5, .int σ.2.2.1), (6, .int σ.2.2.2)] []) (hf : g_X3_bestMotion_55 μ x1 x2 x4 x5 x6 ih23 = some (μ', r)) : Z X (YR G) 8 μ 55 [(0, .ref (G.1 0)), (1, .int x1), (2, .long x2), (4, .int x4), (5, .int x5), (6, .int x6)] [] := by
  unfold g_X3_bestMotion_55 at hf
  refine z_iinc C 5 dX3_bestMotion_55 (v := (x6 + (1 : Int32))) (lv' := [(6, .int (x6 + (1 : Int32))), (0, .ref (G.1 0)), (1, .int x1), (2, .long x2), (4, .int x4), (5, .int x5)]) rfl rfl (by decide) rfl ?_
  refine z_goto C 23 dX3_bestMotion_58 (by decide) ?_
  refine z_lv C [1, 2, 3, 4, 5, 0] (lv' := [(0, .ref (G.1 0)), (1, .int x1), (2, .long x2), (4, .int x4), (5, .int x5), (6, .int (x6 + (1 : Int32)))]) rfl ?_
  exact hih23 (μ, x4, x5, (x6 + (1 : Int32))) hf
noncomputable def b_X3_bestMotion_23 (x1 : Int32) (x2 : Int64) (ih23 : Mem × Int32 × Int32 × Int32 → Option (Mem × Int32)) (μ : Mem) (x4 : Int32) (x5 : Int32) (x6 : Int32) : Option (Mem × Int32) :=
 (if (8 : Int32) ≤ x6 then
 (some (μ, x4))
 else
 (bd2 (f_X3_leftAtWorst μ x1 x6 x2) fun μ7 v8 =>
 (if x5 ≤ v8 then
 g_X3_bestMotion_55 μ7 x1 x2 x4 x5 x6 ih23
 else
 g_X3_bestMotion_55 μ7 x1 x2 x6 v8 x6 ih23)))
set_option maxHeartbeats 4000000 in
theorem zl_X3_bestMotion_23 {X : ZX} {G : GW} {μ' : Mem} {r : Int32} (x1 : Int32) (x2 : Int64) (C : CX X (YR G) cX3_bestMotion 8 RX3 { frames := 4, cells := 0, slots := 0, locals := 102 }) (hR : ZR X (YR G) (some .int) μ' (some (.int r))) : ∀ (n : Nat) (σ : Mem × Int32 × Int32 × Int32), lp (fun ih σ => b_X3_bestMotion_23 x1 x2 ih σ.1 σ.2.1 σ.2.2.1 σ.2.2.2) n σ = some (μ', r) → Z X (YR G) 8 σ.1 23 [(0, .ref (G.1 0)), (1, .int x1), (2, .long x2), (4, .int σ.2.1), (5, .int σ.2.2.1), (6, .int σ.2.2.2)] [] := by
  refine lp_z (P := fun σ : Mem × Int32 × Int32 × Int32 => Z X (YR G) 8 σ.1 23 [(0, .ref (G.1 0)), (1, .int x1), (2, .long x2), (4, .int σ.2.1), (5, .int σ.2.2.1), (6, .int σ.2.2.2)] []) (fun ih23 hih23 σ hf => ?_)
  obtain ⟨μ, x4, x5, x6⟩ := σ
  have hf : b_X3_bestMotion_23 x1 x2 ih23 μ x4 x5 x6 = some (μ', r) := hf
  show Z X (YR G) 8 μ 23 [(0, .ref (G.1 0)), (1, .int x1), (2, .long x2), (4, .int x4), (5, .int x5), (6, .int x6)] []
  unfold b_X3_bestMotion_23 at hf
  refine z_iload C 5 dX3_bestMotion_23 rfl ?_
  refine z_bipush C dX3_bestMotion_25 (v := (8 : Int32)) (by decide) ?_
  refine z_icmp_ge C 61 dX3_bestMotion_27 (by decide) (fun c5 => ?_) (fun c5 => ?_)
  · replace hf := it_t hf c5
    refine z_iload C 3 dX3_bestMotion_61 rfl ?_
    exact z_iret C hR dX3_bestMotion_63 (rt2 hf).1 (rt2 hf).2
  · replace hf := it_f hf c5
    refine z_aload_n C 0 dX3_bestMotion_30 rfl ?_
    refine z_iload_n C 1 dX3_bestMotion_31 rfl ?_
    refine z_iload C 5 dX3_bestMotion_32 rfl ?_
    refine z_lload_n C 2 dX3_bestMotion_34 rfl ?_
    obtain ⟨μ7, v8, h6, hf⟩ := bd2_e hf
    refine z_callVi C (As := [.int x1, .int x6, .long x2]) (rest := []) (c_X3_leftAtWorst h6) vw_X3_238 ⟨rfl, rfl, by decide, by decide⟩ (z_rv C (q0 := 0) (ci := 3) rfl rfl rfl) rfl (Nat.le_of_ble_eq_true rfl) dX3_bestMotion_35 ?_
    refine z_istore C dX3_bestMotion_38 (i := 7) (lv' := [(7, .int v8), (0, .ref (G.1 0)), (1, .int x1), (2, .long x2), (4, .int x4), (5, .int x5), (6, .int x6)]) (by decide) rfl ?_
    refine z_iload C 0 dX3_bestMotion_40 rfl ?_
    refine z_iload C 5 dX3_bestMotion_42 rfl ?_
    refine z_icmp_ge C 55 dX3_bestMotion_44 (by decide) (fun c9 => ?_) (fun c9 => ?_)
    · replace hf := it_t hf c9
      refine z_lv C [1, 2, 3, 4, 5, 6] (lv' := [(0, .ref (G.1 0)), (1, .int x1), (2, .long x2), (4, .int x4), (5, .int x5), (6, .int x6)]) rfl ?_
      exact zj_X3_bestMotion_55 μ7 x1 x2 x4 x5 x6 C hR ih23 hih23 hf
    · replace hf := it_f hf c9
      refine z_iload C 6 dX3_bestMotion_47 rfl ?_
      refine z_istore C dX3_bestMotion_49 (i := 4) (lv' := [(4, .int x6), (7, .int v8), (0, .ref (G.1 0)), (1, .int x1), (2, .long x2), (5, .int x5), (6, .int x6)]) (by decide) rfl ?_
      refine z_iload C 1 dX3_bestMotion_51 rfl ?_
      refine z_istore C dX3_bestMotion_53 (i := 5) (lv' := [(5, .int v8), (4, .int x6), (7, .int v8), (0, .ref (G.1 0)), (1, .int x1), (2, .long x2), (6, .int x6)]) (by decide) rfl ?_
      refine z_lv C [3, 4, 5, 1, 0, 6] (lv' := [(0, .ref (G.1 0)), (1, .int x1), (2, .long x2), (4, .int x6), (5, .int v8), (6, .int x6)]) rfl ?_
      exact zj_X3_bestMotion_55 μ7 x1 x2 x6 v8 x6 C hR ih23 hih23 hf
noncomputable def f_X3_bestMotion (μ : Mem) (x1 : Int32) (x2 : Int64) : Option (Mem × Int32) :=
 (if (lg_cmp x2 (0 : Int64)) = 0 then
 (some (μ, (-1 : Int32)))
 else
 (bd2 (f_X3_leftAtWorst μ x1 (0 : Int32) x2) fun μ3 v4 =>
 lp (fun ih σ => b_X3_bestMotion_23 x1 x2 ih σ.1 σ.2.1 σ.2.2.1 σ.2.2.2) fu (μ3, (0 : Int32), v4, (1 : Int32))))
set_option maxHeartbeats 4000000 in
theorem c_X3_bestMotion {l : Launch} {G : GW} {μ : Mem} {x1 : Int32} {x2 : Int64} {μ' : Mem} {r : Int32} (hf : f_X3_bestMotion μ x1 x2 = some (μ', r)) : MZ l (YR G) yX3_bestMotion cX3_bestMotion 8 (some .int) { frames := 4, cells := 0, slots := 0, locals := 102 } [.ref (G.1 0), .int x1, .long x2] μ μ' (some (.int r)) := by
  refine z_met RX3 rfl (by decide) (Nat.le_of_ble_eq_true rfl) (fun X hX C hR => ?_)
  show Z X (YR G) 8 μ 0 [(0, .ref (G.1 0)), (1, .int x1), (2, .long x2)] []
  unfold f_X3_bestMotion at hf
  refine z_lload_n C 2 dX3_bestMotion_0 rfl ?_
  refine z_lconst C dX3_bestMotion_1 (v := (0 : Int64)) (by decide) ?_
  refine z_lcmp C dX3_bestMotion_2 ?_
  refine z_if_ne C 8 dX3_bestMotion_3 (by decide) (fun c1 => ?_) (fun c1 => ?_)
  · replace hf := it_f hf c1
    refine z_iconst C dX3_bestMotion_8 (v := (0 : Int32)) (by decide) ?_
    refine z_istore C dX3_bestMotion_9 (i := 4) (lv' := [(4, .int (0 : Int32)), (0, .ref (G.1 0)), (1, .int x1), (2, .long x2)]) (by decide) rfl ?_
    refine z_aload_n C 1 dX3_bestMotion_11 rfl ?_
    refine z_iload_n C 2 dX3_bestMotion_12 rfl ?_
    refine z_iconst C dX3_bestMotion_13 (v := (0 : Int32)) (by decide) ?_
    refine z_lload_n C 3 dX3_bestMotion_14 rfl ?_
    obtain ⟨μ3, v4, h2, hf⟩ := bd2_e hf
    refine z_callVi C (As := [.int x1, .int (0 : Int32), .long x2]) (rest := []) (c_X3_leftAtWorst h2) vw_X3_238 ⟨rfl, rfl, by decide, by decide⟩ (z_rv C (q0 := 0) (ci := 3) rfl rfl rfl) rfl (Nat.le_of_ble_eq_true rfl) dX3_bestMotion_15 ?_
    refine z_istore C dX3_bestMotion_18 (i := 5) (lv' := [(5, .int v4), (4, .int (0 : Int32)), (0, .ref (G.1 0)), (1, .int x1), (2, .long x2)]) (by decide) rfl ?_
    refine z_iconst C dX3_bestMotion_20 (v := (1 : Int32)) (by decide) ?_
    refine z_istore C dX3_bestMotion_21 (i := 6) (lv' := [(6, .int (1 : Int32)), (5, .int v4), (4, .int (0 : Int32)), (0, .ref (G.1 0)), (1, .int x1), (2, .long x2)]) (by decide) rfl ?_
    refine z_lv C [3, 4, 5, 2, 1, 0] (lv' := [(0, .ref (G.1 0)), (1, .int x1), (2, .long x2), (4, .int (0 : Int32)), (5, .int v4), (6, .int (1 : Int32))]) rfl ?_
    exact zl_X3_bestMotion_23 x1 x2 C hR fu (μ3, (0 : Int32), v4, (1 : Int32)) hf
  · replace hf := it_t hf c1
    refine z_iconst C dX3_bestMotion_6 (v := (-1 : Int32)) (by decide) ?_
    exact z_iret C hR dX3_bestMotion_7 (rt2 hf).1 (rt2 hf).2
noncomputable def f_X3_caw (μ : Mem) (x1 : Int32) : Option (Mem × Int32) :=
 (nm (f_X3_isPlace μ x1) fun v2 : Int32 =>
 (if v2 = 0 then
 (some (μ, (-101 : Int32)))
 else
 (bd2 (f_X3_guessesFor μ x1) fun μ5 v6 =>
 (bd2 (f_X3_bestMotion μ5 x1 v6) fun μ8 v9 =>
 (some (μ8, v9))))))
set_option maxHeartbeats 4000000 in
theorem c_X3_caw {l : Launch} {G : GW} {μ : Mem} {x1 : Int32} {μ' : Mem} {r : Int32} (hf : f_X3_caw μ x1 = some (μ', r)) : MZ l (YR G) yX3_caw cX3_caw 2 (some .int) { frames := 5, cells := 0, slots := 0, locals := 129 } [.ref (G.1 0), .int x1] μ μ' (some (.int r)) := by
  refine z_met RX3 rfl (by decide) (Nat.le_of_ble_eq_true rfl) (fun X hX C hR => ?_)
  show Z X (YR G) 2 μ 0 [(0, .ref (G.1 0)), (1, .int x1)] []
  unfold f_X3_caw at hf
  refine z_aload_n C 0 dX3_caw_0 rfl ?_
  refine z_iload_n C 1 dX3_caw_1 rfl ?_
  obtain ⟨v2, h1⟩ : ∃ z, z = f_X3_isPlace μ x1 := ⟨_, rfl⟩
  replace hf := nm_e2 hf v2 h1
  refine z_callVi C (As := [.int x1]) (rest := []) (c_X3_isPlace h1.symm) vw_X3_70 ⟨rfl, rfl, by decide, by decide⟩ (z_rv C (q0 := 0) (ci := 3) rfl rfl rfl) rfl (Nat.le_of_ble_eq_true rfl) dX3_caw_2 ?_
  refine z_if_eq C 21 dX3_caw_5 (by decide) (fun c3 => ?_) (fun c3 => ?_)
  · replace hf := it_t hf c3
    refine z_bipush C dX3_caw_21 (v := (-101 : Int32)) (by decide) ?_
    exact z_iret C hR dX3_caw_23 (rt2 hf).1 (rt2 hf).2
  · replace hf := it_f hf c3
    refine z_aload_n C 0 dX3_caw_8 rfl ?_
    refine z_iload_n C 1 dX3_caw_9 rfl ?_
    refine z_aload_n C 0 dX3_caw_10 rfl ?_
    refine z_iload_n C 1 dX3_caw_11 rfl ?_
    obtain ⟨μ5, v6, h4, hf⟩ := bd2_e hf
    refine z_callVl C (As := [.int x1]) (rest := [.int x1, .ref (G.1 0)]) (c_X3_guessesFor h4) vw_X3_148 ⟨rfl, rfl, by decide, by decide⟩ (z_rv C (q0 := 0) (ci := 3) rfl rfl rfl) rfl (Nat.le_of_ble_eq_true rfl) dX3_caw_12 ?_
    obtain ⟨μ8, v9, h7, hf⟩ := bd2_e hf
    refine z_callVi C (As := [.int x1, .long v6]) (rest := []) (c_X3_bestMotion h7) vw_X3_160 ⟨rfl, rfl, by decide, by decide⟩ (z_rv C (q0 := 0) (ci := 3) rfl rfl rfl) rfl (Nat.le_of_ble_eq_true rfl) dX3_caw_15 ?_
    refine z_goto C 23 dX3_caw_18 (by decide) ?_
    exact z_iret C hR dX3_caw_23 (rt2 hf).1 (rt2 hf).2
noncomputable def f_X3_seedAfter (μ : Mem) (x0 : Int32) : Int32 :=
 (((((1103515245 : Int64) * (x0).toInt64) + (12345 : Int64)) - (((1103515245 : Int64) * (x0).toInt64) + (12345 : Int64)) / (2147483648 : Int64) * (2147483648 : Int64))).toInt32
set_option maxHeartbeats 4000000 in
theorem c_X3_seedAfter {l : Launch} {G : GW} {μ : Mem} {x0 : Int32} {r : Int32} (hf : f_X3_seedAfter μ x0 = r) : MZ l (YR G) yX3_seedAfter cX3_seedAfter 1 (some .int) { frames := 0, cells := 0, slots := 0, locals := 0 } [.int x0] μ μ (some (.int r)) := by
  refine z_met RX3 rfl (by decide) (Nat.le_of_ble_eq_true rfl) (fun X hX C hR => ?_)
  show Z X (YR G) 1 μ 0 [(0, .int x0)] []
  unfold f_X3_seedAfter at hf
  refine z_ldc2 C dX3_seedAfter_0 (v := (1103515245 : Int64)) (ww_in 531 (by decide +kernel) (by decide +kernel)) ?_
  refine z_iload_n C 0 dX3_seedAfter_3 rfl ?_
  refine z_i2l C dX3_seedAfter_4 ?_
  refine z_lmul C dX3_seedAfter_5 ?_
  refine z_ldc2 C dX3_seedAfter_6 (v := (12345 : Int64)) (ww_in 532 (by decide +kernel) (by decide +kernel)) ?_
  refine z_ladd C dX3_seedAfter_9 ?_
  refine z_ldc2 C dX3_seedAfter_10 (v := (2147483648 : Int64)) (ww_in 533 (by decide +kernel) (by decide +kernel)) ?_
  refine z_lrem C dX3_seedAfter_13 (by decide) ?_
  refine z_l2i C dX3_seedAfter_14 ?_
  exact z_iret C hR dX3_seedAfter_15 rfl hf
noncomputable def f_X3_drawn (μ : Mem) (x0 : Int32) (x1 : Int32) : Option Int32 :=
 (if x1 ≤ 0 then
 (some (0 : Int32))
 else
 (ck (¬ x1 = 0) <|
 (some ((x0 / (65536 : Int32)) - (x0 / (65536 : Int32)) / x1 * x1))))
set_option maxHeartbeats 4000000 in
theorem c_X3_drawn {l : Launch} {G : GW} {μ : Mem} {x0 : Int32} {x1 : Int32} {r : Int32} (hf : f_X3_drawn μ x0 x1 = some r) : MZ l (YR G) yX3_drawn cX3_drawn 2 (some .int) { frames := 0, cells := 0, slots := 0, locals := 0 } [.int x0, .int x1] μ μ (some (.int r)) := by
  refine z_met RX3 rfl (by decide) (Nat.le_of_ble_eq_true rfl) (fun X hX C hR => ?_)
  show Z X (YR G) 2 μ 0 [(0, .int x0), (1, .int x1)] []
  unfold f_X3_drawn at hf
  refine z_iload_n C 1 dX3_drawn_0 rfl ?_
  refine z_if_le C 14 dX3_drawn_1 (by decide) (fun c1 => ?_) (fun c1 => ?_)
  · replace hf := it_t hf c1
    refine z_iconst C dX3_drawn_14 (v := (0 : Int32)) (by decide) ?_
    exact z_iret C hR dX3_drawn_15 rfl (rt1 hf)
  · replace hf := it_f hf c1
    refine z_iload_n C 0 dX3_drawn_4 rfl ?_
    refine z_ldcw C dX3_drawn_5 (v := (65536 : Int32)) (ww_in 537 (by decide +kernel) (by decide +kernel)) ?_
    refine z_idiv C dX3_drawn_8 (by decide) ?_
    refine z_iload_n C 1 dX3_drawn_9 rfl ?_
    obtain ⟨h2, hf⟩ := ck_e hf
    refine z_irem C dX3_drawn_10 h2 ?_
    refine z_goto C 15 dX3_drawn_11 (by decide) ?_
    exact z_iret C hR dX3_drawn_15 rfl (rt1 hf)
noncomputable def g_X3_yearsGoneBy_109 (μ : Mem) (x3 : Int32) (x4 : Int32) (x5 : Int32) (x6 : Int32) : Option (Mem × Int32) :=
 (if x3 = (0 : Int32) then
 (some (μ, x5))
 else
 (if x3 = (1 : Int32) then
 (some (μ, x6))
 else
 (some (μ, x4))))
set_option maxHeartbeats 4000000 in
theorem zj_X3_yearsGoneBy_109 {X : ZX} {G : GW} {μ' : Mem} {r : Int32} (μ : Mem) (x3 : Int32) (x4 : Int32) (x5 : Int32) (x6 : Int32) (C : CX X (YR G) cX3_yearsGoneBy 11 RX3 { frames := 3, cells := 0, slots := 0, locals := 75 }) (hR : ZR X (YR G) (some .int) μ' (some (.int r))) (hf : g_X3_yearsGoneBy_109 μ x3 x4 x5 x6 = some (μ', r)) : Z X (YR G) 11 μ 109 [(3, .int x3), (4, .int x4), (5, .int x5), (6, .int x6)] [] := by
  unfold g_X3_yearsGoneBy_109 at hf
  refine z_iload_n C 0 dX3_yearsGoneBy_109 rfl ?_
  rcases Decidable.em (x3 = (0 : Int32)) with c4 | c4
  · replace hf := it_t hf c4
    refine z_look C 136 dX3_yearsGoneBy_110 (off := 26) (by decide) (by rw [c4]; first | rfl | decide +kernel) (by decide) ?_
    refine z_iload C 2 dX3_yearsGoneBy_136 rfl ?_
    exact z_iret C hR dX3_yearsGoneBy_138 (rt2 hf).1 (rt2 hf).2
  · replace hf := it_f hf c4
    rcases Decidable.em (x3 = (1 : Int32)) with c5 | c5
    · replace hf := it_t hf c5
      refine z_look C 139 dX3_yearsGoneBy_110 (off := 29) (by decide) (by rw [c5]; first | rfl | decide +kernel) (by decide) ?_
      refine z_iload C 3 dX3_yearsGoneBy_139 rfl ?_
      exact z_iret C hR dX3_yearsGoneBy_141 (rt2 hf).1 (rt2 hf).2
    · replace hf := it_f hf c5
      refine z_look C 142 dX3_yearsGoneBy_110 (off := 32) (by decide) (by show Op.lookupswitch.offset [(0, 26), (1, 29)] 32 _ = _; rw [lv_osw c4 (by decide), lv_osw c5 (by decide)]; rfl) (by decide) ?_
      refine z_iload C 1 dX3_yearsGoneBy_142 rfl ?_
      exact z_iret C hR dX3_yearsGoneBy_144 (rt2 hf).1 (rt2 hf).2
noncomputable def g_X3_yearsGoneBy_103 (μ : Mem) (x1 : Int32) (x3 : Int32) (x4 : Int32) (x5 : Int32) (x6 : Int32) (x7 : Int32) (ih23 : Mem × Int32 × Int32 × Int32 × Int32 → Option (Mem × Int32)) : Option (Mem × Int32) :=
 ih23 (μ, x4, x5, x6, (x7 + (1 : Int32)))
set_option maxHeartbeats 4000000 in
theorem zj_X3_yearsGoneBy_103 {X : ZX} {G : GW} {μ' : Mem} {r : Int32} (μ : Mem) (x1 : Int32) (x3 : Int32) (x4 : Int32) (x5 : Int32) (x6 : Int32) (x7 : Int32) (C : CX X (YR G) cX3_yearsGoneBy 11 RX3 { frames := 3, cells := 0, slots := 0, locals := 75 }) (hR : ZR X (YR G) (some .int) μ' (some (.int r))) (ih23 : Mem × Int32 × Int32 × Int32 × Int32 → Option (Mem × Int32)) (hih23 : ∀ σ, ih23 σ = some (μ', r) → Z X (YR G) 11 σ.1 23 [(0, .ref (G.1 0)), (1, .int x1), (3, .int x3), (4, .int σ.2.1), (5, .int σ.2.2.1), (6, .int σ.2.2.2.1), (7, .int σ.2.2.2.2)] []) (hf : g_X3_yearsGoneBy_103 μ x1 x3 x4 x5 x6 x7 ih23 = some (μ', r)) : Z X (YR G) 11 μ 103 [(0, .ref (G.1 0)), (1, .int x1), (3, .int x3), (4, .int x4), (5, .int x5), (6, .int x6), (7, .int x7)] [] := by
  unfold g_X3_yearsGoneBy_103 at hf
  refine z_iinc C 6 dX3_yearsGoneBy_103 (v := (x7 + (1 : Int32))) (lv' := [(7, .int (x7 + (1 : Int32))), (0, .ref (G.1 0)), (1, .int x1), (3, .int x3), (4, .int x4), (5, .int x5), (6, .int x6)]) rfl rfl (by decide) rfl ?_
  refine z_goto C 23 dX3_yearsGoneBy_106 (by decide) ?_
  refine z_lv C [1, 2, 3, 4, 5, 6, 0] (lv' := [(0, .ref (G.1 0)), (1, .int x1), (3, .int x3), (4, .int x4), (5, .int x5), (6, .int x6), (7, .int (x7 + (1 : Int32)))]) rfl ?_
  exact hih23 (μ, x4, x5, x6, (x7 + (1 : Int32))) hf
noncomputable def b_X3_yearsGoneBy_23 (x1 : Int32) (x3 : Int32) (ih23 : Mem × Int32 × Int32 × Int32 × Int32 → Option (Mem × Int32)) (μ : Mem) (x4 : Int32) (x5 : Int32) (x6 : Int32) (x7 : Int32) : Option (Mem × Int32) :=
 (if x1 ≤ x7 then
 g_X3_yearsGoneBy_109 μ x3 x4 x5 x6
 else
 (nm (f_X3_seedAfter μ x4) fun v7 : Int32 =>
 (bd (f_X3_drawn μ v7 (μ 3 7)) fun v9 =>
 (nm (f_X3_seedAfter μ v7) fun v11 : Int32 =>
 (bd (f_X3_drawn μ v11 (8 : Int32)) fun v13 =>
 (bd (f_X0_outcome μ v9 v13) fun v15 =>
 (if v15 = v13 then
 (bd (f_X0_turnWind μ) fun μ18 =>
 g_X3_yearsGoneBy_103 μ18 x1 x3 v11 x5 x6 x7 ih23)
 else
 g_X3_yearsGoneBy_103 μ x1 x3 v11 ((x5 + (1 : Int32))) v15 x7 ih23)))))))
set_option maxHeartbeats 4000000 in
theorem zl_X3_yearsGoneBy_23 {X : ZX} {G : GW} {μ' : Mem} {r : Int32} (x1 : Int32) (x3 : Int32) (C : CX X (YR G) cX3_yearsGoneBy 11 RX3 { frames := 3, cells := 0, slots := 0, locals := 75 }) (hR : ZR X (YR G) (some .int) μ' (some (.int r))) : ∀ (n : Nat) (σ : Mem × Int32 × Int32 × Int32 × Int32), lp (fun ih σ => b_X3_yearsGoneBy_23 x1 x3 ih σ.1 σ.2.1 σ.2.2.1 σ.2.2.2.1 σ.2.2.2.2) n σ = some (μ', r) → Z X (YR G) 11 σ.1 23 [(0, .ref (G.1 0)), (1, .int x1), (3, .int x3), (4, .int σ.2.1), (5, .int σ.2.2.1), (6, .int σ.2.2.2.1), (7, .int σ.2.2.2.2)] [] := by
  refine lp_z (P := fun σ : Mem × Int32 × Int32 × Int32 × Int32 => Z X (YR G) 11 σ.1 23 [(0, .ref (G.1 0)), (1, .int x1), (3, .int x3), (4, .int σ.2.1), (5, .int σ.2.2.1), (6, .int σ.2.2.2.1), (7, .int σ.2.2.2.2)] []) (fun ih23 hih23 σ hf => ?_)
  obtain ⟨μ, x4, x5, x6, x7⟩ := σ
  have hf : b_X3_yearsGoneBy_23 x1 x3 ih23 μ x4 x5 x6 x7 = some (μ', r) := hf
  show Z X (YR G) 11 μ 23 [(0, .ref (G.1 0)), (1, .int x1), (3, .int x3), (4, .int x4), (5, .int x5), (6, .int x6), (7, .int x7)] []
  unfold b_X3_yearsGoneBy_23 at hf
  refine z_iload C 6 dX3_yearsGoneBy_23 rfl ?_
  refine z_iload_n C 1 dX3_yearsGoneBy_25 rfl ?_
  refine z_icmp_ge C 109 dX3_yearsGoneBy_26 (by decide) (fun c3 => ?_) (fun c3 => ?_)
  · replace hf := it_t hf c3
    refine z_lv C [2, 3, 4, 5] (lv' := [(3, .int x3), (4, .int x4), (5, .int x5), (6, .int x6)]) rfl ?_
    exact zj_X3_yearsGoneBy_109 μ x3 x4 x5 x6 C hR hf
  · replace hf := it_f hf c3
    refine z_iload C 3 dX3_yearsGoneBy_29 rfl ?_
    obtain ⟨v7, h6⟩ : ∃ z, z = f_X3_seedAfter μ x4 := ⟨_, rfl⟩
    replace hf := nm_e2 hf v7 h6
    refine z_callSi C (As := [.int x4]) (rest := []) (c_X3_seedAfter h6.symm) sw_X3_247 ⟨rfl, rfl, by decide, by decide⟩ rfl (Nat.le_of_ble_eq_true rfl) dX3_yearsGoneBy_31 ?_
    refine z_istore C dX3_yearsGoneBy_34 (i := 4) (lv' := [(4, .int v7), (0, .ref (G.1 0)), (1, .int x1), (3, .int x3), (5, .int x5), (6, .int x6), (7, .int x7)]) (by decide) rfl ?_
    refine z_iload C 0 dX3_yearsGoneBy_36 rfl ?_
    refine z_aload_n C 1 dX3_yearsGoneBy_38 rfl ?_
    refine zg_X3_19_0 C dX3_yearsGoneBy_39 ?_
    refine zg_X3_67_3 C dX3_yearsGoneBy_42 ?_
    obtain ⟨v9, h8, hf⟩ := bd_e hf
    refine z_callSi C (As := [.int v7, .int (μ 3 7)]) (rest := []) (c_X3_drawn h8) sw_X3_250 ⟨rfl, rfl, by decide, by decide⟩ rfl (Nat.le_of_ble_eq_true rfl) dX3_yearsGoneBy_45 ?_
    refine z_istore C dX3_yearsGoneBy_48 (i := 8) (lv' := [(8, .int v9), (4, .int v7), (0, .ref (G.1 0)), (1, .int x1), (3, .int x3), (5, .int x5), (6, .int x6), (7, .int x7)]) (by decide) rfl ?_
    refine z_iload C 1 dX3_yearsGoneBy_50 rfl ?_
    obtain ⟨v11, h10⟩ : ∃ z, z = f_X3_seedAfter μ v7 := ⟨_, rfl⟩
    replace hf := nm_e2 hf v11 h10
    refine z_callSi C (As := [.int v7]) (rest := []) (c_X3_seedAfter h10.symm) sw_X3_247 ⟨rfl, rfl, by decide, by decide⟩ rfl (Nat.le_of_ble_eq_true rfl) dX3_yearsGoneBy_52 ?_
    refine z_istore C dX3_yearsGoneBy_55 (i := 4) (lv' := [(4, .int v11), (8, .int v9), (0, .ref (G.1 0)), (1, .int x1), (3, .int x3), (5, .int x5), (6, .int x6), (7, .int x7)]) (by decide) rfl ?_
    refine z_iload C 0 dX3_yearsGoneBy_57 rfl ?_
    refine z_bipush C dX3_yearsGoneBy_59 (v := (8 : Int32)) (by decide) ?_
    obtain ⟨v13, h12, hf⟩ := bd_e hf
    refine z_callSi C (As := [.int v11, .int (8 : Int32)]) (rest := []) (c_X3_drawn h12) sw_X3_250 ⟨rfl, rfl, by decide, by decide⟩ rfl (Nat.le_of_ble_eq_true rfl) dX3_yearsGoneBy_61 ?_
    refine z_istore C dX3_yearsGoneBy_64 (i := 9) (lv' := [(9, .int v13), (4, .int v11), (8, .int v9), (0, .ref (G.1 0)), (1, .int x1), (3, .int x3), (5, .int x5), (6, .int x6), (7, .int x7)]) (by decide) rfl ?_
    refine z_aload_n C 3 dX3_yearsGoneBy_66 rfl ?_
    refine zg_X3_29_0 C dX3_yearsGoneBy_67 ?_
    refine z_iload C 2 dX3_yearsGoneBy_70 rfl ?_
    refine z_iload C 0 dX3_yearsGoneBy_72 rfl ?_
    obtain ⟨v15, h14, hf⟩ := bd_e hf
    refine z_callVi C (As := [.int v9, .int v13]) (rest := []) (c_X0_outcome h14) vw_X3_111 ⟨rfl, rfl, by decide, by decide⟩ (z_rv C (q0 := 19) (ci := 0) rfl rfl rfl) rfl (Nat.le_of_ble_eq_true rfl) dX3_yearsGoneBy_74 ?_
    refine z_istore C dX3_yearsGoneBy_77 (i := 10) (lv' := [(10, .int v15), (9, .int v13), (4, .int v11), (8, .int v9), (0, .ref (G.1 0)), (1, .int x1), (3, .int x3), (5, .int x5), (6, .int x6), (7, .int x7)]) (by decide) rfl ?_
    refine z_iload C 0 dX3_yearsGoneBy_79 rfl ?_
    refine z_iload C 1 dX3_yearsGoneBy_81 rfl ?_
    refine z_icmp_ne C 96 dX3_yearsGoneBy_83 (by decide) (fun c16 => ?_) (fun c16 => ?_)
    · replace hf := it_f hf c16
      refine z_iinc C 7 dX3_yearsGoneBy_96 (v := (x5 + (1 : Int32))) (lv' := [(5, .int (x5 + (1 : Int32))), (10, .int v15), (9, .int v13), (4, .int v11), (8, .int v9), (0, .ref (G.1 0)), (1, .int x1), (3, .int x3), (6, .int x6), (7, .int x7)]) rfl rfl (by decide) rfl ?_
      refine z_iload C 1 dX3_yearsGoneBy_99 rfl ?_
      refine z_istore C dX3_yearsGoneBy_101 (i := 6) (lv' := [(6, .int v15), (5, .int (x5 + (1 : Int32))), (10, .int v15), (9, .int v13), (4, .int v11), (8, .int v9), (0, .ref (G.1 0)), (1, .int x1), (3, .int x3), (7, .int x7)]) (by decide) rfl ?_
      refine z_lv C [6, 7, 8, 4, 1, 0, 9] (lv' := [(0, .ref (G.1 0)), (1, .int x1), (3, .int x3), (4, .int v11), (5, .int (x5 + (1 : Int32))), (6, .int v15), (7, .int x7)]) rfl ?_
      exact zj_X3_yearsGoneBy_103 μ x1 x3 v11 ((x5 + (1 : Int32))) v15 x7 C hR ih23 hih23 hf
    · replace hf := it_t hf c16
      refine z_aload_n C 4 dX3_yearsGoneBy_86 rfl ?_
      refine zg_X3_29_0 C dX3_yearsGoneBy_87 ?_
      obtain ⟨μ18, h17, hf⟩ := bd_e hf
      refine z_callVv C (As := []) (rest := []) (c_X0_turnWind h17) vw_X3_253 ⟨rfl, rfl, by decide, by decide⟩ (z_rv C (q0 := 19) (ci := 0) rfl rfl rfl) rfl (Nat.le_of_ble_eq_true rfl) dX3_yearsGoneBy_90 ?_
      refine z_goto C 103 dX3_yearsGoneBy_93 (by decide) ?_
      refine z_lv C [4, 5, 6, 2, 7, 8, 9] (lv' := [(0, .ref (G.1 0)), (1, .int x1), (3, .int x3), (4, .int v11), (5, .int x5), (6, .int x6), (7, .int x7)]) rfl ?_
      exact zj_X3_yearsGoneBy_103 μ18 x1 x3 v11 x5 x6 x7 C hR ih23 hih23 hf
noncomputable def f_X3_yearsGoneBy (μ : Mem) (x1 : Int32) (x2 : Int32) (x3 : Int32) : Option (Mem × Int32) :=
 (bd (f_X0_seatAll μ) fun μ2 =>
 lp (fun ih σ => b_X3_yearsGoneBy_23 x1 x3 ih σ.1 σ.2.1 σ.2.2.1 σ.2.2.2.1 σ.2.2.2.2) fu (μ2, x2, (0 : Int32), (-1 : Int32), (0 : Int32)))
set_option maxHeartbeats 4000000 in
theorem c_X3_yearsGoneBy {l : Launch} {G : GW} {μ : Mem} {x1 : Int32} {x2 : Int32} {x3 : Int32} {μ' : Mem} {r : Int32} (hf : f_X3_yearsGoneBy μ x1 x2 x3 = some (μ', r)) : MZ l (YR G) yX3_yearsGoneBy cX3_yearsGoneBy 11 (some .int) { frames := 3, cells := 0, slots := 0, locals := 75 } [.ref (G.1 0), .int x1, .int x2, .int x3] μ μ' (some (.int r)) := by
  refine z_met RX3 rfl (by decide) (Nat.le_of_ble_eq_true rfl) (fun X hX C hR => ?_)
  show Z X (YR G) 11 μ 0 [(0, .ref (G.1 0)), (1, .int x1), (2, .int x2), (3, .int x3)] []
  unfold f_X3_yearsGoneBy at hf
  refine z_aload_n C 0 dX3_yearsGoneBy_0 rfl ?_
  refine zg_X3_29_0 C dX3_yearsGoneBy_1 ?_
  refine z_aload_n C 0 dX3_yearsGoneBy_4 rfl ?_
  refine zg_X3_19_0 C dX3_yearsGoneBy_5 ?_
  obtain ⟨μ2, h1, hf⟩ := bd_e hf
  refine z_callVv C (As := [.ref (G.1 3)]) (rest := []) (c_X0_seatAll h1) vw_X3_107 ⟨rfl, rfl, by decide, by decide⟩ (z_rv C (q0 := 19) (ci := 0) rfl rfl rfl) rfl (Nat.le_of_ble_eq_true rfl) dX3_yearsGoneBy_8 ?_
  refine z_iload_n C 2 dX3_yearsGoneBy_11 rfl ?_
  refine z_istore C dX3_yearsGoneBy_12 (i := 4) (lv' := [(4, .int x2), (0, .ref (G.1 0)), (1, .int x1), (2, .int x2), (3, .int x3)]) (by decide) rfl ?_
  refine z_iconst C dX3_yearsGoneBy_14 (v := (0 : Int32)) (by decide) ?_
  refine z_istore C dX3_yearsGoneBy_15 (i := 5) (lv' := [(5, .int (0 : Int32)), (4, .int x2), (0, .ref (G.1 0)), (1, .int x1), (2, .int x2), (3, .int x3)]) (by decide) rfl ?_
  refine z_iconst C dX3_yearsGoneBy_17 (v := (-1 : Int32)) (by decide) ?_
  refine z_istore C dX3_yearsGoneBy_18 (i := 6) (lv' := [(6, .int (-1 : Int32)), (5, .int (0 : Int32)), (4, .int x2), (0, .ref (G.1 0)), (1, .int x1), (2, .int x2), (3, .int x3)]) (by decide) rfl ?_
  refine z_iconst C dX3_yearsGoneBy_20 (v := (0 : Int32)) (by decide) ?_
  refine z_istore C dX3_yearsGoneBy_21 (i := 7) (lv' := [(7, .int (0 : Int32)), (6, .int (-1 : Int32)), (5, .int (0 : Int32)), (4, .int x2), (0, .ref (G.1 0)), (1, .int x1), (2, .int x2), (3, .int x3)]) (by decide) rfl ?_
  refine z_lv C [4, 5, 7, 3, 2, 1, 0] (lv' := [(0, .ref (G.1 0)), (1, .int x1), (3, .int x3), (4, .int x2), (5, .int (0 : Int32)), (6, .int (-1 : Int32)), (7, .int (0 : Int32))]) rfl ?_
  exact zl_X3_yearsGoneBy_23 x1 x3 C hR fu (μ2, x2, (0 : Int32), (-1 : Int32), (0 : Int32)) hf
noncomputable def f_X3_years (μ : Mem) (x1 : Int32) (x2 : Int32) (x3 : Int32) : Option (Mem × Int32) :=
 (if x1 < (1 : Int32) then
 (some (μ, (-102 : Int32)))
 else
 (if (60 : Int32) < x1 then
 (some (μ, (-102 : Int32)))
 else
 (if x2 < 0 then
 (some (μ, (-102 : Int32)))
 else
 (if x3 < 0 then
 (some (μ, (-102 : Int32)))
 else
 (if x3 ≤ (2 : Int32) then
 (nm (f_X3_hasRing μ) fun v7 : Int32 =>
 (if v7 = 0 then
 (some (μ, (-103 : Int32)))
 else
 (bd2 (f_X3_yearsGoneBy μ x1 x2 x3) fun μ10 v11 =>
 (some (μ10, v11)))))
 else
 (some (μ, (-102 : Int32))))))))
set_option maxHeartbeats 4000000 in
theorem c_X3_years {l : Launch} {G : GW} {μ : Mem} {x1 : Int32} {x2 : Int32} {x3 : Int32} {μ' : Mem} {r : Int32} (hf : f_X3_years μ x1 x2 x3 = some (μ', r)) : MZ l (YR G) yX3_years cX3_years 4 (some .int) { frames := 4, cells := 0, slots := 0, locals := 105 } [.ref (G.1 0), .int x1, .int x2, .int x3] μ μ' (some (.int r)) := by
  refine z_met RX3 rfl (by decide) (Nat.le_of_ble_eq_true rfl) (fun X hX C hR => ?_)
  show Z X (YR G) 4 μ 0 [(0, .ref (G.1 0)), (1, .int x1), (2, .int x2), (3, .int x3)] []
  unfold f_X3_years at hf
  refine z_iload_n C 1 dX3_years_0 rfl ?_
  refine z_iconst C dX3_years_1 (v := (1 : Int32)) (by decide) ?_
  refine z_icmp_lt C 24 dX3_years_2 (by decide) (fun c1 => ?_) (fun c1 => ?_)
  · replace hf := it_t hf c1
    refine z_bipush C dX3_years_24 (v := (-102 : Int32)) (by decide) ?_
    exact z_iret C hR dX3_years_26 (rt2 hf).1 (rt2 hf).2
  · replace hf := it_f hf c1
    refine z_iload_n C 1 dX3_years_5 rfl ?_
    refine z_bipush C dX3_years_6 (v := (60 : Int32)) (by decide) ?_
    refine z_icmp_gt C 24 dX3_years_8 (by decide) (fun c2 => ?_) (fun c2 => ?_)
    · replace hf := it_t hf c2
      refine z_bipush C dX3_years_24 (v := (-102 : Int32)) (by decide) ?_
      exact z_iret C hR dX3_years_26 (rt2 hf).1 (rt2 hf).2
    · replace hf := it_f hf c2
      refine z_iload_n C 2 dX3_years_11 rfl ?_
      refine z_if_lt C 24 dX3_years_12 (by decide) (fun c3 => ?_) (fun c3 => ?_)
      · replace hf := it_t hf c3
        refine z_bipush C dX3_years_24 (v := (-102 : Int32)) (by decide) ?_
        exact z_iret C hR dX3_years_26 (rt2 hf).1 (rt2 hf).2
      · replace hf := it_f hf c3
        refine z_iload_n C 3 dX3_years_15 rfl ?_
        refine z_if_lt C 24 dX3_years_16 (by decide) (fun c4 => ?_) (fun c4 => ?_)
        · replace hf := it_t hf c4
          refine z_bipush C dX3_years_24 (v := (-102 : Int32)) (by decide) ?_
          exact z_iret C hR dX3_years_26 (rt2 hf).1 (rt2 hf).2
        · replace hf := it_f hf c4
          refine z_iload_n C 3 dX3_years_19 rfl ?_
          refine z_iconst C dX3_years_20 (v := (2 : Int32)) (by decide) ?_
          refine z_icmp_le C 27 dX3_years_21 (by decide) (fun c5 => ?_) (fun c5 => ?_)
          · replace hf := it_t hf c5
            refine z_aload_n C 0 dX3_years_27 rfl ?_
            obtain ⟨v7, h6⟩ : ∃ z, z = f_X3_hasRing μ := ⟨_, rfl⟩
            replace hf := nm_e2 hf v7 h6
            refine z_callVi C (As := []) (rest := []) (c_X3_hasRing h6.symm) vw_X3_101 ⟨rfl, rfl, by decide, by decide⟩ (z_rv C (q0 := 0) (ci := 3) rfl rfl rfl) rfl (Nat.le_of_ble_eq_true rfl) dX3_years_28 ?_
            refine z_if_eq C 44 dX3_years_31 (by decide) (fun c8 => ?_) (fun c8 => ?_)
            · replace hf := it_t hf c8
              refine z_bipush C dX3_years_44 (v := (-103 : Int32)) (by decide) ?_
              exact z_iret C hR dX3_years_46 (rt2 hf).1 (rt2 hf).2
            · replace hf := it_f hf c8
              refine z_aload_n C 0 dX3_years_34 rfl ?_
              refine z_iload_n C 1 dX3_years_35 rfl ?_
              refine z_iload_n C 2 dX3_years_36 rfl ?_
              refine z_iload_n C 3 dX3_years_37 rfl ?_
              obtain ⟨μ10, v11, h9, hf⟩ := bd2_e hf
              refine z_callVi C (As := [.int x1, .int x2, .int x3]) (rest := []) (c_X3_yearsGoneBy h9) vw_X3_164 ⟨rfl, rfl, by decide, by decide⟩ (z_rv C (q0 := 0) (ci := 3) rfl rfl rfl) rfl (Nat.le_of_ble_eq_true rfl) dX3_years_38 ?_
              refine z_goto C 46 dX3_years_41 (by decide) ?_
              exact z_iret C hR dX3_years_46 (rt2 hf).1 (rt2 hf).2
          · replace hf := it_f hf c5
            refine z_bipush C dX3_years_24 (v := (-102 : Int32)) (by decide) ?_
            exact z_iret C hR dX3_years_26 (rt2 hf).1 (rt2 hf).2
noncomputable def f_X3_image (μ : Mem) : Option (Mem × Int32) :=
 (nm (f_X3_hasRing μ) fun v2 : Int32 =>
 (if v2 = 0 then
 (some (μ, (-103 : Int32)))
 else
 (bd (f_X2_copyOf_11_3 μ) fun μ5 =>
 (nm (up μ5 0 3 (1 : Int32)) fun μ6 : Mem =>
 (some (μ6, (μ6 3 9)))))))
set_option maxHeartbeats 4000000 in
theorem c_X3_image {l : Launch} {G : GW} {μ : Mem} {μ' : Mem} {r : Int32} (hf : f_X3_image μ = some (μ', r)) : MZ l (YR G) yX3_image cX3_image 1 (some .int) { frames := 2, cells := 0, slots := 0, locals := 61 } [.ref (G.1 0)] μ μ' (some (.int r)) := by
  refine z_met RX3 rfl (by decide) (Nat.le_of_ble_eq_true rfl) (fun X hX C hR => ?_)
  show Z X (YR G) 1 μ 0 [(0, .ref (G.1 0))] []
  unfold f_X3_image at hf
  refine z_aload_n C 0 dX3_image_0 rfl ?_
  obtain ⟨v2, h1⟩ : ∃ z, z = f_X3_hasRing μ := ⟨_, rfl⟩
  replace hf := nm_e2 hf v2 h1
  refine z_callVi C (As := []) (rest := []) (c_X3_hasRing h1.symm) vw_X3_101 ⟨rfl, rfl, by decide, by decide⟩ (z_rv C (q0 := 0) (ci := 3) rfl rfl rfl) rfl (Nat.le_of_ble_eq_true rfl) dX3_image_1 ?_
  refine z_if_ne C 10 dX3_image_4 (by decide) (fun c3 => ?_) (fun c3 => ?_)
  · replace hf := it_f hf c3
    refine z_aload_n C 0 dX3_image_10 rfl ?_
    refine zg_X3_23_0 C dX3_image_11 ?_
    refine z_aload_n C 0 dX3_image_14 rfl ?_
    refine zg_X3_19_0 C dX3_image_15 ?_
    obtain ⟨μ5, h4, hf⟩ := bd_e hf
    refine z_callVv C (As := [.ref (G.1 3)]) (rest := []) (c_X2_copyOf_11_3 h4) vw_X3_167 ⟨rfl, rfl, by decide, by decide⟩ (z_rv C (q0 := 11) (ci := 2) rfl rfl rfl) rfl (Nat.le_of_ble_eq_true rfl) dX3_image_18 ?_
    refine z_aload_n C 0 dX3_image_21 rfl ?_
    refine z_iconst C dX3_image_22 (v := (1 : Int32)) (by decide) ?_
    refine zp_X3_59_0 C dX3_image_23 rfl rfl ?_
    refine z_mem (fun μ6 eμ6 => ?_)
    replace hf := nm_e2 hf μ6 eμ6
    refine z_aload_n C 0 dX3_image_26 rfl ?_
    refine zg_X3_19_0 C dX3_image_27 ?_
    refine zg_X3_117_3 C dX3_image_30 ?_
    exact z_iret C hR dX3_image_33 (rt2 hf).1 (rt2 hf).2
  · replace hf := it_t hf c3
    refine z_bipush C dX3_image_7 (v := (-103 : Int32)) (by decide) ?_
    exact z_iret C hR dX3_image_9 (rt2 hf).1 (rt2 hf).2
noncomputable def f_X3_restore (μ : Mem) : Option (Mem × Int32) :=
 (if (μ 0 3) = 0 then
 (some (μ, (-103 : Int32)))
 else
 (bd (f_X2_copyOf_3_11 μ) fun μ3 =>
 (some (μ3, (μ3 3 9)))))
set_option maxHeartbeats 4000000 in
theorem c_X3_restore {l : Launch} {G : GW} {μ : Mem} {μ' : Mem} {r : Int32} (hf : f_X3_restore μ = some (μ', r)) : MZ l (YR G) yX3_restore cX3_restore 1 (some .int) { frames := 2, cells := 0, slots := 0, locals := 61 } [.ref (G.1 0)] μ μ' (some (.int r)) := by
  refine z_met RX3 rfl (by decide) (Nat.le_of_ble_eq_true rfl) (fun X hX C hR => ?_)
  show Z X (YR G) 1 μ 0 [(0, .ref (G.1 0))] []
  unfold f_X3_restore at hf
  refine z_aload_n C 0 dX3_restore_0 rfl ?_
  refine zg_X3_59_0 C dX3_restore_1 ?_
  refine z_if_ne C 10 dX3_restore_4 (by decide) (fun c1 => ?_) (fun c1 => ?_)
  · replace hf := it_f hf c1
    refine z_aload_n C 0 dX3_restore_10 rfl ?_
    refine zg_X3_19_0 C dX3_restore_11 ?_
    refine z_aload_n C 0 dX3_restore_14 rfl ?_
    refine zg_X3_23_0 C dX3_restore_15 ?_
    obtain ⟨μ3, h2, hf⟩ := bd_e hf
    refine z_callVv C (As := [.ref (G.1 11)]) (rest := []) (c_X2_copyOf_3_11 h2) vw_X3_167 ⟨rfl, rfl, by decide, by decide⟩ (z_rv C (q0 := 3) (ci := 2) rfl rfl rfl) rfl (Nat.le_of_ble_eq_true rfl) dX3_restore_18 ?_
    refine z_aload_n C 0 dX3_restore_21 rfl ?_
    refine zg_X3_19_0 C dX3_restore_22 ?_
    refine zg_X3_117_3 C dX3_restore_25 ?_
    exact z_iret C hR dX3_restore_28 (rt2 hf).1 (rt2 hf).2
  · replace hf := it_t hf c1
    refine z_bipush C dX3_restore_7 (v := (-103 : Int32)) (by decide) ?_
    exact z_iret C hR dX3_restore_9 (rt2 hf).1 (rt2 hf).2
noncomputable def f_X3_count (μ : Mem) (x1 : Int32) : Option Int32 :=
 (if x1 = (0 : Int32) then
 (some (μ 3 7))
 else
 (if x1 = (1 : Int32) then
 (some (μ 3 8))
 else
 (if x1 = (2 : Int32) then
 (some (μ 3 9))
 else
 (if x1 = (3 : Int32) then
 (some (μ 3 10))
 else
 (if x1 = (4 : Int32) then
 (bd (f_X2_allPecks μ) fun v7 =>
 (some v7))
 else
 (if x1 = (5 : Int32) then
 (some (μ 3 11))
 else
 (if x1 = (6 : Int32) then
 (some (μ 1 1))
 else
 (if x1 = (7 : Int32) then
 (some (μ 0 4))
 else
 (if x1 = (8 : Int32) then
 (some (μ 0 5))
 else
 (some (-102 : Int32)))))))))))
set_option maxHeartbeats 4000000 in
theorem c_X3_count {l : Launch} {G : GW} {μ : Mem} {x1 : Int32} {r : Int32} (hf : f_X3_count μ x1 = some r) : MZ l (YR G) yX3_count cX3_count 2 (some .int) { frames := 1, cells := 0, slots := 0, locals := 22 } [.ref (G.1 0), .int x1] μ μ (some (.int r)) := by
  refine z_met RX3 rfl (by decide) (Nat.le_of_ble_eq_true rfl) (fun X hX C hR => ?_)
  show Z X (YR G) 2 μ 0 [(0, .ref (G.1 0)), (1, .int x1)] []
  unfold f_X3_count at hf
  refine z_iload_n C 1 dX3_count_0 rfl ?_
  rcases Decidable.em (x1 = (0 : Int32)) with c1 | c1
  · replace hf := it_t hf c1
    refine z_tabI C 52 dX3_count_1 (off := 51) (by rw [c1]; decide) (by rw [c1]; decide) (by rw [c1]; first | rfl | decide +kernel) (by decide) ?_
    refine z_aload_n C 0 dX3_count_52 rfl ?_
    refine zg_X3_19_0 C dX3_count_53 ?_
    refine zg_X3_67_3 C dX3_count_56 ?_
    exact z_iret C hR dX3_count_59 rfl (rt1 hf)
  · replace hf := it_f hf c1
    rcases Decidable.em (x1 = (1 : Int32)) with c2 | c2
    · replace hf := it_t hf c2
      refine z_tabI C 60 dX3_count_1 (off := 59) (by rw [c2]; decide) (by rw [c2]; decide) (by rw [c2]; first | rfl | decide +kernel) (by decide) ?_
      refine z_aload_n C 0 dX3_count_60 rfl ?_
      refine zg_X3_19_0 C dX3_count_61 ?_
      refine zg_X3_104_3 C dX3_count_64 ?_
      exact z_iret C hR dX3_count_67 rfl (rt1 hf)
    · replace hf := it_f hf c2
      rcases Decidable.em (x1 = (2 : Int32)) with c3 | c3
      · replace hf := it_t hf c3
        refine z_tabI C 68 dX3_count_1 (off := 67) (by rw [c3]; decide) (by rw [c3]; decide) (by rw [c3]; first | rfl | decide +kernel) (by decide) ?_
        refine z_aload_n C 0 dX3_count_68 rfl ?_
        refine zg_X3_19_0 C dX3_count_69 ?_
        refine zg_X3_117_3 C dX3_count_72 ?_
        exact z_iret C hR dX3_count_75 rfl (rt1 hf)
      · replace hf := it_f hf c3
        rcases Decidable.em (x1 = (3 : Int32)) with c4 | c4
        · replace hf := it_t hf c4
          refine z_tabI C 76 dX3_count_1 (off := 75) (by rw [c4]; decide) (by rw [c4]; decide) (by rw [c4]; first | rfl | decide +kernel) (by decide) ?_
          refine z_aload_n C 0 dX3_count_76 rfl ?_
          refine zg_X3_19_0 C dX3_count_77 ?_
          refine zg_X3_120_3 C dX3_count_80 ?_
          exact z_iret C hR dX3_count_83 rfl (rt1 hf)
        · replace hf := it_f hf c4
          rcases Decidable.em (x1 = (4 : Int32)) with c5 | c5
          · replace hf := it_t hf c5
            refine z_tabI C 84 dX3_count_1 (off := 83) (by rw [c5]; decide) (by rw [c5]; decide) (by rw [c5]; first | rfl | decide +kernel) (by decide) ?_
            refine z_aload_n C 0 dX3_count_84 rfl ?_
            refine zg_X3_19_0 C dX3_count_85 ?_
            obtain ⟨v7, h6, hf⟩ := bd_e hf
            refine z_callVi C (As := []) (rest := []) (c_X2_allPecks h6) vw_X3_170 ⟨rfl, rfl, by decide, by decide⟩ (z_rv C (q0 := 3) (ci := 2) rfl rfl rfl) rfl (Nat.le_of_ble_eq_true rfl) dX3_count_88 ?_
            exact z_iret C hR dX3_count_91 rfl (rt1 hf)
          · replace hf := it_f hf c5
            rcases Decidable.em (x1 = (5 : Int32)) with c8 | c8
            · replace hf := it_t hf c8
              refine z_tabI C 92 dX3_count_1 (off := 91) (by rw [c8]; decide) (by rw [c8]; decide) (by rw [c8]; first | rfl | decide +kernel) (by decide) ?_
              refine z_aload_n C 0 dX3_count_92 rfl ?_
              refine zg_X3_19_0 C dX3_count_93 ?_
              refine zg_X3_145_3 C dX3_count_96 ?_
              exact z_iret C hR dX3_count_99 rfl (rt1 hf)
            · replace hf := it_f hf c8
              rcases Decidable.em (x1 = (6 : Int32)) with c9 | c9
              · replace hf := it_t hf c9
                refine z_tabI C 100 dX3_count_1 (off := 99) (by rw [c9]; decide) (by rw [c9]; decide) (by rw [c9]; first | rfl | decide +kernel) (by decide) ?_
                refine z_aload_n C 0 dX3_count_100 rfl ?_
                refine zg_X3_10_0 C dX3_count_101 ?_
                refine zg_X3_173_1 C dX3_count_104 ?_
                exact z_iret C hR dX3_count_107 rfl (rt1 hf)
              · replace hf := it_f hf c9
                rcases Decidable.em (x1 = (7 : Int32)) with c10 | c10
                · replace hf := it_t hf c10
                  refine z_tabI C 108 dX3_count_1 (off := 107) (by rw [c10]; decide) (by rw [c10]; decide) (by rw [c10]; first | rfl | decide +kernel) (by decide) ?_
                  refine z_aload_n C 0 dX3_count_108 rfl ?_
                  refine zg_X3_63_0 C dX3_count_109 ?_
                  exact z_iret C hR dX3_count_112 rfl (rt1 hf)
                · replace hf := it_f hf c10
                  rcases Decidable.em (x1 = (8 : Int32)) with c11 | c11
                  · replace hf := it_t hf c11
                    refine z_tabI C 113 dX3_count_1 (off := 112) (by rw [c11]; decide) (by rw [c11]; decide) (by rw [c11]; first | rfl | decide +kernel) (by decide) ?_
                    refine z_aload_n C 0 dX3_count_113 rfl ?_
                    refine zg_X3_127_0 C dX3_count_114 ?_
                    exact z_iret C hR dX3_count_117 rfl (rt1 hf)
                  · replace hf := it_f hf c11
                    refine z_tabO C 118 dX3_count_1 (by have hc1 := lv_neT c1 (a := 0) (by decide); have hc2 := lv_neT c2 (a := 1) (by decide); have hc3 := lv_neT c3 (a := 2) (by decide); have hc4 := lv_neT c4 (a := 3) (by decide); have hc5 := lv_neT c5 (a := 4) (by decide); have hc8 := lv_neT c8 (a := 5) (by decide); have hc9 := lv_neT c9 (a := 6) (by decide); have hc10 := lv_neT c10 (a := 7) (by decide); have hc11 := lv_neT c11 (a := 8) (by decide); omega) (by decide) ?_
                    refine z_bipush C dX3_count_118 (v := (-102 : Int32)) (by decide) ?_
                    exact z_iret C hR dX3_count_120 rfl (rt1 hf)
noncomputable def f_X3_mix (μ : Mem) (x0 : Int64) (x2 : Int64) : Int64 :=
 (((31 : Int64) * x0) + x2)
set_option maxHeartbeats 4000000 in
theorem c_X3_mix {l : Launch} {G : GW} {μ : Mem} {x0 : Int64} {x2 : Int64} {r : Int64} (hf : f_X3_mix μ x0 x2 = r) : MZ l (YR G) yX3_mix cX3_mix 4 (some .long) { frames := 0, cells := 0, slots := 0, locals := 0 } [.long x0, .long x2] μ μ (some (.long r)) := by
  refine z_met RX3 rfl (by decide) (Nat.le_of_ble_eq_true rfl) (fun X hX C hR => ?_)
  show Z X (YR G) 4 μ 0 [(0, .long x0), (2, .long x2)] []
  unfold f_X3_mix at hf
  refine z_ldc2 C dX3_mix_0 (v := (31 : Int64)) (ww_in 578 (by decide +kernel) (by decide +kernel)) ?_
  refine z_lload_n C 0 dX3_mix_3 rfl ?_
  refine z_lmul C dX3_mix_4 ?_
  refine z_lload_n C 1 dX3_mix_5 rfl ?_
  refine z_ladd C dX3_mix_6 ?_
  exact z_lret C hR dX3_mix_7 rfl hf
noncomputable def b_X3_withRook_37 (μ : Mem) (x3 : Int32) (ih37 : Int64 × Int32 → Option Int64) (x4 : Int64) (x6 : Int32) : Option Int64 :=
 (if (18 : Int32) ≤ x6 then
 (some x4)
 else
 (bd (f_X3_about μ x3 x6) fun v4 =>
 (nm (f_X3_mix μ x4 (v4).toInt64) fun v6 : Int64 =>
 ih37 (v6, (x6 + (1 : Int32))))))
set_option maxHeartbeats 4000000 in
theorem zl_X3_withRook_37 {X : ZX} {G : GW} {r : Int64} (μ : Mem) (x3 : Int32) (C : CX X (YR G) cX3_withRook 7 RX3 { frames := 3, cells := 0, slots := 0, locals := 68 }) (hR : ZR X (YR G) (some .long) μ (some (.long r))) : ∀ (n : Nat) (σ : Int64 × Int32), lp (fun ih σ => b_X3_withRook_37 μ x3 ih σ.1 σ.2) n σ = some r → Z X (YR G) 7 μ 37 [(0, .ref (G.1 0)), (3, .int x3), (4, .long σ.1), (6, .int σ.2)] [] := by
  refine lp_z (P := fun σ : Int64 × Int32 => Z X (YR G) 7 μ 37 [(0, .ref (G.1 0)), (3, .int x3), (4, .long σ.1), (6, .int σ.2)] []) (fun ih37 hih37 σ hf => ?_)
  obtain ⟨x4, x6⟩ := σ
  have hf : b_X3_withRook_37 μ x3 ih37 x4 x6 = some r := hf
  show Z X (YR G) 7 μ 37 [(0, .ref (G.1 0)), (3, .int x3), (4, .long x4), (6, .int x6)] []
  unfold b_X3_withRook_37 at hf
  refine z_iload C 3 dX3_withRook_37 rfl ?_
  refine z_bipush C dX3_withRook_39 (v := (18 : Int32)) (by decide) ?_
  refine z_icmp_ge C 65 dX3_withRook_41 (by decide) (fun c2 => ?_) (fun c2 => ?_)
  · replace hf := it_t hf c2
    refine z_lload C 2 dX3_withRook_65 rfl ?_
    exact z_lret C hR dX3_withRook_67 rfl (rt1 hf)
  · replace hf := it_f hf c2
    refine z_lload C 2 dX3_withRook_44 rfl ?_
    refine z_aload_n C 0 dX3_withRook_46 rfl ?_
    refine z_iload_n C 1 dX3_withRook_47 rfl ?_
    refine z_iload C 3 dX3_withRook_48 rfl ?_
    obtain ⟨v4, h3, hf⟩ := bd_e hf
    refine z_callVi C (As := [.int x3, .int x6]) (rest := [.long x4]) (c_X3_about h3) vw_X3_265 ⟨rfl, rfl, by decide, by decide⟩ (z_rv C (q0 := 0) (ci := 3) rfl rfl rfl) rfl (Nat.le_of_ble_eq_true rfl) dX3_withRook_50 ?_
    refine z_i2l C dX3_withRook_53 ?_
    obtain ⟨v6, h5⟩ : ∃ z, z = f_X3_mix μ x4 (v4).toInt64 := ⟨_, rfl⟩
    replace hf := nm_e2 hf v6 h5
    refine z_callSl C (As := [.long x4, .long (v4).toInt64]) (rest := []) (c_X3_mix h5.symm) sw_X3_188 ⟨rfl, rfl, by decide, by decide⟩ rfl (Nat.le_of_ble_eq_true rfl) dX3_withRook_54 ?_
    refine z_lstore C dX3_withRook_57 (i := 4) (lv' := [(4, .long v6), (0, .ref (G.1 0)), (3, .int x3), (6, .int x6)]) (by decide) rfl ?_
    refine z_iinc C 3 dX3_withRook_59 (v := (x6 + (1 : Int32))) (lv' := [(6, .int (x6 + (1 : Int32))), (4, .long v6), (0, .ref (G.1 0)), (3, .int x3)]) rfl rfl (by decide) rfl ?_
    refine z_goto C 37 dX3_withRook_62 (by decide) ?_
    refine z_lv C [2, 3, 1, 0] (lv' := [(0, .ref (G.1 0)), (3, .int x3), (4, .long v6), (6, .int (x6 + (1 : Int32)))]) rfl ?_
    exact hih37 (v6, (x6 + (1 : Int32))) hf
noncomputable def g_X3_withRook_33 (μ : Mem) (x3 : Int32) (x4 : Int64) : Option Int64 :=
 lp (fun ih σ => b_X3_withRook_37 μ x3 ih σ.1 σ.2) fu (x4, (10 : Int32))
set_option maxHeartbeats 4000000 in
theorem zj_X3_withRook_33 {X : ZX} {G : GW} {r : Int64} (μ : Mem) (x3 : Int32) (x4 : Int64) (C : CX X (YR G) cX3_withRook 7 RX3 { frames := 3, cells := 0, slots := 0, locals := 68 }) (hR : ZR X (YR G) (some .long) μ (some (.long r))) (hf : g_X3_withRook_33 μ x3 x4 = some r) : Z X (YR G) 7 μ 33 [(0, .ref (G.1 0)), (3, .int x3), (4, .long x4)] [] := by
  unfold g_X3_withRook_33 at hf
  refine z_bipush C dX3_withRook_33 (v := (10 : Int32)) (by decide) ?_
  refine z_istore C dX3_withRook_35 (i := 6) (lv' := [(6, .int (10 : Int32)), (0, .ref (G.1 0)), (3, .int x3), (4, .long x4)]) (by decide) rfl ?_
  refine z_lv C [1, 2, 3, 0] (lv' := [(0, .ref (G.1 0)), (3, .int x3), (4, .long x4), (6, .int (10 : Int32))]) rfl ?_
  exact zl_X3_withRook_37 μ x3 C hR fu (x4, (10 : Int32)) hf
noncomputable def b_X3_withRook_6 (μ : Mem) (x3 : Int32) (ih6 : Int64 × Int32 → Option Int64) (x4 : Int64) (x6 : Int32) : Option Int64 :=
 (if (3 : Int32) < x6 then
 g_X3_withRook_33 μ x3 x4
 else
 (bd (f_X3_about μ x3 x6) fun v8 =>
 (nm (f_X3_mix μ x4 (v8).toInt64) fun v10 : Int64 =>
 ih6 (v10, (x6 + (1 : Int32))))))
set_option maxHeartbeats 4000000 in
theorem zl_X3_withRook_6 {X : ZX} {G : GW} {r : Int64} (μ : Mem) (x3 : Int32) (C : CX X (YR G) cX3_withRook 7 RX3 { frames := 3, cells := 0, slots := 0, locals := 68 }) (hR : ZR X (YR G) (some .long) μ (some (.long r))) : ∀ (n : Nat) (σ : Int64 × Int32), lp (fun ih σ => b_X3_withRook_6 μ x3 ih σ.1 σ.2) n σ = some r → Z X (YR G) 7 μ 6 [(0, .ref (G.1 0)), (3, .int x3), (4, .long σ.1), (6, .int σ.2)] [] := by
  refine lp_z (P := fun σ : Int64 × Int32 => Z X (YR G) 7 μ 6 [(0, .ref (G.1 0)), (3, .int x3), (4, .long σ.1), (6, .int σ.2)] []) (fun ih6 hih6 σ hf => ?_)
  obtain ⟨x4, x6⟩ := σ
  have hf : b_X3_withRook_6 μ x3 ih6 x4 x6 = some r := hf
  show Z X (YR G) 7 μ 6 [(0, .ref (G.1 0)), (3, .int x3), (4, .long x4), (6, .int x6)] []
  unfold b_X3_withRook_6 at hf
  refine z_iload C 3 dX3_withRook_6 rfl ?_
  refine z_iconst C dX3_withRook_8 (v := (3 : Int32)) (by decide) ?_
  refine z_icmp_gt C 33 dX3_withRook_9 (by decide) (fun c1 => ?_) (fun c1 => ?_)
  · replace hf := it_t hf c1
    refine z_lv C [0, 1, 2] (lv' := [(0, .ref (G.1 0)), (3, .int x3), (4, .long x4)]) rfl ?_
    exact zj_X3_withRook_33 μ x3 x4 C hR hf
  · replace hf := it_f hf c1
    refine z_lload C 2 dX3_withRook_12 rfl ?_
    refine z_aload_n C 0 dX3_withRook_14 rfl ?_
    refine z_iload_n C 1 dX3_withRook_15 rfl ?_
    refine z_iload C 3 dX3_withRook_16 rfl ?_
    obtain ⟨v8, h7, hf⟩ := bd_e hf
    refine z_callVi C (As := [.int x3, .int x6]) (rest := [.long x4]) (c_X3_about h7) vw_X3_265 ⟨rfl, rfl, by decide, by decide⟩ (z_rv C (q0 := 0) (ci := 3) rfl rfl rfl) rfl (Nat.le_of_ble_eq_true rfl) dX3_withRook_18 ?_
    refine z_i2l C dX3_withRook_21 ?_
    obtain ⟨v10, h9⟩ : ∃ z, z = f_X3_mix μ x4 (v8).toInt64 := ⟨_, rfl⟩
    replace hf := nm_e2 hf v10 h9
    refine z_callSl C (As := [.long x4, .long (v8).toInt64]) (rest := []) (c_X3_mix h9.symm) sw_X3_188 ⟨rfl, rfl, by decide, by decide⟩ rfl (Nat.le_of_ble_eq_true rfl) dX3_withRook_22 ?_
    refine z_lstore C dX3_withRook_25 (i := 4) (lv' := [(4, .long v10), (0, .ref (G.1 0)), (3, .int x3), (6, .int x6)]) (by decide) rfl ?_
    refine z_iinc C 3 dX3_withRook_27 (v := (x6 + (1 : Int32))) (lv' := [(6, .int (x6 + (1 : Int32))), (4, .long v10), (0, .ref (G.1 0)), (3, .int x3)]) rfl rfl (by decide) rfl ?_
    refine z_goto C 6 dX3_withRook_30 (by decide) ?_
    refine z_lv C [2, 3, 1, 0] (lv' := [(0, .ref (G.1 0)), (3, .int x3), (4, .long v10), (6, .int (x6 + (1 : Int32)))]) rfl ?_
    exact hih6 (v10, (x6 + (1 : Int32))) hf
noncomputable def f_X3_withRook (μ : Mem) (x1 : Int64) (x3 : Int32) : Option Int64 :=
 lp (fun ih σ => b_X3_withRook_6 μ x3 ih σ.1 σ.2) fu (x1, (0 : Int32))
set_option maxHeartbeats 4000000 in
theorem c_X3_withRook {l : Launch} {G : GW} {μ : Mem} {x1 : Int64} {x3 : Int32} {r : Int64} (hf : f_X3_withRook μ x1 x3 = some r) : MZ l (YR G) yX3_withRook cX3_withRook 7 (some .long) { frames := 3, cells := 0, slots := 0, locals := 68 } [.ref (G.1 0), .long x1, .int x3] μ μ (some (.long r)) := by
  refine z_met RX3 rfl (by decide) (Nat.le_of_ble_eq_true rfl) (fun X hX C hR => ?_)
  show Z X (YR G) 7 μ 0 [(0, .ref (G.1 0)), (1, .long x1), (3, .int x3)] []
  unfold f_X3_withRook at hf
  refine z_lload_n C 1 dX3_withRook_0 rfl ?_
  refine z_lstore C dX3_withRook_1 (i := 4) (lv' := [(4, .long x1), (0, .ref (G.1 0)), (1, .long x1), (3, .int x3)]) (by decide) rfl ?_
  refine z_iconst C dX3_withRook_3 (v := (0 : Int32)) (by decide) ?_
  refine z_istore C dX3_withRook_4 (i := 6) (lv' := [(6, .int (0 : Int32)), (4, .long x1), (0, .ref (G.1 0)), (1, .long x1), (3, .int x3)]) (by decide) rfl ?_
  refine z_lv C [2, 4, 1, 0] (lv' := [(0, .ref (G.1 0)), (3, .int x3), (4, .long x1), (6, .int (0 : Int32))]) rfl ?_
  exact zl_X3_withRook_6 μ x3 C hR fu (x1, (0 : Int32)) hf
noncomputable def f_X3_withPlace (μ : Mem) (x1 : Int64) (x3 : Int32) : Option (Mem × Int64) :=
 (bd (f_X3_seat μ x3) fun v2 =>
 (nm (f_X3_mix μ x1 (v2).toInt64) fun v4 : Int64 =>
 (bd2 (f_X3_comes μ x3 (0 : Int32)) fun μ6 v7 =>
 (nm (f_X3_mix μ6 v4 (v7).toInt64) fun v9 : Int64 =>
 (bd2 (f_X3_comes μ6 x3 (5 : Int32)) fun μ11 v12 =>
 (nm (f_X3_mix μ11 v9 (v12).toInt64) fun v14 : Int64 =>
 (bd2 (f_X3_guessesFor μ11 x3) fun μ16 v17 =>
 (nm (f_J13_bitCount_95d88 μ16 v17) fun v19 : Int32 =>
 (nm (f_X3_mix μ16 v14 (v19).toInt64) fun v21 : Int64 =>
 (nm (f_X3_leastOf μ16 v17) fun v23 : Int32 =>
 (nm (f_X3_mix μ16 v21 (v23).toInt64) fun v25 : Int64 =>
 (bd2 (f_X3_bestMotion μ16 x3 v17) fun μ27 v28 =>
 (nm (f_X3_mix μ27 v25 (v28).toInt64) fun v30 : Int64 =>
 (some (μ27, v30)))))))))))))))
set_option maxHeartbeats 4000000 in
theorem c_X3_withPlace {l : Launch} {G : GW} {μ : Mem} {x1 : Int64} {x3 : Int32} {μ' : Mem} {r : Int64} (hf : f_X3_withPlace μ x1 x3 = some (μ', r)) : MZ l (YR G) yX3_withPlace cX3_withPlace 8 (some .long) { frames := 5, cells := 0, slots := 0, locals := 129 } [.ref (G.1 0), .long x1, .int x3] μ μ' (some (.long r)) := by
  refine z_met RX3 rfl (by decide) (Nat.le_of_ble_eq_true rfl) (fun X hX C hR => ?_)
  show Z X (YR G) 8 μ 0 [(0, .ref (G.1 0)), (1, .long x1), (3, .int x3)] []
  unfold f_X3_withPlace at hf
  refine z_lload_n C 1 dX3_withPlace_0 rfl ?_
  refine z_aload_n C 0 dX3_withPlace_1 rfl ?_
  refine z_iload_n C 2 dX3_withPlace_2 rfl ?_
  obtain ⟨v2, h1, hf⟩ := bd_e hf
  refine z_callVi C (As := [.int x3]) (rest := [.long x1]) (c_X3_seat h1) vw_X3_268 ⟨rfl, rfl, by decide, by decide⟩ (z_rv C (q0 := 0) (ci := 3) rfl rfl rfl) rfl (Nat.le_of_ble_eq_true rfl) dX3_withPlace_3 ?_
  refine z_i2l C dX3_withPlace_6 ?_
  obtain ⟨v4, h3⟩ : ∃ z, z = f_X3_mix μ x1 (v2).toInt64 := ⟨_, rfl⟩
  replace hf := nm_e2 hf v4 h3
  refine z_callSl C (As := [.long x1, .long (v2).toInt64]) (rest := []) (c_X3_mix h3.symm) sw_X3_188 ⟨rfl, rfl, by decide, by decide⟩ rfl (Nat.le_of_ble_eq_true rfl) dX3_withPlace_7 ?_
  refine z_lstore C dX3_withPlace_10 (i := 4) (lv' := [(4, .long v4), (0, .ref (G.1 0)), (1, .long x1), (3, .int x3)]) (by decide) rfl ?_
  refine z_lload C 0 dX3_withPlace_12 rfl ?_
  refine z_aload_n C 1 dX3_withPlace_14 rfl ?_
  refine z_iload_n C 3 dX3_withPlace_15 rfl ?_
  refine z_iconst C dX3_withPlace_16 (v := (0 : Int32)) (by decide) ?_
  obtain ⟨μ6, v7, h5, hf⟩ := bd2_e hf
  refine z_callVi C (As := [.int x3, .int (0 : Int32)]) (rest := [.long v4]) (c_X3_comes h5) vw_X3_114 ⟨rfl, rfl, by decide, by decide⟩ (z_rv C (q0 := 0) (ci := 3) rfl rfl rfl) rfl (Nat.le_of_ble_eq_true rfl) dX3_withPlace_17 ?_
  refine z_i2l C dX3_withPlace_20 ?_
  obtain ⟨v9, h8⟩ : ∃ z, z = f_X3_mix μ6 v4 (v7).toInt64 := ⟨_, rfl⟩
  replace hf := nm_e2 hf v9 h8
  refine z_callSl C (As := [.long v4, .long (v7).toInt64]) (rest := []) (c_X3_mix h8.symm) sw_X3_188 ⟨rfl, rfl, by decide, by decide⟩ rfl (Nat.le_of_ble_eq_true rfl) dX3_withPlace_21 ?_
  refine z_lstore C dX3_withPlace_24 (i := 4) (lv' := [(4, .long v9), (0, .ref (G.1 0)), (1, .long x1), (3, .int x3)]) (by decide) rfl ?_
  refine z_lload C 0 dX3_withPlace_26 rfl ?_
  refine z_aload_n C 1 dX3_withPlace_28 rfl ?_
  refine z_iload_n C 3 dX3_withPlace_29 rfl ?_
  refine z_iconst C dX3_withPlace_30 (v := (5 : Int32)) (by decide) ?_
  obtain ⟨μ11, v12, h10, hf⟩ := bd2_e hf
  refine z_callVi C (As := [.int x3, .int (5 : Int32)]) (rest := [.long v9]) (c_X3_comes h10) vw_X3_114 ⟨rfl, rfl, by decide, by decide⟩ (z_rv C (q0 := 0) (ci := 3) rfl rfl rfl) rfl (Nat.le_of_ble_eq_true rfl) dX3_withPlace_31 ?_
  refine z_i2l C dX3_withPlace_34 ?_
  obtain ⟨v14, h13⟩ : ∃ z, z = f_X3_mix μ11 v9 (v12).toInt64 := ⟨_, rfl⟩
  replace hf := nm_e2 hf v14 h13
  refine z_callSl C (As := [.long v9, .long (v12).toInt64]) (rest := []) (c_X3_mix h13.symm) sw_X3_188 ⟨rfl, rfl, by decide, by decide⟩ rfl (Nat.le_of_ble_eq_true rfl) dX3_withPlace_35 ?_
  refine z_lstore C dX3_withPlace_38 (i := 4) (lv' := [(4, .long v14), (0, .ref (G.1 0)), (1, .long x1), (3, .int x3)]) (by decide) rfl ?_
  refine z_aload_n C 1 dX3_withPlace_40 rfl ?_
  refine z_iload_n C 3 dX3_withPlace_41 rfl ?_
  obtain ⟨μ16, v17, h15, hf⟩ := bd2_e hf
  refine z_callVl C (As := [.int x3]) (rest := []) (c_X3_guessesFor h15) vw_X3_148 ⟨rfl, rfl, by decide, by decide⟩ (z_rv C (q0 := 0) (ci := 3) rfl rfl rfl) rfl (Nat.le_of_ble_eq_true rfl) dX3_withPlace_42 ?_
  refine z_lstore C dX3_withPlace_45 (i := 6) (lv' := [(6, .long v17), (4, .long v14), (0, .ref (G.1 0)), (1, .long x1), (3, .int x3)]) (by decide) rfl ?_
  refine z_lload C 1 dX3_withPlace_47 rfl ?_
  refine z_lload C 0 dX3_withPlace_49 rfl ?_
  obtain ⟨v19, h18⟩ : ∃ z, z = f_J13_bitCount_95d88 μ16 v17 := ⟨_, rfl⟩
  replace hf := nm_e2 hf v19 h18
  refine z_callSi C (As := [.long v17]) (rest := [.long v14]) (c_J13_bitCount_95d88 h18.symm) sw_X3_152 ⟨rfl, rfl, by decide, by decide⟩ rfl (Nat.le_of_ble_eq_true rfl) dX3_withPlace_51 ?_
  refine z_i2l C dX3_withPlace_54 ?_
  obtain ⟨v21, h20⟩ : ∃ z, z = f_X3_mix μ16 v14 (v19).toInt64 := ⟨_, rfl⟩
  replace hf := nm_e2 hf v21 h20
  refine z_callSl C (As := [.long v14, .long (v19).toInt64]) (rest := []) (c_X3_mix h20.symm) sw_X3_188 ⟨rfl, rfl, by decide, by decide⟩ rfl (Nat.le_of_ble_eq_true rfl) dX3_withPlace_55 ?_
  refine z_lstore C dX3_withPlace_58 (i := 4) (lv' := [(4, .long v21), (6, .long v17), (0, .ref (G.1 0)), (1, .long x1), (3, .int x3)]) (by decide) rfl ?_
  refine z_lload C 0 dX3_withPlace_60 rfl ?_
  refine z_lload C 1 dX3_withPlace_62 rfl ?_
  obtain ⟨v23, h22⟩ : ∃ z, z = f_X3_leastOf μ16 v17 := ⟨_, rfl⟩
  replace hf := nm_e2 hf v23 h22
  refine z_callSi C (As := [.long v17]) (rest := [.long v21]) (c_X3_leastOf h22.symm) sw_X3_157 ⟨rfl, rfl, by decide, by decide⟩ rfl (Nat.le_of_ble_eq_true rfl) dX3_withPlace_64 ?_
  refine z_i2l C dX3_withPlace_67 ?_
  obtain ⟨v25, h24⟩ : ∃ z, z = f_X3_mix μ16 v21 (v23).toInt64 := ⟨_, rfl⟩
  replace hf := nm_e2 hf v25 h24
  refine z_callSl C (As := [.long v21, .long (v23).toInt64]) (rest := []) (c_X3_mix h24.symm) sw_X3_188 ⟨rfl, rfl, by decide, by decide⟩ rfl (Nat.le_of_ble_eq_true rfl) dX3_withPlace_68 ?_
  refine z_lstore C dX3_withPlace_71 (i := 4) (lv' := [(4, .long v25), (6, .long v17), (0, .ref (G.1 0)), (1, .long x1), (3, .int x3)]) (by decide) rfl ?_
  refine z_lload C 0 dX3_withPlace_73 rfl ?_
  refine z_aload_n C 2 dX3_withPlace_75 rfl ?_
  refine z_iload_n C 4 dX3_withPlace_76 rfl ?_
  refine z_lload C 1 dX3_withPlace_77 rfl ?_
  obtain ⟨μ27, v28, h26, hf⟩ := bd2_e hf
  refine z_callVi C (As := [.int x3, .long v17]) (rest := [.long v25]) (c_X3_bestMotion h26) vw_X3_160 ⟨rfl, rfl, by decide, by decide⟩ (z_rv C (q0 := 0) (ci := 3) rfl rfl rfl) rfl (Nat.le_of_ble_eq_true rfl) dX3_withPlace_79 ?_
  refine z_i2l C dX3_withPlace_82 ?_
  obtain ⟨v30, h29⟩ : ∃ z, z = f_X3_mix μ27 v25 (v28).toInt64 := ⟨_, rfl⟩
  replace hf := nm_e2 hf v30 h29
  refine z_callSl C (As := [.long v25, .long (v28).toInt64]) (rest := []) (c_X3_mix h29.symm) sw_X3_188 ⟨rfl, rfl, by decide, by decide⟩ rfl (Nat.le_of_ble_eq_true rfl) dX3_withPlace_83 ?_
  exact z_lret C hR dX3_withPlace_86 (rt2 hf).1 (rt2 hf).2
noncomputable def b_X3_digest_109 (μ : Mem) (ih109 : Int64 × Int32 → Option (Mem × Int64)) (x1 : Int64) (x3 : Int32) : Option (Mem × Int64) :=
 (if (8 : Int32) < x3 then
 (some (μ, x1))
 else
 (bd (f_X3_count μ x3) fun v9 =>
 (nm (f_X3_mix μ x1 (v9).toInt64) fun v11 : Int64 =>
 ih109 (v11, (x3 + (1 : Int32))))))
set_option maxHeartbeats 4000000 in
theorem zl_X3_digest_109 {X : ZX} {G : GW} {μ' : Mem} {r : Int64} (μ : Mem) (C : CX X (YR G) cX3_digest 4 RX3 { frames := 6, cells := 0, slots := 0, locals := 156 }) (hR : ZR X (YR G) (some .long) μ' (some (.long r))) : ∀ (n : Nat) (σ : Int64 × Int32), lp (fun ih σ => b_X3_digest_109 μ ih σ.1 σ.2) n σ = some (μ', r) → Z X (YR G) 4 μ 109 [(0, .ref (G.1 0)), (1, .long σ.1), (3, .int σ.2)] [] := by
  refine lp_z (P := fun σ : Int64 × Int32 => Z X (YR G) 4 μ 109 [(0, .ref (G.1 0)), (1, .long σ.1), (3, .int σ.2)] []) (fun ih109 hih109 σ hf => ?_)
  obtain ⟨x1, x3⟩ := σ
  have hf : b_X3_digest_109 μ ih109 x1 x3 = some (μ', r) := hf
  show Z X (YR G) 4 μ 109 [(0, .ref (G.1 0)), (1, .long x1), (3, .int x3)] []
  unfold b_X3_digest_109 at hf
  refine z_iload_n C 2 dX3_digest_109 rfl ?_
  refine z_bipush C dX3_digest_110 (v := (8 : Int32)) (by decide) ?_
  refine z_icmp_gt C 132 dX3_digest_112 (by decide) (fun c7 => ?_) (fun c7 => ?_)
  · replace hf := it_t hf c7
    refine z_lload_n C 1 dX3_digest_132 rfl ?_
    exact z_lret C hR dX3_digest_133 (rt2 hf).1 (rt2 hf).2
  · replace hf := it_f hf c7
    refine z_lload_n C 1 dX3_digest_115 rfl ?_
    refine z_aload_n C 0 dX3_digest_116 rfl ?_
    refine z_iload_n C 2 dX3_digest_117 rfl ?_
    obtain ⟨v9, h8, hf⟩ := bd_e hf
    refine z_callVi C (As := [.int x3]) (rest := [.long x1]) (c_X3_count h8) vw_X3_196 ⟨rfl, rfl, by decide, by decide⟩ (z_rv C (q0 := 0) (ci := 3) rfl rfl rfl) rfl (Nat.le_of_ble_eq_true rfl) dX3_digest_118 ?_
    refine z_i2l C dX3_digest_121 ?_
    obtain ⟨v11, h10⟩ : ∃ z, z = f_X3_mix μ x1 (v9).toInt64 := ⟨_, rfl⟩
    replace hf := nm_e2 hf v11 h10
    refine z_callSl C (As := [.long x1, .long (v9).toInt64]) (rest := []) (c_X3_mix h10.symm) sw_X3_188 ⟨rfl, rfl, by decide, by decide⟩ rfl (Nat.le_of_ble_eq_true rfl) dX3_digest_122 ?_
    refine z_lstore_n C dX3_digest_125 (i := 1) (lv' := [(1, .long v11), (0, .ref (G.1 0)), (3, .int x3)]) rfl (by decide) rfl ?_
    refine z_iinc C 2 dX3_digest_126 (v := (x3 + (1 : Int32))) (lv' := [(3, .int (x3 + (1 : Int32))), (1, .long v11), (0, .ref (G.1 0))]) rfl rfl (by decide) rfl ?_
    refine z_goto C 109 dX3_digest_129 (by decide) ?_
    refine z_lv C [2, 1, 0] (lv' := [(0, .ref (G.1 0)), (1, .long v11), (3, .int (x3 + (1 : Int32)))]) rfl ?_
    exact hih109 (v11, (x3 + (1 : Int32))) hf
noncomputable def g_X3_digest_107 (μ : Mem) (x1 : Int64) : Option (Mem × Int64) :=
 lp (fun ih σ => b_X3_digest_109 μ ih σ.1 σ.2) fu (x1, (0 : Int32))
set_option maxHeartbeats 4000000 in
theorem zj_X3_digest_107 {X : ZX} {G : GW} {μ' : Mem} {r : Int64} (μ : Mem) (x1 : Int64) (C : CX X (YR G) cX3_digest 4 RX3 { frames := 6, cells := 0, slots := 0, locals := 156 }) (hR : ZR X (YR G) (some .long) μ' (some (.long r))) (hf : g_X3_digest_107 μ x1 = some (μ', r)) : Z X (YR G) 4 μ 107 [(0, .ref (G.1 0)), (1, .long x1)] [] := by
  unfold g_X3_digest_107 at hf
  refine z_iconst C dX3_digest_107 (v := (0 : Int32)) (by decide) ?_
  refine z_istore_n C dX3_digest_108 (i := 3) (lv' := [(3, .int (0 : Int32)), (0, .ref (G.1 0)), (1, .long x1)]) rfl (by decide) rfl ?_
  refine z_lv C [1, 2, 0] (lv' := [(0, .ref (G.1 0)), (1, .long x1), (3, .int (0 : Int32))]) rfl ?_
  exact zl_X3_digest_109 μ C hR fu (x1, (0 : Int32)) hf
noncomputable def b_X3_digest_75 (μ : Mem) (ih75 : Int64 × Int32 → Option (Mem × Int64)) (x1 : Int64) (x3 : Int32) : Option (Mem × Int64) :=
 (if (μ 1 1) ≤ x3 then
 g_X3_digest_107 μ x1
 else
 (ck (vp_in x3 22) <|
 (nm (f_X3_mix μ x1 ((μ 2 (x3).toNatClampNeg)).toInt64) fun v14 : Int64 =>
 ih75 (v14, (x3 + (1 : Int32))))))
set_option maxHeartbeats 4000000 in
theorem zl_X3_digest_75 {X : ZX} {G : GW} {μ' : Mem} {r : Int64} (μ : Mem) (C : CX X (YR G) cX3_digest 4 RX3 { frames := 6, cells := 0, slots := 0, locals := 156 }) (hR : ZR X (YR G) (some .long) μ' (some (.long r))) : ∀ (n : Nat) (σ : Int64 × Int32), lp (fun ih σ => b_X3_digest_75 μ ih σ.1 σ.2) n σ = some (μ', r) → Z X (YR G) 4 μ 75 [(0, .ref (G.1 0)), (1, .long σ.1), (3, .int σ.2)] [] := by
  refine lp_z (P := fun σ : Int64 × Int32 => Z X (YR G) 4 μ 75 [(0, .ref (G.1 0)), (1, .long σ.1), (3, .int σ.2)] []) (fun ih75 hih75 σ hf => ?_)
  obtain ⟨x1, x3⟩ := σ
  have hf : b_X3_digest_75 μ ih75 x1 x3 = some (μ', r) := hf
  show Z X (YR G) 4 μ 75 [(0, .ref (G.1 0)), (1, .long x1), (3, .int x3)] []
  unfold b_X3_digest_75 at hf
  refine z_iload_n C 2 dX3_digest_75 rfl ?_
  refine z_aload_n C 0 dX3_digest_76 rfl ?_
  refine zg_X3_10_0 C dX3_digest_77 ?_
  refine zg_X3_173_1 C dX3_digest_80 ?_
  refine z_icmp_ge C 107 dX3_digest_83 (by decide) (fun c6 => ?_) (fun c6 => ?_)
  · replace hf := it_t hf c6
    refine z_lv C [0, 1] (lv' := [(0, .ref (G.1 0)), (1, .long x1)]) rfl ?_
    exact zj_X3_digest_107 μ x1 C hR hf
  · replace hf := it_f hf c6
    refine z_lload_n C 1 dX3_digest_86 rfl ?_
    refine z_aload_n C 0 dX3_digest_87 rfl ?_
    refine zg_X3_10_0 C dX3_digest_88 ?_
    refine zg_X3_192_1 C dX3_digest_91 ?_
    refine z_iload_n C 2 dX3_digest_94 rfl ?_
    obtain ⟨h12, hf⟩ := ck_e hf
    refine zRl_2 C dX3_digest_95 h12 ?_
    refine z_i2l C dX3_digest_96 ?_
    obtain ⟨v14, h13⟩ : ∃ z, z = f_X3_mix μ x1 ((μ 2 (x3).toNatClampNeg)).toInt64 := ⟨_, rfl⟩
    replace hf := nm_e2 hf v14 h13
    refine z_callSl C (As := [.long x1, .long ((μ 2 (x3).toNatClampNeg)).toInt64]) (rest := []) (c_X3_mix h13.symm) sw_X3_188 ⟨rfl, rfl, by decide, by decide⟩ rfl (Nat.le_of_ble_eq_true rfl) dX3_digest_97 ?_
    refine z_lstore_n C dX3_digest_100 (i := 1) (lv' := [(1, .long v14), (0, .ref (G.1 0)), (3, .int x3)]) rfl (by decide) rfl ?_
    refine z_iinc C 2 dX3_digest_101 (v := (x3 + (1 : Int32))) (lv' := [(3, .int (x3 + (1 : Int32))), (1, .long v14), (0, .ref (G.1 0))]) rfl rfl (by decide) rfl ?_
    refine z_goto C 75 dX3_digest_104 (by decide) ?_
    refine z_lv C [2, 1, 0] (lv' := [(0, .ref (G.1 0)), (1, .long v14), (3, .int (x3 + (1 : Int32)))]) rfl ?_
    exact hih75 (v14, (x3 + (1 : Int32))) hf
noncomputable def g_X3_digest_73 (μ : Mem) (x1 : Int64) : Option (Mem × Int64) :=
 lp (fun ih σ => b_X3_digest_75 μ ih σ.1 σ.2) fu (x1, (0 : Int32))
set_option maxHeartbeats 4000000 in
theorem zj_X3_digest_73 {X : ZX} {G : GW} {μ' : Mem} {r : Int64} (μ : Mem) (x1 : Int64) (C : CX X (YR G) cX3_digest 4 RX3 { frames := 6, cells := 0, slots := 0, locals := 156 }) (hR : ZR X (YR G) (some .long) μ' (some (.long r))) (hf : g_X3_digest_73 μ x1 = some (μ', r)) : Z X (YR G) 4 μ 73 [(0, .ref (G.1 0)), (1, .long x1)] [] := by
  unfold g_X3_digest_73 at hf
  refine z_iconst C dX3_digest_73 (v := (0 : Int32)) (by decide) ?_
  refine z_istore_n C dX3_digest_74 (i := 3) (lv' := [(3, .int (0 : Int32)), (0, .ref (G.1 0)), (1, .long x1)]) rfl (by decide) rfl ?_
  refine z_lv C [1, 2, 0] (lv' := [(0, .ref (G.1 0)), (1, .long x1), (3, .int (0 : Int32))]) rfl ?_
  exact zl_X3_digest_75 μ C hR fu (x1, (0 : Int32)) hf
noncomputable def g_X3_digest_56 (μ : Mem) (x1 : Int64) : Option (Mem × Int64) :=
 (nm (f_X3_hasRing μ) fun v4 : Int32 =>
 (if v4 = 0 then
 g_X3_digest_73 μ x1
 else
 (bd2 (f_X3_can μ) fun μ16 v17 =>
 (nm (f_X3_mix μ16 x1 (v17).toInt64) fun v19 : Int64 =>
 g_X3_digest_73 μ16 v19))))
set_option maxHeartbeats 4000000 in
theorem zj_X3_digest_56 {X : ZX} {G : GW} {μ' : Mem} {r : Int64} (μ : Mem) (x1 : Int64) (C : CX X (YR G) cX3_digest 4 RX3 { frames := 6, cells := 0, slots := 0, locals := 156 }) (hR : ZR X (YR G) (some .long) μ' (some (.long r))) (hf : g_X3_digest_56 μ x1 = some (μ', r)) : Z X (YR G) 4 μ 56 [(0, .ref (G.1 0)), (1, .long x1)] [] := by
  unfold g_X3_digest_56 at hf
  refine z_aload_n C 0 dX3_digest_56 rfl ?_
  obtain ⟨v4, h3⟩ : ∃ z, z = f_X3_hasRing μ := ⟨_, rfl⟩
  replace hf := nm_e2 hf v4 h3
  refine z_callVi C (As := []) (rest := []) (c_X3_hasRing h3.symm) vw_X3_101 ⟨rfl, rfl, by decide, by decide⟩ (z_rv C (q0 := 0) (ci := 3) rfl rfl rfl) rfl (Nat.le_of_ble_eq_true rfl) dX3_digest_57 ?_
  refine z_if_eq C 73 dX3_digest_60 (by decide) (fun c5 => ?_) (fun c5 => ?_)
  · replace hf := it_t hf c5
    exact zj_X3_digest_73 μ x1 C hR hf
  · replace hf := it_f hf c5
    refine z_lload_n C 1 dX3_digest_63 rfl ?_
    refine z_aload_n C 0 dX3_digest_64 rfl ?_
    obtain ⟨μ16, v17, h15, hf⟩ := bd2_e hf
    refine z_callVi C (As := []) (rest := [.long x1]) (c_X3_can h15) vw_X3_185 ⟨rfl, rfl, by decide, by decide⟩ (z_rv C (q0 := 0) (ci := 3) rfl rfl rfl) rfl (Nat.le_of_ble_eq_true rfl) dX3_digest_65 ?_
    refine z_i2l C dX3_digest_68 ?_
    obtain ⟨v19, h18⟩ : ∃ z, z = f_X3_mix μ16 x1 (v17).toInt64 := ⟨_, rfl⟩
    replace hf := nm_e2 hf v19 h18
    refine z_callSl C (As := [.long x1, .long (v17).toInt64]) (rest := []) (c_X3_mix h18.symm) sw_X3_188 ⟨rfl, rfl, by decide, by decide⟩ rfl (Nat.le_of_ble_eq_true rfl) dX3_digest_69 ?_
    refine z_lstore_n C dX3_digest_72 (i := 1) (lv' := [(1, .long v19), (0, .ref (G.1 0))]) rfl (by decide) rfl ?_
    refine z_lv C [1, 0] (lv' := [(0, .ref (G.1 0)), (1, .long v19)]) rfl ?_
    exact zj_X3_digest_73 μ16 v19 C hR hf
noncomputable def b_X3_digest_32 (ih32 : Mem × Int64 × Int32 → Option (Mem × Int64)) (μ : Mem) (x1 : Int64) (x3 : Int32) : Option (Mem × Int64) :=
 (if (μ 3 7) ≤ x3 then
 g_X3_digest_56 μ x1
 else
 (bd2 (f_X3_withPlace μ x1 x3) fun μ21 v22 =>
 ih32 (μ21, v22, (x3 + (1 : Int32)))))
set_option maxHeartbeats 4000000 in
theorem zl_X3_digest_32 {X : ZX} {G : GW} {μ' : Mem} {r : Int64} (C : CX X (YR G) cX3_digest 4 RX3 { frames := 6, cells := 0, slots := 0, locals := 156 }) (hR : ZR X (YR G) (some .long) μ' (some (.long r))) : ∀ (n : Nat) (σ : Mem × Int64 × Int32), lp (fun ih σ => b_X3_digest_32 ih σ.1 σ.2.1 σ.2.2) n σ = some (μ', r) → Z X (YR G) 4 σ.1 32 [(0, .ref (G.1 0)), (1, .long σ.2.1), (3, .int σ.2.2)] [] := by
  refine lp_z (P := fun σ : Mem × Int64 × Int32 => Z X (YR G) 4 σ.1 32 [(0, .ref (G.1 0)), (1, .long σ.2.1), (3, .int σ.2.2)] []) (fun ih32 hih32 σ hf => ?_)
  obtain ⟨μ, x1, x3⟩ := σ
  have hf : b_X3_digest_32 ih32 μ x1 x3 = some (μ', r) := hf
  show Z X (YR G) 4 μ 32 [(0, .ref (G.1 0)), (1, .long x1), (3, .int x3)] []
  unfold b_X3_digest_32 at hf
  refine z_iload_n C 2 dX3_digest_32 rfl ?_
  refine z_aload_n C 0 dX3_digest_33 rfl ?_
  refine zg_X3_19_0 C dX3_digest_34 ?_
  refine zg_X3_67_3 C dX3_digest_37 ?_
  refine z_icmp_ge C 56 dX3_digest_40 (by decide) (fun c2 => ?_) (fun c2 => ?_)
  · replace hf := it_t hf c2
    refine z_lv C [0, 1] (lv' := [(0, .ref (G.1 0)), (1, .long x1)]) rfl ?_
    exact zj_X3_digest_56 μ x1 C hR hf
  · replace hf := it_f hf c2
    refine z_aload_n C 0 dX3_digest_43 rfl ?_
    refine z_lload_n C 1 dX3_digest_44 rfl ?_
    refine z_iload_n C 2 dX3_digest_45 rfl ?_
    obtain ⟨μ21, v22, h20, hf⟩ := bd2_e hf
    refine z_callVl C (As := [.long x1, .int x3]) (rest := []) (c_X3_withPlace h20) vw_X3_182 ⟨rfl, rfl, by decide, by decide⟩ (z_rv C (q0 := 0) (ci := 3) rfl rfl rfl) rfl (Nat.le_of_ble_eq_true rfl) dX3_digest_46 ?_
    refine z_lstore_n C dX3_digest_49 (i := 1) (lv' := [(1, .long v22), (0, .ref (G.1 0)), (3, .int x3)]) rfl (by decide) rfl ?_
    refine z_iinc C 2 dX3_digest_50 (v := (x3 + (1 : Int32))) (lv' := [(3, .int (x3 + (1 : Int32))), (1, .long v22), (0, .ref (G.1 0))]) rfl rfl (by decide) rfl ?_
    refine z_goto C 32 dX3_digest_53 (by decide) ?_
    refine z_lv C [2, 1, 0] (lv' := [(0, .ref (G.1 0)), (1, .long v22), (3, .int (x3 + (1 : Int32)))]) rfl ?_
    exact hih32 (μ21, v22, (x3 + (1 : Int32))) hf
noncomputable def g_X3_digest_30 (μ : Mem) (x1 : Int64) : Option (Mem × Int64) :=
 lp (fun ih σ => b_X3_digest_32 ih σ.1 σ.2.1 σ.2.2) fu (μ, x1, (0 : Int32))
set_option maxHeartbeats 4000000 in
theorem zj_X3_digest_30 {X : ZX} {G : GW} {μ' : Mem} {r : Int64} (μ : Mem) (x1 : Int64) (C : CX X (YR G) cX3_digest 4 RX3 { frames := 6, cells := 0, slots := 0, locals := 156 }) (hR : ZR X (YR G) (some .long) μ' (some (.long r))) (hf : g_X3_digest_30 μ x1 = some (μ', r)) : Z X (YR G) 4 μ 30 [(0, .ref (G.1 0)), (1, .long x1)] [] := by
  unfold g_X3_digest_30 at hf
  refine z_iconst C dX3_digest_30 (v := (0 : Int32)) (by decide) ?_
  refine z_istore_n C dX3_digest_31 (i := 3) (lv' := [(3, .int (0 : Int32)), (0, .ref (G.1 0)), (1, .long x1)]) rfl (by decide) rfl ?_
  refine z_lv C [1, 2, 0] (lv' := [(0, .ref (G.1 0)), (1, .long x1), (3, .int (0 : Int32))]) rfl ?_
  exact zl_X3_digest_32 C hR fu (μ, x1, (0 : Int32)) hf
noncomputable def b_X3_digest_6 (μ : Mem) (ih6 : Int64 × Int32 → Option (Mem × Int64)) (x1 : Int64) (x3 : Int32) : Option (Mem × Int64) :=
 (if (μ 3 7) ≤ x3 then
 g_X3_digest_30 μ x1
 else
 (bd (f_X3_withRook μ x1 x3) fun v24 =>
 ih6 (v24, (x3 + (1 : Int32)))))
set_option maxHeartbeats 4000000 in
theorem zl_X3_digest_6 {X : ZX} {G : GW} {μ' : Mem} {r : Int64} (μ : Mem) (C : CX X (YR G) cX3_digest 4 RX3 { frames := 6, cells := 0, slots := 0, locals := 156 }) (hR : ZR X (YR G) (some .long) μ' (some (.long r))) : ∀ (n : Nat) (σ : Int64 × Int32), lp (fun ih σ => b_X3_digest_6 μ ih σ.1 σ.2) n σ = some (μ', r) → Z X (YR G) 4 μ 6 [(0, .ref (G.1 0)), (1, .long σ.1), (3, .int σ.2)] [] := by
  refine lp_z (P := fun σ : Int64 × Int32 => Z X (YR G) 4 μ 6 [(0, .ref (G.1 0)), (1, .long σ.1), (3, .int σ.2)] []) (fun ih6 hih6 σ hf => ?_)
  obtain ⟨x1, x3⟩ := σ
  have hf : b_X3_digest_6 μ ih6 x1 x3 = some (μ', r) := hf
  show Z X (YR G) 4 μ 6 [(0, .ref (G.1 0)), (1, .long x1), (3, .int x3)] []
  unfold b_X3_digest_6 at hf
  refine z_iload_n C 2 dX3_digest_6 rfl ?_
  refine z_aload_n C 0 dX3_digest_7 rfl ?_
  refine zg_X3_19_0 C dX3_digest_8 ?_
  refine zg_X3_67_3 C dX3_digest_11 ?_
  refine z_icmp_ge C 30 dX3_digest_14 (by decide) (fun c1 => ?_) (fun c1 => ?_)
  · replace hf := it_t hf c1
    refine z_lv C [0, 1] (lv' := [(0, .ref (G.1 0)), (1, .long x1)]) rfl ?_
    exact zj_X3_digest_30 μ x1 C hR hf
  · replace hf := it_f hf c1
    refine z_aload_n C 0 dX3_digest_17 rfl ?_
    refine z_lload_n C 1 dX3_digest_18 rfl ?_
    refine z_iload_n C 2 dX3_digest_19 rfl ?_
    obtain ⟨v24, h23, hf⟩ := bd_e hf
    refine z_callVl C (As := [.long x1, .int x3]) (rest := []) (c_X3_withRook h23) vw_X3_178 ⟨rfl, rfl, by decide, by decide⟩ (z_rv C (q0 := 0) (ci := 3) rfl rfl rfl) rfl (Nat.le_of_ble_eq_true rfl) dX3_digest_20 ?_
    refine z_lstore_n C dX3_digest_23 (i := 1) (lv' := [(1, .long v24), (0, .ref (G.1 0)), (3, .int x3)]) rfl (by decide) rfl ?_
    refine z_iinc C 2 dX3_digest_24 (v := (x3 + (1 : Int32))) (lv' := [(3, .int (x3 + (1 : Int32))), (1, .long v24), (0, .ref (G.1 0))]) rfl rfl (by decide) rfl ?_
    refine z_goto C 6 dX3_digest_27 (by decide) ?_
    refine z_lv C [2, 1, 0] (lv' := [(0, .ref (G.1 0)), (1, .long v24), (3, .int (x3 + (1 : Int32)))]) rfl ?_
    exact hih6 (v24, (x3 + (1 : Int32))) hf
noncomputable def f_X3_digest (μ : Mem) : Option (Mem × Int64) :=
 lp (fun ih σ => b_X3_digest_6 μ ih σ.1 σ.2) fu ((797 : Int64), (0 : Int32))
set_option maxHeartbeats 4000000 in
theorem c_X3_digest {l : Launch} {G : GW} {μ : Mem} {μ' : Mem} {r : Int64} (hf : f_X3_digest μ = some (μ', r)) : MZ l (YR G) yX3_digest cX3_digest 4 (some .long) { frames := 6, cells := 0, slots := 0, locals := 156 } [.ref (G.1 0)] μ μ' (some (.long r)) := by
  refine z_met RX3 rfl (by decide) (Nat.le_of_ble_eq_true rfl) (fun X hX C hR => ?_)
  show Z X (YR G) 4 μ 0 [(0, .ref (G.1 0))] []
  unfold f_X3_digest at hf
  refine z_ldc2 C dX3_digest_0 (v := (797 : Int64)) (ww_in 569 (by decide +kernel) (by decide +kernel)) ?_
  refine z_lstore_n C dX3_digest_3 (i := 1) (lv' := [(1, .long (797 : Int64)), (0, .ref (G.1 0))]) rfl (by decide) rfl ?_
  refine z_iconst C dX3_digest_4 (v := (0 : Int32)) (by decide) ?_
  refine z_istore_n C dX3_digest_5 (i := 3) (lv' := [(3, .int (0 : Int32)), (1, .long (797 : Int64)), (0, .ref (G.1 0))]) rfl (by decide) rfl ?_
  refine z_lv C [2, 1, 0] (lv' := [(0, .ref (G.1 0)), (1, .long (797 : Int64)), (3, .int (0 : Int32))]) rfl ?_
  exact zl_X3_digest_6 μ C hR fu ((797 : Int64), (0 : Int32)) hf
