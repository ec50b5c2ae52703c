noncomputable def f_J0_isLatin1_aae02 (μ : Mem) : Int32 :=
 (1 : Int32)
set_option maxHeartbeats 4000000 in
theorem c_J0_isLatin1_aae02 {l : Launch} {G : GW} {μ : Mem} {r : Int32} (hf : f_J0_isLatin1_aae02 μ = r) : MZ l (YR G) yJ0_isLatin1_aae02 cJ0_isLatin1_aae02 1 (some .boolean) { frames := 0, cells := 0, slots := 0, locals := 0 } [.ref G.2.2.2.1] μ μ (some (.int r)) := by
  refine z_met RJ0 rfl (by decide) (Nat.le_of_ble_eq_true rfl) (fun X hX C hR => ?_)
  show Z X (YR G) 1 μ 0 [(0, .ref G.2.2.2.1)] []
  unfold f_J0_isLatin1_aae02 at hf
  refine z_gets C (ww_in 219 (by decide +kernel) (by decide +kernel)) dJ0_isLatin1_aae02_0 ?_
  refine z_if_eq C 17 dJ0_isLatin1_aae02_3 (by decide) (fun c1 => absurd c1 (by decide)) (fun _ => ?_)
  refine z_aload_n C 0 dJ0_isLatin1_aae02_6 rfl ?_
  refine z_coder C (ww_in 890 (by decide +kernel) (by decide +kernel)) dJ0_isLatin1_aae02_7 ?_
  refine z_if_ne C 17 dJ0_isLatin1_aae02_10 (by decide) (fun c2 => absurd c2 (by decide)) (fun _ => ?_)
  refine z_iconst C dJ0_isLatin1_aae02_13 (v := (1 : Int32)) (by decide) ?_
  refine z_goto C 18 dJ0_isLatin1_aae02_14 (by decide) ?_
  exact z_zret C hR dJ0_isLatin1_aae02_18 rfl rfl hf
theorem bz_J0_isLatin1_aae02 {μ : Mem} : narrow .boolean (.int (f_J0_isLatin1_aae02 μ)) = .int (f_J0_isLatin1_aae02 μ) := by
  simp only [f_J0_isLatin1_aae02, nm]
  (repeat' split)
  all_goals first | rfl | exact bz_X4_in
noncomputable def f_J0_coder_7d493 (μ : Mem) : Int32 :=
 (0 : Int32)
set_option maxHeartbeats 4000000 in
theorem c_J0_coder_7d493 {l : Launch} {G : GW} {μ : Mem} {r : Int32} (hf : f_J0_coder_7d493 μ = r) : MZ l (YR G) yJ0_coder_7d493 cJ0_coder_7d493 1 (some .byte) { frames := 0, cells := 0, slots := 0, locals := 0 } [.ref G.2.2.2.1] μ μ (some (.int r)) := by
  refine z_met RJ0 rfl (by decide) (Nat.le_of_ble_eq_true rfl) (fun X hX C hR => ?_)
  show Z X (YR G) 1 μ 0 [(0, .ref G.2.2.2.1)] []
  unfold f_J0_coder_7d493 at hf
  refine z_gets C (ww_in 219 (by decide +kernel) (by decide +kernel)) dJ0_coder_7d493_0 ?_
  refine z_if_eq C 13 dJ0_coder_7d493_3 (by decide) (fun c1 => absurd c1 (by decide)) (fun _ => ?_)
  refine z_aload_n C 0 dJ0_coder_7d493_6 rfl ?_
  refine z_coder C (ww_in 890 (by decide +kernel) (by decide +kernel)) dJ0_coder_7d493_7 ?_
  refine z_goto C 14 dJ0_coder_7d493_10 (by decide) ?_
  exact z_zret C hR dJ0_coder_7d493_14 rfl rfl hf
noncomputable def f_J0_length_8abf5 (μ : Mem) : Int32 :=
 ((5 : Int32) >>> ((0 : Int32) &&& 31))
set_option maxHeartbeats 4000000 in
theorem c_J0_length_8abf5 {l : Launch} {G : GW} {μ : Mem} {r : Int32} (hf : f_J0_length_8abf5 μ = r) : MZ l (YR G) yJ0_length_8abf5 cJ0_length_8abf5 1 (some .int) { frames := 1, cells := 0, slots := 0, locals := 20 } [.ref G.2.2.2.1] μ μ (some (.int r)) := by
  refine z_met RJ0 rfl (by decide) (Nat.le_of_ble_eq_true rfl) (fun X hX C hR => ?_)
  show Z X (YR G) 1 μ 0 [(0, .ref G.2.2.2.1)] []
  unfold f_J0_length_8abf5 at hf
  refine z_aload_n C 0 dJ0_length_8abf5_0 rfl ?_
  refine z_value C (ww_in 891 (by decide +kernel) (by decide +kernel)) dJ0_length_8abf5_1 ?_
  refine z_tlen C dJ0_length_8abf5_4 ?_
  refine z_aload_n C 0 dJ0_length_8abf5_5 rfl ?_
  refine z_callVi C (As := []) (rest := [.int (5 : Int32)]) (c_J0_coder_7d493 (r := (0 : Int32)) rfl) vw_J0_335 ⟨rfl, rfl, by decide, by decide⟩ (z_rs C rfl) rfl (Nat.le_of_ble_eq_true rfl) dJ0_length_8abf5_6 ?_
  refine z_ishr C dJ0_length_8abf5_9 ?_
  exact z_iret C hR dJ0_length_8abf5_10 rfl hf
noncomputable def f_J1_canEncode_9a6ad (μ : Mem) (x0 : Int32) : Int32 :=
 (if x0 < 0 then
 (0 : Int32)
 else
 (if (255 : Int32) < x0 then
 (0 : Int32)
 else
 (1 : Int32)))
set_option maxHeartbeats 4000000 in
theorem c_J1_canEncode_9a6ad {l : Launch} {G : GW} {μ : Mem} {x0 : Int32} {r : Int32} (hf : f_J1_canEncode_9a6ad μ x0 = r) : MZ l (YR G) yJ1_canEncode_9a6ad cJ1_canEncode_9a6ad 1 (some .boolean) { frames := 0, cells := 0, slots := 0, locals := 0 } [.int x0] μ μ (some (.int r)) := by
  refine z_met RJ1 rfl (by decide) (Nat.le_of_ble_eq_true rfl) (fun X hX C hR => ?_)
  show Z X (YR G) 1 μ 0 [(0, .int x0)] []
  unfold f_J1_canEncode_9a6ad at hf
  refine z_iload_n C 0 dJ1_canEncode_9a6ad_0 rfl ?_
  refine z_if_lt C 15 dJ1_canEncode_9a6ad_1 (by decide) (fun c1 => ?_) (fun c1 => ?_)
  · replace hf := it_t hf c1
    refine z_iconst C dJ1_canEncode_9a6ad_15 (v := (0 : Int32)) (by decide) ?_
    exact z_zret C hR dJ1_canEncode_9a6ad_16 rfl rfl hf
  · replace hf := it_f hf c1
    refine z_iload_n C 0 dJ1_canEncode_9a6ad_4 rfl ?_
    refine z_sipush C dJ1_canEncode_9a6ad_5 (v := (255 : Int32)) (by decide) ?_
    refine z_icmp_gt C 15 dJ1_canEncode_9a6ad_8 (by decide) (fun c2 => ?_) (fun c2 => ?_)
    · replace hf := it_t hf c2
      refine z_iconst C dJ1_canEncode_9a6ad_15 (v := (0 : Int32)) (by decide) ?_
      exact z_zret C hR dJ1_canEncode_9a6ad_16 rfl rfl hf
    · replace hf := it_f hf c2
      refine z_iconst C dJ1_canEncode_9a6ad_11 (v := (1 : Int32)) (by decide) ?_
      refine z_goto C 16 dJ1_canEncode_9a6ad_12 (by decide) ?_
      exact z_zret C hR dJ1_canEncode_9a6ad_16 rfl rfl hf
theorem bz_J1_canEncode_9a6ad {μ : Mem} {x0 : Int32} : narrow .boolean (.int (f_J1_canEncode_9a6ad μ x0)) = .int (f_J1_canEncode_9a6ad μ x0) := by
  simp only [f_J1_canEncode_9a6ad, nm]
  (repeat' split)
  all_goals first | rfl | exact bz_X4_in
noncomputable def b_J1_indexOfChar_4cfef_7 (μ : Mem) (x3 : Int32) (x4 : Int32) (ih7 : Int32 → Option Int32) (x5 : Int32) : Option Int32 :=
 (if x3 ≤ x5 then
 (some (-1 : Int32))
 else
 (ck (vp_in x5 5) <|
 (if ((([114, 116, 111, 109, 101] : List Int32)).getD (x5).toNatClampNeg 0) = x4 then
 (some x5)
 else
 ih7 ((x5 + (1 : Int32))))))
set_option maxHeartbeats 4000000 in
theorem zl_J1_indexOfChar_4cfef_7 {X : ZX} {G : GW} {r : Int32} (μ : Mem) (x3 : Int32) (x4 : Int32) (C : CX X (YR G) cJ1_indexOfChar_4cfef 6 RJ1 { frames := 0, cells := 0, slots := 0, locals := 0 }) (hR : ZR X (YR G) (some .int) μ (some (.int r))) : ∀ (n : Nat) (σ : Int32), lp (fun ih σ => b_J1_indexOfChar_4cfef_7 μ x3 x4 ih σ) n σ = some r → Z X (YR G) 6 μ 7 [(0, .ref G.2.2.2.2), (3, .int x3), (4, .int x4), (5, .int σ)] [] := by
  refine lp_z (P := fun σ : Int32 => Z X (YR G) 6 μ 7 [(0, .ref G.2.2.2.2), (3, .int x3), (4, .int x4), (5, .int σ)] []) (fun ih7 hih7 σ hf => ?_)
  obtain ⟨x5, rfl⟩ : ∃ z, z = σ := ⟨_, rfl⟩
  have hf : b_J1_indexOfChar_4cfef_7 μ x3 x4 ih7 x5 = some r := hf
  show Z X (YR G) 6 μ 7 [(0, .ref G.2.2.2.2), (3, .int x3), (4, .int x4), (5, .int x5)] []
  unfold b_J1_indexOfChar_4cfef_7 at hf
  refine z_iload C 3 dJ1_indexOfChar_4cfef_7 rfl ?_
  refine z_iload_n C 1 dJ1_indexOfChar_4cfef_9 rfl ?_
  refine z_icmp_ge C 31 dJ1_indexOfChar_4cfef_10 (by decide) (fun c2 => ?_) (fun c2 => ?_)
  · replace hf := it_t hf c2
    refine z_iconst C dJ1_indexOfChar_4cfef_31 (v := (-1 : Int32)) (by decide) ?_
    exact z_iret C hR dJ1_indexOfChar_4cfef_32 rfl (rt1 hf)
  · replace hf := it_f hf c2
    refine z_aload_n C 0 dJ1_indexOfChar_4cfef_13 rfl ?_
    refine z_iload C 3 dJ1_indexOfChar_4cfef_14 rfl ?_
    obtain ⟨h3, hf⟩ := ck_e hf
    refine z_tb C h3 dJ1_indexOfChar_4cfef_16 ?_
    refine z_iload C 2 dJ1_indexOfChar_4cfef_17 rfl ?_
    refine z_icmp_ne C 25 dJ1_indexOfChar_4cfef_19 (by decide) (fun c4 => ?_) (fun c4 => ?_)
    · replace hf := it_f hf c4
      refine z_iinc C 3 dJ1_indexOfChar_4cfef_25 (v := (x5 + (1 : Int32))) (lv' := [(5, .int (x5 + (1 : Int32))), (0, .ref G.2.2.2.2), (3, .int x3), (4, .int x4)]) rfl rfl (by decide) rfl ?_
      refine z_goto C 7 dJ1_indexOfChar_4cfef_28 (by decide) ?_
      refine z_lv C [1, 2, 3, 0] (lv' := [(0, .ref G.2.2.2.2), (3, .int x3), (4, .int x4), (5, .int (x5 + (1 : Int32)))]) rfl ?_
      exact hih7 ((x5 + (1 : Int32))) hf
    · replace hf := it_t hf c4
      refine z_iload C 3 dJ1_indexOfChar_4cfef_22 rfl ?_
      exact z_iret C hR dJ1_indexOfChar_4cfef_24 rfl (rt1 hf)
noncomputable def f_J1_indexOfChar_4cfef (μ : Mem) (x1 : Int32) (x2 : Int32) (x3 : Int32) : Option Int32 :=
 (nm ((x1).toInt8.toInt32) fun v1 : Int32 =>
 lp (fun ih σ => b_J1_indexOfChar_4cfef_7 μ x3 v1 ih σ) fu (x2))
set_option maxHeartbeats 4000000 in
theorem c_J1_indexOfChar_4cfef {l : Launch} {G : GW} {μ : Mem} {x1 : Int32} {x2 : Int32} {x3 : Int32} {r : Int32} (hf : f_J1_indexOfChar_4cfef μ x1 x2 x3 = some r) : MZ l (YR G) yJ1_indexOfChar_4cfef cJ1_indexOfChar_4cfef 6 (some .int) { frames := 0, cells := 0, slots := 0, locals := 0 } [.ref G.2.2.2.2, .int x1, .int x2, .int x3] μ μ (some (.int r)) := by
  refine z_met RJ1 rfl (by decide) (Nat.le_of_ble_eq_true rfl) (fun X hX C hR => ?_)
  show Z X (YR G) 6 μ 0 [(0, .ref G.2.2.2.2), (1, .int x1), (2, .int x2), (3, .int x3)] []
  unfold f_J1_indexOfChar_4cfef at hf
  refine z_iload_n C 1 dJ1_indexOfChar_4cfef_0 rfl ?_
  refine z_i2b C dJ1_indexOfChar_4cfef_1 ?_
  refine z_topi (fun v1 ev1 => ?_)
  replace hf := nm_e2 hf v1 ev1
  refine z_istore C dJ1_indexOfChar_4cfef_2 (i := 4) (lv' := [(4, .int v1), (0, .ref G.2.2.2.2), (1, .int x1), (2, .int x2), (3, .int x3)]) (by decide) rfl ?_
  refine z_iload_n C 3 dJ1_indexOfChar_4cfef_4 rfl ?_
  refine z_istore C dJ1_indexOfChar_4cfef_5 (i := 5) (lv' := [(5, .int x2), (4, .int v1), (0, .ref G.2.2.2.2), (1, .int x1), (2, .int x2), (3, .int x3)]) (by decide) rfl ?_
  refine z_lv C [2, 5, 1, 0] (lv' := [(0, .ref G.2.2.2.2), (3, .int x3), (4, .int v1), (5, .int x2)]) rfl ?_
  exact zl_J1_indexOfChar_4cfef_7 μ x3 v1 C hR fu (x2) hf
noncomputable def f_J1_indexOf_4cfef (μ : Mem) (x1 : Int32) (x2 : Int32) (x3 : Int32) : Option Int32 :=
 (nm (f_J1_canEncode_9a6ad μ x1) fun v2 : Int32 =>
 (if v2 = 0 then
 (some (-1 : Int32))
 else
 (nm ((if x2 < (0 : Int32) then (0 : Int32) else x2)) fun v4 : Int32 =>
 (nm ((if (5 : Int32) < x3 then (5 : Int32) else x3)) fun v5 : Int32 =>
 (if v4 < v5 then
 (bd (f_J1_indexOfChar_4cfef μ x1 v4 v5) fun v8 =>
 (some v8))
 else
 (some (-1 : Int32)))))))
set_option maxHeartbeats 4000000 in
theorem c_J1_indexOf_4cfef {l : Launch} {G : GW} {μ : Mem} {x1 : Int32} {x2 : Int32} {x3 : Int32} {r : Int32} (hf : f_J1_indexOf_4cfef μ x1 x2 x3 = some r) : MZ l (YR G) yJ1_indexOf_4cfef cJ1_indexOf_4cfef 4 (some .int) { frames := 1, cells := 0, slots := 0, locals := 25 } [.ref G.2.2.2.2, .int x1, .int x2, .int x3] μ μ (some (.int r)) := by
  refine z_met RJ1 rfl (by decide) (Nat.le_of_ble_eq_true rfl) (fun X hX C hR => ?_)
  show Z X (YR G) 4 μ 0 [(0, .ref G.2.2.2.2), (1, .int x1), (2, .int x2), (3, .int x3)] []
  unfold f_J1_indexOf_4cfef at hf
  refine z_iload_n C 1 dJ1_indexOf_4cfef_0 rfl ?_
  obtain ⟨v2, h1⟩ : ∃ z, z = f_J1_canEncode_9a6ad μ x1 := ⟨_, rfl⟩
  replace hf := nm_e2 hf v2 h1
  refine z_callSi C (As := [.int x1]) (rest := []) (c_J1_canEncode_9a6ad h1.symm) sw_J1_88 ⟨rfl, rfl, by decide, by decide⟩ rfl (Nat.le_of_ble_eq_true rfl) dJ1_indexOf_4cfef_1 ?_
  refine z_if_ne C 9 dJ1_indexOf_4cfef_4 (by decide) (fun c3 => ?_) (fun c3 => ?_)
  · replace hf := it_f hf c3
    refine z_iload_n C 2 dJ1_indexOf_4cfef_9 rfl ?_
    refine z_iconst C dJ1_indexOf_4cfef_10 (v := (0 : Int32)) (by decide) ?_
    refine z_mmax C (ww_in 235 (by decide +kernel) (by decide +kernel)) (ww_in 236 (by decide +kernel) (by decide +kernel)) (ww_in 40 (by decide +kernel) (by decide +kernel)) (ww_in 237 (by decide +kernel) (by decide +kernel)) (by decide) (Nat.le_of_ble_eq_true rfl) dJ1_indexOf_4cfef_11 ?_
    refine z_topi (fun v4 ev4 => ?_)
    replace hf := nm_e2 hf v4 ev4
    refine z_istore_n C dJ1_indexOf_4cfef_14 (i := 2) (lv' := [(2, .int v4), (0, .ref G.2.2.2.2), (1, .int x1), (3, .int x3)]) rfl (by decide) rfl ?_
    refine z_iload_n C 3 dJ1_indexOf_4cfef_15 rfl ?_
    refine z_aload_n C 1 dJ1_indexOf_4cfef_16 rfl ?_
    refine z_tlen C dJ1_indexOf_4cfef_17 ?_
    refine z_mmin C (ww_in 238 (by decide +kernel) (by decide +kernel)) (ww_in 239 (by decide +kernel) (by decide +kernel)) (ww_in 40 (by decide +kernel) (by decide +kernel)) (ww_in 240 (by decide +kernel) (by decide +kernel)) (by decide) (Nat.le_of_ble_eq_true rfl) dJ1_indexOf_4cfef_18 ?_
    refine z_topi (fun v5 ev5 => ?_)
    replace hf := nm_e2 hf v5 ev5
    refine z_istore_n C dJ1_indexOf_4cfef_21 (i := 3) (lv' := [(3, .int v5), (2, .int v4), (0, .ref G.2.2.2.2), (1, .int x1)]) rfl (by decide) rfl ?_
    refine z_iload_n C 1 dJ1_indexOf_4cfef_22 rfl ?_
    refine z_iload_n C 0 dJ1_indexOf_4cfef_23 rfl ?_
    refine z_icmp_lt C 29 dJ1_indexOf_4cfef_24 (by decide) (fun c6 => ?_) (fun c6 => ?_)
    · replace hf := it_t hf c6
      refine z_aload_n C 2 dJ1_indexOf_4cfef_29 rfl ?_
      refine z_iload_n C 3 dJ1_indexOf_4cfef_30 rfl ?_
      refine z_iload_n C 1 dJ1_indexOf_4cfef_31 rfl ?_
      refine z_iload_n C 0 dJ1_indexOf_4cfef_32 rfl ?_
      obtain ⟨v8, h7, hf⟩ := bd_e hf
      refine z_callSi C (As := [.ref G.2.2.2.2, .int x1, .int v4, .int v5]) (rest := []) (c_J1_indexOfChar_4cfef h7) sw_J1_95 ⟨rfl, rfl, by decide, by decide⟩ rfl (Nat.le_of_ble_eq_true rfl) dJ1_indexOf_4cfef_33 ?_
      exact z_iret C hR dJ1_indexOf_4cfef_36 rfl (rt1 hf)
    · replace hf := it_f hf c6
      refine z_iconst C dJ1_indexOf_4cfef_27 (v := (-1 : Int32)) (by decide) ?_
      exact z_iret C hR dJ1_indexOf_4cfef_28 rfl (rt1 hf)
  · replace hf := it_t hf c3
    refine z_iconst C dJ1_indexOf_4cfef_7 (v := (-1 : Int32)) (by decide) ?_
    exact z_iret C hR dJ1_indexOf_4cfef_8 rfl (rt1 hf)
noncomputable def f_J0_indexOf_7cf53 (μ : Mem) (x1 : Int32) (x2 : Int32) : Option Int32 :=
 (nm (f_J0_length_8abf5 μ) fun v4 : Int32 =>
 (bd (f_J1_indexOf_4cfef μ x1 x2 v4) fun v6 =>
 (some v6)))
set_option maxHeartbeats 4000000 in
theorem c_J0_indexOf_7cf53 {l : Launch} {G : GW} {μ : Mem} {x1 : Int32} {x2 : Int32} {r : Int32} (hf : f_J0_indexOf_7cf53 μ x1 x2 = some r) : MZ l (YR G) yJ0_indexOf_7cf53 cJ0_indexOf_7cf53 3 (some .int) { frames := 2, cells := 0, slots := 0, locals := 48 } [.ref G.2.2.2.1, .int x1, .int x2] μ μ (some (.int r)) := by
  refine z_met RJ0 rfl (by decide) (Nat.le_of_ble_eq_true rfl) (fun X hX C hR => ?_)
  show Z X (YR G) 3 μ 0 [(0, .ref G.2.2.2.1), (1, .int x1), (2, .int x2)] []
  unfold f_J0_indexOf_7cf53 at hf
  refine z_aload_n C 0 dJ0_indexOf_7cf53_0 rfl ?_
  refine z_callVi C (As := []) (rest := []) (c_J0_isLatin1_aae02 (r := (1 : Int32)) rfl) vw_J0_492 ⟨rfl, rfl, by decide, by decide⟩ (z_rs C rfl) rfl (Nat.le_of_ble_eq_true rfl) dJ0_indexOf_7cf53_1 ?_
  refine z_if_eq C 23 dJ0_indexOf_7cf53_4 (by decide) (fun c2 => absurd c2 (by decide)) (fun _ => ?_)
  refine z_aload_n C 0 dJ0_indexOf_7cf53_7 rfl ?_
  refine z_value C (ww_in 891 (by decide +kernel) (by decide +kernel)) dJ0_indexOf_7cf53_8 ?_
  refine z_iload_n C 1 dJ0_indexOf_7cf53_11 rfl ?_
  refine z_iload_n C 2 dJ0_indexOf_7cf53_12 rfl ?_
  refine z_aload_n C 0 dJ0_indexOf_7cf53_13 rfl ?_
  obtain ⟨v4, h3⟩ : ∃ z, z = f_J0_length_8abf5 μ := ⟨_, rfl⟩
  replace hf := nm_e2 hf v4 h3
  refine z_callVi C (As := []) (rest := [.int x2, .int x1, .ref G.2.2.2.2]) (c_J0_length_8abf5 h3.symm) vw_J0_505 ⟨rfl, rfl, by decide, by decide⟩ (z_rs C rfl) rfl (Nat.le_of_ble_eq_true rfl) dJ0_indexOf_7cf53_14 ?_
  obtain ⟨v6, h5, hf⟩ := bd_e hf
  refine z_callSi C (As := [.ref G.2.2.2.2, .int x1, .int x2, .int v4]) (rest := []) (c_J1_indexOf_4cfef h5) sw_J0_637 ⟨rfl, rfl, by decide, by decide⟩ rfl (Nat.le_of_ble_eq_true rfl) dJ0_indexOf_7cf53_17 ?_
  refine z_goto C 36 dJ0_indexOf_7cf53_20 (by decide) ?_
  exact z_iret C hR dJ0_indexOf_7cf53_36 rfl (rt1 hf)
noncomputable def f_J0_indexOf_0f7a4 (μ : Mem) (x1 : Int32) : Option Int32 :=
 (bd (f_J0_indexOf_7cf53 μ x1 (0 : Int32)) fun v2 =>
 (some v2))
set_option maxHeartbeats 4000000 in
theorem c_J0_indexOf_0f7a4 {l : Launch} {G : GW} {μ : Mem} {x1 : Int32} {r : Int32} (hf : f_J0_indexOf_0f7a4 μ x1 = some r) : MZ l (YR G) yJ0_indexOf_0f7a4 cJ0_indexOf_0f7a4 2 (some .int) { frames := 3, cells := 0, slots := 0, locals := 70 } [.ref G.2.2.2.1, .int x1] μ μ (some (.int r)) := by
  refine z_met RJ0 rfl (by decide) (Nat.le_of_ble_eq_true rfl) (fun X hX C hR => ?_)
  show Z X (YR G) 2 μ 0 [(0, .ref G.2.2.2.1), (1, .int x1)] []
  unfold f_J0_indexOf_0f7a4 at hf
  refine z_aload_n C 0 dJ0_indexOf_0f7a4_0 rfl ?_
  refine z_iload_n C 1 dJ0_indexOf_0f7a4_1 rfl ?_
  refine z_iconst C dJ0_indexOf_0f7a4_2 (v := (0 : Int32)) (by decide) ?_
  obtain ⟨v2, h1, hf⟩ := bd_e hf
  refine z_callVi C (As := [.int x1, .int (0 : Int32)]) (rest := []) (c_J0_indexOf_7cf53 h1) vw_J0_633 ⟨rfl, rfl, by decide, by decide⟩ (z_rs C rfl) rfl (Nat.le_of_ble_eq_true rfl) dJ0_indexOf_0f7a4_3 ?_
  exact z_iret C hR dJ0_indexOf_0f7a4_6 rfl (rt1 hf)
noncomputable def b_J7_fill_53178_22_5 (x1 : Int32) (x3 : Int32) (ih5 : Mem × Int32 → Option Mem) (μ : Mem) (x2 : Int32) : Option Mem :=
 (if x3 ≤ x2 then
 (some (μ))
 else
 (ck (vp_in x2 8) <|
 (nm (up μ 22 (x2).toNatClampNeg x1) fun μ3 : Mem =>
 ih5 (μ3, (x2 + (1 : Int32))))))
set_option maxHeartbeats 4000000 in
theorem zl_J7_fill_53178_22_5 {X : ZX} {G : GW} {μ' : Mem} (x1 : Int32) (x3 : Int32) (C : CX X (YR G) cJ7_fill_53178 4 RJ7 { frames := 0, cells := 0, slots := 0, locals := 0 }) (hR : ZR X (YR G) none μ' none) : ∀ (n : Nat) (σ : Mem × Int32), lp (fun ih σ => b_J7_fill_53178_22_5 x1 x3 ih σ.1 σ.2) n σ = some μ' → Z X (YR G) 4 σ.1 5 [(0, .ref (G.1 22)), (1, .int x1), (2, .int σ.2), (3, .int x3)] [] := by
  refine lp_z (P := fun σ : Mem × Int32 => Z X (YR G) 4 σ.1 5 [(0, .ref (G.1 22)), (1, .int x1), (2, .int σ.2), (3, .int x3)] []) (fun ih5 hih5 σ hf => ?_)
  obtain ⟨μ, x2⟩ := σ
  have hf : b_J7_fill_53178_22_5 x1 x3 ih5 μ x2 = some μ' := hf
  show Z X (YR G) 4 μ 5 [(0, .ref (G.1 22)), (1, .int x1), (2, .int x2), (3, .int x3)] []
  unfold b_J7_fill_53178_22_5 at hf
  refine z_iload_n C 2 dJ7_fill_53178_5 rfl ?_
  refine z_iload_n C 3 dJ7_fill_53178_6 rfl ?_
  refine z_icmp_ge C 20 dJ7_fill_53178_7 (by decide) (fun c1 => ?_) (fun c1 => ?_)
  · replace hf := it_t hf c1
    exact z_vret C hR dJ7_fill_53178_20 (rt1 hf)
  · replace hf := it_f hf c1
    refine z_aload_n C 0 dJ7_fill_53178_10 rfl ?_
    refine z_iload_n C 2 dJ7_fill_53178_11 rfl ?_
    refine z_iload_n C 1 dJ7_fill_53178_12 rfl ?_
    obtain ⟨h2, hf⟩ := ck_e hf
    refine zRs_22 C dJ7_fill_53178_13 h2 ?_
    refine z_mem (fun μ3 eμ3 => ?_)
    replace hf := nm_e2 hf μ3 eμ3
    refine z_iinc C 2 dJ7_fill_53178_14 (v := (x2 + (1 : Int32))) (lv' := [(2, .int (x2 + (1 : Int32))), (0, .ref (G.1 22)), (1, .int x1), (3, .int x3)]) rfl rfl (by decide) rfl ?_
    refine z_goto C 5 dJ7_fill_53178_17 (by decide) ?_
    refine z_lv C [1, 2, 0, 3] (lv' := [(0, .ref (G.1 22)), (1, .int x1), (2, .int (x2 + (1 : Int32))), (3, .int x3)]) rfl ?_
    exact hih5 (μ3, (x2 + (1 : Int32))) hf
noncomputable def f_J7_fill_53178_22 (μ : Mem) (x1 : Int32) : Option Mem :=
 lp (fun ih σ => b_J7_fill_53178_22_5 x1 (8 : Int32) ih σ.1 σ.2) fu (μ, (0 : Int32))
set_option maxHeartbeats 4000000 in
theorem c_J7_fill_53178_22 {l : Launch} {G : GW} {μ : Mem} {x1 : Int32} {μ' : Mem} (hf : f_J7_fill_53178_22 μ x1 = some μ') : MZ l (YR G) yJ7_fill_53178 cJ7_fill_53178 4 none { frames := 0, cells := 0, slots := 0, locals := 0 } [.ref (G.1 22), .int x1] μ μ' none := by
  refine z_met RJ7 rfl (by decide) (Nat.le_of_ble_eq_true rfl) (fun X hX C hR => ?_)
  show Z X (YR G) 4 μ 0 [(0, .ref (G.1 22)), (1, .int x1)] []
  unfold f_J7_fill_53178_22 at hf
  refine z_iconst C dJ7_fill_53178_0 (v := (0 : Int32)) (by decide) ?_
  refine z_istore_n C dJ7_fill_53178_1 (i := 2) (lv' := [(2, .int (0 : Int32)), (0, .ref (G.1 22)), (1, .int x1)]) rfl (by decide) rfl ?_
  refine z_aload_n C 1 dJ7_fill_53178_2 rfl ?_
  refine zRn_22 C dJ7_fill_53178_3 ?_
  refine z_istore_n C dJ7_fill_53178_4 (i := 3) (lv' := [(3, .int (8 : Int32)), (2, .int (0 : Int32)), (0, .ref (G.1 22)), (1, .int x1)]) rfl (by decide) rfl ?_
  refine z_lv C [2, 3, 1, 0] (lv' := [(0, .ref (G.1 22)), (1, .int x1), (2, .int (0 : Int32)), (3, .int (8 : Int32))]) rfl ?_
  exact zl_J7_fill_53178_22_5 x1 (8 : Int32) C hR fu (μ, (0 : Int32)) hf
noncomputable def b_J7_fill_53178_23_5 (x1 : Int32) (x3 : Int32) (ih5 : Mem × Int32 → Option Mem) (μ : Mem) (x2 : Int32) : Option Mem :=
 (if x3 ≤ x2 then
 (some (μ))
 else
 (ck (vp_in x2 48) <|
 (nm (up μ 23 (x2).toNatClampNeg x1) fun μ3 : Mem =>
 ih5 (μ3, (x2 + (1 : Int32))))))
set_option maxHeartbeats 4000000 in
theorem zl_J7_fill_53178_23_5 {X : ZX} {G : GW} {μ' : Mem} (x1 : Int32) (x3 : Int32) (C : CX X (YR G) cJ7_fill_53178 4 RJ7 { frames := 0, cells := 0, slots := 0, locals := 0 }) (hR : ZR X (YR G) none μ' none) : ∀ (n : Nat) (σ : Mem × Int32), lp (fun ih σ => b_J7_fill_53178_23_5 x1 x3 ih σ.1 σ.2) n σ = some μ' → Z X (YR G) 4 σ.1 5 [(0, .ref (G.1 23)), (1, .int x1), (2, .int σ.2), (3, .int x3)] [] := by
  refine lp_z (P := fun σ : Mem × Int32 => Z X (YR G) 4 σ.1 5 [(0, .ref (G.1 23)), (1, .int x1), (2, .int σ.2), (3, .int x3)] []) (fun ih5 hih5 σ hf => ?_)
  obtain ⟨μ, x2⟩ := σ
  have hf : b_J7_fill_53178_23_5 x1 x3 ih5 μ x2 = some μ' := hf
  show Z X (YR G) 4 μ 5 [(0, .ref (G.1 23)), (1, .int x1), (2, .int x2), (3, .int x3)] []
  unfold b_J7_fill_53178_23_5 at hf
  refine z_iload_n C 2 dJ7_fill_53178_5 rfl ?_
  refine z_iload_n C 3 dJ7_fill_53178_6 rfl ?_
  refine z_icmp_ge C 20 dJ7_fill_53178_7 (by decide) (fun c1 => ?_) (fun c1 => ?_)
  · replace hf := it_t hf c1
    exact z_vret C hR dJ7_fill_53178_20 (rt1 hf)
  · replace hf := it_f hf c1
    refine z_aload_n C 0 dJ7_fill_53178_10 rfl ?_
    refine z_iload_n C 2 dJ7_fill_53178_11 rfl ?_
    refine z_iload_n C 1 dJ7_fill_53178_12 rfl ?_
    obtain ⟨h2, hf⟩ := ck_e hf
    refine zRs_23 C dJ7_fill_53178_13 h2 ?_
    refine z_mem (fun μ3 eμ3 => ?_)
    replace hf := nm_e2 hf μ3 eμ3
    refine z_iinc C 2 dJ7_fill_53178_14 (v := (x2 + (1 : Int32))) (lv' := [(2, .int (x2 + (1 : Int32))), (0, .ref (G.1 23)), (1, .int x1), (3, .int x3)]) rfl rfl (by decide) rfl ?_
    refine z_goto C 5 dJ7_fill_53178_17 (by decide) ?_
    refine z_lv C [1, 2, 0, 3] (lv' := [(0, .ref (G.1 23)), (1, .int x1), (2, .int (x2 + (1 : Int32))), (3, .int x3)]) rfl ?_
    exact hih5 (μ3, (x2 + (1 : Int32))) hf
noncomputable def f_J7_fill_53178_23 (μ : Mem) (x1 : Int32) : Option Mem :=
 lp (fun ih σ => b_J7_fill_53178_23_5 x1 (48 : Int32) ih σ.1 σ.2) fu (μ, (0 : Int32))
set_option maxHeartbeats 4000000 in
theorem c_J7_fill_53178_23 {l : Launch} {G : GW} {μ : Mem} {x1 : Int32} {μ' : Mem} (hf : f_J7_fill_53178_23 μ x1 = some μ') : MZ l (YR G) yJ7_fill_53178 cJ7_fill_53178 4 none { frames := 0, cells := 0, slots := 0, locals := 0 } [.ref (G.1 23), .int x1] μ μ' none := by
  refine z_met RJ7 rfl (by decide) (Nat.le_of_ble_eq_true rfl) (fun X hX C hR => ?_)
  show Z X (YR G) 4 μ 0 [(0, .ref (G.1 23)), (1, .int x1)] []
  unfold f_J7_fill_53178_23 at hf
  refine z_iconst C dJ7_fill_53178_0 (v := (0 : Int32)) (by decide) ?_
  refine z_istore_n C dJ7_fill_53178_1 (i := 2) (lv' := [(2, .int (0 : Int32)), (0, .ref (G.1 23)), (1, .int x1)]) rfl (by decide) rfl ?_
  refine z_aload_n C 1 dJ7_fill_53178_2 rfl ?_
  refine zRn_23 C dJ7_fill_53178_3 ?_
  refine z_istore_n C dJ7_fill_53178_4 (i := 3) (lv' := [(3, .int (48 : Int32)), (2, .int (0 : Int32)), (0, .ref (G.1 23)), (1, .int x1)]) rfl (by decide) rfl ?_
  refine z_lv C [2, 3, 1, 0] (lv' := [(0, .ref (G.1 23)), (1, .int x1), (2, .int (0 : Int32)), (3, .int (48 : Int32))]) rfl ?_
  exact zl_J7_fill_53178_23_5 x1 (48 : Int32) C hR fu (μ, (0 : Int32)) hf
