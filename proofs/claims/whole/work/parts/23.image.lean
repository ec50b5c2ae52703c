theorem nm_ex {α β : Type} {e : α} {f : α → Option β} {P : β → Prop} (h : ∀ x, x = e → ∃ y, f x = some y ∧ P y) : ∃ y, nm e f = some y ∧ P y := h e rfl
theorem c0n : (0 : Int32).toNatClampNeg = 0 := by decide
theorem c6n : (6 : Int32).toNatClampNeg = 6 := by decide
theorem c8n : (8 : Int32).toNatClampNeg = 8 := by decide
theorem copyOf_11_3 (μ : Mem) : ∃ μ', f_X2_copyOf_11_3 μ = some μ' ∧ (∀ i, i < 6 → μ' 12 i = μ 4 i ∧ μ' 13 i = μ 5 i ∧ μ' 14 i = μ 6 i ∧ μ' 15 i = μ 7 i) ∧ (∀ i, i < 8 → μ' 16 i = μ 8 i ∧ μ' 17 i = μ 9 i ∧ μ' 18 i = μ 10 i) ∧ (μ' 11 7 = μ 3 7 ∧ μ' 11 8 = μ 3 8 ∧ μ' 11 9 = μ 3 9 ∧ μ' 11 10 = μ 3 10 ∧ μ' 11 11 = μ 3 11) ∧ (∀ c, (c < 11 ∨ 18 < c) → μ' c = μ c) := by
  unfold f_X2_copyOf_11_3
  refine nm_ex (fun m1 em1 => ?_)
  have sm1 : ∀ c, c ≠ 12 → m1 c = μ c := fun c h => by rw [em1]; exact upA_c h
  have vm1 : ∀ i, i < 6 → m1 12 i = μ 4 i := fun i h => by rw [em1, upA_s, c0n, c6n]; exact sb_cpy0 h
  refine nm_ex (fun m2 em2 => ?_)
  have sm2 : ∀ c, c ≠ 13 → m2 c = m1 c := fun c h => by rw [em2]; exact upA_c h
  have vm2 : ∀ i, i < 6 → m2 13 i = m1 5 i := fun i h => by rw [em2, upA_s, c0n, c6n]; exact sb_cpy0 h
  refine nm_ex (fun m3 em3 => ?_)
  have sm3 : ∀ c, c ≠ 14 → m3 c = m2 c := fun c h => by rw [em3]; exact upA_c h
  have vm3 : ∀ i, i < 6 → m3 14 i = m2 6 i := fun i h => by rw [em3, upA_s, c0n, c6n]; exact sb_cpy0 h
  refine nm_ex (fun m4 em4 => ?_)
  have sm4 : ∀ c, c ≠ 15 → m4 c = m3 c := fun c h => by rw [em4]; exact upA_c h
  have vm4 : ∀ i, i < 6 → m4 15 i = m3 7 i := fun i h => by rw [em4, upA_s, c0n, c6n]; exact sb_cpy0 h
  refine nm_ex (fun m5 em5 => ?_)
  have sm5 : ∀ c, c ≠ 16 → m5 c = m4 c := fun c h => by rw [em5]; exact upA_c h
  have vm5 : ∀ i, i < 8 → m5 16 i = m4 8 i := fun i h => by rw [em5, upA_s, c0n, c8n]; exact sb_cpy0 h
  refine nm_ex (fun m6 em6 => ?_)
  have sm6 : ∀ c, c ≠ 17 → m6 c = m5 c := fun c h => by rw [em6]; exact upA_c h
  have vm6 : ∀ i, i < 8 → m6 17 i = m5 9 i := fun i h => by rw [em6, upA_s, c0n, c8n]; exact sb_cpy0 h
  refine nm_ex (fun m7 em7 => ?_)
  have sm7 : ∀ c, c ≠ 18 → m7 c = m6 c := fun c h => by rw [em7]; exact upA_c h
  have vm7 : ∀ i, i < 8 → m7 18 i = m6 10 i := fun i h => by rw [em7, upA_s, c0n, c8n]; exact sb_cpy0 h
  refine nm_ex (fun w7 ew7 => ?_)
  refine nm_ex (fun m8 em8 => ?_)
  have sm8 : ∀ c, c ≠ 11 → m8 c = m7 c := fun c h => by rw [em8]; exact up_c h
  have vm8 : m8 11 7 = m7 3 7 := by rw [em8, up_s, ew7]
  have km8 : ∀ j, j ≠ 7 → m8 11 j = m7 11 j := fun j h => by rw [em8]; exact up_k h
  refine nm_ex (fun w8 ew8 => ?_)
  refine nm_ex (fun m9 em9 => ?_)
  have sm9 : ∀ c, c ≠ 11 → m9 c = m8 c := fun c h => by rw [em9]; exact up_c h
  have vm9 : m9 11 8 = m8 3 8 := by rw [em9, up_s, ew8]
  have km9 : ∀ j, j ≠ 8 → m9 11 j = m8 11 j := fun j h => by rw [em9]; exact up_k h
  refine nm_ex (fun w9 ew9 => ?_)
  refine nm_ex (fun m10 em10 => ?_)
  have sm10 : ∀ c, c ≠ 11 → m10 c = m9 c := fun c h => by rw [em10]; exact up_c h
  have vm10 : m10 11 9 = m9 3 9 := by rw [em10, up_s, ew9]
  have km10 : ∀ j, j ≠ 9 → m10 11 j = m9 11 j := fun j h => by rw [em10]; exact up_k h
  refine nm_ex (fun w10 ew10 => ?_)
  refine nm_ex (fun m11 em11 => ?_)
  have sm11 : ∀ c, c ≠ 11 → m11 c = m10 c := fun c h => by rw [em11]; exact up_c h
  have vm11 : m11 11 10 = m10 3 10 := by rw [em11, up_s, ew10]
  have km11 : ∀ j, j ≠ 10 → m11 11 j = m10 11 j := fun j h => by rw [em11]; exact up_k h
  refine nm_ex (fun w11 ew11 => ?_)
  refine nm_ex (fun m12 em12 => ?_)
  have sm12 : ∀ c, c ≠ 11 → m12 c = m11 c := fun c h => by rw [em12]; exact up_c h
  have vm12 : m12 11 11 = m11 3 11 := by rw [em12, up_s, ew11]
  have km12 : ∀ j, j ≠ 11 → m12 11 j = m11 11 j := fun j h => by rw [em12]; exact up_k h
  refine ⟨_, rfl, fun i hi => ⟨?_, ?_, ?_, ?_⟩, fun i hi => ⟨?_, ?_, ?_⟩, ⟨?_, ?_, ?_, ?_, ?_⟩, fun c hc => ?_⟩
  · rw [sm12 12 (by decide), sm11 12 (by decide), sm10 12 (by decide), sm9 12 (by decide), sm8 12 (by decide), sm7 12 (by decide), sm6 12 (by decide), sm5 12 (by decide), sm4 12 (by decide), sm3 12 (by decide), sm2 12 (by decide), vm1 i hi]
  · rw [sm12 13 (by decide), sm11 13 (by decide), sm10 13 (by decide), sm9 13 (by decide), sm8 13 (by decide), sm7 13 (by decide), sm6 13 (by decide), sm5 13 (by decide), sm4 13 (by decide), sm3 13 (by decide), vm2 i hi, sm1 5 (by decide)]
  · rw [sm12 14 (by decide), sm11 14 (by decide), sm10 14 (by decide), sm9 14 (by decide), sm8 14 (by decide), sm7 14 (by decide), sm6 14 (by decide), sm5 14 (by decide), sm4 14 (by decide), vm3 i hi, sm2 6 (by decide), sm1 6 (by decide)]
  · rw [sm12 15 (by decide), sm11 15 (by decide), sm10 15 (by decide), sm9 15 (by decide), sm8 15 (by decide), sm7 15 (by decide), sm6 15 (by decide), sm5 15 (by decide), vm4 i hi, sm3 7 (by decide), sm2 7 (by decide), sm1 7 (by decide)]
  · rw [sm12 16 (by decide), sm11 16 (by decide), sm10 16 (by decide), sm9 16 (by decide), sm8 16 (by decide), sm7 16 (by decide), sm6 16 (by decide), vm5 i hi, sm4 8 (by decide), sm3 8 (by decide), sm2 8 (by decide), sm1 8 (by decide)]
  · rw [sm12 17 (by decide), sm11 17 (by decide), sm10 17 (by decide), sm9 17 (by decide), sm8 17 (by decide), sm7 17 (by decide), vm6 i hi, sm5 9 (by decide), sm4 9 (by decide), sm3 9 (by decide), sm2 9 (by decide), sm1 9 (by decide)]
  · rw [sm12 18 (by decide), sm11 18 (by decide), sm10 18 (by decide), sm9 18 (by decide), sm8 18 (by decide), vm7 i hi, sm6 10 (by decide), sm5 10 (by decide), sm4 10 (by decide), sm3 10 (by decide), sm2 10 (by decide), sm1 10 (by decide)]
  · rw [km12 7 (by decide), km11 7 (by decide), km10 7 (by decide), km9 7 (by decide), vm8, sm7 3 (by decide), sm6 3 (by decide), sm5 3 (by decide), sm4 3 (by decide), sm3 3 (by decide), sm2 3 (by decide), sm1 3 (by decide)]
  · rw [km12 8 (by decide), km11 8 (by decide), km10 8 (by decide), vm9, sm8 3 (by decide), sm7 3 (by decide), sm6 3 (by decide), sm5 3 (by decide), sm4 3 (by decide), sm3 3 (by decide), sm2 3 (by decide), sm1 3 (by decide)]
  · rw [km12 9 (by decide), km11 9 (by decide), vm10, sm9 3 (by decide), sm8 3 (by decide), sm7 3 (by decide), sm6 3 (by decide), sm5 3 (by decide), sm4 3 (by decide), sm3 3 (by decide), sm2 3 (by decide), sm1 3 (by decide)]
  · rw [km12 10 (by decide), vm11, sm10 3 (by decide), sm9 3 (by decide), sm8 3 (by decide), sm7 3 (by decide), sm6 3 (by decide), sm5 3 (by decide), sm4 3 (by decide), sm3 3 (by decide), sm2 3 (by decide), sm1 3 (by decide)]
  · rw [vm12, sm11 3 (by decide), sm10 3 (by decide), sm9 3 (by decide), sm8 3 (by decide), sm7 3 (by decide), sm6 3 (by decide), sm5 3 (by decide), sm4 3 (by decide), sm3 3 (by decide), sm2 3 (by decide), sm1 3 (by decide)]
  · rw [sm12 c (by omega), sm11 c (by omega), sm10 c (by omega), sm9 c (by omega), sm8 c (by omega), sm7 c (by omega), sm6 c (by omega), sm5 c (by omega), sm4 c (by omega), sm3 c (by omega), sm2 c (by omega), sm1 c (by omega)]
theorem copyOf_3_11 (μ : Mem) : ∃ μ', f_X2_copyOf_3_11 μ = some μ' ∧ (∀ i, i < 6 → μ' 4 i = μ 12 i ∧ μ' 5 i = μ 13 i ∧ μ' 6 i = μ 14 i ∧ μ' 7 i = μ 15 i) ∧ (∀ i, i < 8 → μ' 8 i = μ 16 i ∧ μ' 9 i = μ 17 i ∧ μ' 10 i = μ 18 i) ∧ (μ' 3 7 = μ 11 7 ∧ μ' 3 8 = μ 11 8 ∧ μ' 3 9 = μ 11 9 ∧ μ' 3 10 = μ 11 10 ∧ μ' 3 11 = μ 11 11) ∧ (∀ c, (c < 3 ∨ 10 < c) → μ' c = μ c) := by
  unfold f_X2_copyOf_3_11
  refine nm_ex (fun m1 em1 => ?_)
  have sm1 : ∀ c, c ≠ 4 → m1 c = μ c := fun c h => by rw [em1]; exact upA_c h
  have vm1 : ∀ i, i < 6 → m1 4 i = μ 12 i := fun i h => by rw [em1, upA_s, c0n, c6n]; exact sb_cpy0 h
  refine nm_ex (fun m2 em2 => ?_)
  have sm2 : ∀ c, c ≠ 5 → m2 c = m1 c := fun c h => by rw [em2]; exact upA_c h
  have vm2 : ∀ i, i < 6 → m2 5 i = m1 13 i := fun i h => by rw [em2, upA_s, c0n, c6n]; exact sb_cpy0 h
  refine nm_ex (fun m3 em3 => ?_)
  have sm3 : ∀ c, c ≠ 6 → m3 c = m2 c := fun c h => by rw [em3]; exact upA_c h
  have vm3 : ∀ i, i < 6 → m3 6 i = m2 14 i := fun i h => by rw [em3, upA_s, c0n, c6n]; exact sb_cpy0 h
  refine nm_ex (fun m4 em4 => ?_)
  have sm4 : ∀ c, c ≠ 7 → m4 c = m3 c := fun c h => by rw [em4]; exact upA_c h
  have vm4 : ∀ i, i < 6 → m4 7 i = m3 15 i := fun i h => by rw [em4, upA_s, c0n, c6n]; exact sb_cpy0 h
  refine nm_ex (fun m5 em5 => ?_)
  have sm5 : ∀ c, c ≠ 8 → m5 c = m4 c := fun c h => by rw [em5]; exact upA_c h
  have vm5 : ∀ i, i < 8 → m5 8 i = m4 16 i := fun i h => by rw [em5, upA_s, c0n, c8n]; exact sb_cpy0 h
  refine nm_ex (fun m6 em6 => ?_)
  have sm6 : ∀ c, c ≠ 9 → m6 c = m5 c := fun c h => by rw [em6]; exact upA_c h
  have vm6 : ∀ i, i < 8 → m6 9 i = m5 17 i := fun i h => by rw [em6, upA_s, c0n, c8n]; exact sb_cpy0 h
  refine nm_ex (fun m7 em7 => ?_)
  have sm7 : ∀ c, c ≠ 10 → m7 c = m6 c := fun c h => by rw [em7]; exact upA_c h
  have vm7 : ∀ i, i < 8 → m7 10 i = m6 18 i := fun i h => by rw [em7, upA_s, c0n, c8n]; exact sb_cpy0 h
  refine nm_ex (fun w7 ew7 => ?_)
  refine nm_ex (fun m8 em8 => ?_)
  have sm8 : ∀ c, c ≠ 3 → m8 c = m7 c := fun c h => by rw [em8]; exact up_c h
  have vm8 : m8 3 7 = m7 11 7 := by rw [em8, up_s, ew7]
  have km8 : ∀ j, j ≠ 7 → m8 3 j = m7 3 j := fun j h => by rw [em8]; exact up_k h
  refine nm_ex (fun w8 ew8 => ?_)
  refine nm_ex (fun m9 em9 => ?_)
  have sm9 : ∀ c, c ≠ 3 → m9 c = m8 c := fun c h => by rw [em9]; exact up_c h
  have vm9 : m9 3 8 = m8 11 8 := by rw [em9, up_s, ew8]
  have km9 : ∀ j, j ≠ 8 → m9 3 j = m8 3 j := fun j h => by rw [em9]; exact up_k h
  refine nm_ex (fun w9 ew9 => ?_)
  refine nm_ex (fun m10 em10 => ?_)
  have sm10 : ∀ c, c ≠ 3 → m10 c = m9 c := fun c h => by rw [em10]; exact up_c h
  have vm10 : m10 3 9 = m9 11 9 := by rw [em10, up_s, ew9]
  have km10 : ∀ j, j ≠ 9 → m10 3 j = m9 3 j := fun j h => by rw [em10]; exact up_k h
  refine nm_ex (fun w10 ew10 => ?_)
  refine nm_ex (fun m11 em11 => ?_)
  have sm11 : ∀ c, c ≠ 3 → m11 c = m10 c := fun c h => by rw [em11]; exact up_c h
  have vm11 : m11 3 10 = m10 11 10 := by rw [em11, up_s, ew10]
  have km11 : ∀ j, j ≠ 10 → m11 3 j = m10 3 j := fun j h => by rw [em11]; exact up_k h
  refine nm_ex (fun w11 ew11 => ?_)
  refine nm_ex (fun m12 em12 => ?_)
  have sm12 : ∀ c, c ≠ 3 → m12 c = m11 c := fun c h => by rw [em12]; exact up_c h
  have vm12 : m12 3 11 = m11 11 11 := by rw [em12, up_s, ew11]
  have km12 : ∀ j, j ≠ 11 → m12 3 j = m11 3 j := fun j h => by rw [em12]; exact up_k h
  refine ⟨_, rfl, fun i hi => ⟨?_, ?_, ?_, ?_⟩, fun i hi => ⟨?_, ?_, ?_⟩, ⟨?_, ?_, ?_, ?_, ?_⟩, fun c hc => ?_⟩
  · rw [sm12 4 (by decide), sm11 4 (by decide), sm10 4 (by decide), sm9 4 (by decide), sm8 4 (by decide), sm7 4 (by decide), sm6 4 (by decide), sm5 4 (by decide), sm4 4 (by decide), sm3 4 (by decide), sm2 4 (by decide), vm1 i hi]
  · rw [sm12 5 (by decide), sm11 5 (by decide), sm10 5 (by decide), sm9 5 (by decide), sm8 5 (by decide), sm7 5 (by decide), sm6 5 (by decide), sm5 5 (by decide), sm4 5 (by decide), sm3 5 (by decide), vm2 i hi, sm1 13 (by decide)]
  · rw [sm12 6 (by decide), sm11 6 (by decide), sm10 6 (by decide), sm9 6 (by decide), sm8 6 (by decide), sm7 6 (by decide), sm6 6 (by decide), sm5 6 (by decide), sm4 6 (by decide), vm3 i hi, sm2 14 (by decide), sm1 14 (by decide)]
  · rw [sm12 7 (by decide), sm11 7 (by decide), sm10 7 (by decide), sm9 7 (by decide), sm8 7 (by decide), sm7 7 (by decide), sm6 7 (by decide), sm5 7 (by decide), vm4 i hi, sm3 15 (by decide), sm2 15 (by decide), sm1 15 (by decide)]
  · rw [sm12 8 (by decide), sm11 8 (by decide), sm10 8 (by decide), sm9 8 (by decide), sm8 8 (by decide), sm7 8 (by decide), sm6 8 (by decide), vm5 i hi, sm4 16 (by decide), sm3 16 (by decide), sm2 16 (by decide), sm1 16 (by decide)]
  · rw [sm12 9 (by decide), sm11 9 (by decide), sm10 9 (by decide), sm9 9 (by decide), sm8 9 (by decide), sm7 9 (by decide), vm6 i hi, sm5 17 (by decide), sm4 17 (by decide), sm3 17 (by decide), sm2 17 (by decide), sm1 17 (by decide)]
  · rw [sm12 10 (by decide), sm11 10 (by decide), sm10 10 (by decide), sm9 10 (by decide), sm8 10 (by decide), vm7 i hi, sm6 18 (by decide), sm5 18 (by decide), sm4 18 (by decide), sm3 18 (by decide), sm2 18 (by decide), sm1 18 (by decide)]
  · rw [km12 7 (by decide), km11 7 (by decide), km10 7 (by decide), km9 7 (by decide), vm8, sm7 11 (by decide), sm6 11 (by decide), sm5 11 (by decide), sm4 11 (by decide), sm3 11 (by decide), sm2 11 (by decide), sm1 11 (by decide)]
  · rw [km12 8 (by decide), km11 8 (by decide), km10 8 (by decide), vm9, sm8 11 (by decide), sm7 11 (by decide), sm6 11 (by decide), sm5 11 (by decide), sm4 11 (by decide), sm3 11 (by decide), sm2 11 (by decide), sm1 11 (by decide)]
  · rw [km12 9 (by decide), km11 9 (by decide), vm10, sm9 11 (by decide), sm8 11 (by decide), sm7 11 (by decide), sm6 11 (by decide), sm5 11 (by decide), sm4 11 (by decide), sm3 11 (by decide), sm2 11 (by decide), sm1 11 (by decide)]
  · rw [km12 10 (by decide), vm11, sm10 11 (by decide), sm9 11 (by decide), sm8 11 (by decide), sm7 11 (by decide), sm6 11 (by decide), sm5 11 (by decide), sm4 11 (by decide), sm3 11 (by decide), sm2 11 (by decide), sm1 11 (by decide)]
  · rw [vm12, sm11 11 (by decide), sm10 11 (by decide), sm9 11 (by decide), sm8 11 (by decide), sm7 11 (by decide), sm6 11 (by decide), sm5 11 (by decide), sm4 11 (by decide), sm3 11 (by decide), sm2 11 (by decide), sm1 11 (by decide)]
  · rw [sm12 c (by omega), sm11 c (by omega), sm10 c (by omega), sm9 c (by omega), sm8 c (by omega), sm7 c (by omega), sm6 c (by omega), sm5 c (by omega), sm4 c (by omega), sm3 c (by omega), sm2 c (by omega), sm1 c (by omega)]
theorem copy_3_11 (ν : MM) : ∃ ν', f_X4_copy_3_11 ν = some ν' ∧ (∀ k, k < 24 → ν'.1 11 k = ν.1 3 k) ∧ (∀ c, c ≠ 11 → ν'.1 c = ν.1 c) := by
  unfold f_X4_copy_3_11
  obtain ⟨⟨y, z⟩, m, ⟨hz, h1, h3⟩, h2⟩ := lp_fu (body := fun ih σ => b_X4_copy_3_11_2 ih σ.1 σ.2) (fun k (x : MM × Int32) => x.2 = nI k ∧ (∀ i, i < k → x.1.1 11 i = ν.1 3 i) ∧ ∀ c, c ≠ 11 → x.1.1 c = ν.1 c) 24 (by omega) (fun k x hk hx => by
    obtain ⟨x, z⟩ := x
    obtain ⟨hz, h1, h3⟩ := hx
    have hz : z = nI k := hz
    subst hz
    refine ⟨(upM x 11 k (x.1 3 k), nI (k + 1)), ⟨rfl, fun i hi => ?_, fun c hc => ?_⟩, fun ih => ?_⟩
    · show (upM x 11 k (x.1 3 k)).1 11 i = ν.1 3 i
      by_cases e : i = k
      · rw [e, upM_s]; exact congrFun (h3 3 (by decide)) k
      · rw [upM_1, up_k e]; exact h1 i (by omega)
    · show (upM x 11 k (x.1 3 k)).1 c = ν.1 c
      rw [upM_1, up_c hc]; exact h3 c hc
    · have c1 : ¬ (24 : Int32) ≤ nI k := by show ¬ nI 24 ≤ nI k; exact nI_ge hk (by omega)
      simp only [b_X4_copy_3_11_2, nm, c1, ↓reduceIte, ck_t (vin (N := 24) hk), cl (j := k), nI_1]) (ν, (0 : Int32)) ⟨nI_0.symm, fun i hi => by omega, fun c hc => rfl⟩
  have hz : z = nI 24 := hz
  subst hz
  have c1 : (24 : Int32) ≤ nI 24 := by decide
  exact ⟨y, by rw [h2]; simp only [b_X4_copy_3_11_2, c1, ↓reduceIte], h1, h3⟩
theorem copy_4_12 (ν : MM) : ∃ ν', f_X4_copy_4_12 ν = some ν' ∧ (∀ k, k < 6 → ν'.1 12 k = ν.1 4 k) ∧ (∀ c, c ≠ 12 → ν'.1 c = ν.1 c) := by
  unfold f_X4_copy_4_12
  obtain ⟨⟨y, z⟩, m, ⟨hz, h1, h3⟩, h2⟩ := lp_fu (body := fun ih σ => b_X4_copy_4_12_2 ih σ.1 σ.2) (fun k (x : MM × Int32) => x.2 = nI k ∧ (∀ i, i < k → x.1.1 12 i = ν.1 4 i) ∧ ∀ c, c ≠ 12 → x.1.1 c = ν.1 c) 6 (by omega) (fun k x hk hx => by
    obtain ⟨x, z⟩ := x
    obtain ⟨hz, h1, h3⟩ := hx
    have hz : z = nI k := hz
    subst hz
    refine ⟨(upM x 12 k (x.1 4 k), nI (k + 1)), ⟨rfl, fun i hi => ?_, fun c hc => ?_⟩, fun ih => ?_⟩
    · show (upM x 12 k (x.1 4 k)).1 12 i = ν.1 4 i
      by_cases e : i = k
      · rw [e, upM_s]; exact congrFun (h3 4 (by decide)) k
      · rw [upM_1, up_k e]; exact h1 i (by omega)
    · show (upM x 12 k (x.1 4 k)).1 c = ν.1 c
      rw [upM_1, up_c hc]; exact h3 c hc
    · have c1 : ¬ (6 : Int32) ≤ nI k := by show ¬ nI 6 ≤ nI k; exact nI_ge hk (by omega)
      simp only [b_X4_copy_4_12_2, nm, c1, ↓reduceIte, ck_t (vin (N := 6) hk), cl (j := k), nI_1]) (ν, (0 : Int32)) ⟨nI_0.symm, fun i hi => by omega, fun c hc => rfl⟩
  have hz : z = nI 6 := hz
  subst hz
  have c1 : (6 : Int32) ≤ nI 6 := by decide
  exact ⟨y, by rw [h2]; simp only [b_X4_copy_4_12_2, c1, ↓reduceIte], h1, h3⟩
theorem copy_9_13 (ν : MM) : ∃ ν', f_X4_copy_9_13 ν = some ν' ∧ (∀ k, k < 24 → ν'.1 13 k = ν.1 9 k) ∧ (∀ c, c ≠ 13 → ν'.1 c = ν.1 c) := by
  unfold f_X4_copy_9_13
  obtain ⟨⟨y, z⟩, m, ⟨hz, h1, h3⟩, h2⟩ := lp_fu (body := fun ih σ => b_X4_copy_9_13_2 ih σ.1 σ.2) (fun k (x : MM × Int32) => x.2 = nI k ∧ (∀ i, i < k → x.1.1 13 i = ν.1 9 i) ∧ ∀ c, c ≠ 13 → x.1.1 c = ν.1 c) 24 (by omega) (fun k x hk hx => by
    obtain ⟨x, z⟩ := x
    obtain ⟨hz, h1, h3⟩ := hx
    have hz : z = nI k := hz
    subst hz
    refine ⟨(upM x 13 k (x.1 9 k), nI (k + 1)), ⟨rfl, fun i hi => ?_, fun c hc => ?_⟩, fun ih => ?_⟩
    · show (upM x 13 k (x.1 9 k)).1 13 i = ν.1 9 i
      by_cases e : i = k
      · rw [e, upM_s]; exact congrFun (h3 9 (by decide)) k
      · rw [upM_1, up_k e]; exact h1 i (by omega)
    · show (upM x 13 k (x.1 9 k)).1 c = ν.1 c
      rw [upM_1, up_c hc]; exact h3 c hc
    · have c1 : ¬ (24 : Int32) ≤ nI k := by show ¬ nI 24 ≤ nI k; exact nI_ge hk (by omega)
      simp only [b_X4_copy_9_13_2, nm, c1, ↓reduceIte, ck_t (vin (N := 24) hk), cl (j := k), nI_1]) (ν, (0 : Int32)) ⟨nI_0.symm, fun i hi => by omega, fun c hc => rfl⟩
  have hz : z = nI 24 := hz
  subst hz
  have c1 : (24 : Int32) ≤ nI 24 := by decide
  exact ⟨y, by rw [h2]; simp only [b_X4_copy_9_13_2, c1, ↓reduceIte], h1, h3⟩
theorem copy_11_3 (ν : MM) : ∃ ν', f_X4_copy_11_3 ν = some ν' ∧ (∀ k, k < 24 → ν'.1 3 k = ν.1 11 k) ∧ (∀ c, c ≠ 3 → ν'.1 c = ν.1 c) := by
  unfold f_X4_copy_11_3
  obtain ⟨⟨y, z⟩, m, ⟨hz, h1, h3⟩, h2⟩ := lp_fu (body := fun ih σ => b_X4_copy_11_3_2 ih σ.1 σ.2) (fun k (x : MM × Int32) => x.2 = nI k ∧ (∀ i, i < k → x.1.1 3 i = ν.1 11 i) ∧ ∀ c, c ≠ 3 → x.1.1 c = ν.1 c) 24 (by omega) (fun k x hk hx => by
    obtain ⟨x, z⟩ := x
    obtain ⟨hz, h1, h3⟩ := hx
    have hz : z = nI k := hz
    subst hz
    refine ⟨(upM x 3 k (x.1 11 k), nI (k + 1)), ⟨rfl, fun i hi => ?_, fun c hc => ?_⟩, fun ih => ?_⟩
    · show (upM x 3 k (x.1 11 k)).1 3 i = ν.1 11 i
      by_cases e : i = k
      · rw [e, upM_s]; exact congrFun (h3 11 (by decide)) k
      · rw [upM_1, up_k e]; exact h1 i (by omega)
    · show (upM x 3 k (x.1 11 k)).1 c = ν.1 c
      rw [upM_1, up_c hc]; exact h3 c hc
    · have c1 : ¬ (24 : Int32) ≤ nI k := by show ¬ nI 24 ≤ nI k; exact nI_ge hk (by omega)
      simp only [b_X4_copy_11_3_2, nm, c1, ↓reduceIte, ck_t (vin (N := 24) hk), cl (j := k), nI_1]) (ν, (0 : Int32)) ⟨nI_0.symm, fun i hi => by omega, fun c hc => rfl⟩
  have hz : z = nI 24 := hz
  subst hz
  have c1 : (24 : Int32) ≤ nI 24 := by decide
  exact ⟨y, by rw [h2]; simp only [b_X4_copy_11_3_2, c1, ↓reduceIte], h1, h3⟩
theorem copy_12_4 (ν : MM) : ∃ ν', f_X4_copy_12_4 ν = some ν' ∧ (∀ k, k < 6 → ν'.1 4 k = ν.1 12 k) ∧ (∀ c, c ≠ 4 → ν'.1 c = ν.1 c) := by
  unfold f_X4_copy_12_4
  obtain ⟨⟨y, z⟩, m, ⟨hz, h1, h3⟩, h2⟩ := lp_fu (body := fun ih σ => b_X4_copy_12_4_2 ih σ.1 σ.2) (fun k (x : MM × Int32) => x.2 = nI k ∧ (∀ i, i < k → x.1.1 4 i = ν.1 12 i) ∧ ∀ c, c ≠ 4 → x.1.1 c = ν.1 c) 6 (by omega) (fun k x hk hx => by
    obtain ⟨x, z⟩ := x
    obtain ⟨hz, h1, h3⟩ := hx
    have hz : z = nI k := hz
    subst hz
    refine ⟨(upM x 4 k (x.1 12 k), nI (k + 1)), ⟨rfl, fun i hi => ?_, fun c hc => ?_⟩, fun ih => ?_⟩
    · show (upM x 4 k (x.1 12 k)).1 4 i = ν.1 12 i
      by_cases e : i = k
      · rw [e, upM_s]; exact congrFun (h3 12 (by decide)) k
      · rw [upM_1, up_k e]; exact h1 i (by omega)
    · show (upM x 4 k (x.1 12 k)).1 c = ν.1 c
      rw [upM_1, up_c hc]; exact h3 c hc
    · have c1 : ¬ (6 : Int32) ≤ nI k := by show ¬ nI 6 ≤ nI k; exact nI_ge hk (by omega)
      simp only [b_X4_copy_12_4_2, nm, c1, ↓reduceIte, ck_t (vin (N := 6) hk), cl (j := k), nI_1]) (ν, (0 : Int32)) ⟨nI_0.symm, fun i hi => by omega, fun c hc => rfl⟩
  have hz : z = nI 6 := hz
  subst hz
  have c1 : (6 : Int32) ≤ nI 6 := by decide
  exact ⟨y, by rw [h2]; simp only [b_X4_copy_12_4_2, c1, ↓reduceIte], h1, h3⟩
theorem copy_13_9 (ν : MM) : ∃ ν', f_X4_copy_13_9 ν = some ν' ∧ (∀ k, k < 24 → ν'.1 9 k = ν.1 13 k) ∧ (∀ c, c ≠ 9 → ν'.1 c = ν.1 c) := by
  unfold f_X4_copy_13_9
  obtain ⟨⟨y, z⟩, m, ⟨hz, h1, h3⟩, h2⟩ := lp_fu (body := fun ih σ => b_X4_copy_13_9_2 ih σ.1 σ.2) (fun k (x : MM × Int32) => x.2 = nI k ∧ (∀ i, i < k → x.1.1 9 i = ν.1 13 i) ∧ ∀ c, c ≠ 9 → x.1.1 c = ν.1 c) 24 (by omega) (fun k x hk hx => by
    obtain ⟨x, z⟩ := x
    obtain ⟨hz, h1, h3⟩ := hx
    have hz : z = nI k := hz
    subst hz
    refine ⟨(upM x 9 k (x.1 13 k), nI (k + 1)), ⟨rfl, fun i hi => ?_, fun c hc => ?_⟩, fun ih => ?_⟩
    · show (upM x 9 k (x.1 13 k)).1 9 i = ν.1 13 i
      by_cases e : i = k
      · rw [e, upM_s]; exact congrFun (h3 13 (by decide)) k
      · rw [upM_1, up_k e]; exact h1 i (by omega)
    · show (upM x 9 k (x.1 13 k)).1 c = ν.1 c
      rw [upM_1, up_c hc]; exact h3 c hc
    · have c1 : ¬ (24 : Int32) ≤ nI k := by show ¬ nI 24 ≤ nI k; exact nI_ge hk (by omega)
      simp only [b_X4_copy_13_9_2, nm, c1, ↓reduceIte, ck_t (vin (N := 24) hk), cl (j := k), nI_1]) (ν, (0 : Int32)) ⟨nI_0.symm, fun i hi => by omega, fun c hc => rfl⟩
  have hz : z = nI 24 := hz
  subst hz
  have c1 : (24 : Int32) ≤ nI 24 := by decide
  exact ⟨y, by rw [h2]; simp only [b_X4_copy_13_9_2, c1, ↓reduceIte], h1, h3⟩
theorem CS.copy {μ μ' : Mem} {b ck ct cp cs co cm cc b' ck' ct' cp' cs' co' cm' cc' : Nat} {a : AS} (hO : OKS a) (h : CS μ b ck ct cp cs co cm cc a) (h1 : ∀ i, i < 6 → μ' ck' i = μ ck i ∧ μ' ct' i = μ ct i ∧ μ' cp' i = μ cp i ∧ μ' cs' i = μ cs i) (h2 : ∀ i, i < 8 → μ' co' i = μ co i ∧ μ' cm' i = μ cm i ∧ μ' cc' i = μ cc i) (h3 : μ' b' 7 = μ b 7 ∧ μ' b' 8 = μ b 8 ∧ μ' b' 9 = μ b 9 ∧ μ' b' 10 = μ b 10 ∧ μ' b' 11 = μ b 11) : CS μ' b' ck' ct' cp' cs' co' cm' cc' a := by
  have h6 := hO.2.1
  have h8 := hO.2.2.2.2.2.1
  obtain ⟨⟨g1, g2, g3, g4, g5⟩, g6, g7⟩ := h
  refine ⟨⟨h3.1.trans g1, h3.2.1.trans g2, h3.2.2.1.trans g3, h3.2.2.2.1.trans g4, h3.2.2.2.2.trans g5⟩, fun i hi => ?_, fun i hi => ?_⟩
  · obtain ⟨e1, e2, e3, e4⟩ := h1 i (by omega)
    rw [e1, e2, e3, e4]; exact g6 i hi
  · obtain ⟨e1, e2, e3⟩ := h2 i (by omega)
    rw [e1, e2, e3]; exact g7 i hi
theorem MS.copy {ν ν' : Mem} {r t g r' t' g' : Nat} {a : AS} (hO : OKS a) (h : MS ν r t g a) (h1 : ∀ i, i < 24 → ν' r' i = ν r i) (h2 : ∀ i, i < 6 → ν' t' i = ν t i) (h3 : ∀ i, i < 24 → ν' g' i = ν g i) : MS ν' r' t' g' a := by
  have h6 := hO.2.1
  have h8 := hO.2.2.2.2.2.1
  refine ⟨fun i hi => ?_, fun i hi => ?_⟩
  · have hs := (hO.2.2.1 i hi).2.2
    rw [h1 _ (by omega), h1 _ (by omega), h1 _ (by omega), h2 _ (by omega), h1 _ (by omega)]
    exact h.1 i hi
  · rw [h3 _ (by omega), h3 _ (by omega), h3 _ (by omega)]
    exact h.2 i hi
theorem st_image {T : Nat} {μ : Mem} {ν : MM} (h : Rel T μ ν) : ∃ (μ' : Mem) (ν' : MM) (r : Int32), f_X3_image μ = some (μ', r) ∧ f_X4_image ν = some (ν', r) ∧ Rel (T + 1) μ' ν' := by
  obtain ⟨a, pn, pg, rr, sd, hO, hC, hM, hF, hG, hN, hK⟩ := id h
  have h6 := hO.2.1
  rcases Nat.eq_zero_or_pos (aN a) with hn | hn
  · refine ⟨μ, ν, -103, ?_, ?_, h.mono (by omega)⟩
    · simp only [f_X3_image, nm, hasRing_f (hC.1.1.trans (congrArg nI hn)), ↓reduceIte]
    · simp only [f_X4_image, nm, lacks_t (hF.1.trans (congrArg nI hn)), i10, ↓reduceIte]
  · obtain ⟨μ1, e1, p1, p2, p3, p4⟩ := copyOf_11_3 μ
    obtain ⟨ν1, f1, q1, q2⟩ := copy_3_11 ν
    obtain ⟨ν2, f2, q3, q4⟩ := copy_4_12 ν1
    obtain ⟨ν3, f3, q5, q6⟩ := copy_9_13 ν2
    have z : ∀ c, c ≠ 11 → c ≠ 12 → c ≠ 13 → ν3.1 c = ν.1 c := fun c a1 a2 a3 => by rw [q6 c a3, q4 c a2, q2 c a1]
    have z0 : ν3.1 0 = ν.1 0 := z 0 (by decide) (by decide) (by decide)
    refine ⟨up μ1 0 3 1, upM (upM (upM (upM (upM ν3 0 23 (nI (aW a))) 0 24 (aL a)) 0 25 (aE a)) 0 26 (nI (aO a))) 0 22 (nI rr), aL a, ?_, ?_, a, pn, pg, rr, sd, hO, hC.cong (fun c hc => ?_), hM.cong (fun c hc => ?_), hF.cong (fun k _ _ _ _ => ?_), hG.cong ?_ ?_ ?_ ?_, hN.cong (by omega) ?_ ?_ ?_ ?_, Or.inr ⟨up_s, upM_s, a, rfl, rfl, hO, ?_, ?_, ?_, ?_, ?_, ?_⟩⟩
    · simp (disch := omega) only [f_X3_image, nm, hasRing_t hC.1.1 hn h6, i10, ↓reduceIte, e1, bd, Option.bind_some, up_c, p4 3 (by omega), hC.1.2.2.1]
    · simp (disch := omega) only [f_X4_image, nm, lacks_f hF.1 hn h6, ↓reduceIte, f1, f2, f3, bd, Option.bind_some, upM_1, up_k, z0, hF.2.1, hF.2.2.1, hF.2.2.2.1, hF.2.2.2.2, hN.2.2.1]
    · rw [up_c (by omega), p4 c (by omega)]
    · simp (disch := omega) only [upM_1, up_c]
      exact z c (by omega) (by omega) (by omega)
    · simp (disch := omega) only [upM_1, up_k]; rw [z0]
    · rw [up_c (by omega), p4 1 (by omega)]
    · rw [up_c (by omega), p4 2 (by omega)]
    · simp (disch := omega) only [upM_1, up_k]; rw [z0]
    · simp (disch := omega) only [upM_1, up_c]
      exact z 1 (by omega) (by omega) (by omega)
    · rw [up_k (by omega), p4 0 (by omega)]
    · rw [up_k (by omega), p4 0 (by omega)]
    · simp (disch := omega) only [upM_1, up_k]; rw [z0]
    · simp (disch := omega) only [upM_1, up_k]; rw [z0]
    · refine CS.copy hO hC (fun i hi => ?_) (fun i hi => ?_) ?_
      · simp (disch := omega) only [up_c]; exact p1 i hi
      · simp (disch := omega) only [up_c]; exact p2 i hi
      · simp (disch := omega) only [up_c]; exact p3
    · refine MS.copy hO hM (fun i hi => ?_) (fun i hi => ?_) (fun i hi => ?_)
      · simp (disch := omega) only [upM_1, up_c]
        rw [q6 11 (by omega), q4 11 (by omega)]; exact q1 i hi
      · simp (disch := omega) only [upM_1, up_c]
        rw [q6 12 (by omega), q3 i hi, q2 4 (by omega)]
      · simp (disch := omega) only [upM_1, up_c]
        rw [q5 i hi, q4 9 (by omega), q2 9 (by omega)]
    · simp (disch := omega) only [upM_1, up_k, up_s]
    · simp (disch := omega) only [upM_1, up_k, up_s]
    · simp (disch := omega) only [upM_1, up_k, up_s]
    · simp (disch := omega) only [upM_1, up_k, up_s]
theorem st_restore {T : Nat} {μ : Mem} {ν : MM} (hT : T < 1000) (h : Rel T μ ν) : ∃ (μ' : Mem) (ν' : MM) (r : Int32), f_X3_restore μ = some (μ', r) ∧ f_X4_restore ν = some (ν', r) ∧ Rel (T + 1) μ' ν' := by
  obtain ⟨a, pn, pg, rr, sd, hO, hC, hM, hF, hG, hN, hK⟩ := id h
  have hrr := hN.1
  rcases hK with ⟨k1, k2⟩ | ⟨k1, k2, k, kn, kk, kO, kC, kM, kw, kl, ke, ko⟩
  · refine ⟨μ, ν, -103, ?_, ?_, h.mono (by omega)⟩
    · simp only [f_X3_restore, k1, ↓reduceIte]
    · have c : (ν.1 0 22 = ν.1 0 10) = False := eq_false (by
        rw [hN.2.2.1]
        rcases k2 with e | ⟨j, hj, e⟩
        · rw [e, fa_eq, nI_toInt (by omega)]
          show ¬ (-1 : Int) = rr
          omega
        · rw [e, nI_eq (by omega) (by omega)]; omega)
      simp only [f_X4_restore, c, ↓reduceIte]
  · obtain ⟨μ1, e1, p1, p2, p3, p4⟩ := copyOf_3_11 μ
    obtain ⟨ν1, f1, q1, q2⟩ := copy_11_3 ν
    obtain ⟨ν2, f2, q3, q4⟩ := copy_12_4 ν1
    obtain ⟨ν3, f3, q5, q6⟩ := copy_13_9 ν2
    have z : ∀ c, c ≠ 3 → c ≠ 4 → c ≠ 9 → ν3.1 c = ν.1 c := fun c a1 a2 a3 => by rw [q6 c a3, q4 c a2, q2 c a1]
    have z0 : ν3.1 0 = ν.1 0 := z 0 (by decide) (by decide) (by decide)
    have c : (ν.1 0 22 = ν.1 0 10) = True := eq_true (by rw [k2, hN.2.2.1])
    refine ⟨μ1, upM (upM (upM (upM ν3 0 7 (nI (aW k))) 0 8 (aL k)) 0 9 (aE k)) 0 18 (nI (aO k)), aL k, ?_, ?_, k, pn, pg, rr, sd, kO, CS.copy kO kC p1 p2 p3, ?_, ⟨?_, ?_, ?_, ?_, upM_s⟩, hG.cong ?_ ?_ ?_ ?_, hN.cong (by omega) ?_ ?_ ?_ ?_, ?_⟩
    · simp only [f_X3_restore, k1, i10, ↓reduceIte, e1, bd, Option.bind_some, p3.2.2.1, kC.1.2.2.1]
    · simp (disch := omega) only [f_X4_restore, nm, c, ↓reduceIte, f1, f2, f3, bd, Option.bind_some, upM_1, up_k, up_s, z0, kw, kl, ke, ko]
    · refine MS.copy kO kM (fun i hi => ?_) (fun i hi => ?_) (fun i hi => ?_)
      · simp (disch := omega) only [upM_1, up_c]
        rw [q6 3 (by omega), q4 3 (by omega)]; exact q1 i hi
      · simp (disch := omega) only [upM_1, up_c]
        rw [q6 4 (by omega), q3 i hi, q2 12 (by omega)]
      · simp (disch := omega) only [upM_1, up_c]
        rw [q5 i hi, q4 13 (by omega), q2 13 (by omega)]
    · simp (disch := omega) only [upM_1, up_k]; rw [z0, kn]; exact hF.1
    · simp (disch := omega) only [upM_1, up_k, up_s]
    · simp (disch := omega) only [upM_1, up_k, up_s]
    · simp (disch := omega) only [upM_1, up_k, up_s]
    · rw [p4 1 (by omega)]
    · rw [p4 2 (by omega)]
    · simp (disch := omega) only [upM_1, up_k]; rw [z0]
    · simp (disch := omega) only [upM_1, up_c]
      exact z 1 (by omega) (by omega) (by omega)
    · rw [p4 0 (by omega)]
    · rw [p4 0 (by omega)]
    · simp (disch := omega) only [upM_1, up_k]; rw [z0]
    · simp (disch := omega) only [upM_1, up_k]; rw [z0]
    · rw [kn, kk]
      refine KP.cong (μ := μ) (ν := ν.1) (Or.inr ⟨k1, k2, k, kn, kk, kO, kC, kM, kw, kl, ke, ko⟩) ?_ (fun c h1 h2 => p4 c (by omega)) (fun k h1 h2 => ?_) (fun c h1 h2 => ?_)
      · rw [p4 0 (by omega)]
      · simp (disch := omega) only [upM_1, up_k]; rw [z0]
      · simp (disch := omega) only [upM_1, up_c]
        exact z c (by omega) (by omega) (by omega)
