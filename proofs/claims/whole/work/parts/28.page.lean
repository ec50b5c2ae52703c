/-! the page read: both readers side by side -/
def lt5 (k : Nat) : Nat := if k = 0 then 114 else if k = 1 then 116 else if k = 2 then 111 else if k = 3 then 109 else 101
def kc (c : Nat) : Nat := if c = 114 then 0 else if c = 116 then 1 else if c = 111 then 2 else if c = 109 then 3 else if c = 101 then 4 else 5
theorem kc_le (c : Nat) : kc c ≤ 5 := by
  unfold kc
  repeat' split
  all_goals omega
theorem kc_lt5 {k : Nat} (hk : k < 5) : kc (lt5 k) = k := by
  rcases (show k = 0 ∨ k = 1 ∨ k = 2 ∨ k = 3 ∨ k = 4 by omega) with rfl | rfl | rfl | rfl | rfl <;> rfl
theorem lt5_kc {c : Nat} (h : kc c < 5) : lt5 (kc c) = c := by
  by_cases h1 : c = 114
  · subst h1; rfl
  by_cases h2 : c = 116
  · subst h2; rfl
  by_cases h3 : c = 111
  · subst h3; rfl
  by_cases h4 : c = 109
  · subst h4; rfl
  by_cases h5 : c = 101
  · subst h5; rfl
  exfalso
  unfold kc at h
  rw [if_neg h1, if_neg h2, if_neg h3, if_neg h4, if_neg h5] at h
  omega
theorem lt5_le (k : Nat) : lt5 k ≤ 126 := by
  unfold lt5
  repeat' split
  all_goals omega
theorem lt5_get {k : Nat} (hk : k < 5) : ([114, 116, 111, 109, 101] : List Int32).getD k 0 = nI (lt5 k) := by
  rcases (show k = 0 ∨ k = 1 ∨ k = 2 ∨ k = 3 ∨ k = 4 by omega) with rfl | rfl | rfl | rfl | rfl <;> rfl
theorem indexOf_e {μ : Mem} {c : Nat} (hc : c ≤ 126) : f_J0_indexOf_0f7a4 μ (nI c) = some (if kc c < 5 then nI (kc c) else -1) := by
  have i8 : (nI c).toInt8.toInt32 = nI c := lg_i2b_small (by rw [nI_toInt (by omega)]; omega) (by rw [nI_toInt (by omega)]; omega)
  have a1 : ¬ nI c < 0 := nI_pos (by omega)
  have a2 : ¬ (255 : Int32) < nI c := by show ¬ nI 255 < nI c; exact nI_nlt (by omega) (by omega)
  have a3 : f_J0_length_8abf5 μ = 5 := by unfold f_J0_length_8abf5; decide
  have a4 : ¬ (0 : Int32) < 0 := by decide
  have a5 : ¬ (5 : Int32) < 5 := by decide
  have a6 : (0 : Int32) < 5 := by decide
  have hl := kc_le c
  have hL : lp (fun ih σ => b_J1_indexOfChar_4cfef_7 μ 5 (nI c) ih σ) fu (0 : Int32) = some (if kc c < 5 then nI (kc c) else -1) := by
    obtain ⟨y, m, rfl, h2⟩ := lp_fu (body := fun ih σ => b_J1_indexOfChar_4cfef_7 μ 5 (nI c) ih σ) (fun k (x : Int32) => x = nI k) (kc c) (by omega) (fun k x hk hx => by
      subst hx
      refine ⟨nI (k + 1), rfl, fun ih => ?_⟩
      have c1 : ¬ (5 : Int32) ≤ nI k := by show ¬ nI 5 ≤ nI k; exact nI_ge (by omega) (by omega)
      have hk5 : k < 5 := by omega
      have hq := lt5_le k
      have d : (nI (lt5 k) = nI c) = False := eq_false (by
        rw [nI_eq (by omega) (by omega)]
        intro e
        have := kc_lt5 hk5
        rw [e] at this
        omega)
      simp only [b_J1_indexOfChar_4cfef_7, c1, ↓reduceIte, ck_t (vin (N := 5) hk5), cl (j := k), lt5_get hk5, d, nI_1]) (0 : Int32) nI_0.symm
    rw [h2]
    by_cases h5 : kc c < 5
    · have c1 : ¬ (5 : Int32) ≤ nI (kc c) := by show ¬ nI 5 ≤ nI (kc c); exact nI_ge (by omega) (by omega)
      simp only [b_J1_indexOfChar_4cfef_7, c1, ↓reduceIte, ck_t (vin (N := 5) h5), cl (j := kc c), lt5_get h5, lt5_kc h5, h5]
    · have e5 : kc c = 5 := by omega
      have c1 : (5 : Int32) ≤ nI 5 := by decide
      have n5 : ¬ (5 : Nat) < 5 := by omega
      simp only [b_J1_indexOfChar_4cfef_7, e5, c1, ↓reduceIte, n5]
  simp only [f_J0_indexOf_0f7a4, f_J0_indexOf_7cf53, f_J1_indexOf_4cfef, f_J1_indexOfChar_4cfef, f_J1_canEncode_9a6ad, nm, bd, Option.bind_some, a1, a2, a3, a4, a5, a6, i10, ↓reduceIte, i8, hL]
theorem kindBy_e {ν : MM} {c : Nat} (hc : c ≤ 126) : f_X4_kindBy ν (nI c) = if kc c < 5 then nI (kc c) else -1 := by
  have q : ∀ v : Nat, v ≤ 126 → (nI c = nI v) = (c = v) := fun v hv => propext (nI_eq (by omega) (by omega))
  have e1 : (nI c = (114 : Int32)) = (c = 114) := q 114 (by omega)
  have e2 : (nI c = (116 : Int32)) = (c = 116) := q 116 (by omega)
  have e3 : (nI c = (111 : Int32)) = (c = 111) := q 111 (by omega)
  have e4 : (nI c = (109 : Int32)) = (c = 109) := q 109 (by omega)
  have e5 : (nI c = (101 : Int32)) = (c = 101) := q 101 (by omega)
  unfold f_X4_kindBy kc
  simp only [e1, e2, e3, e4, e5]
  repeat' split
  all_goals first | rfl | omega
theorem rem3 {k : Nat} (hk : k < 22) : nI k - nI k / (3 : Int32) * (3 : Int32) = nI (k % 3) := by
  show nI k - nI k / nI 3 * nI 3 = _
  exact pk_rem (by omega) (by omega) (by omega)
theorem fits_0 {μ : Mem} {k c : Nat} (hk : k < 22) (h3 : k % 3 = 0) (h : μ 2 k = nI c) (hc : c ≤ 126) : f_X1_fits μ (nI k) (-1) = some (if kc c < 5 then 1 else 0) := by
  have a0 : (nI 0 = (0 : Int32)) = True := eq_true rfl
  simp only [f_X1_fits, nm, ck_t (vin (N := 22) hk), cl (j := k), h, ↓reduceIte, rem3 hk, h3, a0, indexOf_e hc, bd, Option.bind_some]
  by_cases h5 : kc c < 5
  · simp only [h5, ↓reduceIte, nI_pos (show kc c < 2 ^ 31 by omega)]
  · simp only [h5, ↓reduceIte]
    rfl
theorem fits_1 {μ : Mem} {k c : Nat} (hk : k < 22) (h3 : k % 3 = 1) (h : μ 2 k = nI c) (hc : c ≤ 126) : f_X1_fits μ (nI k) (-1) = some (if 48 ≤ c ∧ c ≤ 55 then 1 else 0) := by
  have a0 : (nI 1 = (0 : Int32)) = False := eq_false (by decide)
  have a1 : (nI 1 = (1 : Int32)) = True := eq_true rfl
  have e1 : (nI c < (48 : Int32)) = (c < 48) := by show (nI c < nI 48) = _; exact propext ⟨fun q => by rcases Nat.lt_or_ge c 48 with g | g; exact g; exact absurd q (nI_nlt (by omega) (by omega)), fun q => nI_lt (by omega) (by omega)⟩
  have e2 : ((55 : Int32) < nI c) = (55 < c) := by show (nI 55 < nI c) = _; exact propext ⟨fun q => by rcases Nat.lt_or_ge 55 c with g | g; exact g; exact absurd q (nI_nlt (by omega) (by omega)), fun q => nI_lt (by omega) (by omega)⟩
  simp only [f_X1_fits, nm, ck_t (vin (N := 22) hk), cl (j := k), h, ↓reduceIte, rem3 hk, h3, a0, a1, e1, e2]
  repeat' split
  all_goals first | rfl | omega
theorem fits_2 {μ : Mem} {k c : Nat} (hk : k < 22) (h3 : k % 3 = 2) (h : μ 2 k = nI c) (hc : c ≤ 126) : f_X1_fits μ (nI k) (-1) = some (if (c = 44 ∧ (k + 1) / 3 < 6) ∨ (c = 59 ∧ 3 ≤ (k + 1) / 3) then 1 else 0) := by
  have a0 : (nI 2 = (0 : Int32)) = False := eq_false (by decide)
  have a1 : (nI 2 = (1 : Int32)) = False := eq_false (by decide)
  have e0 : (nI k + 1) / (3 : Int32) = nI ((k + 1) / 3) := by rw [nI_1]; show nI (k + 1) / nI 3 = _; exact pk_div (by omega) (by omega) (by omega)
  have q : ∀ v : Nat, v ≤ 126 → (nI c = nI v) = (c = v) := fun v hv => propext (nI_eq (by omega) (by omega))
  have e1 : (nI c = (44 : Int32)) = (c = 44) := q 44 (by omega)
  have e2 : (nI c = (59 : Int32)) = (c = 59) := q 59 (by omega)
  have e3 : ((6 : Int32) ≤ nI ((k + 1) / 3)) = (6 ≤ (k + 1) / 3) := by show (nI 6 ≤ nI ((k + 1) / 3)) = _; exact propext ⟨fun q => by rcases Nat.lt_or_ge ((k + 1) / 3) 6 with g | g; exact absurd q (nI_ge (by omega) (by omega)); exact g, fun q => nI_le (by omega) (by omega)⟩
  have e4 : (nI ((k + 1) / 3) < (3 : Int32)) = ((k + 1) / 3 < 3) := by show (nI ((k + 1) / 3) < nI 3) = _; exact propext ⟨fun q => by rcases Nat.lt_or_ge ((k + 1) / 3) 3 with g | g; exact g; exact absurd q (nI_nlt (by omega) (by omega)), fun q => nI_lt (by omega) (by omega)⟩
  simp only [f_X1_fits, f_X1_fitsBehind, nm, ck_t (vin (N := 22) hk), cl (j := k), h, ↓reduceIte, rem3 hk, h3, a0, a1, e0, e1, e2, e3, e4]
  repeat' split
  all_goals first | rfl | omega
theorem fits_e {μ : Mem} {k c e : Nat} (hk : k < 22) (he : e < 22) (h : μ 2 k = nI c) (hc : c ≤ 126) : f_X1_fits μ (nI k) (nI e) = some (if k = e + 1 ∧ (c = 48 ∨ c = 49) then 1 else 0) := by
  have a0 : (nI e = (-1 : Int32)) = False := eq_false (nI_nm1 (by omega))
  have q : ∀ v : Nat, v ≤ 126 → (nI c = nI v) = (c = v) := fun v hv => propext (nI_eq (by omega) (by omega))
  have e1 : (nI c = (48 : Int32)) = (c = 48) := q 48 (by omega)
  have e2 : (nI c = (49 : Int32)) = (c = 49) := q 49 (by omega)
  have e3 : (nI k = nI (e + 1)) = (k = e + 1) := propext (nI_eq (by omega) (by omega))
  simp only [f_X1_fits, nm, ck_t (vin (N := 22) hk), cl (j := k), h, ↓reduceIte, a0, nI_1, e1, e2, e3]
  repeat' split
  all_goals first | rfl | omega
/-! the reference's steps -/
theorem c48 {c : Nat} (hc : c ≤ 126) : (nI c - 48).toInt = (c : Int) - 48 := by
  show (nI c - nI 48).toInt = _
  exact pk_sub_toInt (by omega) (by omega)
theorem go_0 {ν : MM} {q c : Nat} (h5 : ν.1 0 5 = nI 0) (h3 : ν.1 0 3 = nI q) (hq : q < 6) (hc : c ≤ 126) : f_X4_go ν (nI c) = some (upM (upM ν 0 5 (nI 1)) 2 (2 * q) (if kc c < 5 then nI (kc c) else -1), if kc c < 5 then 1 else 0) := by
  have a0 : (nI 0 = (0 : Int32)) = True := eq_true rfl
  simp (disch := omega) only [f_X4_go, nm, h5, nI_1, a0, ↓reduceIte, kindBy_e hc, upM_1, up_k, h3, ix2, ck_t (vin (N := 12) (show 2 * q < 12 by omega)), cl (j := 2 * q)]
  by_cases g : kc c < 5
  · have d : (nI (kc c) = (-1 : Int32)) = False := eq_false (nI_nm1 (by omega))
    simp only [g, ↓reduceIte, d]
  · simp only [g, ↓reduceIte]
theorem go_1 {ν : MM} {q c : Nat} (h5 : ν.1 0 5 = nI 1) (h3 : ν.1 0 3 = nI q) (hq : q < 6) (hc : c ≤ 126) : f_X4_go ν (nI c) = some (upM (upM (upM ν 0 5 (nI 2)) 2 (2 * q + 1) (nI c - 48)) 0 3 (nI (q + 1)), if 48 ≤ c ∧ c ≤ 55 then 1 else 0) := by
  have a0 : (nI 1 = (0 : Int32)) = False := eq_false (by decide)
  have a1 : (nI 1 = (1 : Int32)) = True := eq_true rfl
  have hin : ∀ μ : MM, f_X4_in μ (nI c - 48).toInt64 0 7 = if 48 ≤ c ∧ c ≤ 55 then 1 else 0 := fun μ => by
    by_cases g : 48 ≤ c ∧ c ≤ 55
    · rw [if_pos g]
      exact in_t (by rw [c48 hc]; show (0 : Int) ≤ _; omega) (by rw [c48 hc]; show _ ≤ (7 : Int); omega)
    · rw [if_neg g]
      exact in_f (by rw [c48 hc]; show ¬ ((0 : Int) ≤ _ ∧ _ ≤ (7 : Int)); omega)
  simp (disch := omega) only [f_X4_go, nm, h5, nI_1, a0, a1, ↓reduceIte, upM_1, up_k, up_c, h3, ix2, ck_t (vin (N := 12) (show 2 * q + 1 < 12 by omega)), cl (j := 2 * q + 1), hin]
theorem go_2 {ν : MM} {q c : Nat} (h5 : ν.1 0 5 = nI 2) (h3 : ν.1 0 3 = nI q) (hq : q ≤ 6) (hc : c ≤ 126) : f_X4_go ν (nI c) = some (upM (upM ν 0 5 (nI 3)) 0 5 (if c = 44 then 0 else 3), if (c = 44 ∧ q < 6) ∨ (c = 59 ∧ 3 ≤ q) then 1 else 0) := by
  have a0 : (nI 2 = (0 : Int32)) = False := eq_false (by decide)
  have a1 : (nI 2 = (1 : Int32)) = False := eq_false (by decide)
  have a2 : (nI 2 = (2 : Int32)) = True := eq_true rfl
  have q' : ∀ v : Nat, v ≤ 126 → (nI c = nI v) = (c = v) := fun v hv => propext (nI_eq (by omega) (by omega))
  have e1 : (nI c = (44 : Int32)) = (c = 44) := q' 44 (by omega)
  have e2 : (nI c = (59 : Int32)) = (c = 59) := q' 59 (by omega)
  have e3 : ((6 : Int32) ≤ nI q) = (6 ≤ q) := by show (nI 6 ≤ nI q) = _; exact propext ⟨fun g => by rcases Nat.lt_or_ge q 6 with z | z; exact absurd g (nI_ge (by omega) (by omega)); exact z, fun g => nI_le (by omega) (by omega)⟩
  have e4 : (nI q ≤ (2 : Int32)) = (q ≤ 2) := by show (nI q ≤ nI 2) = _; exact propext ⟨fun g => by rcases Nat.lt_or_ge 2 q with z | z; exact absurd g (nI_ge (by omega) (by omega)); exact z, fun g => nI_le (by omega) (by omega)⟩
  simp (disch := omega) only [f_X4_go, g_X4_go_109, nm, h5, nI_1, a0, a1, a2, ↓reduceIte, upM_1, up_k, h3, e1, e2, e3, e4]
  by_cases g1 : c = 44
  · subst g1
    by_cases g2 : q < 6
    · have p : (44 = 44 ∧ q < 6) ∨ (44 = 59 ∧ 3 ≤ q) := Or.inl ⟨rfl, g2⟩
      rw [if_pos p]; simp [show ¬ 6 ≤ q by omega]
    · have p : ¬ ((44 = 44 ∧ q < 6) ∨ (44 = 59 ∧ 3 ≤ q)) := by omega
      rw [if_neg p]; simp [show 6 ≤ q by omega]
  · by_cases g3 : c = 59
    · subst g3
      by_cases g2 : q ≤ 2
      · have p : ¬ ((59 = 44 ∧ q < 6) ∨ (59 = 59 ∧ 3 ≤ q)) := by omega
        rw [if_neg p]; simp [g2]
      · have p : (59 = 44 ∧ q < 6) ∨ (59 = 59 ∧ 3 ≤ q) := by omega
        rw [if_pos p]; simp [g2]
    · have p : ¬ ((c = 44 ∧ q < 6) ∨ (c = 59 ∧ 3 ≤ q)) := by omega
      rw [if_neg p]; simp [g1, g3]
theorem go_3 {ν : MM} {c : Nat} (h5 : ν.1 0 5 = nI 3) (hc : c ≤ 126) : f_X4_go ν (nI c) = some (upM (upM ν 0 5 (nI 4)) 0 4 (nI c - 48), if c = 48 ∨ c = 49 then 1 else 0) := by
  have a0 : (nI 3 = (0 : Int32)) = False := eq_false (by decide)
  have a1 : (nI 3 = (1 : Int32)) = False := eq_false (by decide)
  have a2 : (nI 3 = (2 : Int32)) = False := eq_false (by decide)
  have hin : ∀ μ : MM, f_X4_in μ (nI c - 48).toInt64 0 1 = if c = 48 ∨ c = 49 then 1 else 0 := fun μ => by
    by_cases g : c = 48 ∨ c = 49
    · rw [if_pos g]
      exact in_t (by rw [c48 hc]; show (0 : Int) ≤ _; omega) (by rw [c48 hc]; show _ ≤ (1 : Int); omega)
    · rw [if_neg g]
      exact in_f (by rw [c48 hc]; show ¬ ((0 : Int) ≤ _ ∧ _ ≤ (1 : Int)); omega)
  simp (disch := omega) only [f_X4_go, nm, h5, nI_1, a0, a1, a2, d33, ↓reduceIte, hin]
  by_cases g : c = 48 ∨ c = 49
  · simp only [g, ↓reduceIte, i10]
  · simp only [g, ↓reduceIte]
theorem go_4 {ν : MM} {c : Nat} (h5 : ν.1 0 5 = nI 4) : f_X4_go ν (nI c) = some (upM (upM ν 0 5 (nI 5)) 0 4 (nI c - 48), 0) := by
  have a0 : (nI 4 = (0 : Int32)) = False := eq_false (by decide)
  have a1 : (nI 4 = (1 : Int32)) = False := eq_false (by decide)
  have a2 : (nI 4 = (2 : Int32)) = False := eq_false (by decide)
  have a3 : (nI 4 = (3 : Int32)) = False := eq_false (by decide)
  simp (disch := omega) only [f_X4_go, nm, h5, nI_1, a0, a1, a2, a3, ↓reduceIte]
