/-! the least bit -/
theorem low_bit {X j : Nat} (hj : X.testBit j = true) (hl : ∀ i, i < j → X.testBit i = false) : X = 2 ^ (j + 1) * (X / 2 ^ (j + 1)) + 2 ^ j := by
  have h : X % 2 ^ (j + 1) = 2 ^ j := by
    apply Nat.eq_of_testBit_eq
    intro i
    rw [Nat.testBit_mod_two_pow, Nat.testBit_two_pow]
    rcases Nat.lt_trichotomy i j with h | h | h
    · rw [hl i h]; simp; omega
    · subst h; simp [hj]
    · have a1 : ¬ i < j + 1 := by omega
      have a2 : ¬ j = i := by omega
      simp [a1, a2]
  have := Nat.div_add_mod X (2 ^ (j + 1))
  rw [h] at this
  exact this.symm
theorem low_mask {X j : Nat} (hX : X < 2 ^ 32) (hj : X.testBit j = true) (hl : ∀ i, i < j → X.testBit i = false) : (X ^^^ (2 ^ 32 - 1)) &&& (X - 1) = 2 ^ j - 1 := by
  have hx := low_bit hj hl
  obtain ⟨t, et⟩ : ∃ t, t = X / 2 ^ (j + 1) := ⟨_, rfl⟩
  rw [← et] at hx
  have hp : 0 < 2 ^ j := Nat.two_pow_pos j
  have hpp : 2 ^ (j + 1) = 2 ^ j * 2 := Nat.pow_succ 2 j
  have h1 : X - 1 = 2 ^ (j + 1) * t + (2 ^ j - 1) := by omega
  apply Nat.eq_of_testBit_eq
  intro i
  rw [Nat.testBit_and, Nat.testBit_xor, Nat.testBit_two_pow_sub_one, Nat.testBit_two_pow_sub_one, h1, Nat.testBit_two_pow_mul_add _ (by omega), Nat.testBit_two_pow_sub_one]
  by_cases h : i < j + 1
  · rw [if_pos h]
    by_cases e : i < j
    · have h32 : i < 32 := by
        rcases Nat.lt_or_ge i 32 with q | q
        · exact q
        · have := Nat.testBit_lt_two_pow (Nat.lt_of_lt_of_le hX (Nat.pow_le_pow_right (by omega) (show 32 ≤ j by omega)))
          rw [hj] at this
          exact absurd this (by decide)
      rw [hl i e]; simp [e, h32]
    · simp [e]
  · rw [if_neg h]
    have hi : X.testBit i = t.testBit (i - (j + 1)) := by
      rw [hx, Nat.testBit_two_pow_mul_add _ (by omega), if_neg h]
    rw [← hi]
    have e : ¬ i < j := by omega
    rcases Nat.lt_or_ge i 32 with q | q
    · simp [q, e]
      
    · have := Nat.testBit_lt_two_pow (Nat.lt_of_lt_of_le hX (Nat.pow_le_pow_right (by omega) q))
      rw [this]; simp [e]
theorem ntz_mu (μ : Mem) (x : Int32) : f_J6_numberOfTrailingZeros_0f7a4 μ x = f_J6_numberOfTrailingZeros_0f7a4 (fun _ _ => 0) x := rfl
theorem ntz_pow : ∀ j : Fin 32, f_J6_numberOfTrailingZeros_0f7a4 (fun _ _ => 0) (nI (2 ^ j.1)) = nI j.1 := by decide +kernel
theorem m1_nI : (-1 : Int32) = nI (2 ^ 32 - 1) := by decide
theorem ntz_v {X j : Nat} (hX : X < 2 ^ 32) (hj : X.testBit j = true) (hl : ∀ i, i < j → X.testBit i = false) : (nI X ^^^ (-1 : Int32)) &&& (nI X - 1) = nI (2 ^ j - 1) := by
  have h0 : 1 ≤ X := by
    rcases Nat.eq_zero_or_pos X with h | h
    · rw [h, Nat.zero_testBit] at hj
      exact absurd hj (by decide)
    · exact h
  have e1 : nI X - 1 = nI (X - 1) := show nI X - nI 1 = _ from pk_sub h0
  rw [e1, m1_nI, fb_xorI, fa_and, low_mask hX hj hl]
theorem ntz32 {μ : Mem} {X j : Nat} (hX : X < 2 ^ 32) (hj : X.testBit j = true) (hl : ∀ i, i < j → X.testBit i = false) : f_J6_numberOfTrailingZeros_0f7a4 μ (nI X) = nI j := by
  have h32 : j < 32 := by
    rcases Nat.lt_or_ge j 32 with q | q
    · exact q
    · have := Nat.testBit_lt_two_pow (Nat.lt_of_lt_of_le hX (Nat.pow_le_pow_right (by omega) q))
      rw [hj] at this
      exact absurd this (by decide)
  have e : f_J6_numberOfTrailingZeros_0f7a4 μ (nI X) = f_J6_numberOfTrailingZeros_0f7a4 μ (nI (2 ^ j)) := by
    unfold f_J6_numberOfTrailingZeros_0f7a4
    rw [ntz_v hX hj hl, ntz_v (Nat.pow_lt_pow_right (by omega) h32) (by rw [Nat.testBit_two_pow_self]) (fun i hi => by rw [Nat.testBit_two_pow]; simp; omega)]
  rw [e, ntz_mu]
  exact ntz_pow ⟨j, h32⟩
theorem nI_mod (n : Nat) : nI n = nI (n % 2 ^ 32) := by
  apply Int32.toBitVec_inj.mp
  apply BitVec.eq_of_toNat_eq
  show n % 2 ^ 32 = n % 2 ^ 32 % 2 ^ 32
  omega
theorem ntz64 {μ : Mem} {n j : Nat} (hn : n < 2 ^ 40) (hj : n.testBit j = true) (hl : ∀ i, i < j → n.testBit i = false) : f_J13_numberOfTrailingZeros_95d88 μ (lN n) = nI j := by
  unfold f_J13_numberOfTrailingZeros_95d88 nm
  dsimp only
  rw [lN_cut, nI_mod, lushr (by omega) 32 32 (by decide), lN_cut]
  have hm : ∀ i, (n % 2 ^ 32).testBit i = (decide (i < 32) && n.testBit i) := fun i => Nat.testBit_mod_two_pow n 32 i
  rcases Nat.lt_or_ge j 32 with h | h
  · have g1 : (n % 2 ^ 32).testBit j = true := by rw [hm, hj]; simp [h]
    have g2 : ∀ i, i < j → (n % 2 ^ 32).testBit i = false := fun i hi => by rw [hm, hl i hi]; simp
    have ne : ¬ nI (n % 2 ^ 32) = 0 := fun e => by
      have : (nI (n % 2 ^ 32)).toBitVec.toNat = 0 := by rw [e]; rfl
      rw [pk_tn (by omega)] at this
      rw [this, Nat.zero_testBit] at g1
      exact absurd g1 (by decide)
    rw [if_neg ne, ntz32 (by omega) g1 g2]
  · have z : n % 2 ^ 32 = 0 := by
      apply Nat.eq_of_testBit_eq
      intro i
      rw [hm, Nat.zero_testBit]
      rcases Nat.lt_or_ge i 32 with q | q
      · rw [hl i (by omega)]; simp
      · have : ¬ i < 32 := by omega
        simp [this]
    have hd : ∀ i, (n / 2 ^ 32).testBit i = n.testBit (i + 32) := fun i => Nat.testBit_div_two_pow n i
    rw [z, if_pos (show nI 0 = 0 from rfl), ntz32 (j := j - 32) (by omega) (by rw [hd, show j - 32 + 32 = j by omega]; exact hj) (fun i hi => by rw [hd]; exact hl _ (by omega))]
    show nI 32 + nI (j - 32) = nI j
    rw [nI_add]
    exact congrArg nI (by omega)
/-! a mask of those with a property -/
def bm (p : Nat → Bool) : Nat → Nat
  | 0 => 0
  | k + 1 => if p k then bm p k ||| 2 ^ k else bm p k
theorem bm_bit (p : Nat → Bool) (k i : Nat) : (bm p k).testBit i = (decide (i < k) && p i) := by
  induction k with
  | zero => simp [bm]
  | succ k ih =>
    rw [bm]
    by_cases h : p k = true
    · rw [if_pos h, fb_bit_set, ih]
      rcases Nat.lt_trichotomy i k with q | q | q
      · have a1 : i < k + 1 := by omega
        have a2 : ¬ i = k := by omega
        simp [q, a1, a2]
      · subst q; simp [h]
      · have a1 : ¬ i < k + 1 := by omega
        have a2 : ¬ i = k := by omega
        have a3 : ¬ i < k := by omega
        simp [a1, a2, a3]
    · rw [if_neg h, ih]
      have h : p k = false := by simpa using h
      rcases Nat.lt_trichotomy i k with q | q | q
      · have a1 : i < k + 1 := by omega
        simp [q, a1]
      · subst q; simp [h]
      · have a1 : ¬ i < k + 1 := by omega
        have a3 : ¬ i < k := by omega
        simp [a1, a3]
theorem bm_lt (p : Nat → Bool) (k : Nat) : bm p k < 2 ^ k := by
  apply Nat.lt_pow_two_of_testBit
  intro i hi
  rw [bm_bit]
  have : ¬ i < k := by omega
  simp [this]
theorem bm_ct (p : Nat → Bool) : fb_ct (bm p 40).testBit 40 = fb_ct p 40 := fb_ct_cong (fun k hk => by rw [bm_bit]; simp [hk])
theorem bm_count {μ : Mem} (p : Nat → Bool) : f_J13_bitCount_95d88 μ (lN (bm p 40)) = nI (fb_ct p 40) := by rw [bitCount_e (bm_lt p 40), bm_ct]
theorem bm_or {p : Nat → Bool} {k : Nat} (hk : k < 40) : lN (bm p (k + 1)) = if p k then lN (bm p k) ||| ((1 : Int64) <<< ((nI k).toInt64 &&& 63)) else lN (bm p k) := by
  rw [bm, lshl hk]
  split
  · rw [fb_orL]
  · rfl
/-- the least with a property, as the class tells it -/
theorem least_e {μ : Mem} {p : Nat → Bool} {r : Int32} (h : (r = -1 ∧ ∀ i, i < 40 → p i = false) ∨ ∃ j, j < 40 ∧ r = nI j ∧ p j = true ∧ ∀ i, i < j → p i = false) : f_X3_leastOf μ (lN (bm p 40)) = r := by
  have z : ∀ x y : Int64, (lg_cmp x y = 0) = (x = y) := fun x y => propext (lg_cmp_eq x y)
  unfold f_X3_leastOf nm
  simp only [z]
  rcases h with ⟨rfl, h⟩ | ⟨j, hj, rfl, h1, h2⟩
  · have e : bm p 40 = 0 := by
      apply Nat.eq_of_testBit_eq
      intro i
      rw [bm_bit, Nat.zero_testBit]
      by_cases q : i < 40
      · rw [h i q]; simp
      · simp [q]
    rw [e, if_pos (show lN 0 = 0 from rfl)]
  · have g1 : (bm p 40).testBit j = true := by rw [bm_bit, h1]; simp [hj]
    have g2 : ∀ i, i < j → (bm p 40).testBit i = false := fun i hi => by rw [bm_bit, h2 i hi]; simp
    have hb := bm_lt p 40
    rw [if_neg, ntz64 hb g1 g2]
    intro e
    have e : lN (bm p 40) = lN 0 := e
    rw [fb_lN_inj (by omega) (by omega)] at e
    rw [e, Nat.zero_testBit] at g1
    exact absurd g1 (by decide)
