/-! bits of longs -/
theorem lushr {n : Nat} (hn : n < 2 ^ 63) (s : Int32) (k : Nat) (hs : ((s.toInt64.toUInt64 &&& Int64.toUInt64 63).toBitVec % 64).toNat = k) : ((lN n).toUInt64 >>> (s.toInt64.toUInt64 &&& Int64.toUInt64 63)).toInt64 = lN (n / 2 ^ k) := by
  apply Int64.toBitVec_inj.mp
  apply BitVec.eq_of_toNat_eq
  have e : ((lN n).toUInt64 >>> (s.toInt64.toUInt64 &&& Int64.toUInt64 63)).toInt64.toBitVec = (lN n).toBitVec >>> k := by
    rw [← hs]
    exact UInt64.toBitVec_shiftRight _ _
  have t : ∀ m : Nat, m < 2 ^ 63 → (lN m).toBitVec.toNat = m := fun m hm => Nat.mod_eq_of_lt (by omega)
  rw [e, BitVec.toNat_ushiftRight, Nat.shiftRight_eq_div_pow, t n hn, t _ (Nat.lt_of_le_of_lt (Nat.div_le_self _ _) hn)]
theorem lshl {k : Nat} (hk : k < 40) : (1 : Int64) <<< ((nI k).toInt64 &&& 63) = lN (2 ^ k) := by
  have : ∀ k : Fin 40, (1 : Int64) <<< ((nI k.1).toInt64 &&& 63) = lN (2 ^ k.1) := by decide
  exact this ⟨k, hk⟩
theorem lN_cut (n : Nat) : (lN n).toInt32 = nI n := by
  apply Int32.toBitVec_inj.mp
  apply BitVec.eq_of_toNat_eq
  show ((BitVec.ofNat 64 n).signExtend 32).toNat = (BitVec.ofNat 32 n).toNat
  rw [BitVec.signExtend_eq_setWidth_of_le _ (by omega), BitVec.toNat_setWidth, BitVec.toNat_ofNat, BitVec.toNat_ofNat]
  omega
/-! the count of bits, eight at a time -/
def M5 : Nat → Nat
  | 0 => 0
  | k + 1 => 256 * M5 k + 0x55
def M3 : Nat → Nat
  | 0 => 0
  | k + 1 => 256 * M3 k + 0x33
def M0 : Nat → Nat
  | 0 => 0
  | k + 1 => 256 * M0 k + 0x0f
theorem and256 (n q m : Nat) (hm : m < 256) : n &&& (256 * q + m) = 256 * ((n / 256) &&& q) + ((n % 256) &&& m) := by
  have h1 : (n &&& (256 * q + m)) / 256 = (n / 256) &&& q := by
    have := Nat.and_div_two_pow (a := n) (b := 256 * q + m) (n := 8)
    rw [show (2 : Nat) ^ 8 = 256 from rfl] at this
    rw [this, show (256 * q + m) / 256 = q by omega]
  have h2 : (n &&& (256 * q + m)) % 256 = (n % 256) &&& m := by
    have := Nat.and_mod_two_pow (a := n) (b := 256 * q + m) (n := 8)
    rw [show (2 : Nat) ^ 8 = 256 from rfl] at this
    rw [this, show (256 * q + m) % 256 = m by omega]
  have := Nat.div_add_mod (n &&& (256 * q + m)) 256
  rw [h1, h2] at this
  exact this.symm
def s1 (k n : Nat) : Nat := n - ((n / 2) &&& M5 k)
def s2 (k n : Nat) : Nat := (n &&& M3 k) + ((n / 4) &&& M3 k)
def s3 (k n : Nat) : Nat := (n + n / 16) &&& M0 k
def t1 (b : Nat) : Nat := b - ((b / 2) &&& 0x55)
def t2 (b : Nat) : Nat := (b &&& 0x33) + ((b / 4) &&& 0x33)
theorem k55 : ∀ d : Fin 2, ∀ c : Fin 128, (128 * d.1 + c.1) &&& 0x55 = c.1 &&& 0x55 := by decide
theorem k33 : ∀ d : Fin 4, ∀ c : Fin 64, (64 * d.1 + c.1) &&& 0x33 = c.1 &&& 0x33 := by decide
theorem s1_d (k q b : Nat) (hb : b < 256) : s1 (k + 1) (256 * q + b) = 256 * s1 k q + t1 b := by
  unfold s1 t1
  rw [show M5 (k + 1) = 256 * M5 k + 0x55 from rfl, and256 _ _ _ (by omega), show (256 * q + b) / 2 / 256 = q / 2 by omega, show (256 * q + b) / 2 % 256 = 128 * (q % 2) + b / 2 by omega]
  have h := k55 ⟨q % 2, by omega⟩ ⟨b / 2, by omega⟩
  have h : (128 * (q % 2) + b / 2) &&& 0x55 = (b / 2) &&& 0x55 := h
  rw [h]
  have l1 : (q / 2) &&& M5 k ≤ q / 2 := Nat.and_le_left
  have l2 : (b / 2) &&& 0x55 ≤ b / 2 := Nat.and_le_left
  omega
theorem s2_d (k q b : Nat) (hb : b < 256) : s2 (k + 1) (256 * q + b) = 256 * s2 k q + t2 b := by
  unfold s2 t2
  rw [show M3 (k + 1) = 256 * M3 k + 0x33 from rfl, and256 _ _ _ (by omega), and256 _ _ _ (by omega), show (256 * q + b) / 4 / 256 = q / 4 by omega, show (256 * q + b) / 4 % 256 = 64 * (q % 4) + b / 4 by omega, show (256 * q + b) / 256 = q by omega, show (256 * q + b) % 256 = b by omega]
  have h := k33 ⟨q % 4, by omega⟩ ⟨b / 4, by omega⟩
  have h : (64 * (q % 4) + b / 4) &&& 0x33 = (b / 4) &&& 0x33 := h
  rw [h]
  omega
theorem s3_d (k q b : Nat) (h1 : b % 16 ≤ 4) (h2 : b / 16 ≤ 4) (h3 : q % 16 ≤ 4) : s3 (k + 1) (256 * q + b) = 256 * s3 k q + (b % 16 + b / 16) := by
  unfold s3
  rw [show M0 (k + 1) = 256 * M0 k + 0x0f from rfl, and256 _ _ _ (by omega), show (256 * q + b + (256 * q + b) / 16) / 256 = q + q / 16 by omega]
  have e : (256 * q + b + (256 * q + b) / 16) % 256 &&& 0x0f = (256 * q + b + (256 * q + b) / 16) % 256 % 16 := Nat.and_two_pow_sub_one_eq_mod _ 4
  rw [e, show (256 * q + b + (256 * q + b) / 16) % 256 % 16 = b % 16 + b / 16 by omega]
theorem t12 : ∀ b : Fin 256, t2 (t1 b.1) < 256 ∧ t1 b.1 < 256 ∧ t2 (t1 b.1) % 16 ≤ 4 ∧ t2 (t1 b.1) / 16 ≤ 4 ∧ t2 (t1 b.1) % 16 + t2 (t1 b.1) / 16 = fb_ct b.1.testBit 8 := by decide +kernel
def s123 (k n : Nat) : Nat := s3 k (s2 k (s1 k n))
theorem s12_d (k q b : Nat) (hb : b < 256) : s2 (k + 1) (s1 (k + 1) (256 * q + b)) = 256 * s2 k (s1 k q) + t2 (t1 b) := by
  rw [s1_d k q b hb, s2_d k _ _ (t12 ⟨b, hb⟩).2.1]
theorem s12_n (k q : Nat) (h : q = 0 ∨ ∃ j, k = j + 1) : s2 k (s1 k q) % 16 ≤ 4 := by
  rcases h with rfl | ⟨j, rfl⟩
  · have e1 : s1 k 0 = 0 := by unfold s1; omega
    have e2 : s2 k 0 = 0 := by unfold s2; simp
    rw [e1, e2]; omega
  · have e : q = 256 * (q / 256) + q % 256 := by omega
    rw [e, s12_d j _ _ (by omega)]
    have := (t12 ⟨q % 256, by omega⟩).2.2.1
    have this : t2 (t1 (q % 256)) % 16 ≤ 4 := this
    omega
theorem s123_d (k q b : Nat) (hb : b < 256) (h : q = 0 ∨ ∃ j, k = j + 1) : s123 (k + 1) (256 * q + b) = 256 * s123 k q + fb_ct b.testBit 8 := by
  unfold s123
  obtain ⟨g1, g2, g3, g4, g5⟩ := t12 ⟨b, hb⟩
  rw [s12_d k q b hb, s3_d k _ _ g3 g4 (s12_n k q h)]
  exact congrArg _ g5
theorem ct_byte (n m : Nat) : fb_ct n.testBit (8 + m) = fb_ct (n % 256).testBit 8 + fb_ct (n / 256).testBit m := by
  rw [fb_ct_split]
  have e1 : fb_ct n.testBit 8 = fb_ct (n % 256).testBit 8 := fb_ct_cong (fun k hk => by
    rw [show (256 : Nat) = 2 ^ 8 from rfl, Nat.testBit_mod_two_pow]
    simp [hk])
  have e2 : fb_ct (fun k => n.testBit (8 + k)) m = fb_ct (n / 256).testBit m := fb_ct_cong (fun k hk => by
    rw [show (256 : Nat) = 2 ^ 8 from rfl, Nat.testBit_div_two_pow, Nat.add_comm])
  rw [e1, e2]
theorem s123_0 (k : Nat) : s123 k 0 = 0 := by
  unfold s123
  have e1 : s1 k 0 = 0 := by unfold s1; omega
  have e2 : s2 k 0 = 0 := by unfold s2; simp
  have e3 : s3 k 0 = 0 := by unfold s3; simp
  rw [e1, e2, e3]
theorem swar {n : Nat} (hn : n < 2 ^ 40) : ∃ a b c d e, a ≤ 8 ∧ b ≤ 8 ∧ c ≤ 8 ∧ d ≤ 8 ∧ e ≤ 8 ∧ s123 8 n = a + 256 * b + 65536 * c + 16777216 * d + 4294967296 * e ∧ fb_ct n.testBit 40 = a + b + c + d + e := by
  have z : ∀ m, n / m = n / m := fun _ => rfl
  obtain ⟨n1, e1⟩ : ∃ x, x = n / 256 := ⟨_, rfl⟩
  obtain ⟨n2, e2⟩ : ∃ x, x = n1 / 256 := ⟨_, rfl⟩
  obtain ⟨n3, e3⟩ : ∃ x, x = n2 / 256 := ⟨_, rfl⟩
  obtain ⟨n4, e4⟩ : ∃ x, x = n3 / 256 := ⟨_, rfl⟩
  have h5 : n4 < 256 := by omega
  have g0 : s123 8 (256 * n1 + n % 256) = _ := s123_d 7 n1 (n % 256) (by omega) (Or.inr ⟨6, rfl⟩)
  have g1 : s123 7 (256 * n2 + n1 % 256) = _ := s123_d 6 n2 (n1 % 256) (by omega) (Or.inr ⟨5, rfl⟩)
  have g2 : s123 6 (256 * n3 + n2 % 256) = _ := s123_d 5 n3 (n2 % 256) (by omega) (Or.inr ⟨4, rfl⟩)
  have g3 : s123 5 (256 * n4 + n3 % 256) = _ := s123_d 4 n4 (n3 % 256) (by omega) (Or.inr ⟨3, rfl⟩)
  have g4 : s123 4 (256 * 0 + n4 % 256) = _ := s123_d 3 0 (n4 % 256) (by omega) (Or.inl rfl)
  rw [show 256 * n1 + n % 256 = n by omega] at g0
  rw [show 256 * n2 + n1 % 256 = n1 by omega] at g1
  rw [show 256 * n3 + n2 % 256 = n2 by omega] at g2
  rw [show 256 * n4 + n3 % 256 = n3 by omega] at g3
  rw [show 256 * 0 + n4 % 256 = n4 by omega, s123_0] at g4
  have f0 : fb_ct n.testBit 40 = _ := ct_byte n 32
  have f1 : fb_ct n1.testBit 32 = _ := ct_byte n1 24
  have f2 : fb_ct n2.testBit 24 = _ := ct_byte n2 16
  have f3 : fb_ct n3.testBit 16 = _ := ct_byte n3 8
  have f4 : fb_ct n4.testBit 8 = _ := ct_byte n4 0
  rw [← e1] at f0
  rw [← e2] at f1
  rw [← e3] at f2
  rw [← e4] at f3
  have z4 : fb_ct (n4 / 256).testBit 0 = 0 := rfl
  have q : ∀ x : Nat, fb_ct x.testBit 8 ≤ 8 := fun x => fb_ct_le _ 8
  refine ⟨_, _, _, _, _, q (n % 256), q (n1 % 256), q (n2 % 256), q (n3 % 256), q (n4 % 256), ?_, ?_⟩
  · omega
  · omega
theorem bitCount_e {μ : Mem} {n : Nat} (hn : n < 2 ^ 40) : f_J13_bitCount_95d88 μ (lN n) = nI (fb_ct n.testBit 40) := by
  obtain ⟨a, b, c, d, e, ha, hb, hc, hd, he, hs, hf⟩ := swar hn
  have m5 : (6148914691236517205 : Int64) = lN (M5 8) := (fa_litL _).trans (congrArg lN (by decide))
  have m3 : (3689348814741910323 : Int64) = lN (M3 8) := (fa_litL _).trans (congrArg lN (by decide))
  have mf : (1085102592571150095 : Int64) = lN (M0 8) := (fa_litL _).trans (congrArg lN (by decide))
  have l1 : (n / 2) &&& M5 8 ≤ n / 2 := Nat.and_le_left
  have w1 : s1 8 n ≤ n := by unfold s1; omega
  have w2 : s2 8 (s1 8 n) ≤ 2 * s1 8 n := by
    unfold s2
    have u1 : s1 8 n &&& M3 8 ≤ s1 8 n := Nat.and_le_left
    have u2 : s1 8 n / 4 &&& M3 8 ≤ s1 8 n / 4 := Nat.and_le_left
    omega
  unfold f_J13_bitCount_95d88 nm
  dsimp only
  rw [lushr (by omega) 1 1 (by decide), m5, fb_andL, lN_sub (show (n / 2 ^ 1) &&& M5 8 ≤ n from Nat.le_trans l1 (Nat.div_le_self _ _))]
  rw [show n - (n / 2 ^ 1 &&& M5 8) = s1 8 n from rfl, lushr (by omega) 2 2 (by decide), m3, fb_andL, fb_andL, lN_add]
  rw [show (s1 8 n &&& M3 8) + (s1 8 n / 2 ^ 2 &&& M3 8) = s2 8 (s1 8 n) from rfl, lushr (by omega) 4 4 (by decide), lN_add, mf, fb_andL]
  rw [show (s2 8 (s1 8 n) + s2 8 (s1 8 n) / 2 ^ 4) &&& M0 8 = s123 8 n from rfl]
  obtain ⟨v, ev⟩ : ∃ v, v = s123 8 n := ⟨_, rfl⟩
  rw [← ev] at hs ⊢
  rw [lushr (by omega) 8 8 (by decide), lN_add, lushr (by omega) 16 16 (by decide), lN_add, lushr (by omega) 32 32 (by decide), lN_add, lN_cut]
  rw [show (127 : Int32) = nI (2 ^ 7 - 1) from rfl, fa_mask]
  refine congrArg nI ?_
  rw [hf]
  have x1 : v / 2 ^ 8 = b + 256 * c + 65536 * d + 16777216 * e := by omega
  have x2 : (v + v / 2 ^ 8) / 2 ^ 16 = (c + d) + 256 * (d + e) + 65536 * e := by rw [x1]; omega
  have x3 : (v + v / 2 ^ 8 + (v + v / 2 ^ 8) / 2 ^ 16) / 2 ^ 32 = e := by rw [x2, x1]; omega
  rw [x3, x2, x1]
  omega
