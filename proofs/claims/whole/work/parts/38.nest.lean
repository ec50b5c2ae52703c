/-! nestlings: bits -/
def bq (q i : Nat) : Nat := q / 2 ^ i % 2
theorem bq_i {q i : Nat} (hq : q < 64) (hi : i < 6) : (nI q >>> (nI i &&& 31)) &&& (1 : Int32) = nI (bq q i) := by
  have : ∀ q : Fin 64, ∀ i : Fin 6, (nI q.1 >>> (nI i.1 &&& 31)) &&& (1 : Int32) = nI (bq q.1 i.1) := by decide +kernel
  exact this ⟨q, hq⟩ ⟨i, hi⟩
theorem bq_lt (q i : Nat) : bq q i < 2 := Nat.mod_lt _ (by omega)
def sb (q x : Nat) : Bool := decide ((nI x &&& (nI q ^^^ (-1 : Int32))) = 0)
theorem sb_hi {q x : Nat} (hq : q < 64) (hx : x < 64) (h : q < x) : sb q x = false := by
  have : ∀ q : Fin 64, ∀ x : Fin 64, q.1 < x.1 → sb q.1 x.1 = false := by decide +kernel
  exact this ⟨q, hq⟩ ⟨x, hx⟩ h
theorem sb_ct {n q : Nat} (hn : n ≤ 6) (hq : q < 2 ^ n) : fb_ct (sb q) (2 ^ n) = 2 ^ fb_ct q.testBit 6 := by
  have : ∀ n : Fin 7, ∀ q : Fin 64, q.1 < 2 ^ n.1 → fb_ct (sb q.1) (2 ^ n.1) = 2 ^ fb_ct q.1.testBit 6 := by decide +kernel
  have h64 := pow_le6 hn
  exact this ⟨n, by omega⟩ ⟨q, by omega⟩ hq
theorem bc6 {μ : Mem} {q : Nat} (hq : q < 64) : f_J6_bitCount_0f7a4 μ (nI q) = nI (fb_ct q.testBit 6) := by
  have : ∀ q : Fin 64, f_J6_bitCount_0f7a4 (fun _ _ => 0) (nI q.1) = nI (fb_ct q.1.testBit 6) := by decide +kernel
  exact this ⟨q, hq⟩
theorem shl_n {n : Nat} (hn : n ≤ 6) : (1 : Int32) <<< (nI n &&& 31) = nI (2 ^ n) := by
  have : ∀ n : Fin 7, (1 : Int32) <<< (nI n.1 &&& 31) = nI (2 ^ n.1) := by decide +kernel
  exact this ⟨n, by omega⟩
/-! halving, and the greatest common divisor -/
def hv (h : Nat) : Nat → Nat × Nat
  | 0 => (h, 0)
  | b + 1 => if h % 2 = 0 then hv (h / 2) b else (h, b + 1)
theorem hv_gcd : ∀ b : Fin 7, ∀ h : Fin 65, h.1 ≤ 2 ^ b.1 → (hv h.1 b.1).1 = h.1 / Nat.gcd h.1 (2 ^ b.1) ∧ 2 ^ (hv h.1 b.1).2 = 2 ^ b.1 / Nat.gcd h.1 (2 ^ b.1) ∧ (hv h.1 b.1).2 ≤ 6 := by decide +kernel
theorem hv_e {μ : Mem} {x5 : Int32} : ∀ (b n h : Nat), b < n → b ≤ 6 → h < 2 ^ 31 → lp (fun ih σ => b_X3_nestlings_77 μ x5 ih σ.1 σ.2) n (nI h, nI b) = g_X3_nestlings_101 μ x5 (nI (hv h b).1) (nI (hv h b).2)
  | 0, n + 1, h, _, _, _ => by
    have c1 : nI 0 ≤ (0 : Int32) := by decide
    rw [lp_s]
    show b_X3_nestlings_77 μ x5 _ (nI h) (nI 0) = _
    unfold b_X3_nestlings_77
    rw [if_pos c1]
    rfl
  | b + 1, n + 1, h, hb, h6, hh => by
    have c1 : ¬ nI (b + 1) ≤ (0 : Int32) := by show ¬ nI (b + 1) ≤ nI 0; exact nI_ge (by omega) (by omega)
    have e1 : nI h / (2 : Int32) = nI (h / 2) := by show nI h / nI 2 = _; exact pk_div hh (by omega) (by omega)
    have e2 : nI h - nI h / (2 : Int32) * (2 : Int32) = nI (h % 2) := by show nI h - nI h / nI 2 * nI 2 = _; exact pk_rem hh (by omega) (by omega)
    rw [lp_s, hv]
    show b_X3_nestlings_77 μ x5 _ (nI h) (nI (b + 1)) = _
    unfold b_X3_nestlings_77
    rw [if_neg c1, e2, e1]
    by_cases q : h % 2 = 0
    · rw [if_pos q, q, if_pos (show nI 0 = 0 from rfl), pk_m1]
      exact hv_e b n (h / 2) (by omega) (by omega) (by omega)
    · have q1 : h % 2 = 1 := by omega
      rw [if_neg q, q1, if_neg (show ¬ nI 1 = 0 by decide)]
theorem gcd_e {μ : MM} {x0 x1 x2 : Int32} : ∀ (n x y : Nat), x < n → x < 2 ^ 31 → y < 2 ^ 31 → lp (fun ih σ => b_X4_term_5 μ x0 x1 x2 ih σ.1 σ.2) n (nI x, nI y) = g_X4_term_24 μ x0 x1 x2 (nI (Nat.gcd x y))
  | 0, x, y, h, _, _ => by omega
  | n + 1, x, y, h, hx, hy => by
    rw [lp_s]
    show b_X4_term_5 μ x0 x1 x2 _ (nI x) (nI y) = _
    unfold b_X4_term_5
    rcases Nat.eq_zero_or_pos x with e | e
    · subst e
      rw [if_pos (show nI 0 = 0 from rfl), Nat.gcd_zero_left]
    · have c : ¬ nI x = 0 := nI_ne0 e hx
      have hm : y % x < x := Nat.mod_lt _ e
      rw [if_neg c, ck_t c, pk_rem hy e hx, Nat.gcd_rec]
      exact gcd_e n (y % x) x (by omega) (by omega) hx
theorem term_e {μ : MM} {x2 : Int32} {b h : Nat} (hb : b ≤ 6) (hh : h ≤ 2 ^ b) : f_X4_term μ (nI h) (nI (2 ^ b)) x2 = some (if x2 = 0 then nI (hv h b).1 else nI (2 ^ (hv h b).2)) := by
  have h64 := pow_le6 hb
  have hp : 0 < 2 ^ b := Nat.two_pow_pos b
  obtain ⟨g1, g2, -⟩ := hv_gcd ⟨b, by omega⟩ ⟨h, by omega⟩ hh
  have g1 : (hv h b).1 = h / Nat.gcd h (2 ^ b) := g1
  have g2 : 2 ^ (hv h b).2 = 2 ^ b / Nat.gcd h (2 ^ b) := g2
  have hg : 0 < Nat.gcd h (2 ^ b) := Nat.gcd_pos_of_pos_right _ hp
  have hl : Nat.gcd h (2 ^ b) ≤ 2 ^ b := Nat.gcd_le_right _ hp
  have c : ¬ nI (Nat.gcd h (2 ^ b)) = 0 := nI_ne0 hg (by omega)
  unfold f_X4_term
  rw [gcd_e fu h (2 ^ b) (by rw [fu_e]; omega) (by omega) (by omega)]
  unfold g_X4_term_24
  rw [ck_t c, ck_t c, pk_div (by omega) hg (by omega), pk_div (by omega) hg (by omega), ← g1, ← g2]
  split <;> rfl
/-! lending -/
def kq (K : Nat → Nat) (q x : Nat) : Nat → Nat := fun i => if bq q i = 1 then bq x i else K i
def tq (T : Nat → Nat) (q : Nat) : Nat → Nat := fun i => if bq q i = 1 then 7 else T i
theorem BK.lend {n : Nat} {K T : Nat → Nat} {w : Nat} (hB : BK n K T w) (q x : Nat) : BK n (kq K q x) (tq T q) w := by
  refine ⟨hB.1, hB.2.1, fun i hi => ?_, hB.2.2.2⟩
  unfold kq tq
  have := hB.2.2.1 i hi
  have := bq_lt x i
  split <;> omega
def CY (μ : Mem) (n : Nat) (K T : Nat → Nat) (w q : Nat) : Prop := μ 19 2 = nI n ∧ μ 19 3 = nI w ∧ ∀ i, i < n → bq q i ≠ 1 → μ 20 i = nI (K i) ∧ μ 21 i = nI (T i)
def MY (ν : Mem) (n : Nat) (K T : Nat → Nat) (q : Nat) : Prop := ν 0 6 = nI n ∧ ∀ i, i < n → bq q i ≠ 1 → ν 5 i = nI (K i) ∧ ν 6 i = nI (T i)
theorem CK.py {μ : Mem} {n : Nat} {K T : Nat → Nat} {w q x : Nat} (h : CK μ n (kq K q x) (tq T q) w) : CY μ n K T w q := ⟨h.1, h.2.1, fun i hi e => by
  have := h.2.2 i hi
  unfold kq tq at this
  rw [if_neg e, if_neg e] at this
  exact this⟩
theorem MK.py {ν : Mem} {n : Nat} {K T : Nat → Nat} {q x : Nat} (h : MK ν n (kq K q x) (tq T q)) : MY ν n K T q := ⟨h.1, fun i hi e => by
  have := h.2 i hi
  unfold kq tq at this
  rw [if_neg e, if_neg e] at this
  exact this⟩
theorem lend_e {μ : Mem} {n : Nat} {K T : Nat → Nat} {w q x : Nat} (h : CY μ n K T w q) (hn : n ≤ 6) (hq : q < 64) (hx : x < 64) : ∃ μ', f_X0_lend μ (nI q) (nI x) = some μ' ∧ CK μ' n (kq K q x) (tq T q) w ∧ ∀ c, c ≠ 20 → c ≠ 21 → μ' c = μ c := by
  unfold f_X0_lend
  obtain ⟨⟨y, z⟩, m, ⟨hz, h1, h3, h4⟩, h2⟩ := lp_fu (body := fun ih σ => b_X0_lend_2 (nI q) (nI x) ih σ.1 σ.2) (fun k (s : Mem × Int32) => s.2 = nI k ∧ (∀ i, i < k → s.1 20 i = nI (kq K q x i) ∧ s.1 21 i = nI (tq T q i)) ∧ (∀ i, k ≤ i → s.1 20 i = μ 20 i ∧ s.1 21 i = μ 21 i) ∧ ∀ c, c ≠ 20 → c ≠ 21 → s.1 c = μ c) n (by omega) (fun k s hk hs => by
    obtain ⟨s, z⟩ := s
    obtain ⟨hz, h1, h3, h4⟩ := hs
    have hz : z = nI k := hz
    subst hz
    have h1 : ∀ i, i < k → s 20 i = nI (kq K q x i) ∧ s 21 i = nI (tq T q i) := h1
    have h3 : ∀ i, k ≤ i → s 20 i = μ 20 i ∧ s 21 i = μ 21 i := h3
    have h4 : ∀ c, c ≠ 20 → c ≠ 21 → s c = μ c := h4
    have e19 : s 19 2 = nI n := by rw [h4 19 (by omega) (by omega)]; exact h.1
    have c1 : ¬ nI n ≤ nI k := nI_ge hk (by omega)
    by_cases g : bq q k = 1
    · have d1 : (nI (bq q k) = (0 : Int32)) = False := eq_false (by rw [g]; decide)
      refine ⟨(up (up s 20 k (nI (bq x k))) 21 k 7, nI (k + 1)), ⟨rfl, fun i hi => ?_, fun i hi => ?_, fun c a1 a2 => ?_⟩, fun ih => ?_⟩
      · show up (up s 20 k (nI (bq x k))) 21 k 7 20 i = _ ∧ up (up s 20 k (nI (bq x k))) 21 k 7 21 i = _
        by_cases e : i = k
        · subst e
          unfold kq tq
          rw [up_c (by omega), up_s, up_s, if_pos g, if_pos g]
          exact ⟨rfl, rfl⟩
        · rw [up_c (by omega), up_k e, up_k e, up_c (by omega)]; exact h1 i (by omega)
      · show up (up s 20 k (nI (bq x k))) 21 k 7 20 i = _ ∧ up (up s 20 k (nI (bq x k))) 21 k 7 21 i = _
        rw [up_c (by omega), up_k (by omega), up_k (by omega), up_c (by omega)]; exact h3 i (by omega)
      · show up (up s 20 k (nI (bq x k))) 21 k 7 c = μ c
        rw [up_c a2, up_c a1]; exact h4 c a1 a2
      · have hb := bq_lt x k
        rcases (show bq x k = 0 ∨ bq x k = 1 by omega) with e | e
        · have d2 : (nI 0 = (0 : Int32)) = True := eq_true rfl
          simp only [b_X0_lend_2, g_X0_lend_31, g_X0_lend_45, g_X0_lend_50, f_X0_put, nm, bd, Option.bind_some, e19, c1, ↓reduceIte, bq_i hq (show k < 6 by omega), bq_i hx (show k < 6 by omega), d1, e, d2, ck_t (vin (N := 6) (show k < 6 by omega)), cl (j := k), nI_1]
          rfl
        · have d2 : (nI 1 = (0 : Int32)) = False := eq_false (by decide)
          simp only [b_X0_lend_2, g_X0_lend_31, g_X0_lend_45, g_X0_lend_50, f_X0_put, nm, bd, Option.bind_some, e19, c1, ↓reduceIte, bq_i hq (show k < 6 by omega), bq_i hx (show k < 6 by omega), d1, e, d2, i10, ck_t (vin (N := 6) (show k < 6 by omega)), cl (j := k), nI_1]
          rfl
    · have hb := bq_lt q k
      have g0 : bq q k = 0 := by omega
      have d1 : (nI 0 = (0 : Int32)) = True := eq_true rfl
      refine ⟨(s, nI (k + 1)), ⟨rfl, fun i hi => ?_, fun i hi => h3 i (by omega), h4⟩, fun ih => ?_⟩
      · by_cases e : i = k
        · subst e
          unfold kq tq
          rw [if_neg g, if_neg g]
          show s 20 i = _ ∧ s 21 i = _
          rw [(h3 i (by omega)).1, (h3 i (by omega)).2]
          exact h.2.2 i hk g
        · exact h1 i (by omega)
      · simp only [b_X0_lend_2, g_X0_lend_50, e19, c1, ↓reduceIte, bq_i hq (show k < 6 by omega), g0, d1, nI_1]) (μ, (0 : Int32)) ⟨nI_0.symm, fun i hi => by omega, fun i _ => ⟨rfl, rfl⟩, fun c _ _ => rfl⟩
  have hz : z = nI n := hz
  subst hz
  have h4 : ∀ c, c ≠ 20 → c ≠ 21 → y c = μ c := h4
  have e19 : y 19 2 = nI n := by rw [h4 19 (by omega) (by omega)]; exact h.1
  have c1 : nI n ≤ nI n := nI_le (by omega) (by omega)
  exact ⟨y, by rw [h2]; simp only [b_X0_lend_2, e19, c1, ↓reduceIte], ⟨e19, by rw [h4 19 (by omega) (by omega)]; exact h.2.1, h1⟩, h4⟩
