/-! PLAIN FUNCTIONS: loops, numbers, the tie of the two states -/
theorem lp_s {σ ρ : Type} (body : (σ → Option ρ) → σ → Option ρ) (n : Nat) (x : σ) : lp body (n + 1) x = body (lp body n) x := rfl
theorem lp_inv {σ ρ : Type} {body : (σ → Option ρ) → σ → Option ρ} (I : Nat → σ → Prop) (e : Nat) (hs : ∀ k x, k < e → I k x → ∃ y, I (k + 1) y ∧ ∀ ih, body ih x = ih y) : ∀ (n k : Nat) (x : σ), k ≤ e → e - k < n → I k x → ∃ y m, I e y ∧ n ≤ m + (e - k) + 1 ∧ lp body n x = body (lp body m) y := by
  intro n
  induction n with
  | zero => intro k x _ h; omega
  | succ n ih =>
    intro k x hk hn hI
    rcases Nat.lt_or_ge k e with h | h
    · obtain ⟨y, hy, hb⟩ := hs k x h hI
      obtain ⟨z, m, h1, h2, h3⟩ := ih (k + 1) y (by omega) (by omega) hy
      exact ⟨z, m, h1, by omega, by rw [lp_s, hb]; exact h3⟩
    · have e1 : k = e := by omega
      subst e1
      exact ⟨x, n, hI, by omega, rfl⟩
theorem fu_e : fu = 100000 := rfl
theorem lp_fu {σ ρ : Type} {body : (σ → Option ρ) → σ → Option ρ} (I : Nat → σ → Prop) (e : Nat) (he : e < 100000) (hs : ∀ k x, k < e → I k x → ∃ y, I (k + 1) y ∧ ∀ ih, body ih x = ih y) (x : σ) (h0 : I 0 x) : ∃ y m, I e y ∧ lp body fu x = body (lp body m) y := by
  obtain ⟨y, m, h1, -, h2⟩ := lp_inv I e hs fu 0 x (Nat.zero_le _) (by rw [fu_e]; omega) h0
  exact ⟨y, m, h1, h2⟩
theorem i10 : ((1 : Int32) = 0) = False := eq_false (by decide)
theorem i00 : ((0 : Int32) = 0) = True := eq_self _
theorem nIlit (n : Nat) : (OfNat.ofNat n : Int32) = nI n := fa_lit n
theorem n0 : nI 0 = (0 : Int32) := rfl
theorem n1 : nI 1 = (1 : Int32) := rfl
/-- x is a number below n -/
def inb (x : Int32) (n : Nat) : Prop := ∃ j : Nat, j < n ∧ x = nI j
theorem inb_iff {x : Int32} {n : Nat} (hn : n < 2 ^ 31) : inb x n ↔ 0 ≤ x.toInt ∧ x.toInt < n := by
  constructor
  · rintro ⟨j, hj, rfl⟩
    rw [nI_toInt (by omega)]
    omega
  · rintro ⟨h1, h2⟩
    exact vp_in_of (vp_in_iff.mpr ⟨h1, h2⟩) hn
theorem isPlace_t {μ : Mem} {n j : Nat} (h : μ 3 7 = nI n) (hn : n ≤ 6) (hj : j < n) : f_X3_isPlace μ (nI j) = 1 := by
  unfold f_X3_isPlace
  rw [if_neg (nI_pos (by omega)), h, if_neg (nI_ge hj (by omega))]
theorem isPlace_f {μ : Mem} {n : Nat} {x : Int32} (h : μ 3 7 = nI n) (hn : n ≤ 6) (hx : ¬ inb x n) : f_X3_isPlace μ x = 0 := by
  unfold f_X3_isPlace
  rw [inb_iff (by omega)] at hx
  by_cases h0 : x < 0
  · rw [if_pos h0]
  · rw [if_neg h0, h, if_pos]
    rw [fa_lt] at h0
    rw [fa_le, nI_toInt (by omega)]
    have : (0 : Int32).toInt = 0 := by decide
    omega
theorem isWord_t {μ : Mem} {j : Nat} (hj : j < 8) : f_X3_isWord μ (nI j) = 1 := by
  unfold f_X3_isWord
  rw [if_neg (nI_pos (by omega)), if_neg]
  show ¬ nI 8 ≤ nI j
  exact nI_ge hj (by omega)
theorem isWord_f {μ : Mem} {x : Int32} (hx : ¬ inb x 8) : f_X3_isWord μ x = 0 := by
  unfold f_X3_isWord
  rw [inb_iff (by omega)] at hx
  by_cases h0 : x < 0
  · rw [if_pos h0]
  · rw [if_neg h0, if_pos]
    rw [fa_lt] at h0
    rw [fa_le]
    have h1 : (0 : Int32).toInt = 0 := by decide
    have h2 : (8 : Int32).toInt = 8 := by decide
    omega
theorem hasRing_t {μ : Mem} {n : Nat} (h : μ 3 7 = nI n) (h0 : 0 < n) (hn : n ≤ 6) : f_X3_hasRing μ = 1 := by
  unfold f_X3_hasRing
  rw [h, if_neg (nI_nle h0 (by omega))]
theorem hasRing_f {μ : Mem} (h : μ 3 7 = nI 0) : f_X3_hasRing μ = 0 := by
  unfold f_X3_hasRing
  rw [h, if_pos (by decide)]
theorem in_t {μ : MM} {x : Int32} {lo hi : Int64} (h1 : lo.toInt ≤ x.toInt) (h2 : x.toInt ≤ hi.toInt) : f_X4_in μ x.toInt64 lo hi = 1 := by
  unfold f_X4_in
  rw [if_neg, if_neg]
  · rw [lg_cmp_gt, fa_lt64, Int32.toInt_toInt64]; omega
  · rw [lg_cmp_lt, fa_lt64, Int32.toInt_toInt64]; omega
theorem in_f {μ : MM} {x : Int32} {lo hi : Int64} (h : ¬ (lo.toInt ≤ x.toInt ∧ x.toInt ≤ hi.toInt)) : f_X4_in μ x.toInt64 lo hi = 0 := by
  unfold f_X4_in
  by_cases h1 : x.toInt < lo.toInt
  · rw [if_pos]
    rw [lg_cmp_lt, fa_lt64, Int32.toInt_toInt64]; exact h1
  · rw [if_neg, if_pos]
    · rw [lg_cmp_gt, fa_lt64, Int32.toInt_toInt64]; omega
    · rw [lg_cmp_lt, fa_lt64, Int32.toInt_toInt64]; exact h1
theorem mWord_t {μ : MM} {j : Nat} (hj : j < 8) : f_X4_isWord μ (nI j) = 1 := by
  unfold f_X4_isWord nm
  refine in_t ?_ ?_
  · rw [nI_toInt (by omega)]; show (0 : Int) ≤ j; omega
  · rw [nI_toInt (by omega)]; show (j : Int) ≤ 7; omega
theorem mWord_f {μ : MM} {x : Int32} (hx : ¬ inb x 8) : f_X4_isWord μ x = 0 := by
  unfold f_X4_isWord nm
  rw [inb_iff (by omega)] at hx
  refine in_f ?_
  rintro ⟨h1, h2⟩
  exact hx ⟨h1, by have h2 : x.toInt ≤ 7 := h2; omega⟩
theorem nI_m1 {n : Nat} (hn : n ≤ 6) : (nI n - 1).toInt64.toInt = (n : Int) - 1 := by
  rw [Int32.toInt_toInt64]
  rcases (show n = 0 ∨ n = 1 ∨ n = 2 ∨ n = 3 ∨ n = 4 ∨ n = 5 ∨ n = 6 by omega) with rfl | rfl | rfl | rfl | rfl | rfl | rfl <;> decide
theorem mRook_t {μ : MM} {n j : Nat} (h : μ.1 0 6 = nI n) (hn : n ≤ 6) (hj : j < n) : f_X4_isRook μ (nI j) = 1 := by
  unfold f_X4_isRook nm
  refine in_t ?_ ?_
  · rw [nI_toInt (by omega)]; show (0 : Int) ≤ j; omega
  · rw [h, nI_m1 hn, nI_toInt (by omega)]; omega
theorem mRook_f {μ : MM} {n : Nat} {x : Int32} (h : μ.1 0 6 = nI n) (hn : n ≤ 6) (hx : ¬ inb x n) : f_X4_isRook μ x = 0 := by
  unfold f_X4_isRook nm
  rw [inb_iff (by omega)] at hx
  refine in_f ?_
  rw [h, nI_m1 hn]
  rintro ⟨h1, h2⟩
  exact hx ⟨h1, by omega⟩
theorem lacks_t {μ : MM} (h : μ.1 0 6 = nI 0) : f_X4_lacks μ = 1 := by
  unfold f_X4_lacks
  rw [h, if_pos nI_0]
theorem lacks_f {μ : MM} {n : Nat} (h : μ.1 0 6 = nI n) (h0 : 0 < n) (hn : n ≤ 6) : f_X4_lacks μ = 0 := by
  unfold f_X4_lacks
  rw [h, if_neg (nI_ne0 h0 (by omega))]
/-! indices -/
theorem ix4 (j : Nat) : (4 : Int32) * nI j = nI (4 * j) := by rw [show (4 : Int32) = nI 4 from rfl, pk_mul]
theorem ix41 (j : Nat) : (4 : Int32) * nI j + 1 = nI (4 * j + 1) := by rw [ix4, nI_1]
theorem ix42 (j : Nat) : (4 : Int32) * nI j + 2 = nI (4 * j + 2) := by rw [ix4, show (2 : Int32) = nI 2 from rfl, nI_add]
theorem ix43 (j : Nat) : (4 : Int32) * nI j + 3 = nI (4 * j + 3) := by rw [ix4, show (3 : Int32) = nI 3 from rfl, nI_add]
theorem ix3 (j : Nat) : (3 : Int32) * nI j = nI (3 * j) := by rw [show (3 : Int32) = nI 3 from rfl, pk_mul]
theorem ix31 (j : Nat) : (3 : Int32) * nI j + 1 = nI (3 * j + 1) := by rw [ix3, nI_1]
theorem ix32 (j : Nat) : (3 : Int32) * nI j + 2 = nI (3 * j + 2) := by rw [ix3, show (2 : Int32) = nI 2 from rfl, nI_add]
theorem ix2 (j : Nat) : (2 : Int32) * nI j = nI (2 * j) := by rw [show (2 : Int32) = nI 2 from rfl, pk_mul]
theorem ix21 (j : Nat) : (2 : Int32) * nI j + 1 = nI (2 * j + 1) := by rw [ix2, nI_1]
theorem ix8 (s m : Nat) : (8 : Int32) * nI s + nI m = nI (8 * s + m) := by rw [show (8 : Int32) = nI 8 from rfl, pk_mul, nI_add]
theorem ix8' (s m : Nat) : nI s * (8 : Int32) + nI m = nI (8 * s + m) := by rw [show (8 : Int32) = nI 8 from rfl, pk_mul, nI_add, Nat.mul_comm s 8]
theorem vin {j N : Nat} (h : j < N) (hN : N < 2 ^ 31 := by omega) : vp_in (nI j) N := vp_in_nI h hN
theorem cl {j : Nat} (h : j < 2 ^ 31 := by omega) : (nI j).toNatClampNeg = j := nI_clamp h
/-! memories -/
theorem up_s {μ : Mem} {c k : Nat} {x : Int32} : up μ c k x c k = x := by unfold up upd; simp
theorem up_c {μ : Mem} {c k a : Nat} {x : Int32} (h : a ≠ c) : up μ c k x a = μ a := by unfold up; rw [if_neg h]
theorem up_k {μ : Mem} {c k b : Nat} {x : Int32} (h : b ≠ k) : up μ c k x c b = μ c b := by unfold up upd; simp [h]
theorem up_o {μ : Mem} {c k a b : Nat} {x : Int32} (h : ¬ (a = c ∧ b = k)) : up μ c k x a b = μ a b := by
  by_cases ha : a = c
  · subst ha; exact up_k (fun e => h ⟨rfl, e⟩)
  · rw [up_c ha]
theorem up_if (μ : Mem) (c k a b : Nat) (x : Int32) : up μ c k x a b = if a = c ∧ b = k then x else μ a b := by
  by_cases h : a = c ∧ b = k
  · rw [if_pos h, h.1, h.2, up_s]
  · rw [if_neg h, up_o h]
theorem upM_1 (σ : MM) (c k : Nat) (x : Int32) : (upM σ c k x).1 = up σ.1 c k x := rfl
theorem upM_2 (σ : MM) (c k : Nat) (x : Int32) : (upM σ c k x).2 = σ.2 := rfl
theorem upA_s {μ : Mem} {c : Nat} {f : Nat → Int32} : upA μ c f c = f := by unfold upA; simp
theorem upA_c {μ : Mem} {c a : Nat} {f : Nat → Int32} (h : a ≠ c) : upA μ c f a = μ a := by unfold upA; rw [if_neg h]
/-! the abstract standing: ((rooks, kinds, twigs, sitters, pecks), (wind, laws, last), (observed, seats, motions, words)) -/
abbrev AS : Type := (Nat × (Nat → Nat) × (Nat → Nat) × (Nat → Nat) × (Nat → Int32)) × (Nat × Int32 × Int32) × (Nat × (Nat → Nat) × (Nat → Nat) × (Nat → Nat))
abbrev aN (a : AS) : Nat := a.1.1
abbrev aK (a : AS) : Nat → Nat := a.1.2.1
abbrev aT (a : AS) : Nat → Nat := a.1.2.2.1
abbrev aS (a : AS) : Nat → Nat := a.1.2.2.2.1
abbrev aP (a : AS) : Nat → Int32 := a.1.2.2.2.2
abbrev aW (a : AS) : Nat := a.2.1.1
abbrev aL (a : AS) : Int32 := a.2.1.2.1
abbrev aE (a : AS) : Int32 := a.2.1.2.2
abbrev aO (a : AS) : Nat := a.2.2.1
abbrev aA (a : AS) : Nat → Nat := a.2.2.2.1
abbrev aB (a : AS) : Nat → Nat := a.2.2.2.2.1
abbrev aC (a : AS) : Nat → Nat := a.2.2.2.2.2
/-- its bounds -/
def OKS (a : AS) : Prop := (aN a = 0 ∨ 3 ≤ aN a) ∧ aN a ≤ 6 ∧ (∀ i, i < aN a → aK a i < 5 ∧ aT a i < 8 ∧ aS a i < aN a) ∧ (∀ i j, i < aN a → j < aN a → aS a i = aS a j → i = j) ∧ aW a < 2 ∧ aO a ≤ 8 ∧ ∀ i, i < aO a → aA a i < aN a ∧ aB a i < 8 ∧ aC a i < 8
/-- the class's cells hold it -/
def CS (μ : Mem) (b ck ct cp cs co cm cc : Nat) (a : AS) : Prop := (μ b 7 = nI (aN a) ∧ μ b 8 = nI (aW a) ∧ μ b 9 = aL a ∧ μ b 10 = aE a ∧ μ b 11 = nI (aO a)) ∧ (∀ i, i < aN a → μ ck i = nI (aK a i) ∧ μ ct i = nI (aT a i) ∧ μ cp i = aP a i ∧ μ cs i = nI (aS a i)) ∧ ∀ i, i < aO a → μ co i = nI (aA a i) ∧ μ cm i = nI (aB a i) ∧ μ cc i = nI (aC a i)
/-- the reference's rows, seats, sights hold it -/
def MS (ν : Mem) (r t g : Nat) (a : AS) : Prop := (∀ i, i < aN a → ν r (4 * i) = nI (aK a i) ∧ ν r (4 * i + 1) = nI (aT a i) ∧ ν r (4 * i + 3) = aP a i ∧ ν t i = nI (aS a i) ∧ ν r (4 * aS a i + 2) = nI i) ∧ ∀ i, i < aO a → ν g (3 * i) = nI (aA a i) ∧ ν g (3 * i + 1) = nI (aB a i) ∧ ν g (3 * i + 2) = nI (aC a i)
/-- what is kept -/
def KP (μ ν : Mem) (n : Nat) (kd : Nat → Nat) (rr : Nat) : Prop := (μ 0 3 = 0 ∧ (ν 0 22 = -1 ∨ ∃ j, j < rr ∧ ν 0 22 = nI j)) ∨ (μ 0 3 = 1 ∧ ν 0 22 = nI rr ∧ ∃ k : AS, aN k = n ∧ aK k = kd ∧ OKS k ∧ CS μ 11 12 13 14 15 16 17 18 k ∧ MS ν 11 12 13 k ∧ ν 0 23 = nI (aW k) ∧ ν 0 24 = aL k ∧ ν 0 25 = aE k ∧ ν 0 26 = nI (aO k))
/-- the page -/
def PG (μ ν : Mem) (pn : Nat) (pg : Nat → Nat) : Prop := pn ≤ 22 ∧ μ 1 1 = nI pn ∧ ν 0 1 = nI pn ∧ ∀ i, i < pn → 1 ≤ pg i ∧ pg i ≤ 126 ∧ μ 2 i = nI (pg i) ∧ ν 1 i = nI (pg i)
def CN (μ ν : Mem) (T rr sd : Nat) : Prop := rr ≤ T ∧ μ 0 4 = nI rr ∧ ν 0 10 = nI rr ∧ sd ≤ 20 ∧ μ 0 5 = nI sd ∧ ν 0 16 = nI sd
def MF (ν : Mem) (a : AS) : Prop := ν 0 6 = nI (aN a) ∧ ν 0 7 = nI (aW a) ∧ ν 0 8 = aL a ∧ ν 0 9 = aE a ∧ ν 0 18 = nI (aO a)
/-- after T calls -/
def Rel (T : Nat) (μ : Mem) (ν : MM) : Prop := ∃ (a : AS) (pn : Nat) (pg : Nat → Nat) (rr sd : Nat), OKS a ∧ CS μ 3 4 5 6 7 8 9 10 a ∧ MS ν.1 3 4 9 a ∧ MF ν.1 a ∧ PG μ ν.1 pn pg ∧ CN μ ν.1 T rr sd ∧ KP μ ν.1 (aN a) (aK a) rr
theorem Rel.mono {T T' : Nat} {μ : Mem} {ν : MM} (h : Rel T μ ν) (ht : T ≤ T') : Rel T' μ ν := by
  obtain ⟨a, pn, pg, rr, sd, h1, h2, h3, h4, h5, h6, h7⟩ := h
  exact ⟨a, pn, pg, rr, sd, h1, h2, h3, h4, h5, ⟨Nat.le_trans h6.1 ht, h6.2⟩, h7⟩
theorem CS.cong {μ μ' : Mem} {b ck ct cp cs co cm cc : Nat} {a : AS} (h : CS μ b ck ct cp cs co cm cc a) (e : ∀ c, c = b ∨ c = ck ∨ c = ct ∨ c = cp ∨ c = cs ∨ c = co ∨ c = cm ∨ c = cc → μ' c = μ c) : CS μ' b ck ct cp cs co cm cc a := by
  unfold CS at *
  rw [e b (by simp), e ck (by simp), e ct (by simp), e cp (by simp), e cs (by simp), e co (by simp), e cm (by simp), e cc (by simp)]
  exact h
theorem MS.cong {ν ν' : Mem} {r t g : Nat} {a : AS} (h : MS ν r t g a) (e : ∀ c, c = r ∨ c = t ∨ c = g → ν' c = ν c) : MS ν' r t g a := by
  unfold MS at *
  rw [e r (by simp), e t (by simp), e g (by simp)]
  exact h
/-- scratch cells may be anything -/
theorem Rel.scr {T : Nat} {μ μ' : Mem} {ν ν' : MM} (h : Rel T μ ν) (h1 : ∀ c, c < 19 → μ' c = μ c) (h2 : ∀ c, c = 1 ∨ c = 3 ∨ c = 4 ∨ c = 9 ∨ c = 11 ∨ c = 12 ∨ c = 13 → ν'.1 c = ν.1 c) (h3 : ∀ k, k ≠ 3 → k ≠ 4 → k ≠ 5 → k ≠ 21 → ν'.1 0 k = ν.1 0 k) : Rel T μ' ν' := by
  obtain ⟨a, pn, pg, rr, sd, g1, g2, g3, g4, g5, g6, g7⟩ := h
  refine ⟨a, pn, pg, rr, sd, g1, g2.cong (fun c hc => h1 c (by omega)), g3.cong (fun c hc => h2 c (by omega)), ?_, ?_, ?_, ?_⟩
  · unfold MF at *
    rw [h3 6 (by omega) (by omega) (by omega) (by omega), h3 7 (by omega) (by omega) (by omega) (by omega), h3 8 (by omega) (by omega) (by omega) (by omega), h3 9 (by omega) (by omega) (by omega) (by omega), h3 18 (by omega) (by omega) (by omega) (by omega)]
    exact g4
  · unfold PG at *
    rw [h1 1 (by omega), h1 2 (by omega), h2 1 (by omega), h3 1 (by omega) (by omega) (by omega) (by omega)]
    exact g5
  · unfold CN at *
    rw [h1 0 (by omega), h3 10 (by omega) (by omega) (by omega) (by omega), h3 16 (by omega) (by omega) (by omega) (by omega)]
    exact g6
  · unfold KP at *
    rw [h1 0 (by omega), h3 22 (by omega) (by omega) (by omega) (by omega), h3 23 (by omega) (by omega) (by omega) (by omega), h3 24 (by omega) (by omega) (by omega) (by omega), h3 25 (by omega) (by omega) (by omega) (by omega), h3 26 (by omega) (by omega) (by omega) (by omega)]
    rcases g7 with g | ⟨q1, q2, k, q3, q4, q5, q6, q7, q8⟩
    · exact Or.inl g
    · exact Or.inr ⟨q1, q2, k, q3, q4, q5, q6.cong (fun c hc => h1 c (by omega)), q7.cong (fun c hc => h2 c (by omega)), q8⟩
/-- the start -/
theorem Rel.start : Rel 0 μR0 (μM0, 0) := by
  refine ⟨((0, fun _ => 0, fun _ => 0, fun _ => 0, fun _ => 0), (0, 0, -1), (0, fun _ => 0, fun _ => 0, fun _ => 0)), 0, fun _ => 0, 0, 0, ?_, ?_, ?_, ?_, ?_, ?_, ?_⟩
  · exact ⟨Or.inl rfl, by decide, fun i h => absurd h (by show ¬ i < 0; omega), fun i j h => absurd h (by show ¬ i < 0; omega), by decide, by decide, fun i h => absurd h (by show ¬ i < 0; omega)⟩
  · exact ⟨⟨rfl, rfl, rfl, rfl, rfl⟩, fun i h => absurd h (by show ¬ i < 0; omega), fun i h => absurd h (by show ¬ i < 0; omega)⟩
  · exact ⟨fun i h => absurd h (by show ¬ i < 0; omega), fun i h => absurd h (by show ¬ i < 0; omega)⟩
  · exact ⟨rfl, rfl, rfl, rfl, rfl⟩
  · exact ⟨by omega, rfl, rfl, fun i h => absurd h (by omega)⟩
  · exact ⟨by omega, rfl, rfl, by omega, rfl, rfl⟩
  · exact Or.inl ⟨rfl, Or.inl rfl⟩
