/-! guesses -/
def pK (K : Nat → Nat) (s k : Nat) : Nat → Nat := fun i => if i = s then k / 8 else K i
def pT (T : Nat → Nat) (s k : Nat) : Nat → Nat := fun i => if i = s then k % 8 else T i
theorem BK.put {n : Nat} {K T : Nat → Nat} {w : Nat} (hB : BK n K T w) {s k : Nat} (hk : k < 40) : BK n (pK K s k) (pT T s k) w := by
  refine ⟨hB.1, hB.2.1, fun i hi => ?_, hB.2.2.2⟩
  unfold pK pT
  have := hB.2.2.1 i hi
  by_cases e : i = s
  · rw [if_pos e, if_pos e]; omega
  · rw [if_neg e, if_neg e]; exact this
def CKx (μ : Mem) (n : Nat) (K T : Nat → Nat) (w s : Nat) : Prop := μ 19 2 = nI n ∧ μ 19 3 = nI w ∧ ∀ i, i < n → i ≠ s → μ 20 i = nI (K i) ∧ μ 21 i = nI (T i)
def MKx (ν : Mem) (n : Nat) (K T : Nat → Nat) (s : Nat) : Prop := ν 0 6 = nI n ∧ ∀ i, i < n → i ≠ s → ν 5 i = nI (K i) ∧ ν 6 i = nI (T i)
theorem CK.cx {μ : Mem} {n : Nat} {K T : Nat → Nat} {w : Nat} (h : CK μ n K T w) (s : Nat) : CKx μ n K T w s := ⟨h.1, h.2.1, fun i hi _ => h.2.2 i hi⟩
theorem MK.mx {ν : Mem} {n : Nat} {K T : Nat → Nat} (h : MK ν n K T) (s : Nat) : MKx ν n K T s := ⟨h.1, fun i hi _ => h.2 i hi⟩
theorem put_e {μ : Mem} {n : Nat} {K T : Nat → Nat} {w s k : Nat} (h : CKx μ n K T w s) (hs : s < 6) : f_X0_put μ (nI s) (nI (k / 8)) (nI (k % 8)) = some (up (up μ 20 s (nI (k / 8))) 21 s (nI (k % 8))) ∧ CK (up (up μ 20 s (nI (k / 8))) 21 s (nI (k % 8))) n (pK K s k) (pT T s k) w := by
  refine ⟨?_, ?_, ?_, fun i hi => ?_⟩
  · simp only [f_X0_put, nm, ck_t (vin (N := 6) hs), cl (j := s)]
  · simp (disch := omega) only [up_c]; exact h.1
  · simp (disch := omega) only [up_c]; exact h.2.1
  · unfold pK pT
    by_cases e : i = s
    · subst e
      simp (disch := omega) only [up_c, up_s, ↓reduceIte]
      exact ⟨trivial, trivial⟩
    · simp (disch := omega) only [up_c, up_k, e, ↓reduceIte]
      exact h.2.2 i hi e
theorem CK.px {μ : Mem} {n : Nat} {K T : Nat → Nat} {w s k : Nat} (h : CK μ n (pK K s k) (pT T s k) w) : CKx μ n K T w s := ⟨h.1, h.2.1, fun i hi e => by
  have := h.2.2 i hi
  unfold pK pT at this
  rw [if_neg e, if_neg e] at this
  exact this⟩
theorem MK.px {ν : Mem} {n : Nat} {K T : Nat → Nat} {s k : Nat} (h : MK ν n (pK K s k) (pT T s k)) : MKx ν n K T s := ⟨h.1, fun i hi e => by
  have := h.2 i hi
  unfold pK pT at this
  rw [if_neg e, if_neg e] at this
  exact this⟩
def OB (a : AS) (n : Nat) (K T : Nat → Nat) (w : Nat) : Prop := ∀ o, o < aO a → CM n K T w (aA a o) (aB a o) = aC a o
theorem allSeen_e {μ : Mem} {a : AS} {K T : Nat → Nat} {w : Nat} (hO : OKS a) (hC : CS μ 3 4 5 6 7 8 9 10 a) (hB : BK (aN a) K T w) (k1 : CK μ (aN a) K T w) : (OB a (aN a) K T w → f_X2_allSeenIn μ = some 1) ∧ (¬ OB a (aN a) K T w → f_X2_allSeenIn μ = some 0) := by
  have ho := hO.2.2.2.2.2.1
  have hoo := hO.2.2.2.2.2.2
  have step : ∀ o, o < aO a → CM (aN a) K T w (aA a o) (aB a o) = aC a o → ∀ ih, b_X2_allSeenIn_2 μ ih (nI o) = ih (nI (o + 1)) := fun o h e ih => by
    have c1 : ¬ nI (aO a) ≤ nI o := nI_ge h (by omega)
    obtain ⟨b1, b2, b3⟩ := hC.2.2 o h
    simp only [b_X2_allSeenIn_2, hC.1.2.2.2.2, c1, ↓reduceIte, ck_t (vin (N := 8) (show o < 8 by omega)), cl (j := o), b1, b2, b3, outcome_e hB k1 (hoo o h).1 (hoo o h).2.1, bd, Option.bind_some, e, nI_1]
  have stop : ∀ o, o < aO a → CM (aN a) K T w (aA a o) (aB a o) ≠ aC a o → ∀ ih, b_X2_allSeenIn_2 μ ih (nI o) = some 0 := fun o h e ih => by
    have c1 : ¬ nI (aO a) ≤ nI o := nI_ge h (by omega)
    obtain ⟨b1, b2, b3⟩ := hC.2.2 o h
    have hr := CM_lt (s := aA a o) hB (hoo o h).2.1
    have d : (nI (CM (aN a) K T w (aA a o) (aB a o)) = nI (aC a o)) = False := eq_false (by
      rw [nI_eq (by omega) (by have := (hoo o h).2.2; omega)]; exact e)
    simp only [b_X2_allSeenIn_2, hC.1.2.2.2.2, c1, ↓reduceIte, ck_t (vin (N := 8) (show o < 8 by omega)), cl (j := o), b1, b2, b3, outcome_e hB k1 (hoo o h).1 (hoo o h).2.1, bd, Option.bind_some, d]
  constructor
  · intro h
    unfold f_X2_allSeenIn
    obtain ⟨y, m, rfl, h2⟩ := lp_fu (body := fun ih σ => b_X2_allSeenIn_2 μ ih σ) (fun k (x : Int32) => x = nI k) (aO a) (by omega) (fun k x hk hx => by
      subst hx
      exact ⟨nI (k + 1), rfl, fun ih => step k hk (h k hk) ih⟩) (0 : Int32) nI_0.symm
    rw [h2]
    have c1 : nI (aO a) ≤ nI (aO a) := nI_le (by omega) (by omega)
    simp only [b_X2_allSeenIn_2, hC.1.2.2.2.2, c1, ↓reduceIte]
  · intro h
    have h : ∃ o, o < aO a ∧ CM (aN a) K T w (aA a o) (aB a o) ≠ aC a o := by
      refine Classical.byContradiction (fun q => h (fun o ho => Classical.byContradiction (fun e => q ⟨o, ho, e⟩)))
    obtain ⟨o, h1, h2, h3⟩ := fb_first h
    unfold f_X2_allSeenIn
    obtain ⟨y, m, rfl, h2'⟩ := lp_fu (body := fun ih σ => b_X2_allSeenIn_2 μ ih σ) (fun k (x : Int32) => x = nI k) o (by omega) (fun k x hk hx => by
      subst hx
      exact ⟨nI (k + 1), rfl, fun ih => step k (by omega) (Classical.byContradiction (fun e => h3 k hk e)) ih⟩) (0 : Int32) nI_0.symm
    rw [h2']
    exact stop o h1 h2 _
noncomputable def sp (a : AS) (n : Nat) (K T : Nat → Nat) (w s k : Nat) : Bool := @decide (OB a n (pK K s k) (pT T s k) w) (Classical.propDecidable _)
theorem sp_t {a : AS} {n : Nat} {K T : Nat → Nat} {w s k : Nat} : sp a n K T w s k = true ↔ OB a n (pK K s k) (pT T s k) w := by unfold sp; exact @decide_eq_true_iff _ (Classical.propDecidable _)
theorem dm8 {k : Nat} (hk : k < 40) : nI k / (8 : Int32) = nI (k / 8) ∧ nI k - nI (k / 8) * (8 : Int32) = nI (k % 8) := by
  have e1 : nI k / (8 : Int32) = nI (k / 8) := by show nI k / nI 8 = _; exact pk_div (by omega) (by omega) (by omega)
  have e2 : nI k - nI (k / 8) * (8 : Int32) = nI (k % 8) := by rw [← e1]; show nI k - nI k / nI 8 * nI 8 = _; exact pk_rem (by omega) (by omega) (by omega)
  exact ⟨e1, e2⟩
theorem guessesFor_e {μ : Mem} {a : AS} {s : Nat} (hO : OKS a) (hC : CS μ 3 4 5 6 7 8 9 10 a) (hs : s < aN a) : ∃ μ', f_X3_guessesFor μ (nI s) = some (μ', lN (bm (sp a (aN a) (sK a) (sT a) (aW a) s) 40)) ∧ ∀ c, c < 19 → μ' c = μ c := by
  have h6 := hO.2.1
  obtain ⟨μ1, e1, k1, k2⟩ := seatAll_e hO hC
  have hB := hO.bk (by omega)
  simp only [f_X3_guessesFor, e1, bd, Option.bind_some]
  obtain ⟨⟨y, z, u⟩, m, ⟨hz, h1, h3, h4⟩, h2⟩ := lp_fu (body := fun ih σ => b_X3_guessesFor_16 (nI s) ih σ.1 σ.2.1 σ.2.2) (fun k (x : Mem × Int64 × Int32) => x.2.2 = nI k ∧ x.2.1 = lN (bm (sp a (aN a) (sK a) (sT a) (aW a) s) k) ∧ CKx x.1 (aN a) (sK a) (sT a) (aW a) s ∧ ∀ c, c < 19 → x.1 c = μ c) 40 (by omega) (fun k x hk hx => by
    obtain ⟨x, z, u⟩ := x
    obtain ⟨hu, hz, h3, h4⟩ := hx
    have hu : u = nI k := hu
    have hz : z = lN (bm (sp a (aN a) (sK a) (sT a) (aW a) s) k) := hz
    subst hu
    subst hz
    have h3 : CKx x (aN a) (sK a) (sT a) (aW a) s := h3
    have h4 : ∀ c, c < 19 → x c = μ c := h4
    have c1 : ¬ (40 : Int32) ≤ nI k := by show ¬ nI 40 ≤ nI k; exact nI_ge hk (by omega)
    obtain ⟨p1, p2⟩ := put_e (k := k) h3 (by omega)
    obtain ⟨x', ex⟩ : ∃ x', x' = up (up x 20 s (nI (k / 8))) 21 s (nI (k % 8)) := ⟨_, rfl⟩
    rw [← ex] at p1 p2
    have h4' : ∀ c, c < 19 → x' c = μ c := fun c hc => by rw [ex, up_c (by omega), up_c (by omega)]; exact h4 c hc
    have hC' : CS x' 3 4 5 6 7 8 9 10 a := hC.cong (fun c hc => h4' c (by omega))
    obtain ⟨a1, a2⟩ := allSeen_e hO hC' (hB.put hk) p2
    refine ⟨(x', lN (bm (sp a (aN a) (sK a) (sT a) (aW a) s) (k + 1)), nI (k + 1)), ⟨rfl, rfl, p2.px, h4'⟩, fun ih => ?_⟩
    obtain ⟨m1, m2⟩ := dm8 hk
    by_cases q : sp a (aN a) (sK a) (sT a) (aW a) s k = true
    · rw [bm_or hk, if_pos q]
      simp only [b_X3_guessesFor_16, g_X3_guessesFor_62, nm, bd, Option.bind_some, c1, ↓reduceIte, m1, m2, p1, a1 (sp_t.mp q), i10, nI_1]
    · rw [bm_or hk, if_neg q]
      simp only [b_X3_guessesFor_16, g_X3_guessesFor_62, nm, bd, Option.bind_some, c1, ↓reduceIte, m1, m2, p1, a2 (fun h => q (sp_t.mpr h)), nI_1]) (μ1, (0 : Int64), (0 : Int32)) ⟨nI_0.symm, rfl, k1.cx s, fun c hc => k2 c (by omega) (by omega) (by omega)⟩
  have hz : u = nI 40 := hz
  have h1 : z = lN (bm (sp a (aN a) (sK a) (sT a) (aW a) s) 40) := h1
  subst hz
  subst h1
  refine ⟨y, ?_, h4⟩
  rw [h2]
  have c1 : (40 : Int32) ≤ nI 40 := by decide
  simp only [b_X3_guessesFor_16, c1, ↓reduceIte]
/-! the reference -/
theorem nb1 : narrow .boolean (.int (1 : Int32)) = .int 1 := by rfl
theorem nb0 : narrow .boolean (.int (0 : Int32)) = .int 0 := by rfl
theorem isSeen_e {ν : MM} {a : AS} {s k : Nat} (hO : OKS a) (hM : MS ν.1 3 4 9 a) (hF : MF ν.1 a) (hs : s < aN a) (hX : MKx ν.1 (aN a) (sK a) (sT a) s) (hk : k < 40) : ∃ ν', f_X4_isSeenBy ν (nI s) (nI k) = some (ν', if sp a (aN a) (sK a) (sT a) (aW a) s k = true then 1 else 0) ∧ MK ν'.1 (aN a) (pK (sK a) s k) (pT (sT a) s k) ∧ (∀ c, c ≠ 5 → c ≠ 6 → ν'.1 c = ν.1 c) ∧ ν'.2 = ν.2 := by
  have h6 := hO.2.1
  have ho := hO.2.2.2.2.2.1
  have hoo := hO.2.2.2.2.2.2
  have hB := (hO.bk (by omega)).put (s := s) hk
  obtain ⟨m1, m2⟩ := dm8 hk
  obtain ⟨ν', ev⟩ : ∃ x, x = upM (upM ν 5 s (nI (k / 8))) 6 s (nI (k % 8)) := ⟨_, rfl⟩
  have f1 : ∀ c, c ≠ 5 → c ≠ 6 → ν'.1 c = ν.1 c := fun c h5 h6 => by rw [ev, upM_1, up_c h6, upM_1, up_c h5]
  have hK : MK ν'.1 (aN a) (pK (sK a) s k) (pT (sT a) s k) := by
    refine ⟨by rw [f1 0 (by omega) (by omega)]; exact hX.1, fun i hi => ?_⟩
    unfold pK pT
    by_cases e : i = s
    · subst e
      rw [ev]
      simp (disch := omega) only [upM_1, up_c, up_s, ↓reduceIte]
      exact ⟨trivial, trivial⟩
    · rw [ev]
      simp (disch := omega) only [upM_1, up_c, up_k, e, ↓reduceIte]
      exact hX.2 i hi e
  have e07 : ν'.1 0 7 = nI (aW a) := by rw [f1 0 (by omega) (by omega)]; exact hF.2.1
  have e18 : ν'.1 0 18 = nI (aO a) := by rw [f1 0 (by omega) (by omega)]; exact hF.2.2.2.2
  refine ⟨ν', ?_, hK, f1, by rw [ev]; rfl⟩
  simp only [f_X4_isSeenBy, nm, m1, m2, ck_t (vin (N := 6) (show s < 6 by omega)), cl (j := s), ← ev]
  obtain ⟨⟨y, z⟩, m, ⟨hz, h1⟩, h2⟩ := lp_fu (body := fun ih σ => b_X4_isSeenBy_25 ν' ih σ.1 σ.2) (fun j (x : Int32 × Int32) => x.2 = nI j ∧ ((x.1 = 1 ∧ ∀ o, o < j → CM (aN a) (pK (sK a) s k) (pT (sT a) s k) (aW a) (aA a o) (aB a o) = aC a o) ∨ (x.1 = 0 ∧ ∃ o, o < j ∧ CM (aN a) (pK (sK a) s k) (pT (sT a) s k) (aW a) (aA a o) (aB a o) ≠ aC a o))) (aO a) (by omega) (fun j x hj hx => by
    obtain ⟨x, z⟩ := x
    obtain ⟨hz, hx⟩ := hx
    have hz : z = nI j := hz
    subst hz
    have c1 : ¬ nI (aO a) ≤ nI j := nI_ge hj (by omega)
    obtain ⟨b1, b2, b3⟩ := hM.2 j hj
    have b1 : ν'.1 9 (3 * j) = nI (aA a j) := by rw [f1 9 (by omega) (by omega)]; exact b1
    have b2 : ν'.1 9 (3 * j + 1) = nI (aB a j) := by rw [f1 9 (by omega) (by omega)]; exact b2
    have b3 : ν'.1 9 (3 * j + 2) = nI (aC a j) := by rw [f1 9 (by omega) (by omega)]; exact b3
    rcases hx with ⟨hx, h⟩ | ⟨hx, o, h, ho'⟩
    · have hx : x = 1 := hx
      subst hx
      by_cases e : CM (aN a) (pK (sK a) s k) (pT (sT a) s k) (aW a) (aA a j) (aB a j) = aC a j
      · refine ⟨(1, nI (j + 1)), ⟨rfl, Or.inl ⟨rfl, fun o ho => ?_⟩⟩, fun ih => ?_⟩
        · by_cases q : o = j
          · rw [q]; exact e
          · exact h o (by omega)
        · simp only [b_X4_isSeenBy_25, g_X4_isSeenBy_85, e18, c1, ↓reduceIte, i10, ix3, nI_1, nI_2, ck_t (vin (N := 24) (show 3 * j < 24 by omega)), cl (j := 3 * j), ck_t (vin (N := 24) (show 3 * j + 1 < 24 by omega)), cl (j := 3 * j + 1), ck_t (vin (N := 24) (show 3 * j + 2 < 24 by omega)), cl (j := 3 * j + 2), b1, b2, b3, e07, comesOf_e hB hK (hoo j hj).1 (hoo j hj).2.1, bd, Option.bind_some, e]
      · refine ⟨(0, nI (j + 1)), ⟨rfl, Or.inr ⟨rfl, j, by omega, e⟩⟩, fun ih => ?_⟩
        have hr := CM_lt (s := aA a j) hB (hoo j hj).2.1
        have d : (nI (CM (aN a) (pK (sK a) s k) (pT (sT a) s k) (aW a) (aA a j) (aB a j)) = nI (aC a j)) = False := eq_false (by
          rw [nI_eq (by omega) (by have := (hoo j hj).2.2; omega)]; exact e)
        simp only [b_X4_isSeenBy_25, g_X4_isSeenBy_84, g_X4_isSeenBy_85, e18, c1, ↓reduceIte, i10, ix3, nI_1, nI_2, ck_t (vin (N := 24) (show 3 * j < 24 by omega)), cl (j := 3 * j), ck_t (vin (N := 24) (show 3 * j + 1 < 24 by omega)), cl (j := 3 * j + 1), ck_t (vin (N := 24) (show 3 * j + 2 < 24 by omega)), cl (j := 3 * j + 2), b1, b2, b3, e07, comesOf_e hB hK (hoo j hj).1 (hoo j hj).2.1, bd, Option.bind_some, d]
    · have hx : x = 0 := hx
      subst hx
      refine ⟨(0, nI (j + 1)), ⟨rfl, Or.inr ⟨rfl, o, by omega, ho'⟩⟩, fun ih => ?_⟩
      simp only [b_X4_isSeenBy_25, g_X4_isSeenBy_84, g_X4_isSeenBy_85, e18, c1, ↓reduceIte, nI_1]) ((1 : Int32), (0 : Int32)) ⟨nI_0.symm, Or.inl ⟨rfl, fun o ho => by omega⟩⟩
  have hz : z = nI (aO a) := hz
  subst hz
  rw [h2]
  have c1 : nI (aO a) ≤ nI (aO a) := nI_le (by omega) (by omega)
  rcases h1 with ⟨hy, h⟩ | ⟨hy, o, h, ho'⟩
  · have hy : y = 1 := hy
    subst hy
    rw [if_pos (sp_t.mpr h)]
    simp only [b_X4_isSeenBy_25, e18, c1, ↓reduceIte, ck_t nb1]
  · have hy : y = 0 := hy
    subst hy
    rw [if_neg (fun q => ho' (sp_t.mp q o h))]
    simp only [b_X4_isSeenBy_25, e18, c1, ↓reduceIte, ck_t nb0]
def lsd (p : Nat → Bool) : Nat → Int32
  | 0 => -1
  | t + 1 => if p (39 - t) then nI (39 - t) else lsd p t
theorem lsd_p (p : Nat → Bool) : ∀ t, t ≤ 40 → (lsd p t = -1 ∧ ∀ i, 40 - t ≤ i → i < 40 → p i = false) ∨ ∃ j, j < 40 ∧ 40 - t ≤ j ∧ lsd p t = nI j ∧ p j = true ∧ ∀ i, 40 - t ≤ i → i < j → p i = false
  | 0, _ => Or.inl ⟨rfl, fun i h1 h2 => by omega⟩
  | t + 1, ht => by
    rw [lsd]
    by_cases h : p (39 - t) = true
    · rw [if_pos h]
      exact Or.inr ⟨39 - t, by omega, by omega, rfl, h, fun i h1 h2 => by omega⟩
    · rw [if_neg h]
      have h : p (39 - t) = false := by simpa using h
      rcases lsd_p p t (by omega) with ⟨q1, q2⟩ | ⟨j, q1, q2, q3, q4, q5⟩
      · refine Or.inl ⟨q1, fun i h1 h2 => ?_⟩
        by_cases e : i = 39 - t
        · rw [e]; exact h
        · exact q2 i (by omega) h2
      · refine Or.inr ⟨j, q1, by omega, q3, q4, fun i h1 h2 => ?_⟩
        by_cases e : i = 39 - t
        · rw [e]; exact h
        · exact q5 i (by omega) h2
theorem least_l {μ : Mem} (p : Nat → Bool) : f_X3_leastOf μ (lN (bm p 40)) = lsd p 40 := by
  refine least_e ?_
  rcases lsd_p p 40 (by omega) with ⟨q1, q2⟩ | ⟨j, q1, q2, q3, q4, q5⟩
  · exact Or.inl ⟨q1, fun i hi => q2 i (by omega) hi⟩
  · exact Or.inr ⟨j, q1, q3, q4, fun i hi => q5 i (by omega) hi⟩
theorem guessOf_e {ν : MM} {a : AS} {s : Nat} {x2 : Int32} (hO : OKS a) (hM : MS ν.1 3 4 9 a) (hF : MF ν.1 a) (hs : s < aN a) : ∃ ν', f_X4_guessOf ν (nI s) x2 = some (ν', if x2 = 0 then nI (fb_ct (sp a (aN a) (sK a) (sT a) (aW a) s) 40) else lsd (sp a (aN a) (sK a) (sT a) (aW a) s) 40) ∧ (∀ c, c ≠ 5 → c ≠ 6 → ν'.1 c = ν.1 c) ∧ ν'.2 = ν.2 := by
  obtain ⟨p, ep⟩ : ∃ p, p = sp a (aN a) (sK a) (sT a) (aW a) s := ⟨_, rfl⟩
  rw [← ep]
  obtain ⟨ν1, e1, k1, k2, k3⟩ := asTheySit_e hO hM hF
  simp only [f_X4_guessOf, e1, bd, Option.bind_some]
  obtain ⟨⟨y, u, v, z⟩, m, ⟨h1, h3, h4, h5⟩, h2⟩ := lp_fu (body := fun ih σ => b_X4_guessOf_13 (nI s) x2 ih σ.1 σ.2.1 σ.2.2.1 σ.2.2.2) (fun t (x : MM × Int32 × Int32 × Int32) => x.2 = (nI (fb_ct p 40 - fb_ct p (40 - t)), lsd p t, nI (40 - t) + -1) ∧ MKx x.1.1 (aN a) (sK a) (sT a) s ∧ (∀ c, c ≠ 5 → c ≠ 6 → x.1.1 c = ν.1 c) ∧ x.1.2 = ν.2) 40 (by omega) (fun t x ht hx => by
    obtain ⟨x, q⟩ := x
    obtain ⟨hq, h3, h4, h5⟩ := hx
    have hq : q = (nI (fb_ct p 40 - fb_ct p (40 - t)), lsd p t, nI (40 - t) + -1) := hq
    subst hq
    have h3 : MKx x.1 (aN a) (sK a) (sT a) s := h3
    have h4 : ∀ c, c ≠ 5 → c ≠ 6 → x.1 c = ν.1 c := h4
    have h5 : x.2 = ν.2 := h5
    have et : 40 - t = 39 - t + 1 := by omega
    have em : nI (40 - t) + -1 = nI (39 - t) := by rw [et]; exact pk_m1 _
    have hM' : MS x.1 3 4 9 a := hM.cong (fun c hc => h4 c (by omega) (by omega))
    have hF' : MF x.1 a := hF.cong (by intros; rw [h4 0 (by omega) (by omega)])
    obtain ⟨x', g1, g2, g3, g4⟩ := isSeen_e hO hM' hF' hs h3 (show 39 - t < 40 by omega)
    rw [← ep] at g1
    have c1 : ¬ nI (39 - t) < 0 := nI_pos (by omega)
    have em2 : nI (39 - t) + -1 = nI (40 - (t + 1)) + -1 := by rw [show 40 - (t + 1) = 39 - t by omega]
    have hc : fb_ct p (40 - t) = fb_ct p (39 - t) + (if p (39 - t) then 1 else 0) := by rw [et]; exact fb_ct_succ p (39 - t)
    have hm : fb_ct p (40 - t) ≤ fb_ct p 40 := fb_ct_mono p (by omega)
    refine ⟨(x', nI (fb_ct p 40 - fb_ct p (40 - (t + 1))), lsd p (t + 1), nI (40 - (t + 1)) + -1), ⟨rfl, g2.px, fun c a1 a2 => by show x'.1 c = ν.1 c; rw [g3 c a1 a2]; exact h4 c a1 a2, by show x'.2 = ν.2; rw [g4]; exact h5⟩, fun ih => ?_⟩
    rw [lsd, show 40 - (t + 1) = 39 - t by omega]
    by_cases q : p (39 - t) = true
    · rw [if_pos q] at g1 hc ⊢
      simp only [b_X4_guessOf_13, g_X4_guessOf_35, em, c1, ↓reduceIte, g1, bd2, Option.bind_some, i10, nI_1]
      rw [show fb_ct p 40 - fb_ct p (40 - t) + 1 = fb_ct p 40 - fb_ct p (39 - t) by omega]
    · rw [if_neg q] at g1 hc ⊢
      simp only [b_X4_guessOf_13, g_X4_guessOf_35, em, c1, ↓reduceIte, g1, bd2, Option.bind_some]
      rw [show fb_ct p 40 - fb_ct p (40 - t) = fb_ct p 40 - fb_ct p (39 - t) by omega]) (ν1, (0 : Int32), (-1 : Int32), (39 : Int32)) ⟨by rw [Nat.sub_zero, Nat.sub_self, nI_0]; rfl, k1.mx s, k2, k3⟩
  have h1 : (u, v, z) = (nI (fb_ct p 40 - fb_ct p (40 - 40)), lsd p 40, nI (40 - 40) + -1) := h1
  rw [Nat.sub_self] at h1
  have h1 : (u, v, z) = (nI (fb_ct p 40), lsd p 40, -1) := h1
  obtain ⟨rfl, rfl, rfl⟩ : u = nI (fb_ct p 40) ∧ v = lsd p 40 ∧ z = -1 := by simpa using h1
  refine ⟨y, ?_, h4, h5⟩
  rw [h2]
  have c1 : (-1 : Int32) < 0 := by decide
  simp only [b_X4_guessOf_13, g_X4_guessOf_41, c1, ↓reduceIte]
  split <;> rfl
theorem in01 {x : Int32} (h : inb x 2) (μ : MM) : f_X4_in μ x.toInt64 0 1 = 1 ∧ ¬ x < 0 ∧ x ≤ 1 := by
  rw [inb_iff (by omega)] at h
  have e0 : (0 : Int32).toInt = 0 := by decide
  have e2 : (1 : Int32).toInt = 1 := by decide
  refine ⟨in_t ?_ ?_, ?_, ?_⟩
  · show (0 : Int) ≤ x.toInt; omega
  · show x.toInt ≤ 1; omega
  · rw [fa_lt, e0]; omega
  · rw [fa_le, e2]; omega
theorem out01 {x : Int32} (h : ¬ inb x 2) (μ : MM) : f_X4_in μ x.toInt64 0 1 = 0 ∧ (x < 0 ∨ (¬ x < 0 ∧ ¬ x ≤ 1)) := by
  rw [inb_iff (by omega)] at h
  have e0 : (0 : Int32).toInt = 0 := by decide
  have e2 : (1 : Int32).toInt = 1 := by decide
  refine ⟨in_f ?_, ?_⟩
  · rintro ⟨h1, h2⟩
    exact h ⟨h1, by have h2 : x.toInt ≤ 1 := h2; omega⟩
  · rw [fa_lt, fa_le, e0, e2]; omega
theorem st_guess {T : Nat} {μ : Mem} {ν : MM} {x1 x2 : Int32} (h : Rel T μ ν) : ∃ (μ' : Mem) (ν' : MM) (r : Int32), f_X3_guess μ x1 x2 = some (μ', r) ∧ f_X4_guess ν x1 x2 = some (ν', r) ∧ Rel (T + 1) μ' ν' := by
  obtain ⟨a, pn, pg, rr, sd, hO, hC, hM, hF, hG, hN, hK⟩ := id h
  have h6 := hO.2.1
  by_cases hx : inb x1 (aN a)
  · obtain ⟨s, hs, rfl⟩ := hx
    by_cases hz : inb x2 2
    · obtain ⟨i1, i2, i3⟩ := in01 hz ν
      obtain ⟨μ', e1, e2⟩ := guessesFor_e hO hC hs
      obtain ⟨ν', g1, g2, g3⟩ := guessOf_e (x2 := x2) hO hM hF hs
      refine ⟨μ', ν', if x2 = 0 then nI (fb_ct (sp a (aN a) (sK a) (sT a) (aW a) s) 40) else lsd (sp a (aN a) (sK a) (sT a) (aW a) s) 40, ?_, ?_, (h.scr2 ⟨e2, fun c hc => g2 c (by omega) (by omega), fun k _ _ _ _ => by rw [g2 0 (by omega) (by omega)], g3⟩).mono (by omega)⟩
      · simp only [f_X3_guess, nm, isPlace_t hC.1.1 h6 hs, i10, ↓reduceIte, i2, i3, e1, bd2, Option.bind_some, bm_count, least_l]
        split <;> rfl
      · simp only [f_X4_guess, nm, mRook_t hF.1 h6 hs, i10, ↓reduceIte, i1, g1, bd2, Option.bind_some]
    · obtain ⟨i1, i2⟩ := out01 hz ν
      refine ⟨μ, ν, -102, ?_, ?_, h.mono (by omega)⟩
      · rcases i2 with i2 | ⟨i2, i3⟩
        · simp only [f_X3_guess, nm, isPlace_t hC.1.1 h6 hs, i10, ↓reduceIte, i2]
        · simp only [f_X3_guess, nm, isPlace_t hC.1.1 h6 hs, i10, ↓reduceIte, i2, i3]
      · simp only [f_X4_guess, nm, mRook_t hF.1 h6 hs, i10, ↓reduceIte, i1]
  · refine ⟨μ, ν, -101, ?_, ?_, h.mono (by omega)⟩
    · simp only [f_X3_guess, nm, isPlace_f hC.1.1 h6 hx, ↓reduceIte]
    · simp only [f_X4_guess, nm, mRook_f hF.1 h6 hx, ↓reduceIte]
