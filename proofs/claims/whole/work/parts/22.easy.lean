/-! what a rook makes of a word -/
def mk (k t w m : Nat) : Nat := if k = 1 then m ^^^ t else if k = 2 then (m + t + t * w) % 8 else if k = 4 then (m + t + t * w + 1) % 8 else m
theorem mk_lt : ∀ k, k < 5 → ∀ t, t < 8 → ∀ w, w < 2 → ∀ m, m < 8 → mk k t w m < 8 := by decide +kernel
theorem made_0 : ∀ k, k < 5 → ∀ t, t < 8 → ∀ w, w < 2 → ∀ m, m < 8 → f_X0_made (fun _ _ => 0) (nI k) (nI t) (nI w) (nI m) = nI (mk k t w m) := by decide +kernel
theorem makes_0 : ∀ k, k < 5 → ∀ t, t < 8 → ∀ w, w < 2 → ∀ m, m < 8 → f_X4_makes (fun _ _ => 0, 0) (nI k) (nI t) (nI w) (nI m) = nI (mk k t w m) := by decide +kernel
theorem made_e {μ : Mem} {k t w m : Nat} (hk : k < 5) (ht : t < 8) (hw : w < 2) (hm : m < 8) : f_X0_made μ (nI k) (nI t) (nI w) (nI m) = nI (mk k t w m) := by
  have e : f_X0_made μ (nI k) (nI t) (nI w) (nI m) = f_X0_made (fun _ _ => 0) (nI k) (nI t) (nI w) (nI m) := rfl
  rw [e]; exact made_0 k hk t ht w hw m hm
theorem makes_e {μ : MM} {k t w m : Nat} (hk : k < 5) (ht : t < 8) (hw : w < 2) (hm : m < 8) : f_X4_makes μ (nI k) (nI t) (nI w) (nI m) = nI (mk k t w m) := by
  have e : f_X4_makes μ (nI k) (nI t) (nI w) (nI m) = f_X4_makes (fun _ _ => 0, 0) (nI k) (nI t) (nI w) (nI m) := rfl
  rw [e]; exact makes_0 k hk t ht w hw m hm
/-! where a rook sits -/
theorem sits {a : AS} (hO : OKS a) {j : Nat} (hj : j < aN a) : ∃ i, i < aN a ∧ aS a i = j := by
  obtain ⟨g1, g2, g3, g4, g5, g6, g7⟩ := hO
  exact fb_onto (fun i hi => (g3 i hi).2.2) (fun i j hij hj e => by have := g4 i j (by omega) hj e; omega) hj
theorem placeOf_e {μ : Mem} {a : AS} (hO : OKS a) (hC : CS μ 3 4 5 6 7 8 9 10 a) {i : Nat} (hi : i < aN a) : f_X2_placeOf μ (nI (aS a i)) = some (nI i) := by
  have h6 := hO.2.1
  have b6 := (hO.2.2.1 i hi).2.2
  unfold f_X2_placeOf
  obtain ⟨y, m, rfl, h2⟩ := lp_fu (body := fun ih σ => b_X2_placeOf_2 μ (nI (aS a i)) ih σ) (fun k x => x = nI k) i (by omega) (fun k x hk hx => by
    subst hx
    refine ⟨nI (k + 1), rfl, fun ih => ?_⟩
    have c1 : ¬ nI (aN a) ≤ nI k := nI_ge (by omega) (by omega)
    have bk := (hO.2.2.1 k (by omega)).2.2
    have c2 : (nI (aS a k) = nI (aS a i)) = False := eq_false (by
      rw [nI_eq (by omega) (by omega)]
      intro e
      have := hO.2.2.2.1 k i (by omega) hi e
      omega)
    simp only [b_X2_placeOf_2, hC.1.1, c1, ↓reduceIte, ck_t (vin (N := 6) (show k < 6 by omega)), cl (j := k), (hC.2.1 k (by omega)).2.2.2, c2, nI_1]) (0 : Int32) nI_0.symm
  rw [h2]
  have c1 : ¬ nI (aN a) ≤ nI i := nI_ge (by omega) (by omega)
  simp only [b_X2_placeOf_2, hC.1.1, c1, ↓reduceIte, ck_t (vin (N := 6) (show i < 6 by omega)), cl (j := i), (hC.2.1 i hi).2.2.2]
/-- the numbers that about() may be asked for -/
theorem about_cases (x : Int32) : (∃ k, k < 4 ∧ x = nI k) ∨ (∃ w, w < 8 ∧ x = nI (10 + w)) ∨ ((x.toInt < 0 ∨ (3 < x.toInt ∧ x.toInt < 10) ∨ 17 < x.toInt)) := by
  by_cases h1 : 0 ≤ x.toInt ∧ x.toInt < 4
  · exact Or.inl ((inb_iff (n := 4) (by omega)).mpr h1)
  · by_cases h2 : 10 ≤ x.toInt ∧ x.toInt < 18
    · obtain ⟨j, hj, e⟩ := (inb_iff (x := x) (n := 18) (by omega)).mpr ⟨by omega, by have := h2.2; show x.toInt < 18; omega⟩
      rw [e, nI_toInt (by omega)] at h2
      exact Or.inr (Or.inl ⟨j - 10, by omega, by rw [e]; congr 1; omega⟩)
    · exact Or.inr (Or.inr (by omega))
theorem tell_e {μ : Mem} {ν : MM} {a : AS} (hO : OKS a) (hC : CS μ 3 4 5 6 7 8 9 10 a) (hM : MS ν.1 3 4 9 a) (hF : MF ν.1 a) {j : Nat} (hj : j < aN a) (x2 : Int32) : ∃ r, f_X3_about μ (nI j) x2 = some r ∧ f_X4_tell ν (nI j) x2 = some r := by
  have h6 := hO.2.1
  rcases about_cases x2 with ⟨k, hk, rfl⟩ | ⟨w, hw, rfl⟩ | hx
  · have c1 : f_X4_in ν (nI k).toInt64 10 17 = 0 := in_f (by rw [nI_toInt (by omega)]; show ¬ ((10 : Int) ≤ k ∧ (k : Int) ≤ 17); omega)
    have c2 : f_X4_in ν (nI k).toInt64 0 3 = 1 := in_t (by rw [nI_toInt (by omega)]; show (0 : Int) ≤ k; omega) (by rw [nI_toInt (by omega)]; show (k : Int) ≤ 3; omega)
    have e4 : f_X4_tell ν (nI j) (nI k) = some (ν.1 3 (4 * j + k)) := by
      simp only [f_X4_tell, nm, c1, c2, i10, ↓reduceIte, ix4, nI_add, ck_t (vin (N := 24) (show 4 * j + k < 24 by omega)), cl (j := 4 * j + k)]
    rw [e4]
    rcases (show k = 0 ∨ k = 1 ∨ k = 2 ∨ k = 3 by omega) with rfl | rfl | rfl | rfl
    · refine ⟨nI (aK a j), ?_, by rw [(show 4 * j + 0 = 4 * j from rfl), (hM.1 j hj).1]⟩
      simp only [f_X3_about, nm, isPlace_t hC.1.1 h6 hj, i10, ↓reduceIte, nI_0, ck_t (vin (N := 6) (show j < 6 by omega)), cl (j := j), (hC.2.1 j hj).1]
    · refine ⟨nI (aT a j), ?_, by rw [(hM.1 j hj).2.1]⟩
      have d0 : (nI 1 = (0 : Int32)) = False := eq_false (by decide)
      have d1 : (nI 1 = (1 : Int32)) = True := eq_true (by decide)
      simp only [f_X3_about, nm, isPlace_t hC.1.1 h6 hj, i10, ↓reduceIte, d0, d1, ck_t (vin (N := 6) (show j < 6 by omega)), cl (j := j), (hC.2.1 j hj).2.1]
    · obtain ⟨i, hi, rfl⟩ := sits hO hj
      refine ⟨nI i, ?_, by rw [(hM.1 i hi).2.2.2.2]⟩
      have d0 : (nI 2 = (0 : Int32)) = False := eq_false (by decide)
      have d1 : (nI 2 = (1 : Int32)) = False := eq_false (by decide)
      have d2 : (nI 2 = (2 : Int32)) = True := eq_true (by decide)
      simp only [f_X3_about, nm, isPlace_t hC.1.1 h6 hj, i10, ↓reduceIte, d0, d1, d2, placeOf_e hO hC hi, bd, Option.bind_some]
    · refine ⟨aP a j, ?_, by rw [(hM.1 j hj).2.2.1]⟩
      have d0 : (nI 3 = (0 : Int32)) = False := eq_false (by decide)
      have d1 : (nI 3 = (1 : Int32)) = False := eq_false (by decide)
      have d2 : (nI 3 = (2 : Int32)) = False := eq_false (by decide)
      have d3 : (nI 3 = (3 : Int32)) = True := eq_true (by decide)
      simp only [f_X3_about, nm, isPlace_t hC.1.1 h6 hj, i10, ↓reduceIte, d0, d1, d2, d3, ck_t (vin (N := 6) (show j < 6 by omega)), cl (j := j), (hC.2.1 j hj).2.2.1]
  · have c1 : f_X4_in ν (nI (10 + w)).toInt64 10 17 = 1 := in_t (by rw [nI_toInt (by omega)]; show (10 : Int) ≤ ((10 + w : Nat) : Int); omega) (by rw [nI_toInt (by omega)]; show ((10 + w : Nat) : Int) ≤ 17; omega)
    have hs : nI (10 + w) - (10 : Int32) = nI w := by
      show nI (10 + w) - nI 10 = nI w
      rw [pk_sub (by omega)]; congr 1; omega
    have d : ∀ n, n < 10 → (nI (10 + w) = nI n) = False := fun n hn => eq_false (by rw [nI_eq (by omega) (by omega)]; omega)
    have d0 : (nI (10 + w) = (0 : Int32)) = False := d 0 (by omega)
    have d1 : (nI (10 + w) = (1 : Int32)) = False := d 1 (by omega)
    have d2 : (nI (10 + w) = (2 : Int32)) = False := d 2 (by omega)
    have d3 : (nI (10 + w) = (3 : Int32)) = False := d 3 (by omega)
    have d4 : ¬ nI (10 + w) < (10 : Int32) := by show ¬ nI (10 + w) < nI 10; exact nI_nlt (by omega) (by omega)
    have d5 : ¬ (18 : Int32) ≤ nI (10 + w) := by show ¬ nI 18 ≤ nI (10 + w); exact nI_ge (by omega) (by omega)
    have b := hO.2.2.1 j hj
    refine ⟨nI (mk (aK a j) (aT a j) (aW a) w), ?_, ?_⟩
    · simp only [f_X3_about, f_X3_madeBy, nm, isPlace_t hC.1.1 h6 hj, i10, ↓reduceIte, d0, d1, d2, d3, d4, d5, hs, ck_t (vin (N := 6) (show j < 6 by omega)), cl (j := j), (hC.2.1 j hj).1, (hC.2.1 j hj).2.1, hC.1.2.1, made_e b.1 b.2.1 hO.2.2.2.2.1 hw, bd, Option.bind_some]
    · simp only [f_X4_tell, nm, c1, i10, ↓reduceIte, ix4, nI_1, hs, ck_t (vin (N := 24) (show 4 * j < 24 by omega)), ck_t (vin (N := 24) (show 4 * j + 1 < 24 by omega)), cl (j := 4 * j), cl (j := 4 * j + 1), (hM.1 j hj).1, (hM.1 j hj).2.1, hF.2.1, makes_e b.1 b.2.1 hO.2.2.2.2.1 hw]
  · have c1 : f_X4_in ν x2.toInt64 10 17 = 0 := in_f (by show ¬ ((10 : Int) ≤ x2.toInt ∧ x2.toInt ≤ 17); omega)
    have c2 : f_X4_in ν x2.toInt64 0 3 = 0 := in_f (by show ¬ ((0 : Int) ≤ x2.toInt ∧ x2.toInt ≤ 3); omega)
    refine ⟨-102, ?_, ?_⟩
    · have d0 : (x2 = (0 : Int32)) = False := eq_false (by rw [fa_eq]; show ¬ x2.toInt = 0; omega)
      have d1 : (x2 = (1 : Int32)) = False := eq_false (by rw [fa_eq]; show ¬ x2.toInt = 1; omega)
      have d2 : (x2 = (2 : Int32)) = False := eq_false (by rw [fa_eq]; show ¬ x2.toInt = 2; omega)
      have d3 : (x2 = (3 : Int32)) = False := eq_false (by rw [fa_eq]; show ¬ x2.toInt = 3; omega)
      simp only [f_X3_about, nm, isPlace_t hC.1.1 h6 hj, i10, ↓reduceIte, d0, d1, d2, d3]
      by_cases h9 : x2 < 10
      · rw [if_pos h9]
      · rw [if_neg h9, if_pos]
        rw [fa_lt] at h9
        rw [fa_le]
        have e1 : (10 : Int32).toInt = 10 := by decide
        have e2 : (18 : Int32).toInt = 18 := by decide
        omega
    · simp only [f_X4_tell, nm, c1, c2, ↓reduceIte]
theorem st_about {T : Nat} {μ : Mem} {ν : MM} {x1 x2 : Int32} (h : Rel T μ ν) : ∃ (r : Int32), f_X3_about μ x1 x2 = some r ∧ f_X4_about ν x1 x2 = some r ∧ Rel (T + 1) μ ν := by
  obtain ⟨a, pn, pg, rr, sd, hO, hC, hM, hF, hG, hN, hK⟩ := id h
  have h6 := hO.2.1
  by_cases hx : inb x1 (aN a)
  · obtain ⟨j, hj, rfl⟩ := hx
    obtain ⟨r, e1, e2⟩ := tell_e hO hC hM hF hj x2
    refine ⟨r, e1, ?_, h.mono (by omega)⟩
    simp only [f_X4_about, nm, mRook_t hF.1 h6 hj, i10, ↓reduceIte, e2, bd, Option.bind_some]
  · refine ⟨-101, ?_, ?_, h.mono (by omega)⟩
    · simp only [f_X3_about, nm, isPlace_f hC.1.1 h6 hx, ↓reduceIte]
    · simp only [f_X4_about, nm, mRook_f hF.1 h6 hx, ↓reduceIte]
/-! how often somebody was pecked -/
def sP (p : Nat → Int32) : Nat → Int32
  | 0 => 0
  | n + 1 => sP p n + p n
theorem allPecks_e {μ : Mem} {a : AS} (hO : OKS a) (hC : CS μ 3 4 5 6 7 8 9 10 a) : f_X2_allPecks μ = some (sP (aP a) (aN a)) := by
  have h6 := hO.2.1
  unfold f_X2_allPecks
  obtain ⟨y, m, rfl, h2⟩ := lp_fu (body := fun ih σ => b_X2_allPecks_4 μ ih σ.1 σ.2) (fun k x => x = (sP (aP a) k, nI k)) (aN a) (by omega) (fun k x hk hx => by
    subst hx
    refine ⟨(sP (aP a) (k + 1), nI (k + 1)), rfl, fun ih => ?_⟩
    have c1 : ¬ nI (aN a) ≤ nI k := nI_ge (by omega) (by omega)
    simp only [b_X2_allPecks_4, nm, hC.1.1, c1, ↓reduceIte, ck_t (vin (N := 6) (show k < 6 by omega)), cl (j := k), (hC.2.1 k hk).2.2.1, nI_1, sP]) ((0 : Int32), (0 : Int32)) (by rw [nI_0]; rfl)
  rw [h2]
  have c1 : nI (aN a) ≤ nI (aN a) := nI_le (by omega) (by omega)
  simp only [b_X2_allPecks_4, hC.1.1, c1, ↓reduceIte]
theorem countOf_e {ν : MM} {a : AS} (hO : OKS a) (hM : MS ν.1 3 4 9 a) (hF : MF ν.1 a) (x1 : Int32) : f_X4_countOf ν x1 = g_X4_countOf_31 ν x1 (sP (aP a) (aN a)) := by
  have h6 := hO.2.1
  unfold f_X4_countOf
  obtain ⟨y, m, rfl, h2⟩ := lp_fu (body := fun ih σ => b_X4_countOf_4 ν x1 ih σ.1 σ.2) (fun k x => x = (sP (aP a) k, nI k)) (aN a) (by omega) (fun k x hk hx => by
    subst hx
    refine ⟨(sP (aP a) (k + 1), nI (k + 1)), rfl, fun ih => ?_⟩
    have c1 : ¬ nI (aN a) ≤ nI k := nI_ge (by omega) (by omega)
    simp only [b_X4_countOf_4, nm, hF.1, c1, ↓reduceIte, ix4, nI_3, ck_t (vin (N := 24) (show 4 * k + 3 < 24 by omega)), cl (j := 4 * k + 3), (hM.1 k hk).2.2.1, nI_1, sP]) ((0 : Int32), (0 : Int32)) (by rw [nI_0]; rfl)
  rw [h2]
  have c1 : nI (aN a) ≤ nI (aN a) := nI_le (by omega) (by omega)
  simp only [b_X4_countOf_4, hF.1, c1, ↓reduceIte]
theorem count_e {T : Nat} {μ : Mem} {ν : MM} (h : Rel T μ ν) (x1 : Int32) : ∃ r, f_X3_count μ x1 = some r ∧ f_X4_countOf ν x1 = some r := by
  obtain ⟨a, pn, pg, rr, sd, hO, hC, hM, hF, hG, hN, hK⟩ := id h
  rw [countOf_e hO hM hF]
  unfold f_X3_count g_X4_countOf_31
  simp only [allPecks_e hO hC, bd, Option.bind_some, hC.1.1, hC.1.2.1, hC.1.2.2.1, hC.1.2.2.2.1, hC.1.2.2.2.2, hF.1, hF.2.1, hF.2.2.1, hF.2.2.2.1, hF.2.2.2.2, hG.2.1, hG.2.2.1, hN.2.1, hN.2.2.1, hN.2.2.2.2.1, hN.2.2.2.2.2]
  repeat' split
  all_goals exact ⟨_, rfl, rfl⟩
theorem st_count {T : Nat} {μ : Mem} {ν : MM} {x1 : Int32} (h : Rel T μ ν) : ∃ (r : Int32), f_X3_count μ x1 = some r ∧ f_X4_count ν x1 = some r ∧ Rel (T + 1) μ ν := by
  obtain ⟨r, e1, e2⟩ := count_e h x1
  refine ⟨r, e1, ?_, h.mono (by omega)⟩
  simp only [f_X4_count, e2, bd, Option.bind_some]
