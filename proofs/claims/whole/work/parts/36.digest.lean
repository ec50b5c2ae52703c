/-! digest -/
def hx (h : Int64) (v : Int32) : Int64 := 31 * h + v.toInt64
noncomputable def Va (μ : Mem) (i : Nat) (x : Int32) : Int32 := (f_X3_about μ (nI i) x).getD 0
theorem Va_e {μ : Mem} {ν : MM} {a : AS} (hO : OKS a) (hC : CS μ 3 4 5 6 7 8 9 10 a) (hM : MS ν.1 3 4 9 a) (hF : MF ν.1 a) {i : Nat} (hi : i < aN a) (x : Int32) : f_X3_about μ (nI i) x = some (Va μ i x) ∧ ∀ h, f_X4_tell (ν.1, h) (nI i) x = some (Va μ i x) := by
  obtain ⟨r, e1, -⟩ := tell_e hO hC hM hF hi x
  have ev : Va μ i x = r := by unfold Va; rw [e1]; rfl
  refine ⟨by rw [ev]; exact e1, fun h => ?_⟩
  obtain ⟨r', e3, e4⟩ := tell_e (ν := (ν.1, h)) hO hC hM hF hi x
  rw [e1] at e3
  rw [ev, e4, e3]
noncomputable def Rk (μ : Mem) (i : Nat) (h : Int64) : Nat → Int64
  | 0 => h
  | t + 1 => if 4 ≤ t ∧ t ≤ 9 then Rk μ i h t else hx (Rk μ i h t) (Va μ i (nI t))
theorem withRook_e {μ : Mem} {ν : MM} {a : AS} (hO : OKS a) (hC : CS μ 3 4 5 6 7 8 9 10 a) (hM : MS ν.1 3 4 9 a) (hF : MF ν.1 a) {i : Nat} (hi : i < aN a) (h : Int64) : f_X3_withRook μ h (nI i) = some (Rk μ i h 18) := by
  unfold f_X3_withRook
  obtain ⟨y, m, rfl, h2⟩ := lp_fu (body := fun ih σ => b_X3_withRook_6 μ (nI i) ih σ.1 σ.2) (fun k x => x = (Rk μ i h k, nI k)) 4 (by omega) (fun k x hk hx => by
    subst hx
    refine ⟨_, rfl, fun ih => ?_⟩
    have c1 : ¬ (3 : Int32) < nI k := by show ¬ nI 3 < nI k; exact nI_nlt (by omega) (by omega)
    rw [Rk, if_neg (by omega)]
    simp only [b_X3_withRook_6, f_X3_mix, nm, c1, ↓reduceIte, (Va_e hO hC hM hF hi (nI k)).1, bd, Option.bind_some, nI_1, hx]) (h, (0 : Int32)) (by rw [nI_0]; rfl)
  rw [h2]
  have c1 : (3 : Int32) < nI 4 := by decide
  simp only [b_X3_withRook_6, g_X3_withRook_33, c1, ↓reduceIte]
  have e10 : Rk μ i h 10 = Rk μ i h 4 := by
    rw [Rk, if_pos (by omega), Rk, if_pos (by omega), Rk, if_pos (by omega), Rk, if_pos (by omega), Rk, if_pos (by omega), Rk, if_pos (by omega)]
  obtain ⟨y, m', rfl, h3⟩ := lp_fu (body := fun ih σ => b_X3_withRook_37 μ (nI i) ih σ.1 σ.2) (fun k x => x = (Rk μ i h (10 + k), nI (10 + k))) 8 (by omega) (fun k x hk hx => by
    subst hx
    refine ⟨_, rfl, fun ih => ?_⟩
    have c1 : ¬ (18 : Int32) ≤ nI (10 + k) := by show ¬ nI 18 ≤ nI (10 + k); exact nI_ge (by omega) (by omega)
    rw [show 10 + (k + 1) = 10 + k + 1 from rfl, Rk, if_neg (by omega)]
    simp only [b_X3_withRook_37, f_X3_mix, nm, c1, ↓reduceIte, (Va_e hO hC hM hF hi (nI (10 + k))).1, bd, Option.bind_some, nI_1, hx]) (Rk μ i h 4, (10 : Int32)) (by rw [Nat.add_zero, e10]; rfl)
  rw [h3]
  have c2 : (18 : Int32) ≤ nI (10 + 8) := by decide
  simp only [b_X3_withRook_37, c2, ↓reduceIte]
theorem mrook_e {μ : Mem} {ν : Mem} {a : AS} (hO : OKS a) (hC : CS μ 3 4 5 6 7 8 9 10 a) (hM : MS ν 3 4 9 a) (hF : MF ν a) {i : Nat} (hi : i < aN a) (h : Int64) (ih9 : MM × Int32 → Option (MM × Int64)) : lp (fun ih σ => b_X4_digest_19 (nI i) ih9 ih σ.1 σ.2) fu ((ν, h), (0 : Int32)) = ih9 ((ν, Rk μ i h 18), nI (i + 1)) := by
  obtain ⟨y, m, rfl, h2⟩ := lp_fu (body := fun ih (σ : MM × Int32) => b_X4_digest_19 (nI i) ih9 ih σ.1 σ.2) (fun k x => x = ((ν, Rk μ i h k), nI k)) 18 (by omega) (fun k x hk hx => by
    subst hx
    refine ⟨_, rfl, fun ih => ?_⟩
    have c1 : ¬ (18 : Int32) ≤ nI k := by show ¬ nI 18 ≤ nI k; exact nI_ge (by omega) (by omega)
    have et := (Va_e (ν := (ν, h)) hO hC hM hF hi (nI k)).2 (Rk μ i h k)
    have et : f_X4_tell (ν, Rk μ i h k) (nI i) (nI k) = some (Va μ i (nI k)) := et
    rw [Rk]
    by_cases q : 4 ≤ k ∧ k ≤ 9
    · have c2 : ¬ nI k < (4 : Int32) := by show ¬ nI k < nI 4; exact nI_nlt (by omega) (by omega)
      have c3 : nI k ≤ (9 : Int32) := by show nI k ≤ nI 9; exact nI_le (by omega) (by omega)
      rw [if_pos q]
      simp only [b_X4_digest_19, g_X4_digest_47, c1, c2, c3, ↓reduceIte, nI_1]
    · rw [if_neg q]
      by_cases q2 : k < 4
      · have c2 : nI k < (4 : Int32) := by show nI k < nI 4; exact nI_lt (by omega) (by omega)
        simp only [b_X4_digest_19, g_X4_digest_36, g_X4_digest_47, f_X4_say, nm, c1, c2, ↓reduceIte, et, bd, Option.bind_some, nI_1, hx]
      · have c2 : ¬ nI k < (4 : Int32) := by show ¬ nI k < nI 4; exact nI_nlt (by omega) (by omega)
        have c3 : ¬ nI k ≤ (9 : Int32) := by show ¬ nI k ≤ nI 9; exact nI_ge (by omega) (by omega)
        simp only [b_X4_digest_19, g_X4_digest_36, g_X4_digest_47, f_X4_say, nm, c1, c2, c3, ↓reduceIte, et, bd, Option.bind_some, nI_1, hx]) ((ν, h), (0 : Int32)) (by rw [nI_0]; rfl)
  rw [h2]
  have c1 : (18 : Int32) ≤ nI 18 := by decide
  simp only [b_X4_digest_19, g_X4_digest_53, c1, ↓reduceIte, nI_1]
/-! places -/
noncomputable def D2 (a : AS) (i : Nat) (h : Int64) : Int64 := hx (hx (hx (hx (hx (hx h (nI (aS a i))) (nI (CM (aN a) (sK a) (sT a) (aW a) i 0))) (nI (CM (aN a) (sK a) (sT a) (aW a) i 5))) (nI (fb_ct (sp a (aN a) (sK a) (sT a) (aW a) i) 40))) (lsd (sp a (aN a) (sK a) (sT a) (aW a) i) 40)) (mb (wo a i) 8).1
theorem comes_c {μ : Mem} {a : AS} (hO : OKS a) (hC : CS μ 3 4 5 6 7 8 9 10 a) {s m : Nat} (hs : s < aN a) (hm : m < 8) : ∃ μ', f_X3_comes μ (nI s) (nI m) = some (μ', nI (CM (aN a) (sK a) (sT a) (aW a) s m)) ∧ ∀ c, c < 19 → μ' c = μ c := by
  have h6 := hO.2.1
  obtain ⟨μ', e1, k1, k2⟩ := seatAll_e hO hC
  refine ⟨μ', ?_, fun c hc => k2 c (by omega) (by omega) (by omega)⟩
  simp only [f_X3_comes, nm, isPlace_t hC.1.1 h6 hs, isWord_t hm, i10, ↓reduceIte, e1, bd, Option.bind_some, outcome_e (hO.bk (by omega)) k1 hs hm]
theorem withPlace_e {μ : Mem} {a : AS} (hO : OKS a) (hC : CS μ 3 4 5 6 7 8 9 10 a) {i : Nat} (hi : i < aN a) (h : Int64) : ∃ μ', f_X3_withPlace μ h (nI i) = some (μ', D2 a i h) ∧ ∀ c, c < 19 → μ' c = μ c := by
  have h6 := hO.2.1
  have e0 : f_X3_seat μ (nI i) = some (nI (aS a i)) := by
    simp only [f_X3_seat, nm, isPlace_t hC.1.1 h6 hi, i10, ↓reduceIte, ck_t (vin (N := 6) (show i < 6 by omega)), cl (j := i), (hC.2.1 i hi).2.2.2]
  obtain ⟨μ1, e1, f1⟩ := comes_c (m := 0) hO hC hi (by omega)
  have hC1 : CS μ1 3 4 5 6 7 8 9 10 a := hC.cong (fun c hc => f1 c (by omega))
  obtain ⟨μ2, e2, f2⟩ := comes_c (m := 5) hO hC1 hi (by omega)
  have hC2 : CS μ2 3 4 5 6 7 8 9 10 a := hC1.cong (fun c hc => f2 c (by omega))
  obtain ⟨μ3, e3, f3⟩ := guessesFor_e hO hC2 hi
  have hC3 : CS μ3 3 4 5 6 7 8 9 10 a := hC2.cong (fun c hc => f3 c (by omega))
  obtain ⟨μ4, e4, f4⟩ := caw_same hO hC3 hi
  have e1 : f_X3_comes μ (nI i) 0 = some (μ1, nI (CM (aN a) (sK a) (sT a) (aW a) i 0)) := e1
  have e2 : f_X3_comes μ1 (nI i) 5 = some (μ2, nI (CM (aN a) (sK a) (sT a) (aW a) i 5)) := e2
  refine ⟨μ4, ?_, fun c hc => by rw [f4 c hc, f3 c hc, f2 c hc, f1 c hc]⟩
  simp only [f_X3_withPlace, f_X3_mix, nm, e0, e1, e2, e3, e4, bd, bd2, Option.bind_some, bm_count, least_l, D2, hx]
theorem saySeat_e {ν : MM} {a : AS} (hO : OKS a) (hM : MS ν.1 3 4 9 a) (hF : MF ν.1 a) {i : Nat} (hi : i < aN a) : ∃ ν', f_X4_saySeat ν (nI i) = some ν' ∧ ν'.2 = D2 a i ν.2 ∧ ∀ c, c ≠ 5 → c ≠ 6 → c ≠ 10 → ν'.1 c = ν.1 c := by
  have h6 := hO.2.1
  have d4 : ν.1 4 i = nI (aS a i) := (hM.1 i hi).2.2.2.1
  obtain ⟨ν1, e1, k1, f1, g1⟩ := asTheySit_e (ν := (ν.1, 31 * ν.2 + (nI (aS a i)).toInt64)) hO hM hF
  have f1 : ∀ c, c ≠ 5 → c ≠ 6 → ν1.1 c = ν.1 c := f1
  have g1 : ν1.2 = 31 * ν.2 + (nI (aS a i)).toInt64 := g1
  have e07 : ν1.1 0 7 = nI (aW a) := by rw [f1 0 (by omega) (by omega)]; exact hF.2.1
  have hB := hO.bk (show 0 < aN a by omega)
  have c0 : f_X4_comesOf ν1 (nI i) 0 (nI (aW a)) = some (nI (CM (aN a) (sK a) (sT a) (aW a) i 0)) := comesOf_e (m := 0) hB k1 hi (by omega)
  have c5 : ∀ h, f_X4_comesOf (ν1.1, h) (nI i) 5 (nI (aW a)) = some (nI (CM (aN a) (sK a) (sT a) (aW a) i 5)) := fun h => comesOf_e (ν := (ν1.1, h)) (m := 5) hB k1 hi (by omega)
  have hM1 : MS ν1.1 3 4 9 a := hM.cong (fun c hc => f1 c (by omega) (by omega))
  have hF1 : MF ν1.1 a := hF.cong (by intros; rw [f1 0 (by omega) (by omega)])
  obtain ⟨ν2, e2, f2, g2⟩ := guessOf_e (ν := (ν1.1, 31 * (31 * ν1.2 + (nI (CM (aN a) (sK a) (sT a) (aW a) i 0)).toInt64) + (nI (CM (aN a) (sK a) (sT a) (aW a) i 5)).toInt64)) (x2 := 0) hO hM1 hF1 hi
  have f2 : ∀ c, c ≠ 5 → c ≠ 6 → ν2.1 c = ν1.1 c := f2
  have g2 : ν2.2 = 31 * (31 * ν1.2 + (nI (CM (aN a) (sK a) (sT a) (aW a) i 0)).toInt64) + (nI (CM (aN a) (sK a) (sT a) (aW a) i 5)).toInt64 := g2
  rw [if_pos rfl] at e2
  have hM2 : MS ν2.1 3 4 9 a := hM1.cong (fun c hc => f2 c (by omega) (by omega))
  have hF2 : MF ν2.1 a := hF1.cong (by intros; rw [f2 0 (by omega) (by omega)])
  obtain ⟨ν3, e3, f3, g3⟩ := guessOf_e (ν := (ν2.1, 31 * ν2.2 + (nI (fb_ct (sp a (aN a) (sK a) (sT a) (aW a) i) 40)).toInt64)) (x2 := 1) hO hM2 hF2 hi
  have f3 : ∀ c, c ≠ 5 → c ≠ 6 → ν3.1 c = ν2.1 c := f3
  have g3 : ν3.2 = 31 * ν2.2 + (nI (fb_ct (sp a (aN a) (sK a) (sT a) (aW a) i) 40)).toInt64 := g3
  rw [if_neg (by decide)] at e3
  have hM3 : MS ν3.1 3 4 9 a := hM2.cong (fun c hc => f3 c (by omega) (by omega))
  have hF3 : MF ν3.1 a := hF2.cong (by intros; rw [f3 0 (by omega) (by omega)])
  obtain ⟨ν4, e4, f4, g4⟩ := cawOf_e (ν := (ν3.1, 31 * ν3.2 + (lsd (sp a (aN a) (sK a) (sT a) (aW a) i) 40).toInt64)) hO hM3 hF3 hi
  have f4 : ∀ c, c ≠ 5 → c ≠ 6 → c ≠ 10 → ν4.1 c = ν3.1 c := f4
  have g4 : ν4.2 = 31 * ν3.2 + (lsd (sp a (aN a) (sK a) (sT a) (aW a) i) 40).toInt64 := g4
  refine ⟨(ν4.1, 31 * ν4.2 + (mb (wo a i) 8).1.toInt64), ?_, ?_, fun c a1 a2 a3 => by show ν4.1 c = ν.1 c; rw [f4 c a1 a2 a3, f3 c a1 a2, f2 c a1 a2, f1 c a1 a2]⟩
  · simp only [f_X4_saySeat, f_X4_say, nm, ck_t (vin (N := 6) (show i < 6 by omega)), cl (j := i), d4, e1, e2, e3, e4, e07, c0, c5, bd, bd2, Option.bind_some]
  · show 31 * ν4.2 + (mb (wo a i) 8).1.toInt64 = _
    rw [g4, g3, g2, g1]
    rfl
