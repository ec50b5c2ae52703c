/-! years -/
theorem nI_64 {g : Nat} (h : g < 2 ^ 31) : (nI g).toInt64 = lN g := by
  apply Int64.toInt_inj.mp
  rw [Int32.toInt_toInt64, nI_toInt h, pk_lT (by omega)]
theorem lN_32 {g : Nat} (h : g < 2 ^ 31) : (lN g).toInt32 = nI g := by rw [← nI_64 h, lg_l2i_i2l]
def sdn (g : Nat) : Nat := (1103515245 * g + 12345) % 2 ^ 31
theorem sdn_lt (g : Nat) : sdn g < 2 ^ 31 := Nat.mod_lt _ (by omega)
theorem q64a : (1103515245 : Int64) = lN 1103515245 := fa_litL 1103515245
theorem q64b : (12345 : Int64) = lN 12345 := fa_litL 12345
theorem q64c : (2147483648 : Int64) = lN (2 ^ 31) := (fa_litL 2147483648).trans (congrArg lN (by decide))
theorem q64d : (2147483647 : Int64) = lN (2 ^ 31 - 1) := (fa_litL 2147483647).trans (congrArg lN (by decide))
theorem seed_c {μ : Mem} {g : Nat} (h : g < 2 ^ 31) : f_X3_seedAfter μ (nI g) = nI (sdn g) := by
  unfold f_X3_seedAfter
  rw [nI_64 h]
  rw [q64a, q64b, q64c, lN_mul, lN_add, pk_lRem (by omega) (by omega) (by omega)]
  exact lN_32 (sdn_lt g)
theorem seed_m {g : Nat} (h : g < 2 ^ 31) : ((((1103515245 : Int64) * (nI g).toInt64) + (12345 : Int64)) &&& (2147483647 : Int64)).toInt32 = nI (sdn g) := by
  rw [nI_64 h]
  rw [q64a, q64b, q64d, lN_mul, lN_add, fb_maskL]
  exact lN_32 (sdn_lt g)
theorem drw_e {g d : Nat} (h : g < 2 ^ 31) (h0 : 0 < d) (hd : d ≤ 8) : (nI g / (65536 : Int32)) - (nI g / (65536 : Int32)) / nI d * nI d = nI (g / 65536 % d) := by
  have e1 : nI g / (65536 : Int32) = nI (g / 65536) := by
    show nI g / nI 65536 = _
    exact pk_div (by omega) (by omega) (by omega)
  rw [e1, pk_rem (by omega) h0 (by omega)]
theorem drawn_e {μ : Mem} {g d : Nat} (h : g < 2 ^ 31) (h0 : 0 < d) (hd : d ≤ 8) : f_X3_drawn μ (nI g) (nI d) = some (nI (g / 65536 % d)) := by
  unfold f_X3_drawn
  rw [if_neg (nI_nle h0 (by omega)), ck_t (nI_ne0 h0 (by omega)), drw_e h h0 hd]
theorem draw_e {ν : MM} {g d : Nat} (h : g < 2 ^ 31) (hg : ν.1 0 21 = nI g) (h0 : 0 < d) (hd : d ≤ 8) : f_X4_draw ν (nI d) = some (upM ν 0 21 (nI (sdn g)), nI (sdn g / 65536 % d)) := by
  simp only [f_X4_draw, nm, hg, seed_m h, ck_t (nI_ne0 h0 (show d < 2 ^ 31 by omega)), upM_1, up_s, drw_e (sdn_lt g) h0 hd]
theorem nat_of {x : Int32} (h : ¬ x < 0) : ∃ g, g < 2 ^ 31 ∧ x = nI g := by
  rw [fa_lt] at h
  have h0 : (0 : Int32).toInt = 0 := by decide
  have hx := Int32.toInt_lt x
  refine ⟨x.toInt.toNat, by omega, Int32.toInt_inj.mp ?_⟩
  rw [nI_toInt (by omega)]
  omega
theorem years_go {μ0 : Mem} {ν0 : MM} {n N : Nat} {K T : Nat → Nat} {w g0 : Nat} {x3 : Int32} (hB : BK n K T w) (k1 : CK μ0 n K T w) (k2 : MK ν0.1 n K T) (k4 : μ0 3 7 = nI n) (hg : g0 < 2 ^ 31) (k5 : ν0.1 0 21 = nI g0) (hN : N ≤ 60) : ∃ μ' ν' r, lp (fun ih σ => b_X3_yearsGoneBy_23 (nI N) x3 ih σ.1 σ.2.1 σ.2.2.1 σ.2.2.2.1 σ.2.2.2.2) fu (μ0, nI g0, (0 : Int32), (-1 : Int32), (0 : Int32)) = some (μ', r) ∧ lp (fun ih σ => b_X4_years_65 (nI N) x3 ih σ.1 σ.2.1 σ.2.2.1 σ.2.2.2.1 σ.2.2.2.2) fu (ν0, nI w, (0 : Int32), (-1 : Int32), (0 : Int32)) = some (ν', r) ∧ (∀ c, c ≠ 19 → μ' c = μ0 c) ∧ (∀ c, c ≠ 0 → ν'.1 c = ν0.1 c) ∧ (∀ k, k ≠ 21 → ν'.1 0 k = ν0.1 0 k) ∧ ν'.2 = ν0.2 := by
  have h6 := hB.2.1
  have h0 := hB.1
  obtain ⟨r, r', ⟨q1, q2, q3, q4, q5⟩, g1, g2⟩ := lpp (b1 := fun ih σ => b_X3_yearsGoneBy_23 (nI N) x3 ih σ.1 σ.2.1 σ.2.2.1 σ.2.2.2.1 σ.2.2.2.2) (b2 := fun ih σ => b_X4_years_65 (nI N) x3 ih σ.1 σ.2.1 σ.2.2.1 σ.2.2.2.1 σ.2.2.2.2)
    (fun k (x : Mem × Int32 × Int32 × Int32 × Int32) (y : MM × Int32 × Int32 × Int32 × Int32) => ∃ g w x5 x6, k ≤ N ∧ g < 2 ^ 31 ∧ w < 2 ∧ x.2 = (nI g, x5, x6, nI k) ∧ y.2 = (nI w, x5, x6, nI k) ∧ y.1.1 0 21 = nI g ∧ x.1 19 2 = nI n ∧ x.1 19 3 = nI w ∧ (∀ c, c ≠ 19 → x.1 c = μ0 c) ∧ (∀ c, c ≠ 0 → y.1.1 c = ν0.1 c) ∧ (∀ k, k ≠ 21 → y.1.1 0 k = ν0.1 0 k) ∧ y.1.2 = ν0.2)
    (fun (r : Mem × Int32) (r' : MM × Int32) => r.2 = r'.2 ∧ (∀ c, c ≠ 19 → r.1 c = μ0 c) ∧ (∀ c, c ≠ 0 → r'.1.1 c = ν0.1 c) ∧ (∀ k, k ≠ 21 → r'.1.1 0 k = ν0.1 0 k) ∧ r'.1.2 = ν0.2) N (by omega) (fun k x y hR => by
    obtain ⟨μ, x⟩ := x
    obtain ⟨ν, y⟩ := y
    obtain ⟨g, w, x5, x6, hk, hg, hw, hx, hy, s1, s2, s3, f1, f2, f3, f4⟩ := hR
    have hx : x = (nI g, x5, x6, nI k) := hx
    have hy : y = (nI w, x5, x6, nI k) := hy
    subst hx
    subst hy
    have s1 : ν.1 0 21 = nI g := s1
    have s2 : μ 19 2 = nI n := s2
    have s3 : μ 19 3 = nI w := s3
    have f1 : ∀ c, c ≠ 19 → μ c = μ0 c := f1
    have f2 : ∀ c, c ≠ 0 → ν.1 c = ν0.1 c := f2
    have f3 : ∀ k, k ≠ 21 → ν.1 0 k = ν0.1 0 k := f3
    have f4 : ν.2 = ν0.2 := f4
    have e37 : μ 3 7 = nI n := by rw [f1 3 (by omega)]; exact k4
    have e06 : ν.1 0 6 = nI n := by rw [f3 6 (by omega)]; exact k2.1
    rcases Nat.lt_or_ge k N with hlt | hge
    · have c1 : ¬ nI N ≤ nI k := nI_ge hlt (by omega)
      obtain ⟨s, es⟩ : ∃ s, s = sdn g / 65536 % n := ⟨_, rfl⟩
      obtain ⟨m, em⟩ : ∃ m, m = sdn (sdn g) / 65536 % 8 := ⟨_, rfl⟩
      have hs : s < n := by rw [es]; exact Nat.mod_lt _ h0
      have hm : m < 8 := by rw [em]; exact Nat.mod_lt _ (by omega)
      have hB' : BK n K T w := ⟨hB.1, hB.2.1, hB.2.2.1, hw⟩
      have k1' : CK μ n K T w := ⟨s2, s3, fun i hi => by rw [f1 20 (by omega), f1 21 (by omega)]; exact k1.2.2 i hi⟩
      have k2' : MK (upM (upM ν 0 21 (nI (sdn g))) 0 21 (nI (sdn (sdn g)))).1 n K T := k2.cong (fun c hc => by rw [upM_1, up_c (by omega), upM_1, up_c (by omega)]; exact f2 c (by omega)) (by rw [upM_1, up_k (by omega), upM_1, up_k (by omega), f3 6 (by omega)])
      have hr := CM_lt (s := s) hB' hm
      have d1 : f_X3_drawn μ (nI (sdn g)) (nI n) = some (nI s) := by rw [es]; exact drawn_e (sdn_lt g) h0 (by omega)
      have d2 : f_X3_drawn μ (nI (sdn (sdn g))) 8 = some (nI m) := by rw [em]; exact drawn_e (d := 8) (sdn_lt _) (by omega) (by omega)
      have d3 : f_X4_draw ν (nI n) = some (upM ν 0 21 (nI (sdn g)), nI s) := by rw [es]; exact draw_e hg s1 h0 (by omega)
      have d4 : f_X4_draw (upM ν 0 21 (nI (sdn g))) 8 = some (upM (upM ν 0 21 (nI (sdn g))) 0 21 (nI (sdn (sdn g))), nI m) := by rw [em]; exact draw_e (d := 8) (sdn_lt g) (by rw [upM_1, up_s]) (by omega) (by omega)
      have t1 : ∀ c, c ≠ 0 → (upM (upM ν 0 21 (nI (sdn g))) 0 21 (nI (sdn (sdn g)))).1 c = ν0.1 c := fun c hc => by rw [upM_1, up_c hc, upM_1, up_c hc]; exact f2 c hc
      have t2 : ∀ k, k ≠ 21 → (upM (upM ν 0 21 (nI (sdn g))) 0 21 (nI (sdn (sdn g)))).1 0 k = ν0.1 0 k := fun k hk => by rw [upM_1, up_k hk, upM_1, up_k hk]; exact f3 k hk
      have t3 : (upM (upM ν 0 21 (nI (sdn g))) 0 21 (nI (sdn (sdn g)))).1 0 21 = nI (sdn (sdn g)) := by rw [upM_1, up_s]
      by_cases q : CM n K T w s m = m
      · have ew : (1 : Int32) - nI w = nI (1 - w) := pk_sub (a := 1) (by omega)
        refine Or.inr ⟨hlt, (up μ 19 3 (nI (1 - w)), nI (sdn (sdn g)), x5, x6, nI (k + 1)), (upM (upM ν 0 21 (nI (sdn g))) 0 21 (nI (sdn (sdn g))), nI (1 - w), x5, x6, nI (k + 1)), ⟨sdn (sdn g), 1 - w, x5, x6, by omega, sdn_lt _, by omega, rfl, rfl, t3, by show up μ 19 3 (nI (1 - w)) 19 2 = _; rw [up_k (by omega)]; exact s2, by show up μ 19 3 (nI (1 - w)) 19 3 = _; rw [up_s], fun c hc => by show up μ 19 3 (nI (1 - w)) c = _; rw [up_c hc]; exact f1 c hc, t1, t2, f4⟩, fun ih => ?_, fun ih => ?_⟩
        · simp only [b_X3_yearsGoneBy_23, g_X3_yearsGoneBy_103, f_X0_turnWind, c1, ↓reduceIte, nm, seed_c hg, seed_c (sdn_lt g), e37, d1, d2, bd, Option.bind_some, outcome_e hB' k1' hs hm, q, s3, ew, nI_1]
        · simp only [b_X4_years_65, g_X4_years_124, c1, ↓reduceIte, nm, e06, d3, d4, bd, bd2, Option.bind_some, comesOf_e hB' k2' hs hm, q, ew, nI_1]
      · have d : (nI (CM n K T w s m) = nI m) = False := eq_false (by rw [nI_eq (by omega) (by omega)]; exact q)
        refine Or.inr ⟨hlt, (μ, nI (sdn (sdn g)), x5 + 1, nI (CM n K T w s m), nI (k + 1)), (upM (upM ν 0 21 (nI (sdn g))) 0 21 (nI (sdn (sdn g))), nI w, x5 + 1, nI (CM n K T w s m), nI (k + 1)), ⟨sdn (sdn g), w, x5 + 1, nI (CM n K T w s m), by omega, sdn_lt _, hw, rfl, rfl, t3, s2, s3, f1, t1, t2, f4⟩, fun ih => ?_, fun ih => ?_⟩
        · simp only [b_X3_yearsGoneBy_23, g_X3_yearsGoneBy_103, c1, ↓reduceIte, nm, seed_c hg, seed_c (sdn_lt g), e37, d1, d2, bd, Option.bind_some, outcome_e hB' k1' hs hm, d, nI_1]
        · simp only [b_X4_years_65, g_X4_years_124, c1, ↓reduceIte, nm, e06, d3, d4, bd, bd2, Option.bind_some, comesOf_e hB' k2' hs hm, d, nI_1]
    · have c1 : nI N ≤ nI k := nI_le hge (by omega)
      refine Or.inl ⟨(μ, if x3 = 0 then x5 else if x3 = 1 then x6 else nI g), (ν, if x3 = 0 then x5 else if x3 = 1 then x6 else nI g), ⟨rfl, f1, f2, f3, f4⟩, fun ih => ?_, fun ih => ?_⟩
      · simp only [b_X3_yearsGoneBy_23, g_X3_yearsGoneBy_109, c1, ↓reduceIte]
        repeat' split
        all_goals rfl
      · simp only [b_X4_years_65, g_X4_years_130, c1, ↓reduceIte, s1]
        repeat' split
        all_goals rfl) (μ0, nI g0, (0 : Int32), (-1 : Int32), (0 : Int32)) (ν0, nI w, (0 : Int32), (-1 : Int32), (0 : Int32)) ⟨g0, w, 0, -1, Nat.zero_le _, hg, hB.2.2.2, by rw [nI_0], by rw [nI_0], k5, k1.1, k1.2.1, fun _ _ => rfl, fun _ _ => rfl, fun _ _ => rfl, rfl⟩
  obtain ⟨μ', r⟩ := r
  obtain ⟨ν', r'⟩ := r'
  have q1 : r = r' := q1
  subst q1
  exact ⟨μ', ν', r, g1, g2, q2, q3, q4, q5⟩
theorem st_years {T : Nat} {μ : Mem} {ν : MM} {x1 x2 x3 : Int32} (h : Rel T μ ν) : ∃ (μ' : Mem) (ν' : MM) (r : Int32), f_X3_years μ x1 x2 x3 = some (μ', r) ∧ f_X4_years ν x1 x2 x3 = some (ν', r) ∧ Rel (T + 1) μ' ν' := by
  obtain ⟨a, pn, pg, rr, sd, hO, hC, hM, hF, hG, hN, hK⟩ := id h
  have h6 := hO.2.1
  have e1 : (1 : Int32).toInt = 1 := by decide
  have e60 : (60 : Int32).toInt = 60 := by decide
  by_cases hx : 1 ≤ x1.toInt ∧ x1.toInt ≤ 60
  · obtain ⟨N, hN', rfl⟩ := (inb_iff (x := x1) (n := 61) (by omega)).mpr ⟨by omega, by have := hx.2; show x1.toInt < 61; omega⟩
    have a1 : ¬ nI N < 1 := by rw [fa_lt, e1]; omega
    have a2 : ¬ 60 < nI N := by rw [fa_lt, e60]; omega
    have a3 : f_X4_in ν (nI N).toInt64 1 60 = 1 := in_t hx.1 hx.2
    by_cases hy : x2 < 0
    · refine ⟨μ, ν, -102, ?_, ?_, h.mono (by omega)⟩
      · simp only [f_X3_years, a1, a2, ↓reduceIte, hy]
      · simp only [f_X4_years, nm, a3, i10, ↓reduceIte, hy]
    · obtain ⟨g, hg, rfl⟩ := nat_of hy
      by_cases hz : inb x3 3
      · obtain ⟨i1, i2, i3⟩ := in02 hz ν
        rcases Nat.eq_zero_or_pos (aN a) with h0 | h0
        · refine ⟨μ, ν, -103, ?_, ?_, h.mono (by omega)⟩
          · simp only [f_X3_years, nm, a1, a2, hy, i2, i3, hasRing_f (h0 ▸ hC.1.1), ↓reduceIte]
          · simp only [f_X4_years, nm, a3, hy, i1, lacks_t (h0 ▸ hF.1), i10, ↓reduceIte]
        · obtain ⟨μ1, ν1, e1, e2, hB, k1, k2, k3, k4, k5⟩ := sat_e hO hC hM hF h0
          obtain ⟨μ', ν', r, g1, g2, g3, g4, g5, g6⟩ := years_go (μ0 := μ1) (ν0 := upM ν1 0 21 (nI g)) (N := N) (x3 := x3) hB k1 (k2.cong (fun c hc => by rw [upM_1, up_c (by omega)]) (by rw [upM_1, up_k (by omega)])) k4 hg (by rw [upM_1, up_s]) (by omega)
          refine ⟨μ', ν', r, ?_, ?_, (h.scr2 (k5.trans ⟨fun c hc => g3 c (by omega), fun c hc => by rw [g4 c (by omega), upM_1, up_c (by omega)], fun k _ _ _ hk => by rw [g5 k hk, upM_1, up_k hk], by rw [g6, upM_2]⟩)).mono (by omega)⟩
          · simp only [f_X3_years, f_X3_yearsGoneBy, nm, a1, a2, hy, i2, i3, hasRing_t hC.1.1 h0 h6, i10, ↓reduceIte, e1, bd, bd2, Option.bind_some, g1]
          · have q : (upM ν1 0 21 (nI g)).1 0 7 = nI (aW a) := by rw [upM_1, up_k (by omega)]; exact k3
            simp only [f_X4_years, nm, a3, hy, i1, lacks_f hF.1 h0 h6, i10, ↓reduceIte, e2, bd, Option.bind_some, q, g2]
      · obtain ⟨i1, i2⟩ := out02 hz ν
        refine ⟨μ, ν, -102, ?_, ?_, h.mono (by omega)⟩
        · rcases i2 with i2 | ⟨i2, i3⟩
          · simp only [f_X3_years, a1, a2, hy, i2, ↓reduceIte]
          · simp only [f_X3_years, a1, a2, hy, i2, i3, ↓reduceIte]
        · simp only [f_X4_years, nm, a3, hy, i1, i10, ↓reduceIte]
  · refine ⟨μ, ν, -102, ?_, ?_, h.mono (by omega)⟩
    · unfold f_X3_years
      by_cases h0 : x1 < 1
      · rw [if_pos h0]
      · rw [if_neg h0, if_pos]
        rw [fa_lt, e1] at h0
        rw [fa_lt, e60]; omega
    · have a3 : f_X4_in ν x1.toInt64 1 60 = 0 := in_f hx
      simp only [f_X4_years, nm, a3, ↓reduceIte]
