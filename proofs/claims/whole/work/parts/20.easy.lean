/-! EASY STEPS: what no sitting needs -/
theorem KP.cong {μ μ' ν ν' : Mem} {n : Nat} {kd : Nat → Nat} {rr : Nat} (h : KP μ ν n kd rr) (e1 : μ' 0 3 = μ 0 3) (e2 : ∀ c, 11 ≤ c → c ≤ 18 → μ' c = μ c) (e3 : ∀ k, 22 ≤ k → k ≤ 26 → ν' 0 k = ν 0 k) (e4 : ∀ c, 11 ≤ c → c ≤ 13 → ν' c = ν c) : KP μ' ν' n kd rr := by
  unfold KP at *
  rw [e1, e3 22 (by omega) (by omega), e3 23 (by omega) (by omega), e3 24 (by omega) (by omega), e3 25 (by omega) (by omega), e3 26 (by omega) (by omega)]
  rcases h with g | ⟨q1, q2, k, q3, q4, q5, q6, q7, q8⟩
  · exact Or.inl g
  · exact Or.inr ⟨q1, q2, k, q3, q4, q5, q6.cong (fun c hc => e2 c (by omega) (by omega)), q7.cong (fun c hc => e4 c (by omega) (by omega)), q8⟩
theorem MF.cong {ν ν' : Mem} {a : AS} (h : MF ν a) (e : ∀ k, 6 ≤ k → k ≤ 18 → k ≠ 16 → k ≠ 10 → ν' 0 k = ν 0 k) : MF ν' a := by
  unfold MF at *
  rw [e 6 (by omega) (by omega) (by omega) (by omega), e 7 (by omega) (by omega) (by omega) (by omega), e 8 (by omega) (by omega) (by omega) (by omega), e 9 (by omega) (by omega) (by omega) (by omega), e 18 (by omega) (by omega) (by omega) (by omega)]
  exact h
theorem PG.cong {μ μ' ν ν' : Mem} {pn : Nat} {pg : Nat → Nat} (h : PG μ ν pn pg) (e1 : μ' 1 1 = μ 1 1) (e2 : μ' 2 = μ 2) (e3 : ν' 0 1 = ν 0 1) (e4 : ν' 1 = ν 1) : PG μ' ν' pn pg := by
  unfold PG at *
  rw [e1, e2, e3, e4]
  exact h
theorem CN.cong {μ μ' ν ν' : Mem} {T T' rr sd : Nat} (h : CN μ ν T rr sd) (ht : T ≤ T') (e1 : μ' 0 4 = μ 0 4) (e2 : μ' 0 5 = μ 0 5) (e3 : ν' 0 10 = ν 0 10) (e4 : ν' 0 16 = ν 0 16) : CN μ' ν' T' rr sd := by
  unfold CN at *
  rw [e1, e2, e3, e4]
  exact ⟨Nat.le_trans h.1 ht, h.2⟩
theorem upM_s {σ : MM} {c k : Nat} {x : Int32} : (upM σ c k x).1 c k = x := up_s
theorem st_seat {T : Nat} {μ : Mem} {ν : MM} {x1 : Int32} (h : Rel T μ ν) : ∃ (r : Int32), f_X3_seat μ x1 = some r ∧ f_X4_seat ν x1 = some r ∧ Rel (T + 1) μ ν := by
  obtain ⟨a, pn, pg, rr, sd, hO, hC, hM, hF, hG, hN, hK⟩ := id h
  have h6 := hO.2.1
  by_cases hx : inb x1 (aN a)
  · obtain ⟨j, hj, rfl⟩ := hx
    refine ⟨nI (aS a j), ?_, ?_, h.mono (by omega)⟩
    · simp only [f_X3_seat, nm, isPlace_t hC.1.1 h6 hj, i10, ↓reduceIte, ck_t (vin (N := 6) (show j < 6 by omega)), cl (j := j), (hC.2.1 j hj).2.2.2]
    · simp only [f_X4_seat, nm, mRook_t hF.1 h6 hj, i10, ↓reduceIte, ck_t (vin (N := 6) (show j < 6 by omega)), cl (j := j), (hM.1 j hj).2.2.2.1]
  · refine ⟨-101, ?_, ?_, h.mono (by omega)⟩
    · simp only [f_X3_seat, nm, isPlace_f hC.1.1 h6 hx, ↓reduceIte]
    · simp only [f_X4_seat, nm, mRook_f hF.1 h6 hx, ↓reduceIte]
theorem st_blank {T : Nat} {μ : Mem} {ν : MM} (h : Rel T μ ν) : ∃ (μ' : Mem) (ν' : MM) (r : Int32), f_X3_blank μ = some (μ', r) ∧ f_X4_blank ν = some (ν', r) ∧ Rel (T + 1) μ' ν' := by
  obtain ⟨a, pn, pg, rr, sd, hO, hC, hM, hF, hG, hN, hK⟩ := id h
  refine ⟨up μ 1 1 0, upM ν 0 1 0, nI pn, ?_, ?_, a, 0, pg, rr, sd, hO, hC.cong (by intros; simp (disch := omega) only [upM_1, up_c, up_k, up_s]), hM.cong (by intros; simp (disch := omega) only [upM_1, up_c, up_k, up_s]), hF.cong (by intros; simp (disch := omega) only [upM_1, up_c, up_k, up_s]), ?_, hN.cong (by omega) (by intros; simp (disch := omega) only [upM_1, up_c, up_k, up_s]) (by intros; simp (disch := omega) only [upM_1, up_c, up_k, up_s]) (by intros; simp (disch := omega) only [upM_1, up_c, up_k, up_s]) (by intros; simp (disch := omega) only [upM_1, up_c, up_k, up_s]), hK.cong (by intros; simp (disch := omega) only [upM_1, up_c, up_k, up_s]) (by intros; simp (disch := omega) only [upM_1, up_c, up_k, up_s]) (by intros; simp (disch := omega) only [upM_1, up_c, up_k, up_s]) (by intros; simp (disch := omega) only [upM_1, up_c, up_k, up_s])⟩
  · simp only [f_X3_blank, f_X1_clear, nm, bd2, Option.bind_some, hG.2.1]
  · simp only [f_X4_blank, nm, hG.2.2.1]
  · exact ⟨by omega, up_s, upM_s, fun i hi => by omega⟩
theorem st_forget {T : Nat} {μ : Mem} {ν : MM} (h : Rel T μ ν) : ∃ (μ' : Mem) (ν' : MM) (r : Int32), f_X3_forget μ = some (μ', r) ∧ f_X4_forget ν = some (ν', r) ∧ Rel (T + 1) μ' ν' := by
  obtain ⟨a, pn, pg, rr, sd, hO, hC, hM, hF, hG, hN, hK⟩ := id h
  refine ⟨up μ 3 11 0, upM ν 0 18 0, nI (aO a), ?_, ?_, (a.1, a.2.1, (0, a.2.2.2)), pn, pg, rr, sd, ?_, ?_, ?_, ?_, hG.cong (by intros; simp (disch := omega) only [upM_1, up_c, up_k, up_s]) (by intros; simp (disch := omega) only [upM_1, up_c, up_k, up_s]) (by intros; simp (disch := omega) only [upM_1, up_c, up_k, up_s]) (by intros; simp (disch := omega) only [upM_1, up_c, up_k, up_s]), hN.cong (by omega) (by intros; simp (disch := omega) only [upM_1, up_c, up_k, up_s]) (by intros; simp (disch := omega) only [upM_1, up_c, up_k, up_s]) (by intros; simp (disch := omega) only [upM_1, up_c, up_k, up_s]) (by intros; simp (disch := omega) only [upM_1, up_c, up_k, up_s]), hK.cong (by intros; simp (disch := omega) only [upM_1, up_c, up_k, up_s]) (by intros; simp (disch := omega) only [upM_1, up_c, up_k, up_s]) (by intros; simp (disch := omega) only [upM_1, up_c, up_k, up_s]) (by intros; simp (disch := omega) only [upM_1, up_c, up_k, up_s])⟩
  · simp only [f_X3_forget, nm, hC.1.2.2.2.2]
  · simp only [f_X4_forget, nm, hF.2.2.2.2]
  · obtain ⟨g1, g2, g3, g4, g5, g6, g7⟩ := hO
    exact ⟨g1, g2, g3, g4, g5, by show 0 ≤ 8; omega, fun i hi => by have hi : i < 0 := hi; omega⟩
  · obtain ⟨⟨g1, g2, g3, g4, g5⟩, g6, g7⟩ := hC
    refine ⟨⟨?_, ?_, ?_, ?_, up_s⟩, fun i hi => ?_, fun i hi => by have hi : i < 0 := hi; omega⟩ <;> simp (disch := omega) only [up_c, up_k] <;> first | assumption | exact g6 i hi
  · refine ⟨fun i hi => ?_, fun i hi => by have hi : i < 0 := hi; omega⟩
    simp (disch := omega) only [upM_1, up_c]
    exact hM.1 i hi
  · obtain ⟨g1, g2, g3, g4, g5⟩ := hF
    refine ⟨?_, ?_, ?_, ?_, upM_s⟩ <;> simp (disch := omega) only [upM_1, up_k] <;> assumption
theorem st_wind {T : Nat} {μ : Mem} {ν : MM} {x1 : Int32} (h : Rel T μ ν) : ∃ (μ' : Mem) (ν' : MM) (r : Int32), f_X3_wind μ x1 = some (μ', r) ∧ f_X4_wind ν x1 = some (ν', r) ∧ Rel (T + 1) μ' ν' := by
  obtain ⟨a, pn, pg, rr, sd, hO, hC, hM, hF, hG, hN, hK⟩ := id h
  have h6 := hO.2.1
  by_cases hx : inb x1 2
  · obtain ⟨j, hj, rfl⟩ := hx
    have c1 : ¬ nI j < 0 := nI_pos (by omega)
    have c2 : nI j ≤ 1 := by show nI j ≤ nI 1; exact nI_le (by omega) (by omega)
    have c3 : f_X4_in ν (nI j).toInt64 0 1 = 1 := in_t (by rw [nI_toInt (by omega)]; show (0 : Int) ≤ j; omega) (by rw [nI_toInt (by omega)]; show (j : Int) ≤ 1; omega)
    rcases Nat.eq_zero_or_pos (aN a) with hn | hn
    · refine ⟨μ, ν, -103, ?_, ?_, h.mono (by omega)⟩
      · simp only [f_X3_wind, nm, c1, c2, hasRing_f (hC.1.1.trans (congrArg nI hn)), ↓reduceIte]
      · simp only [f_X4_wind, nm, c3, lacks_t (hF.1.trans (congrArg nI hn)), i10, ↓reduceIte]
    · refine ⟨up μ 3 8 (nI j), upM ν 0 7 (nI j), nI (aW a), ?_, ?_, (a.1, (j, a.2.1.2), a.2.2), pn, pg, rr, sd, ?_, ?_, hM.cong (by intros; simp (disch := omega) only [upM_1, up_c, up_k, up_s]), ?_, hG.cong (by intros; simp (disch := omega) only [upM_1, up_c, up_k, up_s]) (by intros; simp (disch := omega) only [upM_1, up_c, up_k, up_s]) (by intros; simp (disch := omega) only [upM_1, up_c, up_k, up_s]) (by intros; simp (disch := omega) only [upM_1, up_c, up_k, up_s]), hN.cong (by omega) (by intros; simp (disch := omega) only [upM_1, up_c, up_k, up_s]) (by intros; simp (disch := omega) only [upM_1, up_c, up_k, up_s]) (by intros; simp (disch := omega) only [upM_1, up_c, up_k, up_s]) (by intros; simp (disch := omega) only [upM_1, up_c, up_k, up_s]), hK.cong (by intros; simp (disch := omega) only [upM_1, up_c, up_k, up_s]) (by intros; simp (disch := omega) only [upM_1, up_c, up_k, up_s]) (by intros; simp (disch := omega) only [upM_1, up_c, up_k, up_s]) (by intros; simp (disch := omega) only [upM_1, up_c, up_k, up_s])⟩
      · simp only [f_X3_wind, nm, c1, c2, hasRing_t hC.1.1 hn h6, i10, ↓reduceIte, hC.1.2.1]
      · simp only [f_X4_wind, nm, c3, lacks_f hF.1 hn h6, i10, ↓reduceIte, hF.2.1]
      · obtain ⟨g1, g2, g3, g4, g5, g6, g7⟩ := hO
        exact ⟨g1, g2, g3, g4, hj, g6, g7⟩
      · obtain ⟨⟨g1, g2, g3, g4, g5⟩, g6, g7⟩ := hC
        refine ⟨⟨?_, up_s, ?_, ?_, ?_⟩, fun i hi => ?_, fun i hi => ?_⟩ <;> simp (disch := omega) only [up_c, up_k] <;> first | assumption | exact g6 i hi | exact g7 i hi
      · obtain ⟨g1, g2, g3, g4, g5⟩ := hF
        refine ⟨?_, upM_s, ?_, ?_, ?_⟩ <;> simp (disch := omega) only [upM_1, up_k] <;> assumption
  · refine ⟨μ, ν, -102, ?_, ?_, h.mono (by omega)⟩
    · rw [inb_iff (by omega)] at hx
      unfold f_X3_wind
      by_cases h0 : x1 < 0
      · rw [if_pos h0]
      · rw [if_neg h0, if_neg]
        rw [fa_lt] at h0
        rw [fa_le]
        have e0 : (0 : Int32).toInt = 0 := by decide
        have e1 : (1 : Int32).toInt = 1 := by decide
        omega
    · rw [inb_iff (by omega)] at hx
      have c3 : f_X4_in ν x1.toInt64 0 1 = 0 := in_f (by
        show ¬ ((0 : Int) ≤ x1.toInt ∧ x1.toInt ≤ 1); omega)
      simp only [f_X4_wind, nm, c3, ↓reduceIte]
theorem st_as {T : Nat} {μ : Mem} {ν : MM} {x1 x2 : Int32} (h : Rel T μ ν) : ∃ (r : Int32), f_X3_as μ x1 x2 = some r ∧ f_X4_as ν x1 x2 = some r ∧ Rel (T + 1) μ ν := by
  obtain ⟨a, pn, pg, rr, sd, hO, hC, hM, hF, hG, hN, hK⟩ := id h
  have h6 := hO.2.1
  by_cases hx : inb x1 (aN a)
  · obtain ⟨j, hj, rfl⟩ := hx
    by_cases h2 : inb x2 5
    · obtain ⟨k, hk, rfl⟩ := h2
      have c1 : ¬ nI k < 0 := nI_pos (by omega)
      have c2 : nI k < 5 := by show nI k < nI 5; exact nI_lt (by omega) (by omega)
      have c3 : f_X4_in ν (nI k).toInt64 0 4 = 1 := in_t (by rw [nI_toInt (by omega)]; show (0 : Int) ≤ k; omega) (by rw [nI_toInt (by omega)]; show (k : Int) ≤ 4; omega)
      have e3 : f_X3_as μ (nI j) (nI k) = (if f_X3_isOf μ (nI (aK a j)) (nI k) = 0 then some (-1) else some (nI j)) := by
        simp only [f_X3_as, nm, isPlace_t hC.1.1 h6 hj, i10, ↓reduceIte, c1, c2, ck_t (vin (N := 6) (show j < 6 by omega)), cl (j := j), (hC.2.1 j hj).1]
      have e4 : f_X4_as ν (nI j) (nI k) = (if f_X3_isOf μ (nI (aK a j)) (nI k) = 0 then some (-1) else some (nI j)) := by
        simp only [f_X4_as, nm, mRook_t hF.1 h6 hj, i10, ↓reduceIte, c3, ix4, ck_t (vin (N := 24) (show 4 * j < 24 by omega)), cl (j := 4 * j), (hM.1 j hj).1, g_X4_as_54, g_X4_as_58, g_X4_as_59, f_X3_isOf]
        split
        · simp only [i10, ↓reduceIte]
        · split
          · simp only [i10, ↓reduceIte]
          · split
            · split <;> simp only [i10, ↓reduceIte]
            · simp only [↓reduceIte]
      rw [e3, e4]
      by_cases hz : f_X3_isOf μ (nI (aK a j)) (nI k) = 0
      · exact ⟨-1, by rw [if_pos hz], by rw [if_pos hz], h.mono (by omega)⟩
      · exact ⟨nI j, by rw [if_neg hz], by rw [if_neg hz], h.mono (by omega)⟩
    · refine ⟨-102, ?_, ?_, h.mono (by omega)⟩
      · rw [inb_iff (by omega)] at h2
        simp only [f_X3_as, nm, isPlace_t hC.1.1 h6 hj, i10, ↓reduceIte]
        by_cases h0 : x2 < 0
        · rw [if_pos h0]
        · rw [if_neg h0, if_neg]
          rw [fa_lt] at h0 ⊢
          have e0 : (0 : Int32).toInt = 0 := by decide
          have e1 : (5 : Int32).toInt = 5 := by decide
          omega
      · rw [inb_iff (by omega)] at h2
        have c3 : f_X4_in ν x2.toInt64 0 4 = 0 := in_f (by
          show ¬ ((0 : Int) ≤ x2.toInt ∧ x2.toInt ≤ 4); omega)
        simp only [f_X4_as, nm, mRook_t hF.1 h6 hj, i10, c3, ↓reduceIte]
  · refine ⟨-101, ?_, ?_, h.mono (by omega)⟩
    · simp only [f_X3_as, nm, isPlace_f hC.1.1 h6 hx, ↓reduceIte]
    · simp only [f_X4_as, nm, mRook_f hF.1 h6 hx, ↓reduceIte]
theorem st_twig {T : Nat} {μ : Mem} {ν : MM} {x1 x2 : Int32} (h : Rel T μ ν) : ∃ (μ' : Mem) (ν' : MM) (r : Int32), f_X3_twig μ x1 x2 = some (μ', r) ∧ f_X4_twig ν x1 x2 = some (ν', r) ∧ Rel (T + 1) μ' ν' := by
  obtain ⟨a, pn, pg, rr, sd, hO, hC, hM, hF, hG, hN, hK⟩ := id h
  have h6 := hO.2.1
  by_cases hx : inb x1 (aN a)
  · obtain ⟨j, hj, rfl⟩ := hx
    by_cases h2 : inb x2 8
    · obtain ⟨k, hk, rfl⟩ := h2
      have c3 : f_X4_in ν (nI k).toInt64 0 7 = 1 := in_t (by rw [nI_toInt (by omega)]; show (0 : Int) ≤ k; omega) (by rw [nI_toInt (by omega)]; show (k : Int) ≤ 7; omega)
      refine ⟨up μ 5 j (nI k), upM ν 3 (4 * j + 1) (nI k), nI (aT a j), ?_, ?_, ((aN a, aK a, fun i => if i = j then k else aT a i, aS a, aP a), a.2), pn, pg, rr, sd, ?_, ?_, ?_, hF.cong (by intros; simp (disch := omega) only [upM_1, up_c, up_k, up_s]), hG.cong (by intros; simp (disch := omega) only [upM_1, up_c, up_k, up_s]) (by intros; simp (disch := omega) only [upM_1, up_c, up_k, up_s]) (by intros; simp (disch := omega) only [upM_1, up_c, up_k, up_s]) (by intros; simp (disch := omega) only [upM_1, up_c, up_k, up_s]), hN.cong (by omega) (by intros; simp (disch := omega) only [upM_1, up_c, up_k, up_s]) (by intros; simp (disch := omega) only [upM_1, up_c, up_k, up_s]) (by intros; simp (disch := omega) only [upM_1, up_c, up_k, up_s]) (by intros; simp (disch := omega) only [upM_1, up_c, up_k, up_s]), hK.cong (by intros; simp (disch := omega) only [upM_1, up_c, up_k, up_s]) (by intros; simp (disch := omega) only [upM_1, up_c, up_k, up_s]) (by intros; simp (disch := omega) only [upM_1, up_c, up_k, up_s]) (by intros; simp (disch := omega) only [upM_1, up_c, up_k, up_s])⟩
      · simp only [f_X3_twig, nm, isPlace_t hC.1.1 h6 hj, i10, ↓reduceIte, isWord_t hk, ck_t (vin (N := 6) (show j < 6 by omega)), cl (j := j), (hC.2.1 j hj).2.1]
      · simp only [f_X4_twig, nm, mRook_t hF.1 h6 hj, i10, ↓reduceIte, c3, ix41, ck_t (vin (N := 24) (show 4 * j + 1 < 24 by omega)), cl (j := 4 * j + 1), (hM.1 j hj).2.1]
      · obtain ⟨g1, g2, g3, g4, g5, g6, g7⟩ := hO
        refine ⟨g1, g2, fun i hi => ⟨(g3 i hi).1, ?_, (g3 i hi).2.2⟩, g4, g5, g6, g7⟩
        show (if i = j then k else aT a i) < 8
        split
        · exact hk
        · exact (g3 i hi).2.1
      · obtain ⟨⟨g1, g2, g3, g4, g5⟩, g6, g7⟩ := hC
        refine ⟨⟨?_, ?_, ?_, ?_, ?_⟩, fun i hi => ?_, fun i hi => ?_⟩ <;> simp (disch := omega) only [up_c, up_k] <;> first | assumption | exact g7 i hi | skip
        refine ⟨(g6 i hi).1, ?_, (g6 i hi).2.2⟩
        show up μ 5 j (nI k) 5 i = nI (if i = j then k else aT a i)
        by_cases e : i = j
        · rw [if_pos e, e, up_s]
        · rw [if_neg e, up_k e]; exact (g6 i hi).2.1
      · refine ⟨fun i hi => ?_, fun i hi => ?_⟩
        · obtain ⟨g1, g2, g3, g4, g5⟩ := hM.1 i hi
          refine ⟨?_, ?_, ?_, ?_, ?_⟩
          · simp (disch := omega) only [upM_1, up_k]; exact g1
          · show (upM ν 3 (4 * j + 1) (nI k)).1 3 (4 * i + 1) = nI (if i = j then k else aT a i)
            by_cases e : i = j
            · rw [if_pos e, e, upM_1, up_s]
            · rw [if_neg e, upM_1, up_k (by omega)]; exact g2
          · simp (disch := omega) only [upM_1, up_k]; exact g3
          · simp (disch := omega) only [upM_1, up_c]; exact g4
          · simp (disch := omega) only [upM_1, up_k]; exact g5
        · simp (disch := omega) only [upM_1, up_c]; exact hM.2 i hi
    · refine ⟨μ, ν, -102, ?_, ?_, h.mono (by omega)⟩
      · simp only [f_X3_twig, nm, isPlace_t hC.1.1 h6 hj, i10, isWord_f h2, ↓reduceIte]
      · rw [inb_iff (by omega)] at h2
        have c3 : f_X4_in ν x2.toInt64 0 7 = 0 := in_f (by
          show ¬ ((0 : Int) ≤ x2.toInt ∧ x2.toInt ≤ 7); omega)
        simp only [f_X4_twig, nm, mRook_t hF.1 h6 hj, i10, c3, ↓reduceIte]
  · refine ⟨μ, ν, -101, ?_, ?_, h.mono (by omega)⟩
    · simp only [f_X3_twig, nm, isPlace_f hC.1.1 h6 hx, ↓reduceIte]
    · simp only [f_X4_twig, nm, mRook_f hF.1 h6 hx, ↓reduceIte]
