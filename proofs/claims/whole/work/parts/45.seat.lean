/-! seating, whole -/
theorem mpow_e {ν : MM} {n : Nat} {x1 x2 x3 : Int32} (hn : ν.1 0 6 = nI n) (h6 : n ≤ 6) : lp (fun ih σ => b_X4_seating_62 ν x1 x2 x3 ih σ.1 σ.2) fu ((1 : Int32), (0 : Int32)) = g_X4_seating_86 ν x1 x2 x3 (nI (n ^ n)) := by
  obtain ⟨y, m, rfl, h2⟩ := lp_fu (body := fun ih σ => b_X4_seating_62 ν x1 x2 x3 ih σ.1 σ.2) (fun k x => x = (nI (n ^ k), nI k)) n (by omega) (fun k x hk hx' => by
    subst hx'
    refine ⟨(nI (n ^ (k + 1)), nI (k + 1)), rfl, fun ih => ?_⟩
    have c1 : ¬ nI n ≤ nI k := nI_ge hk (by omega)
    show b_X4_seating_62 ν x1 x2 x3 ih (nI (n ^ k)) (nI k) = _
    unfold b_X4_seating_62
    rw [hn, if_neg c1, nm_p, pk_mul, nI_1, Nat.pow_succ]) ((1 : Int32), (0 : Int32)) rfl
  rw [h2]
  have c1 : nI n ≤ nI n := nI_le (by omega) (by omega)
  show b_X4_seating_62 ν x1 x2 x3 _ (nI (n ^ n)) (nI n) = _
  unfold b_X4_seating_62
  rw [hn, if_pos c1]
theorem seat_end {μ : Mem} {ν : MM} {x3 : Int32} (S : Option (Nat × Nat)) (hb : ∀ b k, S = some (b, k) → b < 8) : ∃ r, g_X3_nearestSeatings_88 μ x3 (bI S) (kI S) = some (μ, r) ∧ g_X4_seating_266 ν x3 (bI S) (kM S) = some (ν, r) := by
  unfold g_X3_nearestSeatings_88 g_X4_seating_266
  rcases S with _ | ⟨b, k⟩
  · refine ⟨-1, ?_, ?_⟩
    · show (if (-1 : Int32) = -1 then _ else _) = _
      rw [if_pos rfl]
    · show (if x3 = 0 then some (ν, (-1 : Int32)) else some (ν, (-1 : Int32))) = _
      split <;> rfl
  · have h8 := hb b k rfl
    refine ⟨if x3 = 0 then nI b else nI k, ?_, ?_⟩
    · show (if nI b = -1 then _ else _) = _
      rw [if_neg (nI_nm1 (by omega))]
      show (if x3 = 0 then some (μ, nI b) else some (μ, nI k)) = _
      split <;> rfl
    · show (if x3 = 0 then some (ν, nI b) else some (ν, nI k)) = _
      split <;> rfl
theorem st_seating {T : Nat} {μ : Mem} {ν : MM} {x1 x2 x3 : Int32} (h : Rel T μ ν) : ∃ (μ' : Mem) (ν' : MM) (r : Int32), f_X3_seating μ x1 x2 x3 = some (μ', r) ∧ f_X4_seating ν x1 x2 x3 = some (ν', r) ∧ Rel (T + 1) μ' ν' := by
  obtain ⟨a, pn, pg, rr, sd, hO, hC, hM, hF, hG, hN, hK⟩ := id h
  have h6 := hO.2.1
  by_cases hx : inb x1 8
  · obtain ⟨m, hm, rfl⟩ := hx
    by_cases hy : inb x2 8
    · obtain ⟨c, hc, rfl⟩ := hy
      by_cases hz : inb x3 2
      · obtain ⟨i1, i2, i3⟩ := in01 hz ν
        rcases Nat.eq_zero_or_pos (aN a) with h0 | h0
        · refine ⟨μ, ν, -103, ?_, ?_, h.mono (by omega)⟩
          · simp only [f_X3_seating, nm_p, isWord_t hm, isWord_t hc, i2, i3, hasRing_f (h0 ▸ hC.1.1), i10, ↓reduceIte]
          · simp only [f_X4_seating, nm_p, mWord_t hm, mWord_t hc, i1, lacks_t (h0 ▸ hF.1), i10, ↓reduceIte]
        · have h3 : 3 ≤ aN a := by
            rcases hO.1 with q | q
            · omega
            · exact q
          have hsd := hN.2.2.2.1
          rcases Nat.lt_or_ge sd 20 with hs | hs
          · have d1 : nI sd < 20 := by show nI sd < nI 20; exact nI_lt hs (by omega)
            have d2 : ¬ nI sd = 20 := by
              show ¬ nI sd = nI 20
              rw [nI_eq (by omega) (by omega)]; omega
            obtain ⟨μ0, em⟩ : ∃ x, x = up μ 0 5 (nI (sd + 1)) := ⟨_, rfl⟩
            obtain ⟨ν0, en⟩ : ∃ x, x = upM ν 0 16 (nI (sd + 1)) := ⟨_, rfl⟩
            have hC0 : CS μ0 3 4 5 6 7 8 9 10 a := by rw [em]; exact hC.cong (by intros; simp (disch := omega) only [upM_1, up_c, up_k, up_s])
            have hM0 : MS ν0.1 3 4 9 a := by rw [en]; exact hM.cong (by intros; simp (disch := omega) only [upM_1, up_c, up_k, up_s])
            have hF0 : MF ν0.1 a := by rw [en]; exact hF.cong (by intros; simp (disch := omega) only [upM_1, up_c, up_k, up_s])
            have hR0 : Rel (T + 1) μ0 ν0 := by
              rw [em, en]
              exact ⟨a, pn, pg, rr, sd + 1, hO, em ▸ hC0, en ▸ hM0, en ▸ hF0, hG.cong (by intros; simp (disch := omega) only [upM_1, up_c, up_k, up_s]) (by intros; simp (disch := omega) only [upM_1, up_c, up_k, up_s]) (by intros; simp (disch := omega) only [upM_1, up_c, up_k, up_s]) (by intros; simp (disch := omega) only [upM_1, up_c, up_k, up_s]), ⟨by have := hN.1; omega, by rw [up_k (by omega)]; exact hN.2.1, by rw [upM_1, up_k (by omega)]; exact hN.2.2.1, by omega, up_s, by rw [upM_1, up_s]⟩, hK.cong (by intros; simp (disch := omega) only [upM_1, up_c, up_k, up_s]) (by intros; simp (disch := omega) only [upM_1, up_c, up_k, up_s]) (by intros; simp (disch := omega) only [upM_1, up_c, up_k, up_s]) (by intros; simp (disch := omega) only [upM_1, up_c, up_k, up_s])⟩
            obtain ⟨μ', g1, f1⟩ := nearest_e (x3 := x3) hO hC0 h0 hm hc
            obtain ⟨ν', g2, f2, f3⟩ := mseat_e (x3 := x3) hO hM0 hF0 h3 hm hc
            rw [nr_same h3 h6] at g1
            obtain ⟨r, t1, t2⟩ := seat_end (μ := μ') (ν := ν') (x3 := x3) (((List.range (aN a ^ aN a)).filterMap (gq (aN a))).foldl (nr (hitO (aN a) (sK a) (sT a) (aW a) m c)) none) (nr_lt _ _ none (fun b k e => by simp at e))
            rw [t1] at g1
            rw [t2] at g2
            refine ⟨μ', ν', r, ?_, ?_, hR0.scr f1 (fun c hc => f2 c (by omega) (by omega) (by omega)) (fun k _ _ _ _ => by rw [f2 0 (by omega) (by omega) (by omega)])⟩
            · have q : (nI sd + 1 : Int32) = nI (sd + 1) := nI_1 sd
              simp only [f_X3_seating, nm_p, isWord_t hm, isWord_t hc, i2, i3, hasRing_t hC.1.1 h0 h6, i10, ↓reduceIte, hN.2.2.2.2.1, d1, q, ← em, g1, bd2_p]
            · have q : (nI sd + 1 : Int32) = nI (sd + 1) := nI_1 sd
              have n0 : ν0.1 0 6 = nI (aN a) := hF0.1
              simp only [f_X4_seating, nm_p, mWord_t hm, mWord_t hc, i1, lacks_f hF.1 h0 h6, i10, ↓reduceIte, hN.2.2.2.2.2, d2, q, ← en]
              rw [mpow_e n0 h6, g2]
          · have es : sd = 20 := by omega
            subst es
            refine ⟨μ, ν, -103, ?_, ?_, h.mono (by omega)⟩
            · have d1 : ¬ nI 20 < (20 : Int32) := by decide
              simp only [f_X3_seating, nm_p, isWord_t hm, isWord_t hc, i2, i3, hasRing_t hC.1.1 h0 h6, i10, ↓reduceIte, hN.2.2.2.2.1, d1]
            · have d2 : (nI 20 = (20 : Int32)) = True := eq_true (by decide)
              simp only [f_X4_seating, nm_p, mWord_t hm, mWord_t hc, i1, lacks_f hF.1 h0 h6, i10, ↓reduceIte, hN.2.2.2.2.2, d2]
      · obtain ⟨i1, i2⟩ := out01 hz ν
        refine ⟨μ, ν, -102, ?_, ?_, h.mono (by omega)⟩
        · rcases i2 with i2 | ⟨i2, i3⟩
          · simp only [f_X3_seating, nm_p, isWord_t hm, isWord_t hc, i10, ↓reduceIte, i2]
          · simp only [f_X3_seating, nm_p, isWord_t hm, isWord_t hc, i10, ↓reduceIte, i2, i3]
        · simp only [f_X4_seating, nm_p, mWord_t hm, mWord_t hc, i1, i10, ↓reduceIte]
    · refine ⟨μ, ν, -102, ?_, ?_, h.mono (by omega)⟩
      · simp only [f_X3_seating, nm_p, isWord_t hm, isWord_f hy, i10, ↓reduceIte]
      · simp only [f_X4_seating, nm_p, mWord_t hm, mWord_f hy, i10, ↓reduceIte]
  · refine ⟨μ, ν, -102, ?_, ?_, h.mono (by omega)⟩
    · simp only [f_X3_seating, nm_p, isWord_f hx, ↓reduceIte]
    · simp only [f_X4_seating, nm_p, mWord_f hx, ↓reduceIte]
