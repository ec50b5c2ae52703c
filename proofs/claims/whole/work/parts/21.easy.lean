theorem nI_2 (a : Nat) : nI a + 2 = nI (a + 2) := nI_add a 2
theorem nI_3 (a : Nat) : nI a + 3 = nI (a + 3) := nI_add a 3
theorem char_id {v : Nat} (h : v ≤ 126) : ((nI v).toUInt32 % 65536).toInt32 = nI v := by
  rw [pk_char, pk_tn (by omega), Nat.mod_eq_of_lt (by omega)]
theorem nar_id {v : Nat} (h : v ≤ 126) : vp_nar .char (nI v) = nI v := by
  unfold vp_nar
  rw [(pk_charN (q := v) (by omega)).1]
theorem st_letter {T : Nat} {μ : Mem} {ν : MM} {x1 : Int32} (h : Rel T μ ν) : ∃ (μ' : Mem) (ν' : MM) (r : Int32), f_X3_letter μ x1 = some (μ', r) ∧ f_X4_letter ν x1 = some (ν', r) ∧ Rel (T + 1) μ' ν' := by
  obtain ⟨a, pn, pg, rr, sd, hO, hC, hM, hF, hG, hN, hK⟩ := id h
  have e1 : (1 : Int32).toInt = 1 := by decide
  have e126 : (126 : Int32).toInt = 126 := by decide
  by_cases hx : 1 ≤ x1.toInt ∧ x1.toInt ≤ 126
  · obtain ⟨v, hv, rfl⟩ := (inb_iff (x := x1) (n := 127) (by omega)).mpr ⟨by omega, by have := hx.2; show x1.toInt < 127; omega⟩
    rw [nI_toInt (by omega)] at hx
    have c1 : ¬ nI v < 1 := by rw [fa_lt, e1, nI_toInt (by omega)]; omega
    have c2 : nI v ≤ 126 := by rw [fa_le, e126, nI_toInt (by omega)]; omega
    have c3 : f_X4_in ν (nI v).toInt64 1 126 = 1 := in_t (by rw [nI_toInt (by omega)]; show (1 : Int) ≤ v; omega) (by rw [nI_toInt (by omega)]; show (v : Int) ≤ 126; omega)
    have hp := hG.1
    rcases Nat.lt_or_ge pn 22 with hn | hn
    · have d1 : nI pn < 22 := by show nI pn < nI 22; exact nI_lt hn (by omega)
      have d2 : (nI pn = 22) = False := eq_false (by
        show ¬ nI pn = nI 22
        rw [nI_eq (by omega) (by omega)]; omega)
      refine ⟨up (up μ 2 pn (nI v)) 1 1 (nI (pn + 1)), upM (upM ν 1 pn (nI v)) 0 1 (nI (pn + 1)), nI (pn + 1), ?_, ?_, a, pn + 1, fun i => if i = pn then v else pg i, rr, sd, hO, hC.cong (by intros; simp (disch := omega) only [upM_1, up_c, up_k, up_s]), hM.cong (by intros; simp (disch := omega) only [upM_1, up_c, up_k, up_s]), hF.cong (by intros; simp (disch := omega) only [upM_1, up_c, up_k, up_s]), ?_, hN.cong (by omega) (by intros; simp (disch := omega) only [upM_1, up_c, up_k, up_s]) (by intros; simp (disch := omega) only [upM_1, up_c, up_k, up_s]) (by intros; simp (disch := omega) only [upM_1, up_c, up_k, up_s]) (by intros; simp (disch := omega) only [upM_1, up_c, up_k, up_s]), hK.cong (by intros; simp (disch := omega) only [upM_1, up_c, up_k, up_s]) (by intros; simp (disch := omega) only [upM_1, up_c, up_k, up_s]) (by intros; simp (disch := omega) only [upM_1, up_c, up_k, up_s]) (by intros; simp (disch := omega) only [upM_1, up_c, up_k, up_s])⟩
      · simp (disch := omega) only [f_X3_letter, f_X1_append, nm, bd2, Option.bind_some, c1, c2, ↓reduceIte, char_id, hG.2.1, d1, ck_t (vin (N := 22) hn), cl (j := pn), nar_id, up_c, up_s, nI_1]
      · simp (disch := omega) only [f_X4_letter, nm, c3, i10, ↓reduceIte, hG.2.2.1, d2, ck_t (vin (N := 22) hn), cl (j := pn), upM_1, upM_s, up_c, up_s, nI_1]
      · refine ⟨by omega, up_s, upM_s, fun i hi => ?_⟩
        simp (disch := omega) only [upM_1, up_c]
        by_cases e : i = pn
        · rw [if_pos e, e, up_s, up_s]
          exact ⟨by omega, by omega, rfl, rfl⟩
        · rw [if_neg e, up_k e, up_k e]
          exact hG.2.2.2 i (by omega)
    · have d0 : pn = 22 := by omega
      subst d0
      refine ⟨μ, ν, -104, ?_, ?_, h.mono (by omega)⟩
      · have d1 : ¬ nI 22 < (22 : Int32) := by decide
        simp (disch := omega) only [f_X3_letter, f_X1_append, nm, bd2, c1, c2, ↓reduceIte, hG.2.1, d1, Option.bind_some]
      · have d2 : (nI 22 = (22 : Int32)) = True := eq_true (by decide)
        simp only [f_X4_letter, nm, c3, i10, ↓reduceIte, hG.2.2.1, d2]
  · refine ⟨μ, ν, -102, ?_, ?_, h.mono (by omega)⟩
    · unfold f_X3_letter
      by_cases h0 : x1 < 1
      · rw [if_pos h0]
      · rw [if_neg h0, if_neg]
        rw [fa_lt, e1] at h0
        rw [fa_le, e126]; omega
    · have c3 : f_X4_in ν x1.toInt64 1 126 = 0 := in_f hx
      simp only [f_X4_letter, nm, c3, ↓reduceIte]
theorem st_observe {T : Nat} {μ : Mem} {ν : MM} {x1 x2 x3 : Int32} (h : Rel T μ ν) : ∃ (μ' : Mem) (ν' : MM) (r : Int32), f_X3_observe μ x1 x2 x3 = some (μ', r) ∧ f_X4_observe ν x1 x2 x3 = some (ν', r) ∧ Rel (T + 1) μ' ν' := by
  obtain ⟨a, pn, pg, rr, sd, hO, hC, hM, hF, hG, hN, hK⟩ := id h
  have h6 := hO.2.1
  by_cases hx : inb x1 (aN a)
  · obtain ⟨j, hj, rfl⟩ := hx
    by_cases h2 : inb x2 8
    · obtain ⟨k, hk, rfl⟩ := h2
      by_cases h3 : inb x3 8
      · obtain ⟨w, hw, rfl⟩ := h3
        have ho := hO.2.2.2.2.2.1
        obtain ⟨on, eon⟩ : ∃ z, z = aO a := ⟨_, rfl⟩
        have hs1 : μ 3 11 = nI on := by rw [eon]; exact hC.1.2.2.2.2
        have hs2 : ν.1 0 18 = nI on := by rw [eon]; exact hF.2.2.2.2
        rw [← eon] at ho
        rcases Nat.lt_or_ge on 8 with hn | hn
        · have d1 : nI on < 8 := by show nI on < nI 8; exact nI_lt hn (by omega)
          have d2 : (nI on = 8) = False := eq_false (by
            show ¬ nI on = nI 8
            rw [nI_eq (by omega) (by omega)]; omega)
          refine ⟨up (up (up (up μ 8 on (nI j)) 9 on (nI k)) 10 on (nI w)) 3 11 (nI (on + 1)), upM (upM (upM (upM ν 9 (3 * on) (nI j)) 9 (3 * on + 1) (nI k)) 9 (3 * on + 2) (nI w)) 0 18 (nI (on + 1)), nI (on + 1), ?_, ?_, (a.1, a.2.1, (on + 1, fun i => if i = on then j else aA a i, fun i => if i = on then k else aB a i, fun i => if i = on then w else aC a i)), pn, pg, rr, sd, ?_, ?_, ?_, ?_, hG.cong (by intros; simp (disch := omega) only [upM_1, up_c, up_k, up_s]) (by intros; simp (disch := omega) only [upM_1, up_c, up_k, up_s]) (by intros; simp (disch := omega) only [upM_1, up_c, up_k, up_s]) (by intros; simp (disch := omega) only [upM_1, up_c, up_k, up_s]), hN.cong (by omega) (by intros; simp (disch := omega) only [upM_1, up_c, up_k, up_s]) (by intros; simp (disch := omega) only [upM_1, up_c, up_k, up_s]) (by intros; simp (disch := omega) only [upM_1, up_c, up_k, up_s]) (by intros; simp (disch := omega) only [upM_1, up_c, up_k, up_s]), hK.cong (by intros; simp (disch := omega) only [upM_1, up_c, up_k, up_s]) (by intros; simp (disch := omega) only [upM_1, up_c, up_k, up_s]) (by intros; simp (disch := omega) only [upM_1, up_c, up_k, up_s]) (by intros; simp (disch := omega) only [upM_1, up_c, up_k, up_s])⟩
          · simp (disch := omega) only [f_X3_observe, f_X2_note, nm, bd2, Option.bind_some, isPlace_t hC.1.1 h6 hj, isWord_t hk, isWord_t hw, i10, ↓reduceIte, hs1, d1, ck_t (vin (N := 8) hn), cl (j := on), up_c, up_s, nI_1]
          · simp (disch := omega) only [f_X4_observe, nm, mRook_t hF.1 h6 hj, mWord_t hk, mWord_t hw, i10, ↓reduceIte, hs2, d2, ix3, nI_2, ck_t (vin (N := 24) (show 3 * on < 24 by omega)), ck_t (vin (N := 24) (show 3 * on + 1 < 24 by omega)), ck_t (vin (N := 24) (show 3 * on + 2 < 24 by omega)), cl, upM_1, upM_s, up_c, up_s, nI_1]
          · obtain ⟨g1, g2, g3, g4, g5, g6, g7⟩ := hO
            refine ⟨g1, g2, g3, g4, g5, by show on + 1 ≤ 8; omega, fun i hi => ?_⟩
            have hi : i < on + 1 := hi
            show (if i = on then j else aA a i) < aN a ∧ (if i = on then k else aB a i) < 8 ∧ (if i = on then w else aC a i) < 8
            by_cases e : i = on
            · simp only [e, ↓reduceIte]; exact ⟨hj, hk, hw⟩
            · simp only [e, ↓reduceIte]; exact g7 i (by omega)
          · obtain ⟨⟨g1, g2, g3, g4, g5⟩, g6, g7⟩ := hC
            refine ⟨⟨?_, ?_, ?_, ?_, up_s⟩, fun i hi => ?_, fun i hi => ?_⟩
            · simp (disch := omega) only [up_c, up_k]; exact g1
            · simp (disch := omega) only [up_c, up_k]; exact g2
            · simp (disch := omega) only [up_c, up_k]; exact g3
            · simp (disch := omega) only [up_c, up_k]; exact g4
            · simp (disch := omega) only [up_c, up_k]; exact g6 i hi
            · have hi : i < on + 1 := hi
              simp (disch := omega) only [up_c]
              show up μ 8 on (nI j) 8 i = nI (if i = on then j else aA a i) ∧ up (up μ 8 on (nI j)) 9 on (nI k) 9 i = nI (if i = on then k else aB a i) ∧ up (up (up μ 8 on (nI j)) 9 on (nI k)) 10 on (nI w) 10 i = nI (if i = on then w else aC a i)
              by_cases e : i = on
              · simp only [e, ↓reduceIte, up_s, and_self]
              · simp (disch := omega) only [e, ↓reduceIte, up_k, up_c]; exact g7 i (by omega)
          · refine ⟨fun i hi => ?_, fun i hi => ?_⟩
            · simp (disch := omega) only [upM_1, up_c, up_k]; exact hM.1 i hi
            · have hi : i < on + 1 := hi
              simp (disch := omega) only [upM_1, up_c]
              show up (up (up ν.1 9 (3 * on) (nI j)) 9 (3 * on + 1) (nI k)) 9 (3 * on + 2) (nI w) 9 (3 * i) = nI (if i = on then j else aA a i) ∧ up (up (up ν.1 9 (3 * on) (nI j)) 9 (3 * on + 1) (nI k)) 9 (3 * on + 2) (nI w) 9 (3 * i + 1) = nI (if i = on then k else aB a i) ∧ up (up (up ν.1 9 (3 * on) (nI j)) 9 (3 * on + 1) (nI k)) 9 (3 * on + 2) (nI w) 9 (3 * i + 2) = nI (if i = on then w else aC a i)
              by_cases e : i = on
              · subst e
                simp (disch := omega) only [↓reduceIte, up_s, up_k, and_self]
              · simp (disch := omega) only [e, ↓reduceIte, up_k]; exact hM.2 i (by omega)
          · obtain ⟨g1, g2, g3, g4, g5⟩ := hF
            refine ⟨?_, ?_, ?_, ?_, upM_s⟩
            · simp (disch := omega) only [upM_1, up_c, up_k]; exact g1
            · simp (disch := omega) only [upM_1, up_c, up_k]; exact g2
            · simp (disch := omega) only [upM_1, up_c, up_k]; exact g3
            · simp (disch := omega) only [upM_1, up_c, up_k]; exact g4
        · have d0 : on = 8 := by omega
          subst d0
          refine ⟨μ, ν, -104, ?_, ?_, h.mono (by omega)⟩
          · have d1 : ¬ nI 8 < (8 : Int32) := by decide
            simp only [f_X3_observe, f_X2_note, nm, bd2, Option.bind_some, isPlace_t hC.1.1 h6 hj, isWord_t hk, isWord_t hw, i10, ↓reduceIte, hs1, d1]
          · have d2 : (nI 8 = (8 : Int32)) = True := eq_true (by decide)
            simp only [f_X4_observe, nm, mRook_t hF.1 h6 hj, mWord_t hk, mWord_t hw, i10, ↓reduceIte, hs2, d2]
      · refine ⟨μ, ν, -102, ?_, ?_, h.mono (by omega)⟩
        · simp only [f_X3_observe, nm, isPlace_t hC.1.1 h6 hj, isWord_t hk, isWord_f h3, i10, ↓reduceIte]
        · simp only [f_X4_observe, nm, mRook_t hF.1 h6 hj, mWord_t hk, mWord_f h3, i10, ↓reduceIte]
    · refine ⟨μ, ν, -102, ?_, ?_, h.mono (by omega)⟩
      · simp only [f_X3_observe, nm, isPlace_t hC.1.1 h6 hj, isWord_f h2, i10, ↓reduceIte]
      · simp only [f_X4_observe, nm, mRook_t hF.1 h6 hj, mWord_f h2, i10, ↓reduceIte]
  · refine ⟨μ, ν, -101, ?_, ?_, h.mono (by omega)⟩
    · simp only [f_X3_observe, nm, isPlace_f hC.1.1 h6 hx, ↓reduceIte]
    · simp only [f_X4_observe, nm, mRook_f hF.1 h6 hx, ↓reduceIte]
theorem st_exchange {T : Nat} {μ : Mem} {ν : MM} {x1 x2 : Int32} (h : Rel T μ ν) : ∃ (μ' : Mem) (ν' : MM) (r : Int32), f_X3_exchange μ x1 x2 = some (μ', r) ∧ f_X4_exchange ν x1 x2 = some (ν', r) ∧ Rel (T + 1) μ' ν' := by
  obtain ⟨a, pn, pg, rr, sd, hO, hC, hM, hF, hG, hN, hK⟩ := id h
  have h6 := hO.2.1
  by_cases hx : inb x1 (aN a)
  · obtain ⟨i, hi, rfl⟩ := hx
    by_cases h2 : inb x2 (aN a)
    · obtain ⟨j, hj, rfl⟩ := h2
      have si := (hO.2.2.1 i hi).2.2
      have sj := (hO.2.2.1 j hj).2.2
      have inj := hO.2.2.2.1
      have e7 : ∀ k, up (up μ 7 i (nI (aS a j))) 7 j (nI (aS a i)) 7 k = if k = j then nI (aS a i) else if k = i then nI (aS a j) else μ 7 k := by
        intro k
        by_cases e : k = j
        · rw [if_pos e, e, up_s]
        · rw [if_neg e, up_k e]
          by_cases e2 : k = i
          · rw [if_pos e2, e2, up_s]
          · rw [if_neg e2, up_k e2]
      have e4 : ∀ k, up (up ν.1 4 i (nI (aS a j))) 4 j (nI (aS a i)) 4 k = if k = j then nI (aS a i) else if k = i then nI (aS a j) else ν.1 4 k := by
        intro k
        by_cases e : k = j
        · rw [if_pos e, e, up_s]
        · rw [if_neg e, up_k e]
          by_cases e2 : k = i
          · rw [if_pos e2, e2, up_s]
          · rw [if_neg e2, up_k e2]
      have fi : ∀ x y : Int32, ∀ z : Int32, (i = j → x = y) → (if i = j then x else if i = i then y else z) = y := by
        intro x y z hxy
        by_cases e : i = j
        · rw [if_pos e, hxy e]
        · rw [if_neg e, if_pos rfl]
      have r7 : up (up μ 7 i (nI (aS a j))) 7 j (nI (aS a i)) 7 i = nI (aS a j) := by rw [e7]; exact fi _ _ _ (fun e => by rw [e])
      have r4 : up (up ν.1 4 i (nI (aS a j))) 4 j (nI (aS a i)) 4 i = nI (aS a j) := by rw [e4]; exact fi _ _ _ (fun e => by rw [e])
      refine ⟨up (up μ 7 i (nI (aS a j))) 7 j (nI (aS a i)), upM (upM (upM (upM ν 4 i (nI (aS a j))) 4 j (nI (aS a i))) 3 (4 * aS a j + 2) (nI i)) 3 (4 * aS a i + 2) (nI j), nI (aS a j), ?_, ?_, ((aN a, aK a, aT a, fun k => if k = j then aS a i else if k = i then aS a j else aS a k, aP a), a.2), pn, pg, rr, sd, ?_, ?_, ?_, hF.cong (by intros; simp (disch := omega) only [upM_1, up_c, up_k, up_s]), hG.cong (by intros; simp (disch := omega) only [upM_1, up_c, up_k, up_s]) (by intros; simp (disch := omega) only [upM_1, up_c, up_k, up_s]) (by intros; simp (disch := omega) only [upM_1, up_c, up_k, up_s]) (by intros; simp (disch := omega) only [upM_1, up_c, up_k, up_s]), hN.cong (by omega) (by intros; simp (disch := omega) only [upM_1, up_c, up_k, up_s]) (by intros; simp (disch := omega) only [upM_1, up_c, up_k, up_s]) (by intros; simp (disch := omega) only [upM_1, up_c, up_k, up_s]) (by intros; simp (disch := omega) only [upM_1, up_c, up_k, up_s]), hK.cong (by intros; simp (disch := omega) only [upM_1, up_c, up_k, up_s]) (by intros; simp (disch := omega) only [upM_1, up_c, up_k, up_s]) (by intros; simp (disch := omega) only [upM_1, up_c, up_k, up_s]) (by intros; simp (disch := omega) only [upM_1, up_c, up_k, up_s])⟩
      · simp only [f_X3_exchange, nm, isPlace_t hC.1.1 h6 hi, isPlace_t hC.1.1 h6 hj, i10, ↓reduceIte, ck_t (vin (N := 6) (show i < 6 by omega)), ck_t (vin (N := 6) (show j < 6 by omega)), cl (j := i), cl (j := j), (hC.2.1 i hi).2.2.2, (hC.2.1 j hj).2.2.2, r7]
      · simp (disch := omega) only [f_X4_exchange, nm, mRook_t hF.1 h6 hi, mRook_t hF.1 h6 hj, i10, ↓reduceIte, ck_t (vin (N := 6) (show i < 6 by omega)), ck_t (vin (N := 6) (show j < 6 by omega)), cl (j := i), cl (j := j), (hM.1 i hi).2.2.2.1, (hM.1 j hj).2.2.2.1, upM_1, r4, up_c, up_s, ix42, ck_t (vin (N := 24) (show 4 * aS a j + 2 < 24 by omega)), ck_t (vin (N := 24) (show 4 * aS a i + 2 < 24 by omega)), cl (j := 4 * aS a j + 2), cl (j := 4 * aS a i + 2)]
      · obtain ⟨g1, g2, g3, g4, g5, g6, g7⟩ := hO
        refine ⟨g1, g2, fun k hk => ⟨(g3 k hk).1, (g3 k hk).2.1, ?_⟩, fun k l hk hl => ?_, g5, g6, g7⟩
        · show (if k = j then aS a i else if k = i then aS a j else aS a k) < aN a
          split
          · exact si
          · split
            · exact sj
            · exact (g3 k hk).2.2
        · show (if k = j then aS a i else if k = i then aS a j else aS a k) = (if l = j then aS a i else if l = i then aS a j else aS a l) → k = l
          have hk : k < aN a := hk
          have hl : l < aN a := hl
          intro e
          by_cases k1 : k = j <;> by_cases l1 : l = j <;> simp only [k1, l1, ↓reduceIte] at e ⊢
          · by_cases l2 : l = i
            · simp only [l2, ↓reduceIte] at e
              have := g4 i j hi hj e
              omega
            · simp only [l2, ↓reduceIte] at e
              have := g4 i l hi hl e
              omega
          · by_cases k2 : k = i
            · simp only [k2, ↓reduceIte] at e
              have := g4 j i hj hi e
              omega
            · simp only [k2, ↓reduceIte] at e
              have := g4 k i hk hi e
              omega
          · by_cases k2 : k = i <;> by_cases l2 : l = i
            · omega
            · simp only [k2, l2, ↓reduceIte] at e
              have := g4 j l hj hl e
              omega
            · simp only [k2, l2, ↓reduceIte] at e
              have := g4 k j hk hj e
              omega
            · simp only [k2, l2, ↓reduceIte] at e
              exact g4 k l hk hl e
      · obtain ⟨⟨g1, g2, g3, g4, g5⟩, g6, g7⟩ := hC
        refine ⟨⟨?_, ?_, ?_, ?_, ?_⟩, fun k hk => ?_, fun k hk => ?_⟩
        · simp (disch := omega) only [up_c]; exact g1
        · simp (disch := omega) only [up_c]; exact g2
        · simp (disch := omega) only [up_c]; exact g3
        · simp (disch := omega) only [up_c]; exact g4
        · simp (disch := omega) only [up_c]; exact g5
        · refine ⟨?_, ?_, ?_, ?_⟩
          · simp (disch := omega) only [up_c]; exact (g6 k hk).1
          · simp (disch := omega) only [up_c]; exact (g6 k hk).2.1
          · simp (disch := omega) only [up_c]; exact (g6 k hk).2.2.1
          · rw [e7, (g6 k hk).2.2.2]
            show _ = nI (if k = j then aS a i else if k = i then aS a j else aS a k)
            split
            · rfl
            · split <;> rfl
        · simp (disch := omega) only [up_c]; exact g7 k hk
      · refine ⟨fun k hk => ?_, fun k hk => ?_⟩
        · have hk : k < aN a := hk
          obtain ⟨g1, g2, g3, g4, g5⟩ := hM.1 k hk
          refine ⟨?_, ?_, ?_, ?_, ?_⟩
          · simp (disch := omega) only [upM_1, up_k, up_c]; exact g1
          · simp (disch := omega) only [upM_1, up_k, up_c]; exact g2
          · simp (disch := omega) only [upM_1, up_k, up_c]; exact g3
          · simp (disch := omega) only [upM_1, up_c]
            rw [e4, g4]
            show _ = nI (if k = j then aS a i else if k = i then aS a j else aS a k)
            split
            · rfl
            · split <;> rfl
          · show (upM (upM (upM (upM ν 4 i (nI (aS a j))) 4 j (nI (aS a i))) 3 (4 * aS a j + 2) (nI i)) 3 (4 * aS a i + 2) (nI j)).1 3 (4 * (if k = j then aS a i else if k = i then aS a j else aS a k) + 2) = nI k
            by_cases k1 : k = j
            · simp only [k1, ↓reduceIte, upM_1, up_s]
            · by_cases k2 : k = i
              · have : aS a j ≠ aS a i := fun e => k1 (by rw [k2]; exact (inj j i hj hi e).symm)
                simp (disch := omega) only [k1, k2, ↓reduceIte]
                rw [if_neg (by omega), upM_1, up_k (by omega), upM_1, up_s]
              · have n1 : aS a k ≠ aS a i := fun e => k2 (inj k i hk hi e)
                have n2 : aS a k ≠ aS a j := fun e => k1 (inj k j hk hj e)
                simp (disch := omega) only [k1, k2, ↓reduceIte, upM_1, up_k, up_c]
                exact g5
        · simp (disch := omega) only [upM_1, up_c]; exact hM.2 k hk
    · refine ⟨μ, ν, -101, ?_, ?_, h.mono (by omega)⟩
      · simp only [f_X3_exchange, nm, isPlace_t hC.1.1 h6 hi, isPlace_f hC.1.1 h6 h2, i10, ↓reduceIte]
      · simp only [f_X4_exchange, nm, mRook_t hF.1 h6 hi, mRook_f hF.1 h6 h2, i10, ↓reduceIte]
  · refine ⟨μ, ν, -101, ?_, ?_, h.mono (by omega)⟩
    · simp only [f_X3_exchange, nm, isPlace_f hC.1.1 h6 hx, ↓reduceIte]
    · simp only [f_X4_exchange, nm, mRook_f hF.1 h6 hx, ↓reduceIte]
