/-! comes, sit, where, can -/
def SCR (μ μ' : Mem) (ν ν' : MM) : Prop := (∀ c, c < 19 → μ' c = μ c) ∧ (∀ c, c = 1 ∨ c = 3 ∨ c = 4 ∨ c = 9 ∨ c = 11 ∨ c = 12 ∨ c = 13 → ν'.1 c = ν.1 c) ∧ (∀ k, k ≠ 3 → k ≠ 4 → k ≠ 5 → k ≠ 21 → ν'.1 0 k = ν.1 0 k) ∧ ν'.2 = ν.2
theorem SCR.refl (μ : Mem) (ν : MM) : SCR μ μ ν ν := ⟨fun _ _ => rfl, fun _ _ => rfl, fun _ _ _ _ _ => rfl, rfl⟩
theorem SCR.trans {μ μ' μ'' : Mem} {ν ν' ν'' : MM} (h : SCR μ μ' ν ν') (g : SCR μ' μ'' ν' ν'') : SCR μ μ'' ν ν'' := ⟨fun c hc => (g.1 c hc).trans (h.1 c hc), fun c hc => (g.2.1 c hc).trans (h.2.1 c hc), fun k a b c d => (g.2.2.1 k a b c d).trans (h.2.2.1 k a b c d), g.2.2.2.trans h.2.2.2⟩
theorem Rel.scr2 {T : Nat} {μ μ' : Mem} {ν ν' : MM} (h : Rel T μ ν) (s : SCR μ μ' ν ν') : Rel T μ' ν' := h.scr s.1 s.2.1 s.2.2.1
theorem sat_e {μ : Mem} {ν : MM} {a : AS} (hO : OKS a) (hC : CS μ 3 4 5 6 7 8 9 10 a) (hM : MS ν.1 3 4 9 a) (hF : MF ν.1 a) (h0 : 0 < aN a) : ∃ μ' ν', f_X0_seatAll μ = some μ' ∧ f_X4_asTheySit ν = some ν' ∧ BK (aN a) (sK a) (sT a) (aW a) ∧ CK μ' (aN a) (sK a) (sT a) (aW a) ∧ MK ν'.1 (aN a) (sK a) (sT a) ∧ ν'.1 0 7 = nI (aW a) ∧ μ' 3 7 = nI (aN a) ∧ SCR μ μ' ν ν' := by
  obtain ⟨μ', e1, k1, k2⟩ := seatAll_e hO hC
  obtain ⟨ν', e2, k3, k4, k5⟩ := asTheySit_e hO hM hF
  refine ⟨μ', ν', e1, e2, hO.bk h0, k1, k3, ?_, ?_, fun c hc => k2 c (by omega) (by omega) (by omega), fun c hc => k4 c (by omega) (by omega), fun k _ _ _ _ => ?_, k5⟩
  · rw [k4 0 (by omega) (by omega)]; exact hF.2.1
  · rw [k2 3 (by omega) (by omega) (by omega)]; exact hC.1.1
  · rw [k4 0 (by omega) (by omega)]
theorem st_comes {T : Nat} {μ : Mem} {ν : MM} {x1 x2 : Int32} (h : Rel T μ ν) : ∃ (μ' : Mem) (ν' : MM) (r : Int32), f_X3_comes μ x1 x2 = some (μ', r) ∧ f_X4_comes ν x1 x2 = some (ν', r) ∧ Rel (T + 1) μ' ν' := by
  obtain ⟨a, pn, pg, rr, sd, hO, hC, hM, hF, hG, hN, hK⟩ := id h
  have h6 := hO.2.1
  by_cases hx : inb x1 (aN a)
  · obtain ⟨s, hs, rfl⟩ := hx
    by_cases hy : inb x2 8
    · obtain ⟨m, hm, rfl⟩ := hy
      obtain ⟨μ', ν', e1, e2, hB, k1, k2, k3, k4, k5⟩ := sat_e hO hC hM hF (by omega)
      refine ⟨μ', ν', nI (CM (aN a) (sK a) (sT a) (aW a) s m), ?_, ?_, (h.scr2 k5).mono (by omega)⟩
      · simp only [f_X3_comes, nm, isPlace_t hC.1.1 h6 hs, isWord_t hm, i10, ↓reduceIte, e1, bd, Option.bind_some, outcome_e hB k1 hs hm]
      · simp only [f_X4_comes, nm, mRook_t hF.1 h6 hs, mWord_t hm, i10, ↓reduceIte, e2, bd, Option.bind_some, k3, comesOf_e hB k2 hs hm]
    · refine ⟨μ, ν, -102, ?_, ?_, h.mono (by omega)⟩
      · simp only [f_X3_comes, nm, isPlace_t hC.1.1 h6 hs, isWord_f hy, i10, ↓reduceIte]
      · simp only [f_X4_comes, nm, mRook_t hF.1 h6 hs, mWord_f hy, i10, ↓reduceIte]
  · refine ⟨μ, ν, -101, ?_, ?_, h.mono (by omega)⟩
    · simp only [f_X3_comes, nm, isPlace_f hC.1.1 h6 hx, ↓reduceIte]
    · simp only [f_X4_comes, nm, mRook_f hF.1 h6 hx, ↓reduceIte]
theorem st_sit {T : Nat} {μ : Mem} {ν : MM} {x1 x2 : Int32} (h : Rel T μ ν) : ∃ (μ' : Mem) (ν' : MM) (r : Int32), f_X3_sit μ x1 x2 = some (μ', r) ∧ f_X4_sit ν x1 x2 = some (ν', r) ∧ Rel (T + 1) μ' ν' := by
  obtain ⟨a, pn, pg, rr, sd, hO, hC, hM, hF, hG, hN, hK⟩ := id h
  have h6 := hO.2.1
  have w101 : ∀ μ : Mem, f_X3_isWord μ (-101) = 0 := fun μ => isWord_f (by rw [inb_iff (by omega)]; decide)
  have w102 : ∀ μ : Mem, f_X3_isWord μ (-102) = 0 := fun μ => isWord_f (by rw [inb_iff (by omega)]; decide)
  by_cases hx : inb x1 (aN a)
  · obtain ⟨s, hs, rfl⟩ := hx
    by_cases hy : inb x2 8
    · obtain ⟨m, hm, rfl⟩ := hy
      obtain ⟨μ', ν', e1, e2, hB, k1, k2, k3, k4, k5⟩ := sat_e hO hC hM hF (by omega)
      have hc := CM_lt (s := s) hB hm
      obtain ⟨r, er⟩ : ∃ r, r = CM (aN a) (sK a) (sT a) (aW a) s m := ⟨_, rfl⟩
      rw [← er] at hc
      have q1 : f_X3_comes μ (nI s) (nI m) = some (μ', nI r) := by
        simp only [f_X3_comes, nm, isPlace_t hC.1.1 h6 hs, isWord_t hm, i10, ↓reduceIte, e1, bd, Option.bind_some, outcome_e hB k1 hs hm, er]
      have q2 : f_X4_comesOf ν' (nI s) (nI m) (nI (aW a)) = some (nI r) := by rw [er]; exact comesOf_e hB k2 hs hm
      have h' := h.scr2 k5
      obtain ⟨f1, f2, f3, f4⟩ := k5
      have d7 : μ' 7 s = nI (aS a s) := by rw [f1 7 (by omega)]; exact (hC.2.1 s hs).2.2.2
      have d4 : ν'.1 4 s = nI (aS a s) := by rw [f2 4 (by omega)]; exact (hM.1 s hs).2.2.2.1
      have ha := (hO.2.2.1 s hs).2.2
      have hC' : CS μ' 3 4 5 6 7 8 9 10 a := hC.cong (fun c hc => f1 c (by omega))
      have hM' : MS ν'.1 3 4 9 a := hM.cong (fun c hc => f2 c (by omega))
      have g0 : ∀ k, k ≠ 3 → k ≠ 4 → k ≠ 5 → k ≠ 21 → ν'.1 0 k = ν.1 0 k := f3
      have hF' : MF ν'.1 a := hF.cong (by intros; exact g0 _ (by omega) (by omega) (by omega) (by omega))
      have hN' : CN μ' ν'.1 (T + 1) rr sd := hN.cong (by omega) (by rw [f1 0 (by omega)]) (by rw [f1 0 (by omega)]) (g0 _ (by omega) (by omega) (by omega) (by omega)) (g0 _ (by omega) (by omega) (by omega) (by omega))
      have hG' : PG μ' ν'.1 pn pg := by
        unfold PG at *
        rw [f1 1 (by omega), f1 2 (by omega), f2 1 (by omega), f3 1 (by omega) (by omega) (by omega) (by omega)]
        exact hG
      have hK' : KP μ' ν'.1 (aN a) (aK a) rr := hK.cong (by intros; rw [f1 _ (by omega)]) (by intros; rw [f1 _ (by omega)]) (by intros; exact g0 _ (by omega) (by omega) (by omega) (by omega)) (by intros; rw [f2 _ (by omega)])
      by_cases e : r = m
      · subst e
        refine ⟨up μ' 6 (aS a s) (aP a (aS a s) + 1), upM ν' 3 (4 * aS a s + 3) (aP a (aS a s) + 1), -1, ?_, ?_, ((aN a, aK a, aT a, aS a, fun i => if i = aS a s then aP a i + 1 else aP a i), a.2), pn, pg, rr, sd, ?_, ?_, ?_, hF'.cong (by intros; simp (disch := omega) only [upM_1, up_c, up_k, up_s]), hG'.cong (by intros; simp (disch := omega) only [upM_1, up_c, up_k, up_s]) (by intros; simp (disch := omega) only [upM_1, up_c, up_k, up_s]) (by intros; simp (disch := omega) only [upM_1, up_c, up_k, up_s]) (by intros; simp (disch := omega) only [upM_1, up_c, up_k, up_s]), hN'.cong (by omega) (by intros; simp (disch := omega) only [upM_1, up_c, up_k, up_s]) (by intros; simp (disch := omega) only [upM_1, up_c, up_k, up_s]) (by intros; simp (disch := omega) only [upM_1, up_c, up_k, up_s]) (by intros; simp (disch := omega) only [upM_1, up_c, up_k, up_s]), hK'.cong (by intros; simp (disch := omega) only [upM_1, up_c, up_k, up_s]) (by intros; simp (disch := omega) only [upM_1, up_c, up_k, up_s]) (by intros; simp (disch := omega) only [upM_1, up_c, up_k, up_s]) (by intros; simp (disch := omega) only [upM_1, up_c, up_k, up_s])⟩
        · have d6 : μ' 6 (aS a s) = aP a (aS a s) := (hC'.2.1 _ ha).2.2.1
          simp only [f_X3_sit, q1, bd2, Option.bind_some, nm, isWord_t hc, i10, ↓reduceIte, ck_t (vin (N := 6) (show s < 6 by omega)), cl (j := s), d7, ck_t (vin (N := 6) (show aS a s < 6 by omega)), cl (j := aS a s), d6]
        · have d6 : ν'.1 3 (4 * aS a s + 3) = aP a (aS a s) := (hM'.1 _ ha).2.2.1
          simp only [f_X4_sit, nm, mRook_t hF.1 h6 hs, mWord_t hm, i10, ↓reduceIte, e2, bd, Option.bind_some, k3, q2, ck_t (vin (N := 6) (show s < 6 by omega)), cl (j := s), d4, ix43, ck_t (vin (N := 24) (show 4 * aS a s + 3 < 24 by omega)), cl (j := 4 * aS a s + 3), d6]
        · exact hO
        · refine ⟨?_, fun i hi => ?_, fun i hi => ?_⟩
          · have := hC'.1
            simp (disch := omega) only [up_c]
            exact this
          · have hi : i < aN a := hi
            have := hC'.2.1 i hi
            simp (disch := omega) only [up_c]
            refine ⟨this.1, this.2.1, ?_, this.2.2.2⟩
            show up μ' 6 (aS a s) (aP a (aS a s) + 1) 6 i = if i = aS a s then aP a i + 1 else aP a i
            by_cases q : i = aS a s
            · rw [if_pos q, q, up_s]
            · rw [if_neg q, up_k q]; exact this.2.2.1
          · have := hC'.2.2 i hi
            simp (disch := omega) only [up_c]
            exact this
        · refine ⟨fun i hi => ?_, fun i hi => ?_⟩
          · have hi : i < aN a := hi
            have := hM'.1 i hi
            simp (disch := omega) only [upM_1, up_c, up_k]
            refine ⟨this.1, this.2.1, ?_, this.2.2.2.1, this.2.2.2.2⟩
            show up ν'.1 3 (4 * aS a s + 3) (aP a (aS a s) + 1) 3 (4 * i + 3) = if i = aS a s then aP a i + 1 else aP a i
            by_cases q : i = aS a s
            · rw [if_pos q, q, up_s]
            · rw [if_neg q, up_k (by omega)]; exact this.2.2.1
          · have := hM'.2 i hi
            simp (disch := omega) only [upM_1, up_c]
            exact this
      · have d : (nI r = nI m) = False := eq_false (by rw [nI_eq (by omega) (by omega)]; exact e)
        refine ⟨up (up μ' 3 9 (aL a + 1)) 3 10 (nI r), upM (upM ν' 0 8 (aL a + 1)) 0 9 (nI r), nI r, ?_, ?_, (a.1, (aW a, aL a + 1, nI r), a.2.2), pn, pg, rr, sd, hO, ?_, hM'.cong (by intros; simp (disch := omega) only [upM_1, up_c, up_k, up_s]), ?_, hG'.cong (by intros; simp (disch := omega) only [upM_1, up_c, up_k, up_s]) (by intros; simp (disch := omega) only [upM_1, up_c, up_k, up_s]) (by intros; simp (disch := omega) only [upM_1, up_c, up_k, up_s]) (by intros; simp (disch := omega) only [upM_1, up_c, up_k, up_s]), hN'.cong (by omega) (by intros; simp (disch := omega) only [upM_1, up_c, up_k, up_s]) (by intros; simp (disch := omega) only [upM_1, up_c, up_k, up_s]) (by intros; simp (disch := omega) only [upM_1, up_c, up_k, up_s]) (by intros; simp (disch := omega) only [upM_1, up_c, up_k, up_s]), hK'.cong (by intros; simp (disch := omega) only [upM_1, up_c, up_k, up_s]) (by intros; simp (disch := omega) only [upM_1, up_c, up_k, up_s]) (by intros; simp (disch := omega) only [upM_1, up_c, up_k, up_s]) (by intros; simp (disch := omega) only [upM_1, up_c, up_k, up_s])⟩
        · have d9 : μ' 3 9 = aL a := hC'.1.2.2.1
          simp only [f_X3_sit, q1, bd2, Option.bind_some, nm, isWord_t hc, i10, ↓reduceIte, d, d9]
        · have d8 : ν'.1 0 8 = aL a := hF'.2.2.1
          simp only [f_X4_sit, nm, mRook_t hF.1 h6 hs, mWord_t hm, i10, ↓reduceIte, e2, bd, Option.bind_some, k3, q2, d, d8]
        · obtain ⟨⟨c1, c2, c3, c4, c5⟩, c6, c7⟩ := hC'
          refine ⟨⟨?_, ?_, ?_, ?_, ?_⟩, fun i hi => ?_, fun i hi => ?_⟩
          · simp (disch := omega) only [up_c, up_k]; exact c1
          · simp (disch := omega) only [up_c, up_k]; exact c2
          · rw [up_k (by omega), up_s]
          · rw [up_s]
          · simp (disch := omega) only [up_c, up_k]; exact c5
          · simp (disch := omega) only [up_c, up_k]; exact c6 i hi
          · simp (disch := omega) only [up_c, up_k]; exact c7 i hi
        · obtain ⟨c1, c2, c3, c4, c5⟩ := hF'
          refine ⟨?_, ?_, ?_, ?_, ?_⟩
          · simp (disch := omega) only [upM_1, up_c, up_k]; exact c1
          · simp (disch := omega) only [upM_1, up_c, up_k]; exact c2
          · rw [upM_1, up_k (by omega), upM_1, up_s]
          · rw [upM_1, up_s]
          · simp (disch := omega) only [upM_1, up_c, up_k]; exact c5
    · refine ⟨μ, ν, -102, ?_, ?_, h.mono (by omega)⟩
      · have q1 : f_X3_comes μ (nI s) x2 = some (μ, -102) := by simp only [f_X3_comes, nm, isPlace_t hC.1.1 h6 hs, isWord_f hy, i10, ↓reduceIte]
        simp only [f_X3_sit, q1, bd2, Option.bind_some, nm, w102, ↓reduceIte]
      · simp only [f_X4_sit, nm, mRook_t hF.1 h6 hs, mWord_f hy, i10, ↓reduceIte]
  · refine ⟨μ, ν, -101, ?_, ?_, h.mono (by omega)⟩
    · have q1 : f_X3_comes μ x1 x2 = some (μ, -101) := by simp only [f_X3_comes, nm, isPlace_f hC.1.1 h6 hx, ↓reduceIte]
      simp only [f_X3_sit, q1, bd2, Option.bind_some, nm, w101, ↓reduceIte]
    · simp only [f_X4_sit, nm, mRook_f hF.1 h6 hx, ↓reduceIte]
def wr (v : Nat → Nat) (c : Nat) : Nat → Int32
  | 0 => 0
  | k + 1 => if v k = c then wr v c k ||| ((1 : Int32) <<< (nI k &&& 31)) else wr v c k
theorem st_where {T : Nat} {μ : Mem} {ν : MM} {x1 x2 : Int32} (h : Rel T μ ν) : ∃ (μ' : Mem) (ν' : MM) (r : Int32), f_X3_where μ x1 x2 = some (μ', r) ∧ f_X4_where ν x1 x2 = some (ν', r) ∧ Rel (T + 1) μ' ν' := by
  obtain ⟨a, pn, pg, rr, sd, hO, hC, hM, hF, hG, hN, hK⟩ := id h
  have h6 := hO.2.1
  by_cases hx : inb x1 8
  · obtain ⟨m, hm, rfl⟩ := hx
    by_cases hy : inb x2 8
    · obtain ⟨c, hc, rfl⟩ := hy
      rcases Nat.eq_zero_or_pos (aN a) with h0 | h0
      · refine ⟨μ, ν, -103, ?_, ?_, h.mono (by omega)⟩
        · simp only [f_X3_where, nm, isWord_t hm, isWord_t hc, hasRing_f (h0 ▸ hC.1.1), i10, ↓reduceIte]
        · simp only [f_X4_where, nm, mWord_t hm, mWord_t hc, lacks_t (h0 ▸ hF.1), i10, ↓reduceIte]
      · obtain ⟨μ', ν', e1, e2, hB, k1, k2, k3, k4, k5⟩ := sat_e hO hC hM hF h0
        refine ⟨μ', ν', wr (fun s => CM (aN a) (sK a) (sT a) (aW a) s m) c (aN a), ?_, ?_, (h.scr2 k5).mono (by omega)⟩
        · simp only [f_X3_where, nm, isWord_t hm, isWord_t hc, hasRing_t hC.1.1 h0 h6, i10, ↓reduceIte, e1, bd, Option.bind_some]
          obtain ⟨y, z, rfl, h2⟩ := lp_fu (body := fun ih σ => b_X3_where_43 μ' (nI m) (nI c) ih σ.1 σ.2) (fun k x => x = (wr (fun s => CM (aN a) (sK a) (sT a) (aW a) s m) c k, nI k)) (aN a) (by omega) (fun k x hk hx => by
            subst hx
            refine ⟨_, rfl, fun ih => ?_⟩
            have c1 : ¬ nI (aN a) ≤ nI k := nI_ge (by omega) (by omega)
            have hr := CM_lt (s := k) hB hm
            by_cases e : CM (aN a) (sK a) (sT a) (aW a) k m = c
            · simp only [b_X3_where_43, g_X3_where_76, nm, bd, Option.bind_some, k4, c1, ↓reduceIte, outcome_e hB k1 hk hm, e, wr, nI_1]
            · have d : (nI (CM (aN a) (sK a) (sT a) (aW a) k m) = nI c) = False := eq_false (by rw [nI_eq (by omega) (by omega)]; exact e)
              simp only [b_X3_where_43, g_X3_where_76, nm, bd, Option.bind_some, k4, c1, ↓reduceIte, outcome_e hB k1 hk hm, d, e, wr, nI_1]) ((0 : Int32), (0 : Int32)) (by rw [nI_0]; rfl)
          rw [h2]
          have c1 : nI (aN a) ≤ nI (aN a) := nI_le (by omega) (by omega)
          simp only [b_X3_where_43, k4, c1, ↓reduceIte]
        · simp only [f_X4_where, nm, mWord_t hm, mWord_t hc, lacks_f hF.1 h0 h6, i10, ↓reduceIte, e2, bd, Option.bind_some]
          obtain ⟨y, z, rfl, h2⟩ := lp_fu (body := fun ih σ => b_X4_where_36 ν' (nI m) (nI c) ih σ.1 σ.2) (fun k x => x = (wr (fun s => CM (aN a) (sK a) (sT a) (aW a) s m) c k, nI k)) (aN a) (by omega) (fun k x hk hx => by
            subst hx
            refine ⟨_, rfl, fun ih => ?_⟩
            have c1 : ¬ nI (aN a) ≤ nI k := nI_ge (by omega) (by omega)
            have hr := CM_lt (s := k) hB hm
            by_cases e : CM (aN a) (sK a) (sT a) (aW a) k m = c
            · simp only [b_X4_where_36, g_X4_where_69, nm, bd, Option.bind_some, k2.1, k3, c1, ↓reduceIte, comesOf_e hB k2 hk hm, e, wr, nI_1]
            · have d : (nI (CM (aN a) (sK a) (sT a) (aW a) k m) = nI c) = False := eq_false (by rw [nI_eq (by omega) (by omega)]; exact e)
              simp only [b_X4_where_36, g_X4_where_69, nm, bd, Option.bind_some, k2.1, k3, c1, ↓reduceIte, comesOf_e hB k2 hk hm, d, e, wr, nI_1, Int32.or_zero]) ((0 : Int32), (0 : Int32)) (by rw [nI_0]; rfl)
          rw [h2]
          have c1 : nI (aN a) ≤ nI (aN a) := nI_le (by omega) (by omega)
          simp only [b_X4_where_36, k2.1, c1, ↓reduceIte]
    · refine ⟨μ, ν, -102, ?_, ?_, h.mono (by omega)⟩
      · simp only [f_X3_where, nm, isWord_t hm, isWord_f hy, i10, ↓reduceIte]
      · simp only [f_X4_where, nm, mWord_t hm, mWord_f hy, i10, ↓reduceIte]
  · refine ⟨μ, ν, -102, ?_, ?_, h.mono (by omega)⟩
    · simp only [f_X3_where, nm, isWord_f hx, ↓reduceIte]
    · simp only [f_X4_where, nm, mWord_f hx, ↓reduceIte]
def cb (v : Nat → Nat → Nat) : Nat → Int32
  | 0 => 0
  | k + 1 => if v (k / 8) (k % 8) = k % 8 then cb v k else cb v k ||| ((1 : Int32) <<< (nI (v (k / 8) (k % 8)) &&& 31))
theorem can_c {μ' : Mem} {n : Nat} {K T : Nat → Nat} {w : Nat} (hB : BK n K T w) (k1 : CK μ' n K T w) (k4 : μ' 3 7 = nI n) : lp (fun ih σ => b_X3_can_25 μ' ih σ.1 σ.2) fu ((0 : Int32), (0 : Int32)) = some (μ', cb (CM n K T w) (8 * n)) := by
  have h6 := hB.2.1
  obtain ⟨y, z, rfl, h2⟩ := lp_fu (body := fun ih σ => b_X3_can_25 μ' ih σ.1 σ.2) (fun k x => x = (cb (CM n K T w) (8 * k), nI k)) n (by omega) (fun s x hk hx => by
    subst hx
    refine ⟨_, rfl, fun ih => ?_⟩
    have c1 : ¬ nI n ≤ nI s := nI_ge (by omega) (by omega)
    simp only [b_X3_can_25, k4, c1, ↓reduceIte]
    obtain ⟨y, z, rfl, h2⟩ := lp_fu (body := fun ih38 σ => b_X3_can_38 μ' (nI s) ih ih38 σ.1 σ.2) (fun m x => x = (cb (CM n K T w) (8 * s + m), nI m)) 8 (by omega) (fun m x hm hx => by
      subst hx
      refine ⟨_, rfl, fun ih38 => ?_⟩
      have c1 : ¬ (8 : Int32) ≤ nI m := by show ¬ nI 8 ≤ nI m; exact nI_ge (by omega) (by omega)
      have hr := CM_lt (s := s) hB hm
      have e1 : (8 * s + m) / 8 = s := by omega
      have e2 : (8 * s + m) % 8 = m := by omega
      rw [show 8 * s + (m + 1) = 8 * s + m + 1 from rfl, cb, e1, e2]
      by_cases e : CM n K T w s m = m
      · simp only [b_X3_can_38, g_X3_can_68, nm, bd, Option.bind_some, c1, ↓reduceIte, outcome_e hB k1 hk hm, e, nI_1]
      · have d : (nI (CM n K T w s m) = nI m) = False := eq_false (by rw [nI_eq (by omega) (by omega)]; exact e)
        simp only [b_X3_can_38, g_X3_can_68, nm, bd, Option.bind_some, c1, ↓reduceIte, outcome_e hB k1 hk hm, d, e, nI_1]) (cb (CM n K T w) (8 * s), (0 : Int32)) (by rw [nI_0]; rfl)
    rw [h2]
    have c2 : (8 : Int32) ≤ nI 8 := by decide
    simp only [b_X3_can_38, g_X3_can_74, c2, ↓reduceIte, nI_1]
    rfl) ((0 : Int32), (0 : Int32)) (by rw [nI_0]; rfl)
  rw [h2]
  have c1 : nI n ≤ nI n := nI_le (by omega) (by omega)
  simp only [b_X3_can_25, k4, c1, ↓reduceIte]
theorem can_m {ν' : MM} {n : Nat} {K T : Nat → Nat} {w : Nat} (hB : BK n K T w) (k2 : MK ν'.1 n K T) (k3 : ν'.1 0 7 = nI w) : lp (fun ih σ => b_X4_canOf_8 ν' ih σ.1 σ.2) fu ((0 : Int32), (0 : Int32)) = some (ν', cb (CM n K T w) (8 * n)) := by
  have h6 := hB.2.1
  have e8 : (8 : Int32) * nI n = nI (8 * n) := pk_mul 8 n
  obtain ⟨y, z, rfl, h2⟩ := lp_fu (body := fun ih σ => b_X4_canOf_8 ν' ih σ.1 σ.2) (fun k x => x = (cb (CM n K T w) k, nI k)) (8 * n) (by omega) (fun k x hk hx => by
    subst hx
    refine ⟨_, rfl, fun ih => ?_⟩
    have c1 : ¬ nI (8 * n) ≤ nI k := nI_ge (by omega) (by omega)
    have e1 : nI k / (8 : Int32) = nI (k / 8) := by show nI k / nI 8 = _; exact pk_div (by omega) (by omega) (by omega)
    have e2 : nI k - nI (k / 8) * (8 : Int32) = nI (k % 8) := by rw [← e1]; show nI k - nI k / nI 8 * nI 8 = _; exact pk_rem (by omega) (by omega) (by omega)
    have hs : k / 8 < n := by omega
    have hm : k % 8 < 8 := by omega
    have hr := CM_lt (s := k / 8) hB hm
    rw [cb]
    by_cases e : CM n K T w (k / 8) (k % 8) = k % 8
    · simp only [b_X4_canOf_8, g_X4_canOf_52, nm, bd, Option.bind_some, k2.1, k3, e8, c1, e1, e2, ↓reduceIte, comesOf_e hB k2 hs hm, e, nI_1, Int32.or_zero]
    · have d : (nI (CM n K T w (k / 8) (k % 8)) = nI (k % 8)) = False := eq_false (by rw [nI_eq (by omega) (by omega)]; exact e)
      simp only [b_X4_canOf_8, g_X4_canOf_52, nm, bd, Option.bind_some, k2.1, k3, e8, c1, e1, e2, ↓reduceIte, comesOf_e hB k2 hs hm, d, e, nI_1]) ((0 : Int32), (0 : Int32)) (by rw [nI_0]; rfl)
  rw [h2]
  have c1 : nI (8 * n) ≤ nI (8 * n) := nI_le (by omega) (by omega)
  simp only [b_X4_canOf_8, k2.1, e8, c1, ↓reduceIte]
theorem can_e {μ : Mem} {ν : MM} {a : AS} (hO : OKS a) (hC : CS μ 3 4 5 6 7 8 9 10 a) (hM : MS ν.1 3 4 9 a) (hF : MF ν.1 a) (h0 : 0 < aN a) : ∃ μ' ν' r, f_X3_can μ = some (μ', r) ∧ f_X4_canOf ν = some (ν', r) ∧ SCR μ μ' ν ν' := by
  have h6 := hO.2.1
  obtain ⟨μ', ν', e1, e2, hB, k1, k2, k3, k4, k5⟩ := sat_e hO hC hM hF h0
  refine ⟨μ', ν', cb (CM (aN a) (sK a) (sT a) (aW a)) (8 * aN a), ?_, ?_, k5⟩
  · simp only [f_X3_can, nm, hasRing_t hC.1.1 h0 h6, i10, ↓reduceIte, e1, bd, Option.bind_some]
    exact can_c hB k1 k4
  · simp only [f_X4_canOf, e2, bd, Option.bind_some]
    exact can_m hB k2 k3
theorem st_can {T : Nat} {μ : Mem} {ν : MM} (h : Rel T μ ν) : ∃ (μ' : Mem) (ν' : MM) (r : Int32), f_X3_can μ = some (μ', r) ∧ f_X4_can ν = some (ν', r) ∧ Rel (T + 1) μ' ν' := by
  obtain ⟨a, pn, pg, rr, sd, hO, hC, hM, hF, hG, hN, hK⟩ := id h
  have h6 := hO.2.1
  rcases Nat.eq_zero_or_pos (aN a) with h0 | h0
  · refine ⟨μ, ν, -103, ?_, ?_, h.mono (by omega)⟩
    · simp only [f_X3_can, nm, hasRing_f (h0 ▸ hC.1.1), ↓reduceIte]
    · simp only [f_X4_can, nm, lacks_t (h0 ▸ hF.1), i10, ↓reduceIte]
  · obtain ⟨μ', ν', r, e1, e2, e3⟩ := can_e hO hC hM hF h0
    refine ⟨μ', ν', r, e1, ?_, (h.scr2 e3).mono (by omega)⟩
    simp only [f_X4_can, nm, lacks_f hF.1 h0 h6, ↓reduceIte, e2, bd2, Option.bind_some]
