/-! ring -/
theorem isWhole_f {μ : Mem} {ν : Mem} {pn k : Nat} {pg : Nat → Nat} (hG : PG μ ν pn pg) (h1 : f_X1_firstFault μ = some (nI k)) (hk : k ≤ pn) (h : k < pn ∨ pn < 2 ∨ pg (pn - 2) ≠ 59) : f_X1_isWhole μ = some 0 := by
  have h22 := hG.1
  rcases Nat.lt_or_ge pn 2 with h2 | h2
  · have c1 : nI pn < 2 := by show nI pn < nI 2; exact nI_lt h2 (by omega)
    simp only [f_X1_isWhole, hG.2.1, c1, ↓reduceIte]
  · have c1 : ¬ nI pn < 2 := by show ¬ nI pn < nI 2; exact nI_nlt (by omega) (by omega)
    have e1 : nI pn - 2 = nI (pn - 2) := by show nI pn - nI 2 = _; exact pk_sub h2
    obtain ⟨p1, p2, p3, p4⟩ := hG.2.2.2 (pn - 2) (by omega)
    have e59 : (nI (pg (pn - 2)) = (59 : Int32)) = (pg (pn - 2) = 59) := propext (nI_eq (b := 59) (by omega) (by omega))
    simp only [f_X1_isWhole, hG.2.1, c1, ↓reduceIte, e1, ck_t (vin (N := 22) (show pn - 2 < 22 by omega)), cl (j := pn - 2), p3, e59, h1, bd, Option.bind_some]
    by_cases g : pg (pn - 2) = 59
    · rw [if_pos g, if_neg]
      rw [nI_eq (by omega) (by omega)]
      omega
    · rw [if_neg g]
theorem isWhole_t {μ : Mem} {ν : Mem} {pn : Nat} {pg : Nat → Nat} (hG : PG μ ν pn pg) (h1 : f_X1_firstFault μ = some (nI pn)) (h2 : 2 ≤ pn) (h : pg (pn - 2) = 59) : f_X1_isWhole μ = some 1 := by
  have h22 := hG.1
  have c1 : ¬ nI pn < 2 := by show ¬ nI pn < nI 2; exact nI_nlt (by omega) (by omega)
  have e1 : nI pn - 2 = nI (pn - 2) := by show nI pn - nI 2 = _; exact pk_sub h2
  obtain ⟨p1, p2, p3, p4⟩ := hG.2.2.2 (pn - 2) (by omega)
  have e59 : (nI (pg (pn - 2)) = (59 : Int32)) = (pg (pn - 2) = 59) := propext (nI_eq (b := 59) (by omega) (by omega))
  simp only [f_X1_isWhole, hG.2.1, c1, ↓reduceIte, e1, ck_t (vin (N := 22) (show pn - 2 < 22 by omega)), cl (j := pn - 2), p3, e59, h1, bd, Option.bind_some, h]
  rfl
/-- the standing that a page tells -/
def told (pg : Nat → Nat) (q : Nat) : AS := ((q, fun i => kc (pg (3 * i)), fun i => pg (3 * i + 1) - 48, fun i => i, fun _ => 0), (pg (3 * q) - 48, 0, -1), (0, fun _ => 0, fun _ => 0, fun _ => 0))
theorem startFrom_e {μ : Mem} {ν : Mem} {q : Nat} {pg : Nat → Nat} (hG : PG μ ν (3 * q + 1) pg) (hq : q ≤ 6) (h3 : ∀ i, i < q → kc (pg (3 * i)) < 5 ∧ 48 ≤ pg (3 * i + 1)) (hw : 48 ≤ pg (3 * q)) : ∃ μ', f_X2_startFrom μ = some μ' ∧ CS μ' 3 4 5 6 7 8 9 10 (told pg q) ∧ ∀ c, c < 3 ∨ 7 < c → μ' c = μ c := by
  have h22 := hG.1
  have e0 : f_X1_rooksTold μ = nI q := by
    unfold f_X1_rooksTold
    rw [hG.2.1, show nI (3 * q + 1) - 1 = nI (3 * q) from (show nI (3 * q + 1) - nI 1 = _ from pk_sub (by omega))]
    show nI (3 * q) / nI 3 = _
    rw [pk_div (by omega) (by omega) (by omega)]
    exact congrArg nI (by omega)
  simp only [f_X2_startFrom, nm, e0]
  obtain ⟨⟨y, z⟩, m, ⟨hz, h1, h4, h5⟩, h2⟩ := lp_fu (body := fun ih σ => b_X2_startFrom_10 ih σ.1 σ.2) (fun k (x : Mem × Int32) => x.2 = nI k ∧ (∀ i, i < k → x.1 4 i = nI (kc (pg (3 * i))) ∧ x.1 5 i = nI (pg (3 * i + 1) - 48) ∧ x.1 6 i = 0 ∧ x.1 7 i = nI i) ∧ (∀ c, c < 3 ∨ 7 < c → x.1 c = μ c) ∧ x.1 3 7 = nI q) q (by omega) (fun k x hk hx => by
    obtain ⟨x, z⟩ := x
    obtain ⟨hz, h1, h4, h5⟩ := hx
    have hz : z = nI k := hz
    subst hz
    have h1 : ∀ i, i < k → x 4 i = nI (kc (pg (3 * i))) ∧ x 5 i = nI (pg (3 * i + 1) - 48) ∧ x 6 i = 0 ∧ x 7 i = nI i := h1
    have h4 : ∀ c, c < 3 ∨ 7 < c → x c = μ c := h4
    have h5 : x 3 7 = nI q := h5
    have c1 : ¬ nI q ≤ nI k := nI_ge hk (by omega)
    obtain ⟨p1, p2, p3, -⟩ := hG.2.2.2 (3 * k) (by omega)
    obtain ⟨o1, o2, o3, -⟩ := hG.2.2.2 (3 * k + 1) (by omega)
    obtain ⟨a1, a2⟩ := h3 k hk
    have p3 : x 2 (3 * k) = nI (pg (3 * k)) := by rw [h4 2 (by omega)]; exact p3
    have o3 : x 2 (3 * k + 1) = nI (pg (3 * k + 1)) := by rw [h4 2 (by omega)]; exact o3
    have ew : nI (pg (3 * k + 1)) - 48 = nI (pg (3 * k + 1) - 48) := by show _ - nI 48 = _; exact pk_sub a2
    have kd : f_X1_kindTold x (nI k) = some (nI (kc (pg (3 * k)))) := by
      simp only [f_X1_kindTold, ix3, ck_t (vin (N := 22) (show 3 * k < 22 by omega)), cl (j := 3 * k), p3, indexOf_e p2, bd, Option.bind_some, a1, ↓reduceIte]
    have tw : f_X1_twigTold (up x 4 k (nI (kc (pg (3 * k))))) (nI k) = some (nI (pg (3 * k + 1) - 48)) := by
      simp (disch := omega) only [f_X1_twigTold, ix31, ck_t (vin (N := 22) (show 3 * k + 1 < 22 by omega)), cl (j := 3 * k + 1), up_c, o3, ew]
    refine ⟨(up (up (up (up x 4 k (nI (kc (pg (3 * k))))) 5 k (nI (pg (3 * k + 1) - 48))) 6 k 0) 7 k (nI k), nI (k + 1)), ⟨rfl, fun i hi => ?_, fun c hc => ?_, ?_⟩, fun ih => ?_⟩
    · by_cases e : i = k
      · subst e
        simp (disch := omega) only [up_c, up_s]
        exact ⟨trivial, trivial, trivial, trivial⟩
      · simp (disch := omega) only [up_c, up_k]
        exact h1 i (by omega)
    · simp (disch := omega) only [up_c]; exact h4 c hc
    · simp (disch := omega) only [up_c]; exact h5
    · simp only [b_X2_startFrom_10, nm, h5, c1, ↓reduceIte, kd, tw, bd, Option.bind_some, ck_t (vin (N := 6) (show k < 6 by omega)), cl (j := k), nI_1]) (up μ 3 7 (nI q), (0 : Int32)) ⟨nI_0.symm, fun i hi => by omega, fun c hc => by show up μ 3 7 (nI q) c = _; rw [up_c (by omega)], by show up μ 3 7 (nI q) 3 7 = _; rw [up_s]⟩
  have hz : z = nI q := hz
  subst hz
  have h1 : ∀ i, i < q → y 4 i = nI (kc (pg (3 * i))) ∧ y 5 i = nI (pg (3 * i + 1) - 48) ∧ y 6 i = 0 ∧ y 7 i = nI i := h1
  have h4 : ∀ c, c < 3 ∨ 7 < c → y c = μ c := h4
  have h5 : y 3 7 = nI q := h5
  have c1 : nI q ≤ nI q := nI_le (by omega) (by omega)
  obtain ⟨p1, p2, p3, -⟩ := hG.2.2.2 (3 * q) (by omega)
  have wd : f_X1_windTold y = some (nI (pg (3 * q) - 48)) := by
    have z1 : y 1 1 = nI (3 * q + 1) := by rw [h4 1 (by omega)]; exact hG.2.1
    have z2 : nI (3 * q + 1) - 1 = nI (3 * q) := show nI (3 * q + 1) - nI 1 = _ from pk_sub (by omega)
    have z3 : y 2 (3 * q) = nI (pg (3 * q)) := by rw [h4 2 (by omega)]; exact p3
    have z4 : nI (pg (3 * q)) - 48 = nI (pg (3 * q) - 48) := by show _ - nI 48 = _; exact pk_sub hw
    simp only [f_X1_windTold, z1, z2, ck_t (vin (N := 22) (show 3 * q < 22 by omega)), cl (j := 3 * q), z3, z4]
  refine ⟨up (up (up (up y 3 8 (nI (pg (3 * q) - 48))) 3 9 0) 3 10 (-1)) 3 11 0, ?_, ⟨⟨?_, ?_, ?_, ?_, ?_⟩, fun i hi => ?_, fun i hi => absurd hi (Nat.not_lt_zero i)⟩, fun c hc => ?_⟩
  · rw [h2]
    simp only [b_X2_startFrom_10, g_X2_startFrom_60, nm, h5, c1, ↓reduceIte, wd, bd, Option.bind_some]
  · simp (disch := omega) only [up_k]; exact h5
  · simp (disch := omega) only [up_k, up_s]; rfl
  · simp (disch := omega) only [up_k, up_s]; rfl
  · simp (disch := omega) only [up_k, up_s]; rfl
  · simp (disch := omega) only [up_s]; rfl
  · simp (disch := omega) only [up_c]
    exact h1 i hi
  · simp (disch := omega) only [up_c]
    exact h4 c hc
theorem mring_e {ν : MM} {q rr : Nat} {pg : Nat → Nat} (hq : q ≤ 6) (hr : RD pg ν.1 q) (hw : ν.1 0 4 = nI (pg (3 * q) - 48)) (hc : ν.1 0 10 = nI rr) : ∃ ν', lp (fun ih σ => b_X4_ring_24 ih σ.1 σ.2) fu (ν, (0 : Int32)) = some (ν', nI q) ∧ MS ν'.1 3 4 9 (told pg q) ∧ MF ν'.1 (told pg q) ∧ ν'.1 0 1 = nI 0 ∧ ν'.1 0 10 = nI (rr + 1) ∧ (∀ c, c ≠ 0 → c ≠ 3 → c ≠ 4 → ν'.1 c = ν.1 c) ∧ (∀ k, k ≠ 6 → k ≠ 7 → k ≠ 8 → k ≠ 9 → k ≠ 18 → k ≠ 10 → k ≠ 1 → ν'.1 0 k = ν.1 0 k) ∧ ν'.2 = ν.2 := by
  obtain ⟨-, r2, r3⟩ := hr
  obtain ⟨⟨y, z⟩, m, ⟨hz, h1, h4, h5⟩, h2⟩ := lp_fu (body := fun ih σ => b_X4_ring_24 ih σ.1 σ.2) (fun k (x : MM × Int32) => x.2 = nI k ∧ (∀ i, i < k → x.1.1 3 (4 * i) = nI (kc (pg (3 * i))) ∧ x.1.1 3 (4 * i + 1) = nI (pg (3 * i + 1) - 48) ∧ x.1.1 3 (4 * i + 2) = nI i ∧ x.1.1 3 (4 * i + 3) = 0 ∧ x.1.1 4 i = nI i) ∧ (∀ c, c ≠ 3 → c ≠ 4 → x.1.1 c = ν.1 c) ∧ x.1.2 = ν.2) q (by omega) (fun k x hk hx => by
    obtain ⟨x, z⟩ := x
    obtain ⟨hz, h1, h4, h5⟩ := hx
    have hz : z = nI k := hz
    subst hz
    have h1 : ∀ i, i < k → x.1 3 (4 * i) = nI (kc (pg (3 * i))) ∧ x.1 3 (4 * i + 1) = nI (pg (3 * i + 1) - 48) ∧ x.1 3 (4 * i + 2) = nI i ∧ x.1 3 (4 * i + 3) = 0 ∧ x.1 4 i = nI i := h1
    have h4 : ∀ c, c ≠ 3 → c ≠ 4 → x.1 c = ν.1 c := h4
    have z3 : x.1 0 3 = nI q := by rw [h4 0 (by omega) (by omega)]; exact r2
    have c1 : ¬ nI q ≤ nI k := nI_ge hk (by omega)
    obtain ⟨-, -, -, t1, t2⟩ := r3 k hk
    have t1 : x.1 2 (2 * k) = nI (kc (pg (3 * k))) := by rw [h4 2 (by omega) (by omega)]; exact t1
    have t2 : x.1 2 (2 * k + 1) = nI (pg (3 * k + 1) - 48) := by rw [h4 2 (by omega) (by omega)]; exact t2
    refine ⟨(upM (upM (upM (upM (upM x 3 (4 * k) (nI (kc (pg (3 * k))))) 3 (4 * k + 1) (nI (pg (3 * k + 1) - 48))) 3 (4 * k + 2) (nI k)) 3 (4 * k + 3) 0) 4 k (nI k), nI (k + 1)), ⟨rfl, fun i hi => ?_, fun c a1 a2 => ?_, h5⟩, fun ih => ?_⟩
    · by_cases e : i = k
      · subst e
        simp (disch := omega) only [upM_1, up_c, up_k, up_s]
        exact ⟨trivial, trivial, trivial, trivial, trivial⟩
      · simp (disch := omega) only [upM_1, up_c, up_k]
        exact h1 i (by omega)
    · simp (disch := omega) only [upM_1, up_c]; exact h4 c a1 a2
    · simp (disch := omega) only [b_X4_ring_24, nm, z3, c1, ↓reduceIte, ix2, ix4, nI_1, nI_2, nI_3, ck_t (vin (N := 12) (show 2 * k < 12 by omega)), cl (j := 2 * k), t1, ck_t (vin (N := 24) (show 4 * k < 24 by omega)), cl (j := 4 * k), ck_t (vin (N := 12) (show 2 * k + 1 < 12 by omega)), cl (j := 2 * k + 1), upM_1, up_c, t2, ck_t (vin (N := 24) (show 4 * k + 1 < 24 by omega)), cl (j := 4 * k + 1), ck_t (vin (N := 24) (show 4 * k + 2 < 24 by omega)), cl (j := 4 * k + 2), ck_t (vin (N := 24) (show 4 * k + 3 < 24 by omega)), cl (j := 4 * k + 3), ck_t (vin (N := 6) (show k < 6 by omega)), cl (j := k)]) (ν, (0 : Int32)) ⟨nI_0.symm, fun i hi => by omega, fun c _ _ => rfl, rfl⟩
  have hz : z = nI q := hz
  subst hz
  have h1 : ∀ i, i < q → y.1 3 (4 * i) = nI (kc (pg (3 * i))) ∧ y.1 3 (4 * i + 1) = nI (pg (3 * i + 1) - 48) ∧ y.1 3 (4 * i + 2) = nI i ∧ y.1 3 (4 * i + 3) = 0 ∧ y.1 4 i = nI i := h1
  have h4 : ∀ c, c ≠ 3 → c ≠ 4 → y.1 c = ν.1 c := h4
  have h40 := h4 0 (by omega) (by omega)
  have c1 : nI q ≤ nI q := nI_le (by omega) (by omega)
  refine ⟨upM (upM (upM (upM (upM (upM (upM y 0 6 (nI q)) 0 7 (nI (pg (3 * q) - 48))) 0 8 0) 0 9 (-1)) 0 18 0) 0 10 (nI (rr + 1))) 0 1 0, ?_, ⟨fun i hi => ?_, fun i hi => absurd hi (Nat.not_lt_zero i)⟩, ⟨?_, ?_, ?_, ?_, ?_⟩, ?_, ?_, fun c a1 a2 a3 => ?_, fun k b1 b2 b3 b4 b5 b6 b7 => ?_, h5⟩
  · rw [h2]
    simp (disch := omega) only [b_X4_ring_24, g_X4_ring_103, nm, h40, r2, c1, ↓reduceIte, upM_1, up_k, up_s, hw, hc, nI_1]
  · simp (disch := omega) only [upM_1, up_c]
    have := h1 i hi
    exact ⟨this.1, this.2.1, this.2.2.2.1, this.2.2.2.2, this.2.2.1⟩
  · simp (disch := omega) only [upM_1, up_k, up_s]; rfl
  · simp (disch := omega) only [upM_1, up_k, up_s]; rfl
  · simp (disch := omega) only [upM_1, up_k, up_s]; rfl
  · simp (disch := omega) only [upM_1, up_k, up_s]; rfl
  · simp (disch := omega) only [upM_1, up_k, up_s]; rfl
  · simp (disch := omega) only [upM_1, up_k, up_s]; exact nI_0.symm
  · simp (disch := omega) only [upM_1, up_k, up_s]
  · simp (disch := omega) only [upM_1, up_c]; exact h4 c a2 a3
  · simp (disch := omega) only [upM_1, up_k]; rw [h40]
theorem st_ring {T : Nat} {μ : Mem} {ν : MM} (h : Rel T μ ν) : ∃ (μ' : Mem) (ν' : MM) (r : Int32), f_X3_ring μ = some (μ', r) ∧ f_X4_ring ν = some (ν', r) ∧ Rel (T + 1) μ' ν' := by
  obtain ⟨a, pn, pg, rr, sd, hO, hC, hM, hF, hG, hN, hK⟩ := id h
  have h22 := hG.1
  obtain ⟨k, ν1, e1, e2, e3, e4, e5⟩ := fault_e hG
  have e01 : ν1.1 0 1 = nI pn := by rw [e4.2.1 1 (by omega) (by omega) (by omega)]; exact hG.2.2.1
  have notw : (k < pn ∨ pn < 2 ∨ pg (pn - 2) ≠ 59) → (nI k < nI pn ∨ (¬ nI k < nI pn ∧ ¬ ν1.1 0 5 = 4)) → ∃ (μ' : Mem) (ν' : MM) (r : Int32), f_X3_ring μ = some (μ', r) ∧ f_X4_ring ν = some (ν', r) ∧ Rel (T + 1) μ' ν' := fun w1 w2 => by
    refine ⟨μ, ν1, -103, ?_, ?_, (h.scr2 e4.scr).mono (by omega)⟩
    · simp only [f_X3_ring, isWhole_f hG e1 e3 w1, bd, Option.bind_some, ↓reduceIte]
    · rcases w2 with w2 | ⟨w2, w3⟩
      · simp only [f_X4_ring, e2, bd2, Option.bind_some, e01, w2, ↓reduceIte]
      · simp only [f_X4_ring, e2, bd2, Option.bind_some, e01, w2, w3, ↓reduceIte]
  rcases Nat.lt_or_ge k pn with hlt | hge
  · exact notw (Or.inl hlt) (Or.inl (nI_lt hlt (by omega)))
  · have ek : k = pn := by omega
    subst ek
    have c1 : ¬ nI k < nI k := nI_nlt (by omega) (by omega)
    have d4 : ∀ j, j < 4 → ν1.1 0 5 = nI j → ¬ ν1.1 0 5 = 4 := fun j hj e => by
      rw [e]
      show ¬ nI j = nI 4
      rw [nI_eq (by omega) (by omega)]; omega
    obtain ⟨x, q, ⟨r1, r2, r3⟩, hS⟩ := e5 rfl
    rcases hS with ⟨-, s2, s3, s4, s5⟩ | ⟨-, s2, s3, s4, s5, s6, s7⟩ | ⟨-, s2, s4, s5⟩ | ⟨-, s2, s3, s4, s5, s6⟩ | ⟨-, s2, s3, s4, s5, s6, s7⟩
    · exact notw (by rcases Nat.lt_or_ge k 2 with g | g; exact Or.inr (Or.inl g); exact Or.inr (Or.inr (s5 _ (by omega)))) (Or.inr ⟨c1, d4 0 (by omega) s4⟩)
    · exact notw (by rcases Nat.lt_or_ge k 2 with g | g; exact Or.inr (Or.inl g); exact Or.inr (Or.inr (s7 _ (by omega)))) (Or.inr ⟨c1, d4 1 (by omega) s4⟩)
    · exact notw (by rcases Nat.lt_or_ge k 2 with g | g; exact Or.inr (Or.inl g); exact Or.inr (Or.inr (s5 _ (by omega)))) (Or.inr ⟨c1, d4 2 (by omega) s4⟩)
    · exact notw (Or.inr (Or.inr (s6 _ (by omega)))) (Or.inr ⟨c1, d4 3 (by omega) s4⟩)
    · have hw := isWhole_t hG e1 (by omega) s5
      have hk1 : k - 1 = 3 * q := by omega
      rw [hk1] at s6 s7
      have hG2 : PG μ ν.1 (3 * q + 1) pg := s2 ▸ hG
      obtain ⟨μ2, f1, f2, f3⟩ := startFrom_e hG2 r1 (fun i hi => ⟨(r3 i hi).1, (r3 i hi).2.1⟩) (by omega)
      have h10 : ν1.1 0 10 = nI rr := by rw [e4.2.1 10 (by omega) (by omega) (by omega)]; exact hN.2.2.1
      obtain ⟨ν2, g1, g2, g3, g4, g5, g6, g7, g8⟩ := mring_e r1 ⟨r1, r2, r3⟩ s7 h10
      have h04 : μ2 0 4 = nI rr := by rw [f3 0 (by omega)]; exact hN.2.1
      have hb : μ2 3 7 = nI q := f2.1.1
      refine ⟨up (up (up μ2 1 1 0) 0 3 0) 0 4 (nI (rr + 1)), ν2, nI q, ?_, ?_, told pg q, 0, pg, rr + 1, sd, ?_, f2.cong (by intros; simp (disch := omega) only [upM_1, up_c, up_k, up_s]), g2, g3, ?_, ?_, Or.inl ⟨?_, ?_⟩⟩
      · simp (disch := omega) only [f_X3_ring, f_X1_clear, hw, f1, bd, bd2, nm, Option.bind_some, i10, ↓reduceIte, up_c, up_k, h04, nI_1, hb]
      · simp only [f_X4_ring, e2, bd2, Option.bind_some, e01, c1, s4, ↓reduceIte, g1]
        rfl
      · refine ⟨Or.inr (show 3 ≤ q from s3), r1, fun i hi => ?_, fun i j _ _ e => e, ?_, (by omega : 0 ≤ 8), fun i hi => absurd hi (Nat.not_lt_zero i)⟩
        · have := r3 i hi
          exact ⟨this.1, by show pg (3 * i + 1) - 48 < 8; omega, hi⟩
        · show pg (3 * q) - 48 < 2
          omega
      · exact ⟨Nat.zero_le _, by simp (disch := omega) only [up_c, up_s]; exact nI_0.symm, g4, fun i hi => by omega⟩
      · refine ⟨by have := hN.1; omega, up_s, g5, hN.2.2.2.1, ?_, ?_⟩
        · simp (disch := omega) only [up_c, up_k]
          rw [f3 0 (by omega)]; exact hN.2.2.2.2.1
        · rw [g7 16 (by omega) (by omega) (by omega) (by omega) (by omega) (by omega) (by omega), e4.2.1 16 (by omega) (by omega) (by omega)]; exact hN.2.2.2.2.2
      · simp (disch := omega) only [up_k, up_s]
      · have e22 : ν2.1 0 22 = ν.1 0 22 := by rw [g7 22 (by omega) (by omega) (by omega) (by omega) (by omega) (by omega) (by omega), e4.2.1 22 (by omega) (by omega) (by omega)]
        rw [e22]
        rcases hK with ⟨-, z | ⟨j, hj, z⟩⟩ | ⟨-, z, -⟩
        · exact Or.inl z
        · exact Or.inr ⟨j, by omega, z⟩
        · exact Or.inr ⟨rr, by omega, z⟩
