/-! digest, whole -/
theorem Rel.hash {T : Nat} {μ : Mem} {ν : MM} (h : Rel T μ ν) (x : Int64) : Rel T μ (ν.1, x) := h.scr (fun _ _ => rfl) (fun _ _ => rfl) (fun _ _ _ _ _ => rfl)
noncomputable def D1 (μ : Mem) : Nat → Int64
  | 0 => 797
  | i + 1 => Rk μ i (D1 μ i) 18
noncomputable def E2 (a : AS) (h : Int64) : Nat → Int64
  | 0 => h
  | i + 1 => D2 a i (E2 a h i)
def P3 (pg : Nat → Nat) (h : Int64) : Nat → Int64
  | 0 => h
  | k + 1 => hx (P3 pg h k) (nI (pg k))
noncomputable def Uc (μ : Mem) (x : Int32) : Int32 := (f_X3_count μ x).getD 0
noncomputable def C3 (μ : Mem) (h : Int64) : Nat → Int64
  | 0 => h
  | k + 1 => hx (C3 μ h k) (Uc μ (nI k))
theorem Uc_e {T : Nat} {μ : Mem} {ν : Mem} {h0 : Int64} (hR : Rel T μ (ν, h0)) (x : Int32) : f_X3_count μ x = some (Uc μ x) ∧ ∀ h, f_X4_countOf (ν, h) x = some (Uc μ x) := by
  obtain ⟨r, e1, -⟩ := count_e hR x
  have ev : Uc μ x = r := by unfold Uc; rw [e1]; rfl
  refine ⟨by rw [ev]; exact e1, fun h => ?_⟩
  have hR' : Rel T μ (ν, h) := hR.hash h
  obtain ⟨r', e3, e4⟩ := count_e hR' x
  rw [e1] at e3
  rw [ev, e4, e3]
theorem tail_e {T : Nat} {μ : Mem} {ν : Mem} {h0 : Int64} (hR : Rel T μ (ν, h0)) (h : Int64) : ∃ H, g_X3_digest_73 μ h = some (μ, H) ∧ g_X4_digest_96 (ν, h) = some ((ν, H), H) := by
  obtain ⟨a, pn, pg, rr, sd, hO, hC, hM, hF, hG, hN, hK⟩ := id hR
  have hG : PG μ ν pn pg := hG
  have h22 := hG.1
  refine ⟨C3 μ (P3 pg h pn) 9, ?_, ?_⟩
  · unfold g_X3_digest_73
    obtain ⟨y, m, rfl, h2⟩ := lp_fu (body := fun ih σ => b_X3_digest_75 μ ih σ.1 σ.2) (fun k x => x = (P3 pg h k, nI k)) pn (by omega) (fun k x hk hx' => by
      subst hx'
      refine ⟨_, rfl, fun ih => ?_⟩
      have c1 : ¬ nI pn ≤ nI k := nI_ge (by omega) (by omega)
      simp only [b_X3_digest_75, f_X3_mix, nm, hG.2.1, c1, ↓reduceIte, ck_t (vin (N := 22) (show k < 22 by omega)), cl (j := k), (hG.2.2.2 k hk).2.2.1, nI_1, P3, hx]) (h, (0 : Int32)) (by rw [nI_0]; rfl)
    rw [h2]
    have c1 : nI pn ≤ nI pn := nI_le (by omega) (by omega)
    simp only [b_X3_digest_75, g_X3_digest_107, hG.2.1, c1, ↓reduceIte]
    obtain ⟨y, m, rfl, h3⟩ := lp_fu (body := fun ih σ => b_X3_digest_109 μ ih σ.1 σ.2) (fun k x => x = (C3 μ (P3 pg h pn) k, nI k)) 9 (by omega) (fun k x hk hx' => by
      subst hx'
      refine ⟨_, rfl, fun ih => ?_⟩
      have c1 : ¬ (8 : Int32) < nI k := by show ¬ nI 8 < nI k; exact nI_nlt (by omega) (by omega)
      simp only [b_X3_digest_109, f_X3_mix, nm, c1, ↓reduceIte, (Uc_e hR (nI k)).1, bd, Option.bind_some, nI_1, C3, hx]) (P3 pg h pn, (0 : Int32)) (by rw [nI_0]; rfl)
    rw [h3]
    have c2 : (8 : Int32) < nI 9 := by decide
    simp only [b_X3_digest_109, c2, ↓reduceIte]
  · unfold g_X4_digest_96
    obtain ⟨y, m, rfl, h2⟩ := lp_fu (body := fun ih (σ : MM × Int32) => b_X4_digest_98 ih σ.1 σ.2) (fun k x => x = ((ν, P3 pg h k), nI k)) pn (by omega) (fun k x hk hx' => by
      subst hx'
      refine ⟨_, rfl, fun ih => ?_⟩
      have c1 : ¬ nI pn ≤ nI k := nI_ge (by omega) (by omega)
      simp only [b_X4_digest_98, f_X4_say, nm, hG.2.2.1, c1, ↓reduceIte, ck_t (vin (N := 22) (show k < 22 by omega)), cl (j := k), (hG.2.2.2 k hk).2.2.2, bd, Option.bind_some, nI_1, P3, hx]) ((ν, h), (0 : Int32)) (by rw [nI_0]; rfl)
    rw [h2]
    have c1 : nI pn ≤ nI pn := nI_le (by omega) (by omega)
    simp only [b_X4_digest_98, g_X4_digest_123, hG.2.2.1, c1, ↓reduceIte]
    obtain ⟨y, m, rfl, h3⟩ := lp_fu (body := fun ih (σ : MM × Int32) => b_X4_digest_125 ih σ.1 σ.2) (fun k x => x = ((ν, C3 μ (P3 pg h pn) k), nI k)) 9 (by omega) (fun k x hk hx' => by
      subst hx'
      refine ⟨_, rfl, fun ih => ?_⟩
      have c1 : ¬ (9 : Int32) ≤ nI k := by show ¬ nI 9 ≤ nI k; exact nI_ge (by omega) (by omega)
      simp only [b_X4_digest_125, f_X4_say, nm, c1, ↓reduceIte, (Uc_e hR (nI k)).2, bd, Option.bind_some, nI_1, C3, hx]) ((ν, P3 pg h pn), (0 : Int32)) (by rw [nI_0]; rfl)
    rw [h3]
    have c2 : (9 : Int32) ≤ nI 9 := by decide
    simp only [b_X4_digest_125, g_X4_digest_147, c2, ↓reduceIte]
theorem dg_a1 {μ : Mem} {ν : MM} {a : AS} (hO : OKS a) (hC : CS μ 3 4 5 6 7 8 9 10 a) (hM : MS ν.1 3 4 9 a) (hF : MF ν.1 a) : f_X3_digest μ = g_X3_digest_30 μ (D1 μ (aN a)) := by
  have h6 := hO.2.1
  have c1 : nI (aN a) ≤ nI (aN a) := nI_le (by omega) (by omega)
  unfold f_X3_digest
  obtain ⟨y, m, rfl, h2⟩ := lp_fu (body := fun ih σ => b_X3_digest_6 μ ih σ.1 σ.2) (fun k x => x = (D1 μ k, nI k)) (aN a) (by omega) (fun k x hk hx' => by
    subst hx'
    refine ⟨_, rfl, fun ih => ?_⟩
    have c1 : ¬ nI (aN a) ≤ nI k := nI_ge (by omega) (by omega)
    simp only [b_X3_digest_6, hC.1.1, c1, ↓reduceIte, withRook_e hO hC hM hF hk (D1 μ k), bd, Option.bind_some, nI_1, D1]) ((797 : Int64), (0 : Int32)) (by rw [nI_0, D1])
  rw [h2]
  simp only [b_X3_digest_6, hC.1.1, c1, ↓reduceIte]
theorem dg_b1 {μ : Mem} {ν : MM} {a : AS} (hO : OKS a) (hC : CS μ 3 4 5 6 7 8 9 10 a) (hM : MS ν.1 3 4 9 a) (hF : MF ν.1 a) : f_X4_digest ν = g_X4_digest_59 (ν.1, D1 μ (aN a)) := by
  have h6 := hO.2.1
  have c1 : nI (aN a) ≤ nI (aN a) := nI_le (by omega) (by omega)
  unfold f_X4_digest nm
  dsimp only
  obtain ⟨y, m, rfl, h2⟩ := lp_fu (body := fun ih (σ : MM × Int32) => b_X4_digest_9 ih σ.1 σ.2) (fun k x => x = ((ν.1, D1 μ k), nI k)) (aN a) (by omega) (fun k x hk hx' => by
    subst hx'
    refine ⟨_, rfl, fun ih => ?_⟩
    have c1 : ¬ nI (aN a) ≤ nI k := nI_ge (by omega) (by omega)
    simp only [b_X4_digest_9, hF.1, c1, ↓reduceIte, mrook_e hO hC hM hF hk (D1 μ k), D1]) ((ν.1, (797 : Int64)), (0 : Int32)) (by rw [nI_0, D1])
  rw [h2]
  simp only [b_X4_digest_9, hF.1, c1, ↓reduceIte]
theorem dg_a2 {μ : Mem} {ν : MM} {a : AS} (hO : OKS a) (hC : CS μ 3 4 5 6 7 8 9 10 a) (hM : MS ν.1 3 4 9 a) (hF : MF ν.1 a) : ∃ μ1, g_X3_digest_30 μ (D1 μ (aN a)) = g_X3_digest_56 μ1 (E2 a (D1 μ (aN a)) (aN a)) ∧ ∀ c, c < 19 → μ1 c = μ c := by
  have h6 := hO.2.1
  have c1 : nI (aN a) ≤ nI (aN a) := nI_le (by omega) (by omega)
  unfold g_X3_digest_30
  obtain ⟨⟨y, z⟩, m, ⟨h1, h3⟩, h2⟩ := lp_fu (body := fun ih σ => b_X3_digest_32 ih σ.1 σ.2.1 σ.2.2) (fun k (x : Mem × Int64 × Int32) => x.2 = (E2 a (D1 μ (aN a)) k, nI k) ∧ ∀ c, c < 19 → x.1 c = μ c) (aN a) (by omega) (fun k x hk hx' => by
    obtain ⟨x, z⟩ := x
    obtain ⟨hz, h4⟩ := hx'
    have hz : z = (E2 a (D1 μ (aN a)) k, nI k) := hz
    subst hz
    have h4 : ∀ c, c < 19 → x c = μ c := h4
    have hC' : CS x 3 4 5 6 7 8 9 10 a := hC.cong (fun c hc => h4 c (by omega))
    obtain ⟨x', e1, g1⟩ := withPlace_e hO hC' hk (E2 a (D1 μ (aN a)) k)
    have c1 : ¬ nI (aN a) ≤ nI k := nI_ge (by omega) (by omega)
    refine ⟨(x', E2 a (D1 μ (aN a)) (k + 1), nI (k + 1)), ⟨rfl, fun c hc => by show x' c = μ c; rw [g1 c hc]; exact h4 c hc⟩, fun ih => ?_⟩
    simp only [b_X3_digest_32, hC'.1.1, c1, ↓reduceIte, e1, bd2, Option.bind_some, nI_1, E2]) (μ, D1 μ (aN a), (0 : Int32)) ⟨by rw [nI_0]; rfl, fun c _ => rfl⟩
  have h1 : z = (E2 a (D1 μ (aN a)) (aN a), nI (aN a)) := h1
  subst h1
  have h3 : ∀ c, c < 19 → y c = μ c := h3
  refine ⟨y, ?_, h3⟩
  have e37 : y 3 7 = nI (aN a) := by rw [h3 3 (by omega)]; exact hC.1.1
  rw [h2]
  simp only [b_X3_digest_32, e37, c1, ↓reduceIte]
theorem dg_b2 {μ : Mem} {ν : MM} {a : AS} (hO : OKS a) (hC : CS μ 3 4 5 6 7 8 9 10 a) (hM : MS ν.1 3 4 9 a) (hF : MF ν.1 a) : ∃ ν1 : MM, g_X4_digest_59 (ν.1, D1 μ (aN a)) = g_X4_digest_80 ν1 ∧ ν1.2 = E2 a (D1 μ (aN a)) (aN a) ∧ ∀ c, c ≠ 5 → c ≠ 6 → c ≠ 10 → ν1.1 c = ν.1 c := by
  have h6 := hO.2.1
  have c1 : nI (aN a) ≤ nI (aN a) := nI_le (by omega) (by omega)
  unfold g_X4_digest_59
  obtain ⟨⟨y, z⟩, m, ⟨h1, h3, h4⟩, h2⟩ := lp_fu (body := fun ih (σ : MM × Int32) => b_X4_digest_61 ih σ.1 σ.2) (fun k (x : MM × Int32) => x.2 = nI k ∧ x.1.2 = E2 a (D1 μ (aN a)) k ∧ ∀ c, c ≠ 5 → c ≠ 6 → c ≠ 10 → x.1.1 c = ν.1 c) (aN a) (by omega) (fun k x hk hx' => by
    obtain ⟨x, z⟩ := x
    obtain ⟨hz, h3, h4⟩ := hx'
    have hz : z = nI k := hz
    subst hz
    have h3 : x.2 = E2 a (D1 μ (aN a)) k := h3
    have h4 : ∀ c, c ≠ 5 → c ≠ 6 → c ≠ 10 → x.1 c = ν.1 c := h4
    have hM' : MS x.1 3 4 9 a := hM.cong (fun c hc => h4 c (by omega) (by omega) (by omega))
    have hF' : MF x.1 a := hF.cong (by intros; rw [h4 0 (by omega) (by omega) (by omega)])
    obtain ⟨x', e1, e2, g1⟩ := saySeat_e hO hM' hF' hk
    have c1 : ¬ nI (aN a) ≤ nI k := nI_ge (by omega) (by omega)
    refine ⟨(x', nI (k + 1)), ⟨rfl, by show x'.2 = _; rw [e2, h3, E2], fun c p1 p2 p3 => by show x'.1 c = ν.1 c; rw [g1 c p1 p2 p3]; exact h4 c p1 p2 p3⟩, fun ih => ?_⟩
    simp only [b_X4_digest_61, hF'.1, c1, ↓reduceIte, e1, bd, Option.bind_some, nI_1]) ((ν.1, D1 μ (aN a)), (0 : Int32)) ⟨nI_0.symm, rfl, fun c _ _ _ => rfl⟩
  have h1 : z = nI (aN a) := h1
  subst h1
  have h4 : ∀ c, c ≠ 5 → c ≠ 6 → c ≠ 10 → y.1 c = ν.1 c := h4
  refine ⟨y, ?_, h3, h4⟩
  have e06 : y.1 0 6 = nI (aN a) := by rw [h4 0 (by omega) (by omega) (by omega)]; exact hF.1
  rw [h2]
  simp only [b_X4_digest_61, e06, c1, ↓reduceIte]
theorem dg_q {μ1 μ2 : Mem} {n : Nat} {H0 : Int64} {r : Int32} (h : μ1 3 7 = nI n) (h0 : 0 < n) (h6 : n ≤ 6) (e1 : f_X3_can μ1 = some (μ2, r)) : g_X3_digest_56 μ1 H0 = g_X3_digest_73 μ2 (f_X3_mix μ2 H0 r.toInt64) := by
  have hr := hasRing_t h h0 h6
  unfold g_X3_digest_56 nm
  dsimp only
  rw [hr, if_neg (by decide), e1]
  unfold bd2
  rw [Option.bind_some]
theorem st_digest {T : Nat} {μ : Mem} {ν : MM} (h : Rel T μ ν) : ∃ (μ' : Mem) (ν' : MM) (r : Int64), f_X3_digest μ = some (μ', r) ∧ f_X4_digest ν = some (ν', r) ∧ Rel (T + 1) μ' ν' := by
  obtain ⟨a, pn, pg, rr, sd, hO, hC, hM, hF, hG, hN, hK⟩ := id h
  have h6 := hO.2.1
  have a1 := dg_a1 hO hC hM hF
  have b1 := dg_b1 hO hC hM hF
  obtain ⟨μ1, a2, f1⟩ := dg_a2 hO hC hM hF
  obtain ⟨ν1, b2, f2, f3⟩ := dg_b2 hO hC hM hF
  have hR1 : Rel T μ1 ν1 := h.scr f1 (fun c hc => f3 c (by omega) (by omega) (by omega)) (fun k _ _ _ _ => by rw [f3 0 (by omega) (by omega) (by omega)])
  have hC1 : CS μ1 3 4 5 6 7 8 9 10 a := hC.cong (fun c hc => f1 c (by omega))
  have hM1 : MS ν1.1 3 4 9 a := hM.cong (fun c hc => f3 c (by omega) (by omega) (by omega))
  have hF1 : MF ν1.1 a := hF.cong (by intros; rw [f3 0 (by omega) (by omega) (by omega)])
  obtain ⟨H0, eH⟩ : ∃ H, H = E2 a (D1 μ (aN a)) (aN a) := ⟨_, rfl⟩
  rw [← eH] at a2 f2
  rcases Nat.eq_zero_or_pos (aN a) with h0 | h0
  · have hR1' : Rel T μ1 (ν1.1, (0 : Int64)) := hR1.hash 0
    obtain ⟨H, t1, t2⟩ := tail_e hR1' H0
    refine ⟨μ1, (ν1.1, H), H, ?_, ?_, (hR1.hash H).mono (by omega)⟩
    · rw [a1, a2]
      simp only [g_X3_digest_56, nm, hasRing_f (h0 ▸ hC1.1.1), ↓reduceIte, t1]
    · have ev : ν1 = (ν1.1, H0) := by rw [← f2]
      rw [b1, b2]
      simp only [g_X4_digest_80, nm, lacks_t (h0 ▸ hF1.1), i10, ↓reduceIte]
      rw [ev, t2]
  · obtain ⟨μ2, ν2, r, e1, e2, e3⟩ := can_e hO hC1 hM1 hF1 h0
    have hR2 : Rel T μ2 ν2 := hR1.scr2 e3
    have hR2' : Rel T μ2 (ν2.1, (0 : Int64)) := hR2.hash 0
    obtain ⟨H, t1, t2⟩ := tail_e hR2' (f_X3_mix μ2 H0 r.toInt64)
    have t2 : g_X4_digest_96 (ν2.1, 31 * H0 + r.toInt64) = some ((ν2.1, H), H) := by
      have q := t2
      unfold f_X3_mix at q
      exact q
    refine ⟨μ2, (ν2.1, H), H, ?_, ?_, (hR2.hash H).mono (by omega)⟩
    · have q := dg_q (H0 := H0) hC1.1.1 h0 h6 e1
      rw [a1, a2, q, t1]
    · have ev : ν2.2 = H0 := by rw [e3.2.2.2, f2]
      rw [b1, b2]
      simp only [g_X4_digest_80, f_X4_say, nm, lacks_f hF1.1 h0 h6, ↓reduceIte, e2, bd, bd2, Option.bind_some, ev, t2]
