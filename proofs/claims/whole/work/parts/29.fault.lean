/-! the first fault -/
def RD (pg : Nat → Nat) (ν : Mem) (q : Nat) : Prop := q ≤ 6 ∧ ν 0 3 = nI q ∧ ∀ i, i < q → kc (pg (3 * i)) < 5 ∧ 48 ≤ pg (3 * i + 1) ∧ pg (3 * i + 1) ≤ 55 ∧ ν 2 (2 * i) = nI (kc (pg (3 * i))) ∧ ν 2 (2 * i + 1) = nI (pg (3 * i + 1) - 48)
def ST (pg : Nat → Nat) (k : Nat) (x : Int32) (ν : Mem) : Prop := ∃ q, RD pg ν q ∧ (
  (x = -1 ∧ k = 3 * q ∧ q < 6 ∧ ν 0 5 = nI 0 ∧ ∀ i, i < k → pg i ≠ 59) ∨
  (x = -1 ∧ k = 3 * q + 1 ∧ q < 6 ∧ ν 0 5 = nI 1 ∧ kc (pg (3 * q)) < 5 ∧ ν 2 (2 * q) = nI (kc (pg (3 * q))) ∧ ∀ i, i < k → pg i ≠ 59) ∨
  (x = -1 ∧ k + 1 = 3 * q ∧ ν 0 5 = nI 2 ∧ ∀ i, i < k → pg i ≠ 59) ∨
  (x = nI (k - 1) ∧ k = 3 * q ∧ 3 ≤ q ∧ ν 0 5 = nI 3 ∧ pg (k - 1) = 59 ∧ ∀ i, i < k - 1 → pg i ≠ 59) ∨
  (x = nI (k - 2) ∧ k = 3 * q + 1 ∧ 3 ≤ q ∧ ν 0 5 = nI 4 ∧ pg (k - 2) = 59 ∧ (pg (k - 1) = 48 ∨ pg (k - 1) = 49) ∧ ν 0 4 = nI (pg (k - 1) - 48)))
def FR (ν ν' : MM) : Prop := (∀ c, c ≠ 0 → c ≠ 2 → ν'.1 c = ν.1 c) ∧ (∀ k, k ≠ 3 → k ≠ 4 → k ≠ 5 → ν'.1 0 k = ν.1 0 k) ∧ ν'.2 = ν.2
theorem FR.up0 {ν ν' : MM} (h : FR ν ν') {k : Nat} {x : Int32} (hk : k = 3 ∨ k = 4 ∨ k = 5) : FR ν (upM ν' 0 k x) := ⟨fun c h0 h2 => by rw [upM_1, up_c h0]; exact h.1 c h0 h2, fun j h3 h4 h5 => by rw [upM_1, up_k (by omega)]; exact h.2.1 j h3 h4 h5, h.2.2⟩
theorem FR.up2 {ν ν' : MM} (h : FR ν ν') {k : Nat} {x : Int32} : FR ν (upM ν' 2 k x) := ⟨fun c h0 h2 => by rw [upM_1, up_c h2]; exact h.1 c h0 h2, fun j h3 h4 h5 => by rw [upM_1, up_c (by omega)]; exact h.2.1 j h3 h4 h5, h.2.2⟩
theorem kc59 {c : Nat} (h : kc c < 5) : c ≠ 59 := by
  rintro rfl
  exact absurd h (by decide)
theorem fault_e {μ : Mem} {ν0 : MM} {pn : Nat} {pg : Nat → Nat} (hG : PG μ ν0.1 pn pg) : ∃ k ν', f_X1_firstFault μ = some (nI k) ∧ f_X4_faultOf ν0 = some (ν', nI k) ∧ k ≤ pn ∧ FR ν0 ν' ∧ (k = pn → ∃ x, ST pg pn x ν'.1) := by
  have h22 := hG.1
  obtain ⟨r, r', ⟨k, q1, q2, q3, q4, q5⟩, g1, g2⟩ := lpp (b1 := fun ih σ => b_X1_firstFault_4 μ ih σ.1 σ.2) (b2 := fun ih σ => b_X4_faultOf_12 ih σ.1 σ.2)
    (fun k (x : Int32 × Int32) (y : MM × Int32) => k ≤ pn ∧ x.2 = nI k ∧ y.2 = nI k ∧ FR ν0 y.1 ∧ ST pg k x.1 y.1.1)
    (fun (r : Int32) (r' : MM × Int32) => ∃ k, r = nI k ∧ r'.2 = nI k ∧ k ≤ pn ∧ FR ν0 r'.1 ∧ (k = pn → ∃ x, ST pg pn x r'.1.1)) pn (by omega) (fun k x y hR => by
    obtain ⟨x, xk⟩ := x
    obtain ⟨ν, yk⟩ := y
    obtain ⟨hk, hx, hy, hF, hS⟩ := hR
    have hx : xk = nI k := hx
    have hy : yk = nI k := hy
    subst hx
    subst hy
    have hF : FR ν0 ν := hF
    have hS : ST pg k x ν.1 := hS
    have e01 : ν.1 0 1 = nI pn := by rw [hF.2.1 1 (by omega) (by omega) (by omega)]; exact hG.2.2.1
    rcases Nat.lt_or_ge k pn with hlt | hge
    · have c1 : ¬ nI pn ≤ nI k := nI_ge hlt (by omega)
      have hk22 : k < 22 := by omega
      obtain ⟨p1, p2, p3, p4⟩ := hG.2.2.2 k hlt
      have p4 : ν.1 1 k = nI (pg k) := by rw [hF.1 1 (by omega) (by omega)]; exact p4
      obtain ⟨c, ec⟩ : ∃ c, c = pg k := ⟨_, rfl⟩
      rw [← ec] at p1 p2 p3 p4
      have e59 : (nI c = (59 : Int32)) = (c = 59) := propext (nI_eq (b := 59) (by omega) (by omega))
      obtain ⟨q, ⟨r1, r2, r3⟩, hS⟩ := hS
      have stopc : ∀ x, f_X1_fits μ (nI k) x = some 0 → ∀ ih, b_X1_firstFault_4 μ ih x (nI k) = some (nI k) := fun x e ih => by
        simp only [b_X1_firstFault_4, hG.2.1, c1, ↓reduceIte, e, bd, Option.bind_some]
      have goc : ∀ x, f_X1_fits μ (nI k) x = some 1 → ∀ ih, b_X1_firstFault_4 μ ih x (nI k) = ih (if c = 59 then nI k else x, nI (k + 1)) := fun x e ih => by
        simp only [b_X1_firstFault_4, g_X1_firstFault_36, hG.2.1, c1, ↓reduceIte, e, bd, Option.bind_some, i10, ck_t (vin (N := 22) hk22), cl (j := k), p3, e59, nI_1]
        split <;> rfl
      have stopm : ∀ ν', f_X4_go ν (nI c) = some (ν', 0) → ∀ ih, b_X4_faultOf_12 ih ν (nI k) = some (ν', nI k) := fun ν' e ih => by
        simp only [b_X4_faultOf_12, e01, c1, ↓reduceIte, ck_t (vin (N := 22) hk22), cl (j := k), p4, e, bd2, Option.bind_some]
      have gom : ∀ ν', f_X4_go ν (nI c) = some (ν', 1) → ∀ ih, b_X4_faultOf_12 ih ν (nI k) = ih (ν', nI (k + 1)) := fun ν' e ih => by
        simp only [b_X4_faultOf_12, e01, c1, ↓reduceIte, ck_t (vin (N := 22) hk22), cl (j := k), p4, e, bd2, Option.bind_some, i10, nI_1]
      have stop : ∀ x ν', f_X1_fits μ (nI k) x = some 0 → f_X4_go ν (nI c) = some (ν', 0) → FR ν0 ν' → ∃ (r : Int32) (r' : MM × Int32), (∃ k, r = nI k ∧ r'.2 = nI k ∧ k ≤ pn ∧ FR ν0 r'.1 ∧ (k = pn → ∃ x, ST pg pn x r'.1.1)) ∧ (∀ ih, b_X1_firstFault_4 μ ih x (nI k) = some r) ∧ (∀ ih, b_X4_faultOf_12 ih ν (nI k) = some r') := fun x ν' e1 e2 e3 =>
        ⟨nI k, (ν', nI k), ⟨k, rfl, rfl, by omega, e3, fun h => by omega⟩, stopc x e1, stopm ν' e2⟩
      have go : ∀ x ν', f_X1_fits μ (nI k) x = some 1 → f_X4_go ν (nI c) = some (ν', 1) → FR ν0 ν' → ST pg (k + 1) (if c = 59 then nI k else x) ν'.1 → ∃ (x' : Int32 × Int32) (y' : MM × Int32), (k + 1 ≤ pn ∧ x'.2 = nI (k + 1) ∧ y'.2 = nI (k + 1) ∧ FR ν0 y'.1 ∧ ST pg (k + 1) x'.1 y'.1.1) ∧ (∀ ih, b_X1_firstFault_4 μ ih x (nI k) = ih x') ∧ (∀ ih, b_X4_faultOf_12 ih ν (nI k) = ih y') := fun x ν' e1 e2 e3 e4 =>
        ⟨(if c = 59 then nI k else x, nI (k + 1)), (ν', nI (k + 1)), ⟨by omega, rfl, rfl, e3, e4⟩, goc x e1, gom ν' e2⟩
      rcases hS with ⟨rfl, s2, s3, s4, s5⟩ | ⟨rfl, s2, s3, s4, s5, s6, s7⟩ | ⟨rfl, s2, s4, s5⟩ | ⟨rfl, s2, s3, s4, s5, s6⟩ | ⟨rfl, s2, s3, s4, s5, s6, s7⟩
      · have f1 := fits_0 hk22 (by omega) p3 p2
        have f2 := go_0 s4 r2 s3 p2
        by_cases g : kc c < 5
        · rw [if_pos g] at f1 f2
          rw [if_pos g] at f2
          refine Or.inr ⟨hlt, go (-1) _ f1 f2 ((hF.up0 (by omega)).up2) ?_⟩
          have e3k : 3 * q = k := s2.symm
          rw [if_neg (kc59 g)]
          refine ⟨q, ⟨r1, by simp (disch := omega) only [upM_1, up_c, up_k]; exact r2, fun i hi => ?_⟩, Or.inr (Or.inl ⟨rfl, by omega, s3, by simp (disch := omega) only [upM_1, up_c, up_s], ?_, ?_, fun i hi => ?_⟩)⟩
          · simp (disch := omega) only [upM_1, up_c, up_k]; exact r3 i hi
          · rw [e3k, ← ec]; exact g
          · rw [e3k, ← ec, upM_1, up_s]
          · by_cases e : i = k
            · rw [e, ← ec]; exact kc59 g
            · exact s5 i (by omega)
        · rw [if_neg g] at f1 f2
          rw [if_neg g] at f2
          exact Or.inl (stop (-1) _ f1 f2 ((hF.up0 (by omega)).up2))
      · have f1 := fits_1 hk22 (by omega) p3 p2
        have f2 := go_1 s4 r2 s3 p2
        by_cases g : 48 ≤ c ∧ c ≤ 55
        · rw [if_pos g] at f1 f2
          refine Or.inr ⟨hlt, go (-1) _ f1 f2 (((hF.up0 (by omega)).up2).up0 (by omega)) ?_⟩
          have e3k : 3 * q + 1 = k := s2.symm
          have ew : nI c - 48 = nI (c - 48) := by show nI c - nI 48 = _; exact pk_sub g.1
          rw [if_neg (show ¬ c = 59 by omega)]
          refine ⟨q + 1, ⟨by omega, by rw [upM_1, up_s], fun i hi => ?_⟩, Or.inr (Or.inr (Or.inl ⟨rfl, by omega, by simp (disch := omega) only [upM_1, up_c, up_k, up_s], fun i hi => ?_⟩))⟩
          · by_cases e : i = q
            · subst e
              simp (disch := omega) only [upM_1, up_c, up_k, up_s]
              rw [e3k, ← ec]
              exact ⟨s5, g.1, g.2, s6, ew⟩
            · simp (disch := omega) only [upM_1, up_c, up_k]; exact r3 i (by omega)
          · by_cases e : i = k
            · rw [e, ← ec]; omega
            · exact s7 i (by omega)
        · rw [if_neg g] at f1 f2
          exact Or.inl (stop (-1) _ f1 f2 (((hF.up0 (by omega)).up2).up0 (by omega)))
      · have f1 := fits_2 hk22 (by omega) p3 p2
        have f2 := go_2 s4 r2 r1 p2
        rw [show (k + 1) / 3 = q by omega] at f1
        by_cases g : (c = 44 ∧ q < 6) ∨ (c = 59 ∧ 3 ≤ q)
        · rw [if_pos g] at f1 f2
          refine Or.inr ⟨hlt, go (-1) _ f1 f2 ((hF.up0 (by omega)).up0 (by omega)) ?_⟩
          have rd : RD pg (upM (upM ν 0 5 (nI 3)) 0 5 (if c = 44 then 0 else 3)).1 q := ⟨r1, by simp (disch := omega) only [upM_1, up_c, up_k]; exact r2, fun i hi => by simp (disch := omega) only [upM_1, up_c, up_k]; exact r3 i hi⟩
          rcases g with ⟨g, gq⟩ | ⟨g, gq⟩
          · rw [if_neg (show ¬ c = 59 by omega)]
            refine ⟨q, rd, Or.inl ⟨rfl, by omega, gq, ?_, fun i hi => ?_⟩⟩
            · rw [upM_1, up_s, if_pos g]; rfl
            · by_cases e : i = k
              · rw [e, ← ec]; omega
              · exact s5 i (by omega)
          · rw [if_pos g]
            refine ⟨q, rd, Or.inr (Or.inr (Or.inr (Or.inl ⟨rfl, by omega, gq, ?_, ?_, fun i hi => s5 i (by omega)⟩)))⟩
            · rw [upM_1, up_s, if_neg (by omega)]; rfl
            · show pg k = 59
              rw [← ec]; exact g
        · rw [if_neg g] at f1 f2
          exact Or.inl (stop (-1) _ f1 f2 ((hF.up0 (by omega)).up0 (by omega)))
      · have f1 := fits_e (e := k - 1) hk22 (by omega) p3 p2
        have f2 := go_3 s4 p2
        by_cases g : c = 48 ∨ c = 49
        · rw [if_pos ⟨by omega, g⟩] at f1
          rw [if_pos g] at f2
          refine Or.inr ⟨hlt, go _ _ f1 f2 ((hF.up0 (by omega)).up0 (by omega)) ?_⟩
          rw [if_neg (show ¬ c = 59 by omega)]
          have ew : nI c - 48 = nI (c - 48) := by show nI c - nI 48 = _; exact pk_sub (by omega)
          refine ⟨q, ⟨r1, by simp (disch := omega) only [upM_1, up_c, up_k]; exact r2, fun i hi => by simp (disch := omega) only [upM_1, up_c, up_k]; exact r3 i hi⟩, Or.inr (Or.inr (Or.inr (Or.inr ⟨?_, by omega, s3, ?_, ?_, ?_, ?_⟩)))⟩
          · rw [show k + 1 - 2 = k - 1 by omega]
          · simp (disch := omega) only [upM_1, up_c, up_k, up_s]
          · rw [show k + 1 - 2 = k - 1 by omega]; exact s5
          · rw [show k + 1 - 1 = k by omega, ← ec]; exact g
          · rw [show k + 1 - 1 = k by omega, ← ec, upM_1, up_s, ew]
        · rw [if_neg (fun h => g h.2)] at f1
          rw [if_neg g] at f2
          exact Or.inl (stop _ _ f1 f2 ((hF.up0 (by omega)).up0 (by omega)))
      · have f1 := fits_e (e := k - 2) hk22 (by omega) p3 p2
        have f2 := go_4 (c := c) s4
        rw [if_neg (by omega)] at f1
        exact Or.inl (stop _ _ f1 f2 ((hF.up0 (by omega)).up0 (by omega)))
    · have c1 : nI pn ≤ nI k := nI_le hge (by omega)
      have ek : k = pn := by omega
      refine Or.inl ⟨nI k, (ν, nI k), ⟨k, rfl, rfl, hk, hF, fun h => ⟨x, h ▸ hS⟩⟩, fun ih => ?_, fun ih => ?_⟩
      · simp only [b_X1_firstFault_4, g_X1_firstFault_42, hG.2.1, c1, ↓reduceIte, ek]
        rw [if_pos (nI_le (Nat.le_refl pn) (by omega))]
      · simp only [b_X4_faultOf_12, e01, c1, ↓reduceIte]) ((-1 : Int32), (0 : Int32)) (upM (upM ν0 0 3 0) 0 5 0, (0 : Int32)) ⟨Nat.zero_le _, nI_0.symm, nI_0.symm, FR.up0 (FR.up0 ⟨fun _ _ _ => rfl, fun _ _ _ _ => rfl, rfl⟩ (by omega)) (by omega), 0, ⟨by omega, by simp (disch := omega) only [upM_1, up_k, up_s]; exact nI_0.symm, fun i hi => by omega⟩, Or.inl ⟨rfl, rfl, by omega, by simp (disch := omega) only [upM_1, up_s]; exact nI_0.symm, fun i hi => by omega⟩⟩
  obtain ⟨ν', r'⟩ := r'
  have q2 : r' = nI k := q2
  subst q1
  subst q2
  refine ⟨k, ν', g1, ?_, q3, q4, q5⟩
  simp only [f_X4_faultOf, nm]
  exact g2
theorem FR.scr {μ : Mem} {ν ν' : MM} (h : FR ν ν') : SCR μ μ ν ν' := ⟨fun _ _ => rfl, fun c hc => h.1 c (by omega) (by omega), fun k h3 h4 h5 _ => h.2.1 k h3 h4 h5, h.2.2⟩
theorem st_fault {T : Nat} {μ : Mem} {ν : MM} (h : Rel T μ ν) : ∃ (ν' : MM) (r : Int32), f_X3_fault μ = some r ∧ f_X4_fault ν = some (ν', r) ∧ Rel (T + 1) μ ν' := by
  obtain ⟨a, pn, pg, rr, sd, hO, hC, hM, hF, hG, hN, hK⟩ := id h
  obtain ⟨k, ν', e1, e2, e3, e4, e5⟩ := fault_e hG
  refine ⟨ν', nI k, ?_, ?_, (h.scr2 e4.scr).mono (by omega)⟩
  · simp only [f_X3_fault, e1, bd, Option.bind_some]
  · simp only [f_X4_fault, e2, bd2, Option.bind_some]
