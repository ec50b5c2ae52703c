/-! two loops side by side -/
theorem lpp_n {σ τ ρ ρ' : Type} {b1 : (σ → Option ρ) → σ → Option ρ} {b2 : (τ → Option ρ') → τ → Option ρ'} (R : Nat → σ → τ → Prop) (Q : ρ → ρ' → Prop) (e : Nat) (hs : ∀ k x y, R k x y → (∃ r r', Q r r' ∧ (∀ ih, b1 ih x = some r) ∧ (∀ ih, b2 ih y = some r')) ∨ (k < e ∧ ∃ x' y', R (k + 1) x' y' ∧ (∀ ih, b1 ih x = ih x') ∧ (∀ ih, b2 ih y = ih y'))) : ∀ (n k : Nat) (x : σ) (y : τ), e - k < n → R k x y → ∃ r r', Q r r' ∧ lp b1 n x = some r ∧ lp b2 n y = some r' := by
  intro n
  induction n with
  | zero => intro k x y h; omega
  | succ n ih =>
    intro k x y hn hR
    rcases hs k x y hR with ⟨r, r', q, h1, h2⟩ | ⟨hk, x', y', hR', h1, h2⟩
    · exact ⟨r, r', q, by rw [lp_s, h1], by rw [lp_s, h2]⟩
    · obtain ⟨r, r', q, g1, g2⟩ := ih (k + 1) x' y' (by omega) hR'
      exact ⟨r, r', q, by rw [lp_s, h1]; exact g1, by rw [lp_s, h2]; exact g2⟩
theorem lpp {σ τ ρ ρ' : Type} {b1 : (σ → Option ρ) → σ → Option ρ} {b2 : (τ → Option ρ') → τ → Option ρ'} (R : Nat → σ → τ → Prop) (Q : ρ → ρ' → Prop) (e : Nat) (he : e < 100000) (hs : ∀ k x y, R k x y → (∃ r r', Q r r' ∧ (∀ ih, b1 ih x = some r) ∧ (∀ ih, b2 ih y = some r')) ∨ (k < e ∧ ∃ x' y', R (k + 1) x' y' ∧ (∀ ih, b1 ih x = ih x') ∧ (∀ ih, b2 ih y = ih y'))) (x : σ) (y : τ) (h0 : R 0 x y) : ∃ r r', Q r r' ∧ lp b1 fu x = some r ∧ lp b2 fu y = some r' :=
  lpp_n R Q e hs fu 0 x y (by rw [fu_e]; omega) h0
/-! endless -/
theorem fill23_e (μ : Mem) (v : Int32) : ∃ μ', f_J7_fill_53178_23 μ v = some μ' ∧ (∀ j, j < 48 → μ' 23 j = v) ∧ ∀ c, c ≠ 23 → μ' c = μ c := by
  unfold f_J7_fill_53178_23
  obtain ⟨⟨y, z⟩, m, ⟨hz, h1, h3⟩, h2⟩ := lp_fu (body := fun ih σ => b_J7_fill_53178_23_5 v 48 ih σ.1 σ.2) (fun k (x : Mem × Int32) => x.2 = nI k ∧ (∀ i, i < k → x.1 23 i = v) ∧ ∀ c, c ≠ 23 → x.1 c = μ c) 48 (by omega) (fun k x hk hx => by
    obtain ⟨x, z⟩ := x
    obtain ⟨hz, h1, h3⟩ := hx
    have hz : z = nI k := hz
    subst hz
    have c1 : ¬ (48 : Int32) ≤ nI k := by show ¬ nI 48 ≤ nI k; exact nI_ge hk (by omega)
    refine ⟨(up x 23 k v, nI (k + 1)), ⟨rfl, fun i hi => ?_, fun c hc => ?_⟩, fun ih => ?_⟩
    · show up x 23 k v 23 i = v
      by_cases e : i = k
      · rw [e, up_s]
      · rw [up_k e]; exact h1 i (by omega)
    · show up x 23 k v c = μ c
      rw [up_c hc]; exact h3 c hc
    · simp only [b_J7_fill_53178_23_5, nm, c1, ↓reduceIte, ck_t (vin (N := 48) hk), cl (j := k), nI_1]) (μ, (0 : Int32)) ⟨nI_0.symm, fun i hi => by omega, fun c _ => rfl⟩
  have hz : z = nI 48 := hz
  subst hz
  exact ⟨y, by rw [h2]; rfl, h1, h3⟩
def pm (f : Nat → Int32) : Nat → Bool := fun j => decide (f j ≠ -1)
theorem nI_nm1 {k : Nat} (h : k < 2 ^ 31) : nI k ≠ -1 := by
  rw [Ne, fa_eq, nI_toInt h]
  have : (-1 : Int32).toInt = -1 := by decide
  omega
theorem pm_up {μ : Mem} {j : Nat} {v : Int32} (hj : j < 48) (h0 : μ 23 j = -1) (hv : v ≠ -1) : fb_ct (pm (up μ 23 j v 23)) 48 = fb_ct (pm (μ 23)) 48 + 1 := by
  have h1 : fb_ct (pm (up μ 23 j v 23)) 48 = fb_ct (fun k => if k = j then true else pm (μ 23) k) 48 := fb_ct_cong (fun k hk => by
    by_cases e : k = j
    · rw [if_pos e, e]; unfold pm; rw [up_s]; exact decide_eq_true hv
    · rw [if_neg e]; unfold pm; rw [up_k e])
  have h2 := fb_ct_upd (pm (μ 23)) true hj
  have h3 : pm (μ 23) j = false := by unfold pm; rw [h0]; rfl
  rw [h3] at h2
  rw [h1]
  simpa using h2
theorem pm_lt {f : Nat → Int32} {j : Nat} (hj : j < 48) (h0 : f j = -1) : fb_ct (pm f) 48 < 48 := by
  have h1 := fb_ct_le (pm f) 48
  rcases Nat.lt_or_ge (fb_ct (pm f) 48) 48 with h | h
  · exact h
  · have h2 := fb_ct_all.mp (Nat.le_antisymm h1 h) j hj
    unfold pm at h2
    rw [h0] at h2
    exact absurd h2 (by decide)
theorem CK.cong {μ μ' : Mem} {n : Nat} {K T : Nat → Nat} {w : Nat} (h : CK μ n K T w) (e : ∀ c, c = 19 ∨ c = 20 ∨ c = 21 → μ' c = μ c) : CK μ' n K T w := by
  unfold CK at *
  rw [e 19 (by simp), e 20 (by simp), e 21 (by simp)]
  exact h
theorem MK.cong {ν ν' : Mem} {n : Nat} {K T : Nat → Nat} (h : MK ν n K T) (e : ∀ c, c = 5 ∨ c = 6 → ν' c = ν c) (e0 : ν' 0 6 = ν 0 6) : MK ν' n K T := by
  unfold MK at *
  rw [e 5 (by simp), e 6 (by simp), e0]
  exact h
theorem endless_go {μ0 : Mem} {ν0 : MM} {n : Nat} {K T : Nat → Nat} {w s0 m0 : Nat} {x3 : Int32} (hB : BK n K T w) (k1 : CK μ0 n K T w) (k2 : MK ν0.1 n K T) (k3 : ν0.1 0 7 = nI w) (hs : s0 < n) (hm : m0 < 8) (z1 : ∀ j, j < 48 → μ0 23 j = -1) (z2 : ∀ j, j < 48 → ν0.1 7 j = -1) : ∃ μ' ν' r, lp (fun ih σ => b_X3_sittingsOn_28 x3 ih σ.1 σ.2.1 σ.2.2.1 σ.2.2.2) fu (μ0, nI s0, nI m0, (0 : Int32)) = some (μ', r) ∧ lp (fun ih σ => b_X4_endless_70 x3 ih σ.1 σ.2.1 σ.2.2.1 σ.2.2.2) fu (ν0, nI s0, nI m0, (0 : Int32)) = some (ν', r) ∧ (∀ c, c ≠ 23 → μ' c = μ0 c) ∧ (∀ c, c ≠ 7 → ν'.1 c = ν0.1 c) ∧ ν'.2 = ν0.2 := by
  have h6 := hB.2.1
  have h0 := hB.1
  obtain ⟨r, r', ⟨q1, q2, q3, q4⟩, g1, g2⟩ := lpp (b1 := fun ih σ => b_X3_sittingsOn_28 x3 ih σ.1 σ.2.1 σ.2.2.1 σ.2.2.2) (b2 := fun ih σ => b_X4_endless_70 x3 ih σ.1 σ.2.1 σ.2.2.1 σ.2.2.2)
    (fun k (x : Mem × Int32 × Int32 × Int32) (y : MM × Int32 × Int32 × Int32) => ∃ s m, s < n ∧ m < 8 ∧ x.2 = (nI s, nI m, nI k) ∧ y.2 = (nI s, nI m, nI k) ∧ (∀ j, j < 48 → x.1 23 j = y.1.1 7 j) ∧ fb_ct (pm (x.1 23)) 48 = k ∧ (∀ c, c ≠ 23 → x.1 c = μ0 c) ∧ (∀ c, c ≠ 7 → y.1.1 c = ν0.1 c) ∧ y.1.2 = ν0.2)
    (fun (r : Mem × Int32) (r' : MM × Int32) => r.2 = r'.2 ∧ (∀ c, c ≠ 23 → r.1 c = μ0 c) ∧ (∀ c, c ≠ 7 → r'.1.1 c = ν0.1 c) ∧ r'.1.2 = ν0.2) 48 (by omega) (fun k x y hR => by
    obtain ⟨μ, x⟩ := x
    obtain ⟨ν, y⟩ := y
    obtain ⟨s, m, hs, hm, hx, hy, hj, hc, f1, f2, f3⟩ := hR
    have hx : x = (nI s, nI m, nI k) := hx
    have hy : y = (nI s, nI m, nI k) := hy
    subst hx
    subst hy
    have hj : ∀ j, j < 48 → μ 23 j = ν.1 7 j := hj
    have hc : fb_ct (pm (μ 23)) 48 = k := hc
    have f1 : ∀ c, c ≠ 23 → μ c = μ0 c := f1
    have f2 : ∀ c, c ≠ 7 → ν.1 c = ν0.1 c := f2
    have f3 : ν.2 = ν0.2 := f3
    have hk : k ≤ 48 := by rw [← hc]; exact fb_ct_le _ _
    have c0 : ¬ (48 : Int32) < nI k := by show ¬ nI 48 < nI k; exact nI_nlt (by omega) (by omega)
    have h48 : 8 * s + m < 48 := by omega
    by_cases e : μ 23 (8 * s + m) = -1
    · have hlt : k < 48 := by rw [← hc]; exact pm_lt h48 e
      have e' : ν.1 7 (8 * s + m) = -1 := by rw [← hj _ h48]; exact e
      have k1' : CK (up μ 23 (8 * s + m) (nI k)) n K T w := k1.cong (fun c hc => by rw [up_c (by omega)]; exact f1 c (by omega))
      have k2' : MK (upM ν 7 (8 * s + m) (nI k)).1 n K T := k2.cong (fun c hc => by rw [upM_1, up_c (by omega)]; exact f2 c (by omega)) (by rw [upM_1, up_c (by omega), f2 0 (by omega)])
      have k3' : (upM ν 7 (8 * s + m) (nI k)).1 0 7 = nI w := by rw [upM_1, up_c (by omega), f2 0 (by omega)]; exact k3
      have hr := CM_lt (s := s) hB hm
      by_cases q : CM n K T w s m = m
      · refine Or.inl ⟨(up μ 23 (8 * s + m) (nI k), if x3 = 2 then nI (k + 1) else -1), (upM ν 7 (8 * s + m) (nI k), if x3 = 2 then nI (k + 1) else -1), ⟨rfl, fun c hc => ?_, fun c hc => ?_, f3⟩, fun ih => ?_, fun ih => ?_⟩
        · show up μ 23 (8 * s + m) (nI k) c = μ0 c
          rw [up_c hc]; exact f1 c hc
        · show up ν.1 7 (8 * s + m) (nI k) c = ν0.1 c
          rw [up_c hc]; exact f2 c hc
        · simp only [b_X3_sittingsOn_28, g_X3_sittingsOn_102, c0, ↓reduceIte, nm, ix8', ck_t (vin (N := 48) h48), cl (j := 8 * s + m), e, outcome_e hB k1' hs hm, bd, Option.bind_some, q, nI_1]
          split <;> rfl
        · simp only [b_X4_endless_70, g_X4_endless_126, ↓reduceIte, nm, ix8, ck_t (vin (N := 48) h48), cl (j := 8 * s + m), e', k3', comesOf_e hB k2' hs hm, bd, Option.bind_some, q, nI_1]
          split <;> rfl
      · have d : (nI (CM n K T w s m) = nI m) = False := eq_false (by rw [nI_eq (by omega) (by omega)]; exact q)
        refine Or.inr ⟨hlt, (up μ 23 (8 * s + m) (nI k), nI ((s + 1) % n), nI (CM n K T w s m), nI (k + 1)), (upM ν 7 (8 * s + m) (nI k), nI ((s + 1) % n), nI (CM n K T w s m), nI (k + 1)), ⟨(s + 1) % n, CM n K T w s m, Nat.mod_lt _ h0, hr, rfl, rfl, fun j hj' => ?_, ?_, fun c hc => ?_, fun c hc => ?_, f3⟩, fun ih => ?_, fun ih => ?_⟩
        · show up μ 23 (8 * s + m) (nI k) 23 j = up ν.1 7 (8 * s + m) (nI k) 7 j
          by_cases q : j = 8 * s + m
          · rw [q, up_s, up_s]
          · rw [up_k q, up_k q]; exact hj j hj'
        · show fb_ct (pm (up μ 23 (8 * s + m) (nI k) 23)) 48 = k + 1
          rw [pm_up h48 e (nI_nm1 (by omega)), hc]
        · show up μ 23 (8 * s + m) (nI k) c = μ0 c
          rw [up_c hc]; exact f1 c hc
        · show up ν.1 7 (8 * s + m) (nI k) c = ν0.1 c
          rw [up_c hc]; exact f2 c hc
        · simp only [b_X3_sittingsOn_28, c0, ↓reduceIte, nm, ix8', ck_t (vin (N := 48) h48), cl (j := 8 * s + m), e, outcome_e hB k1' hs hm, bd, Option.bind_some, d, nI_1, leftOf_e k1'.1 h6 hs]
        · have hne : ¬ nI n = 0 := nI_ne0 h0 (by omega)
          have e2 : nI (s + 1) - nI (s + 1) / nI n * nI n = nI ((s + 1) % n) := pk_rem (by omega) h0 (by omega)
          simp only [b_X4_endless_70, ↓reduceIte, nm, ix8, ck_t (vin (N := 48) h48), cl (j := 8 * s + m), e', k3', comesOf_e hB k2' hs hm, bd, Option.bind_some, d, nI_1, k2'.1, ck_t hne, e2]
    · have e' : ¬ ν.1 7 (8 * s + m) = -1 := by rw [← hj _ h48]; exact e
      refine Or.inl ⟨(μ, if x3 = 0 then nI k else if x3 = 1 then nI k - μ 23 (8 * s + m) else -1), (ν, if x3 = 0 then nI k else if x3 = 1 then nI k - μ 23 (8 * s + m) else -1), ⟨rfl, f1, f2, f3⟩, fun ih => ?_, fun ih => ?_⟩
      · simp only [b_X3_sittingsOn_28, g_X3_sittingsOn_59, f_X3_roundsTold, c0, ↓reduceIte, nm, ix8', ck_t (vin (N := 48) h48), cl (j := 8 * s + m), e]
      · simp only [b_X4_endless_70, g_X4_endless_156, ↓reduceIte, nm, ix8, ck_t (vin (N := 48) h48), cl (j := 8 * s + m), e', hj _ h48]
        repeat' split
        all_goals rfl) (μ0, nI s0, nI m0, (0 : Int32)) (ν0, nI s0, nI m0, (0 : Int32)) ⟨s0, m0, hs, hm, by rw [nI_0], by rw [nI_0], fun j hj => by show μ0 23 j = ν0.1 7 j; rw [z1 j hj, z2 j hj], fb_ct_zero.mpr (fun k hk => by show decide (μ0 23 k ≠ -1) = false; rw [z1 k hk]; rfl), fun _ _ => rfl, fun _ _ => rfl, rfl⟩
  obtain ⟨μ', r⟩ := r
  obtain ⟨ν', r'⟩ := r'
  have q1 : r = r' := q1
  subst q1
  exact ⟨μ', ν', r, g1, g2, q2, q3, q4⟩
theorem in02 {x : Int32} (h : inb x 3) (μ : MM) : f_X4_in μ x.toInt64 0 2 = 1 ∧ ¬ x < 0 ∧ x ≤ 2 := by
  rw [inb_iff (by omega)] at h
  have e0 : (0 : Int32).toInt = 0 := by decide
  have e2 : (2 : Int32).toInt = 2 := by decide
  refine ⟨in_t ?_ ?_, ?_, ?_⟩
  · show (0 : Int) ≤ x.toInt; omega
  · show x.toInt ≤ 2; omega
  · rw [fa_lt, e0]; omega
  · rw [fa_le, e2]; omega
theorem out02 {x : Int32} (h : ¬ inb x 3) (μ : MM) : f_X4_in μ x.toInt64 0 2 = 0 ∧ (x < 0 ∨ (¬ x < 0 ∧ ¬ x ≤ 2)) := by
  rw [inb_iff (by omega)] at h
  have e0 : (0 : Int32).toInt = 0 := by decide
  have e2 : (2 : Int32).toInt = 2 := by decide
  refine ⟨in_f ?_, ?_⟩
  · rintro ⟨h1, h2⟩
    exact h ⟨h1, by have h2 : x.toInt ≤ 2 := h2; omega⟩
  · rw [fa_lt, fa_le, e0, e2]; omega
theorem st_endless {T : Nat} {μ : Mem} {ν : MM} {x1 x2 x3 : Int32} (h : Rel T μ ν) : ∃ (μ' : Mem) (ν' : MM) (r : Int32), f_X3_endless μ x1 x2 x3 = some (μ', r) ∧ f_X4_endless ν x1 x2 x3 = some (ν', r) ∧ Rel (T + 1) μ' ν' := by
  obtain ⟨a, pn, pg, rr, sd, hO, hC, hM, hF, hG, hN, hK⟩ := id h
  have h6 := hO.2.1
  by_cases hx : inb x1 (aN a)
  · obtain ⟨s, hs, rfl⟩ := hx
    by_cases hy : inb x2 8
    · obtain ⟨m, hm, rfl⟩ := hy
      by_cases hz : inb x3 3
      · obtain ⟨i1, i2, i3⟩ := in02 hz ν
        obtain ⟨μ1, ν1, e1, e2, hB, k1, k2, k3, k4, k5⟩ := sat_e hO hC hM hF (by omega)
        obtain ⟨μ2, e3, z1, z2⟩ := fill23_e μ1 (-1)
        obtain ⟨⟨y, z⟩, p, ⟨hz, h1, h3, h5⟩, h2⟩ := lp_fu (body := fun ih σ => b_X4_endless_40 (nI s) (nI m) x3 ih σ.1 σ.2) (fun k (x : MM × Int32) => x.2 = nI k ∧ (∀ i, i < k → x.1.1 7 i = -1) ∧ (∀ c, c ≠ 7 → x.1.1 c = ν1.1 c) ∧ x.1.2 = ν1.2) 48 (by omega) (fun k x hk hx => by
          obtain ⟨x, z⟩ := x
          obtain ⟨hz, h1, h3, h5⟩ := hx
          have hz : z = nI k := hz
          subst hz
          have c1 : ¬ (48 : Int32) ≤ nI k := by show ¬ nI 48 ≤ nI k; exact nI_ge hk (by omega)
          refine ⟨(upM x 7 k (-1), nI (k + 1)), ⟨rfl, fun i hi => ?_, fun c hc => ?_, h5⟩, fun ih => ?_⟩
          · show up x.1 7 k (-1) 7 i = -1
            by_cases e : i = k
            · rw [e, up_s]
            · rw [up_k e]; exact h1 i (by omega)
          · show up x.1 7 k (-1) c = ν1.1 c
            rw [up_c hc]; exact h3 c hc
          · simp only [b_X4_endless_40, nm, c1, ↓reduceIte, ck_t (vin (N := 48) hk), cl (j := k), nI_1]) (ν1, (0 : Int32)) ⟨nI_0.symm, fun i hi => by omega, fun c _ => rfl, rfl⟩
        have hz : z = nI 48 := hz
        subst hz
        have h3 : ∀ c, c ≠ 7 → y.1 c = ν1.1 c := h3
        have h5 : y.2 = ν1.2 := h5
        obtain ⟨μ', ν', r, g1, g2, g3, g4, g5⟩ := endless_go (μ0 := μ2) (ν0 := y) (x3 := x3) hB (k1.cong (fun c hc => z2 c (by omega))) (k2.cong (fun c hc => h3 c (by omega)) (by rw [h3 0 (by omega)])) (by rw [h3 0 (by omega)]; exact k3) hs hm z1 h1
        refine ⟨μ', ν', r, ?_, ?_, (h.scr2 (k5.trans ⟨fun c hc => by rw [g3 c (by omega), z2 c (by omega)], fun c hc => by rw [g4 c (by omega), h3 c (by omega)], fun k _ _ _ _ => by rw [g4 0 (by omega), h3 0 (by omega)], by rw [g5, h5]⟩)).mono (by omega)⟩
        · simp only [f_X3_endless, f_X3_sittingsOn, nm, isPlace_t hC.1.1 h6 hs, isWord_t hm, i10, ↓reduceIte, i2, i3, e1, e3, bd, bd2, Option.bind_some, g1]
        · have c2 : (48 : Int32) ≤ nI 48 := by decide
          simp only [f_X4_endless, nm, mRook_t hF.1 h6 hs, mWord_t hm, i10, ↓reduceIte, i1, e2, bd, Option.bind_some]
          rw [h2]
          simp only [b_X4_endless_40, c2, ↓reduceIte, g_X4_endless_61, g2]
      · obtain ⟨i1, i2⟩ := out02 hz ν
        refine ⟨μ, ν, -102, ?_, ?_, h.mono (by omega)⟩
        · rcases i2 with i2 | ⟨i2, i3⟩
          · simp only [f_X3_endless, nm, isPlace_t hC.1.1 h6 hs, isWord_t hm, i10, ↓reduceIte, i2]
          · simp only [f_X3_endless, nm, isPlace_t hC.1.1 h6 hs, isWord_t hm, i10, ↓reduceIte, i2, i3]
        · simp only [f_X4_endless, nm, mRook_t hF.1 h6 hs, mWord_t hm, i10, ↓reduceIte, i1]
    · refine ⟨μ, ν, -102, ?_, ?_, h.mono (by omega)⟩
      · simp only [f_X3_endless, nm, isPlace_t hC.1.1 h6 hs, isWord_f hy, i10, ↓reduceIte]
      · simp only [f_X4_endless, nm, mRook_t hF.1 h6 hs, mWord_f hy, i10, ↓reduceIte]
  · refine ⟨μ, ν, -101, ?_, ?_, h.mono (by omega)⟩
    · simp only [f_X3_endless, nm, isPlace_f hC.1.1 h6 hx, ↓reduceIte]
    · simp only [f_X4_endless, nm, mRook_f hF.1 h6 hx, ↓reduceIte]
