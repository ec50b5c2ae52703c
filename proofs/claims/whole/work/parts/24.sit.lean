/-! SITTINGS: what comes of a motion -/
def itr (f : Nat → Nat) (x : Nat) : Nat → Nat
  | 0 => x
  | k + 1 => f (itr f x k)
theorem itr_lt {f : Nat → Nat} {x : Nat} (hx : x < 8) (hf : ∀ y, y < 8 → f y < 8) : ∀ k, itr f x k < 8
  | 0 => hx
  | k + 1 => hf _ (itr_lt hx hf k)
/-- word and times behind the k-th that hears -/
def cr (n : Nat) (K T : Nat → Nat) (w s m : Nat) : Nat → Nat × Nat
  | 0 => (m, 1)
  | k + 1 => if K ((s + (k + 1)) % n) = 3 then ((cr n K T w s m k).1, (cr n K T w s m k).2 * 2) else (itr (mk (K ((s + (k + 1)) % n)) (T ((s + (k + 1)) % n)) w) (cr n K T w s m k).1 (cr n K T w s m k).2, 1)
def CM (n : Nat) (K T : Nat → Nat) (w s m : Nat) : Nat := (cr n K T w s m n).1
def BK (n : Nat) (K T : Nat → Nat) (w : Nat) : Prop := 0 < n ∧ n ≤ 6 ∧ (∀ i, i < n → K i < 5 ∧ T i < 8) ∧ w < 2
def CK (μ : Mem) (n : Nat) (K T : Nat → Nat) (w : Nat) : Prop := μ 19 2 = nI n ∧ μ 19 3 = nI w ∧ ∀ i, i < n → μ 20 i = nI (K i) ∧ μ 21 i = nI (T i)
def MK (ν : Mem) (n : Nat) (K T : Nat → Nat) : Prop := ν 0 6 = nI n ∧ ∀ i, i < n → ν 5 i = nI (K i) ∧ ν 6 i = nI (T i)
theorem cr_b {n : Nat} {K T : Nat → Nat} {w s m : Nat} (hB : BK n K T w) (hm : m < 8) : ∀ k, (cr n K T w s m k).1 < 8 ∧ 1 ≤ (cr n K T w s m k).2 ∧ (cr n K T w s m k).2 ≤ 2 ^ k := by
  intro k
  induction k with
  | zero => exact ⟨hm, Nat.le_refl 1, Nat.le_refl 1⟩
  | succ k ih =>
    have hh : (s + (k + 1)) % n < n := Nat.mod_lt _ hB.1
    have hp : 2 ^ (k + 1) = 2 ^ k * 2 := Nat.pow_succ 2 k
    have h1 : 1 ≤ 2 ^ k := Nat.one_le_two_pow
    rw [cr]
    split
    · exact ⟨ih.1, by show 1 ≤ (cr n K T w s m k).2 * 2; omega, by show (cr n K T w s m k).2 * 2 ≤ 2 ^ (k + 1); omega⟩
    · exact ⟨itr_lt ih.1 (fun y hy => mk_lt _ (hB.2.2.1 _ hh).1 _ (hB.2.2.1 _ hh).2 _ hB.2.2.2 _ hy) _, Nat.le_refl 1, by show 1 ≤ 2 ^ (k + 1); omega⟩
theorem CM_lt {n : Nat} {K T : Nat → Nat} {w s m : Nat} (hB : BK n K T w) (hm : m < 8) : CM n K T w s m < 8 := (cr_b hB hm n).1
theorem pow_le6 {k : Nat} (h : k ≤ 6) : 2 ^ k ≤ 64 := by
  rcases (show k = 0 ∨ k = 1 ∨ k = 2 ∨ k = 3 ∨ k = 4 ∨ k = 5 ∨ k = 6 by omega) with rfl | rfl | rfl | rfl | rfl | rfl | rfl <;> decide
theorem d33 : (nI 3 = (3 : Int32)) = True := eq_true (by decide)
/-! the class -/
theorem madeOften_e {μ : Mem} {n : Nat} {K T : Nat → Nat} {w h wd t : Nat} (hB : BK n K T w) (hC : CK μ n K T w) (hh : h < n) (hw : wd < 8) (ht : t ≤ 64) : f_X0_madeOften μ (nI h) (nI wd) (nI t) = some (nI (itr (mk (K h) (T h) w) wd t)) := by
  have b := hB.2.2.1 h hh
  have h6 := hB.2.1
  unfold f_X0_madeOften
  obtain ⟨y, m, rfl, h2⟩ := lp_fu (body := fun ih σ => b_X0_madeOften_6 μ (nI h) (nI t) ih σ.1 σ.2) (fun k x => x = (nI (itr (mk (K h) (T h) w) wd k), nI k)) t (by omega) (fun k x hk hx => by
    subst hx
    refine ⟨_, rfl, fun ih => ?_⟩
    have c1 : ¬ nI t ≤ nI k := nI_ge (by omega) (by omega)
    have hi : itr (mk (K h) (T h) w) wd k < 8 := itr_lt hw (fun y hy => mk_lt _ b.1 _ b.2 _ hB.2.2.2 _ hy) k
    simp only [b_X0_madeOften_6, nm, c1, ↓reduceIte, ck_t (vin (N := 6) (show h < 6 by omega)), cl (j := h), (hC.2.2 h hh).1, (hC.2.2 h hh).2, hC.2.1, made_e b.1 b.2 hB.2.2.2 hi, nI_1, itr]) (nI wd, (0 : Int32)) (by rw [nI_0]; rfl)
  rw [h2]
  have c1 : nI t ≤ nI t := nI_le (by omega) (by omega)
  simp only [b_X0_madeOften_6, c1, ↓reduceIte]
theorem leftOf_e {μ : Mem} {n p : Nat} (h : μ 19 2 = nI n) (hn : n ≤ 6) (hp : p < n) : f_X0_leftOf μ (nI p) = nI ((p + 1) % n) := by
  unfold f_X0_leftOf
  rw [h, nI_1]
  by_cases e : p + 1 = n
  · rw [if_pos (nI_le (by omega) (by omega)), e, Nat.mod_self, nI_0]
  · rw [if_neg (nI_ge (by omega) (by omega)), Nat.mod_eq_of_lt (by omega)]
theorem outcome_e {μ : Mem} {n : Nat} {K T : Nat → Nat} {w s m : Nat} (hB : BK n K T w) (hC : CK μ n K T w) (hs : s < n) (hm : m < 8) : f_X0_outcome μ (nI s) (nI m) = some (nI (CM n K T w s m)) := by
  have h6 := hB.2.1
  unfold f_X0_outcome
  obtain ⟨y, z, rfl, h2⟩ := lp_fu (body := fun ih σ => b_X0_outcome_11 μ ih σ.1 σ.2.1 σ.2.2.1 σ.2.2.2) (fun k x => x = (nI (cr n K T w s m k).1, nI (cr n K T w s m k).2, nI ((s + k) % n), nI k)) n (by omega) (fun k x hk hx => by
    subst hx
    refine ⟨_, rfl, fun ih => ?_⟩
    have c1 : ¬ nI n ≤ nI k := nI_ge (by omega) (by omega)
    have hh : (s + k) % n < n := Nat.mod_lt _ hB.1
    have hh2 : (s + (k + 1)) % n < n := Nat.mod_lt _ hB.1
    have e2 : ((s + k) % n + 1) % n = (s + (k + 1)) % n := by rw [Nat.mod_add_mod, Nat.add_assoc]
    have hc := cr_b (s := s) hB hm k
    have hp := pow_le6 (show k ≤ 6 by omega)
    have e3 : nI (cr n K T w s m k).2 * 2 = nI ((cr n K T w s m k).2 * 2) := pk_mul _ 2
    have b := hB.2.2.1 _ hh2
    by_cases e : K ((s + (k + 1)) % n) = 3
    · have d : (nI (K ((s + (k + 1)) % n)) = (3 : Int32)) = True := eq_true (by rw [e]; rfl)
      simp only [b_X0_outcome_11, g_X0_outcome_61, nm, hC.1, c1, ↓reduceIte, leftOf_e hC.1 h6 hh, e2, ck_t (vin (N := 6) (show (s + (k + 1)) % n < 6 by omega)), cl (j := (s + (k + 1)) % n), (hC.2.2 _ hh2).1, d, d33, e3, nI_1, cr, e]
    · have d : (nI (K ((s + (k + 1)) % n)) = (3 : Int32)) = False := eq_false (by
        show ¬ nI (K ((s + (k + 1)) % n)) = nI 3
        rw [nI_eq (by omega) (by omega)]; exact e)
      simp only [b_X0_outcome_11, g_X0_outcome_61, nm, hC.1, c1, ↓reduceIte, leftOf_e hC.1 h6 hh, e2, ck_t (vin (N := 6) (show (s + (k + 1)) % n < 6 by omega)), cl (j := (s + (k + 1)) % n), (hC.2.2 _ hh2).1, d, madeOften_e hB hC hh2 hc.1 (show (cr n K T w s m k).2 ≤ 64 by omega), bd, Option.bind_some, nI_1, cr, e]
      rfl) (nI m, (1 : Int32), nI s, (0 : Int32)) (by
        show _ = (nI m, nI 1, nI ((s + 0) % n), nI 0)
        rw [Nat.add_zero, Nat.mod_eq_of_lt hs]; rfl)
  rw [h2]
  have c1 : nI n ≤ nI n := nI_le (by omega) (by omega)
  simp only [b_X0_outcome_11, hC.1, c1, ↓reduceIte, CM]
/-! the reference -/
theorem inner_e {ν : MM} {n : Nat} {K T : Nat → Nat} {w h wd t : Nat} {x1 x6 : Int32} (hB : BK n K T w) (hC : MK ν.1 n K T) (hh : h < n) (hw : wd < 8) (ht : t ≤ 64) (ih9 : Int32 × Int32 × Int32 → Option Int32) : lp (fun ih σ => b_X4_comesOf_52 ν x1 (nI w) (nI t) x6 (nI h) ih9 ih σ.1 σ.2) fu (nI wd, (0 : Int32)) = ih9 (nI (itr (mk (K h) (T h) w) wd t), 1, x6 + 1) := by
  have b := hB.2.2.1 h hh
  have h6 := hB.2.1
  obtain ⟨y, m, rfl, h2⟩ := lp_fu (body := fun ih σ => b_X4_comesOf_52 ν x1 (nI w) (nI t) x6 (nI h) ih9 ih σ.1 σ.2) (fun k x => x = (nI (itr (mk (K h) (T h) w) wd k), nI k)) t (by omega) (fun k x hk hx => by
    subst hx
    refine ⟨_, rfl, fun ih => ?_⟩
    have c1 : ¬ nI t ≤ nI k := nI_ge (by omega) (by omega)
    have hi : itr (mk (K h) (T h) w) wd k < 8 := itr_lt hw (fun y hy => mk_lt _ b.1 _ b.2 _ hB.2.2.2 _ hy) k
    simp only [b_X4_comesOf_52, nm, c1, ↓reduceIte, ck_t (vin (N := 6) (show h < 6 by omega)), cl (j := h), (hC.2 h hh).1, (hC.2 h hh).2, makes_e b.1 b.2 hB.2.2.2 hi, nI_1, itr]) (nI wd, (0 : Int32)) (by rw [nI_0]; rfl)
  rw [h2]
  have c1 : nI t ≤ nI t := nI_le (by omega) (by omega)
  simp only [b_X4_comesOf_52, g_X4_comesOf_87, g_X4_comesOf_90, c1, ↓reduceIte]
theorem comesOf_e {ν : MM} {n : Nat} {K T : Nat → Nat} {w s m : Nat} (hB : BK n K T w) (hC : MK ν.1 n K T) (hs : s < n) (hm : m < 8) : f_X4_comesOf ν (nI s) (nI m) (nI w) = some (nI (CM n K T w s m)) := by
  have h6 := hB.2.1
  have h0 := hB.1
  unfold f_X4_comesOf
  obtain ⟨y, z, rfl, h2⟩ := lp_fu (body := fun ih σ => b_X4_comesOf_9 ν (nI s) (nI w) ih σ.1 σ.2.1 σ.2.2) (fun k x => x = (nI (cr n K T w s m k).1, nI (cr n K T w s m k).2, nI (k + 1))) n (by omega) (fun k x hk hx => by
    subst hx
    refine ⟨_, rfl, fun ih => ?_⟩
    have c1 : ¬ nI n < nI (k + 1) := nI_nlt (by omega) (by omega)
    have hh2 : (s + (k + 1)) % n < n := Nat.mod_lt _ hB.1
    have hne : ¬ nI n = 0 := nI_ne0 h0 (by omega)
    have e2 : nI (s + (k + 1)) - nI (s + (k + 1)) / nI n * nI n = nI ((s + (k + 1)) % n) := pk_rem (by omega) h0 (by omega)
    have hc := cr_b (s := s) hB hm k
    have hp := pow_le6 (show k ≤ 6 by omega)
    have e3 : nI (cr n K T w s m k).2 * 2 = nI ((cr n K T w s m k).2 * 2) := pk_mul _ 2
    have b := hB.2.2.1 _ hh2
    by_cases e : K ((s + (k + 1)) % n) = 3
    · have d : (nI (K ((s + (k + 1)) % n)) = (3 : Int32)) = True := eq_true (by rw [e]; rfl)
      simp only [b_X4_comesOf_9, g_X4_comesOf_90, nm, hC.1, c1, ↓reduceIte, ck_t hne, nI_add, e2, ck_t (vin (N := 6) (show (s + (k + 1)) % n < 6 by omega)), cl (j := (s + (k + 1)) % n), (hC.2 _ hh2).1, d, d33, e3, nI_1, cr, e]
    · have d : (nI (K ((s + (k + 1)) % n)) = (3 : Int32)) = False := eq_false (by
        show ¬ nI (K ((s + (k + 1)) % n)) = nI 3
        rw [nI_eq (by omega) (by omega)]; exact e)
      simp only [b_X4_comesOf_9, nm, hC.1, c1, ↓reduceIte, ck_t hne, nI_add, e2, ck_t (vin (N := 6) (show (s + (k + 1)) % n < 6 by omega)), cl (j := (s + (k + 1)) % n), (hC.2 _ hh2).1, d, inner_e hB hC hh2 hc.1 (show (cr n K T w s m k).2 ≤ 64 by omega), nI_1, cr, e]
      rfl) (nI m, (1 : Int32), (1 : Int32)) rfl
  rw [h2]
  have c1 : nI n < nI (n + 1) := nI_lt (by omega) (by omega)
  simp only [b_X4_comesOf_9, hC.1, c1, ↓reduceIte, CM]
/-! as they sit -/
abbrev sK (a : AS) : Nat → Nat := fun i => aK a (aS a i)
abbrev sT (a : AS) : Nat → Nat := fun i => aT a (aS a i)
theorem OKS.bk {a : AS} (hO : OKS a) (h0 : 0 < aN a) : BK (aN a) (sK a) (sT a) (aW a) := by
  obtain ⟨g1, g2, g3, g4, g5, g6, g7⟩ := hO
  exact ⟨h0, g2, fun i hi => ⟨(g3 _ (g3 i hi).2.2).1, (g3 _ (g3 i hi).2.2).2.1⟩, g5⟩
theorem seatAll_e {μ : Mem} {a : AS} (hO : OKS a) (hC : CS μ 3 4 5 6 7 8 9 10 a) : ∃ μ', f_X0_seatAll μ = some μ' ∧ CK μ' (aN a) (sK a) (sT a) (aW a) ∧ ∀ c, c ≠ 19 → c ≠ 20 → c ≠ 21 → μ' c = μ c := by
  have h6 := hO.2.1
  unfold f_X0_seatAll
  refine nm_ex (fun v1 e1 => ?_)
  refine nm_ex (fun μ2 e2 => ?_)
  refine nm_ex (fun v3 e3 => ?_)
  refine nm_ex (fun μ4 e4 => ?_)
  rw [hC.1.1] at e1
  rw [e2, up_c (by omega), hC.1.2.1] at e3
  subst e1
  subst e3
  have s4 : ∀ c, c ≠ 19 → μ4 c = μ c := fun c hc => by rw [e4, up_c hc, e2, up_c hc]
  have z2 : μ4 19 2 = nI (aN a) := by rw [e4, up_k (by omega), e2, up_s]
  have z3 : μ4 19 3 = nI (aW a) := by rw [e4, up_s]
  obtain ⟨⟨y, z⟩, m, ⟨hz, h1, h3, h4, h5⟩, h2⟩ := lp_fu (body := fun ih σ => b_X0_seatAll_18 ih σ.1 σ.2) (fun k (x : Mem × Int32) => x.2 = nI k ∧ (∀ i, i < k → x.1 20 i = nI (sK a i) ∧ x.1 21 i = nI (sT a i)) ∧ (∀ c, c ≠ 19 → c ≠ 20 → c ≠ 21 → x.1 c = μ c) ∧ x.1 19 2 = nI (aN a) ∧ x.1 19 3 = nI (aW a)) (aN a) (by omega) (fun k x hk hx => by
    obtain ⟨x, z⟩ := x
    obtain ⟨hz, h1, h3, h4, h5⟩ := hx
    have hz : z = nI k := hz
    subst hz
    have h4 : x 19 2 = nI (aN a) := h4
    have h3 : ∀ c, c ≠ 19 → c ≠ 20 → c ≠ 21 → x c = μ c := h3
    have hs := (hO.2.2.1 k hk).2.2
    have c1 : ¬ nI (aN a) ≤ nI k := nI_ge hk (by omega)
    have d7 : x 7 k = nI (aS a k) := by rw [h3 7 (by omega) (by omega) (by omega)]; exact (hC.2.1 k hk).2.2.2
    have d4 : x 4 (aS a k) = nI (sK a k) := by rw [h3 4 (by omega) (by omega) (by omega)]; exact (hC.2.1 _ hs).1
    have d5 : x 5 (aS a k) = nI (sT a k) := by rw [h3 5 (by omega) (by omega) (by omega)]; exact (hC.2.1 _ hs).2.1
    refine ⟨(up (up x 20 k (nI (sK a k))) 21 k (nI (sT a k)), nI (k + 1)), ⟨rfl, fun i hi => ?_, fun c a1 a2 a3 => ?_, ?_, ?_⟩, fun ih => ?_⟩
    · show up (up x 20 k (nI (sK a k))) 21 k (nI (sT a k)) 20 i = nI (sK a i) ∧ up (up x 20 k (nI (sK a k))) 21 k (nI (sT a k)) 21 i = nI (sT a i)
      by_cases e : i = k
      · rw [e, up_c (by omega), up_s, up_s]; exact ⟨rfl, rfl⟩
      · rw [up_c (by omega), up_k e, up_k e, up_c (by omega)]; exact h1 i (by omega)
    · show up (up x 20 k (nI (sK a k))) 21 k (nI (sT a k)) c = μ c
      rw [up_c a3, up_c a2]; exact h3 c a1 a2 a3
    · show up (up x 20 k (nI (sK a k))) 21 k (nI (sT a k)) 19 2 = _
      rw [up_c (by omega), up_c (by omega)]; exact h4
    · show up (up x 20 k (nI (sK a k))) 21 k (nI (sT a k)) 19 3 = _
      rw [up_c (by omega), up_c (by omega)]; exact h5
    · simp (disch := omega) only [b_X0_seatAll_18, nm, h4, c1, ↓reduceIte, ck_t (vin (N := 6) (show k < 6 by omega)), cl (j := k), d7, ck_t (vin (N := 6) (show aS a k < 6 by omega)), cl (j := aS a k), d4, up_c, d5, nI_1]) (μ4, (0 : Int32)) ⟨nI_0.symm, fun i hi => by omega, fun c a1 _ _ => s4 c a1, z2, z3⟩
  have hz : z = nI (aN a) := hz
  subst hz
  have h4 : y 19 2 = nI (aN a) := h4
  have c1 : nI (aN a) ≤ nI (aN a) := nI_le (by omega) (by omega)
  exact ⟨y, by rw [h2]; simp only [b_X0_seatAll_18, h4, c1, ↓reduceIte], ⟨h4, h5, h1⟩, h3⟩
theorem asTheySit_e {ν : MM} {a : AS} (hO : OKS a) (hM : MS ν.1 3 4 9 a) (hF : MF ν.1 a) : ∃ ν', f_X4_asTheySit ν = some ν' ∧ MK ν'.1 (aN a) (sK a) (sT a) ∧ (∀ c, c ≠ 5 → c ≠ 6 → ν'.1 c = ν.1 c) ∧ ν'.2 = ν.2 := by
  have h6 := hO.2.1
  unfold f_X4_asTheySit
  obtain ⟨⟨y, z⟩, m, ⟨hz, h1, h3, h5⟩, h2⟩ := lp_fu (body := fun ih σ => b_X4_asTheySit_2 ih σ.1 σ.2) (fun k (x : MM × Int32) => x.2 = nI k ∧ (∀ i, i < k → x.1.1 5 i = nI (sK a i) ∧ x.1.1 6 i = nI (sT a i)) ∧ (∀ c, c ≠ 5 → c ≠ 6 → x.1.1 c = ν.1 c) ∧ x.1.2 = ν.2) (aN a) (by omega) (fun k x hk hx => by
    obtain ⟨x, z⟩ := x
    obtain ⟨hz, h1, h3, h5⟩ := hx
    have hz : z = nI k := hz
    subst hz
    have h3 : ∀ c, c ≠ 5 → c ≠ 6 → x.1 c = ν.1 c := h3
    have h4 : x.1 0 6 = nI (aN a) := by rw [h3 0 (by omega) (by omega)]; exact hF.1
    have hs := (hO.2.2.1 k hk).2.2
    have c1 : ¬ nI (aN a) ≤ nI k := nI_ge hk (by omega)
    have d7 : x.1 4 k = nI (aS a k) := by rw [h3 4 (by omega) (by omega)]; exact (hM.1 k hk).2.2.2.1
    have d4 : x.1 3 (4 * aS a k) = nI (sK a k) := by rw [h3 3 (by omega) (by omega)]; exact (hM.1 _ hs).1
    have d5 : x.1 3 (4 * aS a k + 1) = nI (sT a k) := by rw [h3 3 (by omega) (by omega)]; exact (hM.1 _ hs).2.1
    refine ⟨(upM (upM x 5 k (nI (sK a k))) 6 k (nI (sT a k)), nI (k + 1)), ⟨rfl, fun i hi => ?_, fun c a1 a2 => ?_, h5⟩, fun ih => ?_⟩
    · show up (up x.1 5 k (nI (sK a k))) 6 k (nI (sT a k)) 5 i = nI (sK a i) ∧ up (up x.1 5 k (nI (sK a k))) 6 k (nI (sT a k)) 6 i = nI (sT a i)
      by_cases e : i = k
      · rw [e, up_c (by omega), up_s, up_s]; exact ⟨rfl, rfl⟩
      · rw [up_c (by omega), up_k e, up_k e, up_c (by omega)]; exact h1 i (by omega)
    · show up (up x.1 5 k (nI (sK a k))) 6 k (nI (sT a k)) c = ν.1 c
      rw [up_c a2, up_c a1]; exact h3 c a1 a2
    · simp (disch := omega) only [b_X4_asTheySit_2, nm, h4, c1, ↓reduceIte, ck_t (vin (N := 6) (show k < 6 by omega)), cl (j := k), d7, upM_1, up_c, ix4, ck_t (vin (N := 24) (show 4 * aS a k < 24 by omega)), ck_t (vin (N := 24) (show 4 * aS a k + 1 < 24 by omega)), cl (j := 4 * aS a k), cl (j := 4 * aS a k + 1), d4, d5, nI_1]) (ν, (0 : Int32)) ⟨nI_0.symm, fun i hi => by omega, fun c _ _ => rfl, rfl⟩
  have hz : z = nI (aN a) := hz
  subst hz
  have h3 : ∀ c, c ≠ 5 → c ≠ 6 → y.1 c = ν.1 c := h3
  have h4 : y.1 0 6 = nI (aN a) := by rw [h3 0 (by omega) (by omega)]; exact hF.1
  have c1 : nI (aN a) ≤ nI (aN a) := nI_le (by omega) (by omega)
  exact ⟨y, by rw [h2]; simp only [b_X4_asTheySit_2, h4, c1, ↓reduceIte], ⟨h4, h1⟩, h3, h5⟩
