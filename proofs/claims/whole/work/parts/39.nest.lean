/-! nestlings -/
def ht (n : Nat) (K T : Nat → Nat) (w s m c q x : Nat) : Bool := sb q x && decide (CM n (kq K q x) (tq T q) w s m = c)
theorem sb_t {q x : Nat} : ((nI x &&& (nI q ^^^ (-1 : Int32))) = 0) = (sb q x = true) := propext decide_eq_true_iff.symm
theorem broods_e {μ : Mem} {a : AS} {s m c q : Nat} (hO : OKS a) (hC : CS μ 3 4 5 6 7 8 9 10 a) (hs : s < aN a) (hm : m < 8) (hc : c < 8) (hq : q < 64) : ∃ μ', f_X3_broodsThatSay μ (nI q) (nI s) (nI m) (nI c) = some (μ', nI (fb_ct (ht (aN a) (sK a) (sT a) (aW a) s m c q) (q + 1))) ∧ ∀ c, c < 19 → μ' c = μ c := by
  have h6 := hO.2.1
  obtain ⟨μ1, e1, k1, k2⟩ := seatAll_e hO hC
  have hB := hO.bk (show 0 < aN a by omega)
  simp only [f_X3_broodsThatSay, e1, bd, Option.bind_some]
  obtain ⟨⟨y, z, u⟩, p, ⟨hz, h1, h3, h4⟩, h2⟩ := lp_fu (body := fun ih σ => b_X3_broodsThatSay_17 (nI q) (nI s) (nI m) (nI c) ih σ.1 σ.2.1 σ.2.2) (fun k (x : Mem × Int32 × Int32) => x.2.2 = nI k ∧ x.2.1 = nI (fb_ct (ht (aN a) (sK a) (sT a) (aW a) s m c q) k) ∧ CY x.1 (aN a) (sK a) (sT a) (aW a) q ∧ ∀ c, c < 19 → x.1 c = μ c) (q + 1) (by omega) (fun k x hk hx' => by
    obtain ⟨x, z, u⟩ := x
    obtain ⟨hu, hz, h3, h4⟩ := hx'
    have hu : u = nI k := hu
    have hz : z = nI (fb_ct (ht (aN a) (sK a) (sT a) (aW a) s m c q) k) := hz
    subst hu
    subst hz
    have h3 : CY x (aN a) (sK a) (sT a) (aW a) q := h3
    have h4 : ∀ c, c < 19 → x c = μ c := h4
    have c1 : ¬ nI q < nI k := nI_nlt (by omega) (by omega)
    have hct := fb_ct_succ (ht (aN a) (sK a) (sT a) (aW a) s m c q) k
    by_cases g : sb q k = true
    · obtain ⟨x', l1, l2, l3⟩ := lend_e (x := k) h3 h6 hq (by omega)
      have ho := outcome_e (hB.lend q k) l2 hs hm
      have hr := CM_lt (s := s) (hB.lend q k) hm
      refine ⟨(x', nI (fb_ct (ht (aN a) (sK a) (sT a) (aW a) s m c q) (k + 1)), nI (k + 1)), ⟨rfl, rfl, l2.py, fun c hc => by show x' c = μ c; rw [l3 c (by omega) (by omega)]; exact h4 c hc⟩, fun ih => ?_⟩
      by_cases e : CM (aN a) (kq (sK a) q k) (tq (sT a) q) (aW a) s m = c
      · have hh : ht (aN a) (sK a) (sT a) (aW a) s m c q k = true := by unfold ht; rw [g, e]; simp
        rw [hct, hh]
        simp only [b_X3_broodsThatSay_17, g_X3_broodsThatSay_62, c1, ↓reduceIte, sb_t, g, l1, ho, bd, Option.bind_some, e, nI_1]
      · have d : (nI (CM (aN a) (kq (sK a) q k) (tq (sT a) q) (aW a) s m) = nI c) = False := eq_false (by rw [nI_eq (by omega) (by omega)]; exact e)
        have hh : ht (aN a) (sK a) (sT a) (aW a) s m c q k = false := by unfold ht; simp [e]
        rw [hct, hh]
        simp only [b_X3_broodsThatSay_17, g_X3_broodsThatSay_62, c1, ↓reduceIte, sb_t, g, l1, ho, bd, Option.bind_some, d, nI_1]
        rfl
    · have gF : (sb q k = true) = False := eq_false g
      have g' : sb q k = false := by simpa using g
      have hh : ht (aN a) (sK a) (sT a) (aW a) s m c q k = false := by unfold ht; rw [g']; rfl
      refine ⟨(x, nI (fb_ct (ht (aN a) (sK a) (sT a) (aW a) s m c q) (k + 1)), nI (k + 1)), ⟨rfl, rfl, h3, h4⟩, fun ih => ?_⟩
      rw [hct, hh]
      simp only [b_X3_broodsThatSay_17, g_X3_broodsThatSay_62, c1, ↓reduceIte, sb_t, gF, nI_1]
      rfl) (μ1, (0 : Int32), (0 : Int32)) ⟨nI_0.symm, rfl, ⟨k1.1, k1.2.1, fun i hi _ => k1.2.2 i hi⟩, fun c hc => k2 c (by omega) (by omega) (by omega)⟩
  have hz : u = nI (q + 1) := hz
  have h1 : z = nI (fb_ct (ht (aN a) (sK a) (sT a) (aW a) s m c q) (q + 1)) := h1
  subst hz
  subst h1
  refine ⟨y, ?_, h4⟩
  rw [h2]
  have c1 : nI q < nI (q + 1) := nI_lt (by omega) (by omega)
  simp only [b_X3_broodsThatSay_17, c1, ↓reduceIte]
theorem mlend_e {ν : MM} {n : Nat} {K T : Nat → Nat} {q x : Nat} {x2 x3 x4 x5 x6 x7 : Int32} (h : MY ν.1 n K T q) (hn : n ≤ 6) (hq : q < 64) (hx : x < 64) : ∃ ν', MK ν'.1 n (kq K q x) (tq T q) ∧ (∀ c, c ≠ 5 → c ≠ 6 → ν'.1 c = ν.1 c) ∧ ν'.2 = ν.2 ∧ ∀ ih, lp (fun i σ => b_X4_nestlings_94 (nI q) x2 x3 x4 x5 x6 x7 (nI x) ih i σ.1 σ.2) fu (ν, (0 : Int32)) = g_X4_nestlings_179 ν' (nI q) x2 x3 x4 x5 x6 x7 (nI x) ih := by
  obtain ⟨⟨y, z⟩, ⟨hz, h1, h3, h4, h5⟩, g⟩ := lpi (body := fun (ih : MM × Int32 × Int32 × Int32 → Option (MM × Int32)) i (σ : MM × Int32) => b_X4_nestlings_94 (nI q) x2 x3 x4 x5 x6 x7 (nI x) ih i σ.1 σ.2) (fun k (s : MM × Int32) => s.2 = nI k ∧ (∀ i, i < k → s.1.1 5 i = nI (kq K q x i) ∧ s.1.1 6 i = nI (tq T q i)) ∧ (∀ i, k ≤ i → s.1.1 5 i = ν.1 5 i ∧ s.1.1 6 i = ν.1 6 i) ∧ (∀ c, c ≠ 5 → c ≠ 6 → s.1.1 c = ν.1 c) ∧ s.1.2 = ν.2) n (by omega) (fun k s hk hs => by
    obtain ⟨s, z⟩ := s
    obtain ⟨hz, h1, h3, h4, h5⟩ := hs
    have hz : z = nI k := hz
    subst hz
    have h1 : ∀ i, i < k → s.1 5 i = nI (kq K q x i) ∧ s.1 6 i = nI (tq T q i) := h1
    have h3 : ∀ i, k ≤ i → s.1 5 i = ν.1 5 i ∧ s.1 6 i = ν.1 6 i := h3
    have h4 : ∀ c, c ≠ 5 → c ≠ 6 → s.1 c = ν.1 c := h4
    have e06 : s.1 0 6 = nI n := by rw [h4 0 (by omega) (by omega)]; exact h.1
    have c1 : ¬ nI n ≤ nI k := nI_ge hk (by omega)
    have hk6 : k < 6 := by omega
    by_cases g : bq q k = 1
    · refine ⟨(upM (upM s 5 k (nI (bq x k))) 6 k 7, nI (k + 1)), ⟨rfl, fun i hi => ?_, fun i hi => ?_, fun c a1 a2 => ?_, h5⟩, fun ih i => ?_⟩
      · show up (up s.1 5 k (nI (bq x k))) 6 k 7 5 i = _ ∧ up (up s.1 5 k (nI (bq x k))) 6 k 7 6 i = _
        by_cases e : i = k
        · subst e
          unfold kq tq
          rw [up_c (by omega), up_s, up_s, if_pos g, if_pos g]
          exact ⟨rfl, rfl⟩
        · rw [up_c (by omega), up_k e, up_k e, up_c (by omega)]; exact h1 i (by omega)
      · show up (up s.1 5 k (nI (bq x k))) 6 k 7 5 i = _ ∧ up (up s.1 5 k (nI (bq x k))) 6 k 7 6 i = _
        rw [up_c (by omega), up_k (by omega), up_k (by omega), up_c (by omega)]; exact h3 i (by omega)
      · show up (up s.1 5 k (nI (bq x k))) 6 k 7 c = ν.1 c
        rw [up_c a2, up_c a1]; exact h4 c a1 a2
      · have d1 : (nI 1 = (1 : Int32)) = True := eq_true rfl
        simp only [b_X4_nestlings_94, g_X4_nestlings_118, g_X4_nestlings_148, g_X4_nestlings_172, nm, e06, c1, ↓reduceIte, bq_i hq hk6, bq_i hx hk6, g, d1, i10, ck_t (vin (N := 6) hk6), cl (j := k), nI_1]
    · have hb := bq_lt q k
      have g0 : bq q k = 0 := by omega
      have d1 : (nI 0 = (1 : Int32)) = False := eq_false (by decide)
      obtain ⟨v1, v2⟩ := h3 k (by omega)
      obtain ⟨w1, w2⟩ := h.2 k hk g
      refine ⟨(upM (upM s 5 k (s.1 5 k)) 6 k (s.1 6 k), nI (k + 1)), ⟨rfl, fun i hi => ?_, fun i hi => ?_, fun c a1 a2 => ?_, h5⟩, fun ih i => ?_⟩
      · show up (up s.1 5 k (s.1 5 k)) 6 k (s.1 6 k) 5 i = _ ∧ up (up s.1 5 k (s.1 5 k)) 6 k (s.1 6 k) 6 i = _
        by_cases e : i = k
        · subst e
          unfold kq tq
          rw [up_c (by omega), up_s, up_s, if_neg g, if_neg g, v1, v2]
          exact ⟨w1, w2⟩
        · rw [up_c (by omega), up_k e, up_k e, up_c (by omega)]; exact h1 i (by omega)
      · show up (up s.1 5 k (s.1 5 k)) 6 k (s.1 6 k) 5 i = _ ∧ up (up s.1 5 k (s.1 5 k)) 6 k (s.1 6 k) 6 i = _
        rw [up_c (by omega), up_k (by omega), up_k (by omega), up_c (by omega)]; exact h3 i (by omega)
      · show up (up s.1 5 k (s.1 5 k)) 6 k (s.1 6 k) c = ν.1 c
        rw [up_c a2, up_c a1]; exact h4 c a1 a2
      · simp (disch := omega) only [b_X4_nestlings_94, g_X4_nestlings_118, g_X4_nestlings_148, g_X4_nestlings_172, nm, e06, c1, ↓reduceIte, bq_i hq hk6, g0, d1, ck_t (vin (N := 6) hk6), cl (j := k), upM_1, up_c, nI_1]) (ν, (0 : Int32)) ⟨nI_0.symm, fun i hi => by omega, fun i _ => ⟨rfl, rfl⟩, fun c _ _ => rfl, rfl⟩
  have hz : z = nI n := hz
  subst hz
  have h4 : ∀ c, c ≠ 5 → c ≠ 6 → y.1 c = ν.1 c := h4
  have e06 : y.1 0 6 = nI n := by rw [h4 0 (by omega) (by omega)]; exact h.1
  have c1 : nI n ≤ nI n := nI_le (by omega) (by omega)
  refine ⟨y, ⟨e06, h1⟩, h4, h5, fun ih => ?_⟩
  obtain ⟨m, g⟩ := g ih
  rw [g]
  simp only [b_X4_nestlings_94, e06, c1, ↓reduceIte]
theorem mbroods_e {ν : MM} {a : AS} {s m c q : Nat} {x5 : Int32} (hO : OKS a) (hM : MS ν.1 3 4 9 a) (hF : MF ν.1 a) (hs : s < aN a) (hm : m < 8) (hc : c < 8) (hq : q < 2 ^ aN a) : ∃ ν', (bd (f_X4_asTheySit ν) fun μ17 => lp (fun ih σ => b_X4_nestlings_71 (nI q) (nI s) (nI m) (nI c) x5 ih σ.1 σ.2.1 σ.2.2.1 σ.2.2.2) fu (μ17, (0 : Int32), (0 : Int32), (0 : Int32))) = g_X4_nestlings_213 ν' x5 (nI (fb_ct (ht (aN a) (sK a) (sT a) (aW a) s m c q) (2 ^ aN a))) (nI (fb_ct (sb q) (2 ^ aN a))) ∧ (∀ c, c ≠ 5 → c ≠ 6 → ν'.1 c = ν.1 c) ∧ ν'.2 = ν.2 := by
  have h6 := hO.2.1
  have h64 := pow_le6 h6
  obtain ⟨ν1, e1, k1, k2, k3⟩ := asTheySit_e hO hM hF
  have hB := hO.bk (show 0 < aN a by omega)
  simp only [e1, bd, Option.bind_some]
  obtain ⟨⟨y, u, v, z⟩, p, ⟨h1, h3, h4, h5⟩, h2⟩ := lp_fu (body := fun ih σ => b_X4_nestlings_71 (nI q) (nI s) (nI m) (nI c) x5 ih σ.1 σ.2.1 σ.2.2.1 σ.2.2.2) (fun k (x : MM × Int32 × Int32 × Int32) => x.2 = (nI (fb_ct (ht (aN a) (sK a) (sT a) (aW a) s m c q) k), nI (fb_ct (sb q) k), nI k) ∧ MY x.1.1 (aN a) (sK a) (sT a) q ∧ (∀ c, c ≠ 5 → c ≠ 6 → x.1.1 c = ν.1 c) ∧ x.1.2 = ν.2) (2 ^ aN a) (by omega) (fun k x hk hx' => by
    obtain ⟨x, z⟩ := x
    obtain ⟨hz, h3, h4, h5⟩ := hx'
    have hz : z = (nI (fb_ct (ht (aN a) (sK a) (sT a) (aW a) s m c q) k), nI (fb_ct (sb q) k), nI k) := hz
    subst hz
    have h3 : MY x.1 (aN a) (sK a) (sT a) q := h3
    have h4 : ∀ c, c ≠ 5 → c ≠ 6 → x.1 c = ν.1 c := h4
    have h5 : x.2 = ν.2 := h5
    have c1 : ¬ nI (2 ^ aN a) ≤ nI k := nI_ge hk (by omega)
    have hct := fb_ct_succ (ht (aN a) (sK a) (sT a) (aW a) s m c q) k
    have hcs := fb_ct_succ (sb q) k
    by_cases g : sb q k = true
    · obtain ⟨x', l1, l2, l3, l4⟩ := mlend_e (x := k) (x2 := nI s) (x3 := nI m) (x4 := nI c) (x5 := x5) (x6 := nI (fb_ct (ht (aN a) (sK a) (sT a) (aW a) s m c q) k)) (x7 := nI (fb_ct (sb q) k)) h3 h6 (by omega) (by omega)
      have ho := comesOf_e (hB.lend q k) l1 hs hm
      have hr := CM_lt (s := s) (hB.lend q k) hm
      have e07 : x'.1 0 7 = nI (aW a) := by rw [l2 0 (by omega) (by omega), h4 0 (by omega) (by omega)]; exact hF.2.1
      refine ⟨(x', nI (fb_ct (ht (aN a) (sK a) (sT a) (aW a) s m c q) (k + 1)), nI (fb_ct (sb q) (k + 1)), nI (k + 1)), ⟨rfl, l1.py, fun c a1 a2 => by show x'.1 c = ν.1 c; rw [l2 c a1 a2]; exact h4 c a1 a2, by show x'.2 = ν.2; rw [l3]; exact h5⟩, fun ih => ?_⟩
      rw [hcs, if_pos g]
      by_cases e : CM (aN a) (kq (sK a) q k) (tq (sT a) q) (aW a) s m = c
      · have hh : ht (aN a) (sK a) (sT a) (aW a) s m c q k = true := by unfold ht; rw [g, e]; simp
        rw [hct, hh]
        simp only [b_X4_nestlings_71, h3.1, shl_n h6, c1, ↓reduceIte, sb_t, g, l4, g_X4_nestlings_179, g_X4_nestlings_201, g_X4_nestlings_207, nm, e07, ho, bd, Option.bind_some, e, nI_1]
      · have d : (nI (CM (aN a) (kq (sK a) q k) (tq (sT a) q) (aW a) s m) = nI c) = False := eq_false (by rw [nI_eq (by omega) (by omega)]; exact e)
        have hh : ht (aN a) (sK a) (sT a) (aW a) s m c q k = false := by unfold ht; simp [e]
        have z0 : ∀ t : Nat, nI t + 0 = nI (t + 0) := fun t => nI_add t 0
        rw [hct, hh]
        simp only [b_X4_nestlings_71, h3.1, shl_n h6, c1, ↓reduceIte, sb_t, g, l4, g_X4_nestlings_179, g_X4_nestlings_201, g_X4_nestlings_207, nm, e07, ho, bd, Option.bind_some, d, nI_1, z0]
        rfl
    · have gF : (sb q k = true) = False := eq_false g
      have g' : sb q k = false := by simpa using g
      have hh : ht (aN a) (sK a) (sT a) (aW a) s m c q k = false := by unfold ht; rw [g']; rfl
      refine ⟨(x, nI (fb_ct (ht (aN a) (sK a) (sT a) (aW a) s m c q) (k + 1)), nI (fb_ct (sb q) (k + 1)), nI (k + 1)), ⟨rfl, h3, h4, h5⟩, fun ih => ?_⟩
      rw [hct, hh, hcs, g']
      simp only [b_X4_nestlings_71, h3.1, shl_n h6, c1, ↓reduceIte, sb_t, gF, g_X4_nestlings_207, nI_1]
      rfl) (ν1, (0 : Int32), (0 : Int32), (0 : Int32)) ⟨rfl, ⟨k1.1, fun i hi _ => k1.2 i hi⟩, k2, k3⟩
  have h1 : (u, v, z) = (nI (fb_ct (ht (aN a) (sK a) (sT a) (aW a) s m c q) (2 ^ aN a)), nI (fb_ct (sb q) (2 ^ aN a)), nI (2 ^ aN a)) := h1
  obtain ⟨rfl, rfl, rfl⟩ : u = nI (fb_ct (ht (aN a) (sK a) (sT a) (aW a) s m c q) (2 ^ aN a)) ∧ v = nI (fb_ct (sb q) (2 ^ aN a)) ∧ z = nI (2 ^ aN a) := by simpa using h1
  refine ⟨y, ?_, h4, h5⟩
  have h3 : MY y.1 (aN a) (sK a) (sT a) q := h3
  rw [h2]
  have c1 : nI (2 ^ aN a) ≤ nI (2 ^ aN a) := nI_le (by omega) (by omega)
  simp only [b_X4_nestlings_71, h3.1, shl_n h6, c1, ↓reduceIte]
theorem nm_p {α β : Type} (x : α) (f : α → β) : nm x f = f x := (Eq.refl (nm x f)).trans (Eq.refl (f x))
theorem bd2_p {α β γ : Type} (a : α) (b : β) (f : α → β → Option γ) : bd2 (some (a, b)) f = f a b := (Eq.refl (bd2 (some (a, b)) f)).trans (Eq.refl (f a b))
theorem bd_p {α β : Type} (a : α) (f : α → Option β) : bd (some a) f = f a := (Eq.refl (bd (some a) f)).trans (Eq.refl (f a))
theorem st_nestlings {T : Nat} {μ : Mem} {ν : MM} {x1 x2 x3 x4 x5 : Int32} (h : Rel T μ ν) : ∃ (μ' : Mem) (ν' : MM) (r : Int32), f_X3_nestlings μ x1 x2 x3 x4 x5 = some (μ', r) ∧ f_X4_nestlings ν x1 x2 x3 x4 x5 = some (ν', r) ∧ Rel (T + 1) μ' ν' := by
  obtain ⟨a, pn, pg, rr, sd, hO, hC, hM, hF, hG, hN, hK⟩ := id h
  have h6 := hO.2.1
  have h64 := pow_le6 h6
  by_cases hx : inb x2 (aN a)
  · obtain ⟨s, hs, rfl⟩ := hx
    have hhi : ((1 : Int32) <<< (nI (aN a) &&& 31) - 1).toInt64.toInt = ((2 ^ aN a : Nat) : Int) - 1 := by
      rw [shl_n h6, Int32.toInt_toInt64]
      have : nI (2 ^ aN a) - 1 = nI (2 ^ aN a - 1) := show nI (2 ^ aN a) - nI 1 = _ from pk_sub (Nat.two_pow_pos _)
      rw [this, nI_toInt (by omega)]
      have := Nat.two_pow_pos (aN a)
      omega
    by_cases hy : inb x1 (2 ^ aN a)
    · obtain ⟨q, hq, rfl⟩ := hy
      have a1 : ¬ nI q < 0 := nI_pos (by omega)
      have a2 : ¬ nI (2 ^ aN a) ≤ nI q := nI_ge hq (by omega)
      have a3 : f_X4_in ν (nI q).toInt64 0 ((1 : Int32) <<< (nI (aN a) &&& 31) - 1).toInt64 = 1 := in_t (by rw [nI_toInt (by omega)]; show (0 : Int) ≤ q; omega) (by rw [hhi, nI_toInt (by omega)]; omega)
      by_cases h3 : inb x3 8
      · obtain ⟨m, hm, rfl⟩ := h3
        by_cases h4 : inb x4 8
        · obtain ⟨c, hc, rfl⟩ := h4
          by_cases hz : inb x5 2
          · obtain ⟨i1, i2, i3⟩ := in01 hz ν
            obtain ⟨μ', e1, e2⟩ := broods_e (q := q) hO hC hs hm hc (by omega)
            obtain ⟨ν', g1, g2, g3⟩ := mbroods_e (x5 := x5) hO hM hF hs hm hc hq
            have ht2 : fb_ct (ht (aN a) (sK a) (sT a) (aW a) s m c q) (2 ^ aN a) = fb_ct (ht (aN a) (sK a) (sT a) (aW a) s m c q) (q + 1) := by
              obtain ⟨d, hd⟩ : ∃ d, 2 ^ aN a = q + 1 + d := ⟨2 ^ aN a - (q + 1), by omega⟩
              rw [hd, fb_ct_split]
              have : fb_ct (fun k => ht (aN a) (sK a) (sT a) (aW a) s m c q (q + 1 + k)) d = 0 := fb_ct_zero.mpr (fun k hk => by
                show ht (aN a) (sK a) (sT a) (aW a) s m c q (q + 1 + k) = false
                unfold ht
                rw [sb_hi (by omega) (by omega) (by omega)]
                rfl)
              omega
            have hle : fb_ct (ht (aN a) (sK a) (sT a) (aW a) s m c q) (2 ^ aN a) ≤ fb_ct (sb q) (2 ^ aN a) := fb_ct_sub (fun k hk e => by
              unfold ht at e
              rcases hb : sb q k with _ | _
              · rw [hb] at e; exact absurd e (by simp)
              · rfl)
            rw [sb_ct h6 hq] at g1 hle
            rw [ht2] at g1 hle
            obtain ⟨H, eH⟩ : ∃ H, H = fb_ct (ht (aN a) (sK a) (sT a) (aW a) s m c q) (q + 1) := ⟨_, rfl⟩
            rw [← eH] at g1 hle e1
            have hb6 : fb_ct q.testBit 6 ≤ 6 := fb_ct_le _ 6
            have hp6 := pow_le6 hb6
            have hv6 := (hv_gcd ⟨fb_ct q.testBit 6, by omega⟩ ⟨H, by omega⟩ hle).2.2
            have hv6 : (hv H (fb_ct q.testBit 6)).2 ≤ 6 := hv6
            refine ⟨μ', ν', if x5 = 0 then nI (hv H (fb_ct q.testBit 6)).1 else nI (2 ^ (hv H (fb_ct q.testBit 6)).2), ?_, ?_, (h.scr2 ⟨e2, fun c hc => g2 c (by omega) (by omega), fun k _ _ _ _ => by rw [g2 0 (by omega) (by omega)], g3⟩).mono (by omega)⟩
            · simp only [f_X3_nestlings, nm_p, isPlace_t hC.1.1 h6 hs, isWord_t hm, isWord_t hc, hC.1.1, shl_n h6, a1, a2, i2, i3, i10, ↓reduceIte, e1, bd2_p, bc6 (show q < 64 by omega)]
              rw [hv_e (fb_ct q.testBit 6) fu H (by rw [fu_e]; omega) hb6 (by omega)]
              simp only [g_X3_nestlings_101, shl_n hv6]
              split <;> rfl
            · simp only [f_X4_nestlings, nm_p, mRook_t hF.1 h6 hs, mWord_t hm, mWord_t hc, hF.1, a3, i1, i10, ↓reduceIte]
              rw [g1]
              simp only [g_X4_nestlings_213, term_e hb6 hle, bd_p]
          · obtain ⟨i1, i2⟩ := out01 hz ν
            refine ⟨μ, ν, -102, ?_, ?_, h.mono (by omega)⟩
            · rcases i2 with i2 | ⟨i2, i3⟩
              · simp only [f_X3_nestlings, nm_p, isPlace_t hC.1.1 h6 hs, isWord_t hm, isWord_t hc, hC.1.1, shl_n h6, a1, a2, i10, ↓reduceIte, i2]
              · simp only [f_X3_nestlings, nm_p, isPlace_t hC.1.1 h6 hs, isWord_t hm, isWord_t hc, hC.1.1, shl_n h6, a1, a2, i10, ↓reduceIte, i2, i3]
            · simp only [f_X4_nestlings, nm_p, mRook_t hF.1 h6 hs, mWord_t hm, mWord_t hc, hF.1, a3, i1, i10, ↓reduceIte]
        · refine ⟨μ, ν, -102, ?_, ?_, h.mono (by omega)⟩
          · simp only [f_X3_nestlings, nm_p, isPlace_t hC.1.1 h6 hs, isWord_t hm, isWord_f h4, hC.1.1, shl_n h6, a1, a2, i10, ↓reduceIte]
          · simp only [f_X4_nestlings, nm_p, mRook_t hF.1 h6 hs, mWord_t hm, mWord_f h4, hF.1, a3, i10, ↓reduceIte]
      · refine ⟨μ, ν, -102, ?_, ?_, h.mono (by omega)⟩
        · simp only [f_X3_nestlings, nm_p, isPlace_t hC.1.1 h6 hs, isWord_f h3, hC.1.1, shl_n h6, a1, a2, i10, ↓reduceIte]
        · simp only [f_X4_nestlings, nm_p, mRook_t hF.1 h6 hs, mWord_f h3, hF.1, a3, i10, ↓reduceIte]
    · have hy' := hy
      rw [inb_iff (by omega)] at hy'
      have e0 : (0 : Int32).toInt = 0 := by decide
      have a3 : f_X4_in ν x1.toInt64 0 ((1 : Int32) <<< (nI (aN a) &&& 31) - 1).toInt64 = 0 := in_f (by
        rw [hhi]
        rintro ⟨p1, p2⟩
        have p1 : (0 : Int) ≤ x1.toInt := p1
        refine hy' ⟨p1, ?_⟩
        omega)
      refine ⟨μ, ν, -102, ?_, ?_, h.mono (by omega)⟩
      · by_cases q : x1 < 0
        · simp only [f_X3_nestlings, nm_p, isPlace_t hC.1.1 h6 hs, i10, ↓reduceIte, q]
        · have a2 : nI (2 ^ aN a) ≤ x1 := by
            rw [fa_lt, e0] at q
            rw [fa_le, nI_toInt (by omega)]; omega
          simp only [f_X3_nestlings, nm_p, isPlace_t hC.1.1 h6 hs, hC.1.1, shl_n h6, i10, ↓reduceIte, q, a2]
      · simp only [f_X4_nestlings, nm_p, mRook_t hF.1 h6 hs, hF.1, a3, i10, ↓reduceIte]
  · refine ⟨μ, ν, -101, ?_, ?_, h.mono (by omega)⟩
    · simp only [f_X3_nestlings, nm_p, isPlace_f hC.1.1 h6 hx, ↓reduceIte]
    · simp only [f_X4_nestlings, nm_p, mRook_f hF.1 h6 hx, ↓reduceIte]
