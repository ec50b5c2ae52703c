/-! seating -/
def kM : Option (Nat × Nat) → Int32
  | none => -1
  | some (_, k) => nI k
theorem mput_e {ν : MM} {a : AS} {c : Nat} {x1 x2 x3 x4 x5 x6 x7 : Int32} (hO : OKS a) (hM : MS ν.1 3 4 9 a) (hn : ν.1 0 6 = nI (aN a)) (h0 : 0 < aN a) (h8 : ∀ i, i < aN a → ν.1 8 i = nI (md (aN a) c i)) : ∃ ν', MK ν'.1 (aN a) (oK (sK a) (md (aN a) c)) (oK (sT a) (md (aN a) c)) ∧ (∀ c, c ≠ 5 → c ≠ 6 → ν'.1 c = ν.1 c) ∧ ν'.2 = ν.2 ∧ ∀ ih, lp (fun i σ => b_X4_seating_114 x1 x2 x3 x4 x5 x6 x7 ih i σ.1 σ.2) fu (ν, (0 : Int32)) = g_X4_seating_183 ν' x1 x2 x3 x4 x5 x6 x7 ih := by
  have h6 := hO.2.1
  obtain ⟨⟨y, z⟩, ⟨hz, h1, h4, h5⟩, g⟩ := lpi (body := fun (ih : MM × Int32 × Int32 × Int32 → Option (MM × Int32)) i (σ : MM × Int32) => b_X4_seating_114 x1 x2 x3 x4 x5 x6 x7 ih i σ.1 σ.2) (fun k (s : MM × Int32) => s.2 = nI k ∧ (∀ i, i < k → s.1.1 5 i = nI (oK (sK a) (md (aN a) c) i) ∧ s.1.1 6 i = nI (oK (sT a) (md (aN a) c) i)) ∧ (∀ c, c ≠ 5 → c ≠ 6 → s.1.1 c = ν.1 c) ∧ s.1.2 = ν.2) (aN a) (by omega) (fun k s hk hs => by
    obtain ⟨s, z⟩ := s
    obtain ⟨hz, h1, h4, h5⟩ := hs
    have hz : z = nI k := hz
    subst hz
    have h1 : ∀ i, i < k → s.1 5 i = nI (oK (sK a) (md (aN a) c) i) ∧ s.1 6 i = nI (oK (sT a) (md (aN a) c) i) := h1
    have h4 : ∀ c, c ≠ 5 → c ≠ 6 → s.1 c = ν.1 c := h4
    have e06 : s.1 0 6 = nI (aN a) := by rw [h4 0 (by omega) (by omega)]; exact hn
    have c1 : ¬ nI (aN a) ≤ nI k := nI_ge hk (by omega)
    obtain ⟨d, ed⟩ : ∃ d, d = md (aN a) c k := ⟨_, rfl⟩
    have hd : d < aN a := by rw [ed]; exact Nat.mod_lt _ h0
    have e8 : s.1 8 k = nI d := by rw [h4 8 (by omega) (by omega), ed]; exact h8 k hk
    have hsd := (hO.2.2.1 d hd).2.2
    have e4 : s.1 4 d = nI (aS a d) := by rw [h4 4 (by omega) (by omega)]; exact (hM.1 d hd).2.2.2.1
    have e3 : s.1 3 (4 * aS a d) = nI (sK a d) := by rw [h4 3 (by omega) (by omega)]; exact (hM.1 _ hsd).1
    have e31 : s.1 3 (4 * aS a d + 1) = nI (sT a d) := by rw [h4 3 (by omega) (by omega)]; exact (hM.1 _ hsd).2.1
    refine ⟨(upM (upM s 5 k (nI (sK a d))) 6 k (nI (sT a d)), nI (k + 1)), ⟨rfl, fun i hi => ?_, fun c a1 a2 => ?_, h5⟩, fun ih i => ?_⟩
    · show up (up s.1 5 k (nI (sK a d))) 6 k (nI (sT a d)) 5 i = _ ∧ up (up s.1 5 k (nI (sK a d))) 6 k (nI (sT a d)) 6 i = _
      by_cases e : i = k
      · subst e
        rw [up_c (by omega), up_s, up_s, ed]
        exact ⟨rfl, rfl⟩
      · rw [up_c (by omega), up_k e, up_k e, up_c (by omega)]; exact h1 i (by omega)
    · show up (up s.1 5 k (nI (sK a d))) 6 k (nI (sT a d)) c = ν.1 c
      rw [up_c a2, up_c a1]; exact h4 c a1 a2
    · simp (disch := omega) only [b_X4_seating_114, nm, e06, c1, ↓reduceIte, ck_t (vin (N := 6) (show k < 6 by omega)), cl (j := k), e8, ck_t (vin (N := 6) (show d < 6 by omega)), cl (j := d), e4, ix4, ck_t (vin (N := 24) (show 4 * aS a d < 24 by omega)), cl (j := 4 * aS a d), e3, upM_1, up_c, nI_1, ck_t (vin (N := 24) (show 4 * aS a d + 1 < 24 by omega)), cl (j := 4 * aS a d + 1), e31]) (ν, (0 : Int32)) ⟨nI_0.symm, fun i hi => by omega, fun c _ _ => rfl, rfl⟩
  have hz : z = nI (aN a) := hz
  subst hz
  have h4 : ∀ c, c ≠ 5 → c ≠ 6 → y.1 c = ν.1 c := h4
  have e06 : y.1 0 6 = nI (aN a) := by rw [h4 0 (by omega) (by omega)]; exact hn
  have c1 : nI (aN a) ≤ nI (aN a) := nI_le (by omega) (by omega)
  refine ⟨y, ⟨e06, h1⟩, h4, h5, fun ih => ?_⟩
  obtain ⟨m, g⟩ := g ih
  rw [g]
  simp only [b_X4_seating_114, e06, c1, ↓reduceIte]
theorem pow_nn {n : Nat} (h : n ≤ 6) : n ^ n ≤ 46656 := by
  rcases (show n = 0 ∨ n = 1 ∨ n = 2 ∨ n = 3 ∨ n = 4 ∨ n = 5 ∨ n = 6 by omega) with rfl | rfl | rfl | rfl | rfl | rfl | rfl <;> decide
theorem mseat_e {ν : MM} {a : AS} {m c : Nat} {x3 : Int32} (hO : OKS a) (hM : MS ν.1 3 4 9 a) (hF : MF ν.1 a) (h3 : 3 ≤ aN a) (hm : m < 8) (hc : c < 8) : ∃ ν', g_X4_seating_86 ν (nI m) (nI c) x3 (nI (aN a ^ aN a)) = g_X4_seating_266 ν' x3 (bI (((List.range (aN a ^ aN a)).filterMap (gq (aN a))).foldl (nr (hitO (aN a) (sK a) (sT a) (aW a) m c)) none)) (kM (((List.range (aN a ^ aN a)).filterMap (gq (aN a))).foldl (nr (hitO (aN a) (sK a) (sT a) (aW a) m c)) none)) ∧ (∀ c, c ≠ 5 → c ≠ 6 → c ≠ 8 → ν'.1 c = ν.1 c) ∧ ν'.2 = ν.2 := by
  have h6 := hO.2.1
  have h0 : 0 < aN a := by omega
  have hB := hO.bk h0
  have hpn := pow_nn h6
  have hex := (same_orders h3 h6).2
  obtain ⟨hit, eh⟩ : ∃ hit, hit = hitO (aN a) (sK a) (sT a) (aW a) m c := ⟨_, rfl⟩
  rw [← eh]
  unfold g_X4_seating_86
  obtain ⟨⟨y, z⟩, p, ⟨h1, h4, h5⟩, h2⟩ := lp_fu (body := fun ih (σ : MM × Int32 × Int32 × Int32) => b_X4_seating_95 (nI m) (nI c) x3 (nI (aN a ^ aN a)) ih σ.1 σ.2.1 σ.2.2.1 σ.2.2.2) (fun k (x : MM × Int32 × Int32 × Int32) => x.2 = (bI (((List.range k).filterMap (gq (aN a))).foldl (nr hit) none), kM (((List.range k).filterMap (gq (aN a))).foldl (nr hit) none), nI k) ∧ (∀ c, c ≠ 5 → c ≠ 6 → c ≠ 8 → x.1.1 c = ν.1 c) ∧ x.1.2 = ν.2) (aN a ^ aN a) (by omega) (fun k x hk hx' => by
    obtain ⟨x, z⟩ := x
    obtain ⟨hz, h4, h5⟩ := hx'
    have hz : z = (bI (((List.range k).filterMap (gq (aN a))).foldl (nr hit) none), kM (((List.range k).filterMap (gq (aN a))).foldl (nr hit) none), nI k) := hz
    subst hz
    have h4 : ∀ c, c ≠ 5 → c ≠ 6 → c ≠ 8 → x.1 c = ν.1 c := h4
    have h5 : x.2 = ν.2 := h5
    have e06 : x.1 0 6 = nI (aN a) := by rw [h4 0 (by omega) (by omega) (by omega)]; exact hF.1
    obtain ⟨x1, l1, l2, l3, l4⟩ := isOrder_e (c := k) e06 h0 h6 (by omega)
    have c1 : ¬ nI (aN a ^ aN a) ≤ nI k := nI_ge hk (by omega)
    have hs : ((List.range (k + 1)).filterMap (gq (aN a))).foldl (nr hit) none = ([k].filterMap (gq (aN a))).foldl (nr hit) (((List.range k).filterMap (gq (aN a))).foldl (nr hit) none) := by
      rw [List.range_succ, List.filterMap_append, List.foldl_append]
    have hb := nr_lt hit ((List.range k).filterMap (gq (aN a))) none (fun b k e => by simp at e)
    obtain ⟨S, eS⟩ : ∃ S, S = ((List.range k).filterMap (gq (aN a))).foldl (nr hit) none := ⟨_, rfl⟩
    rw [← eS] at hs hb ⊢
    by_cases q : okk (aN a) k = true
    · rw [if_pos q] at l1
      obtain ⟨e, he⟩ := hex k hk q
      have hg : gq (aN a) k = some (8 * k + e) := by unfold gq; rw [if_pos q, he]; rfl
      have hs : ((List.range (k + 1)).filterMap (gq (aN a))).foldl (nr hit) none = nr hit S (8 * k + e) := by
        rw [hs]; simp only [List.filterMap_cons, hg, List.filterMap_nil, List.foldl_cons, List.foldl_nil]
      have hM1 : MS x1.1 3 4 9 a := hM.cong (fun c hc => by rw [l3 c (by omega)]; exact h4 c (by omega) (by omega) (by omega))
      have n1 : x1.1 0 6 = nI (aN a) := by rw [l3 0 (by omega)]; exact e06
      obtain ⟨x2, u1, u2, u3, u4⟩ := mput_e (x1 := nI m) (x2 := nI c) (x3 := x3) (x4 := nI (aN a ^ aN a)) (x5 := bI S) (x6 := kM S) (x7 := nI k) hO hM1 n1 h0 l2
      have hp : ∀ i, i < aN a → md (aN a) k i < aN a := fun i _ => Nat.mod_lt _ h0
      have ho := comesOf_e (hB.ord hp) u1 h0 hm
      have ho : f_X4_comesOf x2 0 (nI m) (nI (aW a)) = some (nI (CM (aN a) (oK (sK a) (md (aN a) k)) (oK (sT a) (md (aN a) k)) (aW a) 0 m)) := ho
      have hr := CM_lt (s := 0) (hB.ord hp) hm
      have e07 : x2.1 0 7 = nI (aW a) := by rw [u2 0 (by omega) (by omega), l3 0 (by omega), h4 0 (by omega) (by omega) (by omega)]; exact hF.2.1
      have n2 : x2.1 0 6 = nI (aN a) := by rw [u2 0 (by omega) (by omega)]; exact n1
      obtain ⟨w1, w2⟩ := exchanges_e n2 h0 h6 (fun i hi => by rw [u2 8 (by omega) (by omega)]; exact l2 i hi) he
      have q1 : (8 * k + e) / 8 = k := by omega
      have q2 : (8 * k + e) % 8 = e := by omega
      refine ⟨(x2, bI (nr hit S (8 * k + e)), kM (nr hit S (8 * k + e)), nI (k + 1)), ⟨by rw [hs], fun c a1 a2 a3 => by show x2.1 c = ν.1 c; rw [u2 c a1 a2, l3 c a3]; exact h4 c a1 a2 a3, by show x2.2 = ν.2; rw [u3, l4]; exact h5⟩, fun ih => ?_⟩
      have first : b_X4_seating_95 (nI m) (nI c) x3 (nI (aN a ^ aN a)) ih x (bI S) (kM S) (nI k) = g_X4_seating_183 x2 (nI m) (nI c) x3 (nI (aN a ^ aN a)) (bI S) (kM S) (nI k) ih := by
        unfold b_X4_seating_95
        rw [if_neg c1, l1, bd2_p, if_neg (by decide)]
        exact u4 ih
      show b_X4_seating_95 (nI m) (nI c) x3 (nI (aN a ^ aN a)) ih x (bI S) (kM S) (nI k) = _
      rw [first]
      by_cases g : CM (aN a) (oK (sK a) (md (aN a) k)) (oK (sT a) (md (aN a) k)) (aW a) 0 m = c
      · have hh : hit ((8 * k + e) / 8) = true := by rw [q1, eh]; unfold hitO; rw [g]; simp
        have d : (nI (CM (aN a) (oK (sK a) (md (aN a) k)) (oK (sT a) (md (aN a) k)) (aW a) 0 m) = nI c) = True := eq_true (by rw [g])
        rcases S with _ | ⟨b, kk⟩
        · have hn : nr hit none (8 * k + e) = some (e, 1) := by unfold nr; rw [if_pos hh, q2]
          rw [hn]
          simp only [g_X4_seating_183, g_X4_seating_216, g_X4_seating_236, g_X4_seating_251, g_X4_seating_258, g_X4_seating_260, e07, ho, w1, bd, Option.bind_some, d, ↓reduceIte, bI, kM, nI_1]
          rfl
        · have hb := hb b kk rfl
          have dm : (nI b = (-1 : Int32)) = False := eq_false (nI_nm1 (by omega))
          rcases Nat.lt_trichotomy e b with t | t | t
          · have hn : nr hit (some (b, kk)) (8 * k + e) = some (e, 1) := by unfold nr; rw [if_pos hh, q2]; dsimp only; rw [if_pos t]
            have d2 : ¬ nI b ≤ nI e := nI_ge t (by omega)
            rw [hn]
            simp only [g_X4_seating_183, g_X4_seating_216, g_X4_seating_236, g_X4_seating_251, g_X4_seating_258, g_X4_seating_260, e07, ho, w1, bd, Option.bind_some, d, ↓reduceIte, bI, kM, nI_1, dm, d2]
            rfl
          · have hn : nr hit (some (b, kk)) (8 * k + e) = some (b, kk + 1) := by unfold nr; rw [if_pos hh, q2]; dsimp only; rw [if_neg (by omega), if_pos t]
            have d2 : nI b ≤ nI e := nI_le (by omega) (by omega)
            have d4 : (nI e = nI b) = True := eq_true (by rw [t])
            rw [hn]
            simp only [g_X4_seating_183, g_X4_seating_236, g_X4_seating_258, g_X4_seating_260, e07, ho, w1, bd, Option.bind_some, d, ↓reduceIte, bI, kM, nI_1, dm, d2, d4]
          · have hn : nr hit (some (b, kk)) (8 * k + e) = some (b, kk) := by unfold nr; rw [if_pos hh, q2]; dsimp only; rw [if_neg (by omega), if_neg (by omega)]
            have d2 : nI b ≤ nI e := nI_le (by omega) (by omega)
            have d4 : (nI e = nI b) = False := eq_false (by rw [nI_eq (by omega) (by omega)]; omega)
            rw [hn]
            simp only [g_X4_seating_183, g_X4_seating_236, g_X4_seating_258, g_X4_seating_260, e07, ho, w1, bd, Option.bind_some, d, ↓reduceIte, bI, kM, nI_1, dm, d2, d4]
      · have hh : ¬ hit ((8 * k + e) / 8) = true := by
          rw [q1, eh]; unfold hitO
          intro q
          exact g (of_decide_eq_true q)
        have d : (nI (CM (aN a) (oK (sK a) (md (aN a) k)) (oK (sT a) (md (aN a) k)) (aW a) 0 m) = nI c) = False := eq_false (by rw [nI_eq (by omega) (by omega)]; exact g)
        have hn : nr hit S (8 * k + e) = S := by unfold nr; rw [if_neg hh]
        rw [hn]
        simp only [g_X4_seating_183, g_X4_seating_260, e07, ho, bd, Option.bind_some, d, ↓reduceIte, nI_1]
    · rw [if_neg q] at l1
      have hg : gq (aN a) k = none := by unfold gq; rw [if_neg q]
      have hs : ((List.range (k + 1)).filterMap (gq (aN a))).foldl (nr hit) none = S := by
        rw [hs]; simp only [List.filterMap_cons, hg, List.filterMap_nil, List.foldl_nil]
      refine ⟨(x1, bI S, kM S, nI (k + 1)), ⟨by rw [hs], fun c a1 a2 a3 => by show x1.1 c = ν.1 c; rw [l3 c a3]; exact h4 c a1 a2 a3, by show x1.2 = ν.2; rw [l4]; exact h5⟩, fun ih => ?_⟩
      show b_X4_seating_95 (nI m) (nI c) x3 (nI (aN a ^ aN a)) ih x (bI S) (kM S) (nI k) = _
      unfold b_X4_seating_95
      rw [if_neg c1, l1, bd2_p, if_pos rfl]
      unfold g_X4_seating_260
      rw [nI_1]) (ν, (-1 : Int32), (-1 : Int32), (0 : Int32)) ⟨rfl, fun c _ _ _ => rfl, rfl⟩
  have h1 : z = (bI (((List.range (aN a ^ aN a)).filterMap (gq (aN a))).foldl (nr hit) none), kM (((List.range (aN a ^ aN a)).filterMap (gq (aN a))).foldl (nr hit) none), nI (aN a ^ aN a)) := h1
  subst h1
  refine ⟨y, ?_, h4, h5⟩
  rw [h2]
  have c1 : nI (aN a ^ aN a) ≤ nI (aN a ^ aN a) := nI_le (by omega) (by omega)
  show b_X4_seating_95 (nI m) (nI c) x3 (nI (aN a ^ aN a)) _ y _ _ (nI (aN a ^ aN a)) = _
  unfold b_X4_seating_95
  rw [if_pos c1]
