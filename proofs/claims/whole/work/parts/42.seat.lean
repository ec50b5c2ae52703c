/-! the class's seatings -/
theorem cr_cong {n : Nat} {K T K' T' : Nat → Nat} {w s m : Nat} (h0 : 0 < n) (h : ∀ i, i < n → K i = K' i ∧ T i = T' i) : ∀ k, cr n K T w s m k = cr n K' T' w s m k
  | 0 => rfl
  | k + 1 => by
    have hh := h ((s + (k + 1)) % n) (Nat.mod_lt _ h0)
    rw [cr, cr, cr_cong h0 h k, hh.1, hh.2]
theorem CM_cong {n : Nat} {K T K' T' : Nat → Nat} {w s m : Nat} (h0 : 0 < n) (h : ∀ i, i < n → K i = K' i ∧ T i = T' i) : CM n K T w s m = CM n K' T' w s m := by
  unfold CM; rw [cr_cong h0 h]
theorem enc_d {n : Nat} {p : Nat → Nat} (h0 : 0 < n) : ∀ k, (∀ i, i < k → p i < n) → enc n p k < n ^ k ∧ ∀ i, i < k → enc n p k / n ^ i % n = p i
  | 0, _ => ⟨by rw [enc]; exact Nat.pow_pos h0, fun i hi => by omega⟩
  | k + 1, h => by
    obtain ⟨h1, h2⟩ := enc_d h0 k (fun i hi => h i (by omega))
    have hp := h k (by omega)
    have hpk : 0 < n ^ k := Nat.pow_pos h0
    refine ⟨?_, fun i hi => ?_⟩
    · rw [enc, Nat.pow_succ, Nat.mul_comm (n ^ k) n]
      have : p k * n ^ k + n ^ k ≤ n * n ^ k := by
        rw [← Nat.succ_mul]
        exact Nat.mul_le_mul_right _ hp
      omega
    · rw [enc]
      by_cases e : i = k
      · subst e
        rw [Nat.add_mul_div_right _ _ hpk, Nat.div_eq_of_lt h1, Nat.zero_add, Nat.mod_eq_of_lt hp]
      · obtain ⟨d, hd⟩ : ∃ d, k = i + (d + 1) := ⟨k - i - 1, by omega⟩
        have hpi : 0 < n ^ i := Nat.pow_pos h0
        have he : p k * n ^ k = (p k * n ^ d * n) * n ^ i := by
          rw [hd, Nat.pow_add, Nat.pow_succ, Nat.mul_comm (n ^ i), Nat.mul_assoc, Nat.mul_assoc, Nat.mul_assoc]
        rw [he, Nat.add_mul_div_right _ _ hpi, Nat.add_mul_mod_self_right]
        exact h2 i (by omega)
theorem cs_b {n c : Nat} : ∀ j, j + 1 ≤ n → (∀ i, i < n → (cs c j).1 i < n) ∧ (cs c j).2.1 ≤ c ∧ (cs c j).2.2 ≤ j
  | 0, _ => ⟨fun i hi => hi, Nat.le_refl _, Nat.le_refl _⟩
  | j + 1, hj => by
    obtain ⟨h1, h2, h3⟩ := cs_b (n := n) (c := c) j (by omega)
    have hd : (cs c j).2.1 % (j + 2) < j + 2 := Nat.mod_lt _ (by omega)
    have hq : (cs c j).2.1 / (j + 2) ≤ (cs c j).2.1 := Nat.div_le_self _ _
    rw [cs]
    split
    · exact ⟨h1, by show (cs c j).2.1 / (j + 2) ≤ c; omega, by show (cs c j).2.2 ≤ j + 1; omega⟩
    · refine ⟨fun i hi => ?_, by show (cs c j).2.1 / (j + 2) ≤ c; omega, by show (cs c j).2.2 + 1 ≤ j + 1; omega⟩
      show swp (cs c j).1 (j + 1) ((cs c j).2.1 % (j + 2)) i < n
      unfold swp
      split
      · exact h1 _ (by omega)
      · split
        · exact h1 _ (by omega)
        · exact h1 _ hi
abbrev oK (K : Nat → Nat) (p : Nat → Nat) : Nat → Nat := fun i => K (p i)
theorem BK.ord {n : Nat} {K T : Nat → Nat} {w : Nat} (hB : BK n K T w) {p : Nat → Nat} (hp : ∀ i, i < n → p i < n) : BK n (oK K p) (oK T p) w := ⟨hB.1, hB.2.1, fun i hi => hB.2.2.1 _ (hp i hi), hB.2.2.2⟩
theorem swap_e {μ : Mem} {n : Nat} {K T : Nat → Nat} {w x y : Nat} {p : Nat → Nat} (h : CK μ n (oK K p) (oK T p) w) (hn : n ≤ 6) (hx : x < n) (hy : y < n) : ∃ μ', f_X0_swap μ (nI x) (nI y) = some μ' ∧ CK μ' n (oK K (swp p x y)) (oK T (swp p x y)) w ∧ ∀ c, c ≠ 20 → c ≠ 21 → μ' c = μ c := by
  refine ⟨up (up (up (up μ 20 x (μ 20 y)) 21 x (μ 21 y)) 20 y (μ 20 x)) 21 y (μ 21 x), ?_, ⟨?_, ?_, fun i hi => ?_⟩, fun c a1 a2 => ?_⟩
  · simp only [f_X0_swap, f_X0_put, nm, ck_t (vin (N := 6) (show x < 6 by omega)), cl (j := x), ck_t (vin (N := 6) (show y < 6 by omega)), cl (j := y), bd, Option.bind_some]
  · simp (disch := omega) only [up_c]; exact h.1
  · simp (disch := omega) only [up_c]; exact h.2.1
  · have hi' := h.2.2 i hi
    have hx' := h.2.2 x hx
    have hy' := h.2.2 y hy
    unfold oK swp
    by_cases e1 : i = y
    · subst e1
      simp (disch := omega) only [up_c, up_s, ↓reduceIte]
      exact hx'
    · by_cases e2 : i = x
      · subst e2
        simp (disch := omega) only [up_c, up_k, up_s, e1, ↓reduceIte]
        exact hy'
      · simp (disch := omega) only [up_c, up_k, e1, e2, ↓reduceIte]
        exact hi'
  · simp (disch := omega) only [up_c]
theorem seatByOrder_e {μ : Mem} {a : AS} {c : Nat} (hO : OKS a) (hC : CS μ 3 4 5 6 7 8 9 10 a) (h0 : 0 < aN a) (hc : c < 100000) : ∃ μ', f_X3_seatByOrder μ (nI c) = some (μ', nI (cs c (aN a - 1)).2.2) ∧ CK μ' (aN a) (oK (sK a) (cs c (aN a - 1)).1) (oK (sT a) (cs c (aN a - 1)).1) (aW a) ∧ ∀ c, c < 19 → μ' c = μ c := by
  have h6 := hO.2.1
  obtain ⟨μ1, e1, k1, k2⟩ := seatAll_e hO hC
  simp only [f_X3_seatByOrder, e1, bd, Option.bind_some]
  obtain ⟨⟨y, z⟩, p, ⟨h1, h3, h4⟩, h2⟩ := lp_fu (body := fun ih σ => b_X3_seatByOrder_18 ih σ.1 σ.2.1 σ.2.2.1 σ.2.2.2) (fun j (x : Mem × Int32 × Int32 × Int32) => x.2 = (nI (cs c j).2.1, nI (cs c j).2.2, nI (j + 1)) ∧ CK x.1 (aN a) (oK (sK a) (cs c j).1) (oK (sT a) (cs c j).1) (aW a) ∧ ∀ c, c < 19 → x.1 c = μ c) (aN a - 1) (by omega) (fun j x hj hx' => by
    obtain ⟨x, z⟩ := x
    obtain ⟨hz, h3, h4⟩ := hx'
    have hz : z = (nI (cs c j).2.1, nI (cs c j).2.2, nI (j + 1)) := hz
    subst hz
    have h3 : CK x (aN a) (oK (sK a) (cs c j).1) (oK (sT a) (cs c j).1) (aW a) := h3
    have h4 : ∀ c, c < 19 → x c = μ c := h4
    obtain ⟨b1, b2, b3⟩ := cs_b (n := aN a) (c := c) j (by omega)
    have e37 : x 3 7 = nI (aN a) := by rw [h4 3 (by omega)]; exact hC.1.1
    have c1 : ¬ nI (aN a) ≤ nI (j + 1) := nI_ge (by omega) (by omega)
    have c2 : ¬ nI (j + 1 + 1) = 0 := nI_ne0 (by omega) (by omega)
    have d2 : nI (cs c j).2.1 / nI (j + 1 + 1) = nI ((cs c j).2.1 / (j + 2)) := pk_div (by omega) (by omega) (by omega)
    have d1 : nI (cs c j).2.1 - nI ((cs c j).2.1 / (j + 2)) * nI (j + 1 + 1) = nI ((cs c j).2.1 % (j + 2)) := by rw [← d2]; exact pk_rem (by omega) (by omega) (by omega)
    have hd : (cs c j).2.1 % (j + 2) < j + 2 := Nat.mod_lt _ (by omega)
    by_cases q : (cs c j).2.1 % (j + 2) = j + 1
    · have es : cs c (j + 1) = ((cs c j).1, (cs c j).2.1 / (j + 2), (cs c j).2.2) := by rw [cs, if_pos q]
      have d3 : (nI ((cs c j).2.1 % (j + 2)) = nI (j + 1)) = True := eq_true (by rw [q])
      refine ⟨(x, nI ((cs c j).2.1 / (j + 2)), nI (cs c j).2.2, nI (j + 1 + 1)), ⟨by rw [es], by rw [es]; exact h3, h4⟩, fun ih => ?_⟩
      simp only [b_X3_seatByOrder_18, g_X3_seatByOrder_66, nm, e37, c1, ↓reduceIte, nI_1, ck_t c2, d1, d2, d3]
    · have es : cs c (j + 1) = (swp (cs c j).1 (j + 1) ((cs c j).2.1 % (j + 2)), (cs c j).2.1 / (j + 2), (cs c j).2.2 + 1) := by rw [cs, if_neg q]
      have d3 : (nI ((cs c j).2.1 % (j + 2)) = nI (j + 1)) = False := eq_false (by rw [nI_eq (by omega) (by omega)]; exact q)
      obtain ⟨x', l1, l2, l3⟩ := swap_e (x := j + 1) (y := (cs c j).2.1 % (j + 2)) h3 h6 (by omega) (by omega)
      refine ⟨(x', nI ((cs c j).2.1 / (j + 2)), nI ((cs c j).2.2 + 1), nI (j + 1 + 1)), ⟨by rw [es], by rw [es]; exact l2, fun c hc => by show x' c = μ c; rw [l3 c (by omega) (by omega)]; exact h4 c hc⟩, fun ih => ?_⟩
      simp only [b_X3_seatByOrder_18, g_X3_seatByOrder_66, nm, e37, c1, ↓reduceIte, nI_1, ck_t c2, d1, d2, d3, l1, bd, Option.bind_some]) (μ1, nI c, (0 : Int32), (1 : Int32)) ⟨rfl, k1, fun c hc => k2 c (by omega) (by omega) (by omega)⟩
  have h1 : z = (nI (cs c (aN a - 1)).2.1, nI (cs c (aN a - 1)).2.2, nI (aN a - 1 + 1)) := h1
  subst h1
  have h4 : ∀ c, c < 19 → y c = μ c := h4
  refine ⟨y, ?_, h3, h4⟩
  have e37 : y 3 7 = nI (aN a) := by rw [h4 3 (by omega)]; exact hC.1.1
  have c1 : nI (aN a) ≤ nI (aN a - 1 + 1) := nI_le (by omega) (by omega)
  rw [h2]
  simp only [b_X3_seatByOrder_18, e37, c1, ↓reduceIte]
theorem fct_le {n : Nat} (h : n ≤ 6) : fct n ≤ 720 := by
  rcases (show n = 0 ∨ n = 1 ∨ n = 2 ∨ n = 3 ∨ n = 4 ∨ n = 5 ∨ n = 6 by omega) with rfl | rfl | rfl | rfl | rfl | rfl | rfl <;> decide
theorem ordersOf_e {μ : Mem} {n : Nat} (h0 : 0 < n) (h6 : n ≤ 6) : f_X3_ordersOf μ (nI n) = some (nI (fct n)) := by
  unfold f_X3_ordersOf
  obtain ⟨y, m, rfl, h2⟩ := lp_fu (body := fun ih σ => b_X3_ordersOf_4 μ (nI n) ih σ.1 σ.2) (fun k x => x = (nI (fct (k + 1)), nI (k + 2))) (n - 1) (by omega) (fun k x hk hx' => by
    subst hx'
    refine ⟨_, rfl, fun ih => ?_⟩
    have c1 : ¬ nI n < nI (k + 2) := nI_nlt (by omega) (by omega)
    have e : nI (fct (k + 1)) * nI (k + 2) = nI (fct (k + 1 + 1)) := by rw [pk_mul, show fct (k + 1 + 1) = (k + 2) * fct (k + 1) from rfl, Nat.mul_comm]
    simp only [b_X3_ordersOf_4, nm, c1, ↓reduceIte, e, nI_1]) ((1 : Int32), (2 : Int32)) rfl
  rw [h2]
  have c1 : nI n < nI (n - 1 + 2) := nI_lt (by omega) (by omega)
  have e : n - 1 + 1 = n := by omega
  simp only [b_X3_ordersOf_4, c1, ↓reduceIte, e]
def bI : Option (Nat × Nat) → Int32
  | none => -1
  | some (b, _) => nI b
def kI : Option (Nat × Nat) → Int32
  | none => 0
  | some (_, k) => nI k
def hitO (n : Nat) (K T : Nat → Nat) (w m c : Nat) (P : Nat) : Bool := decide (CM n (oK K (md n P)) (oK T (md n P)) w 0 m = c)
theorem nearest_e {μ : Mem} {a : AS} {m c : Nat} {x3 : Int32} (hO : OKS a) (hC : CS μ 3 4 5 6 7 8 9 10 a) (h0 : 0 < aN a) (hm : m < 8) (hc : c < 8) : ∃ μ', f_X3_nearestSeatings μ (nI m) (nI c) x3 = g_X3_nearestSeatings_88 μ' x3 (bI (((List.range (fct (aN a))).map (it (aN a))).foldl (nr (hitO (aN a) (sK a) (sT a) (aW a) m c)) none)) (kI (((List.range (fct (aN a))).map (it (aN a))).foldl (nr (hitO (aN a) (sK a) (sT a) (aW a) m c)) none)) ∧ ∀ c, c < 19 → μ' c = μ c := by
  have h6 := hO.2.1
  have hB := hO.bk h0
  have hf := fct_le h6
  simp only [f_X3_nearestSeatings, hC.1.1, ordersOf_e h0 h6, bd, Option.bind_some]
  obtain ⟨hit, eh⟩ : ∃ hit, hit = hitO (aN a) (sK a) (sT a) (aW a) m c := ⟨_, rfl⟩
  rw [← eh]
  obtain ⟨⟨y, z⟩, p, ⟨h1, h4⟩, h2⟩ := lp_fu (body := fun ih σ => b_X3_nearestSeatings_21 (nI m) (nI c) x3 (nI (fct (aN a))) ih σ.1 σ.2.1 σ.2.2.1 σ.2.2.2) (fun k (x : Mem × Int32 × Int32 × Int32) => x.2 = (bI (((List.range k).map (it (aN a))).foldl (nr hit) none), kI (((List.range k).map (it (aN a))).foldl (nr hit) none), nI k) ∧ ∀ c, c < 19 → x.1 c = μ c) (fct (aN a)) (by omega) (fun k x hk hx' => by
    obtain ⟨x, z⟩ := x
    obtain ⟨hz, h4⟩ := hx'
    have hz : z = (bI (((List.range k).map (it (aN a))).foldl (nr hit) none), kI (((List.range k).map (it (aN a))).foldl (nr hit) none), nI k) := hz
    subst hz
    have h4 : ∀ c, c < 19 → x c = μ c := h4
    have hC' : CS x 3 4 5 6 7 8 9 10 a := hC.cong (fun c hc => h4 c (by omega))
    obtain ⟨x', l1, l2, l3⟩ := seatByOrder_e (c := k) hO hC' h0 (by omega)
    obtain ⟨b1, b2, b3⟩ := cs_b (n := aN a) (c := k) (aN a - 1) (by omega)
    have ho := outcome_e (hB.ord b1) l2 h0 hm
    have ho : f_X0_outcome x' 0 (nI m) = some (nI (CM (aN a) (oK (sK a) (cs k (aN a - 1)).1) (oK (sT a) (cs k (aN a - 1)).1) (aW a) 0 m)) := ho
    have hr := CM_lt (s := 0) (hB.ord b1) hm
    have q1 : it (aN a) k / 8 = enc (aN a) (cs k (aN a - 1)).1 (aN a) := by unfold it; omega
    have q2 : it (aN a) k % 8 = (cs k (aN a - 1)).2.2 := by unfold it; omega
    have hcm : CM (aN a) (oK (sK a) (cs k (aN a - 1)).1) (oK (sT a) (cs k (aN a - 1)).1) (aW a) 0 m = CM (aN a) (oK (sK a) (md (aN a) (it (aN a) k / 8))) (oK (sT a) (md (aN a) (it (aN a) k / 8))) (aW a) 0 m := CM_cong h0 (fun i hi => by
      have := (enc_d h0 (aN a) b1).2 i hi
      unfold oK md
      rw [q1, this]
      exact ⟨rfl, rfl⟩)
    have hs : ((List.range (k + 1)).map (it (aN a))).foldl (nr hit) none = nr hit (((List.range k).map (it (aN a))).foldl (nr hit) none) (it (aN a) k) := by
      rw [List.range_succ, List.map_append, List.foldl_append]
      rfl
    have hb := nr_lt hit ((List.range k).map (it (aN a))) none (fun b k e => by simp at e)
    obtain ⟨S, eS⟩ : ∃ S, S = ((List.range k).map (it (aN a))).foldl (nr hit) none := ⟨_, rfl⟩
    rw [← eS] at hs hb ⊢
    have c1 : ¬ nI (fct (aN a)) ≤ nI k := nI_ge hk (by omega)
    obtain ⟨e, ee⟩ : ∃ e, e = (cs k (aN a - 1)).2.2 := ⟨_, rfl⟩
    rw [← ee] at l1 q2 b3
    refine ⟨(x', bI (nr hit S (it (aN a) k)), kI (nr hit S (it (aN a) k)), nI (k + 1)), ⟨by rw [hs], fun c hc => by show x' c = μ c; rw [l3 c hc]; exact h4 c hc⟩, fun ih => ?_⟩
    by_cases g : CM (aN a) (oK (sK a) (cs k (aN a - 1)).1) (oK (sT a) (cs k (aN a - 1)).1) (aW a) 0 m = c
    · have hh : hit (it (aN a) k / 8) = true := by rw [eh]; unfold hitO; rw [← hcm, g]; simp
      have d : (nI (CM (aN a) (oK (sK a) (cs k (aN a - 1)).1) (oK (sT a) (cs k (aN a - 1)).1) (aW a) 0 m) = nI c) = True := eq_true (by rw [g])
      rcases S with _ | ⟨b, kk⟩
      · have hn : nr hit none (it (aN a) k) = some (e, 1) := by unfold nr; rw [if_pos hh, q2]
        rw [hn]
        simp only [b_X3_nearestSeatings_21, g_X3_nearestSeatings_65, g_X3_nearestSeatings_72, g_X3_nearestSeatings_82, c1, ↓reduceIte, l1, ho, bd, bd2, Option.bind_some, d, bI, kI, nI_1]
        rfl
      · have hb := hb b kk rfl
        have dm : (nI b = (-1 : Int32)) = False := eq_false (nI_nm1 (by omega))
        rcases Nat.lt_trichotomy e b with t | t | t
        · have hn : nr hit (some (b, kk)) (it (aN a) k) = some (e, 1) := by unfold nr; rw [if_pos hh, q2]; dsimp only; rw [if_pos t]
          have d2 : ¬ nI b ≤ nI e := nI_ge t (by omega)
          rw [hn]
          simp only [b_X3_nearestSeatings_21, g_X3_nearestSeatings_65, g_X3_nearestSeatings_72, g_X3_nearestSeatings_82, c1, ↓reduceIte, l1, ho, bd, bd2, Option.bind_some, d, bI, kI, nI_1, dm, d2]
          rfl
        · have hn : nr hit (some (b, kk)) (it (aN a) k) = some (b, kk + 1) := by unfold nr; rw [if_pos hh, q2]; dsimp only; rw [if_neg (by omega), if_pos t]
          have d2 : nI b ≤ nI e := nI_le (by omega) (by omega)
          have d4 : (nI e = nI b) = True := eq_true (by rw [t])
          rw [hn]
          simp only [b_X3_nearestSeatings_21, g_X3_nearestSeatings_72, g_X3_nearestSeatings_82, c1, ↓reduceIte, l1, ho, bd, bd2, Option.bind_some, d, bI, kI, nI_1, dm, d2, d4]
        · have hn : nr hit (some (b, kk)) (it (aN a) k) = some (b, kk) := by unfold nr; rw [if_pos hh, q2]; dsimp only; rw [if_neg (by omega), if_neg (by omega)]
          have d2 : nI b ≤ nI e := nI_le (by omega) (by omega)
          have d4 : (nI e = nI b) = False := eq_false (by rw [nI_eq (by omega) (by omega)]; omega)
          rw [hn]
          simp only [b_X3_nearestSeatings_21, g_X3_nearestSeatings_72, g_X3_nearestSeatings_82, c1, ↓reduceIte, l1, ho, bd, bd2, Option.bind_some, d, bI, kI, nI_1, dm, d2, d4]
    · have hh : ¬ hit (it (aN a) k / 8) = true := by
        rw [eh]; unfold hitO; rw [← hcm]
        intro q
        exact g (of_decide_eq_true q)
      have d : (nI (CM (aN a) (oK (sK a) (cs k (aN a - 1)).1) (oK (sT a) (cs k (aN a - 1)).1) (aW a) 0 m) = nI c) = False := eq_false (by rw [nI_eq (by omega) (by omega)]; exact g)
      have hn : nr hit S (it (aN a) k) = S := by unfold nr; rw [if_neg hh]
      rw [hn]
      simp only [b_X3_nearestSeatings_21, g_X3_nearestSeatings_82, c1, ↓reduceIte, l1, ho, bd, bd2, Option.bind_some, d, nI_1]) (μ, (-1 : Int32), (0 : Int32), (0 : Int32)) ⟨rfl, fun c _ => rfl⟩
  have h1 : z = (bI (((List.range (fct (aN a))).map (it (aN a))).foldl (nr hit) none), kI (((List.range (fct (aN a))).map (it (aN a))).foldl (nr hit) none), nI (fct (aN a))) := h1
  subst h1
  refine ⟨y, ?_, h4⟩
  rw [h2]
  have c1 : nI (fct (aN a)) ≤ nI (fct (aN a)) := nI_le (by omega) (by omega)
  simp only [b_X3_nearestSeatings_21, c1, ↓reduceIte]
