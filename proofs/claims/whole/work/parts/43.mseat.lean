/-! the reference's seatings -/
theorem or64 {v d : Nat} (hv : v < 64) (hd : d < 6) : v ||| 2 ^ d < 64 := Nat.or_lt_two_pow (n := 6) hv (Nat.pow_lt_pow_right (by omega) hd)
theorem isOrder_e {ν : MM} {n c : Nat} (hn : ν.1 0 6 = nI n) (h0 : 0 < n) (h6 : n ≤ 6) (hc : c < 2 ^ 31) : ∃ ν', f_X4_isOrder ν (nI c) = some (ν', if okk n c = true then 1 else 0) ∧ (∀ i, i < n → ν'.1 8 i = nI (md n c i)) ∧ (∀ c, c ≠ 8 → ν'.1 c = ν.1 c) ∧ ν'.2 = ν.2 := by
  have hne : ¬ nI n = 0 := nI_ne0 h0 (by omega)
  unfold f_X4_isOrder
  obtain ⟨⟨y, z⟩, p, ⟨mk, hz, hm, hk, h1, h3, h4⟩, h2⟩ := lp_fu (body := fun ih (σ : MM × Int32 × Int32 × Int32) => b_X4_isOrder_7 ih σ.1 σ.2.1 σ.2.2.1 σ.2.2.2) (fun k (x : MM × Int32 × Int32 × Int32) => ∃ mk, x.2 = (nI (c / n ^ k), nI mk, nI k) ∧ mk < 64 ∧ om n n c 0 = om n (n - k) (c / n ^ k) mk ∧ (∀ i, i < k → x.1.1 8 i = nI (md n c i)) ∧ (∀ c, c ≠ 8 → x.1.1 c = ν.1 c) ∧ x.1.2 = ν.2) n (by omega) (fun k x hk hx' => by
    obtain ⟨x, z⟩ := x
    obtain ⟨mk, hz, hm, ho, h1, h3, h4⟩ := hx'
    have hz : z = (nI (c / n ^ k), nI mk, nI k) := hz
    subst hz
    have h1 : ∀ i, i < k → x.1 8 i = nI (md n c i) := h1
    have h3 : ∀ c, c ≠ 8 → x.1 c = ν.1 c := h3
    have e06 : x.1 0 6 = nI n := by rw [h3 0 (by omega)]; exact hn
    have hd : md n c k < n := Nat.mod_lt _ h0
    have hle : c / n ^ k ≤ c := Nat.div_le_self _ _
    have c1 : ¬ nI n ≤ nI k := nI_ge hk (by omega)
    have d2 : nI (c / n ^ k) / nI n = nI (c / n ^ (k + 1)) := by rw [pk_div (by omega) h0 (by omega), Nat.div_div_eq_div_mul, Nat.pow_succ]
    have d1 : nI (c / n ^ k) - nI (c / n ^ (k + 1)) * nI n = nI (md n c k) := by rw [← d2]; exact pk_rem (by omega) h0 (by omega)
    have e06' : (upM x 8 k (nI (md n c k))).1 0 6 = nI n := by rw [upM_1, up_c (by omega)]; exact e06
    have e8 : (upM x 8 k (nI (md n c k))).1 8 k = nI (md n c k) := by rw [upM_1, up_s]
    have d3 : nI mk ||| nI (2 ^ md n c k) = nI (mk ||| 2 ^ md n c k) := fa_or _ _
    refine ⟨(upM x 8 k (nI (md n c k)), nI (c / n ^ (k + 1)), nI (mk ||| 2 ^ md n c k), nI (k + 1)), ⟨mk ||| 2 ^ md n c k, rfl, or64 hm (by omega), ?_, fun i hi => ?_, fun c' hc => ?_, h4⟩, fun ih => ?_⟩
    · rw [ho, show n - k = n - (k + 1) + 1 by omega, om, Nat.div_div_eq_div_mul, ← Nat.pow_succ]
      rfl
    · show up x.1 8 k (nI (md n c k)) 8 i = _
      by_cases e : i = k
      · rw [e, up_s]
      · rw [up_k e]; exact h1 i (by omega)
    · show up x.1 8 k (nI (md n c k)) c' = _
      rw [up_c hc]; exact h3 c' hc
    · simp only [b_X4_isOrder_7, nm, e06, c1, ↓reduceIte, ck_t hne, d2, d1, ck_t (vin (N := 6) (show k < 6 by omega)), cl (j := k), e8, e06', shl_n (show md n c k ≤ 6 by omega), d3, nI_1]) (ν, nI c, (0 : Int32), (0 : Int32)) ⟨0, by rw [Nat.pow_zero, Nat.div_one]; rfl, by omega, by rw [Nat.pow_zero, Nat.div_one]; rfl, fun i hi => by omega, fun c _ => rfl, rfl⟩
  have hz : z = (nI (c / n ^ n), nI mk, nI n) := hz
  subst hz
  have h3 : ∀ c, c ≠ 8 → y.1 c = ν.1 c := h3
  have e06 : y.1 0 6 = nI n := by rw [h3 0 (by omega)]; exact hn
  have c1 : nI n ≤ nI n := nI_le (by omega) (by omega)
  refine ⟨y, ?_, h1, h3, h4⟩
  have hp := pow_le6 h6
  have e1 : nI (2 ^ n) - 1 = nI (2 ^ n - 1) := show nI (2 ^ n) - nI 1 = _ from pk_sub (Nat.two_pow_pos _)
  rw [Nat.sub_self, om] at hk
  rw [h2]
  by_cases q : mk = 2 ^ n - 1
  · have ho : okk n c = true := by unfold okk; rw [hk, q]; simp
    have d : (nI mk = nI (2 ^ n - 1)) = True := eq_true (by rw [q])
    rw [if_pos ho]
    simp only [b_X4_isOrder_7, g_X4_isOrder_54, e06, c1, ↓reduceIte, shl_n h6, e1, d]
  · have ho : ¬ okk n c = true := by unfold okk; rw [hk]; simp [q]
    have d : (nI mk = nI (2 ^ n - 1)) = False := eq_false (by rw [nI_eq (by omega) (by omega)]; exact q)
    rw [if_neg ho]
    simp only [b_X4_isOrder_7, g_X4_isOrder_54, e06, c1, ↓reduceIte, shl_n h6, e1, d]
theorem tb_bq (v x : Nat) : v.testBit x = decide (bq v x = 1) := by unfold bq; rw [Nat.testBit_eq_decide_div_mod_eq]
theorem iw_e {ν : MM} {n c : Nat} {x1 x3 : Int32} {ih6 : Int32 × Int32 × Int32 → Option Int32} (h0 : 0 < n) (h6 : n ≤ 6) (h8 : ∀ i, i < n → ν.1 8 i = nI (md n c i)) : ∀ (f v x v' g : Nat), iw n c f v x = some v' → v < 64 → x < n → f ≤ g → lp (fun ih σ => b_X4_exchanges_33 ν x1 x3 ih6 ih σ.1 σ.2) g (nI v, nI x) = g_X4_exchanges_61 ν x1 (nI v') x3 ih6 ∧ v' < 64
  | 0, v, x, v', g, h, _, _, _ => by exact absurd h (by simp [iw])
  | f + 1, v, x, v', 0, _, _, _, hg => by omega
  | f + 1, v, x, v', g + 1, h, hv, hx, hg => by
    rw [iw] at h
    rw [lp_s]
    show b_X4_exchanges_33 ν x1 x3 ih6 _ (nI v) (nI x) = _ ∧ _
    unfold b_X4_exchanges_33 nm
    dsimp only
    rw [bq_i hv (by omega)]
    by_cases q : v.testBit x = true
    · rw [if_pos q] at h
      have e : v = v' := by simpa using h
      subst e
      have hb : bq v x = 1 := by rw [tb_bq] at q; exact of_decide_eq_true q
      rw [hb, if_neg (by decide)]
      exact ⟨rfl, hv⟩
    · rw [if_neg q] at h
      have hb : bq v x = 0 := by
        have := bq_lt v x
        rw [tb_bq] at q
        have : ¬ bq v x = 1 := fun e => q (decide_eq_true e)
        omega
      have d3 : nI v ||| nI (2 ^ x) = nI (v ||| 2 ^ x) := fa_or _ _
      rw [hb, if_pos (show nI 0 = 0 from rfl), ck_t (vin (N := 6) (show x < 6 by omega)), cl (j := x), h8 x hx, shl_n (show x ≤ 6 by omega), d3]
      exact iw_e h0 h6 h8 f (v ||| 2 ^ x) (md n c x) v' g h (or64 hv (by omega)) (Nat.mod_lt _ h0) (by omega)
theorem g28_e {ν : MM} {x2 x3 t0 t1 : Int32} {G : Int32 × Int32 × Int32 → Option Int32} : g_X4_exchanges_28 ν x2 x3 t0 t1 G = lp (fun ih σ => b_X4_exchanges_33 ν (t1 + t0) x3 G ih σ.1 σ.2) fu (x2, x3) := by
  unfold g_X4_exchanges_28
  rw [nm_p]
theorem ow_e {ν : MM} {n c : Nat} (hn : ν.1 0 6 = nI n) (h0 : 0 < n) (h6 : n ≤ 6) (h8 : ∀ i, i < n → ν.1 8 i = nI (md n c i)) : ∀ (k i v y r g : Nat), ow n c k i v y = some r → v < 64 → i + k = n → k < g → lp (fun ih σ => b_X4_exchanges_6 ν ih σ.1 σ.2.1 σ.2.2) g (nI y, nI v, nI i) = g_X4_exchanges_67 ν (nI r) ∧ r ≤ y + k
  | k, i, v, y, r, 0, _, _, _, hg => by omega
  | 0, i, v, y, r, g + 1, h, hv, hi, hg => by
    have h : some y = some r := h
    have e : y = r := by simpa using h
    subst e
    have c1 : nI n ≤ nI i := nI_le (by omega) (by omega)
    rw [lp_s]
    show b_X4_exchanges_6 ν _ (nI y) (nI v) (nI i) = _ ∧ _
    unfold b_X4_exchanges_6
    rw [hn, if_pos c1]
    exact ⟨rfl, by omega⟩
  | k + 1, i, v, y, r, g + 1, h, hv, hi, hg => by
    rw [ow] at h
    rcases hw : iw n c 8 v i with _ | v'
    · rw [hw] at h; exact absurd h (by simp)
    · rw [hw] at h
      have h : ow n c k (i + 1) v' (if v.testBit i then y else y + 1) = some r := h
      have c1 : ¬ nI n ≤ nI i := nI_ge (by omega) (by omega)
      rw [lp_s]
      obtain ⟨G, hG⟩ : ∃ G, G = lp (fun ih σ => b_X4_exchanges_6 ν ih σ.1 σ.2.1 σ.2.2) g := ⟨_, rfl⟩
      rw [← hG]
      show b_X4_exchanges_6 ν G (nI y) (nI v) (nI i) = _ ∧ _
      unfold b_X4_exchanges_6
      rw [hn, if_neg c1, bq_i hv (by omega)]
      have fin : ∀ y' : Nat, (if v.testBit i then y else y + 1) = y' → lp (fun ih σ => b_X4_exchanges_33 ν (nI y') (nI i) G ih σ.1 σ.2) fu (nI v, nI i) = g_X4_exchanges_67 ν (nI r) ∧ r ≤ y + (k + 1) := fun y' ey => by
        obtain ⟨e1, e2⟩ := iw_e (x1 := nI y') (x3 := nI i) (ih6 := G) h0 h6 h8 8 v i v' fu hw hv (by omega) (by rw [fu_e]; omega)
        rw [ey] at h
        obtain ⟨e3, e4⟩ := ow_e hn h0 h6 h8 k (i + 1) v' y' r g h e2 (by omega) (by omega)
        rw [← hG] at e3
        rw [e1]
        unfold g_X4_exchanges_61
        rw [nI_1]
        refine ⟨e3, ?_⟩
        have : y' ≤ y + 1 := by rw [← ey]; split <;> omega
        omega
      by_cases q : v.testBit i = true
      · have hb : bq v i = 1 := by rw [tb_bq] at q; exact of_decide_eq_true q
        have f1 := fin y (by rw [if_pos q])
        rw [hb, if_neg (by decide), g28_e, show nI y + 0 = nI y from nI_add y 0, f1.1]
        exact ⟨rfl, f1.2⟩
      · have hb : bq v i = 0 := by
          have := bq_lt v i
          rw [tb_bq] at q
          have : ¬ bq v i = 1 := fun e => q (decide_eq_true e)
          omega
        have f1 := fin (y + 1) (by rw [if_neg q])
        rw [hb, if_pos (show nI 0 = 0 from rfl), g28_e, nI_1, f1.1]
        exact ⟨rfl, f1.2⟩
theorem exchanges_e {ν : MM} {n c e : Nat} (hn : ν.1 0 6 = nI n) (h0 : 0 < n) (h6 : n ≤ 6) (h8 : ∀ i, i < n → ν.1 8 i = nI (md n c i)) (he : exc n c = some e) : f_X4_exchanges ν = some (nI e) ∧ e ≤ n := by
  unfold exc at he
  rcases hw : ow n c n 0 0 0 with _ | r
  · rw [hw] at he; exact absurd he (by simp)
  · rw [hw] at he
    have he : some (n - r) = some e := he
    have he : n - r = e := by simpa using he
    obtain ⟨e1, e2⟩ := ow_e hn h0 h6 h8 n 0 0 0 r fu hw (by omega) (by omega) (by rw [fu_e]; omega)
    unfold f_X4_exchanges
    have e1 : lp (fun ih σ => b_X4_exchanges_6 ν ih σ.1 σ.2.1 σ.2.2) fu ((0 : Int32), (0 : Int32), (0 : Int32)) = g_X4_exchanges_67 ν (nI r) := e1
    rw [e1]
    unfold g_X4_exchanges_67
    rw [hn, pk_sub (by omega), he]
    exact ⟨rfl, by omega⟩
