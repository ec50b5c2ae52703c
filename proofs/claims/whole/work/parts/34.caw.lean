/-! the motion to caw -/
theorem lpi_n {ι σ ρ : Type} {body : ι → (σ → Option ρ) → σ → Option ρ} (I : Nat → σ → Prop) (e : Nat) (hs : ∀ k x, k < e → I k x → ∃ y, I (k + 1) y ∧ ∀ i ih, body i ih x = ih y) : ∀ (n k : Nat) (x : σ), k ≤ e → e - k < n → I k x → ∃ y, I e y ∧ ∀ i, ∃ m, lp (body i) n x = body i (lp (body i) m) y := by
  intro n
  induction n with
  | zero => intro k x _ h; omega
  | succ n ih =>
    intro k x hk hn hI
    rcases Nat.lt_or_ge k e with h | h
    · obtain ⟨y, hy, hb⟩ := hs k x h hI
      obtain ⟨z, h1, h2⟩ := ih (k + 1) y (by omega) (by omega) hy
      refine ⟨z, h1, fun i => ?_⟩
      obtain ⟨m, h3⟩ := h2 i
      exact ⟨m, by rw [lp_s, hb]; exact h3⟩
    · have e1 : k = e := by omega
      subst e1
      exact ⟨x, hI, fun i => ⟨n, rfl⟩⟩
theorem lpi {ι σ ρ : Type} {body : ι → (σ → Option ρ) → σ → Option ρ} (I : Nat → σ → Prop) (e : Nat) (he : e < 100000) (hs : ∀ k x, k < e → I k x → ∃ y, I (k + 1) y ∧ ∀ i ih, body i ih x = ih y) (x : σ) (h0 : I 0 x) : ∃ y, I e y ∧ ∀ i, ∃ m, lp (body i) fu x = body i (lp (body i) m) y :=
  lpi_n I e hs fu 0 x (Nat.zero_le _) (by rw [fu_e]; omega) h0
def mx (f : Nat → Nat) : Nat → Nat
  | 0 => 0
  | j + 1 => if f j ≤ mx f j then mx f j else f j
theorem mx_cong {f g : Nat → Nat} : ∀ {n : Nat}, (∀ v, v < n → f v = g v) → mx f n = mx g n
  | 0, _ => rfl
  | n + 1, h => by rw [mx, mx, mx_cong (n := n) (fun v hv => h v (by omega)), h n (by omega)]
theorem mx_ge {f : Nat → Nat} {v : Nat} : ∀ {n : Nat}, v < n → f v ≤ mx f n
  | 0, h => by omega
  | n + 1, h => by
    rw [mx]
    by_cases e : v = n
    · subst e; split <;> omega
    · have := mx_ge (f := f) (v := v) (n := n) (by omega)
      split <;> omega
theorem mx_le {f : Nat → Nat} {B : Nat} : ∀ {n : Nat}, (∀ v, v < n → f v ≤ B) → mx f n ≤ B
  | 0, _ => Nat.zero_le _
  | n + 1, h => by
    rw [mx]
    have h1 := mx_le (f := f) (B := B) (n := n) (fun v hv => h v (by omega))
    have h2 := h n (by omega)
    split <;> omega
theorem mx_upd {f g : Nat → Nat} {v0 : Nat} (h0 : g v0 = f v0 + 1) (h : ∀ v, v ≠ v0 → g v = f v) : ∀ {n : Nat}, v0 < n → mx g n = if mx f n < f v0 + 1 then f v0 + 1 else mx f n
  | 0, h => by omega
  | n + 1, hn => by
    rw [mx, mx]
    by_cases e : v0 = n
    · subst e
      rw [mx_cong (f := g) (g := f) (fun v hv => h v (by omega)), h0]
      split <;> split <;> first | omega | (split <;> omega)
    · rw [mx_upd h0 h (n := n) (by omega), h n (by omega)]
      have := mx_ge (f := f) (v := v0) (n := n) (by omega)
      repeat' split
      all_goals omega
def wc (p : Nat → Bool) (out : Nat → Nat) (k v : Nat) : Nat := fb_ct (fun i => p i && decide (out i = v)) k
theorem wc_0 (p : Nat → Bool) (out : Nat → Nat) (v : Nat) : wc p out 0 v = 0 := rfl
theorem wc_no {p : Nat → Bool} {out : Nat → Nat} {k : Nat} (h : p k = false) (v : Nat) : wc p out (k + 1) v = wc p out k v := by
  unfold wc; rw [fb_ct_succ]; simp [h]
theorem wc_yes {p : Nat → Bool} {out : Nat → Nat} {k : Nat} (h : p k = true) : wc p out (k + 1) (out k) = wc p out k (out k) + 1 := by
  unfold wc; rw [fb_ct_succ]; simp [h]
theorem wc_oth {p : Nat → Bool} {out : Nat → Nat} {k v : Nat} (h : v ≠ out k) : wc p out (k + 1) v = wc p out k v := by
  unfold wc; rw [fb_ct_succ]
  have : ¬ out k = v := fun e => h e.symm
  simp [this]
theorem wc_le (p : Nat → Bool) (out : Nat → Nat) (k v : Nat) : wc p out k v ≤ k := fb_ct_le _ k
theorem lshr {n k : Nat} (hn : n < 2 ^ 63) (hk : k < 40) : lN n >>> ((nI k).toInt64 &&& 63) = lN (n / 2 ^ k) := by
  have hs : (((nI k).toInt64 &&& 63).toBitVec.smod 64).toNat = k := by
    have : ∀ k : Fin 40, ((((nI k.1).toInt64 &&& 63).toBitVec.smod 64).toNat = k.1) := by decide +kernel
    exact this ⟨k, hk⟩
  apply Int64.toInt_inj.mp
  have e : (lN n >>> ((nI k).toInt64 &&& 63)).toInt = (lN n).toInt >>> k := by
    rw [← Int64.toInt_toBitVec, Int64.toBitVec_shiftRight, BitVec.toInt_sshiftRight', hs, Int64.toInt_toBitVec]
  rw [e, pk_lT hn, pk_lT (Nat.lt_of_le_of_lt (Nat.div_le_self _ _) hn), Int.shiftRight_eq_div_pow]
  rfl
theorem bm_test {p : Nat → Bool} {k : Nat} (hk : k < 40) : (lg_cmp ((lN (bm p 40) >>> ((nI k).toInt64 &&& 63)) &&& (1 : Int64)) (0 : Int64) = 0) = (p k = false) := by
  have hb := bm_lt p 40
  have e1 : (lN (bm p 40) >>> ((nI k).toInt64 &&& 63)) &&& (1 : Int64) = lN (bm p 40 / 2 ^ k % 2) := by
    rw [lshr (by omega) hk]
    show lN _ &&& lN (2 ^ 1 - 1) = _
    rw [fb_maskL]
  rw [e1]
  have e2 : (bm p 40).testBit k = p k := by rw [bm_bit]; simp [hk]
  have e3 : (bm p 40).testBit k = decide (bm p 40 / 2 ^ k % 2 = 1) := by rw [Nat.testBit_eq_decide_div_mod_eq]
  apply propext
  rw [lg_cmp_eq]
  show lN _ = lN 0 ↔ _
  rw [fb_lN_inj (by omega) (by omega), ← e2, e3]
  simp
theorem bm_zero {p : Nat → Bool} : (lg_cmp (lN (bm p 40)) (0 : Int64) = 0) = (∀ k, k < 40 → p k = false) := by
  have hb := bm_lt p 40
  apply propext
  rw [lg_cmp_eq]
  show lN _ = lN 0 ↔ _
  rw [fb_lN_inj (by omega) (by omega)]
  constructor
  · intro e k hk
    have e2 : (bm p 40).testBit k = p k := by rw [bm_bit]; simp [hk]
    rw [← e2, e, Nat.zero_testBit]
  · intro h
    apply Nat.eq_of_testBit_eq
    intro i
    rw [bm_bit, Nat.zero_testBit]
    by_cases q : i < 40
    · rw [h i q]; simp
    · simp [q]
theorem fill22_e (μ : Mem) (v : Int32) : ∃ μ', f_J7_fill_53178_22 μ v = some μ' ∧ (∀ j, j < 8 → μ' 22 j = v) ∧ ∀ c, c ≠ 22 → μ' c = μ c := by
  unfold f_J7_fill_53178_22
  obtain ⟨⟨y, z⟩, m, ⟨hz, h1, h3⟩, h2⟩ := lp_fu (body := fun ih σ => b_J7_fill_53178_22_5 v 8 ih σ.1 σ.2) (fun k (x : Mem × Int32) => x.2 = nI k ∧ (∀ i, i < k → x.1 22 i = v) ∧ ∀ c, c ≠ 22 → x.1 c = μ c) 8 (by omega) (fun k x hk hx => by
    obtain ⟨x, z⟩ := x
    obtain ⟨hz, h1, h3⟩ := hx
    have hz : z = nI k := hz
    subst hz
    have c1 : ¬ (8 : Int32) ≤ nI k := by show ¬ nI 8 ≤ nI k; exact nI_ge hk (by omega)
    refine ⟨(up x 22 k v, nI (k + 1)), ⟨rfl, fun i hi => ?_, fun c hc => ?_⟩, fun ih => ?_⟩
    · show up x 22 k v 22 i = v
      by_cases e : i = k
      · rw [e, up_s]
      · rw [up_k e]; exact h1 i (by omega)
    · show up x 22 k v c = μ c
      rw [up_c hc]; exact h3 c hc
    · simp only [b_J7_fill_53178_22_5, nm, c1, ↓reduceIte, ck_t (vin (N := 8) hk), cl (j := k), nI_1]) (μ, (0 : Int32)) ⟨nI_0.symm, fun i hi => by omega, fun c _ => rfl⟩
  have hz : z = nI 8 := hz
  subst hz
  exact ⟨y, by rw [h2]; rfl, h1, h3⟩
def ot (n : Nat) (K T : Nat → Nat) (w s m k : Nat) : Nat := CM n (pK K s k) (pT T s k) w s m
theorem leftAtWorst_e {μ : Mem} {a : AS} {s m : Nat} (p : Nat → Bool) (hO : OKS a) (hC : CS μ 3 4 5 6 7 8 9 10 a) (hs : s < aN a) (hm : m < 8) : ∃ μ', f_X3_leftAtWorst μ (nI s) (nI m) (lN (bm p 40)) = some (μ', nI (mx (wc p (ot (aN a) (sK a) (sT a) (aW a) s m) 40) 8)) ∧ ∀ c, c < 19 → μ' c = μ c := by
  have h6 := hO.2.1
  obtain ⟨μ1, e1, k1, k2⟩ := seatAll_e hO hC
  obtain ⟨μ2, e2, z1, z2⟩ := fill22_e μ1 0
  have hB := hO.bk (by omega)
  obtain ⟨out, eo⟩ : ∃ out, out = ot (aN a) (sK a) (sT a) (aW a) s m := ⟨_, rfl⟩
  rw [← eo]
  simp only [f_X3_leftAtWorst, e1, e2, bd, Option.bind_some]
  obtain ⟨⟨y, z, u⟩, q, ⟨hz, h1, h3, h4, h5⟩, h2⟩ := lp_fu (body := fun ih σ => b_X3_leftAtWorst_25 (nI s) (nI m) (lN (bm p 40)) ih σ.1 σ.2.1 σ.2.2) (fun k (x : Mem × Int32 × Int32) => x.2.2 = nI k ∧ x.2.1 = nI (mx (wc p out k) 8) ∧ CKx x.1 (aN a) (sK a) (sT a) (aW a) s ∧ (∀ v, v < 8 → x.1 22 v = nI (wc p out k v)) ∧ ∀ c, c < 19 → x.1 c = μ c) 40 (by omega) (fun k x hk hx => by
    obtain ⟨x, z, u⟩ := x
    obtain ⟨hu, hz, h3, h5, h4⟩ := hx
    have hu : u = nI k := hu
    have hz : z = nI (mx (wc p out k) 8) := hz
    subst hu
    subst hz
    have h3 : CKx x (aN a) (sK a) (sT a) (aW a) s := h3
    have h4 : ∀ c, c < 19 → x c = μ c := h4
    have h5 : ∀ v, v < 8 → x 22 v = nI (wc p out k v) := h5
    have c1 : ¬ (40 : Int32) ≤ nI k := by show ¬ nI 40 ≤ nI k; exact nI_ge hk (by omega)
    have hmx : mx (wc p out k) 8 ≤ 40 := mx_le (fun v _ => Nat.le_trans (wc_le p out k v) (by omega))
    obtain ⟨m1, m2⟩ := dm8 hk
    by_cases g : p k = false
    · refine ⟨(x, nI (mx (wc p out (k + 1)) 8), nI (k + 1)), ⟨rfl, rfl, h3, fun v hv => by rw [wc_no g]; exact h5 v hv, h4⟩, fun ih => ?_⟩
      rw [mx_cong (f := wc p out (k + 1)) (g := wc p out k) (fun v _ => wc_no g v)]
      simp only [b_X3_leftAtWorst_25, g_X3_leftAtWorst_100, c1, ↓reduceIte, bm_test hk, g, nI_1]
    · have g' : p k = true := by simpa using g
      have gF : (p k = false) = False := eq_false g
      obtain ⟨p1, p2⟩ := put_e (k := k) h3 (by omega)
      obtain ⟨x', ex⟩ : ∃ x', x' = up (up x 20 s (nI (k / 8))) 21 s (nI (k % 8)) := ⟨_, rfl⟩
      rw [← ex] at p1 p2
      have ho : f_X0_outcome x' (nI s) (nI m) = some (nI (out k)) := by rw [eo]; exact outcome_e (hB.put hk) p2 hs hm
      have hlt : out k < 8 := by rw [eo]; exact CM_lt (hB.put hk) hm
      have h22 : x' 22 (out k) = nI (wc p out k (out k)) := by rw [ex, up_c (by omega), up_c (by omega)]; exact h5 _ hlt
      have hw := wc_le p out k (out k)
      refine ⟨(up x' 22 (out k) (nI (wc p out k (out k) + 1)), nI (mx (wc p out (k + 1)) 8), nI (k + 1)), ⟨rfl, rfl, ?_, fun v hv => ?_, fun c hc => ?_⟩, fun ih => ?_⟩
      · have := p2.px
        refine ⟨?_, ?_, fun i hi e => ?_⟩
        · show up x' 22 (out k) (nI (wc p out k (out k) + 1)) 19 2 = _
          rw [up_c (by omega)]; exact this.1
        · show up x' 22 (out k) (nI (wc p out k (out k) + 1)) 19 3 = _
          rw [up_c (by omega)]; exact this.2.1
        · show up x' 22 (out k) (nI (wc p out k (out k) + 1)) 20 i = _ ∧ up x' 22 (out k) (nI (wc p out k (out k) + 1)) 21 i = _
          rw [up_c (by omega), up_c (by omega)]; exact this.2.2 i hi e
      · show up x' 22 (out k) (nI (wc p out k (out k) + 1)) 22 v = _
        by_cases e : v = out k
        · rw [e, up_s, wc_yes g']
        · rw [up_k e, wc_oth e, ex, up_c (by omega), up_c (by omega)]; exact h5 v hv
      · show up x' 22 (out k) (nI (wc p out k (out k) + 1)) c = μ c
        rw [up_c (by omega), ex, up_c (by omega), up_c (by omega)]; exact h4 c hc
      · have em := mx_upd (f := wc p out k) (g := wc p out (k + 1)) (v0 := out k) (wc_yes g') (fun v e => wc_oth e) hlt
        have ei : (if nI (mx (wc p out k) 8) < nI (wc p out k (out k) + 1) then nI (wc p out k (out k) + 1) else nI (mx (wc p out k) 8)) = nI (mx (wc p out (k + 1)) 8) := by
          rw [em]
          by_cases q : mx (wc p out k) 8 < wc p out k (out k) + 1
          · rw [if_pos q, if_pos (nI_lt q (by omega))]
          · rw [if_neg q, if_neg (nI_nlt (by omega) (by omega))]
        simp only [b_X3_leftAtWorst_25, g_X3_leftAtWorst_100, nm, bd, Option.bind_some, c1, ↓reduceIte, bm_test hk, gF, m1, m2, p1, ho, ck_t (vin (N := 8) hlt), cl (j := out k), h22, nI_1, up_s, ei]) (μ2, (0 : Int32), (0 : Int32)) ⟨nI_0.symm, rfl, (k1.cong (fun c hc => z2 c (by omega))).cx s, fun v hv => by show μ2 22 v = _; rw [z1 v hv, wc_0]; rfl, fun c hc => by show μ2 c = _; rw [z2 c (by omega), k2 c (by omega) (by omega) (by omega)]⟩
  have hz : u = nI 40 := hz
  have h1 : z = nI (mx (wc p out 40) 8) := h1
  subst hz
  subst h1
  refine ⟨y, ?_, h5⟩
  rw [h2]
  have c1 : (40 : Int32) ≤ nI 40 := by decide
  simp only [b_X3_leftAtWorst_25, c1, ↓reduceIte]
def bst (f : Nat → Nat) : Nat → Nat × Nat
  | 0 => (0, f 0)
  | m + 1 => if (bst f m).2 ≤ f (m + 1) then bst f m else (m + 1, f (m + 1))
theorem bst_b {f : Nat → Nat} {B : Nat} (h : ∀ m, m < 8 → f m ≤ B) : ∀ m, m < 8 → (bst f m).1 ≤ m ∧ (bst f m).2 ≤ B
  | 0, _ => ⟨Nat.le_refl 0, h 0 (by omega)⟩
  | m + 1, hm => by
    have := bst_b h m (by omega)
    rw [bst]
    split
    · exact ⟨by omega, this.2⟩
    · exact ⟨Nat.le_refl _, h _ hm⟩
noncomputable def wo (a : AS) (s m : Nat) : Nat := mx (wc (sp a (aN a) (sK a) (sT a) (aW a) s) (ot (aN a) (sK a) (sT a) (aW a) s m) 40) 8
theorem wo_le (a : AS) (s m : Nat) : wo a s m ≤ 40 := mx_le (fun v _ => wc_le _ _ _ v)
theorem bestMotion_e {μ : Mem} {a : AS} {s : Nat} (hO : OKS a) (hC : CS μ 3 4 5 6 7 8 9 10 a) (hs : s < aN a) : ∃ μ' r, f_X3_bestMotion μ (nI s) (lN (bm (sp a (aN a) (sK a) (sT a) (aW a) s) 40)) = some (μ', r) ∧ (∀ c, c < 19 → μ' c = μ c) ∧ ((∀ k, k < 40 → sp a (aN a) (sK a) (sT a) (aW a) s k = false) → r = -1) ∧ (¬ (∀ k, k < 40 → sp a (aN a) (sK a) (sT a) (aW a) s k = false) → r = nI (bst (wo a s) 7).1) := by
  obtain ⟨p, ep⟩ : ∃ p, p = sp a (aN a) (sK a) (sT a) (aW a) s := ⟨_, rfl⟩
  by_cases hz : ∀ k, k < 40 → p k = false
  · rw [ep] at hz
    refine ⟨μ, -1, ?_, fun c _ => rfl, fun _ => rfl, fun q => absurd hz q⟩
    simp only [f_X3_bestMotion, bm_zero]
    rw [if_pos hz]
  · rw [ep] at hz
    obtain ⟨μ1, e1, f1⟩ := leftAtWorst_e (m := 0) (sp a (aN a) (sK a) (sT a) (aW a) s) hO hC hs (by omega)
    have hbb := bst_b (f := wo a s) (B := 40) (fun m _ => wo_le a s m)
    obtain ⟨⟨y, z, v, u⟩, q, ⟨h1, h3⟩, h2⟩ := lp_fu (body := fun ih σ => b_X3_bestMotion_23 (nI s) (lN (bm (sp a (aN a) (sK a) (sT a) (aW a) s) 40)) ih σ.1 σ.2.1 σ.2.2.1 σ.2.2.2) (fun k (x : Mem × Int32 × Int32 × Int32) => x.2 = (nI (bst (wo a s) k).1, nI (bst (wo a s) k).2, nI (k + 1)) ∧ ∀ c, c < 19 → x.1 c = μ c) 7 (by omega) (fun k x hk hx => by
      obtain ⟨x, z⟩ := x
      obtain ⟨hz, h4⟩ := hx
      have hz : z = (nI (bst (wo a s) k).1, nI (bst (wo a s) k).2, nI (k + 1)) := hz
      subst hz
      have h4 : ∀ c, c < 19 → x c = μ c := h4
      have hC' : CS x 3 4 5 6 7 8 9 10 a := hC.cong (fun c hc => h4 c (by omega))
      obtain ⟨x', e1, f1⟩ := leftAtWorst_e (m := k + 1) (sp a (aN a) (sK a) (sT a) (aW a) s) hO hC' hs (by omega)
      have e1 : f_X3_leftAtWorst x (nI s) (nI (k + 1)) (lN (bm (sp a (aN a) (sK a) (sT a) (aW a) s) 40)) = some (x', nI (wo a s (k + 1))) := e1
      have c1 : ¬ (8 : Int32) ≤ nI (k + 1) := by show ¬ nI 8 ≤ nI (k + 1); exact nI_ge (by omega) (by omega)
      have hb := hbb k (by omega)
      have hw := wo_le a s (k + 1)
      refine ⟨(x', nI (bst (wo a s) (k + 1)).1, nI (bst (wo a s) (k + 1)).2, nI (k + 1 + 1)), ⟨rfl, fun c hc => by show x' c = μ c; rw [f1 c hc]; exact h4 c hc⟩, fun ih => ?_⟩
      rw [bst]
      by_cases q : (bst (wo a s) k).2 ≤ wo a s (k + 1)
      · have d : nI (bst (wo a s) k).2 ≤ nI (wo a s (k + 1)) := nI_le q (by omega)
        rw [if_pos q]
        simp only [b_X3_bestMotion_23, g_X3_bestMotion_55, c1, ↓reduceIte, e1, bd2, Option.bind_some, d, nI_1]
      · have d : ¬ nI (bst (wo a s) k).2 ≤ nI (wo a s (k + 1)) := nI_ge (by omega) (by omega)
        rw [if_neg q]
        simp only [b_X3_bestMotion_23, g_X3_bestMotion_55, c1, ↓reduceIte, e1, bd2, Option.bind_some, d, nI_1]) (μ1, (0 : Int32), nI (wo a s 0), (1 : Int32)) ⟨rfl, f1⟩
    have h1 : (z, v, u) = (nI (bst (wo a s) 7).1, nI (bst (wo a s) 7).2, nI (7 + 1)) := h1
    obtain ⟨rfl, rfl, rfl⟩ : z = nI (bst (wo a s) 7).1 ∧ v = nI (bst (wo a s) 7).2 ∧ u = nI (7 + 1) := by simpa using h1
    refine ⟨y, nI (bst (wo a s) 7).1, ?_, h3, fun q => absurd q hz, fun _ => rfl⟩
    have e1 : f_X3_leftAtWorst μ (nI s) 0 (lN (bm (sp a (aN a) (sK a) (sT a) (aW a) s) 40)) = some (μ1, nI (wo a s 0)) := e1
    simp only [f_X3_bestMotion, bm_zero, e1, bd2, Option.bind_some]
    rw [if_neg hz, h2]
    have c1 : (8 : Int32) ≤ nI (7 + 1) := by decide
    simp only [b_X3_bestMotion_23, c1, ↓reduceIte]
