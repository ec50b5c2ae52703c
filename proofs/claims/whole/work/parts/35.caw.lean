/-! the reference's motion to caw -/
def mb (f : Nat → Nat) : Nat → Int32 × Nat
  | 0 => (-1, 41)
  | m + 1 => (if f m ≤ 0 then (mb f m).1 else if (mb f m).2 ≤ f m then (mb f m).1 else nI m, if (mb f m).2 ≤ f m then (mb f m).2 else f m)
theorem mb_le (f : Nat → Nat) : ∀ m, (mb f m).2 ≤ 41
  | 0 => Nat.le_refl _
  | m + 1 => by
    have := mb_le f m
    rw [mb]
    show (if (mb f m).2 ≤ f m then (mb f m).2 else f m) ≤ 41
    split <;> omega
theorem mb_none {f : Nat → Nat} (h : ∀ m, f m = 0) : ∀ m, (mb f m).1 = -1
  | 0 => rfl
  | m + 1 => by
    rw [mb]
    show (if f m ≤ 0 then (mb f m).1 else if (mb f m).2 ≤ f m then (mb f m).1 else nI m) = -1
    rw [if_pos (by rw [h m]; omega)]
    exact mb_none h m
theorem mb_bst {f : Nat → Nat} (h : ∀ m, m < 8 → 1 ≤ f m ∧ f m ≤ 40) : ∀ m, m < 8 → mb f (m + 1) = (nI (bst f m).1, (bst f m).2)
  | 0, _ => by
    have := h 0 (by omega)
    rw [mb, if_neg (by omega)]
    have e : (mb f 0) = (-1, 41) := rfl
    rw [e]
    show (if 41 ≤ f 0 then (-1 : Int32) else nI 0, if 41 ≤ f 0 then 41 else f 0) = _
    rw [if_neg (by omega), if_neg (by omega)]
    rfl
  | m + 1, hm => by
    have := h (m + 1) hm
    rw [mb, if_neg (by omega), mb_bst h m (by omega), bst]
    show (if (bst f m).2 ≤ f (m + 1) then nI (bst f m).1 else nI (m + 1), if (bst f m).2 ≤ f (m + 1) then (bst f m).2 else f (m + 1)) = _
    by_cases q : (bst f m).2 ≤ f (m + 1)
    · rw [if_pos q, if_pos q, if_pos q]
    · rw [if_neg q, if_neg q, if_neg q]
theorem caw_m {ν : MM} {a : AS} {s m c3 : Nat} {x2 : Int32} (hO : OKS a) (hM : MS ν.1 3 4 9 a) (hF : MF ν.1 a) (hs : s < aN a) (hX : MKx ν.1 (aN a) (sK a) (sT a) s) (hm : m < 8) (h3 : c3 ≤ 41) : ∃ ν', MKx ν'.1 (aN a) (sK a) (sT a) s ∧ (∀ c, c ≠ 5 → c ≠ 6 → c ≠ 10 → ν'.1 c = ν.1 c) ∧ ν'.2 = ν.2 ∧ ∀ ih, lp (fun i σ => b_X4_cawOf_22 (nI s) x2 (nI c3) (nI m) ih i σ.1 σ.2) fu (ν, (0 : Int32)) = ih (ν', if wo a s m ≤ 0 then x2 else if c3 ≤ wo a s m then x2 else nI m, nI (if c3 ≤ wo a s m then c3 else wo a s m), nI (m + 1)) := by
  have h6 := hO.2.1
  obtain ⟨p, ep⟩ : ∃ p, p = sp a (aN a) (sK a) (sT a) (aW a) s := ⟨_, rfl⟩
  obtain ⟨out, eo⟩ : ∃ out, out = ot (aN a) (sK a) (sT a) (aW a) s m := ⟨_, rfl⟩
  have ew : wo a s m = mx (wc p out 40) 8 := by rw [ep, eo]; rfl
  have hwo := wo_le a s m
  -- the counts set back
  obtain ⟨⟨ν1, z1⟩, ⟨hz1, q1, q2, q3⟩, g1⟩ := lpi (body := fun (ih : MM × Int32 × Int32 × Int32 → Option (MM × Int32)) i (σ : MM × Int32) => b_X4_cawOf_22 (nI s) x2 (nI c3) (nI m) ih i σ.1 σ.2) (fun k (x : MM × Int32) => x.2 = nI k ∧ (∀ i, i < k → x.1.1 10 i = 0) ∧ (∀ c, c ≠ 10 → x.1.1 c = ν.1 c) ∧ x.1.2 = ν.2) 8 (by omega) (fun k x hk hx => by
    obtain ⟨x, z⟩ := x
    obtain ⟨hz, h1, h3, h5⟩ := hx
    have hz : z = nI k := hz
    subst hz
    have c1 : ¬ (8 : Int32) ≤ nI k := by show ¬ nI 8 ≤ nI k; exact nI_ge hk (by omega)
    refine ⟨(upM x 10 k 0, nI (k + 1)), ⟨rfl, fun i hi => ?_, fun c hc => ?_, h5⟩, fun ih i => ?_⟩
    · show up x.1 10 k 0 10 i = 0
      by_cases e : i = k
      · rw [e, up_s]
      · rw [up_k e]; exact h1 i (by omega)
    · show up x.1 10 k 0 c = ν.1 c
      rw [up_c hc]; exact h3 c hc
    · simp only [b_X4_cawOf_22, nm, c1, ↓reduceIte, ck_t (vin (N := 8) hk), cl (j := k), nI_1]) (ν, (0 : Int32)) ⟨nI_0.symm, fun i hi => by omega, fun c _ => rfl, rfl⟩
  have hz1 : z1 = nI 8 := hz1
  subst hz1
  have q1 : ∀ i, i < 8 → ν1.1 10 i = 0 := q1
  have q2 : ∀ c, c ≠ 10 → ν1.1 c = ν.1 c := q2
  have q3 : ν1.2 = ν.2 := q3
  -- all forty
  obtain ⟨⟨ν2, z2⟩, ⟨hz2, r1, r2, r3, r4⟩, g2⟩ := lpi (body := fun (ih : MM × Int32 × Int32 × Int32 → Option (MM × Int32)) i (σ : MM × Int32) => b_X4_cawOf_46 (nI s) x2 (nI c3) (nI m) ih i σ.1 σ.2) (fun k (x : MM × Int32) => x.2 = nI k ∧ (∀ v, v < 8 → x.1.1 10 v = nI (wc p out k v)) ∧ MKx x.1.1 (aN a) (sK a) (sT a) s ∧ (∀ c, c ≠ 5 → c ≠ 6 → c ≠ 10 → x.1.1 c = ν.1 c) ∧ x.1.2 = ν.2) 40 (by omega) (fun k x hk hx => by
    obtain ⟨x, z⟩ := x
    obtain ⟨hz, h1, h3, h4, h5⟩ := hx
    have hz : z = nI k := hz
    subst hz
    have h1 : ∀ v, v < 8 → x.1 10 v = nI (wc p out k v) := h1
    have h3 : MKx x.1 (aN a) (sK a) (sT a) s := h3
    have h4 : ∀ c, c ≠ 5 → c ≠ 6 → c ≠ 10 → x.1 c = ν.1 c := h4
    have h5 : x.2 = ν.2 := h5
    have c1 : ¬ (40 : Int32) ≤ nI k := by show ¬ nI 40 ≤ nI k; exact nI_ge hk (by omega)
    have hM' : MS x.1 3 4 9 a := hM.cong (fun c hc => h4 c (by omega) (by omega) (by omega))
    have hF' : MF x.1 a := hF.cong (by intros; rw [h4 0 (by omega) (by omega) (by omega)])
    obtain ⟨x', y1, y2, y3, y4⟩ := isSeen_e hO hM' hF' hs h3 hk
    rw [← ep] at y1
    have h1' : ∀ v, v < 8 → x'.1 10 v = nI (wc p out k v) := fun v hv => by rw [y3 10 (by omega) (by omega)]; exact h1 v hv
    by_cases g : p k = true
    · rw [if_pos g] at y1
      have hB := (hO.bk (by omega)).put (s := s) hk
      have ho : f_X4_comesOf x' (nI s) (nI m) (nI (aW a)) = some (nI (out k)) := by rw [eo]; exact comesOf_e hB y2 hs hm
      have hlt : out k < 8 := by rw [eo]; exact CM_lt hB hm
      have e07 : x'.1 0 7 = nI (aW a) := by rw [y3 0 (by omega) (by omega)]; exact hF'.2.1
      have h10 := h1' _ hlt
      refine ⟨(upM x' 10 (out k) (nI (wc p out k (out k) + 1)), nI (k + 1)), ⟨rfl, fun v hv => ?_, ?_, fun c a1 a2 a3 => ?_, ?_⟩, fun ih i => ?_⟩
      · show up x'.1 10 (out k) (nI (wc p out k (out k) + 1)) 10 v = _
        by_cases e : v = out k
        · rw [e, up_s, wc_yes g]
        · rw [up_k e, wc_oth e]; exact h1' v hv
      · have := y2.px
        refine ⟨?_, fun i hi e => ?_⟩
        · show up x'.1 10 (out k) (nI (wc p out k (out k) + 1)) 0 6 = _
          rw [up_c (by omega)]; exact this.1
        · show up x'.1 10 (out k) (nI (wc p out k (out k) + 1)) 5 i = _ ∧ up x'.1 10 (out k) (nI (wc p out k (out k) + 1)) 6 i = _
          rw [up_c (by omega), up_c (by omega)]; exact this.2 i hi e
      · show up x'.1 10 (out k) (nI (wc p out k (out k) + 1)) c = ν.1 c
        rw [up_c a3, y3 c a1 a2]; exact h4 c a1 a2 a3
      · show x'.2 = ν.2
        rw [y4]; exact h5
      · simp only [b_X4_cawOf_46, g_X4_cawOf_83, nm, bd, bd2, Option.bind_some, c1, ↓reduceIte, y1, i10, e07, ho, ck_t (vin (N := 8) hlt), cl (j := out k), h10, nI_1]
    · rw [if_neg g] at y1
      have g' : p k = false := by simpa using g
      refine ⟨(x', nI (k + 1)), ⟨rfl, fun v hv => by show x'.1 10 v = _; rw [wc_no g']; exact h1' v hv, y2.px, fun c a1 a2 a3 => by show x'.1 c = ν.1 c; rw [y3 c a1 a2]; exact h4 c a1 a2 a3, by show x'.2 = ν.2; rw [y4]; exact h5⟩, fun ih i => ?_⟩
      simp only [b_X4_cawOf_46, g_X4_cawOf_83, bd2, Option.bind_some, c1, ↓reduceIte, y1, nI_1]) (ν1, (0 : Int32)) ⟨nI_0.symm, fun v hv => by show ν1.1 10 v = _; rw [q1 v hv, wc_0]; rfl, ⟨by show ν1.1 0 6 = _; rw [q2 0 (by omega)]; exact hX.1, fun i hi e => by show ν1.1 5 i = _ ∧ ν1.1 6 i = _; rw [q2 5 (by omega), q2 6 (by omega)]; exact hX.2 i hi e⟩, fun c _ _ a3 => q2 c a3, q3⟩
  have hz2 : z2 = nI 40 := hz2
  subst hz2
  have r1 : ∀ v, v < 8 → ν2.1 10 v = nI (wc p out 40 v) := r1
  -- the most
  have g3 : ∀ ih, lp (fun i σ => b_X4_cawOf_95 ν2 (nI s) x2 (nI c3) (nI m) ih i σ.1 σ.2) fu ((0 : Int32), (0 : Int32)) = g_X4_cawOf_134 ν2 (nI s) x2 (nI c3) (nI m) (nI (mx (wc p out 40) 8)) ih := fun ih => by
    obtain ⟨y, z, rfl, h2⟩ := lp_fu (body := fun i σ => b_X4_cawOf_95 ν2 (nI s) x2 (nI c3) (nI m) ih i σ.1 σ.2) (fun k x => x = (nI (mx (wc p out 40) k), nI k)) 8 (by omega) (fun k x hk hx => by
      subst hx
      refine ⟨_, rfl, fun i => ?_⟩
      have c1 : ¬ (8 : Int32) ≤ nI k := by show ¬ nI 8 ≤ nI k; exact nI_ge hk (by omega)
      have hb1 : mx (wc p out 40) k ≤ 40 := mx_le (fun v _ => wc_le _ _ _ v)
      have hb2 := wc_le p out 40 k
      rw [mx]
      by_cases q : wc p out 40 k ≤ mx (wc p out 40) k
      · have d : nI (wc p out 40 k) ≤ nI (mx (wc p out 40) k) := nI_le q (by omega)
        rw [if_pos q]
        simp only [b_X4_cawOf_95, g_X4_cawOf_126, c1, ↓reduceIte, ck_t (vin (N := 8) hk), cl (j := k), r1 k hk, d, nI_1]
      · have d : ¬ nI (wc p out 40 k) ≤ nI (mx (wc p out 40) k) := nI_ge (by omega) (by omega)
        rw [if_neg q]
        simp only [b_X4_cawOf_95, g_X4_cawOf_126, c1, ↓reduceIte, ck_t (vin (N := 8) hk), cl (j := k), r1 k hk, d, nI_1]) ((0 : Int32), (0 : Int32)) (by rw [nI_0]; rfl)
    rw [h2]
    have c2 : (8 : Int32) ≤ nI 8 := by decide
    simp only [b_X4_cawOf_95, c2, ↓reduceIte]
  refine ⟨ν2, r2, r3, r4, fun ih => ?_⟩
  obtain ⟨m1, g1⟩ := g1 ih
  obtain ⟨m2, g2⟩ := g2 ih
  have c8 : (8 : Int32) ≤ nI 8 := by decide
  have c40 : (40 : Int32) ≤ nI 40 := by decide
  rw [g1]
  simp only [b_X4_cawOf_22, g_X4_cawOf_43, c8, ↓reduceIte]
  rw [g2]
  simp only [b_X4_cawOf_46, g_X4_cawOf_89, c40, ↓reduceIte]
  rw [g3, ← ew]
  by_cases w0 : wo a s m ≤ 0
  · have d0 : nI (wo a s m) ≤ 0 := by show _ ≤ nI 0; exact nI_le w0 (by omega)
    rw [if_pos w0]
    by_cases q : c3 ≤ wo a s m
    · have d : nI c3 ≤ nI (wo a s m) := nI_le q (by omega)
      simp only [g_X4_cawOf_134, g_X4_cawOf_150, g_X4_cawOf_151, g_X4_cawOf_164, d0, d, q, ↓reduceIte, nI_1]
    · have d : ¬ nI c3 ≤ nI (wo a s m) := nI_ge (by omega) (by omega)
      simp only [g_X4_cawOf_134, g_X4_cawOf_150, g_X4_cawOf_151, g_X4_cawOf_164, d0, d, q, ↓reduceIte, nI_1]
  · have d0 : ¬ nI (wo a s m) ≤ 0 := by show ¬ _ ≤ nI 0; exact nI_ge (by omega) (by omega)
    rw [if_neg w0]
    by_cases q : c3 ≤ wo a s m
    · have d : nI c3 ≤ nI (wo a s m) := nI_le q (by omega)
      simp only [g_X4_cawOf_134, g_X4_cawOf_150, g_X4_cawOf_151, g_X4_cawOf_164, d0, d, q, ↓reduceIte, nI_1]
    · have d : ¬ nI c3 ≤ nI (wo a s m) := nI_ge (by omega) (by omega)
      simp only [g_X4_cawOf_134, g_X4_cawOf_150, g_X4_cawOf_151, g_X4_cawOf_164, d0, d, q, ↓reduceIte, nI_1]
theorem cawOf_e {ν : MM} {a : AS} {s : Nat} (hO : OKS a) (hM : MS ν.1 3 4 9 a) (hF : MF ν.1 a) (hs : s < aN a) : ∃ ν', f_X4_cawOf ν (nI s) = some (ν', (mb (wo a s) 8).1) ∧ (∀ c, c ≠ 5 → c ≠ 6 → c ≠ 10 → ν'.1 c = ν.1 c) ∧ ν'.2 = ν.2 := by
  obtain ⟨ν1, e1, k1, k2, k3⟩ := asTheySit_e hO hM hF
  simp only [f_X4_cawOf, e1, bd, Option.bind_some]
  obtain ⟨⟨y, u, v, z⟩, q, ⟨h1, h3, h4, h5⟩, h2⟩ := lp_fu (body := fun ih σ => b_X4_cawOf_12 (nI s) ih σ.1 σ.2.1 σ.2.2.1 σ.2.2.2) (fun m (x : MM × Int32 × Int32 × Int32) => x.2 = ((mb (wo a s) m).1, nI (mb (wo a s) m).2, nI m) ∧ MKx x.1.1 (aN a) (sK a) (sT a) s ∧ (∀ c, c ≠ 5 → c ≠ 6 → c ≠ 10 → x.1.1 c = ν.1 c) ∧ x.1.2 = ν.2) 8 (by omega) (fun m x hm hx => by
    obtain ⟨x, q⟩ := x
    obtain ⟨hq, h3, h4, h5⟩ := hx
    have hq : q = ((mb (wo a s) m).1, nI (mb (wo a s) m).2, nI m) := hq
    subst hq
    have h4 : ∀ c, c ≠ 5 → c ≠ 6 → c ≠ 10 → x.1 c = ν.1 c := h4
    have h5 : x.2 = ν.2 := h5
    have hM' : MS x.1 3 4 9 a := hM.cong (fun c hc => h4 c (by omega) (by omega) (by omega))
    have hF' : MF x.1 a := hF.cong (by intros; rw [h4 0 (by omega) (by omega) (by omega)])
    obtain ⟨x', y1, y2, y3, y4⟩ := caw_m (x2 := (mb (wo a s) m).1) hO hM' hF' hs h3 hm (mb_le (wo a s) m)
    have c1 : ¬ (8 : Int32) ≤ nI m := by show ¬ nI 8 ≤ nI m; exact nI_ge hm (by omega)
    refine ⟨(x', (mb (wo a s) (m + 1)).1, nI (mb (wo a s) (m + 1)).2, nI (m + 1)), ⟨rfl, y1, fun c a1 a2 a3 => by show x'.1 c = ν.1 c; rw [y2 c a1 a2 a3]; exact h4 c a1 a2 a3, by show x'.2 = ν.2; rw [y3]; exact h5⟩, fun ih => ?_⟩
    simp only [b_X4_cawOf_12, c1, ↓reduceIte]
    rw [y4]
    rfl) (ν1, (-1 : Int32), (41 : Int32), (0 : Int32)) ⟨rfl, k1.mx s, fun c a1 a2 _ => k2 c a1 a2, k3⟩
  have h1 : (u, v, z) = ((mb (wo a s) 8).1, nI (mb (wo a s) 8).2, nI 8) := h1
  obtain ⟨rfl, rfl, rfl⟩ : u = (mb (wo a s) 8).1 ∧ v = nI (mb (wo a s) 8).2 ∧ z = nI 8 := by simpa using h1
  refine ⟨y, ?_, h4, h5⟩
  rw [h2]
  have c1 : (8 : Int32) ≤ nI 8 := by decide
  simp only [b_X4_cawOf_12, c1, ↓reduceIte]
/-- both tell the same -/
theorem caw_same {μ : Mem} {a : AS} {s : Nat} (hO : OKS a) (hC : CS μ 3 4 5 6 7 8 9 10 a) (hs : s < aN a) : ∃ μ', f_X3_bestMotion μ (nI s) (lN (bm (sp a (aN a) (sK a) (sT a) (aW a) s) 40)) = some (μ', (mb (wo a s) 8).1) ∧ ∀ c, c < 19 → μ' c = μ c := by
  obtain ⟨μ', r, e1, e2, e3, e4⟩ := bestMotion_e hO hC hs
  by_cases hz : ∀ k, k < 40 → sp a (aN a) (sK a) (sT a) (aW a) s k = false
  · have h0 : ∀ m, wo a s m = 0 := fun m => by
      have : wo a s m ≤ 0 := mx_le (fun v _ => by
        unfold wc
        rw [fb_ct_zero.mpr (fun k hk => by rw [hz k hk]; rfl)]
        omega)
      omega
    refine ⟨μ', ?_, e2⟩
    rw [e1, e3 hz, mb_none h0]
  · have h1 : ∀ m, m < 8 → 1 ≤ wo a s m ∧ wo a s m ≤ 40 := fun m hm => by
      refine ⟨?_, wo_le a s m⟩
      have : ∃ k, k < 40 ∧ sp a (aN a) (sK a) (sT a) (aW a) s k = true := by
        refine Classical.byContradiction (fun q => hz (fun k hk => ?_))
        rcases hb : sp a (aN a) (sK a) (sT a) (aW a) s k with _ | _
        · rfl
        · exact absurd ⟨k, hk, hb⟩ q
      obtain ⟨k, hk, hp⟩ := this
      have hB := (hO.bk (by omega)).put (s := s) hk
      have hlt : ot (aN a) (sK a) (sT a) (aW a) s m k < 8 := CM_lt hB hm
      have h1 : 0 < wc (sp a (aN a) (sK a) (sT a) (aW a) s) (ot (aN a) (sK a) (sT a) (aW a) s m) 40 (ot (aN a) (sK a) (sT a) (aW a) s m k) := fb_ct_pos.mpr ⟨k, hk, by simp [hp]⟩
      exact Nat.le_trans h1 (mx_ge hlt)
    refine ⟨μ', ?_, e2⟩
    rw [e1, e4 hz, mb_bst h1 7 (by omega)]
theorem st_caw {T : Nat} {μ : Mem} {ν : MM} {x1 : Int32} (h : Rel T μ ν) : ∃ (μ' : Mem) (ν' : MM) (r : Int32), f_X3_caw μ x1 = some (μ', r) ∧ f_X4_caw ν x1 = some (ν', r) ∧ Rel (T + 1) μ' ν' := by
  obtain ⟨a, pn, pg, rr, sd, hO, hC, hM, hF, hG, hN, hK⟩ := id h
  have h6 := hO.2.1
  by_cases hx : inb x1 (aN a)
  · obtain ⟨s, hs, rfl⟩ := hx
    obtain ⟨μ1, e1, e2⟩ := guessesFor_e hO hC hs
    obtain ⟨μ', e3, e4⟩ := caw_same hO (hC.cong (fun c hc => e2 c (by omega))) hs
    obtain ⟨ν', g1, g2, g3⟩ := cawOf_e hO hM hF hs
    refine ⟨μ', ν', (mb (wo a s) 8).1, ?_, ?_, (h.scr2 ⟨fun c hc => by rw [e4 c hc, e2 c hc], fun c hc => g2 c (by omega) (by omega) (by omega), fun k _ _ _ _ => by rw [g2 0 (by omega) (by omega) (by omega)], g3⟩).mono (by omega)⟩
    · simp only [f_X3_caw, nm, isPlace_t hC.1.1 h6 hs, i10, ↓reduceIte, e1, e3, bd2, Option.bind_some]
    · simp only [f_X4_caw, nm, mRook_t hF.1 h6 hs, i10, ↓reduceIte, g1, bd2, Option.bind_some]
  · refine ⟨μ, ν, -101, ?_, ?_, h.mono (by omega)⟩
    · simp only [f_X3_caw, nm, isPlace_f hC.1.1 h6 hx, ↓reduceIte]
    · simp only [f_X4_caw, nm, mRook_f hF.1 h6 hx, ↓reduceIte]
