/-! both tell the same orders -/
def gq (n c : Nat) : Option Nat := if okk n c then (exc n c).map (fun e => 8 * c + e) else none
theorem lf_s {n c : Nat} {L L' : List Nat} (h : lf n c L = some L') : L = [c].filterMap (gq n) ++ L' ∧ (okk n c = true → ∃ e, exc n c = some e) := by
  unfold lf at h
  by_cases q : okk n c = true
  · rw [if_pos q] at h
    rcases L with _ | ⟨x, t⟩
    · exact absurd h (by simp)
    · rcases he : exc n c with _ | e
      · rw [he] at h; exact absurd h (by simp)
      · rw [he] at h
        have h : (if x = 8 * c + e then some t else none) = some L' := h
        by_cases g : x = 8 * c + e
        · rw [if_pos g] at h
          refine ⟨?_, fun _ => ⟨e, rfl⟩⟩
          have hg : gq n c = some (8 * c + e) := by unfold gq; rw [if_pos q, he]; rfl
          simp only [List.filterMap_cons, hg, List.filterMap_nil]
          rw [g]
          have : t = L' := by simpa using h
          rw [this]; rfl
        · rw [if_neg g] at h; exact absurd h (by simp)
  · rw [if_neg q] at h
    have hg : gq n c = none := by unfold gq; rw [if_neg q]
    refine ⟨?_, fun e => absurd e q⟩
    simp only [List.filterMap_cons, hg, List.filterMap_nil]
    simpa using h
theorem wl_s {n st : Nat} {f : Nat → List Nat → Option (List Nat)} (hf : ∀ c L L', f c L = some L' → L = (List.range' c st).filterMap (gq n) ++ L' ∧ ∀ x, c ≤ x → x < c + st → okk n x = true → ∃ e, exc n x = some e) : ∀ (d c : Nat) (L L' : List Nat), wl f st d c L = some L' → L = (List.range' c (d * st)).filterMap (gq n) ++ L' ∧ ∀ x, c ≤ x → x < c + d * st → okk n x = true → ∃ e, exc n x = some e
  | 0, c, L, L', h => by
    have h : some L = some L' := h
    refine ⟨?_, fun x h1 h2 => by omega⟩
    rw [Nat.zero_mul]
    simpa using h
  | d + 1, c, L, L', h => by
    rw [wl] at h
    rcases hq : f c L with _ | L1
    · rw [hq] at h; exact absurd h (by simp)
    · rw [hq] at h
      have h : wl f st d (c + st) L1 = some L' := h
      obtain ⟨e1, e2⟩ := hf c L L1 hq
      obtain ⟨e3, e4⟩ := wl_s hf d (c + st) L1 L' h
      have hm : (d + 1) * st = st + d * st := by rw [Nat.succ_mul, Nat.add_comm]
      refine ⟨?_, fun x h1 h2 => ?_⟩
      · rw [e1, e3, hm, ← List.range'_append_1, List.filterMap_append, List.append_assoc]
      · rcases Nat.lt_or_ge x (c + st) with q | q
        · exact e2 x h1 q
        · exact e4 x q (by omega)
theorem wk_s {n : Nat} : ∀ (k c : Nat) (L L' : List Nat), wk n k c L = some L' → L = (List.range' c (n ^ k)).filterMap (gq n) ++ L' ∧ ∀ x, c ≤ x → x < c + n ^ k → okk n x = true → ∃ e, exc n x = some e
  | 0, c, L, L', h => by
    obtain ⟨h1, h2⟩ := lf_s (show lf n c L = some L' from h)
    refine ⟨h1, fun x q1 q2 => ?_⟩
    have : x = c := by
      have q2 : x < c + 1 := q2
      omega
    rw [this]; exact h2
  | k + 1, c, L, L', h => by
    have h : wl (wk n k) (n ^ k) n c L = some L' := h
    have hm : n ^ (k + 1) = n * n ^ k := by rw [Nat.pow_succ, Nat.mul_comm]
    rw [hm]
    exact wl_s (fun c L L' h => wk_s k c L L' h) n c L L' h
theorem same_orders {n : Nat} (h3 : 3 ≤ n) (h6 : n ≤ 6) : ((List.range (fct n)).map (it n)).Perm ((List.range (n ^ n)).filterMap (gq n)) ∧ ∀ x, x < n ^ n → okk n x = true → ∃ e, exc n x = some e := by
  have key : ∀ SL CL : List Nat, (List.range (fct n)).map (it n) = CL → srt CL = SL → wk n n 0 SL = some [] → ((List.range (fct n)).map (it n)).Perm ((List.range (n ^ n)).filterMap (gq n)) ∧ ∀ x, x < n ^ n → okk n x = true → ∃ e, exc n x = some e := fun SL CL h1 h2 h3 => by
    obtain ⟨e1, e2⟩ := wk_s n 0 SL [] h3
    rw [List.append_nil, ← List.range_eq_range'] at e1
    refine ⟨?_, fun x hx => e2 x (Nat.zero_le _) (by omega)⟩
    rw [h1, ← e1, ← h2]
    exact (srt_p CL).symm
  rcases (show n = 3 ∨ n = 4 ∨ n = 5 ∨ n = 6 by omega) with rfl | rfl | rfl | rfl
  · exact key _ _ cl3 sl3 wk3
  · exact key _ _ cl4 sl4 wk4
  · exact key _ _ cl5 sl5 wk5
  · exact key _ _ cl6 sl6 wk6
/-! the nearest so far -/
def nr (hit : Nat → Bool) (s : Option (Nat × Nat)) (q : Nat) : Option (Nat × Nat) :=
  if hit (q / 8) then (match s with
    | none => some (q % 8, 1)
    | some (b, k) => if q % 8 < b then some (q % 8, 1) else if q % 8 = b then some (b, k + 1) else some (b, k)) else s
theorem nr_comm (hit : Nat → Bool) (s : Option (Nat × Nat)) (x y : Nat) : nr hit (nr hit s x) y = nr hit (nr hit s y) x := by
  unfold nr
  by_cases h1 : hit (x / 8) = true
  · by_cases h2 : hit (y / 8) = true
    · rw [if_pos h1, if_pos h2, if_pos h2, if_pos h1]
      rcases s with _ | ⟨b, k⟩
      · dsimp only
        rcases Nat.lt_trichotomy (x % 8) (y % 8) with q | q | q
        · rw [if_neg (by omega), if_neg (by omega), if_pos q]
        · rw [if_neg (by omega), if_pos (by omega), if_neg (by omega), if_pos q, q]
        · rw [if_pos q, if_neg (by omega), if_neg (by omega)]
      · dsimp only
        rcases Nat.lt_trichotomy (x % 8) b with q1 | q1 | q1
        · rcases Nat.lt_trichotomy (y % 8) b with q2 | q2 | q2
          · rw [if_pos q1, if_pos q2]
            dsimp only
            rcases Nat.lt_trichotomy (x % 8) (y % 8) with q | q | q
            · rw [if_neg (by omega), if_neg (by omega), if_pos q]
            · rw [if_neg (by omega), if_pos (by omega), if_neg (by omega), if_pos q, q]
            · rw [if_pos q, if_neg (by omega), if_neg (by omega)]
          · rw [if_pos q1, if_neg (by omega), if_pos q2]
            dsimp only
            rw [if_neg (by omega), if_neg (by omega), if_pos q1]
          · rw [if_pos q1, if_neg (by omega), if_neg (by omega)]
            dsimp only
            rw [if_neg (by omega), if_neg (by omega), if_pos q1]
        · rcases Nat.lt_trichotomy (y % 8) b with q2 | q2 | q2
          · rw [if_neg (by omega), if_pos q1, if_pos q2]
            dsimp only
            rw [if_pos q2, if_neg (by omega), if_neg (by omega)]
          · rw [if_neg (by omega), if_pos q1, if_neg (by omega), if_pos q2]
            dsimp only
            rw [if_neg (by omega), if_pos q2, if_neg (by omega), if_pos q1]
          · rw [if_neg (by omega), if_pos q1, if_neg (by omega), if_neg (by omega)]
            dsimp only
            rw [if_neg (by omega), if_neg (by omega), if_neg (by omega), if_pos q1]
        · rcases Nat.lt_trichotomy (y % 8) b with q2 | q2 | q2
          · rw [if_neg (by omega), if_neg (by omega), if_pos q2]
            dsimp only
            rw [if_pos q2, if_neg (by omega), if_neg (by omega)]
          · rw [if_neg (by omega), if_neg (by omega), if_neg (by omega), if_pos q2]
            dsimp only
            rw [if_neg (by omega), if_pos q2, if_neg (by omega), if_neg (by omega)]
          · rw [if_neg (by omega), if_neg (by omega), if_neg (by omega), if_neg (by omega)]
            dsimp only
            rw [if_neg (by omega), if_neg (by omega), if_neg (by omega), if_neg (by omega)]
    · rw [if_pos h1, if_neg h2, if_neg h2, if_pos h1]
  · by_cases h2 : hit (y / 8) = true
    · rw [if_neg h1, if_pos h2, if_neg h1]
    · rw [if_neg h1, if_neg h2, if_neg h1]
theorem nr_same {n : Nat} (h3 : 3 ≤ n) (h6 : n ≤ 6) (hit : Nat → Bool) : ((List.range (fct n)).map (it n)).foldl (nr hit) none = ((List.range (n ^ n)).filterMap (gq n)).foldl (nr hit) none :=
  (same_orders h3 h6).1.foldl_eq' (fun x _ y _ z => nr_comm hit z x y) none
theorem nr_lt (hit : Nat → Bool) : ∀ (l : List Nat) (s : Option (Nat × Nat)), (∀ b k, s = some (b, k) → b < 8) → ∀ b k, l.foldl (nr hit) s = some (b, k) → b < 8
  | [], s, h, b, k, e => h b k e
  | q :: l, s, h, b, k, e => by
    refine nr_lt hit l (nr hit s q) (fun b k e => ?_) b k e
    unfold nr at e
    by_cases h1 : hit (q / 8) = true
    · rw [if_pos h1] at e
      rcases s with _ | ⟨b0, k0⟩
      · have e : some (q % 8, 1) = some (b, k) := e
        have : q % 8 = b := by simp at e; exact e.1
        omega
      · have e : (if q % 8 < b0 then some (q % 8, 1) else if q % 8 = b0 then some (b0, k0 + 1) else some (b0, k0)) = some (b, k) := e
        have hb := h b0 k0 rfl
        by_cases c1 : q % 8 < b0
        · rw [if_pos c1] at e
          have : q % 8 = b := by simp at e; exact e.1
          omega
        · rw [if_neg c1] at e
          by_cases c2 : q % 8 = b0
          · rw [if_pos c2] at e
            have : b0 = b := by simp at e; exact e.1
            omega
          · rw [if_neg c2] at e
            have : b0 = b := by simp at e; exact e.1
            omega
    · rw [if_neg h1] at e
      exact h b k e
