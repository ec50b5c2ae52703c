/-! TWO WORLDS SIDE BY SIDE -/
theorem va_P.lft {D : va_G} {cl : List vw_C} {w1 w2 : va_W} {H : Heap} (h : va_P D cl (w1 ++ w2) H) : va_P D cl w1 H := fun k q hk => h k q (by rw [List.getElem?_append_left (List.getElem?_eq_some_iff.mp hk).1]; exact hk)
theorem va_P.rgt {D : va_G} {cl : List vw_C} {w1 w2 : va_W} {H : Heap} (h : va_P D cl (w1 ++ w2) H) : va_P D cl w2 H := fun k q hk => h (w1.length + k) q (by rw [List.getElem?_append_right (by omega)]; simpa using hk)
theorem va_D.lr {A : Nat → Prop} {w1 w2 : va_W} (h : va_D A (w1 ++ w2)) {i j : Nat} {p q : Nat × va_E} (hi : w1[i]? = some p) (hj : w2[j]? = some q) : p.1 ≠ q.1 := by
  intro e
  have l1 := (List.getElem?_eq_some_iff.mp hi).1
  have := h.1 i (w1.length + j) p q (by rw [List.getElem?_append_left l1]; exact hi) (by rw [List.getElem?_append_right (by omega)]; simpa using hj) e
  omega
theorem va_D.lft {A : Nat → Prop} {w1 w2 : va_W} (h : va_D A (w1 ++ w2)) : va_D A w1 :=
  ⟨fun i j p q hi hj e => h.1 i j p q (by rw [List.getElem?_append_left (List.getElem?_eq_some_iff.mp hi).1]; exact hi) (by rw [List.getElem?_append_left (List.getElem?_eq_some_iff.mp hj).1]; exact hj) e, fun k q hk => h.2 k q (by rw [List.getElem?_append_left (List.getElem?_eq_some_iff.mp hk).1]; exact hk)⟩
theorem va_D.rgt {A : Nat → Prop} {w1 w2 : va_W} (h : va_D A (w1 ++ w2)) : va_D A w2 :=
  ⟨fun i j p q hi hj e => by
    have := h.1 (w1.length + i) (w1.length + j) p q (by rw [List.getElem?_append_right (by omega)]; simpa using hi) (by rw [List.getElem?_append_right (by omega)]; simpa using hj) e
    omega, fun k q hk => h.2 (w1.length + k) q (by rw [List.getElem?_append_right (by omega)]; simpa using hk)⟩
theorem va_D.fst {A : Nat → Prop} {w w' : va_W} (e : w.map Prod.fst = w'.map Prod.fst) (h : va_D A w) : va_D A w' := by
  have key : ∀ (k : Nat) (q : Nat × va_E), w'[k]? = some q → ∃ p, w[k]? = some p ∧ p.1 = q.1 := by
    intro k q hk
    have h1 : (w'.map Prod.fst)[k]? = some q.1 := by rw [List.getElem?_map, hk]; rfl
    rw [← e, List.getElem?_map] at h1
    cases hw : w[k]? with
    | none => rw [hw] at h1; cases h1
    | some p => rw [hw] at h1; exact ⟨p, rfl, Option.some.inj h1⟩
  refine ⟨fun i j p q hi hj eq => ?_, fun k q hk => ?_⟩
  · obtain ⟨p', h1, e1⟩ := key i p hi
    obtain ⟨q', h2, e2⟩ := key j q hj
    exact h.1 i j p' q' h1 h2 (by rw [e1, e2]; exact eq)
  · obtain ⟨p, h1, e1⟩ := key k q hk
    rw [← e1]; exact h.2 k p h1
theorem va_A.fst {w w' : va_W} {sz q : Nat} (e : w.map Prod.fst = w'.map Prod.fst) (h : va_A w sz q) : va_A w' sz q := by
  rcases h with ⟨k, x, hk⟩ | h
  · have h1 : (w.map Prod.fst)[k]? = some q := by rw [List.getElem?_map, hk]; rfl
    rw [e, List.getElem?_map] at h1
    cases hw : w'[k]? with
    | none => rw [hw] at h1; cases h1
    | some p => rw [hw] at h1; exact Or.inl ⟨k, p.2, by rw [hw]; congr 1; rw [← Option.some.inj h1]⟩
  · exact Or.inr h
theorem YOK.of {S : Type} {Y : ZY S} (e : ∀ μ μ', (yw Y μ).map Prod.fst = (yw Y μ').map Prod.fst) {A : Nat → Prop} {μ0 : S} (h : va_D A (yw Y μ0)) : YOK Y :=
  ⟨fun μ => (h.fst (e μ0 μ)).weaken (fun _ _ _ _ => trivial), fun μ μ1 sz q hq => hq.fst (e μ1 μ)⟩
abbrev YP {S1 S2 : Type} (Y1 : ZY S1) (Y2 : ZY S2) : ZY (S1 × S2) := (fun σ => yw Y1 σ.1 ++ yw Y2 σ.2, yD Y1, yt Y1, ya Y1)
section
variable {S1 S2 : Type} {X : ZX} {Y1 : ZY S1} {Y2 : ZY S2} {cc : ByteArray} {nL : Nat} {own : String} {rm : Room} {a a' : S1} {m m' : S2} {pc : Nat} {lv : List (Nat × Value)} {st : List Value}
theorem z_callA (C : CX X (YP Y1 Y2) cc nL own rm) (hO : YOK Y1) {y : MethodName} {bytes : ByteArray} {maxL : Nat} {ret : Option FieldType} {rm' : Room} {b : Nat} {As rest : List Value} {rv : Option Value} {idx : Nat} (hM : MZ (zl X) Y1 y bytes maxL ret rm' (.ref b :: As) a a' rv) (hw : VW own idx y bytes maxL ret As.length) (hrm : rm'.cells = 0 ∧ rm'.slots = 0 ∧ rm'.frames + 1 ≤ rm.frames ∧ 8 + (maxL + 11) + rm'.locals ≤ rm.locals)
    (hrv : ∀ H locs, va_P (yD (YP Y1 Y2)) classes (yw (YP Y1 Y2) (a, m)) H → va_S (zA X) (zs X).heap H locs → ∃ cell : Cell, H[b]? = some cell ∧ cell.vm.isStatics = false ∧ (zs X).vm.findClass y.cls = some cell.cls) (hst : st = As.reverse ++ .ref b :: rest) (hroom : (rest.map fun v => v.category).sum ≤ 8) (hd : decode cc pc = .ok (.invokevirtual idx, 3)) (k : Z X (YP Y1 Y2) nL (a', m) (pc + 3) lv (rv.toList ++ rest)) : Z X (YP Y1 Y2) nL (a, m) pc lv st := by
  intro H locs ls hP hS hl
  obtain ⟨⟨w1, w2, w3, w4, w5⟩, n1, n2, n3⟩ := hw
  have hR := C.room
  have hPl : va_P (yD Y1) classes (yw Y1 a) H := va_P.lft hP
  have hPr : va_P (yD Y1) classes (yw Y2 m) H := va_P.rgt hP
  have hD : va_D (zA X) (yw Y1 a ++ yw Y2 m) := C.hD (a, m)
  have hF : ∀ q, va_A (yw Y1 a) H.size q → zA X q := by
    rintro q (⟨k, e, h⟩ | h)
    · exact hD.lft.2 k (q, e) h
    · exact C.hA q (Nat.le_trans hS.1 h)
  have hr := va_runV (p := zp X) (l := zl X) (e := ze X) (R := zR X) (s := zs X) (m := zm X) (args := za X) (below := zb X) (meth := zh X) (c := zc X) (H := H) (locs := locs) (cells := zk X) (slots := zn X) (g := F0 (zm X) pc ls st) (C := y.cls) (b := b) (As := As) (rest := rest) (bytes := bytes) (maxL := maxL) (ret := ret) (rm := rm') (n := As.length) ⟨C.exec, C.bytes, C.maxL, C.ow, C.hts⟩ (hM H.size) ⟨⟨hrm.1, hrm.2.1, by rw [hR]; exact hrm.2.2.1, by rw [hR]; exact hrm.2.2.2, pay_in C.hts (ww_good (fun _ h => h) (fun w h => by
      rcases List.mem_cons.mp h with rfl | h
      · exact w5
      · exact h)), List.mem_cons_self, C.hts _ w5, C.hts _ w4, ⟨n1, n2⟩, fun sig h => by
        rw [h] at n3
        exact (Option.some.inj n3).symm, C.hts _ w1⟩, C.hts _ w2, C.hts _ w3⟩ ⟨PZ.blind, hrv H locs hP hS, fun U hU hW => ⟨rfl, by rw [hU], by rw [hU]; exact hPl, va_K.moved hW.alike C.hK, hO, C.ex.call (H := H) hS.2.1 hW hU hF⟩⟩ rfl rfl hl.1 hst (lv_room hroom) hd C.cells
  intro T hT X0
  obtain ⟨v, st₀, t, T', L, h0, X', hL, e1, e2, ⟨⟨hv, hP1⟩, hz, hk⟩, stp⟩ := hr T hT X0
  cases hv
  rw [h0] at hz hk
  have hP2 : va_P (yD Y1) classes (yw Y2 m) t.heap := fun k q hq => (hPr k q hq).kept (hk q.1 (hPr k q hq).lt (fun z => by
    rcases z with ⟨k2, e, h⟩ | h
    · exact hD.lr h hq rfl
    · exact absurd (hPr k q hq).lt (by omega)))
  obtain ⟨t2, a1, b1⟩ := k T'.heap (locs ++ L) ls (by rw [e1]; exact va_P.app hP1 hP2)
    ⟨Nat.le_trans hS.1 (by rw [e1]; exact hz), fun q h1 h2 => by rw [e1, hk q (Nat.lt_of_lt_of_le h1 hS.1) (fun z => h2 (hF q z))]; exact hS.2.1 q h1 h2, fun q hq => by
      rcases List.mem_append.mp hq with h | h
      · exact hS.2.2 q h
      · exact hF _ (hL q h)⟩ hl T' rfl X'
  exact ⟨t2, stp t2 a1, b1⟩
theorem z_callB (C : CX X (YP Y1 Y2) cc nL own rm) (hO : YOK Y2) (eD : yD Y2 = yD Y1) (et : yt Y2 = yt Y1) (ea : ya Y2 = ya Y1) {y : MethodName} {bytes : ByteArray} {maxL : Nat} {ret : Option FieldType} {rm' : Room} {b : Nat} {As rest : List Value} {rv : Option Value} {idx : Nat} (hM : MZ (zl X) Y2 y bytes maxL ret rm' (.ref b :: As) m m' rv) (hw : VW own idx y bytes maxL ret As.length) (hrm : rm'.cells = 0 ∧ rm'.slots = 0 ∧ rm'.frames + 1 ≤ rm.frames ∧ 8 + (maxL + 11) + rm'.locals ≤ rm.locals)
    (hrv : ∀ H locs, va_P (yD (YP Y1 Y2)) classes (yw (YP Y1 Y2) (a, m)) H → va_S (zA X) (zs X).heap H locs → ∃ cell : Cell, H[b]? = some cell ∧ cell.vm.isStatics = false ∧ (zs X).vm.findClass y.cls = some cell.cls) (hst : st = As.reverse ++ .ref b :: rest) (hroom : (rest.map fun v => v.category).sum ≤ 8) (hd : decode cc pc = .ok (.invokevirtual idx, 3)) (k : Z X (YP Y1 Y2) nL (a, m') (pc + 3) lv (rv.toList ++ rest)) : Z X (YP Y1 Y2) nL (a, m) pc lv st := by
  intro H locs ls hP hS hl
  obtain ⟨⟨w1, w2, w3, w4, w5⟩, n1, n2, n3⟩ := hw
  have hR := C.room
  have hPl : va_P (yD Y1) classes (yw Y1 a) H := va_P.lft hP
  have hPr : va_P (yD Y1) classes (yw Y2 m) H := va_P.rgt hP
  have hD : va_D (zA X) (yw Y1 a ++ yw Y2 m) := C.hD (a, m)
  have hF : ∀ q, va_A (yw Y2 m) H.size q → zA X q := by
    rintro q (⟨k, e, h⟩ | h)
    · exact hD.rgt.2 k (q, e) h
    · exact C.hA q (Nat.le_trans hS.1 h)
  have hr := va_runV (p := zp X) (l := zl X) (e := ze X) (R := zR X) (s := zs X) (m := zm X) (args := za X) (below := zb X) (meth := zh X) (c := zc X) (H := H) (locs := locs) (cells := zk X) (slots := zn X) (g := F0 (zm X) pc ls st) (C := y.cls) (b := b) (As := As) (rest := rest) (bytes := bytes) (maxL := maxL) (ret := ret) (rm := rm') (n := As.length) ⟨C.exec, C.bytes, C.maxL, C.ow, C.hts⟩ (hM H.size) ⟨⟨hrm.1, hrm.2.1, by rw [hR]; exact hrm.2.2.1, by rw [hR]; exact hrm.2.2.2, pay_in C.hts (ww_good (fun _ h => h) (fun w h => by
      rcases List.mem_cons.mp h with rfl | h
      · exact w5
      · exact h)), List.mem_cons_self, C.hts _ w5, C.hts _ w4, ⟨n1, n2⟩, fun sig h => by
        rw [h] at n3
        exact (Option.some.inj n3).symm, C.hts _ w1⟩, C.hts _ w2, C.hts _ w3⟩ ⟨PZ.blind, hrv H locs hP hS, fun U hU hW => ⟨rfl, by rw [hU], by rw [hU, eD]; exact hPr, by rw [eD, et]; exact va_K.moved hW.alike C.hK, hO, by rw [ea]; exact C.ex.call (H := H) hS.2.1 hW hU hF⟩⟩ rfl rfl hl.1 hst (lv_room hroom) hd C.cells
  intro T hT X0
  obtain ⟨v, st₀, t, T', L, h0, X', hL, e1, e2, ⟨⟨hv, hP1⟩, hz, hk⟩, stp⟩ := hr T hT X0
  cases hv
  rw [h0] at hz hk
  rw [eD] at hP1
  have hP2 : va_P (yD Y1) classes (yw Y1 a) t.heap := fun k q hq => (hPl k q hq).kept (hk q.1 (hPl k q hq).lt (fun z => by
    rcases z with ⟨k2, e, h⟩ | h
    · exact hD.lr hq h rfl
    · exact absurd (hPl k q hq).lt (by omega)))
  obtain ⟨t2, a1, b1⟩ := k T'.heap (locs ++ L) ls (by rw [e1]; exact va_P.app hP2 hP1)
    ⟨Nat.le_trans hS.1 (by rw [e1]; exact hz), fun q h1 h2 => by rw [e1, hk q (Nat.lt_of_lt_of_le h1 hS.1) (fun z => h2 (hF q z))]; exact hS.2.1 q h1 h2, fun q hq => by
      rcases List.mem_append.mp hq with h | h
      · exact hS.2.2 q h
      · exact hF _ (hL q h)⟩ hl T' rfl X'
  exact ⟨t2, stp t2 a1, b1⟩
end
section
variable {S : Type} {X : ZX} {Y : ZY S} {cc : ByteArray} {nL : Nat} {own : String} {rm : Room} {μ : S} {pc : Nat} {lv : List (Nat × Value)} {st : List Value}
theorem z_sld (C : CX X Y cc nL own rm) {b L : Nat} {xs : Nat → Int32} (hX : va_X b L xs (zs X) (zs X).heap) (hbl : b < (zs X).heap.size) (hbA : ¬ zA X b) {i : Int32} (hin : vp_in i L) (hd : decode cc pc = .ok (.iaload, 1)) (k : Z X Y nL μ (pc + 1) lv (.int (xs i.toNatClampNeg) :: st)) : Z X Y nL μ pc lv (.int i :: .ref b :: st) :=
  fun H locs ls hP hS hl => va_sld C.exec C.bytes hX hbl hbA hS hin hd (k H locs ls hP hS hl)
theorem z_slen (C : CX X Y cc nL own rm) {b L : Nat} {xs : Nat → Int32} (hX : va_X b L xs (zs X) (zs X).heap) (hbl : b < (zs X).heap.size) (hbA : ¬ zA X b) (hd : decode cc pc = .ok (.arraylength, 1)) (k : Z X Y nL μ (pc + 1) lv (.int (nI L) :: st)) : Z X Y nL μ pc lv (.ref b :: st) :=
  fun H locs ls hP hS hl => va_slen C.exec C.bytes hX hbl hbA hS hd (k H locs ls hP hS hl)
end
theorem lw_ix {T L : Nat} (hL : L ≤ 384) : ((nI L - 6) < nI (6 * T) ∧ T ≤ 100) ∨ ¬ ((nI L - 6) < nI (6 * T)) ∨ 100 < T := by
  by_cases h : (nI L - 6) < nI (6 * T)
  · by_cases h2 : T ≤ 100
    · exact Or.inl ⟨h, h2⟩
    · exact Or.inr (Or.inr (by omega))
  · exact Or.inr (Or.inl h)
theorem lw_in {T L : Nat} (hL : L ≤ 384) (hT : T ≤ 64) (h : ¬ ((nI L - 6) < nI (6 * T))) : 6 * T + 6 ≤ L := by
  rw [fa_lt, nI_toInt (by omega), show (6 : Int32) = nI 6 from rfl, pk_sub_toInt (by omega) (by omega)] at h
  omega
theorem lw_inc (T : Nat) : nI (6 * T) + Int32.ofInt 6 = nI (6 * (T + 1)) := by
  show nI (6 * T) + nI 6 = _
  rw [nI_add]; congr 1
theorem vw_L_13 : VW RL 13 yX3_letter cX3_letter 2 (some .int) 1 := ⟨⟨ww_in 178 (by decide +kernel) (by decide +kernel), ww_in 179 (by decide +kernel) (by decide +kernel), ww_in 180 (by decide +kernel) (by decide +kernel), ww_in 33 (by decide +kernel) (by decide +kernel), ww_in 181 (by decide +kernel) (by decide +kernel)⟩, ⟨by decide +kernel, by decide +kernel, by decide +kernel⟩⟩
theorem vw_L_17 : VW RL 17 yX4_letter cX4_letter 2 (some .int) 1 := ⟨⟨ww_in 686 (by decide +kernel) (by decide +kernel), ww_in 687 (by decide +kernel) (by decide +kernel), ww_in 688 (by decide +kernel) (by decide +kernel), ww_in 37 (by decide +kernel) (by decide +kernel), ww_in 689 (by decide +kernel) (by decide +kernel)⟩, ⟨by decide +kernel, by decide +kernel, by decide +kernel⟩⟩
theorem vw_L_18 : VW RL 18 yX3_blank cX3_blank 1 (some .int) 0 := ⟨⟨ww_in 186 (by decide +kernel) (by decide +kernel), ww_in 187 (by decide +kernel) (by decide +kernel), ww_in 188 (by decide +kernel) (by decide +kernel), ww_in 33 (by decide +kernel) (by decide +kernel), ww_in 189 (by decide +kernel) (by decide +kernel)⟩, ⟨by decide +kernel, by decide +kernel, by decide +kernel⟩⟩
theorem vw_L_22 : VW RL 22 yX4_blank cX4_blank 2 (some .int) 0 := ⟨⟨ww_in 694 (by decide +kernel) (by decide +kernel), ww_in 695 (by decide +kernel) (by decide +kernel), ww_in 696 (by decide +kernel) (by decide +kernel), ww_in 37 (by decide +kernel) (by decide +kernel), ww_in 697 (by decide +kernel) (by decide +kernel)⟩, ⟨by decide +kernel, by decide +kernel, by decide +kernel⟩⟩
theorem vw_L_23 : VW RL 23 yX3_fault cX3_fault 1 (some .int) 0 := ⟨⟨ww_in 194 (by decide +kernel) (by decide +kernel), ww_in 195 (by decide +kernel) (by decide +kernel), ww_in 196 (by decide +kernel) (by decide +kernel), ww_in 33 (by decide +kernel) (by decide +kernel), ww_in 197 (by decide +kernel) (by decide +kernel)⟩, ⟨by decide +kernel, by decide +kernel, by decide +kernel⟩⟩
theorem vw_L_26 : VW RL 26 yX4_fault cX4_fault 1 (some .int) 0 := ⟨⟨ww_in 698 (by decide +kernel) (by decide +kernel), ww_in 699 (by decide +kernel) (by decide +kernel), ww_in 700 (by decide +kernel) (by decide +kernel), ww_in 37 (by decide +kernel) (by decide +kernel), ww_in 701 (by decide +kernel) (by decide +kernel)⟩, ⟨by decide +kernel, by decide +kernel, by decide +kernel⟩⟩
theorem vw_L_27 : VW RL 27 yX3_ring cX3_ring 1 (some .int) 0 := ⟨⟨ww_in 297 (by decide +kernel) (by decide +kernel), ww_in 298 (by decide +kernel) (by decide +kernel), ww_in 299 (by decide +kernel) (by decide +kernel), ww_in 33 (by decide +kernel) (by decide +kernel), ww_in 300 (by decide +kernel) (by decide +kernel)⟩, ⟨by decide +kernel, by decide +kernel, by decide +kernel⟩⟩
theorem vw_L_30 : VW RL 30 yX4_ring cX4_ring 2 (some .int) 0 := ⟨⟨ww_in 714 (by decide +kernel) (by decide +kernel), ww_in 715 (by decide +kernel) (by decide +kernel), ww_in 716 (by decide +kernel) (by decide +kernel), ww_in 37 (by decide +kernel) (by decide +kernel), ww_in 717 (by decide +kernel) (by decide +kernel)⟩, ⟨by decide +kernel, by decide +kernel, by decide +kernel⟩⟩
theorem vw_L_31 : VW RL 31 yX3_about cX3_about 3 (some .int) 2 := ⟨⟨ww_in 326 (by decide +kernel) (by decide +kernel), ww_in 327 (by decide +kernel) (by decide +kernel), ww_in 328 (by decide +kernel) (by decide +kernel), ww_in 33 (by decide +kernel) (by decide +kernel), ww_in 329 (by decide +kernel) (by decide +kernel)⟩, ⟨by decide +kernel, by decide +kernel, by decide +kernel⟩⟩
theorem vw_L_35 : VW RL 35 yX4_about cX4_about 3 (some .int) 2 := ⟨⟨ww_in 718 (by decide +kernel) (by decide +kernel), ww_in 719 (by decide +kernel) (by decide +kernel), ww_in 720 (by decide +kernel) (by decide +kernel), ww_in 37 (by decide +kernel) (by decide +kernel), ww_in 721 (by decide +kernel) (by decide +kernel)⟩, ⟨by decide +kernel, by decide +kernel, by decide +kernel⟩⟩
theorem vw_L_36 : VW RL 36 yX3_as cX3_as 3 (some .int) 2 := ⟨⟨ww_in 345 (by decide +kernel) (by decide +kernel), ww_in 346 (by decide +kernel) (by decide +kernel), ww_in 347 (by decide +kernel) (by decide +kernel), ww_in 33 (by decide +kernel) (by decide +kernel), ww_in 348 (by decide +kernel) (by decide +kernel)⟩, ⟨by decide +kernel, by decide +kernel, by decide +kernel⟩⟩
theorem vw_L_39 : VW RL 39 yX4_as cX4_as 5 (some .int) 2 := ⟨⟨ww_in 736 (by decide +kernel) (by decide +kernel), ww_in 737 (by decide +kernel) (by decide +kernel), ww_in 738 (by decide +kernel) (by decide +kernel), ww_in 37 (by decide +kernel) (by decide +kernel), ww_in 739 (by decide +kernel) (by decide +kernel)⟩, ⟨by decide +kernel, by decide +kernel, by decide +kernel⟩⟩
theorem vw_L_40 : VW RL 40 yX3_seat cX3_seat 2 (some .int) 1 := ⟨⟨ww_in 352 (by decide +kernel) (by decide +kernel), ww_in 353 (by decide +kernel) (by decide +kernel), ww_in 354 (by decide +kernel) (by decide +kernel), ww_in 33 (by decide +kernel) (by decide +kernel), ww_in 355 (by decide +kernel) (by decide +kernel)⟩, ⟨by decide +kernel, by decide +kernel, by decide +kernel⟩⟩
theorem vw_L_43 : VW RL 43 yX4_seat cX4_seat 2 (some .int) 1 := ⟨⟨ww_in 741 (by decide +kernel) (by decide +kernel), ww_in 742 (by decide +kernel) (by decide +kernel), ww_in 743 (by decide +kernel) (by decide +kernel), ww_in 37 (by decide +kernel) (by decide +kernel), ww_in 744 (by decide +kernel) (by decide +kernel)⟩, ⟨by decide +kernel, by decide +kernel, by decide +kernel⟩⟩
theorem vw_L_44 : VW RL 44 yX3_exchange cX3_exchange 4 (some .int) 2 := ⟨⟨ww_in 356 (by decide +kernel) (by decide +kernel), ww_in 357 (by decide +kernel) (by decide +kernel), ww_in 358 (by decide +kernel) (by decide +kernel), ww_in 33 (by decide +kernel) (by decide +kernel), ww_in 359 (by decide +kernel) (by decide +kernel)⟩, ⟨by decide +kernel, by decide +kernel, by decide +kernel⟩⟩
theorem vw_L_47 : VW RL 47 yX4_exchange cX4_exchange 4 (some .int) 2 := ⟨⟨ww_in 745 (by decide +kernel) (by decide +kernel), ww_in 746 (by decide +kernel) (by decide +kernel), ww_in 747 (by decide +kernel) (by decide +kernel), ww_in 37 (by decide +kernel) (by decide +kernel), ww_in 748 (by decide +kernel) (by decide +kernel)⟩, ⟨by decide +kernel, by decide +kernel, by decide +kernel⟩⟩
theorem vw_L_48 : VW RL 48 yX3_twig cX3_twig 4 (some .int) 2 := ⟨⟨ww_in 360 (by decide +kernel) (by decide +kernel), ww_in 361 (by decide +kernel) (by decide +kernel), ww_in 362 (by decide +kernel) (by decide +kernel), ww_in 33 (by decide +kernel) (by decide +kernel), ww_in 363 (by decide +kernel) (by decide +kernel)⟩, ⟨by decide +kernel, by decide +kernel, by decide +kernel⟩⟩
theorem vw_L_51 : VW RL 51 yX4_twig cX4_twig 4 (some .int) 2 := ⟨⟨ww_in 749 (by decide +kernel) (by decide +kernel), ww_in 750 (by decide +kernel) (by decide +kernel), ww_in 751 (by decide +kernel) (by decide +kernel), ww_in 37 (by decide +kernel) (by decide +kernel), ww_in 752 (by decide +kernel) (by decide +kernel)⟩, ⟨by decide +kernel, by decide +kernel, by decide +kernel⟩⟩
theorem vw_L_52 : VW RL 52 yX3_wind cX3_wind 3 (some .int) 1 := ⟨⟨ww_in 367 (by decide +kernel) (by decide +kernel), ww_in 368 (by decide +kernel) (by decide +kernel), ww_in 369 (by decide +kernel) (by decide +kernel), ww_in 33 (by decide +kernel) (by decide +kernel), ww_in 370 (by decide +kernel) (by decide +kernel)⟩, ⟨by decide +kernel, by decide +kernel, by decide +kernel⟩⟩
theorem vw_L_55 : VW RL 55 yX4_wind cX4_wind 3 (some .int) 1 := ⟨⟨ww_in 753 (by decide +kernel) (by decide +kernel), ww_in 754 (by decide +kernel) (by decide +kernel), ww_in 755 (by decide +kernel) (by decide +kernel), ww_in 37 (by decide +kernel) (by decide +kernel), ww_in 756 (by decide +kernel) (by decide +kernel)⟩, ⟨by decide +kernel, by decide +kernel, by decide +kernel⟩⟩
theorem vw_L_56 : VW RL 56 yX3_comes cX3_comes 3 (some .int) 2 := ⟨⟨ww_in 375 (by decide +kernel) (by decide +kernel), ww_in 376 (by decide +kernel) (by decide +kernel), ww_in 377 (by decide +kernel) (by decide +kernel), ww_in 33 (by decide +kernel) (by decide +kernel), ww_in 378 (by decide +kernel) (by decide +kernel)⟩, ⟨by decide +kernel, by decide +kernel, by decide +kernel⟩⟩
theorem vw_L_59 : VW RL 59 yX4_comes cX4_comes 3 (some .int) 2 := ⟨⟨ww_in 761 (by decide +kernel) (by decide +kernel), ww_in 762 (by decide +kernel) (by decide +kernel), ww_in 763 (by decide +kernel) (by decide +kernel), ww_in 37 (by decide +kernel) (by decide +kernel), ww_in 764 (by decide +kernel) (by decide +kernel)⟩, ⟨by decide +kernel, by decide +kernel, by decide +kernel⟩⟩
theorem vw_L_60 : VW RL 60 yX3_sit cX3_sit 4 (some .int) 2 := ⟨⟨ww_in 396 (by decide +kernel) (by decide +kernel), ww_in 397 (by decide +kernel) (by decide +kernel), ww_in 398 (by decide +kernel) (by decide +kernel), ww_in 33 (by decide +kernel) (by decide +kernel), ww_in 399 (by decide +kernel) (by decide +kernel)⟩, ⟨by decide +kernel, by decide +kernel, by decide +kernel⟩⟩
theorem vw_L_63 : VW RL 63 yX4_sit cX4_sit 4 (some .int) 2 := ⟨⟨ww_in 776 (by decide +kernel) (by decide +kernel), ww_in 777 (by decide +kernel) (by decide +kernel), ww_in 778 (by decide +kernel) (by decide +kernel), ww_in 37 (by decide +kernel) (by decide +kernel), ww_in 779 (by decide +kernel) (by decide +kernel)⟩, ⟨by decide +kernel, by decide +kernel, by decide +kernel⟩⟩
theorem vw_L_64 : VW RL 64 yX3_where cX3_where 5 (some .int) 2 := ⟨⟨ww_in 401 (by decide +kernel) (by decide +kernel), ww_in 402 (by decide +kernel) (by decide +kernel), ww_in 403 (by decide +kernel) (by decide +kernel), ww_in 33 (by decide +kernel) (by decide +kernel), ww_in 404 (by decide +kernel) (by decide +kernel)⟩, ⟨by decide +kernel, by decide +kernel, by decide +kernel⟩⟩
theorem vw_L_67 : VW RL 67 yX4_where cX4_where 5 (some .int) 2 := ⟨⟨ww_in 780 (by decide +kernel) (by decide +kernel), ww_in 781 (by decide +kernel) (by decide +kernel), ww_in 782 (by decide +kernel) (by decide +kernel), ww_in 37 (by decide +kernel) (by decide +kernel), ww_in 783 (by decide +kernel) (by decide +kernel)⟩, ⟨by decide +kernel, by decide +kernel, by decide +kernel⟩⟩
theorem vw_L_68 : VW RL 68 yX3_can cX3_can 5 (some .int) 0 := ⟨⟨ww_in 405 (by decide +kernel) (by decide +kernel), ww_in 406 (by decide +kernel) (by decide +kernel), ww_in 407 (by decide +kernel) (by decide +kernel), ww_in 33 (by decide +kernel) (by decide +kernel), ww_in 408 (by decide +kernel) (by decide +kernel)⟩, ⟨by decide +kernel, by decide +kernel, by decide +kernel⟩⟩
theorem vw_L_71 : VW RL 71 yX4_can cX4_can 1 (some .int) 0 := ⟨⟨ww_in 784 (by decide +kernel) (by decide +kernel), ww_in 785 (by decide +kernel) (by decide +kernel), ww_in 786 (by decide +kernel) (by decide +kernel), ww_in 37 (by decide +kernel) (by decide +kernel), ww_in 787 (by decide +kernel) (by decide +kernel)⟩, ⟨by decide +kernel, by decide +kernel, by decide +kernel⟩⟩
theorem vw_L_72 : VW RL 72 yX3_endless cX3_endless 4 (some .int) 3 := ⟨⟨ww_in 409 (by decide +kernel) (by decide +kernel), ww_in 410 (by decide +kernel) (by decide +kernel), ww_in 411 (by decide +kernel) (by decide +kernel), ww_in 33 (by decide +kernel) (by decide +kernel), ww_in 412 (by decide +kernel) (by decide +kernel)⟩, ⟨by decide +kernel, by decide +kernel, by decide +kernel⟩⟩
theorem vw_L_76 : VW RL 76 yX4_endless cX4_endless 8 (some .int) 3 := ⟨⟨ww_in 792 (by decide +kernel) (by decide +kernel), ww_in 793 (by decide +kernel) (by decide +kernel), ww_in 794 (by decide +kernel) (by decide +kernel), ww_in 37 (by decide +kernel) (by decide +kernel), ww_in 795 (by decide +kernel) (by decide +kernel)⟩, ⟨by decide +kernel, by decide +kernel, by decide +kernel⟩⟩
theorem vw_L_77 : VW RL 77 yX3_seating cX3_seating 4 (some .int) 3 := ⟨⟨ww_in 424 (by decide +kernel) (by decide +kernel), ww_in 425 (by decide +kernel) (by decide +kernel), ww_in 426 (by decide +kernel) (by decide +kernel), ww_in 33 (by decide +kernel) (by decide +kernel), ww_in 427 (by decide +kernel) (by decide +kernel)⟩, ⟨by decide +kernel, by decide +kernel, by decide +kernel⟩⟩
theorem vw_L_80 : VW RL 80 yX4_seating cX4_seating 9 (some .int) 3 := ⟨⟨ww_in 797 (by decide +kernel) (by decide +kernel), ww_in 798 (by decide +kernel) (by decide +kernel), ww_in 799 (by decide +kernel) (by decide +kernel), ww_in 37 (by decide +kernel) (by decide +kernel), ww_in 800 (by decide +kernel) (by decide +kernel)⟩, ⟨by decide +kernel, by decide +kernel, by decide +kernel⟩⟩
theorem vw_L_81 : VW RL 81 yX3_nestlings cX3_nestlings 8 (some .int) 5 := ⟨⟨ww_in 447 (by decide +kernel) (by decide +kernel), ww_in 448 (by decide +kernel) (by decide +kernel), ww_in 449 (by decide +kernel) (by decide +kernel), ww_in 33 (by decide +kernel) (by decide +kernel), ww_in 450 (by decide +kernel) (by decide +kernel)⟩, ⟨by decide +kernel, by decide +kernel, by decide +kernel⟩⟩
theorem vw_L_85 : VW RL 85 yX4_nestlings cX4_nestlings 11 (some .int) 5 := ⟨⟨ww_in 809 (by decide +kernel) (by decide +kernel), ww_in 810 (by decide +kernel) (by decide +kernel), ww_in 811 (by decide +kernel) (by decide +kernel), ww_in 37 (by decide +kernel) (by decide +kernel), ww_in 812 (by decide +kernel) (by decide +kernel)⟩, ⟨by decide +kernel, by decide +kernel, by decide +kernel⟩⟩
theorem vw_L_86 : VW RL 86 yX3_observe cX3_observe 4 (some .int) 3 := ⟨⟨ww_in 465 (by decide +kernel) (by decide +kernel), ww_in 466 (by decide +kernel) (by decide +kernel), ww_in 467 (by decide +kernel) (by decide +kernel), ww_in 33 (by decide +kernel) (by decide +kernel), ww_in 468 (by decide +kernel) (by decide +kernel)⟩, ⟨by decide +kernel, by decide +kernel, by decide +kernel⟩⟩
theorem vw_L_89 : VW RL 89 yX4_observe cX4_observe 4 (some .int) 3 := ⟨⟨ww_in 816 (by decide +kernel) (by decide +kernel), ww_in 817 (by decide +kernel) (by decide +kernel), ww_in 818 (by decide +kernel) (by decide +kernel), ww_in 37 (by decide +kernel) (by decide +kernel), ww_in 819 (by decide +kernel) (by decide +kernel)⟩, ⟨by decide +kernel, by decide +kernel, by decide +kernel⟩⟩
theorem vw_L_90 : VW RL 90 yX3_forget cX3_forget 2 (some .int) 0 := ⟨⟨ww_in 473 (by decide +kernel) (by decide +kernel), ww_in 474 (by decide +kernel) (by decide +kernel), ww_in 475 (by decide +kernel) (by decide +kernel), ww_in 33 (by decide +kernel) (by decide +kernel), ww_in 476 (by decide +kernel) (by decide +kernel)⟩, ⟨by decide +kernel, by decide +kernel, by decide +kernel⟩⟩
theorem vw_L_93 : VW RL 93 yX4_forget cX4_forget 2 (some .int) 0 := ⟨⟨ww_in 820 (by decide +kernel) (by decide +kernel), ww_in 821 (by decide +kernel) (by decide +kernel), ww_in 822 (by decide +kernel) (by decide +kernel), ww_in 37 (by decide +kernel) (by decide +kernel), ww_in 823 (by decide +kernel) (by decide +kernel)⟩, ⟨by decide +kernel, by decide +kernel, by decide +kernel⟩⟩
theorem vw_L_94 : VW RL 94 yX3_guess cX3_guess 5 (some .int) 2 := ⟨⟨ww_in 477 (by decide +kernel) (by decide +kernel), ww_in 478 (by decide +kernel) (by decide +kernel), ww_in 479 (by decide +kernel) (by decide +kernel), ww_in 33 (by decide +kernel) (by decide +kernel), ww_in 480 (by decide +kernel) (by decide +kernel)⟩, ⟨by decide +kernel, by decide +kernel, by decide +kernel⟩⟩
theorem vw_L_97 : VW RL 97 yX4_guess cX4_guess 3 (some .int) 2 := ⟨⟨ww_in 824 (by decide +kernel) (by decide +kernel), ww_in 825 (by decide +kernel) (by decide +kernel), ww_in 826 (by decide +kernel) (by decide +kernel), ww_in 37 (by decide +kernel) (by decide +kernel), ww_in 827 (by decide +kernel) (by decide +kernel)⟩, ⟨by decide +kernel, by decide +kernel, by decide +kernel⟩⟩
theorem vw_L_98 : VW RL 98 yX3_caw cX3_caw 2 (some .int) 1 := ⟨⟨ww_in 507 (by decide +kernel) (by decide +kernel), ww_in 508 (by decide +kernel) (by decide +kernel), ww_in 509 (by decide +kernel) (by decide +kernel), ww_in 33 (by decide +kernel) (by decide +kernel), ww_in 510 (by decide +kernel) (by decide +kernel)⟩, ⟨by decide +kernel, by decide +kernel, by decide +kernel⟩⟩
theorem vw_L_101 : VW RL 101 yX4_caw cX4_caw 2 (some .int) 1 := ⟨⟨ww_in 836 (by decide +kernel) (by decide +kernel), ww_in 837 (by decide +kernel) (by decide +kernel), ww_in 838 (by decide +kernel) (by decide +kernel), ww_in 37 (by decide +kernel) (by decide +kernel), ww_in 839 (by decide +kernel) (by decide +kernel)⟩, ⟨by decide +kernel, by decide +kernel, by decide +kernel⟩⟩
theorem vw_L_102 : VW RL 102 yX3_years cX3_years 4 (some .int) 3 := ⟨⟨ww_in 520 (by decide +kernel) (by decide +kernel), ww_in 521 (by decide +kernel) (by decide +kernel), ww_in 522 (by decide +kernel) (by decide +kernel), ww_in 33 (by decide +kernel) (by decide +kernel), ww_in 523 (by decide +kernel) (by decide +kernel)⟩, ⟨by decide +kernel, by decide +kernel, by decide +kernel⟩⟩
theorem vw_L_105 : VW RL 105 yX4_years cX4_years 11 (some .int) 3 := ⟨⟨ww_in 844 (by decide +kernel) (by decide +kernel), ww_in 845 (by decide +kernel) (by decide +kernel), ww_in 846 (by decide +kernel) (by decide +kernel), ww_in 37 (by decide +kernel) (by decide +kernel), ww_in 847 (by decide +kernel) (by decide +kernel)⟩, ⟨by decide +kernel, by decide +kernel, by decide +kernel⟩⟩
theorem vw_L_106 : VW RL 106 yX3_image cX3_image 1 (some .int) 0 := ⟨⟨ww_in 542 (by decide +kernel) (by decide +kernel), ww_in 543 (by decide +kernel) (by decide +kernel), ww_in 544 (by decide +kernel) (by decide +kernel), ww_in 33 (by decide +kernel) (by decide +kernel), ww_in 545 (by decide +kernel) (by decide +kernel)⟩, ⟨by decide +kernel, by decide +kernel, by decide +kernel⟩⟩
theorem vw_L_109 : VW RL 109 yX4_image cX4_image 1 (some .int) 0 := ⟨⟨ww_in 857 (by decide +kernel) (by decide +kernel), ww_in 858 (by decide +kernel) (by decide +kernel), ww_in 859 (by decide +kernel) (by decide +kernel), ww_in 37 (by decide +kernel) (by decide +kernel), ww_in 860 (by decide +kernel) (by decide +kernel)⟩, ⟨by decide +kernel, by decide +kernel, by decide +kernel⟩⟩
theorem vw_L_110 : VW RL 110 yX3_restore cX3_restore 1 (some .int) 0 := ⟨⟨ww_in 553 (by decide +kernel) (by decide +kernel), ww_in 554 (by decide +kernel) (by decide +kernel), ww_in 555 (by decide +kernel) (by decide +kernel), ww_in 33 (by decide +kernel) (by decide +kernel), ww_in 556 (by decide +kernel) (by decide +kernel)⟩, ⟨by decide +kernel, by decide +kernel, by decide +kernel⟩⟩
theorem vw_L_113 : VW RL 113 yX4_restore cX4_restore 1 (some .int) 0 := ⟨⟨ww_in 864 (by decide +kernel) (by decide +kernel), ww_in 865 (by decide +kernel) (by decide +kernel), ww_in 866 (by decide +kernel) (by decide +kernel), ww_in 37 (by decide +kernel) (by decide +kernel), ww_in 867 (by decide +kernel) (by decide +kernel)⟩, ⟨by decide +kernel, by decide +kernel, by decide +kernel⟩⟩
theorem vw_L_114 : VW RL 114 yX3_count cX3_count 2 (some .int) 1 := ⟨⟨ww_in 557 (by decide +kernel) (by decide +kernel), ww_in 558 (by decide +kernel) (by decide +kernel), ww_in 559 (by decide +kernel) (by decide +kernel), ww_in 33 (by decide +kernel) (by decide +kernel), ww_in 560 (by decide +kernel) (by decide +kernel)⟩, ⟨by decide +kernel, by decide +kernel, by decide +kernel⟩⟩
theorem vw_L_117 : VW RL 117 yX4_count cX4_count 2 (some .int) 1 := ⟨⟨ww_in 868 (by decide +kernel) (by decide +kernel), ww_in 869 (by decide +kernel) (by decide +kernel), ww_in 870 (by decide +kernel) (by decide +kernel), ww_in 37 (by decide +kernel) (by decide +kernel), ww_in 871 (by decide +kernel) (by decide +kernel)⟩, ⟨by decide +kernel, by decide +kernel, by decide +kernel⟩⟩
theorem vw_L_118 : VW RL 118 yX3_digest cX3_digest 4 (some .long) 0 := ⟨⟨ww_in 565 (by decide +kernel) (by decide +kernel), ww_in 566 (by decide +kernel) (by decide +kernel), ww_in 567 (by decide +kernel) (by decide +kernel), ww_in 33 (by decide +kernel) (by decide +kernel), ww_in 568 (by decide +kernel) (by decide +kernel)⟩, ⟨by decide +kernel, by decide +kernel, by decide +kernel⟩⟩
theorem vw_L_122 : VW RL 122 yX4_digest cX4_digest 3 (some .long) 0 := ⟨⟨ww_in 876 (by decide +kernel) (by decide +kernel), ww_in 877 (by decide +kernel) (by decide +kernel), ww_in 878 (by decide +kernel) (by decide +kernel), ww_in 37 (by decide +kernel) (by decide +kernel), ww_in 879 (by decide +kernel) (by decide +kernel)⟩, ⟨by decide +kernel, by decide +kernel, by decide +kernel⟩⟩
abbrev GE : Type := va_G × (ClassId × ClassId) × (Nat × Nat)
def LX (X : ZX) (q1 q2 : Nat → Nat) (E : GE) (b L : Nat) (xs : Nat → Int32) : Prop := CX X (YP (YR (q1, E)) (YM (q2, E))) code 4 RL room_1 ∧ va_X b L xs (zs X) (zs X).heap ∧ b < (zs X).heap.size ∧ ¬ zA X b ∧ YOK (YR (q1, E)) ∧ YOK (YM (q2, E)) ∧ L ≤ 384
set_option maxHeartbeats 4000000 in
theorem lc_letter {X : ZX} {q1 q2 : Nat → Nat} {E : GE} {b L : Nat} {xs : Nat → Int32} {T : Nat} {μ : Mem} {ν : MM} (P : LX X q1 q2 E b L xs) (h6 : 6 * T + 6 ≤ L) (h : Rel T μ ν) (next : ∀ (μ1 : Mem) (ν1 : MM), Rel (T + 1) μ1 ν1 → Z X (YP (YR (q1, E)) (YM (q2, E))) 4 (μ1, ν1) 871 [(0, .ref b), (1, .ref (q1 0)), (2, .ref (q2 0)), (3, .int (nI (6 * T)))] []) : Z X (YP (YR (q1, E)) (YM (q2, E))) 4 (μ, ν) 152 [(0, .ref b), (1, .ref (q1 0)), (2, .ref (q2 0)), (3, .int (nI (6 * T)))] [] := by
  obtain ⟨C, hX, hbl, hbA, hO1, hO2, hL⟩ := P
  obtain ⟨μ1, ν1, r, h1, h2, hR⟩ := st_letter (x1 := xs (nI (6 * T) + (1 : Int32)).toNatClampNeg) h
  have g1 : vp_in (nI (6 * T) + (1 : Int32)) L := by rw [show (1 : Int32) = nI 1 from rfl, nI_add]; exact vin (by omega) (by omega)
  refine z_aload_n C 1 dL_law_152 rfl ?_
  refine z_aload_n C 0 dL_law_153 rfl ?_
  refine z_iload_n C 3 dL_law_154 rfl ?_
  refine z_iconst C dL_law_155 (v := (1 : Int32)) (by decide) ?_
  refine z_iadd C dL_law_156 ?_
  refine z_sld C hX hbl hbA g1 dL_law_157 ?_
  refine z_callA C hO1 (As := [.int (xs (nI (6 * T) + (1 : Int32)).toNatClampNeg)]) (rest := []) (rv := some (.int r)) (c_X3_letter (l := zl X) h1) vw_L_13 ⟨rfl, rfl, by decide, by decide⟩ (z_rv C (q0 := 0) (ci := 3) rfl rfl rfl) rfl (Nat.le_of_ble_eq_true rfl) dL_law_158 ?_
  show Z X (YP (YR (q1, E)) (YM (q2, E))) 4 (μ1, ν) 161 [(0, .ref b), (1, .ref (q1 0)), (2, .ref (q2 0)), (3, .int (nI (6 * T)))] [.int r]
  refine z_aload_n C 2 dL_law_161 rfl ?_
  refine z_aload_n C 0 dL_law_162 rfl ?_
  refine z_iload_n C 3 dL_law_163 rfl ?_
  refine z_iconst C dL_law_164 (v := (1 : Int32)) (by decide) ?_
  refine z_iadd C dL_law_165 ?_
  refine z_sld C hX hbl hbA g1 dL_law_166 ?_
  refine z_callB C hO2 rfl rfl rfl (As := [.int (xs (nI (6 * T) + (1 : Int32)).toNatClampNeg)]) (rest := [.int r]) (rv := some (.int r)) (c_X4_letter (l := zl X) h2) vw_L_17 ⟨rfl, rfl, by decide, by decide⟩ (z_rv C (q0 := 24) (ci := 4) rfl rfl rfl) rfl (Nat.le_of_ble_eq_true rfl) dL_law_167 ?_
  show Z X (YP (YR (q1, E)) (YM (q2, E))) 4 (μ1, ν1) 170 [(0, .ref b), (1, .ref (q1 0)), (2, .ref (q2 0)), (3, .int (nI (6 * T)))] [.int r, .int r]
  refine z_icmp_eq C 871 dL_law_170 (by decide) (fun _ => ?_) (fun c => absurd rfl c)
  exact next _ _ hR
set_option maxHeartbeats 4000000 in
theorem lc_blank {X : ZX} {q1 q2 : Nat → Nat} {E : GE} {b L : Nat} {xs : Nat → Int32} {T : Nat} {μ : Mem} {ν : MM} (P : LX X q1 q2 E b L xs) (h6 : 6 * T + 6 ≤ L) (h : Rel T μ ν) (next : ∀ (μ1 : Mem) (ν1 : MM), Rel (T + 1) μ1 ν1 → Z X (YP (YR (q1, E)) (YM (q2, E))) 4 (μ1, ν1) 871 [(0, .ref b), (1, .ref (q1 0)), (2, .ref (q2 0)), (3, .int (nI (6 * T)))] []) : Z X (YP (YR (q1, E)) (YM (q2, E))) 4 (μ, ν) 175 [(0, .ref b), (1, .ref (q1 0)), (2, .ref (q2 0)), (3, .int (nI (6 * T)))] [] := by
  obtain ⟨C, hX, hbl, hbA, hO1, hO2, hL⟩ := P
  obtain ⟨μ1, ν1, r, h1, h2, hR⟩ := st_blank h
  refine z_aload_n C 1 dL_law_175 rfl ?_
  refine z_callA C hO1 (As := []) (rest := []) (rv := some (.int r)) (c_X3_blank (l := zl X) h1) vw_L_18 ⟨rfl, rfl, by decide, by decide⟩ (z_rv C (q0 := 0) (ci := 3) rfl rfl rfl) rfl (Nat.le_of_ble_eq_true rfl) dL_law_176 ?_
  show Z X (YP (YR (q1, E)) (YM (q2, E))) 4 (μ1, ν) 179 [(0, .ref b), (1, .ref (q1 0)), (2, .ref (q2 0)), (3, .int (nI (6 * T)))] [.int r]
  refine z_aload_n C 2 dL_law_179 rfl ?_
  refine z_callB C hO2 rfl rfl rfl (As := []) (rest := [.int r]) (rv := some (.int r)) (c_X4_blank (l := zl X) h2) vw_L_22 ⟨rfl, rfl, by decide, by decide⟩ (z_rv C (q0 := 24) (ci := 4) rfl rfl rfl) rfl (Nat.le_of_ble_eq_true rfl) dL_law_180 ?_
  show Z X (YP (YR (q1, E)) (YM (q2, E))) 4 (μ1, ν1) 183 [(0, .ref b), (1, .ref (q1 0)), (2, .ref (q2 0)), (3, .int (nI (6 * T)))] [.int r, .int r]
  refine z_icmp_eq C 871 dL_law_183 (by decide) (fun _ => ?_) (fun c => absurd rfl c)
  exact next _ _ hR
set_option maxHeartbeats 4000000 in
theorem lc_fault {X : ZX} {q1 q2 : Nat → Nat} {E : GE} {b L : Nat} {xs : Nat → Int32} {T : Nat} {μ : Mem} {ν : MM} (P : LX X q1 q2 E b L xs) (h6 : 6 * T + 6 ≤ L) (h : Rel T μ ν) (next : ∀ (μ1 : Mem) (ν1 : MM), Rel (T + 1) μ1 ν1 → Z X (YP (YR (q1, E)) (YM (q2, E))) 4 (μ1, ν1) 871 [(0, .ref b), (1, .ref (q1 0)), (2, .ref (q2 0)), (3, .int (nI (6 * T)))] []) : Z X (YP (YR (q1, E)) (YM (q2, E))) 4 (μ, ν) 188 [(0, .ref b), (1, .ref (q1 0)), (2, .ref (q2 0)), (3, .int (nI (6 * T)))] [] := by
  obtain ⟨C, hX, hbl, hbA, hO1, hO2, hL⟩ := P
  obtain ⟨ν1, r, h1, h2, hR⟩ := st_fault h
  refine z_aload_n C 1 dL_law_188 rfl ?_
  refine z_callA C hO1 (As := []) (rest := []) (rv := some (.int r)) (c_X3_fault (l := zl X) h1) vw_L_23 ⟨rfl, rfl, by decide, by decide⟩ (z_rv C (q0 := 0) (ci := 3) rfl rfl rfl) rfl (Nat.le_of_ble_eq_true rfl) dL_law_189 ?_
  show Z X (YP (YR (q1, E)) (YM (q2, E))) 4 (μ, ν) 192 [(0, .ref b), (1, .ref (q1 0)), (2, .ref (q2 0)), (3, .int (nI (6 * T)))] [.int r]
  refine z_aload_n C 2 dL_law_192 rfl ?_
  refine z_callB C hO2 rfl rfl rfl (As := []) (rest := [.int r]) (rv := some (.int r)) (c_X4_fault (l := zl X) h2) vw_L_26 ⟨rfl, rfl, by decide, by decide⟩ (z_rv C (q0 := 24) (ci := 4) rfl rfl rfl) rfl (Nat.le_of_ble_eq_true rfl) dL_law_193 ?_
  show Z X (YP (YR (q1, E)) (YM (q2, E))) 4 (μ, ν1) 196 [(0, .ref b), (1, .ref (q1 0)), (2, .ref (q2 0)), (3, .int (nI (6 * T)))] [.int r, .int r]
  refine z_icmp_eq C 871 dL_law_196 (by decide) (fun _ => ?_) (fun c => absurd rfl c)
  exact next _ _ hR
set_option maxHeartbeats 4000000 in
theorem lc_ring {X : ZX} {q1 q2 : Nat → Nat} {E : GE} {b L : Nat} {xs : Nat → Int32} {T : Nat} {μ : Mem} {ν : MM} (P : LX X q1 q2 E b L xs) (h6 : 6 * T + 6 ≤ L) (h : Rel T μ ν) (next : ∀ (μ1 : Mem) (ν1 : MM), Rel (T + 1) μ1 ν1 → Z X (YP (YR (q1, E)) (YM (q2, E))) 4 (μ1, ν1) 871 [(0, .ref b), (1, .ref (q1 0)), (2, .ref (q2 0)), (3, .int (nI (6 * T)))] []) : Z X (YP (YR (q1, E)) (YM (q2, E))) 4 (μ, ν) 201 [(0, .ref b), (1, .ref (q1 0)), (2, .ref (q2 0)), (3, .int (nI (6 * T)))] [] := by
  obtain ⟨C, hX, hbl, hbA, hO1, hO2, hL⟩ := P
  obtain ⟨μ1, ν1, r, h1, h2, hR⟩ := st_ring h
  refine z_aload_n C 1 dL_law_201 rfl ?_
  refine z_callA C hO1 (As := []) (rest := []) (rv := some (.int r)) (c_X3_ring (l := zl X) h1) vw_L_27 ⟨rfl, rfl, by decide, by decide⟩ (z_rv C (q0 := 0) (ci := 3) rfl rfl rfl) rfl (Nat.le_of_ble_eq_true rfl) dL_law_202 ?_
  show Z X (YP (YR (q1, E)) (YM (q2, E))) 4 (μ1, ν) 205 [(0, .ref b), (1, .ref (q1 0)), (2, .ref (q2 0)), (3, .int (nI (6 * T)))] [.int r]
  refine z_aload_n C 2 dL_law_205 rfl ?_
  refine z_callB C hO2 rfl rfl rfl (As := []) (rest := [.int r]) (rv := some (.int r)) (c_X4_ring (l := zl X) h2) vw_L_30 ⟨rfl, rfl, by decide, by decide⟩ (z_rv C (q0 := 24) (ci := 4) rfl rfl rfl) rfl (Nat.le_of_ble_eq_true rfl) dL_law_206 ?_
  show Z X (YP (YR (q1, E)) (YM (q2, E))) 4 (μ1, ν1) 209 [(0, .ref b), (1, .ref (q1 0)), (2, .ref (q2 0)), (3, .int (nI (6 * T)))] [.int r, .int r]
  refine z_icmp_eq C 871 dL_law_209 (by decide) (fun _ => ?_) (fun c => absurd rfl c)
  exact next _ _ hR
set_option maxHeartbeats 4000000 in
theorem lc_about {X : ZX} {q1 q2 : Nat → Nat} {E : GE} {b L : Nat} {xs : Nat → Int32} {T : Nat} {μ : Mem} {ν : MM} (P : LX X q1 q2 E b L xs) (h6 : 6 * T + 6 ≤ L) (h : Rel T μ ν) (next : ∀ (μ1 : Mem) (ν1 : MM), Rel (T + 1) μ1 ν1 → Z X (YP (YR (q1, E)) (YM (q2, E))) 4 (μ1, ν1) 871 [(0, .ref b), (1, .ref (q1 0)), (2, .ref (q2 0)), (3, .int (nI (6 * T)))] []) : Z X (YP (YR (q1, E)) (YM (q2, E))) 4 (μ, ν) 214 [(0, .ref b), (1, .ref (q1 0)), (2, .ref (q2 0)), (3, .int (nI (6 * T)))] [] := by
  obtain ⟨C, hX, hbl, hbA, hO1, hO2, hL⟩ := P
  obtain ⟨r, h1, h2, hR⟩ := st_about (x1 := xs (nI (6 * T) + (1 : Int32)).toNatClampNeg) (x2 := xs (nI (6 * T) + (2 : Int32)).toNatClampNeg) h
  have g1 : vp_in (nI (6 * T) + (1 : Int32)) L := by rw [show (1 : Int32) = nI 1 from rfl, nI_add]; exact vin (by omega) (by omega)
  have g2 : vp_in (nI (6 * T) + (2 : Int32)) L := by rw [show (2 : Int32) = nI 2 from rfl, nI_add]; exact vin (by omega) (by omega)
  refine z_aload_n C 1 dL_law_214 rfl ?_
  refine z_aload_n C 0 dL_law_215 rfl ?_
  refine z_iload_n C 3 dL_law_216 rfl ?_
  refine z_iconst C dL_law_217 (v := (1 : Int32)) (by decide) ?_
  refine z_iadd C dL_law_218 ?_
  refine z_sld C hX hbl hbA g1 dL_law_219 ?_
  refine z_aload_n C 0 dL_law_220 rfl ?_
  refine z_iload_n C 3 dL_law_221 rfl ?_
  refine z_iconst C dL_law_222 (v := (2 : Int32)) (by decide) ?_
  refine z_iadd C dL_law_223 ?_
  refine z_sld C hX hbl hbA g2 dL_law_224 ?_
  refine z_callA C hO1 (As := [.int (xs (nI (6 * T) + (1 : Int32)).toNatClampNeg), .int (xs (nI (6 * T) + (2 : Int32)).toNatClampNeg)]) (rest := []) (rv := some (.int r)) (c_X3_about (l := zl X) h1) vw_L_31 ⟨rfl, rfl, by decide, by decide⟩ (z_rv C (q0 := 0) (ci := 3) rfl rfl rfl) rfl (Nat.le_of_ble_eq_true rfl) dL_law_225 ?_
  show Z X (YP (YR (q1, E)) (YM (q2, E))) 4 (μ, ν) 228 [(0, .ref b), (1, .ref (q1 0)), (2, .ref (q2 0)), (3, .int (nI (6 * T)))] [.int r]
  refine z_aload_n C 2 dL_law_228 rfl ?_
  refine z_aload_n C 0 dL_law_229 rfl ?_
  refine z_iload_n C 3 dL_law_230 rfl ?_
  refine z_iconst C dL_law_231 (v := (1 : Int32)) (by decide) ?_
  refine z_iadd C dL_law_232 ?_
  refine z_sld C hX hbl hbA g1 dL_law_233 ?_
  refine z_aload_n C 0 dL_law_234 rfl ?_
  refine z_iload_n C 3 dL_law_235 rfl ?_
  refine z_iconst C dL_law_236 (v := (2 : Int32)) (by decide) ?_
  refine z_iadd C dL_law_237 ?_
  refine z_sld C hX hbl hbA g2 dL_law_238 ?_
  refine z_callB C hO2 rfl rfl rfl (As := [.int (xs (nI (6 * T) + (1 : Int32)).toNatClampNeg), .int (xs (nI (6 * T) + (2 : Int32)).toNatClampNeg)]) (rest := [.int r]) (rv := some (.int r)) (c_X4_about (l := zl X) h2) vw_L_35 ⟨rfl, rfl, by decide, by decide⟩ (z_rv C (q0 := 24) (ci := 4) rfl rfl rfl) rfl (Nat.le_of_ble_eq_true rfl) dL_law_239 ?_
  show Z X (YP (YR (q1, E)) (YM (q2, E))) 4 (μ, ν) 242 [(0, .ref b), (1, .ref (q1 0)), (2, .ref (q2 0)), (3, .int (nI (6 * T)))] [.int r, .int r]
  refine z_icmp_eq C 871 dL_law_242 (by decide) (fun _ => ?_) (fun c => absurd rfl c)
  exact next _ _ hR
set_option maxHeartbeats 4000000 in
theorem lc_as {X : ZX} {q1 q2 : Nat → Nat} {E : GE} {b L : Nat} {xs : Nat → Int32} {T : Nat} {μ : Mem} {ν : MM} (P : LX X q1 q2 E b L xs) (h6 : 6 * T + 6 ≤ L) (h : Rel T μ ν) (next : ∀ (μ1 : Mem) (ν1 : MM), Rel (T + 1) μ1 ν1 → Z X (YP (YR (q1, E)) (YM (q2, E))) 4 (μ1, ν1) 871 [(0, .ref b), (1, .ref (q1 0)), (2, .ref (q2 0)), (3, .int (nI (6 * T)))] []) : Z X (YP (YR (q1, E)) (YM (q2, E))) 4 (μ, ν) 247 [(0, .ref b), (1, .ref (q1 0)), (2, .ref (q2 0)), (3, .int (nI (6 * T)))] [] := by
  obtain ⟨C, hX, hbl, hbA, hO1, hO2, hL⟩ := P
  obtain ⟨r, h1, h2, hR⟩ := st_as (x1 := xs (nI (6 * T) + (1 : Int32)).toNatClampNeg) (x2 := xs (nI (6 * T) + (2 : Int32)).toNatClampNeg) h
  have g1 : vp_in (nI (6 * T) + (1 : Int32)) L := by rw [show (1 : Int32) = nI 1 from rfl, nI_add]; exact vin (by omega) (by omega)
  have g2 : vp_in (nI (6 * T) + (2 : Int32)) L := by rw [show (2 : Int32) = nI 2 from rfl, nI_add]; exact vin (by omega) (by omega)
  refine z_aload_n C 1 dL_law_247 rfl ?_
  refine z_aload_n C 0 dL_law_248 rfl ?_
  refine z_iload_n C 3 dL_law_249 rfl ?_
  refine z_iconst C dL_law_250 (v := (1 : Int32)) (by decide) ?_
  refine z_iadd C dL_law_251 ?_
  refine z_sld C hX hbl hbA g1 dL_law_252 ?_
  refine z_aload_n C 0 dL_law_253 rfl ?_
  refine z_iload_n C 3 dL_law_254 rfl ?_
  refine z_iconst C dL_law_255 (v := (2 : Int32)) (by decide) ?_
  refine z_iadd C dL_law_256 ?_
  refine z_sld C hX hbl hbA g2 dL_law_257 ?_
  refine z_callA C hO1 (As := [.int (xs (nI (6 * T) + (1 : Int32)).toNatClampNeg), .int (xs (nI (6 * T) + (2 : Int32)).toNatClampNeg)]) (rest := []) (rv := some (.int r)) (c_X3_as (l := zl X) h1) vw_L_36 ⟨rfl, rfl, by decide, by decide⟩ (z_rv C (q0 := 0) (ci := 3) rfl rfl rfl) rfl (Nat.le_of_ble_eq_true rfl) dL_law_258 ?_
  show Z X (YP (YR (q1, E)) (YM (q2, E))) 4 (μ, ν) 261 [(0, .ref b), (1, .ref (q1 0)), (2, .ref (q2 0)), (3, .int (nI (6 * T)))] [.int r]
  refine z_aload_n C 2 dL_law_261 rfl ?_
  refine z_aload_n C 0 dL_law_262 rfl ?_
  refine z_iload_n C 3 dL_law_263 rfl ?_
  refine z_iconst C dL_law_264 (v := (1 : Int32)) (by decide) ?_
  refine z_iadd C dL_law_265 ?_
  refine z_sld C hX hbl hbA g1 dL_law_266 ?_
  refine z_aload_n C 0 dL_law_267 rfl ?_
  refine z_iload_n C 3 dL_law_268 rfl ?_
  refine z_iconst C dL_law_269 (v := (2 : Int32)) (by decide) ?_
  refine z_iadd C dL_law_270 ?_
  refine z_sld C hX hbl hbA g2 dL_law_271 ?_
  refine z_callB C hO2 rfl rfl rfl (As := [.int (xs (nI (6 * T) + (1 : Int32)).toNatClampNeg), .int (xs (nI (6 * T) + (2 : Int32)).toNatClampNeg)]) (rest := [.int r]) (rv := some (.int r)) (c_X4_as (l := zl X) h2) vw_L_39 ⟨rfl, rfl, by decide, by decide⟩ (z_rv C (q0 := 24) (ci := 4) rfl rfl rfl) rfl (Nat.le_of_ble_eq_true rfl) dL_law_272 ?_
  show Z X (YP (YR (q1, E)) (YM (q2, E))) 4 (μ, ν) 275 [(0, .ref b), (1, .ref (q1 0)), (2, .ref (q2 0)), (3, .int (nI (6 * T)))] [.int r, .int r]
  refine z_icmp_eq C 871 dL_law_275 (by decide) (fun _ => ?_) (fun c => absurd rfl c)
  exact next _ _ hR
set_option maxHeartbeats 4000000 in
theorem lc_seat {X : ZX} {q1 q2 : Nat → Nat} {E : GE} {b L : Nat} {xs : Nat → Int32} {T : Nat} {μ : Mem} {ν : MM} (P : LX X q1 q2 E b L xs) (h6 : 6 * T + 6 ≤ L) (h : Rel T μ ν) (next : ∀ (μ1 : Mem) (ν1 : MM), Rel (T + 1) μ1 ν1 → Z X (YP (YR (q1, E)) (YM (q2, E))) 4 (μ1, ν1) 871 [(0, .ref b), (1, .ref (q1 0)), (2, .ref (q2 0)), (3, .int (nI (6 * T)))] []) : Z X (YP (YR (q1, E)) (YM (q2, E))) 4 (μ, ν) 280 [(0, .ref b), (1, .ref (q1 0)), (2, .ref (q2 0)), (3, .int (nI (6 * T)))] [] := by
  obtain ⟨C, hX, hbl, hbA, hO1, hO2, hL⟩ := P
  obtain ⟨r, h1, h2, hR⟩ := st_seat (x1 := xs (nI (6 * T) + (1 : Int32)).toNatClampNeg) h
  have g1 : vp_in (nI (6 * T) + (1 : Int32)) L := by rw [show (1 : Int32) = nI 1 from rfl, nI_add]; exact vin (by omega) (by omega)
  refine z_aload_n C 1 dL_law_280 rfl ?_
  refine z_aload_n C 0 dL_law_281 rfl ?_
  refine z_iload_n C 3 dL_law_282 rfl ?_
  refine z_iconst C dL_law_283 (v := (1 : Int32)) (by decide) ?_
  refine z_iadd C dL_law_284 ?_
  refine z_sld C hX hbl hbA g1 dL_law_285 ?_
  refine z_callA C hO1 (As := [.int (xs (nI (6 * T) + (1 : Int32)).toNatClampNeg)]) (rest := []) (rv := some (.int r)) (c_X3_seat (l := zl X) h1) vw_L_40 ⟨rfl, rfl, by decide, by decide⟩ (z_rv C (q0 := 0) (ci := 3) rfl rfl rfl) rfl (Nat.le_of_ble_eq_true rfl) dL_law_286 ?_
  show Z X (YP (YR (q1, E)) (YM (q2, E))) 4 (μ, ν) 289 [(0, .ref b), (1, .ref (q1 0)), (2, .ref (q2 0)), (3, .int (nI (6 * T)))] [.int r]
  refine z_aload_n C 2 dL_law_289 rfl ?_
  refine z_aload_n C 0 dL_law_290 rfl ?_
  refine z_iload_n C 3 dL_law_291 rfl ?_
  refine z_iconst C dL_law_292 (v := (1 : Int32)) (by decide) ?_
  refine z_iadd C dL_law_293 ?_
  refine z_sld C hX hbl hbA g1 dL_law_294 ?_
  refine z_callB C hO2 rfl rfl rfl (As := [.int (xs (nI (6 * T) + (1 : Int32)).toNatClampNeg)]) (rest := [.int r]) (rv := some (.int r)) (c_X4_seat (l := zl X) h2) vw_L_43 ⟨rfl, rfl, by decide, by decide⟩ (z_rv C (q0 := 24) (ci := 4) rfl rfl rfl) rfl (Nat.le_of_ble_eq_true rfl) dL_law_295 ?_
  show Z X (YP (YR (q1, E)) (YM (q2, E))) 4 (μ, ν) 298 [(0, .ref b), (1, .ref (q1 0)), (2, .ref (q2 0)), (3, .int (nI (6 * T)))] [.int r, .int r]
  refine z_icmp_eq C 871 dL_law_298 (by decide) (fun _ => ?_) (fun c => absurd rfl c)
  exact next _ _ hR
set_option maxHeartbeats 4000000 in
theorem lc_exchange {X : ZX} {q1 q2 : Nat → Nat} {E : GE} {b L : Nat} {xs : Nat → Int32} {T : Nat} {μ : Mem} {ν : MM} (P : LX X q1 q2 E b L xs) (h6 : 6 * T + 6 ≤ L) (h : Rel T μ ν) (next : ∀ (μ1 : Mem) (ν1 : MM), Rel (T + 1) μ1 ν1 → Z X (YP (YR (q1, E)) (YM (q2, E))) 4 (μ1, ν1) 871 [(0, .ref b), (1, .ref (q1 0)), (2, .ref (q2 0)), (3, .int (nI (6 * T)))] []) : Z X (YP (YR (q1, E)) (YM (q2, E))) 4 (μ, ν) 303 [(0, .ref b), (1, .ref (q1 0)), (2, .ref (q2 0)), (3, .int (nI (6 * T)))] [] := by
  obtain ⟨C, hX, hbl, hbA, hO1, hO2, hL⟩ := P
  obtain ⟨μ1, ν1, r, h1, h2, hR⟩ := st_exchange (x1 := xs (nI (6 * T) + (1 : Int32)).toNatClampNeg) (x2 := xs (nI (6 * T) + (2 : Int32)).toNatClampNeg) h
  have g1 : vp_in (nI (6 * T) + (1 : Int32)) L := by rw [show (1 : Int32) = nI 1 from rfl, nI_add]; exact vin (by omega) (by omega)
  have g2 : vp_in (nI (6 * T) + (2 : Int32)) L := by rw [show (2 : Int32) = nI 2 from rfl, nI_add]; exact vin (by omega) (by omega)
  refine z_aload_n C 1 dL_law_303 rfl ?_
  refine z_aload_n C 0 dL_law_304 rfl ?_
  refine z_iload_n C 3 dL_law_305 rfl ?_
  refine z_iconst C dL_law_306 (v := (1 : Int32)) (by decide) ?_
  refine z_iadd C dL_law_307 ?_
  refine z_sld C hX hbl hbA g1 dL_law_308 ?_
  refine z_aload_n C 0 dL_law_309 rfl ?_
  refine z_iload_n C 3 dL_law_310 rfl ?_
  refine z_iconst C dL_law_311 (v := (2 : Int32)) (by decide) ?_
  refine z_iadd C dL_law_312 ?_
  refine z_sld C hX hbl hbA g2 dL_law_313 ?_
  refine z_callA C hO1 (As := [.int (xs (nI (6 * T) + (1 : Int32)).toNatClampNeg), .int (xs (nI (6 * T) + (2 : Int32)).toNatClampNeg)]) (rest := []) (rv := some (.int r)) (c_X3_exchange (l := zl X) h1) vw_L_44 ⟨rfl, rfl, by decide, by decide⟩ (z_rv C (q0 := 0) (ci := 3) rfl rfl rfl) rfl (Nat.le_of_ble_eq_true rfl) dL_law_314 ?_
  show Z X (YP (YR (q1, E)) (YM (q2, E))) 4 (μ1, ν) 317 [(0, .ref b), (1, .ref (q1 0)), (2, .ref (q2 0)), (3, .int (nI (6 * T)))] [.int r]
  refine z_aload_n C 2 dL_law_317 rfl ?_
  refine z_aload_n C 0 dL_law_318 rfl ?_
  refine z_iload_n C 3 dL_law_319 rfl ?_
  refine z_iconst C dL_law_320 (v := (1 : Int32)) (by decide) ?_
  refine z_iadd C dL_law_321 ?_
  refine z_sld C hX hbl hbA g1 dL_law_322 ?_
  refine z_aload_n C 0 dL_law_323 rfl ?_
  refine z_iload_n C 3 dL_law_324 rfl ?_
  refine z_iconst C dL_law_325 (v := (2 : Int32)) (by decide) ?_
  refine z_iadd C dL_law_326 ?_
  refine z_sld C hX hbl hbA g2 dL_law_327 ?_
  refine z_callB C hO2 rfl rfl rfl (As := [.int (xs (nI (6 * T) + (1 : Int32)).toNatClampNeg), .int (xs (nI (6 * T) + (2 : Int32)).toNatClampNeg)]) (rest := [.int r]) (rv := some (.int r)) (c_X4_exchange (l := zl X) h2) vw_L_47 ⟨rfl, rfl, by decide, by decide⟩ (z_rv C (q0 := 24) (ci := 4) rfl rfl rfl) rfl (Nat.le_of_ble_eq_true rfl) dL_law_328 ?_
  show Z X (YP (YR (q1, E)) (YM (q2, E))) 4 (μ1, ν1) 331 [(0, .ref b), (1, .ref (q1 0)), (2, .ref (q2 0)), (3, .int (nI (6 * T)))] [.int r, .int r]
  refine z_icmp_eq C 871 dL_law_331 (by decide) (fun _ => ?_) (fun c => absurd rfl c)
  exact next _ _ hR
set_option maxHeartbeats 4000000 in
theorem lc_twig {X : ZX} {q1 q2 : Nat → Nat} {E : GE} {b L : Nat} {xs : Nat → Int32} {T : Nat} {μ : Mem} {ν : MM} (P : LX X q1 q2 E b L xs) (h6 : 6 * T + 6 ≤ L) (h : Rel T μ ν) (next : ∀ (μ1 : Mem) (ν1 : MM), Rel (T + 1) μ1 ν1 → Z X (YP (YR (q1, E)) (YM (q2, E))) 4 (μ1, ν1) 871 [(0, .ref b), (1, .ref (q1 0)), (2, .ref (q2 0)), (3, .int (nI (6 * T)))] []) : Z X (YP (YR (q1, E)) (YM (q2, E))) 4 (μ, ν) 336 [(0, .ref b), (1, .ref (q1 0)), (2, .ref (q2 0)), (3, .int (nI (6 * T)))] [] := by
  obtain ⟨C, hX, hbl, hbA, hO1, hO2, hL⟩ := P
  obtain ⟨μ1, ν1, r, h1, h2, hR⟩ := st_twig (x1 := xs (nI (6 * T) + (1 : Int32)).toNatClampNeg) (x2 := xs (nI (6 * T) + (2 : Int32)).toNatClampNeg) h
  have g1 : vp_in (nI (6 * T) + (1 : Int32)) L := by rw [show (1 : Int32) = nI 1 from rfl, nI_add]; exact vin (by omega) (by omega)
  have g2 : vp_in (nI (6 * T) + (2 : Int32)) L := by rw [show (2 : Int32) = nI 2 from rfl, nI_add]; exact vin (by omega) (by omega)
  refine z_aload_n C 1 dL_law_336 rfl ?_
  refine z_aload_n C 0 dL_law_337 rfl ?_
  refine z_iload_n C 3 dL_law_338 rfl ?_
  refine z_iconst C dL_law_339 (v := (1 : Int32)) (by decide) ?_
  refine z_iadd C dL_law_340 ?_
  refine z_sld C hX hbl hbA g1 dL_law_341 ?_
  refine z_aload_n C 0 dL_law_342 rfl ?_
  refine z_iload_n C 3 dL_law_343 rfl ?_
  refine z_iconst C dL_law_344 (v := (2 : Int32)) (by decide) ?_
  refine z_iadd C dL_law_345 ?_
  refine z_sld C hX hbl hbA g2 dL_law_346 ?_
  refine z_callA C hO1 (As := [.int (xs (nI (6 * T) + (1 : Int32)).toNatClampNeg), .int (xs (nI (6 * T) + (2 : Int32)).toNatClampNeg)]) (rest := []) (rv := some (.int r)) (c_X3_twig (l := zl X) h1) vw_L_48 ⟨rfl, rfl, by decide, by decide⟩ (z_rv C (q0 := 0) (ci := 3) rfl rfl rfl) rfl (Nat.le_of_ble_eq_true rfl) dL_law_347 ?_
  show Z X (YP (YR (q1, E)) (YM (q2, E))) 4 (μ1, ν) 350 [(0, .ref b), (1, .ref (q1 0)), (2, .ref (q2 0)), (3, .int (nI (6 * T)))] [.int r]
  refine z_aload_n C 2 dL_law_350 rfl ?_
  refine z_aload_n C 0 dL_law_351 rfl ?_
  refine z_iload_n C 3 dL_law_352 rfl ?_
  refine z_iconst C dL_law_353 (v := (1 : Int32)) (by decide) ?_
  refine z_iadd C dL_law_354 ?_
  refine z_sld C hX hbl hbA g1 dL_law_355 ?_
  refine z_aload_n C 0 dL_law_356 rfl ?_
  refine z_iload_n C 3 dL_law_357 rfl ?_
  refine z_iconst C dL_law_358 (v := (2 : Int32)) (by decide) ?_
  refine z_iadd C dL_law_359 ?_
  refine z_sld C hX hbl hbA g2 dL_law_360 ?_
  refine z_callB C hO2 rfl rfl rfl (As := [.int (xs (nI (6 * T) + (1 : Int32)).toNatClampNeg), .int (xs (nI (6 * T) + (2 : Int32)).toNatClampNeg)]) (rest := [.int r]) (rv := some (.int r)) (c_X4_twig (l := zl X) h2) vw_L_51 ⟨rfl, rfl, by decide, by decide⟩ (z_rv C (q0 := 24) (ci := 4) rfl rfl rfl) rfl (Nat.le_of_ble_eq_true rfl) dL_law_361 ?_
  show Z X (YP (YR (q1, E)) (YM (q2, E))) 4 (μ1, ν1) 364 [(0, .ref b), (1, .ref (q1 0)), (2, .ref (q2 0)), (3, .int (nI (6 * T)))] [.int r, .int r]
  refine z_icmp_eq C 871 dL_law_364 (by decide) (fun _ => ?_) (fun c => absurd rfl c)
  exact next _ _ hR
set_option maxHeartbeats 4000000 in
theorem lc_wind {X : ZX} {q1 q2 : Nat → Nat} {E : GE} {b L : Nat} {xs : Nat → Int32} {T : Nat} {μ : Mem} {ν : MM} (P : LX X q1 q2 E b L xs) (h6 : 6 * T + 6 ≤ L) (h : Rel T μ ν) (next : ∀ (μ1 : Mem) (ν1 : MM), Rel (T + 1) μ1 ν1 → Z X (YP (YR (q1, E)) (YM (q2, E))) 4 (μ1, ν1) 871 [(0, .ref b), (1, .ref (q1 0)), (2, .ref (q2 0)), (3, .int (nI (6 * T)))] []) : Z X (YP (YR (q1, E)) (YM (q2, E))) 4 (μ, ν) 369 [(0, .ref b), (1, .ref (q1 0)), (2, .ref (q2 0)), (3, .int (nI (6 * T)))] [] := by
  obtain ⟨C, hX, hbl, hbA, hO1, hO2, hL⟩ := P
  obtain ⟨μ1, ν1, r, h1, h2, hR⟩ := st_wind (x1 := xs (nI (6 * T) + (1 : Int32)).toNatClampNeg) h
  have g1 : vp_in (nI (6 * T) + (1 : Int32)) L := by rw [show (1 : Int32) = nI 1 from rfl, nI_add]; exact vin (by omega) (by omega)
  refine z_aload_n C 1 dL_law_369 rfl ?_
  refine z_aload_n C 0 dL_law_370 rfl ?_
  refine z_iload_n C 3 dL_law_371 rfl ?_
  refine z_iconst C dL_law_372 (v := (1 : Int32)) (by decide) ?_
  refine z_iadd C dL_law_373 ?_
  refine z_sld C hX hbl hbA g1 dL_law_374 ?_
  refine z_callA C hO1 (As := [.int (xs (nI (6 * T) + (1 : Int32)).toNatClampNeg)]) (rest := []) (rv := some (.int r)) (c_X3_wind (l := zl X) h1) vw_L_52 ⟨rfl, rfl, by decide, by decide⟩ (z_rv C (q0 := 0) (ci := 3) rfl rfl rfl) rfl (Nat.le_of_ble_eq_true rfl) dL_law_375 ?_
  show Z X (YP (YR (q1, E)) (YM (q2, E))) 4 (μ1, ν) 378 [(0, .ref b), (1, .ref (q1 0)), (2, .ref (q2 0)), (3, .int (nI (6 * T)))] [.int r]
  refine z_aload_n C 2 dL_law_378 rfl ?_
  refine z_aload_n C 0 dL_law_379 rfl ?_
  refine z_iload_n C 3 dL_law_380 rfl ?_
  refine z_iconst C dL_law_381 (v := (1 : Int32)) (by decide) ?_
  refine z_iadd C dL_law_382 ?_
  refine z_sld C hX hbl hbA g1 dL_law_383 ?_
  refine z_callB C hO2 rfl rfl rfl (As := [.int (xs (nI (6 * T) + (1 : Int32)).toNatClampNeg)]) (rest := [.int r]) (rv := some (.int r)) (c_X4_wind (l := zl X) h2) vw_L_55 ⟨rfl, rfl, by decide, by decide⟩ (z_rv C (q0 := 24) (ci := 4) rfl rfl rfl) rfl (Nat.le_of_ble_eq_true rfl) dL_law_384 ?_
  show Z X (YP (YR (q1, E)) (YM (q2, E))) 4 (μ1, ν1) 387 [(0, .ref b), (1, .ref (q1 0)), (2, .ref (q2 0)), (3, .int (nI (6 * T)))] [.int r, .int r]
  refine z_icmp_eq C 871 dL_law_387 (by decide) (fun _ => ?_) (fun c => absurd rfl c)
  exact next _ _ hR
set_option maxHeartbeats 4000000 in
theorem lc_comes {X : ZX} {q1 q2 : Nat → Nat} {E : GE} {b L : Nat} {xs : Nat → Int32} {T : Nat} {μ : Mem} {ν : MM} (P : LX X q1 q2 E b L xs) (h6 : 6 * T + 6 ≤ L) (h : Rel T μ ν) (next : ∀ (μ1 : Mem) (ν1 : MM), Rel (T + 1) μ1 ν1 → Z X (YP (YR (q1, E)) (YM (q2, E))) 4 (μ1, ν1) 871 [(0, .ref b), (1, .ref (q1 0)), (2, .ref (q2 0)), (3, .int (nI (6 * T)))] []) : Z X (YP (YR (q1, E)) (YM (q2, E))) 4 (μ, ν) 392 [(0, .ref b), (1, .ref (q1 0)), (2, .ref (q2 0)), (3, .int (nI (6 * T)))] [] := by
  obtain ⟨C, hX, hbl, hbA, hO1, hO2, hL⟩ := P
  obtain ⟨μ1, ν1, r, h1, h2, hR⟩ := st_comes (x1 := xs (nI (6 * T) + (1 : Int32)).toNatClampNeg) (x2 := xs (nI (6 * T) + (2 : Int32)).toNatClampNeg) h
  have g1 : vp_in (nI (6 * T) + (1 : Int32)) L := by rw [show (1 : Int32) = nI 1 from rfl, nI_add]; exact vin (by omega) (by omega)
  have g2 : vp_in (nI (6 * T) + (2 : Int32)) L := by rw [show (2 : Int32) = nI 2 from rfl, nI_add]; exact vin (by omega) (by omega)
  refine z_aload_n C 1 dL_law_392 rfl ?_
  refine z_aload_n C 0 dL_law_393 rfl ?_
  refine z_iload_n C 3 dL_law_394 rfl ?_
  refine z_iconst C dL_law_395 (v := (1 : Int32)) (by decide) ?_
  refine z_iadd C dL_law_396 ?_
  refine z_sld C hX hbl hbA g1 dL_law_397 ?_
  refine z_aload_n C 0 dL_law_398 rfl ?_
  refine z_iload_n C 3 dL_law_399 rfl ?_
  refine z_iconst C dL_law_400 (v := (2 : Int32)) (by decide) ?_
  refine z_iadd C dL_law_401 ?_
  refine z_sld C hX hbl hbA g2 dL_law_402 ?_
  refine z_callA C hO1 (As := [.int (xs (nI (6 * T) + (1 : Int32)).toNatClampNeg), .int (xs (nI (6 * T) + (2 : Int32)).toNatClampNeg)]) (rest := []) (rv := some (.int r)) (c_X3_comes (l := zl X) h1) vw_L_56 ⟨rfl, rfl, by decide, by decide⟩ (z_rv C (q0 := 0) (ci := 3) rfl rfl rfl) rfl (Nat.le_of_ble_eq_true rfl) dL_law_403 ?_
  show Z X (YP (YR (q1, E)) (YM (q2, E))) 4 (μ1, ν) 406 [(0, .ref b), (1, .ref (q1 0)), (2, .ref (q2 0)), (3, .int (nI (6 * T)))] [.int r]
  refine z_aload_n C 2 dL_law_406 rfl ?_
  refine z_aload_n C 0 dL_law_407 rfl ?_
  refine z_iload_n C 3 dL_law_408 rfl ?_
  refine z_iconst C dL_law_409 (v := (1 : Int32)) (by decide) ?_
  refine z_iadd C dL_law_410 ?_
  refine z_sld C hX hbl hbA g1 dL_law_411 ?_
  refine z_aload_n C 0 dL_law_412 rfl ?_
  refine z_iload_n C 3 dL_law_413 rfl ?_
  refine z_iconst C dL_law_414 (v := (2 : Int32)) (by decide) ?_
  refine z_iadd C dL_law_415 ?_
  refine z_sld C hX hbl hbA g2 dL_law_416 ?_
  refine z_callB C hO2 rfl rfl rfl (As := [.int (xs (nI (6 * T) + (1 : Int32)).toNatClampNeg), .int (xs (nI (6 * T) + (2 : Int32)).toNatClampNeg)]) (rest := [.int r]) (rv := some (.int r)) (c_X4_comes (l := zl X) h2) vw_L_59 ⟨rfl, rfl, by decide, by decide⟩ (z_rv C (q0 := 24) (ci := 4) rfl rfl rfl) rfl (Nat.le_of_ble_eq_true rfl) dL_law_417 ?_
  show Z X (YP (YR (q1, E)) (YM (q2, E))) 4 (μ1, ν1) 420 [(0, .ref b), (1, .ref (q1 0)), (2, .ref (q2 0)), (3, .int (nI (6 * T)))] [.int r, .int r]
  refine z_icmp_eq C 871 dL_law_420 (by decide) (fun _ => ?_) (fun c => absurd rfl c)
  exact next _ _ hR
set_option maxHeartbeats 4000000 in
theorem lc_sit {X : ZX} {q1 q2 : Nat → Nat} {E : GE} {b L : Nat} {xs : Nat → Int32} {T : Nat} {μ : Mem} {ν : MM} (P : LX X q1 q2 E b L xs) (h6 : 6 * T + 6 ≤ L) (h : Rel T μ ν) (next : ∀ (μ1 : Mem) (ν1 : MM), Rel (T + 1) μ1 ν1 → Z X (YP (YR (q1, E)) (YM (q2, E))) 4 (μ1, ν1) 871 [(0, .ref b), (1, .ref (q1 0)), (2, .ref (q2 0)), (3, .int (nI (6 * T)))] []) : Z X (YP (YR (q1, E)) (YM (q2, E))) 4 (μ, ν) 425 [(0, .ref b), (1, .ref (q1 0)), (2, .ref (q2 0)), (3, .int (nI (6 * T)))] [] := by
  obtain ⟨C, hX, hbl, hbA, hO1, hO2, hL⟩ := P
  obtain ⟨μ1, ν1, r, h1, h2, hR⟩ := st_sit (x1 := xs (nI (6 * T) + (1 : Int32)).toNatClampNeg) (x2 := xs (nI (6 * T) + (2 : Int32)).toNatClampNeg) h
  have g1 : vp_in (nI (6 * T) + (1 : Int32)) L := by rw [show (1 : Int32) = nI 1 from rfl, nI_add]; exact vin (by omega) (by omega)
  have g2 : vp_in (nI (6 * T) + (2 : Int32)) L := by rw [show (2 : Int32) = nI 2 from rfl, nI_add]; exact vin (by omega) (by omega)
  refine z_aload_n C 1 dL_law_425 rfl ?_
  refine z_aload_n C 0 dL_law_426 rfl ?_
  refine z_iload_n C 3 dL_law_427 rfl ?_
  refine z_iconst C dL_law_428 (v := (1 : Int32)) (by decide) ?_
  refine z_iadd C dL_law_429 ?_
  refine z_sld C hX hbl hbA g1 dL_law_430 ?_
  refine z_aload_n C 0 dL_law_431 rfl ?_
  refine z_iload_n C 3 dL_law_432 rfl ?_
  refine z_iconst C dL_law_433 (v := (2 : Int32)) (by decide) ?_
  refine z_iadd C dL_law_434 ?_
  refine z_sld C hX hbl hbA g2 dL_law_435 ?_
  refine z_callA C hO1 (As := [.int (xs (nI (6 * T) + (1 : Int32)).toNatClampNeg), .int (xs (nI (6 * T) + (2 : Int32)).toNatClampNeg)]) (rest := []) (rv := some (.int r)) (c_X3_sit (l := zl X) h1) vw_L_60 ⟨rfl, rfl, by decide, by decide⟩ (z_rv C (q0 := 0) (ci := 3) rfl rfl rfl) rfl (Nat.le_of_ble_eq_true rfl) dL_law_436 ?_
  show Z X (YP (YR (q1, E)) (YM (q2, E))) 4 (μ1, ν) 439 [(0, .ref b), (1, .ref (q1 0)), (2, .ref (q2 0)), (3, .int (nI (6 * T)))] [.int r]
  refine z_aload_n C 2 dL_law_439 rfl ?_
  refine z_aload_n C 0 dL_law_440 rfl ?_
  refine z_iload_n C 3 dL_law_441 rfl ?_
  refine z_iconst C dL_law_442 (v := (1 : Int32)) (by decide) ?_
  refine z_iadd C dL_law_443 ?_
  refine z_sld C hX hbl hbA g1 dL_law_444 ?_
  refine z_aload_n C 0 dL_law_445 rfl ?_
  refine z_iload_n C 3 dL_law_446 rfl ?_
  refine z_iconst C dL_law_447 (v := (2 : Int32)) (by decide) ?_
  refine z_iadd C dL_law_448 ?_
  refine z_sld C hX hbl hbA g2 dL_law_449 ?_
  refine z_callB C hO2 rfl rfl rfl (As := [.int (xs (nI (6 * T) + (1 : Int32)).toNatClampNeg), .int (xs (nI (6 * T) + (2 : Int32)).toNatClampNeg)]) (rest := [.int r]) (rv := some (.int r)) (c_X4_sit (l := zl X) h2) vw_L_63 ⟨rfl, rfl, by decide, by decide⟩ (z_rv C (q0 := 24) (ci := 4) rfl rfl rfl) rfl (Nat.le_of_ble_eq_true rfl) dL_law_450 ?_
  show Z X (YP (YR (q1, E)) (YM (q2, E))) 4 (μ1, ν1) 453 [(0, .ref b), (1, .ref (q1 0)), (2, .ref (q2 0)), (3, .int (nI (6 * T)))] [.int r, .int r]
  refine z_icmp_eq C 871 dL_law_453 (by decide) (fun _ => ?_) (fun c => absurd rfl c)
  exact next _ _ hR
set_option maxHeartbeats 4000000 in
theorem lc_where {X : ZX} {q1 q2 : Nat → Nat} {E : GE} {b L : Nat} {xs : Nat → Int32} {T : Nat} {μ : Mem} {ν : MM} (P : LX X q1 q2 E b L xs) (h6 : 6 * T + 6 ≤ L) (h : Rel T μ ν) (next : ∀ (μ1 : Mem) (ν1 : MM), Rel (T + 1) μ1 ν1 → Z X (YP (YR (q1, E)) (YM (q2, E))) 4 (μ1, ν1) 871 [(0, .ref b), (1, .ref (q1 0)), (2, .ref (q2 0)), (3, .int (nI (6 * T)))] []) : Z X (YP (YR (q1, E)) (YM (q2, E))) 4 (μ, ν) 458 [(0, .ref b), (1, .ref (q1 0)), (2, .ref (q2 0)), (3, .int (nI (6 * T)))] [] := by
  obtain ⟨C, hX, hbl, hbA, hO1, hO2, hL⟩ := P
  obtain ⟨μ1, ν1, r, h1, h2, hR⟩ := st_where (x1 := xs (nI (6 * T) + (1 : Int32)).toNatClampNeg) (x2 := xs (nI (6 * T) + (2 : Int32)).toNatClampNeg) h
  have g1 : vp_in (nI (6 * T) + (1 : Int32)) L := by rw [show (1 : Int32) = nI 1 from rfl, nI_add]; exact vin (by omega) (by omega)
  have g2 : vp_in (nI (6 * T) + (2 : Int32)) L := by rw [show (2 : Int32) = nI 2 from rfl, nI_add]; exact vin (by omega) (by omega)
  refine z_aload_n C 1 dL_law_458 rfl ?_
  refine z_aload_n C 0 dL_law_459 rfl ?_
  refine z_iload_n C 3 dL_law_460 rfl ?_
  refine z_iconst C dL_law_461 (v := (1 : Int32)) (by decide) ?_
  refine z_iadd C dL_law_462 ?_
  refine z_sld C hX hbl hbA g1 dL_law_463 ?_
  refine z_aload_n C 0 dL_law_464 rfl ?_
  refine z_iload_n C 3 dL_law_465 rfl ?_
  refine z_iconst C dL_law_466 (v := (2 : Int32)) (by decide) ?_
  refine z_iadd C dL_law_467 ?_
  refine z_sld C hX hbl hbA g2 dL_law_468 ?_
  refine z_callA C hO1 (As := [.int (xs (nI (6 * T) + (1 : Int32)).toNatClampNeg), .int (xs (nI (6 * T) + (2 : Int32)).toNatClampNeg)]) (rest := []) (rv := some (.int r)) (c_X3_where (l := zl X) h1) vw_L_64 ⟨rfl, rfl, by decide, by decide⟩ (z_rv C (q0 := 0) (ci := 3) rfl rfl rfl) rfl (Nat.le_of_ble_eq_true rfl) dL_law_469 ?_
  show Z X (YP (YR (q1, E)) (YM (q2, E))) 4 (μ1, ν) 472 [(0, .ref b), (1, .ref (q1 0)), (2, .ref (q2 0)), (3, .int (nI (6 * T)))] [.int r]
  refine z_aload_n C 2 dL_law_472 rfl ?_
  refine z_aload_n C 0 dL_law_473 rfl ?_
  refine z_iload_n C 3 dL_law_474 rfl ?_
  refine z_iconst C dL_law_475 (v := (1 : Int32)) (by decide) ?_
  refine z_iadd C dL_law_476 ?_
  refine z_sld C hX hbl hbA g1 dL_law_477 ?_
  refine z_aload_n C 0 dL_law_478 rfl ?_
  refine z_iload_n C 3 dL_law_479 rfl ?_
  refine z_iconst C dL_law_480 (v := (2 : Int32)) (by decide) ?_
  refine z_iadd C dL_law_481 ?_
  refine z_sld C hX hbl hbA g2 dL_law_482 ?_
  refine z_callB C hO2 rfl rfl rfl (As := [.int (xs (nI (6 * T) + (1 : Int32)).toNatClampNeg), .int (xs (nI (6 * T) + (2 : Int32)).toNatClampNeg)]) (rest := [.int r]) (rv := some (.int r)) (c_X4_where (l := zl X) h2) vw_L_67 ⟨rfl, rfl, by decide, by decide⟩ (z_rv C (q0 := 24) (ci := 4) rfl rfl rfl) rfl (Nat.le_of_ble_eq_true rfl) dL_law_483 ?_
  show Z X (YP (YR (q1, E)) (YM (q2, E))) 4 (μ1, ν1) 486 [(0, .ref b), (1, .ref (q1 0)), (2, .ref (q2 0)), (3, .int (nI (6 * T)))] [.int r, .int r]
  refine z_icmp_eq C 871 dL_law_486 (by decide) (fun _ => ?_) (fun c => absurd rfl c)
  exact next _ _ hR
set_option maxHeartbeats 4000000 in
theorem lc_can {X : ZX} {q1 q2 : Nat → Nat} {E : GE} {b L : Nat} {xs : Nat → Int32} {T : Nat} {μ : Mem} {ν : MM} (P : LX X q1 q2 E b L xs) (h6 : 6 * T + 6 ≤ L) (h : Rel T μ ν) (next : ∀ (μ1 : Mem) (ν1 : MM), Rel (T + 1) μ1 ν1 → Z X (YP (YR (q1, E)) (YM (q2, E))) 4 (μ1, ν1) 871 [(0, .ref b), (1, .ref (q1 0)), (2, .ref (q2 0)), (3, .int (nI (6 * T)))] []) : Z X (YP (YR (q1, E)) (YM (q2, E))) 4 (μ, ν) 491 [(0, .ref b), (1, .ref (q1 0)), (2, .ref (q2 0)), (3, .int (nI (6 * T)))] [] := by
  obtain ⟨C, hX, hbl, hbA, hO1, hO2, hL⟩ := P
  obtain ⟨μ1, ν1, r, h1, h2, hR⟩ := st_can h
  refine z_aload_n C 1 dL_law_491 rfl ?_
  refine z_callA C hO1 (As := []) (rest := []) (rv := some (.int r)) (c_X3_can (l := zl X) h1) vw_L_68 ⟨rfl, rfl, by decide, by decide⟩ (z_rv C (q0 := 0) (ci := 3) rfl rfl rfl) rfl (Nat.le_of_ble_eq_true rfl) dL_law_492 ?_
  show Z X (YP (YR (q1, E)) (YM (q2, E))) 4 (μ1, ν) 495 [(0, .ref b), (1, .ref (q1 0)), (2, .ref (q2 0)), (3, .int (nI (6 * T)))] [.int r]
  refine z_aload_n C 2 dL_law_495 rfl ?_
  refine z_callB C hO2 rfl rfl rfl (As := []) (rest := [.int r]) (rv := some (.int r)) (c_X4_can (l := zl X) h2) vw_L_71 ⟨rfl, rfl, by decide, by decide⟩ (z_rv C (q0 := 24) (ci := 4) rfl rfl rfl) rfl (Nat.le_of_ble_eq_true rfl) dL_law_496 ?_
  show Z X (YP (YR (q1, E)) (YM (q2, E))) 4 (μ1, ν1) 499 [(0, .ref b), (1, .ref (q1 0)), (2, .ref (q2 0)), (3, .int (nI (6 * T)))] [.int r, .int r]
  refine z_icmp_eq C 871 dL_law_499 (by decide) (fun _ => ?_) (fun c => absurd rfl c)
  exact next _ _ hR
set_option maxHeartbeats 4000000 in
theorem lc_endless {X : ZX} {q1 q2 : Nat → Nat} {E : GE} {b L : Nat} {xs : Nat → Int32} {T : Nat} {μ : Mem} {ν : MM} (P : LX X q1 q2 E b L xs) (h6 : 6 * T + 6 ≤ L) (h : Rel T μ ν) (next : ∀ (μ1 : Mem) (ν1 : MM), Rel (T + 1) μ1 ν1 → Z X (YP (YR (q1, E)) (YM (q2, E))) 4 (μ1, ν1) 871 [(0, .ref b), (1, .ref (q1 0)), (2, .ref (q2 0)), (3, .int (nI (6 * T)))] []) : Z X (YP (YR (q1, E)) (YM (q2, E))) 4 (μ, ν) 504 [(0, .ref b), (1, .ref (q1 0)), (2, .ref (q2 0)), (3, .int (nI (6 * T)))] [] := by
  obtain ⟨C, hX, hbl, hbA, hO1, hO2, hL⟩ := P
  obtain ⟨μ1, ν1, r, h1, h2, hR⟩ := st_endless (x1 := xs (nI (6 * T) + (1 : Int32)).toNatClampNeg) (x2 := xs (nI (6 * T) + (2 : Int32)).toNatClampNeg) (x3 := xs (nI (6 * T) + (3 : Int32)).toNatClampNeg) h
  have g1 : vp_in (nI (6 * T) + (1 : Int32)) L := by rw [show (1 : Int32) = nI 1 from rfl, nI_add]; exact vin (by omega) (by omega)
  have g2 : vp_in (nI (6 * T) + (2 : Int32)) L := by rw [show (2 : Int32) = nI 2 from rfl, nI_add]; exact vin (by omega) (by omega)
  have g3 : vp_in (nI (6 * T) + (3 : Int32)) L := by rw [show (3 : Int32) = nI 3 from rfl, nI_add]; exact vin (by omega) (by omega)
  refine z_aload_n C 1 dL_law_504 rfl ?_
  refine z_aload_n C 0 dL_law_505 rfl ?_
  refine z_iload_n C 3 dL_law_506 rfl ?_
  refine z_iconst C dL_law_507 (v := (1 : Int32)) (by decide) ?_
  refine z_iadd C dL_law_508 ?_
  refine z_sld C hX hbl hbA g1 dL_law_509 ?_
  refine z_aload_n C 0 dL_law_510 rfl ?_
  refine z_iload_n C 3 dL_law_511 rfl ?_
  refine z_iconst C dL_law_512 (v := (2 : Int32)) (by decide) ?_
  refine z_iadd C dL_law_513 ?_
  refine z_sld C hX hbl hbA g2 dL_law_514 ?_
  refine z_aload_n C 0 dL_law_515 rfl ?_
  refine z_iload_n C 3 dL_law_516 rfl ?_
  refine z_iconst C dL_law_517 (v := (3 : Int32)) (by decide) ?_
  refine z_iadd C dL_law_518 ?_
  refine z_sld C hX hbl hbA g3 dL_law_519 ?_
  refine z_callA C hO1 (As := [.int (xs (nI (6 * T) + (1 : Int32)).toNatClampNeg), .int (xs (nI (6 * T) + (2 : Int32)).toNatClampNeg), .int (xs (nI (6 * T) + (3 : Int32)).toNatClampNeg)]) (rest := []) (rv := some (.int r)) (c_X3_endless (l := zl X) h1) vw_L_72 ⟨rfl, rfl, by decide, by decide⟩ (z_rv C (q0 := 0) (ci := 3) rfl rfl rfl) rfl (Nat.le_of_ble_eq_true rfl) dL_law_520 ?_
  show Z X (YP (YR (q1, E)) (YM (q2, E))) 4 (μ1, ν) 523 [(0, .ref b), (1, .ref (q1 0)), (2, .ref (q2 0)), (3, .int (nI (6 * T)))] [.int r]
  refine z_aload_n C 2 dL_law_523 rfl ?_
  refine z_aload_n C 0 dL_law_524 rfl ?_
  refine z_iload_n C 3 dL_law_525 rfl ?_
  refine z_iconst C dL_law_526 (v := (1 : Int32)) (by decide) ?_
  refine z_iadd C dL_law_527 ?_
  refine z_sld C hX hbl hbA g1 dL_law_528 ?_
  refine z_aload_n C 0 dL_law_529 rfl ?_
  refine z_iload_n C 3 dL_law_530 rfl ?_
  refine z_iconst C dL_law_531 (v := (2 : Int32)) (by decide) ?_
  refine z_iadd C dL_law_532 ?_
  refine z_sld C hX hbl hbA g2 dL_law_533 ?_
  refine z_aload_n C 0 dL_law_534 rfl ?_
  refine z_iload_n C 3 dL_law_535 rfl ?_
  refine z_iconst C dL_law_536 (v := (3 : Int32)) (by decide) ?_
  refine z_iadd C dL_law_537 ?_
  refine z_sld C hX hbl hbA g3 dL_law_538 ?_
  refine z_callB C hO2 rfl rfl rfl (As := [.int (xs (nI (6 * T) + (1 : Int32)).toNatClampNeg), .int (xs (nI (6 * T) + (2 : Int32)).toNatClampNeg), .int (xs (nI (6 * T) + (3 : Int32)).toNatClampNeg)]) (rest := [.int r]) (rv := some (.int r)) (c_X4_endless (l := zl X) h2) vw_L_76 ⟨rfl, rfl, by decide, by decide⟩ (z_rv C (q0 := 24) (ci := 4) rfl rfl rfl) rfl (Nat.le_of_ble_eq_true rfl) dL_law_539 ?_
  show Z X (YP (YR (q1, E)) (YM (q2, E))) 4 (μ1, ν1) 542 [(0, .ref b), (1, .ref (q1 0)), (2, .ref (q2 0)), (3, .int (nI (6 * T)))] [.int r, .int r]
  refine z_icmp_eq C 871 dL_law_542 (by decide) (fun _ => ?_) (fun c => absurd rfl c)
  exact next _ _ hR
set_option maxHeartbeats 4000000 in
theorem lc_seating {X : ZX} {q1 q2 : Nat → Nat} {E : GE} {b L : Nat} {xs : Nat → Int32} {T : Nat} {μ : Mem} {ν : MM} (P : LX X q1 q2 E b L xs) (h6 : 6 * T + 6 ≤ L) (h : Rel T μ ν) (next : ∀ (μ1 : Mem) (ν1 : MM), Rel (T + 1) μ1 ν1 → Z X (YP (YR (q1, E)) (YM (q2, E))) 4 (μ1, ν1) 871 [(0, .ref b), (1, .ref (q1 0)), (2, .ref (q2 0)), (3, .int (nI (6 * T)))] []) : Z X (YP (YR (q1, E)) (YM (q2, E))) 4 (μ, ν) 547 [(0, .ref b), (1, .ref (q1 0)), (2, .ref (q2 0)), (3, .int (nI (6 * T)))] [] := by
  obtain ⟨C, hX, hbl, hbA, hO1, hO2, hL⟩ := P
  obtain ⟨μ1, ν1, r, h1, h2, hR⟩ := st_seating (x1 := xs (nI (6 * T) + (1 : Int32)).toNatClampNeg) (x2 := xs (nI (6 * T) + (2 : Int32)).toNatClampNeg) (x3 := xs (nI (6 * T) + (3 : Int32)).toNatClampNeg) h
  have g1 : vp_in (nI (6 * T) + (1 : Int32)) L := by rw [show (1 : Int32) = nI 1 from rfl, nI_add]; exact vin (by omega) (by omega)
  have g2 : vp_in (nI (6 * T) + (2 : Int32)) L := by rw [show (2 : Int32) = nI 2 from rfl, nI_add]; exact vin (by omega) (by omega)
  have g3 : vp_in (nI (6 * T) + (3 : Int32)) L := by rw [show (3 : Int32) = nI 3 from rfl, nI_add]; exact vin (by omega) (by omega)
  refine z_aload_n C 1 dL_law_547 rfl ?_
  refine z_aload_n C 0 dL_law_548 rfl ?_
  refine z_iload_n C 3 dL_law_549 rfl ?_
  refine z_iconst C dL_law_550 (v := (1 : Int32)) (by decide) ?_
  refine z_iadd C dL_law_551 ?_
  refine z_sld C hX hbl hbA g1 dL_law_552 ?_
  refine z_aload_n C 0 dL_law_553 rfl ?_
  refine z_iload_n C 3 dL_law_554 rfl ?_
  refine z_iconst C dL_law_555 (v := (2 : Int32)) (by decide) ?_
  refine z_iadd C dL_law_556 ?_
  refine z_sld C hX hbl hbA g2 dL_law_557 ?_
  refine z_aload_n C 0 dL_law_558 rfl ?_
  refine z_iload_n C 3 dL_law_559 rfl ?_
  refine z_iconst C dL_law_560 (v := (3 : Int32)) (by decide) ?_
  refine z_iadd C dL_law_561 ?_
  refine z_sld C hX hbl hbA g3 dL_law_562 ?_
  refine z_callA C hO1 (As := [.int (xs (nI (6 * T) + (1 : Int32)).toNatClampNeg), .int (xs (nI (6 * T) + (2 : Int32)).toNatClampNeg), .int (xs (nI (6 * T) + (3 : Int32)).toNatClampNeg)]) (rest := []) (rv := some (.int r)) (c_X3_seating (l := zl X) h1) vw_L_77 ⟨rfl, rfl, by decide, by decide⟩ (z_rv C (q0 := 0) (ci := 3) rfl rfl rfl) rfl (Nat.le_of_ble_eq_true rfl) dL_law_563 ?_
  show Z X (YP (YR (q1, E)) (YM (q2, E))) 4 (μ1, ν) 566 [(0, .ref b), (1, .ref (q1 0)), (2, .ref (q2 0)), (3, .int (nI (6 * T)))] [.int r]
  refine z_aload_n C 2 dL_law_566 rfl ?_
  refine z_aload_n C 0 dL_law_567 rfl ?_
  refine z_iload_n C 3 dL_law_568 rfl ?_
  refine z_iconst C dL_law_569 (v := (1 : Int32)) (by decide) ?_
  refine z_iadd C dL_law_570 ?_
  refine z_sld C hX hbl hbA g1 dL_law_571 ?_
  refine z_aload_n C 0 dL_law_572 rfl ?_
  refine z_iload_n C 3 dL_law_573 rfl ?_
  refine z_iconst C dL_law_574 (v := (2 : Int32)) (by decide) ?_
  refine z_iadd C dL_law_575 ?_
  refine z_sld C hX hbl hbA g2 dL_law_576 ?_
  refine z_aload_n C 0 dL_law_577 rfl ?_
  refine z_iload_n C 3 dL_law_578 rfl ?_
  refine z_iconst C dL_law_579 (v := (3 : Int32)) (by decide) ?_
  refine z_iadd C dL_law_580 ?_
  refine z_sld C hX hbl hbA g3 dL_law_581 ?_
  refine z_callB C hO2 rfl rfl rfl (As := [.int (xs (nI (6 * T) + (1 : Int32)).toNatClampNeg), .int (xs (nI (6 * T) + (2 : Int32)).toNatClampNeg), .int (xs (nI (6 * T) + (3 : Int32)).toNatClampNeg)]) (rest := [.int r]) (rv := some (.int r)) (c_X4_seating (l := zl X) h2) vw_L_80 ⟨rfl, rfl, by decide, by decide⟩ (z_rv C (q0 := 24) (ci := 4) rfl rfl rfl) rfl (Nat.le_of_ble_eq_true rfl) dL_law_582 ?_
  show Z X (YP (YR (q1, E)) (YM (q2, E))) 4 (μ1, ν1) 585 [(0, .ref b), (1, .ref (q1 0)), (2, .ref (q2 0)), (3, .int (nI (6 * T)))] [.int r, .int r]
  refine z_icmp_eq C 871 dL_law_585 (by decide) (fun _ => ?_) (fun c => absurd rfl c)
  exact next _ _ hR
set_option maxHeartbeats 4000000 in
theorem lc_nestlings {X : ZX} {q1 q2 : Nat → Nat} {E : GE} {b L : Nat} {xs : Nat → Int32} {T : Nat} {μ : Mem} {ν : MM} (P : LX X q1 q2 E b L xs) (h6 : 6 * T + 6 ≤ L) (h : Rel T μ ν) (next : ∀ (μ1 : Mem) (ν1 : MM), Rel (T + 1) μ1 ν1 → Z X (YP (YR (q1, E)) (YM (q2, E))) 4 (μ1, ν1) 871 [(0, .ref b), (1, .ref (q1 0)), (2, .ref (q2 0)), (3, .int (nI (6 * T)))] []) : Z X (YP (YR (q1, E)) (YM (q2, E))) 4 (μ, ν) 590 [(0, .ref b), (1, .ref (q1 0)), (2, .ref (q2 0)), (3, .int (nI (6 * T)))] [] := by
  obtain ⟨C, hX, hbl, hbA, hO1, hO2, hL⟩ := P
  obtain ⟨μ1, ν1, r, h1, h2, hR⟩ := st_nestlings (x1 := xs (nI (6 * T) + (1 : Int32)).toNatClampNeg) (x2 := xs (nI (6 * T) + (2 : Int32)).toNatClampNeg) (x3 := xs (nI (6 * T) + (3 : Int32)).toNatClampNeg) (x4 := xs (nI (6 * T) + (4 : Int32)).toNatClampNeg) (x5 := xs (nI (6 * T) + (5 : Int32)).toNatClampNeg) h
  have g1 : vp_in (nI (6 * T) + (1 : Int32)) L := by rw [show (1 : Int32) = nI 1 from rfl, nI_add]; exact vin (by omega) (by omega)
  have g2 : vp_in (nI (6 * T) + (2 : Int32)) L := by rw [show (2 : Int32) = nI 2 from rfl, nI_add]; exact vin (by omega) (by omega)
  have g3 : vp_in (nI (6 * T) + (3 : Int32)) L := by rw [show (3 : Int32) = nI 3 from rfl, nI_add]; exact vin (by omega) (by omega)
  have g4 : vp_in (nI (6 * T) + (4 : Int32)) L := by rw [show (4 : Int32) = nI 4 from rfl, nI_add]; exact vin (by omega) (by omega)
  have g5 : vp_in (nI (6 * T) + (5 : Int32)) L := by rw [show (5 : Int32) = nI 5 from rfl, nI_add]; exact vin (by omega) (by omega)
  refine z_aload_n C 1 dL_law_590 rfl ?_
  refine z_aload_n C 0 dL_law_591 rfl ?_
  refine z_iload_n C 3 dL_law_592 rfl ?_
  refine z_iconst C dL_law_593 (v := (1 : Int32)) (by decide) ?_
  refine z_iadd C dL_law_594 ?_
  refine z_sld C hX hbl hbA g1 dL_law_595 ?_
  refine z_aload_n C 0 dL_law_596 rfl ?_
  refine z_iload_n C 3 dL_law_597 rfl ?_
  refine z_iconst C dL_law_598 (v := (2 : Int32)) (by decide) ?_
  refine z_iadd C dL_law_599 ?_
  refine z_sld C hX hbl hbA g2 dL_law_600 ?_
  refine z_aload_n C 0 dL_law_601 rfl ?_
  refine z_iload_n C 3 dL_law_602 rfl ?_
  refine z_iconst C dL_law_603 (v := (3 : Int32)) (by decide) ?_
  refine z_iadd C dL_law_604 ?_
  refine z_sld C hX hbl hbA g3 dL_law_605 ?_
  refine z_aload_n C 0 dL_law_606 rfl ?_
  refine z_iload_n C 3 dL_law_607 rfl ?_
  refine z_iconst C dL_law_608 (v := (4 : Int32)) (by decide) ?_
  refine z_iadd C dL_law_609 ?_
  refine z_sld C hX hbl hbA g4 dL_law_610 ?_
  refine z_aload_n C 0 dL_law_611 rfl ?_
  refine z_iload_n C 3 dL_law_612 rfl ?_
  refine z_iconst C dL_law_613 (v := (5 : Int32)) (by decide) ?_
  refine z_iadd C dL_law_614 ?_
  refine z_sld C hX hbl hbA g5 dL_law_615 ?_
  refine z_callA C hO1 (As := [.int (xs (nI (6 * T) + (1 : Int32)).toNatClampNeg), .int (xs (nI (6 * T) + (2 : Int32)).toNatClampNeg), .int (xs (nI (6 * T) + (3 : Int32)).toNatClampNeg), .int (xs (nI (6 * T) + (4 : Int32)).toNatClampNeg), .int (xs (nI (6 * T) + (5 : Int32)).toNatClampNeg)]) (rest := []) (rv := some (.int r)) (c_X3_nestlings (l := zl X) h1) vw_L_81 ⟨rfl, rfl, by decide, by decide⟩ (z_rv C (q0 := 0) (ci := 3) rfl rfl rfl) rfl (Nat.le_of_ble_eq_true rfl) dL_law_616 ?_
  show Z X (YP (YR (q1, E)) (YM (q2, E))) 4 (μ1, ν) 619 [(0, .ref b), (1, .ref (q1 0)), (2, .ref (q2 0)), (3, .int (nI (6 * T)))] [.int r]
  refine z_aload_n C 2 dL_law_619 rfl ?_
  refine z_aload_n C 0 dL_law_620 rfl ?_
  refine z_iload_n C 3 dL_law_621 rfl ?_
  refine z_iconst C dL_law_622 (v := (1 : Int32)) (by decide) ?_
  refine z_iadd C dL_law_623 ?_
  refine z_sld C hX hbl hbA g1 dL_law_624 ?_
  refine z_aload_n C 0 dL_law_625 rfl ?_
  refine z_iload_n C 3 dL_law_626 rfl ?_
  refine z_iconst C dL_law_627 (v := (2 : Int32)) (by decide) ?_
  refine z_iadd C dL_law_628 ?_
  refine z_sld C hX hbl hbA g2 dL_law_629 ?_
  refine z_aload_n C 0 dL_law_630 rfl ?_
  refine z_iload_n C 3 dL_law_631 rfl ?_
  refine z_iconst C dL_law_632 (v := (3 : Int32)) (by decide) ?_
  refine z_iadd C dL_law_633 ?_
  refine z_sld C hX hbl hbA g3 dL_law_634 ?_
  refine z_aload_n C 0 dL_law_635 rfl ?_
  refine z_iload_n C 3 dL_law_636 rfl ?_
  refine z_iconst C dL_law_637 (v := (4 : Int32)) (by decide) ?_
  refine z_iadd C dL_law_638 ?_
  refine z_sld C hX hbl hbA g4 dL_law_639 ?_
  refine z_aload_n C 0 dL_law_640 rfl ?_
  refine z_iload_n C 3 dL_law_641 rfl ?_
  refine z_iconst C dL_law_642 (v := (5 : Int32)) (by decide) ?_
  refine z_iadd C dL_law_643 ?_
  refine z_sld C hX hbl hbA g5 dL_law_644 ?_
  refine z_callB C hO2 rfl rfl rfl (As := [.int (xs (nI (6 * T) + (1 : Int32)).toNatClampNeg), .int (xs (nI (6 * T) + (2 : Int32)).toNatClampNeg), .int (xs (nI (6 * T) + (3 : Int32)).toNatClampNeg), .int (xs (nI (6 * T) + (4 : Int32)).toNatClampNeg), .int (xs (nI (6 * T) + (5 : Int32)).toNatClampNeg)]) (rest := [.int r]) (rv := some (.int r)) (c_X4_nestlings (l := zl X) h2) vw_L_85 ⟨rfl, rfl, by decide, by decide⟩ (z_rv C (q0 := 24) (ci := 4) rfl rfl rfl) rfl (Nat.le_of_ble_eq_true rfl) dL_law_645 ?_
  show Z X (YP (YR (q1, E)) (YM (q2, E))) 4 (μ1, ν1) 648 [(0, .ref b), (1, .ref (q1 0)), (2, .ref (q2 0)), (3, .int (nI (6 * T)))] [.int r, .int r]
  refine z_icmp_eq C 871 dL_law_648 (by decide) (fun _ => ?_) (fun c => absurd rfl c)
  exact next _ _ hR
set_option maxHeartbeats 4000000 in
theorem lc_observe {X : ZX} {q1 q2 : Nat → Nat} {E : GE} {b L : Nat} {xs : Nat → Int32} {T : Nat} {μ : Mem} {ν : MM} (P : LX X q1 q2 E b L xs) (h6 : 6 * T + 6 ≤ L) (h : Rel T μ ν) (next : ∀ (μ1 : Mem) (ν1 : MM), Rel (T + 1) μ1 ν1 → Z X (YP (YR (q1, E)) (YM (q2, E))) 4 (μ1, ν1) 871 [(0, .ref b), (1, .ref (q1 0)), (2, .ref (q2 0)), (3, .int (nI (6 * T)))] []) : Z X (YP (YR (q1, E)) (YM (q2, E))) 4 (μ, ν) 653 [(0, .ref b), (1, .ref (q1 0)), (2, .ref (q2 0)), (3, .int (nI (6 * T)))] [] := by
  obtain ⟨C, hX, hbl, hbA, hO1, hO2, hL⟩ := P
  obtain ⟨μ1, ν1, r, h1, h2, hR⟩ := st_observe (x1 := xs (nI (6 * T) + (1 : Int32)).toNatClampNeg) (x2 := xs (nI (6 * T) + (2 : Int32)).toNatClampNeg) (x3 := xs (nI (6 * T) + (3 : Int32)).toNatClampNeg) h
  have g1 : vp_in (nI (6 * T) + (1 : Int32)) L := by rw [show (1 : Int32) = nI 1 from rfl, nI_add]; exact vin (by omega) (by omega)
  have g2 : vp_in (nI (6 * T) + (2 : Int32)) L := by rw [show (2 : Int32) = nI 2 from rfl, nI_add]; exact vin (by omega) (by omega)
  have g3 : vp_in (nI (6 * T) + (3 : Int32)) L := by rw [show (3 : Int32) = nI 3 from rfl, nI_add]; exact vin (by omega) (by omega)
  refine z_aload_n C 1 dL_law_653 rfl ?_
  refine z_aload_n C 0 dL_law_654 rfl ?_
  refine z_iload_n C 3 dL_law_655 rfl ?_
  refine z_iconst C dL_law_656 (v := (1 : Int32)) (by decide) ?_
  refine z_iadd C dL_law_657 ?_
  refine z_sld C hX hbl hbA g1 dL_law_658 ?_
  refine z_aload_n C 0 dL_law_659 rfl ?_
  refine z_iload_n C 3 dL_law_660 rfl ?_
  refine z_iconst C dL_law_661 (v := (2 : Int32)) (by decide) ?_
  refine z_iadd C dL_law_662 ?_
  refine z_sld C hX hbl hbA g2 dL_law_663 ?_
  refine z_aload_n C 0 dL_law_664 rfl ?_
  refine z_iload_n C 3 dL_law_665 rfl ?_
  refine z_iconst C dL_law_666 (v := (3 : Int32)) (by decide) ?_
  refine z_iadd C dL_law_667 ?_
  refine z_sld C hX hbl hbA g3 dL_law_668 ?_
  refine z_callA C hO1 (As := [.int (xs (nI (6 * T) + (1 : Int32)).toNatClampNeg), .int (xs (nI (6 * T) + (2 : Int32)).toNatClampNeg), .int (xs (nI (6 * T) + (3 : Int32)).toNatClampNeg)]) (rest := []) (rv := some (.int r)) (c_X3_observe (l := zl X) h1) vw_L_86 ⟨rfl, rfl, by decide, by decide⟩ (z_rv C (q0 := 0) (ci := 3) rfl rfl rfl) rfl (Nat.le_of_ble_eq_true rfl) dL_law_669 ?_
  show Z X (YP (YR (q1, E)) (YM (q2, E))) 4 (μ1, ν) 672 [(0, .ref b), (1, .ref (q1 0)), (2, .ref (q2 0)), (3, .int (nI (6 * T)))] [.int r]
  refine z_aload_n C 2 dL_law_672 rfl ?_
  refine z_aload_n C 0 dL_law_673 rfl ?_
  refine z_iload_n C 3 dL_law_674 rfl ?_
  refine z_iconst C dL_law_675 (v := (1 : Int32)) (by decide) ?_
  refine z_iadd C dL_law_676 ?_
  refine z_sld C hX hbl hbA g1 dL_law_677 ?_
  refine z_aload_n C 0 dL_law_678 rfl ?_
  refine z_iload_n C 3 dL_law_679 rfl ?_
  refine z_iconst C dL_law_680 (v := (2 : Int32)) (by decide) ?_
  refine z_iadd C dL_law_681 ?_
  refine z_sld C hX hbl hbA g2 dL_law_682 ?_
  refine z_aload_n C 0 dL_law_683 rfl ?_
  refine z_iload_n C 3 dL_law_684 rfl ?_
  refine z_iconst C dL_law_685 (v := (3 : Int32)) (by decide) ?_
  refine z_iadd C dL_law_686 ?_
  refine z_sld C hX hbl hbA g3 dL_law_687 ?_
  refine z_callB C hO2 rfl rfl rfl (As := [.int (xs (nI (6 * T) + (1 : Int32)).toNatClampNeg), .int (xs (nI (6 * T) + (2 : Int32)).toNatClampNeg), .int (xs (nI (6 * T) + (3 : Int32)).toNatClampNeg)]) (rest := [.int r]) (rv := some (.int r)) (c_X4_observe (l := zl X) h2) vw_L_89 ⟨rfl, rfl, by decide, by decide⟩ (z_rv C (q0 := 24) (ci := 4) rfl rfl rfl) rfl (Nat.le_of_ble_eq_true rfl) dL_law_688 ?_
  show Z X (YP (YR (q1, E)) (YM (q2, E))) 4 (μ1, ν1) 691 [(0, .ref b), (1, .ref (q1 0)), (2, .ref (q2 0)), (3, .int (nI (6 * T)))] [.int r, .int r]
  refine z_icmp_eq C 871 dL_law_691 (by decide) (fun _ => ?_) (fun c => absurd rfl c)
  exact next _ _ hR
set_option maxHeartbeats 4000000 in
theorem lc_forget {X : ZX} {q1 q2 : Nat → Nat} {E : GE} {b L : Nat} {xs : Nat → Int32} {T : Nat} {μ : Mem} {ν : MM} (P : LX X q1 q2 E b L xs) (h6 : 6 * T + 6 ≤ L) (h : Rel T μ ν) (next : ∀ (μ1 : Mem) (ν1 : MM), Rel (T + 1) μ1 ν1 → Z X (YP (YR (q1, E)) (YM (q2, E))) 4 (μ1, ν1) 871 [(0, .ref b), (1, .ref (q1 0)), (2, .ref (q2 0)), (3, .int (nI (6 * T)))] []) : Z X (YP (YR (q1, E)) (YM (q2, E))) 4 (μ, ν) 696 [(0, .ref b), (1, .ref (q1 0)), (2, .ref (q2 0)), (3, .int (nI (6 * T)))] [] := by
  obtain ⟨C, hX, hbl, hbA, hO1, hO2, hL⟩ := P
  obtain ⟨μ1, ν1, r, h1, h2, hR⟩ := st_forget h
  refine z_aload_n C 1 dL_law_696 rfl ?_
  refine z_callA C hO1 (As := []) (rest := []) (rv := some (.int r)) (c_X3_forget (l := zl X) h1) vw_L_90 ⟨rfl, rfl, by decide, by decide⟩ (z_rv C (q0 := 0) (ci := 3) rfl rfl rfl) rfl (Nat.le_of_ble_eq_true rfl) dL_law_697 ?_
  show Z X (YP (YR (q1, E)) (YM (q2, E))) 4 (μ1, ν) 700 [(0, .ref b), (1, .ref (q1 0)), (2, .ref (q2 0)), (3, .int (nI (6 * T)))] [.int r]
  refine z_aload_n C 2 dL_law_700 rfl ?_
  refine z_callB C hO2 rfl rfl rfl (As := []) (rest := [.int r]) (rv := some (.int r)) (c_X4_forget (l := zl X) h2) vw_L_93 ⟨rfl, rfl, by decide, by decide⟩ (z_rv C (q0 := 24) (ci := 4) rfl rfl rfl) rfl (Nat.le_of_ble_eq_true rfl) dL_law_701 ?_
  show Z X (YP (YR (q1, E)) (YM (q2, E))) 4 (μ1, ν1) 704 [(0, .ref b), (1, .ref (q1 0)), (2, .ref (q2 0)), (3, .int (nI (6 * T)))] [.int r, .int r]
  refine z_icmp_eq C 871 dL_law_704 (by decide) (fun _ => ?_) (fun c => absurd rfl c)
  exact next _ _ hR
set_option maxHeartbeats 4000000 in
theorem lc_guess {X : ZX} {q1 q2 : Nat → Nat} {E : GE} {b L : Nat} {xs : Nat → Int32} {T : Nat} {μ : Mem} {ν : MM} (P : LX X q1 q2 E b L xs) (h6 : 6 * T + 6 ≤ L) (h : Rel T μ ν) (next : ∀ (μ1 : Mem) (ν1 : MM), Rel (T + 1) μ1 ν1 → Z X (YP (YR (q1, E)) (YM (q2, E))) 4 (μ1, ν1) 871 [(0, .ref b), (1, .ref (q1 0)), (2, .ref (q2 0)), (3, .int (nI (6 * T)))] []) : Z X (YP (YR (q1, E)) (YM (q2, E))) 4 (μ, ν) 709 [(0, .ref b), (1, .ref (q1 0)), (2, .ref (q2 0)), (3, .int (nI (6 * T)))] [] := by
  obtain ⟨C, hX, hbl, hbA, hO1, hO2, hL⟩ := P
  obtain ⟨μ1, ν1, r, h1, h2, hR⟩ := st_guess (x1 := xs (nI (6 * T) + (1 : Int32)).toNatClampNeg) (x2 := xs (nI (6 * T) + (2 : Int32)).toNatClampNeg) h
  have g1 : vp_in (nI (6 * T) + (1 : Int32)) L := by rw [show (1 : Int32) = nI 1 from rfl, nI_add]; exact vin (by omega) (by omega)
  have g2 : vp_in (nI (6 * T) + (2 : Int32)) L := by rw [show (2 : Int32) = nI 2 from rfl, nI_add]; exact vin (by omega) (by omega)
  refine z_aload_n C 1 dL_law_709 rfl ?_
  refine z_aload_n C 0 dL_law_710 rfl ?_
  refine z_iload_n C 3 dL_law_711 rfl ?_
  refine z_iconst C dL_law_712 (v := (1 : Int32)) (by decide) ?_
  refine z_iadd C dL_law_713 ?_
  refine z_sld C hX hbl hbA g1 dL_law_714 ?_
  refine z_aload_n C 0 dL_law_715 rfl ?_
  refine z_iload_n C 3 dL_law_716 rfl ?_
  refine z_iconst C dL_law_717 (v := (2 : Int32)) (by decide) ?_
  refine z_iadd C dL_law_718 ?_
  refine z_sld C hX hbl hbA g2 dL_law_719 ?_
  refine z_callA C hO1 (As := [.int (xs (nI (6 * T) + (1 : Int32)).toNatClampNeg), .int (xs (nI (6 * T) + (2 : Int32)).toNatClampNeg)]) (rest := []) (rv := some (.int r)) (c_X3_guess (l := zl X) h1) vw_L_94 ⟨rfl, rfl, by decide, by decide⟩ (z_rv C (q0 := 0) (ci := 3) rfl rfl rfl) rfl (Nat.le_of_ble_eq_true rfl) dL_law_720 ?_
  show Z X (YP (YR (q1, E)) (YM (q2, E))) 4 (μ1, ν) 723 [(0, .ref b), (1, .ref (q1 0)), (2, .ref (q2 0)), (3, .int (nI (6 * T)))] [.int r]
  refine z_aload_n C 2 dL_law_723 rfl ?_
  refine z_aload_n C 0 dL_law_724 rfl ?_
  refine z_iload_n C 3 dL_law_725 rfl ?_
  refine z_iconst C dL_law_726 (v := (1 : Int32)) (by decide) ?_
  refine z_iadd C dL_law_727 ?_
  refine z_sld C hX hbl hbA g1 dL_law_728 ?_
  refine z_aload_n C 0 dL_law_729 rfl ?_
  refine z_iload_n C 3 dL_law_730 rfl ?_
  refine z_iconst C dL_law_731 (v := (2 : Int32)) (by decide) ?_
  refine z_iadd C dL_law_732 ?_
  refine z_sld C hX hbl hbA g2 dL_law_733 ?_
  refine z_callB C hO2 rfl rfl rfl (As := [.int (xs (nI (6 * T) + (1 : Int32)).toNatClampNeg), .int (xs (nI (6 * T) + (2 : Int32)).toNatClampNeg)]) (rest := [.int r]) (rv := some (.int r)) (c_X4_guess (l := zl X) h2) vw_L_97 ⟨rfl, rfl, by decide, by decide⟩ (z_rv C (q0 := 24) (ci := 4) rfl rfl rfl) rfl (Nat.le_of_ble_eq_true rfl) dL_law_734 ?_
  show Z X (YP (YR (q1, E)) (YM (q2, E))) 4 (μ1, ν1) 737 [(0, .ref b), (1, .ref (q1 0)), (2, .ref (q2 0)), (3, .int (nI (6 * T)))] [.int r, .int r]
  refine z_icmp_eq C 871 dL_law_737 (by decide) (fun _ => ?_) (fun c => absurd rfl c)
  exact next _ _ hR
set_option maxHeartbeats 4000000 in
theorem lc_caw {X : ZX} {q1 q2 : Nat → Nat} {E : GE} {b L : Nat} {xs : Nat → Int32} {T : Nat} {μ : Mem} {ν : MM} (P : LX X q1 q2 E b L xs) (h6 : 6 * T + 6 ≤ L) (h : Rel T μ ν) (next : ∀ (μ1 : Mem) (ν1 : MM), Rel (T + 1) μ1 ν1 → Z X (YP (YR (q1, E)) (YM (q2, E))) 4 (μ1, ν1) 871 [(0, .ref b), (1, .ref (q1 0)), (2, .ref (q2 0)), (3, .int (nI (6 * T)))] []) : Z X (YP (YR (q1, E)) (YM (q2, E))) 4 (μ, ν) 742 [(0, .ref b), (1, .ref (q1 0)), (2, .ref (q2 0)), (3, .int (nI (6 * T)))] [] := by
  obtain ⟨C, hX, hbl, hbA, hO1, hO2, hL⟩ := P
  obtain ⟨μ1, ν1, r, h1, h2, hR⟩ := st_caw (x1 := xs (nI (6 * T) + (1 : Int32)).toNatClampNeg) h
  have g1 : vp_in (nI (6 * T) + (1 : Int32)) L := by rw [show (1 : Int32) = nI 1 from rfl, nI_add]; exact vin (by omega) (by omega)
  refine z_aload_n C 1 dL_law_742 rfl ?_
  refine z_aload_n C 0 dL_law_743 rfl ?_
  refine z_iload_n C 3 dL_law_744 rfl ?_
  refine z_iconst C dL_law_745 (v := (1 : Int32)) (by decide) ?_
  refine z_iadd C dL_law_746 ?_
  refine z_sld C hX hbl hbA g1 dL_law_747 ?_
  refine z_callA C hO1 (As := [.int (xs (nI (6 * T) + (1 : Int32)).toNatClampNeg)]) (rest := []) (rv := some (.int r)) (c_X3_caw (l := zl X) h1) vw_L_98 ⟨rfl, rfl, by decide, by decide⟩ (z_rv C (q0 := 0) (ci := 3) rfl rfl rfl) rfl (Nat.le_of_ble_eq_true rfl) dL_law_748 ?_
  show Z X (YP (YR (q1, E)) (YM (q2, E))) 4 (μ1, ν) 751 [(0, .ref b), (1, .ref (q1 0)), (2, .ref (q2 0)), (3, .int (nI (6 * T)))] [.int r]
  refine z_aload_n C 2 dL_law_751 rfl ?_
  refine z_aload_n C 0 dL_law_752 rfl ?_
  refine z_iload_n C 3 dL_law_753 rfl ?_
  refine z_iconst C dL_law_754 (v := (1 : Int32)) (by decide) ?_
  refine z_iadd C dL_law_755 ?_
  refine z_sld C hX hbl hbA g1 dL_law_756 ?_
  refine z_callB C hO2 rfl rfl rfl (As := [.int (xs (nI (6 * T) + (1 : Int32)).toNatClampNeg)]) (rest := [.int r]) (rv := some (.int r)) (c_X4_caw (l := zl X) h2) vw_L_101 ⟨rfl, rfl, by decide, by decide⟩ (z_rv C (q0 := 24) (ci := 4) rfl rfl rfl) rfl (Nat.le_of_ble_eq_true rfl) dL_law_757 ?_
  show Z X (YP (YR (q1, E)) (YM (q2, E))) 4 (μ1, ν1) 760 [(0, .ref b), (1, .ref (q1 0)), (2, .ref (q2 0)), (3, .int (nI (6 * T)))] [.int r, .int r]
  refine z_icmp_eq C 871 dL_law_760 (by decide) (fun _ => ?_) (fun c => absurd rfl c)
  exact next _ _ hR
set_option maxHeartbeats 4000000 in
theorem lc_years {X : ZX} {q1 q2 : Nat → Nat} {E : GE} {b L : Nat} {xs : Nat → Int32} {T : Nat} {μ : Mem} {ν : MM} (P : LX X q1 q2 E b L xs) (h6 : 6 * T + 6 ≤ L) (h : Rel T μ ν) (next : ∀ (μ1 : Mem) (ν1 : MM), Rel (T + 1) μ1 ν1 → Z X (YP (YR (q1, E)) (YM (q2, E))) 4 (μ1, ν1) 871 [(0, .ref b), (1, .ref (q1 0)), (2, .ref (q2 0)), (3, .int (nI (6 * T)))] []) : Z X (YP (YR (q1, E)) (YM (q2, E))) 4 (μ, ν) 765 [(0, .ref b), (1, .ref (q1 0)), (2, .ref (q2 0)), (3, .int (nI (6 * T)))] [] := by
  obtain ⟨C, hX, hbl, hbA, hO1, hO2, hL⟩ := P
  obtain ⟨μ1, ν1, r, h1, h2, hR⟩ := st_years (x1 := xs (nI (6 * T) + (1 : Int32)).toNatClampNeg) (x2 := xs (nI (6 * T) + (2 : Int32)).toNatClampNeg) (x3 := xs (nI (6 * T) + (3 : Int32)).toNatClampNeg) h
  have g1 : vp_in (nI (6 * T) + (1 : Int32)) L := by rw [show (1 : Int32) = nI 1 from rfl, nI_add]; exact vin (by omega) (by omega)
  have g2 : vp_in (nI (6 * T) + (2 : Int32)) L := by rw [show (2 : Int32) = nI 2 from rfl, nI_add]; exact vin (by omega) (by omega)
  have g3 : vp_in (nI (6 * T) + (3 : Int32)) L := by rw [show (3 : Int32) = nI 3 from rfl, nI_add]; exact vin (by omega) (by omega)
  refine z_aload_n C 1 dL_law_765 rfl ?_
  refine z_aload_n C 0 dL_law_766 rfl ?_
  refine z_iload_n C 3 dL_law_767 rfl ?_
  refine z_iconst C dL_law_768 (v := (1 : Int32)) (by decide) ?_
  refine z_iadd C dL_law_769 ?_
  refine z_sld C hX hbl hbA g1 dL_law_770 ?_
  refine z_aload_n C 0 dL_law_771 rfl ?_
  refine z_iload_n C 3 dL_law_772 rfl ?_
  refine z_iconst C dL_law_773 (v := (2 : Int32)) (by decide) ?_
  refine z_iadd C dL_law_774 ?_
  refine z_sld C hX hbl hbA g2 dL_law_775 ?_
  refine z_aload_n C 0 dL_law_776 rfl ?_
  refine z_iload_n C 3 dL_law_777 rfl ?_
  refine z_iconst C dL_law_778 (v := (3 : Int32)) (by decide) ?_
  refine z_iadd C dL_law_779 ?_
  refine z_sld C hX hbl hbA g3 dL_law_780 ?_
  refine z_callA C hO1 (As := [.int (xs (nI (6 * T) + (1 : Int32)).toNatClampNeg), .int (xs (nI (6 * T) + (2 : Int32)).toNatClampNeg), .int (xs (nI (6 * T) + (3 : Int32)).toNatClampNeg)]) (rest := []) (rv := some (.int r)) (c_X3_years (l := zl X) h1) vw_L_102 ⟨rfl, rfl, by decide, by decide⟩ (z_rv C (q0 := 0) (ci := 3) rfl rfl rfl) rfl (Nat.le_of_ble_eq_true rfl) dL_law_781 ?_
  show Z X (YP (YR (q1, E)) (YM (q2, E))) 4 (μ1, ν) 784 [(0, .ref b), (1, .ref (q1 0)), (2, .ref (q2 0)), (3, .int (nI (6 * T)))] [.int r]
  refine z_aload_n C 2 dL_law_784 rfl ?_
  refine z_aload_n C 0 dL_law_785 rfl ?_
  refine z_iload_n C 3 dL_law_786 rfl ?_
  refine z_iconst C dL_law_787 (v := (1 : Int32)) (by decide) ?_
  refine z_iadd C dL_law_788 ?_
  refine z_sld C hX hbl hbA g1 dL_law_789 ?_
  refine z_aload_n C 0 dL_law_790 rfl ?_
  refine z_iload_n C 3 dL_law_791 rfl ?_
  refine z_iconst C dL_law_792 (v := (2 : Int32)) (by decide) ?_
  refine z_iadd C dL_law_793 ?_
  refine z_sld C hX hbl hbA g2 dL_law_794 ?_
  refine z_aload_n C 0 dL_law_795 rfl ?_
  refine z_iload_n C 3 dL_law_796 rfl ?_
  refine z_iconst C dL_law_797 (v := (3 : Int32)) (by decide) ?_
  refine z_iadd C dL_law_798 ?_
  refine z_sld C hX hbl hbA g3 dL_law_799 ?_
  refine z_callB C hO2 rfl rfl rfl (As := [.int (xs (nI (6 * T) + (1 : Int32)).toNatClampNeg), .int (xs (nI (6 * T) + (2 : Int32)).toNatClampNeg), .int (xs (nI (6 * T) + (3 : Int32)).toNatClampNeg)]) (rest := [.int r]) (rv := some (.int r)) (c_X4_years (l := zl X) h2) vw_L_105 ⟨rfl, rfl, by decide, by decide⟩ (z_rv C (q0 := 24) (ci := 4) rfl rfl rfl) rfl (Nat.le_of_ble_eq_true rfl) dL_law_800 ?_
  show Z X (YP (YR (q1, E)) (YM (q2, E))) 4 (μ1, ν1) 803 [(0, .ref b), (1, .ref (q1 0)), (2, .ref (q2 0)), (3, .int (nI (6 * T)))] [.int r, .int r]
  refine z_icmp_eq C 871 dL_law_803 (by decide) (fun _ => ?_) (fun c => absurd rfl c)
  exact next _ _ hR
set_option maxHeartbeats 4000000 in
theorem lc_image {X : ZX} {q1 q2 : Nat → Nat} {E : GE} {b L : Nat} {xs : Nat → Int32} {T : Nat} {μ : Mem} {ν : MM} (P : LX X q1 q2 E b L xs) (h6 : 6 * T + 6 ≤ L) (h : Rel T μ ν) (next : ∀ (μ1 : Mem) (ν1 : MM), Rel (T + 1) μ1 ν1 → Z X (YP (YR (q1, E)) (YM (q2, E))) 4 (μ1, ν1) 871 [(0, .ref b), (1, .ref (q1 0)), (2, .ref (q2 0)), (3, .int (nI (6 * T)))] []) : Z X (YP (YR (q1, E)) (YM (q2, E))) 4 (μ, ν) 808 [(0, .ref b), (1, .ref (q1 0)), (2, .ref (q2 0)), (3, .int (nI (6 * T)))] [] := by
  obtain ⟨C, hX, hbl, hbA, hO1, hO2, hL⟩ := P
  obtain ⟨μ1, ν1, r, h1, h2, hR⟩ := st_image h
  refine z_aload_n C 1 dL_law_808 rfl ?_
  refine z_callA C hO1 (As := []) (rest := []) (rv := some (.int r)) (c_X3_image (l := zl X) h1) vw_L_106 ⟨rfl, rfl, by decide, by decide⟩ (z_rv C (q0 := 0) (ci := 3) rfl rfl rfl) rfl (Nat.le_of_ble_eq_true rfl) dL_law_809 ?_
  show Z X (YP (YR (q1, E)) (YM (q2, E))) 4 (μ1, ν) 812 [(0, .ref b), (1, .ref (q1 0)), (2, .ref (q2 0)), (3, .int (nI (6 * T)))] [.int r]
  refine z_aload_n C 2 dL_law_812 rfl ?_
  refine z_callB C hO2 rfl rfl rfl (As := []) (rest := [.int r]) (rv := some (.int r)) (c_X4_image (l := zl X) h2) vw_L_109 ⟨rfl, rfl, by decide, by decide⟩ (z_rv C (q0 := 24) (ci := 4) rfl rfl rfl) rfl (Nat.le_of_ble_eq_true rfl) dL_law_813 ?_
  show Z X (YP (YR (q1, E)) (YM (q2, E))) 4 (μ1, ν1) 816 [(0, .ref b), (1, .ref (q1 0)), (2, .ref (q2 0)), (3, .int (nI (6 * T)))] [.int r, .int r]
  refine z_icmp_eq C 871 dL_law_816 (by decide) (fun _ => ?_) (fun c => absurd rfl c)
  exact next _ _ hR
set_option maxHeartbeats 4000000 in
theorem lc_restore {X : ZX} {q1 q2 : Nat → Nat} {E : GE} {b L : Nat} {xs : Nat → Int32} {T : Nat} {μ : Mem} {ν : MM} (P : LX X q1 q2 E b L xs) (h6 : 6 * T + 6 ≤ L) (h : Rel T μ ν) (next : ∀ (μ1 : Mem) (ν1 : MM), Rel (T + 1) μ1 ν1 → Z X (YP (YR (q1, E)) (YM (q2, E))) 4 (μ1, ν1) 871 [(0, .ref b), (1, .ref (q1 0)), (2, .ref (q2 0)), (3, .int (nI (6 * T)))] []) : Z X (YP (YR (q1, E)) (YM (q2, E))) 4 (μ, ν) 821 [(0, .ref b), (1, .ref (q1 0)), (2, .ref (q2 0)), (3, .int (nI (6 * T)))] [] := by
  obtain ⟨C, hX, hbl, hbA, hO1, hO2, hL⟩ := P
  obtain ⟨μ1, ν1, r, h1, h2, hR⟩ := st_restore (by omega) h
  refine z_aload_n C 1 dL_law_821 rfl ?_
  refine z_callA C hO1 (As := []) (rest := []) (rv := some (.int r)) (c_X3_restore (l := zl X) h1) vw_L_110 ⟨rfl, rfl, by decide, by decide⟩ (z_rv C (q0 := 0) (ci := 3) rfl rfl rfl) rfl (Nat.le_of_ble_eq_true rfl) dL_law_822 ?_
  show Z X (YP (YR (q1, E)) (YM (q2, E))) 4 (μ1, ν) 825 [(0, .ref b), (1, .ref (q1 0)), (2, .ref (q2 0)), (3, .int (nI (6 * T)))] [.int r]
  refine z_aload_n C 2 dL_law_825 rfl ?_
  refine z_callB C hO2 rfl rfl rfl (As := []) (rest := [.int r]) (rv := some (.int r)) (c_X4_restore (l := zl X) h2) vw_L_113 ⟨rfl, rfl, by decide, by decide⟩ (z_rv C (q0 := 24) (ci := 4) rfl rfl rfl) rfl (Nat.le_of_ble_eq_true rfl) dL_law_826 ?_
  show Z X (YP (YR (q1, E)) (YM (q2, E))) 4 (μ1, ν1) 829 [(0, .ref b), (1, .ref (q1 0)), (2, .ref (q2 0)), (3, .int (nI (6 * T)))] [.int r, .int r]
  refine z_icmp_eq C 871 dL_law_829 (by decide) (fun _ => ?_) (fun c => absurd rfl c)
  exact next _ _ hR
set_option maxHeartbeats 4000000 in
theorem lc_count {X : ZX} {q1 q2 : Nat → Nat} {E : GE} {b L : Nat} {xs : Nat → Int32} {T : Nat} {μ : Mem} {ν : MM} (P : LX X q1 q2 E b L xs) (h6 : 6 * T + 6 ≤ L) (h : Rel T μ ν) (next : ∀ (μ1 : Mem) (ν1 : MM), Rel (T + 1) μ1 ν1 → Z X (YP (YR (q1, E)) (YM (q2, E))) 4 (μ1, ν1) 871 [(0, .ref b), (1, .ref (q1 0)), (2, .ref (q2 0)), (3, .int (nI (6 * T)))] []) : Z X (YP (YR (q1, E)) (YM (q2, E))) 4 (μ, ν) 834 [(0, .ref b), (1, .ref (q1 0)), (2, .ref (q2 0)), (3, .int (nI (6 * T)))] [] := by
  obtain ⟨C, hX, hbl, hbA, hO1, hO2, hL⟩ := P
  obtain ⟨r, h1, h2, hR⟩ := st_count (x1 := xs (nI (6 * T) + (1 : Int32)).toNatClampNeg) h
  have g1 : vp_in (nI (6 * T) + (1 : Int32)) L := by rw [show (1 : Int32) = nI 1 from rfl, nI_add]; exact vin (by omega) (by omega)
  refine z_aload_n C 1 dL_law_834 rfl ?_
  refine z_aload_n C 0 dL_law_835 rfl ?_
  refine z_iload_n C 3 dL_law_836 rfl ?_
  refine z_iconst C dL_law_837 (v := (1 : Int32)) (by decide) ?_
  refine z_iadd C dL_law_838 ?_
  refine z_sld C hX hbl hbA g1 dL_law_839 ?_
  refine z_callA C hO1 (As := [.int (xs (nI (6 * T) + (1 : Int32)).toNatClampNeg)]) (rest := []) (rv := some (.int r)) (c_X3_count (l := zl X) h1) vw_L_114 ⟨rfl, rfl, by decide, by decide⟩ (z_rv C (q0 := 0) (ci := 3) rfl rfl rfl) rfl (Nat.le_of_ble_eq_true rfl) dL_law_840 ?_
  show Z X (YP (YR (q1, E)) (YM (q2, E))) 4 (μ, ν) 843 [(0, .ref b), (1, .ref (q1 0)), (2, .ref (q2 0)), (3, .int (nI (6 * T)))] [.int r]
  refine z_aload_n C 2 dL_law_843 rfl ?_
  refine z_aload_n C 0 dL_law_844 rfl ?_
  refine z_iload_n C 3 dL_law_845 rfl ?_
  refine z_iconst C dL_law_846 (v := (1 : Int32)) (by decide) ?_
  refine z_iadd C dL_law_847 ?_
  refine z_sld C hX hbl hbA g1 dL_law_848 ?_
  refine z_callB C hO2 rfl rfl rfl (As := [.int (xs (nI (6 * T) + (1 : Int32)).toNatClampNeg)]) (rest := [.int r]) (rv := some (.int r)) (c_X4_count (l := zl X) h2) vw_L_117 ⟨rfl, rfl, by decide, by decide⟩ (z_rv C (q0 := 24) (ci := 4) rfl rfl rfl) rfl (Nat.le_of_ble_eq_true rfl) dL_law_849 ?_
  show Z X (YP (YR (q1, E)) (YM (q2, E))) 4 (μ, ν) 852 [(0, .ref b), (1, .ref (q1 0)), (2, .ref (q2 0)), (3, .int (nI (6 * T)))] [.int r, .int r]
  refine z_icmp_eq C 871 dL_law_852 (by decide) (fun _ => ?_) (fun c => absurd rfl c)
  exact next _ _ hR
set_option maxHeartbeats 4000000 in
theorem lc_digest {X : ZX} {q1 q2 : Nat → Nat} {E : GE} {b L : Nat} {xs : Nat → Int32} {T : Nat} {μ : Mem} {ν : MM} (P : LX X q1 q2 E b L xs) (h6 : 6 * T + 6 ≤ L) (h : Rel T μ ν) (next : ∀ (μ1 : Mem) (ν1 : MM), Rel (T + 1) μ1 ν1 → Z X (YP (YR (q1, E)) (YM (q2, E))) 4 (μ1, ν1) 871 [(0, .ref b), (1, .ref (q1 0)), (2, .ref (q2 0)), (3, .int (nI (6 * T)))] []) : Z X (YP (YR (q1, E)) (YM (q2, E))) 4 (μ, ν) 857 [(0, .ref b), (1, .ref (q1 0)), (2, .ref (q2 0)), (3, .int (nI (6 * T)))] [] := by
  obtain ⟨C, hX, hbl, hbA, hO1, hO2, hL⟩ := P
  obtain ⟨μ1, ν1, r, h1, h2, hR⟩ := st_digest h
  refine z_aload_n C 1 dL_law_857 rfl ?_
  refine z_callA C hO1 (As := []) (rest := []) (rv := some (.long r)) (c_X3_digest (l := zl X) h1) vw_L_118 ⟨rfl, rfl, by decide, by decide⟩ (z_rv C (q0 := 0) (ci := 3) rfl rfl rfl) rfl (Nat.le_of_ble_eq_true rfl) dL_law_858 ?_
  show Z X (YP (YR (q1, E)) (YM (q2, E))) 4 (μ1, ν) 861 [(0, .ref b), (1, .ref (q1 0)), (2, .ref (q2 0)), (3, .int (nI (6 * T)))] [.long r]
  refine z_aload_n C 2 dL_law_861 rfl ?_
  refine z_callB C hO2 rfl rfl rfl (As := []) (rest := [.long r]) (rv := some (.long r)) (c_X4_digest (l := zl X) h2) vw_L_122 ⟨rfl, rfl, by decide, by decide⟩ (z_rv C (q0 := 24) (ci := 4) rfl rfl rfl) rfl (Nat.le_of_ble_eq_true rfl) dL_law_862 ?_
  show Z X (YP (YR (q1, E)) (YM (q2, E))) 4 (μ1, ν1) 865 [(0, .ref b), (1, .ref (q1 0)), (2, .ref (q2 0)), (3, .int (nI (6 * T)))] [.long r, .long r]
  refine z_lcmp C dL_law_865 ?_
  refine z_if_eq C 871 dL_law_866 (by decide) (fun _ => ?_) (fun c => absurd ((lg_cmp_eq r r).mpr rfl) c)
  exact next _ _ hR
set_option maxHeartbeats 4000000 in
theorem law_loop {X : ZX} {q1 q2 : Nat → Nat} {E : GE} {b L : Nat} {xs : Nat → Int32} (P : LX X q1 q2 E b L xs) (fin : ∀ (σ : Mem × MM) (lv : List (Nat × Value)), Z X (YP (YR (q1, E)) (YM (q2, E))) 4 σ 878 lv [.int 1]) : ∀ (n T : Nat) (μ : Mem) (ν : MM), 65 ≤ T + n → T ≤ 64 → Rel T μ ν → Z X (YP (YR (q1, E)) (YM (q2, E))) 4 (μ, ν) 18 [(0, .ref b), (1, .ref (q1 0)), (2, .ref (q2 0)), (3, .int (nI (6 * T)))] [] := by
  intro n
  induction n with
  | zero => intro T μ ν h0 h6 h; omega
  | succ n ih =>
    intro T μ ν h0 h6 h
    obtain ⟨C, hX, hbl, hbA, hO1, hO2, hL⟩ := id P
    refine z_iload_n C 3 dL_law_18 rfl ?_
    refine z_aload_n C 0 dL_law_19 rfl ?_
    refine z_slen C hX hbl hbA dL_law_20 ?_
    refine z_bipush C dL_law_21 (v := (6 : Int32)) (by decide) ?_
    refine z_isub C dL_law_23 ?_
    refine z_icmp_gt C 877 dL_law_24 (by decide) (fun c => ?_) (fun c => ?_)
    · refine z_iconst C dL_law_877 (v := (1 : Int32)) (by decide) ?_
      exact fin _ _
    · have h7 := lw_in hL h6 c
      have next : ∀ (μ1 : Mem) (ν1 : MM), Rel (T + 1) μ1 ν1 → Z X (YP (YR (q1, E)) (YM (q2, E))) 4 (μ1, ν1) 871 [(0, .ref b), (1, .ref (q1 0)), (2, .ref (q2 0)), (3, .int (nI (6 * T)))] [] := by
        intro μ1 ν1 hR
        refine z_iinc C 3 dL_law_871 (v := nI (6 * (T + 1))) (lv' := [(3, .int (nI (6 * (T + 1)))), (0, .ref b), (1, .ref (q1 0)), (2, .ref (q2 0))]) rfl (lw_inc T) (by decide) rfl ?_
        refine z_goto C 18 dL_law_874 (by decide) ?_
        refine z_lv C [1, 2, 3, 0] (lv' := [(0, .ref b), (1, .ref (q1 0)), (2, .ref (q2 0)), (3, .int (nI (6 * (T + 1))))]) rfl ?_
        exact ih (T + 1) μ1 ν1 (by omega) (by omega) hR
      refine z_aload_n C 0 dL_law_27 rfl ?_
      refine z_iload_n C 3 dL_law_28 rfl ?_
      refine z_sld C hX hbl hbA (vin (by omega) (by omega)) dL_law_29 ?_
      refine z_bipush C dL_law_30 (v := (31 : Int32)) (by decide) ?_
      refine z_iand C dL_law_32 ?_
      obtain ⟨j, hj, ej⟩ := pk_andE (xs (nI (6 * T)).toNatClampNeg) (m := 31) 5 (by decide)
      rw [ej]
      rcases Nat.lt_or_ge j 26 with hj2 | hj2
      · match j, hj2 with
        | 0, _ => exact z_tabI C 152 dL_law_33 (off := 119) (by decide) (by decide) (by decide +kernel) (by decide) (lc_letter P h7 h next)
        | 1, _ => exact z_tabI C 175 dL_law_33 (off := 142) (by decide) (by decide) (by decide +kernel) (by decide) (lc_blank P h7 h next)
        | 2, _ => exact z_tabI C 188 dL_law_33 (off := 155) (by decide) (by decide) (by decide +kernel) (by decide) (lc_fault P h7 h next)
        | 3, _ => exact z_tabI C 201 dL_law_33 (off := 168) (by decide) (by decide) (by decide +kernel) (by decide) (lc_ring P h7 h next)
        | 4, _ => exact z_tabI C 214 dL_law_33 (off := 181) (by decide) (by decide) (by decide +kernel) (by decide) (lc_about P h7 h next)
        | 5, _ => exact z_tabI C 247 dL_law_33 (off := 214) (by decide) (by decide) (by decide +kernel) (by decide) (lc_as P h7 h next)
        | 6, _ => exact z_tabI C 280 dL_law_33 (off := 247) (by decide) (by decide) (by decide +kernel) (by decide) (lc_seat P h7 h next)
        | 7, _ => exact z_tabI C 303 dL_law_33 (off := 270) (by decide) (by decide) (by decide +kernel) (by decide) (lc_exchange P h7 h next)
        | 8, _ => exact z_tabI C 336 dL_law_33 (off := 303) (by decide) (by decide) (by decide +kernel) (by decide) (lc_twig P h7 h next)
        | 9, _ => exact z_tabI C 369 dL_law_33 (off := 336) (by decide) (by decide) (by decide +kernel) (by decide) (lc_wind P h7 h next)
        | 10, _ => exact z_tabI C 392 dL_law_33 (off := 359) (by decide) (by decide) (by decide +kernel) (by decide) (lc_comes P h7 h next)
        | 11, _ => exact z_tabI C 425 dL_law_33 (off := 392) (by decide) (by decide) (by decide +kernel) (by decide) (lc_sit P h7 h next)
        | 12, _ => exact z_tabI C 458 dL_law_33 (off := 425) (by decide) (by decide) (by decide +kernel) (by decide) (lc_where P h7 h next)
        | 13, _ => exact z_tabI C 491 dL_law_33 (off := 458) (by decide) (by decide) (by decide +kernel) (by decide) (lc_can P h7 h next)
        | 14, _ => exact z_tabI C 504 dL_law_33 (off := 471) (by decide) (by decide) (by decide +kernel) (by decide) (lc_endless P h7 h next)
        | 15, _ => exact z_tabI C 547 dL_law_33 (off := 514) (by decide) (by decide) (by decide +kernel) (by decide) (lc_seating P h7 h next)
        | 16, _ => exact z_tabI C 590 dL_law_33 (off := 557) (by decide) (by decide) (by decide +kernel) (by decide) (lc_nestlings P h7 h next)
        | 17, _ => exact z_tabI C 653 dL_law_33 (off := 620) (by decide) (by decide) (by decide +kernel) (by decide) (lc_observe P h7 h next)
        | 18, _ => exact z_tabI C 696 dL_law_33 (off := 663) (by decide) (by decide) (by decide +kernel) (by decide) (lc_forget P h7 h next)
        | 19, _ => exact z_tabI C 709 dL_law_33 (off := 676) (by decide) (by decide) (by decide +kernel) (by decide) (lc_guess P h7 h next)
        | 20, _ => exact z_tabI C 742 dL_law_33 (off := 709) (by decide) (by decide) (by decide +kernel) (by decide) (lc_caw P h7 h next)
        | 21, _ => exact z_tabI C 765 dL_law_33 (off := 732) (by decide) (by decide) (by decide +kernel) (by decide) (lc_years P h7 h next)
        | 22, _ => exact z_tabI C 808 dL_law_33 (off := 775) (by decide) (by decide) (by decide +kernel) (by decide) (lc_image P h7 h next)
        | 23, _ => exact z_tabI C 821 dL_law_33 (off := 788) (by decide) (by decide) (by decide +kernel) (by decide) (lc_restore P h7 h next)
        | 24, _ => exact z_tabI C 834 dL_law_33 (off := 801) (by decide) (by decide) (by decide +kernel) (by decide) (lc_count P h7 h next)
        | 25, _ => exact z_tabI C 857 dL_law_33 (off := 824) (by decide) (by decide) (by decide +kernel) (by decide) (lc_digest P h7 h next)
        | j + 26, hj2 => omega
      · refine z_tabO C 871 dL_law_33 (Or.inr ?_) (by decide) (next _ _ (h.mono (by omega)))
        rw [nI_toInt (by omega)]; omega
