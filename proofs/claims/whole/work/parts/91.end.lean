/-! THE CLAIM OUT OF ONE WALK OF THE LAW'S BODY. Your part is whole_start (and what it stands on); all else here is the same for every law, but numbers. -/
def R_law : String := "RookRingLaw"
def lw_P (b : Addr) (xs : List Int32) (args : Array Value) (s : State) : Prop := args = #[.ref b] ∧ s.IntsAt b xs ∧ xs.length ≤ 384 ∧ (Jvm.Cond.and given_1 narrow_1).before args s = true
def lw_Q (_ : Array Value) (s : State) (o : Outcome) (t : State) : Prop := o = .returned (some (.int 1)) ∧ Framed s o t [] 38 472
def lw_Z (below : List Frame) (a : Array Value) (s : State) : State → Prop := fun t => ∃ o, t.status = .running ∧ Ended t below o ∧ lw_Q a s o t
/-- the law's own end, with 1 on the stack, nothing written that was there before, its room as the claim has it -/
theorem lw_ret {p : Program} {l : Launch} {e : Env} {s : State} {m : MethodId} {below : List Frame} {meth : Method} {c : Code} {b : Nat} (hx : p.tables.exec = Jvm.exec) (hb : c.code = code) (hr : meth.sig.returnType = ret) (hlocks : meth.locks = false) {pc : Nat} {H : Heap} {ls : Array Slot} (hdg : decode code pc = .ok (.ireturn, 1)) : W p l e room_1 s m #[Value.ref b] below meth c H [] 38 472 (lw_Z below #[Value.ref b] s) (F0 m pc ls [.int 1]) := by
  intro T hT X
  obtain ⟨fs, hret, hrun, hended, hW, hframe⟩ := X.leave (v := some (.int 1)) (hlocks := hlocks) (fun h => by rw [hr] at h; cases h)
  have hmeth' : T.vm.method? m = some meth := X.method'
  refine ⟨T.setFrames fs, ?_, .returned (some (.int 1)), hrun, hended, rfl, ⟨_, rfl⟩, hW, hframe⟩
  jvm_step X.here [X.here.top, hx, hb, hdg, hmeth', hr, ret, narrow_b1]
  (try refine ⟨rfl, ?_⟩); (try refine ⟨rfl, ?_⟩)
  first | (intro acts; rw [hret _ acts rfl rfl rfl]) | rw [hret _ _ rfl rfl rfl]
  exact Steps.refl _
/-- what holds at the law's entry: the machine, the code, the tables' words (any of lw_tbl by 'hts w (by decide +kernel)'), the script of L ints xs at the cell b, what the Statement gives of the start (any of its parts by flat_of_before) -/
def lw_At (p : Program) (s : State) (m : MethodId) (meth : Method) (c : Code) (b L : Nat) (xs : Nat → Int32) : Prop :=
  p.tables.exec = Jvm.exec ∧ c.code = code ∧ meth.sig.returnType = ret ∧ c.maxLocals = 4 ∧ s.vm.findClass R_law = some m.cls ∧ (∀ w ∈ lw_tbl, w.before #[Value.ref b] s = true) ∧ va_X b L xs s s.heap ∧ b < s.heap.size ∧ meth.locks = false ∧ (Jvm.Cond.and given_1 narrow_1).before #[Value.ref b] s = true
theorem arr_known {args : Array Value} {s : State} {ty : FieldType} (h : (Cond.arrayClass ty).before args s = true) (hra : ∀ c : ClassId, s.vm.findClass ("[" ++ ty.toString) = some c → va_RA s c ty) : ∃ cA : ClassId, ArrOfT s cA ty ∧ va_RA s cA ty := by
  obtain ⟨cA, kA, comp, h1, h2, h3⟩ := Cond.arrayClass_spec h
  exact ⟨cA, fun n z => ⟨fun k h => (by cases h), kA, h2, comp, h3⟩, hra cA h1⟩
set_option maxHeartbeats 4000000 in
/-- what a start has beside its cells -/
theorem ex_start {args : Array Value} {s : State} {A : Nat → Prop} (hts : ∀ w ∈ lw_tbl, w.before args s = true) (hgv : (Jvm.Cond.and given_1 narrow_1).before args s = true) (hA : ∀ a : Nat, a < s.heap.size → ¬ A a) : ∃ ad : Nat × Nat, EX ad A s s.heap := by
  have hs := flat_of_before _ hgv
  have hlen : ∀ i : Nat, i < 1 → ([5] : List Nat).getD i 0 < 2 ^ 31 := by
    intro i hi
    obtain rfl : i = 0 := by omega
    decide
  obtain ⟨adK, adV, hS, hE⟩ := vk_Sof (args := args) (s := s) (N := 1) (tm := fun _ => .string "RookRing$Page" 27) (len := [5]) (byt := [[114, 116, 111, 109, 101]]) (A := A) (fun i hi => hlen i hi)
    (fun i _ => hs _ (by decide +kernel)) (fun i _ => hs _ (by decide +kernel)) (fun i _ => hs _ (by decide +kernel))
    (fun i hi => by
      obtain rfl : i = 0 := by omega
      exact hs _ (by decide +kernel))
    (fun i hi j hj => by
      obtain rfl : i = 0 := by omega
      have hj : j < 5 := hj
      rcases (show j = 0 ∨ j = 1 ∨ j = 2 ∨ j = 3 ∨ j = 4 by omega) with rfl | rfl | rfl | rfl | rfl <;> exact hs _ (by decide +kernel))
    (fun i j hi hj h => absurd (show i = j by omega) h) hA
  refine ⟨(adK 0, adV 0), fun w hw => va_Nw.of (nwl_kind w hw).1 (hts w (nwl_in w hw)), vk_R.of (A := args) (hts (.stringRef RX1 27 "rtome") (List.mem_of_getElem? (i := 206) (by decide +kernel))) (hE 0 (by omega)), ?_, ?_⟩
  · refine ⟨fun i hi => ?_, fun i j hi hj _ => by omega⟩
    obtain rfl : i = 0 := by omega
    exact hS.1 0 (by omega)
  · exact va_Zof (hts (.laysStatic "java/lang/String" "COMPACT_STRINGS" "Z") (by decide +kernel)) (hts (.initialized "java/lang/String") (by decide +kernel)) (va_eqi (hs _ (by decide +kernel))) hA
set_option maxHeartbeats 4000000 in
set_option maxRecDepth 100000 in
/-- THE LAW, from its entry -/
theorem whole_start {p : Program} {e : Env} {s : State} {m : MethodId} {below : List Frame} {meth : Method} {c : Code} (l : Launch) {b L : Nat} {xs : Nat → Int32} (hL : L ≤ 384) (C0 : lw_At p s m meth c b L xs) : W p l e room_1 s m #[Value.ref b] below meth c s.heap [] 0 0 (lw_Z below #[Value.ref b] s) (entryFrame m ([Value.ref b] : List Value).toArray 4) := by
  obtain ⟨hx, hb, hr, hml, hown, hts, hX, hbl, hlocks, hgv⟩ := id C0
  have hbA : ¬ (fun q : Nat => s.heap.size ≤ q) b := Nat.not_le.mpr hbl
  have htw : ∀ w ∈ WW, w.before #[Value.ref b] s = true := fun w hw => hts w (ww_tbl w hw)
  obtain ⟨c0, iS0, hKn0⟩ := u_known (C := RX0) (T := TX0) (N := 4) (n := 4) htw inWX0 (htw (.instantiable RX0 4) (ww_in 132 (by decide +kernel) (by decide +kernel)))
  obtain ⟨c1, iS1, hKn1⟩ := u_known (C := RX1) (T := TX1) (N := 2) (n := 2) htw inWX1 (htw (.instantiable RX1 2) (ww_in 58 (by decide +kernel) (by decide +kernel)))
  obtain ⟨c2, iS2, hKn2⟩ := u_known (C := RX2) (T := TX2) (N := 12) (n := 12) htw inWX2 (htw (.instantiable RX2 12) (ww_in 74 (by decide +kernel) (by decide +kernel)))
  obtain ⟨c3, iS3, hKn3⟩ := u_known (C := RX3) (T := TX3) (N := 9) (n := 9) htw inWX3 (htw (.instantiable RX3 9) (ww_in 50 (by decide +kernel) (by decide +kernel)))
  obtain ⟨c4, iS4, hKn4⟩ := u_known (C := RX4) (T := TX4) (N := 31) (n := 31) htw inWX4 (htw (.instantiable RX4 31) (ww_in 587 (by decide +kernel) (by decide +kernel)))
  obtain ⟨dC, dI, hKc⟩ : ∃ (dC : Nat → ClassId) (dI : Nat → Nat → Nat), ∀ (k : Nat) (q : vw_C), classes[k]? = some q → u_Kn s q.1 q.2.1 q.2.2 (dC k) (dI k) := by
    refine ⟨fun k => match k with | 0 => c0 | 1 => c1 | 2 => c2 | 3 => c3 | _ => c4, fun k => match k with | 0 => iS0 | 1 => iS1 | 2 => iS2 | 3 => iS3 | _ => iS4, ?_⟩
    intro k q hq
    match k, hq with
    | 0, hq => cases hq; exact hKn0
    | 1, hq => cases hq; exact hKn1
    | 2, hq => cases hq; exact hKn2
    | 3, hq => cases hq; exact hKn3
    | 4, hq => cases hq; exact hKn4
    | k + 5, hq => simp [classes] at hq
  obtain ⟨cI, hcI⟩ := arr_known (ty := .int) (htw (.arrayClass .int) (ww_in 130 (by decide +kernel) (by decide +kernel))) (fun _ h => h)
  obtain ⟨cC, hcC⟩ := arr_known (ty := .char) (htw (.arrayClass .char) (ww_in 72 (by decide +kernel) (by decide +kernel))) (fun _ h => h)
  have hK : va_K (dC, dI) classes [(cI, .int), (cC, .char)] s := by
    refine ⟨hKc, fun k q h => ?_⟩
    match k, h with
    | 0, h => cases h; exact hcI
    | 1, h => cases h; exact hcC
    | k + 2, h => simp at h
  obtain ⟨ad, hE⟩ := ex_start (A := fun q : Nat => s.heap.size ≤ q) hts hgv (fun a ha h => by omega)
  let X : ZX := ((p, l, e, room_1, s, m), (#[Value.ref b], below, meth, c), (38, 472, lw_Z below #[Value.ref b] s, fun q => s.heap.size ≤ q))
  have C : UX X (dC, dI) [(cI, .int), (cC, .char)] ad code 4 RL room_1 := ⟨hx, hb, hml, hown, htw, hK, rfl, fun _ h => h, hE⟩
  have key : UJ X (dC, dI) 4 0 0 [] 0 [(0, .ref b)] [] := by
    refine u_new C (Cn := RX3) (T := TX3) (N := 9) (ci := 3) (fs := [.null, .null, .null, .int (0 : Int32), .int (0 : Int32), .int (0 : Int32), .null, .null, .null]) inWX3 tyX3 tyX3_ok (ww_in 49 (by decide +kernel) (by decide +kernel)) (ww_in 50 (by decide +kernel) (by decide +kernel)) (ww_in 33 (by decide +kernel) (by decide +kernel)) rfl (fun j hj => by match j, hj with
    | 0, _ => rfl
    | 1, _ => rfl
    | 2, _ => rfl
    | 3, _ => rfl
    | 4, _ => rfl
    | 5, _ => rfl
    | 6, _ => rfl
    | 7, _ => rfl
    | 8, _ => rfl
    | j + 9, hj => omega) (by decide) (by decide) dL_law_0 (fun h1 => ?_)
    refine u_dup C dL_law_3 rfl ?_
    refine u_callI C (c_X3_init (h0 := h1)) (wr := []) (rest := [.ref h1]) (ww_in 51 (by decide +kernel) (by decide +kernel)) (ww_in 52 (by decide +kernel) (by decide +kernel)) (ww_in 33 (by decide +kernel) (by decide +kernel)) (ww_in 53 (by decide +kernel) (by decide +kernel)) rfl ⟨by decide +kernel, by decide +kernel, by decide +kernel⟩ ⟨rfl, rfl, by decide, by decide⟩ (Nat.le_of_ble_eq_true rfl) ⟨by decide, by decide⟩ 0 rfl [] rfl (by decide) (by decide) dL_law_4 (fun w1 hw => ?_)
    obtain ⟨q1, e1, rfl⟩ := hw
    subst e1
    refine u_astore_n C dL_law_7 (i := 1) (lv' := [(1, .ref (q1 0)), (0, .ref b)]) rfl (by decide) rfl ?_
    refine u_new C (Cn := RX4) (T := TX4) (N := 31) (ci := 4) (fs := [.null, .int (0 : Int32), .null, .int (0 : Int32), .int (0 : Int32), .int (0 : Int32), .int (0 : Int32), .int (0 : Int32), .int (0 : Int32), .int (0 : Int32), .int (0 : Int32), .null, .null, .null, .null, .null, .int (0 : Int32), .null, .int (0 : Int32), .null, .null, .int (0 : Int32), .int (0 : Int32), .int (0 : Int32), .int (0 : Int32), .int (0 : Int32), .int (0 : Int32), .null, .null, .null, .long (0 : Int64)]) inWX4 tyX4 tyX4_ok (ww_in 586 (by decide +kernel) (by decide +kernel)) (ww_in 587 (by decide +kernel) (by decide +kernel)) (ww_in 37 (by decide +kernel) (by decide +kernel)) rfl (fun j hj => by match j, hj with
    | 0, _ => rfl
    | 1, _ => rfl
    | 2, _ => rfl
    | 3, _ => rfl
    | 4, _ => rfl
    | 5, _ => rfl
    | 6, _ => rfl
    | 7, _ => rfl
    | 8, _ => rfl
    | 9, _ => rfl
    | 10, _ => rfl
    | 11, _ => rfl
    | 12, _ => rfl
    | 13, _ => rfl
    | 14, _ => rfl
    | 15, _ => rfl
    | 16, _ => rfl
    | 17, _ => rfl
    | 18, _ => rfl
    | 19, _ => rfl
    | 20, _ => rfl
    | 21, _ => rfl
    | 22, _ => rfl
    | 23, _ => rfl
    | 24, _ => rfl
    | 25, _ => rfl
    | 26, _ => rfl
    | 27, _ => rfl
    | 28, _ => rfl
    | 29, _ => rfl
    | 30, _ => rfl
    | j + 31, hj => omega) (by decide) (by decide) dL_law_8 (fun h2 => ?_)
    refine u_dup C dL_law_11 rfl ?_
    refine u_callI C (c_X4_init (h0 := h2)) (wr := wR (q1, ((dC, dI), (cI, cC), ad)) μR0) (rest := [.ref h2]) (ww_in 588 (by decide +kernel) (by decide +kernel)) (ww_in 589 (by decide +kernel) (by decide +kernel)) (ww_in 37 (by decide +kernel) (by decide +kernel)) (ww_in 590 (by decide +kernel) (by decide +kernel)) rfl ⟨by decide +kernel, by decide +kernel, by decide +kernel⟩ ⟨rfl, rfl, by decide, by decide⟩ (Nat.le_of_ble_eq_true rfl) ⟨by decide, by decide⟩ 24 rfl [0, 1, 2, 3, 4, 5, 6, 7, 8, 9, 10, 11, 12, 13, 14, 15, 16, 17, 18, 19, 20, 21, 22, 23] rfl (by decide) (by decide) dL_law_12 (fun w1 hw => ?_)
    obtain ⟨q2, e2, rfl⟩ := hw
    subst e2
    refine u_astore_n C dL_law_15 (i := 2) (lv' := [(2, .ref (q2 0)), (1, .ref (q1 0)), (0, .ref b)]) rfl (by decide) rfl ?_
    intro H locs ls hP hD hS hl
    have hD : va_D (zA X) (wR (q1, ((dC, dI), (cI, cC), ad)) μR0 ++ wM (q2, ((dC, dI), (cI, cC), ad)) (μM0, 0)) := hD
    have eR : ∀ μ μ2 : Mem, (wR (q1, ((dC, dI), (cI, cC), ad)) μ).map Prod.fst = (wR (q1, ((dC, dI), (cI, cC), ad)) μ2).map Prod.fst := fun _ _ => rfl
    have eM : ∀ μ μ2 : MM, (wM (q2, ((dC, dI), (cI, cC), ad)) μ).map Prod.fst = (wM (q2, ((dC, dI), (cI, cC), ad)) μ2).map Prod.fst := fun _ _ => rfl
    have hO1 : YOK (YR (q1, ((dC, dI), (cI, cC), ad))) := YOK.of (A := zA X) (μ0 := μR0) eR hD.lft
    have hO2 : YOK (YM (q2, ((dC, dI), (cI, cC), ad))) := YOK.of (A := zA X) (μ0 := (μM0, 0)) eM hD.rgt
    have eP : ∀ μ μ2 : Mem × MM, (yw (YP (YR (q1, ((dC, dI), (cI, cC), ad))) (YM (q2, ((dC, dI), (cI, cC), ad)))) μ).map Prod.fst = (yw (YP (YR (q1, ((dC, dI), (cI, cC), ad))) (YM (q2, ((dC, dI), (cI, cC), ad)))) μ2).map Prod.fst := fun _ _ => rfl
    have CZ : CX X (YP (YR (q1, ((dC, dI), (cI, cC), ad))) (YM (q2, ((dC, dI), (cI, cC), ad)))) code 4 RL room_1 := ⟨hx, hb, hml, hown, htw, hK, fun σ => va_D.fst (eP (μR0, (μM0, 0)) σ) hD, rfl, fun _ h => h, hE, ⟨Nat.le_refl 38, Nat.le_refl 472⟩, YOK.of (A := zA X) (μ0 := (μR0, (μM0, 0))) eP hD⟩
    have fin : ∀ (σ : Mem × MM) (lv : List (Nat × Value)), Z X (YP (YR (q1, ((dC, dI), (cI, cC), ad))) (YM (q2, ((dC, dI), (cI, cC), ad)))) 4 σ 878 lv [.int 1] := fun σ lv H locs ls hP hS hl => va_forget hS.2.2 (lw_ret hx hb hr hlocks dL_law_878)
    have walk : Z X (YP (YR (q1, ((dC, dI), (cI, cC), ad))) (YM (q2, ((dC, dI), (cI, cC), ad)))) 4 (μR0, (μM0, 0)) 16 [(2, .ref (q2 0)), (1, .ref (q1 0)), (0, .ref b)] [] := by
      refine z_iconst CZ dL_law_16 (v := (0 : Int32)) (by decide) ?_
      refine z_istore_n CZ dL_law_17 (i := 3) (lv' := [(3, .int (0 : Int32)), (2, .ref (q2 0)), (1, .ref (q1 0)), (0, .ref b)]) rfl (by decide) rfl ?_
      refine z_lv CZ [3, 2, 1, 0] (lv' := [(0, .ref b), (1, .ref (q1 0)), (2, .ref (q2 0)), (3, .int (nI (6 * 0)))]) rfl ?_
      exact law_loop ⟨CZ, hX, hbl, hbA, hO1, hO2, hL⟩ fin 65 0 μR0 (μM0, 0) (by omega) (by omega) Rel.start
    exact walk H locs ls hP hS hl
  have h := key s.heap [] _ (fun k q h => by simp at h) ⟨fun i j p q h => by simp at h, fun k q h => by simp at h⟩ va_S.rf (lv_entry [.ref b] (n := 4) (Nat.le_of_ble_eq_true rfl))
  rw [lg_entry_eq]
  exact h
set_option maxHeartbeats 4000000 in
theorem lw_walk (l : Launch) (b : Addr) (xs : List Int32) : MetFree l x (headSpec (Jvm.Cond.code x code maxLocals ret :: tables_1) room_1) (lw_P b xs) (fun _ _ _ _ _ => True) lw_Q := by
  refine MetFree.of_bodyS (code := code) (maxLocals := maxLocals) (ret := ret) (by decide) ?_ ?_
  · intro args s m h hn
    obtain ⟨meth, c, h1, h2, h3, h4, h5, h6, -, -⟩ := Cond.code_spec hn (atoms_spec (ws := Jvm.Cond.code x code maxLocals ret :: tables_1) h _ List.mem_cons_self)
    exact ⟨meth, c, h1, h2, h3, h4, h5, h6⟩
  · intro p e s m args below meth c s₁ B hml0 hP _
    obtain ⟨rfl, hx, hbd, hgv⟩ := hP
    obtain ⟨scr, harrAt, hlist, hof, hsmall⟩ := hx
    obtain ⟨hcb, hkn, -, -⟩ := State.arrayAt?_spec harrAt
    have hown : s.vm.findClass R_law = some m.cls := findClass_of_methodNamed B.named
    have hts0 : ∀ c ∈ (Jvm.Cond.code x code maxLocals ret :: tables_1), c.before #[Value.ref b] s = true := atoms_spec (ws := Jvm.Cond.code x code maxLocals ret :: tables_1) B.pre
    have hts : ∀ w ∈ lw_tbl, w.before #[Value.ref b] s = true := k2_hts_sels lw_privs (fun w hw => hts0 w (List.mem_cons_of_mem _ hw)) lw_privs_ok
    have hml : c.maxLocals = 4 := B.maxLocals_eq (hts0 _ List.mem_cons_self)
    have X₀ : Stand p l e room_1 s m #[Value.ref b] below meth c s₁ [] 0 0 := Stand.of_body B
    have hh0 : s₁.heap = s.heap := by rw [B.state]; rfl
    have hsz : scr.slots.size = xs.length := by rw [← Array.length_toList, hlist, List.length_map]
    have hval : ∀ j : Nat, j < xs.length → scr.slots[j]? = some (.int (xs.getD j 0)) := fun j hj => by
      rw [← Array.getElem?_toList, hlist]
      simp [hj]
    have hbl : b < s.heap.size := (Array.getElem?_eq_some_iff.mp hcb).1
    have hX : va_X b xs.length (fun j => xs.getD j 0) s s.heap := ⟨scr, hcb, hof, hkn, hsz, hval⟩
    have K : W p l e room_1 s m #[Value.ref b] below meth c s₁.heap [] 0 0 (lw_Z below #[Value.ref b] s) (entryFrame m ([Value.ref b] : List Value).toArray 4) := by
      rw [hh0]
      exact whole_start l hbd ⟨B.exec, B.bytes, B.returns, hml, hown, hts, hX, hbl, B.notSynchronized, hgv⟩
    obtain ⟨t, a1, o, b1, b2, b3⟩ := K s₁ rfl X₀
    exact ⟨t, o, a1, b1, b2, b3⟩
theorem lw_pre_spec {args : Array Value} {s : State} (h : (Jvm.Cond.and given_1 narrow_1).before args s = true) (hr : rest_1_c.before args s = true) : ∃ (b : Addr) (xs : List Int32), lw_P b xs args s := by
  have hs := flat_of_before _ h
  have hq := flat_of_before _ hr
  have hc : (Cond.count 1).before args s = true := hs _ (by decide +kernel)
  have harr : (Cond.arrayOf (.arg 0) .int).before args s = true := hs _ (by decide +kernel)
  have hle : (Cond.le (.length (.arg 0)) (.int 384)).before args s = true := hs _ (by decide +kernel)
  have hlen : (Cond.isInt (.length (.arg 0))).before args s = true := hq _ (by decide +kernel)
  have hall : (Cond.all (.arg 0) (.isInt (.elem (.arg 0) (.index 0)))).before args s = true := hq _ (by decide +kernel)
  obtain ⟨b, xs, hb, hx⟩ := State.ints_of_pre rfl harr hlen hall
  have hsm : xs.length < 2 ^ 31 := hx.choose_spec.2.2.2
  have hev : (Term.length (.arg 0)).eval args s none [] s = some (.int xs.length.toInt32) := hx.length_eval hb
  have hv := Cond.le_ints hev (show (Term.int 384).eval args s none [] s = some (.int 384) from rfl)
  have hd : xs.length.toInt32 ≤ 384 := by
    simpa [Cond.before, Cond.holds, hv] using hle
  have hN : xs.length ≤ 384 := (Int32.ofNat_le_ofNat hsm (by decide)).mp (show Int32.ofNat xs.length ≤ Int32.ofNat 384 from hd)
  exact ⟨b, xs, Cond.one_arg hc (show args[0]? = some (.ref b) from hb), hx, hN, h⟩
theorem lw_comes (l : Launch) : Comes l x (Jvm.Cond.code x code maxLocals ret :: tables_1) room_1 (fun tb e args s => Calls_1 tb e args s ∧ rest_1 tb e args s ∧ Pre_1 tb e args s)
    (fun _ _ args s o t => lw_Q args s o t) := by
  intro p e ha hc hk s m args below hf hfit hheap happ hpre
  obtain ⟨b, xs, hP⟩ := lw_pre_spec hpre.2.2 hpre.2.1
  obtain ⟨k, o, h1, h2, h3, hQ⟩ := lw_walk l b xs p e ha hc hk s m args below hf ((Spec.applies_iff_loose hf).mp happ).1 hP trivial
  exact ⟨k, o, h1, h2, h3, hQ⟩
theorem lw_frame {s t : State} {o : Outcome} {args : Array Value} (h : Framed s o t [] 38 472) :
    Framed s o t (fieldLocs frame_1_writes args s ++ arrayLocs frame_1_arrays args s ++ staticLocs frame_1_statics s) 38 472 := h
theorem lw_limb (L : Cond) (hL : ∀ (args : Array Value) (s t : State), L.after args s (.returned (some (.int 1))) t = true) :
    ArmFor flags0 classFile x code maxLocals ret World_1 tables_1 room_1 Calls_1 rest_1 Pre_1
      (fun tb e a s o t => postC L tb e a s o t ∧ Framed s o t (fieldLocs frame_1_writes a s ++ arrayLocs frame_1_arrays a s ++ staticLocs frame_1_statics s) 38 472) := by
  intro l _ _ _ p e ha hc hk s m args below hf hfit hheap happ hpre
  obtain ⟨k, o, h1, h2, h3, rfl, hF⟩ := lw_comes l p e ha hc hk s m args below hf hfit hheap happ hpre
  exact ⟨k, _, h1, h2, h3, hL args s _, lw_frame hF⟩
theorem i_vc : Claimed_1_1 ∧ Claimed_1_2 := ⟨lw_limb limb_1_1 (fun args s t => by simp [limb_1_1, Cond.after, Cond.holds, Cond.value]), lw_limb limb_1_2 (fun args s t => Cond.after_iff.mpr (by
  first | (rw [show limb_1_2 = Cond.eq .result (.int 1) from rfl, Cond.eq_ints (x := 1) (y := 1) rfl rfl]; simp; done) | (simp [limb_1_2, Cond.value, Term.eval]; done)))⟩
