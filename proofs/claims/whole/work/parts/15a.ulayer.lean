/-! CONSTRUCTORS: a world that grows -/
def UJ (X : ZX) (D : va_G) (nL cells slots : Nat) (ws : va_W) (pc : Nat) (lv : List (Nat × Value)) (st : List Value) : Prop :=
  ∀ (H : Heap) (locs : List Loc) (ls : Array Slot), va_P D classes ws H → va_D (zA X) ws → va_S (zA X) (zs X).heap H locs → lv_has ls nL lv →
    W (zp X) (zl X) (ze X) (zR X) (zs X) (zm X) (za X) (zb X) (zh X) (zc X) H locs cells slots (zQ X) (F0 (zm X) pc ls st)
def UX (X : ZX) (D : va_G) (tys : List (ClassId × FieldType)) (ad : Nat × Nat) (cc : ByteArray) (nL : Nat) (own : String) (rm : Room) : Prop :=
  (zp X).tables.exec = Jvm.exec ∧ (zc X).code = cc ∧ (zc X).maxLocals = nL ∧ (zs X).vm.findClass own = some (zm X).cls ∧ (∀ w ∈ WW, w.before (za X) (zs X) = true) ∧ va_K D classes tys (zs X) ∧ zR X = rm ∧ (∀ q, (zs X).heap.size ≤ q → zA X q) ∧ EX ad (zA X) (zs X) (zs X).heap
def Qu (D : va_G) (A : Nat → Prop) (Post : va_W → Prop) : Array Value → State → Outcome → State → Prop := fun _ st oc t => (∃ ws1, oc = .returned none ∧ Post ws1 ∧ va_P D classes ws1 t.heap ∧ va_D A ws1) ∧ va_F A st t
def UR (X : ZX) (D : va_G) (mc ms : Nat) (Post : va_W → Prop) : Prop := (zh X).sig.returnType = none ∧ (zh X).locks = false ∧ (zh X).name = "<init>" ∧ zQ X = MQ (zb X) (Qu D (zA X) Post) (za X) (zs X) mc ms (zA X)
def PU (D : va_G) (tys : List (ClassId × FieldType)) (ad : Nat × Nat) (h0 : Nat) (e0 : va_E) (sz : Nat) (U : State) : Prop := U.heap.size = sz ∧ va_P D classes [(h0, e0)] U.heap ∧ va_K D classes tys U ∧ EX ad (va_A [(h0, e0)] sz) U U.heap
def MU (l : Launch) (D : va_G) (tys : List (ClassId × FieldType)) (ad : Nat × Nat) (y : MethodName) (cc : ByteArray) (maxL : Nat) (rm : Room) (mc ms h0 : Nat) (e0 : va_E) (Post : va_W → Prop) : Prop :=
  ∀ sz, Met l y (.code y cc maxL none :: WW) rm (va_Pc [.ref h0] (PU D tys ad h0 e0 sz)) (Qu D (va_A [(h0, e0)] sz) Post) mc ms (va_A [(h0, e0)] sz)
theorem va_D1 {A : Nat → Prop} {h0 : Nat} {e0 : va_E} (h : A h0) : va_D A [(h0, e0)] := by
  have key : ∀ (k : Nat) (q : Nat × va_E), ([(h0, e0)] : va_W)[k]? = some q → k = 0 ∧ q = (h0, e0) := by
    intro k q hk
    match k, hk with
    | 0, hk => exact ⟨rfl, (Option.some.inj hk).symm⟩
    | k + 1, hk => simp at hk
  refine ⟨fun i j p q hi hj _ => by rw [(key i p hi).1, (key j q hj).1], fun k q hk => by rw [(key k q hk).2]; exact h⟩
theorem u_met {l : Launch} {D : va_G} {tys : List (ClassId × FieldType)} {ad : Nat × Nat} {y : MethodName} {cc : ByteArray} {maxL : Nat} {rm : Room} {mc ms h0 : Nat} {e0 : va_E} {Post : va_W → Prop} (own : String) (ho : y.cls = own) (hy : plainName y.cls = true) (hi : y.name = "<init>") (hlen : 1 ≤ maxL)
    (body : ∀ X : ZX, zl X = l → UX X D tys ad cc maxL own rm → UR X D mc ms Post → UJ X D maxL 0 0 [(h0, e0)] 0 [(0, .ref h0)] []) : MU l D tys ad y cc maxL rm mc ms h0 e0 Post := by
  intro sz
  refine Met.ofW (cc := cc) (maxL := maxL) (ret := none) hy rfl ?_
  intro p e s m args below meth c s₁ B hml hv
  obtain ⟨rfl, hsz, hP, hK, hE⟩ := hv
  subst hsz
  subst ho
  have hts := atoms_spec (ws := Cond.code y cc maxL none :: WW) B.pre
  have hnm : meth.name = "<init>" := by rw [← hi]; exact (name_of_methodNamed B.named B.method).1
  have h := body ((p, l, e, rm, s, m), (([.ref h0] : List Value).toArray, below, meth, c), (0, 0, MQ below (Qu D (va_A [(h0, e0)] s.heap.size) Post) ([.ref h0] : List Value).toArray s mc ms (va_A [(h0, e0)] s.heap.size), va_A [(h0, e0)] s.heap.size)) rfl
    ⟨B.exec, B.bytes, hml, findClass_of_methodNamed B.named, fun w hw => hts w (List.mem_cons_of_mem _ hw), hK, rfl, fun q hq => Or.inr hq, hE⟩
    ⟨B.returns, B.notSynchronized, hnm, rfl⟩ s.heap [] _ hP (va_D1 (Or.inl ⟨0, e0, rfl⟩)) va_S.rf (lv_entry [.ref h0] (n := maxL) hlen)
  rw [lg_entry_eq]
  exact h
section
variable {X : ZX} {D : va_G} {tys : List (ClassId × FieldType)} {ad : Nat × Nat} {cc : ByteArray} {nL : Nat} {own : String} {rm : Room} {cells slots : Nat} {ws ws' : va_W} {pc : Nat} {lv lv' : List (Nat × Value)} {st : List Value} {mc ms : Nat} {Post : va_W → Prop}
theorem UX.exec (C : UX X D tys ad cc nL own rm) : (zp X).tables.exec = Jvm.exec := C.1
theorem UX.bytes (C : UX X D tys ad cc nL own rm) : (zc X).code = cc := C.2.1
theorem UX.maxL (C : UX X D tys ad cc nL own rm) : (zc X).maxLocals = nL := C.2.2.1
theorem UX.ow (C : UX X D tys ad cc nL own rm) : (zs X).vm.findClass own = some (zm X).cls := C.2.2.2.1
theorem UX.hts (C : UX X D tys ad cc nL own rm) : ∀ w ∈ WW, w.before (za X) (zs X) = true := C.2.2.2.2.1
theorem UX.hK (C : UX X D tys ad cc nL own rm) : va_K D classes tys (zs X) := C.2.2.2.2.2.1
theorem UX.room (C : UX X D tys ad cc nL own rm) : zR X = rm := C.2.2.2.2.2.2.1
theorem UX.hA (C : UX X D tys ad cc nL own rm) : ∀ q, (zs X).heap.size ≤ q → zA X q := C.2.2.2.2.2.2.2.1
theorem UX.ex (C : UX X D tys ad cc nL own rm) : EX ad (zA X) (zs X) (zs X).heap := C.2.2.2.2.2.2.2.2
theorem u_aload_n (C : UX X D tys ad cc nL own rm) (j : Nat) {n : Fin 4} {x : Nat} (hd : decode cc pc = .ok (.aload_n n, 1)) (h : lv[j]? = some ((n : Nat), .ref x)) (k : UJ X D nL cells slots ws (pc + 1) lv (.ref x :: st)) : UJ X D nL cells slots ws pc lv st := fun H locs ls hP hD hS hl => lv_aload_n C.exec C.bytes hd rfl (lv_at hl j h) (k H locs ls hP hD hS hl)
theorem u_astore_n (C : UX X D tys ad cc nL own rm) {n : Fin 4} {i : Nat} {x : Nat} (hd : decode cc pc = .ok (.astore_n n, 1)) (hi : (n : Nat) = i) (hn : i < nL) (h : (i, Value.ref x) :: lv.filter (fun q => !(q.1 == i) && !(q.1 + 1 == i && q.2.category == 2)) = lv') (k : UJ X D nL cells slots ws (pc + 1) lv' st) : UJ X D nL cells slots ws pc lv (.ref x :: st) := fun H locs ls hP hD hS hl => lv_astore_n C.exec C.bytes hd hi hl hn h (fun ls hl => k H locs ls hP hD hS hl)
theorem u_bipush (C : UX X D tys ad cc nL own rm) {n : Int} {v : Int32} (hd : decode cc pc = .ok (.bipush n, 2)) (hv : (Int8.ofInt n).toInt32 = v) (k : UJ X D nL cells slots ws (pc + 2) lv (.int v :: st)) : UJ X D nL cells slots ws pc lv st := fun H locs ls hP hD hS hl => lv_bipush C.exec C.bytes hd hv (k H locs ls hP hD hS hl)
theorem u_iconst (C : UX X D tys ad cc nL own rm) {n : Int} {v : Int32} (hd : decode cc pc = .ok (.iconst n, 1)) (hv : Int32.ofInt n = v) (k : UJ X D nL cells slots ws (pc + 1) lv (.int v :: st)) : UJ X D nL cells slots ws pc lv st := fun H locs ls hP hD hS hl => lv_iconst C.exec C.bytes hd hv (k H locs ls hP hD hS hl)
theorem u_dup (C : UX X D tys ad cc nL own rm) {v : Value} (hd : decode cc pc = .ok (.dup, 1)) (hv : v.category = 1) (k : UJ X D nL cells slots ws (pc + 1) lv (v :: v :: st)) : UJ X D nL cells slots ws pc lv (v :: st) := fun H locs ls hP hD hS hl => lv_dup C.exec C.bytes hd hv (k H locs ls hP hD hS hl)
theorem u_obj (C : UX X D tys ad cc nL own rm) {idx a : Nat} (w1 : Cond.methodLink own idx Lib.objectInit ∈ WW) (w2 : Cond.instanceMethod Lib.objectInit ∈ WW) (w3 : Cond.code Lib.objectInit ⟨#[0xb1]⟩ 1 none ∈ WW) (hd : decode cc pc = .ok (.invokespecial idx, 3)) (hfr : 1 ≤ rm.frames) (hlo : (st.map fun v => v.category).sum + 12 ≤ rm.locals) (k : UJ X D nL cells slots ws (pc + 3) lv st) : UJ X D nL cells slots ws pc lv (.ref a :: st) := fun H locs ls hP hD hS hl =>
  W.objInit (g := F0 (zm X) pc ls (.ref a :: st)) C.exec C.bytes C.ow (C.hts _ w1) (C.hts _ w2) (C.hts _ w3) rfl (by rw [C.maxL]; exact hl.1) rfl hd (by rw [C.room]; exact hfr) (by rw [C.room]; show 2 * 0 + _ + 12 ≤ _; omega) (k H locs ls hP hD hS hl)
theorem u_newa (C : UX X D tys ad cc nL own rm) {atype : ArrayType} {ty : FieldType} (hty : newarray.typeOf atype = ty) (harr : Cond.arrayClass ty ∈ WW) (t0 : Nat) {cA : ClassId} (ht : tys[t0]? = some (cA, ty)) (hra : ∀ (U : State) (c : ClassId), va_RA U c ty → U.vm.findClass ("[" ++ ty.toString) = some c) {n : Int32} {N : Nat} {a0 : vp_A} (ha : ∀ cA : ClassId, vp_cell cA a0 = arrV cA N (fun _ => defaultValue ty)) (hn : ¬ n < 0) (hN : n.toNatClampNeg = N) (hbytes : N * componentBytes ty ≤ 536870912) (hc : cells + 1 ≤ rm.cells) (hs : slots + N ≤ rm.slots) (hd : decode cc pc = .ok (.newarray atype, 2))
    (k : ∀ q : Nat, UJ X D nL (cells + 1) (slots + N) (ws ++ [(q, .inl (cA, a0))]) (pc + 2) lv (.ref q :: st)) : UJ X D nL cells slots ws pc lv (.int n :: st) := by
  intro H locs ls hP hD hS hl
  refine va_newa C.exec C.bytes (by rw [hty]; exact C.hts _ harr) hty C.hK hP hD hS C.hA ha hn hN hbytes (by rw [C.room]; exact hc) (by rw [C.room]; exact hs) hd (fun q cB H1 hK1 hP1 hD1 hS1 => ?_)
  have e1 := hra _ _ (C.hK.2 t0 _ ht).2
  have e2 := hra _ _ (hK1.2 tys.length (cB, ty) (by simp)).2
  have e : cB = cA := Option.some.inj (e2.symm.trans e1)
  subst e
  exact k q H1 locs ls hP1 hD1 hS1 hl
theorem u_putF (C : UX X D tys ad cc nL own rm) (R : UR X D mc ms Post) {ref Cn : String} {T : u_T} {N ci index a : Nat} (hin : ∀ w ∈ u_ws Cn T N, w ∈ WW) (ty0 : Nat → FieldType) (hty : ∀ k, k < N → parseFieldDescriptor (T k).2.2.1 = some (ty0 k)) (hnm : ∀ a, a < N → ∀ b, b < N → a ≠ b → (T a).2.1 ≠ (T b).2.1) (q0 : Nat) {fs : List Value} (he : ws[q0]? = some (a, .inr (ci, fs))) (hc : classes[ci]? = some (Cn, T, N)) (k0 : Nat) (hk : k0 < N) (hlink : Cond.fieldLink own index ref (T k0).2.1 (T k0).2.2.1 ∈ WW) (href : (T k0).1 = ref) (hfin : (T k0).2.2.2 = true) (hdecl : (T k0).1 = own) {ty : FieldType} {v : Value} (hp : parseFieldDescriptor (T k0).2.2.1 = some ty) (hn : narrow ty v = v) (hfit : fits ty v = true) (hl0 : k0 < fs.length) (hd : decode cc pc = .ok (.putfield index, 3)) (hset : ws.set q0 (a, .inr (ci, fs.set k0 v)) = ws') (k : UJ X D nL cells slots ws' (pc + 3) lv st) : UJ X D nL cells slots ws pc lv (v :: .ref a :: st) :=
  fun H locs ls hP hD hS hl => va_putF C.exec C.bytes C.hts hin ty0 hty hnm C.ow C.hK hP hD hS q0 he hc k0 hk (C.hts _ hlink) (fun x h => by rw [← href]; exact h) hfin R.2.2.1 hdecl hp hn hfit hl0 hd (fun H1 locs1 hP1 hD1 hS1 => k H1 locs1 ls (hset ▸ hP1) (hset ▸ hD1) hS1 hl)
theorem u_put (C : UX X D tys ad cc nL own rm) {ref Cn : String} {T : u_T} {N ci index a : Nat} (hin : ∀ w ∈ u_ws Cn T N, w ∈ WW) (ty0 : Nat → FieldType) (hty : ∀ k, k < N → parseFieldDescriptor (T k).2.2.1 = some (ty0 k)) (hnm : ∀ a, a < N → ∀ b, b < N → a ≠ b → (T a).2.1 ≠ (T b).2.1) (q0 : Nat) {fs : List Value} (he : ws[q0]? = some (a, .inr (ci, fs))) (hc : classes[ci]? = some (Cn, T, N)) (k0 : Nat) (hk : k0 < N) (hlink : Cond.fieldLink own index ref (T k0).2.1 (T k0).2.2.1 ∈ WW) (href : (T k0).1 = ref) (hfin : (T k0).2.2.2 = false) {ty : FieldType} {v : Value} (hp : parseFieldDescriptor (T k0).2.2.1 = some ty) (hn : narrow ty v = v) (hfit : fits ty v = true) (hl0 : k0 < fs.length) (hd : decode cc pc = .ok (.putfield index, 3)) (hset : ws.set q0 (a, .inr (ci, fs.set k0 v)) = ws') (k : UJ X D nL cells slots ws' (pc + 3) lv st) : UJ X D nL cells slots ws pc lv (v :: .ref a :: st) :=
  fun H locs ls hP hD hS hl => va_put C.exec C.bytes C.hts hin ty0 hty hnm C.ow C.hK hP hD hS q0 he hc k0 hk (C.hts _ hlink) (fun x h => by rw [← href]; exact h) hfin hp hn hfit hl0 hd (fun H1 locs1 hP1 hD1 hS1 => k H1 locs1 ls (hset ▸ hP1) (hset ▸ hD1) hS1 hl)
theorem u_new (C : UX X D tys ad cc nL own rm) {Cn : String} {T : u_T} {N ci index : Nat} (hin : ∀ w ∈ u_ws Cn T N, w ∈ WW) (ty : Nat → FieldType) (hty : ∀ k, k < N → parseFieldDescriptor (T k).2.2.1 = some (ty k)) (w1 : Cond.classLink own index Cn ∈ WW) (w2 : Cond.instantiable Cn N ∈ WW) (w3 : Cond.initialized Cn ∈ WW) (hc : classes[ci]? = some (Cn, T, N)) {fs : List Value} (hfs : ∀ j, j < N → defaultValue (ty j) = vp_V fs j) (hce : cells + 1 ≤ rm.cells) (hs : slots + N ≤ rm.slots) (hd : decode cc pc = .ok (.new index, 3))
    (k : ∀ q : Nat, UJ X D nL (cells + 1) (slots + N) (ws ++ [(q, .inr (ci, fs))]) (pc + 3) lv (.ref q :: st)) : UJ X D nL cells slots ws pc lv st :=
  fun H locs ls hP hD hS hl => va_new C.exec C.bytes C.hts hin ty hty C.ow (C.hts _ w1) (C.hts _ w2) (C.hts _ w3) C.hK hP hD hS C.hA hc hfs (by rw [C.room]; exact hce) (by rw [C.room]; exact hs) hd (fun q H1 hP1 hD1 hS1 => k q H1 locs ls hP1 hD1 hS1 hl)
theorem u_ret (C : UX X D tys ad cc nL own rm) (R : UR X D mc ms Post) (hd : decode cc pc = .ok (.return_, 1)) (h1 : cells ≤ mc) (h2 : slots ≤ ms) (hp : Post ws) : UJ X D nL cells slots ws pc lv [] := by
  intro H locs ls hP hD hS hl
  obtain ⟨hr, hlk, hi, hQ⟩ := R
  rw [hQ]
  refine W.widen (k := mc) (n := ms) h1 h2 ?_
  exact W.vret C.exec C.bytes hr (fun t ht hW => ⟨⟨ws, rfl, hp, by rw [ht]; exact hP, hD⟩, hS.F ht⟩) hS.2.2 hd hlk
theorem PU.blind {sz h0 : Nat} {e0 : va_E} {avs : List Value} : FrameBlind (va_Pc avs (PU D tys ad h0 e0 sz)) := by
  intro a U g mk h
  obtain ⟨h0, h1, h2, h3, h5⟩ := h
  exact ⟨h0, h1, h2, va_K.moved (u := U) (U := U.calling g mk a) (Vm.Alike.refl U.vm) h3, h5.blind⟩
/-- behind a constructor's call: the rest of the world, and what it has made -/
theorem u_behind (C : UX X D tys ad cc nL own rm) {H : Heap} {locs : List Loc} {ls : Array Slot} {st0 rest : List Value} {a : Array Value} {mc' ms' q : Nat} {e0 : va_E} {wr : va_W} {Post' : va_W → Prop} (hP : va_P D classes ws H) (hD : va_D (zA X) ws) (hS : va_S (zA X) (zs X).heap H locs) (hl : lv_has ls nL lv) (isC isR : List Nat) (hC : isC.map (fun i => ws[i]?) = ([(q, e0)] : va_W).map some) (hRr : isR.map (fun i => ws[i]?) = wr.map some) (hn : va_nd isR = true) (hdis : ∀ i ∈ isR, i ∉ isC)
    (hr : va_Run (zp X) (zl X) (ze X) (zR X) (zs X) (zm X) (za X) (zb X) (zh X) (zc X) H locs cells slots mc' ms' (F0 (zm X) pc ls st0) rest (Qu D (va_A [(q, e0)] H.size) Post' a) (va_A [(q, e0)] H.size))
    (k : ∀ w1, Post' w1 → UJ X D nL (cells + mc') (slots + ms') (wr ++ w1) (pc + 3) lv rest) : W (zp X) (zl X) (ze X) (zR X) (zs X) (zm X) (za X) (zb X) (zh X) (zc X) H locs cells slots (zQ X) (F0 (zm X) pc ls st0) := by
  have hF := va_free (wc := [(q, e0)]) hD hS C.hA isC hC
  intro T hT X0
  obtain ⟨v, st₀, t, T', L, h0, X', hL, e1, e2, ⟨⟨ws1, hv, hp, hP1, hD1⟩, hz, hk⟩, st⟩ := hr T hT X0
  cases hv
  rw [h0] at hz hk
  obtain ⟨hP2, hD2⟩ := va_join (H1 := t.heap) hP hD isC isR hC hRr hn hdis hk hF hP1 hD1
  obtain ⟨t2, a1, b1⟩ := k ws1 hp T'.heap (locs ++ L) ls (by rw [e1]; exact hP2) hD2
    ⟨Nat.le_trans hS.1 (by rw [e1]; exact hz), fun q h1 h2 => by rw [e1, hk q (Nat.lt_of_lt_of_le h1 hS.1) (fun z => h2 (hF q z))]; exact hS.2.1 q h1 h2, fun q hq => by
      rcases List.mem_append.mp hq with h | h
      · exact hS.2.2 q h
      · exact hF _ (hL q h)⟩ hl T' rfl X'
  exact ⟨t2, st t2 a1, b1⟩
theorem PU.call (C : UX X D tys ad cc nL own rm) {H : Heap} {locs : List Loc} {q : Nat} {e0 : va_E} (hP : va_P D classes ws H) (hD : va_D (zA X) ws) (hS : va_S (zA X) (zs X).heap H locs) (q0 : Nat) (he : ws[q0]? = some (q, e0)) {U : State} (hU : U.heap = H) (hW : (zs X).WarmedH U.vm) : PU D tys ad q e0 H.size U := by
  refine ⟨by rw [hU], ?_, va_K.moved hW.alike C.hK, C.ex.call (H := H) hS.2.1 hW hU ?_⟩
  · rw [hU]
    intro k x hk
    match k, hk with
    | 0, hk => cases hk; exact hP q0 _ he
    | k + 1, hk => simp at hk
  · rintro z (⟨k, e, h⟩ | h)
    · match k, h with
      | 0, h => cases h; exact hD.2 q0 _ he
      | k + 1, h => simp at h
    · exact C.hA z (Nat.le_trans hS.1 h)
theorem u_callN (C : UX X D tys ad cc nL own rm) {y : MethodName} {bytes : ByteArray} {maxL : Nat} {rm' : Room} {mc' ms' q : Nat} {e0 : va_E} {wr : va_W} {rest : List Value} {Post' : va_W → Prop} {idx : Nat} {host : String} (hM : MU (zl X) D tys ad y bytes maxL rm' mc' ms' q e0 Post') (w1 : Cond.methodLinkNest own idx y host ∈ NWL) (w2 : Cond.instanceMethod y ∈ WW) (w3 : Cond.initialized y.cls ∈ WW) (w4 : Cond.code y bytes maxL none ∈ WW) (hy1 : y.name = "<init>") (hd2 : y.cls ≠ "java/lang/invoke/MethodHandle" ∧ y.cls ≠ "java/lang/invoke/VarHandle" ∧ (parseMethodDescriptor y.desc).map (fun d => d.parameters.length) = some 0) (hrm : rm'.cells = mc' ∧ rm'.slots = ms' ∧ rm'.frames + 1 ≤ rm.frames ∧ 8 + (maxL + 11) + rm'.locals ≤ rm.locals)
    (hroom : (rest.map fun v => v.category).sum ≤ 8) (hce : cells + mc' ≤ rm.cells ∧ slots + ms' ≤ rm.slots) (q0 : Nat) (he : ws[q0]? = some (q, e0)) (isR : List Nat) (hRr : isR.map (fun i => ws[i]?) = wr.map some) (hn : va_nd isR = true) (hdis : ∀ i ∈ isR, i ∉ [q0]) (hd : decode cc pc = .ok (.invokespecial idx, 3)) (k : ∀ w1, Post' w1 → UJ X D nL (cells + mc') (slots + ms') (wr ++ w1) (pc + 3) lv rest) : UJ X D nL cells slots ws pc lv (.ref q :: rest) := by
  intro H locs ls hP hD hS hl
  have hR := C.room
  refine u_behind (rest := rest) C hP hD hS hl [q0] isR (by simp [he]) hRr hn hdis (va_runIN (b := q) (As := []) (rest := rest) (bytes := bytes) (maxL := maxL) (rm := rm') (n := 0) (host := host) ⟨C.exec, C.bytes, C.maxL, C.ow, C.hts⟩ (hM H.size) ⟨va_cnB 0 C.hts (ww_good (fun _ h => h) (fun w h => ?_)) rfl hrm.1 hrm.2.1 (C.ex.1 _ w1) (C.hts _ w3) hd2 (by rw [hR]; exact hrm.2.2), hy1, C.hts _ w2⟩ ⟨PU.blind, fun U hU hW => ⟨rfl, PU.call C hP hD hS q0 he hU hW⟩⟩ rfl rfl hl.1 rfl (lv_room hroom) hd (by rw [hR]; exact hce)) k
  rcases List.mem_cons.mp h with rfl | h
  · exact w4
  · exact h
theorem u_callI (C : UX X D tys ad cc nL own rm) {y : MethodName} {bytes : ByteArray} {maxL : Nat} {rm' : Room} {mc' ms' q : Nat} {e0 : va_E} {wr : va_W} {rest : List Value} {Post' : va_W → Prop} {idx : Nat} (hM : MU (zl X) D tys ad y bytes maxL rm' mc' ms' q e0 Post') (w1 : Cond.methodLink own idx y ∈ WW) (w2 : Cond.instanceMethod y ∈ WW) (w3 : Cond.initialized y.cls ∈ WW) (w4 : Cond.code y bytes maxL none ∈ WW) (hy1 : y.name = "<init>") (hd2 : y.cls ≠ "java/lang/invoke/MethodHandle" ∧ y.cls ≠ "java/lang/invoke/VarHandle" ∧ (parseMethodDescriptor y.desc).map (fun d => d.parameters.length) = some 0) (hrm : rm'.cells = mc' ∧ rm'.slots = ms' ∧ rm'.frames + 1 ≤ rm.frames ∧ 8 + (maxL + 11) + rm'.locals ≤ rm.locals)
    (hroom : (rest.map fun v => v.category).sum ≤ 8) (hce : cells + mc' ≤ rm.cells ∧ slots + ms' ≤ rm.slots) (q0 : Nat) (he : ws[q0]? = some (q, e0)) (isR : List Nat) (hRr : isR.map (fun i => ws[i]?) = wr.map some) (hn : va_nd isR = true) (hdis : ∀ i ∈ isR, i ∉ [q0]) (hd : decode cc pc = .ok (.invokespecial idx, 3)) (k : ∀ w1, Post' w1 → UJ X D nL (cells + mc') (slots + ms') (wr ++ w1) (pc + 3) lv rest) : UJ X D nL cells slots ws pc lv (.ref q :: rest) := by
  intro H locs ls hP hD hS hl
  have hR := C.room
  refine u_behind (rest := rest) C hP hD hS hl [q0] isR (by simp [he]) hRr hn hdis (va_runI (b := q) (As := []) (rest := rest) (bytes := bytes) (maxL := maxL) (rm := rm') (n := 0) ⟨C.exec, C.bytes, C.maxL, C.ow, C.hts⟩ (hM H.size) (cwI 0 C.hts (ww_good (fun _ h => h) (fun w h => ?_)) rfl hrm.1 hrm.2.1 (C.hts _ w3) (C.hts _ w1) (C.hts _ w2) hy1 hd2 (by rw [hR]; exact hrm.2.2)) ⟨PU.blind, fun U hU hW => ⟨rfl, PU.call C hP hD hS q0 he hU hW⟩⟩ rfl rfl hl.1 rfl (lv_room hroom) hd (by rw [hR]; exact hce)) k
  rcases List.mem_cons.mp h with rfl | h
  · exact w4
  · exact h
end
