/-! THE LAYER: a method's state is (memory, pc, locals, stack); a memory of numbers is what the cells hold -/
abbrev Mem : Type := Nat → Nat → Int32
def up (μ : Mem) (c k : Nat) (x : Int32) : Mem := fun a => if a = c then upd (μ c) k x else μ a
def upA (μ : Mem) (c : Nat) (f : Nat → Int32) : Mem := fun a => if a = c then f else μ a
/-! words of plain functions -/
def nm {α β : Type} (e : α) (f : α → β) : β := f e
noncomputable def ck {α : Type} (c : Prop) (b : Option α) : Option α := @ite _ c (Classical.propDecidable c) b none
def bd {α β : Type} (o : Option α) (f : α → Option β) : Option β := o.bind f
def bd2 {α β γ : Type} (o : Option (α × β)) (f : α → β → Option γ) : Option γ := o.bind (fun z => f z.1 z.2)
def lp {σ ρ : Type} (body : (σ → Option ρ) → σ → Option ρ) : Nat → σ → Option ρ
  | 0 => fun _ => none
  | n + 1 => body (lp body n)
def fu : Nat := 100000
theorem nm_e2 {α β : Type} {e : α} {f : α → β} {r : β} (h : nm e f = r) (x : α) (hx : x = e) : f x = r := by subst hx; exact h
theorem ck_e {α : Type} {c : Prop} {b : Option α} {r : α} (h : ck c b = some r) : c ∧ b = some r := by
  unfold ck at h
  by_cases hc : c
  · rw [if_pos hc] at h; exact ⟨hc, h⟩
  · rw [if_neg hc] at h; cases h
theorem ck_t {α : Type} {c : Prop} {b : Option α} (hc : c) : ck c b = b := by
  unfold ck; exact if_pos hc
theorem bd_e {α β : Type} {o : Option α} {f : α → Option β} {r : β} (h : bd o f = some r) : ∃ a, o = some a ∧ f a = some r := by
  cases o with
  | none => cases h
  | some a => exact ⟨a, rfl, h⟩
theorem bd2_e {α β γ : Type} {o : Option (α × β)} {f : α → β → Option γ} {r : γ} (h : bd2 o f = some r) : ∃ a b, o = some (a, b) ∧ f a b = some r := by
  cases o with
  | none => cases h
  | some a => exact ⟨a.1, a.2, rfl, h⟩
theorem bd_s {α β : Type} {o : Option α} {f : α → Option β} {a : α} (h : o = some a) : bd o f = f a := by rw [h]; rfl
theorem bd2_s {α β γ : Type} {o : Option (α × β)} {f : α → β → Option γ} {a : α} {b : β} (h : o = some (a, b)) : bd2 o f = f a b := by rw [h]; rfl
theorem it_t {α : Type} {c : Prop} [Decidable c] {a b r : α} (h : (if c then a else b) = r) (hc : c) : a = r := by rw [if_pos hc] at h; exact h
theorem it_f {α : Type} {c : Prop} [Decidable c] {a b r : α} (h : (if c then a else b) = r) (hc : ¬ c) : b = r := by rw [if_neg hc] at h; exact h
theorem lp_z {σ ρ : Type} {body : (σ → Option ρ) → σ → Option ρ} {r : ρ} {P : σ → Prop} (hb : ∀ ih : σ → Option ρ, (∀ x, ih x = some r → P x) → ∀ x, body ih x = some r → P x) : ∀ n x, lp body n x = some r → P x := by
  intro n
  induction n with
  | zero => intro x h; cases h
  | succ n ih => intro x h; exact hb (lp body n) ih x h
theorem rt1 {α : Type} {a b : α} (h : some a = some b) : a = b := Option.some.inj h
theorem rt2 {α β : Type} {a c : α} {b d : β} (h : some (a, b) = some (c, d)) : a = c ∧ b = d := Prod.mk.inj (Option.some.inj h)
/-! the tables' words that any method may use -/
def WW : List Cond := lw_tbl.filter goodWord
theorem ww_in {w : Cond} (i : Nat) (h : lw_tbl[i]? = some w) (g : goodWord w = true) : w ∈ WW := List.mem_filter.mpr ⟨List.mem_of_getElem? h, g⟩
theorem ww_good {big ws : List Cond} (hb : ∀ w ∈ WW, w ∈ big) (h : ∀ w ∈ ws, w ∈ WW) : GoodIn big ws := fun w hw => ⟨hb w (h w hw), good_of_word (List.mem_filter.mp (h w hw)).2⟩
theorem ww_tbl : ∀ w ∈ WW, w ∈ lw_tbl := fun _ h => (List.mem_filter.mp h).1
def NWL : List Cond := [.fieldLinkNest RX3 192 "RookRing$Page" "letters" "[C" "RookRing", .fieldLinkNest RX3 173 "RookRing$Page" "length" "I" "RookRing", .fieldLinkNest RX0 34 "RookRing$Standing" "kinds" "[I" "RookRing", .fieldLinkNest RX3 74 "RookRing$Standing" "kinds" "[I" "RookRing", .fieldLinkNest RX0 35 "RookRing$Standing" "twigs" "[I" "RookRing", .fieldLinkNest RX3 77 "RookRing$Standing" "twigs" "[I" "RookRing", .fieldLinkNest RX3 84 "RookRing$Standing" "pecks" "[I" "RookRing", .fieldLinkNest RX0 31 "RookRing$Standing" "sitters" "[I" "RookRing", .fieldLinkNest RX3 95 "RookRing$Standing" "sitters" "[I" "RookRing", .fieldLinkNest RX0 18 "RookRing$Standing" "rooks" "I" "RookRing", .fieldLinkNest RX3 67 "RookRing$Standing" "rooks" "I" "RookRing", .fieldLinkNest RX0 27 "RookRing$Standing" "wind" "I" "RookRing", .fieldLinkNest RX3 104 "RookRing$Standing" "wind" "I" "RookRing", .fieldLinkNest RX3 117 "RookRing$Standing" "laws" "I" "RookRing", .fieldLinkNest RX3 120 "RookRing$Standing" "lastLaw" "I" "RookRing", .fieldLinkNest RX3 145 "RookRing$Standing" "seen" "I" "RookRing", .methodLinkNest RX3 9 yX1_init "RookRing", .methodLinkNest RX3 18 yX2_init "RookRing", .methodLinkNest RX3 28 yX0_init "RookRing"]
theorem nwl_kind : ∀ w ∈ NWL, w.onTables = true ∧ ((∃ a i b n d h, w = Cond.fieldLinkNest a i b n d h) ∨ ∃ a i x h, w = Cond.methodLinkNest a i x h) := by
  intro w hw
  simp only [NWL, List.mem_cons, List.not_mem_nil, or_false] at hw
  rcases hw with rfl | rfl | rfl | rfl | rfl | rfl | rfl | rfl | rfl | rfl | rfl | rfl | rfl | rfl | rfl | rfl | rfl | rfl | rfl <;> first | exact ⟨rfl, Or.inl ⟨_, _, _, _, _, _, rfl⟩⟩ | exact ⟨rfl, Or.inr ⟨_, _, _, _, rfl⟩⟩
theorem nwl_in : ∀ w ∈ NWL, w ∈ lw_tbl := by decide +kernel
/-- what else a start has: links between nest mates, the one text constant, String's static -/
def EX (ad : Nat × Nat) (A : Nat → Prop) (U : State) (H : Heap) : Prop := (∀ w ∈ NWL, va_Nw w U) ∧ vk_R RX1 27 "rtome" ad.1 U ∧ vk_S 1 [5] [[114, 116, 111, 109, 101]] (fun _ => ad.1) (fun _ => ad.2) A U H ∧ va_Z "java/lang/String" "COMPACT_STRINGS" "Z" (.int 1) A U H
theorem EX.blind {ad : Nat × Nat} {A : Nat → Prop} {U : State} {g : JFrame} {mk : MethodId} {a : Array Value} (h : EX ad A U U.heap) : EX ad A (U.calling g mk a) (U.calling g mk a).heap :=
  ⟨fun w hw => va_Nw.same (nwl_kind w hw).1 (u := U) (U := U.calling g mk a) rfl (h.1 w hw), vk_R.same (u := U) (U := U.calling g mk a) rfl h.2.1, vk_S.moved (u := U) (U := U.calling g mk a) (Vm.Alike.refl U.vm) h.2.2.1, va_Z.moved (u := U) (U := U.calling g mk a) (Vm.Alike.refl U.vm) h.2.2.2⟩
theorem EX.call {ad : Nat × Nat} {A A' : Nat → Prop} {s U : State} {H : Heap} (h : EX ad A s s.heap) (hS : ∀ q : Nat, q < s.heap.size → ¬ A q → H[q]? = s.heap[q]?) (hW : s.WarmedH U.vm) (hU : U.heap = H) (hAA : ∀ q, A' q → A q) : EX ad A' U U.heap := by
  subst hU
  refine ⟨fun w hw => ?_, vk_R.warm hW h.2.1, ((h.2.2.1.kept hS).narrow hAA).moved hW.alike, ((h.2.2.2.kept hS).narrow hAA).moved hW.alike⟩
  have hz := h.1 w hw
  rcases (nwl_kind w hw).2 with ⟨a, i, b, n, d, hh, rfl⟩ | ⟨a, i, x, hh, rfl⟩
  · exact va_Nw.warmF hW hz
  · exact va_Nw.warmM hW hz
/-! contexts -/
abbrev ZX : Type := (Program × Launch × Env × Room × State × MethodId) × (Array Value × List Frame × Method × Code) × (Nat × Nat × (State → Prop) × (Nat → Prop))
abbrev zp (X : ZX) : Program := X.1.1
abbrev zl (X : ZX) : Launch := X.1.2.1
abbrev ze (X : ZX) : Env := X.1.2.2.1
abbrev zR (X : ZX) : Room := X.1.2.2.2.1
abbrev zs (X : ZX) : State := X.1.2.2.2.2.1
abbrev zm (X : ZX) : MethodId := X.1.2.2.2.2.2
abbrev za (X : ZX) : Array Value := X.2.1.1
abbrev zb (X : ZX) : List Frame := X.2.1.2.1
abbrev zh (X : ZX) : Method := X.2.1.2.2.1
abbrev zc (X : ZX) : Code := X.2.1.2.2.2
abbrev zk (X : ZX) : Nat := X.2.2.1
abbrev zn (X : ZX) : Nat := X.2.2.2.1
abbrev zQ (X : ZX) : State → Prop := X.2.2.2.2.1
abbrev zA (X : ZX) : Nat → Prop := X.2.2.2.2.2
abbrev ZY (S : Type) : Type := (S → va_W) × va_G × List (ClassId × FieldType) × (Nat × Nat)
abbrev yw {S : Type} (Y : ZY S) : S → va_W := Y.1
abbrev yD {S : Type} (Y : ZY S) : va_G := Y.2.1
abbrev yt {S : Type} (Y : ZY S) : List (ClassId × FieldType) := Y.2.2.1
abbrev ya {S : Type} (Y : ZY S) : Nat × Nat := Y.2.2.2
def Z {S : Type} (X : ZX) (Y : ZY S) (nL : Nat) (μ : S) (pc : Nat) (lv : List (Nat × Value)) (st : List Value) : Prop :=
  ∀ (H : Heap) (locs : List Loc) (ls : Array Slot), va_P (yD Y) classes (yw Y μ) H → va_S (zA X) (zs X).heap H locs → lv_has ls nL lv →
    W (zp X) (zl X) (ze X) (zR X) (zs X) (zm X) (za X) (zb X) (zh X) (zc X) H locs (zk X) (zn X) (zQ X) (F0 (zm X) pc ls st)
/-- the cells' addresses are apart, and the memory doesn't move them -/
def YOK {S : Type} (Y : ZY S) : Prop := (∀ μ, va_D (fun _ => True) (yw Y μ)) ∧ ∀ (μ μ1 : S) (sz : Nat) (q : Nat), va_A (yw Y μ1) sz q → va_A (yw Y μ) sz q
def CX {S : Type} (X : ZX) (Y : ZY S) (cc : ByteArray) (nL : Nat) (own : String) (rm : Room) : Prop :=
  (zp X).tables.exec = Jvm.exec ∧ (zc X).code = cc ∧ (zc X).maxLocals = nL ∧ (zs X).vm.findClass own = some (zm X).cls ∧ (∀ w ∈ WW, w.before (za X) (zs X) = true) ∧ va_K (yD Y) classes (yt Y) (zs X) ∧ (∀ μ, va_D (zA X) (yw Y μ)) ∧ zR X = rm ∧ (∀ q, (zs X).heap.size ≤ q → zA X q) ∧ EX (ya Y) (zA X) (zs X) (zs X).heap ∧ (zk X ≤ rm.cells ∧ zn X ≤ rm.slots) ∧ YOK Y
/-- a method's end: the memory, the answer -/
def Qz {S : Type} (Y : ZY S) (A : Nat → Prop) (μ' : S) (rv : Option Value) : Array Value → State → Outcome → State → Prop := fun _ st oc t => (oc = .returned rv ∧ va_P (yD Y) classes (yw Y μ') t.heap) ∧ va_F A st t
def ZR {S : Type} (X : ZX) (Y : ZY S) (ret : Option FieldType) (μ' : S) (rv : Option Value) : Prop :=
  (zh X).sig.returnType = ret ∧ (zh X).locks = false ∧ zk X = 0 ∧ zn X = 0 ∧ zQ X = MQ (zb X) (Qz Y (zA X) μ' rv) (za X) (zs X) 0 0 (zA X)
def PZ {S : Type} (Y : ZY S) (sz : Nat) (μ : S) (U : State) : Prop := U.heap.size = sz ∧ va_P (yD Y) classes (yw Y μ) U.heap ∧ va_K (yD Y) classes (yt Y) U ∧ YOK Y ∧ EX (ya Y) (va_A (yw Y μ) sz) U U.heap
def MZ {S : Type} (l : Launch) (Y : ZY S) (y : MethodName) (cc : ByteArray) (maxL : Nat) (ret : Option FieldType) (rm : Room) (avs : List Value) (μ μ' : S) (rv : Option Value) : Prop :=
  ∀ sz, Met l y (.code y cc maxL ret :: WW) rm (va_Pc avs (PZ Y sz μ)) (Qz Y (va_A (yw Y μ) sz) μ' rv) 0 0 (va_A (yw Y μ) sz)
theorem z_met {S : Type} {l : Launch} {Y : ZY S} {y : MethodName} {cc : ByteArray} {maxL : Nat} {ret : Option FieldType} {rm : Room} {avs : List Value} {μ μ' : S} {rv : Option Value} (own : String) (ho : y.cls = own) (hy : plainName y.cls = true) (hlen : (lg_sl avs).length ≤ maxL)
    (body : ∀ X : ZX, zl X = l → CX X Y cc maxL own rm → ZR X Y ret μ' rv → Z X Y maxL μ 0 (lv_args 0 avs) []) : MZ l Y y cc maxL ret rm avs μ μ' rv := by
  intro sz
  refine Met.ofW (cc := cc) (maxL := maxL) (ret := ret) hy rfl ?_
  intro p e s m args below meth c s₁ B hml hv
  obtain ⟨rfl, hsz, hP, hK, hO, hE⟩ := hv
  subst hsz
  subst ho
  have hts := atoms_spec (ws := Cond.code y cc maxL ret :: WW) B.pre
  have h := body ((p, l, e, rm, s, m), (avs.toArray, below, meth, c), (0, 0, MQ below (Qz Y (va_A (yw Y μ) s.heap.size) μ' rv) avs.toArray s 0 0 (va_A (yw Y μ) s.heap.size), va_A (yw Y μ) s.heap.size)) rfl
    ⟨B.exec, B.bytes, hml, findClass_of_methodNamed B.named, fun w hw => hts w (List.mem_cons_of_mem _ hw), hK, fun μ1 => ⟨(hO.1 μ1).1, fun k q hk => hO.2 μ μ1 s.heap.size q.1 (va_A.in hk)⟩, rfl, fun q hq => Or.inr hq, hE, ⟨Nat.zero_le _, Nat.zero_le _⟩, hO⟩
    ⟨B.returns, B.notSynchronized, rfl, rfl, rfl⟩ s.heap [] _ hP va_S.rf (lv_entry avs hlen)
  rw [lg_entry_eq]
  exact h
section
variable {S : Type} {X : ZX} {Y : ZY S} {cc : ByteArray} {nL : Nat} {own : String} {rm : Room} {μ μ' : S} {pc : Nat} {lv lv' : List (Nat × Value)} {st : List Value}
theorem CX.exec (C : CX X Y cc nL own rm) : (zp X).tables.exec = Jvm.exec := C.1
theorem CX.bytes (C : CX X Y cc nL own rm) : (zc X).code = cc := C.2.1
theorem CX.maxL (C : CX X Y cc nL own rm) : (zc X).maxLocals = nL := C.2.2.1
theorem CX.ow (C : CX X Y cc nL own rm) : (zs X).vm.findClass own = some (zm X).cls := C.2.2.2.1
theorem CX.hts (C : CX X Y cc nL own rm) : ∀ w ∈ WW, w.before (za X) (zs X) = true := C.2.2.2.2.1
theorem CX.hK (C : CX X Y cc nL own rm) : va_K (yD Y) classes (yt Y) (zs X) := C.2.2.2.2.2.1
theorem CX.hD (C : CX X Y cc nL own rm) (μ : S) : va_D (zA X) (yw Y μ) := C.2.2.2.2.2.2.1 μ
theorem CX.room (C : CX X Y cc nL own rm) : zR X = rm := C.2.2.2.2.2.2.2.1
theorem CX.hA (C : CX X Y cc nL own rm) : ∀ q, (zs X).heap.size ≤ q → zA X q := C.2.2.2.2.2.2.2.2.1
theorem CX.ex (C : CX X Y cc nL own rm) : EX (ya Y) (zA X) (zs X) (zs X).heap := C.2.2.2.2.2.2.2.2.2.1
theorem CX.cells (C : CX X Y cc nL own rm) : zk X + 0 ≤ (zR X).cells ∧ zn X + 0 ≤ (zR X).slots := by rw [C.room]; exact C.2.2.2.2.2.2.2.2.2.2.1
theorem CX.yok (C : CX X Y cc nL own rm) : YOK Y := C.2.2.2.2.2.2.2.2.2.2.2
theorem CX.nw (C : CX X Y cc nL own rm) {w : Cond} (h : w ∈ NWL) (ht : w.onTables = true) : w.before (za X) (zs X) = true := va_Nw.use ht (C.ex.1 w h)
theorem z_lv (C : CX X Y cc nL own rm) (ks : List Nat) (h : lv_pick lv ks = lv') (k : Z X Y nL μ pc lv' st) : Z X Y nL μ pc lv st := fun H locs ls hP hS hl => k H locs ls hP hS (lv_sub hl ks h)
theorem z_topi {x : Int32} (k : ∀ y : Int32, y = x → Z X Y nL μ pc lv (.int y :: st)) : Z X Y nL μ pc lv (.int x :: st) := k x rfl
theorem z_topl {x : Int64} (k : ∀ y : Int64, y = x → Z X Y nL μ pc lv (.long y :: st)) : Z X Y nL μ pc lv (.long x :: st) := k x rfl
theorem z_iconst (C : CX X Y cc nL own rm) {n : Int} {v : Int32} (hd : decode cc pc = .ok (.iconst n, 1)) (hv : Int32.ofInt n = v) (k : Z X Y nL μ (pc + 1) lv (.int v :: st)) : Z X Y nL μ pc lv st := fun H locs ls hP hS hl => lv_iconst C.exec C.bytes hd hv (k H locs ls hP hS hl)
theorem z_bipush (C : CX X Y cc nL own rm) {n : Int} {v : Int32} (hd : decode cc pc = .ok (.bipush n, 2)) (hv : (Int8.ofInt n).toInt32 = v) (k : Z X Y nL μ (pc + 2) lv (.int v :: st)) : Z X Y nL μ pc lv st := fun H locs ls hP hS hl => lv_bipush C.exec C.bytes hd hv (k H locs ls hP hS hl)
theorem z_sipush (C : CX X Y cc nL own rm) {n : Int} {v : Int32} (hd : decode cc pc = .ok (.sipush n, 3)) (hv : (Int16.ofInt n).toInt32 = v) (k : Z X Y nL μ (pc + 3) lv (.int v :: st)) : Z X Y nL μ pc lv st := fun H locs ls hP hS hl => lv_sipush C.exec C.bytes hd hv (k H locs ls hP hS hl)
theorem z_lconst (C : CX X Y cc nL own rm) {n : Fin 2} {v : Int64} (hd : decode cc pc = .ok (.lconst n, 1)) (hv : Int64.ofNat (n : Nat) = v) (k : Z X Y nL μ (pc + 1) lv (.long v :: st)) : Z X Y nL μ pc lv st := fun H locs ls hP hS hl => lv_lconst C.exec C.bytes hd hv (k H locs ls hP hS hl)
theorem z_ldc (C : CX X Y cc nL own rm) {i : Nat} {v : Int32} (hd : decode cc pc = .ok (.ldc i, 2)) (hw : Cond.constant own i v ∈ WW) (k : Z X Y nL μ (pc + 2) lv (.int v :: st)) : Z X Y nL μ pc lv st := fun H locs ls hP hS hl => lv_ldc C.exec C.bytes C.ow (C.hts _ hw) hd (k H locs ls hP hS hl)
theorem z_ldcw (C : CX X Y cc nL own rm) {i : Nat} {v : Int32} (hd : decode cc pc = .ok (.ldc_w i, 3)) (hw : Cond.constant own i v ∈ WW) (k : Z X Y nL μ (pc + 3) lv (.int v :: st)) : Z X Y nL μ pc lv st := fun H locs ls hP hS hl => lv_ldcw C.exec C.bytes C.ow (C.hts _ hw) hd (k H locs ls hP hS hl)
theorem z_ldc2 (C : CX X Y cc nL own rm) {i : Nat} {v : Int64} (hd : decode cc pc = .ok (.ldc2_w i, 3)) (hw : Cond.constantLong own i v ∈ WW) (k : Z X Y nL μ (pc + 3) lv (.long v :: st)) : Z X Y nL μ pc lv st := fun H locs ls hP hS hl => lv_ldc2 C.exec C.bytes C.ow (C.hts _ hw) hd (k H locs ls hP hS hl)
theorem z_iload_n (C : CX X Y cc nL own rm) (j : Nat) {n : Fin 4} {x : Int32} (hd : decode cc pc = .ok (.iload_n n, 1)) (h : lv[j]? = some ((n : Nat), .int x)) (k : Z X Y nL μ (pc + 1) lv (.int x :: st)) : Z X Y nL μ pc lv st := fun H locs ls hP hS hl => lv_iload_n C.exec C.bytes hd rfl (lv_at hl j h) (k H locs ls hP hS hl)
theorem z_iload (C : CX X Y cc nL own rm) (j : Nat) {i : Nat} {x : Int32} (hd : decode cc pc = .ok (.iload i, 2)) (h : lv[j]? = some (i, .int x)) (k : Z X Y nL μ (pc + 2) lv (.int x :: st)) : Z X Y nL μ pc lv st := fun H locs ls hP hS hl => lv_iload C.exec C.bytes hd (lv_at hl j h) (k H locs ls hP hS hl)
theorem z_lload_n (C : CX X Y cc nL own rm) (j : Nat) {n : Fin 4} {x : Int64} (hd : decode cc pc = .ok (.lload_n n, 1)) (h : lv[j]? = some ((n : Nat), .long x)) (k : Z X Y nL μ (pc + 1) lv (.long x :: st)) : Z X Y nL μ pc lv st := fun H locs ls hP hS hl => lv_lload_n C.exec C.bytes hd rfl (lv_at hl j h) (k H locs ls hP hS hl)
theorem z_lload (C : CX X Y cc nL own rm) (j : Nat) {i : Nat} {x : Int64} (hd : decode cc pc = .ok (.lload i, 2)) (h : lv[j]? = some (i, .long x)) (k : Z X Y nL μ (pc + 2) lv (.long x :: st)) : Z X Y nL μ pc lv st := fun H locs ls hP hS hl => lv_lload C.exec C.bytes hd (lv_at hl j h) (k H locs ls hP hS hl)
theorem z_aload_n (C : CX X Y cc nL own rm) (j : Nat) {n : Fin 4} {x : Nat} (hd : decode cc pc = .ok (.aload_n n, 1)) (h : lv[j]? = some ((n : Nat), .ref x)) (k : Z X Y nL μ (pc + 1) lv (.ref x :: st)) : Z X Y nL μ pc lv st := fun H locs ls hP hS hl => lv_aload_n C.exec C.bytes hd rfl (lv_at hl j h) (k H locs ls hP hS hl)
theorem z_aload (C : CX X Y cc nL own rm) (j : Nat) {i : Nat} {x : Nat} (hd : decode cc pc = .ok (.aload i, 2)) (h : lv[j]? = some (i, .ref x)) (k : Z X Y nL μ (pc + 2) lv (.ref x :: st)) : Z X Y nL μ pc lv st := fun H locs ls hP hS hl => lv_aload C.exec C.bytes hd (lv_at hl j h) (k H locs ls hP hS hl)
theorem z_istore_n (C : CX X Y cc nL own rm) {n : Fin 4} {i : Nat} {x : Int32} (hd : decode cc pc = .ok (.istore_n n, 1)) (hi : (n : Nat) = i) (hn : i < nL) (h : (i, Value.int x) :: lv.filter (fun q => !(q.1 == i) && !(q.1 + 1 == i && q.2.category == 2)) = lv') (k : Z X Y nL μ (pc + 1) lv' st) : Z X Y nL μ pc lv (.int x :: st) := fun H locs ls hP hS hl => lv_istore_n C.exec C.bytes hd hi hl hn h (fun ls hl => k H locs ls hP hS hl)
theorem z_istore (C : CX X Y cc nL own rm) {i : Nat} {x : Int32} (hd : decode cc pc = .ok (.istore i, 2)) (hn : i < nL) (h : (i, Value.int x) :: lv.filter (fun q => !(q.1 == i) && !(q.1 + 1 == i && q.2.category == 2)) = lv') (k : Z X Y nL μ (pc + 2) lv' st) : Z X Y nL μ pc lv (.int x :: st) := fun H locs ls hP hS hl => lv_istore C.exec C.bytes hd hl hn h (fun ls hl => k H locs ls hP hS hl)
theorem z_lstore_n (C : CX X Y cc nL own rm) {n : Fin 4} {i : Nat} {x : Int64} (hd : decode cc pc = .ok (.lstore_n n, 1)) (hi : (n : Nat) = i) (hn : i + 1 < nL) (h : (i, Value.long x) :: lv.filter (fun q => !(q.1 == i) && (!(q.1 == i + 1) && !(q.1 + 1 == i && q.2.category == 2))) = lv') (k : Z X Y nL μ (pc + 1) lv' st) : Z X Y nL μ pc lv (.long x :: st) := fun H locs ls hP hS hl => lv_lstore_n C.exec C.bytes hd hi hl hn h (fun ls hl => k H locs ls hP hS hl)
theorem z_lstore (C : CX X Y cc nL own rm) {i : Nat} {x : Int64} (hd : decode cc pc = .ok (.lstore i, 2)) (hn : i + 1 < nL) (h : (i, Value.long x) :: lv.filter (fun q => !(q.1 == i) && (!(q.1 == i + 1) && !(q.1 + 1 == i && q.2.category == 2))) = lv') (k : Z X Y nL μ (pc + 2) lv' st) : Z X Y nL μ pc lv (.long x :: st) := fun H locs ls hP hS hl => lv_lstore C.exec C.bytes hd hl hn h (fun ls hl => k H locs ls hP hS hl)
theorem z_astore_n (C : CX X Y cc nL own rm) {n : Fin 4} {i : Nat} {x : Nat} (hd : decode cc pc = .ok (.astore_n n, 1)) (hi : (n : Nat) = i) (hn : i < nL) (h : (i, Value.ref x) :: lv.filter (fun q => !(q.1 == i) && !(q.1 + 1 == i && q.2.category == 2)) = lv') (k : Z X Y nL μ (pc + 1) lv' st) : Z X Y nL μ pc lv (.ref x :: st) := fun H locs ls hP hS hl => lv_astore_n C.exec C.bytes hd hi hl hn h (fun ls hl => k H locs ls hP hS hl)
theorem z_astore (C : CX X Y cc nL own rm) {i : Nat} {x : Nat} (hd : decode cc pc = .ok (.astore i, 2)) (hn : i < nL) (h : (i, Value.ref x) :: lv.filter (fun q => !(q.1 == i) && !(q.1 + 1 == i && q.2.category == 2)) = lv') (k : Z X Y nL μ (pc + 2) lv' st) : Z X Y nL μ pc lv (.ref x :: st) := fun H locs ls hP hS hl => lv_astore C.exec C.bytes hd hl hn h (fun ls hl => k H locs ls hP hS hl)
theorem z_iinc (C : CX X Y cc nL own rm) (j : Nat) {i : Nat} {n : Int} {x v : Int32} (hd : decode cc pc = .ok (.iinc i n, 3)) (hj : lv[j]? = some (i, .int x)) (hv : x + Int32.ofInt n = v) (hn : i < nL) (h : (i, Value.int v) :: lv.filter (fun q => !(q.1 == i) && !(q.1 + 1 == i && q.2.category == 2)) = lv') (k : Z X Y nL μ (pc + 3) lv' st) : Z X Y nL μ pc lv st := fun H locs ls hP hS hl => lv_iinc C.exec C.bytes hd hl hj hv hn h (fun ls hl => k H locs ls hP hS hl)
theorem z_iadd (C : CX X Y cc nL own rm) {x y : Int32} (hd : decode cc pc = .ok (.iadd, 1)) (k : Z X Y nL μ (pc + 1) lv (.int (x + y) :: st)) : Z X Y nL μ pc lv (.int y :: .int x :: st) := fun H locs ls hP hS hl => lv_iadd C.exec C.bytes hd (k H locs ls hP hS hl)
theorem z_isub (C : CX X Y cc nL own rm) {x y : Int32} (hd : decode cc pc = .ok (.isub, 1)) (k : Z X Y nL μ (pc + 1) lv (.int (x - y) :: st)) : Z X Y nL μ pc lv (.int y :: .int x :: st) := fun H locs ls hP hS hl => lv_isub C.exec C.bytes hd (k H locs ls hP hS hl)
theorem z_imul (C : CX X Y cc nL own rm) {x y : Int32} (hd : decode cc pc = .ok (.imul, 1)) (k : Z X Y nL μ (pc + 1) lv (.int (x * y) :: st)) : Z X Y nL μ pc lv (.int y :: .int x :: st) := fun H locs ls hP hS hl => lv_imul C.exec C.bytes hd (k H locs ls hP hS hl)
theorem z_iand (C : CX X Y cc nL own rm) {x y : Int32} (hd : decode cc pc = .ok (.iand, 1)) (k : Z X Y nL μ (pc + 1) lv (.int (x &&& y) :: st)) : Z X Y nL μ pc lv (.int y :: .int x :: st) := fun H locs ls hP hS hl => lv_iand C.exec C.bytes hd (k H locs ls hP hS hl)
theorem z_ior (C : CX X Y cc nL own rm) {x y : Int32} (hd : decode cc pc = .ok (.ior, 1)) (k : Z X Y nL μ (pc + 1) lv (.int (x ||| y) :: st)) : Z X Y nL μ pc lv (.int y :: .int x :: st) := fun H locs ls hP hS hl => lv_ior C.exec C.bytes hd (k H locs ls hP hS hl)
theorem z_ixor (C : CX X Y cc nL own rm) {x y : Int32} (hd : decode cc pc = .ok (.ixor, 1)) (k : Z X Y nL μ (pc + 1) lv (.int (x ^^^ y) :: st)) : Z X Y nL μ pc lv (.int y :: .int x :: st) := fun H locs ls hP hS hl => lv_ixor C.exec C.bytes hd (k H locs ls hP hS hl)
theorem z_ishl (C : CX X Y cc nL own rm) {x y : Int32} (hd : decode cc pc = .ok (.ishl, 1)) (k : Z X Y nL μ (pc + 1) lv (.int (x <<< (y &&& 31)) :: st)) : Z X Y nL μ pc lv (.int y :: .int x :: st) := fun H locs ls hP hS hl => lv_ishl C.exec C.bytes hd (k H locs ls hP hS hl)
theorem z_ishr (C : CX X Y cc nL own rm) {x y : Int32} (hd : decode cc pc = .ok (.ishr, 1)) (k : Z X Y nL μ (pc + 1) lv (.int (x >>> (y &&& 31)) :: st)) : Z X Y nL μ pc lv (.int y :: .int x :: st) := fun H locs ls hP hS hl => lv_ishr C.exec C.bytes hd (k H locs ls hP hS hl)
theorem z_iushr (C : CX X Y cc nL own rm) {x y : Int32} (hd : decode cc pc = .ok (.iushr, 1)) (k : Z X Y nL μ (pc + 1) lv (.int ((x.toUInt32 >>> (y.toUInt32 &&& Int32.toUInt32 31)).toInt32) :: st)) : Z X Y nL μ pc lv (.int y :: .int x :: st) := fun H locs ls hP hS hl => lv_iushr C.exec C.bytes hd rfl (k H locs ls hP hS hl)
theorem z_idiv (C : CX X Y cc nL own rm) {x y : Int32} (hd : decode cc pc = .ok (.idiv, 1)) (hne : ¬ y = 0) (k : Z X Y nL μ (pc + 1) lv (.int (x / y) :: st)) : Z X Y nL μ pc lv (.int y :: .int x :: st) := fun H locs ls hP hS hl => lv_idiv C.exec C.bytes hd hne (k H locs ls hP hS hl)
theorem z_irem (C : CX X Y cc nL own rm) {x y : Int32} (hd : decode cc pc = .ok (.irem, 1)) (hne : ¬ y = 0) (k : Z X Y nL μ (pc + 1) lv (.int (x - x / y * y) :: st)) : Z X Y nL μ pc lv (.int y :: .int x :: st) := fun H locs ls hP hS hl => lv_irem C.exec C.bytes hd hne (k H locs ls hP hS hl)
theorem z_ladd (C : CX X Y cc nL own rm) {x y : Int64} (hd : decode cc pc = .ok (.ladd, 1)) (k : Z X Y nL μ (pc + 1) lv (.long (x + y) :: st)) : Z X Y nL μ pc lv (.long y :: .long x :: st) := fun H locs ls hP hS hl => lv_ladd C.exec C.bytes hd (k H locs ls hP hS hl)
theorem z_lsub (C : CX X Y cc nL own rm) {x y : Int64} (hd : decode cc pc = .ok (.lsub, 1)) (k : Z X Y nL μ (pc + 1) lv (.long (x - y) :: st)) : Z X Y nL μ pc lv (.long y :: .long x :: st) := fun H locs ls hP hS hl => lv_lsub C.exec C.bytes hd (k H locs ls hP hS hl)
theorem z_lmul (C : CX X Y cc nL own rm) {x y : Int64} (hd : decode cc pc = .ok (.lmul, 1)) (k : Z X Y nL μ (pc + 1) lv (.long (x * y) :: st)) : Z X Y nL μ pc lv (.long y :: .long x :: st) := fun H locs ls hP hS hl => lv_lmul C.exec C.bytes hd (k H locs ls hP hS hl)
theorem z_land (C : CX X Y cc nL own rm) {x y : Int64} (hd : decode cc pc = .ok (.land, 1)) (k : Z X Y nL μ (pc + 1) lv (.long (x &&& y) :: st)) : Z X Y nL μ pc lv (.long y :: .long x :: st) := fun H locs ls hP hS hl => lv_land C.exec C.bytes hd (k H locs ls hP hS hl)
theorem z_lor (C : CX X Y cc nL own rm) {x y : Int64} (hd : decode cc pc = .ok (.lor, 1)) (k : Z X Y nL μ (pc + 1) lv (.long (x ||| y) :: st)) : Z X Y nL μ pc lv (.long y :: .long x :: st) := fun H locs ls hP hS hl => lv_lor C.exec C.bytes hd (k H locs ls hP hS hl)
theorem z_lxor (C : CX X Y cc nL own rm) {x y : Int64} (hd : decode cc pc = .ok (.lxor, 1)) (k : Z X Y nL μ (pc + 1) lv (.long (x ^^^ y) :: st)) : Z X Y nL μ pc lv (.long y :: .long x :: st) := fun H locs ls hP hS hl => lv_lxor C.exec C.bytes hd (k H locs ls hP hS hl)
theorem z_ldiv (C : CX X Y cc nL own rm) {x y : Int64} (hd : decode cc pc = .ok (.ldiv, 1)) (hne : ¬ y = 0) (k : Z X Y nL μ (pc + 1) lv (.long (x / y) :: st)) : Z X Y nL μ pc lv (.long y :: .long x :: st) := fun H locs ls hP hS hl => lv_ldiv C.exec C.bytes hd hne (k H locs ls hP hS hl)
theorem z_lrem (C : CX X Y cc nL own rm) {x y : Int64} (hd : decode cc pc = .ok (.lrem, 1)) (hne : ¬ y = 0) (k : Z X Y nL μ (pc + 1) lv (.long (x - x / y * y) :: st)) : Z X Y nL μ pc lv (.long y :: .long x :: st) := fun H locs ls hP hS hl => lv_lrem C.exec C.bytes hd hne (k H locs ls hP hS hl)
theorem z_lushr (C : CX X Y cc nL own rm) {x : Int64} {y : Int32} (hd : decode cc pc = .ok (.lushr, 1)) (k : Z X Y nL μ (pc + 1) lv (.long ((x.toUInt64 >>> (y.toInt64.toUInt64 &&& Int64.toUInt64 63)).toInt64) :: st)) : Z X Y nL μ pc lv (.int y :: .long x :: st) := fun H locs ls hP hS hl => lv_lushr C.exec C.bytes hd rfl (k H locs ls hP hS hl)
theorem z_lshl (C : CX X Y cc nL own rm) {x : Int64} {y : Int32} (hd : decode cc pc = .ok (.lshl, 1)) (k : Z X Y nL μ (pc + 1) lv (.long (x <<< (y.toInt64 &&& 63)) :: st)) : Z X Y nL μ pc lv (.int y :: .long x :: st) := fun H locs ls hP hS hl => lv_lshl C.exec C.bytes hd rfl (k H locs ls hP hS hl)
theorem z_lshr (C : CX X Y cc nL own rm) {x : Int64} {y : Int32} (hd : decode cc pc = .ok (.lshr, 1)) (k : Z X Y nL μ (pc + 1) lv (.long (x >>> (y.toInt64 &&& 63)) :: st)) : Z X Y nL μ pc lv (.int y :: .long x :: st) := fun H locs ls hP hS hl => lv_lshr C.exec C.bytes hd rfl (k H locs ls hP hS hl)
theorem z_i2l (C : CX X Y cc nL own rm) {x : Int32} (hd : decode cc pc = .ok (.i2l, 1)) (k : Z X Y nL μ (pc + 1) lv (.long x.toInt64 :: st)) : Z X Y nL μ pc lv (.int x :: st) := fun H locs ls hP hS hl => lv_i2l C.exec C.bytes hd rfl (k H locs ls hP hS hl)
theorem z_l2i (C : CX X Y cc nL own rm) {x : Int64} (hd : decode cc pc = .ok (.l2i, 1)) (k : Z X Y nL μ (pc + 1) lv (.int x.toInt32 :: st)) : Z X Y nL μ pc lv (.long x :: st) := fun H locs ls hP hS hl => lv_l2i C.exec C.bytes hd rfl (k H locs ls hP hS hl)
theorem z_i2b (C : CX X Y cc nL own rm) {x : Int32} (hd : decode cc pc = .ok (.i2b, 1)) (k : Z X Y nL μ (pc + 1) lv (.int x.toInt8.toInt32 :: st)) : Z X Y nL μ pc lv (.int x :: st) := fun H locs ls hP hS hl => lv_i2b C.exec C.bytes hd rfl (k H locs ls hP hS hl)
theorem z_i2c (C : CX X Y cc nL own rm) {x : Int32} (hd : decode cc pc = .ok (.i2c, 1)) (k : Z X Y nL μ (pc + 1) lv (.int (x.toUInt32 % 65536).toInt32 :: st)) : Z X Y nL μ pc lv (.int x :: st) := fun H locs ls hP hS hl => lv_i2c C.exec C.bytes hd rfl (k H locs ls hP hS hl)
theorem z_lcmp (C : CX X Y cc nL own rm) {x y : Int64} (hd : decode cc pc = .ok (.lcmp, 1)) (k : Z X Y nL μ (pc + 1) lv (.int (lg_cmp x y) :: st)) : Z X Y nL μ pc lv (.long y :: .long x :: st) := fun H locs ls hP hS hl => W.lcmp C.exec C.bytes hd (k H locs ls hP hS hl)
theorem z_dup (C : CX X Y cc nL own rm) {v : Value} (hd : decode cc pc = .ok (.dup, 1)) (hv : v.category = 1) (k : Z X Y nL μ (pc + 1) lv (v :: v :: st)) : Z X Y nL μ pc lv (v :: st) := fun H locs ls hP hS hl => lv_dup C.exec C.bytes hd hv (k H locs ls hP hS hl)
theorem z_pop (C : CX X Y cc nL own rm) {v : Value} (hd : decode cc pc = .ok (.pop, 1)) (hv : v.category = 1) (k : Z X Y nL μ (pc + 1) lv st) : Z X Y nL μ pc lv (v :: st) := fun H locs ls hP hS hl => lv_pop C.exec C.bytes hd hv (k H locs ls hP hS hl)
theorem z_dup2 (C : CX X Y cc nL own rm) {v w : Value} (hd : decode cc pc = .ok (.dup2, 1)) (hv : v.category = 1) (hw : w.category = 1) (k : Z X Y nL μ (pc + 1) lv (v :: w :: v :: w :: st)) : Z X Y nL μ pc lv (v :: w :: st) := fun H locs ls hP hS hl => lv_dup2_11 C.exec C.bytes hd hv hw (k H locs ls hP hS hl)
theorem z_if_eq (C : CX X Y cc nL own rm) {x : Int32} {off : Int} (tgt : Nat) (hd : decode cc pc = .ok (.ifCond .eq off, 3)) (ht : (pc : Int) + off = (tgt : Int)) (kt : x = 0 → Z X Y nL μ tgt lv st) (kf : ¬ x = 0 → Z X Y nL μ (pc + 3) lv st) : Z X Y nL μ pc lv (.int x :: st) := fun H locs ls hP hS hl => lv_if_eq C.exec C.bytes hd ht (fun h => kt h H locs ls hP hS hl) (fun h => kf h H locs ls hP hS hl)
theorem z_if_ne (C : CX X Y cc nL own rm) {x : Int32} {off : Int} (tgt : Nat) (hd : decode cc pc = .ok (.ifCond .ne off, 3)) (ht : (pc : Int) + off = (tgt : Int)) (kt : ¬ x = 0 → Z X Y nL μ tgt lv st) (kf : x = 0 → Z X Y nL μ (pc + 3) lv st) : Z X Y nL μ pc lv (.int x :: st) := fun H locs ls hP hS hl => lv_if_ne C.exec C.bytes hd ht (fun h => kt h H locs ls hP hS hl) (fun h => kf h H locs ls hP hS hl)
theorem z_if_lt (C : CX X Y cc nL own rm) {x : Int32} {off : Int} (tgt : Nat) (hd : decode cc pc = .ok (.ifCond .lt off, 3)) (ht : (pc : Int) + off = (tgt : Int)) (kt : x < 0 → Z X Y nL μ tgt lv st) (kf : ¬ x < 0 → Z X Y nL μ (pc + 3) lv st) : Z X Y nL μ pc lv (.int x :: st) := fun H locs ls hP hS hl => lv_if_lt C.exec C.bytes hd ht (fun h => kt h H locs ls hP hS hl) (fun h => kf h H locs ls hP hS hl)
theorem z_if_ge (C : CX X Y cc nL own rm) {x : Int32} {off : Int} (tgt : Nat) (hd : decode cc pc = .ok (.ifCond .ge off, 3)) (ht : (pc : Int) + off = (tgt : Int)) (kt : 0 ≤ x → Z X Y nL μ tgt lv st) (kf : ¬ 0 ≤ x → Z X Y nL μ (pc + 3) lv st) : Z X Y nL μ pc lv (.int x :: st) := fun H locs ls hP hS hl => lv_if_ge C.exec C.bytes hd ht (fun h => kt h H locs ls hP hS hl) (fun h => kf h H locs ls hP hS hl)
theorem z_if_gt (C : CX X Y cc nL own rm) {x : Int32} {off : Int} (tgt : Nat) (hd : decode cc pc = .ok (.ifCond .gt off, 3)) (ht : (pc : Int) + off = (tgt : Int)) (kt : 0 < x → Z X Y nL μ tgt lv st) (kf : ¬ 0 < x → Z X Y nL μ (pc + 3) lv st) : Z X Y nL μ pc lv (.int x :: st) := fun H locs ls hP hS hl => lv_if_gt C.exec C.bytes hd ht (fun h => kt h H locs ls hP hS hl) (fun h => kf h H locs ls hP hS hl)
theorem z_if_le (C : CX X Y cc nL own rm) {x : Int32} {off : Int} (tgt : Nat) (hd : decode cc pc = .ok (.ifCond .le off, 3)) (ht : (pc : Int) + off = (tgt : Int)) (kt : x ≤ 0 → Z X Y nL μ tgt lv st) (kf : ¬ x ≤ 0 → Z X Y nL μ (pc + 3) lv st) : Z X Y nL μ pc lv (.int x :: st) := fun H locs ls hP hS hl => lv_if_le C.exec C.bytes hd ht (fun h => kt h H locs ls hP hS hl) (fun h => kf h H locs ls hP hS hl)
theorem z_icmp_eq (C : CX X Y cc nL own rm) {x y : Int32} {off : Int} (tgt : Nat) (hd : decode cc pc = .ok (.if_icmp .eq off, 3)) (ht : (pc : Int) + off = (tgt : Int)) (kt : x = y → Z X Y nL μ tgt lv st) (kf : ¬ x = y → Z X Y nL μ (pc + 3) lv st) : Z X Y nL μ pc lv (.int y :: .int x :: st) := fun H locs ls hP hS hl => lv_icmp_eq C.exec C.bytes hd ht (fun h => kt h H locs ls hP hS hl) (fun h => kf h H locs ls hP hS hl)
theorem z_icmp_ne (C : CX X Y cc nL own rm) {x y : Int32} {off : Int} (tgt : Nat) (hd : decode cc pc = .ok (.if_icmp .ne off, 3)) (ht : (pc : Int) + off = (tgt : Int)) (kt : ¬ x = y → Z X Y nL μ tgt lv st) (kf : x = y → Z X Y nL μ (pc + 3) lv st) : Z X Y nL μ pc lv (.int y :: .int x :: st) := fun H locs ls hP hS hl => lv_icmp_ne C.exec C.bytes hd ht (fun h => kt h H locs ls hP hS hl) (fun h => kf h H locs ls hP hS hl)
theorem z_icmp_lt (C : CX X Y cc nL own rm) {x y : Int32} {off : Int} (tgt : Nat) (hd : decode cc pc = .ok (.if_icmp .lt off, 3)) (ht : (pc : Int) + off = (tgt : Int)) (kt : x < y → Z X Y nL μ tgt lv st) (kf : ¬ x < y → Z X Y nL μ (pc + 3) lv st) : Z X Y nL μ pc lv (.int y :: .int x :: st) := fun H locs ls hP hS hl => lv_icmp_lt C.exec C.bytes hd ht (fun h => kt h H locs ls hP hS hl) (fun h => kf h H locs ls hP hS hl)
theorem z_icmp_ge (C : CX X Y cc nL own rm) {x y : Int32} {off : Int} (tgt : Nat) (hd : decode cc pc = .ok (.if_icmp .ge off, 3)) (ht : (pc : Int) + off = (tgt : Int)) (kt : y ≤ x → Z X Y nL μ tgt lv st) (kf : ¬ y ≤ x → Z X Y nL μ (pc + 3) lv st) : Z X Y nL μ pc lv (.int y :: .int x :: st) := fun H locs ls hP hS hl => lv_icmp_ge C.exec C.bytes hd ht (fun h => kt h H locs ls hP hS hl) (fun h => kf h H locs ls hP hS hl)
theorem z_icmp_gt (C : CX X Y cc nL own rm) {x y : Int32} {off : Int} (tgt : Nat) (hd : decode cc pc = .ok (.if_icmp .gt off, 3)) (ht : (pc : Int) + off = (tgt : Int)) (kt : y < x → Z X Y nL μ tgt lv st) (kf : ¬ y < x → Z X Y nL μ (pc + 3) lv st) : Z X Y nL μ pc lv (.int y :: .int x :: st) := fun H locs ls hP hS hl => lv_icmp_gt C.exec C.bytes hd ht (fun h => kt h H locs ls hP hS hl) (fun h => kf h H locs ls hP hS hl)
theorem z_icmp_le (C : CX X Y cc nL own rm) {x y : Int32} {off : Int} (tgt : Nat) (hd : decode cc pc = .ok (.if_icmp .le off, 3)) (ht : (pc : Int) + off = (tgt : Int)) (kt : x ≤ y → Z X Y nL μ tgt lv st) (kf : ¬ x ≤ y → Z X Y nL μ (pc + 3) lv st) : Z X Y nL μ pc lv (.int y :: .int x :: st) := fun H locs ls hP hS hl => lv_icmp_le C.exec C.bytes hd ht (fun h => kt h H locs ls hP hS hl) (fun h => kf h H locs ls hP hS hl)
theorem z_goto (C : CX X Y cc nL own rm) {off : Int} (tgt : Nat) (hd : decode cc pc = .ok (.goto off, 3)) (ht : (pc : Int) + off = (tgt : Int)) (k : Z X Y nL μ tgt lv st) : Z X Y nL μ pc lv st := fun H locs ls hP hS hl => lv_goto C.exec C.bytes hd ht (k H locs ls hP hS hl)
theorem z_tabI (C : CX X Y cc nL own rm) {dflt lo hi : Int} {offs : Array Int} {len : Nat} {x : Int32} {off : Int} (tgt : Nat) (hd : decode cc pc = .ok (.tableswitch dflt lo hi offs, len)) (h1 : ¬ x.toInt < lo) (h2 : ¬ hi < x.toInt) (ho : offs[(x.toInt - lo).toNat]? = some off) (ht : (pc : Int) + off = (tgt : Int)) (k : Z X Y nL μ tgt lv st) : Z X Y nL μ pc lv (.int x :: st) := fun H locs ls hP hS hl => lv_tableIn C.exec C.bytes hd h1 h2 ho ht (k H locs ls hP hS hl)
theorem z_tabO (C : CX X Y cc nL own rm) {dflt lo hi : Int} {offs : Array Int} {len : Nat} {x : Int32} (tgt : Nat) (hd : decode cc pc = .ok (.tableswitch dflt lo hi offs, len)) (h : x.toInt < lo ∨ hi < x.toInt) (ht : (pc : Int) + dflt = (tgt : Int)) (k : Z X Y nL μ tgt lv st) : Z X Y nL μ pc lv (.int x :: st) := fun H locs ls hP hS hl => lv_tableOut C.exec C.bytes hd h ht (k H locs ls hP hS hl)
theorem z_look (C : CX X Y cc nL own rm) {dflt : Int} {ps : Array (Int × Int)} {len : Nat} {x : Int32} {off : Int} (tgt : Nat) (hd : decode cc pc = .ok (.lookupswitch dflt ps, len)) (hp : (ps.toList.zip (ps.toList.drop 1)).all (fun (a, next) => a.1 < next.1) = true) (ho : Op.lookupswitch.offset ps.toList dflt x.toInt = off) (ht : (pc : Int) + off = (tgt : Int)) (k : Z X Y nL μ tgt lv st) : Z X Y nL μ pc lv (.int x :: st) := fun H locs ls hP hS hl => lv_lookup C.exec C.bytes hd hp ho ht (k H locs ls hP hS hl)
theorem z_iret {v r : Int32} (C : CX X Y cc nL own rm) (R : ZR X Y (some .int) μ' (some (.int r))) (hd : decode cc pc = .ok (.ireturn, 1)) (h1 : μ = μ') (h2 : v = r) : Z X Y nL μ pc lv [.int v] := by
  subst h1; subst h2
  intro H locs ls hP hS hl
  obtain ⟨hr, hlk, hk, hn, hQ⟩ := R
  rw [hk, hn, hQ]
  exact W.iret C.exec C.bytes hr (fun t ht hW => ⟨⟨rfl, by rw [ht]; exact hP⟩, hS.F ht⟩) hS.2.2 hd hlk
theorem z_lret {v r : Int64} (C : CX X Y cc nL own rm) (R : ZR X Y (some .long) μ' (some (.long r))) (hd : decode cc pc = .ok (.lreturn, 1)) (h1 : μ = μ') (h2 : v = r) : Z X Y nL μ pc lv [.long v] := by
  subst h1; subst h2
  intro H locs ls hP hS hl
  obtain ⟨hr, hlk, hk, hn, hQ⟩ := R
  rw [hk, hn, hQ]
  exact W.lret C.exec C.bytes hr (fun t ht hW => ⟨⟨rfl, by rw [ht]; exact hP⟩, hS.F ht⟩) hS.2.2 hd hlk
theorem z_zret {ty : FieldType} {v r : Int32} (C : CX X Y cc nL own rm) (R : ZR X Y (some ty) μ' (some (.int r))) (hd : decode cc pc = .ok (.ireturn, 1)) (hz : narrow ty (.int v) = .int v) (h1 : μ = μ') (h2 : v = r) : Z X Y nL μ pc lv [.int v] := by
  subst h1; subst h2
  intro H locs ls hP hS hl
  obtain ⟨hr, hlk, hk, hn, hQ⟩ := R
  rw [hk, hn, hQ]
  exact W.zret C.exec C.bytes hr hz (fun t ht hW => ⟨⟨rfl, by rw [ht]; exact hP⟩, hS.F ht⟩) hS.2.2 hd hlk
theorem z_vret (C : CX X Y cc nL own rm) (R : ZR X Y none μ' none) (hd : decode cc pc = .ok (.return_, 1)) (h1 : μ = μ') : Z X Y nL μ pc lv [] := by
  subst h1
  intro H locs ls hP hS hl
  obtain ⟨hr, hlk, hk, hn, hQ⟩ := R
  rw [hk, hn, hQ]
  exact W.vret C.exec C.bytes hr (fun t ht hW => ⟨⟨rfl, by rw [ht]; exact hP⟩, hS.F ht⟩) hS.2.2 hd hlk
theorem z_get (C : CX X Y cc nL own rm) {ref Cn : String} {T : u_T} {N ci index a : Nat} (hin : ∀ w ∈ u_ws Cn T N, w ∈ WW) (q0 : Nat) {fs : List Value} (he : (yw Y μ)[q0]? = some (a, .inr (ci, fs))) (hc : classes[ci]? = some (Cn, T, N)) (k0 : Nat) (hk : k0 < N) (hlink : Cond.fieldLink own index ref (T k0).2.1 (T k0).2.2.1 ∈ WW) (href : (T k0).1 = ref) {v : Value} (hv : fs[k0]? = some v) (hd : decode cc pc = .ok (.getfield index, 3)) (k : Z X Y nL μ (pc + 3) lv (v :: st)) : Z X Y nL μ pc lv (.ref a :: st) :=
  fun H locs ls hP hS hl => va_get C.exec C.bytes C.hts hin C.ow C.hK hP q0 he hc k0 hk (C.hts _ hlink) (fun x h => by rw [← href]; exact h) hv hd (k H locs ls hP hS hl)
theorem z_getN (C : CX X Y cc nL own rm) {ref Cn host : String} {T : u_T} {N ci index a : Nat} (hin : ∀ w ∈ u_ws Cn T N, w ∈ WW) (q0 : Nat) {fs : List Value} (he : (yw Y μ)[q0]? = some (a, .inr (ci, fs))) (hc : classes[ci]? = some (Cn, T, N)) (k0 : Nat) (hk : k0 < N) (hlink : Cond.fieldLinkNest own index ref (T k0).2.1 (T k0).2.2.1 host ∈ NWL) (href : (T k0).1 = ref) {v : Value} (hv : fs[k0]? = some v) (hd : decode cc pc = .ok (.getfield index, 3)) (k : Z X Y nL μ (pc + 3) lv (v :: st)) : Z X Y nL μ pc lv (.ref a :: st) :=
  fun H locs ls hP hS hl => va_getN C.exec C.bytes C.hts hin C.ow C.hK hP q0 he hc k0 hk (C.nw hlink rfl) (fun x h => by rw [← href]; exact h) hv hd (k H locs ls hP hS hl)
theorem z_put (C : CX X Y cc nL own rm) {ref Cn : String} {T : u_T} {N ci index a : Nat} (hin : ∀ w ∈ u_ws Cn T N, w ∈ WW) (ty0 : Nat → FieldType) (hty : ∀ k, k < N → parseFieldDescriptor (T k).2.2.1 = some (ty0 k)) (hnm : ∀ a, a < N → ∀ b, b < N → a ≠ b → (T a).2.1 ≠ (T b).2.1) (q0 : Nat) {fs : List Value} (he : (yw Y μ)[q0]? = some (a, .inr (ci, fs))) (hc : classes[ci]? = some (Cn, T, N)) (k0 : Nat) (hk : k0 < N) (hlink : Cond.fieldLink own index ref (T k0).2.1 (T k0).2.2.1 ∈ WW) (href : (T k0).1 = ref) (hfin : (T k0).2.2.2 = false) {ty : FieldType} {v : Value} (hp : parseFieldDescriptor (T k0).2.2.1 = some ty) (hn : narrow ty v = v) (hfit : fits ty v = true) (hl0 : k0 < fs.length) (hd : decode cc pc = .ok (.putfield index, 3)) (hset : (yw Y μ).set q0 (a, .inr (ci, fs.set k0 v)) = yw Y μ') (k : Z X Y nL μ' (pc + 3) lv st) : Z X Y nL μ pc lv (v :: .ref a :: st) :=
  fun H locs ls hP hS hl => va_put C.exec C.bytes C.hts hin ty0 hty hnm C.ow C.hK hP (C.hD μ) hS q0 he hc k0 hk (C.hts _ hlink) (fun x h => by rw [← href]; exact h) hfin hp hn hfit hl0 hd (fun H1 locs1 hP1 _ hS1 => k H1 locs1 ls (hset ▸ hP1) hS1 hl)
theorem z_putN (C : CX X Y cc nL own rm) {ref Cn host : String} {T : u_T} {N ci index a : Nat} (hin : ∀ w ∈ u_ws Cn T N, w ∈ WW) (ty0 : Nat → FieldType) (hty : ∀ k, k < N → parseFieldDescriptor (T k).2.2.1 = some (ty0 k)) (hnm : ∀ a, a < N → ∀ b, b < N → a ≠ b → (T a).2.1 ≠ (T b).2.1) (q0 : Nat) {fs : List Value} (he : (yw Y μ)[q0]? = some (a, .inr (ci, fs))) (hc : classes[ci]? = some (Cn, T, N)) (k0 : Nat) (hk : k0 < N) (hlink : Cond.fieldLinkNest own index ref (T k0).2.1 (T k0).2.2.1 host ∈ NWL) (href : (T k0).1 = ref) (hfin : (T k0).2.2.2 = false) {ty : FieldType} {v : Value} (hp : parseFieldDescriptor (T k0).2.2.1 = some ty) (hn : narrow ty v = v) (hfit : fits ty v = true) (hl0 : k0 < fs.length) (hd : decode cc pc = .ok (.putfield index, 3)) (hset : (yw Y μ).set q0 (a, .inr (ci, fs.set k0 v)) = yw Y μ') (k : Z X Y nL μ' (pc + 3) lv st) : Z X Y nL μ pc lv (v :: .ref a :: st) :=
  fun H locs ls hP hS hl => va_putN C.exec C.bytes C.hts hin ty0 hty hnm C.ow C.hK hP (C.hD μ) hS q0 he hc k0 hk (C.nw hlink rfl) (fun x h => by rw [← href]; exact h) hfin hp hn hfit hl0 hd (fun H1 locs1 hP1 _ hS1 => k H1 locs1 ls (hset ▸ hP1) hS1 hl)
theorem z_iald (C : CX X Y cc nL own rm) (q0 t0 : Nat) {a : Nat} {cA : ClassId} {n : Nat} {f : Nat → Int32} (ha : (yw Y μ)[q0]? = some (a, .inl (cA, n, .inl f))) (ht : (yt Y)[t0]? = some (cA, .int)) {i : Int32} (hin : vp_in i n) (hd : decode cc pc = .ok (.iaload, 1)) (k : Z X Y nL μ (pc + 1) lv (.int (f i.toNatClampNeg) :: st)) : Z X Y nL μ pc lv (.int i :: .ref a :: st) :=
  fun H locs ls hP hS hl => va_iald C.exec C.bytes C.hK hP q0 t0 ha ht hin hd (k H locs ls hP hS hl)
theorem z_cald (C : CX X Y cc nL own rm) (q0 t0 : Nat) {a : Nat} {cA : ClassId} {n : Nat} {f : Nat → Int32} (ha : (yw Y μ)[q0]? = some (a, .inl (cA, n, .inl f))) (ht : (yt Y)[t0]? = some (cA, .char)) {i : Int32} (hin : vp_in i n) (hd : decode cc pc = .ok (.caload, 1)) (k : Z X Y nL μ (pc + 1) lv (.int (f i.toNatClampNeg) :: st)) : Z X Y nL μ pc lv (.int i :: .ref a :: st) :=
  fun H locs ls hP hS hl => va_cald C.exec C.bytes C.hK hP q0 t0 ha ht hin hd (k H locs ls hP hS hl)
theorem z_iast (C : CX X Y cc nL own rm) (q0 t0 : Nat) {a : Nat} {cA : ClassId} {n : Nat} {f : Nat → Int32} (ha : (yw Y μ)[q0]? = some (a, .inl (cA, n, .inl f))) (ht : (yt Y)[t0]? = some (cA, .int)) {i x : Int32} (hin : vp_in i n) (hd : decode cc pc = .ok (.iastore, 1)) (hset : (yw Y μ).set q0 (a, .inl (cA, n, .inl (upd f i.toNatClampNeg x))) = yw Y μ') (k : Z X Y nL μ' (pc + 1) lv st) : Z X Y nL μ pc lv (.int x :: .int i :: .ref a :: st) :=
  fun H locs ls hP hS hl => va_iast C.exec C.bytes C.hK hP (C.hD μ) hS q0 t0 ha ht hin hd (fun H1 locs1 hP1 _ hS1 => k H1 locs1 ls (hset ▸ hP1) hS1 hl)
theorem z_cast (C : CX X Y cc nL own rm) (q0 t0 : Nat) {a : Nat} {cA : ClassId} {n : Nat} {f : Nat → Int32} (ha : (yw Y μ)[q0]? = some (a, .inl (cA, n, .inl f))) (ht : (yt Y)[t0]? = some (cA, .char)) {i x : Int32} (hin : vp_in i n) (hd : decode cc pc = .ok (.castore, 1)) (hset : (yw Y μ).set q0 (a, .inl (cA, n, .inl (upd f i.toNatClampNeg (vp_nar .char x)))) = yw Y μ') (k : Z X Y nL μ' (pc + 1) lv st) : Z X Y nL μ pc lv (.int x :: .int i :: .ref a :: st) :=
  fun H locs ls hP hS hl => va_cast C.exec C.bytes C.hK hP (C.hD μ) hS q0 t0 ha ht hin hd (fun H1 locs1 hP1 _ hS1 => k H1 locs1 ls (hset ▸ hP1) hS1 hl)
theorem z_alen (C : CX X Y cc nL own rm) (q0 t0 : Nat) {a : Nat} {cA : ClassId} {x : vp_A} {ty : FieldType} (ha : (yw Y μ)[q0]? = some (a, .inl (cA, x))) (ht : (yt Y)[t0]? = some (cA, ty)) {v : Int32} (hv : Int32.ofNat x.1 = v) (hd : decode cc pc = .ok (.arraylength, 1)) (k : Z X Y nL μ (pc + 1) lv (.int v :: st)) : Z X Y nL μ pc lv (.ref a :: st) :=
  fun H locs ls hP hS hl => va_alen C.exec C.bytes C.hK hP q0 t0 ha ht hv hd (k H locs ls hP hS hl)
theorem z_copy (C : CX X Y cc nL own rm) {index : Nat} (w1 : Cond.methodLink own index arraycopyName ∈ WW) (w2 : Cond.native arraycopyName ∈ WW) (w3 : Cond.static arraycopyName ∈ WW) (w4 : Cond.initialized "java/lang/System" ∈ WW) (q0 q1 t0 : Nat) {a0 a1 : Nat} {cA : ClassId} {n0 n1 : Nat} {f g : Nat → Int32} (ha0 : (yw Y μ)[q0]? = some (a0, .inl (cA, n0, .inl f))) (ha1 : (yw Y μ)[q1]? = some (a1, .inl (cA, n1, .inl g))) (ht : (yt Y)[t0]? = some (cA, .int)) {sp dp n : Int32} (h1 : ¬ sp < 0) (h2 : ¬ dp < 0) (h3 : ¬ n < 0) (h4 : sp.toNatClampNeg + n.toNatClampNeg ≤ n0) (h5 : dp.toNatClampNeg + n.toNatClampNeg ≤ n1) (hfr : 1 ≤ rm.frames) (hlo : (st.map fun v => v.category).sum + (nativeFrameWords "java/lang/System" "arraycopy" 5 + 11) ≤ rm.locals) (hd : decode cc pc = .ok (.invokestatic index, 3)) (hset : (yw Y μ).set q1 (a1, .inl (cA, n1, .inl (va_cpy f g sp.toNatClampNeg dp.toNatClampNeg n.toNatClampNeg))) = yw Y μ') (k : Z X Y nL μ' (pc + 3) lv st) : Z X Y nL μ pc lv (.int n :: .int dp :: .ref a1 :: .int sp :: .ref a0 :: st) :=
  fun H locs ls hP hS hl => va_copyi C.exec C.bytes (C.maxL.trans hl.1.symm) C.ow (C.hts _ w1) (C.hts _ w2) (C.hts _ w3) (C.hts _ w4) C.hK hP (C.hD μ) hS q0 q1 t0 t0 ha0 ha1 ht ht rfl h1 h2 h3 h4 h5 (fun _ _ => rfl) (by rw [C.room]; exact hfr) (by rw [C.room]; exact hlo) hd (fun H1 locs1 hP1 _ hS1 => k H1 locs1 ls (hset ▸ hP1) hS1 hl)
theorem z_mmax (C : CX X Y cc nL own rm) {index : Nat} (w1 : Cond.methodLink own index Lib.Math.max.name ∈ WW) (w2 : Cond.static Lib.Math.max.name ∈ WW) (w3 : Cond.initialized "java/lang/Math" ∈ WW) (w4 : Cond.code Lib.Math.max.name Lib.Math.max.code 2 (some .int) ∈ WW) (hfr : 1 ≤ rm.frames) (hlo : (st.map fun v => v.category).sum + 13 ≤ rm.locals) {x y : Int32} (hd : decode cc pc = .ok (.invokestatic index, 3)) (k : Z X Y nL μ (pc + 3) lv (.int (if x < y then y else x) :: st)) : Z X Y nL μ pc lv (.int y :: .int x :: st) :=
  fun H locs ls hP hS hl => va_mmax C.exec C.bytes (C.maxL.trans hl.1.symm) C.ow (C.hts _ w1) (C.hts _ w2) (C.hts _ w3) (C.hts _ w4) (by rw [C.room]; exact hfr) (by rw [C.room]; exact hlo) C.cells.1 C.cells.2 hd (k H locs ls hP hS hl)
theorem z_mmin (C : CX X Y cc nL own rm) {index : Nat} (w1 : Cond.methodLink own index Lib.Math.min.name ∈ WW) (w2 : Cond.static Lib.Math.min.name ∈ WW) (w3 : Cond.initialized "java/lang/Math" ∈ WW) (w4 : Cond.code Lib.Math.min.name Lib.Math.min.code 2 (some .int) ∈ WW) (hfr : 1 ≤ rm.frames) (hlo : (st.map fun v => v.category).sum + 13 ≤ rm.locals) {x y : Int32} (hd : decode cc pc = .ok (.invokestatic index, 3)) (k : Z X Y nL μ (pc + 3) lv (.int (if y < x then y else x) :: st)) : Z X Y nL μ pc lv (.int y :: .int x :: st) :=
  fun H locs ls hP hS hl => va_mmin C.exec C.bytes (C.maxL.trans hl.1.symm) C.ow (C.hts _ w1) (C.hts _ w2) (C.hts _ w3) (C.hts _ w4) (by rw [C.room]; exact hfr) (by rw [C.room]; exact hlo) C.cells.1 C.cells.2 hd (k H locs ls hP hS hl)
theorem z_ldcS (C : CX X Y cc nL own rm) (ho : own = RX1) (hd : decode cc pc = .ok (.ldc 27, 2)) (k : Z X Y nL μ (pc + 2) lv (.ref (ya Y).1 :: st)) : Z X Y nL μ pc lv st :=
  fun H locs ls hP hS hl => va_ldcS C.exec C.bytes C.ow (by rw [ho]; exact C.ex.2.1) hd (k H locs ls hP hS hl)
theorem z_gets (C : CX X Y cc nL own rm) {index : Nat} (hlink : Cond.fieldLink own index "java/lang/String" "COMPACT_STRINGS" "Z" ∈ WW) (hd : decode cc pc = .ok (.getstatic index, 3)) (k : Z X Y nL μ (pc + 3) lv (.int 1 :: st)) : Z X Y nL μ pc lv st :=
  fun H locs ls hP hS hl => va_gets C.exec C.bytes C.ex.2.2.2 hS C.ow (C.hts _ hlink) (fun _ h => h) hd (k H locs ls hP hS hl)
theorem z_coder (C : CX X Y cc nL own rm) {index : Nat} (hlink : Cond.fieldLink own index "java/lang/String" "coder" "B" ∈ WW) (hd : decode cc pc = .ok (.getfield index, 3)) (k : Z X Y nL μ (pc + 3) lv (.int 0 :: st)) : Z X Y nL μ pc lv (.ref (ya Y).1 :: st) :=
  fun H locs ls hP hS hl => vk_getf C.exec C.bytes (C.ex.2.2.1.1 0 (by decide)).2.1 hS C.ow (C.hts _ hlink) (fun _ h => h) hd (k H locs ls hP hS hl)
theorem z_value (C : CX X Y cc nL own rm) {index : Nat} (hlink : Cond.fieldLink own index "java/lang/String" "value" "[B" ∈ WW) (hd : decode cc pc = .ok (.getfield index, 3)) (k : Z X Y nL μ (pc + 3) lv (.ref (ya Y).2 :: st)) : Z X Y nL μ pc lv (.ref (ya Y).1 :: st) :=
  fun H locs ls hP hS hl => vk_getf C.exec C.bytes (C.ex.2.2.1.1 0 (by decide)).2.2.1 hS C.ow (C.hts _ hlink) (fun _ h => h) hd (k H locs ls hP hS hl)
theorem z_tlen (C : CX X Y cc nL own rm) (hd : decode cc pc = .ok (.arraylength, 1)) (k : Z X Y nL μ (pc + 1) lv (.int 5 :: st)) : Z X Y nL μ pc lv (.ref (ya Y).2 :: st) :=
  fun H locs ls hP hS hl => va_tlen C.exec C.bytes (C.ex.2.2.1.1 0 (by decide)).2.2.2 hS (v := 5) (by decide) hd (k H locs ls hP hS hl)
theorem z_tb (C : CX X Y cc nL own rm) {i : Int32} (hin : vp_in i 5) (hd : decode cc pc = .ok (.baload, 1)) (k : Z X Y nL μ (pc + 1) lv (.int (([114, 116, 111, 109, 101] : List Int32).getD i.toNatClampNeg 0) :: st)) : Z X Y nL μ pc lv (.int i :: .ref (ya Y).2 :: st) :=
  fun H locs ls hP hS hl => va_tb C.exec C.bytes (C.ex.2.2.1.1 0 (by decide)).2.2.2 hS hin rfl hd (k H locs ls hP hS hl)
def VW (own : String) (idx : Nat) (y : MethodName) (bytes : ByteArray) (maxL : Nat) (ret : Option FieldType) (n : Nat) : Prop := (Cond.methodLink own idx y ∈ WW ∧ Cond.instanceMethod y ∈ WW ∧ Cond.selects y.cls y y ∈ WW ∧ Cond.initialized y.cls ∈ WW ∧ Cond.code y bytes maxL ret ∈ WW) ∧ y.cls ≠ "java/lang/invoke/MethodHandle" ∧ y.cls ≠ "java/lang/invoke/VarHandle" ∧ (parseMethodDescriptor y.desc).map (fun d => d.parameters.length) = some n
def SW (own : String) (idx : Nat) (y : MethodName) (bytes : ByteArray) (maxL : Nat) (ret : Option FieldType) (n : Nat) : Prop := (Cond.methodLink own idx y ∈ WW ∧ Cond.static y ∈ WW ∧ Cond.initialized y.cls ∈ WW ∧ Cond.code y bytes maxL ret ∈ WW) ∧ y.cls ≠ "java/lang/invoke/MethodHandle" ∧ y.cls ≠ "java/lang/invoke/VarHandle" ∧ (parseMethodDescriptor y.desc).map (fun d => d.parameters.length) = some n
theorem PZ.blind {sz : Nat} {avs : List Value} : FrameBlind (va_Pc avs (PZ Y sz μ)) := by
  intro a U g mk h
  obtain ⟨h0, h1, h2, h3, h4, h5⟩ := h
  exact ⟨h0, h1, h2, va_K.moved (u := U) (U := U.calling g mk a) (Vm.Alike.refl U.vm) h3, h4, h5.blind⟩
/-- the callee's start, out of the caller's world -/
theorem PZ.call (C : CX X Y cc nL own rm) {H : Heap} {locs : List Loc} (hP : va_P (yD Y) classes (yw Y μ) H) (hS : va_S (zA X) (zs X).heap H locs) {U : State} (hU : U.heap = H) (hW : (zs X).WarmedH U.vm) : PZ Y H.size μ U := by
  refine ⟨by rw [hU], by rw [hU]; exact hP, va_K.moved hW.alike C.hK, C.yok, C.ex.call (H := H) hS.2.1 hW hU ?_⟩
  rintro q (⟨k, e, h⟩ | h)
  · exact (C.hD μ).2 k (q, e) h
  · exact C.hA q (Nat.le_trans hS.1 h)
/-- behind a call -/
theorem z_behind (C : CX X Y cc nL own rm) {H : Heap} {locs : List Loc} {ls : Array Slot} {g : Nat} {st0 rest : List Value} {a : Array Value} {rv : Option Value} (hS : va_S (zA X) (zs X).heap H locs) (hl : lv_has ls nL lv)
    (hr : va_Run (zp X) (zl X) (ze X) (zR X) (zs X) (zm X) (za X) (zb X) (zh X) (zc X) H locs (zk X) (zn X) 0 0 (F0 (zm X) pc ls st0) rest (Qz Y (va_A (yw Y μ) H.size) μ' rv a) (va_A (yw Y μ) H.size))
    (k : Z X Y nL μ' (pc + 3) lv (rv.toList ++ rest)) : W (zp X) (zl X) (ze X) (zR X) (zs X) (zm X) (za X) (zb X) (zh X) (zc X) H locs (zk X) (zn X) (zQ X) (F0 (zm X) pc ls st0) := by
  have hF : ∀ q, va_A (yw Y μ) H.size q → zA X q := by
    rintro q (⟨k, e, h⟩ | h)
    · exact (C.hD μ).2 k (q, e) h
    · exact C.hA q (Nat.le_trans hS.1 h)
  intro T hT X0
  obtain ⟨v, st₀, t, T', L, h0, X', hL, e1, e2, ⟨⟨hv, hP1⟩, hz, hk⟩, st⟩ := hr T hT X0
  cases hv
  rw [h0] at hz hk
  obtain ⟨t2, a1, b1⟩ := k T'.heap (locs ++ L) ls (by rw [e1]; exact hP1)
    ⟨Nat.le_trans hS.1 (by rw [e1]; exact hz), fun q h1 h2 => by rw [e1, hk q (Nat.lt_of_lt_of_le h1 hS.1) (fun z => h2 (hF q z))]; exact hS.2.1 q h1 h2, fun q hq => by
      rcases List.mem_append.mp hq with h | h
      · exact hS.2.2 q h
      · exact hF _ (hL q h)⟩ hl T' rfl X'
  exact ⟨t2, st t2 a1, b1⟩
theorem z_callV (C : CX X Y cc nL own rm) {y : MethodName} {bytes : ByteArray} {maxL : Nat} {ret : Option FieldType} {rm' : Room} {b : Nat} {As rest : List Value} {rv : Option Value} {idx : Nat} (hM : MZ (zl X) Y y bytes maxL ret rm' (.ref b :: As) μ μ' rv) (hw : VW own idx y bytes maxL ret As.length) (hrm : rm'.cells = 0 ∧ rm'.slots = 0 ∧ rm'.frames + 1 ≤ rm.frames ∧ 8 + (maxL + 11) + rm'.locals ≤ rm.locals)
    (hrv : ∀ H locs, va_P (yD Y) classes (yw Y μ) H → va_S (zA X) (zs X).heap H locs → ∃ cell : Cell, H[b]? = some cell ∧ cell.vm.isStatics = false ∧ (zs X).vm.findClass y.cls = some cell.cls) (hst : st = As.reverse ++ .ref b :: rest) (hroom : (rest.map fun v => v.category).sum ≤ 8) (hd : decode cc pc = .ok (.invokevirtual idx, 3)) (k : Z X Y nL μ' (pc + 3) lv (rv.toList ++ rest)) : Z X Y nL μ pc lv st := by
  intro H locs ls hP hS hl
  obtain ⟨⟨w1, w2, w3, w4, w5⟩, n1, n2, n3⟩ := hw
  have hR := C.room
  refine z_behind (g := 0) (rv := rv) (rest := rest) C hS hl (va_runV (C := y.cls) (b := b) (As := As) (rest := rest) (bytes := bytes) (maxL := maxL) (ret := ret) (rm := rm') (n := As.length) ⟨C.exec, C.bytes, C.maxL, C.ow, C.hts⟩ (hM H.size) ⟨⟨hrm.1, hrm.2.1, by rw [hR]; exact hrm.2.2.1, by rw [hR]; exact hrm.2.2.2, pay_in C.hts (ww_good (fun _ h => h) (fun w h => ?_)), List.mem_cons_self, C.hts _ w5, C.hts _ w4, ⟨n1, n2⟩, fun sig h => ?_, C.hts _ w1⟩, C.hts _ w2, C.hts _ w3⟩ ⟨PZ.blind, hrv H locs hP hS, fun U hU hW => ⟨rfl, PZ.call C hP hS hU hW⟩⟩ rfl rfl hl.1 hst (lv_room hroom) hd C.cells) k
  · rcases List.mem_cons.mp h with rfl | h
    · exact w5
    · exact h
  · rw [h] at n3
    exact (Option.some.inj n3).symm
theorem z_callS (C : CX X Y cc nL own rm) {y : MethodName} {bytes : ByteArray} {maxL : Nat} {ret : Option FieldType} {rm' : Room} {As rest : List Value} {rv : Option Value} {idx : Nat} (hM : MZ (zl X) Y y bytes maxL ret rm' As μ μ' rv) (hw : SW own idx y bytes maxL ret As.length) (hrm : rm'.cells = 0 ∧ rm'.slots = 0 ∧ rm'.frames + 1 ≤ rm.frames ∧ 8 + (maxL + 11) + rm'.locals ≤ rm.locals)
    (hst : st = As.reverse ++ rest) (hroom : (rest.map fun v => v.category).sum ≤ 8) (hd : decode cc pc = .ok (.invokestatic idx, 3)) (k : Z X Y nL μ' (pc + 3) lv (rv.toList ++ rest)) : Z X Y nL μ pc lv st := by
  intro H locs ls hP hS hl
  obtain ⟨⟨w1, w2, w4, w5⟩, n1, n2, n3⟩ := hw
  have hR := C.room
  refine z_behind (g := 0) (rv := rv) (rest := rest) C hS hl (va_runS (As := As) (rest := rest) (bytes := bytes) (maxL := maxL) (ret := ret) (rm := rm') (n := As.length) ⟨C.exec, C.bytes, C.maxL, C.ow, C.hts⟩ (hM H.size) ⟨⟨hrm.1, hrm.2.1, by rw [hR]; exact hrm.2.2.1, by rw [hR]; exact hrm.2.2.2, pay_in C.hts (ww_good (fun _ h => h) (fun w h => ?_)), List.mem_cons_self, C.hts _ w5, C.hts _ w4, ⟨n1, n2⟩, fun sig h => ?_, C.hts _ w1⟩, C.hts _ w2⟩ ⟨PZ.blind, fun U hU hW => ⟨rfl, PZ.call C hP hS hU hW⟩⟩ rfl rfl hl.1 hst (lv_room hroom) hd C.cells) k
  · rcases List.mem_cons.mp h with rfl | h
    · exact w5
    · exact h
  · rw [h] at n3
    exact (Option.some.inj n3).symm
theorem z_mem (k : ∀ μ1 : S, μ1 = μ → Z X Y nL μ1 pc lv st) : Z X Y nL μ pc lv st := k μ rfl
theorem z_callVi (C : CX X Y cc nL own rm) {y : MethodName} {bytes : ByteArray} {maxL : Nat} {ret : Option FieldType} {rm' : Room} {b : Nat} {As rest : List Value} {r : Int32} {idx : Nat} (hM : MZ (zl X) Y y bytes maxL ret rm' (.ref b :: As) μ μ' (some (.int r))) (hw : VW own idx y bytes maxL ret As.length) (hrm : rm'.cells = 0 ∧ rm'.slots = 0 ∧ rm'.frames + 1 ≤ rm.frames ∧ 8 + (maxL + 11) + rm'.locals ≤ rm.locals)
    (hrv : ∀ H locs, va_P (yD Y) classes (yw Y μ) H → va_S (zA X) (zs X).heap H locs → ∃ cell : Cell, H[b]? = some cell ∧ cell.vm.isStatics = false ∧ (zs X).vm.findClass y.cls = some cell.cls) (hst : st = As.reverse ++ .ref b :: rest) (hroom : (rest.map fun v => v.category).sum ≤ 8) (hd : decode cc pc = .ok (.invokevirtual idx, 3)) (k : Z X Y nL μ' (pc + 3) lv (.int r :: rest)) : Z X Y nL μ pc lv st := z_callV C hM hw hrm hrv hst hroom hd k
theorem z_callSi (C : CX X Y cc nL own rm) {y : MethodName} {bytes : ByteArray} {maxL : Nat} {ret : Option FieldType} {rm' : Room} {As rest : List Value} {r : Int32} {idx : Nat} (hM : MZ (zl X) Y y bytes maxL ret rm' As μ μ' (some (.int r))) (hw : SW own idx y bytes maxL ret As.length) (hrm : rm'.cells = 0 ∧ rm'.slots = 0 ∧ rm'.frames + 1 ≤ rm.frames ∧ 8 + (maxL + 11) + rm'.locals ≤ rm.locals)
    (hst : st = As.reverse ++ rest) (hroom : (rest.map fun v => v.category).sum ≤ 8) (hd : decode cc pc = .ok (.invokestatic idx, 3)) (k : Z X Y nL μ' (pc + 3) lv (.int r :: rest)) : Z X Y nL μ pc lv st := z_callS C hM hw hrm hst hroom hd k
theorem z_callVl (C : CX X Y cc nL own rm) {y : MethodName} {bytes : ByteArray} {maxL : Nat} {ret : Option FieldType} {rm' : Room} {b : Nat} {As rest : List Value} {r : Int64} {idx : Nat} (hM : MZ (zl X) Y y bytes maxL ret rm' (.ref b :: As) μ μ' (some (.long r))) (hw : VW own idx y bytes maxL ret As.length) (hrm : rm'.cells = 0 ∧ rm'.slots = 0 ∧ rm'.frames + 1 ≤ rm.frames ∧ 8 + (maxL + 11) + rm'.locals ≤ rm.locals)
    (hrv : ∀ H locs, va_P (yD Y) classes (yw Y μ) H → va_S (zA X) (zs X).heap H locs → ∃ cell : Cell, H[b]? = some cell ∧ cell.vm.isStatics = false ∧ (zs X).vm.findClass y.cls = some cell.cls) (hst : st = As.reverse ++ .ref b :: rest) (hroom : (rest.map fun v => v.category).sum ≤ 8) (hd : decode cc pc = .ok (.invokevirtual idx, 3)) (k : Z X Y nL μ' (pc + 3) lv (.long r :: rest)) : Z X Y nL μ pc lv st := z_callV C hM hw hrm hrv hst hroom hd k
theorem z_callSl (C : CX X Y cc nL own rm) {y : MethodName} {bytes : ByteArray} {maxL : Nat} {ret : Option FieldType} {rm' : Room} {As rest : List Value} {r : Int64} {idx : Nat} (hM : MZ (zl X) Y y bytes maxL ret rm' As μ μ' (some (.long r))) (hw : SW own idx y bytes maxL ret As.length) (hrm : rm'.cells = 0 ∧ rm'.slots = 0 ∧ rm'.frames + 1 ≤ rm.frames ∧ 8 + (maxL + 11) + rm'.locals ≤ rm.locals)
    (hst : st = As.reverse ++ rest) (hroom : (rest.map fun v => v.category).sum ≤ 8) (hd : decode cc pc = .ok (.invokestatic idx, 3)) (k : Z X Y nL μ' (pc + 3) lv (.long r :: rest)) : Z X Y nL μ pc lv st := z_callS C hM hw hrm hst hroom hd k
theorem z_callVv (C : CX X Y cc nL own rm) {y : MethodName} {bytes : ByteArray} {maxL : Nat} {ret : Option FieldType} {rm' : Room} {b : Nat} {As rest : List Value}  {idx : Nat} (hM : MZ (zl X) Y y bytes maxL ret rm' (.ref b :: As) μ μ' (none)) (hw : VW own idx y bytes maxL ret As.length) (hrm : rm'.cells = 0 ∧ rm'.slots = 0 ∧ rm'.frames + 1 ≤ rm.frames ∧ 8 + (maxL + 11) + rm'.locals ≤ rm.locals)
    (hrv : ∀ H locs, va_P (yD Y) classes (yw Y μ) H → va_S (zA X) (zs X).heap H locs → ∃ cell : Cell, H[b]? = some cell ∧ cell.vm.isStatics = false ∧ (zs X).vm.findClass y.cls = some cell.cls) (hst : st = As.reverse ++ .ref b :: rest) (hroom : (rest.map fun v => v.category).sum ≤ 8) (hd : decode cc pc = .ok (.invokevirtual idx, 3)) (k : Z X Y nL μ' (pc + 3) lv rest) : Z X Y nL μ pc lv st := z_callV C hM hw hrm hrv hst hroom hd k
theorem z_callSv (C : CX X Y cc nL own rm) {y : MethodName} {bytes : ByteArray} {maxL : Nat} {ret : Option FieldType} {rm' : Room} {As rest : List Value}  {idx : Nat} (hM : MZ (zl X) Y y bytes maxL ret rm' As μ μ' (none)) (hw : SW own idx y bytes maxL ret As.length) (hrm : rm'.cells = 0 ∧ rm'.slots = 0 ∧ rm'.frames + 1 ≤ rm.frames ∧ 8 + (maxL + 11) + rm'.locals ≤ rm.locals)
    (hst : st = As.reverse ++ rest) (hroom : (rest.map fun v => v.category).sum ≤ 8) (hd : decode cc pc = .ok (.invokestatic idx, 3)) (k : Z X Y nL μ' (pc + 3) lv rest) : Z X Y nL μ pc lv st := z_callS C hM hw hrm hst hroom hd k
theorem z_rv (C : CX X Y cc nL own rm) {b q0 ci : Nat} {fs : List Value} {q : vw_C} {n : String} (he : (yw Y μ)[q0]? = some (b, .inr (ci, fs))) (hc : classes[ci]? = some q) (hn : q.1 = n) : ∀ H locs, va_P (yD Y) classes (yw Y μ) H → va_S (zA X) (zs X).heap H locs → ∃ cell : Cell, H[b]? = some cell ∧ cell.vm.isStatics = false ∧ (zs X).vm.findClass n = some cell.cls := fun H locs hP _ => hn ▸ va_recv C.hK hP hc he
theorem z_rs (C : CX X Y cc nL own rm) {n : String} (hn : "java/lang/String" = n) : ∀ H locs, va_P (yD Y) classes (yw Y μ) H → va_S (zA X) (zs X).heap H locs → ∃ cell : Cell, H[(ya Y).1]? = some cell ∧ cell.vm.isStatics = false ∧ (zs X).vm.findClass n = some cell.cls := fun H locs _ hS => hn ▸ vk_recv C.ex.2.2.1 (i := 0) (by decide) hS
end
