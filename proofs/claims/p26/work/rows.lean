section
-- ===== PART A: goes FIRST, ahead of the names: the tables' words, and 'selects' of the private methods out of them =====
/-- a private method of a class that the tables say can be made, by its rows of tables_1 -/
def lw_okq (q : MethodName × Nat) : Prop := (q.1.cls ≠ "java/lang/invoke/MethodHandle" ∧ q.1.cls ≠ "java/lang/invoke/VarHandle") ∧ Cond.instantiable q.1.cls q.2 ∈ tables_1 ∧ Cond.privateMethod q.1 ∈ tables_1 ∧ Cond.instanceMethod q.1 ∈ tables_1
theorem lw_p0 : lw_okq (⟨"Cocite", "requirePaper", "(I)V"⟩, 3) := ⟨⟨by decide +kernel, by decide +kernel⟩, List.mem_of_getElem? (i := 16) (by decide +kernel), List.mem_of_getElem? (i := 171) (by decide +kernel), List.mem_of_getElem? (i := 172) (by decide +kernel)⟩
theorem lw_p1 : lw_okq (⟨"java/lang/Throwable", "fillInStackTrace", "(I)Ljava/lang/Throwable;"⟩, 6) := ⟨⟨by decide +kernel, by decide +kernel⟩, List.mem_of_getElem? (i := 221) (by decide +kernel), List.mem_of_getElem? (i := 219) (by decide +kernel), List.mem_of_getElem? (i := 220) (by decide +kernel)⟩
theorem lw_p2 : lw_okq (⟨"Cocite$Shelf", "dropCiting", "(II)V"⟩, 8) := ⟨⟨by decide +kernel, by decide +kernel⟩, List.mem_of_getElem? (i := 24) (by decide +kernel), List.mem_of_getElem? (i := 273) (by decide +kernel), List.mem_of_getElem? (i := 274) (by decide +kernel)⟩
theorem lw_p3 : lw_okq (⟨"Cocite$Shelf", "countCiting", "(III)V"⟩, 8) := ⟨⟨by decide +kernel, by decide +kernel⟩, List.mem_of_getElem? (i := 24) (by decide +kernel), List.mem_of_getElem? (i := 284) (by decide +kernel), List.mem_of_getElem? (i := 285) (by decide +kernel)⟩
theorem lw_p4 : lw_okq (⟨"Cocite$Table", "setOneWay", "(III)V"⟩, 1) := ⟨⟨by decide +kernel, by decide +kernel⟩, List.mem_of_getElem? (i := 41) (by decide +kernel), List.mem_of_getElem? (i := 296) (by decide +kernel), List.mem_of_getElem? (i := 297) (by decide +kernel)⟩
theorem lw_p5 : lw_okq (⟨"Cocite", "mapAnew", "()V"⟩, 3) := ⟨⟨by decide +kernel, by decide +kernel⟩, List.mem_of_getElem? (i := 16) (by decide +kernel), List.mem_of_getElem? (i := 300) (by decide +kernel), List.mem_of_getElem? (i := 301) (by decide +kernel)⟩
theorem lw_p6 : lw_okq (⟨"Cocite$Grouping", "partAll", "(LCocite$Shelf;)V"⟩, 8) := ⟨⟨by decide +kernel, by decide +kernel⟩, List.mem_of_getElem? (i := 76) (by decide +kernel), List.mem_of_getElem? (i := 308) (by decide +kernel), List.mem_of_getElem? (i := 309) (by decide +kernel)⟩
theorem lw_p7 : lw_okq (⟨"Cocite$Grouping", "joinGreatest", "()Z"⟩, 8) := ⟨⟨by decide +kernel, by decide +kernel⟩, List.mem_of_getElem? (i := 76) (by decide +kernel), List.mem_of_getElem? (i := 332) (by decide +kernel), List.mem_of_getElem? (i := 333) (by decide +kernel)⟩
theorem lw_p8 : lw_okq (⟨"Cocite$Grouping", "gainFrom", "(III)I"⟩, 8) := ⟨⟨by decide +kernel, by decide +kernel⟩, List.mem_of_getElem? (i := 76) (by decide +kernel), List.mem_of_getElem? (i := 347) (by decide +kernel), List.mem_of_getElem? (i := 348) (by decide +kernel)⟩
theorem lw_p9 : lw_okq (⟨"Cocite$Grouping", "join", "(II)V"⟩, 8) := ⟨⟨by decide +kernel, by decide +kernel⟩, List.mem_of_getElem? (i := 76) (by decide +kernel), List.mem_of_getElem? (i := 351) (by decide +kernel), List.mem_of_getElem? (i := 352) (by decide +kernel)⟩
theorem lw_p10 : lw_okq (⟨"Cocite$Grouping", "bestSplit", "(I)I"⟩, 8) := ⟨⟨by decide +kernel, by decide +kernel⟩, List.mem_of_getElem? (i := 76) (by decide +kernel), List.mem_of_getElem? (i := 363) (by decide +kernel), List.mem_of_getElem? (i := 364) (by decide +kernel)⟩
theorem lw_p11 : lw_okq (⟨"Cocite$Grouping", "membersOf", "(I)I"⟩, 8) := ⟨⟨by decide +kernel, by decide +kernel⟩, List.mem_of_getElem? (i := 76) (by decide +kernel), List.mem_of_getElem? (i := 367) (by decide +kernel), List.mem_of_getElem? (i := 368) (by decide +kernel)⟩
theorem lw_p12 : lw_okq (⟨"Cocite$Grouping", "gainOfParts", "(II)I"⟩, 8) := ⟨⟨by decide +kernel, by decide +kernel⟩, List.mem_of_getElem? (i := 76) (by decide +kernel), List.mem_of_getElem? (i := 372) (by decide +kernel), List.mem_of_getElem? (i := 373) (by decide +kernel)⟩
theorem lw_p13 : lw_okq (⟨"Cocite$Grouping", "weightWithAll", "(II)I"⟩, 8) := ⟨⟨by decide +kernel, by decide +kernel⟩, List.mem_of_getElem? (i := 76) (by decide +kernel), List.mem_of_getElem? (i := 376) (by decide +kernel), List.mem_of_getElem? (i := 377) (by decide +kernel)⟩
theorem lw_p14 : lw_okq (⟨"Cocite$Grouping", "strengthOf", "(I)I"⟩, 8) := ⟨⟨by decide +kernel, by decide +kernel⟩, List.mem_of_getElem? (i := 76) (by decide +kernel), List.mem_of_getElem? (i := 380) (by decide +kernel), List.mem_of_getElem? (i := 381) (by decide +kernel)⟩
theorem lw_p15 : lw_okq (⟨"Cocite$Routes", "findNext", "(LCocite$Shelf;I)V"⟩, 8) := ⟨⟨by decide +kernel, by decide +kernel⟩, List.mem_of_getElem? (i := 111) (by decide +kernel), List.mem_of_getElem? (i := 399) (by decide +kernel), List.mem_of_getElem? (i := 400) (by decide +kernel)⟩
def lw_privs_1 : List (MethodName × Nat) := [(⟨"Cocite", "requirePaper", "(I)V"⟩, 3), (⟨"java/lang/Throwable", "fillInStackTrace", "(I)Ljava/lang/Throwable;"⟩, 6), (⟨"Cocite$Shelf", "dropCiting", "(II)V"⟩, 8), (⟨"Cocite$Shelf", "countCiting", "(III)V"⟩, 8), (⟨"Cocite$Table", "setOneWay", "(III)V"⟩, 1), (⟨"Cocite", "mapAnew", "()V"⟩, 3), (⟨"Cocite$Grouping", "partAll", "(LCocite$Shelf;)V"⟩, 8), (⟨"Cocite$Grouping", "joinGreatest", "()Z"⟩, 8), (⟨"Cocite$Grouping", "gainFrom", "(III)I"⟩, 8), (⟨"Cocite$Grouping", "join", "(II)V"⟩, 8), (⟨"Cocite$Grouping", "bestSplit", "(I)I"⟩, 8), (⟨"Cocite$Grouping", "membersOf", "(I)I"⟩, 8), (⟨"Cocite$Grouping", "gainOfParts", "(II)I"⟩, 8), (⟨"Cocite$Grouping", "weightWithAll", "(II)I"⟩, 8), (⟨"Cocite$Grouping", "strengthOf", "(I)I"⟩, 8), (⟨"Cocite$Routes", "findNext", "(LCocite$Shelf;I)V"⟩, 8)]
theorem lw_r1 : ∀ q ∈ lw_privs_1, lw_okq q := List.forall_mem_cons.mpr ⟨lw_p0, List.forall_mem_cons.mpr ⟨lw_p1, List.forall_mem_cons.mpr ⟨lw_p2, List.forall_mem_cons.mpr ⟨lw_p3, List.forall_mem_cons.mpr ⟨lw_p4, List.forall_mem_cons.mpr ⟨lw_p5, List.forall_mem_cons.mpr ⟨lw_p6, List.forall_mem_cons.mpr ⟨lw_p7, List.forall_mem_cons.mpr ⟨lw_p8, List.forall_mem_cons.mpr ⟨lw_p9, List.forall_mem_cons.mpr ⟨lw_p10, List.forall_mem_cons.mpr ⟨lw_p11, List.forall_mem_cons.mpr ⟨lw_p12, List.forall_mem_cons.mpr ⟨lw_p13, List.forall_mem_cons.mpr ⟨lw_p14, List.forall_mem_cons.mpr ⟨lw_p15, fun _ h => absurd h List.not_mem_nil⟩⟩⟩⟩⟩⟩⟩⟩⟩⟩⟩⟩⟩⟩⟩⟩
theorem lw_p16 : lw_okq (⟨"Cocite$Routes", "findMain", "(LCocite$Shelf;)V"⟩, 8) := ⟨⟨by decide +kernel, by decide +kernel⟩, List.mem_of_getElem? (i := 111) (by decide +kernel), List.mem_of_getElem? (i := 408) (by decide +kernel), List.mem_of_getElem? (i := 409) (by decide +kernel)⟩
theorem lw_p17 : lw_okq (⟨"Cocite$Routes", "follow", "(I)V"⟩, 8) := ⟨⟨by decide +kernel, by decide +kernel⟩, List.mem_of_getElem? (i := 111) (by decide +kernel), List.mem_of_getElem? (i := 413) (by decide +kernel), List.mem_of_getElem? (i := 414) (by decide +kernel)⟩
theorem lw_p18 : lw_okq (⟨"Cocite", "referencePairs", "(II)I"⟩, 3) := ⟨⟨by decide +kernel, by decide +kernel⟩, List.mem_of_getElem? (i := 16) (by decide +kernel), List.mem_of_getElem? (i := 446) (by decide +kernel), List.mem_of_getElem? (i := 447) (by decide +kernel)⟩
theorem lw_p19 : lw_okq (⟨"Cocite", "requireField", "(I)V"⟩, 3) := ⟨⟨by decide +kernel, by decide +kernel⟩, List.mem_of_getElem? (i := 16) (by decide +kernel), List.mem_of_getElem? (i := 469) (by decide +kernel), List.mem_of_getElem? (i := 470) (by decide +kernel)⟩
theorem lw_p20 : lw_okq (⟨"Cocite$Shelf", "citersOfYear", "(II)I"⟩, 8) := ⟨⟨by decide +kernel, by decide +kernel⟩, List.mem_of_getElem? (i := 24) (by decide +kernel), List.mem_of_getElem? (i := 519) (by decide +kernel), List.mem_of_getElem? (i := 520) (by decide +kernel)⟩
theorem lw_p21 : lw_okq (⟨"Cocite$Shelf", "referringToBoth", "(II)I"⟩, 8) := ⟨⟨by decide +kernel, by decide +kernel⟩, List.mem_of_getElem? (i := 24) (by decide +kernel), List.mem_of_getElem? (i := 555) (by decide +kernel), List.mem_of_getElem? (i := 556) (by decide +kernel)⟩
theorem lw_p22 : lw_okq (⟨"Cocite$Shelf", "addCiting", "(II)V"⟩, 8) := ⟨⟨by decide +kernel, by decide +kernel⟩, List.mem_of_getElem? (i := 24) (by decide +kernel), List.mem_of_getElem? (i := 694) (by decide +kernel), List.mem_of_getElem? (i := 695) (by decide +kernel)⟩
def lw_privs_2 : List (MethodName × Nat) := [(⟨"Cocite$Routes", "findMain", "(LCocite$Shelf;)V"⟩, 8), (⟨"Cocite$Routes", "follow", "(I)V"⟩, 8), (⟨"Cocite", "referencePairs", "(II)I"⟩, 3), (⟨"Cocite", "requireField", "(I)V"⟩, 3), (⟨"Cocite$Shelf", "citersOfYear", "(II)I"⟩, 8), (⟨"Cocite$Shelf", "referringToBoth", "(II)I"⟩, 8), (⟨"Cocite$Shelf", "addCiting", "(II)V"⟩, 8)]
theorem lw_r2 : ∀ q ∈ lw_privs_2, lw_okq q := List.forall_mem_cons.mpr ⟨lw_p16, List.forall_mem_cons.mpr ⟨lw_p17, List.forall_mem_cons.mpr ⟨lw_p18, List.forall_mem_cons.mpr ⟨lw_p19, List.forall_mem_cons.mpr ⟨lw_p20, List.forall_mem_cons.mpr ⟨lw_p21, List.forall_mem_cons.mpr ⟨lw_p22, fun _ h => absurd h List.not_mem_nil⟩⟩⟩⟩⟩⟩⟩
def lw_privs : List (MethodName × Nat) := lw_privs_1 ++ (lw_privs_2)
def lw_tbl : List Cond := k2_sels lw_privs ++ tables_1
theorem lw_privs_ok : ∀ q ∈ lw_privs, lw_okq q := by
  show ∀ q ∈ lw_privs_1 ++ (lw_privs_2), lw_okq q
  exact List.forall_mem_append.mpr ⟨lw_r1, lw_r2⟩

-- ===== end of PART A
/-! ===== BEGIN words of one list among another's, by their places ===== -/
theorem goodIn_r {big : List Cond} (ws : List Cond) (ps : List Nat) (hp : ws = ps.filterMap (fun i => big[i]?)) (h : ws.all goodWord = true) : GoodIn big ws := by
  intro w hw
  have h1 := List.all_eq_true.mp h w hw
  rw [hp] at hw
  obtain ⟨i, -, hi⟩ := List.mem_filterMap.mp hw
  have hm : w ∈ big := by first | exact List.mem_of_getElem? hi | exact List.getElem?_mem hi
  exact ⟨hm, good_of_word h1⟩
theorem goodIn_app {big a b : List Cond} (ha : GoodIn big a) (hb : GoodIn big b) : GoodIn big (a ++ b) := fun w h => (List.mem_append.mp h).elim (ha w) (hb w)
theorem goodIn_ca {big a b : List Cond} {c : Cond} (ha : GoodIn big (c :: a)) (hb : GoodIn big b) : GoodIn big (c :: (a ++ b)) := fun w h => (List.mem_cons.mp h).elim (fun e => ha w (List.mem_cons.mpr (Or.inl e))) (fun h => (List.mem_append.mp h).elim (fun h => ha w (List.mem_cons.mpr (Or.inr h))) (hb w))
theorem goodIn_sub {big ws : List Cond} (hm : ∀ w ∈ ws, w ∈ big) (h : ws.all goodWord = true) : GoodIn big ws := fun w hw => ⟨hm w hw, good_of_word (List.all_eq_true.mp h w hw)⟩
/-! ===== END ===== -/
/-! ===== BEGIN exceptions that leave a method, and their catching by the caller (launches without stack traces) ===== -/
section VXA
/-! The laws vx_back, vx_callV, vx_callS, vx_callSW, vx_throw0, vx_throwS follow proofs of the library, with one case more: JvmDerived/Free/Laws.lean (Back.of_free), Shelf42/LK1.lean (callV, callS), Shelf/KitTraced.lean (throwNew0V, throwNewS). -/
/-- where a method has thrown q: the class by its name, the cell, what was written, the world -/
def vx_T (XC : String → State → State → Prop) (st : State) (q : Addr) (t : State) (mc ms : Nat) (free : Addr → Prop) : Prop :=
  ∃ (E : String) (ce : Cell) (L : List Loc), XC E st t ∧ t.heap[q]? = some ce ∧ ce.vm = .none ∧ st.vm.findClass E = some ce.cls ∧ st.WarmedH t.vm ∧ st.sameButNew ({ t with vm := st.vm } : State) L mc ms ∧ ∀ z ∈ L, free z.base
def vx_Q (Qc : Array Value → State → Outcome → State → Prop) (XC : String → State → State → Prop) (mc ms : Nat) (free : Addr → Prop) : Array Value → State → Outcome → State → Prop := fun a st o t =>
  (Qc a st o t ∧ ∃ L, FrameEnd st o t L mc ms ∧ ∀ q ∈ L, free q.base) ∨ ∃ q, o = .threw q ∧ vx_T XC st q t mc ms free
/-- a callee that returns or throws -/
def vx_Met (l : Launch) (y : MethodName) (ws : List Cond) (rm : Room) (Pc : Array Value → State → Prop) (Qc : Array Value → State → Outcome → State → Prop) (XC : String → State → State → Prop) (mc ms : Nat) (free : Addr → Prop) : Prop :=
  MetFree l y (headSpec ws rm) Pc (fun _ _ _ _ _ => True) (vx_Q Qc XC mc ms free)
def vx_Post (XC : String → State → State → Prop) (mc ms : Nat) (free : Addr → Prop) : Pt → Array Value → Addr → Pt → Prop := fun A a q B =>
  ∃ (g : JFrame) (mk : MethodId) (t : State) (L : List Loc) (E : String) (ce : Cell), B.U.heap = t.heap ∧ B.U.vm = t.vm ∧ XC E (A.U.calling g mk a) t ∧ t.heap[q]? = some ce ∧ ce.vm = .none ∧ A.U.vm.findClass E = some ce.cls ∧ B.locs = A.locs ++ L ∧ (∀ z ∈ L, free z.base) ∧ B.cells = A.cells + mc ∧ B.slots = A.slots + ms
def vx_Back (l : Launch) (R : Room) (p : Program) (e : Env) (below : List Frame) (s : State) (sargs : Array Value) (y : MethodName) (len W9 : Nat)
    (Pre : Pt → Array Value → Prop) (Post : Pt → Array Value → Option Value → Pt → Prop) (PostX : Pt → Array Value → Addr → Pt → Prop) : Prop :=
  ∀ (m : MethodId) (meth : Method) (c : Code) (A : Pt) (g : JFrame) (ig : Instr) (mk : MethodId) (a : Array Value),
    Stand p l e R s m sargs below meth c A.U A.locs A.cells A.slots → g.method = m → g.locals.size = c.maxLocals → decode c.code g.pc = .ok (ig, len) →
    2 * g.monitorRoom + (g.stack.map fun v => v.category).sum ≤ W9 → A.U.methodNamed? y = some mk → Pre A a →
    (∃ (v : Option Value) (B : Pt), Stand p l e R s m sargs below meth c B.U B.locs B.cells B.slots ∧ Post A a v B ∧
      Steps p.tables e below (doInvoke e (A.U.setTop g) [] mk a).1 (B.U.setTop { g with pc := g.pc + len, stack := v.toList ++ g.stack })) ∨
    (∃ (q : Addr) (B : Pt), Stand p l e R s m sargs below meth c B.U B.locs B.cells B.slots ∧ PostX A a q B ∧
      Steps p.tables e below (doInvoke e (A.U.setTop g) [] mk a).1 ((B.U.setTop g).pushFrame (.throwing q)))
section Payer
variable {l : Launch} {R : Room} {p : Program} {e : Env} {below : List Frame} {s : State} {sargs : Array Value} {y : MethodName} {len W9 : Nat}
theorem vx_back {ws : List Cond} {rm : Room} {Pc : Array Value → State → Prop} {Qc : Array Value → State → Outcome → State → Prop} {XC : String → State → State → Prop} {mc ms : Nat} {free : Addr → Prop} {bytes : ByteArray} {maxL : Nat} {ret : Option FieldType}
    (hM : vx_Met l y ws rm Pc Qc XC mc ms free) (hblind : FrameBlind Pc) (hrc : rm.cells = mc) (hrs : rm.slots = ms)
    (hframes : rm.frames + 1 ≤ R.frames) (hlocals : W9 + (maxL + 11) + rm.locals ≤ R.locals)
    (hws : ∀ w ∈ ws, ∀ a' U, s.WarmedH U.vm → w.before a' U = true) (hcode : Cond.code y bytes maxL ret ∈ ws) (hinit : ∀ a' U, s.WarmedH U.vm → (Cond.initialized y.cls).before a' U = true) :
    vx_Back l R p e below s sargs y len W9 (PreOf R mc ms Pc) (PostOf Qc mc ms free) (vx_Post XC mc ms free) := by
  intro m meth c A g ig mk a X hg hsize hdg hW hn hp
  have h1 : (headSpec ws rm).pre.before a A.U = true := atoms_intro fun w hw => hws w hw _ _ X.warmed
  have h2 : (Cond.code y bytes maxL ret).before a A.U = true := hws _ hcode _ _ X.warmed
  have h3 : (Cond.initialized y.cls).before a A.U = true := hinit _ _ X.warmed
  have h4 : A.cells + (headSpec ws rm).room.cells ≤ R.cells := by rw [show (headSpec ws rm).room.cells = mc from hrc]; exact hp.1
  have h5 : A.slots + (headSpec ws rm).room.slots ≤ R.slots := by rw [show (headSpec ws rm).room.slots = ms from hrs]; exact hp.2.1
  have hPc : Pc a (A.U.calling g mk a) := hblind _ _ _ _ hp.2.2
  obtain ⟨U, Ls, c0, s0⟩ := A
  dsimp only [Pt.U, Pt.locs, Pt.cells, Pt.slots] at h1 h2 h3 h4 h5 X hn hPc ⊢
  obtain ⟨methY, cY, hmY, hcY, -, hlY, -, -, -, -⟩ := Cond.code_spec hn h2
  obtain ⟨kY, hkY, -⟩ := className_of_methodNamed hn
  have hinitY : kY.init = .initialized := Cond.initialized_spec (findClass_of_methodNamed hn) hkY h3
  have h : At U g.method c below := by rw [hg]; exact X.here
  have hlocals9 : W9 + (maxL + 11) + (headSpec ws rm).room.locals ≤ R.locals := hlocals
  have happ : (headSpec ws rm).appliesLoose y e.platform (U.calling g mk a) = true :=
    Spec.appliesLoose_calling (g := g) h hdg hn hkY hinitY
      (X.room_calling (g := g) (R' := (headSpec ws rm).room) hsize hmY hcY hframes (by rw [hlY]; omega) h4 h5) h1
  obtain ⟨mid, hmid⟩ := h.above
  have hfr : (U.setTop g).frames = (.java g :: mid) ++ below := by rw [State.frames_setTop' g h.top, hmid]; rfl
  obtain ⟨o, s₂, hsteps, -, hend, hq⟩ := Steps.callFree hM p X.admits X.cas X.clock (acts := []) hfr happ hPc trivial
  have hq' : vx_Q Qc XC mc ms free a (U.calling g mk a) o s₂ := hq
  rw [State.frames_setTop' g h.top] at hend
  obtain ⟨g₀, hg0⟩ := Option.isSome_iff_exists.mp h.top
  obtain ⟨r, hr⟩ := State.topJava?_eq_some.mp hg0
  have hr' : (({ U with heap := s₂.heap, slotsUsed := s₂.slotsUsed } : State).setVm s₂.vm).frames = .java g₀ :: r := hr
  rcases hq' with ⟨hqc, L, hfe, hL⟩ | ⟨q, rfl, E, ce, L, hx, hce, hcv, hcl, hW₂, hsm, hL⟩
  · obtain ⟨⟨v, rfl⟩, hW₂, e2, q2, q3, q4, q5, q6⟩ := id hfe
    have e3 : s₂ = ({ (U.calling g mk a).setFrames s₂.frames with heap := s₂.heap, slotsUsed := s₂.slotsUsed } : State).setVm s₂.vm := by
      have : s₂ = ({ s₂ with vm := (U.calling g mk a).vm } : State).setVm s₂.vm := rfl
      rw [e2] at this
      exact this
    obtain ⟨c₂, i₂, len₂, hc₂, hd₂, hf₂⟩ := hend
    have hW' : U.WarmedH s₂.vm := hW₂
    have hcc : c₂ = c := by
      have h1 : s₂.code? g.method = U.code? g.method := by
        rw [State.code?_eq, State.code?_eq, hW'.alike.method?]
      exact Option.some.inj (hc₂.symm.trans (h1.trans h.code))
    subst hcc
    have hlen : len₂ = len := by rw [hdg] at hd₂; cases hd₂; rfl
    subst hlen
    have hs₂ : s₂ = (({ U with heap := s₂.heap, slotsUsed := s₂.slotsUsed } : State).setVm s₂.vm).setTop { g with pc := g.pc + len₂, stack := v.toList ++ g.stack } := by
      refine e3.trans ?_
      rw [hf₂, State.calling_eq h.top, State.setFrames_setFrames, State.setTop_of_frames _ hr', hr]
      rfl
    have hsame : U.sameButNew ({ U with heap := s₂.heap, slotsUsed := s₂.slotsUsed } : State) L mc ms := by
      refine ⟨?_, q2, q3, q4, q5, q6⟩
      obtain ⟨t, ht, -⟩ := State.frames_cons hr
      show ({ U with heap := s₂.heap, slotsUsed := s₂.slotsUsed } : State) = { U.setFrames U.frames with heap := s₂.heap, slotsUsed := s₂.slotsUsed }
      rw [State.setFrames_self ht]
    subst hg
    refine Or.inl ⟨v, ⟨(({ U with heap := s₂.heap, slotsUsed := s₂.slotsUsed } : State).setVm s₂.vm), Ls ++ L, c0 + mc, s0 + ms⟩,
      ⟨X.admits, X.cas, X.clock, X.frames, X.room, X.hears, X.method, X.code, (X.here.setHeapUsed s₂.heap s₂.slotsUsed).setVm hW'.alike, X.tail, State.WarmedH.trans X.warmed hW', X.limits, X.bytes, X.same.trans (hsame.setVm s.vm)⟩,
      ⟨g, mk, s₂, L, rfl, rfl, hqc, rfl, hL, rfl, rfl⟩, ?_⟩
    show Steps p.tables e below _ ((({ U with heap := s₂.heap, slotsUsed := s₂.slotsUsed } : State).setVm s₂.vm).setTop { g with pc := g.pc + len₂, stack := v.toList ++ g.stack })
    rw [← hs₂]
    exact hsteps
  · obtain ⟨e2, q2, q3, q4, q5, q6⟩ := id hsm
    have e3 : s₂ = ({ (U.calling g mk a).setFrames s₂.frames with heap := s₂.heap, slotsUsed := s₂.slotsUsed } : State).setVm s₂.vm := by
      have : s₂ = ({ s₂ with vm := (U.calling g mk a).vm } : State).setVm s₂.vm := rfl
      rw [e2] at this
      exact this
    have hf₂ : s₂.frames = .throwing q :: .java g :: U.frames.tail := hend
    have hW' : U.WarmedH s₂.vm := hW₂
    have hs₂ : s₂ = ((({ U with heap := s₂.heap, slotsUsed := s₂.slotsUsed } : State).setVm s₂.vm).setTop g).pushFrame (.throwing q) := by
      refine e3.trans ?_
      rw [hf₂, State.calling_eq h.top, State.setFrames_setFrames, State.pushFrame, State.frames_setTop _ hr', State.setTop_of_frames _ hr', State.setFrames_setFrames, hr]
      rfl
    have hsame : U.sameButNew ({ U with heap := s₂.heap, slotsUsed := s₂.slotsUsed } : State) L mc ms := by
      refine ⟨?_, q2, q3, q4, q5, q6⟩
      obtain ⟨t, ht, -⟩ := State.frames_cons hr
      show ({ U with heap := s₂.heap, slotsUsed := s₂.slotsUsed } : State) = { U.setFrames U.frames with heap := s₂.heap, slotsUsed := s₂.slotsUsed }
      rw [State.setFrames_self ht]
    subst hg
    refine Or.inr ⟨q, ⟨(({ U with heap := s₂.heap, slotsUsed := s₂.slotsUsed } : State).setVm s₂.vm), Ls ++ L, c0 + mc, s0 + ms⟩,
      ⟨X.admits, X.cas, X.clock, X.frames, X.room, X.hears, X.method, X.code, (X.here.setHeapUsed s₂.heap s₂.slotsUsed).setVm hW'.alike, X.tail, State.WarmedH.trans X.warmed hW', X.limits, X.bytes, X.same.trans (hsame.setVm s.vm)⟩,
      ⟨g, mk, s₂, L, E, ce, rfl, rfl, hx, hce, hcv, hcl, rfl, hL, rfl, rfl⟩, ?_⟩
    show Steps p.tables e below _ (((({ U with heap := s₂.heap, slotsUsed := s₂.slotsUsed } : State).setVm s₂.vm).setTop g).pushFrame (.throwing q))
    rw [← hs₂]
    exact hsteps
end Payer
section Calls
variable {p : Program} {l : Launch} {e : Env} {R : Room} {s : State} {m : MethodId} {args : Array Value} {below : List Frame} {meth : Method} {c : Code} {T : State} {locs : List Loc} {cells slots : Nat}
theorem vx_callV (X : Stand p l e R s m args below meth c T locs cells slots) (hexec : p.tables.exec = Jvm.exec) {own C : String} {index : Nat} {y : MethodName} {bytes : ByteArray} {maxL : Nat} {ret : Option FieldType}
    (hown : s.vm.findClass own = some m.cls) (hlink : (Cond.methodLink own index y).before args s = true) (hinst : (Cond.instanceMethod y).before args s = true) (hsel : (Cond.selects C y y).before args s = true)
    (hcode : (Cond.code y bytes maxL ret).before args s = true) (hy : y.cls ≠ "java/lang/invoke/MethodHandle" ∧ y.cls ≠ "java/lang/invoke/VarHandle")
    {W9 : Nat} {Pre : Pt → Array Value → Prop} {Post : Pt → Array Value → Option Value → Pt → Prop} {PostX : Pt → Array Value → Addr → Pt → Prop} (hK : vx_Back l R p e below s args y 3 W9 Pre Post PostX)
    {b : Addr} {cellB : Cell} (hcell : T.heap[b]? = some cellB) (hobj : cellB.vm.isStatics = false) (hcls : s.vm.findClass C = some cellB.cls)
    {g : JFrame} (hg : g.method = m) (hsize : g.locals.size = c.maxLocals) {argsL rest : List Value} (hlen : ∀ sig, parseMethodDescriptor y.desc = some sig → argsL.length = sig.parameters.length)
    (hstack : g.stack = argsL.reverse ++ .ref b :: rest) (hW : 2 * g.monitorRoom + (rest.map fun v => v.category).sum ≤ W9) (hdg : decode c.code g.pc = .ok (.invokevirtual index, 3))
    (hpre : ∀ vm₁, s.WarmedH vm₁ → Pre ⟨T.setVm vm₁, locs, cells, slots⟩ (Value.ref b :: argsL).toArray) :
    (∃ (v : Option Value) (vm₁ : Vm) (B : Pt), s.WarmedH vm₁ ∧ Stand p l e R s m args below meth c B.U B.locs B.cells B.slots ∧ Post ⟨T.setVm vm₁, locs, cells, slots⟩ (Value.ref b :: argsL).toArray v B ∧
      ∀ target, Steps p.tables e below (B.U.setTop { g with pc := g.pc + 3, stack := v.toList ++ rest }) target → Steps p.tables e below (T.setTop g) target) ∨
    (∃ (q : Addr) (vm₁ : Vm) (B : Pt), s.WarmedH vm₁ ∧ Stand p l e R s m args below meth c B.U B.locs B.cells B.slots ∧ PostX ⟨T.setVm vm₁, locs, cells, slots⟩ (Value.ref b :: argsL).toArray q B ∧
      Steps p.tables e below (T.setTop g) ((B.U.setTop { g with stack := rest }).pushFrame (.throwing q))) := by
  obtain ⟨mk, methM, hnamed, hmethM, hstM, habM⟩ := Cond.instanceMethod_spec hinst
  obtain ⟨methM', cM, hmethM', -, -, -, -, -, -, hsigM⟩ := Cond.code_spec hnamed hcode
  cases hmethM.symm.trans hmethM'
  obtain ⟨c2, r2, m2, q1, q2, q3, q4, kP, hkP, hkPi⟩ := Cond.selects_spec hsel
  cases hcls.symm.trans q1
  cases (State.methodFound?_of_named hnamed hy).symm.trans q2
  cases hnamed.symm.trans q3
  have hselP : selectMethod e.platform s.vm cellB.cls mk = .method mk := by rw [Launch.admits_selectMethod X.admits]; exact q4
  obtain ⟨vm₁, X₁, hstep₁⟩ := X.invokevirtual hexec hown hlink hnamed hmethM hstM hkP hkPi hy (a := b) (cell := cellB) hcell
    (fun z h => by rw [h] at hobj; cases hobj) hselP hmethM habM hkP hkPi (g := g) hg (argsL := argsL) (rest := rest) (hlen _ hsigM) hstack hdg
  rcases hK m meth c ⟨T.setVm vm₁, locs, cells, slots⟩ { g with stack := rest } (.invokevirtual index) mk (Value.ref b :: argsL).toArray X₁ hg hsize hdg hW (X₁.named hnamed) (hpre vm₁ X₁.warmed) with ⟨v, B, X', hpost, hsteps⟩ | ⟨q, B, X', hpost, hsteps⟩
  · exact Or.inl ⟨v, vm₁, B, X₁.warmed, X', hpost, fun target h => hstep₁ _ fun acts => by rw [doInvoke_state]; exact hsteps.trans h⟩
  · exact Or.inr ⟨q, vm₁, B, X₁.warmed, X', hpost, hstep₁ _ fun acts => by rw [doInvoke_state]; exact hsteps⟩
theorem vx_callS (X : Stand p l e R s m args below meth c T locs cells slots) (hexec : p.tables.exec = Jvm.exec) {own : String} {index : Nat} {y : MethodName} {bytes : ByteArray} {maxL : Nat} {ret : Option FieldType}
    (hown : s.vm.findClass own = some m.cls) (hlink : (Cond.methodLink own index y).before args s = true) (hstat : (Cond.static y).before args s = true) (hinit : (Cond.initialized y.cls).before args s = true)
    (hcode : (Cond.code y bytes maxL ret).before args s = true) (hy : y.cls ≠ "java/lang/invoke/MethodHandle" ∧ y.cls ≠ "java/lang/invoke/VarHandle")
    {W9 : Nat} {Pre : Pt → Array Value → Prop} {Post : Pt → Array Value → Option Value → Pt → Prop} {PostX : Pt → Array Value → Addr → Pt → Prop} (hK : vx_Back l R p e below s args y 3 W9 Pre Post PostX)
    {g : JFrame} (hg : g.method = m) (hsize : g.locals.size = c.maxLocals) {argsL rest : List Value} (hlen : ∀ sig, parseMethodDescriptor y.desc = some sig → argsL.length = sig.parameters.length)
    (hstack : g.stack = argsL.reverse ++ rest) (hW : 2 * g.monitorRoom + (rest.map fun v => v.category).sum ≤ W9) (hdg : decode c.code g.pc = .ok (.invokestatic index, 3))
    (hpre : ∀ vm₁, s.WarmedH vm₁ → Pre ⟨T.setVm vm₁, locs, cells, slots⟩ argsL.toArray) :
    (∃ (v : Option Value) (vm₁ : Vm) (B : Pt), s.WarmedH vm₁ ∧ Stand p l e R s m args below meth c B.U B.locs B.cells B.slots ∧ Post ⟨T.setVm vm₁, locs, cells, slots⟩ argsL.toArray v B ∧
      ∀ target, Steps p.tables e below (B.U.setTop { g with pc := g.pc + 3, stack := v.toList ++ rest }) target → Steps p.tables e below (T.setTop g) target) ∨
    (∃ (q : Addr) (vm₁ : Vm) (B : Pt), s.WarmedH vm₁ ∧ Stand p l e R s m args below meth c B.U B.locs B.cells B.slots ∧ PostX ⟨T.setVm vm₁, locs, cells, slots⟩ argsL.toArray q B ∧
      Steps p.tables e below (T.setTop g) ((B.U.setTop { g with stack := rest }).pushFrame (.throwing q))) := by
  obtain ⟨mk, hnamed⟩ := Cond.code_named hcode
  obtain ⟨methM, cM, hmethM, -, -, -, -, -, -, hsigM⟩ := Cond.code_spec hnamed hcode
  have hstatic : methM.isStatic = true := Cond.static_spec hnamed hmethM hstat
  obtain ⟨kP, hkP, -⟩ := className_of_methodNamed hnamed
  have hinitP : kP.init = .initialized := Cond.initialized_spec (findClass_of_methodNamed hnamed) hkP hinit
  obtain ⟨vm₁, X₁, hstep₁⟩ := X.invokestatic hexec hown hlink hnamed hmethM hstatic hkP hinitP hy (g := g) hg (argsL := argsL) (rest := rest) (hlen _ hsigM) hstack hdg
  rcases hK m meth c ⟨T.setVm vm₁, locs, cells, slots⟩ { g with stack := rest } (.invokestatic index) mk argsL.toArray X₁ hg hsize hdg hW (X₁.named hnamed) (hpre vm₁ X₁.warmed) with ⟨v, B, X', hpost, hsteps⟩ | ⟨q, B, X', hpost, hsteps⟩
  · exact Or.inl ⟨v, vm₁, B, X₁.warmed, X', hpost, fun target h => hstep₁ _ fun acts => by rw [doInvoke_state]; exact hsteps.trans h⟩
  · exact Or.inr ⟨q, vm₁, B, X₁.warmed, X', hpost, hstep₁ _ fun acts => by rw [doInvoke_state]; exact hsteps⟩
end Calls
theorem vx_cls {s : State} {T : State} {vm₁ : Vm} {E : String} {k : ClassId} (hW : s.WarmedH vm₁) (h : (T.setVm vm₁).vm.findClass E = some k) : s.vm.findClass E = some k := by
  have h1 : vm₁.findClass E = some k := h
  rw [hW.alike.findClass] at h1
  exact h1
/-- the method's frame g, with q thrown over it -/
def vx_W (p : Program) (l : Launch) (e : Env) (R : Room) (s : State) (m : MethodId) (args : Array Value) (below : List Frame) (meth : Method) (c : Code) (H : Heap) (locs : List Loc) (cells slots : Nat) (Q : State → Prop) (g : JFrame) (q : Addr) : Prop :=
  ∀ T : State, T.heap = H → Stand p l e R s m args below meth c T locs cells slots → ∃ t, Steps p.tables e below ((T.setTop g).pushFrame (.throwing q)) t ∧ Q t
def vx_Run (p : Program) (l : Launch) (e : Env) (R : Room) (s : State) (m : MethodId) (args : Array Value) (below : List Frame) (meth : Method) (c : Code) (H : Heap) (locs : List Loc) (cells slots mc ms : Nat) (g : JFrame) (rest : List Value) (Qa : State → Outcome → State → Prop) (XC : String → State → State → Prop) (free : Addr → Prop) : Prop :=
  ∀ T : State, T.heap = H → Stand p l e R s m args below meth c T locs cells slots →
    (∃ (v : Option Value) (st₀ t T' : State) (L : List Loc), st₀.heap = H ∧ Stand p l e R s m args below meth c T' (locs ++ L) (cells + mc) (slots + ms) ∧ (∀ q ∈ L, free q.base) ∧ T'.heap = t.heap ∧ T'.vm = t.vm ∧ Qa st₀ (.returned v) t ∧
      Goes p e below T g T' { g with pc := g.pc + 3, stack := v.toList ++ rest }) ∨
    (∃ (q : Addr) (st₀ t T' : State) (L : List Loc) (E : String) (ce : Cell), st₀.heap = H ∧ Stand p l e R s m args below meth c T' (locs ++ L) (cells + mc) (slots + ms) ∧ (∀ z ∈ L, free z.base) ∧ T'.heap = t.heap ∧ T'.vm = t.vm ∧ XC E st₀ t ∧ t.heap[q]? = some ce ∧ ce.vm = .none ∧ s.vm.findClass E = some ce.cls ∧
      Steps p.tables e below (T.setTop g) ((T'.setTop { g with stack := rest }).pushFrame (.throwing q)))
def vx_X {S : Type} (px : S → Prop) (B : String → S → State → Prop) (A : Nat → Prop) : String → State → State → Prop := fun E st t => ∃ u : S, px u ∧ B E u t ∧ va_F A st t
section Runs
variable {p : Program} {l : Launch} {e : Env} {R : Room} {s : State} {m : MethodId} {args : Array Value} {below : List Frame} {meth : Method} {c : Code} {H : Heap} {locs : List Loc} {cells slots : Nat}
variable {y : MethodName} {bytes cc : ByteArray} {maxL nL mc ms n index : Nat} {ret : Option FieldType} {ws : List Cond} {rm : Room} {Pc : Array Value → State → Prop} {Qc : Array Value → State → Outcome → State → Prop} {XC : String → State → State → Prop} {free : Addr → Prop} {Ts : List Cond} {own C : String} {b : Addr} {As rest : List Value} {g : JFrame}
theorem vx_callBack (cb : CallB R s args own index y bytes maxL ret ws rm mc ms n) (hM : vx_Met l y ws rm Pc Qc XC mc ms free) (hbl : FrameBlind Pc) : vx_Back l R p e below s args y 3 8 (PreOf R mc ms Pc) (PostOf Qc mc ms free) (vx_Post XC mc ms free) := by
  obtain ⟨hrc, hrs, hfr, hlo, hws, hcw, -, hini, -⟩ := cb
  exact vx_back (bytes := bytes) (maxL := maxL) (ret := ret) hM hbl hrc hrs hfr hlo hws hcw (fun a' U hW => word_at hW (Or.inl (by first | rfl | simp [Cond.onTables, Cond.keeps, Cond.steady])) hini)
theorem vx_runV (S : CallFix p m c cc nL s args Ts own) (hM : vx_Met l y ws rm Pc Qc XC mc ms free) (cw : CallW R s args own C index y bytes maxL ret ws rm mc ms n) (hp : PreV s H C b Pc As)
    (hg : g.method = m) (hn : As.length = n) (hsize : g.locals.size = nL) (hstack : g.stack = As.reverse ++ .ref b :: rest) (hW : 2 * g.monitorRoom + (rest.map fun v => v.category).sum ≤ 8) (hdg : decode cc g.pc = .ok (.invokevirtual index, 3)) (hf : cells + mc ≤ R.cells ∧ slots + ms ≤ R.slots) :
    vx_Run p l e R s m args below meth c H locs cells slots mc ms g rest (Qc (Value.ref b :: As).toArray) XC free := by
  have hK : vx_Back l R p e below s args y 3 8 (PreOf R mc ms Pc) (PostOf Qc mc ms free) (vx_Post XC mc ms free) := vx_callBack cw.1 hM hp.1
  obtain ⟨⟨-, -, -, -, -, -, hcode, -, hy, hlen, hl⟩, hin, hse⟩ := cw
  obtain ⟨hx, hb, hml, ho, -⟩ := S
  obtain ⟨-, ⟨cellB, hcB, hoB, hclB⟩, hPc⟩ := hp
  intro T hT X
  rcases vx_callV X hx (C := C) (bytes := bytes) (maxL := maxL) (ret := ret) ho hl hin hse hcode hy hK (by rw [hT]; exact hcB) hoB hclB hg (hsize.trans hml.symm) (argsL := As) (rest := rest) (fun sig h => hn.trans (hlen sig h)) hstack hW (by rw [hb]; exact hdg)
    (fun vm₁ hW₁ => ⟨hf.1, hf.2, hPc (T.setVm vm₁) hT hW₁⟩) with ⟨v, vm₁, ⟨U', l2, c2, s2⟩, hW₁, X', ⟨g', mk, t, L, e1, e2, hq, h1, hL, h2, h3⟩, st⟩ | ⟨q, vm₁, ⟨U', l2, c2, s2⟩, hW₁, X', ⟨g', mk, t, L, E, ce, e1, e2, hq, hce, hcv, hcl, h1, hL, h2, h3⟩, st⟩
  · dsimp only [Pt.U, Pt.locs, Pt.cells, Pt.slots] at X' e1 e2 h1 h2 h3 st
    subst h1; subst h2; subst h3
    exact Or.inl ⟨v, (T.setVm vm₁).calling g' mk (Value.ref b :: As).toArray, t, U', L, hT, X', hL, e1, e2, hq, st⟩
  · dsimp only [Pt.U, Pt.locs, Pt.cells, Pt.slots] at X' e1 e2 h1 h2 h3 st hcl
    subst h1; subst h2; subst h3
    exact Or.inr ⟨q, (T.setVm vm₁).calling g' mk (Value.ref b :: As).toArray, t, U', L, E, ce, hT, X', hL, e1, e2, hq, hce, hcv, vx_cls hW₁ hcl, st⟩
theorem vx_runS (S : CallFix p m c cc nL s args Ts own) (hM : vx_Met l y ws rm Pc Qc XC mc ms free) (cw : CallB R s args own index y bytes maxL ret ws rm mc ms n ∧ (Cond.static y).before args s = true) (hp : PreS s H Pc As)
    (hg : g.method = m) (hn : As.length = n) (hsize : g.locals.size = nL) (hstack : g.stack = As.reverse ++ rest) (hW : 2 * g.monitorRoom + (rest.map fun v => v.category).sum ≤ 8) (hdg : decode cc g.pc = .ok (.invokestatic index, 3)) (hf : cells + mc ≤ R.cells ∧ slots + ms ≤ R.slots) :
    vx_Run p l e R s m args below meth c H locs cells slots mc ms g rest (Qc As.toArray) XC free := by
  have hK : vx_Back l R p e below s args y 3 8 (PreOf R mc ms Pc) (PostOf Qc mc ms free) (vx_Post XC mc ms free) := vx_callBack cw.1 hM hp.1
  obtain ⟨⟨-, -, -, -, -, -, hcode, hini, hy, hlen, hl⟩, hstt⟩ := cw
  obtain ⟨hx, hb, hml, ho, -⟩ := S
  intro T hT X
  rcases vx_callS X hx (bytes := bytes) (maxL := maxL) (ret := ret) ho hl hstt hini hcode hy hK hg (hsize.trans hml.symm) (argsL := As) (rest := rest) (fun sig h => hn.trans (hlen sig h)) hstack hW (by rw [hb]; exact hdg)
    (fun vm₁ hW₁ => ⟨hf.1, hf.2, hp.2 (T.setVm vm₁) hT hW₁⟩) with ⟨v, vm₁, ⟨U', l2, c2, s2⟩, hW₁, X', ⟨g', mk, t, L, e1, e2, hq, h1, hL, h2, h3⟩, st⟩ | ⟨q, vm₁, ⟨U', l2, c2, s2⟩, hW₁, X', ⟨g', mk, t, L, E, ce, e1, e2, hq, hce, hcv, hcl, h1, hL, h2, h3⟩, st⟩
  · dsimp only [Pt.U, Pt.locs, Pt.cells, Pt.slots] at X' e1 e2 h1 h2 h3 st
    subst h1; subst h2; subst h3
    exact Or.inl ⟨v, (T.setVm vm₁).calling g' mk As.toArray, t, U', L, hT, X', hL, e1, e2, hq, st⟩
  · dsimp only [Pt.U, Pt.locs, Pt.cells, Pt.slots] at X' e1 e2 h1 h2 h3 st hcl
    subst h1; subst h2; subst h3
    exact Or.inr ⟨q, (T.setVm vm₁).calling g' mk As.toArray, t, U', L, E, ce, hT, X', hL, e1, e2, hq, hce, hcv, vx_cls hW₁ hcl, st⟩
end Runs
section Rows
variable {p : Program} {l : Launch} {e : Env} {R : Room} {s : State} {m : MethodId} {args : Array Value} {below : List Frame} {meth : Method} {c : Code} {H : Heap} {locs : List Loc} {cells slots : Nat} {Q : State → Prop}
variable {mc ms : Nat} {free : Addr → Prop} {A0 A1 : Nat → Prop} {H0 : Heap} {a : Array Value} {pc : Nat} {ls : Array Slot} {st0 rest : List Value}
theorem vx_keep {st₀ t T' : State} {L : List Loc} (h0 : st₀.heap = H) (e1 : T'.heap = t.heap) (hS : va_S A0 H0 H locs) (hA : ∀ q, q < H.size → A1 q → A0 q) (hf : ∀ q, free q → A0 q) (hL : ∀ q ∈ L, free q.base) (hF : va_F A1 st₀ t) :
    H.size ≤ T'.heap.size ∧ (∀ q : Nat, q < H.size → ¬ A1 q → T'.heap[q]? = H[q]?) ∧ va_S A0 H0 T'.heap (locs ++ L) := by
  obtain ⟨hz, hk⟩ := hF
  rw [h0] at hz hk
  exact ⟨by rw [e1]; exact hz, fun q h1 h2 => by rw [e1]; exact hk q h1 h2,
    ⟨Nat.le_trans hS.1 (by rw [e1]; exact hz), fun q h1 h2 => by rw [e1, hk q (Nat.lt_of_lt_of_le h1 hS.1) (fun z => h2 (hA q (Nat.lt_of_lt_of_le h1 hS.1) z))]; exact hS.2.1 q h1 h2, fun q hq => by
      rcases List.mem_append.mp hq with h | h
      · exact hS.2.2 q h
      · exact hf _ (hL q h)⟩⟩
theorem vx_calli {S SX : Type} {post : Int32 → S → Prop} {px : SX → Prop} {B : S → State → Prop} {BX : String → SX → State → Prop} {AX : Nat → Prop} (hr : vx_Run p l e R s m args below meth c H locs cells slots mc ms (F0 m pc ls st0) rest (va_Qi post B A1 a) (vx_X px BX AX) free) (hS : va_S A0 H0 H locs) (hA : ∀ q, q < H.size → A1 q → A0 q) (hf : ∀ q, free q → A0 q) (hAX : ∀ q, q < H.size → AX q → A0 q)
    (kx : ∀ (E : String) (ce : Cell) (q9 : Addr) (u : SX) (t : State) (H1 : Heap) (locs1 : List Loc), t.heap = H1 → s.vm.Alike t.vm → px u → BX E u t → H.size ≤ H1.size → (∀ q : Nat, q < H.size → ¬ AX q → H1[q]? = H[q]?) → va_S A0 H0 H1 locs1 → H1[q9]? = some ce → ce.vm = .none → s.vm.findClass E = some ce.cls → vx_W p l e R s m args below meth c H1 locs1 (cells + mc) (slots + ms) Q (F0 m pc ls rest) q9)
    (kk : ∀ (r : Int32) (u : S) (t : State) (H1 : Heap) (locs1 : List Loc), t.heap = H1 → s.vm.Alike t.vm → post r u → B u t → H.size ≤ H1.size → (∀ q : Nat, q < H.size → ¬ A1 q → H1[q]? = H[q]?) → va_S A0 H0 H1 locs1 → W p l e R s m args below meth c H1 locs1 (cells + mc) (slots + ms) Q (F0 m (pc + 3) ls (.int r :: rest))) : W p l e R s m args below meth c H locs cells slots Q (F0 m pc ls st0) := by
  intro T hT X
  rcases hr T hT X with ⟨v, st₀, t, T', L, h0, X', hL, e1, e2, ⟨⟨r, u, hv, hp, hb⟩, hF⟩, st⟩ | ⟨q, st₀, t, T', L, E, ce, h0, X', hL, e1, e2, ⟨u, hp, hb, hF⟩, hce, hcv, hcl, st⟩
  · cases hv
    obtain ⟨k1, k2, k3⟩ := vx_keep h0 e1 hS hA hf hL hF
    obtain ⟨t2, a1, b1⟩ := kk r u t T'.heap (locs ++ L) e1.symm (by rw [← e2]; exact X'.warmed.alike) hp hb k1 k2 k3 T' rfl X'
    exact ⟨t2, st t2 a1, b1⟩
  · obtain ⟨k1, k2, k3⟩ := vx_keep h0 e1 hS hAX hf hL hF
    obtain ⟨t2, a1, b1⟩ := kx E ce q u t T'.heap (locs ++ L) e1.symm (by rw [← e2]; exact X'.warmed.alike) hp hb k1 k2 k3 (by rw [e1]; exact hce) hcv hcl T' rfl X'
    exact ⟨t2, st.trans a1, b1⟩
theorem vx_calll {S SX : Type} {post : Int64 → S → Prop} {px : SX → Prop} {B : S → State → Prop} {BX : String → SX → State → Prop} {AX : Nat → Prop} (hr : vx_Run p l e R s m args below meth c H locs cells slots mc ms (F0 m pc ls st0) rest (va_Ql post B A1 a) (vx_X px BX AX) free) (hS : va_S A0 H0 H locs) (hA : ∀ q, q < H.size → A1 q → A0 q) (hf : ∀ q, free q → A0 q) (hAX : ∀ q, q < H.size → AX q → A0 q)
    (kx : ∀ (E : String) (ce : Cell) (q9 : Addr) (u : SX) (t : State) (H1 : Heap) (locs1 : List Loc), t.heap = H1 → s.vm.Alike t.vm → px u → BX E u t → H.size ≤ H1.size → (∀ q : Nat, q < H.size → ¬ AX q → H1[q]? = H[q]?) → va_S A0 H0 H1 locs1 → H1[q9]? = some ce → ce.vm = .none → s.vm.findClass E = some ce.cls → vx_W p l e R s m args below meth c H1 locs1 (cells + mc) (slots + ms) Q (F0 m pc ls rest) q9)
    (kk : ∀ (r : Int64) (u : S) (t : State) (H1 : Heap) (locs1 : List Loc), t.heap = H1 → s.vm.Alike t.vm → post r u → B u t → H.size ≤ H1.size → (∀ q : Nat, q < H.size → ¬ A1 q → H1[q]? = H[q]?) → va_S A0 H0 H1 locs1 → W p l e R s m args below meth c H1 locs1 (cells + mc) (slots + ms) Q (F0 m (pc + 3) ls (.long r :: rest))) : W p l e R s m args below meth c H locs cells slots Q (F0 m pc ls st0) := by
  intro T hT X
  rcases hr T hT X with ⟨v, st₀, t, T', L, h0, X', hL, e1, e2, ⟨⟨r, u, hv, hp, hb⟩, hF⟩, st⟩ | ⟨q, st₀, t, T', L, E, ce, h0, X', hL, e1, e2, ⟨u, hp, hb, hF⟩, hce, hcv, hcl, st⟩
  · cases hv
    obtain ⟨k1, k2, k3⟩ := vx_keep h0 e1 hS hA hf hL hF
    obtain ⟨t2, a1, b1⟩ := kk r u t T'.heap (locs ++ L) e1.symm (by rw [← e2]; exact X'.warmed.alike) hp hb k1 k2 k3 T' rfl X'
    exact ⟨t2, st t2 a1, b1⟩
  · obtain ⟨k1, k2, k3⟩ := vx_keep h0 e1 hS hAX hf hL hF
    obtain ⟨t2, a1, b1⟩ := kx E ce q u t T'.heap (locs ++ L) e1.symm (by rw [← e2]; exact X'.warmed.alike) hp hb k1 k2 k3 (by rw [e1]; exact hce) hcv hcl T' rfl X'
    exact ⟨t2, st.trans a1, b1⟩
theorem vx_callf {S SX : Type} {post : UInt32 → S → Prop} {px : SX → Prop} {B : S → State → Prop} {BX : String → SX → State → Prop} {AX : Nat → Prop} (hr : vx_Run p l e R s m args below meth c H locs cells slots mc ms (F0 m pc ls st0) rest (va_Qf post B A1 a) (vx_X px BX AX) free) (hS : va_S A0 H0 H locs) (hA : ∀ q, q < H.size → A1 q → A0 q) (hf : ∀ q, free q → A0 q) (hAX : ∀ q, q < H.size → AX q → A0 q)
    (kx : ∀ (E : String) (ce : Cell) (q9 : Addr) (u : SX) (t : State) (H1 : Heap) (locs1 : List Loc), t.heap = H1 → s.vm.Alike t.vm → px u → BX E u t → H.size ≤ H1.size → (∀ q : Nat, q < H.size → ¬ AX q → H1[q]? = H[q]?) → va_S A0 H0 H1 locs1 → H1[q9]? = some ce → ce.vm = .none → s.vm.findClass E = some ce.cls → vx_W p l e R s m args below meth c H1 locs1 (cells + mc) (slots + ms) Q (F0 m pc ls rest) q9)
    (kk : ∀ (r : UInt32) (u : S) (t : State) (H1 : Heap) (locs1 : List Loc), t.heap = H1 → s.vm.Alike t.vm → post r u → B u t → H.size ≤ H1.size → (∀ q : Nat, q < H.size → ¬ A1 q → H1[q]? = H[q]?) → va_S A0 H0 H1 locs1 → W p l e R s m args below meth c H1 locs1 (cells + mc) (slots + ms) Q (F0 m (pc + 3) ls (.float r :: rest))) : W p l e R s m args below meth c H locs cells slots Q (F0 m pc ls st0) := by
  intro T hT X
  rcases hr T hT X with ⟨v, st₀, t, T', L, h0, X', hL, e1, e2, ⟨⟨r, u, hv, hp, hb⟩, hF⟩, st⟩ | ⟨q, st₀, t, T', L, E, ce, h0, X', hL, e1, e2, ⟨u, hp, hb, hF⟩, hce, hcv, hcl, st⟩
  · cases hv
    obtain ⟨k1, k2, k3⟩ := vx_keep h0 e1 hS hA hf hL hF
    obtain ⟨t2, a1, b1⟩ := kk r u t T'.heap (locs ++ L) e1.symm (by rw [← e2]; exact X'.warmed.alike) hp hb k1 k2 k3 T' rfl X'
    exact ⟨t2, st t2 a1, b1⟩
  · obtain ⟨k1, k2, k3⟩ := vx_keep h0 e1 hS hAX hf hL hF
    obtain ⟨t2, a1, b1⟩ := kx E ce q u t T'.heap (locs ++ L) e1.symm (by rw [← e2]; exact X'.warmed.alike) hp hb k1 k2 k3 (by rw [e1]; exact hce) hcv hcl T' rfl X'
    exact ⟨t2, st.trans a1, b1⟩
theorem vx_calld {S SX : Type} {post : UInt64 → S → Prop} {px : SX → Prop} {B : S → State → Prop} {BX : String → SX → State → Prop} {AX : Nat → Prop} (hr : vx_Run p l e R s m args below meth c H locs cells slots mc ms (F0 m pc ls st0) rest (va_Qd post B A1 a) (vx_X px BX AX) free) (hS : va_S A0 H0 H locs) (hA : ∀ q, q < H.size → A1 q → A0 q) (hf : ∀ q, free q → A0 q) (hAX : ∀ q, q < H.size → AX q → A0 q)
    (kx : ∀ (E : String) (ce : Cell) (q9 : Addr) (u : SX) (t : State) (H1 : Heap) (locs1 : List Loc), t.heap = H1 → s.vm.Alike t.vm → px u → BX E u t → H.size ≤ H1.size → (∀ q : Nat, q < H.size → ¬ AX q → H1[q]? = H[q]?) → va_S A0 H0 H1 locs1 → H1[q9]? = some ce → ce.vm = .none → s.vm.findClass E = some ce.cls → vx_W p l e R s m args below meth c H1 locs1 (cells + mc) (slots + ms) Q (F0 m pc ls rest) q9)
    (kk : ∀ (r : UInt64) (u : S) (t : State) (H1 : Heap) (locs1 : List Loc), t.heap = H1 → s.vm.Alike t.vm → post r u → B u t → H.size ≤ H1.size → (∀ q : Nat, q < H.size → ¬ A1 q → H1[q]? = H[q]?) → va_S A0 H0 H1 locs1 → W p l e R s m args below meth c H1 locs1 (cells + mc) (slots + ms) Q (F0 m (pc + 3) ls (.double r :: rest))) : W p l e R s m args below meth c H locs cells slots Q (F0 m pc ls st0) := by
  intro T hT X
  rcases hr T hT X with ⟨v, st₀, t, T', L, h0, X', hL, e1, e2, ⟨⟨r, u, hv, hp, hb⟩, hF⟩, st⟩ | ⟨q, st₀, t, T', L, E, ce, h0, X', hL, e1, e2, ⟨u, hp, hb, hF⟩, hce, hcv, hcl, st⟩
  · cases hv
    obtain ⟨k1, k2, k3⟩ := vx_keep h0 e1 hS hA hf hL hF
    obtain ⟨t2, a1, b1⟩ := kk r u t T'.heap (locs ++ L) e1.symm (by rw [← e2]; exact X'.warmed.alike) hp hb k1 k2 k3 T' rfl X'
    exact ⟨t2, st t2 a1, b1⟩
  · obtain ⟨k1, k2, k3⟩ := vx_keep h0 e1 hS hAX hf hL hF
    obtain ⟨t2, a1, b1⟩ := kx E ce q u t T'.heap (locs ++ L) e1.symm (by rw [← e2]; exact X'.warmed.alike) hp hb k1 k2 k3 (by rw [e1]; exact hce) hcv hcl T' rfl X'
    exact ⟨t2, st.trans a1, b1⟩
theorem vx_callv {S SX : Type} {post : S → Prop} {px : SX → Prop} {B : S → State → Prop} {BX : String → SX → State → Prop} {AX : Nat → Prop} (hr : vx_Run p l e R s m args below meth c H locs cells slots mc ms (F0 m pc ls st0) rest (va_Qv post B A1 a) (vx_X px BX AX) free) (hS : va_S A0 H0 H locs) (hA : ∀ q, q < H.size → A1 q → A0 q) (hf : ∀ q, free q → A0 q) (hAX : ∀ q, q < H.size → AX q → A0 q)
    (kx : ∀ (E : String) (ce : Cell) (q9 : Addr) (u : SX) (t : State) (H1 : Heap) (locs1 : List Loc), t.heap = H1 → s.vm.Alike t.vm → px u → BX E u t → H.size ≤ H1.size → (∀ q : Nat, q < H.size → ¬ AX q → H1[q]? = H[q]?) → va_S A0 H0 H1 locs1 → H1[q9]? = some ce → ce.vm = .none → s.vm.findClass E = some ce.cls → vx_W p l e R s m args below meth c H1 locs1 (cells + mc) (slots + ms) Q (F0 m pc ls rest) q9)
    (kk : ∀ (u : S) (t : State) (H1 : Heap) (locs1 : List Loc), t.heap = H1 → s.vm.Alike t.vm → post u → B u t → H.size ≤ H1.size → (∀ q : Nat, q < H.size → ¬ A1 q → H1[q]? = H[q]?) → va_S A0 H0 H1 locs1 → W p l e R s m args below meth c H1 locs1 (cells + mc) (slots + ms) Q (F0 m (pc + 3) ls (rest))) : W p l e R s m args below meth c H locs cells slots Q (F0 m pc ls st0) := by
  intro T hT X
  rcases hr T hT X with ⟨v, st₀, t, T', L, h0, X', hL, e1, e2, ⟨⟨u, hv, hp, hb⟩, hF⟩, st⟩ | ⟨q, st₀, t, T', L, E, ce, h0, X', hL, e1, e2, ⟨u, hp, hb, hF⟩, hce, hcv, hcl, st⟩
  · cases hv
    obtain ⟨k1, k2, k3⟩ := vx_keep h0 e1 hS hA hf hL hF
    obtain ⟨t2, a1, b1⟩ := kk u t T'.heap (locs ++ L) e1.symm (by rw [← e2]; exact X'.warmed.alike) hp hb k1 k2 k3 T' rfl X'
    exact ⟨t2, st t2 a1, b1⟩
  · obtain ⟨k1, k2, k3⟩ := vx_keep h0 e1 hS hAX hf hL hF
    obtain ⟨t2, a1, b1⟩ := kx E ce q u t T'.heap (locs ++ L) e1.symm (by rw [← e2]; exact X'.warmed.alike) hp hb k1 k2 k3 (by rw [e1]; exact hce) hcv hcl T' rfl X'
    exact ⟨t2, st.trans a1, b1⟩
/-- caught by the row x of this method's table; the rows ahead don't take it -/
theorem vx_catch {own name : String} {E : String} {ce : Cell} {q : Addr} (hown : s.vm.findClass own = some m.cls) (pre : List ExceptionTableEntry) (x : ExceptionTableEntry) (suf : List ExceptionTableEntry) (hsplit : c.exceptionTable.toList = pre ++ x :: suf)
    (hpass : ∀ z ∈ pre, covers z pc = false ∨ (z.catchType ≠ 0 ∧ ∃ nm : String, (Cond.classLink own z.catchType nm).before args s = true ∧ va_Nc E nm s)) (hx : covers x pc = true) (h0 : x.catchType ≠ 0)
    (hlink : (Cond.classLink own x.catchType name).before args s = true) (hcast : (Cond.castable E name).before args s = true) (hcell : H[q]? = some ce) (hv : ce.vm = .none) (hcl : s.vm.findClass E = some ce.cls)
    (kk : W p l e R s m args below meth c H locs cells slots Q (F0 m x.handlerPc ls [.ref q])) : vx_W p l e R s m args below meth c H locs cells slots Q (F0 m pc ls rest) q := by
  intro T hT X
  have hpl : e.platform.magicAccessors = ({} : Platform).magicAccessors := by rw [X.admits.platform]
  obtain ⟨c3, c4, hc3, hc4, hasg⟩ := Cond.castable_spec hcast
  cases Option.some.inj (hc3.symm.trans hcl)
  obtain ⟨c5, hc5, hcl5⟩ := Cond.classLink_spec hown hlink e.platform hpl
  cases Option.some.inj (hc4.symm.trans hc5)
  obtain ⟨vm', X', st⟩ := X.thenCaughtThrough q (g := F0 m pc ls rest) rfl (Steps.refl _) (by rw [hT]; exact hcell) (by rw [hv]; rfl) (by obtain ⟨k9, h9, -⟩ := Vm.findClass_spec hcl; exact ⟨k9, h9⟩) pre x suf hsplit
    (fun z hz => by
      rcases hpass z hz with h | ⟨hz0, nm, hl1, hn1⟩
      · exact Or.inl h
      · obtain ⟨c6, hc6, hcl6⟩ := Cond.classLink_spec hown hl1 e.platform hpl
        obtain ⟨a8, b8, h1, h2, h3⟩ := hn1
        cases Option.some.inj (h1.symm.trans hcl)
        cases Option.some.inj (h2.symm.trans hc6)
        exact Or.inr ⟨hz0, _, hcl6, h3⟩) hx (Or.inr ⟨h0, c4, hcl5, hasg⟩)
  obtain ⟨t, a1, b1⟩ := kk (T.setVm vm') hT X'
  exact ⟨t, st.trans a1, b1⟩
end Rows
section Ends
variable {p : Program} {l : Launch} {e : Env} {R : Room} {s : State} {m : MethodId} {args : Array Value} {below : List Frame} {meth : Method} {c : Code} {H : Heap} {locs : List Loc} {cells slots : Nat} {Q : State → Prop}
variable {mc ms : Nat} {free : Addr → Prop} {A0 A1 : Nat → Prop} {H0 : Heap} {a : Array Value} {ls : Array Slot} {st0 rest : List Value}
variable {Qc : Array Value → State → Outcome → State → Prop} {XC : String → State → State → Prop}
/-- what a body that may throw owes at its end -/
def vx_MQ (below : List Frame) (Qc : Array Value → State → Outcome → State → Prop) (XC : String → State → State → Prop) (a : Array Value) (s : State) (mc ms : Nat) (free : Addr → Prop) : State → Prop := fun t =>
  ∃ o, t.status = .running ∧ Ended t below o ∧ vx_Q Qc XC mc ms free a s o t
theorem vx_ret {g : JFrame} {mc ms : Nat} (k : W p l e R s m args below meth c H locs cells slots (MQ below Qc args s mc ms free) g) : W p l e R s m args below meth c H locs cells slots (vx_MQ below Qc XC args s mc ms free) g := by
  intro T hT X
  obtain ⟨t, a1, o, b1, b2, b3, b4⟩ := k T hT X
  exact ⟨t, a1, o, b1, b2, Or.inl ⟨b3, b4⟩⟩
/-- not caught here: it goes on to the caller -/
theorem vx_widen {g : JFrame} {q : Addr} {k n : Nat} (h1 : cells ≤ k) (h2 : slots ≤ n) (kk : vx_W p l e R s m args below meth c H locs k n Q g q) : vx_W p l e R s m args below meth c H locs cells slots Q g q := fun T hT X => kk T hT (stand_widen X h1 h2)
theorem vx_out {pc : Nat} {E : String} {ce : Cell} {q : Addr} {mc ms : Nat} (hout : ∀ x ∈ c.exceptionTable.toList, covers x pc = false) (hlocks : meth.locks = false) (hcell : H[q]? = some ce) (hv : ce.vm = .none) (hcl : s.vm.findClass E = some ce.cls)
    (hx : ∀ t : State, t.heap = H → s.vm.Alike t.vm → XC E s t) (hf : ∀ z ∈ locs, free z.base) (hc : cells ≤ mc) (hs : slots ≤ ms) :
    vx_W p l e R s m args below meth c H locs cells slots (vx_MQ below Qc XC args s mc ms free) (F0 m pc ls rest) q := by
  intro T hT X
  obtain ⟨st1, hrun, hend, hW, hsm⟩ := X.leaveThrown q (g := F0 m pc ls rest) rfl rfl rfl hout hlocks
  have hcell9 : (T.setFrames (.throwing q :: below)).heap[q]? = some ce := by
    show T.heap[q]? = some ce
    rw [hT]; exact hcell
  exact ⟨_, st1, .threw q, hrun, hend, Or.inr ⟨q, rfl, E, ce, locs, hx _ hT hW.alike, hcell9, hv, hcl, hW, hsm.mono hc hs, hf⟩⟩
theorem vx_frame {U : State} {k n : Nat} (h : s.sameButNew ({ U with vm := s.vm } : State) locs k n) : s.heap.size ≤ U.heap.size ∧ ∀ q : Nat, q < s.heap.size → (∀ z ∈ locs, z.base ≠ q) → U.heap[q]? = s.heap[q]? := by
  obtain ⟨-, h2, -, -, -, h6⟩ := h
  refine ⟨h2, fun q hq hz => ?_⟩
  obtain ⟨c9, e1, e2, e3, e4⟩ := h6 q _ (Array.getElem?_eq_getElem hq)
  have hs : c9.slots = (s.heap[q]).slots := Array.ext_getElem? fun i => e4 i fun hm => hz _ hm rfl
  have h9 : c9 = s.heap[q] := by
    rw [hs] at e2
    exact e2
  have e5 : U.heap[q]? = some c9 := e1
  rw [e5, h9, Array.getElem?_eq_getElem hq]
/-- the words of a throw but the four that speak of the heap -/
def vx_no (w : Cond) : Bool := decide (w ≠ .isRef (.static Bundle.tN "UNASSIGNED_STACK" Bundle.steD)) && decide (w ≠ .isRef (.static Bundle.tN "SUPPRESSED_SENTINEL" Bundle.listD)) && decide (w ≠ .laysStatic Bundle.tN "UNASSIGNED_STACK" Bundle.steD) && decide (w ≠ .laysStatic Bundle.tN "SUPPRESSED_SENTINEL" Bundle.listD)
def vx_at0 (own : String) (ic : Nat) (X : String) (names : List String) : List Cond := (Bundle.ownAtoms0 own ic X names).filter vx_no
def vx_atS (own : String) (ic : Nat) (X : String) (names : List String) : List Cond := (Bundle.ownAtoms own ic X names).filter vx_no
/-- a word that the tables alone decide, or a good one -/
def vx_ot (w : Cond) : Bool := w.onTables || goodWord w
theorem vx_ot_at {args a' : Array Value} {s U : State} {w : Cond} (hW : s.WarmedH U.vm) (hvm : s.vm = U.vm) (hg : vx_ot w = true) (h : w.before args s = true) : w.before a' U = true := by
  simp only [vx_ot, Bool.or_eq_true] at hg
  rcases hg with hg | hg
  · exact va_tabs hg hvm h
  · exact word_at hW (good_of_word hg) h
/-- a list's words: the good ones out of the method's own list, the others by premises of their own -/
theorem vx_hat {args : Array Value} {s : State} {L B : List Cond} (h1 : ∀ w ∈ L.filter goodWord, w.before args s = true) (h2 : ∀ w ∈ L.filter (fun w => !goodWord w), w ∈ B) (h3 : ∀ w ∈ B, w.before args s = true) : ∀ w ∈ L, w.before args s = true := by
  intro w hw
  by_cases g : goodWord w = true
  · exact h1 w (List.mem_filter.mpr ⟨hw, g⟩)
  · refine h3 w (h2 w (List.mem_filter.mpr ⟨hw, ?_⟩))
    show (!goodWord w) = true
    cases hgw : goodWord w
    · rfl
    · exact absurd hgw g
theorem vx_c {args : Array Value} {s : State} {w : Cond} {B : List Cond} (h : w.before args s = true) (t : ∀ w ∈ B, w.before args s = true) : ∀ w' ∈ w :: B, w'.before args s = true := fun w' h' => (List.mem_cons.mp h').elim (fun e => by rw [e]; exact h) (t w')
theorem vx_n {args : Array Value} {s : State} : ∀ w ∈ ([] : List Cond), w.before args s = true := fun _ h => nomatch h
theorem vx_own {args : Array Value} {s : State} {L : List Cond} (h1 : ∀ w ∈ L.filter vx_no, w.before args s = true)
    (hU : (Cond.isRef (.static Bundle.tN "UNASSIGNED_STACK" Bundle.steD)).before args s = true) (hN : (Cond.isRef (.static Bundle.tN "SUPPRESSED_SENTINEL" Bundle.listD)).before args s = true)
    (lU : (Cond.laysStatic Bundle.tN "UNASSIGNED_STACK" Bundle.steD).before args s = true) (lN : (Cond.laysStatic Bundle.tN "SUPPRESSED_SENTINEL" Bundle.listD).before args s = true) : ∀ w ∈ L, w.before args s = true := by
  intro w hw
  by_cases e1 : w = .isRef (.static Bundle.tN "UNASSIGNED_STACK" Bundle.steD)
  · rw [e1]; exact hU
  · by_cases e2 : w = .isRef (.static Bundle.tN "SUPPRESSED_SENTINEL" Bundle.listD)
    · rw [e2]; exact hN
    · by_cases e3 : w = .laysStatic Bundle.tN "UNASSIGNED_STACK" Bundle.steD
      · rw [e3]; exact lU
      · by_cases e4 : w = .laysStatic Bundle.tN "SUPPRESSED_SENTINEL" Bundle.listD
        · rw [e4]; exact lN
        · exact h1 w (List.mem_filter.mpr ⟨hw, by unfold vx_no; rw [decide_eq_true e1, decide_eq_true e2, decide_eq_true e3, decide_eq_true e4]; rfl⟩)
/-- where a static field lies, its class's statics cell in H -/
def vx_L (C n d : String) (A : Nat → Prop) (U : State) (H : Heap) : Prop := ∃ (c : ClassId) (k : Class) (i : Nat) (f : Field) (a : Nat) (cell : Cell), U.vm.findClass C = some c ∧ U.fieldFound? C n d = some (c, k, i, f) ∧ f.isStatic = true ∧ k.statics = some a ∧ H[a]? = some cell ∧ cell.vm.isStatics = true ∧ cell.cls = c ∧ f.slot < cell.slots.size ∧ k.staticTypes[f.slot]? = some f.type ∧ ¬ A a
theorem vx_L.moved {C n d : String} {A : Nat → Prop} {u U : State} {H : Heap} (hvm : u.vm.Alike U.vm) (h : vx_L C n d A u H) : vx_L C n d A U H := by
  obtain ⟨c, k, i, f, a, cell, h1, h2, h3, h4, h5, h6, h7, h8, h9, h10⟩ := h
  obtain ⟨k', hi', he⟩ := State.fieldFound?_setVm hvm h2
  exact ⟨c, k', i, f, a, cell, by rw [hvm.findClass]; exact h1, hi', h3, by rw [he]; exact h4, h5, h6, h7, h8, by rw [he]; exact h9, h10⟩
theorem vx_L.kept {C n d : String} {A : Nat → Prop} {U : State} {H H1 : Heap} (h : vx_L C n d A U H) (hq : ∀ a : Nat, a < H.size → ¬ A a → H1[a]? = H[a]?) : vx_L C n d A U H1 := by
  obtain ⟨c, k, i, f, a, cell, h1, h2, h3, h4, h5, h6, h7, h8, h9, h10⟩ := h
  exact ⟨c, k, i, f, a, cell, h1, h2, h3, h4, by rw [hq a (Array.getElem?_eq_some_iff.mp h5).1 h10]; exact h5, h6, h7, h8, h9, h10⟩
theorem vx_L.narrow {C n d : String} {A B : Nat → Prop} {U : State} {H : Heap} (h : vx_L C n d A U H) (hAB : ∀ q, B q → A q) : vx_L C n d B U H := by
  obtain ⟨c, k, i, f, a, cell, h1, h2, h3, h4, h5, h6, h7, h8, h9, h10⟩ := h
  exact ⟨c, k, i, f, a, cell, h1, h2, h3, h4, h5, h6, h7, h8, h9, fun z => h10 (hAB _ z)⟩
theorem vx_L.word {C n d : String} {A : Nat → Prop} {s : State} {args : Array Value} (h : vx_L C n d A s s.heap) : (Cond.laysStatic C n d).before args s = true := by
  obtain ⟨c, k, i, f, a, cell, h1, h2, h3, h4, h5, h6, h7, h8, h9, -⟩ := h
  show (Cond.laysStatic C n d).holds args s none s [] = true
  exact Cond.laysStatic_of h1 h2 h3 h4 h5 h6 h7 h8 h9
/-- .. and what it holds: null or some reference -/
def vx_Zq (C n d : String) (A : Nat → Prop) (U : State) (H : Heap) : Prop := va_Zq C n d A U H ∧ vx_L C n d A U H
theorem vx_Zq.moved {C n d : String} {A : Nat → Prop} {u U : State} {H : Heap} (hvm : u.vm.Alike U.vm) (h : vx_Zq C n d A u H) : vx_Zq C n d A U H := ⟨va_Zq.moved hvm h.1, vx_L.moved hvm h.2⟩
theorem vx_Zq.kept {C n d : String} {A : Nat → Prop} {U : State} {H H1 : Heap} (h : vx_Zq C n d A U H) (hq : ∀ a : Nat, a < H.size → ¬ A a → H1[a]? = H[a]?) : vx_Zq C n d A U H1 := ⟨va_Zq.kept h.1 hq, vx_L.kept h.2 hq⟩
theorem vx_Zq.narrow {C n d : String} {A B : Nat → Prop} {U : State} {H : Heap} (h : vx_Zq C n d A U H) (hAB : ∀ q, B q → A q) : vx_Zq C n d B U H := ⟨va_Zq.narrow h.1 hAB, vx_L.narrow h.2 hAB⟩
theorem vx_Zqof {args : Array Value} {s : State} {C n d : String} {A : Nat → Prop} (hl : (Cond.laysStatic C n d).before args s = true) (hini : (Cond.initialized C).before args s = true) (h : (Cond.isRef (.static C n d)).before args s = true) (hA : ∀ a : Nat, a < s.heap.size → ¬ A a) : vx_Zq C n d A s s.heap := by
  refine ⟨va_Zqof hl hini h hA, ?_⟩
  obtain ⟨c, k, i, f, a, cell, h1, h2, h3, h4, h5, h6, h7, h8, h9⟩ := Cond.laysStatic_spec hl
  exact ⟨c, k, i, f, a, cell, h1, h2, h3, h4, h5, h6, h7, h8, h9, hA a (Array.getElem?_eq_some_iff.mp h5).1⟩
theorem vx_isRef {C n d : String} {v : Value} {A : Nat → Prop} {s : State} {args : Array Value} (h : va_Z C n d v A s s.heap) (hv : v.isRef = true) : (Cond.isRef (.static C n d)).before args s = true := by
  obtain ⟨cf, kf, fi, f, a, cell, h1, h2, h3, h4, h5, h6, h7, -⟩ := h
  have he : (Term.static C n d).eval args s none [] s = some v := by
    simp [Term.eval, State.fieldNamed?, h1, h2, h4, h5, h6, h7]
  simp only [Cond.before, Cond.holds, Cond.value, he]
  cases v <;> simp_all [Value.isRef]
theorem vx_isRefq {C n d : String} {A : Nat → Prop} {s : State} {args : Array Value} (h : va_Zq C n d A s s.heap) : (Cond.isRef (.static C n d)).before args s = true := by
  rcases h with h | ⟨t, h⟩
  · exact vx_isRef h rfl
  · exact vx_isRef h rfl
/-- the same frame, seen from here: as if the method were called anew in this heap -/
theorem vx_rebase {T : State} (X : Stand p l e R s m args below meth c T locs cells slots) {R' : Room} (hf : R'.frames ≤ R.frames) (hl : R'.locals ≤ R.locals) (hc : cells + R'.cells ≤ R.cells) (hs : slots + R'.slots ≤ R.slots) :
    Stand p l e R' ((T.setVm s.vm).setFrames (.invoking m args :: below)) m args below meth c T [] 0 0 := by
  have htop : (T.setVm s.vm).topJava?.isSome := X.here.top
  have hF : ((T.setVm s.vm).setFrames (.invoking m args :: below)).frames = .invoking m args :: below := State.frames_setFrames _ (State.cur_lt_of_top htop)
  obtain ⟨g₀, hg0⟩ := Option.isSome_iff_exists.mp htop
  obtain ⟨r, hr⟩ := State.topJava?_eq_some.mp hg0
  have hl9 : e.platform.stackLimits (T.setVm s.vm).me = e.platform.stackLimits s.me := X.limits
  have hb9 : (T.setVm s.vm).me.stackBytes = s.me.stackBytes := X.bytes
  refine ⟨X.admits, X.cas, X.clock, hF, ?_, X.hears, X.method, X.code, X.here, X.tail, X.warmed, ?_, ?_, ?_⟩
  · have h := X.room
    have hU : ((T.setVm s.vm).setFrames (.invoking m args :: below)).localsInUse = s.localsInUse := by
      rw [State.localsInUse_invoking hF (meth := meth) (c := c) X.method X.code, State.localsInUse_invoking X.frames X.method X.code]
    simp only [State.hasRoom, Bool.and_eq_true, decide_eq_true_eq] at h ⊢
    obtain ⟨⟨⟨⟨h1, h2, h3, h4, h5, h6⟩, h7⟩, h8⟩, h9⟩ := h
    rw [X.frames, List.length_cons] at h2 h3
    have q1 := X.heapSize
    have q2 := X.used
    simp only [hF, hU, List.length_cons, State.stackLimits_setFrames, State.stackBytes_setFrames, hl9, hb9]
    refine ⟨⟨⟨⟨by omega, by omega, by omega, by omega, by omega, h6⟩, ?_⟩, ?_⟩, X.book⟩
    · show T.heap.size + R'.cells ≤ e.platform.maxCells
      omega
    · show T.slotsUsed + R'.slots ≤ e.platform.maxSlots
      omega
  · rw [State.stackLimits_setFrames]; rfl
  · rw [State.stackBytes_setFrames]; rfl
  · refine ⟨?_, Nat.le_refl _, Nat.le_refl _, ?_, ?_, fun a c9 h9 => ⟨c9, h9, rfl, rfl, fun _ _ => rfl⟩⟩
    · obtain ⟨t, ht, -⟩ := State.frames_cons hr
      show T.setVm s.vm = { ((T.setVm s.vm).setFrames (.invoking m args :: below)).setFrames (T.setVm s.vm).frames with heap := T.heap, slotsUsed := T.slotsUsed }
      rw [State.setFrames_setFrames, State.setFrames_self ht]
      rfl
    · show T.slotsUsed = T.slotsUsed + ((T.heap.toList.drop T.heap.size).map (·.slots.size)).sum
      rw [List.drop_eq_nil_of_le (Nat.le_of_eq Array.length_toList)]
      rfl
    · show ((T.heap.toList.drop T.heap.size).map (·.slots.size)).sum ≤ 0
      rw [List.drop_eq_nil_of_le (Nat.le_of_eq Array.length_toList)]
      exact Nat.le_refl _
/-- 'throw new E()': new; dup; invokespecial; athrow -/
theorem vx_throw0 {cc : ByteArray} {pc : Nat} (hexec : p.tables.exec = Jvm.exec) (hb : c.code = cc) (hl : l.stackTraces = false) {own cls : String} {names : List String} {ik ic mc ms : Nat} {A : Nat → Prop}
    (hown : s.vm.findClass own = some m.cls) (hcls : Bundle.fit cls = true) (hnames : ∀ n ∈ names, Bundle.fit n = true)
    (hk : (Cond.classLink own ik cls).before args s = true) (hini : (Cond.initialized cls).before args s = true) (hat : ∀ w ∈ vx_at0 own ic cls names, w.before args s = true)
    (hgood : ∀ w ∈ Cond.classLink own ik cls :: Cond.initialized cls :: vx_at0 own ic cls names, vx_ot w = true)
    (hU : vx_Zq Bundle.tN "UNASSIGNED_STACK" Bundle.steD A s s.heap) (hN : vx_Zq Bundle.tN "SUPPRESSED_SENTINEL" Bundle.listD A s s.heap) (hS : va_S A s.heap H locs) (hsize : ls.size = c.maxLocals)
    (d0 : decode cc pc = .ok (.new ik, 3)) (d3 : decode cc (pc + 3) = .ok (.dup, 1)) (d4 : decode cc (pc + 4) = .ok (.invokespecial ic, 3)) (d7 : decode cc (pc + 7) = .ok (.athrow, 1))
    (hout : ∀ x ∈ c.exceptionTable.toList, covers x (pc + 7) = false)
    (hRframes : names.length + 3 < R.frames) (hRlocals : (rest.map fun v => v.category).sum + (13 * (names.length + 1) + 42) ≤ R.locals) (hRcells : cells + 1 ≤ R.cells) (hRslots : slots + 6 ≤ R.slots) (hlocks : meth.locks = false)
    (hx : ∀ t : State, s.vm.Alike t.vm → H.size ≤ t.heap.size → (∀ q : Nat, q < H.size → t.heap[q]? = H[q]?) → XC cls s t)
    (hf : ∀ z ∈ locs, free z.base) (hc : cells + 1 ≤ mc) (hs : slots + 6 ≤ ms) :
    W p l e R s m args below meth c H locs cells slots (vx_MQ below Qc XC args s mc ms free) (F0 m pc ls rest) := by
  intro T hT X
  have htr : e.platform.stackTraces = false := (show e.platform.stackTraces = l.stackTraces by rw [X.admits.platform]).trans hl
  have Y := vx_rebase X (R' := { frames := R.frames, locals := R.locals, cells := 1, slots := 6 }) (Nat.le_refl _) (Nat.le_refl _) hRcells hRslots
  obtain ⟨s', hA⟩ : ∃ z, z = (T.setVm s.vm).setFrames (.invoking m args :: below) := ⟨_, rfl⟩
  rw [← hA] at Y
  have hvm : s'.vm = s.vm := by rw [hA]; rfl
  have hhp : s'.heap = H := by rw [hA]; exact hT
  have hW0 : s.WarmedH s'.vm := by rw [hvm]; exact State.WarmedH.refl s
  have hat' : ∀ w ∈ vx_at0 own ic cls names, w.before args s' = true := fun w hw => vx_ot_at hW0 hvm.symm (hgood w (List.mem_cons_of_mem _ (List.mem_cons_of_mem _ hw))) (hat w hw)
  have hk' : (Cond.classLink own ik cls).before args s' = true := vx_ot_at hW0 hvm.symm (hgood _ List.mem_cons_self) hk
  have hini' : (Cond.initialized cls).before args s' = true := vx_ot_at hW0 hvm.symm (hgood _ (List.mem_cons_of_mem _ List.mem_cons_self)) hini
  have hU' : vx_Zq Bundle.tN "UNASSIGNED_STACK" Bundle.steD A s' s'.heap := by rw [hhp]; exact vx_Zq.moved hW0.alike (hU.kept hS.2.1)
  have hN' : vx_Zq Bundle.tN "SUPPRESSED_SENTINEL" Bundle.listD A s' s'.heap := by rw [hhp]; exact vx_Zq.moved hW0.alike (hN.kept hS.2.1)
  have h : ∀ w ∈ Bundle.ownAtoms0 own ic cls names, w.before args s' = true := vx_own hat' (vx_isRefq hU'.1) (vx_isRefq hN'.1) hU'.2.word hN'.2.word
  have hown' : s'.vm.findClass own = some m.cls := by rw [hvm]; exact hown
  have hins : (Cond.instantiable cls 6).before args s' = true := h _ (by simp [Bundle.ownAtoms0])
  obtain ⟨vm₁, cX, kX, hfX, hkX, -, -, X₁, st1⟩ := Y.newCold hexec (own := own) (C := cls) (index := ik) (n := 6) hown' hk' hins hini'
    (g := F0 m pc ls rest) rfl (by rw [hb]; exact d0) (Nat.le_refl _) (Nat.le_refl _)
  generalize hT1 : (T.setVm vm₁).pushCell { cls := cX, slots := kX.instanceTypes.map defaultValue, vm := .none } = T1 at X₁ st1
  have hcat : (Value.ref T.heap.size).category = 1 := rfl
  have hcellA : T1.heap[T.heap.size]? = some (freshCell cX kX) := by rw [← hT1]; exact State.heap_pushCell_size _ _
  have d3' : decode c.code (pc + 3) = .ok (.dup, 1) := by rw [hb]; exact d3
  obtain ⟨U, hsteps, hrun, hend, hW, hsame, ce, hce, hO⟩ := X₁.ctorThrow0 hexec htr (own := own) (cls := cls) (names := names) (ic := ic) hown' hcls hnames h (fun x hx => nomatch hx) hfX hkX hcellA (by rw [hhp, hT]; exact Nat.le_refl _)
    (g := { method := m, pc := pc + 4, locals := ls, stack := .ref T.heap.size :: .ref T.heap.size :: rest, locked := none }) rfl hsize rfl rfl (rest := rest) rfl
    (by rw [hb]; exact d4) (by rw [hb]; exact d7) hout hRframes (by simp only [List.map_cons, List.sum_cons, hcat]; omega) hlocks
  obtain ⟨f1, f2⟩ := vx_frame hsame
  rw [hhp] at f1 f2
  have hWs : s.WarmedH U.vm := State.WarmedH.trans hW0 hW
  have hcl : s.vm.findClass cls = some ce.cls := by
    have h9 := hO.cls
    rw [hvm] at h9
    exact h9
  have hall : s.sameButNew ({ U with vm := s.vm } : State) locs mc ms := by
    subst hA
    obtain ⟨e1, e2⟩ := hsame
    rw [State.setFrames_setFrames] at e1
    have h2 : (T.setVm s.vm).sameButNew ({ U with vm := s.vm } : State) [] (0 + 1) (0 + 6) := ⟨e1, e2⟩
    have h3 := X.same.trans h2
    rw [List.append_nil] at h3
    exact h3.mono hc hs
  refine ⟨U, ?_, .threw T.heap.size, hrun, hend, Or.inr ⟨T.heap.size, rfl, cls, ce, locs, hx U hWs.alike f1 (fun q hq => f2 q hq (fun z hz => nomatch hz)), hce, hO.vm, hcl, hWs, hall, hf⟩⟩
  refine st1 _ ?_
  show Steps p.tables e below (T1.setTop { method := m, pc := pc + 3, locals := ls, stack := .ref T.heap.size :: rest, locked := none }) _
  jvm_step X₁.here [X₁.here.top, hexec, d3', Value.category]
  exact hsteps
/-- 'throw new E("text")': new; dup; ldc; invokespecial; athrow -/
theorem vx_throwS {cc : ByteArray} {pc : Nat} (hexec : p.tables.exec = Jvm.exec) (hb : c.code = cc) (hl : l.stackTraces = false) {own cls text : String} {names : List String} {ik is ic mc ms sa : Nat} {A : Nat → Prop}
    (hown : s.vm.findClass own = some m.cls) (hcls : Bundle.fit cls = true) (hnames : ∀ n ∈ names, Bundle.fit n = true)
    (hk : (Cond.classLink own ik cls).before args s = true) (hini : (Cond.initialized cls).before args s = true) (hstr : vk_R own is text sa s) (hat : ∀ w ∈ vx_atS own ic cls names, w.before args s = true)
    (hgood : ∀ w ∈ Cond.classLink own ik cls :: Cond.initialized cls :: vx_atS own ic cls names, vx_ot w = true)
    (hU : vx_Zq Bundle.tN "UNASSIGNED_STACK" Bundle.steD A s s.heap) (hN : vx_Zq Bundle.tN "SUPPRESSED_SENTINEL" Bundle.listD A s s.heap) (hS : va_S A s.heap H locs) (hsize : ls.size = c.maxLocals)
    (d0 : decode cc pc = .ok (.new ik, 3)) (d3 : decode cc (pc + 3) = .ok (.dup, 1)) (d4 : decode cc (pc + 4) = .ok (.ldc is, 2)) (d6 : decode cc (pc + 6) = .ok (.invokespecial ic, 3)) (d9 : decode cc (pc + 9) = .ok (.athrow, 1))
    (hout : ∀ x ∈ c.exceptionTable.toList, covers x (pc + 9) = false)
    (hRframes : names.length + 3 < R.frames) (hRlocals : (rest.map fun v => v.category).sum + (13 * (names.length + 1) + 43) ≤ R.locals) (hRcells : cells + 1 ≤ R.cells) (hRslots : slots + 6 ≤ R.slots) (hlocks : meth.locks = false)
    (hx : ∀ t : State, s.vm.Alike t.vm → H.size ≤ t.heap.size → (∀ q : Nat, q < H.size → t.heap[q]? = H[q]?) → XC cls s t)
    (hf : ∀ z ∈ locs, free z.base) (hc : cells + 1 ≤ mc) (hs : slots + 6 ≤ ms) :
    W p l e R s m args below meth c H locs cells slots (vx_MQ below Qc XC args s mc ms free) (F0 m pc ls rest) := by
  intro T hT X
  have htr : e.platform.stackTraces = false := (show e.platform.stackTraces = l.stackTraces by rw [X.admits.platform]).trans hl
  have Y := vx_rebase X (R' := { frames := R.frames, locals := R.locals, cells := 1, slots := 6 }) (Nat.le_refl _) (Nat.le_refl _) hRcells hRslots
  obtain ⟨s', hA⟩ : ∃ z, z = (T.setVm s.vm).setFrames (.invoking m args :: below) := ⟨_, rfl⟩
  rw [← hA] at Y
  have hvm : s'.vm = s.vm := by rw [hA]; rfl
  have hhp : s'.heap = H := by rw [hA]; exact hT
  have hW0 : s.WarmedH s'.vm := by rw [hvm]; exact State.WarmedH.refl s
  have hat' : ∀ w ∈ vx_atS own ic cls names, w.before args s' = true := fun w hw => vx_ot_at hW0 hvm.symm (hgood w (List.mem_cons_of_mem _ (List.mem_cons_of_mem _ hw))) (hat w hw)
  have hk' : (Cond.classLink own ik cls).before args s' = true := vx_ot_at hW0 hvm.symm (hgood _ List.mem_cons_self) hk
  have hini' : (Cond.initialized cls).before args s' = true := vx_ot_at hW0 hvm.symm (hgood _ (List.mem_cons_of_mem _ List.mem_cons_self)) hini
  have hU' : vx_Zq Bundle.tN "UNASSIGNED_STACK" Bundle.steD A s' s'.heap := by rw [hhp]; exact vx_Zq.moved hW0.alike (hU.kept hS.2.1)
  have hN' : vx_Zq Bundle.tN "SUPPRESSED_SENTINEL" Bundle.listD A s' s'.heap := by rw [hhp]; exact vx_Zq.moved hW0.alike (hN.kept hS.2.1)
  have h : ∀ w ∈ Bundle.ownAtoms own ic cls names, w.before args s' = true := vx_own hat' (vx_isRefq hU'.1) (vx_isRefq hN'.1) hU'.2.word hN'.2.word
  have hown' : s'.vm.findClass own = some m.cls := by rw [hvm]; exact hown
  have hins : (Cond.instantiable cls 6).before args s' = true := h _ (by simp [Bundle.ownAtoms])
  obtain ⟨vm₁, cX, kX, hfX, hkX, -, -, X₁, st1⟩ := Y.newCold hexec (own := own) (C := cls) (index := ik) (n := 6) hown' hk' hins hini'
    (g := F0 m pc ls rest) rfl (by rw [hb]; exact d0) (Nat.le_refl _) (Nat.le_refl _)
  generalize hT1 : (T.setVm vm₁).pushCell { cls := cX, slots := kX.instanceTypes.map defaultValue, vm := .none } = T1 at X₁ st1
  have hcat : (Value.ref T.heap.size).category = 1 := rfl
  have hcellA : T1.heap[T.heap.size]? = some (freshCell cX kX) := by rw [← hT1]; exact State.heap_pushCell_size _ _
  have d3' : decode c.code (pc + 3) = .ok (.dup, 1) := by rw [hb]; exact d3
  have d4' : decode c.code (pc + 4) = .ok (.ldc is, 2) := by rw [hb]; exact d4
  have hstr' : vk_R own is text sa s' := vk_R.warm hW0 hstr
  obtain ⟨U, hsteps, hrun, hend, hW, hsame, ce, hce, hO⟩ := X₁.ctorThrowS hexec htr (own := own) (cls := cls) (names := names) (ic := ic) hown' hcls hnames h (fun x hx => nomatch hx) hfX hkX hcellA (by rw [hhp, hT]; exact Nat.le_refl _) (msg := .ref sa) rfl
    (g := { method := m, pc := pc + 6, locals := ls, stack := .ref sa :: .ref T.heap.size :: .ref T.heap.size :: rest, locked := none }) rfl hsize rfl rfl (rest := rest) rfl
    (by rw [hb]; exact d6) (by rw [hb]; exact d9) hout hRframes (by simp only [List.map_cons, List.sum_cons, hcat]; omega) hlocks
  obtain ⟨f1, f2⟩ := vx_frame hsame
  rw [hhp] at f1 f2
  have hWs : s.WarmedH U.vm := State.WarmedH.trans hW0 hW
  have hcl : s.vm.findClass cls = some ce.cls := by
    have h9 := hO.cls
    rw [hvm] at h9
    exact h9
  have hall : s.sameButNew ({ U with vm := s.vm } : State) locs mc ms := by
    subst hA
    obtain ⟨e1, e2⟩ := hsame
    rw [State.setFrames_setFrames] at e1
    have h2 : (T.setVm s.vm).sameButNew ({ U with vm := s.vm } : State) [] (0 + 1) (0 + 6) := ⟨e1, e2⟩
    have h3 := X.same.trans h2
    rw [List.append_nil] at h3
    exact h3.mono hc hs
  refine ⟨U, ?_, .threw T.heap.size, hrun, hend, Or.inr ⟨T.heap.size, rfl, cls, ce, locs, hx U hWs.alike f1 (fun q hq => f2 q hq (fun z hz => nomatch hz)), hce, hO.vm, hcl, hWs, hall, hf⟩⟩
  refine st1 _ ?_
  show Steps p.tables e below (T1.setTop { method := m, pc := pc + 3, locals := ls, stack := .ref T.heap.size :: rest, locked := none }) _
  jvm_step X₁.here [X₁.here.top, hexec, d3', Value.category]
  exact X₁.ldcString hexec (own := own) (text := text) (index := is) (a := sa) hown' hstr'.1 hstr'.2
    (g := { method := m, pc := pc + 4, locals := ls, stack := .ref T.heap.size :: .ref T.heap.size :: rest, locked := none }) rfl d4' _ hsteps
/-- 'throw new E("text")', the text by a wide index -/
theorem vx_throwSW {cc : ByteArray} {pc : Nat} (hexec : p.tables.exec = Jvm.exec) (hb : c.code = cc) (hl : l.stackTraces = false) {own cls text : String} {names : List String} {ik is ic mc ms sa : Nat} {A : Nat → Prop}
    (hown : s.vm.findClass own = some m.cls) (hcls : Bundle.fit cls = true) (hnames : ∀ n ∈ names, Bundle.fit n = true)
    (hk : (Cond.classLink own ik cls).before args s = true) (hini : (Cond.initialized cls).before args s = true) (hstr : vk_R own is text sa s) (hat : ∀ w ∈ vx_atS own ic cls names, w.before args s = true)
    (hgood : ∀ w ∈ Cond.classLink own ik cls :: Cond.initialized cls :: vx_atS own ic cls names, vx_ot w = true)
    (hU : vx_Zq Bundle.tN "UNASSIGNED_STACK" Bundle.steD A s s.heap) (hN : vx_Zq Bundle.tN "SUPPRESSED_SENTINEL" Bundle.listD A s s.heap) (hS : va_S A s.heap H locs) (hsize : ls.size = c.maxLocals)
    (d0 : decode cc pc = .ok (.new ik, 3)) (d3 : decode cc (pc + 3) = .ok (.dup, 1)) (d4 : decode cc (pc + 4) = .ok (.ldc_w is, 3)) (d7 : decode cc (pc + 7) = .ok (.invokespecial ic, 3)) (d10 : decode cc (pc + 10) = .ok (.athrow, 1))
    (hout : ∀ x ∈ c.exceptionTable.toList, covers x (pc + 10) = false)
    (hRframes : names.length + 3 < R.frames) (hRlocals : (rest.map fun v => v.category).sum + (13 * (names.length + 1) + 43) ≤ R.locals) (hRcells : cells + 1 ≤ R.cells) (hRslots : slots + 6 ≤ R.slots) (hlocks : meth.locks = false)
    (hx : ∀ t : State, s.vm.Alike t.vm → H.size ≤ t.heap.size → (∀ q : Nat, q < H.size → t.heap[q]? = H[q]?) → XC cls s t)
    (hf : ∀ z ∈ locs, free z.base) (hc : cells + 1 ≤ mc) (hs : slots + 6 ≤ ms) :
    W p l e R s m args below meth c H locs cells slots (vx_MQ below Qc XC args s mc ms free) (F0 m pc ls rest) := by
  intro T hT X
  have htr : e.platform.stackTraces = false := (show e.platform.stackTraces = l.stackTraces by rw [X.admits.platform]).trans hl
  have Y := vx_rebase X (R' := { frames := R.frames, locals := R.locals, cells := 1, slots := 6 }) (Nat.le_refl _) (Nat.le_refl _) hRcells hRslots
  obtain ⟨s', hA⟩ : ∃ z, z = (T.setVm s.vm).setFrames (.invoking m args :: below) := ⟨_, rfl⟩
  rw [← hA] at Y
  have hvm : s'.vm = s.vm := by rw [hA]; rfl
  have hhp : s'.heap = H := by rw [hA]; exact hT
  have hW0 : s.WarmedH s'.vm := by rw [hvm]; exact State.WarmedH.refl s
  have hat' : ∀ w ∈ vx_atS own ic cls names, w.before args s' = true := fun w hw => vx_ot_at hW0 hvm.symm (hgood w (List.mem_cons_of_mem _ (List.mem_cons_of_mem _ hw))) (hat w hw)
  have hk' : (Cond.classLink own ik cls).before args s' = true := vx_ot_at hW0 hvm.symm (hgood _ List.mem_cons_self) hk
  have hini' : (Cond.initialized cls).before args s' = true := vx_ot_at hW0 hvm.symm (hgood _ (List.mem_cons_of_mem _ List.mem_cons_self)) hini
  have hU' : vx_Zq Bundle.tN "UNASSIGNED_STACK" Bundle.steD A s' s'.heap := by rw [hhp]; exact vx_Zq.moved hW0.alike (hU.kept hS.2.1)
  have hN' : vx_Zq Bundle.tN "SUPPRESSED_SENTINEL" Bundle.listD A s' s'.heap := by rw [hhp]; exact vx_Zq.moved hW0.alike (hN.kept hS.2.1)
  have h : ∀ w ∈ Bundle.ownAtoms own ic cls names, w.before args s' = true := vx_own hat' (vx_isRefq hU'.1) (vx_isRefq hN'.1) hU'.2.word hN'.2.word
  have hown' : s'.vm.findClass own = some m.cls := by rw [hvm]; exact hown
  have hins : (Cond.instantiable cls 6).before args s' = true := h _ (by simp [Bundle.ownAtoms])
  obtain ⟨vm₁, cX, kX, hfX, hkX, -, -, X₁, st1⟩ := Y.newCold hexec (own := own) (C := cls) (index := ik) (n := 6) hown' hk' hins hini'
    (g := F0 m pc ls rest) rfl (by rw [hb]; exact d0) (Nat.le_refl _) (Nat.le_refl _)
  generalize hT1 : (T.setVm vm₁).pushCell { cls := cX, slots := kX.instanceTypes.map defaultValue, vm := .none } = T1 at X₁ st1
  have hcat : (Value.ref T.heap.size).category = 1 := rfl
  have hcellA : T1.heap[T.heap.size]? = some (freshCell cX kX) := by rw [← hT1]; exact State.heap_pushCell_size _ _
  have d3' : decode c.code (pc + 3) = .ok (.dup, 1) := by rw [hb]; exact d3
  have d4' : decode c.code (pc + 4) = .ok (.ldc_w is, 3) := by rw [hb]; exact d4
  have hstr' : vk_R own is text sa s' := vk_R.warm hW0 hstr
  obtain ⟨U, hsteps, hrun, hend, hW, hsame, ce, hce, hO⟩ := X₁.ctorThrowS hexec htr (own := own) (cls := cls) (names := names) (ic := ic) hown' hcls hnames h (fun x hx => nomatch hx) hfX hkX hcellA (by rw [hhp, hT]; exact Nat.le_refl _) (msg := .ref sa) rfl
    (g := { method := m, pc := pc + 7, locals := ls, stack := .ref sa :: .ref T.heap.size :: .ref T.heap.size :: rest, locked := none }) rfl hsize rfl rfl (rest := rest) rfl
    (by rw [hb]; exact d7) (by rw [hb]; exact d10) hout hRframes (by simp only [List.map_cons, List.sum_cons, hcat]; omega) hlocks
  obtain ⟨f1, f2⟩ := vx_frame hsame
  rw [hhp] at f1 f2
  have hWs : s.WarmedH U.vm := State.WarmedH.trans hW0 hW
  have hcl : s.vm.findClass cls = some ce.cls := by
    have h9 := hO.cls
    rw [hvm] at h9
    exact h9
  have hall : s.sameButNew ({ U with vm := s.vm } : State) locs mc ms := by
    subst hA
    obtain ⟨e1, e2⟩ := hsame
    rw [State.setFrames_setFrames] at e1
    have h2 : (T.setVm s.vm).sameButNew ({ U with vm := s.vm } : State) [] (0 + 1) (0 + 6) := ⟨e1, e2⟩
    have h3 := X.same.trans h2
    rw [List.append_nil] at h3
    exact h3.mono hc hs
  refine ⟨U, ?_, .threw T.heap.size, hrun, hend, Or.inr ⟨T.heap.size, rfl, cls, ce, locs, hx U hWs.alike f1 (fun q hq => f2 q hq (fun z hz => nomatch hz)), hce, hO.vm, hcl, hWs, hall, hf⟩⟩
  refine st1 _ ?_
  show Steps p.tables e below (T1.setTop { method := m, pc := pc + 3, locals := ls, stack := .ref T.heap.size :: rest, locked := none }) _
  jvm_step X₁.here [X₁.here.top, hexec, d3', Value.category]
  exact X₁.ldcStringW hexec (own := own) (text := text) (index := is) (a := sa) hown' hstr'.1 hstr'.2
    (g := { method := m, pc := pc + 4, locals := ls, stack := .ref T.heap.size :: .ref T.heap.size :: rest, locked := none }) rfl d4' _ hsteps
end Ends
section Bodies
variable {l : Launch}
theorem vx_ofW {y : MethodName} {ws ws' : List Cond} {rm : Room} {Pc : Array Value → State → Prop} {Qc : Array Value → State → Outcome → State → Prop} {XC : String → State → State → Prop} {mc ms : Nat} {free : Addr → Prop} {cc : ByteArray} {maxL : Nat} {ret : Option FieldType}
    (hy : plainName y.cls = true) (hw : ws = Cond.code y cc maxL ret :: ws')
    (body : ∀ p e s m args below meth c s₁, BodyLoose p l y (headSpec ws rm) cc maxL ret e s m args below meth c s₁ → c.maxLocals = maxL → (∀ x ∈ c.exceptionTable.toList, False) → Pc args s →
      W p l e (headSpec ws rm).room s m args below meth c s.heap [] 0 0 (vx_MQ below Qc XC args s mc ms free) (entryFrame m args maxL)) : vx_Met l y ws rm Pc Qc XC mc ms free := by
  refine MetFree.of_bodyS (code := cc) (maxLocals := maxL) (ret := ret) hy ?_ ?_
  · intro args s m h hn
    obtain ⟨meth, c, h1, h2, h3, h4, h5, h6, -, -⟩ := Cond.code_spec hn (atoms_spec (ws := ws) h _ (by rw [hw]; exact List.mem_cons_self))
    exact ⟨meth, c, h1, h2, h3, h4, h5, h6⟩
  · intro p e s m args below meth c s₁ B hml hP _
    have hh0 : s₁.heap = s.heap := by rw [B.state]; rfl
    have ht : ∀ x ∈ c.exceptionTable.toList, False := by
      obtain ⟨meth9, c9, h1, h2, -, -, -, -, h7, -⟩ := Cond.code_spec B.named (atoms_spec (ws := ws) B.pre _ (by rw [hw]; exact List.mem_cons_self))
      cases Option.some.inj (h1.symm.trans B.method)
      cases Option.some.inj (h2.symm.trans (Stand.of_body B).code)
      intro x hx
      rw [Array.isEmpty_iff.mp h7] at hx
      cases hx
    obtain ⟨t, a1, o, b1, b2, b3⟩ := body p e s m args below meth c s₁ B hml ht hP s₁ hh0 (Stand.of_body B)
    exact ⟨t, o, a1, b1, b2, b3⟩
/-- the table of a body with handlers -/
theorem vx_table {p : Program} {x y : MethodName} {S : Spec} {cc bytes : ByteArray} {maxL maxL' : Nat} {ret ret' : Option FieldType} {e : Env} {s s₁ : State} {m : MethodId} {args : Array Value} {below : List Frame} {meth : Method} {c : Code} {hh : List (Nat × Nat × Nat × Nat)}
    (B : BodyLoose p l y S cc maxL ret e s m args below meth c s₁) (h : (Cond.codeWith y bytes maxL' ret' hh).before args s = true) : c.exceptionTable.toList = tableOf hh := by
  obtain ⟨m9, meth9, c9, hn9, h1, h2, -, -, h6, -⟩ := Cond.codeWith_spec h
  cases Option.some.inj (hn9.symm.trans B.named)
  cases Option.some.inj (h1.symm.trans B.method)
  cases Option.some.inj (h2.symm.trans (Stand.of_body B).code)
  rw [← h6, table_eq]
end Bodies
end VXA
/-! ===== END ===== -/
/-! ===== BEGIN a static call of a method with an exception table ===== -/
section VXS
variable {p : Program} {l : Launch} {e : Env} {R : Room} {s : State} {m : MethodId} {args : Array Value} {below : List Frame} {meth : Method} {c : Code} {T : State} {H : Heap} {locs : List Loc} {cells slots : Nat}
abbrev vx_CSW (R : Room) (s : State) (args : Array Value) (own : String) (index : Nat) (y : MethodName) (bytes : ByteArray) (maxL : Nat) (ret : Option FieldType) (hh : List (Nat × Nat × Nat × Nat)) (ws : List Cond) (rm : Room) (mc ms n : Nat) : Prop :=
  (rm.cells = mc ∧ rm.slots = ms ∧ rm.frames + 1 ≤ R.frames ∧ 8 + (maxL + 11) + rm.locals ≤ R.locals ∧ (∀ w ∈ ws, ∀ (a' : Array Value) (U : State), s.WarmedH U.vm → w.before a' U = true) ∧ Cond.codeWith y bytes maxL ret hh ∈ ws) ∧
  (Cond.codeWith y bytes maxL ret hh).before args s = true ∧ (Cond.initialized y.cls).before args s = true ∧ (y.cls ≠ "java/lang/invoke/MethodHandle" ∧ y.cls ≠ "java/lang/invoke/VarHandle") ∧
  (∀ sig, parseMethodDescriptor y.desc = some sig → n = sig.parameters.length) ∧ (Cond.methodLink own index y).before args s = true ∧ (Cond.static y).before args s = true
theorem vx_cwSW {own : String} {index maxL mc ms : Nat} {y : MethodName} {bytes : ByteArray} {ret : Option FieldType} {hh : List (Nat × Nat × Nat × Nat)} {Ts ws ws' : List Cond} {rm : Room} (n : Nat) (ht : ∀ w ∈ Ts, w.before args s = true) (hT : GoodIn Ts (va_wsS own index y ws)) (hw : ws = Cond.codeWith y bytes maxL ret hh :: ws') (hrc : rm.cells = mc) (hrs : rm.slots = ms)
    (hd : y.cls ≠ "java/lang/invoke/MethodHandle" ∧ y.cls ≠ "java/lang/invoke/VarHandle" ∧ (parseMethodDescriptor y.desc).map (fun d => d.parameters.length) = some n) (hR : rm.frames + 1 ≤ R.frames ∧ 8 + (maxL + 11) + rm.locals ≤ R.locals) :
    vx_CSW R s args own index y bytes maxL ret hh ws rm mc ms n := by
  have ok : ∀ w ∈ va_wsS own index y ws, w.before args s = true := fun w h => ht w (hT w h).1
  have hG : GoodIn Ts ws := fun w h => hT w (by unfold va_wsS; exact List.mem_append_right _ h)
  have hc : Cond.codeWith y bytes maxL ret hh ∈ ws := by rw [hw]; exact List.mem_cons_self
  refine ⟨⟨hrc, hrs, hR.1, hR.2, pay_in ht hG, hc⟩, ht _ (hG _ hc).1, ok _ (by simp [va_wsS]), ⟨hd.1, hd.2.1⟩, fun sig h => ?_, ok _ (by simp [va_wsS]), ok _ (by simp [va_wsS])⟩
  have h2 := hd.2.2
  rw [h] at h2
  exact (Option.some.inj h2).symm
theorem vx_callSW (X : Stand p l e R s m args below meth c T locs cells slots) (hexec : p.tables.exec = Jvm.exec) {own : String} {index : Nat} {y : MethodName} {bytes : ByteArray} {maxL : Nat} {ret : Option FieldType} {hh : List (Nat × Nat × Nat × Nat)}
    (hown : s.vm.findClass own = some m.cls) (hlink : (Cond.methodLink own index y).before args s = true) (hstat : (Cond.static y).before args s = true) (hinit : (Cond.initialized y.cls).before args s = true)
    (hcode : (Cond.codeWith y bytes maxL ret hh).before args s = true) (hy : y.cls ≠ "java/lang/invoke/MethodHandle" ∧ y.cls ≠ "java/lang/invoke/VarHandle")
    {W9 : Nat} {Pre : Pt → Array Value → Prop} {Post : Pt → Array Value → Option Value → Pt → Prop} (hK : Back l R p e below s args y 3 W9 Pre Post)
    {g : JFrame} (hg : g.method = m) (hsize : g.locals.size = c.maxLocals) {argsL rest : List Value} (hlen : ∀ sig, parseMethodDescriptor y.desc = some sig → argsL.length = sig.parameters.length)
    (hstack : g.stack = argsL.reverse ++ rest) (hW : 2 * g.monitorRoom + (rest.map fun v => v.category).sum ≤ W9) (hdg : decode c.code g.pc = .ok (.invokestatic index, 3))
    (hpre : ∀ vm₁, s.WarmedH vm₁ → Pre ⟨T.setVm vm₁, locs, cells, slots⟩ argsL.toArray) :
    ∃ (v : Option Value) (vm₁ : Vm) (B : Pt), s.WarmedH vm₁ ∧ Stand p l e R s m args below meth c B.U B.locs B.cells B.slots ∧ Post ⟨T.setVm vm₁, locs, cells, slots⟩ argsL.toArray v B ∧
      ∀ target, Steps p.tables e below (B.U.setTop { g with pc := g.pc + 3, stack := v.toList ++ rest }) target → Steps p.tables e below (T.setTop g) target := by
  obtain ⟨mk, methM, cM, hnamed, hmethM, -, -, -, -, -, -, hsigM⟩ := Cond.codeWith_spec hcode
  have hstatic : methM.isStatic = true := Cond.static_spec hnamed hmethM hstat
  obtain ⟨kP, hkP, -⟩ := className_of_methodNamed hnamed
  have hinitP : kP.init = .initialized := Cond.initialized_spec (findClass_of_methodNamed hnamed) hkP hinit
  obtain ⟨vm₁, X₁, hstep₁⟩ := X.invokestatic hexec hown hlink hnamed hmethM hstatic hkP hinitP hy (g := g) hg (argsL := argsL) (rest := rest) (hlen _ hsigM) hstack hdg
  obtain ⟨v, B, X', hpost, hsteps⟩ := hK m meth c ⟨T.setVm vm₁, locs, cells, slots⟩ { g with stack := rest } (.invokestatic index) mk argsL.toArray X₁ hg hsize hdg hW (X₁.named hnamed) (hpre vm₁ X₁.warmed)
  exact ⟨v, vm₁, B, X₁.warmed, X', hpost, fun target h => hstep₁ _ fun acts => by rw [doInvoke_state]; exact hsteps.trans h⟩
theorem vx_runSW {y : MethodName} {bytes cc : ByteArray} {maxL nL mc ms n index : Nat} {ret : Option FieldType} {hh : List (Nat × Nat × Nat × Nat)} {ws : List Cond} {rm : Room} {Pc : Array Value → State → Prop} {Qc : Array Value → State → Outcome → State → Prop} {free : Addr → Prop} {Ts : List Cond} {own : String} {As rest : List Value} {g : JFrame}
    (S : CallFix p m c cc nL s args Ts own) (hM : Met l y ws rm Pc Qc mc ms free) (cw : vx_CSW R s args own index y bytes maxL ret hh ws rm mc ms n) (hp : PreS s H Pc As)
    (hg : g.method = m) (hn : As.length = n) (hsize : g.locals.size = nL) (hstack : g.stack = As.reverse ++ rest) (hW : 2 * g.monitorRoom + (rest.map fun v => v.category).sum ≤ 8) (hdg : decode cc g.pc = .ok (.invokestatic index, 3)) (hf : cells + mc ≤ R.cells ∧ slots + ms ≤ R.slots) :
    va_Run p l e R s m args below meth c H locs cells slots mc ms g rest (Qc As.toArray) (free) := by
  obtain ⟨⟨hrc, hrs, hfr, hlo, hws, hcw⟩, hcode, hini, hy, hlen, hl, hstt⟩ := cw
  have hK : Back l R p e below s args y 3 8 (PreOf R mc ms Pc) (PostOf Qc mc ms free) := va_backW (hh := hh) (bytes := bytes) (maxL := maxL) (ret := ret) hM hp.1 hrc hrs hfr hlo hws hcw (fun a' U hW => word_at hW (Or.inl (by first | rfl | simp [Cond.onTables, Cond.keeps, Cond.steady])) hini)
  obtain ⟨hx, hb, hml, ho, -⟩ := S
  intro T hT X
  obtain ⟨v, vm₁, ⟨U', l2, c2, s2⟩, hW₁, X', ⟨g', mk, t, L, e1, e2, hq, h1, hL, h2, h3⟩, st⟩ := vx_callSW X hx (hh := hh) (bytes := bytes) (maxL := maxL) (ret := ret) ho hl hstt hini hcode hy hK hg (hsize.trans hml.symm) (argsL := As) (rest := rest) (fun sig h => hn.trans (hlen sig h)) hstack hW (by rw [hb]; exact hdg)
    (fun vm₁ hW₁ => ⟨hf.1, hf.2, hp.2 (T.setVm vm₁) hT hW₁⟩)
  dsimp only [Pt.U, Pt.locs, Pt.cells, Pt.slots] at X' e1 e2 h1 h2 h3 st
  subst h1; subst h2; subst h3
  exact ⟨v, (T.setVm vm₁).calling g' mk As.toArray, t, U', L, hT, X', hL, e1, e2, hq, st⟩
/-- not caught here, past rows that name other classes: it goes on to the caller -/
theorem vx_outP {p : Program} {l : Launch} {e : Env} {R : Room} {s : State} {m : MethodId} {args : Array Value} {below : List Frame} {meth : Method} {c : Code} {H : Heap} {locs : List Loc} {cells slots : Nat} {free : Addr → Prop} {ls : Array Slot} {rest : List Value} {Qc : Array Value → State → Outcome → State → Prop} {XC : String → State → State → Prop}
    {pc : Nat} {own E : String} {ce : Cell} {q : Addr} {mc ms : Nat} (hown : s.vm.findClass own = some m.cls) (hlocks : meth.locks = false)
    (hpass : ∀ z ∈ c.exceptionTable.toList, covers z pc = false ∨ (z.catchType ≠ 0 ∧ ∃ nm : String, (Cond.classLink own z.catchType nm).before args s = true ∧ va_Nc E nm s)) (hcell : H[q]? = some ce) (hv : ce.vm = .none) (hcl : s.vm.findClass E = some ce.cls)
    (hx : ∀ t : State, t.heap = H → s.vm.Alike t.vm → XC E s t) (hf : ∀ z ∈ locs, free z.base) (hc : cells ≤ mc) (hs : slots ≤ ms) :
    vx_W p l e R s m args below meth c H locs cells slots (vx_MQ below Qc XC args s mc ms free) (F0 m pc ls rest) q := by
  intro T hT X
  have hpl : e.platform.magicAccessors = ({} : Platform).magicAccessors := by rw [X.admits.platform]
  obtain ⟨vm', hW', X', st⟩ := X.outThrough hlocks q (g := F0 m pc ls rest) rfl rfl rfl (cell := ce) (by rw [hT]; exact hcell) (by rw [hv]; rfl)
    (by obtain ⟨k9, h9, -⟩ := Vm.findClass_spec hcl; exact ⟨k9, h9⟩) (fun z hz => by
      rcases hpass z hz with h | ⟨hz0, nm, hl1, hn1⟩
      · exact Or.inl h
      · obtain ⟨c6, hc6, hcl6⟩ := Cond.classLink_spec hown hl1 e.platform hpl
        obtain ⟨a8, b8, h1, h2, h3⟩ := hn1
        cases Option.some.inj (h1.symm.trans hcl)
        cases Option.some.inj (h2.symm.trans hc6)
        exact Or.inr ⟨hz0, _, hcl6, h3⟩)
  obtain ⟨g₀, hfr⟩ := X'.frames_eq
  have hcell9 : ((T.setVm vm').setFrames (.throwing q :: below)).heap[q]? = some ce := by
    show T.heap[q]? = some ce
    rw [hT]; exact hcell
  have hend : Ended ((T.setVm vm').setFrames (.throwing q :: below)) below (.threw q) := State.frames_setFrames _ (State.cur_lt_of_frames hfr)
  refine ⟨(T.setVm vm').setFrames (.throwing q :: below), ?_, .threw q, X'.here.running, hend, Or.inr ⟨q, rfl, E, ce, locs, hx _ hT (X'.ends _).1.alike, hcell9, hv, hcl, (X'.ends _).1, (X'.ends _).2.mono hc hs, hf⟩⟩
  rw [X.pushThrowing_eq]
  exact st
/-- a thing of a world lies in the heap -/
theorem vx_lt {D : va_G} {cl : List vw_C} {ws : va_W} {H1 : Heap} (h : va_P D cl ws H1) {k : Nat} {q : Nat × va_E} (hk : ws[k]? = some q) : q.1 < H1.size := (h k q hk).lt
end VXS
/-! ===== END ===== -/
/-! names, by program -/
def RX0 : String := "Cocite$Grouping"
def TX0 : u_T := fun k => match k with
  | 0 => ("Cocite$Grouping", "groups", "LCocite$Row;", true)
  | 1 => ("Cocite$Grouping", "splits", "LCocite$Row;", true)
  | 2 => ("Cocite$Grouping", "paperStrengths", "LCocite$Row;", true)
  | 3 => ("Cocite$Grouping", "groupStrengths", "LCocite$Row;", true)
  | 4 => ("Cocite$Grouping", "paperWeights", "LCocite$Table;", true)
  | 5 => ("Cocite$Grouping", "groupWeights", "LCocite$Table;", true)
  | 6 => ("Cocite$Grouping", "allLowest", "I", false)
  | _ => ("Cocite$Grouping", "weightOfAll", "I", false)
def tyX0 : Nat → FieldType := fun k => match k with
  | 0 => .object "Cocite$Row"
  | 1 => .object "Cocite$Row"
  | 2 => .object "Cocite$Row"
  | 3 => .object "Cocite$Row"
  | 4 => .object "Cocite$Table"
  | 5 => .object "Cocite$Table"
  | 6 => .int
  | _ => .int
abbrev wsX00 : List Cond := u_ws RX0 TX0 8
theorem nmX0 : ∀ a, a < 8 → ∀ b, b < 8 → a ≠ b → (TX0 a).2.1 ≠ (TX0 b).2.1 := by decide +kernel
theorem tyX0_ok : ∀ k, k < 8 → parseFieldDescriptor (TX0 k).2.2.1 = some (tyX0 k) := by decide +kernel
abbrev cX0_init : ByteArray := prog_2_method_1_code
def yX0_init : MethodName := ⟨RX0, "<init>", "()V"⟩
abbrev cX0_groupOf : ByteArray := prog_2_method_2_code
def yX0_groupOf : MethodName := ⟨RX0, "groupOf", "(I)I"⟩
abbrev cX0_allGroups : ByteArray := prog_2_method_3_code
def yX0_allGroups : MethodName := ⟨RX0, "allGroups", "()I"⟩
abbrev cX0_isGroup : ByteArray := prog_2_method_4_code
def yX0_isGroup : MethodName := ⟨RX0, "isGroup", "(I)Z"⟩
abbrev cX0_splitOf : ByteArray := prog_2_method_5_code
def yX0_splitOf : MethodName := ⟨RX0, "splitOf", "(I)I"⟩
abbrev cX0_gainOfJoining : ByteArray := prog_2_method_6_code
def yX0_gainOfJoining : MethodName := ⟨RX0, "gainOfJoining", "(II)I"⟩
abbrev cX0_findAnew : ByteArray := prog_2_method_7_code
def yX0_findAnew : MethodName := ⟨RX0, "findAnew", "(LCocite$Shelf;)V"⟩
abbrev cX0_gainFrom : ByteArray := prog_2_method_8_code
def yX0_gainFrom : MethodName := ⟨RX0, "gainFrom", "(III)I"⟩
abbrev cX0_partAll : ByteArray := prog_2_method_9_code
def yX0_partAll : MethodName := ⟨RX0, "partAll", "(LCocite$Shelf;)V"⟩
abbrev cX0_joinGreatest : ByteArray := prog_2_method_10_code
def yX0_joinGreatest : MethodName := ⟨RX0, "joinGreatest", "()Z"⟩
abbrev cX0_join : ByteArray := prog_2_method_11_code
def yX0_join : MethodName := ⟨RX0, "join", "(II)V"⟩
abbrev cX0_bestSplit : ByteArray := prog_2_method_12_code
def yX0_bestSplit : MethodName := ⟨RX0, "bestSplit", "(I)I"⟩
abbrev cX0_membersOf : ByteArray := prog_2_method_13_code
def yX0_membersOf : MethodName := ⟨RX0, "membersOf", "(I)I"⟩
abbrev cX0_gainOfParts : ByteArray := prog_2_method_14_code
def yX0_gainOfParts : MethodName := ⟨RX0, "gainOfParts", "(II)I"⟩
abbrev cX0_weightWithAll : ByteArray := prog_2_method_15_code
def yX0_weightWithAll : MethodName := ⟨RX0, "weightWithAll", "(II)I"⟩
abbrev cX0_strengthOf : ByteArray := prog_2_method_16_code
def yX0_strengthOf : MethodName := ⟨RX0, "strengthOf", "(I)I"⟩
def RX1 : String := "Cocite$Routes"
def TX1 : u_T := fun k => match k with
  | 0 => ("Cocite$Routes", "waysBefore", "LCocite$Row;", true)
  | 1 => ("Cocite$Routes", "waysAfter", "LCocite$Row;", true)
  | 2 => ("Cocite$Routes", "sumsAfter", "LCocite$Row;", true)
  | 3 => ("Cocite$Routes", "nexts", "LCocite$Row;", true)
  | 4 => ("Cocite$Routes", "mainPapers", "LCocite$Row;", true)
  | 5 => ("Cocite$Routes", "waysInAll", "I", false)
  | 6 => ("Cocite$Routes", "mainPlaces", "I", false)
  | _ => ("Cocite$Routes", "greatestSum", "I", false)
def tyX1 : Nat → FieldType := fun k => match k with
  | 0 => .object "Cocite$Row"
  | 1 => .object "Cocite$Row"
  | 2 => .object "Cocite$Row"
  | 3 => .object "Cocite$Row"
  | 4 => .object "Cocite$Row"
  | 5 => .int
  | 6 => .int
  | _ => .int
abbrev wsX10 : List Cond := u_ws RX1 TX1 8
theorem nmX1 : ∀ a, a < 8 → ∀ b, b < 8 → a ≠ b → (TX1 a).2.1 ≠ (TX1 b).2.1 := by decide +kernel
theorem tyX1_ok : ∀ k, k < 8 → parseFieldDescriptor (TX1 k).2.2.1 = some (tyX1 k) := by decide +kernel
abbrev cX1_init : ByteArray := prog_3_method_1_code
def yX1_init : MethodName := ⟨RX1, "<init>", "()V"⟩
abbrev cX1_countOf : ByteArray := prog_3_method_2_code
def yX1_countOf : MethodName := ⟨RX1, "countOf", "(II)I"⟩
abbrev cX1_wholeWays : ByteArray := prog_3_method_3_code
def yX1_wholeWays : MethodName := ⟨RX1, "wholeWays", "()I"⟩
abbrev cX1_lengthOfMain : ByteArray := prog_3_method_4_code
def yX1_lengthOfMain : MethodName := ⟨RX1, "lengthOfMain", "()I"⟩
abbrev cX1_paperOfMain : ByteArray := prog_3_method_5_code
def yX1_paperOfMain : MethodName := ⟨RX1, "paperOfMain", "(I)I"⟩
abbrev cX1_sumOfMain : ByteArray := prog_3_method_6_code
def yX1_sumOfMain : MethodName := ⟨RX1, "sumOfMain", "()I"⟩
abbrev cX1_findAnew : ByteArray := prog_3_method_7_code
def yX1_findAnew : MethodName := ⟨RX1, "findAnew", "(LCocite$Shelf;)V"⟩
abbrev cX1_sumOver : ByteArray := prog_3_method_8_code
def yX1_sumOver : MethodName := ⟨RX1, "sumOver", "(LCocite$Row;I)I"⟩
abbrev cX1_findNext : ByteArray := prog_3_method_9_code
def yX1_findNext : MethodName := ⟨RX1, "findNext", "(LCocite$Shelf;I)V"⟩
abbrev cX1_findMain : ByteArray := prog_3_method_10_code
def yX1_findMain : MethodName := ⟨RX1, "findMain", "(LCocite$Shelf;)V"⟩
abbrev cX1_follow : ByteArray := prog_3_method_11_code
def yX1_follow : MethodName := ⟨RX1, "follow", "(I)V"⟩
def RX2 : String := "Cocite$Row"
def TX2 : u_T := fun k => match k with
  | _ => ("Cocite$Row", "cells", "[I", true)
def tyX2 : Nat → FieldType := fun k => match k with
  | _ => .array .int
abbrev wsX20 : List Cond := u_ws RX2 TX2 1
theorem nmX2 : ∀ a, a < 1 → ∀ b, b < 1 → a ≠ b → (TX2 a).2.1 ≠ (TX2 b).2.1 := by decide +kernel
theorem tyX2_ok : ∀ k, k < 1 → parseFieldDescriptor (TX2 k).2.2.1 = some (tyX2 k) := by decide +kernel
abbrev cX2_init : ByteArray := prog_4_method_1_code
def yX2_init : MethodName := ⟨RX2, "<init>", "()V"⟩
abbrev cX2_at : ByteArray := prog_4_method_2_code
def yX2_at : MethodName := ⟨RX2, "at", "(I)I"⟩
abbrev cX2_set : ByteArray := prog_4_method_3_code
def yX2_set : MethodName := ⟨RX2, "set", "(II)V"⟩
abbrev cX2_add : ByteArray := prog_4_method_4_code
def yX2_add : MethodName := ⟨RX2, "add", "(II)V"⟩
def RX3 : String := "Cocite$Shelf"
def TX3 : u_T := fun k => match k with
  | 0 => ("Cocite$Shelf", "years", "LCocite$Row;", true)
  | 1 => ("Cocite$Shelf", "referred", "LCocite$Row;", true)
  | 2 => ("Cocite$Shelf", "citers", "LCocite$Row;", true)
  | 3 => ("Cocite$Shelf", "sharedCounts", "LCocite$Table;", true)
  | 4 => ("Cocite$Shelf", "jointCounts", "LCocite$Table;", true)
  | 5 => ("Cocite$Shelf", "comeSoFar", "I", false)
  | 6 => ("Cocite$Shelf", "latestYear", "I", false)
  | _ => ("Cocite$Shelf", "there", "I", false)
def tyX3 : Nat → FieldType := fun k => match k with
  | 0 => .object "Cocite$Row"
  | 1 => .object "Cocite$Row"
  | 2 => .object "Cocite$Row"
  | 3 => .object "Cocite$Table"
  | 4 => .object "Cocite$Table"
  | 5 => .int
  | 6 => .int
  | _ => .int
abbrev wsX30 : List Cond := u_ws RX3 TX3 8
theorem nmX3 : ∀ a, a < 8 → ∀ b, b < 8 → a ≠ b → (TX3 a).2.1 ≠ (TX3 b).2.1 := by decide +kernel
theorem tyX3_ok : ∀ k, k < 8 → parseFieldDescriptor (TX3 k).2.2.1 = some (tyX3 k) := by decide +kernel
abbrev cX3_init : ByteArray := prog_5_method_1_code
def yX3_init : MethodName := ⟨RX3, "<init>", "()V"⟩
abbrev cX3_has : ByteArray := prog_5_method_2_code
def yX3_has : MethodName := ⟨RX3, "has", "(I)Z"⟩
abbrev cX3_hasAll : ByteArray := prog_5_method_3_code
def yX3_hasAll : MethodName := ⟨RX3, "hasAll", "(I)Z"⟩
abbrev cX3_allThere : ByteArray := prog_5_method_4_code
def yX3_allThere : MethodName := ⟨RX3, "allThere", "()I"⟩
abbrev cX3_isFull : ByteArray := prog_5_method_5_code
def yX3_isFull : MethodName := ⟨RX3, "isFull", "()Z"⟩
abbrev cX3_takesYear : ByteArray := prog_5_method_6_code
def yX3_takesYear : MethodName := ⟨RX3, "takesYear", "(I)Z"⟩
abbrev cX3_referredBy : ByteArray := prog_5_method_7_code
def yX3_referredBy : MethodName := ⟨RX3, "referredBy", "(I)I"⟩
abbrev cX3_citersOf : ByteArray := prog_5_method_8_code
def yX3_citersOf : MethodName := ⟨RX3, "citersOf", "(I)I"⟩
abbrev cX3_cites : ByteArray := prog_5_method_9_code
def yX3_cites : MethodName := ⟨RX3, "cites", "(II)Z"⟩
abbrev cX3_put : ByteArray := prog_5_method_10_code
def yX3_put : MethodName := ⟨RX3, "put", "(II)I"⟩
abbrev cX3_take : ByteArray := prog_5_method_11_code
def yX3_take : MethodName := ⟨RX3, "take", "(I)V"⟩
abbrev cX3_addCiting : ByteArray := prog_5_method_12_code
def yX3_addCiting : MethodName := ⟨RX3, "addCiting", "(II)V"⟩
abbrev cX3_dropCiting : ByteArray := prog_5_method_13_code
def yX3_dropCiting : MethodName := ⟨RX3, "dropCiting", "(II)V"⟩
abbrev cX3_countCiting : ByteArray := prog_5_method_14_code
def yX3_countCiting : MethodName := ⟨RX3, "countCiting", "(III)V"⟩
abbrev cX3_sharedOf : ByteArray := prog_5_method_15_code
def yX3_sharedOf : MethodName := ⟨RX3, "sharedOf", "(II)I"⟩
abbrev cX3_jointOf : ByteArray := prog_5_method_16_code
def yX3_jointOf : MethodName := ⟨RX3, "jointOf", "(II)I"⟩
abbrev cX3_weightOf : ByteArray := prog_5_method_17_code
def yX3_weightOf : MethodName := ⟨RX3, "weightOf", "(II)I"⟩
abbrev cX3_weightsKept : ByteArray := prog_5_method_18_code
def yX3_weightsKept : MethodName := ⟨RX3, "weightsKept", "()I"⟩
abbrev cX3_weightsFromReferences : ByteArray := prog_5_method_19_code
def yX3_weightsFromReferences : MethodName := ⟨RX3, "weightsFromReferences", "()I"⟩
abbrev cX3_referringToBoth : ByteArray := prog_5_method_20_code
def yX3_referringToBoth : MethodName := ⟨RX3, "referringToBoth", "(II)I"⟩
abbrev cX3_riseOf : ByteArray := prog_5_method_21_code
def yX3_riseOf : MethodName := ⟨RX3, "riseOf", "(II)I"⟩
abbrev cX3_citersOfYear : ByteArray := prog_5_method_22_code
def yX3_citersOfYear : MethodName := ⟨RX3, "citersOfYear", "(II)I"⟩
def RX4 : String := "Cocite$Table"
def TX4 : u_T := fun k => match k with
  | _ => ("Cocite$Table", "cells", "[I", true)
def tyX4 : Nat → FieldType := fun k => match k with
  | _ => .array .int
abbrev wsX40 : List Cond := u_ws RX4 TX4 1
theorem nmX4 : ∀ a, a < 1 → ∀ b, b < 1 → a ≠ b → (TX4 a).2.1 ≠ (TX4 b).2.1 := by decide +kernel
theorem tyX4_ok : ∀ k, k < 1 → parseFieldDescriptor (TX4 k).2.2.1 = some (tyX4 k) := by decide +kernel
abbrev cX4_init : ByteArray := prog_6_method_1_code
def yX4_init : MethodName := ⟨RX4, "<init>", "()V"⟩
abbrev cX4_at : ByteArray := prog_6_method_2_code
def yX4_at : MethodName := ⟨RX4, "at", "(II)I"⟩
abbrev cX4_set : ByteArray := prog_6_method_3_code
def yX4_set : MethodName := ⟨RX4, "set", "(III)V"⟩
abbrev cX4_add : ByteArray := prog_6_method_4_code
def yX4_add : MethodName := ⟨RX4, "add", "(III)V"⟩
abbrev cX4_setOneWay : ByteArray := prog_6_method_5_code
def yX4_setOneWay : MethodName := ⟨RX4, "setOneWay", "(III)V"⟩
def RX5 : String := "Cocite"
def TX5 : u_T := fun k => match k with
  | 0 => ("Cocite", "shelf", "LCocite$Shelf;", true)
  | 1 => ("Cocite", "grouping", "LCocite$Grouping;", true)
  | _ => ("Cocite", "routes", "LCocite$Routes;", true)
def tyX5 : Nat → FieldType := fun k => match k with
  | 0 => .object "Cocite$Shelf"
  | 1 => .object "Cocite$Grouping"
  | _ => .object "Cocite$Routes"
abbrev wsX50 : List Cond := u_ws RX5 TX5 3
theorem nmX5 : ∀ a, a < 3 → ∀ b, b < 3 → a ≠ b → (TX5 a).2.1 ≠ (TX5 b).2.1 := by decide +kernel
theorem tyX5_ok : ∀ k, k < 3 → parseFieldDescriptor (TX5 k).2.2.1 = some (tyX5 k) := by decide +kernel
abbrev cX5_init : ByteArray := prog_1_method_1_code
def yX5_init : MethodName := ⟨RX5, "<init>", "()V"⟩
abbrev cX5_come : ByteArray := prog_1_method_2_code
def yX5_come : MethodName := ⟨RX5, "come", "(II)I"⟩
abbrev cX5_withdraw : ByteArray := prog_1_method_3_code
def yX5_withdraw : MethodName := ⟨RX5, "withdraw", "(I)I"⟩
abbrev cX5_papers : ByteArray := prog_1_method_4_code
def yX5_papers : MethodName := ⟨RX5, "papers", "()I"⟩
abbrev cX5_references : ByteArray := prog_1_method_5_code
def yX5_references : MethodName := ⟨RX5, "references", "(I)I"⟩
abbrev cX5_citing : ByteArray := prog_1_method_6_code
def yX5_citing : MethodName := ⟨RX5, "citing", "(I)I"⟩
abbrev cX5_shared : ByteArray := prog_1_method_7_code
def yX5_shared : MethodName := ⟨RX5, "shared", "(II)I"⟩
abbrev cX5_joint : ByteArray := prog_1_method_8_code
def yX5_joint : MethodName := ⟨RX5, "joint", "(II)I"⟩
abbrev cX5_totalAnew : ByteArray := prog_1_method_9_code
def yX5_totalAnew : MethodName := ⟨RX5, "totalAnew", "()I"⟩
abbrev cX5_total : ByteArray := prog_1_method_10_code
def yX5_total : MethodName := ⟨RX5, "total", "()I"⟩
abbrev cX5_likenessNumerator : ByteArray := prog_1_method_11_code
def yX5_likenessNumerator : MethodName := ⟨RX5, "likenessNumerator", "(II)I"⟩
abbrev cX5_likenessDenominator : ByteArray := prog_1_method_12_code
def yX5_likenessDenominator : MethodName := ⟨RX5, "likenessDenominator", "(II)I"⟩
abbrev cX5_fieldOf : ByteArray := prog_1_method_13_code
def yX5_fieldOf : MethodName := ⟨RX5, "fieldOf", "(I)I"⟩
abbrev cX5_fields : ByteArray := prog_1_method_14_code
def yX5_fields : MethodName := ⟨RX5, "fields", "()I"⟩
abbrev cX5_gain : ByteArray := prog_1_method_15_code
def yX5_gain : MethodName := ⟨RX5, "gain", "(II)I"⟩
abbrev cX5_split : ByteArray := prog_1_method_16_code
def yX5_split : MethodName := ⟨RX5, "split", "(I)I"⟩
abbrev cX5_count : ByteArray := prog_1_method_17_code
def yX5_count : MethodName := ⟨RX5, "count", "(II)I"⟩
abbrev cX5_ways : ByteArray := prog_1_method_18_code
def yX5_ways : MethodName := ⟨RX5, "ways", "()I"⟩
abbrev cX5_mainLength : ByteArray := prog_1_method_19_code
def yX5_mainLength : MethodName := ⟨RX5, "mainLength", "()I"⟩
abbrev cX5_mainAt : ByteArray := prog_1_method_20_code
def yX5_mainAt : MethodName := ⟨RX5, "mainAt", "(I)I"⟩
abbrev cX5_mainSum : ByteArray := prog_1_method_21_code
def yX5_mainSum : MethodName := ⟨RX5, "mainSum", "()J"⟩
abbrev cX5_rise : ByteArray := prog_1_method_22_code
def yX5_rise : MethodName := ⟨RX5, "rise", "(II)I"⟩
abbrev cX5_riser : ByteArray := prog_1_method_23_code
def yX5_riser : MethodName := ⟨RX5, "riser", "(I)I"⟩
abbrev cX5_heir : ByteArray := prog_1_method_24_code
def yX5_heir : MethodName := ⟨RX5, "heir", "(I)I"⟩
abbrev cX5_mapAnew : ByteArray := prog_1_method_25_code
def yX5_mapAnew : MethodName := ⟨RX5, "mapAnew", "()V"⟩
abbrev cX5_requirePaper : ByteArray := prog_1_method_26_code
def yX5_requirePaper : MethodName := ⟨RX5, "requirePaper", "(I)V"⟩
abbrev cX5_requireField : ByteArray := prog_1_method_27_code
def yX5_requireField : MethodName := ⟨RX5, "requireField", "(I)V"⟩
abbrev cX5_requireYear : ByteArray := prog_1_method_28_code
def yX5_requireYear : MethodName := ⟨RX5, "requireYear", "(I)V"⟩
abbrev cX5_referencePairs : ByteArray := prog_1_method_29_code
def yX5_referencePairs : MethodName := ⟨RX5, "referencePairs", "(II)I"⟩
abbrev cX5_lowestTerm : ByteArray := prog_1_method_30_code
def yX5_lowestTerm : MethodName := ⟨RX5, "lowestTerm", "(III)I"⟩
abbrev cX5_holds : ByteArray := prog_1_method_31_code
def yX5_holds : MethodName := ⟨RX5, "holds", "(II)Z"⟩
abbrev cX5_setOf : ByteArray := prog_1_method_32_code
def yX5_setOf : MethodName := ⟨RX5, "setOf", "(I)I"⟩
def RX6 : String := "CociteModel"
def TX6 : u_T := fun k => match k with
  | _ => ("", "", "", false)
def tyX6 : Nat → FieldType := fun k => match k with
  | _ => .int
abbrev wsX60 : List Cond := u_ws RX6 TX6 0
theorem nmX6 : ∀ a, a < 0 → ∀ b, b < 0 → a ≠ b → (TX6 a).2.1 ≠ (TX6 b).2.1 := by decide +kernel
theorem tyX6_ok : ∀ k, k < 0 → parseFieldDescriptor (TX6 k).2.2.1 = some (tyX6 k) := by decide +kernel
def RJ6 : String := "java/lang/Integer"
abbrev cJ6_bitCount_0f7a4 : ByteArray := prog_14_method_49_code
def yJ6_bitCount_0f7a4 : MethodName := ⟨RJ6, "bitCount", "(I)I"⟩
def RL : String := "CociteLaw"
abbrev cL_dice : ByteArray := method_2_code
def yL_dice : MethodName := ⟨RL, "dice", "([II)I"⟩
abbrev cL_come : ByteArray := method_3_code
def yL_come : MethodName := ⟨RL, "come", "(LCocite;II)I"⟩
abbrev cL_of : ByteArray := method_4_code
def yL_of : MethodName := ⟨RL, "of", "(LCocite;III)I"⟩
abbrev cL_at : ByteArray := method_5_code
def yL_at : MethodName := ⟨RL, "at", "(LCocite;II)I"⟩
abbrev cL_bits : ByteArray := method_6_code
def yL_bits : MethodName := ⟨RL, "bits", "(I)I"⟩
abbrev cL_all : ByteArray := method_7_code
def yL_all : MethodName := ⟨RL, "all", "(LCocite;[I)J"⟩
abbrev cL_arePapers : ByteArray := method_8_code
def yL_arePapers : MethodName := ⟨RL, "arePapers", "(LCocite;[I[I[I)Z"⟩
abbrev cL_isLowest : ByteArray := method_9_code
def yL_isLowest : MethodName := ⟨RL, "isLowest", "(II)Z"⟩
abbrev cL_areFields : ByteArray := method_10_code
def yL_areFields : MethodName := ⟨RL, "areFields", "(LCocite;[I)Z"⟩
abbrev cL_isSplit : ByteArray := method_11_code
def yL_isSplit : MethodName := ⟨RL, "isSplit", "(LCocite;[II)Z"⟩
abbrev cL_areWays : ByteArray := method_12_code
def yL_areWays : MethodName := ⟨RL, "areWays", "(LCocite;[I)Z"⟩
abbrev cL_isMain : ByteArray := method_13_code
def yL_isMain : MethodName := ⟨RL, "isMain", "(LCocite;[I)Z"⟩
abbrev cL_isLess : ByteArray := method_14_code
def yL_isLess : MethodName := ⟨RL, "isLess", "(LCocite;[II)Z"⟩
abbrev cL_areRises : ByteArray := method_15_code
def yL_areRises : MethodName := ⟨RL, "areRises", "(LCocite;[I[II)Z"⟩
abbrev cL_isRefused : ByteArray := method_16_code
def yL_isRefused : MethodName := ⟨RL, "isRefused", "(LCocite;[I[I[II)Z"⟩
abbrev cL_isCome : ByteArray := method_17_code
def yL_isCome : MethodName := ⟨RL, "isCome", "(LCocite;[I[I[III)Z"⟩
abbrev cL_isGone : ByteArray := method_18_code
def yL_isGone : MethodName := ⟨RL, "isGone", "(LCocite;[II)Z"⟩
abbrev cL_law : ByteArray := code
def yL_law : MethodName := ⟨RL, "law", "([I)Z"⟩
abbrev vwCl : List vw_C := [(RX0, TX0, 8), (RX1, TX1, 8), (RX2, TX2, 1), (RX3, TX3, 8), (RX4, TX4, 1), (RX5, TX5, 3)]
end
section
/-! THE ABSTRACT MACHINE: heaps as lists of cells, a reference is a place in the list; straight code is run by a function (az_run), its soundness is proved once -/
section AZ1
abbrev az_E : Type := (Nat × vp_A) ⊕ (Nat × List Value)
abbrev az_H : Type := List az_E
def az_v (ad : Nat → Nat) : Value → Value
  | .ref k => .ref (ad k)
  | v => v
theorem az_v_cat (ad : Nat → Nat) (v : Value) : (az_v ad v).category = v.category := by cases v <;> rfl
def az_e (cA : Nat → ClassId) (ad : Nat → Nat) : az_E → va_E
  | .inl q => .inl (cA q.1, q.2)
  | .inr q => .inr (q.1, q.2.map (az_v ad))
def az_w (cA : Nat → ClassId) (ad : Nat → Nat) (hp : az_H) : va_W := hp.mapIdx (fun i e => (ad i, az_e cA ad e))
theorem az_w_at {cA : Nat → ClassId} {ad : Nat → Nat} {hp : az_H} {k : Nat} {e : az_E} (h : hp[k]? = some e) : (az_w cA ad hp)[k]? = some (ad k, az_e cA ad e) := by
  unfold az_w
  rw [List.getElem?_mapIdx, h]
  rfl
theorem az_w_set (cA : Nat → ClassId) (ad : Nat → Nat) (hp : az_H) (k : Nat) (e : az_E) : az_w cA ad (hp.set k e) = (az_w cA ad hp).set k (ad k, az_e cA ad e) := by
  apply List.ext_getElem?
  intro j
  unfold az_w
  rw [List.getElem?_mapIdx, List.getElem?_set, List.getElem?_set, List.length_mapIdx, List.getElem?_mapIdx]
  by_cases h : k = j
  · subst h
    by_cases h2 : k < hp.length
    · simp [h2]
    · simp [h2]
  · simp [h]
/-- the locals, by place: none is unknown -/
def az_lv (ad : Nat → Nat) : Nat → List (Option Value) → List (Nat × Value)
  | _, [] => []
  | i, none :: t => az_lv ad (i + 1) t
  | i, some v :: t => (i, az_v ad v) :: az_lv ad (i + 1) t
theorem az_lv_mem (ad : Nat → Nat) : ∀ (lo : List (Option Value)) (k : Nat) (q : Nat × Value), q ∈ az_lv ad k lo ↔ ∃ (i : Nat) (v : Value), lo[i]? = some (some v) ∧ q = (k + i, az_v ad v)
  | [], k, q => by simp [az_lv]
  | none :: t, k, q => by
    unfold az_lv
    rw [az_lv_mem ad t (k + 1) q]
    constructor
    · rintro ⟨i, v, h1, h2⟩
      exact ⟨i + 1, v, by simpa using h1, by rw [h2]; congr 1; omega⟩
    · rintro ⟨i, v, h1, h2⟩
      cases i with
      | zero => simp at h1
      | succ i => exact ⟨i, v, by simpa using h1, by rw [h2]; congr 1; omega⟩
  | some w :: t, k, q => by
    unfold az_lv
    rw [List.mem_cons, az_lv_mem ad t (k + 1) q]
    constructor
    · rintro (h | ⟨i, v, h1, h2⟩)
      · exact ⟨0, w, by simp, by rw [h]; rfl⟩
      · exact ⟨i + 1, v, by simpa using h1, by rw [h2]; congr 1; omega⟩
    · rintro ⟨i, v, h1, h2⟩
      cases i with
      | zero =>
        simp at h1
        subst h1
        exact Or.inl h2
      | succ i => exact Or.inr ⟨i, v, by simpa using h1, by rw [h2]; congr 1; omega⟩
def az_ls (ad : Nat → Nat) (ls : Array Slot) (nL : Nat) (lo : List (Option Value)) : Prop := lv_has ls nL (az_lv ad 0 lo) ∧ lo.length = nL
theorem az_ls_at {ad : Nat → Nat} {ls : Array Slot} {nL : Nat} {lo : List (Option Value)} (h : az_ls ad ls nL lo) {i : Nat} {v : Value} (hi : lo[i]? = some (some v)) : ls[i]? = some (.val (az_v ad v)) :=
  h.1.2.2 (i, az_v ad v) ((az_lv_mem ad lo 0 _).mpr ⟨i, v, hi, by rw [Nat.zero_add]⟩)
def az_no2 : Option (Option Value) → Bool
  | some (some v) => Nat.beq v.category 1
  | _ => true
/-- a store of a value of one word -/
def az_pre (lo : List (Option Value)) : Nat → Bool
  | 0 => true
  | j + 1 => az_no2 lo[j]?
def az_s1 (i : Nat) (v : Value) (lo : List (Option Value)) : Option (List (Option Value)) :=
  match Nat.ble (i + 1) lo.length && az_pre lo i with
  | true => some (lo.set i (some v))
  | false => none
def az_s2 (i : Nat) (v : Value) (lo : List (Option Value)) : Option (List (Option Value)) :=
  match Nat.ble (i + 2) lo.length && az_pre lo i with
  | true => some ((lo.set i (some v)).set (i + 1) none)
  | false => none
theorem az_set_at {α : Type} (l : List α) (i : Nat) (x : α) : (l.set i x)[i]? = if i < l.length then some x else none := by
  rw [List.getElem?_set]
  simp
theorem az_pre_of {lo : List (Option Value)} {i : Nat} (h : az_pre lo i = true) : ∀ (j : Nat) (w : Value), j + 1 = i → lo[j]? = some (some w) → w.category = 1 := by
  intro j w hj hw
  subst hj
  have h : az_no2 lo[j]? = true := h
  rw [hw] at h
  exact Nat.eq_of_beq_eq_true h
theorem az_s1_of {i : Nat} {v : Value} {lo lo' : List (Option Value)} (h : az_s1 i v lo = some lo') : lo' = lo.set i (some v) ∧ i < lo.length ∧ ∀ (j : Nat) (w : Value), j + 1 = i → lo[j]? = some (some w) → w.category = 1 := by
  unfold az_s1 at h
  split at h
  · rename_i hn
    rw [Bool.and_eq_true] at hn
    exact ⟨(Option.some.inj h).symm, Nat.le_of_ble_eq_true hn.1, az_pre_of hn.2⟩
  · cases h
theorem az_s2_of {i : Nat} {v : Value} {lo lo' : List (Option Value)} (h : az_s2 i v lo = some lo') : lo' = (lo.set i (some v)).set (i + 1) none ∧ i + 1 < lo.length ∧ ∀ (j : Nat) (w : Value), j + 1 = i → lo[j]? = some (some w) → w.category = 1 := by
  unfold az_s2 at h
  split at h
  · rename_i hn
    rw [Bool.and_eq_true] at hn
    exact ⟨(Option.some.inj h).symm, Nat.le_of_ble_eq_true hn.1, az_pre_of hn.2⟩
  · cases h
theorem az_ls_s1 {ad : Nat → Nat} {ls' : Array Slot} {nL i : Nat} {v : Value} {lo lo' : List (Option Value)} (hlen : lo.length = nL) (h : az_s1 i v lo = some lo')
    (hl : lv_has ls' nL ((i, az_v ad v) :: (az_lv ad 0 lo).filter (fun q => !(q.1 == i) && !(q.1 + 1 == i && q.2.category == 2)))) : az_ls ad ls' nL lo' := by
  obtain ⟨rfl, -, hc⟩ := az_s1_of h
  refine ⟨⟨hl.1, hl.2.1, fun q hq => hl.2.2 q ?_⟩, by rw [List.length_set]; exact hlen⟩
  obtain ⟨j, w, hj, rfl⟩ := (az_lv_mem ad _ 0 q).mp hq
  rw [Nat.zero_add]
  by_cases hij : i = j
  · subst hij
    rw [az_set_at] at hj
    split at hj
    · cases hj
      exact List.mem_cons_self
    · cases hj
  · rw [List.getElem?_set_ne hij] at hj
    refine List.mem_cons_of_mem _ (List.mem_filter.mpr ⟨(az_lv_mem ad lo 0 _).mpr ⟨j, w, hj, by rw [Nat.zero_add]⟩, ?_⟩)
    have h1 : (j == i) = false := by simp; omega
    by_cases h2 : j + 1 = i
    · have hw := hc j w h2 hj
      have h3 : ((az_v ad w).category == 2) = false := by rw [az_v_cat, hw]; rfl
      simp only [h1, h3, Bool.and_false, Bool.not_false, Bool.and_self]
    · have h3 : (j + 1 == i) = false := by simp; omega
      simp only [h1, h3, Bool.false_and, Bool.not_false, Bool.and_self]
theorem az_ls_s2 {ad : Nat → Nat} {ls' : Array Slot} {nL i : Nat} {v : Value} {lo lo' : List (Option Value)} (hlen : lo.length = nL) (h : az_s2 i v lo = some lo')
    (hl : lv_has ls' nL ((i, az_v ad v) :: (az_lv ad 0 lo).filter (fun q => !(q.1 == i) && (!(q.1 == i + 1) && !(q.1 + 1 == i && q.2.category == 2))))) : az_ls ad ls' nL lo' := by
  obtain ⟨rfl, -, hc⟩ := az_s2_of h
  refine ⟨⟨hl.1, hl.2.1, fun q hq => hl.2.2 q ?_⟩, by rw [List.length_set, List.length_set]; exact hlen⟩
  obtain ⟨j, w, hj, rfl⟩ := (az_lv_mem ad _ 0 q).mp hq
  rw [Nat.zero_add]
  by_cases hi1 : i + 1 = j
  · subst hi1
    rw [az_set_at] at hj
    split at hj <;> cases hj
  · rw [List.getElem?_set_ne hi1] at hj
    by_cases hij : i = j
    · subst hij
      rw [az_set_at] at hj
      split at hj
      · cases hj
        exact List.mem_cons_self
      · cases hj
    · rw [List.getElem?_set_ne hij] at hj
      refine List.mem_cons_of_mem _ (List.mem_filter.mpr ⟨(az_lv_mem ad lo 0 _).mpr ⟨j, w, hj, by rw [Nat.zero_add]⟩, ?_⟩)
      have h1 : (j == i) = false := by simp; omega
      have h4 : (j == i + 1) = false := by simp; omega
      by_cases h2 : j + 1 = i
      · have hw := hc j w h2 hj
        have h3 : ((az_v ad w).category == 2) = false := by rw [az_v_cat, hw]; rfl
        simp only [h1, h3, h4, Bool.and_false, Bool.not_false, Bool.and_self]
      · have h3 : (j + 1 == i) = false := by simp; omega
        simp only [h1, h3, h4, Bool.false_and, Bool.not_false, Bool.and_self]
/-- fewer locals known -/
theorem az_ls_sub {ad : Nat → Nat} {ls : Array Slot} {nL : Nat} {lo lo' : List (Option Value)} (h : az_ls ad ls nL lo) (hlen : lo'.length = lo.length) (hs : ∀ (i : Nat) (v : Value), lo'[i]? = some (some v) → lo[i]? = some (some v)) : az_ls ad ls nL lo' := by
  refine ⟨⟨h.1.1, h.1.2.1, fun q hq => h.1.2.2 q ?_⟩, hlen.trans h.2⟩
  obtain ⟨i, v, hi, rfl⟩ := (az_lv_mem ad _ 0 q).mp hq
  exact (az_lv_mem ad lo 0 _).mpr ⟨i, v, hs i v hi, rfl⟩
/-- one straight instruction -/
def az_gf (ci : Nat) (flt : List (Nat × Nat × Nat)) (hp : az_H) (idx k : Nat) : Option Value :=
  match flt.lookup idx, hp[k]? with
  | some f, some (.inr q) => match Nat.beq q.1 ci with
    | true => q.2[f.1]?
    | false => none
  | _, _ => none
def az_tyok : FieldType → Value → Bool
  | .int, .int _ => true
  | .object _, .ref _ => true
  | .array _, .ref _ => true
  | _, _ => false
def az_pf (ci N : Nat) (T : u_T) (ty : Nat → FieldType) (ctor : Bool) (flt : List (Nat × Nat × Nat)) (hp : az_H) (idx k : Nat) (v : Value) : Option az_H :=
  match flt.lookup idx, hp[k]? with
  | some f, some (.inr q) => match Nat.beq q.1 ci && (Nat.beq q.2.length N && ((!(T f.1).2.2.2 || ctor) && az_tyok (ty f.1) v)) with
    | true => some (hp.set k (.inr (q.1, q.2.set f.1 v)))
    | false => none
  | _, _ => none
def az_lg (lo : List (Option Value)) (i : Nat) : Option Value := match lo[i]? with
  | some (some v) => some v
  | _ => none
def az_al (hp : az_H) (k : Nat) : Option Nat := match hp[k]? with
  | some (.inl (t, n, _)) => match Nat.ble t 0 with
    | true => some n
    | false => none
  | _ => none
def az_ps (lo : List (Option Value)) (st : List Value) (hp : az_H) : Option Value → Option (List (Option Value) × List Value × az_H)
  | some v => some (lo, v :: st, hp)
  | none => none
def az_pl (st : List Value) (hp : az_H) : Option (List (Option Value)) → Option (List (Option Value) × List Value × az_H)
  | some lo => some (lo, st, hp)
  | none => none
def az_ph (lo : List (Option Value)) (st : List Value) : Option az_H → Option (List (Option Value) × List Value × az_H)
  | some hp => some (lo, st, hp)
  | none => none
def az_isI : Value → Bool
  | .int _ => true
  | _ => false
def az_isR : Value → Bool
  | .ref _ => true
  | _ => false
def az_x (ci N : Nat) (T : u_T) (ty : Nat → FieldType) (ctor : Bool) (flt : List (Nat × Nat × Nat)) (i : Instr) (lo : List (Option Value)) (st : List Value) (hp : az_H) : Option (List (Option Value) × List Value × az_H) :=
  match i with
  | .iconst n => some (lo, .int (Int32.ofInt n) :: st, hp)
  | .bipush n => some (lo, .int (Int8.ofInt n).toInt32 :: st, hp)
  | .sipush n => some (lo, .int (Int16.ofInt n).toInt32 :: st, hp)
  | .lconst n => some (lo, .long (Int64.ofNat (n : Nat)) :: st, hp)
  | .iload_n k => match az_lg lo k with
    | some (.int x) => some (lo, .int x :: st, hp)
    | _ => none
  | .iload k => match az_lg lo k with
    | some (.int x) => some (lo, .int x :: st, hp)
    | _ => none
  | .lload_n k => match az_lg lo k with
    | some (.long x) => some (lo, .long x :: st, hp)
    | _ => none
  | .lload k => match az_lg lo k with
    | some (.long x) => some (lo, .long x :: st, hp)
    | _ => none
  | .aload_n k => match az_lg lo k with
    | some (.ref x) => some (lo, .ref x :: st, hp)
    | _ => none
  | .aload k => match az_lg lo k with
    | some (.ref x) => some (lo, .ref x :: st, hp)
    | _ => none
  | .istore_n k => match st with
    | .int x :: t => az_pl t hp (az_s1 k (.int x) lo)
    | _ => none
  | .istore k => match st with
    | .int x :: t => az_pl t hp (az_s1 k (.int x) lo)
    | _ => none
  | .lstore_n k => match st with
    | .long x :: t => az_pl t hp (az_s2 k (.long x) lo)
    | _ => none
  | .lstore k => match st with
    | .long x :: t => az_pl t hp (az_s2 k (.long x) lo)
    | _ => none
  | .astore_n k => match st with
    | .ref x :: t => az_pl t hp (az_s1 k (.ref x) lo)
    | _ => none
  | .astore k => match st with
    | .ref x :: t => az_pl t hp (az_s1 k (.ref x) lo)
    | _ => none
  | .iinc k n => match az_lg lo k with
    | some (.int x) => az_pl st hp (az_s1 k (.int (x + Int32.ofInt n)) lo)
    | _ => none
  | .iadd => match st with
    | .int y :: .int x :: t => some (lo, .int (x + y) :: t, hp)
    | _ => none
  | .isub => match st with
    | .int y :: .int x :: t => some (lo, .int (x - y) :: t, hp)
    | _ => none
  | .imul => match st with
    | .int y :: .int x :: t => some (lo, .int (x * y) :: t, hp)
    | _ => none
  | .iand => match st with
    | .int y :: .int x :: t => some (lo, .int (x &&& y) :: t, hp)
    | _ => none
  | .ior => match st with
    | .int y :: .int x :: t => some (lo, .int (x ||| y) :: t, hp)
    | _ => none
  | .ixor => match st with
    | .int y :: .int x :: t => some (lo, .int (x ^^^ y) :: t, hp)
    | _ => none
  | .ishl => match st with
    | .int y :: .int x :: t => some (lo, .int (x <<< (y &&& 31)) :: t, hp)
    | _ => none
  | .ishr => match st with
    | .int y :: .int x :: t => some (lo, .int (x >>> (y &&& 31)) :: t, hp)
    | _ => none
  | .iushr => match st with
    | .int y :: .int x :: t => some (lo, .int (x.toUInt32 >>> (y.toUInt32 &&& Int32.toUInt32 31)).toInt32 :: t, hp)
    | _ => none
  | .i2l => match st with
    | .int x :: t => some (lo, .long x.toInt64 :: t, hp)
    | _ => none
  | .ladd => match st with
    | .long y :: .long x :: t => some (lo, .long (x + y) :: t, hp)
    | _ => none
  | .lmul => match st with
    | .long y :: .long x :: t => some (lo, .long (x * y) :: t, hp)
    | _ => none
  | .lcmp => match st with
    | .long y :: .long x :: t => some (lo, .int (lg_cmp x y) :: t, hp)
    | _ => none
  | .dup => match st with
    | v :: t => match Nat.beq v.category 1 with
      | true => some (lo, v :: v :: t, hp)
      | false => none
    | _ => none
  | .dup2 => match st with
    | w :: v :: t => match Nat.beq w.category 1 && Nat.beq v.category 1 with
      | true => some (lo, w :: v :: w :: v :: t, hp)
      | false => none
    | _ => none
  | .arraylength => match st with
    | .ref k :: t => match az_al hp k with
      | some n => some (lo, .int (Int32.ofNat n) :: t, hp)
      | none => none
    | _ => none
  | .getfield idx => match st with
    | .ref k :: t => az_ps lo t hp (az_gf ci flt hp idx k)
    | _ => none
  | .putfield idx => match st with
    | v :: .ref k :: t => az_ph lo t (az_pf ci N T ty ctor flt hp idx k v)
    | _ => none
  | _ => none
def az_len : Instr → Nat
  | .bipush _ => 2
  | .sipush _ => 3
  | .iload _ => 2
  | .aload _ => 2
  | .istore _ => 2
  | .astore _ => 2
  | .iinc _ _ => 3
  | .getfield _ => 3
  | .putfield _ => 3
  | .invokevirtual _ => 3
  | .invokestatic _ => 3
  | .invokespecial _ => 3
  | .new _ => 3
  | .newarray _ => 2
  | .ldc _ => 2
  | .ldc_w _ => 3
  | .ldc2_w _ => 3
  | .lload _ => 2
  | .lstore _ => 2
  | .goto _ => 3
  | .ifCond _ _ => 3
  | .if_icmp _ _ => 3
  | .tableswitch _ _ _ _ => 105
  | _ => 1
def az_run (ci N : Nat) (T : u_T) (ty : Nat → FieldType) (ctor : Bool) (flt : List (Nat × Nat × Nat)) : List (Nat × Instr) → Nat → List (Option Value) → List Value → az_H → Option (Nat × List (Option Value) × List Value × az_H)
  | [], pc, lo, st, hp => some (pc, lo, st, hp)
  | x :: t, pc, lo, st, hp => match Nat.beq x.1 pc with
    | true => match az_x ci N T ty ctor flt x.2 lo st hp with
      | some q => az_run ci N T ty ctor flt t (pc + az_len x.2) q.1 q.2.1 q.2.2
      | none => none
    | false => none
end AZ1
end
section
/-! what every method may take as given of the machine: the tables' words, moved along; and how a method's contract looks in abstract terms -/
section AZ2
/-- a word that stays true as the run goes on -/
def az_kp : Cond → Bool
  | .castable _ _ => true
  | .declares _ => true
  | .methodLinkNest _ _ _ _ => true
  | w => goodWord w
theorem az_kp_warm {a a' : Array Value} {s U : State} {w : Cond} (hk : az_kp w = true) (hW : s.WarmedH U.vm) (h : w.before a s = true) : w.before a' U = true := by
  unfold az_kp at hk
  split at hk
  · exact va_Nw.use rfl (va_Nw.warmC hW (va_Nw.of rfl h))
  · exact va_Nw.use rfl (va_Nw.warmD hW (va_Nw.of rfl h))
  · exact va_Nw.use rfl (va_Nw.warmM hW (va_Nw.of rfl h))
  · exact word_at hW (good_of_word hk) h
/-- the texts of the exceptions -/
def az_txt : List (String × Nat × String) := [("Cocite", 36, "the year is out of range"), ("Cocite", 44, "a paper that is referred to is not there"), ("Cocite", 52, "all papers have come"), ("Cocite", 164, "the paper is not there"), ("Cocite", 169, "there is no such field"), ("Cocite", 113, "both fields are the same"), ("Cocite", 127, "the paper does not refer to the other one"), ("Cocite", 141, "the main way has no such place")]
def az_wd (s : State) : Prop := ∀ w ∈ lw_tbl, az_kp w = true → w.before #[] s = true
theorem az_wd.warm {s U : State} (hW : s.WarmedH U.vm) (h : az_wd s) : az_wd U := fun w hw hk => az_kp_warm hk hW (h w hw hk)
theorem az_wd.use {s : State} (h : az_wd s) {w : Cond} (hw : w ∈ lw_tbl) (hk : az_kp w = true) (a : Array Value) : w.before a s = true := az_kp_warm hk (State.WarmedH.refl s) (h w hw hk)
theorem az_wd.call {U : State} (h : az_wd U) (g : JFrame) (mk : MethodId) (a : Array Value) : az_wd (U.calling g mk a) := fun w hw hk => az_kp_warm (U := U.calling g mk a) hk (State.WarmedH.refl U) (h w hw hk)
def az_ev (A : Nat → Prop) (U : State) : Prop := az_wd U ∧ vx_Zq Bundle.tN "UNASSIGNED_STACK" Bundle.steD A U U.heap ∧ vx_Zq Bundle.tN "SUPPRESSED_SENTINEL" Bundle.listD A U U.heap ∧ ∀ q ∈ az_txt, ∃ a : Nat, vk_R q.1 q.2.1 q.2.2 a U
theorem az_ev.to {A B : Nat → Prop} {s U : State} {H : Heap} {locs : List Loc} (h : az_ev A s) (hW : s.WarmedH U.vm) (hS : va_S A s.heap H locs) (hU : U.heap = H) (hB : ∀ q, B q → A q) : az_ev B U := by
  obtain ⟨h1, h2, h3, h4⟩ := h
  have z : ∀ {C n d : String}, vx_Zq C n d A s s.heap → vx_Zq C n d B U U.heap := by
    intro C n d k
    rw [hU]
    exact vx_Zq.moved hW.alike ((k.kept hS.2.1).narrow hB)
  exact ⟨h1.warm hW, z h2, z h3, fun q hq => by obtain ⟨a, ha⟩ := h4 q hq; exact ⟨a, vk_R.warm hW ha⟩⟩
theorem az_ev.call {A : Nat → Prop} {U : State} (h : az_ev A U) (g : JFrame) (mk : MethodId) (a : Array Value) : az_ev A (U.calling g mk a) := by
  obtain ⟨h1, h2, h3, h4⟩ := h
  exact ⟨h1.call g mk a, vx_Zq.moved (u := U) (U := U.calling g mk a) (Vm.Alike.refl U.vm) h2, vx_Zq.moved (u := U) (U := U.calling g mk a) (Vm.Alike.refl U.vm) h3, fun q hq => by obtain ⟨a9, ha⟩ := h4 q hq; exact ⟨a9, vk_R.same (u := U) (U := U.calling g mk a) rfl ha⟩⟩
def az_tys (cA : Nat → ClassId) : List (ClassId × FieldType) := [(cA 0, .int)]
/-- the state of the machine that a method's start needs, beside its heap -/
def az_U (D : va_G) (cA : Nat → ClassId) (ad : Nat → Nat) (hp : az_H) (sz : Nat) : State → Prop := fun U =>
  U.heap.size = sz ∧ va_P D vwCl (az_w cA ad hp) U.heap ∧ va_K D vwCl (az_tys cA) U ∧ va_D (fun _ => True) (az_w cA ad hp) ∧ az_ev (va_A (az_w cA ad hp) sz) U
/-- a method's end: the answer and the heap behind it, by Ψ; with gr the heap may have grown -/
def az_Q (D : va_G) (cA : Nat → ClassId) (ad : Nat → Nat) (hp : az_H) (sz : Nat) (gr : Bool) (Ψ : Option Value → az_H → Prop) : Array Value → State → Outcome → State → Prop := fun _ st oc t =>
  (∃ (r : Option Value) (hp' : az_H) (ad' : Nat → Nat), oc = .returned (r.map (az_v ad')) ∧ Ψ r hp' ∧ (gr = false → ad' = ad) ∧ (∀ i, i < hp.length → ad' i = ad i) ∧ va_P D vwCl (az_w cA ad' hp') t.heap ∧ va_D (va_A (az_w cA ad hp) sz) (az_w cA ad' hp')) ∧ va_F (va_A (az_w cA ad hp) sz) st t
/-- the contract of a method that returns -/
def AMet (l : Launch) (y : MethodName) (cc : ByteArray) (maxL : Nat) (ret : Option FieldType) (rm : Room) (gr : Bool) (as : List Value) (hp : az_H) (Ψ : Option Value → az_H → Prop) : Prop :=
  ∀ (D : va_G) (cA : Nat → ClassId) (ad : Nat → Nat) (sz : Nat),
    Met l y [.code y cc maxL ret] rm (va_Pc (as.map (az_v ad)) (az_U D cA ad hp sz)) (az_Q D cA ad hp sz gr Ψ) rm.cells rm.slots (va_A (az_w cA ad hp) sz)
/-- what stays the same while a method runs -/
abbrev az_K : Type := Program × Launch × Env × Room × State × MethodId × Array Value × List Frame × Method × Code × va_G × (Nat → ClassId) × (Nat → Prop) × ((Nat → Nat) → Prop) × (State → Prop) × Nat
def AW (K : az_K) (cells slots pc : Nat) (lo : List (Option Value)) (st : List Value) (hp : az_H) : Prop :=
  match K with
  | (p, l, e, R, s, m, args, below, meth, c, D, cA, A, Ag, Q, nL) =>
    ∀ (ad : Nat → Nat) (H : Heap) (locs : List Loc) (ls : Array Slot), Ag ad → va_P D vwCl (az_w cA ad hp) H → va_D A (az_w cA ad hp) → va_S A s.heap H locs → az_ls ad ls nL lo →
      W p l e R s m args below meth c H locs cells slots Q (F0 m pc ls (st.map (az_v ad)))
def az_OK (K : az_K) (own : String) (cc : ByteArray) (R0 : Room) (l0 : Launch) : Prop :=
  match K with
  | (p, l, e, R, s, m, args, below, meth, c, D, cA, A, Ag, Q, nL) =>
    p.tables.exec = Jvm.exec ∧ c.code = cc ∧ c.maxLocals = nL ∧ meth.locks = false ∧ s.vm.findClass own = some m.cls ∧ az_ev A s ∧ va_K D vwCl (az_tys cA) s ∧ (∀ q, s.heap.size ≤ q → A q) ∧ R = R0 ∧ l = l0
/-- the class whose method it is: its number, its fields -/
def az_Cl (own : String) (ci N : Nat) (T : u_T) (ty : Nat → FieldType) (flt : List (Nat × Nat × Nat)) : Prop :=
  flt ≠ [] → vwCl[ci]? = some (own, T, N) ∧ (∀ w ∈ u_ws own T N, w ∈ lw_tbl ∧ az_kp w = true) ∧ (∀ k, k < N → parseFieldDescriptor (T k).2.2.1 = some (ty k)) ∧ (∀ a, a < N → ∀ b, b < N → a ≠ b → (T a).2.1 ≠ (T b).2.1) ∧
  (∀ k, k < N → (T k).1 = own) ∧ ∀ q ∈ flt, q.2.1 < N ∧ Cond.fieldLink own q.1 own (T q.2.1).2.1 (T q.2.1).2.2.1 ∈ lw_tbl
theorem az_look {flt : List (Nat × Nat × Nat)} {idx : Nat} {f : Nat × Nat} (h : flt.lookup idx = some f) : (idx, f) ∈ flt := by
  induction flt with
  | nil => simp at h
  | cons q t ih =>
    obtain ⟨a, b⟩ := q
    rw [List.lookup_cons] at h
    split at h
    · rename_i hb
      have : idx = a := by simpa using hb
      subst this
      cases h
      exact List.mem_cons_self
    · exact List.mem_cons_of_mem _ (ih h)
end AZ2
end
section
/-! one straight instruction, and straight code, are what az_x and az_run say -/
section AZ3
theorem az_tyok_fit (ad : Nat → Nat) {ty : FieldType} {v : Value} (h : az_tyok ty v = true) : narrow ty (az_v ad v) = az_v ad v ∧ fits ty (az_v ad v) = true := by
  unfold az_tyok at h
  split at h
  · exact ⟨rfl, rfl⟩
  · exact ⟨rfl, rfl⟩
  · exact ⟨rfl, rfl⟩
  · cases h
theorem AW_x {K : az_K} {own : String} {cc : ByteArray} {R0 : Room} {l0 : Launch} {ci N : Nat} {T : u_T} {ty : Nat → FieldType} {ctor : Bool} {flt : List (Nat × Nat × Nat)} (hK : az_OK K own cc R0 l0) (hC : az_Cl own ci N T ty flt)
    (hct : ctor = true → K.2.2.2.2.2.2.2.2.1.name = "<init>") {cells slots pc : Nat} {i : Instr} {lo : List (Option Value)} {st : List Value} {hp : az_H} {q : List (Option Value) × List Value × az_H} (hd : decode cc pc = .ok (i, az_len i)) (hx : az_x ci N T ty ctor flt i lo st hp = some q)
    (k : AW K cells slots (pc + az_len i) q.1 q.2.1 q.2.2) : AW K cells slots pc lo st hp := by
  obtain ⟨p, l, e, R, s, m, args, below, meth, c, D, cA, A, Ag, Q, nL⟩ := K
  obtain ⟨hexec, hb, hml, hlk, hown, hev, hKn, hA, -, -⟩ := hK
  intro ad H locs ls hag hP hD hS hl
  have lg : ∀ {i : Nat} {v : Value}, az_lg lo i = some v → ls[i]? = some (.val (az_v ad v)) := by
    intro i v h
    unfold az_lg at h
    split at h
    · rename_i w hw
      cases h
      exact az_ls_at hl hw
    · cases h
  unfold az_x at hx
  split at hx
  · cases hx; exact lv_iconst hexec hb hd rfl (k ad H locs ls hag hP hD hS hl)
  · cases hx; exact lv_bipush hexec hb hd rfl (k ad H locs ls hag hP hD hS hl)
  · cases hx; exact lv_sipush hexec hb hd rfl (k ad H locs ls hag hP hD hS hl)
  · cases hx; exact lv_lconst hexec hb hd rfl (k ad H locs ls hag hP hD hS hl)
  · split at hx
    · rename_i hg; cases hx; exact lv_iload_n hexec hb hd rfl (lg hg) (k ad H locs ls hag hP hD hS hl)
    · cases hx
  · split at hx
    · rename_i hg; cases hx; exact lv_iload hexec hb hd (lg hg) (k ad H locs ls hag hP hD hS hl)
    · cases hx
  · split at hx
    · rename_i hg; cases hx; exact lv_lload_n hexec hb hd rfl (lg hg) (k ad H locs ls hag hP hD hS hl)
    · cases hx
  · split at hx
    · rename_i hg; cases hx; exact lv_lload hexec hb hd (lg hg) (k ad H locs ls hag hP hD hS hl)
    · cases hx
  · split at hx
    · rename_i hg; cases hx; exact lv_aload_n hexec hb hd rfl (lg hg) (k ad H locs ls hag hP hD hS hl)
    · cases hx
  · split at hx
    · rename_i hg; cases hx; exact lv_aload hexec hb hd (lg hg) (k ad H locs ls hag hP hD hS hl)
    · cases hx
  · split at hx
    · unfold az_pl at hx
      split at hx
      · rename_i hs
        cases hx
        exact lv_istore_n (x := _) hexec hb hd rfl hl.1 (by rw [← hl.2]; exact (az_s1_of hs).2.1) rfl (fun ls' hl' => k ad H locs ls' hag hP hD hS (az_ls_s1 hl.2 hs hl'))
      · cases hx
    · cases hx
  · split at hx
    · unfold az_pl at hx
      split at hx
      · rename_i hs
        cases hx
        exact lv_istore hexec hb hd hl.1 (by rw [← hl.2]; exact (az_s1_of hs).2.1) rfl (fun ls' hl' => k ad H locs ls' hag hP hD hS (az_ls_s1 hl.2 hs hl'))
      · cases hx
    · cases hx
  · split at hx
    · unfold az_pl at hx
      split at hx
      · rename_i hs
        cases hx
        exact lv_lstore_n hexec hb hd rfl hl.1 (by rw [← hl.2]; exact (az_s2_of hs).2.1) rfl (fun ls' hl' => k ad H locs ls' hag hP hD hS (az_ls_s2 hl.2 hs hl'))
      · cases hx
    · cases hx
  · split at hx
    · unfold az_pl at hx
      split at hx
      · rename_i hs
        cases hx
        exact lv_lstore hexec hb hd hl.1 (by rw [← hl.2]; exact (az_s2_of hs).2.1) rfl (fun ls' hl' => k ad H locs ls' hag hP hD hS (az_ls_s2 hl.2 hs hl'))
      · cases hx
    · cases hx
  · split at hx
    · unfold az_pl at hx
      split at hx
      · rename_i hs
        cases hx
        exact lv_astore_n hexec hb hd rfl hl.1 (by rw [← hl.2]; exact (az_s1_of hs).2.1) rfl (fun ls' hl' => k ad H locs ls' hag hP hD hS (az_ls_s1 hl.2 hs hl'))
      · cases hx
    · cases hx
  · split at hx
    · unfold az_pl at hx
      split at hx
      · rename_i hs
        cases hx
        exact lv_astore hexec hb hd hl.1 (by rw [← hl.2]; exact (az_s1_of hs).2.1) rfl (fun ls' hl' => k ad H locs ls' hag hP hD hS (az_ls_s1 hl.2 hs hl'))
      · cases hx
    · cases hx
  · rename_i kk n
    split at hx
    · rename_i x hg
      unfold az_pl at hx
      split at hx
      · rename_i hs
        cases hx
        have hm : (kk, Value.int x) ∈ az_lv ad 0 lo := by
          unfold az_lg at hg
          split at hg
          · rename_i w hw
            cases hg
            exact (az_lv_mem ad lo 0 _).mpr ⟨kk, _, hw, by rw [Nat.zero_add]; rfl⟩
          · cases hg
        obtain ⟨j, hj⟩ := List.getElem?_of_mem hm
        exact lv_iinc hexec hb hd hl.1 hj rfl (by rw [← hl.2]; exact (az_s1_of hs).2.1) rfl (fun ls' hl' => k ad H locs ls' hag hP hD hS (az_ls_s1 hl.2 hs hl'))
      · cases hx
    · cases hx
  · split at hx
    · cases hx; exact lv_iadd hexec hb hd (k ad H locs ls hag hP hD hS hl)
    · cases hx
  · split at hx
    · cases hx; exact lv_isub hexec hb hd (k ad H locs ls hag hP hD hS hl)
    · cases hx
  · split at hx
    · cases hx; exact lv_imul hexec hb hd (k ad H locs ls hag hP hD hS hl)
    · cases hx
  · split at hx
    · cases hx; exact lv_iand hexec hb hd (k ad H locs ls hag hP hD hS hl)
    · cases hx
  · split at hx
    · cases hx; exact lv_ior hexec hb hd (k ad H locs ls hag hP hD hS hl)
    · cases hx
  · split at hx
    · cases hx; exact lv_ixor hexec hb hd (k ad H locs ls hag hP hD hS hl)
    · cases hx
  · split at hx
    · cases hx; exact lv_ishl hexec hb hd (k ad H locs ls hag hP hD hS hl)
    · cases hx
  · split at hx
    · cases hx; exact lv_ishr hexec hb hd (k ad H locs ls hag hP hD hS hl)
    · cases hx
  · split at hx
    · cases hx; exact lv_iushr hexec hb hd rfl (k ad H locs ls hag hP hD hS hl)
    · cases hx
  · split at hx
    · cases hx; exact lv_i2l hexec hb hd rfl (k ad H locs ls hag hP hD hS hl)
    · cases hx
  · split at hx
    · cases hx; exact lv_ladd hexec hb hd (k ad H locs ls hag hP hD hS hl)
    · cases hx
  · split at hx
    · cases hx; exact lv_lmul hexec hb hd (k ad H locs ls hag hP hD hS hl)
    · cases hx
  · split at hx
    · cases hx; exact W.lcmp hexec hb hd (k ad H locs ls hag hP hD hS hl)
    · cases hx
  · split at hx
    · split at hx
      · rename_i hcat
        cases hx
        exact lv_dup hexec hb hd (by rw [az_v_cat]; exact Nat.eq_of_beq_eq_true hcat) (k ad H locs ls hag hP hD hS hl)
      · cases hx
    · cases hx
  · split at hx
    · split at hx
      · rename_i hcat
        rw [Bool.and_eq_true] at hcat
        cases hx
        exact lv_dup2_11 hexec hb hd (by rw [az_v_cat]; exact Nat.eq_of_beq_eq_true hcat.1) (by rw [az_v_cat]; exact Nat.eq_of_beq_eq_true hcat.2) (k ad H locs ls hag hP hD hS hl)
      · cases hx
    · cases hx
  · split at hx
    · split at hx
      · rename_i hn
        cases hx
        unfold az_al at hn
        split at hn
        · rename_i t n0 f0 hk0
          split at hn
          · rename_i hb2
            cases hn
            have ht2 : t ≤ 0 := Nat.le_of_ble_eq_true hb2
            have he := az_w_at (cA := cA) (ad := ad) hk0
            obtain ⟨ty9, hty9⟩ : ∃ ty9, (az_tys cA)[t]? = some (cA t, ty9) := by
              have h09 : t = 0 := by omega
              subst h09
              exact ⟨_, rfl⟩
            exact va_alen hexec hb hKn hP _ t he hty9 rfl hd (k ad H locs ls hag hP hD hS hl)
          · cases hn
        · cases hn
      · cases hx
    · cases hx
  · split at hx
    · unfold az_ps at hx
      split at hx
      · rename_i hg
        cases hx
        unfold az_gf at hg
        split at hg
        · rename_i f0 q0 hf hk0
          split at hg
          · rename_i hci
            have hci : q0.1 = ci := Nat.eq_of_beq_eq_true hci
            obtain ⟨cj, fs⟩ := q0
            dsimp only at hci hg
            subst hci
            obtain ⟨c1, c2, c3, c4, c5, c6⟩ := hC (by intro h9; rw [h9] at hf; cases hf)
            obtain ⟨hfN, hfl⟩ := c6 _ (az_look hf)
            exact va_get (D := D) (C := own) (T := T) (N := N) (Ts := u_ws own T N) hexec hb (fun w hw => hev.1.use (c2 w hw).1 (c2 w hw).2 args) (fun _ h => h) hown hKn hP _ (az_w_at hk0) c1 f0.1 hfN (hev.1.use hfl rfl args) (fun x hx9 => by rw [c5 _ hfN] at hx9; exact hx9) (by show (fs.map (az_v ad))[f0.1]? = _; rw [List.getElem?_map, hg]; rfl) hd (k ad H locs ls hag hP hD hS hl)
          · cases hg
        · cases hg
      · cases hx
    · cases hx
  · split at hx
    · unfold az_ph at hx
      split at hx
      · rename_i hp' hg
        cases hx
        unfold az_pf at hg
        split at hg
        · rename_i f0 q0 hf hk0
          split at hg
          · rename_i hci
            obtain ⟨cj, fs⟩ := q0
            cases hg
            simp only [Bool.and_eq_true, Bool.or_eq_true, Bool.not_eq_true'] at hci
            obtain ⟨hci, hlen, hfin, htyo⟩ := hci
            have hci : cj = ci := Nat.eq_of_beq_eq_true hci
            have hlen : fs.length = N := Nat.eq_of_beq_eq_true hlen
            subst hci
            obtain ⟨c1, c2, c3, c4, c5, c6⟩ := hC (by intro h9; rw [h9] at hf; cases hf)
            obtain ⟨hfN, hfl⟩ := c6 _ (az_look hf)
            have e9 : (fs.map (az_v ad)).length = N := by rw [List.length_map]; exact hlen
            have h9 := az_tyok_fit ad htyo
            have hkk : ∀ (H1 : Heap) (locs1 : List Loc), va_P D vwCl ((az_w cA ad hp).set _ (ad _, .inr (cj, (fs.map (az_v ad)).set f0.1 (az_v ad _)))) H1 → va_D A ((az_w cA ad hp).set _ (ad _, .inr (cj, (fs.map (az_v ad)).set f0.1 (az_v ad _)))) → va_S A s.heap H1 locs1 → _ :=
              fun H1 locs1 hP1 hD1 hS1 => k ad H1 locs1 ls hag (by rw [az_w_set]; show va_P D vwCl ((az_w cA ad hp).set _ (_, .inr (cj, (fs.set f0.1 _).map (az_v ad)))) H1; rw [List.map_set]; exact hP1) (by rw [az_w_set]; show va_D A ((az_w cA ad hp).set _ (_, .inr (cj, (fs.set f0.1 _).map (az_v ad)))); rw [List.map_set]; exact hD1) hS1 hl
            cases hf9 : (T f0.1).2.2.2 with
            | false => exact va_put (D := D) (C := own) (T := T) (N := N) (Ts := u_ws own T N) hexec hb (fun w hw => hev.1.use (c2 w hw).1 (c2 w hw).2 args) (fun _ h => h) ty c3 c4 hown hKn hP hD hS _ (az_w_at hk0) c1 f0.1 hfN (hev.1.use hfl rfl args) (fun x hx9 => by rw [c5 _ hfN] at hx9; exact hx9) hf9 (c3 _ hfN) h9.1 h9.2 (by rw [e9]; exact hfN) hd hkk
            | true =>
              have hct9 := hct (hfin.elim (fun h => by rw [hf9] at h; cases h) id)
              exact va_putF (D := D) (C := own) (T := T) (N := N) (Ts := u_ws own T N) hexec hb (fun w hw => hev.1.use (c2 w hw).1 (c2 w hw).2 args) (fun _ h => h) ty c3 c4 hown hKn hP hD hS _ (az_w_at hk0) c1 f0.1 hfN (hev.1.use hfl rfl args) (fun x hx9 => by rw [c5 _ hfN] at hx9; exact hx9) hf9 hct9 (c5 _ hfN) (c3 _ hfN) h9.1 h9.2 (by rw [e9]; exact hfN) hd hkk
          · cases hg
        · cases hg
      · cases hx
    · cases hx
  · cases hx
/-- straight code -/
theorem AW_run {K : az_K} {own : String} {cc : ByteArray} {R0 : Room} {l0 : Launch} {ci N : Nat} {T : u_T} {ty : Nat → FieldType} {ctor : Bool} {flt : List (Nat × Nat × Nat)} (hK : az_OK K own cc R0 l0) (hC : az_Cl own ci N T ty flt)
    (hct : ctor = true → K.2.2.2.2.2.2.2.2.1.name = "<init>") {cells slots : Nat} : ∀ (bl : List (Nat × Instr)) (_ : ∀ x ∈ bl, decode cc x.1 = .ok (x.2, az_len x.2)) {pc : Nat} {lo : List (Option Value)} {st : List Value} {hp : az_H} {pc' : Nat} {lo' : List (Option Value)} {st' : List Value} {hp' : az_H}
      (_ : az_run ci N T ty ctor flt bl pc lo st hp = some (pc', lo', st', hp')) (_ : AW K cells slots pc' lo' st' hp'), AW K cells slots pc lo st hp
  | [], _, pc, lo, st, hp, pc', lo', st', hp', hx, k => by
    cases hx
    exact k
  | x :: t, hd, pc, lo, st, hp, pc', lo', st', hp', hx, k => by
    unfold az_run at hx
    split at hx
    · rename_i hpc
      have hpc : x.1 = pc := Nat.eq_of_beq_eq_true hpc
      subst hpc
      split at hx
      · rename_i q hq
        exact AW_x hK hC hct (hd x List.mem_cons_self) hq (AW_run hK hC hct t (fun y hy => hd y (List.mem_cons_of_mem _ hy)) hx k)
      · cases hx
    · cases hx
/-- a method's table of instructions is right -/
def az_Tb (cc : ByteArray) (tb : List (Nat × Instr)) : Prop := ∀ x ∈ tb, decode cc x.1 = .ok (x.2, az_len x.2)
theorem az_Tb.of {cc : ByteArray} {tb : List (Nat × Instr)} (h : (tb.all fun x => decide (decode cc x.1 = .ok (x.2, az_len x.2))) = true) : az_Tb cc tb := fun x hx => of_decide_eq_true (List.all_eq_true.mp h x hx)
theorem az_Tb.at {cc : ByteArray} {tb : List (Nat × Instr)} (h : az_Tb cc tb) {i pc : Nat} {ins : Instr} (hi : tb[i]? = some (pc, ins)) : decode cc pc = .ok (ins, az_len ins) := h (pc, ins) (List.mem_of_getElem? hi)
/-- n straight instructions from the i-th on -/
theorem AW_go {K : az_K} {own : String} {cc : ByteArray} {R0 : Room} {l0 : Launch} {ci N : Nat} {T : u_T} {ty : Nat → FieldType} {ctor : Bool} {flt : List (Nat × Nat × Nat)} {tb : List (Nat × Instr)} (hT : az_Tb cc tb) (hC : az_Cl own ci N T ty flt) (hK : az_OK K own cc R0 l0)
    (hct : ctor = true → K.2.2.2.2.2.2.2.2.1.name = "<init>") {cells slots : Nat} (i n : Nat) {pc : Nat} {lo : List (Option Value)} {st : List Value} {hp : az_H} {pc' : Nat} {lo' : List (Option Value)} {st' : List Value} {hp' : az_H}
    (hx : az_run ci N T ty ctor flt ((tb.drop i).take n) pc lo st hp = some (pc', lo', st', hp')) (k : AW K cells slots pc' lo' st' hp') : AW K cells slots pc lo st hp :=
  AW_run hK hC hct _ (fun x h => hT x (List.mem_of_mem_drop (List.mem_of_mem_take h))) hx k
end AZ3
end
section
/-! branches, arrays, returns, calls; a method's contract out of a walk in abstract terms -/
section AZ4
variable {K : az_K} {own : String} {cc : ByteArray} {R0 : Room} {l0 : Launch} {tb : List (Nat × Instr)} {cells slots pc : Nat} {lo : List (Option Value)} {st rest : List Value} {hp : az_H}
theorem AW_goto (hT : az_Tb cc tb) (hK : az_OK K own cc R0 l0) (i : Nat) {off : Int} {tgt : Nat} (hi : tb[i]? = some (pc, .goto off)) (ht : (pc : Int) + off = (tgt : Int)) (k : AW K cells slots tgt lo st hp) : AW K cells slots pc lo st hp := by
  obtain ⟨p, l, e, R, s, m, args, below, meth, c, D, cA, A, Ag, Q, nL⟩ := K
  obtain ⟨hexec, hb, -⟩ := hK
  intro ad H locs ls hag hP hD hS hl
  exact lv_goto hexec hb (hT.at hi) ht (k ad H locs ls hag hP hD hS hl)
theorem AW_if_eq (hT : az_Tb cc tb) (hK : az_OK K own cc R0 l0) (i : Nat) {off : Int} {tgt : Nat} {x : Int32} (hi : tb[i]? = some (pc, .ifCond .eq off)) (ht : (pc : Int) + off = (tgt : Int)) (kt : x = 0 → AW K cells slots tgt lo rest hp) (kf : ¬ x = 0 → AW K cells slots (pc + 3) lo rest hp) : AW K cells slots pc lo (.int x :: rest) hp := by
  obtain ⟨p, l, e, R, s, m, args, below, meth, c, D, cA, A, Ag, Q, nL⟩ := K
  obtain ⟨hexec, hb, -⟩ := hK
  intro ad H locs ls hag hP hD hS hl
  exact lv_if_eq hexec hb (hT.at hi) ht (fun z => kt z ad H locs ls hag hP hD hS hl) (fun z => kf z ad H locs ls hag hP hD hS hl)
theorem AW_icmp_eq (hT : az_Tb cc tb) (hK : az_OK K own cc R0 l0) (i : Nat) {off : Int} {tgt : Nat} {x y : Int32} (hi : tb[i]? = some (pc, .if_icmp .eq off)) (ht : (pc : Int) + off = (tgt : Int)) (kt : x = y → AW K cells slots tgt lo rest hp) (kf : ¬ x = y → AW K cells slots (pc + 3) lo rest hp) : AW K cells slots pc lo (.int y :: .int x :: rest) hp := by
  obtain ⟨p, l, e, R, s, m, args, below, meth, c, D, cA, A, Ag, Q, nL⟩ := K
  obtain ⟨hexec, hb, -⟩ := hK
  intro ad H locs ls hag hP hD hS hl
  exact lv_icmp_eq hexec hb (hT.at hi) ht (fun z => kt z ad H locs ls hag hP hD hS hl) (fun z => kf z ad H locs ls hag hP hD hS hl)
theorem AW_if_ne (hT : az_Tb cc tb) (hK : az_OK K own cc R0 l0) (i : Nat) {off : Int} {tgt : Nat} {x : Int32} (hi : tb[i]? = some (pc, .ifCond .ne off)) (ht : (pc : Int) + off = (tgt : Int)) (kt : ¬ x = 0 → AW K cells slots tgt lo rest hp) (kf : x = 0 → AW K cells slots (pc + 3) lo rest hp) : AW K cells slots pc lo (.int x :: rest) hp := by
  obtain ⟨p, l, e, R, s, m, args, below, meth, c, D, cA, A, Ag, Q, nL⟩ := K
  obtain ⟨hexec, hb, -⟩ := hK
  intro ad H locs ls hag hP hD hS hl
  exact lv_if_ne hexec hb (hT.at hi) ht (fun z => kt z ad H locs ls hag hP hD hS hl) (fun z => kf z ad H locs ls hag hP hD hS hl)
theorem AW_icmp_ne (hT : az_Tb cc tb) (hK : az_OK K own cc R0 l0) (i : Nat) {off : Int} {tgt : Nat} {x y : Int32} (hi : tb[i]? = some (pc, .if_icmp .ne off)) (ht : (pc : Int) + off = (tgt : Int)) (kt : ¬ x = y → AW K cells slots tgt lo rest hp) (kf : x = y → AW K cells slots (pc + 3) lo rest hp) : AW K cells slots pc lo (.int y :: .int x :: rest) hp := by
  obtain ⟨p, l, e, R, s, m, args, below, meth, c, D, cA, A, Ag, Q, nL⟩ := K
  obtain ⟨hexec, hb, -⟩ := hK
  intro ad H locs ls hag hP hD hS hl
  exact lv_icmp_ne hexec hb (hT.at hi) ht (fun z => kt z ad H locs ls hag hP hD hS hl) (fun z => kf z ad H locs ls hag hP hD hS hl)
theorem AW_if_lt (hT : az_Tb cc tb) (hK : az_OK K own cc R0 l0) (i : Nat) {off : Int} {tgt : Nat} {x : Int32} (hi : tb[i]? = some (pc, .ifCond .lt off)) (ht : (pc : Int) + off = (tgt : Int)) (kt : x < 0 → AW K cells slots tgt lo rest hp) (kf : ¬ x < 0 → AW K cells slots (pc + 3) lo rest hp) : AW K cells slots pc lo (.int x :: rest) hp := by
  obtain ⟨p, l, e, R, s, m, args, below, meth, c, D, cA, A, Ag, Q, nL⟩ := K
  obtain ⟨hexec, hb, -⟩ := hK
  intro ad H locs ls hag hP hD hS hl
  exact lv_if_lt hexec hb (hT.at hi) ht (fun z => kt z ad H locs ls hag hP hD hS hl) (fun z => kf z ad H locs ls hag hP hD hS hl)
theorem AW_icmp_lt (hT : az_Tb cc tb) (hK : az_OK K own cc R0 l0) (i : Nat) {off : Int} {tgt : Nat} {x y : Int32} (hi : tb[i]? = some (pc, .if_icmp .lt off)) (ht : (pc : Int) + off = (tgt : Int)) (kt : x < y → AW K cells slots tgt lo rest hp) (kf : ¬ x < y → AW K cells slots (pc + 3) lo rest hp) : AW K cells slots pc lo (.int y :: .int x :: rest) hp := by
  obtain ⟨p, l, e, R, s, m, args, below, meth, c, D, cA, A, Ag, Q, nL⟩ := K
  obtain ⟨hexec, hb, -⟩ := hK
  intro ad H locs ls hag hP hD hS hl
  exact lv_icmp_lt hexec hb (hT.at hi) ht (fun z => kt z ad H locs ls hag hP hD hS hl) (fun z => kf z ad H locs ls hag hP hD hS hl)
theorem AW_if_ge (hT : az_Tb cc tb) (hK : az_OK K own cc R0 l0) (i : Nat) {off : Int} {tgt : Nat} {x : Int32} (hi : tb[i]? = some (pc, .ifCond .ge off)) (ht : (pc : Int) + off = (tgt : Int)) (kt : 0 ≤ x → AW K cells slots tgt lo rest hp) (kf : ¬ 0 ≤ x → AW K cells slots (pc + 3) lo rest hp) : AW K cells slots pc lo (.int x :: rest) hp := by
  obtain ⟨p, l, e, R, s, m, args, below, meth, c, D, cA, A, Ag, Q, nL⟩ := K
  obtain ⟨hexec, hb, -⟩ := hK
  intro ad H locs ls hag hP hD hS hl
  exact lv_if_ge hexec hb (hT.at hi) ht (fun z => kt z ad H locs ls hag hP hD hS hl) (fun z => kf z ad H locs ls hag hP hD hS hl)
theorem AW_icmp_ge (hT : az_Tb cc tb) (hK : az_OK K own cc R0 l0) (i : Nat) {off : Int} {tgt : Nat} {x y : Int32} (hi : tb[i]? = some (pc, .if_icmp .ge off)) (ht : (pc : Int) + off = (tgt : Int)) (kt : y ≤ x → AW K cells slots tgt lo rest hp) (kf : ¬ y ≤ x → AW K cells slots (pc + 3) lo rest hp) : AW K cells slots pc lo (.int y :: .int x :: rest) hp := by
  obtain ⟨p, l, e, R, s, m, args, below, meth, c, D, cA, A, Ag, Q, nL⟩ := K
  obtain ⟨hexec, hb, -⟩ := hK
  intro ad H locs ls hag hP hD hS hl
  exact lv_icmp_ge hexec hb (hT.at hi) ht (fun z => kt z ad H locs ls hag hP hD hS hl) (fun z => kf z ad H locs ls hag hP hD hS hl)
theorem AW_if_gt (hT : az_Tb cc tb) (hK : az_OK K own cc R0 l0) (i : Nat) {off : Int} {tgt : Nat} {x : Int32} (hi : tb[i]? = some (pc, .ifCond .gt off)) (ht : (pc : Int) + off = (tgt : Int)) (kt : 0 < x → AW K cells slots tgt lo rest hp) (kf : ¬ 0 < x → AW K cells slots (pc + 3) lo rest hp) : AW K cells slots pc lo (.int x :: rest) hp := by
  obtain ⟨p, l, e, R, s, m, args, below, meth, c, D, cA, A, Ag, Q, nL⟩ := K
  obtain ⟨hexec, hb, -⟩ := hK
  intro ad H locs ls hag hP hD hS hl
  exact lv_if_gt hexec hb (hT.at hi) ht (fun z => kt z ad H locs ls hag hP hD hS hl) (fun z => kf z ad H locs ls hag hP hD hS hl)
theorem AW_icmp_gt (hT : az_Tb cc tb) (hK : az_OK K own cc R0 l0) (i : Nat) {off : Int} {tgt : Nat} {x y : Int32} (hi : tb[i]? = some (pc, .if_icmp .gt off)) (ht : (pc : Int) + off = (tgt : Int)) (kt : y < x → AW K cells slots tgt lo rest hp) (kf : ¬ y < x → AW K cells slots (pc + 3) lo rest hp) : AW K cells slots pc lo (.int y :: .int x :: rest) hp := by
  obtain ⟨p, l, e, R, s, m, args, below, meth, c, D, cA, A, Ag, Q, nL⟩ := K
  obtain ⟨hexec, hb, -⟩ := hK
  intro ad H locs ls hag hP hD hS hl
  exact lv_icmp_gt hexec hb (hT.at hi) ht (fun z => kt z ad H locs ls hag hP hD hS hl) (fun z => kf z ad H locs ls hag hP hD hS hl)
theorem AW_if_le (hT : az_Tb cc tb) (hK : az_OK K own cc R0 l0) (i : Nat) {off : Int} {tgt : Nat} {x : Int32} (hi : tb[i]? = some (pc, .ifCond .le off)) (ht : (pc : Int) + off = (tgt : Int)) (kt : x ≤ 0 → AW K cells slots tgt lo rest hp) (kf : ¬ x ≤ 0 → AW K cells slots (pc + 3) lo rest hp) : AW K cells slots pc lo (.int x :: rest) hp := by
  obtain ⟨p, l, e, R, s, m, args, below, meth, c, D, cA, A, Ag, Q, nL⟩ := K
  obtain ⟨hexec, hb, -⟩ := hK
  intro ad H locs ls hag hP hD hS hl
  exact lv_if_le hexec hb (hT.at hi) ht (fun z => kt z ad H locs ls hag hP hD hS hl) (fun z => kf z ad H locs ls hag hP hD hS hl)
theorem AW_icmp_le (hT : az_Tb cc tb) (hK : az_OK K own cc R0 l0) (i : Nat) {off : Int} {tgt : Nat} {x y : Int32} (hi : tb[i]? = some (pc, .if_icmp .le off)) (ht : (pc : Int) + off = (tgt : Int)) (kt : x ≤ y → AW K cells slots tgt lo rest hp) (kf : ¬ x ≤ y → AW K cells slots (pc + 3) lo rest hp) : AW K cells slots pc lo (.int y :: .int x :: rest) hp := by
  obtain ⟨p, l, e, R, s, m, args, below, meth, c, D, cA, A, Ag, Q, nL⟩ := K
  obtain ⟨hexec, hb, -⟩ := hK
  intro ad H locs ls hag hP hD hS hl
  exact lv_icmp_le hexec hb (hT.at hi) ht (fun z => kt z ad H locs ls hag hP hD hS hl) (fun z => kf z ad H locs ls hag hP hD hS hl)
theorem AW_iald (hT : az_Tb cc tb) (hK : az_OK K own cc R0 l0) (i j : Nat) {k n : Nat} {x : Int32} {f : Nat → Int32} (hi : tb[i]? = some (pc, .iaload)) (hk : hp[k]? = some (.inl (0, n, .inl f))) (hx : x = nI j) (hj : j < n) (hn : n < 2 ^ 31) (kk : AW K cells slots (pc + 1) lo (.int (f j) :: rest) hp) : AW K cells slots pc lo (.int x :: .ref k :: rest) hp := by
  obtain ⟨p, l, e, R, s, m, args, below, meth, c, D, cA, A, Ag, Q, nL⟩ := K
  obtain ⟨hexec, hb, -, -, -, -, hKn, -⟩ := hK
  intro ad H locs ls hag hP hD hS hl
  subst hx
  exact va_iald hexec hb hKn hP _ 0 (az_w_at hk) rfl (vp_in_nI hj hn) (hT.at hi) (by rw [nI_clamp (Nat.lt_trans hj hn)]; exact kk ad H locs ls hag hP hD hS hl)
theorem AW_iast (hT : az_Tb cc tb) (hK : az_OK K own cc R0 l0) (i j : Nat) {k n : Nat} {x : Int32} {v : Int32} {f : Nat → Int32} (hi : tb[i]? = some (pc, .iastore)) (hk : hp[k]? = some (.inl (0, n, .inl f))) (hx : x = nI j) (hj : j < n) (hn : n < 2 ^ 31) (kk : AW K cells slots (pc + 1) lo rest (hp.set k (.inl (0, n, .inl (upd f j v))))) : AW K cells slots pc lo (.int v :: .int x :: .ref k :: rest) hp := by
  obtain ⟨p, l, e, R, s, m, args, below, meth, c, D, cA, A, Ag, Q, nL⟩ := K
  obtain ⟨hexec, hb, -, -, -, -, hKn, -⟩ := hK
  intro ad H locs ls hag hP hD hS hl
  subst hx
  refine va_iast hexec hb hKn hP hD hS _ 0 (az_w_at hk) rfl (vp_in_nI hj hn) (hT.at hi) (fun H1 locs1 hP1 hD1 hS1 => ?_)
  rw [nI_clamp (Nat.lt_trans hj hn)] at hP1 hD1
  exact kk ad H1 locs1 ls hag (by rw [az_w_set]; exact hP1) (by rw [az_w_set]; exact hD1) hS1 hl
/-- the same, written otherwise -/
theorem AW_to {lo' : List (Option Value)} {st' : List Value} {hp' : az_H} (h1 : lo = lo') (h2 : st = st') (h3 : hp = hp') (k : AW K cells slots pc lo' st' hp') : AW K cells slots pc lo st hp := by
  subst h1 h2 h3
  exact k
theorem AW_widen {a b : Nat} (h1 : cells ≤ a) (h2 : slots ≤ b) (k : AW K a b pc lo st hp) : AW K cells slots pc lo st hp := by
  obtain ⟨p, l, e, R, s, m, args, below, meth, c, D, cA, A, Ag, Q, nL⟩ := K
  intro ad H locs ls hag hP hD hS hl
  exact W.widen h1 h2 (k ad H locs ls hag hP hD hS hl)
/-- locals forgotten -/
theorem AW_lo {lo' : List (Option Value)} (hlen : lo'.length = lo.length) (hs : ∀ (i : Nat) (v : Value), lo'[i]? = some (some v) → lo[i]? = some (some v)) (k : AW K cells slots pc lo' st hp) : AW K cells slots pc lo st hp := by
  obtain ⟨p, l, e, R, s, m, args, below, meth, c, D, cA, A, Ag, Q, nL⟩ := K
  intro ad H locs ls hag hP hD hS hl
  exact k ad H locs ls hag hP hD hS (az_ls_sub hl hlen hs)
/-- what a return owes -/
def az_End (K : az_K) (cc : ByteArray) (ret : Option FieldType) (R0 : Room) (Ψ : Option Value → az_H → Prop) : Prop :=
  ∀ (cells slots pc : Nat) (lo : List (Option Value)) (hp : az_H), cells ≤ R0.cells → slots ≤ R0.slots →
    (∀ (v : Int32) (ty : FieldType), ret = some ty → narrow ty (.int v) = .int v → decode cc pc = .ok (.ireturn, 1) → Ψ (some (.int v)) hp → AW K cells slots pc lo [.int v] hp) ∧
    (∀ v : Int64, ret = some .long → decode cc pc = .ok (.lreturn, 1) → Ψ (some (.long v)) hp → AW K cells slots pc lo [.long v] hp) ∧
    (ret = none → decode cc pc = .ok (.return_, 1) → Ψ none hp → AW K cells slots pc lo [] hp)
theorem AW_iret {ret : Option FieldType} {Ψ : Option Value → az_H → Prop} (hT : az_Tb cc tb) (hE : az_End K cc ret R0 Ψ) (i : Nat) {v : Int32} {ty : FieldType} (hi : tb[i]? = some (pc, .ireturn)) (hr : ret = some ty) (hn : narrow ty (.int v) = .int v) (hc : cells ≤ R0.cells) (hs : slots ≤ R0.slots) (h : Ψ (some (.int v)) hp) : AW K cells slots pc lo [.int v] hp :=
  (hE cells slots pc lo hp hc hs).1 v ty hr hn (hT.at hi) h
theorem AW_lret {Ψ : Option Value → az_H → Prop} (hT : az_Tb cc tb) (hE : az_End K cc (some .long) R0 Ψ) (i : Nat) {v : Int64} (hi : tb[i]? = some (pc, .lreturn)) (hc : cells ≤ R0.cells) (hs : slots ≤ R0.slots) (h : Ψ (some (.long v)) hp) : AW K cells slots pc lo [.long v] hp :=
  (hE cells slots pc lo hp hc hs).2.1 v rfl (hT.at hi) h
theorem AW_vret {Ψ : Option Value → az_H → Prop} (hT : az_Tb cc tb) (hE : az_End K cc none R0 Ψ) (i : Nat) (hi : tb[i]? = some (pc, .return_)) (hc : cells ≤ R0.cells) (hs : slots ≤ R0.slots) (h : Ψ none hp) : AW K cells slots pc lo [] hp :=
  (hE cells slots pc lo hp hc hs).2.2 rfl (hT.at hi) h
/-- may the heap grow -/
def az_Gr (K : az_K) (gr : Bool) (n0 : Nat) : Prop :=
  match K with
  | (_, _, _, _, _, _, _, _, _, _, _, _, _, Ag, _, _) => gr = true → ∀ (ad : Nat → Nat) (n a : Nat), n0 ≤ n → Ag ad → Ag (va_up ad n a)
theorem az_entry (ad : Nat → Nat) (as : List Value) (n : Nat) (hcat : ∀ v ∈ as, v.category = 1) : ∀ (k : Nat) (q : Nat × Value), q ∈ az_lv ad k (as.map some ++ List.replicate n none) → q ∈ lv_args k (as.map (az_v ad)) := by
  induction as with
  | nil =>
    intro k q hq
    exfalso
    obtain ⟨i, v, h1, -⟩ := (az_lv_mem ad _ k q).mp hq
    simp [List.getElem?_replicate] at h1
  | cons v t ih =>
    intro k q hq
    have hc : (az_v ad v).category = 1 := by rw [az_v_cat]; exact hcat v List.mem_cons_self
    rw [List.map_cons, List.cons_append] at hq
    unfold az_lv at hq
    rw [List.map_cons]
    unfold lv_args
    rw [if_neg (by rw [hc]; decide)]
    rcases List.mem_cons.mp hq with h | h
    · exact List.mem_cons.mpr (Or.inl h)
    · exact List.mem_cons_of_mem _ (ih (fun w hw => hcat w (List.mem_cons_of_mem _ hw)) (k + 1) q h)
theorem az_sl_len (ad : Nat → Nat) (as : List Value) (hcat : ∀ v ∈ as, v.category = 1) : (lg_sl (as.map (az_v ad))).length = as.length := by
  induction as with
  | nil => rfl
  | cons v t ih =>
    have hc : (az_v ad v).category = 1 := by rw [az_v_cat]; exact hcat v List.mem_cons_self
    have h := ih (fun w hw => hcat w (List.mem_cons_of_mem _ hw))
    unfold lg_sl at h ⊢
    rw [List.map_cons, List.flatMap_cons, if_neg (by rw [hc]; decide), List.length_append, h, List.length_cons]
    simp only [List.length_cons, List.length_nil]
    omega
/-- a method's contract, out of a walk in abstract terms -/
theorem AMet_of {y : MethodName} {maxL : Nat} {ret : Option FieldType} {rm : Room} {gr : Bool} {as : List Value} {hp0 : az_H} {Ψ : Option Value → az_H → Prop} (hy : plainName y.cls = true) (hcat : ∀ v ∈ as, v.category = 1) (hlen : as.length ≤ maxL)
    (body : ∀ K : az_K, az_OK K y.cls cc rm l0 → (y.name = "<init>" → K.2.2.2.2.2.2.2.2.1.name = "<init>") → az_Gr K gr hp0.length → az_End K cc ret rm Ψ → AW K 0 0 0 (as.map some ++ List.replicate (maxL - as.length) none) [] hp0) : AMet l0 y cc maxL ret rm gr as hp0 Ψ := by
  intro D cA ad0 sz
  refine Met.ofW (cc := cc) (maxL := maxL) (ret := ret) hy rfl ?_
  intro p e s m args below meth c s₁ B hml hv
  obtain ⟨rfl, hsz, hP, hKn, hD0, hev⟩ := hv
  subst hsz
  have hD := hD0.self (sz := s.heap.size)
  have hA : ∀ q : Nat, s.heap.size ≤ q → va_A (az_w cA ad0 hp0) s.heap.size q := fun q h => Or.inr h
  have hl := lv_entry (as.map (az_v ad0)) (n := maxL) (by rw [az_sl_len ad0 as hcat]; exact hlen)
  rw [lg_entry_eq]
  have hl2 : az_ls ad0 ((lg_sl (as.map (az_v ad0)) ++ List.replicate (maxL - (lg_sl (as.map (az_v ad0))).length) Slot.unset).toArray) maxL (as.map some ++ List.replicate (maxL - as.length) none) :=
    ⟨⟨hl.1, hl.2.1, fun q hq => hl.2.2 q (az_entry ad0 as _ hcat 0 q hq)⟩, by simp; omega⟩
  refine body (p, l0, e, rm, s, m, (as.map (az_v ad0)).toArray, below, meth, c, D, cA, va_A (az_w cA ad0 hp0) s.heap.size, fun ad' => (gr = false → ad' = ad0) ∧ ∀ i, i < hp0.length → ad' i = ad0 i, _, maxL)
    ⟨B.exec, B.bytes, hml, B.notSynchronized, findClass_of_methodNamed B.named, hev, hKn, hA, rfl, rfl⟩ ?_ ?_ ?_ ad0 s.heap [] _ ⟨fun _ => rfl, fun _ _ => rfl⟩ hP hD va_S.rf hl2
  · intro hy2
    exact (name_of_methodNamed B.named B.method).1.trans hy2
  · intro hg ad n a hn h
    refine ⟨fun hg2 => (by rw [hg] at hg2; cases hg2), fun i hi => ?_⟩
    unfold va_up
    rw [if_neg (by omega)]
    exact h.2 i hi
  · intro cells slots pc lo hp hc hs
    refine ⟨fun v ty hr hn hd h => ?_, fun v hr hd h => ?_, fun hr hd h => ?_⟩
    · intro ad H locs ls hag hP1 hD1 hS1 hl1
      refine W.widen hc hs ?_
      exact W.zret (v := v) B.exec B.bytes (B.returns.trans hr) hn (fun t ht hW => ⟨⟨some (.int v), hp, ad, rfl, h, hag.1, hag.2, by rw [ht]; exact hP1, hD1⟩, hS1.F ht⟩) hS1.2.2 hd B.notSynchronized
    · intro ad H locs ls hag hP1 hD1 hS1 hl1
      refine W.widen hc hs ?_
      exact W.lret (v := v) B.exec B.bytes (B.returns.trans hr) (fun t ht hW => ⟨⟨some (.long v), hp, ad, rfl, h, hag.1, hag.2, by rw [ht]; exact hP1, hD1⟩, hS1.F ht⟩) hS1.2.2 hd B.notSynchronized
    · intro ad H locs ls hag hP1 hD1 hS1 hl1
      refine W.widen hc hs ?_
      exact W.vret B.exec B.bytes (B.returns.trans hr) (fun t ht hW => ⟨⟨none, hp, ad, rfl, h, hag.1, hag.2, by rw [ht]; exact hP1, hD1⟩, hS1.F ht⟩) hS1.2.2 hd B.notSynchronized
end AZ4
end
section
/-! calls -/
section AZ5
/-- behind a call -/
theorem az_after {p : Program} {l : Launch} {e : Env} {R : Room} {s : State} {m : MethodId} {args : Array Value} {below : List Frame} {meth : Method} {c : Code} {D : va_G} {cA : Nat → ClassId} {A : Nat → Prop} {Q : State → Prop} {ad : Nat → Nat} {H : Heap} {locs : List Loc} {cells slots mc ms pc : Nat} {ls : Array Slot} {st0 rest : List Value} {hp : az_H} {gr : Bool} {Ψ : Option Value → az_H → Prop} {a : Array Value}
    (hr : va_Run p l e R s m args below meth c H locs cells slots mc ms (F0 m pc ls st0) rest (az_Q D cA ad hp H.size gr Ψ a) (va_A (az_w cA ad hp) H.size)) (hS : va_S A s.heap H locs) (hD : va_D A (az_w cA ad hp)) (hA : ∀ q, s.heap.size ≤ q → A q)
    (kk : ∀ (r : Option Value) (hp' : az_H) (ad' : Nat → Nat) (H1 : Heap) (locs1 : List Loc), Ψ r hp' → (gr = false → ad' = ad) → (∀ i, i < hp.length → ad' i = ad i) → va_P D vwCl (az_w cA ad' hp') H1 → va_D A (az_w cA ad' hp') → va_S A s.heap H1 locs1 →
      W p l e R s m args below meth c H1 locs1 (cells + mc) (slots + ms) Q (F0 m (pc + 3) ls ((r.map (az_v ad')).toList ++ rest))) : W p l e R s m args below meth c H locs cells slots Q (F0 m pc ls st0) := by
  have hB : ∀ q, va_A (az_w cA ad hp) H.size q → A q := fun q h => by
    rcases h with ⟨k, e9, h⟩ | h
    · exact hD.2 k _ h
    · exact hA q (Nat.le_trans hS.1 h)
  intro T hT X
  obtain ⟨v, st₀, t, T', L, h0, X', hL, e1, e2, ⟨⟨r, hp', ad', hv, hΨ, hg, hag, hP1, hD1⟩, hz, hk⟩, st⟩ := hr T hT X
  cases hv
  rw [h0] at hz hk
  obtain ⟨t2, a1, b1⟩ := kk r hp' ad' T'.heap (locs ++ L) hΨ hg hag (by rw [e1]; exact hP1) (hD1.weaken (fun _ q _ h => hB q.1 h))
    ⟨Nat.le_trans hS.1 (by rw [e1]; exact hz), fun q h1 h2 => by rw [e1, hk q (Nat.lt_of_lt_of_le h1 hS.1) (fun z => h2 (hB q z))]; exact hS.2.1 q h1 h2, fun q hq => by
      rcases List.mem_append.mp hq with h | h
      · exact hS.2.2 q h
      · exact hB _ (hL q h)⟩ T' rfl X'
  exact ⟨t2, st t2 a1, b1⟩
/-- what the tables say of a call -/
def az_Cw (y : MethodName) (cb : ByteArray) (mL : Nat) (ret : Option FieldType) (n : Nat) : Prop :=
  (Cond.initialized y.cls ∈ lw_tbl ∧ Cond.code y cb mL ret ∈ lw_tbl) ∧ y.cls ≠ "java/lang/invoke/MethodHandle" ∧ y.cls ≠ "java/lang/invoke/VarHandle" ∧ (parseMethodDescriptor y.desc).map (fun d => d.parameters.length) = some n
theorem az_cb {R : Room} {s : State} {args : Array Value} {own : String} {idx : Nat} {y : MethodName} {cb : ByteArray} {mL : Nat} {ret : Option FieldType} {n : Nat} {rm : Room} (hw : az_wd s) (h : az_Cw y cb mL ret n) (hl : Cond.methodLink own idx y ∈ lw_tbl) (hR : rm.frames + 1 ≤ R.frames ∧ 8 + (mL + 11) + rm.locals ≤ R.locals) :
    CallB R s args own idx y cb mL ret [.code y cb mL ret] rm rm.cells rm.slots n :=
  callB_of (Ts := [.code y cb mL ret]) n (fun w h9 => by rw [List.mem_singleton.mp h9]; exact hw.use h.1.2 rfl args) (fun w h9 => ⟨h9, by rw [List.mem_singleton.mp h9]; exact Or.inl rfl⟩) rfl rfl rfl (hw.use h.1.1 rfl args) (hw.use hl rfl args) h.2 hR
def az_rm (rm R0 : Room) (mL : Nat) (rest : List Value) : Bool := Nat.ble (rm.frames + 1) R0.frames && (Nat.ble (8 + (mL + 11) + rm.locals) R0.locals && Nat.ble (rest.map fun v => v.category).sum 8)
theorem az_rm.of {rm R0 : Room} {mL : Nat} {rest : List Value} (h : az_rm rm R0 mL rest = true) : (rm.frames + 1 ≤ R0.frames ∧ 8 + (mL + 11) + rm.locals ≤ R0.locals) ∧ (rest.map fun v => v.category).sum ≤ 8 := by
  unfold az_rm at h
  rw [Bool.and_eq_true, Bool.and_eq_true] at h
  exact ⟨⟨Nat.le_of_ble_eq_true h.1, Nat.le_of_ble_eq_true h.2.1⟩, Nat.le_of_ble_eq_true h.2.2⟩
theorem az_cats (ad : Nat → Nat) (l : List Value) : ((l.map (az_v ad)).map fun v => v.category).sum = (l.map fun v => v.category).sum := by
  rw [List.map_map]
  congr 1
  exact List.map_congr_left (fun v _ => az_v_cat ad v)
theorem az_ret_map (ad : Nat → Nat) (r : Option Value) (rest : List Value) : (r.map (az_v ad)).toList ++ rest.map (az_v ad) = (r.toList ++ rest).map (az_v ad) := by
  cases r <;> rfl
theorem az_blind (D : va_G) (cA : Nat → ClassId) (ad : Nat → Nat) (hp : az_H) (sz : Nat) (as : List Value) : FrameBlind (va_Pc as (az_U D cA ad hp sz)) := by
  intro a U g mk h
  obtain ⟨h0, h1, h2, h3, h4, h5⟩ := h
  exact ⟨h0, h1, h2, va_K.moved (u := U) (U := U.calling g mk a) (Vm.Alike.refl U.vm) h3, h4, h5.call g mk a⟩
theorem az_start {D : va_G} {cA : Nat → ClassId} {ad : Nat → Nat} {hp : az_H} {s : State} {A : Nat → Prop} {H : Heap} {locs : List Loc} (hev : az_ev A s) (hKn : va_K D vwCl (az_tys cA) s) (hA : ∀ q, s.heap.size ≤ q → A q) (hP : va_P D vwCl (az_w cA ad hp) H) (hD : va_D A (az_w cA ad hp)) (hS : va_S A s.heap H locs) (as : List Value) :
    ∀ U : State, U.heap = H → s.WarmedH U.vm → va_Pc as (az_U D cA ad hp H.size) as.toArray U := by
  intro U hU hW
  refine ⟨rfl, by rw [hU], by rw [hU]; exact hP, va_K.moved hW.alike hKn, hD.weaken (fun _ _ _ _ => trivial), hev.to hW hS hU (fun q h => ?_)⟩
  rcases h with ⟨k, e9, h⟩ | h
  · exact hD.2 k _ h
  · exact hA q (Nat.le_trans hS.1 h)
variable {K : az_K} {own : String} {cc : ByteArray} {R0 : Room} {l0 : Launch} {tb : List (Nat × Instr)} {cells slots pc : Nat} {lo : List (Option Value)} {st : List Value} {hp : az_H}
variable {y : MethodName} {cb : ByteArray} {mL n idx : Nat} {ret : Option FieldType} {rm : Room} {Ψ : Option Value → az_H → Prop}
theorem AW_callV (hT : az_Tb cc tb) (hK : az_OK K own cc R0 l0) (i : Nat) (as rest : List Value) {k cj N9 : Nat} {fs : List Value} {T9 : u_T} (hM : AMet l0 y cb mL ret rm false (.ref k :: as) hp Ψ) (cv : az_Cw y cb mL ret n) (hl : Cond.methodLink own idx y ∈ lw_tbl) (hv : Cond.instanceMethod y ∈ lw_tbl ∧ Cond.selects y.cls y y ∈ lw_tbl)
    (hi : tb[i]? = some (pc, .invokevirtual idx)) (hobj : hp[k]? = some (.inr (cj, fs))) (hcj : vwCl[cj]? = some (y.cls, T9, N9)) (hn : as.length = n) (hst : st = as.reverse ++ .ref k :: rest) (hrm : az_rm rm R0 mL rest = true) (hc : cells + rm.cells ≤ R0.cells) (hs : slots + rm.slots ≤ R0.slots)
    (kk : ∀ (r : Option Value) (hp' : az_H), Ψ r hp' → AW K (cells + rm.cells) (slots + rm.slots) (pc + 3) lo (r.toList ++ rest) hp') : AW K cells slots pc lo st hp := by
  obtain ⟨p, l, e, R, s, m, args, below, meth, c, D, cA, A, Ag, Q, nL⟩ := K
  obtain ⟨hexec, hb, hml, hlk, hown, hev, hKn, hA, rfl, rfl⟩ := hK
  obtain ⟨hR, hcat⟩ := az_rm.of hrm
  subst hst
  intro ad H locs ls hag hP hD hS hl1
  refine az_after (gr := false) (va_runV (As := as.map (az_v ad)) (rest := rest.map (az_v ad)) (b := ad k) (C := y.cls) (Ts := []) (own := own) (nL := nL) ⟨hexec, hb, hml, hown, fun _ h => by cases h⟩ (hM D cA ad H.size) ⟨az_cb hev.1 cv hl hR, hev.1.use hv.1 rfl args, hev.1.use hv.2 rfl args⟩
    ⟨az_blind D cA ad hp H.size _, va_recv hKn hP hcj (az_w_at hobj), az_start hev hKn hA hP hD hS (.ref (ad k) :: as.map (az_v ad))⟩ rfl (by rw [List.length_map]; exact hn) hl1.1.1 (by rw [List.map_append, List.map_reverse]; rfl) (lv_room (by rw [az_cats]; exact hcat)) (hT.at hi) ⟨hc, hs⟩) hS hD hA (fun r hp' ad' H1 locs1 hΨ hg hag' hP1 hD1 hS1 => ?_)
  have := hg rfl
  subst this
  rw [az_ret_map]
  exact kk r hp' hΨ ad' H1 locs1 ls hag hP1 hD1 hS1 hl1
theorem AW_callS (hT : az_Tb cc tb) (hK : az_OK K own cc R0 l0) (i : Nat) (as rest : List Value) (hM : AMet l0 y cb mL ret rm false as hp Ψ) (cv : az_Cw y cb mL ret n) (hl : Cond.methodLink own idx y ∈ lw_tbl) (hv : Cond.static y ∈ lw_tbl)
    (hi : tb[i]? = some (pc, .invokestatic idx)) (hn : as.length = n) (hst : st = as.reverse ++ rest) (hrm : az_rm rm R0 mL rest = true) (hc : cells + rm.cells ≤ R0.cells) (hs : slots + rm.slots ≤ R0.slots)
    (kk : ∀ (r : Option Value) (hp' : az_H), Ψ r hp' → AW K (cells + rm.cells) (slots + rm.slots) (pc + 3) lo (r.toList ++ rest) hp') : AW K cells slots pc lo st hp := by
  obtain ⟨p, l, e, R, s, m, args, below, meth, c, D, cA, A, Ag, Q, nL⟩ := K
  obtain ⟨hexec, hb, hml, hlk, hown, hev, hKn, hA, rfl, rfl⟩ := hK
  obtain ⟨hR, hcat⟩ := az_rm.of hrm
  subst hst
  intro ad H locs ls hag hP hD hS hl1
  refine az_after (gr := false) (va_runS (As := as.map (az_v ad)) (rest := rest.map (az_v ad)) (Ts := []) (own := own) (nL := nL) ⟨hexec, hb, hml, hown, fun _ h => by cases h⟩ (hM D cA ad H.size) ⟨az_cb hev.1 cv hl hR, hev.1.use hv rfl args⟩
    ⟨az_blind D cA ad hp H.size _, az_start hev hKn hA hP hD hS (as.map (az_v ad))⟩ rfl (by rw [List.length_map]; exact hn) hl1.1.1 (by rw [List.map_append, List.map_reverse]) (lv_room (by rw [az_cats]; exact hcat)) (hT.at hi) ⟨hc, hs⟩) hS hD hA (fun r hp' ad' H1 locs1 hΨ hg hag' hP1 hD1 hS1 => ?_)
  have := hg rfl
  subst this
  rw [az_ret_map]
  exact kk r hp' hΨ ad' H1 locs1 ls hag hP1 hD1 hS1 hl1
/-- a private static method of a nest mate -/
theorem AW_callSN (hT : az_Tb cc tb) (hK : az_OK K own cc R0 l0) (i : Nat) (as rest : List Value) {host : String} (hM : AMet l0 y cb mL ret rm false as hp Ψ) (cv : az_Cw y cb mL ret n) (hl : Cond.methodLinkNest own idx y host ∈ lw_tbl) (hv : Cond.static y ∈ lw_tbl)
    (hi : tb[i]? = some (pc, .invokestatic idx)) (hn : as.length = n) (hst : st = as.reverse ++ rest) (hrm : az_rm rm R0 mL rest = true) (hc : cells + rm.cells ≤ R0.cells) (hs : slots + rm.slots ≤ R0.slots)
    (kk : ∀ (r : Option Value) (hp' : az_H), Ψ r hp' → AW K (cells + rm.cells) (slots + rm.slots) (pc + 3) lo (r.toList ++ rest) hp') : AW K cells slots pc lo st hp := by
  obtain ⟨p, l, e, R, s, m, args, below, meth, c, D, cA, A, Ag, Q, nL⟩ := K
  obtain ⟨hexec, hb, hml, hlk, hown, hev, hKn, hA, rfl, rfl⟩ := hK
  obtain ⟨hR, hcat⟩ := az_rm.of hrm
  subst hst
  intro ad H locs ls hag hP hD hS hl1
  have cw : va_CN R s args own idx y host cb mL ret [.code y cb mL ret] rm rm.cells rm.slots n :=
    va_cnB (Ts := [.code y cb mL ret]) n (fun w h9 => by rw [List.mem_singleton.mp h9]; exact hev.1.use cv.1.2 rfl args) (fun w h9 => ⟨h9, by rw [List.mem_singleton.mp h9]; exact Or.inl rfl⟩) rfl rfl rfl (hev.1 _ hl rfl) (hev.1.use cv.1.1 rfl args) cv.2 hR
  refine az_after (gr := false) (va_runSN (As := as.map (az_v ad)) (rest := rest.map (az_v ad)) (Ts := []) (own := own) (host := host) (nL := nL) ⟨hexec, hb, hml, hown, fun _ h => by cases h⟩ (hM D cA ad H.size) ⟨cw, hev.1.use hv rfl args, trivial⟩
    ⟨az_blind D cA ad hp H.size _, az_start hev hKn hA hP hD hS (as.map (az_v ad))⟩ rfl (by rw [List.length_map]; exact hn) hl1.1.1 (by rw [List.map_append, List.map_reverse]) (lv_room (by rw [az_cats]; exact hcat)) (hT.at hi) ⟨hc, hs⟩) hS hD hA (fun r hp' ad' H1 locs1 hΨ hg hag' hP1 hD1 hS1 => ?_)
  have := hg rfl
  subst this
  rw [az_ret_map]
  exact kk r hp' hΨ ad' H1 locs1 ls hag hP1 hD1 hS1 hl1
end AZ5
end
section
section AZL
def tb_L_law_0 : List (Nat × Instr) := [(0, .new 10), (3, .dup), (4, .invokespecial 133), (7, .astore_n 1), (8, .bipush 12), (10, .newarray .int), (12, .astore_n 2), (13, .bipush 12), (15, .newarray .int), (17, .astore_n 3), (18, .iconst 1), (19, .newarray .int), (21, .astore 4), (23, .iconst 0), (24, .istore 5), (26, .iload 5), (28, .bipush 12), (30, .if_icmp .ge 14), (33, .aload_n 2), (34, .iload 5), (36, .iconst (-1)), (37, .iastore), (38, .iinc 5 1), (41, .goto (-15)), (44, .aload_n 1), (45, .aload_n 2), (46, .aload_n 3), (47, .aload 4), (49, .iconst 0), (50, .invokestatic 134), (53, .ifCond .eq 27), (56, .aload_n 1), (57, .aload_n 2), (58, .aload_n 3), (59, .aload 4), (61, .iconst 1), (62, .invokestatic 134), (65, .ifCond .eq 15), (68, .aload_n 1), (69, .aload_n 2), (70, .invokestatic 138), (73, .ifCond .eq 7), (76, .iconst 1), (77, .goto 4), (80, .iconst 0), (81, .istore 5), (83, .iconst 0), (84, .istore 6), (86, .iload 6), (88, .bipush 18), (90, .if_icmp .ge 261), (93, .iload 5), (95, .ifCond .eq 256), (98, .aload_n 0), (99, .iload 6), (101, .invokestatic 142), (104, .istore 7), (106, .iload 7), (108, .bipush 16), (110, .idiv)]
theorem tt_L_law_0_0 : az_Tb cL_law ((tb_L_law_0.drop 0).take 12) := az_Tb.of (by decide +kernel)
theorem tt_L_law_0_12 : az_Tb cL_law ((tb_L_law_0.drop 12).take 12) := az_Tb.of (by decide +kernel)
theorem tt_L_law_0_24 : az_Tb cL_law ((tb_L_law_0.drop 24).take 12) := az_Tb.of (by decide +kernel)
theorem tt_L_law_0_36 : az_Tb cL_law ((tb_L_law_0.drop 36).take 12) := az_Tb.of (by decide +kernel)
theorem tt_L_law_0_48 : az_Tb cL_law ((tb_L_law_0.drop 48).take 12) := az_Tb.of (by decide +kernel)
end AZL
end
section
section AZL
def tb_L_law_1 : List (Nat × Instr) := [(111, .istore 8), (113, .iload 7), (115, .bipush 16), (117, .irem), (118, .bipush 13), (120, .if_icmp .ge 98), (123, .aload 4), (125, .iconst 0), (126, .iaload), (127, .ifCond .ne 7), (130, .iconst 0), (131, .goto 11), (134, .aload_n 3), (135, .aload 4), (137, .iconst 0), (138, .iaload), (139, .iconst 1), (140, .isub), (141, .iaload), (142, .iload 8), (144, .iconst 4), (145, .irem), (146, .iadd), (147, .istore 9), (149, .iconst 0), (150, .istore 10), (152, .iconst 0), (153, .istore 11), (155, .iload 11), (157, .bipush 12), (159, .if_icmp .ge 42), (162, .iload 10), (164, .aload_n 2), (165, .iload 11), (167, .iaload), (168, .ifCond .lt 23), (171, .iload 8), (173, .iconst 4), (174, .idiv), (175, .iload 11), (177, .ishr), (178, .iconst 1), (179, .iand), (180, .iconst 1), (181, .if_icmp .ne 10), (184, .iconst 1), (185, .iload 11), (187, .ishl), (188, .goto 4), (191, .iconst 0), (192, .ior), (193, .istore 10), (195, .iinc 11 1), (198, .goto (-43)), (201, .aload_n 1), (202, .aload_n 2), (203, .aload_n 3), (204, .aload 4), (206, .iload 9), (208, .iload 10)]
theorem tt_L_law_1_0 : az_Tb cL_law ((tb_L_law_1.drop 0).take 12) := az_Tb.of (by decide +kernel)
theorem tt_L_law_1_12 : az_Tb cL_law ((tb_L_law_1.drop 12).take 12) := az_Tb.of (by decide +kernel)
theorem tt_L_law_1_24 : az_Tb cL_law ((tb_L_law_1.drop 24).take 12) := az_Tb.of (by decide +kernel)
theorem tt_L_law_1_36 : az_Tb cL_law ((tb_L_law_1.drop 36).take 12) := az_Tb.of (by decide +kernel)
theorem tt_L_law_1_48 : az_Tb cL_law ((tb_L_law_1.drop 48).take 12) := az_Tb.of (by decide +kernel)
end AZL
end
section
section AZL
def tb_L_law_2 : List (Nat × Instr) := [(210, .invokestatic 146), (213, .istore 5), (215, .goto 15), (218, .aload_n 1), (219, .aload_n 2), (220, .iload 8), (222, .bipush 12), (224, .irem), (225, .invokestatic 150), (228, .istore 5), (230, .iload 5), (232, .ifCond .eq 110), (235, .aload_n 1), (236, .aload_n 2), (237, .aload_n 3), (238, .aload 4), (240, .invokestatic 153), (243, .ifCond .eq 99), (246, .aload_n 1), (247, .aload_n 2), (248, .invokestatic 157), (251, .ifCond .eq 91), (254, .aload_n 1), (255, .aload_n 2), (256, .invokestatic 160), (259, .ifCond .eq 83), (262, .aload_n 1), (263, .aload_n 2), (264, .invokestatic 138), (267, .ifCond .eq 75), (270, .aload_n 1), (271, .aload_n 2), (272, .iload 8), (274, .invokestatic 163), (277, .ifCond .eq 65), (280, .aload_n 1), (281, .aload_n 2), (282, .iload 8), (284, .bipush 7), (286, .idiv), (287, .invokestatic 163), (290, .ifCond .eq 52), (293, .aload_n 1), (294, .aload_n 2), (295, .aload_n 3), (296, .iload 8), (298, .bipush 100), (300, .irem), (301, .invokestatic 166), (304, .ifCond .eq 38), (307, .aload_n 1), (308, .aload_n 2), (309, .aload_n 3), (310, .aload_n 3), (311, .iload 8), (313, .bipush 12), (315, .irem), (316, .iaload), (317, .invokestatic 166), (320, .ifCond .eq 22)]
theorem tt_L_law_2_0 : az_Tb cL_law ((tb_L_law_2.drop 0).take 12) := az_Tb.of (by decide +kernel)
theorem tt_L_law_2_12 : az_Tb cL_law ((tb_L_law_2.drop 12).take 12) := az_Tb.of (by decide +kernel)
theorem tt_L_law_2_24 : az_Tb cL_law ((tb_L_law_2.drop 24).take 12) := az_Tb.of (by decide +kernel)
theorem tt_L_law_2_36 : az_Tb cL_law ((tb_L_law_2.drop 36).take 12) := az_Tb.of (by decide +kernel)
theorem tt_L_law_2_48 : az_Tb cL_law ((tb_L_law_2.drop 48).take 12) := az_Tb.of (by decide +kernel)
end AZL
end
section
section AZL
def tb_L_law_3 : List (Nat × Instr) := [(323, .aload_n 1), (324, .aload_n 2), (325, .aload_n 3), (326, .aload 4), (328, .iload 7), (330, .iconst 3), (331, .idiv), (332, .invokestatic 134), (335, .ifCond .eq 7), (338, .iconst 1), (339, .goto 4), (342, .iconst 0), (343, .istore 5), (345, .iinc 6 1), (348, .goto (-262)), (351, .iload 5), (353, .ireturn)]
theorem tt_L_law_3_0 : az_Tb cL_law ((tb_L_law_3.drop 0).take 12) := az_Tb.of (by decide +kernel)
theorem tt_L_law_3_12 : az_Tb cL_law ((tb_L_law_3.drop 12).take 12) := az_Tb.of (by decide +kernel)
end AZL
end
section
/-! tables of instructions, what the tables say of classes and calls: by program -/
section AZT
def flt_X0 : List (Nat × Nat × Nat) := [(12, 0, 0), (18, 1, 0), (21, 2, 0), (24, 3, 0), (30, 4, 0), (34, 5, 0), (37, 6, 0), (41, 7, 0)]
theorem lay_X0 : ∀ w ∈ u_ws RX0 TX0 8, w ∈ lw_tbl ∧ az_kp w = true := by
  show ∀ w ∈ [u_lay RX0 TX0 0, u_lay RX0 TX0 1, u_lay RX0 TX0 2, u_lay RX0 TX0 3, u_lay RX0 TX0 4, u_lay RX0 TX0 5, u_lay RX0 TX0 6, u_lay RX0 TX0 7], _
  exact List.forall_mem_cons.mpr ⟨⟨List.mem_of_getElem? (i := 116) (by decide +kernel), by decide +kernel⟩, List.forall_mem_cons.mpr ⟨⟨List.mem_of_getElem? (i := 118) (by decide +kernel), by decide +kernel⟩, List.forall_mem_cons.mpr ⟨⟨List.mem_of_getElem? (i := 120) (by decide +kernel), by decide +kernel⟩, List.forall_mem_cons.mpr ⟨⟨List.mem_of_getElem? (i := 122) (by decide +kernel), by decide +kernel⟩, List.forall_mem_cons.mpr ⟨⟨List.mem_of_getElem? (i := 124) (by decide +kernel), by decide +kernel⟩, List.forall_mem_cons.mpr ⟨⟨List.mem_of_getElem? (i := 126) (by decide +kernel), by decide +kernel⟩, List.forall_mem_cons.mpr ⟨⟨List.mem_of_getElem? (i := 128) (by decide +kernel), by decide +kernel⟩, List.forall_mem_cons.mpr ⟨⟨List.mem_of_getElem? (i := 130) (by decide +kernel), by decide +kernel⟩, fun _ h => nomatch h⟩⟩⟩⟩⟩⟩⟩⟩
theorem fl_X0 : ∀ q ∈ flt_X0, q.2.1 < 8 ∧ Cond.fieldLink RX0 q.1 RX0 (TX0 q.2.1).2.1 (TX0 q.2.1).2.2.1 ∈ lw_tbl := by
  show ∀ q ∈ ([(12, 0, 0), (18, 1, 0), (21, 2, 0), (24, 3, 0), (30, 4, 0), (34, 5, 0), (37, 6, 0), (41, 7, 0)] : List (Nat × Nat × Nat)), _
  exact List.forall_mem_cons.mpr ⟨⟨by decide, List.mem_of_getElem? (i := 108) (by decide +kernel)⟩, List.forall_mem_cons.mpr ⟨⟨by decide, List.mem_of_getElem? (i := 109) (by decide +kernel)⟩, List.forall_mem_cons.mpr ⟨⟨by decide, List.mem_of_getElem? (i := 110) (by decide +kernel)⟩, List.forall_mem_cons.mpr ⟨⟨by decide, List.mem_of_getElem? (i := 111) (by decide +kernel)⟩, List.forall_mem_cons.mpr ⟨⟨by decide, List.mem_of_getElem? (i := 112) (by decide +kernel)⟩, List.forall_mem_cons.mpr ⟨⟨by decide, List.mem_of_getElem? (i := 113) (by decide +kernel)⟩, List.forall_mem_cons.mpr ⟨⟨by decide, List.mem_of_getElem? (i := 114) (by decide +kernel)⟩, List.forall_mem_cons.mpr ⟨⟨by decide, List.mem_of_getElem? (i := 115) (by decide +kernel)⟩, fun _ h => nomatch h⟩⟩⟩⟩⟩⟩⟩⟩
theorem cl_X0 : az_Cl RX0 0 8 TX0 tyX0 flt_X0 := fun _ => ⟨rfl, lay_X0, tyX0_ok, nmX0, by decide +kernel, fl_X0⟩
def flt_X1 : List (Nat × Nat × Nat) := [(12, 0, 0), (18, 1, 0), (21, 2, 0), (24, 3, 0), (27, 4, 0), (30, 5, 0), (34, 6, 0), (37, 7, 0)]
theorem lay_X1 : ∀ w ∈ u_ws RX1 TX1 8, w ∈ lw_tbl ∧ az_kp w = true := by
  show ∀ w ∈ [u_lay RX1 TX1 0, u_lay RX1 TX1 1, u_lay RX1 TX1 2, u_lay RX1 TX1 3, u_lay RX1 TX1 4, u_lay RX1 TX1 5, u_lay RX1 TX1 6, u_lay RX1 TX1 7], _
  exact List.forall_mem_cons.mpr ⟨⟨List.mem_of_getElem? (i := 149) (by decide +kernel), by decide +kernel⟩, List.forall_mem_cons.mpr ⟨⟨List.mem_of_getElem? (i := 151) (by decide +kernel), by decide +kernel⟩, List.forall_mem_cons.mpr ⟨⟨List.mem_of_getElem? (i := 153) (by decide +kernel), by decide +kernel⟩, List.forall_mem_cons.mpr ⟨⟨List.mem_of_getElem? (i := 155) (by decide +kernel), by decide +kernel⟩, List.forall_mem_cons.mpr ⟨⟨List.mem_of_getElem? (i := 157) (by decide +kernel), by decide +kernel⟩, List.forall_mem_cons.mpr ⟨⟨List.mem_of_getElem? (i := 159) (by decide +kernel), by decide +kernel⟩, List.forall_mem_cons.mpr ⟨⟨List.mem_of_getElem? (i := 161) (by decide +kernel), by decide +kernel⟩, List.forall_mem_cons.mpr ⟨⟨List.mem_of_getElem? (i := 163) (by decide +kernel), by decide +kernel⟩, fun _ h => nomatch h⟩⟩⟩⟩⟩⟩⟩⟩
theorem fl_X1 : ∀ q ∈ flt_X1, q.2.1 < 8 ∧ Cond.fieldLink RX1 q.1 RX1 (TX1 q.2.1).2.1 (TX1 q.2.1).2.2.1 ∈ lw_tbl := by
  show ∀ q ∈ ([(12, 0, 0), (18, 1, 0), (21, 2, 0), (24, 3, 0), (27, 4, 0), (30, 5, 0), (34, 6, 0), (37, 7, 0)] : List (Nat × Nat × Nat)), _
  exact List.forall_mem_cons.mpr ⟨⟨by decide, List.mem_of_getElem? (i := 141) (by decide +kernel)⟩, List.forall_mem_cons.mpr ⟨⟨by decide, List.mem_of_getElem? (i := 142) (by decide +kernel)⟩, List.forall_mem_cons.mpr ⟨⟨by decide, List.mem_of_getElem? (i := 143) (by decide +kernel)⟩, List.forall_mem_cons.mpr ⟨⟨by decide, List.mem_of_getElem? (i := 144) (by decide +kernel)⟩, List.forall_mem_cons.mpr ⟨⟨by decide, List.mem_of_getElem? (i := 145) (by decide +kernel)⟩, List.forall_mem_cons.mpr ⟨⟨by decide, List.mem_of_getElem? (i := 146) (by decide +kernel)⟩, List.forall_mem_cons.mpr ⟨⟨by decide, List.mem_of_getElem? (i := 147) (by decide +kernel)⟩, List.forall_mem_cons.mpr ⟨⟨by decide, List.mem_of_getElem? (i := 148) (by decide +kernel)⟩, fun _ h => nomatch h⟩⟩⟩⟩⟩⟩⟩⟩
theorem cl_X1 : az_Cl RX1 1 8 TX1 tyX1 flt_X1 := fun _ => ⟨rfl, lay_X1, tyX1_ok, nmX1, by decide +kernel, fl_X1⟩
def flt_X2 : List (Nat × Nat × Nat) := [(9, 0, 0)]
theorem lay_X2 : ∀ w ∈ u_ws RX2 TX2 1, w ∈ lw_tbl ∧ az_kp w = true := by
  show ∀ w ∈ [u_lay RX2 TX2 0], _
  exact List.forall_mem_cons.mpr ⟨⟨List.mem_of_getElem? (i := 59) (by decide +kernel), by decide +kernel⟩, fun _ h => nomatch h⟩
theorem fl_X2 : ∀ q ∈ flt_X2, q.2.1 < 1 ∧ Cond.fieldLink RX2 q.1 RX2 (TX2 q.2.1).2.1 (TX2 q.2.1).2.2.1 ∈ lw_tbl := by
  show ∀ q ∈ ([(9, 0, 0)] : List (Nat × Nat × Nat)), _
  exact List.forall_mem_cons.mpr ⟨⟨by decide, List.mem_of_getElem? (i := 58) (by decide +kernel)⟩, fun _ h => nomatch h⟩
theorem cl_X2 : az_Cl RX2 2 1 TX2 tyX2 flt_X2 := fun _ => ⟨rfl, lay_X2, tyX2_ok, nmX2, by decide +kernel, fl_X2⟩
def flt_X3 : List (Nat × Nat × Nat) := [(12, 0, 0), (18, 1, 0), (21, 2, 0), (27, 3, 0), (31, 4, 0), (34, 5, 0), (38, 6, 0), (41, 7, 0)]
theorem lay_X3 : ∀ w ∈ u_ws RX3 TX3 8, w ∈ lw_tbl ∧ az_kp w = true := by
  show ∀ w ∈ [u_lay RX3 TX3 0, u_lay RX3 TX3 1, u_lay RX3 TX3 2, u_lay RX3 TX3 3, u_lay RX3 TX3 4, u_lay RX3 TX3 5, u_lay RX3 TX3 6, u_lay RX3 TX3 7], _
  exact List.forall_mem_cons.mpr ⟨⟨List.mem_of_getElem? (i := 81) (by decide +kernel), by decide +kernel⟩, List.forall_mem_cons.mpr ⟨⟨List.mem_of_getElem? (i := 83) (by decide +kernel), by decide +kernel⟩, List.forall_mem_cons.mpr ⟨⟨List.mem_of_getElem? (i := 85) (by decide +kernel), by decide +kernel⟩, List.forall_mem_cons.mpr ⟨⟨List.mem_of_getElem? (i := 87) (by decide +kernel), by decide +kernel⟩, List.forall_mem_cons.mpr ⟨⟨List.mem_of_getElem? (i := 89) (by decide +kernel), by decide +kernel⟩, List.forall_mem_cons.mpr ⟨⟨List.mem_of_getElem? (i := 91) (by decide +kernel), by decide +kernel⟩, List.forall_mem_cons.mpr ⟨⟨List.mem_of_getElem? (i := 93) (by decide +kernel), by decide +kernel⟩, List.forall_mem_cons.mpr ⟨⟨List.mem_of_getElem? (i := 95) (by decide +kernel), by decide +kernel⟩, fun _ h => nomatch h⟩⟩⟩⟩⟩⟩⟩⟩
theorem fl_X3 : ∀ q ∈ flt_X3, q.2.1 < 8 ∧ Cond.fieldLink RX3 q.1 RX3 (TX3 q.2.1).2.1 (TX3 q.2.1).2.2.1 ∈ lw_tbl := by
  show ∀ q ∈ ([(12, 0, 0), (18, 1, 0), (21, 2, 0), (27, 3, 0), (31, 4, 0), (34, 5, 0), (38, 6, 0), (41, 7, 0)] : List (Nat × Nat × Nat)), _
  exact List.forall_mem_cons.mpr ⟨⟨by decide, List.mem_of_getElem? (i := 73) (by decide +kernel)⟩, List.forall_mem_cons.mpr ⟨⟨by decide, List.mem_of_getElem? (i := 74) (by decide +kernel)⟩, List.forall_mem_cons.mpr ⟨⟨by decide, List.mem_of_getElem? (i := 75) (by decide +kernel)⟩, List.forall_mem_cons.mpr ⟨⟨by decide, List.mem_of_getElem? (i := 76) (by decide +kernel)⟩, List.forall_mem_cons.mpr ⟨⟨by decide, List.mem_of_getElem? (i := 77) (by decide +kernel)⟩, List.forall_mem_cons.mpr ⟨⟨by decide, List.mem_of_getElem? (i := 78) (by decide +kernel)⟩, List.forall_mem_cons.mpr ⟨⟨by decide, List.mem_of_getElem? (i := 79) (by decide +kernel)⟩, List.forall_mem_cons.mpr ⟨⟨by decide, List.mem_of_getElem? (i := 80) (by decide +kernel)⟩, fun _ h => nomatch h⟩⟩⟩⟩⟩⟩⟩⟩
theorem cl_X3 : az_Cl RX3 3 8 TX3 tyX3 flt_X3 := fun _ => ⟨rfl, lay_X3, tyX3_ok, nmX3, by decide +kernel, fl_X3⟩
def flt_X4 : List (Nat × Nat × Nat) := [(9, 0, 0)]
theorem lay_X4 : ∀ w ∈ u_ws RX4 TX4 1, w ∈ lw_tbl ∧ az_kp w = true := by
  show ∀ w ∈ [u_lay RX4 TX4 0], _
  exact List.forall_mem_cons.mpr ⟨⟨List.mem_of_getElem? (i := 70) (by decide +kernel), by decide +kernel⟩, fun _ h => nomatch h⟩
theorem fl_X4 : ∀ q ∈ flt_X4, q.2.1 < 1 ∧ Cond.fieldLink RX4 q.1 RX4 (TX4 q.2.1).2.1 (TX4 q.2.1).2.2.1 ∈ lw_tbl := by
  show ∀ q ∈ ([(9, 0, 0)] : List (Nat × Nat × Nat)), _
  exact List.forall_mem_cons.mpr ⟨⟨by decide, List.mem_of_getElem? (i := 69) (by decide +kernel)⟩, fun _ h => nomatch h⟩
theorem cl_X4 : az_Cl RX4 4 1 TX4 tyX4 flt_X4 := fun _ => ⟨rfl, lay_X4, tyX4_ok, nmX4, by decide +kernel, fl_X4⟩
def flt_X5 : List (Nat × Nat × Nat) := [(10, 0, 0), (19, 1, 0), (26, 2, 0)]
theorem lay_X5 : ∀ w ∈ u_ws RX5 TX5 3, w ∈ lw_tbl ∧ az_kp w = true := by
  show ∀ w ∈ [u_lay RX5 TX5 0, u_lay RX5 TX5 1, u_lay RX5 TX5 2], _
  exact List.forall_mem_cons.mpr ⟨⟨List.mem_of_getElem? (i := 169) (by decide +kernel), by decide +kernel⟩, List.forall_mem_cons.mpr ⟨⟨List.mem_of_getElem? (i := 171) (by decide +kernel), by decide +kernel⟩, List.forall_mem_cons.mpr ⟨⟨List.mem_of_getElem? (i := 173) (by decide +kernel), by decide +kernel⟩, fun _ h => nomatch h⟩⟩⟩
theorem fl_X5 : ∀ q ∈ flt_X5, q.2.1 < 3 ∧ Cond.fieldLink RX5 q.1 RX5 (TX5 q.2.1).2.1 (TX5 q.2.1).2.2.1 ∈ lw_tbl := by
  show ∀ q ∈ ([(10, 0, 0), (19, 1, 0), (26, 2, 0)] : List (Nat × Nat × Nat)), _
  exact List.forall_mem_cons.mpr ⟨⟨by decide, List.mem_of_getElem? (i := 166) (by decide +kernel)⟩, List.forall_mem_cons.mpr ⟨⟨by decide, List.mem_of_getElem? (i := 167) (by decide +kernel)⟩, List.forall_mem_cons.mpr ⟨⟨by decide, List.mem_of_getElem? (i := 168) (by decide +kernel)⟩, fun _ h => nomatch h⟩⟩⟩
theorem cl_X5 : az_Cl RX5 5 3 TX5 tyX5 flt_X5 := fun _ => ⟨rfl, lay_X5, tyX5_ok, nmX5, by decide +kernel, fl_X5⟩
def tyN : Nat → FieldType := fun _ => .int
def TN : u_T := fun _ => ("", "", "", false)
theorem cl_N (own : String) : az_Cl own 99 0 TN tyN [] := fun h => absurd rfl h
def tb_X0_init : List (Nat × Instr) := [(0, .aload_n 0), (1, .invokespecial 3), (4, .aload_n 0), (5, .new 9), (8, .dup), (9, .invokespecial 11), (12, .putfield 12), (15, .aload_n 0), (16, .new 9), (19, .dup), (20, .invokespecial 11), (23, .putfield 18), (26, .aload_n 0), (27, .new 9), (30, .dup), (31, .invokespecial 11), (34, .putfield 21), (37, .aload_n 0), (38, .new 9), (41, .dup), (42, .invokespecial 11), (45, .putfield 24), (48, .aload_n 0), (49, .new 27), (52, .dup), (53, .invokespecial 29), (56, .putfield 30), (59, .aload_n 0), (60, .new 27), (63, .dup), (64, .invokespecial 29), (67, .putfield 34), (70, .aload_n 0), (71, .iconst 0), (72, .putfield 37), (75, .aload_n 0), (76, .iconst 0), (77, .putfield 41), (80, .return_)]
theorem tt_X0_init : az_Tb cX0_init tb_X0_init := az_Tb.of (by decide +kernel)
theorem cw_X0_init : az_Cw yX0_init cX0_init 1 none 0 := ⟨⟨List.mem_of_getElem? (i := 28) (by decide +kernel), List.mem_of_getElem? (i := 102) (by decide +kernel)⟩, by decide +kernel, by decide +kernel, by decide +kernel⟩
theorem im_X0_init : Cond.instanceMethod yX0_init ∈ lw_tbl := List.mem_of_getElem? (i := 101) (by decide +kernel)
def tb_X0_groupOf : List (Nat × Instr) := [(0, .aload_n 0), (1, .getfield 12), (4, .iload_n 1), (5, .invokevirtual 44), (8, .ireturn)]
theorem tt_X0_groupOf : az_Tb cX0_groupOf tb_X0_groupOf := az_Tb.of (by decide +kernel)
theorem cw_X0_groupOf : az_Cw yX0_groupOf cX0_groupOf 2 (some .int) 1 := ⟨⟨List.mem_of_getElem? (i := 28) (by decide +kernel), List.mem_of_getElem? (i := 486) (by decide +kernel)⟩, by decide +kernel, by decide +kernel, by decide +kernel⟩
theorem vi_X0_groupOf : Cond.instanceMethod yX0_groupOf ∈ lw_tbl ∧ Cond.selects yX0_groupOf.cls yX0_groupOf yX0_groupOf ∈ lw_tbl := ⟨List.mem_of_getElem? (i := 484) (by decide +kernel), List.mem_of_getElem? (i := 485) (by decide +kernel)⟩
def tb_X0_allGroups : List (Nat × Instr) := [(0, .aload_n 0), (1, .getfield 37), (4, .ireturn)]
theorem tt_X0_allGroups : az_Tb cX0_allGroups tb_X0_allGroups := az_Tb.of (by decide +kernel)
theorem cw_X0_allGroups : az_Cw yX0_allGroups cX0_allGroups 1 (some .int) 0 := ⟨⟨List.mem_of_getElem? (i := 28) (by decide +kernel), List.mem_of_getElem? (i := 594) (by decide +kernel)⟩, by decide +kernel, by decide +kernel, by decide +kernel⟩
theorem vi_X0_allGroups : Cond.instanceMethod yX0_allGroups ∈ lw_tbl ∧ Cond.selects yX0_allGroups.cls yX0_allGroups yX0_allGroups ∈ lw_tbl := ⟨List.mem_of_getElem? (i := 592) (by decide +kernel), List.mem_of_getElem? (i := 593) (by decide +kernel)⟩
def tb_X0_isGroup : List (Nat × Instr) := [(0, .aload_n 0), (1, .getfield 37), (4, .iload_n 1), (5, .invokestatic 48), (8, .ireturn)]
theorem tt_X0_isGroup : az_Tb cX0_isGroup tb_X0_isGroup := az_Tb.of (by decide +kernel)
theorem cw_X0_isGroup : az_Cw yX0_isGroup cX0_isGroup 2 (some .boolean) 1 := ⟨⟨List.mem_of_getElem? (i := 28) (by decide +kernel), List.mem_of_getElem? (i := 361) (by decide +kernel)⟩, by decide +kernel, by decide +kernel, by decide +kernel⟩
theorem vi_X0_isGroup : Cond.instanceMethod yX0_isGroup ∈ lw_tbl ∧ Cond.selects yX0_isGroup.cls yX0_isGroup yX0_isGroup ∈ lw_tbl := ⟨List.mem_of_getElem? (i := 359) (by decide +kernel), List.mem_of_getElem? (i := 360) (by decide +kernel)⟩
def tb_X0_splitOf : List (Nat × Instr) := [(0, .aload_n 0), (1, .getfield 18), (4, .iload_n 1), (5, .invokevirtual 44), (8, .ireturn)]
theorem tt_X0_splitOf : az_Tb cX0_splitOf tb_X0_splitOf := az_Tb.of (by decide +kernel)
theorem cw_X0_splitOf : az_Cw yX0_splitOf cX0_splitOf 2 (some .int) 1 := ⟨⟨List.mem_of_getElem? (i := 28) (by decide +kernel), List.mem_of_getElem? (i := 521) (by decide +kernel)⟩, by decide +kernel, by decide +kernel, by decide +kernel⟩
theorem vi_X0_splitOf : Cond.instanceMethod yX0_splitOf ∈ lw_tbl ∧ Cond.selects yX0_splitOf.cls yX0_splitOf yX0_splitOf ∈ lw_tbl := ⟨List.mem_of_getElem? (i := 519) (by decide +kernel), List.mem_of_getElem? (i := 520) (by decide +kernel)⟩
def tb_X0_gainOfJoining : List (Nat × Instr) := [(0, .aload_n 0), (1, .getfield 34), (4, .iload_n 1), (5, .iload_n 2), (6, .invokevirtual 52), (9, .istore_n 3), (10, .aload_n 0), (11, .iload_n 3), (12, .aload_n 0), (13, .getfield 24), (16, .iload_n 1), (17, .invokevirtual 44), (20, .aload_n 0), (21, .getfield 24), (24, .iload_n 2), (25, .invokevirtual 44), (28, .invokevirtual 55), (31, .ireturn)]
theorem tt_X0_gainOfJoining : az_Tb cX0_gainOfJoining tb_X0_gainOfJoining := az_Tb.of (by decide +kernel)
theorem cw_X0_gainOfJoining : az_Cw yX0_gainOfJoining cX0_gainOfJoining 4 (some .int) 2 := ⟨⟨List.mem_of_getElem? (i := 28) (by decide +kernel), List.mem_of_getElem? (i := 366) (by decide +kernel)⟩, by decide +kernel, by decide +kernel, by decide +kernel⟩
theorem vi_X0_gainOfJoining : Cond.instanceMethod yX0_gainOfJoining ∈ lw_tbl ∧ Cond.selects yX0_gainOfJoining.cls yX0_gainOfJoining yX0_gainOfJoining ∈ lw_tbl := ⟨List.mem_of_getElem? (i := 364) (by decide +kernel), List.mem_of_getElem? (i := 365) (by decide +kernel)⟩
def tb_X0_findAnew : List (Nat × Instr) := [(0, .aload_n 0), (1, .aload_n 1), (2, .invokevirtual 59), (5, .iconst 1), (6, .istore_n 2), (7, .iconst 0), (8, .istore_n 3), (9, .iload_n 2), (10, .ifCond .eq 20), (13, .iload_n 3), (14, .bipush 12), (16, .if_icmp .ge 14), (19, .aload_n 0), (20, .invokevirtual 63), (23, .istore_n 2), (24, .iinc 3 1), (27, .goto (-18)), (30, .iconst 0), (31, .istore_n 3), (32, .iload_n 3), (33, .bipush 12), (35, .if_icmp .ge 34), (38, .aload_n 0), (39, .getfield 18), (42, .iload_n 3), (43, .aload_n 0), (44, .iload_n 3), (45, .invokevirtual 67), (48, .ifCond .eq 11), (51, .aload_n 0), (52, .iload_n 3), (53, .invokevirtual 71), (56, .goto 4), (59, .iconst 0), (60, .invokevirtual 74), (63, .iinc 3 1), (66, .goto (-34)), (69, .return_)]
theorem tt_X0_findAnew : az_Tb cX0_findAnew tb_X0_findAnew := az_Tb.of (by decide +kernel)
theorem cw_X0_findAnew : az_Cw yX0_findAnew cX0_findAnew 4 none 1 := ⟨⟨List.mem_of_getElem? (i := 28) (by decide +kernel), List.mem_of_getElem? (i := 329) (by decide +kernel)⟩, by decide +kernel, by decide +kernel, by decide +kernel⟩
theorem vi_X0_findAnew : Cond.instanceMethod yX0_findAnew ∈ lw_tbl ∧ Cond.selects yX0_findAnew.cls yX0_findAnew yX0_findAnew ∈ lw_tbl := ⟨List.mem_of_getElem? (i := 327) (by decide +kernel), List.mem_of_getElem? (i := 328) (by decide +kernel)⟩
def tb_X0_gainFrom : List (Nat × Instr) := [(0, .iconst 2), (1, .aload_n 0), (2, .getfield 41), (5, .imul), (6, .iload_n 1), (7, .imul), (8, .iload_n 2), (9, .iload_n 3), (10, .imul), (11, .isub), (12, .ireturn)]
theorem tt_X0_gainFrom : az_Tb cX0_gainFrom tb_X0_gainFrom := az_Tb.of (by decide +kernel)
theorem cw_X0_gainFrom : az_Cw yX0_gainFrom cX0_gainFrom 4 (some .int) 3 := ⟨⟨List.mem_of_getElem? (i := 28) (by decide +kernel), List.mem_of_getElem? (i := 372) (by decide +kernel)⟩, by decide +kernel, by decide +kernel, by decide +kernel⟩
theorem vi_X0_gainFrom : Cond.instanceMethod yX0_gainFrom ∈ lw_tbl ∧ Cond.selects yX0_gainFrom.cls yX0_gainFrom yX0_gainFrom ∈ lw_tbl := ⟨List.mem_of_getElem? (i := 371) (by decide +kernel), List.mem_of_getElem? (i := 8) (by decide +kernel)⟩
def tb_X0_partAll : List (Nat × Instr) := [(0, .aload_n 0), (1, .aload_n 1), (2, .invokevirtual 78), (5, .putfield 41), (8, .aload_n 0), (9, .aload_n 1), (10, .invokevirtual 84), (13, .putfield 37), (16, .iconst 0), (17, .istore_n 2), (18, .iload_n 2), (19, .bipush 12), (21, .if_icmp .ge 114), (24, .aload_n 0), (25, .getfield 12), (28, .iload_n 2), (29, .aload_n 1), (30, .iload_n 2), (31, .invokevirtual 87), (34, .ifCond .eq 7), (37, .iload_n 2), (38, .goto 4), (41, .iconst (-1)), (42, .invokevirtual 74), (45, .iconst 0), (46, .istore_n 3), (47, .iconst 0), (48, .istore 4), (50, .iload 4), (52, .bipush 12), (54, .if_icmp .ge 57), (57, .iload_n 2), (58, .iload 4), (60, .if_icmp .ne 7), (63, .iconst 0), (64, .goto 10), (67, .aload_n 1), (68, .iload_n 2), (69, .iload 4), (71, .invokevirtual 90), (74, .istore 5), (76, .aload_n 0), (77, .getfield 30), (80, .iload_n 2), (81, .iload 4), (83, .iload 5), (85, .invokevirtual 93), (88, .aload_n 0), (89, .getfield 34), (92, .iload_n 2), (93, .iload 4), (95, .iload 5), (97, .invokevirtual 93), (100, .iload_n 3), (101, .iload 5), (103, .iadd), (104, .istore_n 3), (105, .iinc 4 1), (108, .goto (-58)), (111, .aload_n 0), (112, .getfield 21), (115, .iload_n 2), (116, .iload_n 3), (117, .invokevirtual 74), (120, .aload_n 0), (121, .getfield 24), (124, .iload_n 2), (125, .iload_n 3), (126, .invokevirtual 74), (129, .iinc 2 1), (132, .goto (-114)), (135, .return_)]
theorem tt_X0_partAll : az_Tb cX0_partAll tb_X0_partAll := az_Tb.of (by decide +kernel)
theorem cw_X0_partAll : az_Cw yX0_partAll cX0_partAll 6 none 1 := ⟨⟨List.mem_of_getElem? (i := 28) (by decide +kernel), List.mem_of_getElem? (i := 333) (by decide +kernel)⟩, by decide +kernel, by decide +kernel, by decide +kernel⟩
theorem vi_X0_partAll : Cond.instanceMethod yX0_partAll ∈ lw_tbl ∧ Cond.selects yX0_partAll.cls yX0_partAll yX0_partAll ∈ lw_tbl := ⟨List.mem_of_getElem? (i := 332) (by decide +kernel), List.mem_of_getElem? (i := 6) (by decide +kernel)⟩
def tb_X0_joinGreatest : List (Nat × Instr) := [(0, .iconst 0), (1, .istore_n 1), (2, .iconst (-1)), (3, .istore_n 2), (4, .iconst (-1)), (5, .istore_n 3), (6, .iconst 0), (7, .istore 4), (9, .iload 4), (11, .bipush 12), (13, .if_icmp .ge 73), (16, .iload 4), (18, .iconst 1), (19, .iadd), (20, .istore 5), (22, .iload 5), (24, .bipush 12), (26, .if_icmp .ge 54), (29, .aload_n 0), (30, .iload 4), (32, .invokevirtual 67), (35, .ifCond .eq 39), (38, .aload_n 0), (39, .iload 5), (41, .invokevirtual 67), (44, .ifCond .eq 30), (47, .aload_n 0), (48, .iload 4), (50, .iload 5), (52, .invokevirtual 96), (55, .iload_n 1), (56, .if_icmp .le 18), (59, .aload_n 0), (60, .iload 4), (62, .iload 5), (64, .invokevirtual 96), (67, .istore_n 1), (68, .iload 4), (70, .istore_n 2), (71, .iload 5), (73, .istore_n 3), (74, .iinc 5 1), (77, .goto (-55)), (80, .iinc 4 1), (83, .goto (-74)), (86, .iload_n 1), (87, .ifCond .le 9), (90, .aload_n 0), (91, .iload_n 2), (92, .iload_n 3), (93, .invokevirtual 99), (96, .iload_n 1), (97, .ifCond .le 7), (100, .iconst 1), (101, .goto 4), (104, .iconst 0), (105, .ireturn)]
theorem tt_X0_joinGreatest : az_Tb cX0_joinGreatest tb_X0_joinGreatest := az_Tb.of (by decide +kernel)
theorem cw_X0_joinGreatest : az_Cw yX0_joinGreatest cX0_joinGreatest 6 (some .boolean) 0 := ⟨⟨List.mem_of_getElem? (i := 28) (by decide +kernel), List.mem_of_getElem? (i := 357) (by decide +kernel)⟩, by decide +kernel, by decide +kernel, by decide +kernel⟩
theorem vi_X0_joinGreatest : Cond.instanceMethod yX0_joinGreatest ∈ lw_tbl ∧ Cond.selects yX0_joinGreatest.cls yX0_joinGreatest yX0_joinGreatest ∈ lw_tbl := ⟨List.mem_of_getElem? (i := 356) (by decide +kernel), List.mem_of_getElem? (i := 7) (by decide +kernel)⟩
def tb_X0_join : List (Nat × Instr) := [(0, .aload_n 0), (1, .dup), (2, .getfield 37), (5, .iload_n 2), (6, .invokestatic 102), (9, .iconst (-1)), (10, .ixor), (11, .iand), (12, .putfield 37), (15, .aload_n 0), (16, .getfield 24), (19, .iload_n 1), (20, .aload_n 0), (21, .getfield 24), (24, .iload_n 2), (25, .invokevirtual 44), (28, .invokevirtual 105), (31, .iconst 0), (32, .istore_n 3), (33, .iload_n 3), (34, .bipush 12), (36, .if_icmp .ge 61), (39, .aload_n 0), (40, .getfield 12), (43, .iload_n 3), (44, .invokevirtual 44), (47, .iload_n 2), (48, .if_icmp .ne 12), (51, .aload_n 0), (52, .getfield 12), (55, .iload_n 3), (56, .iload_n 1), (57, .invokevirtual 74), (60, .aload_n 0), (61, .iload_n 3), (62, .invokevirtual 67), (65, .ifCond .eq 26), (68, .iload_n 3), (69, .iload_n 1), (70, .if_icmp .eq 21), (73, .aload_n 0), (74, .getfield 34), (77, .iload_n 1), (78, .iload_n 3), (79, .aload_n 0), (80, .getfield 34), (83, .iload_n 2), (84, .iload_n 3), (85, .invokevirtual 52), (88, .invokevirtual 108), (91, .iinc 3 1), (94, .goto (-61)), (97, .return_)]
theorem tt_X0_join : az_Tb cX0_join tb_X0_join := az_Tb.of (by decide +kernel)
theorem cw_X0_join : az_Cw yX0_join cX0_join 4 none 2 := ⟨⟨List.mem_of_getElem? (i := 28) (by decide +kernel), List.mem_of_getElem? (i := 376) (by decide +kernel)⟩, by decide +kernel, by decide +kernel, by decide +kernel⟩
theorem vi_X0_join : Cond.instanceMethod yX0_join ∈ lw_tbl ∧ Cond.selects yX0_join.cls yX0_join yX0_join ∈ lw_tbl := ⟨List.mem_of_getElem? (i := 375) (by decide +kernel), List.mem_of_getElem? (i := 9) (by decide +kernel)⟩
def tb_X0_bestSplit : List (Nat × Instr) := [(0, .aload_n 0), (1, .iload_n 1), (2, .invokevirtual 110), (5, .iload_n 1), (6, .invokestatic 102), (9, .iconst (-1)), (10, .ixor), (11, .iand), (12, .istore_n 2), (13, .iconst 1), (14, .iload_n 2), (15, .invokestatic 113), (18, .ishl), (19, .iconst 1), (20, .isub), (21, .istore_n 3), (22, .iconst 0), (23, .istore 4), (25, .iconst 0), (26, .istore 5), (28, .iconst 0), (29, .istore 6), (31, .iconst 0), (32, .istore 7), (34, .iload 7), (36, .iload_n 3), (37, .if_icmp .ge 55), (40, .iload_n 1), (41, .invokestatic 102), (44, .iload 6), (46, .ior), (47, .istore 8), (49, .aload_n 0), (50, .iload 8), (52, .iload_n 2), (53, .iload 6), (55, .iconst (-1)), (56, .ixor), (57, .iand), (58, .invokevirtual 118), (61, .istore 9), (63, .iload 9), (65, .iload 5), (67, .if_icmp .ge 11), (70, .iload 9), (72, .istore 5), (74, .iload 8), (76, .istore 4), (78, .iload 6), (80, .iload_n 2), (81, .isub), (82, .iload_n 2), (83, .iand), (84, .istore 6), (86, .iinc 7 1), (89, .goto (-55)), (92, .iload 4), (94, .ireturn)]
theorem tt_X0_bestSplit : az_Tb cX0_bestSplit tb_X0_bestSplit := az_Tb.of (by decide +kernel)
theorem cw_X0_bestSplit : az_Cw yX0_bestSplit cX0_bestSplit 10 (some .int) 1 := ⟨⟨List.mem_of_getElem? (i := 28) (by decide +kernel), List.mem_of_getElem? (i := 388) (by decide +kernel)⟩, by decide +kernel, by decide +kernel, by decide +kernel⟩
theorem vi_X0_bestSplit : Cond.instanceMethod yX0_bestSplit ∈ lw_tbl ∧ Cond.selects yX0_bestSplit.cls yX0_bestSplit yX0_bestSplit ∈ lw_tbl := ⟨List.mem_of_getElem? (i := 387) (by decide +kernel), List.mem_of_getElem? (i := 10) (by decide +kernel)⟩
def tb_X0_membersOf : List (Nat × Instr) := [(0, .iconst 0), (1, .istore_n 2), (2, .iconst 0), (3, .istore_n 3), (4, .iload_n 3), (5, .bipush 12), (7, .if_icmp .ge 28), (10, .aload_n 0), (11, .getfield 12), (14, .iload_n 3), (15, .invokevirtual 44), (18, .iload_n 1), (19, .if_icmp .ne 10), (22, .iload_n 2), (23, .iload_n 3), (24, .invokestatic 102), (27, .ior), (28, .istore_n 2), (29, .iinc 3 1), (32, .goto (-28)), (35, .iload_n 2), (36, .ireturn)]
theorem tt_X0_membersOf : az_Tb cX0_membersOf tb_X0_membersOf := az_Tb.of (by decide +kernel)
theorem cw_X0_membersOf : az_Cw yX0_membersOf cX0_membersOf 4 (some .int) 1 := ⟨⟨List.mem_of_getElem? (i := 28) (by decide +kernel), List.mem_of_getElem? (i := 392) (by decide +kernel)⟩, by decide +kernel, by decide +kernel, by decide +kernel⟩
theorem vi_X0_membersOf : Cond.instanceMethod yX0_membersOf ∈ lw_tbl ∧ Cond.selects yX0_membersOf.cls yX0_membersOf yX0_membersOf ∈ lw_tbl := ⟨List.mem_of_getElem? (i := 391) (by decide +kernel), List.mem_of_getElem? (i := 11) (by decide +kernel)⟩
def tb_X0_gainOfParts : List (Nat × Instr) := [(0, .iconst 0), (1, .istore_n 3), (2, .iconst 0), (3, .istore 4), (5, .iload 4), (7, .bipush 12), (9, .if_icmp .ge 28), (12, .iload_n 1), (13, .iload 4), (15, .invokestatic 48), (18, .ifCond .eq 13), (21, .iload_n 3), (22, .aload_n 0), (23, .iload 4), (25, .iload_n 2), (26, .invokevirtual 121), (29, .iadd), (30, .istore_n 3), (31, .iinc 4 1), (34, .goto (-29)), (37, .aload_n 0), (38, .iload_n 3), (39, .aload_n 0), (40, .iload_n 1), (41, .invokevirtual 124), (44, .aload_n 0), (45, .iload_n 2), (46, .invokevirtual 124), (49, .invokevirtual 55), (52, .ireturn)]
theorem tt_X0_gainOfParts : az_Tb cX0_gainOfParts tb_X0_gainOfParts := az_Tb.of (by decide +kernel)
theorem cw_X0_gainOfParts : az_Cw yX0_gainOfParts cX0_gainOfParts 5 (some .int) 2 := ⟨⟨List.mem_of_getElem? (i := 28) (by decide +kernel), List.mem_of_getElem? (i := 397) (by decide +kernel)⟩, by decide +kernel, by decide +kernel, by decide +kernel⟩
theorem vi_X0_gainOfParts : Cond.instanceMethod yX0_gainOfParts ∈ lw_tbl ∧ Cond.selects yX0_gainOfParts.cls yX0_gainOfParts yX0_gainOfParts ∈ lw_tbl := ⟨List.mem_of_getElem? (i := 396) (by decide +kernel), List.mem_of_getElem? (i := 12) (by decide +kernel)⟩
def tb_X0_weightWithAll : List (Nat × Instr) := [(0, .iconst 0), (1, .istore_n 3), (2, .iconst 0), (3, .istore 4), (5, .iload 4), (7, .bipush 12), (9, .if_icmp .ge 31), (12, .iload_n 2), (13, .iload 4), (15, .invokestatic 48), (18, .ifCond .eq 16), (21, .iload_n 3), (22, .aload_n 0), (23, .getfield 30), (26, .iload_n 1), (27, .iload 4), (29, .invokevirtual 52), (32, .iadd), (33, .istore_n 3), (34, .iinc 4 1), (37, .goto (-32)), (40, .iload_n 3), (41, .ireturn)]
theorem tt_X0_weightWithAll : az_Tb cX0_weightWithAll tb_X0_weightWithAll := az_Tb.of (by decide +kernel)
theorem cw_X0_weightWithAll : az_Cw yX0_weightWithAll cX0_weightWithAll 5 (some .int) 2 := ⟨⟨List.mem_of_getElem? (i := 28) (by decide +kernel), List.mem_of_getElem? (i := 401) (by decide +kernel)⟩, by decide +kernel, by decide +kernel, by decide +kernel⟩
theorem vi_X0_weightWithAll : Cond.instanceMethod yX0_weightWithAll ∈ lw_tbl ∧ Cond.selects yX0_weightWithAll.cls yX0_weightWithAll yX0_weightWithAll ∈ lw_tbl := ⟨List.mem_of_getElem? (i := 400) (by decide +kernel), List.mem_of_getElem? (i := 13) (by decide +kernel)⟩
def tb_X0_strengthOf : List (Nat × Instr) := [(0, .iconst 0), (1, .istore_n 2), (2, .iconst 0), (3, .istore_n 3), (4, .iload_n 3), (5, .bipush 12), (7, .if_icmp .ge 28), (10, .iload_n 1), (11, .iload_n 3), (12, .invokestatic 48), (15, .ifCond .eq 14), (18, .iload_n 2), (19, .aload_n 0), (20, .getfield 21), (23, .iload_n 3), (24, .invokevirtual 44), (27, .iadd), (28, .istore_n 2), (29, .iinc 3 1), (32, .goto (-28)), (35, .iload_n 2), (36, .ireturn)]
theorem tt_X0_strengthOf : az_Tb cX0_strengthOf tb_X0_strengthOf := az_Tb.of (by decide +kernel)
theorem cw_X0_strengthOf : az_Cw yX0_strengthOf cX0_strengthOf 4 (some .int) 1 := ⟨⟨List.mem_of_getElem? (i := 28) (by decide +kernel), List.mem_of_getElem? (i := 405) (by decide +kernel)⟩, by decide +kernel, by decide +kernel, by decide +kernel⟩
theorem vi_X0_strengthOf : Cond.instanceMethod yX0_strengthOf ∈ lw_tbl ∧ Cond.selects yX0_strengthOf.cls yX0_strengthOf yX0_strengthOf ∈ lw_tbl := ⟨List.mem_of_getElem? (i := 404) (by decide +kernel), List.mem_of_getElem? (i := 14) (by decide +kernel)⟩
def tb_X1_init : List (Nat × Instr) := [(0, .aload_n 0), (1, .invokespecial 3), (4, .aload_n 0), (5, .new 9), (8, .dup), (9, .invokespecial 11), (12, .putfield 12), (15, .aload_n 0), (16, .new 9), (19, .dup), (20, .invokespecial 11), (23, .putfield 18), (26, .aload_n 0), (27, .new 9), (30, .dup), (31, .invokespecial 11), (34, .putfield 21), (37, .aload_n 0), (38, .new 9), (41, .dup), (42, .invokespecial 11), (45, .putfield 24), (48, .aload_n 0), (49, .new 9), (52, .dup), (53, .invokespecial 11), (56, .putfield 27), (59, .aload_n 0), (60, .iconst 0), (61, .putfield 30), (64, .aload_n 0), (65, .iconst 0), (66, .putfield 34), (69, .aload_n 0), (70, .iconst 0), (71, .putfield 37), (74, .return_)]
theorem tt_X1_init : az_Tb cX1_init tb_X1_init := az_Tb.of (by decide +kernel)
theorem cw_X1_init : az_Cw yX1_init cX1_init 1 none 0 := ⟨⟨List.mem_of_getElem? (i := 29) (by decide +kernel), List.mem_of_getElem? (i := 137) (by decide +kernel)⟩, by decide +kernel, by decide +kernel, by decide +kernel⟩
theorem im_X1_init : Cond.instanceMethod yX1_init ∈ lw_tbl := List.mem_of_getElem? (i := 136) (by decide +kernel)
def tb_X1_countOf : List (Nat × Instr) := [(0, .aload_n 0), (1, .getfield 12), (4, .iload_n 2), (5, .invokevirtual 40), (8, .aload_n 0), (9, .getfield 18), (12, .iload_n 1), (13, .invokevirtual 40), (16, .imul), (17, .ireturn)]
theorem tt_X1_countOf : az_Tb cX1_countOf tb_X1_countOf := az_Tb.of (by decide +kernel)
theorem cw_X1_countOf : az_Cw yX1_countOf cX1_countOf 3 (some .int) 2 := ⟨⟨List.mem_of_getElem? (i := 29) (by decide +kernel), List.mem_of_getElem? (i := 429) (by decide +kernel)⟩, by decide +kernel, by decide +kernel, by decide +kernel⟩
theorem vi_X1_countOf : Cond.instanceMethod yX1_countOf ∈ lw_tbl ∧ Cond.selects yX1_countOf.cls yX1_countOf yX1_countOf ∈ lw_tbl := ⟨List.mem_of_getElem? (i := 427) (by decide +kernel), List.mem_of_getElem? (i := 428) (by decide +kernel)⟩
def tb_X1_wholeWays : List (Nat × Instr) := [(0, .aload_n 0), (1, .getfield 30), (4, .ireturn)]
theorem tt_X1_wholeWays : az_Tb cX1_wholeWays tb_X1_wholeWays := az_Tb.of (by decide +kernel)
theorem cw_X1_wholeWays : az_Cw yX1_wholeWays cX1_wholeWays 1 (some .int) 0 := ⟨⟨List.mem_of_getElem? (i := 29) (by decide +kernel), List.mem_of_getElem? (i := 605) (by decide +kernel)⟩, by decide +kernel, by decide +kernel, by decide +kernel⟩
theorem vi_X1_wholeWays : Cond.instanceMethod yX1_wholeWays ∈ lw_tbl ∧ Cond.selects yX1_wholeWays.cls yX1_wholeWays yX1_wholeWays ∈ lw_tbl := ⟨List.mem_of_getElem? (i := 603) (by decide +kernel), List.mem_of_getElem? (i := 604) (by decide +kernel)⟩
def tb_X1_lengthOfMain : List (Nat × Instr) := [(0, .aload_n 0), (1, .getfield 34), (4, .ireturn)]
theorem tt_X1_lengthOfMain : az_Tb cX1_lengthOfMain tb_X1_lengthOfMain := az_Tb.of (by decide +kernel)
theorem cw_X1_lengthOfMain : az_Cw yX1_lengthOfMain cX1_lengthOfMain 1 (some .int) 0 := ⟨⟨List.mem_of_getElem? (i := 29) (by decide +kernel), List.mem_of_getElem? (i := 616) (by decide +kernel)⟩, by decide +kernel, by decide +kernel, by decide +kernel⟩
theorem vi_X1_lengthOfMain : Cond.instanceMethod yX1_lengthOfMain ∈ lw_tbl ∧ Cond.selects yX1_lengthOfMain.cls yX1_lengthOfMain yX1_lengthOfMain ∈ lw_tbl := ⟨List.mem_of_getElem? (i := 614) (by decide +kernel), List.mem_of_getElem? (i := 615) (by decide +kernel)⟩
def tb_X1_paperOfMain : List (Nat × Instr) := [(0, .aload_n 0), (1, .getfield 27), (4, .iload_n 1), (5, .invokevirtual 40), (8, .ireturn)]
theorem tt_X1_paperOfMain : az_Tb cX1_paperOfMain tb_X1_paperOfMain := az_Tb.of (by decide +kernel)
theorem cw_X1_paperOfMain : az_Cw yX1_paperOfMain cX1_paperOfMain 2 (some .int) 1 := ⟨⟨List.mem_of_getElem? (i := 29) (by decide +kernel), List.mem_of_getElem? (i := 644) (by decide +kernel)⟩, by decide +kernel, by decide +kernel, by decide +kernel⟩
theorem vi_X1_paperOfMain : Cond.instanceMethod yX1_paperOfMain ∈ lw_tbl ∧ Cond.selects yX1_paperOfMain.cls yX1_paperOfMain yX1_paperOfMain ∈ lw_tbl := ⟨List.mem_of_getElem? (i := 642) (by decide +kernel), List.mem_of_getElem? (i := 643) (by decide +kernel)⟩
def tb_X1_sumOfMain : List (Nat × Instr) := [(0, .aload_n 0), (1, .getfield 37), (4, .ireturn)]
theorem tt_X1_sumOfMain : az_Tb cX1_sumOfMain tb_X1_sumOfMain := az_Tb.of (by decide +kernel)
theorem cw_X1_sumOfMain : az_Cw yX1_sumOfMain cX1_sumOfMain 1 (some .int) 0 := ⟨⟨List.mem_of_getElem? (i := 29) (by decide +kernel), List.mem_of_getElem? (i := 657) (by decide +kernel)⟩, by decide +kernel, by decide +kernel, by decide +kernel⟩
theorem vi_X1_sumOfMain : Cond.instanceMethod yX1_sumOfMain ∈ lw_tbl ∧ Cond.selects yX1_sumOfMain.cls yX1_sumOfMain yX1_sumOfMain ∈ lw_tbl := ⟨List.mem_of_getElem? (i := 655) (by decide +kernel), List.mem_of_getElem? (i := 656) (by decide +kernel)⟩
def tb_X1_findAnew : List (Nat × Instr) := [(0, .iconst 0), (1, .istore_n 2), (2, .iload_n 2), (3, .bipush 12), (5, .if_icmp .ge 29), (8, .aload_n 0), (9, .getfield 12), (12, .iload_n 2), (13, .aload_n 0), (14, .getfield 12), (17, .aload_n 1), (18, .iload_n 2), (19, .invokevirtual 44), (22, .invokestatic 49), (25, .invokevirtual 53), (28, .iinc 2 1), (31, .goto (-29)), (34, .bipush 11), (36, .istore_n 2), (37, .iload_n 2), (38, .ifCond .lt 35), (41, .aload_n 0), (42, .getfield 18), (45, .iload_n 2), (46, .aload_n 0), (47, .getfield 18), (50, .aload_n 1), (51, .iload_n 2), (52, .invokevirtual 57), (55, .invokestatic 49), (58, .invokevirtual 53), (61, .aload_n 0), (62, .aload_n 1), (63, .iload_n 2), (64, .invokevirtual 60), (67, .iinc 2 (-1)), (70, .goto (-33)), (73, .aload_n 0), (74, .aload_n 1), (75, .invokevirtual 64), (78, .return_)]
theorem tt_X1_findAnew : az_Tb cX1_findAnew tb_X1_findAnew := az_Tb.of (by decide +kernel)
theorem cw_X1_findAnew : az_Cw yX1_findAnew cX1_findAnew 3 none 1 := ⟨⟨List.mem_of_getElem? (i := 29) (by decide +kernel), List.mem_of_getElem? (i := 409) (by decide +kernel)⟩, by decide +kernel, by decide +kernel, by decide +kernel⟩
theorem vi_X1_findAnew : Cond.instanceMethod yX1_findAnew ∈ lw_tbl ∧ Cond.selects yX1_findAnew.cls yX1_findAnew yX1_findAnew ∈ lw_tbl := ⟨List.mem_of_getElem? (i := 407) (by decide +kernel), List.mem_of_getElem? (i := 408) (by decide +kernel)⟩
def tb_X1_sumOver : List (Nat × Instr) := [(0, .iconst 0), (1, .istore_n 2), (2, .iconst 0), (3, .istore_n 3), (4, .iload_n 3), (5, .bipush 12), (7, .if_icmp .ge 25), (10, .iload_n 1), (11, .iload_n 3), (12, .invokestatic 68), (15, .ifCond .eq 11), (18, .iload_n 2), (19, .aload_n 0), (20, .iload_n 3), (21, .invokevirtual 40), (24, .iadd), (25, .istore_n 2), (26, .iinc 3 1), (29, .goto (-25)), (32, .iload_n 1), (33, .ifCond .ne 7), (36, .iconst 1), (37, .goto 4), (40, .iload_n 2), (41, .ireturn)]
theorem tt_X1_sumOver : az_Tb cX1_sumOver tb_X1_sumOver := az_Tb.of (by decide +kernel)
theorem cw_X1_sumOver : az_Cw yX1_sumOver cX1_sumOver 4 (some .int) 2 := ⟨⟨List.mem_of_getElem? (i := 29) (by decide +kernel), List.mem_of_getElem? (i := 416) (by decide +kernel)⟩, by decide +kernel, by decide +kernel, by decide +kernel⟩
theorem sm_X1_sumOver : Cond.static yX1_sumOver ∈ lw_tbl := List.mem_of_getElem? (i := 415) (by decide +kernel)
def tb_X1_findNext : List (Nat × Instr) := [(0, .iconst (-1)), (1, .istore_n 3), (2, .iconst 0), (3, .istore 4), (5, .iconst 0), (6, .istore 5), (8, .iload 5), (10, .bipush 12), (12, .if_icmp .ge 57), (15, .aload_n 1), (16, .iload 5), (18, .iload_n 2), (19, .invokevirtual 72), (22, .ifCond .eq 41), (25, .aload_n 0), (26, .iload 5), (28, .iload_n 2), (29, .invokevirtual 75), (32, .aload_n 0), (33, .getfield 21), (36, .iload 5), (38, .invokevirtual 40), (41, .iadd), (42, .istore 6), (44, .iload_n 3), (45, .iconst (-1)), (46, .if_icmp .eq 10), (49, .iload 6), (51, .iload 4), (53, .if_icmp .le 10), (56, .iload 5), (58, .istore_n 3), (59, .iload 6), (61, .istore 4), (63, .iinc 5 1), (66, .goto (-58)), (69, .aload_n 0), (70, .getfield 24), (73, .iload_n 2), (74, .iload_n 3), (75, .invokevirtual 53), (78, .aload_n 0), (79, .getfield 21), (82, .iload_n 2), (83, .iload 4), (85, .invokevirtual 53), (88, .return_)]
theorem tt_X1_findNext : az_Tb cX1_findNext tb_X1_findNext := az_Tb.of (by decide +kernel)
theorem cw_X1_findNext : az_Cw yX1_findNext cX1_findNext 7 none 2 := ⟨⟨List.mem_of_getElem? (i := 29) (by decide +kernel), List.mem_of_getElem? (i := 424) (by decide +kernel)⟩, by decide +kernel, by decide +kernel, by decide +kernel⟩
theorem vi_X1_findNext : Cond.instanceMethod yX1_findNext ∈ lw_tbl ∧ Cond.selects yX1_findNext.cls yX1_findNext yX1_findNext ∈ lw_tbl := ⟨List.mem_of_getElem? (i := 423) (by decide +kernel), List.mem_of_getElem? (i := 15) (by decide +kernel)⟩
def tb_X1_findMain : List (Nat × Instr) := [(0, .iconst (-1)), (1, .istore_n 2), (2, .aload_n 0), (3, .iconst 0), (4, .putfield 37), (7, .aload_n 0), (8, .iconst 0), (9, .putfield 30), (12, .iconst 0), (13, .istore_n 3), (14, .iload_n 3), (15, .bipush 12), (17, .if_icmp .ge 76), (20, .aload_n 1), (21, .iload_n 3), (22, .invokevirtual 79), (25, .ifCond .eq 62), (28, .aload_n 1), (29, .iload_n 3), (30, .invokevirtual 44), (33, .ifCond .ne 54), (36, .aload_n 0), (37, .dup), (38, .getfield 30), (41, .aload_n 0), (42, .getfield 18), (45, .iload_n 3), (46, .invokevirtual 40), (49, .iadd), (50, .putfield 30), (53, .iload_n 2), (54, .iconst (-1)), (55, .if_icmp .eq 18), (58, .aload_n 0), (59, .getfield 21), (62, .iload_n 3), (63, .invokevirtual 40), (66, .aload_n 0), (67, .getfield 37), (70, .if_icmp .le 17), (73, .iload_n 3), (74, .istore_n 2), (75, .aload_n 0), (76, .aload_n 0), (77, .getfield 21), (80, .iload_n 3), (81, .invokevirtual 40), (84, .putfield 37), (87, .iinc 3 1), (90, .goto (-76)), (93, .aload_n 0), (94, .iload_n 2), (95, .invokevirtual 83), (98, .return_)]
theorem tt_X1_findMain : az_Tb cX1_findMain tb_X1_findMain := az_Tb.of (by decide +kernel)
theorem cw_X1_findMain : az_Cw yX1_findMain cX1_findMain 4 none 1 := ⟨⟨List.mem_of_getElem? (i := 29) (by decide +kernel), List.mem_of_getElem? (i := 433) (by decide +kernel)⟩, by decide +kernel, by decide +kernel, by decide +kernel⟩
theorem vi_X1_findMain : Cond.instanceMethod yX1_findMain ∈ lw_tbl ∧ Cond.selects yX1_findMain.cls yX1_findMain yX1_findMain ∈ lw_tbl := ⟨List.mem_of_getElem? (i := 432) (by decide +kernel), List.mem_of_getElem? (i := 16) (by decide +kernel)⟩
def tb_X1_follow : List (Nat × Instr) := [(0, .aload_n 0), (1, .iconst 0), (2, .putfield 34), (5, .iload_n 1), (6, .istore_n 2), (7, .iconst 0), (8, .istore_n 3), (9, .iload_n 3), (10, .bipush 12), (12, .if_icmp .ge 42), (15, .iload_n 2), (16, .iconst (-1)), (17, .if_icmp .eq 37), (20, .aload_n 0), (21, .getfield 27), (24, .iload_n 3), (25, .iload_n 2), (26, .invokevirtual 53), (29, .aload_n 0), (30, .dup), (31, .getfield 34), (34, .iconst 1), (35, .iadd), (36, .putfield 34), (39, .aload_n 0), (40, .getfield 24), (43, .iload_n 2), (44, .invokevirtual 40), (47, .istore_n 2), (48, .iinc 3 1), (51, .goto (-42)), (54, .return_)]
theorem tt_X1_follow : az_Tb cX1_follow tb_X1_follow := az_Tb.of (by decide +kernel)
theorem cw_X1_follow : az_Cw yX1_follow cX1_follow 4 none 1 := ⟨⟨List.mem_of_getElem? (i := 29) (by decide +kernel), List.mem_of_getElem? (i := 438) (by decide +kernel)⟩, by decide +kernel, by decide +kernel, by decide +kernel⟩
theorem vi_X1_follow : Cond.instanceMethod yX1_follow ∈ lw_tbl ∧ Cond.selects yX1_follow.cls yX1_follow yX1_follow ∈ lw_tbl := ⟨List.mem_of_getElem? (i := 437) (by decide +kernel), List.mem_of_getElem? (i := 17) (by decide +kernel)⟩
def tb_X2_init : List (Nat × Instr) := [(0, .aload_n 0), (1, .invokespecial 3), (4, .aload_n 0), (5, .bipush 12), (7, .newarray .int), (9, .putfield 9), (12, .return_)]
theorem tt_X2_init : az_Tb cX2_init tb_X2_init := az_Tb.of (by decide +kernel)
theorem cw_X2_init : az_Cw yX2_init cX2_init 1 none 0 := ⟨⟨List.mem_of_getElem? (i := 26) (by decide +kernel), List.mem_of_getElem? (i := 56) (by decide +kernel)⟩, by decide +kernel, by decide +kernel, by decide +kernel⟩
theorem im_X2_init : Cond.instanceMethod yX2_init ∈ lw_tbl := List.mem_of_getElem? (i := 55) (by decide +kernel)
def tb_X2_at : List (Nat × Instr) := [(0, .iload_n 1), (1, .ifCond .lt 21), (4, .iload_n 1), (5, .aload_n 0), (6, .getfield 9), (9, .arraylength), (10, .if_icmp .ge 12), (13, .aload_n 0), (14, .getfield 9), (17, .iload_n 1), (18, .iaload), (19, .goto 4), (22, .iconst 0), (23, .ireturn)]
theorem tt_X2_at : az_Tb cX2_at tb_X2_at := az_Tb.of (by decide +kernel)
theorem cw_X2_at : az_Cw yX2_at cX2_at 2 (some .int) 1 := ⟨⟨List.mem_of_getElem? (i := 26) (by decide +kernel), List.mem_of_getElem? (i := 280) (by decide +kernel)⟩, by decide +kernel, by decide +kernel, by decide +kernel⟩
theorem vi_X2_at : Cond.instanceMethod yX2_at ∈ lw_tbl ∧ Cond.selects yX2_at.cls yX2_at yX2_at ∈ lw_tbl := ⟨List.mem_of_getElem? (i := 278) (by decide +kernel), List.mem_of_getElem? (i := 279) (by decide +kernel)⟩
def tb_X2_set : List (Nat × Instr) := [(0, .iload_n 1), (1, .ifCond .lt 19), (4, .iload_n 1), (5, .aload_n 0), (6, .getfield 9), (9, .arraylength), (10, .if_icmp .ge 10), (13, .aload_n 0), (14, .getfield 9), (17, .iload_n 1), (18, .iload_n 2), (19, .iastore), (20, .return_)]
theorem tt_X2_set : az_Tb cX2_set tb_X2_set := az_Tb.of (by decide +kernel)
theorem cw_X2_set : az_Cw yX2_set cX2_set 3 none 2 := ⟨⟨List.mem_of_getElem? (i := 26) (by decide +kernel), List.mem_of_getElem? (i := 305) (by decide +kernel)⟩, by decide +kernel, by decide +kernel, by decide +kernel⟩
theorem vi_X2_set : Cond.instanceMethod yX2_set ∈ lw_tbl ∧ Cond.selects yX2_set.cls yX2_set yX2_set ∈ lw_tbl := ⟨List.mem_of_getElem? (i := 303) (by decide +kernel), List.mem_of_getElem? (i := 304) (by decide +kernel)⟩
def tb_X2_add : List (Nat × Instr) := [(0, .aload_n 0), (1, .iload_n 1), (2, .aload_n 0), (3, .iload_n 1), (4, .invokevirtual 15), (7, .iload_n 2), (8, .iadd), (9, .invokevirtual 19), (12, .return_)]
theorem tt_X2_add : az_Tb cX2_add tb_X2_add := az_Tb.of (by decide +kernel)
theorem cw_X2_add : az_Cw yX2_add cX2_add 3 none 2 := ⟨⟨List.mem_of_getElem? (i := 26) (by decide +kernel), List.mem_of_getElem? (i := 381) (by decide +kernel)⟩, by decide +kernel, by decide +kernel, by decide +kernel⟩
theorem vi_X2_add : Cond.instanceMethod yX2_add ∈ lw_tbl ∧ Cond.selects yX2_add.cls yX2_add yX2_add ∈ lw_tbl := ⟨List.mem_of_getElem? (i := 379) (by decide +kernel), List.mem_of_getElem? (i := 380) (by decide +kernel)⟩
def tb_X3_init : List (Nat × Instr) := [(0, .aload_n 0), (1, .invokespecial 3), (4, .aload_n 0), (5, .new 9), (8, .dup), (9, .invokespecial 11), (12, .putfield 12), (15, .aload_n 0), (16, .new 9), (19, .dup), (20, .invokespecial 11), (23, .putfield 18), (26, .aload_n 0), (27, .new 9), (30, .dup), (31, .invokespecial 11), (34, .putfield 21), (37, .aload_n 0), (38, .new 24), (41, .dup), (42, .invokespecial 26), (45, .putfield 27), (48, .aload_n 0), (49, .new 24), (52, .dup), (53, .invokespecial 26), (56, .putfield 31), (59, .aload_n 0), (60, .iconst 0), (61, .putfield 34), (64, .aload_n 0), (65, .iconst 0), (66, .putfield 38), (69, .aload_n 0), (70, .iconst 0), (71, .putfield 41), (74, .return_)]
theorem tt_X3_init : az_Tb cX3_init tb_X3_init := az_Tb.of (by decide +kernel)
theorem cw_X3_init : az_Cw yX3_init cX3_init 1 none 0 := ⟨⟨List.mem_of_getElem? (i := 25) (by decide +kernel), List.mem_of_getElem? (i := 50) (by decide +kernel)⟩, by decide +kernel, by decide +kernel, by decide +kernel⟩
theorem im_X3_init : Cond.instanceMethod yX3_init ∈ lw_tbl := List.mem_of_getElem? (i := 49) (by decide +kernel)
def tb_X3_has : List (Nat × Instr) := [(0, .aload_n 0), (1, .getfield 41), (4, .iload_n 1), (5, .invokestatic 44), (8, .ireturn)]
theorem tt_X3_has : az_Tb cX3_has tb_X3_has := az_Tb.of (by decide +kernel)
theorem cw_X3_has : az_Cw yX3_has cX3_has 2 (some .boolean) 1 := ⟨⟨List.mem_of_getElem? (i := 25) (by decide +kernel), List.mem_of_getElem? (i := 200) (by decide +kernel)⟩, by decide +kernel, by decide +kernel, by decide +kernel⟩
theorem vi_X3_has : Cond.instanceMethod yX3_has ∈ lw_tbl ∧ Cond.selects yX3_has.cls yX3_has yX3_has ∈ lw_tbl := ⟨List.mem_of_getElem? (i := 198) (by decide +kernel), List.mem_of_getElem? (i := 199) (by decide +kernel)⟩
def tb_X3_hasAll : List (Nat × Instr) := [(0, .iload_n 1), (1, .aload_n 0), (2, .getfield 41), (5, .iconst (-1)), (6, .ixor), (7, .iand), (8, .ifCond .ne 7), (11, .iconst 1), (12, .goto 4), (15, .iconst 0), (16, .ireturn)]
theorem tt_X3_hasAll : az_Tb cX3_hasAll tb_X3_hasAll := az_Tb.of (by decide +kernel)
theorem cw_X3_hasAll : az_Cw yX3_hasAll cX3_hasAll 2 (some .boolean) 1 := ⟨⟨List.mem_of_getElem? (i := 25) (by decide +kernel), List.mem_of_getElem? (i := 690) (by decide +kernel)⟩, by decide +kernel, by decide +kernel, by decide +kernel⟩
theorem vi_X3_hasAll : Cond.instanceMethod yX3_hasAll ∈ lw_tbl ∧ Cond.selects yX3_hasAll.cls yX3_hasAll yX3_hasAll ∈ lw_tbl := ⟨List.mem_of_getElem? (i := 688) (by decide +kernel), List.mem_of_getElem? (i := 689) (by decide +kernel)⟩
def tb_X3_allThere : List (Nat × Instr) := [(0, .aload_n 0), (1, .getfield 41), (4, .ireturn)]
theorem tt_X3_allThere : az_Tb cX3_allThere tb_X3_allThere := az_Tb.of (by decide +kernel)
theorem cw_X3_allThere : az_Cw yX3_allThere cX3_allThere 1 (some .int) 0 := ⟨⟨List.mem_of_getElem? (i := 25) (by decide +kernel), List.mem_of_getElem? (i := 346) (by decide +kernel)⟩, by decide +kernel, by decide +kernel, by decide +kernel⟩
theorem vi_X3_allThere : Cond.instanceMethod yX3_allThere ∈ lw_tbl ∧ Cond.selects yX3_allThere.cls yX3_allThere yX3_allThere ∈ lw_tbl := ⟨List.mem_of_getElem? (i := 344) (by decide +kernel), List.mem_of_getElem? (i := 345) (by decide +kernel)⟩
def tb_X3_isFull : List (Nat × Instr) := [(0, .aload_n 0), (1, .getfield 34), (4, .bipush 12), (6, .if_icmp .lt 7), (9, .iconst 1), (10, .goto 4), (13, .iconst 0), (14, .ireturn)]
theorem tt_X3_isFull : az_Tb cX3_isFull tb_X3_isFull := az_Tb.of (by decide +kernel)
theorem cw_X3_isFull : az_Cw yX3_isFull cX3_isFull 1 (some .boolean) 0 := ⟨⟨List.mem_of_getElem? (i := 25) (by decide +kernel), List.mem_of_getElem? (i := 695) (by decide +kernel)⟩, by decide +kernel, by decide +kernel, by decide +kernel⟩
theorem vi_X3_isFull : Cond.instanceMethod yX3_isFull ∈ lw_tbl ∧ Cond.selects yX3_isFull.cls yX3_isFull yX3_isFull ∈ lw_tbl := ⟨List.mem_of_getElem? (i := 693) (by decide +kernel), List.mem_of_getElem? (i := 694) (by decide +kernel)⟩
def tb_X3_takesYear : List (Nat × Instr) := [(0, .iload_n 1), (1, .aload_n 0), (2, .getfield 38), (5, .if_icmp .lt 13), (8, .iload_n 1), (9, .bipush 99), (11, .if_icmp .gt 7), (14, .iconst 1), (15, .goto 4), (18, .iconst 0), (19, .ireturn)]
theorem tt_X3_takesYear : az_Tb cX3_takesYear tb_X3_takesYear := az_Tb.of (by decide +kernel)
theorem cw_X3_takesYear : az_Cw yX3_takesYear cX3_takesYear 2 (some .boolean) 1 := ⟨⟨List.mem_of_getElem? (i := 25) (by decide +kernel), List.mem_of_getElem? (i := 686) (by decide +kernel)⟩, by decide +kernel, by decide +kernel, by decide +kernel⟩
theorem vi_X3_takesYear : Cond.instanceMethod yX3_takesYear ∈ lw_tbl ∧ Cond.selects yX3_takesYear.cls yX3_takesYear yX3_takesYear ∈ lw_tbl := ⟨List.mem_of_getElem? (i := 684) (by decide +kernel), List.mem_of_getElem? (i := 685) (by decide +kernel)⟩
def tb_X3_referredBy : List (Nat × Instr) := [(0, .aload_n 0), (1, .getfield 18), (4, .iload_n 1), (5, .invokevirtual 48), (8, .ireturn)]
theorem tt_X3_referredBy : az_Tb cX3_referredBy tb_X3_referredBy := az_Tb.of (by decide +kernel)
theorem cw_X3_referredBy : az_Cw yX3_referredBy cX3_referredBy 2 (some .int) 1 := ⟨⟨List.mem_of_getElem? (i := 25) (by decide +kernel), List.mem_of_getElem? (i := 413) (by decide +kernel)⟩, by decide +kernel, by decide +kernel, by decide +kernel⟩
theorem vi_X3_referredBy : Cond.instanceMethod yX3_referredBy ∈ lw_tbl ∧ Cond.selects yX3_referredBy.cls yX3_referredBy yX3_referredBy ∈ lw_tbl := ⟨List.mem_of_getElem? (i := 411) (by decide +kernel), List.mem_of_getElem? (i := 412) (by decide +kernel)⟩
def tb_X3_citersOf : List (Nat × Instr) := [(0, .aload_n 0), (1, .getfield 21), (4, .iload_n 1), (5, .invokevirtual 48), (8, .ireturn)]
theorem tt_X3_citersOf : az_Tb cX3_citersOf tb_X3_citersOf := az_Tb.of (by decide +kernel)
theorem cw_X3_citersOf : az_Cw yX3_citersOf cX3_citersOf 2 (some .int) 1 := ⟨⟨List.mem_of_getElem? (i := 25) (by decide +kernel), List.mem_of_getElem? (i := 276) (by decide +kernel)⟩, by decide +kernel, by decide +kernel, by decide +kernel⟩
theorem vi_X3_citersOf : Cond.instanceMethod yX3_citersOf ∈ lw_tbl ∧ Cond.selects yX3_citersOf.cls yX3_citersOf yX3_citersOf ∈ lw_tbl := ⟨List.mem_of_getElem? (i := 274) (by decide +kernel), List.mem_of_getElem? (i := 275) (by decide +kernel)⟩
def tb_X3_cites : List (Nat × Instr) := [(0, .aload_n 0), (1, .getfield 18), (4, .iload_n 1), (5, .invokevirtual 48), (8, .iload_n 2), (9, .invokestatic 44), (12, .ireturn)]
theorem tt_X3_cites : az_Tb cX3_cites tb_X3_cites := az_Tb.of (by decide +kernel)
theorem cw_X3_cites : az_Cw yX3_cites cX3_cites 3 (some .boolean) 2 := ⟨⟨List.mem_of_getElem? (i := 25) (by decide +kernel), List.mem_of_getElem? (i := 294) (by decide +kernel)⟩, by decide +kernel, by decide +kernel, by decide +kernel⟩
theorem vi_X3_cites : Cond.instanceMethod yX3_cites ∈ lw_tbl ∧ Cond.selects yX3_cites.cls yX3_cites yX3_cites ∈ lw_tbl := ⟨List.mem_of_getElem? (i := 292) (by decide +kernel), List.mem_of_getElem? (i := 293) (by decide +kernel)⟩
def tb_X3_put : List (Nat × Instr) := [(0, .aload_n 0), (1, .getfield 34), (4, .istore_n 3), (5, .aload_n 0), (6, .dup), (7, .getfield 34), (10, .iconst 1), (11, .iadd), (12, .putfield 34), (15, .aload_n 0), (16, .iload_n 1), (17, .putfield 38), (20, .aload_n 0), (21, .getfield 12), (24, .iload_n 3), (25, .iload_n 1), (26, .invokevirtual 52), (29, .aload_n 0), (30, .dup), (31, .getfield 41), (34, .iload_n 3), (35, .invokestatic 56), (38, .ior), (39, .putfield 41), (42, .iconst 0), (43, .istore 4), (45, .iload 4), (47, .bipush 12), (49, .if_icmp .ge 25), (52, .iload_n 2), (53, .iload 4), (55, .invokestatic 44), (58, .ifCond .eq 10), (61, .aload_n 0), (62, .iload_n 3), (63, .iload 4), (65, .invokevirtual 59), (68, .iinc 4 1), (71, .goto (-26)), (74, .iload_n 3), (75, .ireturn)]
theorem tt_X3_put : az_Tb cX3_put tb_X3_put := az_Tb.of (by decide +kernel)
theorem cw_X3_put : az_Cw yX3_put cX3_put 5 (some .int) 2 := ⟨⟨List.mem_of_getElem? (i := 25) (by decide +kernel), List.mem_of_getElem? (i := 715) (by decide +kernel)⟩, by decide +kernel, by decide +kernel, by decide +kernel⟩
theorem vi_X3_put : Cond.instanceMethod yX3_put ∈ lw_tbl ∧ Cond.selects yX3_put.cls yX3_put yX3_put ∈ lw_tbl := ⟨List.mem_of_getElem? (i := 713) (by decide +kernel), List.mem_of_getElem? (i := 714) (by decide +kernel)⟩
def tb_X3_take : List (Nat × Instr) := [(0, .iconst 0), (1, .istore_n 2), (2, .iload_n 2), (3, .bipush 12), (5, .if_icmp .ge 39), (8, .aload_n 0), (9, .iload_n 1), (10, .iload_n 2), (11, .invokevirtual 62), (14, .ifCond .eq 9), (17, .aload_n 0), (18, .iload_n 1), (19, .iload_n 2), (20, .invokevirtual 65), (23, .aload_n 0), (24, .iload_n 2), (25, .iload_n 1), (26, .invokevirtual 62), (29, .ifCond .eq 9), (32, .aload_n 0), (33, .iload_n 2), (34, .iload_n 1), (35, .invokevirtual 65), (38, .iinc 2 1), (41, .goto (-39)), (44, .aload_n 0), (45, .dup), (46, .getfield 41), (49, .iload_n 1), (50, .invokestatic 56), (53, .iconst (-1)), (54, .ixor), (55, .iand), (56, .putfield 41), (59, .return_)]
theorem tt_X3_take : az_Tb cX3_take tb_X3_take := az_Tb.of (by decide +kernel)
theorem cw_X3_take : az_Cw yX3_take cX3_take 3 none 1 := ⟨⟨List.mem_of_getElem? (i := 25) (by decide +kernel), List.mem_of_getElem? (i := 290) (by decide +kernel)⟩, by decide +kernel, by decide +kernel, by decide +kernel⟩
theorem vi_X3_take : Cond.instanceMethod yX3_take ∈ lw_tbl ∧ Cond.selects yX3_take.cls yX3_take yX3_take ∈ lw_tbl := ⟨List.mem_of_getElem? (i := 288) (by decide +kernel), List.mem_of_getElem? (i := 289) (by decide +kernel)⟩
def tb_X3_addCiting : List (Nat × Instr) := [(0, .aload_n 0), (1, .iload_n 1), (2, .iload_n 2), (3, .iconst 1), (4, .invokevirtual 68), (7, .aload_n 0), (8, .getfield 18), (11, .iload_n 1), (12, .aload_n 0), (13, .getfield 18), (16, .iload_n 1), (17, .invokevirtual 48), (20, .iload_n 2), (21, .invokestatic 56), (24, .ior), (25, .invokevirtual 52), (28, .aload_n 0), (29, .getfield 21), (32, .iload_n 2), (33, .aload_n 0), (34, .getfield 21), (37, .iload_n 2), (38, .invokevirtual 48), (41, .iload_n 1), (42, .invokestatic 56), (45, .ior), (46, .invokevirtual 52), (49, .return_)]
theorem tt_X3_addCiting : az_Tb cX3_addCiting tb_X3_addCiting := az_Tb.of (by decide +kernel)
theorem cw_X3_addCiting : az_Cw yX3_addCiting cX3_addCiting 3 none 2 := ⟨⟨List.mem_of_getElem? (i := 25) (by decide +kernel), List.mem_of_getElem? (i := 719) (by decide +kernel)⟩, by decide +kernel, by decide +kernel, by decide +kernel⟩
theorem vi_X3_addCiting : Cond.instanceMethod yX3_addCiting ∈ lw_tbl ∧ Cond.selects yX3_addCiting.cls yX3_addCiting yX3_addCiting ∈ lw_tbl := ⟨List.mem_of_getElem? (i := 718) (by decide +kernel), List.mem_of_getElem? (i := 22) (by decide +kernel)⟩
def tb_X3_dropCiting : List (Nat × Instr) := [(0, .aload_n 0), (1, .getfield 18), (4, .iload_n 1), (5, .aload_n 0), (6, .getfield 18), (9, .iload_n 1), (10, .invokevirtual 48), (13, .iload_n 2), (14, .invokestatic 56), (17, .iconst (-1)), (18, .ixor), (19, .iand), (20, .invokevirtual 52), (23, .aload_n 0), (24, .getfield 21), (27, .iload_n 2), (28, .aload_n 0), (29, .getfield 21), (32, .iload_n 2), (33, .invokevirtual 48), (36, .iload_n 1), (37, .invokestatic 56), (40, .iconst (-1)), (41, .ixor), (42, .iand), (43, .invokevirtual 52), (46, .aload_n 0), (47, .iload_n 1), (48, .iload_n 2), (49, .iconst (-1)), (50, .invokevirtual 68), (53, .return_)]
theorem tt_X3_dropCiting : az_Tb cX3_dropCiting tb_X3_dropCiting := az_Tb.of (by decide +kernel)
theorem cw_X3_dropCiting : az_Cw yX3_dropCiting cX3_dropCiting 3 none 2 := ⟨⟨List.mem_of_getElem? (i := 25) (by decide +kernel), List.mem_of_getElem? (i := 298) (by decide +kernel)⟩, by decide +kernel, by decide +kernel, by decide +kernel⟩
theorem vi_X3_dropCiting : Cond.instanceMethod yX3_dropCiting ∈ lw_tbl ∧ Cond.selects yX3_dropCiting.cls yX3_dropCiting yX3_dropCiting ∈ lw_tbl := ⟨List.mem_of_getElem? (i := 297) (by decide +kernel), List.mem_of_getElem? (i := 2) (by decide +kernel)⟩
def tb_X3_countCiting : List (Nat × Instr) := [(0, .aload_n 0), (1, .getfield 27), (4, .iload_n 1), (5, .iload_n 1), (6, .iload_n 3), (7, .invokevirtual 72), (10, .aload_n 0), (11, .getfield 31), (14, .iload_n 2), (15, .iload_n 2), (16, .iload_n 3), (17, .invokevirtual 72), (20, .iconst 0), (21, .istore 4), (23, .iload 4), (25, .bipush 12), (27, .if_icmp .ge 51), (30, .aload_n 0), (31, .iload 4), (33, .iload_n 2), (34, .invokevirtual 62), (37, .ifCond .eq 14), (40, .aload_n 0), (41, .getfield 27), (44, .iload_n 1), (45, .iload 4), (47, .iload_n 3), (48, .invokevirtual 72), (51, .aload_n 0), (52, .iload_n 1), (53, .iload 4), (55, .invokevirtual 62), (58, .ifCond .eq 14), (61, .aload_n 0), (62, .getfield 31), (65, .iload_n 2), (66, .iload 4), (68, .iload_n 3), (69, .invokevirtual 72), (72, .iinc 4 1), (75, .goto (-52)), (78, .return_)]
theorem tt_X3_countCiting : az_Tb cX3_countCiting tb_X3_countCiting := az_Tb.of (by decide +kernel)
theorem cw_X3_countCiting : az_Cw yX3_countCiting cX3_countCiting 5 none 3 := ⟨⟨List.mem_of_getElem? (i := 25) (by decide +kernel), List.mem_of_getElem? (i := 309) (by decide +kernel)⟩, by decide +kernel, by decide +kernel, by decide +kernel⟩
theorem vi_X3_countCiting : Cond.instanceMethod yX3_countCiting ∈ lw_tbl ∧ Cond.selects yX3_countCiting.cls yX3_countCiting yX3_countCiting ∈ lw_tbl := ⟨List.mem_of_getElem? (i := 308) (by decide +kernel), List.mem_of_getElem? (i := 3) (by decide +kernel)⟩
def tb_X3_sharedOf : List (Nat × Instr) := [(0, .aload_n 0), (1, .getfield 27), (4, .iload_n 1), (5, .iload_n 2), (6, .invokevirtual 75), (9, .ireturn)]
theorem tt_X3_sharedOf : az_Tb cX3_sharedOf tb_X3_sharedOf := az_Tb.of (by decide +kernel)
theorem cw_X3_sharedOf : az_Cw yX3_sharedOf cX3_sharedOf 3 (some .int) 2 := ⟨⟨List.mem_of_getElem? (i := 25) (by decide +kernel), List.mem_of_getElem? (i := 455) (by decide +kernel)⟩, by decide +kernel, by decide +kernel, by decide +kernel⟩
theorem vi_X3_sharedOf : Cond.instanceMethod yX3_sharedOf ∈ lw_tbl ∧ Cond.selects yX3_sharedOf.cls yX3_sharedOf yX3_sharedOf ∈ lw_tbl := ⟨List.mem_of_getElem? (i := 453) (by decide +kernel), List.mem_of_getElem? (i := 454) (by decide +kernel)⟩
def tb_X3_jointOf : List (Nat × Instr) := [(0, .aload_n 0), (1, .getfield 31), (4, .iload_n 1), (5, .iload_n 2), (6, .invokevirtual 75), (9, .ireturn)]
theorem tt_X3_jointOf : az_Tb cX3_jointOf tb_X3_jointOf := az_Tb.of (by decide +kernel)
theorem cw_X3_jointOf : az_Cw yX3_jointOf cX3_jointOf 3 (some .int) 2 := ⟨⟨List.mem_of_getElem? (i := 25) (by decide +kernel), List.mem_of_getElem? (i := 463) (by decide +kernel)⟩, by decide +kernel, by decide +kernel, by decide +kernel⟩
theorem vi_X3_jointOf : Cond.instanceMethod yX3_jointOf ∈ lw_tbl ∧ Cond.selects yX3_jointOf.cls yX3_jointOf yX3_jointOf ∈ lw_tbl := ⟨List.mem_of_getElem? (i := 461) (by decide +kernel), List.mem_of_getElem? (i := 462) (by decide +kernel)⟩
def tb_X3_weightOf : List (Nat × Instr) := [(0, .aload_n 0), (1, .getfield 27), (4, .iload_n 1), (5, .iload_n 2), (6, .invokevirtual 75), (9, .aload_n 0), (10, .getfield 31), (13, .iload_n 1), (14, .iload_n 2), (15, .invokevirtual 75), (18, .iadd), (19, .ireturn)]
theorem tt_X3_weightOf : az_Tb cX3_weightOf tb_X3_weightOf := az_Tb.of (by decide +kernel)
theorem cw_X3_weightOf : az_Cw yX3_weightOf cX3_weightOf 3 (some .int) 2 := ⟨⟨List.mem_of_getElem? (i := 25) (by decide +kernel), List.mem_of_getElem? (i := 341) (by decide +kernel)⟩, by decide +kernel, by decide +kernel, by decide +kernel⟩
theorem vi_X3_weightOf : Cond.instanceMethod yX3_weightOf ∈ lw_tbl ∧ Cond.selects yX3_weightOf.cls yX3_weightOf yX3_weightOf ∈ lw_tbl := ⟨List.mem_of_getElem? (i := 339) (by decide +kernel), List.mem_of_getElem? (i := 340) (by decide +kernel)⟩
def tb_X3_weightsKept : List (Nat × Instr) := [(0, .iconst 0), (1, .istore_n 1), (2, .iconst 0), (3, .istore_n 2), (4, .iload_n 2), (5, .bipush 12), (7, .if_icmp .ge 34), (10, .iload_n 2), (11, .iconst 1), (12, .iadd), (13, .istore_n 3), (14, .iload_n 3), (15, .bipush 12), (17, .if_icmp .ge 18), (20, .iload_n 1), (21, .aload_n 0), (22, .iload_n 2), (23, .iload_n 3), (24, .invokevirtual 78), (27, .iadd), (28, .istore_n 1), (29, .iinc 3 1), (32, .goto (-18)), (35, .iinc 2 1), (38, .goto (-34)), (41, .iload_n 1), (42, .ireturn)]
theorem tt_X3_weightsKept : az_Tb cX3_weightsKept tb_X3_weightsKept := az_Tb.of (by decide +kernel)
theorem cw_X3_weightsKept : az_Cw yX3_weightsKept cX3_weightsKept 4 (some .int) 0 := ⟨⟨List.mem_of_getElem? (i := 25) (by decide +kernel), List.mem_of_getElem? (i := 337) (by decide +kernel)⟩, by decide +kernel, by decide +kernel, by decide +kernel⟩
theorem vi_X3_weightsKept : Cond.instanceMethod yX3_weightsKept ∈ lw_tbl ∧ Cond.selects yX3_weightsKept.cls yX3_weightsKept yX3_weightsKept ∈ lw_tbl := ⟨List.mem_of_getElem? (i := 335) (by decide +kernel), List.mem_of_getElem? (i := 336) (by decide +kernel)⟩
def tb_X3_weightsFromReferences : List (Nat × Instr) := [(0, .iconst 0), (1, .istore_n 1), (2, .iconst 0), (3, .istore_n 2), (4, .iload_n 2), (5, .bipush 12), (7, .if_icmp .ge 73), (10, .iload_n 2), (11, .iconst 1), (12, .iadd), (13, .istore_n 3), (14, .iload_n 3), (15, .bipush 12), (17, .if_icmp .ge 57), (20, .aload_n 0), (21, .iload_n 2), (22, .invokevirtual 81), (25, .ifCond .eq 43), (28, .aload_n 0), (29, .iload_n 3), (30, .invokevirtual 81), (33, .ifCond .eq 35), (36, .iload_n 1), (37, .aload_n 0), (38, .getfield 18), (41, .iload_n 2), (42, .invokevirtual 48), (45, .aload_n 0), (46, .getfield 18), (49, .iload_n 3), (50, .invokevirtual 48), (53, .iand), (54, .invokestatic 85), (57, .iadd), (58, .istore_n 1), (59, .iload_n 1), (60, .aload_n 0), (61, .iload_n 2), (62, .iload_n 3), (63, .invokevirtual 90), (66, .iadd), (67, .istore_n 1), (68, .iinc 3 1), (71, .goto (-57)), (74, .iinc 2 1), (77, .goto (-73)), (80, .iload_n 1), (81, .ireturn)]
theorem tt_X3_weightsFromReferences : az_Tb cX3_weightsFromReferences tb_X3_weightsFromReferences := az_Tb.of (by decide +kernel)
theorem cw_X3_weightsFromReferences : az_Cw yX3_weightsFromReferences cX3_weightsFromReferences 4 (some .int) 0 := ⟨⟨List.mem_of_getElem? (i := 25) (by decide +kernel), List.mem_of_getElem? (i := 574) (by decide +kernel)⟩, by decide +kernel, by decide +kernel, by decide +kernel⟩
theorem vi_X3_weightsFromReferences : Cond.instanceMethod yX3_weightsFromReferences ∈ lw_tbl ∧ Cond.selects yX3_weightsFromReferences.cls yX3_weightsFromReferences yX3_weightsFromReferences ∈ lw_tbl := ⟨List.mem_of_getElem? (i := 572) (by decide +kernel), List.mem_of_getElem? (i := 573) (by decide +kernel)⟩
def tb_X3_referringToBoth : List (Nat × Instr) := [(0, .iconst 0), (1, .istore_n 3), (2, .iconst 0), (3, .istore 4), (5, .iload 4), (7, .bipush 12), (9, .if_icmp .ge 32), (12, .aload_n 0), (13, .iload 4), (15, .iload_n 1), (16, .invokevirtual 62), (19, .ifCond .eq 16), (22, .aload_n 0), (23, .iload 4), (25, .iload_n 2), (26, .invokevirtual 62), (29, .ifCond .eq 6), (32, .iinc 3 1), (35, .iinc 4 1), (38, .goto (-33)), (41, .iload_n 3), (42, .ireturn)]
theorem tt_X3_referringToBoth : az_Tb cX3_referringToBoth tb_X3_referringToBoth := az_Tb.of (by decide +kernel)
theorem cw_X3_referringToBoth : az_Cw yX3_referringToBoth cX3_referringToBoth 5 (some .int) 2 := ⟨⟨List.mem_of_getElem? (i := 25) (by decide +kernel), List.mem_of_getElem? (i := 580) (by decide +kernel)⟩, by decide +kernel, by decide +kernel, by decide +kernel⟩
theorem vi_X3_referringToBoth : Cond.instanceMethod yX3_referringToBoth ∈ lw_tbl ∧ Cond.selects yX3_referringToBoth.cls yX3_referringToBoth yX3_referringToBoth ∈ lw_tbl := ⟨List.mem_of_getElem? (i := 579) (by decide +kernel), List.mem_of_getElem? (i := 21) (by decide +kernel)⟩
def tb_X3_riseOf : List (Nat × Instr) := [(0, .aload_n 0), (1, .iload_n 1), (2, .iload_n 2), (3, .invokevirtual 93), (6, .aload_n 0), (7, .iload_n 1), (8, .iload_n 2), (9, .iconst 1), (10, .isub), (11, .invokevirtual 93), (14, .isub), (15, .ireturn)]
theorem tt_X3_riseOf : az_Tb cX3_riseOf tb_X3_riseOf := az_Tb.of (by decide +kernel)
theorem cw_X3_riseOf : az_Cw yX3_riseOf cX3_riseOf 3 (some .int) 2 := ⟨⟨List.mem_of_getElem? (i := 25) (by decide +kernel), List.mem_of_getElem? (i := 540) (by decide +kernel)⟩, by decide +kernel, by decide +kernel, by decide +kernel⟩
theorem vi_X3_riseOf : Cond.instanceMethod yX3_riseOf ∈ lw_tbl ∧ Cond.selects yX3_riseOf.cls yX3_riseOf yX3_riseOf ∈ lw_tbl := ⟨List.mem_of_getElem? (i := 538) (by decide +kernel), List.mem_of_getElem? (i := 539) (by decide +kernel)⟩
def tb_X3_citersOfYear : List (Nat × Instr) := [(0, .iconst 0), (1, .istore_n 3), (2, .iconst 0), (3, .istore 4), (5, .iload 4), (7, .bipush 12), (9, .if_icmp .ge 35), (12, .aload_n 0), (13, .iload 4), (15, .iload_n 1), (16, .invokevirtual 62), (19, .ifCond .eq 19), (22, .aload_n 0), (23, .getfield 12), (26, .iload 4), (28, .invokevirtual 48), (31, .iload_n 2), (32, .if_icmp .ne 6), (35, .iinc 3 1), (38, .iinc 4 1), (41, .goto (-36)), (44, .iload_n 3), (45, .ireturn)]
theorem tt_X3_citersOfYear : az_Tb cX3_citersOfYear tb_X3_citersOfYear := az_Tb.of (by decide +kernel)
theorem cw_X3_citersOfYear : az_Cw yX3_citersOfYear cX3_citersOfYear 5 (some .int) 2 := ⟨⟨List.mem_of_getElem? (i := 25) (by decide +kernel), List.mem_of_getElem? (i := 544) (by decide +kernel)⟩, by decide +kernel, by decide +kernel, by decide +kernel⟩
theorem vi_X3_citersOfYear : Cond.instanceMethod yX3_citersOfYear ∈ lw_tbl ∧ Cond.selects yX3_citersOfYear.cls yX3_citersOfYear yX3_citersOfYear ∈ lw_tbl := ⟨List.mem_of_getElem? (i := 543) (by decide +kernel), List.mem_of_getElem? (i := 20) (by decide +kernel)⟩
def tb_X4_init : List (Nat × Instr) := [(0, .aload_n 0), (1, .invokespecial 3), (4, .aload_n 0), (5, .sipush 144), (8, .newarray .int), (10, .putfield 9), (13, .return_)]
theorem tt_X4_init : az_Tb cX4_init tb_X4_init := az_Tb.of (by decide +kernel)
theorem cw_X4_init : az_Cw yX4_init cX4_init 1 none 0 := ⟨⟨List.mem_of_getElem? (i := 27) (by decide +kernel), List.mem_of_getElem? (i := 67) (by decide +kernel)⟩, by decide +kernel, by decide +kernel, by decide +kernel⟩
theorem im_X4_init : Cond.instanceMethod yX4_init ∈ lw_tbl := List.mem_of_getElem? (i := 66) (by decide +kernel)
def tb_X4_at : List (Nat × Instr) := [(0, .iload_n 1), (1, .bipush 12), (3, .imul), (4, .iload_n 2), (5, .iadd), (6, .istore_n 3), (7, .iload_n 1), (8, .ifCond .lt 23), (11, .iload_n 1), (12, .bipush 12), (14, .if_icmp .ge 17), (17, .iload_n 2), (18, .ifCond .lt 13), (21, .iload_n 2), (22, .bipush 12), (24, .if_icmp .ge 7), (27, .iconst 1), (28, .goto 4), (31, .iconst 0), (32, .istore 4), (34, .iload 4), (36, .ifCond .eq 25), (39, .iload_n 3), (40, .ifCond .lt 21), (43, .iload_n 3), (44, .aload_n 0), (45, .getfield 9), (48, .arraylength), (49, .if_icmp .ge 12), (52, .aload_n 0), (53, .getfield 9), (56, .iload_n 3), (57, .iaload), (58, .goto 4), (61, .iconst 0), (62, .ireturn)]
theorem tt_X4_at : az_Tb cX4_at tb_X4_at := az_Tb.of (by decide +kernel)
theorem cw_X4_at : az_Cw yX4_at cX4_at 5 (some .int) 2 := ⟨⟨List.mem_of_getElem? (i := 27) (by decide +kernel), List.mem_of_getElem? (i := 317) (by decide +kernel)⟩, by decide +kernel, by decide +kernel, by decide +kernel⟩
theorem vi_X4_at : Cond.instanceMethod yX4_at ∈ lw_tbl ∧ Cond.selects yX4_at.cls yX4_at yX4_at ∈ lw_tbl := ⟨List.mem_of_getElem? (i := 315) (by decide +kernel), List.mem_of_getElem? (i := 316) (by decide +kernel)⟩
def tb_X4_set : List (Nat × Instr) := [(0, .aload_n 0), (1, .iload_n 1), (2, .iload_n 2), (3, .iload_n 3), (4, .invokevirtual 15), (7, .aload_n 0), (8, .iload_n 2), (9, .iload_n 1), (10, .iload_n 3), (11, .invokevirtual 15), (14, .return_)]
theorem tt_X4_set : az_Tb cX4_set tb_X4_set := az_Tb.of (by decide +kernel)
theorem cw_X4_set : az_Cw yX4_set cX4_set 4 none 3 := ⟨⟨List.mem_of_getElem? (i := 27) (by decide +kernel), List.mem_of_getElem? (i := 353) (by decide +kernel)⟩, by decide +kernel, by decide +kernel, by decide +kernel⟩
theorem vi_X4_set : Cond.instanceMethod yX4_set ∈ lw_tbl ∧ Cond.selects yX4_set.cls yX4_set yX4_set ∈ lw_tbl := ⟨List.mem_of_getElem? (i := 351) (by decide +kernel), List.mem_of_getElem? (i := 352) (by decide +kernel)⟩
def tb_X4_add : List (Nat × Instr) := [(0, .aload_n 0), (1, .iload_n 1), (2, .iload_n 2), (3, .invokevirtual 19), (6, .iload_n 3), (7, .iadd), (8, .istore 4), (10, .aload_n 0), (11, .iload_n 1), (12, .iload_n 2), (13, .iload 4), (15, .invokevirtual 15), (18, .aload_n 0), (19, .iload_n 2), (20, .iload_n 1), (21, .iload 4), (23, .invokevirtual 15), (26, .return_)]
theorem tt_X4_add : az_Tb cX4_add tb_X4_add := az_Tb.of (by decide +kernel)
theorem cw_X4_add : az_Cw yX4_add cX4_add 5 none 3 := ⟨⟨List.mem_of_getElem? (i := 27) (by decide +kernel), List.mem_of_getElem? (i := 313) (by decide +kernel)⟩, by decide +kernel, by decide +kernel, by decide +kernel⟩
theorem vi_X4_add : Cond.instanceMethod yX4_add ∈ lw_tbl ∧ Cond.selects yX4_add.cls yX4_add yX4_add ∈ lw_tbl := ⟨List.mem_of_getElem? (i := 311) (by decide +kernel), List.mem_of_getElem? (i := 312) (by decide +kernel)⟩
def tb_X4_setOneWay : List (Nat × Instr) := [(0, .iload_n 1), (1, .bipush 12), (3, .imul), (4, .iload_n 2), (5, .iadd), (6, .istore 4), (8, .iload_n 1), (9, .ifCond .lt 23), (12, .iload_n 1), (13, .bipush 12), (15, .if_icmp .ge 17), (18, .iload_n 2), (19, .ifCond .lt 13), (22, .iload_n 2), (23, .bipush 12), (25, .if_icmp .ge 7), (28, .iconst 1), (29, .goto 4), (32, .iconst 0), (33, .istore 5), (35, .iload 5), (37, .ifCond .eq 26), (40, .iload 4), (42, .ifCond .lt 21), (45, .iload 4), (47, .aload_n 0), (48, .getfield 9), (51, .arraylength), (52, .if_icmp .ge 11), (55, .aload_n 0), (56, .getfield 9), (59, .iload 4), (61, .iload_n 3), (62, .iastore), (63, .return_)]
theorem tt_X4_setOneWay : az_Tb cX4_setOneWay tb_X4_setOneWay := az_Tb.of (by decide +kernel)
theorem cw_X4_setOneWay : az_Cw yX4_setOneWay cX4_setOneWay 6 none 3 := ⟨⟨List.mem_of_getElem? (i := 27) (by decide +kernel), List.mem_of_getElem? (i := 321) (by decide +kernel)⟩, by decide +kernel, by decide +kernel, by decide +kernel⟩
theorem vi_X4_setOneWay : Cond.instanceMethod yX4_setOneWay ∈ lw_tbl ∧ Cond.selects yX4_setOneWay.cls yX4_setOneWay yX4_setOneWay ∈ lw_tbl := ⟨List.mem_of_getElem? (i := 320) (by decide +kernel), List.mem_of_getElem? (i := 4) (by decide +kernel)⟩
def tb_X5_init : List (Nat × Instr) := [(0, .aload_n 0), (1, .invokespecial 1), (4, .aload_n 0), (5, .new 7), (8, .dup), (9, .invokespecial 9), (12, .putfield 10), (15, .aload_n 0), (16, .new 16), (19, .dup), (20, .invokespecial 18), (23, .putfield 19), (26, .aload_n 0), (27, .new 23), (30, .dup), (31, .invokespecial 25), (34, .putfield 26), (37, .return_)]
theorem tt_X5_init : az_Tb cX5_init tb_X5_init := az_Tb.of (by decide +kernel)
theorem cw_X5_init : az_Cw yX5_init cX5_init 1 none 0 := ⟨⟨List.mem_of_getElem? (i := 24) (by decide +kernel), List.mem_of_getElem? (i := 42) (by decide +kernel)⟩, by decide +kernel, by decide +kernel, by decide +kernel⟩
theorem im_X5_init : Cond.instanceMethod yX5_init ∈ lw_tbl := List.mem_of_getElem? (i := 41) (by decide +kernel)
def tb_X5_come : List (Nat × Instr) := [(0, .aload_n 0), (1, .getfield 10), (4, .iload_n 1), (5, .invokevirtual 30), (8, .ifCond .ne 13), (11, .new 34), (14, .dup), (15, .ldc 36), (17, .invokespecial 38), (20, .athrow), (21, .aload_n 0), (22, .getfield 10), (25, .iload_n 2), (26, .invokevirtual 41), (29, .ifCond .ne 13), (32, .new 34), (35, .dup), (36, .ldc 44), (38, .invokespecial 38), (41, .athrow), (42, .aload_n 0), (43, .getfield 10), (46, .invokevirtual 46), (49, .ifCond .eq 13), (52, .new 50), (55, .dup), (56, .ldc 52), (58, .invokespecial 54), (61, .athrow), (62, .aload_n 0), (63, .getfield 10), (66, .iload_n 1), (67, .iload_n 2), (68, .invokevirtual 55), (71, .istore_n 3), (72, .aload_n 0), (73, .invokevirtual 59), (76, .iload_n 3), (77, .ireturn)]
theorem tt_X5_come : az_Tb cX5_come tb_X5_come := az_Tb.of (by decide +kernel)
theorem cw_X5_come : az_Cw yX5_come cX5_come 4 (some .int) 2 := ⟨⟨List.mem_of_getElem? (i := 24) (by decide +kernel), List.mem_of_getElem? (i := 682) (by decide +kernel)⟩, by decide +kernel, by decide +kernel, by decide +kernel⟩
theorem vi_X5_come : Cond.instanceMethod yX5_come ∈ lw_tbl ∧ Cond.selects yX5_come.cls yX5_come yX5_come ∈ lw_tbl := ⟨List.mem_of_getElem? (i := 680) (by decide +kernel), List.mem_of_getElem? (i := 681) (by decide +kernel)⟩
def tb_X5_withdraw : List (Nat × Instr) := [(0, .aload_n 0), (1, .iload_n 1), (2, .invokevirtual 62), (5, .aload_n 0), (6, .getfield 10), (9, .iload_n 1), (10, .invokevirtual 66), (13, .invokestatic 70), (16, .istore_n 2), (17, .aload_n 0), (18, .getfield 10), (21, .iload_n 1), (22, .invokevirtual 75), (25, .aload_n 0), (26, .invokevirtual 59), (29, .iload_n 2), (30, .ireturn)]
theorem tt_X5_withdraw : az_Tb cX5_withdraw tb_X5_withdraw := az_Tb.of (by decide +kernel)
theorem cw_X5_withdraw : az_Cw yX5_withdraw cX5_withdraw 3 (some .int) 1 := ⟨⟨List.mem_of_getElem? (i := 24) (by decide +kernel), List.mem_of_getElem? (i := 192) (by decide +kernel)⟩, by decide +kernel, by decide +kernel, by decide +kernel⟩
theorem vi_X5_withdraw : Cond.instanceMethod yX5_withdraw ∈ lw_tbl ∧ Cond.selects yX5_withdraw.cls yX5_withdraw yX5_withdraw ∈ lw_tbl := ⟨List.mem_of_getElem? (i := 190) (by decide +kernel), List.mem_of_getElem? (i := 191) (by decide +kernel)⟩
def tb_X5_papers : List (Nat × Instr) := [(0, .aload_n 0), (1, .getfield 10), (4, .invokevirtual 78), (7, .invokestatic 70), (10, .ireturn)]
theorem tt_X5_papers : az_Tb cX5_papers tb_X5_papers := az_Tb.of (by decide +kernel)
theorem cw_X5_papers : az_Cw yX5_papers cX5_papers 1 (some .int) 0 := ⟨⟨List.mem_of_getElem? (i := 24) (by decide +kernel), List.mem_of_getElem? (i := 560) (by decide +kernel)⟩, by decide +kernel, by decide +kernel, by decide +kernel⟩
theorem vi_X5_papers : Cond.instanceMethod yX5_papers ∈ lw_tbl ∧ Cond.selects yX5_papers.cls yX5_papers yX5_papers ∈ lw_tbl := ⟨List.mem_of_getElem? (i := 558) (by decide +kernel), List.mem_of_getElem? (i := 559) (by decide +kernel)⟩
def tb_X5_references : List (Nat × Instr) := [(0, .aload_n 0), (1, .iload_n 1), (2, .invokevirtual 62), (5, .aload_n 0), (6, .getfield 10), (9, .iload_n 1), (10, .invokevirtual 82), (13, .ireturn)]
theorem tt_X5_references : az_Tb cX5_references tb_X5_references := az_Tb.of (by decide +kernel)
theorem cw_X5_references : az_Cw yX5_references cX5_references 2 (some .int) 1 := ⟨⟨List.mem_of_getElem? (i := 24) (by decide +kernel), List.mem_of_getElem? (i := 442) (by decide +kernel)⟩, by decide +kernel, by decide +kernel, by decide +kernel⟩
theorem vi_X5_references : Cond.instanceMethod yX5_references ∈ lw_tbl ∧ Cond.selects yX5_references.cls yX5_references yX5_references ∈ lw_tbl := ⟨List.mem_of_getElem? (i := 440) (by decide +kernel), List.mem_of_getElem? (i := 441) (by decide +kernel)⟩
def tb_X5_citing : List (Nat × Instr) := [(0, .aload_n 0), (1, .iload_n 1), (2, .invokevirtual 62), (5, .aload_n 0), (6, .getfield 10), (9, .iload_n 1), (10, .invokevirtual 66), (13, .ireturn)]
theorem tt_X5_citing : az_Tb cX5_citing tb_X5_citing := az_Tb.of (by decide +kernel)
theorem cw_X5_citing : az_Cw yX5_citing cX5_citing 2 (some .int) 1 := ⟨⟨List.mem_of_getElem? (i := 24) (by decide +kernel), List.mem_of_getElem? (i := 447) (by decide +kernel)⟩, by decide +kernel, by decide +kernel, by decide +kernel⟩
theorem vi_X5_citing : Cond.instanceMethod yX5_citing ∈ lw_tbl ∧ Cond.selects yX5_citing.cls yX5_citing yX5_citing ∈ lw_tbl := ⟨List.mem_of_getElem? (i := 445) (by decide +kernel), List.mem_of_getElem? (i := 446) (by decide +kernel)⟩
def tb_X5_shared : List (Nat × Instr) := [(0, .aload_n 0), (1, .iload_n 1), (2, .invokevirtual 62), (5, .aload_n 0), (6, .iload_n 2), (7, .invokevirtual 62), (10, .aload_n 0), (11, .getfield 10), (14, .iload_n 1), (15, .iload_n 2), (16, .invokevirtual 85), (19, .ireturn)]
theorem tt_X5_shared : az_Tb cX5_shared tb_X5_shared := az_Tb.of (by decide +kernel)
theorem cw_X5_shared : az_Cw yX5_shared cX5_shared 3 (some .int) 2 := ⟨⟨List.mem_of_getElem? (i := 24) (by decide +kernel), List.mem_of_getElem? (i := 451) (by decide +kernel)⟩, by decide +kernel, by decide +kernel, by decide +kernel⟩
theorem vi_X5_shared : Cond.instanceMethod yX5_shared ∈ lw_tbl ∧ Cond.selects yX5_shared.cls yX5_shared yX5_shared ∈ lw_tbl := ⟨List.mem_of_getElem? (i := 449) (by decide +kernel), List.mem_of_getElem? (i := 450) (by decide +kernel)⟩
def tb_X5_joint : List (Nat × Instr) := [(0, .aload_n 0), (1, .iload_n 1), (2, .invokevirtual 62), (5, .aload_n 0), (6, .iload_n 2), (7, .invokevirtual 62), (10, .aload_n 0), (11, .getfield 10), (14, .iload_n 1), (15, .iload_n 2), (16, .invokevirtual 88), (19, .ireturn)]
theorem tt_X5_joint : az_Tb cX5_joint tb_X5_joint := az_Tb.of (by decide +kernel)
theorem cw_X5_joint : az_Cw yX5_joint cX5_joint 3 (some .int) 2 := ⟨⟨List.mem_of_getElem? (i := 24) (by decide +kernel), List.mem_of_getElem? (i := 459) (by decide +kernel)⟩, by decide +kernel, by decide +kernel, by decide +kernel⟩
theorem vi_X5_joint : Cond.instanceMethod yX5_joint ∈ lw_tbl ∧ Cond.selects yX5_joint.cls yX5_joint yX5_joint ∈ lw_tbl := ⟨List.mem_of_getElem? (i := 457) (by decide +kernel), List.mem_of_getElem? (i := 458) (by decide +kernel)⟩
def tb_X5_totalAnew : List (Nat × Instr) := [(0, .aload_n 0), (1, .getfield 10), (4, .invokevirtual 91), (7, .ireturn)]
theorem tt_X5_totalAnew : az_Tb cX5_totalAnew tb_X5_totalAnew := az_Tb.of (by decide +kernel)
theorem cw_X5_totalAnew : az_Cw yX5_totalAnew cX5_totalAnew 1 (some .int) 0 := ⟨⟨List.mem_of_getElem? (i := 24) (by decide +kernel), List.mem_of_getElem? (i := 570) (by decide +kernel)⟩, by decide +kernel, by decide +kernel, by decide +kernel⟩
theorem vi_X5_totalAnew : Cond.instanceMethod yX5_totalAnew ∈ lw_tbl ∧ Cond.selects yX5_totalAnew.cls yX5_totalAnew yX5_totalAnew ∈ lw_tbl := ⟨List.mem_of_getElem? (i := 568) (by decide +kernel), List.mem_of_getElem? (i := 569) (by decide +kernel)⟩
def tb_X5_total : List (Nat × Instr) := [(0, .aload_n 0), (1, .getfield 10), (4, .invokevirtual 94), (7, .ireturn)]
theorem tt_X5_total : az_Tb cX5_total tb_X5_total := az_Tb.of (by decide +kernel)
theorem cw_X5_total : az_Cw yX5_total cX5_total 1 (some .int) 0 := ⟨⟨List.mem_of_getElem? (i := 24) (by decide +kernel), List.mem_of_getElem? (i := 565) (by decide +kernel)⟩, by decide +kernel, by decide +kernel, by decide +kernel⟩
theorem vi_X5_total : Cond.instanceMethod yX5_total ∈ lw_tbl ∧ Cond.selects yX5_total.cls yX5_total yX5_total ∈ lw_tbl := ⟨List.mem_of_getElem? (i := 563) (by decide +kernel), List.mem_of_getElem? (i := 564) (by decide +kernel)⟩
def tb_X5_likenessNumerator : List (Nat × Instr) := [(0, .aload_n 0), (1, .iload_n 1), (2, .invokevirtual 62), (5, .aload_n 0), (6, .iload_n 2), (7, .invokevirtual 62), (10, .aload_n 0), (11, .getfield 10), (14, .iload_n 1), (15, .iload_n 2), (16, .invokevirtual 85), (19, .istore_n 3), (20, .iload_n 3), (21, .iload_n 3), (22, .imul), (23, .iload_n 3), (24, .iload_n 3), (25, .imul), (26, .aload_n 0), (27, .iload_n 1), (28, .iload_n 2), (29, .invokevirtual 97), (32, .invokestatic 100), (35, .ireturn)]
theorem tt_X5_likenessNumerator : az_Tb cX5_likenessNumerator tb_X5_likenessNumerator := az_Tb.of (by decide +kernel)
theorem cw_X5_likenessNumerator : az_Cw yX5_likenessNumerator cX5_likenessNumerator 4 (some .int) 2 := ⟨⟨List.mem_of_getElem? (i := 24) (by decide +kernel), List.mem_of_getElem? (i := 467) (by decide +kernel)⟩, by decide +kernel, by decide +kernel, by decide +kernel⟩
theorem vi_X5_likenessNumerator : Cond.instanceMethod yX5_likenessNumerator ∈ lw_tbl ∧ Cond.selects yX5_likenessNumerator.cls yX5_likenessNumerator yX5_likenessNumerator ∈ lw_tbl := ⟨List.mem_of_getElem? (i := 465) (by decide +kernel), List.mem_of_getElem? (i := 466) (by decide +kernel)⟩
def tb_X5_likenessDenominator : List (Nat × Instr) := [(0, .aload_n 0), (1, .iload_n 1), (2, .invokevirtual 62), (5, .aload_n 0), (6, .iload_n 2), (7, .invokevirtual 62), (10, .aload_n 0), (11, .getfield 10), (14, .iload_n 1), (15, .iload_n 2), (16, .invokevirtual 85), (19, .istore_n 3), (20, .aload_n 0), (21, .iload_n 1), (22, .iload_n 2), (23, .invokevirtual 97), (26, .istore 4), (28, .iload 4), (30, .ifCond .ne 7), (33, .iconst 1), (34, .goto 13), (37, .iload 4), (39, .iload_n 3), (40, .iload_n 3), (41, .imul), (42, .iload 4), (44, .invokestatic 100), (47, .ireturn)]
theorem tt_X5_likenessDenominator : az_Tb cX5_likenessDenominator tb_X5_likenessDenominator := az_Tb.of (by decide +kernel)
theorem cw_X5_likenessDenominator : az_Cw yX5_likenessDenominator cX5_likenessDenominator 5 (some .int) 2 := ⟨⟨List.mem_of_getElem? (i := 24) (by decide +kernel), List.mem_of_getElem? (i := 478) (by decide +kernel)⟩, by decide +kernel, by decide +kernel, by decide +kernel⟩
theorem vi_X5_likenessDenominator : Cond.instanceMethod yX5_likenessDenominator ∈ lw_tbl ∧ Cond.selects yX5_likenessDenominator.cls yX5_likenessDenominator yX5_likenessDenominator ∈ lw_tbl := ⟨List.mem_of_getElem? (i := 476) (by decide +kernel), List.mem_of_getElem? (i := 477) (by decide +kernel)⟩
def tb_X5_fieldOf : List (Nat × Instr) := [(0, .aload_n 0), (1, .iload_n 1), (2, .invokevirtual 62), (5, .aload_n 0), (6, .getfield 19), (9, .iload_n 1), (10, .invokevirtual 104), (13, .ireturn)]
theorem tt_X5_fieldOf : az_Tb cX5_fieldOf tb_X5_fieldOf := az_Tb.of (by decide +kernel)
theorem cw_X5_fieldOf : az_Cw yX5_fieldOf cX5_fieldOf 2 (some .int) 1 := ⟨⟨List.mem_of_getElem? (i := 24) (by decide +kernel), List.mem_of_getElem? (i := 482) (by decide +kernel)⟩, by decide +kernel, by decide +kernel, by decide +kernel⟩
theorem vi_X5_fieldOf : Cond.instanceMethod yX5_fieldOf ∈ lw_tbl ∧ Cond.selects yX5_fieldOf.cls yX5_fieldOf yX5_fieldOf ∈ lw_tbl := ⟨List.mem_of_getElem? (i := 480) (by decide +kernel), List.mem_of_getElem? (i := 481) (by decide +kernel)⟩
def tb_X5_fields : List (Nat × Instr) := [(0, .aload_n 0), (1, .getfield 19), (4, .invokevirtual 107), (7, .invokestatic 70), (10, .ireturn)]
theorem tt_X5_fields : az_Tb cX5_fields tb_X5_fields := az_Tb.of (by decide +kernel)
theorem cw_X5_fields : az_Cw yX5_fields cX5_fields 1 (some .int) 0 := ⟨⟨List.mem_of_getElem? (i := 24) (by decide +kernel), List.mem_of_getElem? (i := 590) (by decide +kernel)⟩, by decide +kernel, by decide +kernel, by decide +kernel⟩
theorem vi_X5_fields : Cond.instanceMethod yX5_fields ∈ lw_tbl ∧ Cond.selects yX5_fields.cls yX5_fields yX5_fields ∈ lw_tbl := ⟨List.mem_of_getElem? (i := 588) (by decide +kernel), List.mem_of_getElem? (i := 589) (by decide +kernel)⟩
def tb_X5_gain : List (Nat × Instr) := [(0, .aload_n 0), (1, .iload_n 1), (2, .invokevirtual 110), (5, .aload_n 0), (6, .iload_n 2), (7, .invokevirtual 110), (10, .iload_n 1), (11, .iload_n 2), (12, .if_icmp .ne 13), (15, .new 34), (18, .dup), (19, .ldc 113), (21, .invokespecial 38), (24, .athrow), (25, .aload_n 0), (26, .getfield 19), (29, .iload_n 1), (30, .iload_n 2), (31, .invokevirtual 115), (34, .ireturn)]
theorem tt_X5_gain : az_Tb cX5_gain tb_X5_gain := az_Tb.of (by decide +kernel)
theorem cw_X5_gain : az_Cw yX5_gain cX5_gain 3 (some .int) 2 := ⟨⟨List.mem_of_getElem? (i := 24) (by decide +kernel), List.mem_of_getElem? (i := 490) (by decide +kernel)⟩, by decide +kernel, by decide +kernel, by decide +kernel⟩
theorem vi_X5_gain : Cond.instanceMethod yX5_gain ∈ lw_tbl ∧ Cond.selects yX5_gain.cls yX5_gain yX5_gain ∈ lw_tbl := ⟨List.mem_of_getElem? (i := 488) (by decide +kernel), List.mem_of_getElem? (i := 489) (by decide +kernel)⟩
def tb_X5_split : List (Nat × Instr) := [(0, .aload_n 0), (1, .iload_n 1), (2, .invokevirtual 110), (5, .aload_n 0), (6, .getfield 19), (9, .iload_n 1), (10, .invokevirtual 118), (13, .ireturn)]
theorem tt_X5_split : az_Tb cX5_split tb_X5_split := az_Tb.of (by decide +kernel)
theorem cw_X5_split : az_Cw yX5_split cX5_split 2 (some .int) 1 := ⟨⟨List.mem_of_getElem? (i := 24) (by decide +kernel), List.mem_of_getElem? (i := 517) (by decide +kernel)⟩, by decide +kernel, by decide +kernel, by decide +kernel⟩
theorem vi_X5_split : Cond.instanceMethod yX5_split ∈ lw_tbl ∧ Cond.selects yX5_split.cls yX5_split yX5_split ∈ lw_tbl := ⟨List.mem_of_getElem? (i := 515) (by decide +kernel), List.mem_of_getElem? (i := 516) (by decide +kernel)⟩
def tb_X5_count : List (Nat × Instr) := [(0, .aload_n 0), (1, .iload_n 1), (2, .invokevirtual 62), (5, .aload_n 0), (6, .iload_n 2), (7, .invokevirtual 62), (10, .aload_n 0), (11, .getfield 10), (14, .iload_n 1), (15, .iload_n 2), (16, .invokevirtual 121), (19, .ifCond .ne 13), (22, .new 125), (25, .dup), (26, .ldc 127), (28, .invokespecial 129), (31, .athrow), (32, .aload_n 0), (33, .getfield 26), (36, .iload_n 1), (37, .iload_n 2), (38, .invokevirtual 130), (41, .ireturn)]
theorem tt_X5_count : az_Tb cX5_count tb_X5_count := az_Tb.of (by decide +kernel)
theorem cw_X5_count : az_Cw yX5_count cX5_count 3 (some .int) 2 := ⟨⟨List.mem_of_getElem? (i := 24) (by decide +kernel), List.mem_of_getElem? (i := 525) (by decide +kernel)⟩, by decide +kernel, by decide +kernel, by decide +kernel⟩
theorem vi_X5_count : Cond.instanceMethod yX5_count ∈ lw_tbl ∧ Cond.selects yX5_count.cls yX5_count yX5_count ∈ lw_tbl := ⟨List.mem_of_getElem? (i := 523) (by decide +kernel), List.mem_of_getElem? (i := 524) (by decide +kernel)⟩
def tb_X5_ways : List (Nat × Instr) := [(0, .aload_n 0), (1, .getfield 26), (4, .invokevirtual 133), (7, .ireturn)]
theorem tt_X5_ways : az_Tb cX5_ways tb_X5_ways := az_Tb.of (by decide +kernel)
theorem cw_X5_ways : az_Cw yX5_ways cX5_ways 1 (some .int) 0 := ⟨⟨List.mem_of_getElem? (i := 24) (by decide +kernel), List.mem_of_getElem? (i := 601) (by decide +kernel)⟩, by decide +kernel, by decide +kernel, by decide +kernel⟩
theorem vi_X5_ways : Cond.instanceMethod yX5_ways ∈ lw_tbl ∧ Cond.selects yX5_ways.cls yX5_ways yX5_ways ∈ lw_tbl := ⟨List.mem_of_getElem? (i := 599) (by decide +kernel), List.mem_of_getElem? (i := 600) (by decide +kernel)⟩
def tb_X5_mainLength : List (Nat × Instr) := [(0, .aload_n 0), (1, .getfield 26), (4, .invokevirtual 136), (7, .ireturn)]
theorem tt_X5_mainLength : az_Tb cX5_mainLength tb_X5_mainLength := az_Tb.of (by decide +kernel)
theorem cw_X5_mainLength : az_Cw yX5_mainLength cX5_mainLength 1 (some .int) 0 := ⟨⟨List.mem_of_getElem? (i := 24) (by decide +kernel), List.mem_of_getElem? (i := 612) (by decide +kernel)⟩, by decide +kernel, by decide +kernel, by decide +kernel⟩
theorem vi_X5_mainLength : Cond.instanceMethod yX5_mainLength ∈ lw_tbl ∧ Cond.selects yX5_mainLength.cls yX5_mainLength yX5_mainLength ∈ lw_tbl := ⟨List.mem_of_getElem? (i := 610) (by decide +kernel), List.mem_of_getElem? (i := 611) (by decide +kernel)⟩
def tb_X5_mainAt : List (Nat × Instr) := [(0, .iload_n 1), (1, .ifCond .lt 14), (4, .iload_n 1), (5, .aload_n 0), (6, .getfield 26), (9, .invokevirtual 136), (12, .if_icmp .lt 13), (15, .new 139), (18, .dup), (19, .ldc 141), (21, .invokespecial 143), (24, .athrow), (25, .aload_n 0), (26, .getfield 26), (29, .iload_n 1), (30, .invokevirtual 144), (33, .ireturn)]
theorem tt_X5_mainAt : az_Tb cX5_mainAt tb_X5_mainAt := az_Tb.of (by decide +kernel)
theorem cw_X5_mainAt : az_Cw yX5_mainAt cX5_mainAt 2 (some .int) 1 := ⟨⟨List.mem_of_getElem? (i := 24) (by decide +kernel), List.mem_of_getElem? (i := 624) (by decide +kernel)⟩, by decide +kernel, by decide +kernel, by decide +kernel⟩
theorem vi_X5_mainAt : Cond.instanceMethod yX5_mainAt ∈ lw_tbl ∧ Cond.selects yX5_mainAt.cls yX5_mainAt yX5_mainAt ∈ lw_tbl := ⟨List.mem_of_getElem? (i := 622) (by decide +kernel), List.mem_of_getElem? (i := 623) (by decide +kernel)⟩
def tb_X5_mainSum : List (Nat × Instr) := [(0, .aload_n 0), (1, .getfield 26), (4, .invokevirtual 147), (7, .i2l), (8, .lreturn)]
theorem tt_X5_mainSum : az_Tb cX5_mainSum tb_X5_mainSum := az_Tb.of (by decide +kernel)
theorem cw_X5_mainSum : az_Cw yX5_mainSum cX5_mainSum 1 (some .long) 0 := ⟨⟨List.mem_of_getElem? (i := 24) (by decide +kernel), List.mem_of_getElem? (i := 653) (by decide +kernel)⟩, by decide +kernel, by decide +kernel, by decide +kernel⟩
theorem vi_X5_mainSum : Cond.instanceMethod yX5_mainSum ∈ lw_tbl ∧ Cond.selects yX5_mainSum.cls yX5_mainSum yX5_mainSum ∈ lw_tbl := ⟨List.mem_of_getElem? (i := 651) (by decide +kernel), List.mem_of_getElem? (i := 652) (by decide +kernel)⟩
def tb_X5_rise : List (Nat × Instr) := [(0, .aload_n 0), (1, .iload_n 1), (2, .invokevirtual 62), (5, .iload_n 2), (6, .invokestatic 150), (9, .aload_n 0), (10, .getfield 10), (13, .iload_n 1), (14, .iload_n 2), (15, .invokevirtual 153), (18, .ireturn)]
theorem tt_X5_rise : az_Tb cX5_rise tb_X5_rise := az_Tb.of (by decide +kernel)
theorem cw_X5_rise : az_Cw yX5_rise cX5_rise 3 (some .int) 2 := ⟨⟨List.mem_of_getElem? (i := 24) (by decide +kernel), List.mem_of_getElem? (i := 532) (by decide +kernel)⟩, by decide +kernel, by decide +kernel, by decide +kernel⟩
theorem vi_X5_rise : Cond.instanceMethod yX5_rise ∈ lw_tbl ∧ Cond.selects yX5_rise.cls yX5_rise yX5_rise ∈ lw_tbl := ⟨List.mem_of_getElem? (i := 530) (by decide +kernel), List.mem_of_getElem? (i := 531) (by decide +kernel)⟩
def tb_X5_riser : List (Nat × Instr) := [(0, .iload_n 1), (1, .invokestatic 150), (4, .iconst (-1)), (5, .istore_n 2), (6, .iconst 0), (7, .istore_n 3), (8, .iconst 0), (9, .istore 4), (11, .iload 4), (13, .bipush 12), (15, .if_icmp .ge 50), (18, .aload_n 0), (19, .getfield 10), (22, .iload 4), (24, .invokevirtual 156), (27, .ifCond .eq 32), (30, .aload_n 0), (31, .getfield 10), (34, .iload 4), (36, .iload_n 1), (37, .invokevirtual 153), (40, .istore 5), (42, .iload_n 2), (43, .iconst (-1)), (44, .if_icmp .eq 9), (47, .iload 5), (49, .iload_n 3), (50, .if_icmp .le 9), (53, .iload 4), (55, .istore_n 2), (56, .iload 5), (58, .istore_n 3), (59, .iinc 4 1), (62, .goto (-51)), (65, .iload_n 2), (66, .ireturn)]
theorem tt_X5_riser : az_Tb cX5_riser tb_X5_riser := az_Tb.of (by decide +kernel)
theorem cw_X5_riser : az_Cw yX5_riser cX5_riser 6 (some .int) 1 := ⟨⟨List.mem_of_getElem? (i := 24) (by decide +kernel), List.mem_of_getElem? (i := 648) (by decide +kernel)⟩, by decide +kernel, by decide +kernel, by decide +kernel⟩
theorem vi_X5_riser : Cond.instanceMethod yX5_riser ∈ lw_tbl ∧ Cond.selects yX5_riser.cls yX5_riser yX5_riser ∈ lw_tbl := ⟨List.mem_of_getElem? (i := 646) (by decide +kernel), List.mem_of_getElem? (i := 647) (by decide +kernel)⟩
def tb_X5_heir : List (Nat × Instr) := [(0, .aload_n 0), (1, .iload_n 1), (2, .invokevirtual 62), (5, .iconst (-1)), (6, .istore_n 2), (7, .iconst 0), (8, .istore_n 3), (9, .iconst 0), (10, .istore 4), (12, .iload 4), (14, .bipush 12), (16, .if_icmp .ge 51), (19, .aload_n 0), (20, .getfield 10), (23, .iload 4), (25, .iload_n 1), (26, .invokevirtual 121), (29, .ifCond .eq 32), (32, .aload_n 0), (33, .getfield 10), (36, .iload_n 1), (37, .iload 4), (39, .invokevirtual 85), (42, .istore 5), (44, .iload_n 2), (45, .iconst (-1)), (46, .if_icmp .eq 9), (49, .iload 5), (51, .iload_n 3), (52, .if_icmp .le 9), (55, .iload 4), (57, .istore_n 2), (58, .iload 5), (60, .istore_n 3), (61, .iinc 4 1), (64, .goto (-52)), (67, .iload_n 2), (68, .ireturn)]
theorem tt_X5_heir : az_Tb cX5_heir tb_X5_heir := az_Tb.of (by decide +kernel)
theorem cw_X5_heir : az_Cw yX5_heir cX5_heir 6 (some .int) 1 := ⟨⟨List.mem_of_getElem? (i := 24) (by decide +kernel), List.mem_of_getElem? (i := 548) (by decide +kernel)⟩, by decide +kernel, by decide +kernel, by decide +kernel⟩
theorem vi_X5_heir : Cond.instanceMethod yX5_heir ∈ lw_tbl ∧ Cond.selects yX5_heir.cls yX5_heir yX5_heir ∈ lw_tbl := ⟨List.mem_of_getElem? (i := 546) (by decide +kernel), List.mem_of_getElem? (i := 547) (by decide +kernel)⟩
def tb_X5_mapAnew : List (Nat × Instr) := [(0, .aload_n 0), (1, .getfield 19), (4, .aload_n 0), (5, .getfield 10), (8, .invokevirtual 159), (11, .aload_n 0), (12, .getfield 26), (15, .aload_n 0), (16, .getfield 10), (19, .invokevirtual 163), (22, .return_)]
theorem tt_X5_mapAnew : az_Tb cX5_mapAnew tb_X5_mapAnew := az_Tb.of (by decide +kernel)
theorem cw_X5_mapAnew : az_Cw yX5_mapAnew cX5_mapAnew 1 none 0 := ⟨⟨List.mem_of_getElem? (i := 24) (by decide +kernel), List.mem_of_getElem? (i := 325) (by decide +kernel)⟩, by decide +kernel, by decide +kernel, by decide +kernel⟩
theorem vi_X5_mapAnew : Cond.instanceMethod yX5_mapAnew ∈ lw_tbl ∧ Cond.selects yX5_mapAnew.cls yX5_mapAnew yX5_mapAnew ∈ lw_tbl := ⟨List.mem_of_getElem? (i := 324) (by decide +kernel), List.mem_of_getElem? (i := 5) (by decide +kernel)⟩
def tb_X5_requirePaper : List (Nat × Instr) := [(0, .aload_n 0), (1, .getfield 10), (4, .iload_n 1), (5, .invokevirtual 156), (8, .ifCond .ne 13), (11, .new 125), (14, .dup), (15, .ldc 164), (17, .invokespecial 129), (20, .athrow), (21, .return_)]
theorem tt_X5_requirePaper : az_Tb cX5_requirePaper tb_X5_requirePaper := az_Tb.of (by decide +kernel)
theorem cw_X5_requirePaper : az_Cw yX5_requirePaper cX5_requirePaper 2 none 1 := ⟨⟨List.mem_of_getElem? (i := 24) (by decide +kernel), List.mem_of_getElem? (i := 196) (by decide +kernel)⟩, by decide +kernel, by decide +kernel, by decide +kernel⟩
theorem vi_X5_requirePaper : Cond.instanceMethod yX5_requirePaper ∈ lw_tbl ∧ Cond.selects yX5_requirePaper.cls yX5_requirePaper yX5_requirePaper ∈ lw_tbl := ⟨List.mem_of_getElem? (i := 195) (by decide +kernel), List.mem_of_getElem? (i := 0) (by decide +kernel)⟩
def tb_X5_requireField : List (Nat × Instr) := [(0, .aload_n 0), (1, .getfield 19), (4, .iload_n 1), (5, .invokevirtual 166), (8, .ifCond .ne 13), (11, .new 125), (14, .dup), (15, .ldc 169), (17, .invokespecial 129), (20, .athrow), (21, .return_)]
theorem tt_X5_requireField : az_Tb cX5_requireField tb_X5_requireField := az_Tb.of (by decide +kernel)
theorem cw_X5_requireField : az_Cw yX5_requireField cX5_requireField 2 none 1 := ⟨⟨List.mem_of_getElem? (i := 24) (by decide +kernel), List.mem_of_getElem? (i := 494) (by decide +kernel)⟩, by decide +kernel, by decide +kernel, by decide +kernel⟩
theorem vi_X5_requireField : Cond.instanceMethod yX5_requireField ∈ lw_tbl ∧ Cond.selects yX5_requireField.cls yX5_requireField yX5_requireField ∈ lw_tbl := ⟨List.mem_of_getElem? (i := 493) (by decide +kernel), List.mem_of_getElem? (i := 19) (by decide +kernel)⟩
def tb_X5_requireYear : List (Nat × Instr) := [(0, .iload_n 0), (1, .ifCond .lt 9), (4, .iload_n 0), (5, .bipush 99), (7, .if_icmp .le 13), (10, .new 34), (13, .dup), (14, .ldc 36), (16, .invokespecial 38), (19, .athrow), (20, .return_)]
theorem tt_X5_requireYear : az_Tb cX5_requireYear tb_X5_requireYear := az_Tb.of (by decide +kernel)
theorem cw_X5_requireYear : az_Cw yX5_requireYear cX5_requireYear 1 none 1 := ⟨⟨List.mem_of_getElem? (i := 24) (by decide +kernel), List.mem_of_getElem? (i := 535) (by decide +kernel)⟩, by decide +kernel, by decide +kernel, by decide +kernel⟩
theorem sm_X5_requireYear : Cond.static yX5_requireYear ∈ lw_tbl := List.mem_of_getElem? (i := 534) (by decide +kernel)
def tb_X5_referencePairs : List (Nat × Instr) := [(0, .aload_n 0), (1, .getfield 10), (4, .iload_n 1), (5, .invokevirtual 82), (8, .invokestatic 70), (11, .aload_n 0), (12, .getfield 10), (15, .iload_n 2), (16, .invokevirtual 82), (19, .invokestatic 70), (22, .imul), (23, .ireturn)]
theorem tt_X5_referencePairs : az_Tb cX5_referencePairs tb_X5_referencePairs := az_Tb.of (by decide +kernel)
theorem cw_X5_referencePairs : az_Cw yX5_referencePairs cX5_referencePairs 3 (some .int) 2 := ⟨⟨List.mem_of_getElem? (i := 24) (by decide +kernel), List.mem_of_getElem? (i := 471) (by decide +kernel)⟩, by decide +kernel, by decide +kernel, by decide +kernel⟩
theorem vi_X5_referencePairs : Cond.instanceMethod yX5_referencePairs ∈ lw_tbl ∧ Cond.selects yX5_referencePairs.cls yX5_referencePairs yX5_referencePairs ∈ lw_tbl := ⟨List.mem_of_getElem? (i := 470) (by decide +kernel), List.mem_of_getElem? (i := 18) (by decide +kernel)⟩
def tb_X5_lowestTerm : List (Nat × Instr) := [(0, .iload_n 2), (1, .istore_n 3), (2, .iload_n 3), (3, .iconst 1), (4, .if_icmp .le 25), (7, .iload_n 1), (8, .iload_n 3), (9, .irem), (10, .ifCond .ne 13), (13, .iload_n 2), (14, .iload_n 3), (15, .irem), (16, .ifCond .ne 7), (19, .iload_n 0), (20, .iload_n 3), (21, .idiv), (22, .ireturn), (23, .iinc 3 (-1)), (26, .goto (-24)), (29, .iload_n 0), (30, .ireturn)]
theorem tt_X5_lowestTerm : az_Tb cX5_lowestTerm tb_X5_lowestTerm := az_Tb.of (by decide +kernel)
theorem cw_X5_lowestTerm : az_Cw yX5_lowestTerm cX5_lowestTerm 4 (some .int) 3 := ⟨⟨List.mem_of_getElem? (i := 24) (by decide +kernel), List.mem_of_getElem? (i := 474) (by decide +kernel)⟩, by decide +kernel, by decide +kernel, by decide +kernel⟩
theorem sm_X5_lowestTerm : Cond.static yX5_lowestTerm ∈ lw_tbl := List.mem_of_getElem? (i := 473) (by decide +kernel)
def tb_X5_holds : List (Nat × Instr) := [(0, .iload_n 1), (1, .ifCond .lt 21), (4, .iload_n 1), (5, .bipush 12), (7, .if_icmp .ge 15), (10, .iload_n 0), (11, .iload_n 1), (12, .ishr), (13, .iconst 1), (14, .iand), (15, .ifCond .eq 7), (18, .iconst 1), (19, .goto 4), (22, .iconst 0), (23, .ireturn)]
theorem tt_X5_holds : az_Tb cX5_holds tb_X5_holds := az_Tb.of (by decide +kernel)
theorem cw_X5_holds : az_Cw yX5_holds cX5_holds 2 (some .boolean) 2 := ⟨⟨List.mem_of_getElem? (i := 24) (by decide +kernel), List.mem_of_getElem? (i := 203) (by decide +kernel)⟩, by decide +kernel, by decide +kernel, by decide +kernel⟩
theorem sm_X5_holds : Cond.static yX5_holds ∈ lw_tbl := List.mem_of_getElem? (i := 202) (by decide +kernel)
def tb_X5_setOf : List (Nat × Instr) := [(0, .iload_n 0), (1, .ifCond .lt 15), (4, .iload_n 0), (5, .bipush 12), (7, .if_icmp .ge 9), (10, .iconst 1), (11, .iload_n 0), (12, .ishl), (13, .goto 4), (16, .iconst 0), (17, .ireturn)]
theorem tt_X5_setOf : az_Tb cX5_setOf tb_X5_setOf := az_Tb.of (by decide +kernel)
theorem cw_X5_setOf : az_Cw yX5_setOf cX5_setOf 1 (some .int) 1 := ⟨⟨List.mem_of_getElem? (i := 24) (by decide +kernel), List.mem_of_getElem? (i := 301) (by decide +kernel)⟩, by decide +kernel, by decide +kernel, by decide +kernel⟩
theorem sm_X5_setOf : Cond.static yX5_setOf ∈ lw_tbl := List.mem_of_getElem? (i := 300) (by decide +kernel)
def tb_J6_bitCount_0f7a4 : List (Nat × Instr) := [(0, .iload_n 0), (1, .iload_n 0), (2, .iconst 1), (3, .iushr), (4, .ldc_w 265), (7, .iand), (8, .isub), (9, .istore_n 0), (10, .iload_n 0), (11, .ldc_w 266), (14, .iand), (15, .iload_n 0), (16, .iconst 2), (17, .iushr), (18, .ldc_w 266), (21, .iand), (22, .iadd), (23, .istore_n 0), (24, .iload_n 0), (25, .iload_n 0), (26, .iconst 4), (27, .iushr), (28, .iadd), (29, .ldc_w 267), (32, .iand), (33, .istore_n 0), (34, .iload_n 0), (35, .iload_n 0), (36, .bipush 8), (38, .iushr), (39, .iadd), (40, .istore_n 0), (41, .iload_n 0), (42, .iload_n 0), (43, .bipush 16), (45, .iushr), (46, .iadd), (47, .istore_n 0), (48, .iload_n 0), (49, .bipush 63), (51, .iand), (52, .ireturn)]
theorem tt_J6_bitCount_0f7a4 : az_Tb cJ6_bitCount_0f7a4 tb_J6_bitCount_0f7a4 := az_Tb.of (by decide +kernel)
theorem cw_J6_bitCount_0f7a4 : az_Cw yJ6_bitCount_0f7a4 cJ6_bitCount_0f7a4 1 (some .int) 1 := ⟨⟨List.mem_of_getElem? (i := 30) (by decide +kernel), List.mem_of_getElem? (i := 283) (by decide +kernel)⟩, by decide +kernel, by decide +kernel, by decide +kernel⟩
theorem sm_J6_bitCount_0f7a4 : Cond.static yJ6_bitCount_0f7a4 ∈ lw_tbl := List.mem_of_getElem? (i := 282) (by decide +kernel)
def tb_L_dice : List (Nat × Instr) := [(0, .iload_n 1), (1, .aload_n 0), (2, .arraylength), (3, .if_icmp .ge 9), (6, .aload_n 0), (7, .iload_n 1), (8, .iaload), (9, .goto 22), (12, .ldc 7), (14, .iload_n 1), (15, .sipush 131), (18, .iadd), (19, .imul), (20, .sipush 499), (23, .iload_n 1), (24, .imul), (25, .iload_n 1), (26, .imul), (27, .iadd), (28, .bipush 29), (30, .iadd), (31, .ldc 8), (33, .iand), (34, .ireturn)]
theorem tt_L_dice : az_Tb cL_dice tb_L_dice := az_Tb.of (by decide +kernel)
theorem cw_L_dice : az_Cw yL_dice cL_dice 2 (some .int) 2 := ⟨⟨List.mem_of_getElem? (i := 23) (by decide +kernel), List.mem_of_getElem? (i := 178) (by decide +kernel)⟩, by decide +kernel, by decide +kernel, by decide +kernel⟩
theorem sm_L_dice : Cond.static yL_dice ∈ lw_tbl := List.mem_of_getElem? (i := 177) (by decide +kernel)
def tb_L_come : List (Nat × Instr) := [(0, .aload_n 0), (1, .iload_n 1), (2, .iload_n 2), (3, .invokevirtual 9), (6, .ireturn), (7, .astore_n 3), (8, .ldc 17), (10, .ireturn), (11, .astore_n 3), (12, .ldc 20), (14, .ireturn)]
theorem tt_L_come : az_Tb cL_come tb_L_come := az_Tb.of (by decide +kernel)
theorem sm_L_come : Cond.static yL_come ∈ lw_tbl := List.mem_of_getElem? (i := 676) (by decide +kernel)
theorem cx_L_come : Cond.codeWith yL_come cL_come 4 (some .int) [(0, 6, 7, 15), (0, 6, 11, 18)] ∈ lw_tbl := List.mem_of_getElem? (i := 677) (by decide +kernel)
def tb_L_of : List (Nat × Instr) := [(0, .iload_n 1), (1, .ifCond .ne 11), (4, .aload_n 0), (5, .iload_n 2), (6, .invokevirtual 21), (9, .goto 164), (12, .iload_n 1), (13, .iconst 1), (14, .if_icmp .ne 11), (17, .aload_n 0), (18, .iload_n 2), (19, .invokevirtual 25), (22, .goto 151), (25, .iload_n 1), (26, .iconst 2), (27, .if_icmp .ne 11), (30, .aload_n 0), (31, .iload_n 2), (32, .invokevirtual 28), (35, .goto 138), (38, .iload_n 1), (39, .iconst 3), (40, .if_icmp .ne 12), (43, .aload_n 0), (44, .iload_n 2), (45, .iload_n 3), (46, .invokevirtual 31), (49, .goto 124), (52, .iload_n 1), (53, .iconst 4), (54, .if_icmp .ne 12), (57, .aload_n 0), (58, .iload_n 2), (59, .iload_n 3), (60, .invokevirtual 34), (63, .goto 110), (66, .iload_n 1), (67, .iconst 5), (68, .if_icmp .ne 12), (71, .aload_n 0), (72, .iload_n 2), (73, .iload_n 3), (74, .invokevirtual 37), (77, .goto 96), (80, .iload_n 1), (81, .bipush 6), (83, .if_icmp .ne 12), (86, .aload_n 0), (87, .iload_n 2), (88, .iload_n 3), (89, .invokevirtual 40), (92, .goto 81), (95, .iload_n 1), (96, .bipush 7), (98, .if_icmp .ne 11), (101, .aload_n 0), (102, .iload_n 2), (103, .invokevirtual 43), (106, .goto 67), (109, .iload_n 1), (110, .bipush 8), (112, .if_icmp .ne 12), (115, .aload_n 0), (116, .iload_n 2), (117, .iload_n 3), (118, .invokevirtual 46), (121, .goto 52), (124, .iload_n 1), (125, .bipush 9), (127, .if_icmp .ne 11), (130, .aload_n 0), (131, .iload_n 2), (132, .invokevirtual 49), (135, .goto 38), (138, .iload_n 1), (139, .bipush 10), (141, .if_icmp .ne 12), (144, .aload_n 0), (145, .iload_n 2), (146, .iload_n 3), (147, .invokevirtual 52), (150, .goto 23), (153, .iload_n 1), (154, .bipush 11), (156, .if_icmp .ne 12), (159, .aload_n 0), (160, .iload_n 2), (161, .iload_n 3), (162, .invokevirtual 55), (165, .goto 8), (168, .aload_n 0), (169, .iload_n 2), (170, .invokevirtual 58), (173, .ireturn), (174, .astore 4), (176, .ldc 63), (178, .ireturn), (179, .astore 4), (181, .ldc 17), (183, .ireturn)]
theorem tt_L_of : az_Tb cL_of tb_L_of := az_Tb.of (by decide +kernel)
theorem sm_L_of : Cond.static yL_of ∈ lw_tbl := List.mem_of_getElem? (i := 185) (by decide +kernel)
theorem cx_L_of : Cond.codeWith yL_of cL_of 5 (some .int) [(0, 173, 174, 61), (0, 173, 179, 15)] ∈ lw_tbl := List.mem_of_getElem? (i := 186) (by decide +kernel)
def tb_L_at : List (Nat × Instr) := [(0, .iload_n 1), (1, .ifCond .ne 11), (4, .aload_n 0), (5, .iload_n 2), (6, .invokevirtual 64), (9, .goto 8), (12, .aload_n 0), (13, .iload_n 2), (14, .invokevirtual 67), (17, .ireturn), (18, .astore_n 3), (19, .ldc 72), (21, .ireturn), (22, .astore_n 3), (23, .ldc 17), (25, .ireturn)]
theorem tt_L_at : az_Tb cL_at tb_L_at := az_Tb.of (by decide +kernel)
theorem sm_L_at : Cond.static yL_at ∈ lw_tbl := List.mem_of_getElem? (i := 618) (by decide +kernel)
theorem cx_L_at : Cond.codeWith yL_at cL_at 4 (some .int) [(0, 17, 18, 70), (0, 17, 22, 15)] ∈ lw_tbl := List.mem_of_getElem? (i := 619) (by decide +kernel)
def tb_L_bits : List (Nat × Instr) := [(0, .iconst 0), (1, .istore_n 1), (2, .iconst 0), (3, .istore_n 2), (4, .iload_n 2), (5, .bipush 12), (7, .if_icmp .ge 17), (10, .iload_n 1), (11, .iload_n 0), (12, .iload_n 2), (13, .ishr), (14, .iconst 1), (15, .iand), (16, .iadd), (17, .istore_n 1), (18, .iinc 2 1), (21, .goto (-17)), (24, .iload_n 1), (25, .ireturn)]
theorem tt_L_bits : az_Tb cL_bits tb_L_bits := az_Tb.of (by decide +kernel)
theorem cw_L_bits : az_Cw yL_bits cL_bits 3 (some .int) 1 := ⟨⟨List.mem_of_getElem? (i := 23) (by decide +kernel), List.mem_of_getElem? (i := 553) (by decide +kernel)⟩, by decide +kernel, by decide +kernel, by decide +kernel⟩
theorem sm_L_bits : Cond.static yL_bits ∈ lw_tbl := List.mem_of_getElem? (i := 552) (by decide +kernel)
def tb_L_all : List (Nat × Instr) := [(0, .aload_n 0), (1, .invokevirtual 73), (4, .i2l), (5, .ldc2_w 77), (8, .aload_n 0), (9, .invokevirtual 79), (12, .i2l), (13, .lmul), (14, .ladd), (15, .ldc2_w 82), (18, .aload_n 0), (19, .invokevirtual 84), (22, .i2l), (23, .lmul), (24, .ladd), (25, .ldc2_w 87), (28, .aload_n 0), (29, .invokevirtual 89), (32, .i2l), (33, .lmul), (34, .ladd), (35, .lstore_n 2), (36, .iconst 0), (37, .istore 4), (39, .iload 4), (41, .bipush 12), (43, .if_icmp .ge 48), (46, .ldc2_w 92), (49, .lload_n 2), (50, .lmul), (51, .aload_n 1), (52, .iload 4), (54, .iaload), (55, .ifCond .ge 7), (58, .lconst 0), (59, .goto 24), (62, .lconst 1), (63, .aload_n 0), (64, .iload 4), (66, .invokevirtual 25), (69, .i2l), (70, .ladd), (71, .ldc2_w 94), (74, .aload_n 0), (75, .iload 4), (77, .invokevirtual 43), (80, .i2l), (81, .lmul), (82, .ladd), (83, .ladd), (84, .lstore_n 2), (85, .iinc 4 1), (88, .goto (-49)), (91, .lload_n 2), (92, .lreturn)]
theorem tt_L_all : az_Tb cL_all tb_L_all := az_Tb.of (by decide +kernel)
theorem cw_L_all : az_Cw yL_all cL_all 5 (some .long) 2 := ⟨⟨List.mem_of_getElem? (i := 23) (by decide +kernel), List.mem_of_getElem? (i := 669) (by decide +kernel)⟩, by decide +kernel, by decide +kernel, by decide +kernel⟩
theorem sm_L_all : Cond.static yL_all ∈ lw_tbl := List.mem_of_getElem? (i := 668) (by decide +kernel)
def tb_L_arePapers_0 : List (Nat × Instr) := [(0, .iconst 0), (1, .istore 4), (3, .iconst 0), (4, .istore 5), (6, .iconst 1), (7, .istore 6), (9, .iconst 0), (10, .istore 7), (12, .iload 7), (14, .bipush 12), (16, .if_icmp .ge 183), (19, .iload 6), (21, .ifCond .eq 178), (24, .iconst 0), (25, .istore 8), (27, .iload 4), (29, .aload_n 1), (30, .iload 7), (32, .iaload), (33, .ifCond .ge 7), (36, .iconst 0), (37, .goto 4), (40, .iconst 1), (41, .iadd), (42, .istore 4), (44, .iconst 0), (45, .istore 9), (47, .iload 9), (49, .bipush 12), (51, .if_icmp .ge 42), (54, .iload 8), (56, .aload_n 1), (57, .iload 9), (59, .iaload), (60, .ifCond .le 23), (63, .aload_n 1), (64, .iload 9), (66, .iaload), (67, .iload 7), (69, .ishr), (70, .iconst 1), (71, .iand), (72, .iconst 1), (73, .if_icmp .ne 10), (76, .iconst 1), (77, .iload 9), (79, .ishl), (80, .goto 4), (83, .iconst 0), (84, .ior), (85, .istore 8), (87, .iinc 9 1), (90, .goto (-43)), (93, .aload_n 1), (94, .iload 7), (96, .iaload), (97, .ifCond .ge 38), (100, .aload_n 0), (101, .iconst 1), (102, .iload 7), (104, .iconst 0), (105, .invokestatic 96), (108, .ldc 63), (110, .if_icmp .ne 21), (113, .aload_n 0), (114, .bipush 7), (116, .iload 7), (118, .iconst 0), (119, .invokestatic 96), (122, .ldc 63), (124, .if_icmp .ne 7), (127, .iconst 1), (128, .goto 63), (131, .iconst 0), (132, .goto 59), (135, .aload_n 0), (136, .iload 7), (138, .invokevirtual 25), (141, .aload_n 1), (142, .iload 7), (144, .iaload), (145, .if_icmp .ne 45), (148, .aload_n 0), (149, .iload 7), (151, .invokevirtual 28), (154, .iload 8), (156, .if_icmp .ne 34), (159, .iload 8), (161, .iload 7), (163, .iconst 1), (164, .iadd), (165, .ishr), (166, .iload 7), (168, .iconst 1), (169, .iadd), (170, .ishl), (171, .iload 8), (173, .if_icmp .ne 17), (176, .aload_n 1), (177, .iload 7)]
def tb_L_arePapers_1 : List (Nat × Instr) := [(179, .iaload), (180, .iload 7), (182, .ishr), (183, .ifCond .ne 7), (186, .iconst 1), (187, .goto 4), (190, .iconst 0), (191, .istore 6), (193, .iinc 7 1), (196, .goto (-184)), (199, .iconst 0), (200, .istore 7), (202, .iload 7), (204, .sipush 144), (207, .if_icmp .ge 239), (210, .iload 6), (212, .ifCond .eq 234), (215, .iload 7), (217, .bipush 12), (219, .idiv), (220, .istore 8), (222, .iload 7), (224, .bipush 12), (226, .irem), (227, .istore 9), (229, .iload 8), (231, .iload 9), (233, .if_icmp .ge 207), (236, .aload_n 1), (237, .iload 8), (239, .iaload), (240, .ifCond .lt 200), (243, .aload_n 1), (244, .iload 9), (246, .iaload), (247, .ifCond .lt 193), (250, .aload_n 1), (251, .iload 8), (253, .iaload), (254, .aload_n 1), (255, .iload 9), (257, .iaload), (258, .iand), (259, .invokestatic 102), (262, .istore 10), (264, .aload_n 1), (265, .iload 8), (267, .iaload), (268, .invokestatic 102), (271, .aload_n 1), (272, .iload 9), (274, .iaload), (275, .invokestatic 102), (278, .imul), (279, .istore 11), (281, .aload_n 0), (282, .iload 8), (284, .iload 9), (286, .invokevirtual 37), (289, .istore 12), (291, .aload_n 0), (292, .iload 9), (294, .iload 8), (296, .invokevirtual 40), (299, .istore 13), (301, .iload 5), (303, .iload 10), (305, .aload_n 0), (306, .iload 8), (308, .iload 9), (310, .invokevirtual 34), (313, .iadd), (314, .iadd), (315, .istore 5), (317, .aload_n 0), (318, .iload 8), (320, .iload 9), (322, .invokevirtual 31), (325, .iload 10), (327, .if_icmp .ne 110), (330, .aload_n 0), (331, .iload 9), (333, .iload 8), (335, .invokevirtual 31), (338, .iload 10), (340, .if_icmp .ne 97), (343, .aload_n 0), (344, .iload 8), (346, .iload 9), (348, .invokevirtual 34), (351, .aload_n 0), (352, .iload 8), (354, .invokevirtual 28), (357, .aload_n 0), (358, .iload 9), (360, .invokevirtual 28), (363, .iand), (364, .invokestatic 102), (367, .if_icmp .ne 70), (370, .iload 12)]
def tb_L_arePapers_2 : List (Nat × Instr) := [(372, .ifCond .lt 65), (375, .iload 12), (377, .iload 13), (379, .if_icmp .gt 58), (382, .iload 13), (384, .iconst 1), (385, .if_icmp .lt 52), (388, .iload 11), (390, .ifCond .ne 17), (393, .iload 12), (395, .ifCond .ne 42), (398, .iload 13), (400, .iconst 1), (401, .if_icmp .ne 36), (404, .goto 19), (407, .iload 12), (409, .iload 11), (411, .imul), (412, .iload 10), (414, .iload 10), (416, .imul), (417, .iload 13), (419, .imul), (420, .if_icmp .ne 17), (423, .iload 12), (425, .iload 13), (427, .invokestatic 105), (430, .ifCond .eq 7), (433, .iconst 1), (434, .goto 4), (437, .iconst 0), (438, .istore 6), (440, .iinc 7 1), (443, .goto (-241)), (446, .iload 6), (448, .ifCond .eq 34), (451, .aload_n 0), (452, .invokevirtual 73), (455, .iload 4), (457, .if_icmp .ne 25), (460, .aload_n 0), (461, .invokevirtual 89), (464, .iload 5), (466, .if_icmp .ne 16), (469, .aload_n 0), (470, .invokevirtual 109), (473, .iload 5), (475, .if_icmp .ne 7), (478, .iconst 1), (479, .goto 4), (482, .iconst 0), (483, .ireturn)]
def tb_L_arePapers : List (Nat × Instr) := tb_L_arePapers_0 ++ (tb_L_arePapers_1 ++ (tb_L_arePapers_2))
theorem tt_L_arePapers : az_Tb cL_arePapers tb_L_arePapers := az_Tb.of (by decide +kernel)
theorem cw_L_arePapers : az_Cw yL_arePapers cL_arePapers 14 (some .boolean) 4 := ⟨⟨List.mem_of_getElem? (i := 23) (by decide +kernel), List.mem_of_getElem? (i := 183) (by decide +kernel)⟩, by decide +kernel, by decide +kernel, by decide +kernel⟩
theorem sm_L_arePapers : Cond.static yL_arePapers ∈ lw_tbl := List.mem_of_getElem? (i := 182) (by decide +kernel)
def tb_L_isLowest : List (Nat × Instr) := [(0, .iload_n 0), (1, .istore_n 2), (2, .iload_n 1), (3, .istore_n 3), (4, .iload_n 3), (5, .ifCond .le 16), (8, .iload_n 2), (9, .iload_n 3), (10, .irem), (11, .istore 4), (13, .iload_n 3), (14, .istore_n 2), (15, .iload 4), (17, .istore_n 3), (18, .goto (-14)), (21, .iload_n 2), (22, .iconst 1), (23, .if_icmp .ne 7), (26, .iconst 1), (27, .goto 4), (30, .iconst 0), (31, .ireturn)]
theorem tt_L_isLowest : az_Tb cL_isLowest tb_L_isLowest := az_Tb.of (by decide +kernel)
theorem cw_L_isLowest : az_Cw yL_isLowest cL_isLowest 5 (some .boolean) 2 := ⟨⟨List.mem_of_getElem? (i := 23) (by decide +kernel), List.mem_of_getElem? (i := 556) (by decide +kernel)⟩, by decide +kernel, by decide +kernel, by decide +kernel⟩
theorem sm_L_isLowest : Cond.static yL_isLowest ∈ lw_tbl := List.mem_of_getElem? (i := 555) (by decide +kernel)
def tb_L_areFields_0 : List (Nat × Instr) := [(0, .iconst 0), (1, .istore_n 2), (2, .iconst 0), (3, .istore_n 3), (4, .iconst 1), (5, .istore 4), (7, .iconst 0), (8, .istore 5), (10, .iload 5), (12, .bipush 12), (14, .if_icmp .ge 283), (17, .iload 4), (19, .ifCond .eq 278), (22, .aload_n 1), (23, .iload 5), (25, .iaload), (26, .ifCond .lt 265), (29, .aload_n 0), (30, .iload 5), (32, .invokevirtual 43), (35, .istore 6), (37, .iload_n 2), (38, .iload 6), (40, .iload 5), (42, .if_icmp .ne 7), (45, .iconst 1), (46, .goto 4), (49, .iconst 0), (50, .iadd), (51, .istore_n 2), (52, .iload 6), (54, .ifCond .lt 25), (57, .iload 6), (59, .iload 5), (61, .if_icmp .gt 18), (64, .aload_n 0), (65, .iload 6), (67, .invokevirtual 43), (70, .iload 6), (72, .if_icmp .ne 7), (75, .iconst 1), (76, .goto 4), (79, .iconst 0), (80, .istore 4), (82, .iconst 0), (83, .istore 7), (85, .iload 7), (87, .bipush 12), (89, .if_icmp .ge 141), (92, .iload 4), (94, .ifCond .eq 136), (97, .aload_n 1), (98, .iload 7), (100, .iaload), (101, .ifCond .lt 25), (104, .iload 6), (106, .iload 5), (108, .if_icmp .ne 18), (111, .aload_n 0), (112, .iload 7), (114, .invokevirtual 43), (117, .iload 7), (119, .if_icmp .ne 7), (122, .iconst 1), (123, .goto 4), (126, .iconst 0), (127, .istore 8), (129, .iload 8), (131, .ifCond .eq 16), (134, .aload_n 0), (135, .bipush 8), (137, .iload 5), (139, .iload 7), (141, .invokestatic 96), (144, .goto 4), (147, .iconst 0), (148, .istore 9), (150, .iload 8), (152, .ifCond .eq 40), (155, .iload 7), (157, .iload 5), (159, .if_icmp .ne 13), (162, .iload 9), (164, .ldc 17), (166, .if_icmp .ne 30), (169, .goto 23), (172, .iload 9), (174, .ifCond .gt 22), (177, .iload 9), (179, .aload_n 0), (180, .bipush 8), (182, .iload 7), (184, .iload 5), (186, .invokestatic 96), (189, .if_icmp .ne 7), (192, .iconst 1), (193, .goto 4), (196, .iconst 0), (197, .istore 4), (199, .iload_n 3)]
def tb_L_areFields_1 : List (Nat × Instr) := [(200, .iload 8), (202, .ifCond .eq 19), (205, .iload 7), (207, .iload 5), (209, .if_icmp .eq 12), (212, .iload 9), (214, .ifCond .ge 7), (217, .iconst 1), (218, .goto 4), (221, .iconst 0), (222, .iadd), (223, .istore_n 3), (224, .iinc 7 1), (227, .goto (-142)), (230, .iload 4), (232, .ifCond .eq 56), (235, .iload 6), (237, .iload 5), (239, .if_icmp .ne 16), (242, .aload_n 0), (243, .aload_n 1), (244, .iload 5), (246, .invokestatic 112), (249, .ifCond .eq 39), (252, .goto 32), (255, .aload_n 0), (256, .bipush 8), (258, .iload 5), (260, .iload 6), (262, .invokestatic 96), (265, .ldc 63), (267, .if_icmp .ne 21), (270, .aload_n 0), (271, .bipush 9), (273, .iload 5), (275, .iconst 0), (276, .invokestatic 96), (279, .ldc 63), (281, .if_icmp .ne 7), (284, .iconst 1), (285, .goto 4), (288, .iconst 0), (289, .istore 4), (291, .iinc 5 1), (294, .goto (-284)), (297, .iload 4), (299, .ifCond .eq 21), (302, .aload_n 0), (303, .invokevirtual 79), (306, .iload_n 2), (307, .if_icmp .ne 13), (310, .iload_n 3), (311, .iconst 2), (312, .irem), (313, .ifCond .ne 7), (316, .iconst 1), (317, .goto 4), (320, .iconst 0), (321, .ireturn)]
def tb_L_areFields : List (Nat × Instr) := tb_L_areFields_0 ++ (tb_L_areFields_1)
theorem tt_L_areFields : az_Tb cL_areFields tb_L_areFields := az_Tb.of (by decide +kernel)
theorem cw_L_areFields : az_Cw yL_areFields cL_areFields 10 (some .boolean) 2 := ⟨⟨List.mem_of_getElem? (i := 23) (by decide +kernel), List.mem_of_getElem? (i := 583) (by decide +kernel)⟩, by decide +kernel, by decide +kernel, by decide +kernel⟩
theorem sm_L_areFields : Cond.static yL_areFields ∈ lw_tbl := List.mem_of_getElem? (i := 582) (by decide +kernel)
def tb_L_isSplit : List (Nat × Instr) := [(0, .iconst 0), (1, .istore_n 3), (2, .iconst 0), (3, .istore 4), (5, .iload 4), (7, .bipush 12), (9, .if_icmp .ge 37), (12, .iload_n 3), (13, .aload_n 1), (14, .iload 4), (16, .iaload), (17, .ifCond .lt 20), (20, .aload_n 0), (21, .iload 4), (23, .invokevirtual 43), (26, .iload_n 2), (27, .if_icmp .ne 10), (30, .iconst 1), (31, .iload 4), (33, .ishl), (34, .goto 4), (37, .iconst 0), (38, .ior), (39, .istore_n 3), (40, .iinc 4 1), (43, .goto (-38)), (46, .aload_n 0), (47, .iload_n 2), (48, .invokevirtual 49), (51, .istore 4), (53, .iload 4), (55, .ifCond .eq 28), (58, .iload 4), (60, .iload_n 3), (61, .iconst (-1)), (62, .ixor), (63, .iand), (64, .ifCond .ne 23), (67, .iload 4), (69, .iload_n 3), (70, .if_icmp .eq 17), (73, .iload 4), (75, .iload_n 2), (76, .ishr), (77, .iconst 1), (78, .iand), (79, .iconst 1), (80, .if_icmp .ne 7), (83, .iconst 1), (84, .goto 4), (87, .iconst 0), (88, .ireturn)]
theorem tt_L_isSplit : az_Tb cL_isSplit tb_L_isSplit := az_Tb.of (by decide +kernel)
theorem cw_L_isSplit : az_Cw yL_isSplit cL_isSplit 5 (some .boolean) 3 := ⟨⟨List.mem_of_getElem? (i := 23) (by decide +kernel), List.mem_of_getElem? (i := 586) (by decide +kernel)⟩, by decide +kernel, by decide +kernel, by decide +kernel⟩
theorem sm_L_isSplit : Cond.static yL_isSplit ∈ lw_tbl := List.mem_of_getElem? (i := 585) (by decide +kernel)
def tb_L_areWays_0 : List (Nat × Instr) := [(0, .iconst 0), (1, .istore_n 2), (2, .iconst 0), (3, .istore_n 3), (4, .iconst 1), (5, .istore 4), (7, .iconst 0), (8, .istore 5), (10, .iload 5), (12, .bipush 12), (14, .if_icmp .ge 290), (17, .iload 4), (19, .ifCond .eq 285), (22, .aload_n 1), (23, .iload 5), (25, .iaload), (26, .ifCond .lt 272), (29, .iconst 0), (30, .istore 6), (32, .iconst 0), (33, .istore 7), (35, .iconst 0), (36, .istore 8), (38, .iload 8), (40, .bipush 12), (42, .if_icmp .ge 120), (45, .iload 4), (47, .ifCond .eq 115), (50, .aload_n 1), (51, .iload 8), (53, .iaload), (54, .ifCond .le 20), (57, .aload_n 1), (58, .iload 8), (60, .iaload), (61, .iload 5), (63, .ishr), (64, .iconst 1), (65, .iand), (66, .iconst 1), (67, .if_icmp .ne 7), (70, .iconst 1), (71, .goto 4), (74, .iconst 0), (75, .istore 9), (77, .iload 6), (79, .aload_n 1), (80, .iload 5), (82, .iaload), (83, .iload 8), (85, .ishr), (86, .iconst 1), (87, .iand), (88, .iconst 1), (89, .if_icmp .ne 14), (92, .aload_n 0), (93, .iload 5), (95, .iload 8), (97, .invokevirtual 52), (100, .goto 4), (103, .iconst 0), (104, .iadd), (105, .istore 6), (107, .iload 7), (109, .iload 9), (111, .ifCond .eq 14), (114, .aload_n 0), (115, .iload 8), (117, .iload 5), (119, .invokevirtual 52), (122, .goto 4), (125, .iconst 0), (126, .iadd), (127, .istore 7), (129, .iload 9), (131, .ifCond .ne 18), (134, .aload_n 0), (135, .bipush 10), (137, .iload 8), (139, .iload 5), (141, .invokestatic 96), (144, .ldc 63), (146, .if_icmp .ne 7), (149, .iconst 1), (150, .goto 4), (153, .iconst 0), (154, .istore 4), (156, .iinc 8 1), (159, .goto (-121)), (162, .aload_n 1), (163, .iload 5), (165, .iaload), (166, .ifCond .ne 16), (169, .aload_n 0), (170, .iload 5), (172, .invokevirtual 28), (175, .ifCond .ne 7), (178, .iconst 1), (179, .goto 4), (182, .iconst 0)]
def tb_L_areWays_1 : List (Nat × Instr) := [(183, .istore 8), (185, .iload_n 2), (186, .iload 8), (188, .ifCond .eq 7), (191, .iconst 1), (192, .goto 16), (195, .aload_n 1), (196, .iload 5), (198, .iaload), (199, .ifCond .ne 8), (202, .iload 7), (204, .goto 4), (207, .iconst 0), (208, .iadd), (209, .istore_n 2), (210, .iload_n 3), (211, .iload 8), (213, .ifCond .eq 7), (216, .iconst 1), (217, .goto 18), (220, .aload_n 0), (221, .iload 5), (223, .invokevirtual 28), (226, .ifCond .ne 8), (229, .iload 6), (231, .goto 4), (234, .iconst 0), (235, .iadd), (236, .istore_n 3), (237, .iload 4), (239, .ifCond .eq 56), (242, .aload_n 1), (243, .iload 5), (245, .iaload), (246, .ifCond .eq 19), (249, .aload_n 0), (250, .iload 5), (252, .invokevirtual 28), (255, .ifCond .eq 10), (258, .iload 6), (260, .iload 7), (262, .if_icmp .ne 33), (265, .aload_n 1), (266, .iload 5), (268, .iaload), (269, .ifCond .eq 8), (272, .iload 6), (274, .ifCond .le 21), (277, .aload_n 0), (278, .iload 5), (280, .invokevirtual 28), (283, .ifCond .eq 8), (286, .iload 7), (288, .ifCond .le 7), (291, .iconst 1), (292, .goto 4), (295, .iconst 0), (296, .istore 4), (298, .iinc 5 1), (301, .goto (-291)), (304, .iload 4), (306, .ifCond .eq 23), (309, .aload_n 0), (310, .invokevirtual 84), (313, .iload_n 2), (314, .if_icmp .ne 15), (317, .aload_n 0), (318, .invokevirtual 84), (321, .iload_n 3), (322, .if_icmp .ne 7), (325, .iconst 1), (326, .goto 4), (329, .iconst 0), (330, .ireturn)]
def tb_L_areWays : List (Nat × Instr) := tb_L_areWays_0 ++ (tb_L_areWays_1)
theorem tt_L_areWays : az_Tb cL_areWays tb_L_areWays := az_Tb.of (by decide +kernel)
theorem cw_L_areWays : az_Cw yL_areWays cL_areWays 10 (some .boolean) 2 := ⟨⟨List.mem_of_getElem? (i := 23) (by decide +kernel), List.mem_of_getElem? (i := 597) (by decide +kernel)⟩, by decide +kernel, by decide +kernel, by decide +kernel⟩
theorem sm_L_areWays : Cond.static yL_areWays ∈ lw_tbl := List.mem_of_getElem? (i := 596) (by decide +kernel)
def tb_L_isMain : List (Nat × Instr) := [(0, .aload_n 0), (1, .invokevirtual 116), (4, .istore_n 2), (5, .lconst 0), (6, .lstore_n 3), (7, .iconst (-1)), (8, .istore 5), (10, .aload_n 0), (11, .iconst 0), (12, .iload_n 2), (13, .invokestatic 119), (16, .ldc 72), (18, .if_icmp .ne 42), (21, .aload_n 0), (22, .iconst 0), (23, .iconst (-1)), (24, .invokestatic 119), (27, .ldc 72), (29, .if_icmp .ne 31), (32, .iload_n 2), (33, .ifCond .ne 7), (36, .iconst 1), (37, .goto 4), (40, .iconst 0), (41, .aload_n 0), (42, .invokevirtual 73), (45, .ifCond .ne 7), (48, .iconst 1), (49, .goto 4), (52, .iconst 0), (53, .if_icmp .ne 7), (56, .iconst 1), (57, .goto 4), (60, .iconst 0), (61, .istore 6), (63, .iconst 0), (64, .istore 7), (66, .iload 7), (68, .iload_n 2), (69, .if_icmp .ge 101), (72, .iload 6), (74, .ifCond .eq 96), (77, .aload_n 0), (78, .iload 7), (80, .invokevirtual 64), (83, .istore 8), (85, .iload 8), (87, .iload 5), (89, .if_icmp .le 42), (92, .aload_n 1), (93, .iload 8), (95, .iaload), (96, .ifCond .lt 35), (99, .iload 5), (101, .ifCond .ge 13), (104, .aload_n 1), (105, .iload 8), (107, .iaload), (108, .ifCond .ne 23), (111, .goto 16), (114, .aload_n 1), (115, .iload 8), (117, .iaload), (118, .iload 5), (120, .ishr), (121, .iconst 1), (122, .iand), (123, .iconst 1), (124, .if_icmp .ne 7), (127, .iconst 1), (128, .goto 4), (131, .iconst 0), (132, .istore 6), (134, .lload_n 3), (135, .iload 6), (137, .ifCond .eq 20), (140, .iload 5), (142, .ifCond .lt 15), (145, .aload_n 0), (146, .iload 8), (148, .iload 5), (150, .invokevirtual 52), (153, .i2l), (154, .goto 4), (157, .lconst 0), (158, .ladd), (159, .lstore_n 3), (160, .iload 8), (162, .istore 5), (164, .iinc 7 1), (167, .goto (-101)), (170, .iload 6), (172, .ifCond .eq 29), (175, .aload_n 0), (176, .invokevirtual 123), (179, .lload_n 3), (180, .lcmp), (181, .ifCond .ne 20), (184, .iload_n 2), (185, .ifCond .eq 12), (188, .aload_n 0), (189, .iload 5), (191, .invokevirtual 28), (194, .ifCond .ne 7), (197, .iconst 1), (198, .goto 4), (201, .iconst 0), (202, .ireturn)]
theorem tt_L_isMain : az_Tb cL_isMain tb_L_isMain := az_Tb.of (by decide +kernel)
theorem cw_L_isMain : az_Cw yL_isMain cL_isMain 9 (some .boolean) 2 := ⟨⟨List.mem_of_getElem? (i := 23) (by decide +kernel), List.mem_of_getElem? (i := 608) (by decide +kernel)⟩, by decide +kernel, by decide +kernel, by decide +kernel⟩
theorem sm_L_isMain : Cond.static yL_isMain ∈ lw_tbl := List.mem_of_getElem? (i := 607) (by decide +kernel)
def tb_L_isLess_0 : List (Nat × Instr) := [(0, .iconst (-1)), (1, .istore_n 3), (2, .iconst 0), (3, .istore 4), (5, .iload 4), (7, .bipush 12), (9, .if_icmp .ge 36), (12, .iload 4), (14, .iload_n 2), (15, .iadd), (16, .bipush 12), (18, .irem), (19, .istore 5), (21, .aload_n 1), (22, .iload 5), (24, .iaload), (25, .ifCond .ne 12), (28, .iload_n 3), (29, .ifCond .ge 8), (32, .iload 5), (34, .goto 4), (37, .iload_n 3), (38, .istore_n 3), (39, .iinc 4 1), (42, .goto (-37)), (45, .lconst 0), (46, .lstore 4), (48, .iload_n 3), (49, .istore 6), (51, .iconst 0), (52, .istore 7), (54, .iconst 0), (55, .istore 8), (57, .iload 6), (59, .ifCond .lt 131), (62, .aload_n 0), (63, .iload 6), (65, .invokevirtual 28), (68, .ifCond .eq 122), (71, .iconst (-1)), (72, .istore 9), (74, .iload 8), (76, .ifCond .ne 24), (79, .iload 7), (81, .aload_n 0), (82, .invokevirtual 116), (85, .if_icmp .ge 15), (88, .iload 6), (90, .aload_n 0), (91, .iload 7), (93, .invokevirtual 64), (96, .isub), (97, .goto 5), (100, .iload 8), (102, .istore 8), (104, .iconst 0), (105, .istore 10), (107, .iload 10), (109, .bipush 12), (111, .if_icmp .ge 55), (114, .iload 10), (116, .iload_n 2), (117, .bipush 12), (119, .idiv), (120, .iadd), (121, .iconst 5), (122, .iload 7), (124, .imul), (125, .iadd), (126, .bipush 12), (128, .irem), (129, .istore 11), (131, .aload_n 0), (132, .iload 6), (134, .invokevirtual 28), (137, .iload 11), (139, .ishr), (140, .iconst 1), (141, .iand), (142, .iconst 1), (143, .if_icmp .ne 13), (146, .iload 9), (148, .ifCond .ge 8), (151, .iload 11), (153, .goto 5), (156, .iload 9), (158, .istore 9), (160, .iinc 10 1), (163, .goto (-56)), (166, .lload 4), (168, .aload_n 0), (169, .iload 9), (171, .iload 6), (173, .invokevirtual 52), (176, .i2l), (177, .ladd), (178, .lstore 4), (180, .iload 9), (182, .istore 6), (184, .iinc 7 1)]
def tb_L_isLess_1 : List (Nat × Instr) := [(187, .goto (-130)), (190, .iload 8), (192, .ifCond .ne 29), (195, .iload 6), (197, .ifCond .lt 24), (200, .iload 7), (202, .aload_n 0), (203, .invokevirtual 116), (206, .if_icmp .ge 15), (209, .iload 6), (211, .aload_n 0), (212, .iload 7), (214, .invokevirtual 64), (217, .isub), (218, .goto 5), (221, .iload 8), (223, .istore 8), (225, .iload 6), (227, .ifCond .lt 28), (230, .lload 4), (232, .aload_n 0), (233, .invokevirtual 123), (236, .lcmp), (237, .ifCond .lt 18), (240, .lload 4), (242, .aload_n 0), (243, .invokevirtual 123), (246, .lcmp), (247, .ifCond .ne 12), (250, .iload 8), (252, .ifCond .lt 7), (255, .iconst 1), (256, .goto 4), (259, .iconst 0), (260, .ireturn)]
def tb_L_isLess : List (Nat × Instr) := tb_L_isLess_0 ++ (tb_L_isLess_1)
theorem tt_L_isLess : az_Tb cL_isLess tb_L_isLess := az_Tb.of (by decide +kernel)
theorem cw_L_isLess : az_Cw yL_isLess cL_isLess 12 (some .boolean) 3 := ⟨⟨List.mem_of_getElem? (i := 23) (by decide +kernel), List.mem_of_getElem? (i := 660) (by decide +kernel)⟩, by decide +kernel, by decide +kernel, by decide +kernel⟩
theorem sm_L_isLess : Cond.static yL_isLess ∈ lw_tbl := List.mem_of_getElem? (i := 659) (by decide +kernel)
def tb_L_areRises_0 : List (Nat × Instr) := [(0, .aload_n 0), (1, .iload_n 3), (2, .invokevirtual 67), (5, .istore 4), (7, .iload 4), (9, .ifCond .ge 7), (12, .iconst 1), (13, .goto 4), (16, .iconst 0), (17, .aload_n 0), (18, .invokevirtual 73), (21, .ifCond .ne 7), (24, .iconst 1), (25, .goto 4), (28, .iconst 0), (29, .if_icmp .ne 7), (32, .iconst 1), (33, .goto 4), (36, .iconst 0), (37, .istore 5), (39, .iconst 0), (40, .istore 6), (42, .iload 6), (44, .bipush 12), (46, .if_icmp .ge 304), (49, .iload 5), (51, .ifCond .eq 299), (54, .aload_n 1), (55, .iload 6), (57, .iaload), (58, .ifCond .lt 286), (61, .iconst 0), (62, .istore 7), (64, .iconst 0), (65, .istore 8), (67, .iload 8), (69, .bipush 12), (71, .if_icmp .ge 78), (74, .aload_n 1), (75, .iload 8), (77, .iaload), (78, .ifCond .le 20), (81, .aload_n 1), (82, .iload 8), (84, .iaload), (85, .iload 6), (87, .ishr), (88, .iconst 1), (89, .iand), (90, .iconst 1), (91, .if_icmp .ne 7), (94, .iconst 1), (95, .goto 4), (98, .iconst 0), (99, .istore 9), (101, .iload 7), (103, .iload 9), (105, .ifCond .eq 15), (108, .aload_n 2), (109, .iload 8), (111, .iaload), (112, .iload_n 3), (113, .if_icmp .ne 7), (116, .iconst 1), (117, .goto 23), (120, .iload 9), (122, .ifCond .eq 17), (125, .aload_n 2), (126, .iload 8), (128, .iaload), (129, .iload_n 3), (130, .iconst 1), (131, .isub), (132, .if_icmp .ne 7), (135, .iconst (-1)), (136, .goto 4), (139, .iconst 0), (140, .iadd), (141, .istore 7), (143, .iinc 8 1), (146, .goto (-79)), (149, .aload_n 0), (150, .iload 6), (152, .invokevirtual 58), (155, .istore 8), (157, .aload_n 0), (158, .iload 6), (160, .iload_n 3), (161, .invokevirtual 55), (164, .iload 7), (166, .if_icmp .ne 70), (169, .iload 7), (171, .aload_n 0), (172, .iload 4), (174, .iload_n 3), (175, .invokevirtual 55), (178, .if_icmp .lt 22), (181, .iload 7), (183, .aload_n 0), (184, .iload 4)]
def tb_L_areRises_1 : List (Nat × Instr) := [(186, .iload_n 3), (187, .invokevirtual 55), (190, .if_icmp .ne 46), (193, .iload 4), (195, .iload 6), (197, .if_icmp .gt 39), (200, .iload 8), (202, .ifCond .ge 15), (205, .aload_n 0), (206, .iload 6), (208, .invokevirtual 28), (211, .ifCond .ne 25), (214, .goto 18), (217, .aload_n 0), (218, .iload 6), (220, .invokevirtual 28), (223, .iload 8), (225, .ishr), (226, .iconst 1), (227, .iand), (228, .iconst 1), (229, .if_icmp .ne 7), (232, .iconst 1), (233, .goto 4), (236, .iconst 0), (237, .istore 5), (239, .iconst 0), (240, .istore 9), (242, .iload 9), (244, .bipush 12), (246, .if_icmp .ge 98), (249, .iload 5), (251, .ifCond .eq 93), (254, .iload 8), (256, .ifCond .lt 88), (259, .aload_n 0), (260, .iload 6), (262, .invokevirtual 28), (265, .iload 9), (267, .ishr), (268, .iconst 1), (269, .iand), (270, .iconst 1), (271, .if_icmp .ne 7), (274, .iconst 1), (275, .goto 4), (278, .iconst 0), (279, .istore 10), (281, .iload 10), (283, .ifCond .eq 48), (286, .aload_n 0), (287, .iload 6), (289, .iload 9), (291, .invokevirtual 31), (294, .aload_n 0), (295, .iload 6), (297, .iload 8), (299, .invokevirtual 31), (302, .if_icmp .lt 29), (305, .aload_n 0), (306, .iload 6), (308, .iload 9), (310, .invokevirtual 31), (313, .aload_n 0), (314, .iload 6), (316, .iload 8), (318, .invokevirtual 31), (321, .if_icmp .ne 14), (324, .iload 8), (326, .iload 9), (328, .if_icmp .gt 7), (331, .iconst 1), (332, .goto 4), (335, .iconst 0), (336, .istore 5), (338, .iinc 9 1), (341, .goto (-99)), (344, .iinc 6 1), (347, .goto (-305)), (350, .iload 5), (352, .ireturn)]
def tb_L_areRises : List (Nat × Instr) := tb_L_areRises_0 ++ (tb_L_areRises_1)
theorem tt_L_areRises : az_Tb cL_areRises tb_L_areRises := az_Tb.of (by decide +kernel)
theorem cw_L_areRises : az_Cw yL_areRises cL_areRises 11 (some .boolean) 4 := ⟨⟨List.mem_of_getElem? (i := 23) (by decide +kernel), List.mem_of_getElem? (i := 663) (by decide +kernel)⟩, by decide +kernel, by decide +kernel, by decide +kernel⟩
theorem sm_L_areRises : Cond.static yL_areRises ∈ lw_tbl := List.mem_of_getElem? (i := 662) (by decide +kernel)
def tb_L_isRefused_0 : List (Nat × Instr) := [(0, .iload 4), (2, .iconst 2), (3, .irem), (4, .ifCond .ne 7), (7, .iconst 1), (8, .goto 4), (11, .iconst 0), (12, .istore 5), (14, .iconst 0), (15, .istore 6), (17, .aload_n 3), (18, .iconst 0), (19, .iaload), (20, .ifCond .ne 7), (23, .iconst 0), (24, .goto 10), (27, .aload_n 2), (28, .aload_n 3), (29, .iconst 0), (30, .iaload), (31, .iconst 1), (32, .isub), (33, .iaload), (34, .istore 7), (36, .iconst 0), (37, .istore 8), (39, .iload 8), (41, .bipush 12), (43, .if_icmp .ge 29), (46, .iload 6), (48, .aload_n 1), (49, .iload 8), (51, .iaload), (52, .ifCond .ge 7), (55, .iconst 0), (56, .goto 7), (59, .iconst 1), (60, .iload 8), (62, .ishl), (63, .ior), (64, .istore 6), (66, .iinc 8 1), (69, .goto (-30)), (72, .aload_n 0), (73, .aload_n 1), (74, .invokestatic 127), (77, .lstore 8), (79, .aload_n 0), (80, .iload 5), (82, .ifCond .eq 16), (85, .iload 7), (87, .iconst 1), (88, .isub), (89, .iload 4), (91, .bipush 30), (93, .irem), (94, .isub), (95, .goto 11), (98, .bipush 100), (100, .iload 4), (102, .bipush 30), (104, .irem), (105, .iadd), (106, .iconst 0), (107, .invokestatic 131), (110, .ldc 17), (112, .if_icmp .ne 97), (115, .aload_n 0), (116, .bipush 99), (118, .iload 6), (120, .iconst (-1)), (121, .ixor), (122, .invokestatic 131), (125, .ldc 17), (127, .if_icmp .ne 82), (130, .aload_n 0), (131, .bipush 99), (133, .iconst 1), (134, .bipush 12), (136, .iload 4), (138, .bipush 19), (140, .irem), (141, .iadd), (142, .ishl), (143, .invokestatic 131), (146, .ldc 17), (148, .if_icmp .ne 61), (151, .aload_n 3), (152, .iconst 0), (153, .iaload), (154, .bipush 12), (156, .if_icmp .lt 16), (159, .aload_n 0), (160, .bipush 99), (162, .iload 6), (164, .invokestatic 131), (167, .ldc 20), (169, .if_icmp .ne 40), (172, .aload_n 0), (173, .iconst 1)]
def tb_L_isRefused_1 : List (Nat × Instr) := [(174, .iload 5), (176, .ifCond .eq 13), (179, .iconst (-1)), (180, .iload 4), (182, .bipush 30), (184, .irem), (185, .isub), (186, .goto 11), (189, .bipush 100), (191, .iload 4), (193, .bipush 30), (195, .irem), (196, .iadd), (197, .invokestatic 119), (200, .ldc 17), (202, .if_icmp .ne 7), (205, .iconst 1), (206, .goto 4), (209, .iconst 0), (210, .istore 10), (212, .iconst 0), (213, .istore 11), (215, .iload 11), (217, .bipush 13), (219, .if_icmp .ge 57), (222, .iload 10), (224, .ifCond .eq 52), (227, .aload_n 0), (228, .iload 11), (230, .iload 5), (232, .ifCond .eq 13), (235, .iconst (-1)), (236, .iload 4), (238, .bipush 30), (240, .irem), (241, .isub), (242, .goto 11), (245, .bipush 12), (247, .iload 4), (249, .bipush 30), (251, .irem), (252, .iadd), (253, .bipush (-5)), (255, .invokestatic 96), (258, .ldc 63), (260, .if_icmp .ne 7), (263, .iconst 1), (264, .goto 4), (267, .iconst 0), (268, .istore 10), (270, .iinc 11 1), (273, .goto (-58)), (276, .iconst 0), (277, .istore 11), (279, .iload 11), (281, .bipush 12), (283, .if_icmp .ge 135), (286, .iload 10), (288, .ifCond .eq 130), (291, .aload_n 1), (292, .iload 11), (294, .iaload), (295, .ifCond .ge 38), (298, .aload_n 0), (299, .iconst 0), (300, .iload 11), (302, .iconst 0), (303, .invokestatic 96), (306, .ldc 63), (308, .if_icmp .ne 21), (311, .aload_n 0), (312, .bipush 12), (314, .iload 11), (316, .iconst 0), (317, .invokestatic 96), (320, .ldc 63), (322, .if_icmp .ne 7), (325, .iconst 1), (326, .goto 84), (329, .iconst 0), (330, .goto 80), (333, .aload_n 0), (334, .bipush 11), (336, .iload 11), (338, .iload 5), (340, .ifCond .eq 7), (343, .iconst (-1)), (344, .goto 5), (347, .bipush 100), (349, .invokestatic 96), (352, .ldc 17), (354, .if_icmp .ne 55), (357, .aload_n 0), (358, .iconst 3), (359, .iload 11), (361, .bipush 12), (363, .iload 4), (365, .bipush 30), (367, .irem), (368, .iadd)]
def tb_L_isRefused_2 : List (Nat × Instr) := [(369, .invokestatic 96), (372, .ldc 63), (374, .if_icmp .ne 35), (377, .aload_n 0), (378, .iconst 5), (379, .iconst (-1)), (380, .iload 11), (382, .invokestatic 96), (385, .ldc 63), (387, .if_icmp .ne 22), (390, .aload_n 0), (391, .bipush 10), (393, .iload 11), (395, .iload 11), (397, .invokestatic 96), (400, .ldc 63), (402, .if_icmp .ne 7), (405, .iconst 1), (406, .goto 4), (409, .iconst 0), (410, .istore 10), (412, .iinc 11 1), (415, .goto (-136)), (418, .iload 10), (420, .ifCond .eq 18), (423, .aload_n 0), (424, .aload_n 1), (425, .invokestatic 127), (428, .lload 8), (430, .lcmp), (431, .ifCond .ne 7), (434, .iconst 1), (435, .goto 4), (438, .iconst 0), (439, .ireturn)]
def tb_L_isRefused : List (Nat × Instr) := tb_L_isRefused_0 ++ (tb_L_isRefused_1 ++ (tb_L_isRefused_2))
theorem tt_L_isRefused : az_Tb cL_isRefused tb_L_isRefused := az_Tb.of (by decide +kernel)
theorem cw_L_isRefused : az_Cw yL_isRefused cL_isRefused 12 (some .boolean) 5 := ⟨⟨List.mem_of_getElem? (i := 23) (by decide +kernel), List.mem_of_getElem? (i := 666) (by decide +kernel)⟩, by decide +kernel, by decide +kernel, by decide +kernel⟩
theorem sm_L_isRefused : Cond.static yL_isRefused ∈ lw_tbl := List.mem_of_getElem? (i := 665) (by decide +kernel)
def tb_L_isCome : List (Nat × Instr) := [(0, .aload_n 0), (1, .invokevirtual 89), (4, .istore 6), (6, .aload_n 0), (7, .iload 4), (9, .iload 5), (11, .invokestatic 131), (14, .istore 7), (16, .aload_n 3), (17, .iconst 0), (18, .iaload), (19, .bipush 12), (21, .if_icmp .ne 25), (24, .iload 7), (26, .ldc 20), (28, .if_icmp .ne 16), (31, .aload_n 0), (32, .invokevirtual 89), (35, .iload 6), (37, .if_icmp .ne 7), (40, .iconst 1), (41, .goto 4), (44, .iconst 0), (45, .ireturn), (46, .iconst 0), (47, .istore 8), (49, .iconst 0), (50, .istore 9), (52, .iload 9), (54, .bipush 12), (56, .if_icmp .ge 35), (59, .iload 8), (61, .aload_n 1), (62, .iload 9), (64, .iaload), (65, .ifCond .ge 7), (68, .iconst 0), (69, .goto 13), (72, .aload_n 1), (73, .iload 9), (75, .iaload), (76, .iload 5), (78, .iand), (79, .invokestatic 102), (82, .iadd), (83, .istore 8), (85, .iinc 9 1), (88, .goto (-36)), (91, .aload_n 1), (92, .aload_n 3), (93, .iconst 0), (94, .iaload), (95, .iload 5), (97, .iastore), (98, .aload_n 2), (99, .aload_n 3), (100, .iconst 0), (101, .iaload), (102, .iload 4), (104, .iastore), (105, .aload_n 3), (106, .iconst 0), (107, .dup2), (108, .iaload), (109, .iconst 1), (110, .iadd), (111, .iastore), (112, .iload 5), (114, .invokestatic 102), (117, .istore 9), (119, .iload 7), (121, .aload_n 3), (122, .iconst 0), (123, .iaload), (124, .iconst 1), (125, .isub), (126, .if_icmp .ne 29), (129, .aload_n 0), (130, .invokevirtual 89), (133, .iload 6), (135, .iload 8), (137, .iadd), (138, .iload 9), (140, .iload 9), (142, .iconst 1), (143, .isub), (144, .imul), (145, .iconst 2), (146, .idiv), (147, .iadd), (148, .if_icmp .ne 7), (151, .iconst 1), (152, .goto 4), (155, .iconst 0), (156, .ireturn)]
theorem tt_L_isCome : az_Tb cL_isCome tb_L_isCome := az_Tb.of (by decide +kernel)
theorem cw_L_isCome : az_Cw yL_isCome cL_isCome 10 (some .boolean) 6 := ⟨⟨List.mem_of_getElem? (i := 23) (by decide +kernel), List.mem_of_getElem? (i := 723) (by decide +kernel)⟩, by decide +kernel, by decide +kernel, by decide +kernel⟩
theorem sm_L_isCome : Cond.static yL_isCome ∈ lw_tbl := List.mem_of_getElem? (i := 722) (by decide +kernel)
def tb_L_isGone : List (Nat × Instr) := [(0, .aload_n 1), (1, .iload_n 2), (2, .iaload), (3, .istore_n 3), (4, .iload_n 3), (5, .ifCond .ge 7), (8, .iconst 0), (9, .goto 8), (12, .aload_n 0), (13, .iload_n 2), (14, .invokevirtual 28), (17, .istore 4), (19, .aload_n 0), (20, .iconst 0), (21, .iload_n 2), (22, .iconst 0), (23, .invokestatic 96), (26, .istore 5), (28, .iload_n 3), (29, .ifCond .ge 16), (32, .iload 5), (34, .ldc 63), (36, .if_icmp .ne 7), (39, .iconst 1), (40, .goto 4), (43, .iconst 0), (44, .ireturn), (45, .aload_n 1), (46, .iload_n 2), (47, .iconst (-1)), (48, .iastore), (49, .iconst 0), (50, .istore 6), (52, .iload 6), (54, .bipush 12), (56, .if_icmp .ge 34), (59, .aload_n 1), (60, .iload 6), (62, .aload_n 1), (63, .iload 6), (65, .iaload), (66, .ifCond .ge 7), (69, .iconst (-1)), (70, .goto 13), (73, .aload_n 1), (74, .iload 6), (76, .iaload), (77, .iconst 1), (78, .iload_n 2), (79, .ishl), (80, .iconst (-1)), (81, .ixor), (82, .iand), (83, .iastore), (84, .iinc 6 1), (87, .goto (-35)), (90, .iload 5), (92, .iload 4), (94, .invokestatic 102), (97, .if_icmp .ne 7), (100, .iconst 1), (101, .goto 4), (104, .iconst 0), (105, .ireturn)]
theorem tt_L_isGone : az_Tb cL_isGone tb_L_isGone := az_Tb.of (by decide +kernel)
theorem cw_L_isGone : az_Cw yL_isGone cL_isGone 7 (some .boolean) 3 := ⟨⟨List.mem_of_getElem? (i := 23) (by decide +kernel), List.mem_of_getElem? (i := 726) (by decide +kernel)⟩, by decide +kernel, by decide +kernel, by decide +kernel⟩
theorem sm_L_isGone : Cond.static yL_isGone ∈ lw_tbl := List.mem_of_getElem? (i := 725) (by decide +kernel)
theorem lk_X5_30 : Cond.methodLink RX5 30 yX3_takesYear ∈ lw_tbl := List.mem_of_getElem? (i := 683) (by decide +kernel)
theorem lk_X5_41 : Cond.methodLink RX5 41 yX3_hasAll ∈ lw_tbl := List.mem_of_getElem? (i := 687) (by decide +kernel)
theorem lk_X5_46 : Cond.methodLink RX5 46 yX3_isFull ∈ lw_tbl := List.mem_of_getElem? (i := 692) (by decide +kernel)
theorem lk_X5_55 : Cond.methodLink RX5 55 yX3_put ∈ lw_tbl := List.mem_of_getElem? (i := 712) (by decide +kernel)
theorem lk_X5_59 : Cond.methodLink RX5 59 yX5_mapAnew ∈ lw_tbl := List.mem_of_getElem? (i := 322) (by decide +kernel)
theorem lk_X5_62 : Cond.methodLink RX5 62 yX5_requirePaper ∈ lw_tbl := List.mem_of_getElem? (i := 193) (by decide +kernel)
theorem lk_X5_66 : Cond.methodLink RX5 66 yX3_citersOf ∈ lw_tbl := List.mem_of_getElem? (i := 273) (by decide +kernel)
theorem lk_X5_70 : Cond.methodLink RX5 70 yJ6_bitCount_0f7a4 ∈ lw_tbl := List.mem_of_getElem? (i := 281) (by decide +kernel)
theorem lk_X5_75 : Cond.methodLink RX5 75 yX3_take ∈ lw_tbl := List.mem_of_getElem? (i := 287) (by decide +kernel)
theorem lk_X5_78 : Cond.methodLink RX5 78 yX3_allThere ∈ lw_tbl := List.mem_of_getElem? (i := 561) (by decide +kernel)
theorem lk_X5_82 : Cond.methodLink RX5 82 yX3_referredBy ∈ lw_tbl := List.mem_of_getElem? (i := 443) (by decide +kernel)
theorem lk_X5_85 : Cond.methodLink RX5 85 yX3_sharedOf ∈ lw_tbl := List.mem_of_getElem? (i := 452) (by decide +kernel)
theorem lk_X5_88 : Cond.methodLink RX5 88 yX3_jointOf ∈ lw_tbl := List.mem_of_getElem? (i := 460) (by decide +kernel)
theorem lk_X5_91 : Cond.methodLink RX5 91 yX3_weightsFromReferences ∈ lw_tbl := List.mem_of_getElem? (i := 571) (by decide +kernel)
theorem lk_X5_94 : Cond.methodLink RX5 94 yX3_weightsKept ∈ lw_tbl := List.mem_of_getElem? (i := 566) (by decide +kernel)
theorem lk_X5_97 : Cond.methodLink RX5 97 yX5_referencePairs ∈ lw_tbl := List.mem_of_getElem? (i := 468) (by decide +kernel)
theorem lk_X5_100 : Cond.methodLink RX5 100 yX5_lowestTerm ∈ lw_tbl := List.mem_of_getElem? (i := 472) (by decide +kernel)
theorem lk_X5_104 : Cond.methodLink RX5 104 yX0_groupOf ∈ lw_tbl := List.mem_of_getElem? (i := 483) (by decide +kernel)
theorem lk_X5_107 : Cond.methodLink RX5 107 yX0_allGroups ∈ lw_tbl := List.mem_of_getElem? (i := 591) (by decide +kernel)
theorem lk_X5_110 : Cond.methodLink RX5 110 yX5_requireField ∈ lw_tbl := List.mem_of_getElem? (i := 491) (by decide +kernel)
theorem lk_X5_115 : Cond.methodLink RX5 115 yX0_gainOfJoining ∈ lw_tbl := List.mem_of_getElem? (i := 513) (by decide +kernel)
theorem lk_X5_118 : Cond.methodLink RX5 118 yX0_splitOf ∈ lw_tbl := List.mem_of_getElem? (i := 518) (by decide +kernel)
theorem lk_X5_121 : Cond.methodLink RX5 121 yX3_cites ∈ lw_tbl := List.mem_of_getElem? (i := 526) (by decide +kernel)
theorem lk_X5_130 : Cond.methodLink RX5 130 yX1_countOf ∈ lw_tbl := List.mem_of_getElem? (i := 528) (by decide +kernel)
theorem lk_X5_133 : Cond.methodLink RX5 133 yX1_wholeWays ∈ lw_tbl := List.mem_of_getElem? (i := 602) (by decide +kernel)
theorem lk_X5_136 : Cond.methodLink RX5 136 yX1_lengthOfMain ∈ lw_tbl := List.mem_of_getElem? (i := 613) (by decide +kernel)
theorem lk_X5_144 : Cond.methodLink RX5 144 yX1_paperOfMain ∈ lw_tbl := List.mem_of_getElem? (i := 641) (by decide +kernel)
theorem lk_X5_147 : Cond.methodLink RX5 147 yX1_sumOfMain ∈ lw_tbl := List.mem_of_getElem? (i := 654) (by decide +kernel)
theorem lk_X5_150 : Cond.methodLink RX5 150 yX5_requireYear ∈ lw_tbl := List.mem_of_getElem? (i := 533) (by decide +kernel)
theorem lk_X5_153 : Cond.methodLink RX5 153 yX3_riseOf ∈ lw_tbl := List.mem_of_getElem? (i := 537) (by decide +kernel)
theorem lk_X5_156 : Cond.methodLink RX5 156 yX3_has ∈ lw_tbl := List.mem_of_getElem? (i := 197) (by decide +kernel)
theorem lk_X5_159 : Cond.methodLink RX5 159 yX0_findAnew ∈ lw_tbl := List.mem_of_getElem? (i := 326) (by decide +kernel)
theorem lk_X5_163 : Cond.methodLink RX5 163 yX1_findAnew ∈ lw_tbl := List.mem_of_getElem? (i := 406) (by decide +kernel)
theorem lk_X5_166 : Cond.methodLink RX5 166 yX0_isGroup ∈ lw_tbl := List.mem_of_getElem? (i := 495) (by decide +kernel)
theorem lk_X0_44 : Cond.methodLink RX0 44 yX2_at ∈ lw_tbl := List.mem_of_getElem? (i := 368) (by decide +kernel)
theorem lk_X0_52 : Cond.methodLink RX0 52 yX4_at ∈ lw_tbl := List.mem_of_getElem? (i := 367) (by decide +kernel)
theorem lk_X0_55 : Cond.methodLink RX0 55 yX0_gainFrom ∈ lw_tbl := List.mem_of_getElem? (i := 369) (by decide +kernel)
theorem lk_X0_59 : Cond.methodLink RX0 59 yX0_partAll ∈ lw_tbl := List.mem_of_getElem? (i := 330) (by decide +kernel)
theorem lk_X0_63 : Cond.methodLink RX0 63 yX0_joinGreatest ∈ lw_tbl := List.mem_of_getElem? (i := 354) (by decide +kernel)
theorem lk_X0_67 : Cond.methodLink RX0 67 yX0_isGroup ∈ lw_tbl := List.mem_of_getElem? (i := 358) (by decide +kernel)
theorem lk_X0_71 : Cond.methodLink RX0 71 yX0_bestSplit ∈ lw_tbl := List.mem_of_getElem? (i := 385) (by decide +kernel)
theorem lk_X0_74 : Cond.methodLink RX0 74 yX2_set ∈ lw_tbl := List.mem_of_getElem? (i := 348) (by decide +kernel)
theorem lk_X0_78 : Cond.methodLink RX0 78 yX3_weightsKept ∈ lw_tbl := List.mem_of_getElem? (i := 334) (by decide +kernel)
theorem lk_X0_84 : Cond.methodLink RX0 84 yX3_allThere ∈ lw_tbl := List.mem_of_getElem? (i := 343) (by decide +kernel)
theorem lk_X0_87 : Cond.methodLink RX0 87 yX3_has ∈ lw_tbl := List.mem_of_getElem? (i := 347) (by decide +kernel)
theorem lk_X0_90 : Cond.methodLink RX0 90 yX3_weightOf ∈ lw_tbl := List.mem_of_getElem? (i := 349) (by decide +kernel)
theorem lk_X0_93 : Cond.methodLink RX0 93 yX4_set ∈ lw_tbl := List.mem_of_getElem? (i := 350) (by decide +kernel)
theorem lk_X0_96 : Cond.methodLink RX0 96 yX0_gainOfJoining ∈ lw_tbl := List.mem_of_getElem? (i := 363) (by decide +kernel)
theorem lk_X0_99 : Cond.methodLink RX0 99 yX0_join ∈ lw_tbl := List.mem_of_getElem? (i := 373) (by decide +kernel)
theorem lk_X0_105 : Cond.methodLink RX0 105 yX2_add ∈ lw_tbl := List.mem_of_getElem? (i := 378) (by decide +kernel)
theorem lk_X0_108 : Cond.methodLink RX0 108 yX4_add ∈ lw_tbl := List.mem_of_getElem? (i := 384) (by decide +kernel)
theorem lk_X0_110 : Cond.methodLink RX0 110 yX0_membersOf ∈ lw_tbl := List.mem_of_getElem? (i := 389) (by decide +kernel)
theorem lk_X0_113 : Cond.methodLink RX0 113 yJ6_bitCount_0f7a4 ∈ lw_tbl := List.mem_of_getElem? (i := 393) (by decide +kernel)
theorem lk_X0_118 : Cond.methodLink RX0 118 yX0_gainOfParts ∈ lw_tbl := List.mem_of_getElem? (i := 394) (by decide +kernel)
theorem lk_X0_121 : Cond.methodLink RX0 121 yX0_weightWithAll ∈ lw_tbl := List.mem_of_getElem? (i := 398) (by decide +kernel)
theorem lk_X0_124 : Cond.methodLink RX0 124 yX0_strengthOf ∈ lw_tbl := List.mem_of_getElem? (i := 402) (by decide +kernel)
theorem lk_X1_40 : Cond.methodLink RX1 40 yX2_at ∈ lw_tbl := List.mem_of_getElem? (i := 418) (by decide +kernel)
theorem lk_X1_44 : Cond.methodLink RX1 44 yX3_referredBy ∈ lw_tbl := List.mem_of_getElem? (i := 410) (by decide +kernel)
theorem lk_X1_49 : Cond.methodLink RX1 49 yX1_sumOver ∈ lw_tbl := List.mem_of_getElem? (i := 414) (by decide +kernel)
theorem lk_X1_53 : Cond.methodLink RX1 53 yX2_set ∈ lw_tbl := List.mem_of_getElem? (i := 419) (by decide +kernel)
theorem lk_X1_57 : Cond.methodLink RX1 57 yX3_citersOf ∈ lw_tbl := List.mem_of_getElem? (i := 420) (by decide +kernel)
theorem lk_X1_60 : Cond.methodLink RX1 60 yX1_findNext ∈ lw_tbl := List.mem_of_getElem? (i := 421) (by decide +kernel)
theorem lk_X1_64 : Cond.methodLink RX1 64 yX1_findMain ∈ lw_tbl := List.mem_of_getElem? (i := 430) (by decide +kernel)
theorem lk_X1_72 : Cond.methodLink RX1 72 yX3_cites ∈ lw_tbl := List.mem_of_getElem? (i := 425) (by decide +kernel)
theorem lk_X1_75 : Cond.methodLink RX1 75 yX1_countOf ∈ lw_tbl := List.mem_of_getElem? (i := 426) (by decide +kernel)
theorem lk_X1_79 : Cond.methodLink RX1 79 yX3_has ∈ lw_tbl := List.mem_of_getElem? (i := 434) (by decide +kernel)
theorem lk_X1_83 : Cond.methodLink RX1 83 yX1_follow ∈ lw_tbl := List.mem_of_getElem? (i := 435) (by decide +kernel)
theorem lk_X2_15 : Cond.methodLink RX2 15 yX2_at ∈ lw_tbl := List.mem_of_getElem? (i := 382) (by decide +kernel)
theorem lk_X2_19 : Cond.methodLink RX2 19 yX2_set ∈ lw_tbl := List.mem_of_getElem? (i := 383) (by decide +kernel)
theorem lk_X3_48 : Cond.methodLink RX3 48 yX2_at ∈ lw_tbl := List.mem_of_getElem? (i := 277) (by decide +kernel)
theorem lk_X3_52 : Cond.methodLink RX3 52 yX2_set ∈ lw_tbl := List.mem_of_getElem? (i := 302) (by decide +kernel)
theorem lk_X3_59 : Cond.methodLink RX3 59 yX3_addCiting ∈ lw_tbl := List.mem_of_getElem? (i := 716) (by decide +kernel)
theorem lk_X3_62 : Cond.methodLink RX3 62 yX3_cites ∈ lw_tbl := List.mem_of_getElem? (i := 291) (by decide +kernel)
theorem lk_X3_65 : Cond.methodLink RX3 65 yX3_dropCiting ∈ lw_tbl := List.mem_of_getElem? (i := 295) (by decide +kernel)
theorem lk_X3_68 : Cond.methodLink RX3 68 yX3_countCiting ∈ lw_tbl := List.mem_of_getElem? (i := 306) (by decide +kernel)
theorem lk_X3_72 : Cond.methodLink RX3 72 yX4_add ∈ lw_tbl := List.mem_of_getElem? (i := 310) (by decide +kernel)
theorem lk_X3_75 : Cond.methodLink RX3 75 yX4_at ∈ lw_tbl := List.mem_of_getElem? (i := 342) (by decide +kernel)
theorem lk_X3_78 : Cond.methodLink RX3 78 yX3_weightOf ∈ lw_tbl := List.mem_of_getElem? (i := 338) (by decide +kernel)
theorem lk_X3_81 : Cond.methodLink RX3 81 yX3_has ∈ lw_tbl := List.mem_of_getElem? (i := 575) (by decide +kernel)
theorem lk_X3_85 : Cond.methodLink RX3 85 yJ6_bitCount_0f7a4 ∈ lw_tbl := List.mem_of_getElem? (i := 576) (by decide +kernel)
theorem lk_X3_90 : Cond.methodLink RX3 90 yX3_referringToBoth ∈ lw_tbl := List.mem_of_getElem? (i := 577) (by decide +kernel)
theorem lk_X3_93 : Cond.methodLink RX3 93 yX3_citersOfYear ∈ lw_tbl := List.mem_of_getElem? (i := 541) (by decide +kernel)
theorem lk_X4_15 : Cond.methodLink RX4 15 yX4_setOneWay ∈ lw_tbl := List.mem_of_getElem? (i := 318) (by decide +kernel)
theorem lk_X4_19 : Cond.methodLink RX4 19 yX4_at ∈ lw_tbl := List.mem_of_getElem? (i := 314) (by decide +kernel)
theorem lk_L_9 : Cond.methodLink RL 9 yX5_come ∈ lw_tbl := List.mem_of_getElem? (i := 679) (by decide +kernel)
theorem lk_L_21 : Cond.methodLink RL 21 yX5_withdraw ∈ lw_tbl := List.mem_of_getElem? (i := 189) (by decide +kernel)
theorem lk_L_25 : Cond.methodLink RL 25 yX5_references ∈ lw_tbl := List.mem_of_getElem? (i := 439) (by decide +kernel)
theorem lk_L_28 : Cond.methodLink RL 28 yX5_citing ∈ lw_tbl := List.mem_of_getElem? (i := 444) (by decide +kernel)
theorem lk_L_31 : Cond.methodLink RL 31 yX5_shared ∈ lw_tbl := List.mem_of_getElem? (i := 448) (by decide +kernel)
theorem lk_L_34 : Cond.methodLink RL 34 yX5_joint ∈ lw_tbl := List.mem_of_getElem? (i := 456) (by decide +kernel)
theorem lk_L_37 : Cond.methodLink RL 37 yX5_likenessNumerator ∈ lw_tbl := List.mem_of_getElem? (i := 464) (by decide +kernel)
theorem lk_L_40 : Cond.methodLink RL 40 yX5_likenessDenominator ∈ lw_tbl := List.mem_of_getElem? (i := 475) (by decide +kernel)
theorem lk_L_43 : Cond.methodLink RL 43 yX5_fieldOf ∈ lw_tbl := List.mem_of_getElem? (i := 479) (by decide +kernel)
theorem lk_L_46 : Cond.methodLink RL 46 yX5_gain ∈ lw_tbl := List.mem_of_getElem? (i := 487) (by decide +kernel)
theorem lk_L_49 : Cond.methodLink RL 49 yX5_split ∈ lw_tbl := List.mem_of_getElem? (i := 514) (by decide +kernel)
theorem lk_L_52 : Cond.methodLink RL 52 yX5_count ∈ lw_tbl := List.mem_of_getElem? (i := 522) (by decide +kernel)
theorem lk_L_55 : Cond.methodLink RL 55 yX5_rise ∈ lw_tbl := List.mem_of_getElem? (i := 529) (by decide +kernel)
theorem lk_L_58 : Cond.methodLink RL 58 yX5_heir ∈ lw_tbl := List.mem_of_getElem? (i := 545) (by decide +kernel)
theorem lk_L_64 : Cond.methodLink RL 64 yX5_mainAt ∈ lw_tbl := List.mem_of_getElem? (i := 621) (by decide +kernel)
theorem lk_L_67 : Cond.methodLink RL 67 yX5_riser ∈ lw_tbl := List.mem_of_getElem? (i := 645) (by decide +kernel)
theorem lk_L_73 : Cond.methodLink RL 73 yX5_papers ∈ lw_tbl := List.mem_of_getElem? (i := 557) (by decide +kernel)
theorem lk_L_79 : Cond.methodLink RL 79 yX5_fields ∈ lw_tbl := List.mem_of_getElem? (i := 587) (by decide +kernel)
theorem lk_L_84 : Cond.methodLink RL 84 yX5_ways ∈ lw_tbl := List.mem_of_getElem? (i := 598) (by decide +kernel)
theorem lk_L_89 : Cond.methodLink RL 89 yX5_total ∈ lw_tbl := List.mem_of_getElem? (i := 562) (by decide +kernel)
theorem lk_L_96 : Cond.methodLink RL 96 yL_of ∈ lw_tbl := List.mem_of_getElem? (i := 184) (by decide +kernel)
theorem lk_L_102 : Cond.methodLink RL 102 yL_bits ∈ lw_tbl := List.mem_of_getElem? (i := 551) (by decide +kernel)
theorem lk_L_105 : Cond.methodLink RL 105 yL_isLowest ∈ lw_tbl := List.mem_of_getElem? (i := 554) (by decide +kernel)
theorem lk_L_109 : Cond.methodLink RL 109 yX5_totalAnew ∈ lw_tbl := List.mem_of_getElem? (i := 567) (by decide +kernel)
theorem lk_L_112 : Cond.methodLink RL 112 yL_isSplit ∈ lw_tbl := List.mem_of_getElem? (i := 584) (by decide +kernel)
theorem lk_L_116 : Cond.methodLink RL 116 yX5_mainLength ∈ lw_tbl := List.mem_of_getElem? (i := 609) (by decide +kernel)
theorem lk_L_119 : Cond.methodLink RL 119 yL_at ∈ lw_tbl := List.mem_of_getElem? (i := 617) (by decide +kernel)
theorem lk_L_123 : Cond.methodLink RL 123 yX5_mainSum ∈ lw_tbl := List.mem_of_getElem? (i := 650) (by decide +kernel)
theorem lk_L_127 : Cond.methodLink RL 127 yL_all ∈ lw_tbl := List.mem_of_getElem? (i := 667) (by decide +kernel)
theorem lk_L_131 : Cond.methodLink RL 131 yL_come ∈ lw_tbl := List.mem_of_getElem? (i := 675) (by decide +kernel)
theorem lk_L_133 : Cond.methodLink RL 133 yX5_init ∈ lw_tbl := List.mem_of_getElem? (i := 40) (by decide +kernel)
theorem lk_L_134 : Cond.methodLink RL 134 yL_isRefused ∈ lw_tbl := List.mem_of_getElem? (i := 664) (by decide +kernel)
theorem lk_L_138 : Cond.methodLink RL 138 yL_isMain ∈ lw_tbl := List.mem_of_getElem? (i := 606) (by decide +kernel)
theorem lk_L_142 : Cond.methodLink RL 142 yL_dice ∈ lw_tbl := List.mem_of_getElem? (i := 176) (by decide +kernel)
theorem lk_L_146 : Cond.methodLink RL 146 yL_isCome ∈ lw_tbl := List.mem_of_getElem? (i := 721) (by decide +kernel)
theorem lk_L_150 : Cond.methodLink RL 150 yL_isGone ∈ lw_tbl := List.mem_of_getElem? (i := 724) (by decide +kernel)
theorem lk_L_153 : Cond.methodLink RL 153 yL_arePapers ∈ lw_tbl := List.mem_of_getElem? (i := 181) (by decide +kernel)
theorem lk_L_157 : Cond.methodLink RL 157 yL_areFields ∈ lw_tbl := List.mem_of_getElem? (i := 581) (by decide +kernel)
theorem lk_L_160 : Cond.methodLink RL 160 yL_areWays ∈ lw_tbl := List.mem_of_getElem? (i := 595) (by decide +kernel)
theorem lk_L_163 : Cond.methodLink RL 163 yL_isLess ∈ lw_tbl := List.mem_of_getElem? (i := 658) (by decide +kernel)
theorem lk_L_166 : Cond.methodLink RL 166 yL_areRises ∈ lw_tbl := List.mem_of_getElem? (i := 661) (by decide +kernel)
theorem lk_X5_9 : Cond.methodLinkNest RX5 9 yX3_init RX5 ∈ lw_tbl := List.mem_of_getElem? (i := 48) (by decide +kernel)
theorem lk_X5_18 : Cond.methodLinkNest RX5 18 yX0_init RX5 ∈ lw_tbl := List.mem_of_getElem? (i := 100) (by decide +kernel)
theorem lk_X5_25 : Cond.methodLinkNest RX5 25 yX1_init RX5 ∈ lw_tbl := List.mem_of_getElem? (i := 135) (by decide +kernel)
theorem lk_X0_11 : Cond.methodLinkNest RX0 11 yX2_init RX5 ∈ lw_tbl := List.mem_of_getElem? (i := 105) (by decide +kernel)
theorem lk_X0_29 : Cond.methodLinkNest RX0 29 yX4_init RX5 ∈ lw_tbl := List.mem_of_getElem? (i := 107) (by decide +kernel)
theorem lk_X0_48 : Cond.methodLinkNest RX0 48 yX5_holds RX5 ∈ lw_tbl := List.mem_of_getElem? (i := 362) (by decide +kernel)
theorem lk_X0_102 : Cond.methodLinkNest RX0 102 yX5_setOf RX5 ∈ lw_tbl := List.mem_of_getElem? (i := 377) (by decide +kernel)
theorem lk_X1_11 : Cond.methodLinkNest RX1 11 yX2_init RX5 ∈ lw_tbl := List.mem_of_getElem? (i := 140) (by decide +kernel)
theorem lk_X1_68 : Cond.methodLinkNest RX1 68 yX5_holds RX5 ∈ lw_tbl := List.mem_of_getElem? (i := 417) (by decide +kernel)
theorem lk_X3_11 : Cond.methodLinkNest RX3 11 yX2_init RX5 ∈ lw_tbl := List.mem_of_getElem? (i := 54) (by decide +kernel)
theorem lk_X3_26 : Cond.methodLinkNest RX3 26 yX4_init RX5 ∈ lw_tbl := List.mem_of_getElem? (i := 65) (by decide +kernel)
theorem lk_X3_44 : Cond.methodLinkNest RX3 44 yX5_holds RX5 ∈ lw_tbl := List.mem_of_getElem? (i := 201) (by decide +kernel)
theorem lk_X3_56 : Cond.methodLinkNest RX3 56 yX5_setOf RX5 ∈ lw_tbl := List.mem_of_getElem? (i := 299) (by decide +kernel)
end AZT
end
section
/-! the world of a running law: thirty-nine cells (36 r, 37 years, 38 m); its contents by numbers (σ.1), rows of ints (σ.2.1) and of longs (σ.2.2) -/
section AZW
abbrev az_S : Type := (Nat → Int32) × (Nat → Nat → Int32) × (Nat → Nat → Int64)
def sF (σ : az_S) (k : Nat) (v : Int32) : az_S := (va_up σ.1 k v, σ.2.1, σ.2.2)
def sG (σ : az_S) (k : Nat) (g : Nat → Int32) : az_S := (σ.1, va_up σ.2.1 k g, σ.2.2)
def sL (σ : az_S) (k : Nat) (g : Nat → Int64) : az_S := (σ.1, σ.2.1, va_up σ.2.2 k g)
def az_row (k : Nat) : az_E := .inr (2, [.ref k])
def az_tab (k : Nat) : az_E := .inr (4, [.ref k])
def az_ri (σ : az_S) (k : Nat) : az_E := .inl (0, 12, .inl (σ.2.1 k))
def az_ti (σ : az_S) (k : Nat) : az_E := .inl (0, 144, .inl (σ.2.1 k))
def wd (σ : az_S) : az_H := [
  .inr (5, [.ref 1, .ref 12, .ref 25]),
  .inr (3, [.ref 2, .ref 4, .ref 6, .ref 8, .ref 10, .int (σ.1 0), .int (σ.1 1), .int (σ.1 2)]),
  az_row 3, az_ri σ 3, az_row 5, az_ri σ 5, az_row 7, az_ri σ 7, az_tab 9, az_ti σ 9, az_tab 11, az_ti σ 11,
  .inr (0, [.ref 13, .ref 15, .ref 17, .ref 19, .ref 21, .ref 23, .int (σ.1 3), .int (σ.1 4)]),
  az_row 14, az_ri σ 14, az_row 16, az_ri σ 16, az_row 18, az_ri σ 18, az_row 20, az_ri σ 20, az_tab 22, az_ti σ 22, az_tab 24, az_ti σ 24,
  .inr (1, [.ref 26, .ref 28, .ref 30, .ref 32, .ref 34, .int (σ.1 5), .int (σ.1 6), .int (σ.1 7)]),
  az_row 27, az_ri σ 27, az_row 29, az_ri σ 29, az_row 31, az_ri σ 31, az_row 33, az_ri σ 33, az_row 35, az_ri σ 35,
  az_ri σ 36, az_ri σ 37, .inl (0, 1, .inl (σ.2.1 38))]
def p_at (f : Nat → Int32) (x : Int32) : Int32 := if x < 0 then 0 else if (12 : Int32) ≤ x then 0 else f x.toNatClampNeg
def p_set (f : Nat → Int32) (x v : Int32) : Nat → Int32 := if x < 0 then f else if (12 : Int32) ≤ x then f else va_up f x.toNatClampNeg v
theorem az_in12 {x : Int32} (h1 : ¬ x < 0) (h2 : ¬ (12 : Int32) ≤ x) : vp_in x 12 := by
  rw [vp_in_iff]
  rw [Int32.lt_iff_toInt_lt] at h1
  rw [Int32.le_iff_toInt_le] at h2
  have e1 : (0 : Int32).toInt = 0 := rfl
  have e2 : (12 : Int32).toInt = 12 := rfl
  omega
theorem az_in144 {x : Int32} (h1 : ¬ x < 0) (h2 : ¬ (144 : Int32) ≤ x) : vp_in x 144 := by
  rw [vp_in_iff]
  rw [Int32.lt_iff_toInt_lt] at h1
  rw [Int32.le_iff_toInt_le] at h2
  have e1 : (0 : Int32).toInt = 0 := rfl
  have e2 : (144 : Int32).toInt = 144 := rfl
  omega
variable {K : az_K} {own : String} {cc : ByteArray} {R0 : Room} {l0 : Launch} {tb : List (Nat × Instr)} {cells slots pc : Nat} {lo : List (Option Value)} {st rest : List Value} {hp : az_H}
theorem AW_ialdx (hT : az_Tb cc tb) (hK : az_OK K own cc R0 l0) (i : Nat) {k n : Nat} {x : Int32} {f : Nat → Int32} (hi : tb[i]? = some (pc, .iaload)) (hk : hp[k]? = some (.inl (0, n, .inl f))) (hin : vp_in x n) (kk : AW K cells slots (pc + 1) lo (.int (f x.toNatClampNeg) :: rest) hp) : AW K cells slots pc lo (.int x :: .ref k :: rest) hp := by
  obtain ⟨p, l, e, R, s, m, args, below, meth, c, D, cA, A, Ag, Q, nL⟩ := K
  obtain ⟨hexec, hb, -, -, -, -, hKn, -⟩ := hK
  intro ad H locs ls hag hP hD hS hl
  exact va_iald hexec hb hKn hP _ 0 (az_w_at hk) rfl hin (hT.at hi) (kk ad H locs ls hag hP hD hS hl)
theorem AW_iastx (hT : az_Tb cc tb) (hK : az_OK K own cc R0 l0) (i : Nat) {k n : Nat} {x v : Int32} {f : Nat → Int32} (hi : tb[i]? = some (pc, .iastore)) (hk : hp[k]? = some (.inl (0, n, .inl f))) (hin : vp_in x n) (kk : AW K cells slots (pc + 1) lo rest (hp.set k (.inl (0, n, .inl (upd f x.toNatClampNeg v))))) : AW K cells slots pc lo (.int v :: .int x :: .ref k :: rest) hp := by
  obtain ⟨p, l, e, R, s, m, args, below, meth, c, D, cA, A, Ag, Q, nL⟩ := K
  obtain ⟨hexec, hb, -, -, -, -, hKn, -⟩ := hK
  intro ad H locs ls hag hP hD hS hl
  refine va_iast hexec hb hKn hP hD hS _ 0 (az_w_at hk) rfl hin (hT.at hi) (fun H1 locs1 hP1 hD1 hS1 => ?_)
  exact kk ad H1 locs1 ls hag (by rw [az_w_set]; exact hP1) (by rw [az_w_set]; exact hD1) hS1 hl
theorem AW_idivN (hT : az_Tb cc tb) (hK : az_OK K own cc R0 l0) (i a b : Nat) {x y : Int32} (hi : tb[i]? = some (pc, .idiv)) (hx : x = nI a) (hy : y = nI b) (ha : a < 2 ^ 31) (h0 : 0 < b) (hb2 : b < 2 ^ 31) (kk : AW K cells slots (pc + 1) lo (.int (nI (a / b)) :: rest) hp) : AW K cells slots pc lo (.int y :: .int x :: rest) hp := by
  obtain ⟨p, l, e, R, s, m, args, below, meth, c, D, cA, A, Ag, Q, nL⟩ := K
  obtain ⟨hexec, hb, -, -, -, -, hKn, -⟩ := hK
  intro ad H locs ls hag hP hD hS hl
  subst hx hy
  exact lv_idiv hexec hb (hT.at hi) (nI_ne0 h0 hb2) (by rw [pk_div ha h0 hb2]; exact kk ad H locs ls hag hP hD hS hl)
theorem AW_iremN (hT : az_Tb cc tb) (hK : az_OK K own cc R0 l0) (i a b : Nat) {x y : Int32} (hi : tb[i]? = some (pc, .irem)) (hx : x = nI a) (hy : y = nI b) (ha : a < 2 ^ 31) (h0 : 0 < b) (hb2 : b < 2 ^ 31) (kk : AW K cells slots (pc + 1) lo (.int (nI (a % b)) :: rest) hp) : AW K cells slots pc lo (.int y :: .int x :: rest) hp := by
  obtain ⟨p, l, e, R, s, m, args, below, meth, c, D, cA, A, Ag, Q, nL⟩ := K
  obtain ⟨hexec, hb, -, -, -, -, hKn, -⟩ := hK
  intro ad H locs ls hag hP hD hS hl
  subst hx hy
  exact lv_irem hexec hb (hT.at hi) (nI_ne0 h0 hb2) (by rw [pk_rem ha h0 hb2]; exact kk ad H locs ls hag hP hD hS hl)
theorem AW_idiv (hT : az_Tb cc tb) (hK : az_OK K own cc R0 l0) (i : Nat) {x y : Int32} (hi : tb[i]? = some (pc, .idiv)) (h0 : ¬ y = 0) (kk : AW K cells slots (pc + 1) lo (.int (x / y) :: rest) hp) : AW K cells slots pc lo (.int y :: .int x :: rest) hp := by
  obtain ⟨p, l, e, R, s, m, args, below, meth, c, D, cA, A, Ag, Q, nL⟩ := K
  obtain ⟨hexec, hb, -, -, -, -, hKn, -⟩ := hK
  intro ad H locs ls hag hP hD hS hl
  exact lv_idiv hexec hb (hT.at hi) h0 (kk ad H locs ls hag hP hD hS hl)
theorem AW_irem (hT : az_Tb cc tb) (hK : az_OK K own cc R0 l0) (i : Nat) {x y : Int32} (hi : tb[i]? = some (pc, .irem)) (h0 : ¬ y = 0) (kk : AW K cells slots (pc + 1) lo (.int (x - x / y * y) :: rest) hp) : AW K cells slots pc lo (.int y :: .int x :: rest) hp := by
  obtain ⟨p, l, e, R, s, m, args, below, meth, c, D, cA, A, Ag, Q, nL⟩ := K
  obtain ⟨hexec, hb, -, -, -, -, hKn, -⟩ := hK
  intro ad H locs ls hag hP hD hS hl
  exact lv_irem hexec hb (hT.at hi) h0 (kk ad H locs ls hag hP hD hS hl)
theorem AW_g {ci N : Nat} {T : u_T} {ty : Nat → FieldType} {flt : List (Nat × Nat × Nat)} (hT : az_Tb cc tb) (hC : az_Cl own ci N T ty flt) (hK : az_OK K own cc R0 l0) (i n : Nat) {pc' : Nat} {lo' : List (Option Value)} {st' : List Value} {hp' : az_H}
    (hx : az_run ci N T ty false flt ((tb.drop i).take n) pc lo st hp = some (pc', lo', st', hp')) (k : AW K cells slots pc' lo' st' hp') : AW K cells slots pc lo st hp :=
  AW_go hT hC hK (fun h => by cases h) i n hx k
def az_msk : List Bool → List (Option Value) → List (Option Value)
  | true :: bs, v :: l => v :: az_msk bs l
  | false :: bs, _ :: l => none :: az_msk bs l
  | [], l => l
  | _, [] => []
theorem az_msk_len : ∀ (bs : List Bool) (l : List (Option Value)), (az_msk bs l).length = l.length
  | true :: bs, v :: l => by simp [az_msk, az_msk_len bs l]
  | false :: bs, v :: l => by simp [az_msk, az_msk_len bs l]
  | [], l => by simp [az_msk]
  | true :: _, [] => by simp [az_msk]
  | false :: _, [] => by simp [az_msk]
theorem az_msk_at : ∀ (bs : List Bool) (l : List (Option Value)) (i : Nat) (v : Value), (az_msk bs l)[i]? = some (some v) → l[i]? = some (some v)
  | true :: bs, w :: l, 0, v, h => by simpa [az_msk] using h
  | true :: bs, w :: l, i + 1, v, h => by
    have h : (az_msk bs l)[i]? = some (some v) := by simpa [az_msk] using h
    simpa using az_msk_at bs l i v h
  | false :: bs, w :: l, 0, v, h => by simp [az_msk] at h
  | false :: bs, w :: l, i + 1, v, h => by
    have h : (az_msk bs l)[i]? = some (some v) := by simpa [az_msk] using h
    simpa using az_msk_at bs l i v h
  | [], l, i, v, h => by simpa [az_msk] using h
  | true :: _, [], i, v, h => by simp [az_msk] at h
  | false :: _, [], i, v, h => by simp [az_msk] at h
theorem AW_msk (bs : List Bool) {lo' : List (Option Value)} (h : az_msk bs lo = lo') (k : AW K cells slots pc lo' st hp) : AW K cells slots pc lo st hp := by
  subst h
  exact AW_lo (az_msk_len bs lo) (az_msk_at bs lo) k
theorem AW_k1 {X : Int32} {hp1 : az_H} (k : ∀ v : Int32, X = v → AW K cells slots pc lo (.int v :: rest) hp1) : ∀ (r : Option Value) (hp' : az_H), (r = some (.int X) ∧ hp' = hp1) → AW K cells slots pc lo (r.toList ++ rest) hp' := by
  rintro r hp' ⟨rfl, rfl⟩
  exact k X rfl
theorem AW_kl {X : Int64} {hp1 : az_H} (k : ∀ v : Int64, X = v → AW K cells slots pc lo (.long v :: rest) hp1) : ∀ (r : Option Value) (hp' : az_H), (r = some (.long X) ∧ hp' = hp1) → AW K cells slots pc lo (r.toList ++ rest) hp' := by
  rintro r hp' ⟨rfl, rfl⟩
  exact k X rfl
theorem AW_topi {x : Int32} (k : ∀ u : Int32, x = u → AW K cells slots pc lo (.int u :: rest) hp) : AW K cells slots pc lo (.int x :: rest) hp := k x rfl
theorem AW_topl {x : Int64} (k : ∀ u : Int64, x = u → AW K cells slots pc lo (.long u :: rest) hp) : AW K cells slots pc lo (.long x :: rest) hp := k x rfl
theorem AW_kn {hp1 : az_H} (k : AW K cells slots pc lo rest hp1) : ∀ (r : Option Value) (hp' : az_H), (r = none ∧ hp' = hp1) → AW K cells slots pc lo (r.toList ++ rest) hp' := by
  rintro r hp' ⟨rfl, rfl⟩
  exact k
theorem AW_kv {X : az_S} (k : ∀ v : az_S, X = v → AW K cells slots pc lo rest (wd v)) : ∀ (r : Option Value) (hp' : az_H), (r = none ∧ hp' = wd X) → AW K cells slots pc lo (r.toList ++ rest) hp' := by
  rintro r hp' ⟨rfl, rfl⟩
  exact k X rfl
theorem AW_kiw {X : Int32 × az_S} (k : ∀ v : Int32 × az_S, X = v → AW K cells slots pc lo (.int v.1 :: rest) (wd v.2)) : ∀ (r : Option Value) (hp' : az_H), (r = some (.int X.1) ∧ hp' = wd X.2) → AW K cells slots pc lo (r.toList ++ rest) hp' := by
  rintro r hp' ⟨rfl, rfl⟩
  exact k X rfl
theorem AW_klw {X : Int64 × az_S} (k : ∀ v : Int64 × az_S, X = v → AW K cells slots pc lo (.long v.1 :: rest) (wd v.2)) : ∀ (r : Option Value) (hp' : az_H), (r = some (.long X.1) ∧ hp' = wd X.2) → AW K cells slots pc lo (r.toList ++ rest) hp' := by
  rintro r hp' ⟨rfl, rfl⟩
  exact k X rfl
/-- loops: n rounds from the i-th on; downwards; with a stop -/
def az_it {S : Type} (b : Nat → S → S) : Nat → Nat → S → S
  | 0, _, s => s
  | n + 1, i, s => az_it b n (i + 1) (b i s)
def az_dn {S : Type} (b : Nat → S → S) : Nat → S → S
  | 0, s => s
  | n + 1, s => az_dn b n (b n s)
def nn (σ : az_S) : Nat := (σ.1 8).toNatClampNeg
def az_wf (σ : az_S) : Prop := σ.1 8 = nI (nn σ) ∧ nn σ ≤ 12
def az_ws {S : Type} (st : S → Bool) (b : Nat → S → S) : Nat → Nat → S → S
  | 0, _, s => s
  | n + 1, i, s => match st s with
    | true => s
    | false => az_ws st b n (i + 1) (b i s)
theorem az_ws_st {S : Type} {st : S → Bool} {b : Nat → S → S} {n i : Nat} {s : S} (h : st s = true) : az_ws st b n i s = s := by
  cases n with
  | zero => rfl
  | succ n => unfold az_ws; rw [h]
theorem az_ws_go {S : Type} {st : S → Bool} {b : Nat → S → S} {n i : Nat} {s : S} (h : st s = false) : az_ws st b (n + 1) i s = az_ws st b n (i + 1) (b i s) := by
  conv => lhs; unfold az_ws
  rw [h]
theorem az_tc (W : Int32) : W < 0 ∧ W.toNatClampNeg = 0 ∨ 0 ≤ W ∧ W = nI W.toNatClampNeg ∧ W.toNatClampNeg < 2 ^ 31 := by
  by_cases h : W < 0
  · refine Or.inl ⟨h, ?_⟩
    rw [Int32.lt_iff_toInt_lt] at h
    have e1 : (0 : Int32).toInt = 0 := rfl
    show W.toInt.toNat = 0
    omega
  · obtain ⟨j, hj, rfl⟩ := nI_of h
    exact Or.inr ⟨nI_pos' hj, by rw [nI_clamp hj], by rw [nI_clamp hj]; exact hj⟩
theorem az_cv0 {W : Int32} {i : Nat} (hi : i + 0 = W.toNatClampNeg) : W ≤ nI i := by
  rcases az_tc W with ⟨h, h2⟩ | ⟨h, h2, h3⟩
  · have : i = 0 := hi.trans h2
    subst this
    rw [Int32.lt_iff_toInt_lt] at h
    rw [Int32.le_iff_toInt_le]
    have e1 : (0 : Int32).toInt = 0 := rfl
    have e2 : (nI 0).toInt = 0 := rfl
    omega
  · have : i = W.toNatClampNeg := hi
    rw [this, ← h2]
    exact Int32.le_refl _
theorem az_cv1 {W : Int32} {i n : Nat} (hi : i + (n + 1) = W.toNatClampNeg) : ¬ W ≤ nI i := by
  rcases az_tc W with ⟨h, h2⟩ | ⟨h, h2, h3⟩
  · omega
  · rw [h2]
    exact nI_ge (by omega) h3
theorem AW_ldcw (hT : az_Tb cc tb) (hK : az_OK K own cc R0 l0) (i : Nat) {idx : Nat} {v : Int32} (hi : tb[i]? = some (pc, .ldc_w idx)) (hw : Cond.constant own idx v ∈ lw_tbl) (kk : AW K cells slots (pc + 3) lo (.int v :: st) hp) : AW K cells slots pc lo st hp := by
  obtain ⟨p, l, e, R, s, m, args, below, meth, c, D, cA, A, Ag, Q, nL⟩ := K
  obtain ⟨hexec, hb, -, -, hown, hev, hKn, -⟩ := hK
  intro ad H locs ls hag hP hD hS hl
  exact lv_ldcw hexec hb hown (hev.1.use hw rfl args) (hT.at hi) (kk ad H locs ls hag hP hD hS hl)
theorem az_c0 {i E : Nat} (hi : i + 0 = E) : nI E ≤ nI i := by
  have : i = E := hi
  rw [this]
  exact Int32.le_refl _
theorem az_c1 {i n E : Nat} (hi : i + (n + 1) = E) (hE : E < 2 ^ 31 := by decide) : ¬ nI E ≤ nI i := nI_ge (by omega) hE
theorem az_cn0 {σ : az_S} {i : Nat} (hw : az_wf σ) (hi : i + 0 = nn σ) : σ.1 8 ≤ nI i := by
  have : i = nn σ := hi
  rw [hw.1, this]
  exact Int32.le_refl _
theorem az_cn1 {σ : az_S} {i n : Nat} (hw : az_wf σ) (hi : i + (n + 1) = nn σ) : ¬ σ.1 8 ≤ nI i := by
  rw [hw.1]
  exact nI_ge (by omega) (by have := hw.2; omega)
theorem az_cd0 : nI 0 - 1 < 0 := by decide
theorem az_cd1 {n : Nat} (hi : n + 1 ≤ 12) : ¬ nI n < 0 := nI_pos (by omega)
theorem az_dn1 (n : Nat) : nI (n + 1) - 1 = nI n := nI_pred n
theorem az_dn2 (n : Nat) : nI n + (-1) = nI n - 1 := by
  rw [Int32.sub_eq_add_neg]
end AZW
end
section
section AZP
def x_X5_holds (σ : az_S) (p0 : Int32) (p1 : Int32) : Int32 :=
  if p1 < 0 then
    0
  else
    if 12 ≤ p1 then
      0
    else
      if ((p0 >>> (p1 &&& 31)) &&& 1) = 0 then
        0
      else
        1
set_option maxRecDepth 100000 in
set_option maxHeartbeats 4000000 in
theorem m_X5_holds (l0 : Launch) (σ : az_S) (p0 : Int32) (p1 : Int32) : AMet l0 yX5_holds cX5_holds 2 (some .boolean) ({ frames := 0, cells := 0, slots := 0, locals := 0 } : Room) false [.int p0, .int p1] (wd σ) (fun r h => r = some (.int (x_X5_holds σ p0 p1)) ∧ h = wd σ) := by
  refine AMet_of (by decide +kernel) (by simp [Value.category]) (Nat.le_of_ble_eq_true rfl) (fun K hK hct hG hE => ?_)
  have hT := tt_X5_holds
  refine AW_g hT cl_X5 hK 0 1 (pc' := 1) (lo' := [some (.int p0), some (.int p1)]) (st' := [.int p1]) (hp' := wd σ) rfl ?_
  refine AW_if_lt hT hK 1 (tgt := 22) rfl rfl (fun c1 => ?_) (fun c1 => ?_)
  · refine AW_g hT cl_X5 hK 13 1 (pc' := 23) (lo' := [some (.int p0), some (.int p1)]) (st' := [.int 0]) (hp' := wd σ) rfl ?_
    refine AW_iret hT hE 14 rfl rfl rfl (Nat.le_of_ble_eq_true rfl) (Nat.le_of_ble_eq_true rfl) ?_
    exact ⟨by simp only [x_X5_holds, if_pos c1], rfl⟩
  · refine AW_g hT cl_X5 hK 2 2 (pc' := 7) (lo' := [some (.int p0), some (.int p1)]) (st' := [.int 12, .int p1]) (hp' := wd σ) rfl ?_
    refine AW_icmp_ge hT hK 4 (tgt := 22) rfl rfl (fun c2 => ?_) (fun c2 => ?_)
    · refine AW_g hT cl_X5 hK 13 1 (pc' := 23) (lo' := [some (.int p0), some (.int p1)]) (st' := [.int 0]) (hp' := wd σ) rfl ?_
      refine AW_iret hT hE 14 rfl rfl rfl (Nat.le_of_ble_eq_true rfl) (Nat.le_of_ble_eq_true rfl) ?_
      exact ⟨by simp only [x_X5_holds, if_neg c1, if_pos c2], rfl⟩
    · refine AW_g hT cl_X5 hK 5 5 (pc' := 15) (lo' := [some (.int p0), some (.int p1)]) (st' := [.int ((p0 >>> (p1 &&& 31)) &&& 1)]) (hp' := wd σ) rfl ?_
      refine AW_if_eq hT hK 10 (tgt := 22) rfl rfl (fun c3 => ?_) (fun c3 => ?_)
      · refine AW_g hT cl_X5 hK 13 1 (pc' := 23) (lo' := [some (.int p0), some (.int p1)]) (st' := [.int 0]) (hp' := wd σ) rfl ?_
        refine AW_iret hT hE 14 rfl rfl rfl (Nat.le_of_ble_eq_true rfl) (Nat.le_of_ble_eq_true rfl) ?_
        exact ⟨by simp only [x_X5_holds, if_neg c1, if_neg c2, if_pos c3], rfl⟩
      · refine AW_g hT cl_X5 hK 11 1 (pc' := 19) (lo' := [some (.int p0), some (.int p1)]) (st' := [.int 1]) (hp' := wd σ) rfl ?_
        refine AW_goto hT hK 12 (tgt := 23) rfl rfl ?_
        refine AW_iret hT hE 14 rfl rfl rfl (Nat.le_of_ble_eq_true rfl) (Nat.le_of_ble_eq_true rfl) ?_
        exact ⟨by simp only [x_X5_holds, if_neg c1, if_neg c2, if_neg c3], rfl⟩
theorem nb_X5_holds (σ : az_S) (p0 : Int32) (p1 : Int32) : narrow .boolean (.int (x_X5_holds σ p0 p1)) = .int (x_X5_holds σ p0 p1) := by
  unfold x_X5_holds
  (try dsimp only)
  (repeat' split) <;> first | rfl | (dsimp only; rfl)
def x_X5_setOf (σ : az_S) (p0 : Int32) : Int32 :=
  if p0 < 0 then
    0
  else
    if 12 ≤ p0 then
      0
    else
      (1 <<< (p0 &&& 31))
set_option maxRecDepth 100000 in
set_option maxHeartbeats 4000000 in
theorem m_X5_setOf (l0 : Launch) (σ : az_S) (p0 : Int32) : AMet l0 yX5_setOf cX5_setOf 1 (some .int) ({ frames := 0, cells := 0, slots := 0, locals := 0 } : Room) false [.int p0] (wd σ) (fun r h => r = some (.int (x_X5_setOf σ p0)) ∧ h = wd σ) := by
  refine AMet_of (by decide +kernel) (by simp [Value.category]) (Nat.le_of_ble_eq_true rfl) (fun K hK hct hG hE => ?_)
  have hT := tt_X5_setOf
  refine AW_g hT cl_X5 hK 0 1 (pc' := 1) (lo' := [some (.int p0)]) (st' := [.int p0]) (hp' := wd σ) rfl ?_
  refine AW_if_lt hT hK 1 (tgt := 16) rfl rfl (fun c1 => ?_) (fun c1 => ?_)
  · refine AW_g hT cl_X5 hK 9 1 (pc' := 17) (lo' := [some (.int p0)]) (st' := [.int 0]) (hp' := wd σ) rfl ?_
    refine AW_iret hT hE 10 rfl rfl rfl (Nat.le_of_ble_eq_true rfl) (Nat.le_of_ble_eq_true rfl) ?_
    exact ⟨by simp only [x_X5_setOf, if_pos c1], rfl⟩
  · refine AW_g hT cl_X5 hK 2 2 (pc' := 7) (lo' := [some (.int p0)]) (st' := [.int 12, .int p0]) (hp' := wd σ) rfl ?_
    refine AW_icmp_ge hT hK 4 (tgt := 16) rfl rfl (fun c2 => ?_) (fun c2 => ?_)
    · refine AW_g hT cl_X5 hK 9 1 (pc' := 17) (lo' := [some (.int p0)]) (st' := [.int 0]) (hp' := wd σ) rfl ?_
      refine AW_iret hT hE 10 rfl rfl rfl (Nat.le_of_ble_eq_true rfl) (Nat.le_of_ble_eq_true rfl) ?_
      exact ⟨by simp only [x_X5_setOf, if_neg c1, if_pos c2], rfl⟩
    · refine AW_g hT cl_X5 hK 5 3 (pc' := 13) (lo' := [some (.int p0)]) (st' := [.int (1 <<< (p0 &&& 31))]) (hp' := wd σ) rfl ?_
      refine AW_goto hT hK 8 (tgt := 17) rfl rfl ?_
      refine AW_iret hT hE 10 rfl rfl rfl (Nat.le_of_ble_eq_true rfl) (Nat.le_of_ble_eq_true rfl) ?_
      exact ⟨by simp only [x_X5_setOf, if_neg c1, if_neg c2], rfl⟩
def x_J6_bitCount_0f7a4 (σ : az_S) (p0 : Int32) : Int32 :=
  ((((((((p0 - ((((p0 : Int32).toUInt32 >>> ((1 : Int32).toUInt32 &&& Int32.toUInt32 31)).toInt32) &&& 1431655765)) &&& 858993459) + (((((p0 - ((((p0 : Int32).toUInt32 >>> ((1 : Int32).toUInt32 &&& Int32.toUInt32 31)).toInt32) &&& 1431655765)) : Int32).toUInt32 >>> ((2 : Int32).toUInt32 &&& Int32.toUInt32 31)).toInt32) &&& 858993459)) + ((((((p0 - ((((p0 : Int32).toUInt32 >>> ((1 : Int32).toUInt32 &&& Int32.toUInt32 31)).toInt32) &&& 1431655765)) &&& 858993459) + (((((p0 - ((((p0 : Int32).toUInt32 >>> ((1 : Int32).toUInt32 &&& Int32.toUInt32 31)).toInt32) &&& 1431655765)) : Int32).toUInt32 >>> ((2 : Int32).toUInt32 &&& Int32.toUInt32 31)).toInt32) &&& 858993459)) : Int32).toUInt32 >>> ((4 : Int32).toUInt32 &&& Int32.toUInt32 31)).toInt32)) &&& 252645135) + ((((((((p0 - ((((p0 : Int32).toUInt32 >>> ((1 : Int32).toUInt32 &&& Int32.toUInt32 31)).toInt32) &&& 1431655765)) &&& 858993459) + (((((p0 - ((((p0 : Int32).toUInt32 >>> ((1 : Int32).toUInt32 &&& Int32.toUInt32 31)).toInt32) &&& 1431655765)) : Int32).toUInt32 >>> ((2 : Int32).toUInt32 &&& Int32.toUInt32 31)).toInt32) &&& 858993459)) + ((((((p0 - ((((p0 : Int32).toUInt32 >>> ((1 : Int32).toUInt32 &&& Int32.toUInt32 31)).toInt32) &&& 1431655765)) &&& 858993459) + (((((p0 - ((((p0 : Int32).toUInt32 >>> ((1 : Int32).toUInt32 &&& Int32.toUInt32 31)).toInt32) &&& 1431655765)) : Int32).toUInt32 >>> ((2 : Int32).toUInt32 &&& Int32.toUInt32 31)).toInt32) &&& 858993459)) : Int32).toUInt32 >>> ((4 : Int32).toUInt32 &&& Int32.toUInt32 31)).toInt32)) &&& 252645135) : Int32).toUInt32 >>> ((8 : Int32).toUInt32 &&& Int32.toUInt32 31)).toInt32)) + (((((((((p0 - ((((p0 : Int32).toUInt32 >>> ((1 : Int32).toUInt32 &&& Int32.toUInt32 31)).toInt32) &&& 1431655765)) &&& 858993459) + (((((p0 - ((((p0 : Int32).toUInt32 >>> ((1 : Int32).toUInt32 &&& Int32.toUInt32 31)).toInt32) &&& 1431655765)) : Int32).toUInt32 >>> ((2 : Int32).toUInt32 &&& Int32.toUInt32 31)).toInt32) &&& 858993459)) + ((((((p0 - ((((p0 : Int32).toUInt32 >>> ((1 : Int32).toUInt32 &&& Int32.toUInt32 31)).toInt32) &&& 1431655765)) &&& 858993459) + (((((p0 - ((((p0 : Int32).toUInt32 >>> ((1 : Int32).toUInt32 &&& Int32.toUInt32 31)).toInt32) &&& 1431655765)) : Int32).toUInt32 >>> ((2 : Int32).toUInt32 &&& Int32.toUInt32 31)).toInt32) &&& 858993459)) : Int32).toUInt32 >>> ((4 : Int32).toUInt32 &&& Int32.toUInt32 31)).toInt32)) &&& 252645135) + ((((((((p0 - ((((p0 : Int32).toUInt32 >>> ((1 : Int32).toUInt32 &&& Int32.toUInt32 31)).toInt32) &&& 1431655765)) &&& 858993459) + (((((p0 - ((((p0 : Int32).toUInt32 >>> ((1 : Int32).toUInt32 &&& Int32.toUInt32 31)).toInt32) &&& 1431655765)) : Int32).toUInt32 >>> ((2 : Int32).toUInt32 &&& Int32.toUInt32 31)).toInt32) &&& 858993459)) + ((((((p0 - ((((p0 : Int32).toUInt32 >>> ((1 : Int32).toUInt32 &&& Int32.toUInt32 31)).toInt32) &&& 1431655765)) &&& 858993459) + (((((p0 - ((((p0 : Int32).toUInt32 >>> ((1 : Int32).toUInt32 &&& Int32.toUInt32 31)).toInt32) &&& 1431655765)) : Int32).toUInt32 >>> ((2 : Int32).toUInt32 &&& Int32.toUInt32 31)).toInt32) &&& 858993459)) : Int32).toUInt32 >>> ((4 : Int32).toUInt32 &&& Int32.toUInt32 31)).toInt32)) &&& 252645135) : Int32).toUInt32 >>> ((8 : Int32).toUInt32 &&& Int32.toUInt32 31)).toInt32)) : Int32).toUInt32 >>> ((16 : Int32).toUInt32 &&& Int32.toUInt32 31)).toInt32)) &&& 63)
set_option maxRecDepth 100000 in
set_option maxHeartbeats 4000000 in
theorem m_J6_bitCount_0f7a4 (l0 : Launch) (σ : az_S) (p0 : Int32) : AMet l0 yJ6_bitCount_0f7a4 cJ6_bitCount_0f7a4 1 (some .int) ({ frames := 0, cells := 0, slots := 0, locals := 0 } : Room) false [.int p0] (wd σ) (fun r h => r = some (.int (x_J6_bitCount_0f7a4 σ p0)) ∧ h = wd σ) := by
  refine AMet_of (by decide +kernel) (by simp [Value.category]) (Nat.le_of_ble_eq_true rfl) (fun K hK hct hG hE => ?_)
  have hT := tt_J6_bitCount_0f7a4
  refine AW_g hT (cl_N _) hK 0 4 (pc' := 4) (lo' := [some (.int p0)]) (st' := [.int (((p0 : Int32).toUInt32 >>> ((1 : Int32).toUInt32 &&& Int32.toUInt32 31)).toInt32), .int p0]) (hp' := wd σ) rfl ?_
  refine AW_ldcw hT hK 4 (v := 1431655765) rfl (List.mem_of_getElem? (i := 284) (by decide +kernel)) ?_
  refine AW_g hT (cl_N _) hK 5 4 (pc' := 11) (lo' := [some (.int (p0 - ((((p0 : Int32).toUInt32 >>> ((1 : Int32).toUInt32 &&& Int32.toUInt32 31)).toInt32) &&& 1431655765)))]) (st' := [.int (p0 - ((((p0 : Int32).toUInt32 >>> ((1 : Int32).toUInt32 &&& Int32.toUInt32 31)).toInt32) &&& 1431655765))]) (hp' := wd σ) rfl ?_
  refine AW_ldcw hT hK 9 (v := 858993459) rfl (List.mem_of_getElem? (i := 285) (by decide +kernel)) ?_
  refine AW_g hT (cl_N _) hK 10 4 (pc' := 18) (lo' := [some (.int (p0 - ((((p0 : Int32).toUInt32 >>> ((1 : Int32).toUInt32 &&& Int32.toUInt32 31)).toInt32) &&& 1431655765)))]) (st' := [.int ((((p0 - ((((p0 : Int32).toUInt32 >>> ((1 : Int32).toUInt32 &&& Int32.toUInt32 31)).toInt32) &&& 1431655765)) : Int32).toUInt32 >>> ((2 : Int32).toUInt32 &&& Int32.toUInt32 31)).toInt32), .int ((p0 - ((((p0 : Int32).toUInt32 >>> ((1 : Int32).toUInt32 &&& Int32.toUInt32 31)).toInt32) &&& 1431655765)) &&& 858993459)]) (hp' := wd σ) rfl ?_
  refine AW_ldcw hT hK 14 (v := 858993459) rfl (List.mem_of_getElem? (i := 285) (by decide +kernel)) ?_
  refine AW_g hT (cl_N _) hK 15 8 (pc' := 29) (lo' := [some (.int (((p0 - ((((p0 : Int32).toUInt32 >>> ((1 : Int32).toUInt32 &&& Int32.toUInt32 31)).toInt32) &&& 1431655765)) &&& 858993459) + (((((p0 - ((((p0 : Int32).toUInt32 >>> ((1 : Int32).toUInt32 &&& Int32.toUInt32 31)).toInt32) &&& 1431655765)) : Int32).toUInt32 >>> ((2 : Int32).toUInt32 &&& Int32.toUInt32 31)).toInt32) &&& 858993459)))]) (st' := [.int ((((p0 - ((((p0 : Int32).toUInt32 >>> ((1 : Int32).toUInt32 &&& Int32.toUInt32 31)).toInt32) &&& 1431655765)) &&& 858993459) + (((((p0 - ((((p0 : Int32).toUInt32 >>> ((1 : Int32).toUInt32 &&& Int32.toUInt32 31)).toInt32) &&& 1431655765)) : Int32).toUInt32 >>> ((2 : Int32).toUInt32 &&& Int32.toUInt32 31)).toInt32) &&& 858993459)) + ((((((p0 - ((((p0 : Int32).toUInt32 >>> ((1 : Int32).toUInt32 &&& Int32.toUInt32 31)).toInt32) &&& 1431655765)) &&& 858993459) + (((((p0 - ((((p0 : Int32).toUInt32 >>> ((1 : Int32).toUInt32 &&& Int32.toUInt32 31)).toInt32) &&& 1431655765)) : Int32).toUInt32 >>> ((2 : Int32).toUInt32 &&& Int32.toUInt32 31)).toInt32) &&& 858993459)) : Int32).toUInt32 >>> ((4 : Int32).toUInt32 &&& Int32.toUInt32 31)).toInt32))]) (hp' := wd σ) rfl ?_
  refine AW_ldcw hT hK 23 (v := 252645135) rfl (List.mem_of_getElem? (i := 286) (by decide +kernel)) ?_
  refine AW_g hT (cl_N _) hK 24 17 (pc' := 52) (lo' := [some (.int (((((((p0 - ((((p0 : Int32).toUInt32 >>> ((1 : Int32).toUInt32 &&& Int32.toUInt32 31)).toInt32) &&& 1431655765)) &&& 858993459) + (((((p0 - ((((p0 : Int32).toUInt32 >>> ((1 : Int32).toUInt32 &&& Int32.toUInt32 31)).toInt32) &&& 1431655765)) : Int32).toUInt32 >>> ((2 : Int32).toUInt32 &&& Int32.toUInt32 31)).toInt32) &&& 858993459)) + ((((((p0 - ((((p0 : Int32).toUInt32 >>> ((1 : Int32).toUInt32 &&& Int32.toUInt32 31)).toInt32) &&& 1431655765)) &&& 858993459) + (((((p0 - ((((p0 : Int32).toUInt32 >>> ((1 : Int32).toUInt32 &&& Int32.toUInt32 31)).toInt32) &&& 1431655765)) : Int32).toUInt32 >>> ((2 : Int32).toUInt32 &&& Int32.toUInt32 31)).toInt32) &&& 858993459)) : Int32).toUInt32 >>> ((4 : Int32).toUInt32 &&& Int32.toUInt32 31)).toInt32)) &&& 252645135) + ((((((((p0 - ((((p0 : Int32).toUInt32 >>> ((1 : Int32).toUInt32 &&& Int32.toUInt32 31)).toInt32) &&& 1431655765)) &&& 858993459) + (((((p0 - ((((p0 : Int32).toUInt32 >>> ((1 : Int32).toUInt32 &&& Int32.toUInt32 31)).toInt32) &&& 1431655765)) : Int32).toUInt32 >>> ((2 : Int32).toUInt32 &&& Int32.toUInt32 31)).toInt32) &&& 858993459)) + ((((((p0 - ((((p0 : Int32).toUInt32 >>> ((1 : Int32).toUInt32 &&& Int32.toUInt32 31)).toInt32) &&& 1431655765)) &&& 858993459) + (((((p0 - ((((p0 : Int32).toUInt32 >>> ((1 : Int32).toUInt32 &&& Int32.toUInt32 31)).toInt32) &&& 1431655765)) : Int32).toUInt32 >>> ((2 : Int32).toUInt32 &&& Int32.toUInt32 31)).toInt32) &&& 858993459)) : Int32).toUInt32 >>> ((4 : Int32).toUInt32 &&& Int32.toUInt32 31)).toInt32)) &&& 252645135) : Int32).toUInt32 >>> ((8 : Int32).toUInt32 &&& Int32.toUInt32 31)).toInt32)) + (((((((((p0 - ((((p0 : Int32).toUInt32 >>> ((1 : Int32).toUInt32 &&& Int32.toUInt32 31)).toInt32) &&& 1431655765)) &&& 858993459) + (((((p0 - ((((p0 : Int32).toUInt32 >>> ((1 : Int32).toUInt32 &&& Int32.toUInt32 31)).toInt32) &&& 1431655765)) : Int32).toUInt32 >>> ((2 : Int32).toUInt32 &&& Int32.toUInt32 31)).toInt32) &&& 858993459)) + ((((((p0 - ((((p0 : Int32).toUInt32 >>> ((1 : Int32).toUInt32 &&& Int32.toUInt32 31)).toInt32) &&& 1431655765)) &&& 858993459) + (((((p0 - ((((p0 : Int32).toUInt32 >>> ((1 : Int32).toUInt32 &&& Int32.toUInt32 31)).toInt32) &&& 1431655765)) : Int32).toUInt32 >>> ((2 : Int32).toUInt32 &&& Int32.toUInt32 31)).toInt32) &&& 858993459)) : Int32).toUInt32 >>> ((4 : Int32).toUInt32 &&& Int32.toUInt32 31)).toInt32)) &&& 252645135) + ((((((((p0 - ((((p0 : Int32).toUInt32 >>> ((1 : Int32).toUInt32 &&& Int32.toUInt32 31)).toInt32) &&& 1431655765)) &&& 858993459) + (((((p0 - ((((p0 : Int32).toUInt32 >>> ((1 : Int32).toUInt32 &&& Int32.toUInt32 31)).toInt32) &&& 1431655765)) : Int32).toUInt32 >>> ((2 : Int32).toUInt32 &&& Int32.toUInt32 31)).toInt32) &&& 858993459)) + ((((((p0 - ((((p0 : Int32).toUInt32 >>> ((1 : Int32).toUInt32 &&& Int32.toUInt32 31)).toInt32) &&& 1431655765)) &&& 858993459) + (((((p0 - ((((p0 : Int32).toUInt32 >>> ((1 : Int32).toUInt32 &&& Int32.toUInt32 31)).toInt32) &&& 1431655765)) : Int32).toUInt32 >>> ((2 : Int32).toUInt32 &&& Int32.toUInt32 31)).toInt32) &&& 858993459)) : Int32).toUInt32 >>> ((4 : Int32).toUInt32 &&& Int32.toUInt32 31)).toInt32)) &&& 252645135) : Int32).toUInt32 >>> ((8 : Int32).toUInt32 &&& Int32.toUInt32 31)).toInt32)) : Int32).toUInt32 >>> ((16 : Int32).toUInt32 &&& Int32.toUInt32 31)).toInt32)))]) (st' := [.int ((((((((p0 - ((((p0 : Int32).toUInt32 >>> ((1 : Int32).toUInt32 &&& Int32.toUInt32 31)).toInt32) &&& 1431655765)) &&& 858993459) + (((((p0 - ((((p0 : Int32).toUInt32 >>> ((1 : Int32).toUInt32 &&& Int32.toUInt32 31)).toInt32) &&& 1431655765)) : Int32).toUInt32 >>> ((2 : Int32).toUInt32 &&& Int32.toUInt32 31)).toInt32) &&& 858993459)) + ((((((p0 - ((((p0 : Int32).toUInt32 >>> ((1 : Int32).toUInt32 &&& Int32.toUInt32 31)).toInt32) &&& 1431655765)) &&& 858993459) + (((((p0 - ((((p0 : Int32).toUInt32 >>> ((1 : Int32).toUInt32 &&& Int32.toUInt32 31)).toInt32) &&& 1431655765)) : Int32).toUInt32 >>> ((2 : Int32).toUInt32 &&& Int32.toUInt32 31)).toInt32) &&& 858993459)) : Int32).toUInt32 >>> ((4 : Int32).toUInt32 &&& Int32.toUInt32 31)).toInt32)) &&& 252645135) + ((((((((p0 - ((((p0 : Int32).toUInt32 >>> ((1 : Int32).toUInt32 &&& Int32.toUInt32 31)).toInt32) &&& 1431655765)) &&& 858993459) + (((((p0 - ((((p0 : Int32).toUInt32 >>> ((1 : Int32).toUInt32 &&& Int32.toUInt32 31)).toInt32) &&& 1431655765)) : Int32).toUInt32 >>> ((2 : Int32).toUInt32 &&& Int32.toUInt32 31)).toInt32) &&& 858993459)) + ((((((p0 - ((((p0 : Int32).toUInt32 >>> ((1 : Int32).toUInt32 &&& Int32.toUInt32 31)).toInt32) &&& 1431655765)) &&& 858993459) + (((((p0 - ((((p0 : Int32).toUInt32 >>> ((1 : Int32).toUInt32 &&& Int32.toUInt32 31)).toInt32) &&& 1431655765)) : Int32).toUInt32 >>> ((2 : Int32).toUInt32 &&& Int32.toUInt32 31)).toInt32) &&& 858993459)) : Int32).toUInt32 >>> ((4 : Int32).toUInt32 &&& Int32.toUInt32 31)).toInt32)) &&& 252645135) : Int32).toUInt32 >>> ((8 : Int32).toUInt32 &&& Int32.toUInt32 31)).toInt32)) + (((((((((p0 - ((((p0 : Int32).toUInt32 >>> ((1 : Int32).toUInt32 &&& Int32.toUInt32 31)).toInt32) &&& 1431655765)) &&& 858993459) + (((((p0 - ((((p0 : Int32).toUInt32 >>> ((1 : Int32).toUInt32 &&& Int32.toUInt32 31)).toInt32) &&& 1431655765)) : Int32).toUInt32 >>> ((2 : Int32).toUInt32 &&& Int32.toUInt32 31)).toInt32) &&& 858993459)) + ((((((p0 - ((((p0 : Int32).toUInt32 >>> ((1 : Int32).toUInt32 &&& Int32.toUInt32 31)).toInt32) &&& 1431655765)) &&& 858993459) + (((((p0 - ((((p0 : Int32).toUInt32 >>> ((1 : Int32).toUInt32 &&& Int32.toUInt32 31)).toInt32) &&& 1431655765)) : Int32).toUInt32 >>> ((2 : Int32).toUInt32 &&& Int32.toUInt32 31)).toInt32) &&& 858993459)) : Int32).toUInt32 >>> ((4 : Int32).toUInt32 &&& Int32.toUInt32 31)).toInt32)) &&& 252645135) + ((((((((p0 - ((((p0 : Int32).toUInt32 >>> ((1 : Int32).toUInt32 &&& Int32.toUInt32 31)).toInt32) &&& 1431655765)) &&& 858993459) + (((((p0 - ((((p0 : Int32).toUInt32 >>> ((1 : Int32).toUInt32 &&& Int32.toUInt32 31)).toInt32) &&& 1431655765)) : Int32).toUInt32 >>> ((2 : Int32).toUInt32 &&& Int32.toUInt32 31)).toInt32) &&& 858993459)) + ((((((p0 - ((((p0 : Int32).toUInt32 >>> ((1 : Int32).toUInt32 &&& Int32.toUInt32 31)).toInt32) &&& 1431655765)) &&& 858993459) + (((((p0 - ((((p0 : Int32).toUInt32 >>> ((1 : Int32).toUInt32 &&& Int32.toUInt32 31)).toInt32) &&& 1431655765)) : Int32).toUInt32 >>> ((2 : Int32).toUInt32 &&& Int32.toUInt32 31)).toInt32) &&& 858993459)) : Int32).toUInt32 >>> ((4 : Int32).toUInt32 &&& Int32.toUInt32 31)).toInt32)) &&& 252645135) : Int32).toUInt32 >>> ((8 : Int32).toUInt32 &&& Int32.toUInt32 31)).toInt32)) : Int32).toUInt32 >>> ((16 : Int32).toUInt32 &&& Int32.toUInt32 31)).toInt32)) &&& 63)]) (hp' := wd σ) rfl ?_
  refine AW_iret hT hE 41 rfl rfl rfl (Nat.le_of_ble_eq_true rfl) (Nat.le_of_ble_eq_true rfl) ?_
  exact ⟨by simp only [x_J6_bitCount_0f7a4], rfl⟩
def x_X2_at_4 (σ : az_S) (p0 : Int32) : Int32 :=
  if p0 < 0 then
    0
  else
    if 12 ≤ p0 then
      0
    else
      ((σ.2.1 5) p0.toNatClampNeg)
set_option maxRecDepth 100000 in
set_option maxHeartbeats 4000000 in
theorem m_X2_at_4 (l0 : Launch) (σ : az_S) (p0 : Int32) : AMet l0 yX2_at cX2_at 2 (some .int) ({ frames := 0, cells := 0, slots := 0, locals := 0 } : Room) false [.ref 4, .int p0] (wd σ) (fun r h => r = some (.int (x_X2_at_4 σ p0)) ∧ h = wd σ) := by
  refine AMet_of (by decide +kernel) (by simp [Value.category]) (Nat.le_of_ble_eq_true rfl) (fun K hK hct hG hE => ?_)
  have hT := tt_X2_at
  refine AW_g hT cl_X2 hK 0 1 (pc' := 1) (lo' := [some (.ref 4), some (.int p0)]) (st' := [.int p0]) (hp' := wd σ) rfl ?_
  refine AW_if_lt hT hK 1 (tgt := 22) rfl rfl (fun c1 => ?_) (fun c1 => ?_)
  · refine AW_g hT cl_X2 hK 12 1 (pc' := 23) (lo' := [some (.ref 4), some (.int p0)]) (st' := [.int 0]) (hp' := wd σ) rfl ?_
    refine AW_iret hT hE 13 rfl rfl rfl (Nat.le_of_ble_eq_true rfl) (Nat.le_of_ble_eq_true rfl) ?_
    exact ⟨by simp only [x_X2_at_4, if_pos c1], rfl⟩
  · refine AW_g hT cl_X2 hK 2 4 (pc' := 10) (lo' := [some (.ref 4), some (.int p0)]) (st' := [.int 12, .int p0]) (hp' := wd σ) rfl ?_
    refine AW_icmp_ge hT hK 6 (tgt := 22) rfl rfl (fun c2 => ?_) (fun c2 => ?_)
    · refine AW_g hT cl_X2 hK 12 1 (pc' := 23) (lo' := [some (.ref 4), some (.int p0)]) (st' := [.int 0]) (hp' := wd σ) rfl ?_
      refine AW_iret hT hE 13 rfl rfl rfl (Nat.le_of_ble_eq_true rfl) (Nat.le_of_ble_eq_true rfl) ?_
      exact ⟨by simp only [x_X2_at_4, if_neg c1, if_pos c2], rfl⟩
    · refine AW_g hT cl_X2 hK 7 3 (pc' := 18) (lo' := [some (.ref 4), some (.int p0)]) (st' := [.int p0, .ref 5]) (hp' := wd σ) rfl ?_
      refine AW_ialdx hT hK 10 rfl (n := 12) (f := (σ.2.1 5)) rfl (az_in12 c1 c2) ?_
      refine AW_goto hT hK 11 (tgt := 23) rfl rfl ?_
      refine AW_iret hT hE 13 rfl rfl rfl (Nat.le_of_ble_eq_true rfl) (Nat.le_of_ble_eq_true rfl) ?_
      exact ⟨by simp only [x_X2_at_4, if_neg c1, if_neg c2], rfl⟩
def x_X2_set_4 (σ : az_S) (p0 : Int32) (p1 : Int32) : az_S :=
  if p0 < 0 then
    σ
  else
    if 12 ≤ p0 then
      σ
    else
      (sG σ 5 (va_up (σ.2.1 5) p0.toNatClampNeg p1))
set_option maxRecDepth 100000 in
set_option maxHeartbeats 4000000 in
theorem m_X2_set_4 (l0 : Launch) (σ : az_S) (p0 : Int32) (p1 : Int32) : AMet l0 yX2_set cX2_set 3 none ({ frames := 0, cells := 0, slots := 0, locals := 0 } : Room) false [.ref 4, .int p0, .int p1] (wd σ) (fun r h => r = none ∧ h = wd (x_X2_set_4 σ p0 p1)) := by
  refine AMet_of (by decide +kernel) (by simp [Value.category]) (Nat.le_of_ble_eq_true rfl) (fun K hK hct hG hE => ?_)
  have hT := tt_X2_set
  refine AW_g hT cl_X2 hK 0 1 (pc' := 1) (lo' := [some (.ref 4), some (.int p0), some (.int p1)]) (st' := [.int p0]) (hp' := wd σ) rfl ?_
  refine AW_if_lt hT hK 1 (tgt := 20) rfl rfl (fun c1 => ?_) (fun c1 => ?_)
  · refine AW_vret hT hE 12 rfl (Nat.le_of_ble_eq_true rfl) (Nat.le_of_ble_eq_true rfl) ?_
    exact ⟨rfl, congrArg wd (by simp only [x_X2_set_4, if_pos c1])⟩
  · refine AW_g hT cl_X2 hK 2 4 (pc' := 10) (lo' := [some (.ref 4), some (.int p0), some (.int p1)]) (st' := [.int 12, .int p0]) (hp' := wd σ) rfl ?_
    refine AW_icmp_ge hT hK 6 (tgt := 20) rfl rfl (fun c2 => ?_) (fun c2 => ?_)
    · refine AW_vret hT hE 12 rfl (Nat.le_of_ble_eq_true rfl) (Nat.le_of_ble_eq_true rfl) ?_
      exact ⟨rfl, congrArg wd (by simp only [x_X2_set_4, if_neg c1, if_pos c2])⟩
    · refine AW_g hT cl_X2 hK 7 4 (pc' := 19) (lo' := [some (.ref 4), some (.int p0), some (.int p1)]) (st' := [.int p1, .int p0, .ref 5]) (hp' := wd σ) rfl ?_
      refine AW_iastx hT hK 11 rfl (n := 12) (f := (σ.2.1 5)) rfl (az_in12 c1 c2) ?_
      refine AW_to (hp' := wd (sG σ 5 (va_up (σ.2.1 5) p0.toNatClampNeg p1))) rfl rfl rfl ?_
      refine AW_vret hT hE 12 rfl (Nat.le_of_ble_eq_true rfl) (Nat.le_of_ble_eq_true rfl) ?_
      exact ⟨rfl, congrArg wd (by simp only [x_X2_set_4, if_neg c1, if_neg c2])⟩
def x_X2_add_4 (σ : az_S) (p0 : Int32) (p1 : Int32) : az_S :=
  let v2 := x_X2_at_4 σ p0
  let τ4 := x_X2_set_4 σ p0 (v2 + p1)
  τ4
set_option maxRecDepth 100000 in
set_option maxHeartbeats 4000000 in
theorem m_X2_add_4 (l0 : Launch) (σ : az_S) (p0 : Int32) (p1 : Int32) : AMet l0 yX2_add cX2_add 3 none ({ frames := 1, cells := 0, slots := 0, locals := 22 } : Room) false [.ref 4, .int p0, .int p1] (wd σ) (fun r h => r = none ∧ h = wd (x_X2_add_4 σ p0 p1)) := by
  refine AMet_of (by decide +kernel) (by simp [Value.category]) (Nat.le_of_ble_eq_true rfl) (fun K hK hct hG hE => ?_)
  have hT := tt_X2_add
  refine AW_g hT cl_X2 hK 0 4 (pc' := 4) (lo' := [some (.ref 4), some (.int p0), some (.int p1)]) (st' := [.int p0, .ref 4, .int p0, .ref 4]) (hp' := wd σ) rfl ?_
  refine AW_callV hT hK 4 [.int p0] [.int p0, .ref 4] (m_X2_at_4 l0 σ p0) cw_X2_at lk_X2_15 vi_X2_at rfl rfl rfl rfl rfl rfl (Nat.le_of_ble_eq_true rfl) (Nat.le_of_ble_eq_true rfl) (AW_k1 (fun v2 h1 => ?_))
  refine AW_g hT cl_X2 hK 5 2 (pc' := 9) (lo' := [some (.ref 4), some (.int p0), some (.int p1)]) (st' := [.int (v2 + p1), .int p0, .ref 4]) (hp' := wd σ) rfl ?_
  refine AW_callV hT hK 7 [.int p0, .int (v2 + p1)] [] (m_X2_set_4 l0 σ p0 (v2 + p1)) cw_X2_set lk_X2_19 vi_X2_set rfl rfl rfl rfl rfl rfl (Nat.le_of_ble_eq_true rfl) (Nat.le_of_ble_eq_true rfl) (AW_kv (fun τ4 h3 => ?_))
  refine AW_vret hT hE 8 rfl (Nat.le_of_ble_eq_true rfl) (Nat.le_of_ble_eq_true rfl) ?_
  subst h3; subst h1; exact ⟨rfl, congrArg wd (by simp only [x_X2_add_4])⟩
def x_X4_at_8 (σ : az_S) (p0 : Int32) (p1 : Int32) : Int32 :=
  if p0 < 0 then
    0
  else
    if 12 ≤ p0 then
      0
    else
      if p1 < 0 then
        0
      else
        if 12 ≤ p1 then
          0
        else
          if ((p0 * 12) + p1) < 0 then
            0
          else
            if 144 ≤ ((p0 * 12) + p1) then
              0
            else
              ((σ.2.1 9) ((p0 * 12) + p1).toNatClampNeg)
set_option maxRecDepth 100000 in
set_option maxHeartbeats 4000000 in
theorem m_X4_at_8 (l0 : Launch) (σ : az_S) (p0 : Int32) (p1 : Int32) : AMet l0 yX4_at cX4_at 5 (some .int) ({ frames := 0, cells := 0, slots := 0, locals := 0 } : Room) false [.ref 8, .int p0, .int p1] (wd σ) (fun r h => r = some (.int (x_X4_at_8 σ p0 p1)) ∧ h = wd σ) := by
  refine AMet_of (by decide +kernel) (by simp [Value.category]) (Nat.le_of_ble_eq_true rfl) (fun K hK hct hG hE => ?_)
  have hT := tt_X4_at
  refine AW_g hT cl_X4 hK 0 7 (pc' := 8) (lo' := [some (.ref 8), some (.int p0), some (.int p1), some (.int ((p0 * 12) + p1)), none]) (st' := [.int p0]) (hp' := wd σ) rfl ?_
  refine AW_if_lt hT hK 7 (tgt := 31) rfl rfl (fun c1 => ?_) (fun c1 => ?_)
  · refine AW_g hT cl_X4 hK 18 3 (pc' := 36) (lo' := [some (.ref 8), some (.int p0), some (.int p1), some (.int ((p0 * 12) + p1)), some (.int 0)]) (st' := [.int 0]) (hp' := wd σ) rfl ?_
    refine AW_if_eq hT hK 21 (tgt := 61) rfl rfl (fun _ => ?_) (fun c2 => absurd (by decide) c2)
    refine AW_g hT cl_X4 hK 34 1 (pc' := 62) (lo' := [some (.ref 8), some (.int p0), some (.int p1), some (.int ((p0 * 12) + p1)), some (.int 0)]) (st' := [.int 0]) (hp' := wd σ) rfl ?_
    refine AW_iret hT hE 35 rfl rfl rfl (Nat.le_of_ble_eq_true rfl) (Nat.le_of_ble_eq_true rfl) ?_
    exact ⟨by simp only [x_X4_at_8, if_pos c1], rfl⟩
  · refine AW_g hT cl_X4 hK 8 2 (pc' := 14) (lo' := [some (.ref 8), some (.int p0), some (.int p1), some (.int ((p0 * 12) + p1)), none]) (st' := [.int 12, .int p0]) (hp' := wd σ) rfl ?_
    refine AW_icmp_ge hT hK 10 (tgt := 31) rfl rfl (fun c3 => ?_) (fun c3 => ?_)
    · refine AW_g hT cl_X4 hK 18 3 (pc' := 36) (lo' := [some (.ref 8), some (.int p0), some (.int p1), some (.int ((p0 * 12) + p1)), some (.int 0)]) (st' := [.int 0]) (hp' := wd σ) rfl ?_
      refine AW_if_eq hT hK 21 (tgt := 61) rfl rfl (fun _ => ?_) (fun c4 => absurd (by decide) c4)
      refine AW_g hT cl_X4 hK 34 1 (pc' := 62) (lo' := [some (.ref 8), some (.int p0), some (.int p1), some (.int ((p0 * 12) + p1)), some (.int 0)]) (st' := [.int 0]) (hp' := wd σ) rfl ?_
      refine AW_iret hT hE 35 rfl rfl rfl (Nat.le_of_ble_eq_true rfl) (Nat.le_of_ble_eq_true rfl) ?_
      exact ⟨by simp only [x_X4_at_8, if_neg c1, if_pos c3], rfl⟩
    · refine AW_g hT cl_X4 hK 11 1 (pc' := 18) (lo' := [some (.ref 8), some (.int p0), some (.int p1), some (.int ((p0 * 12) + p1)), none]) (st' := [.int p1]) (hp' := wd σ) rfl ?_
      refine AW_if_lt hT hK 12 (tgt := 31) rfl rfl (fun c5 => ?_) (fun c5 => ?_)
      · refine AW_g hT cl_X4 hK 18 3 (pc' := 36) (lo' := [some (.ref 8), some (.int p0), some (.int p1), some (.int ((p0 * 12) + p1)), some (.int 0)]) (st' := [.int 0]) (hp' := wd σ) rfl ?_
        refine AW_if_eq hT hK 21 (tgt := 61) rfl rfl (fun _ => ?_) (fun c6 => absurd (by decide) c6)
        refine AW_g hT cl_X4 hK 34 1 (pc' := 62) (lo' := [some (.ref 8), some (.int p0), some (.int p1), some (.int ((p0 * 12) + p1)), some (.int 0)]) (st' := [.int 0]) (hp' := wd σ) rfl ?_
        refine AW_iret hT hE 35 rfl rfl rfl (Nat.le_of_ble_eq_true rfl) (Nat.le_of_ble_eq_true rfl) ?_
        exact ⟨by simp only [x_X4_at_8, if_neg c1, if_neg c3, if_pos c5], rfl⟩
      · refine AW_g hT cl_X4 hK 13 2 (pc' := 24) (lo' := [some (.ref 8), some (.int p0), some (.int p1), some (.int ((p0 * 12) + p1)), none]) (st' := [.int 12, .int p1]) (hp' := wd σ) rfl ?_
        refine AW_icmp_ge hT hK 15 (tgt := 31) rfl rfl (fun c7 => ?_) (fun c7 => ?_)
        · refine AW_g hT cl_X4 hK 18 3 (pc' := 36) (lo' := [some (.ref 8), some (.int p0), some (.int p1), some (.int ((p0 * 12) + p1)), some (.int 0)]) (st' := [.int 0]) (hp' := wd σ) rfl ?_
          refine AW_if_eq hT hK 21 (tgt := 61) rfl rfl (fun _ => ?_) (fun c8 => absurd (by decide) c8)
          refine AW_g hT cl_X4 hK 34 1 (pc' := 62) (lo' := [some (.ref 8), some (.int p0), some (.int p1), some (.int ((p0 * 12) + p1)), some (.int 0)]) (st' := [.int 0]) (hp' := wd σ) rfl ?_
          refine AW_iret hT hE 35 rfl rfl rfl (Nat.le_of_ble_eq_true rfl) (Nat.le_of_ble_eq_true rfl) ?_
          exact ⟨by simp only [x_X4_at_8, if_neg c1, if_neg c3, if_neg c5, if_pos c7], rfl⟩
        · refine AW_g hT cl_X4 hK 16 1 (pc' := 28) (lo' := [some (.ref 8), some (.int p0), some (.int p1), some (.int ((p0 * 12) + p1)), none]) (st' := [.int 1]) (hp' := wd σ) rfl ?_
          refine AW_goto hT hK 17 (tgt := 32) rfl rfl ?_
          refine AW_g hT cl_X4 hK 19 2 (pc' := 36) (lo' := [some (.ref 8), some (.int p0), some (.int p1), some (.int ((p0 * 12) + p1)), some (.int 1)]) (st' := [.int 1]) (hp' := wd σ) rfl ?_
          refine AW_if_eq hT hK 21 (tgt := 61) rfl rfl (fun c9 => absurd c9 (by decide)) (fun _ => ?_)
          refine AW_g hT cl_X4 hK 22 1 (pc' := 40) (lo' := [some (.ref 8), some (.int p0), some (.int p1), some (.int ((p0 * 12) + p1)), some (.int 1)]) (st' := [.int ((p0 * 12) + p1)]) (hp' := wd σ) rfl ?_
          refine AW_if_lt hT hK 23 (tgt := 61) rfl rfl (fun c10 => ?_) (fun c10 => ?_)
          · refine AW_g hT cl_X4 hK 34 1 (pc' := 62) (lo' := [some (.ref 8), some (.int p0), some (.int p1), some (.int ((p0 * 12) + p1)), some (.int 1)]) (st' := [.int 0]) (hp' := wd σ) rfl ?_
            refine AW_iret hT hE 35 rfl rfl rfl (Nat.le_of_ble_eq_true rfl) (Nat.le_of_ble_eq_true rfl) ?_
            exact ⟨by simp only [x_X4_at_8, if_neg c1, if_neg c3, if_neg c5, if_neg c7, if_pos c10], rfl⟩
          · refine AW_g hT cl_X4 hK 24 4 (pc' := 49) (lo' := [some (.ref 8), some (.int p0), some (.int p1), some (.int ((p0 * 12) + p1)), some (.int 1)]) (st' := [.int 144, .int ((p0 * 12) + p1)]) (hp' := wd σ) rfl ?_
            refine AW_icmp_ge hT hK 28 (tgt := 61) rfl rfl (fun c11 => ?_) (fun c11 => ?_)
            · refine AW_g hT cl_X4 hK 34 1 (pc' := 62) (lo' := [some (.ref 8), some (.int p0), some (.int p1), some (.int ((p0 * 12) + p1)), some (.int 1)]) (st' := [.int 0]) (hp' := wd σ) rfl ?_
              refine AW_iret hT hE 35 rfl rfl rfl (Nat.le_of_ble_eq_true rfl) (Nat.le_of_ble_eq_true rfl) ?_
              exact ⟨by simp only [x_X4_at_8, if_neg c1, if_neg c3, if_neg c5, if_neg c7, if_neg c10, if_pos c11], rfl⟩
            · refine AW_g hT cl_X4 hK 29 3 (pc' := 57) (lo' := [some (.ref 8), some (.int p0), some (.int p1), some (.int ((p0 * 12) + p1)), some (.int 1)]) (st' := [.int ((p0 * 12) + p1), .ref 9]) (hp' := wd σ) rfl ?_
              refine AW_ialdx hT hK 32 rfl (n := 144) (f := (σ.2.1 9)) rfl (az_in144 c10 c11) ?_
              refine AW_goto hT hK 33 (tgt := 62) rfl rfl ?_
              refine AW_iret hT hE 35 rfl rfl rfl (Nat.le_of_ble_eq_true rfl) (Nat.le_of_ble_eq_true rfl) ?_
              exact ⟨by simp only [x_X4_at_8, if_neg c1, if_neg c3, if_neg c5, if_neg c7, if_neg c10, if_neg c11], rfl⟩
def x_X4_setOneWay_8 (σ : az_S) (p0 : Int32) (p1 : Int32) (p2 : Int32) : az_S :=
  if p0 < 0 then
    σ
  else
    if 12 ≤ p0 then
      σ
    else
      if p1 < 0 then
        σ
      else
        if 12 ≤ p1 then
          σ
        else
          if ((p0 * 12) + p1) < 0 then
            σ
          else
            if 144 ≤ ((p0 * 12) + p1) then
              σ
            else
              (sG σ 9 (va_up (σ.2.1 9) ((p0 * 12) + p1).toNatClampNeg p2))
set_option maxRecDepth 100000 in
set_option maxHeartbeats 4000000 in
theorem m_X4_setOneWay_8 (l0 : Launch) (σ : az_S) (p0 : Int32) (p1 : Int32) (p2 : Int32) : AMet l0 yX4_setOneWay cX4_setOneWay 6 none ({ frames := 0, cells := 0, slots := 0, locals := 0 } : Room) false [.ref 8, .int p0, .int p1, .int p2] (wd σ) (fun r h => r = none ∧ h = wd (x_X4_setOneWay_8 σ p0 p1 p2)) := by
  refine AMet_of (by decide +kernel) (by simp [Value.category]) (Nat.le_of_ble_eq_true rfl) (fun K hK hct hG hE => ?_)
  have hT := tt_X4_setOneWay
  refine AW_g hT cl_X4 hK 0 7 (pc' := 9) (lo' := [some (.ref 8), some (.int p0), some (.int p1), some (.int p2), some (.int ((p0 * 12) + p1)), none]) (st' := [.int p0]) (hp' := wd σ) rfl ?_
  refine AW_if_lt hT hK 7 (tgt := 32) rfl rfl (fun c1 => ?_) (fun c1 => ?_)
  · refine AW_g hT cl_X4 hK 18 3 (pc' := 37) (lo' := [some (.ref 8), some (.int p0), some (.int p1), some (.int p2), some (.int ((p0 * 12) + p1)), some (.int 0)]) (st' := [.int 0]) (hp' := wd σ) rfl ?_
    refine AW_if_eq hT hK 21 (tgt := 63) rfl rfl (fun _ => ?_) (fun c2 => absurd (by decide) c2)
    refine AW_vret hT hE 34 rfl (Nat.le_of_ble_eq_true rfl) (Nat.le_of_ble_eq_true rfl) ?_
    exact ⟨rfl, congrArg wd (by simp only [x_X4_setOneWay_8, if_pos c1])⟩
  · refine AW_g hT cl_X4 hK 8 2 (pc' := 15) (lo' := [some (.ref 8), some (.int p0), some (.int p1), some (.int p2), some (.int ((p0 * 12) + p1)), none]) (st' := [.int 12, .int p0]) (hp' := wd σ) rfl ?_
    refine AW_icmp_ge hT hK 10 (tgt := 32) rfl rfl (fun c3 => ?_) (fun c3 => ?_)
    · refine AW_g hT cl_X4 hK 18 3 (pc' := 37) (lo' := [some (.ref 8), some (.int p0), some (.int p1), some (.int p2), some (.int ((p0 * 12) + p1)), some (.int 0)]) (st' := [.int 0]) (hp' := wd σ) rfl ?_
      refine AW_if_eq hT hK 21 (tgt := 63) rfl rfl (fun _ => ?_) (fun c4 => absurd (by decide) c4)
      refine AW_vret hT hE 34 rfl (Nat.le_of_ble_eq_true rfl) (Nat.le_of_ble_eq_true rfl) ?_
      exact ⟨rfl, congrArg wd (by simp only [x_X4_setOneWay_8, if_neg c1, if_pos c3])⟩
    · refine AW_g hT cl_X4 hK 11 1 (pc' := 19) (lo' := [some (.ref 8), some (.int p0), some (.int p1), some (.int p2), some (.int ((p0 * 12) + p1)), none]) (st' := [.int p1]) (hp' := wd σ) rfl ?_
      refine AW_if_lt hT hK 12 (tgt := 32) rfl rfl (fun c5 => ?_) (fun c5 => ?_)
      · refine AW_g hT cl_X4 hK 18 3 (pc' := 37) (lo' := [some (.ref 8), some (.int p0), some (.int p1), some (.int p2), some (.int ((p0 * 12) + p1)), some (.int 0)]) (st' := [.int 0]) (hp' := wd σ) rfl ?_
        refine AW_if_eq hT hK 21 (tgt := 63) rfl rfl (fun _ => ?_) (fun c6 => absurd (by decide) c6)
        refine AW_vret hT hE 34 rfl (Nat.le_of_ble_eq_true rfl) (Nat.le_of_ble_eq_true rfl) ?_
        exact ⟨rfl, congrArg wd (by simp only [x_X4_setOneWay_8, if_neg c1, if_neg c3, if_pos c5])⟩
      · refine AW_g hT cl_X4 hK 13 2 (pc' := 25) (lo' := [some (.ref 8), some (.int p0), some (.int p1), some (.int p2), some (.int ((p0 * 12) + p1)), none]) (st' := [.int 12, .int p1]) (hp' := wd σ) rfl ?_
        refine AW_icmp_ge hT hK 15 (tgt := 32) rfl rfl (fun c7 => ?_) (fun c7 => ?_)
        · refine AW_g hT cl_X4 hK 18 3 (pc' := 37) (lo' := [some (.ref 8), some (.int p0), some (.int p1), some (.int p2), some (.int ((p0 * 12) + p1)), some (.int 0)]) (st' := [.int 0]) (hp' := wd σ) rfl ?_
          refine AW_if_eq hT hK 21 (tgt := 63) rfl rfl (fun _ => ?_) (fun c8 => absurd (by decide) c8)
          refine AW_vret hT hE 34 rfl (Nat.le_of_ble_eq_true rfl) (Nat.le_of_ble_eq_true rfl) ?_
          exact ⟨rfl, congrArg wd (by simp only [x_X4_setOneWay_8, if_neg c1, if_neg c3, if_neg c5, if_pos c7])⟩
        · refine AW_g hT cl_X4 hK 16 1 (pc' := 29) (lo' := [some (.ref 8), some (.int p0), some (.int p1), some (.int p2), some (.int ((p0 * 12) + p1)), none]) (st' := [.int 1]) (hp' := wd σ) rfl ?_
          refine AW_goto hT hK 17 (tgt := 33) rfl rfl ?_
          refine AW_g hT cl_X4 hK 19 2 (pc' := 37) (lo' := [some (.ref 8), some (.int p0), some (.int p1), some (.int p2), some (.int ((p0 * 12) + p1)), some (.int 1)]) (st' := [.int 1]) (hp' := wd σ) rfl ?_
          refine AW_if_eq hT hK 21 (tgt := 63) rfl rfl (fun c9 => absurd c9 (by decide)) (fun _ => ?_)
          refine AW_g hT cl_X4 hK 22 1 (pc' := 42) (lo' := [some (.ref 8), some (.int p0), some (.int p1), some (.int p2), some (.int ((p0 * 12) + p1)), some (.int 1)]) (st' := [.int ((p0 * 12) + p1)]) (hp' := wd σ) rfl ?_
          refine AW_if_lt hT hK 23 (tgt := 63) rfl rfl (fun c10 => ?_) (fun c10 => ?_)
          · refine AW_vret hT hE 34 rfl (Nat.le_of_ble_eq_true rfl) (Nat.le_of_ble_eq_true rfl) ?_
            exact ⟨rfl, congrArg wd (by simp only [x_X4_setOneWay_8, if_neg c1, if_neg c3, if_neg c5, if_neg c7, if_pos c10])⟩
          · refine AW_g hT cl_X4 hK 24 4 (pc' := 52) (lo' := [some (.ref 8), some (.int p0), some (.int p1), some (.int p2), some (.int ((p0 * 12) + p1)), some (.int 1)]) (st' := [.int 144, .int ((p0 * 12) + p1)]) (hp' := wd σ) rfl ?_
            refine AW_icmp_ge hT hK 28 (tgt := 63) rfl rfl (fun c11 => ?_) (fun c11 => ?_)
            · refine AW_vret hT hE 34 rfl (Nat.le_of_ble_eq_true rfl) (Nat.le_of_ble_eq_true rfl) ?_
              exact ⟨rfl, congrArg wd (by simp only [x_X4_setOneWay_8, if_neg c1, if_neg c3, if_neg c5, if_neg c7, if_neg c10, if_pos c11])⟩
            · refine AW_g hT cl_X4 hK 29 4 (pc' := 62) (lo' := [some (.ref 8), some (.int p0), some (.int p1), some (.int p2), some (.int ((p0 * 12) + p1)), some (.int 1)]) (st' := [.int p2, .int ((p0 * 12) + p1), .ref 9]) (hp' := wd σ) rfl ?_
              refine AW_iastx hT hK 33 rfl (n := 144) (f := (σ.2.1 9)) rfl (az_in144 c10 c11) ?_
              refine AW_to (hp' := wd (sG σ 9 (va_up (σ.2.1 9) ((p0 * 12) + p1).toNatClampNeg p2))) rfl rfl rfl ?_
              refine AW_vret hT hE 34 rfl (Nat.le_of_ble_eq_true rfl) (Nat.le_of_ble_eq_true rfl) ?_
              exact ⟨rfl, congrArg wd (by simp only [x_X4_setOneWay_8, if_neg c1, if_neg c3, if_neg c5, if_neg c7, if_neg c10, if_neg c11])⟩
def x_X4_set_8 (σ : az_S) (p0 : Int32) (p1 : Int32) (p2 : Int32) : az_S :=
  let τ2 := x_X4_setOneWay_8 σ p0 p1 p2
  let τ4 := x_X4_setOneWay_8 (τ2) p1 p0 p2
  τ4
set_option maxRecDepth 100000 in
set_option maxHeartbeats 4000000 in
theorem m_X4_set_8 (l0 : Launch) (σ : az_S) (p0 : Int32) (p1 : Int32) (p2 : Int32) : AMet l0 yX4_set cX4_set 4 none ({ frames := 1, cells := 0, slots := 0, locals := 25 } : Room) false [.ref 8, .int p0, .int p1, .int p2] (wd σ) (fun r h => r = none ∧ h = wd (x_X4_set_8 σ p0 p1 p2)) := by
  refine AMet_of (by decide +kernel) (by simp [Value.category]) (Nat.le_of_ble_eq_true rfl) (fun K hK hct hG hE => ?_)
  have hT := tt_X4_set
  refine AW_g hT cl_X4 hK 0 4 (pc' := 4) (lo' := [some (.ref 8), some (.int p0), some (.int p1), some (.int p2)]) (st' := [.int p2, .int p1, .int p0, .ref 8]) (hp' := wd σ) rfl ?_
  refine AW_callV hT hK 4 [.int p0, .int p1, .int p2] [] (m_X4_setOneWay_8 l0 σ p0 p1 p2) cw_X4_setOneWay lk_X4_15 vi_X4_setOneWay rfl rfl rfl rfl rfl rfl (Nat.le_of_ble_eq_true rfl) (Nat.le_of_ble_eq_true rfl) (AW_kv (fun τ2 h1 => ?_))
  refine AW_g hT cl_X4 hK 5 4 (pc' := 11) (lo' := [some (.ref 8), some (.int p0), some (.int p1), some (.int p2)]) (st' := [.int p2, .int p0, .int p1, .ref 8]) (hp' := wd (τ2)) rfl ?_
  refine AW_callV hT hK 9 [.int p1, .int p0, .int p2] [] (m_X4_setOneWay_8 l0 (τ2) p1 p0 p2) cw_X4_setOneWay lk_X4_15 vi_X4_setOneWay rfl rfl rfl rfl rfl rfl (Nat.le_of_ble_eq_true rfl) (Nat.le_of_ble_eq_true rfl) (AW_kv (fun τ4 h3 => ?_))
  refine AW_vret hT hE 10 rfl (Nat.le_of_ble_eq_true rfl) (Nat.le_of_ble_eq_true rfl) ?_
  subst h3; subst h1; exact ⟨rfl, congrArg wd (by simp only [x_X4_set_8])⟩
def x_X4_add_8 (σ : az_S) (p0 : Int32) (p1 : Int32) (p2 : Int32) : az_S :=
  let v2 := x_X4_at_8 σ p0 p1
  let τ4 := x_X4_setOneWay_8 σ p0 p1 (v2 + p2)
  let τ6 := x_X4_setOneWay_8 (τ4) p1 p0 (v2 + p2)
  τ6
set_option maxRecDepth 100000 in
set_option maxHeartbeats 4000000 in
theorem m_X4_add_8 (l0 : Launch) (σ : az_S) (p0 : Int32) (p1 : Int32) (p2 : Int32) : AMet l0 yX4_add cX4_add 5 none ({ frames := 1, cells := 0, slots := 0, locals := 25 } : Room) false [.ref 8, .int p0, .int p1, .int p2] (wd σ) (fun r h => r = none ∧ h = wd (x_X4_add_8 σ p0 p1 p2)) := by
  refine AMet_of (by decide +kernel) (by simp [Value.category]) (Nat.le_of_ble_eq_true rfl) (fun K hK hct hG hE => ?_)
  have hT := tt_X4_add
  refine AW_g hT cl_X4 hK 0 3 (pc' := 3) (lo' := [some (.ref 8), some (.int p0), some (.int p1), some (.int p2), none]) (st' := [.int p1, .int p0, .ref 8]) (hp' := wd σ) rfl ?_
  refine AW_callV hT hK 3 [.int p0, .int p1] [] (m_X4_at_8 l0 σ p0 p1) cw_X4_at lk_X4_19 vi_X4_at rfl rfl rfl rfl rfl rfl (Nat.le_of_ble_eq_true rfl) (Nat.le_of_ble_eq_true rfl) (AW_k1 (fun v2 h1 => ?_))
  refine AW_g hT cl_X4 hK 4 7 (pc' := 15) (lo' := [some (.ref 8), some (.int p0), some (.int p1), some (.int p2), some (.int (v2 + p2))]) (st' := [.int (v2 + p2), .int p1, .int p0, .ref 8]) (hp' := wd σ) rfl ?_
  refine AW_callV hT hK 11 [.int p0, .int p1, .int (v2 + p2)] [] (m_X4_setOneWay_8 l0 σ p0 p1 (v2 + p2)) cw_X4_setOneWay lk_X4_15 vi_X4_setOneWay rfl rfl rfl rfl rfl rfl (Nat.le_of_ble_eq_true rfl) (Nat.le_of_ble_eq_true rfl) (AW_kv (fun τ4 h3 => ?_))
  refine AW_g hT cl_X4 hK 12 4 (pc' := 23) (lo' := [some (.ref 8), some (.int p0), some (.int p1), some (.int p2), some (.int (v2 + p2))]) (st' := [.int (v2 + p2), .int p0, .int p1, .ref 8]) (hp' := wd (τ4)) rfl ?_
  refine AW_callV hT hK 16 [.int p1, .int p0, .int (v2 + p2)] [] (m_X4_setOneWay_8 l0 (τ4) p1 p0 (v2 + p2)) cw_X4_setOneWay lk_X4_15 vi_X4_setOneWay rfl rfl rfl rfl rfl rfl (Nat.le_of_ble_eq_true rfl) (Nat.le_of_ble_eq_true rfl) (AW_kv (fun τ6 h5 => ?_))
  refine AW_vret hT hE 17 rfl (Nat.le_of_ble_eq_true rfl) (Nat.le_of_ble_eq_true rfl) ?_
  subst h5; subst h3; subst h1; exact ⟨rfl, congrArg wd (by simp only [x_X4_add_8])⟩
end AZP
end
section
section AZP
def x_X3_has (σ : az_S) (p0 : Int32) : Int32 :=
  let v2 := x_X5_holds σ (σ.1 2) p0
  v2
set_option maxRecDepth 100000 in
set_option maxHeartbeats 4000000 in
theorem m_X3_has (l0 : Launch) (σ : az_S) (p0 : Int32) : AMet l0 yX3_has cX3_has 2 (some .boolean) ({ frames := 1, cells := 0, slots := 0, locals := 21 } : Room) false [.ref 1, .int p0] (wd σ) (fun r h => r = some (.int (x_X3_has σ p0)) ∧ h = wd σ) := by
  refine AMet_of (by decide +kernel) (by simp [Value.category]) (Nat.le_of_ble_eq_true rfl) (fun K hK hct hG hE => ?_)
  have hT := tt_X3_has
  refine AW_g hT cl_X3 hK 0 3 (pc' := 5) (lo' := [some (.ref 1), some (.int p0)]) (st' := [.int p0, .int (σ.1 2)]) (hp' := wd σ) rfl ?_
  refine AW_callSN hT hK 3 [.int (σ.1 2), .int p0] [] (m_X5_holds l0 σ (σ.1 2) p0) cw_X5_holds lk_X3_44 sm_X5_holds rfl rfl rfl rfl (Nat.le_of_ble_eq_true rfl) (Nat.le_of_ble_eq_true rfl) (AW_k1 (fun v2 h1 => ?_))
  refine AW_iret hT hE 4 rfl rfl (by rw [← h1]; exact nb_X5_holds _ _ _) (Nat.le_of_ble_eq_true rfl) (Nat.le_of_ble_eq_true rfl) ?_
  subst h1; exact ⟨by simp only [x_X3_has], rfl⟩
theorem nb_X3_has (σ : az_S) (p0 : Int32) : narrow .boolean (.int (x_X3_has σ p0)) = .int (x_X3_has σ p0) := by
  unfold x_X3_has
  exact nb_X5_holds _ _ _
def x_X3_hasAll (σ : az_S) (p0 : Int32) : Int32 :=
  if (p0 &&& ((σ.1 2) ^^^ (-1))) = 0 then
    1
  else
    0
set_option maxRecDepth 100000 in
set_option maxHeartbeats 4000000 in
theorem m_X3_hasAll (l0 : Launch) (σ : az_S) (p0 : Int32) : AMet l0 yX3_hasAll cX3_hasAll 2 (some .boolean) ({ frames := 0, cells := 0, slots := 0, locals := 0 } : Room) false [.ref 1, .int p0] (wd σ) (fun r h => r = some (.int (x_X3_hasAll σ p0)) ∧ h = wd σ) := by
  refine AMet_of (by decide +kernel) (by simp [Value.category]) (Nat.le_of_ble_eq_true rfl) (fun K hK hct hG hE => ?_)
  have hT := tt_X3_hasAll
  refine AW_g hT cl_X3 hK 0 6 (pc' := 8) (lo' := [some (.ref 1), some (.int p0)]) (st' := [.int (p0 &&& ((σ.1 2) ^^^ (-1)))]) (hp' := wd σ) rfl ?_
  refine AW_if_ne hT hK 6 (tgt := 15) rfl rfl (fun c1 => ?_) (fun c1 => ?_)
  · refine AW_g hT cl_X3 hK 9 1 (pc' := 16) (lo' := [some (.ref 1), some (.int p0)]) (st' := [.int 0]) (hp' := wd σ) rfl ?_
    refine AW_iret hT hE 10 rfl rfl rfl (Nat.le_of_ble_eq_true rfl) (Nat.le_of_ble_eq_true rfl) ?_
    exact ⟨by simp only [x_X3_hasAll, if_neg c1], rfl⟩
  · refine AW_g hT cl_X3 hK 7 1 (pc' := 12) (lo' := [some (.ref 1), some (.int p0)]) (st' := [.int 1]) (hp' := wd σ) rfl ?_
    refine AW_goto hT hK 8 (tgt := 16) rfl rfl ?_
    refine AW_iret hT hE 10 rfl rfl rfl (Nat.le_of_ble_eq_true rfl) (Nat.le_of_ble_eq_true rfl) ?_
    exact ⟨by simp only [x_X3_hasAll, if_pos c1], rfl⟩
theorem nb_X3_hasAll (σ : az_S) (p0 : Int32) : narrow .boolean (.int (x_X3_hasAll σ p0)) = .int (x_X3_hasAll σ p0) := by
  unfold x_X3_hasAll
  (try dsimp only)
  (repeat' split) <;> first | rfl | (dsimp only; rfl)
def x_X3_allThere (σ : az_S) : Int32 :=
  (σ.1 2)
set_option maxRecDepth 100000 in
set_option maxHeartbeats 4000000 in
theorem m_X3_allThere (l0 : Launch) (σ : az_S) : AMet l0 yX3_allThere cX3_allThere 1 (some .int) ({ frames := 0, cells := 0, slots := 0, locals := 0 } : Room) false [.ref 1] (wd σ) (fun r h => r = some (.int (x_X3_allThere σ)) ∧ h = wd σ) := by
  refine AMet_of (by decide +kernel) (by simp [Value.category]) (Nat.le_of_ble_eq_true rfl) (fun K hK hct hG hE => ?_)
  have hT := tt_X3_allThere
  refine AW_g hT cl_X3 hK 0 2 (pc' := 4) (lo' := [some (.ref 1)]) (st' := [.int (σ.1 2)]) (hp' := wd σ) rfl ?_
  refine AW_iret hT hE 2 rfl rfl rfl (Nat.le_of_ble_eq_true rfl) (Nat.le_of_ble_eq_true rfl) ?_
  exact ⟨by simp only [x_X3_allThere], rfl⟩
def x_X3_isFull (σ : az_S) : Int32 :=
  if (σ.1 0) < 12 then
    0
  else
    1
set_option maxRecDepth 100000 in
set_option maxHeartbeats 4000000 in
theorem m_X3_isFull (l0 : Launch) (σ : az_S) : AMet l0 yX3_isFull cX3_isFull 1 (some .boolean) ({ frames := 0, cells := 0, slots := 0, locals := 0 } : Room) false [.ref 1] (wd σ) (fun r h => r = some (.int (x_X3_isFull σ)) ∧ h = wd σ) := by
  refine AMet_of (by decide +kernel) (by simp [Value.category]) (Nat.le_of_ble_eq_true rfl) (fun K hK hct hG hE => ?_)
  have hT := tt_X3_isFull
  refine AW_g hT cl_X3 hK 0 3 (pc' := 6) (lo' := [some (.ref 1)]) (st' := [.int 12, .int (σ.1 0)]) (hp' := wd σ) rfl ?_
  refine AW_icmp_lt hT hK 3 (tgt := 13) rfl rfl (fun c1 => ?_) (fun c1 => ?_)
  · refine AW_g hT cl_X3 hK 6 1 (pc' := 14) (lo' := [some (.ref 1)]) (st' := [.int 0]) (hp' := wd σ) rfl ?_
    refine AW_iret hT hE 7 rfl rfl rfl (Nat.le_of_ble_eq_true rfl) (Nat.le_of_ble_eq_true rfl) ?_
    exact ⟨by simp only [x_X3_isFull, if_pos c1], rfl⟩
  · refine AW_g hT cl_X3 hK 4 1 (pc' := 10) (lo' := [some (.ref 1)]) (st' := [.int 1]) (hp' := wd σ) rfl ?_
    refine AW_goto hT hK 5 (tgt := 14) rfl rfl ?_
    refine AW_iret hT hE 7 rfl rfl rfl (Nat.le_of_ble_eq_true rfl) (Nat.le_of_ble_eq_true rfl) ?_
    exact ⟨by simp only [x_X3_isFull, if_neg c1], rfl⟩
theorem nb_X3_isFull (σ : az_S) : narrow .boolean (.int (x_X3_isFull σ)) = .int (x_X3_isFull σ) := by
  unfold x_X3_isFull
  (try dsimp only)
  (repeat' split) <;> first | rfl | (dsimp only; rfl)
def x_X3_takesYear (σ : az_S) (p0 : Int32) : Int32 :=
  if p0 < (σ.1 1) then
    0
  else
    if 99 < p0 then
      0
    else
      1
set_option maxRecDepth 100000 in
set_option maxHeartbeats 4000000 in
theorem m_X3_takesYear (l0 : Launch) (σ : az_S) (p0 : Int32) : AMet l0 yX3_takesYear cX3_takesYear 2 (some .boolean) ({ frames := 0, cells := 0, slots := 0, locals := 0 } : Room) false [.ref 1, .int p0] (wd σ) (fun r h => r = some (.int (x_X3_takesYear σ p0)) ∧ h = wd σ) := by
  refine AMet_of (by decide +kernel) (by simp [Value.category]) (Nat.le_of_ble_eq_true rfl) (fun K hK hct hG hE => ?_)
  have hT := tt_X3_takesYear
  refine AW_g hT cl_X3 hK 0 3 (pc' := 5) (lo' := [some (.ref 1), some (.int p0)]) (st' := [.int (σ.1 1), .int p0]) (hp' := wd σ) rfl ?_
  refine AW_icmp_lt hT hK 3 (tgt := 18) rfl rfl (fun c1 => ?_) (fun c1 => ?_)
  · refine AW_g hT cl_X3 hK 9 1 (pc' := 19) (lo' := [some (.ref 1), some (.int p0)]) (st' := [.int 0]) (hp' := wd σ) rfl ?_
    refine AW_iret hT hE 10 rfl rfl rfl (Nat.le_of_ble_eq_true rfl) (Nat.le_of_ble_eq_true rfl) ?_
    exact ⟨by simp only [x_X3_takesYear, if_pos c1], rfl⟩
  · refine AW_g hT cl_X3 hK 4 2 (pc' := 11) (lo' := [some (.ref 1), some (.int p0)]) (st' := [.int 99, .int p0]) (hp' := wd σ) rfl ?_
    refine AW_icmp_gt hT hK 6 (tgt := 18) rfl rfl (fun c2 => ?_) (fun c2 => ?_)
    · refine AW_g hT cl_X3 hK 9 1 (pc' := 19) (lo' := [some (.ref 1), some (.int p0)]) (st' := [.int 0]) (hp' := wd σ) rfl ?_
      refine AW_iret hT hE 10 rfl rfl rfl (Nat.le_of_ble_eq_true rfl) (Nat.le_of_ble_eq_true rfl) ?_
      exact ⟨by simp only [x_X3_takesYear, if_neg c1, if_pos c2], rfl⟩
    · refine AW_g hT cl_X3 hK 7 1 (pc' := 15) (lo' := [some (.ref 1), some (.int p0)]) (st' := [.int 1]) (hp' := wd σ) rfl ?_
      refine AW_goto hT hK 8 (tgt := 19) rfl rfl ?_
      refine AW_iret hT hE 10 rfl rfl rfl (Nat.le_of_ble_eq_true rfl) (Nat.le_of_ble_eq_true rfl) ?_
      exact ⟨by simp only [x_X3_takesYear, if_neg c1, if_neg c2], rfl⟩
theorem nb_X3_takesYear (σ : az_S) (p0 : Int32) : narrow .boolean (.int (x_X3_takesYear σ p0)) = .int (x_X3_takesYear σ p0) := by
  unfold x_X3_takesYear
  (try dsimp only)
  (repeat' split) <;> first | rfl | (dsimp only; rfl)
def x_X3_referredBy (σ : az_S) (p0 : Int32) : Int32 :=
  let v2 := x_X2_at_4 σ p0
  v2
set_option maxRecDepth 100000 in
set_option maxHeartbeats 4000000 in
theorem m_X3_referredBy (l0 : Launch) (σ : az_S) (p0 : Int32) : AMet l0 yX3_referredBy cX3_referredBy 2 (some .int) ({ frames := 1, cells := 0, slots := 0, locals := 21 } : Room) false [.ref 1, .int p0] (wd σ) (fun r h => r = some (.int (x_X3_referredBy σ p0)) ∧ h = wd σ) := by
  refine AMet_of (by decide +kernel) (by simp [Value.category]) (Nat.le_of_ble_eq_true rfl) (fun K hK hct hG hE => ?_)
  have hT := tt_X3_referredBy
  refine AW_g hT cl_X3 hK 0 3 (pc' := 5) (lo' := [some (.ref 1), some (.int p0)]) (st' := [.int p0, .ref 4]) (hp' := wd σ) rfl ?_
  refine AW_callV hT hK 3 [.int p0] [] (m_X2_at_4 l0 σ p0) cw_X2_at lk_X3_48 vi_X2_at rfl rfl rfl rfl rfl rfl (Nat.le_of_ble_eq_true rfl) (Nat.le_of_ble_eq_true rfl) (AW_k1 (fun v2 h1 => ?_))
  refine AW_iret hT hE 4 rfl rfl rfl (Nat.le_of_ble_eq_true rfl) (Nat.le_of_ble_eq_true rfl) ?_
  subst h1; exact ⟨by simp only [x_X3_referredBy], rfl⟩
def x_X2_at_6 (σ : az_S) (p0 : Int32) : Int32 :=
  if p0 < 0 then
    0
  else
    if 12 ≤ p0 then
      0
    else
      ((σ.2.1 7) p0.toNatClampNeg)
set_option maxRecDepth 100000 in
set_option maxHeartbeats 4000000 in
theorem m_X2_at_6 (l0 : Launch) (σ : az_S) (p0 : Int32) : AMet l0 yX2_at cX2_at 2 (some .int) ({ frames := 0, cells := 0, slots := 0, locals := 0 } : Room) false [.ref 6, .int p0] (wd σ) (fun r h => r = some (.int (x_X2_at_6 σ p0)) ∧ h = wd σ) := by
  refine AMet_of (by decide +kernel) (by simp [Value.category]) (Nat.le_of_ble_eq_true rfl) (fun K hK hct hG hE => ?_)
  have hT := tt_X2_at
  refine AW_g hT cl_X2 hK 0 1 (pc' := 1) (lo' := [some (.ref 6), some (.int p0)]) (st' := [.int p0]) (hp' := wd σ) rfl ?_
  refine AW_if_lt hT hK 1 (tgt := 22) rfl rfl (fun c1 => ?_) (fun c1 => ?_)
  · refine AW_g hT cl_X2 hK 12 1 (pc' := 23) (lo' := [some (.ref 6), some (.int p0)]) (st' := [.int 0]) (hp' := wd σ) rfl ?_
    refine AW_iret hT hE 13 rfl rfl rfl (Nat.le_of_ble_eq_true rfl) (Nat.le_of_ble_eq_true rfl) ?_
    exact ⟨by simp only [x_X2_at_6, if_pos c1], rfl⟩
  · refine AW_g hT cl_X2 hK 2 4 (pc' := 10) (lo' := [some (.ref 6), some (.int p0)]) (st' := [.int 12, .int p0]) (hp' := wd σ) rfl ?_
    refine AW_icmp_ge hT hK 6 (tgt := 22) rfl rfl (fun c2 => ?_) (fun c2 => ?_)
    · refine AW_g hT cl_X2 hK 12 1 (pc' := 23) (lo' := [some (.ref 6), some (.int p0)]) (st' := [.int 0]) (hp' := wd σ) rfl ?_
      refine AW_iret hT hE 13 rfl rfl rfl (Nat.le_of_ble_eq_true rfl) (Nat.le_of_ble_eq_true rfl) ?_
      exact ⟨by simp only [x_X2_at_6, if_neg c1, if_pos c2], rfl⟩
    · refine AW_g hT cl_X2 hK 7 3 (pc' := 18) (lo' := [some (.ref 6), some (.int p0)]) (st' := [.int p0, .ref 7]) (hp' := wd σ) rfl ?_
      refine AW_ialdx hT hK 10 rfl (n := 12) (f := (σ.2.1 7)) rfl (az_in12 c1 c2) ?_
      refine AW_goto hT hK 11 (tgt := 23) rfl rfl ?_
      refine AW_iret hT hE 13 rfl rfl rfl (Nat.le_of_ble_eq_true rfl) (Nat.le_of_ble_eq_true rfl) ?_
      exact ⟨by simp only [x_X2_at_6, if_neg c1, if_neg c2], rfl⟩
def x_X3_citersOf (σ : az_S) (p0 : Int32) : Int32 :=
  let v2 := x_X2_at_6 σ p0
  v2
set_option maxRecDepth 100000 in
set_option maxHeartbeats 4000000 in
theorem m_X3_citersOf (l0 : Launch) (σ : az_S) (p0 : Int32) : AMet l0 yX3_citersOf cX3_citersOf 2 (some .int) ({ frames := 1, cells := 0, slots := 0, locals := 21 } : Room) false [.ref 1, .int p0] (wd σ) (fun r h => r = some (.int (x_X3_citersOf σ p0)) ∧ h = wd σ) := by
  refine AMet_of (by decide +kernel) (by simp [Value.category]) (Nat.le_of_ble_eq_true rfl) (fun K hK hct hG hE => ?_)
  have hT := tt_X3_citersOf
  refine AW_g hT cl_X3 hK 0 3 (pc' := 5) (lo' := [some (.ref 1), some (.int p0)]) (st' := [.int p0, .ref 6]) (hp' := wd σ) rfl ?_
  refine AW_callV hT hK 3 [.int p0] [] (m_X2_at_6 l0 σ p0) cw_X2_at lk_X3_48 vi_X2_at rfl rfl rfl rfl rfl rfl (Nat.le_of_ble_eq_true rfl) (Nat.le_of_ble_eq_true rfl) (AW_k1 (fun v2 h1 => ?_))
  refine AW_iret hT hE 4 rfl rfl rfl (Nat.le_of_ble_eq_true rfl) (Nat.le_of_ble_eq_true rfl) ?_
  subst h1; exact ⟨by simp only [x_X3_citersOf], rfl⟩
def x_X3_cites (σ : az_S) (p0 : Int32) (p1 : Int32) : Int32 :=
  let v2 := x_X2_at_4 σ p0
  let v4 := x_X5_holds σ v2 p1
  v4
set_option maxRecDepth 100000 in
set_option maxHeartbeats 4000000 in
theorem m_X3_cites (l0 : Launch) (σ : az_S) (p0 : Int32) (p1 : Int32) : AMet l0 yX3_cites cX3_cites 3 (some .boolean) ({ frames := 1, cells := 0, slots := 0, locals := 21 } : Room) false [.ref 1, .int p0, .int p1] (wd σ) (fun r h => r = some (.int (x_X3_cites σ p0 p1)) ∧ h = wd σ) := by
  refine AMet_of (by decide +kernel) (by simp [Value.category]) (Nat.le_of_ble_eq_true rfl) (fun K hK hct hG hE => ?_)
  have hT := tt_X3_cites
  refine AW_g hT cl_X3 hK 0 3 (pc' := 5) (lo' := [some (.ref 1), some (.int p0), some (.int p1)]) (st' := [.int p0, .ref 4]) (hp' := wd σ) rfl ?_
  refine AW_callV hT hK 3 [.int p0] [] (m_X2_at_4 l0 σ p0) cw_X2_at lk_X3_48 vi_X2_at rfl rfl rfl rfl rfl rfl (Nat.le_of_ble_eq_true rfl) (Nat.le_of_ble_eq_true rfl) (AW_k1 (fun v2 h1 => ?_))
  refine AW_g hT cl_X3 hK 4 1 (pc' := 9) (lo' := [some (.ref 1), some (.int p0), some (.int p1)]) (st' := [.int p1, .int v2]) (hp' := wd σ) rfl ?_
  refine AW_callSN hT hK 5 [.int v2, .int p1] [] (m_X5_holds l0 σ v2 p1) cw_X5_holds lk_X3_44 sm_X5_holds rfl rfl rfl rfl (Nat.le_of_ble_eq_true rfl) (Nat.le_of_ble_eq_true rfl) (AW_k1 (fun v4 h3 => ?_))
  refine AW_iret hT hE 6 rfl rfl (by rw [← h3]; exact nb_X5_holds _ _ _) (Nat.le_of_ble_eq_true rfl) (Nat.le_of_ble_eq_true rfl) ?_
  subst h3; subst h1; exact ⟨by simp only [x_X3_cites], rfl⟩
theorem nb_X3_cites (σ : az_S) (p0 : Int32) (p1 : Int32) : narrow .boolean (.int (x_X3_cites σ p0 p1)) = .int (x_X3_cites σ p0 p1) := by
  unfold x_X3_cites
  exact nb_X5_holds _ _ _
def x_X4_at_10 (σ : az_S) (p0 : Int32) (p1 : Int32) : Int32 :=
  if p0 < 0 then
    0
  else
    if 12 ≤ p0 then
      0
    else
      if p1 < 0 then
        0
      else
        if 12 ≤ p1 then
          0
        else
          if ((p0 * 12) + p1) < 0 then
            0
          else
            if 144 ≤ ((p0 * 12) + p1) then
              0
            else
              ((σ.2.1 11) ((p0 * 12) + p1).toNatClampNeg)
set_option maxRecDepth 100000 in
set_option maxHeartbeats 4000000 in
theorem m_X4_at_10 (l0 : Launch) (σ : az_S) (p0 : Int32) (p1 : Int32) : AMet l0 yX4_at cX4_at 5 (some .int) ({ frames := 0, cells := 0, slots := 0, locals := 0 } : Room) false [.ref 10, .int p0, .int p1] (wd σ) (fun r h => r = some (.int (x_X4_at_10 σ p0 p1)) ∧ h = wd σ) := by
  refine AMet_of (by decide +kernel) (by simp [Value.category]) (Nat.le_of_ble_eq_true rfl) (fun K hK hct hG hE => ?_)
  have hT := tt_X4_at
  refine AW_g hT cl_X4 hK 0 7 (pc' := 8) (lo' := [some (.ref 10), some (.int p0), some (.int p1), some (.int ((p0 * 12) + p1)), none]) (st' := [.int p0]) (hp' := wd σ) rfl ?_
  refine AW_if_lt hT hK 7 (tgt := 31) rfl rfl (fun c1 => ?_) (fun c1 => ?_)
  · refine AW_g hT cl_X4 hK 18 3 (pc' := 36) (lo' := [some (.ref 10), some (.int p0), some (.int p1), some (.int ((p0 * 12) + p1)), some (.int 0)]) (st' := [.int 0]) (hp' := wd σ) rfl ?_
    refine AW_if_eq hT hK 21 (tgt := 61) rfl rfl (fun _ => ?_) (fun c2 => absurd (by decide) c2)
    refine AW_g hT cl_X4 hK 34 1 (pc' := 62) (lo' := [some (.ref 10), some (.int p0), some (.int p1), some (.int ((p0 * 12) + p1)), some (.int 0)]) (st' := [.int 0]) (hp' := wd σ) rfl ?_
    refine AW_iret hT hE 35 rfl rfl rfl (Nat.le_of_ble_eq_true rfl) (Nat.le_of_ble_eq_true rfl) ?_
    exact ⟨by simp only [x_X4_at_10, if_pos c1], rfl⟩
  · refine AW_g hT cl_X4 hK 8 2 (pc' := 14) (lo' := [some (.ref 10), some (.int p0), some (.int p1), some (.int ((p0 * 12) + p1)), none]) (st' := [.int 12, .int p0]) (hp' := wd σ) rfl ?_
    refine AW_icmp_ge hT hK 10 (tgt := 31) rfl rfl (fun c3 => ?_) (fun c3 => ?_)
    · refine AW_g hT cl_X4 hK 18 3 (pc' := 36) (lo' := [some (.ref 10), some (.int p0), some (.int p1), some (.int ((p0 * 12) + p1)), some (.int 0)]) (st' := [.int 0]) (hp' := wd σ) rfl ?_
      refine AW_if_eq hT hK 21 (tgt := 61) rfl rfl (fun _ => ?_) (fun c4 => absurd (by decide) c4)
      refine AW_g hT cl_X4 hK 34 1 (pc' := 62) (lo' := [some (.ref 10), some (.int p0), some (.int p1), some (.int ((p0 * 12) + p1)), some (.int 0)]) (st' := [.int 0]) (hp' := wd σ) rfl ?_
      refine AW_iret hT hE 35 rfl rfl rfl (Nat.le_of_ble_eq_true rfl) (Nat.le_of_ble_eq_true rfl) ?_
      exact ⟨by simp only [x_X4_at_10, if_neg c1, if_pos c3], rfl⟩
    · refine AW_g hT cl_X4 hK 11 1 (pc' := 18) (lo' := [some (.ref 10), some (.int p0), some (.int p1), some (.int ((p0 * 12) + p1)), none]) (st' := [.int p1]) (hp' := wd σ) rfl ?_
      refine AW_if_lt hT hK 12 (tgt := 31) rfl rfl (fun c5 => ?_) (fun c5 => ?_)
      · refine AW_g hT cl_X4 hK 18 3 (pc' := 36) (lo' := [some (.ref 10), some (.int p0), some (.int p1), some (.int ((p0 * 12) + p1)), some (.int 0)]) (st' := [.int 0]) (hp' := wd σ) rfl ?_
        refine AW_if_eq hT hK 21 (tgt := 61) rfl rfl (fun _ => ?_) (fun c6 => absurd (by decide) c6)
        refine AW_g hT cl_X4 hK 34 1 (pc' := 62) (lo' := [some (.ref 10), some (.int p0), some (.int p1), some (.int ((p0 * 12) + p1)), some (.int 0)]) (st' := [.int 0]) (hp' := wd σ) rfl ?_
        refine AW_iret hT hE 35 rfl rfl rfl (Nat.le_of_ble_eq_true rfl) (Nat.le_of_ble_eq_true rfl) ?_
        exact ⟨by simp only [x_X4_at_10, if_neg c1, if_neg c3, if_pos c5], rfl⟩
      · refine AW_g hT cl_X4 hK 13 2 (pc' := 24) (lo' := [some (.ref 10), some (.int p0), some (.int p1), some (.int ((p0 * 12) + p1)), none]) (st' := [.int 12, .int p1]) (hp' := wd σ) rfl ?_
        refine AW_icmp_ge hT hK 15 (tgt := 31) rfl rfl (fun c7 => ?_) (fun c7 => ?_)
        · refine AW_g hT cl_X4 hK 18 3 (pc' := 36) (lo' := [some (.ref 10), some (.int p0), some (.int p1), some (.int ((p0 * 12) + p1)), some (.int 0)]) (st' := [.int 0]) (hp' := wd σ) rfl ?_
          refine AW_if_eq hT hK 21 (tgt := 61) rfl rfl (fun _ => ?_) (fun c8 => absurd (by decide) c8)
          refine AW_g hT cl_X4 hK 34 1 (pc' := 62) (lo' := [some (.ref 10), some (.int p0), some (.int p1), some (.int ((p0 * 12) + p1)), some (.int 0)]) (st' := [.int 0]) (hp' := wd σ) rfl ?_
          refine AW_iret hT hE 35 rfl rfl rfl (Nat.le_of_ble_eq_true rfl) (Nat.le_of_ble_eq_true rfl) ?_
          exact ⟨by simp only [x_X4_at_10, if_neg c1, if_neg c3, if_neg c5, if_pos c7], rfl⟩
        · refine AW_g hT cl_X4 hK 16 1 (pc' := 28) (lo' := [some (.ref 10), some (.int p0), some (.int p1), some (.int ((p0 * 12) + p1)), none]) (st' := [.int 1]) (hp' := wd σ) rfl ?_
          refine AW_goto hT hK 17 (tgt := 32) rfl rfl ?_
          refine AW_g hT cl_X4 hK 19 2 (pc' := 36) (lo' := [some (.ref 10), some (.int p0), some (.int p1), some (.int ((p0 * 12) + p1)), some (.int 1)]) (st' := [.int 1]) (hp' := wd σ) rfl ?_
          refine AW_if_eq hT hK 21 (tgt := 61) rfl rfl (fun c9 => absurd c9 (by decide)) (fun _ => ?_)
          refine AW_g hT cl_X4 hK 22 1 (pc' := 40) (lo' := [some (.ref 10), some (.int p0), some (.int p1), some (.int ((p0 * 12) + p1)), some (.int 1)]) (st' := [.int ((p0 * 12) + p1)]) (hp' := wd σ) rfl ?_
          refine AW_if_lt hT hK 23 (tgt := 61) rfl rfl (fun c10 => ?_) (fun c10 => ?_)
          · refine AW_g hT cl_X4 hK 34 1 (pc' := 62) (lo' := [some (.ref 10), some (.int p0), some (.int p1), some (.int ((p0 * 12) + p1)), some (.int 1)]) (st' := [.int 0]) (hp' := wd σ) rfl ?_
            refine AW_iret hT hE 35 rfl rfl rfl (Nat.le_of_ble_eq_true rfl) (Nat.le_of_ble_eq_true rfl) ?_
            exact ⟨by simp only [x_X4_at_10, if_neg c1, if_neg c3, if_neg c5, if_neg c7, if_pos c10], rfl⟩
          · refine AW_g hT cl_X4 hK 24 4 (pc' := 49) (lo' := [some (.ref 10), some (.int p0), some (.int p1), some (.int ((p0 * 12) + p1)), some (.int 1)]) (st' := [.int 144, .int ((p0 * 12) + p1)]) (hp' := wd σ) rfl ?_
            refine AW_icmp_ge hT hK 28 (tgt := 61) rfl rfl (fun c11 => ?_) (fun c11 => ?_)
            · refine AW_g hT cl_X4 hK 34 1 (pc' := 62) (lo' := [some (.ref 10), some (.int p0), some (.int p1), some (.int ((p0 * 12) + p1)), some (.int 1)]) (st' := [.int 0]) (hp' := wd σ) rfl ?_
              refine AW_iret hT hE 35 rfl rfl rfl (Nat.le_of_ble_eq_true rfl) (Nat.le_of_ble_eq_true rfl) ?_
              exact ⟨by simp only [x_X4_at_10, if_neg c1, if_neg c3, if_neg c5, if_neg c7, if_neg c10, if_pos c11], rfl⟩
            · refine AW_g hT cl_X4 hK 29 3 (pc' := 57) (lo' := [some (.ref 10), some (.int p0), some (.int p1), some (.int ((p0 * 12) + p1)), some (.int 1)]) (st' := [.int ((p0 * 12) + p1), .ref 11]) (hp' := wd σ) rfl ?_
              refine AW_ialdx hT hK 32 rfl (n := 144) (f := (σ.2.1 11)) rfl (az_in144 c10 c11) ?_
              refine AW_goto hT hK 33 (tgt := 62) rfl rfl ?_
              refine AW_iret hT hE 35 rfl rfl rfl (Nat.le_of_ble_eq_true rfl) (Nat.le_of_ble_eq_true rfl) ?_
              exact ⟨by simp only [x_X4_at_10, if_neg c1, if_neg c3, if_neg c5, if_neg c7, if_neg c10, if_neg c11], rfl⟩
def x_X4_setOneWay_10 (σ : az_S) (p0 : Int32) (p1 : Int32) (p2 : Int32) : az_S :=
  if p0 < 0 then
    σ
  else
    if 12 ≤ p0 then
      σ
    else
      if p1 < 0 then
        σ
      else
        if 12 ≤ p1 then
          σ
        else
          if ((p0 * 12) + p1) < 0 then
            σ
          else
            if 144 ≤ ((p0 * 12) + p1) then
              σ
            else
              (sG σ 11 (va_up (σ.2.1 11) ((p0 * 12) + p1).toNatClampNeg p2))
set_option maxRecDepth 100000 in
set_option maxHeartbeats 4000000 in
theorem m_X4_setOneWay_10 (l0 : Launch) (σ : az_S) (p0 : Int32) (p1 : Int32) (p2 : Int32) : AMet l0 yX4_setOneWay cX4_setOneWay 6 none ({ frames := 0, cells := 0, slots := 0, locals := 0 } : Room) false [.ref 10, .int p0, .int p1, .int p2] (wd σ) (fun r h => r = none ∧ h = wd (x_X4_setOneWay_10 σ p0 p1 p2)) := by
  refine AMet_of (by decide +kernel) (by simp [Value.category]) (Nat.le_of_ble_eq_true rfl) (fun K hK hct hG hE => ?_)
  have hT := tt_X4_setOneWay
  refine AW_g hT cl_X4 hK 0 7 (pc' := 9) (lo' := [some (.ref 10), some (.int p0), some (.int p1), some (.int p2), some (.int ((p0 * 12) + p1)), none]) (st' := [.int p0]) (hp' := wd σ) rfl ?_
  refine AW_if_lt hT hK 7 (tgt := 32) rfl rfl (fun c1 => ?_) (fun c1 => ?_)
  · refine AW_g hT cl_X4 hK 18 3 (pc' := 37) (lo' := [some (.ref 10), some (.int p0), some (.int p1), some (.int p2), some (.int ((p0 * 12) + p1)), some (.int 0)]) (st' := [.int 0]) (hp' := wd σ) rfl ?_
    refine AW_if_eq hT hK 21 (tgt := 63) rfl rfl (fun _ => ?_) (fun c2 => absurd (by decide) c2)
    refine AW_vret hT hE 34 rfl (Nat.le_of_ble_eq_true rfl) (Nat.le_of_ble_eq_true rfl) ?_
    exact ⟨rfl, congrArg wd (by simp only [x_X4_setOneWay_10, if_pos c1])⟩
  · refine AW_g hT cl_X4 hK 8 2 (pc' := 15) (lo' := [some (.ref 10), some (.int p0), some (.int p1), some (.int p2), some (.int ((p0 * 12) + p1)), none]) (st' := [.int 12, .int p0]) (hp' := wd σ) rfl ?_
    refine AW_icmp_ge hT hK 10 (tgt := 32) rfl rfl (fun c3 => ?_) (fun c3 => ?_)
    · refine AW_g hT cl_X4 hK 18 3 (pc' := 37) (lo' := [some (.ref 10), some (.int p0), some (.int p1), some (.int p2), some (.int ((p0 * 12) + p1)), some (.int 0)]) (st' := [.int 0]) (hp' := wd σ) rfl ?_
      refine AW_if_eq hT hK 21 (tgt := 63) rfl rfl (fun _ => ?_) (fun c4 => absurd (by decide) c4)
      refine AW_vret hT hE 34 rfl (Nat.le_of_ble_eq_true rfl) (Nat.le_of_ble_eq_true rfl) ?_
      exact ⟨rfl, congrArg wd (by simp only [x_X4_setOneWay_10, if_neg c1, if_pos c3])⟩
    · refine AW_g hT cl_X4 hK 11 1 (pc' := 19) (lo' := [some (.ref 10), some (.int p0), some (.int p1), some (.int p2), some (.int ((p0 * 12) + p1)), none]) (st' := [.int p1]) (hp' := wd σ) rfl ?_
      refine AW_if_lt hT hK 12 (tgt := 32) rfl rfl (fun c5 => ?_) (fun c5 => ?_)
      · refine AW_g hT cl_X4 hK 18 3 (pc' := 37) (lo' := [some (.ref 10), some (.int p0), some (.int p1), some (.int p2), some (.int ((p0 * 12) + p1)), some (.int 0)]) (st' := [.int 0]) (hp' := wd σ) rfl ?_
        refine AW_if_eq hT hK 21 (tgt := 63) rfl rfl (fun _ => ?_) (fun c6 => absurd (by decide) c6)
        refine AW_vret hT hE 34 rfl (Nat.le_of_ble_eq_true rfl) (Nat.le_of_ble_eq_true rfl) ?_
        exact ⟨rfl, congrArg wd (by simp only [x_X4_setOneWay_10, if_neg c1, if_neg c3, if_pos c5])⟩
      · refine AW_g hT cl_X4 hK 13 2 (pc' := 25) (lo' := [some (.ref 10), some (.int p0), some (.int p1), some (.int p2), some (.int ((p0 * 12) + p1)), none]) (st' := [.int 12, .int p1]) (hp' := wd σ) rfl ?_
        refine AW_icmp_ge hT hK 15 (tgt := 32) rfl rfl (fun c7 => ?_) (fun c7 => ?_)
        · refine AW_g hT cl_X4 hK 18 3 (pc' := 37) (lo' := [some (.ref 10), some (.int p0), some (.int p1), some (.int p2), some (.int ((p0 * 12) + p1)), some (.int 0)]) (st' := [.int 0]) (hp' := wd σ) rfl ?_
          refine AW_if_eq hT hK 21 (tgt := 63) rfl rfl (fun _ => ?_) (fun c8 => absurd (by decide) c8)
          refine AW_vret hT hE 34 rfl (Nat.le_of_ble_eq_true rfl) (Nat.le_of_ble_eq_true rfl) ?_
          exact ⟨rfl, congrArg wd (by simp only [x_X4_setOneWay_10, if_neg c1, if_neg c3, if_neg c5, if_pos c7])⟩
        · refine AW_g hT cl_X4 hK 16 1 (pc' := 29) (lo' := [some (.ref 10), some (.int p0), some (.int p1), some (.int p2), some (.int ((p0 * 12) + p1)), none]) (st' := [.int 1]) (hp' := wd σ) rfl ?_
          refine AW_goto hT hK 17 (tgt := 33) rfl rfl ?_
          refine AW_g hT cl_X4 hK 19 2 (pc' := 37) (lo' := [some (.ref 10), some (.int p0), some (.int p1), some (.int p2), some (.int ((p0 * 12) + p1)), some (.int 1)]) (st' := [.int 1]) (hp' := wd σ) rfl ?_
          refine AW_if_eq hT hK 21 (tgt := 63) rfl rfl (fun c9 => absurd c9 (by decide)) (fun _ => ?_)
          refine AW_g hT cl_X4 hK 22 1 (pc' := 42) (lo' := [some (.ref 10), some (.int p0), some (.int p1), some (.int p2), some (.int ((p0 * 12) + p1)), some (.int 1)]) (st' := [.int ((p0 * 12) + p1)]) (hp' := wd σ) rfl ?_
          refine AW_if_lt hT hK 23 (tgt := 63) rfl rfl (fun c10 => ?_) (fun c10 => ?_)
          · refine AW_vret hT hE 34 rfl (Nat.le_of_ble_eq_true rfl) (Nat.le_of_ble_eq_true rfl) ?_
            exact ⟨rfl, congrArg wd (by simp only [x_X4_setOneWay_10, if_neg c1, if_neg c3, if_neg c5, if_neg c7, if_pos c10])⟩
          · refine AW_g hT cl_X4 hK 24 4 (pc' := 52) (lo' := [some (.ref 10), some (.int p0), some (.int p1), some (.int p2), some (.int ((p0 * 12) + p1)), some (.int 1)]) (st' := [.int 144, .int ((p0 * 12) + p1)]) (hp' := wd σ) rfl ?_
            refine AW_icmp_ge hT hK 28 (tgt := 63) rfl rfl (fun c11 => ?_) (fun c11 => ?_)
            · refine AW_vret hT hE 34 rfl (Nat.le_of_ble_eq_true rfl) (Nat.le_of_ble_eq_true rfl) ?_
              exact ⟨rfl, congrArg wd (by simp only [x_X4_setOneWay_10, if_neg c1, if_neg c3, if_neg c5, if_neg c7, if_neg c10, if_pos c11])⟩
            · refine AW_g hT cl_X4 hK 29 4 (pc' := 62) (lo' := [some (.ref 10), some (.int p0), some (.int p1), some (.int p2), some (.int ((p0 * 12) + p1)), some (.int 1)]) (st' := [.int p2, .int ((p0 * 12) + p1), .ref 11]) (hp' := wd σ) rfl ?_
              refine AW_iastx hT hK 33 rfl (n := 144) (f := (σ.2.1 11)) rfl (az_in144 c10 c11) ?_
              refine AW_to (hp' := wd (sG σ 11 (va_up (σ.2.1 11) ((p0 * 12) + p1).toNatClampNeg p2))) rfl rfl rfl ?_
              refine AW_vret hT hE 34 rfl (Nat.le_of_ble_eq_true rfl) (Nat.le_of_ble_eq_true rfl) ?_
              exact ⟨rfl, congrArg wd (by simp only [x_X4_setOneWay_10, if_neg c1, if_neg c3, if_neg c5, if_neg c7, if_neg c10, if_neg c11])⟩
def x_X4_add_10 (σ : az_S) (p0 : Int32) (p1 : Int32) (p2 : Int32) : az_S :=
  let v2 := x_X4_at_10 σ p0 p1
  let τ4 := x_X4_setOneWay_10 σ p0 p1 (v2 + p2)
  let τ6 := x_X4_setOneWay_10 (τ4) p1 p0 (v2 + p2)
  τ6
set_option maxRecDepth 100000 in
set_option maxHeartbeats 4000000 in
theorem m_X4_add_10 (l0 : Launch) (σ : az_S) (p0 : Int32) (p1 : Int32) (p2 : Int32) : AMet l0 yX4_add cX4_add 5 none ({ frames := 1, cells := 0, slots := 0, locals := 25 } : Room) false [.ref 10, .int p0, .int p1, .int p2] (wd σ) (fun r h => r = none ∧ h = wd (x_X4_add_10 σ p0 p1 p2)) := by
  refine AMet_of (by decide +kernel) (by simp [Value.category]) (Nat.le_of_ble_eq_true rfl) (fun K hK hct hG hE => ?_)
  have hT := tt_X4_add
  refine AW_g hT cl_X4 hK 0 3 (pc' := 3) (lo' := [some (.ref 10), some (.int p0), some (.int p1), some (.int p2), none]) (st' := [.int p1, .int p0, .ref 10]) (hp' := wd σ) rfl ?_
  refine AW_callV hT hK 3 [.int p0, .int p1] [] (m_X4_at_10 l0 σ p0 p1) cw_X4_at lk_X4_19 vi_X4_at rfl rfl rfl rfl rfl rfl (Nat.le_of_ble_eq_true rfl) (Nat.le_of_ble_eq_true rfl) (AW_k1 (fun v2 h1 => ?_))
  refine AW_g hT cl_X4 hK 4 7 (pc' := 15) (lo' := [some (.ref 10), some (.int p0), some (.int p1), some (.int p2), some (.int (v2 + p2))]) (st' := [.int (v2 + p2), .int p1, .int p0, .ref 10]) (hp' := wd σ) rfl ?_
  refine AW_callV hT hK 11 [.int p0, .int p1, .int (v2 + p2)] [] (m_X4_setOneWay_10 l0 σ p0 p1 (v2 + p2)) cw_X4_setOneWay lk_X4_15 vi_X4_setOneWay rfl rfl rfl rfl rfl rfl (Nat.le_of_ble_eq_true rfl) (Nat.le_of_ble_eq_true rfl) (AW_kv (fun τ4 h3 => ?_))
  refine AW_g hT cl_X4 hK 12 4 (pc' := 23) (lo' := [some (.ref 10), some (.int p0), some (.int p1), some (.int p2), some (.int (v2 + p2))]) (st' := [.int (v2 + p2), .int p0, .int p1, .ref 10]) (hp' := wd (τ4)) rfl ?_
  refine AW_callV hT hK 16 [.int p1, .int p0, .int (v2 + p2)] [] (m_X4_setOneWay_10 l0 (τ4) p1 p0 (v2 + p2)) cw_X4_setOneWay lk_X4_15 vi_X4_setOneWay rfl rfl rfl rfl rfl rfl (Nat.le_of_ble_eq_true rfl) (Nat.le_of_ble_eq_true rfl) (AW_kv (fun τ6 h5 => ?_))
  refine AW_vret hT hE 17 rfl (Nat.le_of_ble_eq_true rfl) (Nat.le_of_ble_eq_true rfl) ?_
  subst h5; subst h3; subst h1; exact ⟨rfl, congrArg wd (by simp only [x_X4_add_10])⟩
def b_X3_countCiting_23 (d1 : Int32) (d2 : Int32) (d3 : Int32) (i : Nat) (σ : az_S) : az_S :=
  let v7 := x_X3_cites σ (nI i) d2
  if v7 = 0 then
    let v10 := x_X3_cites σ d1 (nI i)
    if v10 = 0 then
      σ
    else
      let τ13 := x_X4_add_10 σ d2 (nI i) d3
      (τ13)
  else
    let τ15 := x_X4_add_8 σ d1 (nI i) d3
    let v17 := x_X3_cites (τ15) d1 (nI i)
    if v17 = 0 then
      (τ15)
    else
      let τ20 := x_X4_add_10 (τ15) d2 (nI i) d3
      (τ20)
set_option maxRecDepth 100000 in
set_option maxHeartbeats 4000000 in
theorem lp_X3_countCiting_23 {K : az_K} {l0 : Launch} (hT : az_Tb cX3_countCiting tb_X3_countCiting) (hK : az_OK K RX3 cX3_countCiting ({ frames := 2, cells := 0, slots := 0, locals := 49 } : Room) l0) (d1 : Int32) (d2 : Int32) (d3 : Int32) :
    ∀ (n i : Nat) (σ : az_S) (hi : i + n = 12) (kx : ∀ s' : az_S, az_it (fun ι s => b_X3_countCiting_23 d1 d2 d3 ι s) n i σ = s' → AW K 0 0 78 [some (.ref 1), some (.int d1), some (.int d2), some (.int d3), none] [] (wd s')), AW K 0 0 23 [some (.ref 1), some (.int d1), some (.int d2), some (.int d3), some (.int (nI i))] [] (wd σ) := by
  intro n
  induction n with
  | zero =>
    intro i σ hi kx
    refine AW_g hT cl_X3 hK 14 2 (pc' := 27) (lo' := [some (.ref 1), some (.int d1), some (.int d2), some (.int d3), some (.int (nI i))]) (st' := [.int 12, .int (nI i)]) (hp' := wd σ) rfl ?_
    refine AW_icmp_ge hT hK 16 (tgt := 78) rfl rfl (fun c21 => ?_) (fun c21 => absurd (az_c0 hi) c21)
    refine AW_msk [true, true, true, true, false] (lo' := [some (.ref 1), some (.int d1), some (.int d2), some (.int d3), none]) rfl ?_
    exact kx σ rfl
  | succ n ih =>
    intro i σ hi kx
    refine AW_g hT cl_X3 hK 14 2 (pc' := 27) (lo' := [some (.ref 1), some (.int d1), some (.int d2), some (.int d3), some (.int (nI i))]) (st' := [.int 12, .int (nI i)]) (hp' := wd σ) rfl ?_
    refine AW_icmp_ge hT hK 16 (tgt := 78) rfl rfl (fun c5 => absurd c5 (az_c1 hi)) (fun c5 => ?_)
    refine AW_g hT cl_X3 hK 17 3 (pc' := 34) (lo' := [some (.ref 1), some (.int d1), some (.int d2), some (.int d3), some (.int (nI i))]) (st' := [.int d2, .int (nI i), .ref 1]) (hp' := wd σ) rfl ?_
    refine AW_callV hT hK 20 [.int (nI i), .int d2] [] (m_X3_cites l0 σ (nI i) d2) cw_X3_cites lk_X3_62 vi_X3_cites rfl rfl rfl rfl rfl rfl (Nat.le_of_ble_eq_true rfl) (Nat.le_of_ble_eq_true rfl) (AW_k1 (fun v7 h6 => ?_))
    refine AW_if_eq hT hK 21 (tgt := 51) rfl rfl (fun c8 => ?_) (fun c8 => ?_)
    · refine AW_g hT cl_X3 hK 28 3 (pc' := 55) (lo' := [some (.ref 1), some (.int d1), some (.int d2), some (.int d3), some (.int (nI i))]) (st' := [.int (nI i), .int d1, .ref 1]) (hp' := wd σ) rfl ?_
      refine AW_callV hT hK 31 [.int d1, .int (nI i)] [] (m_X3_cites l0 σ d1 (nI i)) cw_X3_cites lk_X3_62 vi_X3_cites rfl rfl rfl rfl rfl rfl (Nat.le_of_ble_eq_true rfl) (Nat.le_of_ble_eq_true rfl) (AW_k1 (fun v10 h9 => ?_))
      refine AW_if_eq hT hK 32 (tgt := 72) rfl rfl (fun c11 => ?_) (fun c11 => ?_)
      · refine AW_g hT cl_X3 hK 39 1 (pc' := 75) (lo' := [some (.ref 1), some (.int d1), some (.int d2), some (.int d3), some (.int ((nI i) + 1))]) (st' := []) (hp' := wd σ) rfl ?_
        refine AW_goto hT hK 40 (tgt := 23) rfl rfl ?_
        refine AW_to (lo' := [some (.ref 1), some (.int d1), some (.int d2), some (.int d3), some (.int (nI (i + 1)))]) (by rw [nI_1]) rfl rfl ?_
        subst h9; subst h6; skip
        exact ih (i + 1) _ (by omega) (fun s' hs' => kx s' ((congrArg (az_it _ n (i + 1)) (by simp only [b_X3_countCiting_23, if_pos c8, if_pos c11])).trans hs'))
      · refine AW_g hT cl_X3 hK 33 5 (pc' := 69) (lo' := [some (.ref 1), some (.int d1), some (.int d2), some (.int d3), some (.int (nI i))]) (st' := [.int d3, .int (nI i), .int d2, .ref 10]) (hp' := wd σ) rfl ?_
        refine AW_callV hT hK 38 [.int d2, .int (nI i), .int d3] [] (m_X4_add_10 l0 σ d2 (nI i) d3) cw_X4_add lk_X3_72 vi_X4_add rfl rfl rfl rfl rfl rfl (Nat.le_of_ble_eq_true rfl) (Nat.le_of_ble_eq_true rfl) (AW_kv (fun τ13 h12 => ?_))
        refine AW_g hT cl_X3 hK 39 1 (pc' := 75) (lo' := [some (.ref 1), some (.int d1), some (.int d2), some (.int d3), some (.int ((nI i) + 1))]) (st' := []) (hp' := wd (τ13)) rfl ?_
        refine AW_goto hT hK 40 (tgt := 23) rfl rfl ?_
        refine AW_to (lo' := [some (.ref 1), some (.int d1), some (.int d2), some (.int d3), some (.int (nI (i + 1)))]) (by rw [nI_1]) rfl rfl ?_
        subst h12; subst h9; subst h6; skip
        exact ih (i + 1) _ (by omega) (fun s' hs' => kx s' ((congrArg (az_it _ n (i + 1)) (by simp only [b_X3_countCiting_23, if_pos c8, if_neg c11])).trans hs'))
    · refine AW_g hT cl_X3 hK 22 5 (pc' := 48) (lo' := [some (.ref 1), some (.int d1), some (.int d2), some (.int d3), some (.int (nI i))]) (st' := [.int d3, .int (nI i), .int d1, .ref 8]) (hp' := wd σ) rfl ?_
      refine AW_callV hT hK 27 [.int d1, .int (nI i), .int d3] [] (m_X4_add_8 l0 σ d1 (nI i) d3) cw_X4_add lk_X3_72 vi_X4_add rfl rfl rfl rfl rfl rfl (Nat.le_of_ble_eq_true rfl) (Nat.le_of_ble_eq_true rfl) (AW_kv (fun τ15 h14 => ?_))
      refine AW_g hT cl_X3 hK 28 3 (pc' := 55) (lo' := [some (.ref 1), some (.int d1), some (.int d2), some (.int d3), some (.int (nI i))]) (st' := [.int (nI i), .int d1, .ref 1]) (hp' := wd (τ15)) rfl ?_
      refine AW_callV hT hK 31 [.int d1, .int (nI i)] [] (m_X3_cites l0 (τ15) d1 (nI i)) cw_X3_cites lk_X3_62 vi_X3_cites rfl rfl rfl rfl rfl rfl (Nat.le_of_ble_eq_true rfl) (Nat.le_of_ble_eq_true rfl) (AW_k1 (fun v17 h16 => ?_))
      refine AW_if_eq hT hK 32 (tgt := 72) rfl rfl (fun c18 => ?_) (fun c18 => ?_)
      · refine AW_g hT cl_X3 hK 39 1 (pc' := 75) (lo' := [some (.ref 1), some (.int d1), some (.int d2), some (.int d3), some (.int ((nI i) + 1))]) (st' := []) (hp' := wd (τ15)) rfl ?_
        refine AW_goto hT hK 40 (tgt := 23) rfl rfl ?_
        refine AW_to (lo' := [some (.ref 1), some (.int d1), some (.int d2), some (.int d3), some (.int (nI (i + 1)))]) (by rw [nI_1]) rfl rfl ?_
        subst h16; subst h14; subst h6; skip
        exact ih (i + 1) _ (by omega) (fun s' hs' => kx s' ((congrArg (az_it _ n (i + 1)) (by simp only [b_X3_countCiting_23, if_neg c8, if_pos c18])).trans hs'))
      · refine AW_g hT cl_X3 hK 33 5 (pc' := 69) (lo' := [some (.ref 1), some (.int d1), some (.int d2), some (.int d3), some (.int (nI i))]) (st' := [.int d3, .int (nI i), .int d2, .ref 10]) (hp' := wd (τ15)) rfl ?_
        refine AW_callV hT hK 38 [.int d2, .int (nI i), .int d3] [] (m_X4_add_10 l0 (τ15) d2 (nI i) d3) cw_X4_add lk_X3_72 vi_X4_add rfl rfl rfl rfl rfl rfl (Nat.le_of_ble_eq_true rfl) (Nat.le_of_ble_eq_true rfl) (AW_kv (fun τ20 h19 => ?_))
        refine AW_g hT cl_X3 hK 39 1 (pc' := 75) (lo' := [some (.ref 1), some (.int d1), some (.int d2), some (.int d3), some (.int ((nI i) + 1))]) (st' := []) (hp' := wd (τ20)) rfl ?_
        refine AW_goto hT hK 40 (tgt := 23) rfl rfl ?_
        refine AW_to (lo' := [some (.ref 1), some (.int d1), some (.int d2), some (.int d3), some (.int (nI (i + 1)))]) (by rw [nI_1]) rfl rfl ?_
        subst h19; subst h16; subst h14; subst h6; skip
        exact ih (i + 1) _ (by omega) (fun s' hs' => kx s' ((congrArg (az_it _ n (i + 1)) (by simp only [b_X3_countCiting_23, if_neg c8, if_neg c18])).trans hs'))
def x_X3_countCiting (σ : az_S) (p0 : Int32) (p1 : Int32) (p2 : Int32) : az_S :=
  let τ2 := x_X4_add_8 σ p0 p0 p2
  let τ4 := x_X4_add_10 (τ2) p1 p1 p2
  let s22 := az_it (fun ι s => b_X3_countCiting_23 p0 p1 p2 ι s) 12 0 (τ4)
  s22
set_option maxRecDepth 100000 in
set_option maxHeartbeats 4000000 in
theorem m_X3_countCiting (l0 : Launch) (σ : az_S) (p0 : Int32) (p1 : Int32) (p2 : Int32) : AMet l0 yX3_countCiting cX3_countCiting 5 none ({ frames := 2, cells := 0, slots := 0, locals := 49 } : Room) false [.ref 1, .int p0, .int p1, .int p2] (wd σ) (fun r h => r = none ∧ h = wd (x_X3_countCiting σ p0 p1 p2)) := by
  refine AMet_of (by decide +kernel) (by simp [Value.category]) (Nat.le_of_ble_eq_true rfl) (fun K hK hct hG hE => ?_)
  have hT := tt_X3_countCiting
  refine AW_g hT cl_X3 hK 0 5 (pc' := 7) (lo' := [some (.ref 1), some (.int p0), some (.int p1), some (.int p2), none]) (st' := [.int p2, .int p0, .int p0, .ref 8]) (hp' := wd σ) rfl ?_
  refine AW_callV hT hK 5 [.int p0, .int p0, .int p2] [] (m_X4_add_8 l0 σ p0 p0 p2) cw_X4_add lk_X3_72 vi_X4_add rfl rfl rfl rfl rfl rfl (Nat.le_of_ble_eq_true rfl) (Nat.le_of_ble_eq_true rfl) (AW_kv (fun τ2 h1 => ?_))
  refine AW_g hT cl_X3 hK 6 5 (pc' := 17) (lo' := [some (.ref 1), some (.int p0), some (.int p1), some (.int p2), none]) (st' := [.int p2, .int p1, .int p1, .ref 10]) (hp' := wd (τ2)) rfl ?_
  refine AW_callV hT hK 11 [.int p1, .int p1, .int p2] [] (m_X4_add_10 l0 (τ2) p1 p1 p2) cw_X4_add lk_X3_72 vi_X4_add rfl rfl rfl rfl rfl rfl (Nat.le_of_ble_eq_true rfl) (Nat.le_of_ble_eq_true rfl) (AW_kv (fun τ4 h3 => ?_))
  refine AW_g hT cl_X3 hK 12 2 (pc' := 23) (lo' := [some (.ref 1), some (.int p0), some (.int p1), some (.int p2), some (.int 0)]) (st' := []) (hp' := wd (τ4)) rfl ?_
  refine AW_to (lo' := [some (.ref 1), some (.int p0), some (.int p1), some (.int p2), some (.int (nI 0))]) (rfl) rfl rfl ?_
  refine lp_X3_countCiting_23 hT hK p0 p1 p2 12 0 (τ4) (by first | rfl | omega) (fun s22 h23 => ?_)
  refine AW_vret hT hE 41 rfl (Nat.le_of_ble_eq_true rfl) (Nat.le_of_ble_eq_true rfl) ?_
  subst h23; subst h3; subst h1; exact ⟨rfl, congrArg wd (by simp only [x_X3_countCiting])⟩
def x_X2_set_6 (σ : az_S) (p0 : Int32) (p1 : Int32) : az_S :=
  if p0 < 0 then
    σ
  else
    if 12 ≤ p0 then
      σ
    else
      (sG σ 7 (va_up (σ.2.1 7) p0.toNatClampNeg p1))
set_option maxRecDepth 100000 in
set_option maxHeartbeats 4000000 in
theorem m_X2_set_6 (l0 : Launch) (σ : az_S) (p0 : Int32) (p1 : Int32) : AMet l0 yX2_set cX2_set 3 none ({ frames := 0, cells := 0, slots := 0, locals := 0 } : Room) false [.ref 6, .int p0, .int p1] (wd σ) (fun r h => r = none ∧ h = wd (x_X2_set_6 σ p0 p1)) := by
  refine AMet_of (by decide +kernel) (by simp [Value.category]) (Nat.le_of_ble_eq_true rfl) (fun K hK hct hG hE => ?_)
  have hT := tt_X2_set
  refine AW_g hT cl_X2 hK 0 1 (pc' := 1) (lo' := [some (.ref 6), some (.int p0), some (.int p1)]) (st' := [.int p0]) (hp' := wd σ) rfl ?_
  refine AW_if_lt hT hK 1 (tgt := 20) rfl rfl (fun c1 => ?_) (fun c1 => ?_)
  · refine AW_vret hT hE 12 rfl (Nat.le_of_ble_eq_true rfl) (Nat.le_of_ble_eq_true rfl) ?_
    exact ⟨rfl, congrArg wd (by simp only [x_X2_set_6, if_pos c1])⟩
  · refine AW_g hT cl_X2 hK 2 4 (pc' := 10) (lo' := [some (.ref 6), some (.int p0), some (.int p1)]) (st' := [.int 12, .int p0]) (hp' := wd σ) rfl ?_
    refine AW_icmp_ge hT hK 6 (tgt := 20) rfl rfl (fun c2 => ?_) (fun c2 => ?_)
    · refine AW_vret hT hE 12 rfl (Nat.le_of_ble_eq_true rfl) (Nat.le_of_ble_eq_true rfl) ?_
      exact ⟨rfl, congrArg wd (by simp only [x_X2_set_6, if_neg c1, if_pos c2])⟩
    · refine AW_g hT cl_X2 hK 7 4 (pc' := 19) (lo' := [some (.ref 6), some (.int p0), some (.int p1)]) (st' := [.int p1, .int p0, .ref 7]) (hp' := wd σ) rfl ?_
      refine AW_iastx hT hK 11 rfl (n := 12) (f := (σ.2.1 7)) rfl (az_in12 c1 c2) ?_
      refine AW_to (hp' := wd (sG σ 7 (va_up (σ.2.1 7) p0.toNatClampNeg p1))) rfl rfl rfl ?_
      refine AW_vret hT hE 12 rfl (Nat.le_of_ble_eq_true rfl) (Nat.le_of_ble_eq_true rfl) ?_
      exact ⟨rfl, congrArg wd (by simp only [x_X2_set_6, if_neg c1, if_neg c2])⟩
def x_X3_addCiting (σ : az_S) (p0 : Int32) (p1 : Int32) : az_S :=
  let τ2 := x_X3_countCiting σ p0 p1 1
  let v4 := x_X2_at_4 (τ2) p0
  let v6 := x_X5_setOf (τ2) p1
  let τ8 := x_X2_set_4 (τ2) p0 (v4 ||| v6)
  let v10 := x_X2_at_6 (τ8) p1
  let v12 := x_X5_setOf (τ8) p0
  let τ14 := x_X2_set_6 (τ8) p1 (v10 ||| v12)
  τ14
set_option maxRecDepth 100000 in
set_option maxHeartbeats 4000000 in
theorem m_X3_addCiting (l0 : Launch) (σ : az_S) (p0 : Int32) (p1 : Int32) : AMet l0 yX3_addCiting cX3_addCiting 3 none ({ frames := 3, cells := 0, slots := 0, locals := 73 } : Room) false [.ref 1, .int p0, .int p1] (wd σ) (fun r h => r = none ∧ h = wd (x_X3_addCiting σ p0 p1)) := by
  refine AMet_of (by decide +kernel) (by simp [Value.category]) (Nat.le_of_ble_eq_true rfl) (fun K hK hct hG hE => ?_)
  have hT := tt_X3_addCiting
  refine AW_g hT cl_X3 hK 0 4 (pc' := 4) (lo' := [some (.ref 1), some (.int p0), some (.int p1)]) (st' := [.int 1, .int p1, .int p0, .ref 1]) (hp' := wd σ) rfl ?_
  refine AW_callV hT hK 4 [.int p0, .int p1, .int 1] [] (m_X3_countCiting l0 σ p0 p1 1) cw_X3_countCiting lk_X3_68 vi_X3_countCiting rfl rfl rfl rfl rfl rfl (Nat.le_of_ble_eq_true rfl) (Nat.le_of_ble_eq_true rfl) (AW_kv (fun τ2 h1 => ?_))
  refine AW_g hT cl_X3 hK 5 6 (pc' := 17) (lo' := [some (.ref 1), some (.int p0), some (.int p1)]) (st' := [.int p0, .ref 4, .int p0, .ref 4]) (hp' := wd (τ2)) rfl ?_
  refine AW_callV hT hK 11 [.int p0] [.int p0, .ref 4] (m_X2_at_4 l0 (τ2) p0) cw_X2_at lk_X3_48 vi_X2_at rfl rfl rfl rfl rfl rfl (Nat.le_of_ble_eq_true rfl) (Nat.le_of_ble_eq_true rfl) (AW_k1 (fun v4 h3 => ?_))
  refine AW_g hT cl_X3 hK 12 1 (pc' := 21) (lo' := [some (.ref 1), some (.int p0), some (.int p1)]) (st' := [.int p1, .int v4, .int p0, .ref 4]) (hp' := wd (τ2)) rfl ?_
  refine AW_callSN hT hK 13 [.int p1] [.int v4, .int p0, .ref 4] (m_X5_setOf l0 (τ2) p1) cw_X5_setOf lk_X3_56 sm_X5_setOf rfl rfl rfl rfl (Nat.le_of_ble_eq_true rfl) (Nat.le_of_ble_eq_true rfl) (AW_k1 (fun v6 h5 => ?_))
  refine AW_g hT cl_X3 hK 14 1 (pc' := 25) (lo' := [some (.ref 1), some (.int p0), some (.int p1)]) (st' := [.int (v4 ||| v6), .int p0, .ref 4]) (hp' := wd (τ2)) rfl ?_
  refine AW_callV hT hK 15 [.int p0, .int (v4 ||| v6)] [] (m_X2_set_4 l0 (τ2) p0 (v4 ||| v6)) cw_X2_set lk_X3_52 vi_X2_set rfl rfl rfl rfl rfl rfl (Nat.le_of_ble_eq_true rfl) (Nat.le_of_ble_eq_true rfl) (AW_kv (fun τ8 h7 => ?_))
  refine AW_g hT cl_X3 hK 16 6 (pc' := 38) (lo' := [some (.ref 1), some (.int p0), some (.int p1)]) (st' := [.int p1, .ref 6, .int p1, .ref 6]) (hp' := wd (τ8)) rfl ?_
  refine AW_callV hT hK 22 [.int p1] [.int p1, .ref 6] (m_X2_at_6 l0 (τ8) p1) cw_X2_at lk_X3_48 vi_X2_at rfl rfl rfl rfl rfl rfl (Nat.le_of_ble_eq_true rfl) (Nat.le_of_ble_eq_true rfl) (AW_k1 (fun v10 h9 => ?_))
  refine AW_g hT cl_X3 hK 23 1 (pc' := 42) (lo' := [some (.ref 1), some (.int p0), some (.int p1)]) (st' := [.int p0, .int v10, .int p1, .ref 6]) (hp' := wd (τ8)) rfl ?_
  refine AW_callSN hT hK 24 [.int p0] [.int v10, .int p1, .ref 6] (m_X5_setOf l0 (τ8) p0) cw_X5_setOf lk_X3_56 sm_X5_setOf rfl rfl rfl rfl (Nat.le_of_ble_eq_true rfl) (Nat.le_of_ble_eq_true rfl) (AW_k1 (fun v12 h11 => ?_))
  refine AW_g hT cl_X3 hK 25 1 (pc' := 46) (lo' := [some (.ref 1), some (.int p0), some (.int p1)]) (st' := [.int (v10 ||| v12), .int p1, .ref 6]) (hp' := wd (τ8)) rfl ?_
  refine AW_callV hT hK 26 [.int p1, .int (v10 ||| v12)] [] (m_X2_set_6 l0 (τ8) p1 (v10 ||| v12)) cw_X2_set lk_X3_52 vi_X2_set rfl rfl rfl rfl rfl rfl (Nat.le_of_ble_eq_true rfl) (Nat.le_of_ble_eq_true rfl) (AW_kv (fun τ14 h13 => ?_))
  refine AW_vret hT hE 27 rfl (Nat.le_of_ble_eq_true rfl) (Nat.le_of_ble_eq_true rfl) ?_
  subst h13; subst h11; subst h9; subst h7; subst h5; subst h3; subst h1; exact ⟨rfl, congrArg wd (by simp only [x_X3_addCiting])⟩
def x_X3_dropCiting (σ : az_S) (p0 : Int32) (p1 : Int32) : az_S :=
  let v2 := x_X2_at_4 σ p0
  let v4 := x_X5_setOf σ p1
  let τ6 := x_X2_set_4 σ p0 (v2 &&& (v4 ^^^ (-1)))
  let v8 := x_X2_at_6 (τ6) p1
  let v10 := x_X5_setOf (τ6) p0
  let τ12 := x_X2_set_6 (τ6) p1 (v8 &&& (v10 ^^^ (-1)))
  let τ14 := x_X3_countCiting (τ12) p0 p1 (-1)
  τ14
set_option maxRecDepth 100000 in
set_option maxHeartbeats 4000000 in
theorem m_X3_dropCiting (l0 : Launch) (σ : az_S) (p0 : Int32) (p1 : Int32) : AMet l0 yX3_dropCiting cX3_dropCiting 3 none ({ frames := 3, cells := 0, slots := 0, locals := 73 } : Room) false [.ref 1, .int p0, .int p1] (wd σ) (fun r h => r = none ∧ h = wd (x_X3_dropCiting σ p0 p1)) := by
  refine AMet_of (by decide +kernel) (by simp [Value.category]) (Nat.le_of_ble_eq_true rfl) (fun K hK hct hG hE => ?_)
  have hT := tt_X3_dropCiting
  refine AW_g hT cl_X3 hK 0 6 (pc' := 10) (lo' := [some (.ref 1), some (.int p0), some (.int p1)]) (st' := [.int p0, .ref 4, .int p0, .ref 4]) (hp' := wd σ) rfl ?_
  refine AW_callV hT hK 6 [.int p0] [.int p0, .ref 4] (m_X2_at_4 l0 σ p0) cw_X2_at lk_X3_48 vi_X2_at rfl rfl rfl rfl rfl rfl (Nat.le_of_ble_eq_true rfl) (Nat.le_of_ble_eq_true rfl) (AW_k1 (fun v2 h1 => ?_))
  refine AW_g hT cl_X3 hK 7 1 (pc' := 14) (lo' := [some (.ref 1), some (.int p0), some (.int p1)]) (st' := [.int p1, .int v2, .int p0, .ref 4]) (hp' := wd σ) rfl ?_
  refine AW_callSN hT hK 8 [.int p1] [.int v2, .int p0, .ref 4] (m_X5_setOf l0 σ p1) cw_X5_setOf lk_X3_56 sm_X5_setOf rfl rfl rfl rfl (Nat.le_of_ble_eq_true rfl) (Nat.le_of_ble_eq_true rfl) (AW_k1 (fun v4 h3 => ?_))
  refine AW_g hT cl_X3 hK 9 3 (pc' := 20) (lo' := [some (.ref 1), some (.int p0), some (.int p1)]) (st' := [.int (v2 &&& (v4 ^^^ (-1))), .int p0, .ref 4]) (hp' := wd σ) rfl ?_
  refine AW_callV hT hK 12 [.int p0, .int (v2 &&& (v4 ^^^ (-1)))] [] (m_X2_set_4 l0 σ p0 (v2 &&& (v4 ^^^ (-1)))) cw_X2_set lk_X3_52 vi_X2_set rfl rfl rfl rfl rfl rfl (Nat.le_of_ble_eq_true rfl) (Nat.le_of_ble_eq_true rfl) (AW_kv (fun τ6 h5 => ?_))
  refine AW_g hT cl_X3 hK 13 6 (pc' := 33) (lo' := [some (.ref 1), some (.int p0), some (.int p1)]) (st' := [.int p1, .ref 6, .int p1, .ref 6]) (hp' := wd (τ6)) rfl ?_
  refine AW_callV hT hK 19 [.int p1] [.int p1, .ref 6] (m_X2_at_6 l0 (τ6) p1) cw_X2_at lk_X3_48 vi_X2_at rfl rfl rfl rfl rfl rfl (Nat.le_of_ble_eq_true rfl) (Nat.le_of_ble_eq_true rfl) (AW_k1 (fun v8 h7 => ?_))
  refine AW_g hT cl_X3 hK 20 1 (pc' := 37) (lo' := [some (.ref 1), some (.int p0), some (.int p1)]) (st' := [.int p0, .int v8, .int p1, .ref 6]) (hp' := wd (τ6)) rfl ?_
  refine AW_callSN hT hK 21 [.int p0] [.int v8, .int p1, .ref 6] (m_X5_setOf l0 (τ6) p0) cw_X5_setOf lk_X3_56 sm_X5_setOf rfl rfl rfl rfl (Nat.le_of_ble_eq_true rfl) (Nat.le_of_ble_eq_true rfl) (AW_k1 (fun v10 h9 => ?_))
  refine AW_g hT cl_X3 hK 22 3 (pc' := 43) (lo' := [some (.ref 1), some (.int p0), some (.int p1)]) (st' := [.int (v8 &&& (v10 ^^^ (-1))), .int p1, .ref 6]) (hp' := wd (τ6)) rfl ?_
  refine AW_callV hT hK 25 [.int p1, .int (v8 &&& (v10 ^^^ (-1)))] [] (m_X2_set_6 l0 (τ6) p1 (v8 &&& (v10 ^^^ (-1)))) cw_X2_set lk_X3_52 vi_X2_set rfl rfl rfl rfl rfl rfl (Nat.le_of_ble_eq_true rfl) (Nat.le_of_ble_eq_true rfl) (AW_kv (fun τ12 h11 => ?_))
  refine AW_g hT cl_X3 hK 26 4 (pc' := 50) (lo' := [some (.ref 1), some (.int p0), some (.int p1)]) (st' := [.int (-1), .int p1, .int p0, .ref 1]) (hp' := wd (τ12)) rfl ?_
  refine AW_callV hT hK 30 [.int p0, .int p1, .int (-1)] [] (m_X3_countCiting l0 (τ12) p0 p1 (-1)) cw_X3_countCiting lk_X3_68 vi_X3_countCiting rfl rfl rfl rfl rfl rfl (Nat.le_of_ble_eq_true rfl) (Nat.le_of_ble_eq_true rfl) (AW_kv (fun τ14 h13 => ?_))
  refine AW_vret hT hE 31 rfl (Nat.le_of_ble_eq_true rfl) (Nat.le_of_ble_eq_true rfl) ?_
  subst h13; subst h11; subst h9; subst h7; subst h5; subst h3; subst h1; exact ⟨rfl, congrArg wd (by simp only [x_X3_dropCiting])⟩
def x_X2_set_2 (σ : az_S) (p0 : Int32) (p1 : Int32) : az_S :=
  if p0 < 0 then
    σ
  else
    if 12 ≤ p0 then
      σ
    else
      (sG σ 3 (va_up (σ.2.1 3) p0.toNatClampNeg p1))
set_option maxRecDepth 100000 in
set_option maxHeartbeats 4000000 in
theorem m_X2_set_2 (l0 : Launch) (σ : az_S) (p0 : Int32) (p1 : Int32) : AMet l0 yX2_set cX2_set 3 none ({ frames := 0, cells := 0, slots := 0, locals := 0 } : Room) false [.ref 2, .int p0, .int p1] (wd σ) (fun r h => r = none ∧ h = wd (x_X2_set_2 σ p0 p1)) := by
  refine AMet_of (by decide +kernel) (by simp [Value.category]) (Nat.le_of_ble_eq_true rfl) (fun K hK hct hG hE => ?_)
  have hT := tt_X2_set
  refine AW_g hT cl_X2 hK 0 1 (pc' := 1) (lo' := [some (.ref 2), some (.int p0), some (.int p1)]) (st' := [.int p0]) (hp' := wd σ) rfl ?_
  refine AW_if_lt hT hK 1 (tgt := 20) rfl rfl (fun c1 => ?_) (fun c1 => ?_)
  · refine AW_vret hT hE 12 rfl (Nat.le_of_ble_eq_true rfl) (Nat.le_of_ble_eq_true rfl) ?_
    exact ⟨rfl, congrArg wd (by simp only [x_X2_set_2, if_pos c1])⟩
  · refine AW_g hT cl_X2 hK 2 4 (pc' := 10) (lo' := [some (.ref 2), some (.int p0), some (.int p1)]) (st' := [.int 12, .int p0]) (hp' := wd σ) rfl ?_
    refine AW_icmp_ge hT hK 6 (tgt := 20) rfl rfl (fun c2 => ?_) (fun c2 => ?_)
    · refine AW_vret hT hE 12 rfl (Nat.le_of_ble_eq_true rfl) (Nat.le_of_ble_eq_true rfl) ?_
      exact ⟨rfl, congrArg wd (by simp only [x_X2_set_2, if_neg c1, if_pos c2])⟩
    · refine AW_g hT cl_X2 hK 7 4 (pc' := 19) (lo' := [some (.ref 2), some (.int p0), some (.int p1)]) (st' := [.int p1, .int p0, .ref 3]) (hp' := wd σ) rfl ?_
      refine AW_iastx hT hK 11 rfl (n := 12) (f := (σ.2.1 3)) rfl (az_in12 c1 c2) ?_
      refine AW_to (hp' := wd (sG σ 3 (va_up (σ.2.1 3) p0.toNatClampNeg p1))) rfl rfl rfl ?_
      refine AW_vret hT hE 12 rfl (Nat.le_of_ble_eq_true rfl) (Nat.le_of_ble_eq_true rfl) ?_
      exact ⟨rfl, congrArg wd (by simp only [x_X2_set_2, if_neg c1, if_neg c2])⟩
def b_X3_put_45 (d1 : Int32) (d2 : Int32) (d3 : Int32) (i : Nat) (σ : az_S) : az_S :=
  let v11 := x_X5_holds σ d2 (nI i)
  if v11 = 0 then
    σ
  else
    let τ14 := x_X3_addCiting σ d3 (nI i)
    (τ14)
set_option maxRecDepth 100000 in
set_option maxHeartbeats 4000000 in
theorem lp_X3_put_45 {K : az_K} {l0 : Launch} (hT : az_Tb cX3_put tb_X3_put) (hK : az_OK K RX3 cX3_put ({ frames := 4, cells := 0, slots := 0, locals := 95 } : Room) l0) (d1 : Int32) (d2 : Int32) (d3 : Int32) :
    ∀ (n i : Nat) (σ : az_S) (hi : i + n = 12) (kx : ∀ s' : az_S, az_it (fun ι s => b_X3_put_45 d1 d2 d3 ι s) n i σ = s' → AW K 0 0 74 [some (.ref 1), some (.int d1), some (.int d2), some (.int d3), none] [] (wd s')), AW K 0 0 45 [some (.ref 1), some (.int d1), some (.int d2), some (.int d3), some (.int (nI i))] [] (wd σ) := by
  intro n
  induction n with
  | zero =>
    intro i σ hi kx
    refine AW_g hT cl_X3 hK 26 2 (pc' := 49) (lo' := [some (.ref 1), some (.int d1), some (.int d2), some (.int d3), some (.int (nI i))]) (st' := [.int 12, .int (nI i)]) (hp' := wd σ) rfl ?_
    refine AW_icmp_ge hT hK 28 (tgt := 74) rfl rfl (fun c15 => ?_) (fun c15 => absurd (az_c0 hi) c15)
    refine AW_msk [true, true, true, true, false] (lo' := [some (.ref 1), some (.int d1), some (.int d2), some (.int d3), none]) rfl ?_
    exact kx σ rfl
  | succ n ih =>
    intro i σ hi kx
    refine AW_g hT cl_X3 hK 26 2 (pc' := 49) (lo' := [some (.ref 1), some (.int d1), some (.int d2), some (.int d3), some (.int (nI i))]) (st' := [.int 12, .int (nI i)]) (hp' := wd σ) rfl ?_
    refine AW_icmp_ge hT hK 28 (tgt := 74) rfl rfl (fun c9 => absurd c9 (az_c1 hi)) (fun c9 => ?_)
    refine AW_g hT cl_X3 hK 29 2 (pc' := 55) (lo' := [some (.ref 1), some (.int d1), some (.int d2), some (.int d3), some (.int (nI i))]) (st' := [.int (nI i), .int d2]) (hp' := wd σ) rfl ?_
    refine AW_callSN hT hK 31 [.int d2, .int (nI i)] [] (m_X5_holds l0 σ d2 (nI i)) cw_X5_holds lk_X3_44 sm_X5_holds rfl rfl rfl rfl (Nat.le_of_ble_eq_true rfl) (Nat.le_of_ble_eq_true rfl) (AW_k1 (fun v11 h10 => ?_))
    refine AW_if_eq hT hK 32 (tgt := 68) rfl rfl (fun c12 => ?_) (fun c12 => ?_)
    · refine AW_g hT cl_X3 hK 37 1 (pc' := 71) (lo' := [some (.ref 1), some (.int d1), some (.int d2), some (.int d3), some (.int ((nI i) + 1))]) (st' := []) (hp' := wd σ) rfl ?_
      refine AW_goto hT hK 38 (tgt := 45) rfl rfl ?_
      refine AW_to (lo' := [some (.ref 1), some (.int d1), some (.int d2), some (.int d3), some (.int (nI (i + 1)))]) (by rw [nI_1]) rfl rfl ?_
      subst h10; skip
      exact ih (i + 1) _ (by omega) (fun s' hs' => kx s' ((congrArg (az_it _ n (i + 1)) (by simp only [b_X3_put_45, if_pos c12])).trans hs'))
    · refine AW_g hT cl_X3 hK 33 3 (pc' := 65) (lo' := [some (.ref 1), some (.int d1), some (.int d2), some (.int d3), some (.int (nI i))]) (st' := [.int (nI i), .int d3, .ref 1]) (hp' := wd σ) rfl ?_
      refine AW_callV hT hK 36 [.int d3, .int (nI i)] [] (m_X3_addCiting l0 σ d3 (nI i)) cw_X3_addCiting lk_X3_59 vi_X3_addCiting rfl rfl rfl rfl rfl rfl (Nat.le_of_ble_eq_true rfl) (Nat.le_of_ble_eq_true rfl) (AW_kv (fun τ14 h13 => ?_))
      refine AW_g hT cl_X3 hK 37 1 (pc' := 71) (lo' := [some (.ref 1), some (.int d1), some (.int d2), some (.int d3), some (.int ((nI i) + 1))]) (st' := []) (hp' := wd (τ14)) rfl ?_
      refine AW_goto hT hK 38 (tgt := 45) rfl rfl ?_
      refine AW_to (lo' := [some (.ref 1), some (.int d1), some (.int d2), some (.int d3), some (.int (nI (i + 1)))]) (by rw [nI_1]) rfl rfl ?_
      subst h13; subst h10; skip
      exact ih (i + 1) _ (by omega) (fun s' hs' => kx s' ((congrArg (az_it _ n (i + 1)) (by simp only [b_X3_put_45, if_neg c12])).trans hs'))
def x_X3_put (σ : az_S) (p0 : Int32) (p1 : Int32) : Int32 × az_S :=
  let u1 := ((σ.1 0) + 1)
  let τ4 := x_X2_set_2 (sF (sF σ 0 u1) 1 p0) (σ.1 0) p0
  let v6 := x_X5_setOf (τ4) (σ.1 0)
  let u7 := ((τ4.1 2) ||| v6)
  let s16 := az_it (fun ι s => b_X3_put_45 p0 p1 (σ.1 0) ι s) 12 0 (sF τ4 2 u7)
  ((σ.1 0), s16)
set_option maxRecDepth 100000 in
set_option maxHeartbeats 4000000 in
theorem m_X3_put (l0 : Launch) (σ : az_S) (p0 : Int32) (p1 : Int32) : AMet l0 yX3_put cX3_put 5 (some .int) ({ frames := 4, cells := 0, slots := 0, locals := 95 } : Room) false [.ref 1, .int p0, .int p1] (wd σ) (fun r h => r = some (.int (x_X3_put σ p0 p1).1) ∧ h = wd (x_X3_put σ p0 p1).2) := by
  refine AMet_of (by decide +kernel) (by simp [Value.category]) (Nat.le_of_ble_eq_true rfl) (fun K hK hct hG hE => ?_)
  have hT := tt_X3_put
  refine AW_g hT cl_X3 hK 0 8 (pc' := 12) (lo' := [some (.ref 1), some (.int p0), some (.int p1), some (.int (σ.1 0)), none]) (st' := [.int ((σ.1 0) + 1), .ref 1]) (hp' := wd σ) rfl ?_
  refine AW_topi (fun u1 h2 => ?_)
  refine AW_g hT cl_X3 hK 8 8 (pc' := 26) (lo' := [some (.ref 1), some (.int p0), some (.int p1), some (.int (σ.1 0)), none]) (st' := [.int p0, .int (σ.1 0), .ref 2]) (hp' := wd (sF (sF σ 0 u1) 1 p0)) rfl ?_
  refine AW_callV hT hK 16 [.int (σ.1 0), .int p0] [] (m_X2_set_2 l0 (sF (sF σ 0 u1) 1 p0) (σ.1 0) p0) cw_X2_set lk_X3_52 vi_X2_set rfl rfl rfl rfl rfl rfl (Nat.le_of_ble_eq_true rfl) (Nat.le_of_ble_eq_true rfl) (AW_kv (fun τ4 h3 => ?_))
  refine AW_g hT cl_X3 hK 17 4 (pc' := 35) (lo' := [some (.ref 1), some (.int p0), some (.int p1), some (.int (σ.1 0)), none]) (st' := [.int (σ.1 0), .int (τ4.1 2), .ref 1]) (hp' := wd (τ4)) rfl ?_
  refine AW_callSN hT hK 21 [.int (σ.1 0)] [.int (τ4.1 2), .ref 1] (m_X5_setOf l0 (τ4) (σ.1 0)) cw_X5_setOf lk_X3_56 sm_X5_setOf rfl rfl rfl rfl (Nat.le_of_ble_eq_true rfl) (Nat.le_of_ble_eq_true rfl) (AW_k1 (fun v6 h5 => ?_))
  refine AW_g hT cl_X3 hK 22 1 (pc' := 39) (lo' := [some (.ref 1), some (.int p0), some (.int p1), some (.int (σ.1 0)), none]) (st' := [.int ((τ4.1 2) ||| v6), .ref 1]) (hp' := wd (τ4)) rfl ?_
  refine AW_topi (fun u7 h8 => ?_)
  refine AW_g hT cl_X3 hK 23 3 (pc' := 45) (lo' := [some (.ref 1), some (.int p0), some (.int p1), some (.int (σ.1 0)), some (.int 0)]) (st' := []) (hp' := wd (sF τ4 2 u7)) rfl ?_
  refine AW_to (lo' := [some (.ref 1), some (.int p0), some (.int p1), some (.int (σ.1 0)), some (.int (nI 0))]) (rfl) rfl rfl ?_
  refine lp_X3_put_45 hT hK p0 p1 (σ.1 0) 12 0 (sF τ4 2 u7) (by first | rfl | omega) (fun s16 h17 => ?_)
  refine AW_g hT cl_X3 hK 39 1 (pc' := 75) (lo' := [some (.ref 1), some (.int p0), some (.int p1), some (.int (σ.1 0)), none]) (st' := [.int (σ.1 0)]) (hp' := wd s16) rfl ?_
  refine AW_iret hT hE 40 rfl rfl rfl (Nat.le_of_ble_eq_true rfl) (Nat.le_of_ble_eq_true rfl) ?_
  subst h17; subst h8; subst h5; subst h3; subst h2; exact ⟨by simp only [x_X3_put], by simp only [x_X3_put]⟩
def b_X3_take_2 (d1 : Int32) (i : Nat) (σ : az_S) : az_S :=
  let v3 := x_X3_cites σ d1 (nI i)
  if v3 = 0 then
    let v6 := x_X3_cites σ (nI i) d1
    if v6 = 0 then
      σ
    else
      let τ9 := x_X3_dropCiting σ (nI i) d1
      (τ9)
  else
    let τ11 := x_X3_dropCiting σ d1 (nI i)
    let v13 := x_X3_cites (τ11) (nI i) d1
    if v13 = 0 then
      (τ11)
    else
      let τ16 := x_X3_dropCiting (τ11) (nI i) d1
      (τ16)
set_option maxRecDepth 100000 in
set_option maxHeartbeats 4000000 in
theorem lp_X3_take_2 {K : az_K} {l0 : Launch} (hT : az_Tb cX3_take tb_X3_take) (hK : az_OK K RX3 cX3_take ({ frames := 4, cells := 0, slots := 0, locals := 95 } : Room) l0) (d1 : Int32) :
    ∀ (n i : Nat) (σ : az_S) (hi : i + n = 12) (kx : ∀ s' : az_S, az_it (fun ι s => b_X3_take_2 d1 ι s) n i σ = s' → AW K 0 0 44 [some (.ref 1), some (.int d1), none] [] (wd s')), AW K 0 0 2 [some (.ref 1), some (.int d1), some (.int (nI i))] [] (wd σ) := by
  intro n
  induction n with
  | zero =>
    intro i σ hi kx
    refine AW_g hT cl_X3 hK 2 2 (pc' := 5) (lo' := [some (.ref 1), some (.int d1), some (.int (nI i))]) (st' := [.int 12, .int (nI i)]) (hp' := wd σ) rfl ?_
    refine AW_icmp_ge hT hK 4 (tgt := 44) rfl rfl (fun c17 => ?_) (fun c17 => absurd (az_c0 hi) c17)
    refine AW_msk [true, true, false] (lo' := [some (.ref 1), some (.int d1), none]) rfl ?_
    exact kx σ rfl
  | succ n ih =>
    intro i σ hi kx
    refine AW_g hT cl_X3 hK 2 2 (pc' := 5) (lo' := [some (.ref 1), some (.int d1), some (.int (nI i))]) (st' := [.int 12, .int (nI i)]) (hp' := wd σ) rfl ?_
    refine AW_icmp_ge hT hK 4 (tgt := 44) rfl rfl (fun c1 => absurd c1 (az_c1 hi)) (fun c1 => ?_)
    refine AW_g hT cl_X3 hK 5 3 (pc' := 11) (lo' := [some (.ref 1), some (.int d1), some (.int (nI i))]) (st' := [.int (nI i), .int d1, .ref 1]) (hp' := wd σ) rfl ?_
    refine AW_callV hT hK 8 [.int d1, .int (nI i)] [] (m_X3_cites l0 σ d1 (nI i)) cw_X3_cites lk_X3_62 vi_X3_cites rfl rfl rfl rfl rfl rfl (Nat.le_of_ble_eq_true rfl) (Nat.le_of_ble_eq_true rfl) (AW_k1 (fun v3 h2 => ?_))
    refine AW_if_eq hT hK 9 (tgt := 23) rfl rfl (fun c4 => ?_) (fun c4 => ?_)
    · refine AW_g hT cl_X3 hK 14 3 (pc' := 26) (lo' := [some (.ref 1), some (.int d1), some (.int (nI i))]) (st' := [.int d1, .int (nI i), .ref 1]) (hp' := wd σ) rfl ?_
      refine AW_callV hT hK 17 [.int (nI i), .int d1] [] (m_X3_cites l0 σ (nI i) d1) cw_X3_cites lk_X3_62 vi_X3_cites rfl rfl rfl rfl rfl rfl (Nat.le_of_ble_eq_true rfl) (Nat.le_of_ble_eq_true rfl) (AW_k1 (fun v6 h5 => ?_))
      refine AW_if_eq hT hK 18 (tgt := 38) rfl rfl (fun c7 => ?_) (fun c7 => ?_)
      · refine AW_g hT cl_X3 hK 23 1 (pc' := 41) (lo' := [some (.ref 1), some (.int d1), some (.int ((nI i) + 1))]) (st' := []) (hp' := wd σ) rfl ?_
        refine AW_goto hT hK 24 (tgt := 2) rfl rfl ?_
        refine AW_to (lo' := [some (.ref 1), some (.int d1), some (.int (nI (i + 1)))]) (by rw [nI_1]) rfl rfl ?_
        subst h5; subst h2; skip
        exact ih (i + 1) _ (by omega) (fun s' hs' => kx s' ((congrArg (az_it _ n (i + 1)) (by simp only [b_X3_take_2, if_pos c4, if_pos c7])).trans hs'))
      · refine AW_g hT cl_X3 hK 19 3 (pc' := 35) (lo' := [some (.ref 1), some (.int d1), some (.int (nI i))]) (st' := [.int d1, .int (nI i), .ref 1]) (hp' := wd σ) rfl ?_
        refine AW_callV hT hK 22 [.int (nI i), .int d1] [] (m_X3_dropCiting l0 σ (nI i) d1) cw_X3_dropCiting lk_X3_65 vi_X3_dropCiting rfl rfl rfl rfl rfl rfl (Nat.le_of_ble_eq_true rfl) (Nat.le_of_ble_eq_true rfl) (AW_kv (fun τ9 h8 => ?_))
        refine AW_g hT cl_X3 hK 23 1 (pc' := 41) (lo' := [some (.ref 1), some (.int d1), some (.int ((nI i) + 1))]) (st' := []) (hp' := wd (τ9)) rfl ?_
        refine AW_goto hT hK 24 (tgt := 2) rfl rfl ?_
        refine AW_to (lo' := [some (.ref 1), some (.int d1), some (.int (nI (i + 1)))]) (by rw [nI_1]) rfl rfl ?_
        subst h8; subst h5; subst h2; skip
        exact ih (i + 1) _ (by omega) (fun s' hs' => kx s' ((congrArg (az_it _ n (i + 1)) (by simp only [b_X3_take_2, if_pos c4, if_neg c7])).trans hs'))
    · refine AW_g hT cl_X3 hK 10 3 (pc' := 20) (lo' := [some (.ref 1), some (.int d1), some (.int (nI i))]) (st' := [.int (nI i), .int d1, .ref 1]) (hp' := wd σ) rfl ?_
      refine AW_callV hT hK 13 [.int d1, .int (nI i)] [] (m_X3_dropCiting l0 σ d1 (nI i)) cw_X3_dropCiting lk_X3_65 vi_X3_dropCiting rfl rfl rfl rfl rfl rfl (Nat.le_of_ble_eq_true rfl) (Nat.le_of_ble_eq_true rfl) (AW_kv (fun τ11 h10 => ?_))
      refine AW_g hT cl_X3 hK 14 3 (pc' := 26) (lo' := [some (.ref 1), some (.int d1), some (.int (nI i))]) (st' := [.int d1, .int (nI i), .ref 1]) (hp' := wd (τ11)) rfl ?_
      refine AW_callV hT hK 17 [.int (nI i), .int d1] [] (m_X3_cites l0 (τ11) (nI i) d1) cw_X3_cites lk_X3_62 vi_X3_cites rfl rfl rfl rfl rfl rfl (Nat.le_of_ble_eq_true rfl) (Nat.le_of_ble_eq_true rfl) (AW_k1 (fun v13 h12 => ?_))
      refine AW_if_eq hT hK 18 (tgt := 38) rfl rfl (fun c14 => ?_) (fun c14 => ?_)
      · refine AW_g hT cl_X3 hK 23 1 (pc' := 41) (lo' := [some (.ref 1), some (.int d1), some (.int ((nI i) + 1))]) (st' := []) (hp' := wd (τ11)) rfl ?_
        refine AW_goto hT hK 24 (tgt := 2) rfl rfl ?_
        refine AW_to (lo' := [some (.ref 1), some (.int d1), some (.int (nI (i + 1)))]) (by rw [nI_1]) rfl rfl ?_
        subst h12; subst h10; subst h2; skip
        exact ih (i + 1) _ (by omega) (fun s' hs' => kx s' ((congrArg (az_it _ n (i + 1)) (by simp only [b_X3_take_2, if_neg c4, if_pos c14])).trans hs'))
      · refine AW_g hT cl_X3 hK 19 3 (pc' := 35) (lo' := [some (.ref 1), some (.int d1), some (.int (nI i))]) (st' := [.int d1, .int (nI i), .ref 1]) (hp' := wd (τ11)) rfl ?_
        refine AW_callV hT hK 22 [.int (nI i), .int d1] [] (m_X3_dropCiting l0 (τ11) (nI i) d1) cw_X3_dropCiting lk_X3_65 vi_X3_dropCiting rfl rfl rfl rfl rfl rfl (Nat.le_of_ble_eq_true rfl) (Nat.le_of_ble_eq_true rfl) (AW_kv (fun τ16 h15 => ?_))
        refine AW_g hT cl_X3 hK 23 1 (pc' := 41) (lo' := [some (.ref 1), some (.int d1), some (.int ((nI i) + 1))]) (st' := []) (hp' := wd (τ16)) rfl ?_
        refine AW_goto hT hK 24 (tgt := 2) rfl rfl ?_
        refine AW_to (lo' := [some (.ref 1), some (.int d1), some (.int (nI (i + 1)))]) (by rw [nI_1]) rfl rfl ?_
        subst h15; subst h12; subst h10; subst h2; skip
        exact ih (i + 1) _ (by omega) (fun s' hs' => kx s' ((congrArg (az_it _ n (i + 1)) (by simp only [b_X3_take_2, if_neg c4, if_neg c14])).trans hs'))
def x_X3_take (σ : az_S) (p0 : Int32) : az_S :=
  let s18 := az_it (fun ι s => b_X3_take_2 p0 ι s) 12 0 σ
  let v21 := x_X5_setOf s18 p0
  let u22 := ((s18.1 2) &&& (v21 ^^^ (-1)))
  (sF s18 2 u22)
set_option maxRecDepth 100000 in
set_option maxHeartbeats 4000000 in
theorem m_X3_take (l0 : Launch) (σ : az_S) (p0 : Int32) : AMet l0 yX3_take cX3_take 3 none ({ frames := 4, cells := 0, slots := 0, locals := 95 } : Room) false [.ref 1, .int p0] (wd σ) (fun r h => r = none ∧ h = wd (x_X3_take σ p0)) := by
  refine AMet_of (by decide +kernel) (by simp [Value.category]) (Nat.le_of_ble_eq_true rfl) (fun K hK hct hG hE => ?_)
  have hT := tt_X3_take
  refine AW_g hT cl_X3 hK 0 2 (pc' := 2) (lo' := [some (.ref 1), some (.int p0), some (.int 0)]) (st' := []) (hp' := wd σ) rfl ?_
  refine AW_to (lo' := [some (.ref 1), some (.int p0), some (.int (nI 0))]) (rfl) rfl rfl ?_
  refine lp_X3_take_2 hT hK p0 12 0 σ (by first | rfl | omega) (fun s18 h19 => ?_)
  refine AW_g hT cl_X3 hK 25 4 (pc' := 50) (lo' := [some (.ref 1), some (.int p0), none]) (st' := [.int p0, .int (s18.1 2), .ref 1]) (hp' := wd s18) rfl ?_
  refine AW_callSN hT hK 29 [.int p0] [.int (s18.1 2), .ref 1] (m_X5_setOf l0 s18 p0) cw_X5_setOf lk_X3_56 sm_X5_setOf rfl rfl rfl rfl (Nat.le_of_ble_eq_true rfl) (Nat.le_of_ble_eq_true rfl) (AW_k1 (fun v21 h20 => ?_))
  refine AW_g hT cl_X3 hK 30 3 (pc' := 56) (lo' := [some (.ref 1), some (.int p0), none]) (st' := [.int ((s18.1 2) &&& (v21 ^^^ (-1))), .ref 1]) (hp' := wd s18) rfl ?_
  refine AW_topi (fun u22 h23 => ?_)
  refine AW_g hT cl_X3 hK 33 1 (pc' := 59) (lo' := [some (.ref 1), some (.int p0), none]) (st' := []) (hp' := wd (sF s18 2 u22)) rfl ?_
  refine AW_vret hT hE 34 rfl (Nat.le_of_ble_eq_true rfl) (Nat.le_of_ble_eq_true rfl) ?_
  subst h23; subst h20; subst h19; exact ⟨rfl, congrArg wd (by simp only [x_X3_take])⟩
def x_X3_sharedOf (σ : az_S) (p0 : Int32) (p1 : Int32) : Int32 :=
  let v2 := x_X4_at_8 σ p0 p1
  v2
set_option maxRecDepth 100000 in
set_option maxHeartbeats 4000000 in
theorem m_X3_sharedOf (l0 : Launch) (σ : az_S) (p0 : Int32) (p1 : Int32) : AMet l0 yX3_sharedOf cX3_sharedOf 3 (some .int) ({ frames := 1, cells := 0, slots := 0, locals := 24 } : Room) false [.ref 1, .int p0, .int p1] (wd σ) (fun r h => r = some (.int (x_X3_sharedOf σ p0 p1)) ∧ h = wd σ) := by
  refine AMet_of (by decide +kernel) (by simp [Value.category]) (Nat.le_of_ble_eq_true rfl) (fun K hK hct hG hE => ?_)
  have hT := tt_X3_sharedOf
  refine AW_g hT cl_X3 hK 0 4 (pc' := 6) (lo' := [some (.ref 1), some (.int p0), some (.int p1)]) (st' := [.int p1, .int p0, .ref 8]) (hp' := wd σ) rfl ?_
  refine AW_callV hT hK 4 [.int p0, .int p1] [] (m_X4_at_8 l0 σ p0 p1) cw_X4_at lk_X3_75 vi_X4_at rfl rfl rfl rfl rfl rfl (Nat.le_of_ble_eq_true rfl) (Nat.le_of_ble_eq_true rfl) (AW_k1 (fun v2 h1 => ?_))
  refine AW_iret hT hE 5 rfl rfl rfl (Nat.le_of_ble_eq_true rfl) (Nat.le_of_ble_eq_true rfl) ?_
  subst h1; exact ⟨by simp only [x_X3_sharedOf], rfl⟩
def x_X3_jointOf (σ : az_S) (p0 : Int32) (p1 : Int32) : Int32 :=
  let v2 := x_X4_at_10 σ p0 p1
  v2
set_option maxRecDepth 100000 in
set_option maxHeartbeats 4000000 in
theorem m_X3_jointOf (l0 : Launch) (σ : az_S) (p0 : Int32) (p1 : Int32) : AMet l0 yX3_jointOf cX3_jointOf 3 (some .int) ({ frames := 1, cells := 0, slots := 0, locals := 24 } : Room) false [.ref 1, .int p0, .int p1] (wd σ) (fun r h => r = some (.int (x_X3_jointOf σ p0 p1)) ∧ h = wd σ) := by
  refine AMet_of (by decide +kernel) (by simp [Value.category]) (Nat.le_of_ble_eq_true rfl) (fun K hK hct hG hE => ?_)
  have hT := tt_X3_jointOf
  refine AW_g hT cl_X3 hK 0 4 (pc' := 6) (lo' := [some (.ref 1), some (.int p0), some (.int p1)]) (st' := [.int p1, .int p0, .ref 10]) (hp' := wd σ) rfl ?_
  refine AW_callV hT hK 4 [.int p0, .int p1] [] (m_X4_at_10 l0 σ p0 p1) cw_X4_at lk_X3_75 vi_X4_at rfl rfl rfl rfl rfl rfl (Nat.le_of_ble_eq_true rfl) (Nat.le_of_ble_eq_true rfl) (AW_k1 (fun v2 h1 => ?_))
  refine AW_iret hT hE 5 rfl rfl rfl (Nat.le_of_ble_eq_true rfl) (Nat.le_of_ble_eq_true rfl) ?_
  subst h1; exact ⟨by simp only [x_X3_jointOf], rfl⟩
def x_X3_weightOf (σ : az_S) (p0 : Int32) (p1 : Int32) : Int32 :=
  let v2 := x_X4_at_8 σ p0 p1
  let v4 := x_X4_at_10 σ p0 p1
  (v2 + v4)
set_option maxRecDepth 100000 in
set_option maxHeartbeats 4000000 in
theorem m_X3_weightOf (l0 : Launch) (σ : az_S) (p0 : Int32) (p1 : Int32) : AMet l0 yX3_weightOf cX3_weightOf 3 (some .int) ({ frames := 1, cells := 0, slots := 0, locals := 24 } : Room) false [.ref 1, .int p0, .int p1] (wd σ) (fun r h => r = some (.int (x_X3_weightOf σ p0 p1)) ∧ h = wd σ) := by
  refine AMet_of (by decide +kernel) (by simp [Value.category]) (Nat.le_of_ble_eq_true rfl) (fun K hK hct hG hE => ?_)
  have hT := tt_X3_weightOf
  refine AW_g hT cl_X3 hK 0 4 (pc' := 6) (lo' := [some (.ref 1), some (.int p0), some (.int p1)]) (st' := [.int p1, .int p0, .ref 8]) (hp' := wd σ) rfl ?_
  refine AW_callV hT hK 4 [.int p0, .int p1] [] (m_X4_at_8 l0 σ p0 p1) cw_X4_at lk_X3_75 vi_X4_at rfl rfl rfl rfl rfl rfl (Nat.le_of_ble_eq_true rfl) (Nat.le_of_ble_eq_true rfl) (AW_k1 (fun v2 h1 => ?_))
  refine AW_g hT cl_X3 hK 5 4 (pc' := 15) (lo' := [some (.ref 1), some (.int p0), some (.int p1)]) (st' := [.int p1, .int p0, .ref 10, .int v2]) (hp' := wd σ) rfl ?_
  refine AW_callV hT hK 9 [.int p0, .int p1] [.int v2] (m_X4_at_10 l0 σ p0 p1) cw_X4_at lk_X3_75 vi_X4_at rfl rfl rfl rfl rfl rfl (Nat.le_of_ble_eq_true rfl) (Nat.le_of_ble_eq_true rfl) (AW_k1 (fun v4 h3 => ?_))
  refine AW_g hT cl_X3 hK 10 1 (pc' := 19) (lo' := [some (.ref 1), some (.int p0), some (.int p1)]) (st' := [.int (v2 + v4)]) (hp' := wd σ) rfl ?_
  refine AW_iret hT hE 11 rfl rfl rfl (Nat.le_of_ble_eq_true rfl) (Nat.le_of_ble_eq_true rfl) ?_
  subst h3; subst h1; exact ⟨by simp only [x_X3_weightOf], rfl⟩
def b_X3_weightsKept_14 (σ : az_S) (d2 : Nat) (i : Nat) (w1 : Int32) : Int32 :=
  let v4 := x_X3_weightOf σ (nI d2) (nI i)
  (w1 + v4)
set_option maxRecDepth 100000 in
set_option maxHeartbeats 4000000 in
theorem lp_X3_weightsKept_14 {K : az_K} {l0 : Launch} (hT : az_Tb cX3_weightsKept tb_X3_weightsKept) (hK : az_OK K RX3 cX3_weightsKept ({ frames := 2, cells := 0, slots := 0, locals := 46 } : Room) l0) (σ : az_S) (d2 : Nat) (hd2 : d2 < 12) :
    ∀ (n i : Nat) (w1 : Int32) (hi : i + n = 12) (kx : ∀ s' : Int32, az_it (fun ι s => b_X3_weightsKept_14 σ d2 ι s) n i w1 = s' → AW K 0 0 35 [some (.ref 1), some (.int s'), some (.int (nI d2)), none] [] (wd σ)), AW K 0 0 14 [some (.ref 1), some (.int w1), some (.int (nI d2)), some (.int (nI i))] [] (wd σ) := by
  intro n
  induction n with
  | zero =>
    intro i w1 hi kx
    refine AW_g hT cl_X3 hK 11 2 (pc' := 17) (lo' := [some (.ref 1), some (.int w1), some (.int (nI d2)), some (.int (nI i))]) (st' := [.int 12, .int (nI i)]) (hp' := wd σ) rfl ?_
    refine AW_icmp_ge hT hK 13 (tgt := 35) rfl rfl (fun c5 => ?_) (fun c5 => absurd (az_c0 hi) c5)
    refine AW_msk [true, true, true, false] (lo' := [some (.ref 1), some (.int w1), some (.int (nI d2)), none]) rfl ?_
    exact kx w1 rfl
  | succ n ih =>
    intro i w1 hi kx
    refine AW_g hT cl_X3 hK 11 2 (pc' := 17) (lo' := [some (.ref 1), some (.int w1), some (.int (nI d2)), some (.int (nI i))]) (st' := [.int 12, .int (nI i)]) (hp' := wd σ) rfl ?_
    refine AW_icmp_ge hT hK 13 (tgt := 35) rfl rfl (fun c2 => absurd c2 (az_c1 hi)) (fun c2 => ?_)
    refine AW_g hT cl_X3 hK 14 4 (pc' := 24) (lo' := [some (.ref 1), some (.int w1), some (.int (nI d2)), some (.int (nI i))]) (st' := [.int (nI i), .int (nI d2), .ref 1, .int w1]) (hp' := wd σ) rfl ?_
    refine AW_callV hT hK 18 [.int (nI d2), .int (nI i)] [.int w1] (m_X3_weightOf l0 σ (nI d2) (nI i)) cw_X3_weightOf lk_X3_78 vi_X3_weightOf rfl rfl rfl rfl rfl rfl (Nat.le_of_ble_eq_true rfl) (Nat.le_of_ble_eq_true rfl) (AW_k1 (fun v4 h3 => ?_))
    refine AW_g hT cl_X3 hK 19 3 (pc' := 32) (lo' := [some (.ref 1), some (.int (w1 + v4)), some (.int (nI d2)), some (.int ((nI i) + 1))]) (st' := []) (hp' := wd σ) rfl ?_
    refine AW_goto hT hK 22 (tgt := 14) rfl rfl ?_
    refine AW_to (lo' := [some (.ref 1), some (.int (w1 + v4)), some (.int (nI d2)), some (.int (nI (i + 1)))]) (by rw [nI_1]) rfl rfl ?_
    subst h3; skip
    exact ih (i + 1) _ (by omega) (fun s' hs' => kx s' ((congrArg (az_it _ n (i + 1)) (by simp only [b_X3_weightsKept_14])).trans hs'))
def b_X3_weightsKept_4 (σ : az_S) (i : Nat) (w1 : Int32) : Int32 :=
  let s6 := az_it (fun ι s => b_X3_weightsKept_14 σ i ι s) (12 - (i + 1)) (i + 1) w1
  s6
set_option maxRecDepth 100000 in
set_option maxHeartbeats 4000000 in
theorem lp_X3_weightsKept_4 {K : az_K} {l0 : Launch} (hT : az_Tb cX3_weightsKept tb_X3_weightsKept) (hK : az_OK K RX3 cX3_weightsKept ({ frames := 2, cells := 0, slots := 0, locals := 46 } : Room) l0) (σ : az_S) :
    ∀ (n i : Nat) (w1 : Int32) (hi : i + n = 12) (kx : ∀ s' : Int32, az_it (fun ι s => b_X3_weightsKept_4 σ ι s) n i w1 = s' → AW K 0 0 41 [some (.ref 1), some (.int s'), none, none] [] (wd σ)), AW K 0 0 4 [some (.ref 1), some (.int w1), some (.int (nI i)), none] [] (wd σ) := by
  intro n
  induction n with
  | zero =>
    intro i w1 hi kx
    refine AW_g hT cl_X3 hK 4 2 (pc' := 7) (lo' := [some (.ref 1), some (.int w1), some (.int (nI i)), none]) (st' := [.int 12, .int (nI i)]) (hp' := wd σ) rfl ?_
    refine AW_icmp_ge hT hK 6 (tgt := 41) rfl rfl (fun c8 => ?_) (fun c8 => absurd (az_c0 hi) c8)
    refine AW_msk [true, true, false, false] (lo' := [some (.ref 1), some (.int w1), none, none]) rfl ?_
    exact kx w1 rfl
  | succ n ih =>
    intro i w1 hi kx
    refine AW_g hT cl_X3 hK 4 2 (pc' := 7) (lo' := [some (.ref 1), some (.int w1), some (.int (nI i)), none]) (st' := [.int 12, .int (nI i)]) (hp' := wd σ) rfl ?_
    refine AW_icmp_ge hT hK 6 (tgt := 41) rfl rfl (fun c1 => absurd c1 (az_c1 hi)) (fun c1 => ?_)
    refine AW_g hT cl_X3 hK 7 4 (pc' := 14) (lo' := [some (.ref 1), some (.int w1), some (.int (nI i)), some (.int ((nI i) + 1))]) (st' := []) (hp' := wd σ) rfl ?_
    refine AW_to (lo' := [some (.ref 1), some (.int w1), some (.int (nI i)), some (.int (nI (i + 1)))]) (by rw [nI_1]) rfl rfl ?_
    refine lp_X3_weightsKept_14 hT hK σ i (by omega) (12 - (i + 1)) (i + 1) w1 (by first | rfl | omega) (fun s6 h7 => ?_)
    refine AW_g hT cl_X3 hK 23 1 (pc' := 38) (lo' := [some (.ref 1), some (.int s6), some (.int ((nI i) + 1)), none]) (st' := []) (hp' := wd σ) rfl ?_
    refine AW_goto hT hK 24 (tgt := 4) rfl rfl ?_
    refine AW_to (lo' := [some (.ref 1), some (.int s6), some (.int (nI (i + 1))), none]) (by rw [nI_1]) rfl rfl ?_
    subst h7; skip
    exact ih (i + 1) _ (by omega) (fun s' hs' => kx s' ((congrArg (az_it _ n (i + 1)) (by simp only [b_X3_weightsKept_4])).trans hs'))
def x_X3_weightsKept (σ : az_S) : Int32 :=
  let s9 := az_it (fun ι s => b_X3_weightsKept_4 σ ι s) 12 0 0
  s9
set_option maxRecDepth 100000 in
set_option maxHeartbeats 4000000 in
theorem m_X3_weightsKept (l0 : Launch) (σ : az_S) : AMet l0 yX3_weightsKept cX3_weightsKept 4 (some .int) ({ frames := 2, cells := 0, slots := 0, locals := 46 } : Room) false [.ref 1] (wd σ) (fun r h => r = some (.int (x_X3_weightsKept σ)) ∧ h = wd σ) := by
  refine AMet_of (by decide +kernel) (by simp [Value.category]) (Nat.le_of_ble_eq_true rfl) (fun K hK hct hG hE => ?_)
  have hT := tt_X3_weightsKept
  refine AW_g hT cl_X3 hK 0 4 (pc' := 4) (lo' := [some (.ref 1), some (.int 0), some (.int 0), none]) (st' := []) (hp' := wd σ) rfl ?_
  refine AW_to (lo' := [some (.ref 1), some (.int 0), some (.int (nI 0)), none]) (rfl) rfl rfl ?_
  refine lp_X3_weightsKept_4 hT hK σ 12 0 0 (by first | rfl | omega) (fun s9 h10 => ?_)
  refine AW_g hT cl_X3 hK 25 1 (pc' := 42) (lo' := [some (.ref 1), some (.int s9), none, none]) (st' := [.int s9]) (hp' := wd σ) rfl ?_
  refine AW_iret hT hE 26 rfl rfl rfl (Nat.le_of_ble_eq_true rfl) (Nat.le_of_ble_eq_true rfl) ?_
  subst h10; exact ⟨by simp only [x_X3_weightsKept], rfl⟩
def b_X3_referringToBoth_5 (σ : az_S) (d1 : Int32) (d2 : Int32) (i : Nat) (w3 : Int32) : Int32 :=
  let v3 := x_X3_cites σ (nI i) d1
  if v3 = 0 then
    w3
  else
    let v6 := x_X3_cites σ (nI i) d2
    if v6 = 0 then
      w3
    else
      (w3 + 1)
set_option maxRecDepth 100000 in
set_option maxHeartbeats 4000000 in
theorem lp_X3_referringToBoth_5 {K : az_K} {l0 : Launch} (hT : az_Tb cX3_referringToBoth tb_X3_referringToBoth) (hK : az_OK K RX3 cX3_referringToBoth ({ frames := 2, cells := 0, slots := 0, locals := 43 } : Room) l0) (σ : az_S) (d1 : Int32) (d2 : Int32) :
    ∀ (n i : Nat) (w3 : Int32) (hi : i + n = 12) (kx : ∀ s' : Int32, az_it (fun ι s => b_X3_referringToBoth_5 σ d1 d2 ι s) n i w3 = s' → AW K 0 0 41 [some (.ref 1), some (.int d1), some (.int d2), some (.int s'), none] [] (wd σ)), AW K 0 0 5 [some (.ref 1), some (.int d1), some (.int d2), some (.int w3), some (.int (nI i))] [] (wd σ) := by
  intro n
  induction n with
  | zero =>
    intro i w3 hi kx
    refine AW_g hT cl_X3 hK 4 2 (pc' := 9) (lo' := [some (.ref 1), some (.int d1), some (.int d2), some (.int w3), some (.int (nI i))]) (st' := [.int 12, .int (nI i)]) (hp' := wd σ) rfl ?_
    refine AW_icmp_ge hT hK 6 (tgt := 41) rfl rfl (fun c8 => ?_) (fun c8 => absurd (az_c0 hi) c8)
    refine AW_msk [true, true, true, true, false] (lo' := [some (.ref 1), some (.int d1), some (.int d2), some (.int w3), none]) rfl ?_
    exact kx w3 rfl
  | succ n ih =>
    intro i w3 hi kx
    refine AW_g hT cl_X3 hK 4 2 (pc' := 9) (lo' := [some (.ref 1), some (.int d1), some (.int d2), some (.int w3), some (.int (nI i))]) (st' := [.int 12, .int (nI i)]) (hp' := wd σ) rfl ?_
    refine AW_icmp_ge hT hK 6 (tgt := 41) rfl rfl (fun c1 => absurd c1 (az_c1 hi)) (fun c1 => ?_)
    refine AW_g hT cl_X3 hK 7 3 (pc' := 16) (lo' := [some (.ref 1), some (.int d1), some (.int d2), some (.int w3), some (.int (nI i))]) (st' := [.int d1, .int (nI i), .ref 1]) (hp' := wd σ) rfl ?_
    refine AW_callV hT hK 10 [.int (nI i), .int d1] [] (m_X3_cites l0 σ (nI i) d1) cw_X3_cites lk_X3_62 vi_X3_cites rfl rfl rfl rfl rfl rfl (Nat.le_of_ble_eq_true rfl) (Nat.le_of_ble_eq_true rfl) (AW_k1 (fun v3 h2 => ?_))
    refine AW_if_eq hT hK 11 (tgt := 35) rfl rfl (fun c4 => ?_) (fun c4 => ?_)
    · refine AW_g hT cl_X3 hK 18 1 (pc' := 38) (lo' := [some (.ref 1), some (.int d1), some (.int d2), some (.int w3), some (.int ((nI i) + 1))]) (st' := []) (hp' := wd σ) rfl ?_
      refine AW_goto hT hK 19 (tgt := 5) rfl rfl ?_
      refine AW_to (lo' := [some (.ref 1), some (.int d1), some (.int d2), some (.int w3), some (.int (nI (i + 1)))]) (by rw [nI_1]) rfl rfl ?_
      subst h2; skip
      exact ih (i + 1) _ (by omega) (fun s' hs' => kx s' ((congrArg (az_it _ n (i + 1)) (by simp only [b_X3_referringToBoth_5, if_pos c4])).trans hs'))
    · refine AW_g hT cl_X3 hK 12 3 (pc' := 26) (lo' := [some (.ref 1), some (.int d1), some (.int d2), some (.int w3), some (.int (nI i))]) (st' := [.int d2, .int (nI i), .ref 1]) (hp' := wd σ) rfl ?_
      refine AW_callV hT hK 15 [.int (nI i), .int d2] [] (m_X3_cites l0 σ (nI i) d2) cw_X3_cites lk_X3_62 vi_X3_cites rfl rfl rfl rfl rfl rfl (Nat.le_of_ble_eq_true rfl) (Nat.le_of_ble_eq_true rfl) (AW_k1 (fun v6 h5 => ?_))
      refine AW_if_eq hT hK 16 (tgt := 35) rfl rfl (fun c7 => ?_) (fun c7 => ?_)
      · refine AW_g hT cl_X3 hK 18 1 (pc' := 38) (lo' := [some (.ref 1), some (.int d1), some (.int d2), some (.int w3), some (.int ((nI i) + 1))]) (st' := []) (hp' := wd σ) rfl ?_
        refine AW_goto hT hK 19 (tgt := 5) rfl rfl ?_
        refine AW_to (lo' := [some (.ref 1), some (.int d1), some (.int d2), some (.int w3), some (.int (nI (i + 1)))]) (by rw [nI_1]) rfl rfl ?_
        subst h5; subst h2; skip
        exact ih (i + 1) _ (by omega) (fun s' hs' => kx s' ((congrArg (az_it _ n (i + 1)) (by simp only [b_X3_referringToBoth_5, if_neg c4, if_pos c7])).trans hs'))
      · refine AW_g hT cl_X3 hK 17 2 (pc' := 38) (lo' := [some (.ref 1), some (.int d1), some (.int d2), some (.int (w3 + 1)), some (.int ((nI i) + 1))]) (st' := []) (hp' := wd σ) rfl ?_
        refine AW_goto hT hK 19 (tgt := 5) rfl rfl ?_
        refine AW_to (lo' := [some (.ref 1), some (.int d1), some (.int d2), some (.int (w3 + 1)), some (.int (nI (i + 1)))]) (by rw [nI_1]) rfl rfl ?_
        subst h5; subst h2; skip
        exact ih (i + 1) _ (by omega) (fun s' hs' => kx s' ((congrArg (az_it _ n (i + 1)) (by simp only [b_X3_referringToBoth_5, if_neg c4, if_neg c7])).trans hs'))
def x_X3_referringToBoth (σ : az_S) (p0 : Int32) (p1 : Int32) : Int32 :=
  let s9 := az_it (fun ι s => b_X3_referringToBoth_5 σ p0 p1 ι s) 12 0 0
  s9
set_option maxRecDepth 100000 in
set_option maxHeartbeats 4000000 in
theorem m_X3_referringToBoth (l0 : Launch) (σ : az_S) (p0 : Int32) (p1 : Int32) : AMet l0 yX3_referringToBoth cX3_referringToBoth 5 (some .int) ({ frames := 2, cells := 0, slots := 0, locals := 43 } : Room) false [.ref 1, .int p0, .int p1] (wd σ) (fun r h => r = some (.int (x_X3_referringToBoth σ p0 p1)) ∧ h = wd σ) := by
  refine AMet_of (by decide +kernel) (by simp [Value.category]) (Nat.le_of_ble_eq_true rfl) (fun K hK hct hG hE => ?_)
  have hT := tt_X3_referringToBoth
  refine AW_g hT cl_X3 hK 0 4 (pc' := 5) (lo' := [some (.ref 1), some (.int p0), some (.int p1), some (.int 0), some (.int 0)]) (st' := []) (hp' := wd σ) rfl ?_
  refine AW_to (lo' := [some (.ref 1), some (.int p0), some (.int p1), some (.int 0), some (.int (nI 0))]) (rfl) rfl rfl ?_
  refine lp_X3_referringToBoth_5 hT hK σ p0 p1 12 0 0 (by first | rfl | omega) (fun s9 h10 => ?_)
  refine AW_g hT cl_X3 hK 20 1 (pc' := 42) (lo' := [some (.ref 1), some (.int p0), some (.int p1), some (.int s9), none]) (st' := [.int s9]) (hp' := wd σ) rfl ?_
  refine AW_iret hT hE 21 rfl rfl rfl (Nat.le_of_ble_eq_true rfl) (Nat.le_of_ble_eq_true rfl) ?_
  subst h10; exact ⟨by simp only [x_X3_referringToBoth], rfl⟩
def b_X3_weightsFromReferences_14 (σ : az_S) (d2 : Nat) (i : Nat) (w1 : Int32) : Int32 :=
  let v4 := x_X3_has σ (nI d2)
  if v4 = 0 then
    w1
  else
    let v7 := x_X3_has σ (nI i)
    if v7 = 0 then
      w1
    else
      let v10 := x_X2_at_4 σ (nI d2)
      let v12 := x_X2_at_4 σ (nI i)
      let v14 := x_J6_bitCount_0f7a4 σ (v10 &&& v12)
      let v16 := x_X3_referringToBoth σ (nI d2) (nI i)
      ((w1 + v14) + v16)
set_option maxRecDepth 100000 in
set_option maxHeartbeats 4000000 in
theorem lp_X3_weightsFromReferences_14 {K : az_K} {l0 : Launch} (hT : az_Tb cX3_weightsFromReferences tb_X3_weightsFromReferences) (hK : az_OK K RX3 cX3_weightsFromReferences ({ frames := 3, cells := 0, slots := 0, locals := 67 } : Room) l0) (σ : az_S) (d2 : Nat) (hd2 : d2 < 12) :
    ∀ (n i : Nat) (w1 : Int32) (hi : i + n = 12) (kx : ∀ s' : Int32, az_it (fun ι s => b_X3_weightsFromReferences_14 σ d2 ι s) n i w1 = s' → AW K 0 0 74 [some (.ref 1), some (.int s'), some (.int (nI d2)), none] [] (wd σ)), AW K 0 0 14 [some (.ref 1), some (.int w1), some (.int (nI d2)), some (.int (nI i))] [] (wd σ) := by
  intro n
  induction n with
  | zero =>
    intro i w1 hi kx
    refine AW_g hT cl_X3 hK 11 2 (pc' := 17) (lo' := [some (.ref 1), some (.int w1), some (.int (nI d2)), some (.int (nI i))]) (st' := [.int 12, .int (nI i)]) (hp' := wd σ) rfl ?_
    refine AW_icmp_ge hT hK 13 (tgt := 74) rfl rfl (fun c17 => ?_) (fun c17 => absurd (az_c0 hi) c17)
    refine AW_msk [true, true, true, false] (lo' := [some (.ref 1), some (.int w1), some (.int (nI d2)), none]) rfl ?_
    exact kx w1 rfl
  | succ n ih =>
    intro i w1 hi kx
    refine AW_g hT cl_X3 hK 11 2 (pc' := 17) (lo' := [some (.ref 1), some (.int w1), some (.int (nI d2)), some (.int (nI i))]) (st' := [.int 12, .int (nI i)]) (hp' := wd σ) rfl ?_
    refine AW_icmp_ge hT hK 13 (tgt := 74) rfl rfl (fun c2 => absurd c2 (az_c1 hi)) (fun c2 => ?_)
    refine AW_g hT cl_X3 hK 14 2 (pc' := 22) (lo' := [some (.ref 1), some (.int w1), some (.int (nI d2)), some (.int (nI i))]) (st' := [.int (nI d2), .ref 1]) (hp' := wd σ) rfl ?_
    refine AW_callV hT hK 16 [.int (nI d2)] [] (m_X3_has l0 σ (nI d2)) cw_X3_has lk_X3_81 vi_X3_has rfl rfl rfl rfl rfl rfl (Nat.le_of_ble_eq_true rfl) (Nat.le_of_ble_eq_true rfl) (AW_k1 (fun v4 h3 => ?_))
    refine AW_if_eq hT hK 17 (tgt := 68) rfl rfl (fun c5 => ?_) (fun c5 => ?_)
    · refine AW_g hT cl_X3 hK 42 1 (pc' := 71) (lo' := [some (.ref 1), some (.int w1), some (.int (nI d2)), some (.int ((nI i) + 1))]) (st' := []) (hp' := wd σ) rfl ?_
      refine AW_goto hT hK 43 (tgt := 14) rfl rfl ?_
      refine AW_to (lo' := [some (.ref 1), some (.int w1), some (.int (nI d2)), some (.int (nI (i + 1)))]) (by rw [nI_1]) rfl rfl ?_
      subst h3; skip
      exact ih (i + 1) _ (by omega) (fun s' hs' => kx s' ((congrArg (az_it _ n (i + 1)) (by simp only [b_X3_weightsFromReferences_14, if_pos c5])).trans hs'))
    · refine AW_g hT cl_X3 hK 18 2 (pc' := 30) (lo' := [some (.ref 1), some (.int w1), some (.int (nI d2)), some (.int (nI i))]) (st' := [.int (nI i), .ref 1]) (hp' := wd σ) rfl ?_
      refine AW_callV hT hK 20 [.int (nI i)] [] (m_X3_has l0 σ (nI i)) cw_X3_has lk_X3_81 vi_X3_has rfl rfl rfl rfl rfl rfl (Nat.le_of_ble_eq_true rfl) (Nat.le_of_ble_eq_true rfl) (AW_k1 (fun v7 h6 => ?_))
      refine AW_if_eq hT hK 21 (tgt := 68) rfl rfl (fun c8 => ?_) (fun c8 => ?_)
      · refine AW_g hT cl_X3 hK 42 1 (pc' := 71) (lo' := [some (.ref 1), some (.int w1), some (.int (nI d2)), some (.int ((nI i) + 1))]) (st' := []) (hp' := wd σ) rfl ?_
        refine AW_goto hT hK 43 (tgt := 14) rfl rfl ?_
        refine AW_to (lo' := [some (.ref 1), some (.int w1), some (.int (nI d2)), some (.int (nI (i + 1)))]) (by rw [nI_1]) rfl rfl ?_
        subst h6; subst h3; skip
        exact ih (i + 1) _ (by omega) (fun s' hs' => kx s' ((congrArg (az_it _ n (i + 1)) (by simp only [b_X3_weightsFromReferences_14, if_neg c5, if_pos c8])).trans hs'))
      · refine AW_g hT cl_X3 hK 22 4 (pc' := 42) (lo' := [some (.ref 1), some (.int w1), some (.int (nI d2)), some (.int (nI i))]) (st' := [.int (nI d2), .ref 4, .int w1]) (hp' := wd σ) rfl ?_
        refine AW_callV hT hK 26 [.int (nI d2)] [.int w1] (m_X2_at_4 l0 σ (nI d2)) cw_X2_at lk_X3_48 vi_X2_at rfl rfl rfl rfl rfl rfl (Nat.le_of_ble_eq_true rfl) (Nat.le_of_ble_eq_true rfl) (AW_k1 (fun v10 h9 => ?_))
        refine AW_g hT cl_X3 hK 27 3 (pc' := 50) (lo' := [some (.ref 1), some (.int w1), some (.int (nI d2)), some (.int (nI i))]) (st' := [.int (nI i), .ref 4, .int v10, .int w1]) (hp' := wd σ) rfl ?_
        refine AW_callV hT hK 30 [.int (nI i)] [.int v10, .int w1] (m_X2_at_4 l0 σ (nI i)) cw_X2_at lk_X3_48 vi_X2_at rfl rfl rfl rfl rfl rfl (Nat.le_of_ble_eq_true rfl) (Nat.le_of_ble_eq_true rfl) (AW_k1 (fun v12 h11 => ?_))
        refine AW_g hT cl_X3 hK 31 1 (pc' := 54) (lo' := [some (.ref 1), some (.int w1), some (.int (nI d2)), some (.int (nI i))]) (st' := [.int (v10 &&& v12), .int w1]) (hp' := wd σ) rfl ?_
        refine AW_callS hT hK 32 [.int (v10 &&& v12)] [.int w1] (m_J6_bitCount_0f7a4 l0 σ (v10 &&& v12)) cw_J6_bitCount_0f7a4 lk_X3_85 sm_J6_bitCount_0f7a4 rfl rfl rfl rfl (Nat.le_of_ble_eq_true rfl) (Nat.le_of_ble_eq_true rfl) (AW_k1 (fun v14 h13 => ?_))
        refine AW_g hT cl_X3 hK 33 6 (pc' := 63) (lo' := [some (.ref 1), some (.int (w1 + v14)), some (.int (nI d2)), some (.int (nI i))]) (st' := [.int (nI i), .int (nI d2), .ref 1, .int (w1 + v14)]) (hp' := wd σ) rfl ?_
        refine AW_callV hT hK 39 [.int (nI d2), .int (nI i)] [.int (w1 + v14)] (m_X3_referringToBoth l0 σ (nI d2) (nI i)) cw_X3_referringToBoth lk_X3_90 vi_X3_referringToBoth rfl rfl rfl rfl rfl rfl (Nat.le_of_ble_eq_true rfl) (Nat.le_of_ble_eq_true rfl) (AW_k1 (fun v16 h15 => ?_))
        refine AW_g hT cl_X3 hK 40 3 (pc' := 71) (lo' := [some (.ref 1), some (.int ((w1 + v14) + v16)), some (.int (nI d2)), some (.int ((nI i) + 1))]) (st' := []) (hp' := wd σ) rfl ?_
        refine AW_goto hT hK 43 (tgt := 14) rfl rfl ?_
        refine AW_to (lo' := [some (.ref 1), some (.int ((w1 + v14) + v16)), some (.int (nI d2)), some (.int (nI (i + 1)))]) (by rw [nI_1]) rfl rfl ?_
        subst h15; subst h13; subst h11; subst h9; subst h6; subst h3; skip
        exact ih (i + 1) _ (by omega) (fun s' hs' => kx s' ((congrArg (az_it _ n (i + 1)) (by simp only [b_X3_weightsFromReferences_14, if_neg c5, if_neg c8])).trans hs'))
def b_X3_weightsFromReferences_4 (σ : az_S) (i : Nat) (w1 : Int32) : Int32 :=
  let s18 := az_it (fun ι s => b_X3_weightsFromReferences_14 σ i ι s) (12 - (i + 1)) (i + 1) w1
  s18
set_option maxRecDepth 100000 in
set_option maxHeartbeats 4000000 in
theorem lp_X3_weightsFromReferences_4 {K : az_K} {l0 : Launch} (hT : az_Tb cX3_weightsFromReferences tb_X3_weightsFromReferences) (hK : az_OK K RX3 cX3_weightsFromReferences ({ frames := 3, cells := 0, slots := 0, locals := 67 } : Room) l0) (σ : az_S) :
    ∀ (n i : Nat) (w1 : Int32) (hi : i + n = 12) (kx : ∀ s' : Int32, az_it (fun ι s => b_X3_weightsFromReferences_4 σ ι s) n i w1 = s' → AW K 0 0 80 [some (.ref 1), some (.int s'), none, none] [] (wd σ)), AW K 0 0 4 [some (.ref 1), some (.int w1), some (.int (nI i)), none] [] (wd σ) := by
  intro n
  induction n with
  | zero =>
    intro i w1 hi kx
    refine AW_g hT cl_X3 hK 4 2 (pc' := 7) (lo' := [some (.ref 1), some (.int w1), some (.int (nI i)), none]) (st' := [.int 12, .int (nI i)]) (hp' := wd σ) rfl ?_
    refine AW_icmp_ge hT hK 6 (tgt := 80) rfl rfl (fun c20 => ?_) (fun c20 => absurd (az_c0 hi) c20)
    refine AW_msk [true, true, false, false] (lo' := [some (.ref 1), some (.int w1), none, none]) rfl ?_
    exact kx w1 rfl
  | succ n ih =>
    intro i w1 hi kx
    refine AW_g hT cl_X3 hK 4 2 (pc' := 7) (lo' := [some (.ref 1), some (.int w1), some (.int (nI i)), none]) (st' := [.int 12, .int (nI i)]) (hp' := wd σ) rfl ?_
    refine AW_icmp_ge hT hK 6 (tgt := 80) rfl rfl (fun c1 => absurd c1 (az_c1 hi)) (fun c1 => ?_)
    refine AW_g hT cl_X3 hK 7 4 (pc' := 14) (lo' := [some (.ref 1), some (.int w1), some (.int (nI i)), some (.int ((nI i) + 1))]) (st' := []) (hp' := wd σ) rfl ?_
    refine AW_to (lo' := [some (.ref 1), some (.int w1), some (.int (nI i)), some (.int (nI (i + 1)))]) (by rw [nI_1]) rfl rfl ?_
    refine lp_X3_weightsFromReferences_14 hT hK σ i (by omega) (12 - (i + 1)) (i + 1) w1 (by first | rfl | omega) (fun s18 h19 => ?_)
    refine AW_g hT cl_X3 hK 44 1 (pc' := 77) (lo' := [some (.ref 1), some (.int s18), some (.int ((nI i) + 1)), none]) (st' := []) (hp' := wd σ) rfl ?_
    refine AW_goto hT hK 45 (tgt := 4) rfl rfl ?_
    refine AW_to (lo' := [some (.ref 1), some (.int s18), some (.int (nI (i + 1))), none]) (by rw [nI_1]) rfl rfl ?_
    subst h19; skip
    exact ih (i + 1) _ (by omega) (fun s' hs' => kx s' ((congrArg (az_it _ n (i + 1)) (by simp only [b_X3_weightsFromReferences_4])).trans hs'))
def x_X3_weightsFromReferences (σ : az_S) : Int32 :=
  let s21 := az_it (fun ι s => b_X3_weightsFromReferences_4 σ ι s) 12 0 0
  s21
set_option maxRecDepth 100000 in
set_option maxHeartbeats 4000000 in
theorem m_X3_weightsFromReferences (l0 : Launch) (σ : az_S) : AMet l0 yX3_weightsFromReferences cX3_weightsFromReferences 4 (some .int) ({ frames := 3, cells := 0, slots := 0, locals := 67 } : Room) false [.ref 1] (wd σ) (fun r h => r = some (.int (x_X3_weightsFromReferences σ)) ∧ h = wd σ) := by
  refine AMet_of (by decide +kernel) (by simp [Value.category]) (Nat.le_of_ble_eq_true rfl) (fun K hK hct hG hE => ?_)
  have hT := tt_X3_weightsFromReferences
  refine AW_g hT cl_X3 hK 0 4 (pc' := 4) (lo' := [some (.ref 1), some (.int 0), some (.int 0), none]) (st' := []) (hp' := wd σ) rfl ?_
  refine AW_to (lo' := [some (.ref 1), some (.int 0), some (.int (nI 0)), none]) (rfl) rfl rfl ?_
  refine lp_X3_weightsFromReferences_4 hT hK σ 12 0 0 (by first | rfl | omega) (fun s21 h22 => ?_)
  refine AW_g hT cl_X3 hK 46 1 (pc' := 81) (lo' := [some (.ref 1), some (.int s21), none, none]) (st' := [.int s21]) (hp' := wd σ) rfl ?_
  refine AW_iret hT hE 47 rfl rfl rfl (Nat.le_of_ble_eq_true rfl) (Nat.le_of_ble_eq_true rfl) ?_
  subst h22; exact ⟨by simp only [x_X3_weightsFromReferences], rfl⟩
def x_X2_at_2 (σ : az_S) (p0 : Int32) : Int32 :=
  if p0 < 0 then
    0
  else
    if 12 ≤ p0 then
      0
    else
      ((σ.2.1 3) p0.toNatClampNeg)
set_option maxRecDepth 100000 in
set_option maxHeartbeats 4000000 in
theorem m_X2_at_2 (l0 : Launch) (σ : az_S) (p0 : Int32) : AMet l0 yX2_at cX2_at 2 (some .int) ({ frames := 0, cells := 0, slots := 0, locals := 0 } : Room) false [.ref 2, .int p0] (wd σ) (fun r h => r = some (.int (x_X2_at_2 σ p0)) ∧ h = wd σ) := by
  refine AMet_of (by decide +kernel) (by simp [Value.category]) (Nat.le_of_ble_eq_true rfl) (fun K hK hct hG hE => ?_)
  have hT := tt_X2_at
  refine AW_g hT cl_X2 hK 0 1 (pc' := 1) (lo' := [some (.ref 2), some (.int p0)]) (st' := [.int p0]) (hp' := wd σ) rfl ?_
  refine AW_if_lt hT hK 1 (tgt := 22) rfl rfl (fun c1 => ?_) (fun c1 => ?_)
  · refine AW_g hT cl_X2 hK 12 1 (pc' := 23) (lo' := [some (.ref 2), some (.int p0)]) (st' := [.int 0]) (hp' := wd σ) rfl ?_
    refine AW_iret hT hE 13 rfl rfl rfl (Nat.le_of_ble_eq_true rfl) (Nat.le_of_ble_eq_true rfl) ?_
    exact ⟨by simp only [x_X2_at_2, if_pos c1], rfl⟩
  · refine AW_g hT cl_X2 hK 2 4 (pc' := 10) (lo' := [some (.ref 2), some (.int p0)]) (st' := [.int 12, .int p0]) (hp' := wd σ) rfl ?_
    refine AW_icmp_ge hT hK 6 (tgt := 22) rfl rfl (fun c2 => ?_) (fun c2 => ?_)
    · refine AW_g hT cl_X2 hK 12 1 (pc' := 23) (lo' := [some (.ref 2), some (.int p0)]) (st' := [.int 0]) (hp' := wd σ) rfl ?_
      refine AW_iret hT hE 13 rfl rfl rfl (Nat.le_of_ble_eq_true rfl) (Nat.le_of_ble_eq_true rfl) ?_
      exact ⟨by simp only [x_X2_at_2, if_neg c1, if_pos c2], rfl⟩
    · refine AW_g hT cl_X2 hK 7 3 (pc' := 18) (lo' := [some (.ref 2), some (.int p0)]) (st' := [.int p0, .ref 3]) (hp' := wd σ) rfl ?_
      refine AW_ialdx hT hK 10 rfl (n := 12) (f := (σ.2.1 3)) rfl (az_in12 c1 c2) ?_
      refine AW_goto hT hK 11 (tgt := 23) rfl rfl ?_
      refine AW_iret hT hE 13 rfl rfl rfl (Nat.le_of_ble_eq_true rfl) (Nat.le_of_ble_eq_true rfl) ?_
      exact ⟨by simp only [x_X2_at_2, if_neg c1, if_neg c2], rfl⟩
def b_X3_citersOfYear_5 (σ : az_S) (d1 : Int32) (d2 : Int32) (i : Nat) (w3 : Int32) : Int32 :=
  let v3 := x_X3_cites σ (nI i) d1
  if v3 = 0 then
    w3
  else
    let v6 := x_X2_at_2 σ (nI i)
    if v6 = d2 then
      (w3 + 1)
    else
      w3
set_option maxRecDepth 100000 in
set_option maxHeartbeats 4000000 in
theorem lp_X3_citersOfYear_5 {K : az_K} {l0 : Launch} (hT : az_Tb cX3_citersOfYear tb_X3_citersOfYear) (hK : az_OK K RX3 cX3_citersOfYear ({ frames := 2, cells := 0, slots := 0, locals := 43 } : Room) l0) (σ : az_S) (d1 : Int32) (d2 : Int32) :
    ∀ (n i : Nat) (w3 : Int32) (hi : i + n = 12) (kx : ∀ s' : Int32, az_it (fun ι s => b_X3_citersOfYear_5 σ d1 d2 ι s) n i w3 = s' → AW K 0 0 44 [some (.ref 1), some (.int d1), some (.int d2), some (.int s'), none] [] (wd σ)), AW K 0 0 5 [some (.ref 1), some (.int d1), some (.int d2), some (.int w3), some (.int (nI i))] [] (wd σ) := by
  intro n
  induction n with
  | zero =>
    intro i w3 hi kx
    refine AW_g hT cl_X3 hK 4 2 (pc' := 9) (lo' := [some (.ref 1), some (.int d1), some (.int d2), some (.int w3), some (.int (nI i))]) (st' := [.int 12, .int (nI i)]) (hp' := wd σ) rfl ?_
    refine AW_icmp_ge hT hK 6 (tgt := 44) rfl rfl (fun c8 => ?_) (fun c8 => absurd (az_c0 hi) c8)
    refine AW_msk [true, true, true, true, false] (lo' := [some (.ref 1), some (.int d1), some (.int d2), some (.int w3), none]) rfl ?_
    exact kx w3 rfl
  | succ n ih =>
    intro i w3 hi kx
    refine AW_g hT cl_X3 hK 4 2 (pc' := 9) (lo' := [some (.ref 1), some (.int d1), some (.int d2), some (.int w3), some (.int (nI i))]) (st' := [.int 12, .int (nI i)]) (hp' := wd σ) rfl ?_
    refine AW_icmp_ge hT hK 6 (tgt := 44) rfl rfl (fun c1 => absurd c1 (az_c1 hi)) (fun c1 => ?_)
    refine AW_g hT cl_X3 hK 7 3 (pc' := 16) (lo' := [some (.ref 1), some (.int d1), some (.int d2), some (.int w3), some (.int (nI i))]) (st' := [.int d1, .int (nI i), .ref 1]) (hp' := wd σ) rfl ?_
    refine AW_callV hT hK 10 [.int (nI i), .int d1] [] (m_X3_cites l0 σ (nI i) d1) cw_X3_cites lk_X3_62 vi_X3_cites rfl rfl rfl rfl rfl rfl (Nat.le_of_ble_eq_true rfl) (Nat.le_of_ble_eq_true rfl) (AW_k1 (fun v3 h2 => ?_))
    refine AW_if_eq hT hK 11 (tgt := 38) rfl rfl (fun c4 => ?_) (fun c4 => ?_)
    · refine AW_g hT cl_X3 hK 19 1 (pc' := 41) (lo' := [some (.ref 1), some (.int d1), some (.int d2), some (.int w3), some (.int ((nI i) + 1))]) (st' := []) (hp' := wd σ) rfl ?_
      refine AW_goto hT hK 20 (tgt := 5) rfl rfl ?_
      refine AW_to (lo' := [some (.ref 1), some (.int d1), some (.int d2), some (.int w3), some (.int (nI (i + 1)))]) (by rw [nI_1]) rfl rfl ?_
      subst h2; skip
      exact ih (i + 1) _ (by omega) (fun s' hs' => kx s' ((congrArg (az_it _ n (i + 1)) (by simp only [b_X3_citersOfYear_5, if_pos c4])).trans hs'))
    · refine AW_g hT cl_X3 hK 12 3 (pc' := 28) (lo' := [some (.ref 1), some (.int d1), some (.int d2), some (.int w3), some (.int (nI i))]) (st' := [.int (nI i), .ref 2]) (hp' := wd σ) rfl ?_
      refine AW_callV hT hK 15 [.int (nI i)] [] (m_X2_at_2 l0 σ (nI i)) cw_X2_at lk_X3_48 vi_X2_at rfl rfl rfl rfl rfl rfl (Nat.le_of_ble_eq_true rfl) (Nat.le_of_ble_eq_true rfl) (AW_k1 (fun v6 h5 => ?_))
      refine AW_g hT cl_X3 hK 16 1 (pc' := 32) (lo' := [some (.ref 1), some (.int d1), some (.int d2), some (.int w3), some (.int (nI i))]) (st' := [.int d2, .int v6]) (hp' := wd σ) rfl ?_
      refine AW_icmp_ne hT hK 17 (tgt := 38) rfl rfl (fun c7 => ?_) (fun c7 => ?_)
      · refine AW_g hT cl_X3 hK 19 1 (pc' := 41) (lo' := [some (.ref 1), some (.int d1), some (.int d2), some (.int w3), some (.int ((nI i) + 1))]) (st' := []) (hp' := wd σ) rfl ?_
        refine AW_goto hT hK 20 (tgt := 5) rfl rfl ?_
        refine AW_to (lo' := [some (.ref 1), some (.int d1), some (.int d2), some (.int w3), some (.int (nI (i + 1)))]) (by rw [nI_1]) rfl rfl ?_
        subst h5; subst h2; skip
        exact ih (i + 1) _ (by omega) (fun s' hs' => kx s' ((congrArg (az_it _ n (i + 1)) (by simp only [b_X3_citersOfYear_5, if_neg c4, if_neg c7])).trans hs'))
      · refine AW_g hT cl_X3 hK 18 2 (pc' := 41) (lo' := [some (.ref 1), some (.int d1), some (.int d2), some (.int (w3 + 1)), some (.int ((nI i) + 1))]) (st' := []) (hp' := wd σ) rfl ?_
        refine AW_goto hT hK 20 (tgt := 5) rfl rfl ?_
        refine AW_to (lo' := [some (.ref 1), some (.int d1), some (.int d2), some (.int (w3 + 1)), some (.int (nI (i + 1)))]) (by rw [nI_1]) rfl rfl ?_
        subst h5; subst h2; skip
        exact ih (i + 1) _ (by omega) (fun s' hs' => kx s' ((congrArg (az_it _ n (i + 1)) (by simp only [b_X3_citersOfYear_5, if_neg c4, if_pos c7])).trans hs'))
def x_X3_citersOfYear (σ : az_S) (p0 : Int32) (p1 : Int32) : Int32 :=
  let s9 := az_it (fun ι s => b_X3_citersOfYear_5 σ p0 p1 ι s) 12 0 0
  s9
set_option maxRecDepth 100000 in
set_option maxHeartbeats 4000000 in
theorem m_X3_citersOfYear (l0 : Launch) (σ : az_S) (p0 : Int32) (p1 : Int32) : AMet l0 yX3_citersOfYear cX3_citersOfYear 5 (some .int) ({ frames := 2, cells := 0, slots := 0, locals := 43 } : Room) false [.ref 1, .int p0, .int p1] (wd σ) (fun r h => r = some (.int (x_X3_citersOfYear σ p0 p1)) ∧ h = wd σ) := by
  refine AMet_of (by decide +kernel) (by simp [Value.category]) (Nat.le_of_ble_eq_true rfl) (fun K hK hct hG hE => ?_)
  have hT := tt_X3_citersOfYear
  refine AW_g hT cl_X3 hK 0 4 (pc' := 5) (lo' := [some (.ref 1), some (.int p0), some (.int p1), some (.int 0), some (.int 0)]) (st' := []) (hp' := wd σ) rfl ?_
  refine AW_to (lo' := [some (.ref 1), some (.int p0), some (.int p1), some (.int 0), some (.int (nI 0))]) (rfl) rfl rfl ?_
  refine lp_X3_citersOfYear_5 hT hK σ p0 p1 12 0 0 (by first | rfl | omega) (fun s9 h10 => ?_)
  refine AW_g hT cl_X3 hK 21 1 (pc' := 45) (lo' := [some (.ref 1), some (.int p0), some (.int p1), some (.int s9), none]) (st' := [.int s9]) (hp' := wd σ) rfl ?_
  refine AW_iret hT hE 22 rfl rfl rfl (Nat.le_of_ble_eq_true rfl) (Nat.le_of_ble_eq_true rfl) ?_
  subst h10; exact ⟨by simp only [x_X3_citersOfYear], rfl⟩
def x_X3_riseOf (σ : az_S) (p0 : Int32) (p1 : Int32) : Int32 :=
  let v2 := x_X3_citersOfYear σ p0 p1
  let v4 := x_X3_citersOfYear σ p0 (p1 - 1)
  (v2 - v4)
set_option maxRecDepth 100000 in
set_option maxHeartbeats 4000000 in
theorem m_X3_riseOf (l0 : Launch) (σ : az_S) (p0 : Int32) (p1 : Int32) : AMet l0 yX3_riseOf cX3_riseOf 3 (some .int) ({ frames := 3, cells := 0, slots := 0, locals := 67 } : Room) false [.ref 1, .int p0, .int p1] (wd σ) (fun r h => r = some (.int (x_X3_riseOf σ p0 p1)) ∧ h = wd σ) := by
  refine AMet_of (by decide +kernel) (by simp [Value.category]) (Nat.le_of_ble_eq_true rfl) (fun K hK hct hG hE => ?_)
  have hT := tt_X3_riseOf
  refine AW_g hT cl_X3 hK 0 3 (pc' := 3) (lo' := [some (.ref 1), some (.int p0), some (.int p1)]) (st' := [.int p1, .int p0, .ref 1]) (hp' := wd σ) rfl ?_
  refine AW_callV hT hK 3 [.int p0, .int p1] [] (m_X3_citersOfYear l0 σ p0 p1) cw_X3_citersOfYear lk_X3_93 vi_X3_citersOfYear rfl rfl rfl rfl rfl rfl (Nat.le_of_ble_eq_true rfl) (Nat.le_of_ble_eq_true rfl) (AW_k1 (fun v2 h1 => ?_))
  refine AW_g hT cl_X3 hK 4 5 (pc' := 11) (lo' := [some (.ref 1), some (.int p0), some (.int p1)]) (st' := [.int (p1 - 1), .int p0, .ref 1, .int v2]) (hp' := wd σ) rfl ?_
  refine AW_callV hT hK 9 [.int p0, .int (p1 - 1)] [.int v2] (m_X3_citersOfYear l0 σ p0 (p1 - 1)) cw_X3_citersOfYear lk_X3_93 vi_X3_citersOfYear rfl rfl rfl rfl rfl rfl (Nat.le_of_ble_eq_true rfl) (Nat.le_of_ble_eq_true rfl) (AW_k1 (fun v4 h3 => ?_))
  refine AW_g hT cl_X3 hK 10 1 (pc' := 15) (lo' := [some (.ref 1), some (.int p0), some (.int p1)]) (st' := [.int (v2 - v4)]) (hp' := wd σ) rfl ?_
  refine AW_iret hT hE 11 rfl rfl rfl (Nat.le_of_ble_eq_true rfl) (Nat.le_of_ble_eq_true rfl) ?_
  subst h3; subst h1; exact ⟨by simp only [x_X3_riseOf], rfl⟩
end AZP
end
section
section AZP
def x_X2_at_13 (σ : az_S) (p0 : Int32) : Int32 :=
  if p0 < 0 then
    0
  else
    if 12 ≤ p0 then
      0
    else
      ((σ.2.1 14) p0.toNatClampNeg)
set_option maxRecDepth 100000 in
set_option maxHeartbeats 4000000 in
theorem m_X2_at_13 (l0 : Launch) (σ : az_S) (p0 : Int32) : AMet l0 yX2_at cX2_at 2 (some .int) ({ frames := 0, cells := 0, slots := 0, locals := 0 } : Room) false [.ref 13, .int p0] (wd σ) (fun r h => r = some (.int (x_X2_at_13 σ p0)) ∧ h = wd σ) := by
  refine AMet_of (by decide +kernel) (by simp [Value.category]) (Nat.le_of_ble_eq_true rfl) (fun K hK hct hG hE => ?_)
  have hT := tt_X2_at
  refine AW_g hT cl_X2 hK 0 1 (pc' := 1) (lo' := [some (.ref 13), some (.int p0)]) (st' := [.int p0]) (hp' := wd σ) rfl ?_
  refine AW_if_lt hT hK 1 (tgt := 22) rfl rfl (fun c1 => ?_) (fun c1 => ?_)
  · refine AW_g hT cl_X2 hK 12 1 (pc' := 23) (lo' := [some (.ref 13), some (.int p0)]) (st' := [.int 0]) (hp' := wd σ) rfl ?_
    refine AW_iret hT hE 13 rfl rfl rfl (Nat.le_of_ble_eq_true rfl) (Nat.le_of_ble_eq_true rfl) ?_
    exact ⟨by simp only [x_X2_at_13, if_pos c1], rfl⟩
  · refine AW_g hT cl_X2 hK 2 4 (pc' := 10) (lo' := [some (.ref 13), some (.int p0)]) (st' := [.int 12, .int p0]) (hp' := wd σ) rfl ?_
    refine AW_icmp_ge hT hK 6 (tgt := 22) rfl rfl (fun c2 => ?_) (fun c2 => ?_)
    · refine AW_g hT cl_X2 hK 12 1 (pc' := 23) (lo' := [some (.ref 13), some (.int p0)]) (st' := [.int 0]) (hp' := wd σ) rfl ?_
      refine AW_iret hT hE 13 rfl rfl rfl (Nat.le_of_ble_eq_true rfl) (Nat.le_of_ble_eq_true rfl) ?_
      exact ⟨by simp only [x_X2_at_13, if_neg c1, if_pos c2], rfl⟩
    · refine AW_g hT cl_X2 hK 7 3 (pc' := 18) (lo' := [some (.ref 13), some (.int p0)]) (st' := [.int p0, .ref 14]) (hp' := wd σ) rfl ?_
      refine AW_ialdx hT hK 10 rfl (n := 12) (f := (σ.2.1 14)) rfl (az_in12 c1 c2) ?_
      refine AW_goto hT hK 11 (tgt := 23) rfl rfl ?_
      refine AW_iret hT hE 13 rfl rfl rfl (Nat.le_of_ble_eq_true rfl) (Nat.le_of_ble_eq_true rfl) ?_
      exact ⟨by simp only [x_X2_at_13, if_neg c1, if_neg c2], rfl⟩
def x_X0_groupOf (σ : az_S) (p0 : Int32) : Int32 :=
  let v2 := x_X2_at_13 σ p0
  v2
set_option maxRecDepth 100000 in
set_option maxHeartbeats 4000000 in
theorem m_X0_groupOf (l0 : Launch) (σ : az_S) (p0 : Int32) : AMet l0 yX0_groupOf cX0_groupOf 2 (some .int) ({ frames := 1, cells := 0, slots := 0, locals := 21 } : Room) false [.ref 12, .int p0] (wd σ) (fun r h => r = some (.int (x_X0_groupOf σ p0)) ∧ h = wd σ) := by
  refine AMet_of (by decide +kernel) (by simp [Value.category]) (Nat.le_of_ble_eq_true rfl) (fun K hK hct hG hE => ?_)
  have hT := tt_X0_groupOf
  refine AW_g hT cl_X0 hK 0 3 (pc' := 5) (lo' := [some (.ref 12), some (.int p0)]) (st' := [.int p0, .ref 13]) (hp' := wd σ) rfl ?_
  refine AW_callV hT hK 3 [.int p0] [] (m_X2_at_13 l0 σ p0) cw_X2_at lk_X0_44 vi_X2_at rfl rfl rfl rfl rfl rfl (Nat.le_of_ble_eq_true rfl) (Nat.le_of_ble_eq_true rfl) (AW_k1 (fun v2 h1 => ?_))
  refine AW_iret hT hE 4 rfl rfl rfl (Nat.le_of_ble_eq_true rfl) (Nat.le_of_ble_eq_true rfl) ?_
  subst h1; exact ⟨by simp only [x_X0_groupOf], rfl⟩
def x_X0_allGroups (σ : az_S) : Int32 :=
  (σ.1 3)
set_option maxRecDepth 100000 in
set_option maxHeartbeats 4000000 in
theorem m_X0_allGroups (l0 : Launch) (σ : az_S) : AMet l0 yX0_allGroups cX0_allGroups 1 (some .int) ({ frames := 0, cells := 0, slots := 0, locals := 0 } : Room) false [.ref 12] (wd σ) (fun r h => r = some (.int (x_X0_allGroups σ)) ∧ h = wd σ) := by
  refine AMet_of (by decide +kernel) (by simp [Value.category]) (Nat.le_of_ble_eq_true rfl) (fun K hK hct hG hE => ?_)
  have hT := tt_X0_allGroups
  refine AW_g hT cl_X0 hK 0 2 (pc' := 4) (lo' := [some (.ref 12)]) (st' := [.int (σ.1 3)]) (hp' := wd σ) rfl ?_
  refine AW_iret hT hE 2 rfl rfl rfl (Nat.le_of_ble_eq_true rfl) (Nat.le_of_ble_eq_true rfl) ?_
  exact ⟨by simp only [x_X0_allGroups], rfl⟩
def x_X0_isGroup (σ : az_S) (p0 : Int32) : Int32 :=
  let v2 := x_X5_holds σ (σ.1 3) p0
  v2
set_option maxRecDepth 100000 in
set_option maxHeartbeats 4000000 in
theorem m_X0_isGroup (l0 : Launch) (σ : az_S) (p0 : Int32) : AMet l0 yX0_isGroup cX0_isGroup 2 (some .boolean) ({ frames := 1, cells := 0, slots := 0, locals := 21 } : Room) false [.ref 12, .int p0] (wd σ) (fun r h => r = some (.int (x_X0_isGroup σ p0)) ∧ h = wd σ) := by
  refine AMet_of (by decide +kernel) (by simp [Value.category]) (Nat.le_of_ble_eq_true rfl) (fun K hK hct hG hE => ?_)
  have hT := tt_X0_isGroup
  refine AW_g hT cl_X0 hK 0 3 (pc' := 5) (lo' := [some (.ref 12), some (.int p0)]) (st' := [.int p0, .int (σ.1 3)]) (hp' := wd σ) rfl ?_
  refine AW_callSN hT hK 3 [.int (σ.1 3), .int p0] [] (m_X5_holds l0 σ (σ.1 3) p0) cw_X5_holds lk_X0_48 sm_X5_holds rfl rfl rfl rfl (Nat.le_of_ble_eq_true rfl) (Nat.le_of_ble_eq_true rfl) (AW_k1 (fun v2 h1 => ?_))
  refine AW_iret hT hE 4 rfl rfl (by rw [← h1]; exact nb_X5_holds _ _ _) (Nat.le_of_ble_eq_true rfl) (Nat.le_of_ble_eq_true rfl) ?_
  subst h1; exact ⟨by simp only [x_X0_isGroup], rfl⟩
theorem nb_X0_isGroup (σ : az_S) (p0 : Int32) : narrow .boolean (.int (x_X0_isGroup σ p0)) = .int (x_X0_isGroup σ p0) := by
  unfold x_X0_isGroup
  exact nb_X5_holds _ _ _
def x_X2_at_15 (σ : az_S) (p0 : Int32) : Int32 :=
  if p0 < 0 then
    0
  else
    if 12 ≤ p0 then
      0
    else
      ((σ.2.1 16) p0.toNatClampNeg)
set_option maxRecDepth 100000 in
set_option maxHeartbeats 4000000 in
theorem m_X2_at_15 (l0 : Launch) (σ : az_S) (p0 : Int32) : AMet l0 yX2_at cX2_at 2 (some .int) ({ frames := 0, cells := 0, slots := 0, locals := 0 } : Room) false [.ref 15, .int p0] (wd σ) (fun r h => r = some (.int (x_X2_at_15 σ p0)) ∧ h = wd σ) := by
  refine AMet_of (by decide +kernel) (by simp [Value.category]) (Nat.le_of_ble_eq_true rfl) (fun K hK hct hG hE => ?_)
  have hT := tt_X2_at
  refine AW_g hT cl_X2 hK 0 1 (pc' := 1) (lo' := [some (.ref 15), some (.int p0)]) (st' := [.int p0]) (hp' := wd σ) rfl ?_
  refine AW_if_lt hT hK 1 (tgt := 22) rfl rfl (fun c1 => ?_) (fun c1 => ?_)
  · refine AW_g hT cl_X2 hK 12 1 (pc' := 23) (lo' := [some (.ref 15), some (.int p0)]) (st' := [.int 0]) (hp' := wd σ) rfl ?_
    refine AW_iret hT hE 13 rfl rfl rfl (Nat.le_of_ble_eq_true rfl) (Nat.le_of_ble_eq_true rfl) ?_
    exact ⟨by simp only [x_X2_at_15, if_pos c1], rfl⟩
  · refine AW_g hT cl_X2 hK 2 4 (pc' := 10) (lo' := [some (.ref 15), some (.int p0)]) (st' := [.int 12, .int p0]) (hp' := wd σ) rfl ?_
    refine AW_icmp_ge hT hK 6 (tgt := 22) rfl rfl (fun c2 => ?_) (fun c2 => ?_)
    · refine AW_g hT cl_X2 hK 12 1 (pc' := 23) (lo' := [some (.ref 15), some (.int p0)]) (st' := [.int 0]) (hp' := wd σ) rfl ?_
      refine AW_iret hT hE 13 rfl rfl rfl (Nat.le_of_ble_eq_true rfl) (Nat.le_of_ble_eq_true rfl) ?_
      exact ⟨by simp only [x_X2_at_15, if_neg c1, if_pos c2], rfl⟩
    · refine AW_g hT cl_X2 hK 7 3 (pc' := 18) (lo' := [some (.ref 15), some (.int p0)]) (st' := [.int p0, .ref 16]) (hp' := wd σ) rfl ?_
      refine AW_ialdx hT hK 10 rfl (n := 12) (f := (σ.2.1 16)) rfl (az_in12 c1 c2) ?_
      refine AW_goto hT hK 11 (tgt := 23) rfl rfl ?_
      refine AW_iret hT hE 13 rfl rfl rfl (Nat.le_of_ble_eq_true rfl) (Nat.le_of_ble_eq_true rfl) ?_
      exact ⟨by simp only [x_X2_at_15, if_neg c1, if_neg c2], rfl⟩
def x_X0_splitOf (σ : az_S) (p0 : Int32) : Int32 :=
  let v2 := x_X2_at_15 σ p0
  v2
set_option maxRecDepth 100000 in
set_option maxHeartbeats 4000000 in
theorem m_X0_splitOf (l0 : Launch) (σ : az_S) (p0 : Int32) : AMet l0 yX0_splitOf cX0_splitOf 2 (some .int) ({ frames := 1, cells := 0, slots := 0, locals := 21 } : Room) false [.ref 12, .int p0] (wd σ) (fun r h => r = some (.int (x_X0_splitOf σ p0)) ∧ h = wd σ) := by
  refine AMet_of (by decide +kernel) (by simp [Value.category]) (Nat.le_of_ble_eq_true rfl) (fun K hK hct hG hE => ?_)
  have hT := tt_X0_splitOf
  refine AW_g hT cl_X0 hK 0 3 (pc' := 5) (lo' := [some (.ref 12), some (.int p0)]) (st' := [.int p0, .ref 15]) (hp' := wd σ) rfl ?_
  refine AW_callV hT hK 3 [.int p0] [] (m_X2_at_15 l0 σ p0) cw_X2_at lk_X0_44 vi_X2_at rfl rfl rfl rfl rfl rfl (Nat.le_of_ble_eq_true rfl) (Nat.le_of_ble_eq_true rfl) (AW_k1 (fun v2 h1 => ?_))
  refine AW_iret hT hE 4 rfl rfl rfl (Nat.le_of_ble_eq_true rfl) (Nat.le_of_ble_eq_true rfl) ?_
  subst h1; exact ⟨by simp only [x_X0_splitOf], rfl⟩
def x_X0_gainFrom (σ : az_S) (p0 : Int32) (p1 : Int32) (p2 : Int32) : Int32 :=
  (((2 * (σ.1 4)) * p0) - (p1 * p2))
set_option maxRecDepth 100000 in
set_option maxHeartbeats 4000000 in
theorem m_X0_gainFrom (l0 : Launch) (σ : az_S) (p0 : Int32) (p1 : Int32) (p2 : Int32) : AMet l0 yX0_gainFrom cX0_gainFrom 4 (some .int) ({ frames := 0, cells := 0, slots := 0, locals := 0 } : Room) false [.ref 12, .int p0, .int p1, .int p2] (wd σ) (fun r h => r = some (.int (x_X0_gainFrom σ p0 p1 p2)) ∧ h = wd σ) := by
  refine AMet_of (by decide +kernel) (by simp [Value.category]) (Nat.le_of_ble_eq_true rfl) (fun K hK hct hG hE => ?_)
  have hT := tt_X0_gainFrom
  refine AW_g hT cl_X0 hK 0 10 (pc' := 12) (lo' := [some (.ref 12), some (.int p0), some (.int p1), some (.int p2)]) (st' := [.int (((2 * (σ.1 4)) * p0) - (p1 * p2))]) (hp' := wd σ) rfl ?_
  refine AW_iret hT hE 10 rfl rfl rfl (Nat.le_of_ble_eq_true rfl) (Nat.le_of_ble_eq_true rfl) ?_
  exact ⟨by simp only [x_X0_gainFrom], rfl⟩
def x_X4_at_23 (σ : az_S) (p0 : Int32) (p1 : Int32) : Int32 :=
  if p0 < 0 then
    0
  else
    if 12 ≤ p0 then
      0
    else
      if p1 < 0 then
        0
      else
        if 12 ≤ p1 then
          0
        else
          if ((p0 * 12) + p1) < 0 then
            0
          else
            if 144 ≤ ((p0 * 12) + p1) then
              0
            else
              ((σ.2.1 24) ((p0 * 12) + p1).toNatClampNeg)
set_option maxRecDepth 100000 in
set_option maxHeartbeats 4000000 in
theorem m_X4_at_23 (l0 : Launch) (σ : az_S) (p0 : Int32) (p1 : Int32) : AMet l0 yX4_at cX4_at 5 (some .int) ({ frames := 0, cells := 0, slots := 0, locals := 0 } : Room) false [.ref 23, .int p0, .int p1] (wd σ) (fun r h => r = some (.int (x_X4_at_23 σ p0 p1)) ∧ h = wd σ) := by
  refine AMet_of (by decide +kernel) (by simp [Value.category]) (Nat.le_of_ble_eq_true rfl) (fun K hK hct hG hE => ?_)
  have hT := tt_X4_at
  refine AW_g hT cl_X4 hK 0 7 (pc' := 8) (lo' := [some (.ref 23), some (.int p0), some (.int p1), some (.int ((p0 * 12) + p1)), none]) (st' := [.int p0]) (hp' := wd σ) rfl ?_
  refine AW_if_lt hT hK 7 (tgt := 31) rfl rfl (fun c1 => ?_) (fun c1 => ?_)
  · refine AW_g hT cl_X4 hK 18 3 (pc' := 36) (lo' := [some (.ref 23), some (.int p0), some (.int p1), some (.int ((p0 * 12) + p1)), some (.int 0)]) (st' := [.int 0]) (hp' := wd σ) rfl ?_
    refine AW_if_eq hT hK 21 (tgt := 61) rfl rfl (fun _ => ?_) (fun c2 => absurd (by decide) c2)
    refine AW_g hT cl_X4 hK 34 1 (pc' := 62) (lo' := [some (.ref 23), some (.int p0), some (.int p1), some (.int ((p0 * 12) + p1)), some (.int 0)]) (st' := [.int 0]) (hp' := wd σ) rfl ?_
    refine AW_iret hT hE 35 rfl rfl rfl (Nat.le_of_ble_eq_true rfl) (Nat.le_of_ble_eq_true rfl) ?_
    exact ⟨by simp only [x_X4_at_23, if_pos c1], rfl⟩
  · refine AW_g hT cl_X4 hK 8 2 (pc' := 14) (lo' := [some (.ref 23), some (.int p0), some (.int p1), some (.int ((p0 * 12) + p1)), none]) (st' := [.int 12, .int p0]) (hp' := wd σ) rfl ?_
    refine AW_icmp_ge hT hK 10 (tgt := 31) rfl rfl (fun c3 => ?_) (fun c3 => ?_)
    · refine AW_g hT cl_X4 hK 18 3 (pc' := 36) (lo' := [some (.ref 23), some (.int p0), some (.int p1), some (.int ((p0 * 12) + p1)), some (.int 0)]) (st' := [.int 0]) (hp' := wd σ) rfl ?_
      refine AW_if_eq hT hK 21 (tgt := 61) rfl rfl (fun _ => ?_) (fun c4 => absurd (by decide) c4)
      refine AW_g hT cl_X4 hK 34 1 (pc' := 62) (lo' := [some (.ref 23), some (.int p0), some (.int p1), some (.int ((p0 * 12) + p1)), some (.int 0)]) (st' := [.int 0]) (hp' := wd σ) rfl ?_
      refine AW_iret hT hE 35 rfl rfl rfl (Nat.le_of_ble_eq_true rfl) (Nat.le_of_ble_eq_true rfl) ?_
      exact ⟨by simp only [x_X4_at_23, if_neg c1, if_pos c3], rfl⟩
    · refine AW_g hT cl_X4 hK 11 1 (pc' := 18) (lo' := [some (.ref 23), some (.int p0), some (.int p1), some (.int ((p0 * 12) + p1)), none]) (st' := [.int p1]) (hp' := wd σ) rfl ?_
      refine AW_if_lt hT hK 12 (tgt := 31) rfl rfl (fun c5 => ?_) (fun c5 => ?_)
      · refine AW_g hT cl_X4 hK 18 3 (pc' := 36) (lo' := [some (.ref 23), some (.int p0), some (.int p1), some (.int ((p0 * 12) + p1)), some (.int 0)]) (st' := [.int 0]) (hp' := wd σ) rfl ?_
        refine AW_if_eq hT hK 21 (tgt := 61) rfl rfl (fun _ => ?_) (fun c6 => absurd (by decide) c6)
        refine AW_g hT cl_X4 hK 34 1 (pc' := 62) (lo' := [some (.ref 23), some (.int p0), some (.int p1), some (.int ((p0 * 12) + p1)), some (.int 0)]) (st' := [.int 0]) (hp' := wd σ) rfl ?_
        refine AW_iret hT hE 35 rfl rfl rfl (Nat.le_of_ble_eq_true rfl) (Nat.le_of_ble_eq_true rfl) ?_
        exact ⟨by simp only [x_X4_at_23, if_neg c1, if_neg c3, if_pos c5], rfl⟩
      · refine AW_g hT cl_X4 hK 13 2 (pc' := 24) (lo' := [some (.ref 23), some (.int p0), some (.int p1), some (.int ((p0 * 12) + p1)), none]) (st' := [.int 12, .int p1]) (hp' := wd σ) rfl ?_
        refine AW_icmp_ge hT hK 15 (tgt := 31) rfl rfl (fun c7 => ?_) (fun c7 => ?_)
        · refine AW_g hT cl_X4 hK 18 3 (pc' := 36) (lo' := [some (.ref 23), some (.int p0), some (.int p1), some (.int ((p0 * 12) + p1)), some (.int 0)]) (st' := [.int 0]) (hp' := wd σ) rfl ?_
          refine AW_if_eq hT hK 21 (tgt := 61) rfl rfl (fun _ => ?_) (fun c8 => absurd (by decide) c8)
          refine AW_g hT cl_X4 hK 34 1 (pc' := 62) (lo' := [some (.ref 23), some (.int p0), some (.int p1), some (.int ((p0 * 12) + p1)), some (.int 0)]) (st' := [.int 0]) (hp' := wd σ) rfl ?_
          refine AW_iret hT hE 35 rfl rfl rfl (Nat.le_of_ble_eq_true rfl) (Nat.le_of_ble_eq_true rfl) ?_
          exact ⟨by simp only [x_X4_at_23, if_neg c1, if_neg c3, if_neg c5, if_pos c7], rfl⟩
        · refine AW_g hT cl_X4 hK 16 1 (pc' := 28) (lo' := [some (.ref 23), some (.int p0), some (.int p1), some (.int ((p0 * 12) + p1)), none]) (st' := [.int 1]) (hp' := wd σ) rfl ?_
          refine AW_goto hT hK 17 (tgt := 32) rfl rfl ?_
          refine AW_g hT cl_X4 hK 19 2 (pc' := 36) (lo' := [some (.ref 23), some (.int p0), some (.int p1), some (.int ((p0 * 12) + p1)), some (.int 1)]) (st' := [.int 1]) (hp' := wd σ) rfl ?_
          refine AW_if_eq hT hK 21 (tgt := 61) rfl rfl (fun c9 => absurd c9 (by decide)) (fun _ => ?_)
          refine AW_g hT cl_X4 hK 22 1 (pc' := 40) (lo' := [some (.ref 23), some (.int p0), some (.int p1), some (.int ((p0 * 12) + p1)), some (.int 1)]) (st' := [.int ((p0 * 12) + p1)]) (hp' := wd σ) rfl ?_
          refine AW_if_lt hT hK 23 (tgt := 61) rfl rfl (fun c10 => ?_) (fun c10 => ?_)
          · refine AW_g hT cl_X4 hK 34 1 (pc' := 62) (lo' := [some (.ref 23), some (.int p0), some (.int p1), some (.int ((p0 * 12) + p1)), some (.int 1)]) (st' := [.int 0]) (hp' := wd σ) rfl ?_
            refine AW_iret hT hE 35 rfl rfl rfl (Nat.le_of_ble_eq_true rfl) (Nat.le_of_ble_eq_true rfl) ?_
            exact ⟨by simp only [x_X4_at_23, if_neg c1, if_neg c3, if_neg c5, if_neg c7, if_pos c10], rfl⟩
          · refine AW_g hT cl_X4 hK 24 4 (pc' := 49) (lo' := [some (.ref 23), some (.int p0), some (.int p1), some (.int ((p0 * 12) + p1)), some (.int 1)]) (st' := [.int 144, .int ((p0 * 12) + p1)]) (hp' := wd σ) rfl ?_
            refine AW_icmp_ge hT hK 28 (tgt := 61) rfl rfl (fun c11 => ?_) (fun c11 => ?_)
            · refine AW_g hT cl_X4 hK 34 1 (pc' := 62) (lo' := [some (.ref 23), some (.int p0), some (.int p1), some (.int ((p0 * 12) + p1)), some (.int 1)]) (st' := [.int 0]) (hp' := wd σ) rfl ?_
              refine AW_iret hT hE 35 rfl rfl rfl (Nat.le_of_ble_eq_true rfl) (Nat.le_of_ble_eq_true rfl) ?_
              exact ⟨by simp only [x_X4_at_23, if_neg c1, if_neg c3, if_neg c5, if_neg c7, if_neg c10, if_pos c11], rfl⟩
            · refine AW_g hT cl_X4 hK 29 3 (pc' := 57) (lo' := [some (.ref 23), some (.int p0), some (.int p1), some (.int ((p0 * 12) + p1)), some (.int 1)]) (st' := [.int ((p0 * 12) + p1), .ref 24]) (hp' := wd σ) rfl ?_
              refine AW_ialdx hT hK 32 rfl (n := 144) (f := (σ.2.1 24)) rfl (az_in144 c10 c11) ?_
              refine AW_goto hT hK 33 (tgt := 62) rfl rfl ?_
              refine AW_iret hT hE 35 rfl rfl rfl (Nat.le_of_ble_eq_true rfl) (Nat.le_of_ble_eq_true rfl) ?_
              exact ⟨by simp only [x_X4_at_23, if_neg c1, if_neg c3, if_neg c5, if_neg c7, if_neg c10, if_neg c11], rfl⟩
def x_X2_at_19 (σ : az_S) (p0 : Int32) : Int32 :=
  if p0 < 0 then
    0
  else
    if 12 ≤ p0 then
      0
    else
      ((σ.2.1 20) p0.toNatClampNeg)
set_option maxRecDepth 100000 in
set_option maxHeartbeats 4000000 in
theorem m_X2_at_19 (l0 : Launch) (σ : az_S) (p0 : Int32) : AMet l0 yX2_at cX2_at 2 (some .int) ({ frames := 0, cells := 0, slots := 0, locals := 0 } : Room) false [.ref 19, .int p0] (wd σ) (fun r h => r = some (.int (x_X2_at_19 σ p0)) ∧ h = wd σ) := by
  refine AMet_of (by decide +kernel) (by simp [Value.category]) (Nat.le_of_ble_eq_true rfl) (fun K hK hct hG hE => ?_)
  have hT := tt_X2_at
  refine AW_g hT cl_X2 hK 0 1 (pc' := 1) (lo' := [some (.ref 19), some (.int p0)]) (st' := [.int p0]) (hp' := wd σ) rfl ?_
  refine AW_if_lt hT hK 1 (tgt := 22) rfl rfl (fun c1 => ?_) (fun c1 => ?_)
  · refine AW_g hT cl_X2 hK 12 1 (pc' := 23) (lo' := [some (.ref 19), some (.int p0)]) (st' := [.int 0]) (hp' := wd σ) rfl ?_
    refine AW_iret hT hE 13 rfl rfl rfl (Nat.le_of_ble_eq_true rfl) (Nat.le_of_ble_eq_true rfl) ?_
    exact ⟨by simp only [x_X2_at_19, if_pos c1], rfl⟩
  · refine AW_g hT cl_X2 hK 2 4 (pc' := 10) (lo' := [some (.ref 19), some (.int p0)]) (st' := [.int 12, .int p0]) (hp' := wd σ) rfl ?_
    refine AW_icmp_ge hT hK 6 (tgt := 22) rfl rfl (fun c2 => ?_) (fun c2 => ?_)
    · refine AW_g hT cl_X2 hK 12 1 (pc' := 23) (lo' := [some (.ref 19), some (.int p0)]) (st' := [.int 0]) (hp' := wd σ) rfl ?_
      refine AW_iret hT hE 13 rfl rfl rfl (Nat.le_of_ble_eq_true rfl) (Nat.le_of_ble_eq_true rfl) ?_
      exact ⟨by simp only [x_X2_at_19, if_neg c1, if_pos c2], rfl⟩
    · refine AW_g hT cl_X2 hK 7 3 (pc' := 18) (lo' := [some (.ref 19), some (.int p0)]) (st' := [.int p0, .ref 20]) (hp' := wd σ) rfl ?_
      refine AW_ialdx hT hK 10 rfl (n := 12) (f := (σ.2.1 20)) rfl (az_in12 c1 c2) ?_
      refine AW_goto hT hK 11 (tgt := 23) rfl rfl ?_
      refine AW_iret hT hE 13 rfl rfl rfl (Nat.le_of_ble_eq_true rfl) (Nat.le_of_ble_eq_true rfl) ?_
      exact ⟨by simp only [x_X2_at_19, if_neg c1, if_neg c2], rfl⟩
def x_X0_gainOfJoining (σ : az_S) (p0 : Int32) (p1 : Int32) : Int32 :=
  let v2 := x_X4_at_23 σ p0 p1
  let v4 := x_X2_at_19 σ p0
  let v6 := x_X2_at_19 σ p1
  let v8 := x_X0_gainFrom σ v2 v4 v6
  v8
set_option maxRecDepth 100000 in
set_option maxHeartbeats 4000000 in
theorem m_X0_gainOfJoining (l0 : Launch) (σ : az_S) (p0 : Int32) (p1 : Int32) : AMet l0 yX0_gainOfJoining cX0_gainOfJoining 4 (some .int) ({ frames := 1, cells := 0, slots := 0, locals := 24 } : Room) false [.ref 12, .int p0, .int p1] (wd σ) (fun r h => r = some (.int (x_X0_gainOfJoining σ p0 p1)) ∧ h = wd σ) := by
  refine AMet_of (by decide +kernel) (by simp [Value.category]) (Nat.le_of_ble_eq_true rfl) (fun K hK hct hG hE => ?_)
  have hT := tt_X0_gainOfJoining
  refine AW_g hT cl_X0 hK 0 4 (pc' := 6) (lo' := [some (.ref 12), some (.int p0), some (.int p1), none]) (st' := [.int p1, .int p0, .ref 23]) (hp' := wd σ) rfl ?_
  refine AW_callV hT hK 4 [.int p0, .int p1] [] (m_X4_at_23 l0 σ p0 p1) cw_X4_at lk_X0_52 vi_X4_at rfl rfl rfl rfl rfl rfl (Nat.le_of_ble_eq_true rfl) (Nat.le_of_ble_eq_true rfl) (AW_k1 (fun v2 h1 => ?_))
  refine AW_g hT cl_X0 hK 5 6 (pc' := 17) (lo' := [some (.ref 12), some (.int p0), some (.int p1), some (.int v2)]) (st' := [.int p0, .ref 19, .int v2, .ref 12]) (hp' := wd σ) rfl ?_
  refine AW_callV hT hK 11 [.int p0] [.int v2, .ref 12] (m_X2_at_19 l0 σ p0) cw_X2_at lk_X0_44 vi_X2_at rfl rfl rfl rfl rfl rfl (Nat.le_of_ble_eq_true rfl) (Nat.le_of_ble_eq_true rfl) (AW_k1 (fun v4 h3 => ?_))
  refine AW_g hT cl_X0 hK 12 3 (pc' := 25) (lo' := [some (.ref 12), some (.int p0), some (.int p1), some (.int v2)]) (st' := [.int p1, .ref 19, .int v4, .int v2, .ref 12]) (hp' := wd σ) rfl ?_
  refine AW_callV hT hK 15 [.int p1] [.int v4, .int v2, .ref 12] (m_X2_at_19 l0 σ p1) cw_X2_at lk_X0_44 vi_X2_at rfl rfl rfl rfl rfl rfl (Nat.le_of_ble_eq_true rfl) (Nat.le_of_ble_eq_true rfl) (AW_k1 (fun v6 h5 => ?_))
  refine AW_callV hT hK 16 [.int v2, .int v4, .int v6] [] (m_X0_gainFrom l0 σ v2 v4 v6) cw_X0_gainFrom lk_X0_55 vi_X0_gainFrom rfl rfl rfl rfl rfl rfl (Nat.le_of_ble_eq_true rfl) (Nat.le_of_ble_eq_true rfl) (AW_k1 (fun v8 h7 => ?_))
  refine AW_iret hT hE 17 rfl rfl rfl (Nat.le_of_ble_eq_true rfl) (Nat.le_of_ble_eq_true rfl) ?_
  subst h7; subst h5; subst h3; subst h1; exact ⟨by simp only [x_X0_gainOfJoining], rfl⟩
def b_X0_membersOf_4 (σ : az_S) (d1 : Int32) (i : Nat) (w2 : Int32) : Int32 :=
  let v3 := x_X2_at_13 σ (nI i)
  if v3 = d1 then
    let v6 := x_X5_setOf σ (nI i)
    (w2 ||| v6)
  else
    w2
set_option maxRecDepth 100000 in
set_option maxHeartbeats 4000000 in
theorem lp_X0_membersOf_4 {K : az_K} {l0 : Launch} (hT : az_Tb cX0_membersOf tb_X0_membersOf) (hK : az_OK K RX0 cX0_membersOf ({ frames := 1, cells := 0, slots := 0, locals := 21 } : Room) l0) (σ : az_S) (d1 : Int32) :
    ∀ (n i : Nat) (w2 : Int32) (hi : i + n = 12) (kx : ∀ s' : Int32, az_it (fun ι s => b_X0_membersOf_4 σ d1 ι s) n i w2 = s' → AW K 0 0 35 [some (.ref 12), some (.int d1), some (.int s'), none] [] (wd σ)), AW K 0 0 4 [some (.ref 12), some (.int d1), some (.int w2), some (.int (nI i))] [] (wd σ) := by
  intro n
  induction n with
  | zero =>
    intro i w2 hi kx
    refine AW_g hT cl_X0 hK 4 2 (pc' := 7) (lo' := [some (.ref 12), some (.int d1), some (.int w2), some (.int (nI i))]) (st' := [.int 12, .int (nI i)]) (hp' := wd σ) rfl ?_
    refine AW_icmp_ge hT hK 6 (tgt := 35) rfl rfl (fun c7 => ?_) (fun c7 => absurd (az_c0 hi) c7)
    refine AW_msk [true, true, true, false] (lo' := [some (.ref 12), some (.int d1), some (.int w2), none]) rfl ?_
    exact kx w2 rfl
  | succ n ih =>
    intro i w2 hi kx
    refine AW_g hT cl_X0 hK 4 2 (pc' := 7) (lo' := [some (.ref 12), some (.int d1), some (.int w2), some (.int (nI i))]) (st' := [.int 12, .int (nI i)]) (hp' := wd σ) rfl ?_
    refine AW_icmp_ge hT hK 6 (tgt := 35) rfl rfl (fun c1 => absurd c1 (az_c1 hi)) (fun c1 => ?_)
    refine AW_g hT cl_X0 hK 7 3 (pc' := 15) (lo' := [some (.ref 12), some (.int d1), some (.int w2), some (.int (nI i))]) (st' := [.int (nI i), .ref 13]) (hp' := wd σ) rfl ?_
    refine AW_callV hT hK 10 [.int (nI i)] [] (m_X2_at_13 l0 σ (nI i)) cw_X2_at lk_X0_44 vi_X2_at rfl rfl rfl rfl rfl rfl (Nat.le_of_ble_eq_true rfl) (Nat.le_of_ble_eq_true rfl) (AW_k1 (fun v3 h2 => ?_))
    refine AW_g hT cl_X0 hK 11 1 (pc' := 19) (lo' := [some (.ref 12), some (.int d1), some (.int w2), some (.int (nI i))]) (st' := [.int d1, .int v3]) (hp' := wd σ) rfl ?_
    refine AW_icmp_ne hT hK 12 (tgt := 29) rfl rfl (fun c4 => ?_) (fun c4 => ?_)
    · refine AW_g hT cl_X0 hK 18 1 (pc' := 32) (lo' := [some (.ref 12), some (.int d1), some (.int w2), some (.int ((nI i) + 1))]) (st' := []) (hp' := wd σ) rfl ?_
      refine AW_goto hT hK 19 (tgt := 4) rfl rfl ?_
      refine AW_to (lo' := [some (.ref 12), some (.int d1), some (.int w2), some (.int (nI (i + 1)))]) (by rw [nI_1]) rfl rfl ?_
      subst h2; skip
      exact ih (i + 1) _ (by omega) (fun s' hs' => kx s' ((congrArg (az_it _ n (i + 1)) (by simp only [b_X0_membersOf_4, if_neg c4])).trans hs'))
    · refine AW_g hT cl_X0 hK 13 2 (pc' := 24) (lo' := [some (.ref 12), some (.int d1), some (.int w2), some (.int (nI i))]) (st' := [.int (nI i), .int w2]) (hp' := wd σ) rfl ?_
      refine AW_callSN hT hK 15 [.int (nI i)] [.int w2] (m_X5_setOf l0 σ (nI i)) cw_X5_setOf lk_X0_102 sm_X5_setOf rfl rfl rfl rfl (Nat.le_of_ble_eq_true rfl) (Nat.le_of_ble_eq_true rfl) (AW_k1 (fun v6 h5 => ?_))
      refine AW_g hT cl_X0 hK 16 3 (pc' := 32) (lo' := [some (.ref 12), some (.int d1), some (.int (w2 ||| v6)), some (.int ((nI i) + 1))]) (st' := []) (hp' := wd σ) rfl ?_
      refine AW_goto hT hK 19 (tgt := 4) rfl rfl ?_
      refine AW_to (lo' := [some (.ref 12), some (.int d1), some (.int (w2 ||| v6)), some (.int (nI (i + 1)))]) (by rw [nI_1]) rfl rfl ?_
      subst h5; subst h2; skip
      exact ih (i + 1) _ (by omega) (fun s' hs' => kx s' ((congrArg (az_it _ n (i + 1)) (by simp only [b_X0_membersOf_4, if_pos c4])).trans hs'))
def x_X0_membersOf (σ : az_S) (p0 : Int32) : Int32 :=
  let s8 := az_it (fun ι s => b_X0_membersOf_4 σ p0 ι s) 12 0 0
  s8
set_option maxRecDepth 100000 in
set_option maxHeartbeats 4000000 in
theorem m_X0_membersOf (l0 : Launch) (σ : az_S) (p0 : Int32) : AMet l0 yX0_membersOf cX0_membersOf 4 (some .int) ({ frames := 1, cells := 0, slots := 0, locals := 21 } : Room) false [.ref 12, .int p0] (wd σ) (fun r h => r = some (.int (x_X0_membersOf σ p0)) ∧ h = wd σ) := by
  refine AMet_of (by decide +kernel) (by simp [Value.category]) (Nat.le_of_ble_eq_true rfl) (fun K hK hct hG hE => ?_)
  have hT := tt_X0_membersOf
  refine AW_g hT cl_X0 hK 0 4 (pc' := 4) (lo' := [some (.ref 12), some (.int p0), some (.int 0), some (.int 0)]) (st' := []) (hp' := wd σ) rfl ?_
  refine AW_to (lo' := [some (.ref 12), some (.int p0), some (.int 0), some (.int (nI 0))]) (rfl) rfl rfl ?_
  refine lp_X0_membersOf_4 hT hK σ p0 12 0 0 (by first | rfl | omega) (fun s8 h9 => ?_)
  refine AW_g hT cl_X0 hK 20 1 (pc' := 36) (lo' := [some (.ref 12), some (.int p0), some (.int s8), none]) (st' := [.int s8]) (hp' := wd σ) rfl ?_
  refine AW_iret hT hE 21 rfl rfl rfl (Nat.le_of_ble_eq_true rfl) (Nat.le_of_ble_eq_true rfl) ?_
  subst h9; exact ⟨by simp only [x_X0_membersOf], rfl⟩
def x_X4_at_21 (σ : az_S) (p0 : Int32) (p1 : Int32) : Int32 :=
  if p0 < 0 then
    0
  else
    if 12 ≤ p0 then
      0
    else
      if p1 < 0 then
        0
      else
        if 12 ≤ p1 then
          0
        else
          if ((p0 * 12) + p1) < 0 then
            0
          else
            if 144 ≤ ((p0 * 12) + p1) then
              0
            else
              ((σ.2.1 22) ((p0 * 12) + p1).toNatClampNeg)
set_option maxRecDepth 100000 in
set_option maxHeartbeats 4000000 in
theorem m_X4_at_21 (l0 : Launch) (σ : az_S) (p0 : Int32) (p1 : Int32) : AMet l0 yX4_at cX4_at 5 (some .int) ({ frames := 0, cells := 0, slots := 0, locals := 0 } : Room) false [.ref 21, .int p0, .int p1] (wd σ) (fun r h => r = some (.int (x_X4_at_21 σ p0 p1)) ∧ h = wd σ) := by
  refine AMet_of (by decide +kernel) (by simp [Value.category]) (Nat.le_of_ble_eq_true rfl) (fun K hK hct hG hE => ?_)
  have hT := tt_X4_at
  refine AW_g hT cl_X4 hK 0 7 (pc' := 8) (lo' := [some (.ref 21), some (.int p0), some (.int p1), some (.int ((p0 * 12) + p1)), none]) (st' := [.int p0]) (hp' := wd σ) rfl ?_
  refine AW_if_lt hT hK 7 (tgt := 31) rfl rfl (fun c1 => ?_) (fun c1 => ?_)
  · refine AW_g hT cl_X4 hK 18 3 (pc' := 36) (lo' := [some (.ref 21), some (.int p0), some (.int p1), some (.int ((p0 * 12) + p1)), some (.int 0)]) (st' := [.int 0]) (hp' := wd σ) rfl ?_
    refine AW_if_eq hT hK 21 (tgt := 61) rfl rfl (fun _ => ?_) (fun c2 => absurd (by decide) c2)
    refine AW_g hT cl_X4 hK 34 1 (pc' := 62) (lo' := [some (.ref 21), some (.int p0), some (.int p1), some (.int ((p0 * 12) + p1)), some (.int 0)]) (st' := [.int 0]) (hp' := wd σ) rfl ?_
    refine AW_iret hT hE 35 rfl rfl rfl (Nat.le_of_ble_eq_true rfl) (Nat.le_of_ble_eq_true rfl) ?_
    exact ⟨by simp only [x_X4_at_21, if_pos c1], rfl⟩
  · refine AW_g hT cl_X4 hK 8 2 (pc' := 14) (lo' := [some (.ref 21), some (.int p0), some (.int p1), some (.int ((p0 * 12) + p1)), none]) (st' := [.int 12, .int p0]) (hp' := wd σ) rfl ?_
    refine AW_icmp_ge hT hK 10 (tgt := 31) rfl rfl (fun c3 => ?_) (fun c3 => ?_)
    · refine AW_g hT cl_X4 hK 18 3 (pc' := 36) (lo' := [some (.ref 21), some (.int p0), some (.int p1), some (.int ((p0 * 12) + p1)), some (.int 0)]) (st' := [.int 0]) (hp' := wd σ) rfl ?_
      refine AW_if_eq hT hK 21 (tgt := 61) rfl rfl (fun _ => ?_) (fun c4 => absurd (by decide) c4)
      refine AW_g hT cl_X4 hK 34 1 (pc' := 62) (lo' := [some (.ref 21), some (.int p0), some (.int p1), some (.int ((p0 * 12) + p1)), some (.int 0)]) (st' := [.int 0]) (hp' := wd σ) rfl ?_
      refine AW_iret hT hE 35 rfl rfl rfl (Nat.le_of_ble_eq_true rfl) (Nat.le_of_ble_eq_true rfl) ?_
      exact ⟨by simp only [x_X4_at_21, if_neg c1, if_pos c3], rfl⟩
    · refine AW_g hT cl_X4 hK 11 1 (pc' := 18) (lo' := [some (.ref 21), some (.int p0), some (.int p1), some (.int ((p0 * 12) + p1)), none]) (st' := [.int p1]) (hp' := wd σ) rfl ?_
      refine AW_if_lt hT hK 12 (tgt := 31) rfl rfl (fun c5 => ?_) (fun c5 => ?_)
      · refine AW_g hT cl_X4 hK 18 3 (pc' := 36) (lo' := [some (.ref 21), some (.int p0), some (.int p1), some (.int ((p0 * 12) + p1)), some (.int 0)]) (st' := [.int 0]) (hp' := wd σ) rfl ?_
        refine AW_if_eq hT hK 21 (tgt := 61) rfl rfl (fun _ => ?_) (fun c6 => absurd (by decide) c6)
        refine AW_g hT cl_X4 hK 34 1 (pc' := 62) (lo' := [some (.ref 21), some (.int p0), some (.int p1), some (.int ((p0 * 12) + p1)), some (.int 0)]) (st' := [.int 0]) (hp' := wd σ) rfl ?_
        refine AW_iret hT hE 35 rfl rfl rfl (Nat.le_of_ble_eq_true rfl) (Nat.le_of_ble_eq_true rfl) ?_
        exact ⟨by simp only [x_X4_at_21, if_neg c1, if_neg c3, if_pos c5], rfl⟩
      · refine AW_g hT cl_X4 hK 13 2 (pc' := 24) (lo' := [some (.ref 21), some (.int p0), some (.int p1), some (.int ((p0 * 12) + p1)), none]) (st' := [.int 12, .int p1]) (hp' := wd σ) rfl ?_
        refine AW_icmp_ge hT hK 15 (tgt := 31) rfl rfl (fun c7 => ?_) (fun c7 => ?_)
        · refine AW_g hT cl_X4 hK 18 3 (pc' := 36) (lo' := [some (.ref 21), some (.int p0), some (.int p1), some (.int ((p0 * 12) + p1)), some (.int 0)]) (st' := [.int 0]) (hp' := wd σ) rfl ?_
          refine AW_if_eq hT hK 21 (tgt := 61) rfl rfl (fun _ => ?_) (fun c8 => absurd (by decide) c8)
          refine AW_g hT cl_X4 hK 34 1 (pc' := 62) (lo' := [some (.ref 21), some (.int p0), some (.int p1), some (.int ((p0 * 12) + p1)), some (.int 0)]) (st' := [.int 0]) (hp' := wd σ) rfl ?_
          refine AW_iret hT hE 35 rfl rfl rfl (Nat.le_of_ble_eq_true rfl) (Nat.le_of_ble_eq_true rfl) ?_
          exact ⟨by simp only [x_X4_at_21, if_neg c1, if_neg c3, if_neg c5, if_pos c7], rfl⟩
        · refine AW_g hT cl_X4 hK 16 1 (pc' := 28) (lo' := [some (.ref 21), some (.int p0), some (.int p1), some (.int ((p0 * 12) + p1)), none]) (st' := [.int 1]) (hp' := wd σ) rfl ?_
          refine AW_goto hT hK 17 (tgt := 32) rfl rfl ?_
          refine AW_g hT cl_X4 hK 19 2 (pc' := 36) (lo' := [some (.ref 21), some (.int p0), some (.int p1), some (.int ((p0 * 12) + p1)), some (.int 1)]) (st' := [.int 1]) (hp' := wd σ) rfl ?_
          refine AW_if_eq hT hK 21 (tgt := 61) rfl rfl (fun c9 => absurd c9 (by decide)) (fun _ => ?_)
          refine AW_g hT cl_X4 hK 22 1 (pc' := 40) (lo' := [some (.ref 21), some (.int p0), some (.int p1), some (.int ((p0 * 12) + p1)), some (.int 1)]) (st' := [.int ((p0 * 12) + p1)]) (hp' := wd σ) rfl ?_
          refine AW_if_lt hT hK 23 (tgt := 61) rfl rfl (fun c10 => ?_) (fun c10 => ?_)
          · refine AW_g hT cl_X4 hK 34 1 (pc' := 62) (lo' := [some (.ref 21), some (.int p0), some (.int p1), some (.int ((p0 * 12) + p1)), some (.int 1)]) (st' := [.int 0]) (hp' := wd σ) rfl ?_
            refine AW_iret hT hE 35 rfl rfl rfl (Nat.le_of_ble_eq_true rfl) (Nat.le_of_ble_eq_true rfl) ?_
            exact ⟨by simp only [x_X4_at_21, if_neg c1, if_neg c3, if_neg c5, if_neg c7, if_pos c10], rfl⟩
          · refine AW_g hT cl_X4 hK 24 4 (pc' := 49) (lo' := [some (.ref 21), some (.int p0), some (.int p1), some (.int ((p0 * 12) + p1)), some (.int 1)]) (st' := [.int 144, .int ((p0 * 12) + p1)]) (hp' := wd σ) rfl ?_
            refine AW_icmp_ge hT hK 28 (tgt := 61) rfl rfl (fun c11 => ?_) (fun c11 => ?_)
            · refine AW_g hT cl_X4 hK 34 1 (pc' := 62) (lo' := [some (.ref 21), some (.int p0), some (.int p1), some (.int ((p0 * 12) + p1)), some (.int 1)]) (st' := [.int 0]) (hp' := wd σ) rfl ?_
              refine AW_iret hT hE 35 rfl rfl rfl (Nat.le_of_ble_eq_true rfl) (Nat.le_of_ble_eq_true rfl) ?_
              exact ⟨by simp only [x_X4_at_21, if_neg c1, if_neg c3, if_neg c5, if_neg c7, if_neg c10, if_pos c11], rfl⟩
            · refine AW_g hT cl_X4 hK 29 3 (pc' := 57) (lo' := [some (.ref 21), some (.int p0), some (.int p1), some (.int ((p0 * 12) + p1)), some (.int 1)]) (st' := [.int ((p0 * 12) + p1), .ref 22]) (hp' := wd σ) rfl ?_
              refine AW_ialdx hT hK 32 rfl (n := 144) (f := (σ.2.1 22)) rfl (az_in144 c10 c11) ?_
              refine AW_goto hT hK 33 (tgt := 62) rfl rfl ?_
              refine AW_iret hT hE 35 rfl rfl rfl (Nat.le_of_ble_eq_true rfl) (Nat.le_of_ble_eq_true rfl) ?_
              exact ⟨by simp only [x_X4_at_21, if_neg c1, if_neg c3, if_neg c5, if_neg c7, if_neg c10, if_neg c11], rfl⟩
def b_X0_weightWithAll_5 (σ : az_S) (d1 : Int32) (d2 : Int32) (i : Nat) (w3 : Int32) : Int32 :=
  let v3 := x_X5_holds σ d2 (nI i)
  if v3 = 0 then
    w3
  else
    let v6 := x_X4_at_21 σ d1 (nI i)
    (w3 + v6)
set_option maxRecDepth 100000 in
set_option maxHeartbeats 4000000 in
theorem lp_X0_weightWithAll_5 {K : az_K} {l0 : Launch} (hT : az_Tb cX0_weightWithAll tb_X0_weightWithAll) (hK : az_OK K RX0 cX0_weightWithAll ({ frames := 1, cells := 0, slots := 0, locals := 24 } : Room) l0) (σ : az_S) (d1 : Int32) (d2 : Int32) :
    ∀ (n i : Nat) (w3 : Int32) (hi : i + n = 12) (kx : ∀ s' : Int32, az_it (fun ι s => b_X0_weightWithAll_5 σ d1 d2 ι s) n i w3 = s' → AW K 0 0 40 [some (.ref 12), some (.int d1), some (.int d2), some (.int s'), none] [] (wd σ)), AW K 0 0 5 [some (.ref 12), some (.int d1), some (.int d2), some (.int w3), some (.int (nI i))] [] (wd σ) := by
  intro n
  induction n with
  | zero =>
    intro i w3 hi kx
    refine AW_g hT cl_X0 hK 4 2 (pc' := 9) (lo' := [some (.ref 12), some (.int d1), some (.int d2), some (.int w3), some (.int (nI i))]) (st' := [.int 12, .int (nI i)]) (hp' := wd σ) rfl ?_
    refine AW_icmp_ge hT hK 6 (tgt := 40) rfl rfl (fun c7 => ?_) (fun c7 => absurd (az_c0 hi) c7)
    refine AW_msk [true, true, true, true, false] (lo' := [some (.ref 12), some (.int d1), some (.int d2), some (.int w3), none]) rfl ?_
    exact kx w3 rfl
  | succ n ih =>
    intro i w3 hi kx
    refine AW_g hT cl_X0 hK 4 2 (pc' := 9) (lo' := [some (.ref 12), some (.int d1), some (.int d2), some (.int w3), some (.int (nI i))]) (st' := [.int 12, .int (nI i)]) (hp' := wd σ) rfl ?_
    refine AW_icmp_ge hT hK 6 (tgt := 40) rfl rfl (fun c1 => absurd c1 (az_c1 hi)) (fun c1 => ?_)
    refine AW_g hT cl_X0 hK 7 2 (pc' := 15) (lo' := [some (.ref 12), some (.int d1), some (.int d2), some (.int w3), some (.int (nI i))]) (st' := [.int (nI i), .int d2]) (hp' := wd σ) rfl ?_
    refine AW_callSN hT hK 9 [.int d2, .int (nI i)] [] (m_X5_holds l0 σ d2 (nI i)) cw_X5_holds lk_X0_48 sm_X5_holds rfl rfl rfl rfl (Nat.le_of_ble_eq_true rfl) (Nat.le_of_ble_eq_true rfl) (AW_k1 (fun v3 h2 => ?_))
    refine AW_if_eq hT hK 10 (tgt := 34) rfl rfl (fun c4 => ?_) (fun c4 => ?_)
    · refine AW_g hT cl_X0 hK 19 1 (pc' := 37) (lo' := [some (.ref 12), some (.int d1), some (.int d2), some (.int w3), some (.int ((nI i) + 1))]) (st' := []) (hp' := wd σ) rfl ?_
      refine AW_goto hT hK 20 (tgt := 5) rfl rfl ?_
      refine AW_to (lo' := [some (.ref 12), some (.int d1), some (.int d2), some (.int w3), some (.int (nI (i + 1)))]) (by rw [nI_1]) rfl rfl ?_
      subst h2; skip
      exact ih (i + 1) _ (by omega) (fun s' hs' => kx s' ((congrArg (az_it _ n (i + 1)) (by simp only [b_X0_weightWithAll_5, if_pos c4])).trans hs'))
    · refine AW_g hT cl_X0 hK 11 5 (pc' := 29) (lo' := [some (.ref 12), some (.int d1), some (.int d2), some (.int w3), some (.int (nI i))]) (st' := [.int (nI i), .int d1, .ref 21, .int w3]) (hp' := wd σ) rfl ?_
      refine AW_callV hT hK 16 [.int d1, .int (nI i)] [.int w3] (m_X4_at_21 l0 σ d1 (nI i)) cw_X4_at lk_X0_52 vi_X4_at rfl rfl rfl rfl rfl rfl (Nat.le_of_ble_eq_true rfl) (Nat.le_of_ble_eq_true rfl) (AW_k1 (fun v6 h5 => ?_))
      refine AW_g hT cl_X0 hK 17 3 (pc' := 37) (lo' := [some (.ref 12), some (.int d1), some (.int d2), some (.int (w3 + v6)), some (.int ((nI i) + 1))]) (st' := []) (hp' := wd σ) rfl ?_
      refine AW_goto hT hK 20 (tgt := 5) rfl rfl ?_
      refine AW_to (lo' := [some (.ref 12), some (.int d1), some (.int d2), some (.int (w3 + v6)), some (.int (nI (i + 1)))]) (by rw [nI_1]) rfl rfl ?_
      subst h5; subst h2; skip
      exact ih (i + 1) _ (by omega) (fun s' hs' => kx s' ((congrArg (az_it _ n (i + 1)) (by simp only [b_X0_weightWithAll_5, if_neg c4])).trans hs'))
def x_X0_weightWithAll (σ : az_S) (p0 : Int32) (p1 : Int32) : Int32 :=
  let s8 := az_it (fun ι s => b_X0_weightWithAll_5 σ p0 p1 ι s) 12 0 0
  s8
set_option maxRecDepth 100000 in
set_option maxHeartbeats 4000000 in
theorem m_X0_weightWithAll (l0 : Launch) (σ : az_S) (p0 : Int32) (p1 : Int32) : AMet l0 yX0_weightWithAll cX0_weightWithAll 5 (some .int) ({ frames := 1, cells := 0, slots := 0, locals := 24 } : Room) false [.ref 12, .int p0, .int p1] (wd σ) (fun r h => r = some (.int (x_X0_weightWithAll σ p0 p1)) ∧ h = wd σ) := by
  refine AMet_of (by decide +kernel) (by simp [Value.category]) (Nat.le_of_ble_eq_true rfl) (fun K hK hct hG hE => ?_)
  have hT := tt_X0_weightWithAll
  refine AW_g hT cl_X0 hK 0 4 (pc' := 5) (lo' := [some (.ref 12), some (.int p0), some (.int p1), some (.int 0), some (.int 0)]) (st' := []) (hp' := wd σ) rfl ?_
  refine AW_to (lo' := [some (.ref 12), some (.int p0), some (.int p1), some (.int 0), some (.int (nI 0))]) (rfl) rfl rfl ?_
  refine lp_X0_weightWithAll_5 hT hK σ p0 p1 12 0 0 (by first | rfl | omega) (fun s8 h9 => ?_)
  refine AW_g hT cl_X0 hK 21 1 (pc' := 41) (lo' := [some (.ref 12), some (.int p0), some (.int p1), some (.int s8), none]) (st' := [.int s8]) (hp' := wd σ) rfl ?_
  refine AW_iret hT hE 22 rfl rfl rfl (Nat.le_of_ble_eq_true rfl) (Nat.le_of_ble_eq_true rfl) ?_
  subst h9; exact ⟨by simp only [x_X0_weightWithAll], rfl⟩
def x_X2_at_17 (σ : az_S) (p0 : Int32) : Int32 :=
  if p0 < 0 then
    0
  else
    if 12 ≤ p0 then
      0
    else
      ((σ.2.1 18) p0.toNatClampNeg)
set_option maxRecDepth 100000 in
set_option maxHeartbeats 4000000 in
theorem m_X2_at_17 (l0 : Launch) (σ : az_S) (p0 : Int32) : AMet l0 yX2_at cX2_at 2 (some .int) ({ frames := 0, cells := 0, slots := 0, locals := 0 } : Room) false [.ref 17, .int p0] (wd σ) (fun r h => r = some (.int (x_X2_at_17 σ p0)) ∧ h = wd σ) := by
  refine AMet_of (by decide +kernel) (by simp [Value.category]) (Nat.le_of_ble_eq_true rfl) (fun K hK hct hG hE => ?_)
  have hT := tt_X2_at
  refine AW_g hT cl_X2 hK 0 1 (pc' := 1) (lo' := [some (.ref 17), some (.int p0)]) (st' := [.int p0]) (hp' := wd σ) rfl ?_
  refine AW_if_lt hT hK 1 (tgt := 22) rfl rfl (fun c1 => ?_) (fun c1 => ?_)
  · refine AW_g hT cl_X2 hK 12 1 (pc' := 23) (lo' := [some (.ref 17), some (.int p0)]) (st' := [.int 0]) (hp' := wd σ) rfl ?_
    refine AW_iret hT hE 13 rfl rfl rfl (Nat.le_of_ble_eq_true rfl) (Nat.le_of_ble_eq_true rfl) ?_
    exact ⟨by simp only [x_X2_at_17, if_pos c1], rfl⟩
  · refine AW_g hT cl_X2 hK 2 4 (pc' := 10) (lo' := [some (.ref 17), some (.int p0)]) (st' := [.int 12, .int p0]) (hp' := wd σ) rfl ?_
    refine AW_icmp_ge hT hK 6 (tgt := 22) rfl rfl (fun c2 => ?_) (fun c2 => ?_)
    · refine AW_g hT cl_X2 hK 12 1 (pc' := 23) (lo' := [some (.ref 17), some (.int p0)]) (st' := [.int 0]) (hp' := wd σ) rfl ?_
      refine AW_iret hT hE 13 rfl rfl rfl (Nat.le_of_ble_eq_true rfl) (Nat.le_of_ble_eq_true rfl) ?_
      exact ⟨by simp only [x_X2_at_17, if_neg c1, if_pos c2], rfl⟩
    · refine AW_g hT cl_X2 hK 7 3 (pc' := 18) (lo' := [some (.ref 17), some (.int p0)]) (st' := [.int p0, .ref 18]) (hp' := wd σ) rfl ?_
      refine AW_ialdx hT hK 10 rfl (n := 12) (f := (σ.2.1 18)) rfl (az_in12 c1 c2) ?_
      refine AW_goto hT hK 11 (tgt := 23) rfl rfl ?_
      refine AW_iret hT hE 13 rfl rfl rfl (Nat.le_of_ble_eq_true rfl) (Nat.le_of_ble_eq_true rfl) ?_
      exact ⟨by simp only [x_X2_at_17, if_neg c1, if_neg c2], rfl⟩
def b_X0_strengthOf_4 (σ : az_S) (d1 : Int32) (i : Nat) (w2 : Int32) : Int32 :=
  let v3 := x_X5_holds σ d1 (nI i)
  if v3 = 0 then
    w2
  else
    let v6 := x_X2_at_17 σ (nI i)
    (w2 + v6)
set_option maxRecDepth 100000 in
set_option maxHeartbeats 4000000 in
theorem lp_X0_strengthOf_4 {K : az_K} {l0 : Launch} (hT : az_Tb cX0_strengthOf tb_X0_strengthOf) (hK : az_OK K RX0 cX0_strengthOf ({ frames := 1, cells := 0, slots := 0, locals := 21 } : Room) l0) (σ : az_S) (d1 : Int32) :
    ∀ (n i : Nat) (w2 : Int32) (hi : i + n = 12) (kx : ∀ s' : Int32, az_it (fun ι s => b_X0_strengthOf_4 σ d1 ι s) n i w2 = s' → AW K 0 0 35 [some (.ref 12), some (.int d1), some (.int s'), none] [] (wd σ)), AW K 0 0 4 [some (.ref 12), some (.int d1), some (.int w2), some (.int (nI i))] [] (wd σ) := by
  intro n
  induction n with
  | zero =>
    intro i w2 hi kx
    refine AW_g hT cl_X0 hK 4 2 (pc' := 7) (lo' := [some (.ref 12), some (.int d1), some (.int w2), some (.int (nI i))]) (st' := [.int 12, .int (nI i)]) (hp' := wd σ) rfl ?_
    refine AW_icmp_ge hT hK 6 (tgt := 35) rfl rfl (fun c7 => ?_) (fun c7 => absurd (az_c0 hi) c7)
    refine AW_msk [true, true, true, false] (lo' := [some (.ref 12), some (.int d1), some (.int w2), none]) rfl ?_
    exact kx w2 rfl
  | succ n ih =>
    intro i w2 hi kx
    refine AW_g hT cl_X0 hK 4 2 (pc' := 7) (lo' := [some (.ref 12), some (.int d1), some (.int w2), some (.int (nI i))]) (st' := [.int 12, .int (nI i)]) (hp' := wd σ) rfl ?_
    refine AW_icmp_ge hT hK 6 (tgt := 35) rfl rfl (fun c1 => absurd c1 (az_c1 hi)) (fun c1 => ?_)
    refine AW_g hT cl_X0 hK 7 2 (pc' := 12) (lo' := [some (.ref 12), some (.int d1), some (.int w2), some (.int (nI i))]) (st' := [.int (nI i), .int d1]) (hp' := wd σ) rfl ?_
    refine AW_callSN hT hK 9 [.int d1, .int (nI i)] [] (m_X5_holds l0 σ d1 (nI i)) cw_X5_holds lk_X0_48 sm_X5_holds rfl rfl rfl rfl (Nat.le_of_ble_eq_true rfl) (Nat.le_of_ble_eq_true rfl) (AW_k1 (fun v3 h2 => ?_))
    refine AW_if_eq hT hK 10 (tgt := 29) rfl rfl (fun c4 => ?_) (fun c4 => ?_)
    · refine AW_g hT cl_X0 hK 18 1 (pc' := 32) (lo' := [some (.ref 12), some (.int d1), some (.int w2), some (.int ((nI i) + 1))]) (st' := []) (hp' := wd σ) rfl ?_
      refine AW_goto hT hK 19 (tgt := 4) rfl rfl ?_
      refine AW_to (lo' := [some (.ref 12), some (.int d1), some (.int w2), some (.int (nI (i + 1)))]) (by rw [nI_1]) rfl rfl ?_
      subst h2; skip
      exact ih (i + 1) _ (by omega) (fun s' hs' => kx s' ((congrArg (az_it _ n (i + 1)) (by simp only [b_X0_strengthOf_4, if_pos c4])).trans hs'))
    · refine AW_g hT cl_X0 hK 11 4 (pc' := 24) (lo' := [some (.ref 12), some (.int d1), some (.int w2), some (.int (nI i))]) (st' := [.int (nI i), .ref 17, .int w2]) (hp' := wd σ) rfl ?_
      refine AW_callV hT hK 15 [.int (nI i)] [.int w2] (m_X2_at_17 l0 σ (nI i)) cw_X2_at lk_X0_44 vi_X2_at rfl rfl rfl rfl rfl rfl (Nat.le_of_ble_eq_true rfl) (Nat.le_of_ble_eq_true rfl) (AW_k1 (fun v6 h5 => ?_))
      refine AW_g hT cl_X0 hK 16 3 (pc' := 32) (lo' := [some (.ref 12), some (.int d1), some (.int (w2 + v6)), some (.int ((nI i) + 1))]) (st' := []) (hp' := wd σ) rfl ?_
      refine AW_goto hT hK 19 (tgt := 4) rfl rfl ?_
      refine AW_to (lo' := [some (.ref 12), some (.int d1), some (.int (w2 + v6)), some (.int (nI (i + 1)))]) (by rw [nI_1]) rfl rfl ?_
      subst h5; subst h2; skip
      exact ih (i + 1) _ (by omega) (fun s' hs' => kx s' ((congrArg (az_it _ n (i + 1)) (by simp only [b_X0_strengthOf_4, if_neg c4])).trans hs'))
def x_X0_strengthOf (σ : az_S) (p0 : Int32) : Int32 :=
  let s8 := az_it (fun ι s => b_X0_strengthOf_4 σ p0 ι s) 12 0 0
  s8
set_option maxRecDepth 100000 in
set_option maxHeartbeats 4000000 in
theorem m_X0_strengthOf (l0 : Launch) (σ : az_S) (p0 : Int32) : AMet l0 yX0_strengthOf cX0_strengthOf 4 (some .int) ({ frames := 1, cells := 0, slots := 0, locals := 21 } : Room) false [.ref 12, .int p0] (wd σ) (fun r h => r = some (.int (x_X0_strengthOf σ p0)) ∧ h = wd σ) := by
  refine AMet_of (by decide +kernel) (by simp [Value.category]) (Nat.le_of_ble_eq_true rfl) (fun K hK hct hG hE => ?_)
  have hT := tt_X0_strengthOf
  refine AW_g hT cl_X0 hK 0 4 (pc' := 4) (lo' := [some (.ref 12), some (.int p0), some (.int 0), some (.int 0)]) (st' := []) (hp' := wd σ) rfl ?_
  refine AW_to (lo' := [some (.ref 12), some (.int p0), some (.int 0), some (.int (nI 0))]) (rfl) rfl rfl ?_
  refine lp_X0_strengthOf_4 hT hK σ p0 12 0 0 (by first | rfl | omega) (fun s8 h9 => ?_)
  refine AW_g hT cl_X0 hK 20 1 (pc' := 36) (lo' := [some (.ref 12), some (.int p0), some (.int s8), none]) (st' := [.int s8]) (hp' := wd σ) rfl ?_
  refine AW_iret hT hE 21 rfl rfl rfl (Nat.le_of_ble_eq_true rfl) (Nat.le_of_ble_eq_true rfl) ?_
  subst h9; exact ⟨by simp only [x_X0_strengthOf], rfl⟩
def b_X0_gainOfParts_5 (σ : az_S) (d1 : Int32) (d2 : Int32) (i : Nat) (w3 : Int32) : Int32 :=
  let v3 := x_X5_holds σ d1 (nI i)
  if v3 = 0 then
    w3
  else
    let v6 := x_X0_weightWithAll σ (nI i) d2
    (w3 + v6)
set_option maxRecDepth 100000 in
set_option maxHeartbeats 4000000 in
theorem lp_X0_gainOfParts_5 {K : az_K} {l0 : Launch} (hT : az_Tb cX0_gainOfParts tb_X0_gainOfParts) (hK : az_OK K RX0 cX0_gainOfParts ({ frames := 2, cells := 0, slots := 0, locals := 48 } : Room) l0) (σ : az_S) (d1 : Int32) (d2 : Int32) :
    ∀ (n i : Nat) (w3 : Int32) (hi : i + n = 12) (kx : ∀ s' : Int32, az_it (fun ι s => b_X0_gainOfParts_5 σ d1 d2 ι s) n i w3 = s' → AW K 0 0 37 [some (.ref 12), some (.int d1), some (.int d2), some (.int s'), none] [] (wd σ)), AW K 0 0 5 [some (.ref 12), some (.int d1), some (.int d2), some (.int w3), some (.int (nI i))] [] (wd σ) := by
  intro n
  induction n with
  | zero =>
    intro i w3 hi kx
    refine AW_g hT cl_X0 hK 4 2 (pc' := 9) (lo' := [some (.ref 12), some (.int d1), some (.int d2), some (.int w3), some (.int (nI i))]) (st' := [.int 12, .int (nI i)]) (hp' := wd σ) rfl ?_
    refine AW_icmp_ge hT hK 6 (tgt := 37) rfl rfl (fun c7 => ?_) (fun c7 => absurd (az_c0 hi) c7)
    refine AW_msk [true, true, true, true, false] (lo' := [some (.ref 12), some (.int d1), some (.int d2), some (.int w3), none]) rfl ?_
    exact kx w3 rfl
  | succ n ih =>
    intro i w3 hi kx
    refine AW_g hT cl_X0 hK 4 2 (pc' := 9) (lo' := [some (.ref 12), some (.int d1), some (.int d2), some (.int w3), some (.int (nI i))]) (st' := [.int 12, .int (nI i)]) (hp' := wd σ) rfl ?_
    refine AW_icmp_ge hT hK 6 (tgt := 37) rfl rfl (fun c1 => absurd c1 (az_c1 hi)) (fun c1 => ?_)
    refine AW_g hT cl_X0 hK 7 2 (pc' := 15) (lo' := [some (.ref 12), some (.int d1), some (.int d2), some (.int w3), some (.int (nI i))]) (st' := [.int (nI i), .int d1]) (hp' := wd σ) rfl ?_
    refine AW_callSN hT hK 9 [.int d1, .int (nI i)] [] (m_X5_holds l0 σ d1 (nI i)) cw_X5_holds lk_X0_48 sm_X5_holds rfl rfl rfl rfl (Nat.le_of_ble_eq_true rfl) (Nat.le_of_ble_eq_true rfl) (AW_k1 (fun v3 h2 => ?_))
    refine AW_if_eq hT hK 10 (tgt := 31) rfl rfl (fun c4 => ?_) (fun c4 => ?_)
    · refine AW_g hT cl_X0 hK 18 1 (pc' := 34) (lo' := [some (.ref 12), some (.int d1), some (.int d2), some (.int w3), some (.int ((nI i) + 1))]) (st' := []) (hp' := wd σ) rfl ?_
      refine AW_goto hT hK 19 (tgt := 5) rfl rfl ?_
      refine AW_to (lo' := [some (.ref 12), some (.int d1), some (.int d2), some (.int w3), some (.int (nI (i + 1)))]) (by rw [nI_1]) rfl rfl ?_
      subst h2; skip
      exact ih (i + 1) _ (by omega) (fun s' hs' => kx s' ((congrArg (az_it _ n (i + 1)) (by simp only [b_X0_gainOfParts_5, if_pos c4])).trans hs'))
    · refine AW_g hT cl_X0 hK 11 4 (pc' := 26) (lo' := [some (.ref 12), some (.int d1), some (.int d2), some (.int w3), some (.int (nI i))]) (st' := [.int d2, .int (nI i), .ref 12, .int w3]) (hp' := wd σ) rfl ?_
      refine AW_callV hT hK 15 [.int (nI i), .int d2] [.int w3] (m_X0_weightWithAll l0 σ (nI i) d2) cw_X0_weightWithAll lk_X0_121 vi_X0_weightWithAll rfl rfl rfl rfl rfl rfl (Nat.le_of_ble_eq_true rfl) (Nat.le_of_ble_eq_true rfl) (AW_k1 (fun v6 h5 => ?_))
      refine AW_g hT cl_X0 hK 16 3 (pc' := 34) (lo' := [some (.ref 12), some (.int d1), some (.int d2), some (.int (w3 + v6)), some (.int ((nI i) + 1))]) (st' := []) (hp' := wd σ) rfl ?_
      refine AW_goto hT hK 19 (tgt := 5) rfl rfl ?_
      refine AW_to (lo' := [some (.ref 12), some (.int d1), some (.int d2), some (.int (w3 + v6)), some (.int (nI (i + 1)))]) (by rw [nI_1]) rfl rfl ?_
      subst h5; subst h2; skip
      exact ih (i + 1) _ (by omega) (fun s' hs' => kx s' ((congrArg (az_it _ n (i + 1)) (by simp only [b_X0_gainOfParts_5, if_neg c4])).trans hs'))
def x_X0_gainOfParts (σ : az_S) (p0 : Int32) (p1 : Int32) : Int32 :=
  let s8 := az_it (fun ι s => b_X0_gainOfParts_5 σ p0 p1 ι s) 12 0 0
  let v11 := x_X0_strengthOf σ p0
  let v13 := x_X0_strengthOf σ p1
  let v15 := x_X0_gainFrom σ s8 v11 v13
  v15
set_option maxRecDepth 100000 in
set_option maxHeartbeats 4000000 in
theorem m_X0_gainOfParts (l0 : Launch) (σ : az_S) (p0 : Int32) (p1 : Int32) : AMet l0 yX0_gainOfParts cX0_gainOfParts 5 (some .int) ({ frames := 2, cells := 0, slots := 0, locals := 48 } : Room) false [.ref 12, .int p0, .int p1] (wd σ) (fun r h => r = some (.int (x_X0_gainOfParts σ p0 p1)) ∧ h = wd σ) := by
  refine AMet_of (by decide +kernel) (by simp [Value.category]) (Nat.le_of_ble_eq_true rfl) (fun K hK hct hG hE => ?_)
  have hT := tt_X0_gainOfParts
  refine AW_g hT cl_X0 hK 0 4 (pc' := 5) (lo' := [some (.ref 12), some (.int p0), some (.int p1), some (.int 0), some (.int 0)]) (st' := []) (hp' := wd σ) rfl ?_
  refine AW_to (lo' := [some (.ref 12), some (.int p0), some (.int p1), some (.int 0), some (.int (nI 0))]) (rfl) rfl rfl ?_
  refine lp_X0_gainOfParts_5 hT hK σ p0 p1 12 0 0 (by first | rfl | omega) (fun s8 h9 => ?_)
  refine AW_g hT cl_X0 hK 20 4 (pc' := 41) (lo' := [some (.ref 12), some (.int p0), some (.int p1), some (.int s8), none]) (st' := [.int p0, .ref 12, .int s8, .ref 12]) (hp' := wd σ) rfl ?_
  refine AW_callV hT hK 24 [.int p0] [.int s8, .ref 12] (m_X0_strengthOf l0 σ p0) cw_X0_strengthOf lk_X0_124 vi_X0_strengthOf rfl rfl rfl rfl rfl rfl (Nat.le_of_ble_eq_true rfl) (Nat.le_of_ble_eq_true rfl) (AW_k1 (fun v11 h10 => ?_))
  refine AW_g hT cl_X0 hK 25 2 (pc' := 46) (lo' := [some (.ref 12), some (.int p0), some (.int p1), some (.int s8), none]) (st' := [.int p1, .ref 12, .int v11, .int s8, .ref 12]) (hp' := wd σ) rfl ?_
  refine AW_callV hT hK 27 [.int p1] [.int v11, .int s8, .ref 12] (m_X0_strengthOf l0 σ p1) cw_X0_strengthOf lk_X0_124 vi_X0_strengthOf rfl rfl rfl rfl rfl rfl (Nat.le_of_ble_eq_true rfl) (Nat.le_of_ble_eq_true rfl) (AW_k1 (fun v13 h12 => ?_))
  refine AW_callV hT hK 28 [.int s8, .int v11, .int v13] [] (m_X0_gainFrom l0 σ s8 v11 v13) cw_X0_gainFrom lk_X0_55 vi_X0_gainFrom rfl rfl rfl rfl rfl rfl (Nat.le_of_ble_eq_true rfl) (Nat.le_of_ble_eq_true rfl) (AW_k1 (fun v15 h14 => ?_))
  refine AW_iret hT hE 29 rfl rfl rfl (Nat.le_of_ble_eq_true rfl) (Nat.le_of_ble_eq_true rfl) ?_
  subst h14; subst h12; subst h10; subst h9; exact ⟨by simp only [x_X0_gainOfParts], rfl⟩
def b_X0_bestSplit_34 (σ : az_S) (d1 : Int32) (d2 : Int32) (d3 : Int32) (i : Nat) (w4 : Int32) (w5 : Int32) (w6 : Int32) : Int32 × Int32 × Int32 :=
  let v9 := x_X5_setOf σ d1
  let v11 := x_X0_gainOfParts σ (v9 ||| w6) (d2 &&& (w6 ^^^ (-1)))
  if w5 ≤ v11 then
    (w4, w5, ((w6 - d2) &&& d2))
  else
    ((v9 ||| w6), v11, ((w6 - d2) &&& d2))
set_option maxRecDepth 100000 in
set_option maxHeartbeats 4000000 in
theorem lp_X0_bestSplit_34 {K : az_K} {l0 : Launch} (hT : az_Tb cX0_bestSplit tb_X0_bestSplit) (hK : az_OK K RX0 cX0_bestSplit ({ frames := 3, cells := 0, slots := 0, locals := 72 } : Room) l0) (σ : az_S) (d1 : Int32) (d2 : Int32) (d3 : Int32) :
    ∀ (n i : Nat) (w4 : Int32) (w5 : Int32) (w6 : Int32) (hi : i + n = (d3).toNatClampNeg) (kx : ∀ s' : Int32 × Int32 × Int32, az_it (fun ι s => b_X0_bestSplit_34 σ d1 d2 d3 ι s.1 s.2.1 s.2.2) n i (w4, w5, w6) = s' → AW K 0 0 92 [some (.ref 12), some (.int d1), some (.int d2), some (.int d3), some (.int s'.1), some (.int s'.2.1), some (.int s'.2.2), none, none, none] [] (wd σ)), AW K 0 0 34 [some (.ref 12), some (.int d1), some (.int d2), some (.int d3), some (.int w4), some (.int w5), some (.int w6), some (.int (nI i)), none, none] [] (wd σ) := by
  intro n
  induction n with
  | zero =>
    intro i w4 w5 w6 hi kx
    refine AW_g hT cl_X0 hK 24 2 (pc' := 37) (lo' := [some (.ref 12), some (.int d1), some (.int d2), some (.int d3), some (.int w4), some (.int w5), some (.int w6), some (.int (nI i)), none, none]) (st' := [.int d3, .int (nI i)]) (hp' := wd σ) rfl ?_
    refine AW_icmp_ge hT hK 26 (tgt := 92) rfl rfl (fun c13 => ?_) (fun c13 => absurd (az_cv0 hi) c13)
    refine AW_msk [true, true, true, true, true, true, true, false, false, false] (lo' := [some (.ref 12), some (.int d1), some (.int d2), some (.int d3), some (.int w4), some (.int w5), some (.int w6), none, none, none]) rfl ?_
    exact kx (w4, w5, w6) rfl
  | succ n ih =>
    intro i w4 w5 w6 hi kx
    refine AW_g hT cl_X0 hK 24 2 (pc' := 37) (lo' := [some (.ref 12), some (.int d1), some (.int d2), some (.int d3), some (.int w4), some (.int w5), some (.int w6), some (.int (nI i)), none, none]) (st' := [.int d3, .int (nI i)]) (hp' := wd σ) rfl ?_
    refine AW_icmp_ge hT hK 26 (tgt := 92) rfl rfl (fun c7 => absurd c7 (az_cv1 hi)) (fun c7 => ?_)
    refine AW_g hT cl_X0 hK 27 1 (pc' := 41) (lo' := [some (.ref 12), some (.int d1), some (.int d2), some (.int d3), some (.int w4), some (.int w5), some (.int w6), some (.int (nI i)), none, none]) (st' := [.int d1]) (hp' := wd σ) rfl ?_
    refine AW_callSN hT hK 28 [.int d1] [] (m_X5_setOf l0 σ d1) cw_X5_setOf lk_X0_102 sm_X5_setOf rfl rfl rfl rfl (Nat.le_of_ble_eq_true rfl) (Nat.le_of_ble_eq_true rfl) (AW_k1 (fun v9 h8 => ?_))
    refine AW_g hT cl_X0 hK 29 10 (pc' := 58) (lo' := [some (.ref 12), some (.int d1), some (.int d2), some (.int d3), some (.int w4), some (.int w5), some (.int w6), some (.int (nI i)), some (.int (v9 ||| w6)), none]) (st' := [.int (d2 &&& (w6 ^^^ (-1))), .int (v9 ||| w6), .ref 12]) (hp' := wd σ) rfl ?_
    refine AW_callV hT hK 39 [.int (v9 ||| w6), .int (d2 &&& (w6 ^^^ (-1)))] [] (m_X0_gainOfParts l0 σ (v9 ||| w6) (d2 &&& (w6 ^^^ (-1)))) cw_X0_gainOfParts lk_X0_118 vi_X0_gainOfParts rfl rfl rfl rfl rfl rfl (Nat.le_of_ble_eq_true rfl) (Nat.le_of_ble_eq_true rfl) (AW_k1 (fun v11 h10 => ?_))
    refine AW_g hT cl_X0 hK 40 3 (pc' := 67) (lo' := [some (.ref 12), some (.int d1), some (.int d2), some (.int d3), some (.int w4), some (.int w5), some (.int w6), some (.int (nI i)), some (.int (v9 ||| w6)), some (.int v11)]) (st' := [.int w5, .int v11]) (hp' := wd σ) rfl ?_
    refine AW_icmp_ge hT hK 43 (tgt := 78) rfl rfl (fun c12 => ?_) (fun c12 => ?_)
    · refine AW_g hT cl_X0 hK 48 7 (pc' := 89) (lo' := [some (.ref 12), some (.int d1), some (.int d2), some (.int d3), some (.int w4), some (.int w5), some (.int ((w6 - d2) &&& d2)), some (.int ((nI i) + 1)), some (.int (v9 ||| w6)), some (.int v11)]) (st' := []) (hp' := wd σ) rfl ?_
      refine AW_goto hT hK 55 (tgt := 34) rfl rfl ?_
      refine AW_msk [true, true, true, true, true, true, true, true, false, false] (lo' := [some (.ref 12), some (.int d1), some (.int d2), some (.int d3), some (.int w4), some (.int w5), some (.int ((w6 - d2) &&& d2)), some (.int ((nI i) + 1)), none, none]) rfl ?_
      refine AW_to (lo' := [some (.ref 12), some (.int d1), some (.int d2), some (.int d3), some (.int w4), some (.int w5), some (.int ((w6 - d2) &&& d2)), some (.int (nI (i + 1))), none, none]) (by rw [nI_1]) rfl rfl ?_
      subst h10; subst h8; skip
      exact ih (i + 1) _ _ _ (by omega) (fun s' hs' => kx s' ((congrArg (az_it _ n (i + 1)) (by simp only [b_X0_bestSplit_34, if_pos c12])).trans hs'))
    · refine AW_g hT cl_X0 hK 44 11 (pc' := 89) (lo' := [some (.ref 12), some (.int d1), some (.int d2), some (.int d3), some (.int (v9 ||| w6)), some (.int v11), some (.int ((w6 - d2) &&& d2)), some (.int ((nI i) + 1)), some (.int (v9 ||| w6)), some (.int v11)]) (st' := []) (hp' := wd σ) rfl ?_
      refine AW_goto hT hK 55 (tgt := 34) rfl rfl ?_
      refine AW_msk [true, true, true, true, true, true, true, true, false, false] (lo' := [some (.ref 12), some (.int d1), some (.int d2), some (.int d3), some (.int (v9 ||| w6)), some (.int v11), some (.int ((w6 - d2) &&& d2)), some (.int ((nI i) + 1)), none, none]) rfl ?_
      refine AW_to (lo' := [some (.ref 12), some (.int d1), some (.int d2), some (.int d3), some (.int (v9 ||| w6)), some (.int v11), some (.int ((w6 - d2) &&& d2)), some (.int (nI (i + 1))), none, none]) (by rw [nI_1]) rfl rfl ?_
      subst h10; subst h8; skip
      exact ih (i + 1) _ _ _ (by omega) (fun s' hs' => kx s' ((congrArg (az_it _ n (i + 1)) (by simp only [b_X0_bestSplit_34, if_neg c12])).trans hs'))
def x_X0_bestSplit (σ : az_S) (p0 : Int32) : Int32 :=
  let v2 := x_X0_membersOf σ p0
  let v4 := x_X5_setOf σ p0
  let v6 := x_J6_bitCount_0f7a4 σ (v2 &&& (v4 ^^^ (-1)))
  let s14 := az_it (fun ι s => b_X0_bestSplit_34 σ p0 (v2 &&& (v4 ^^^ (-1))) ((1 <<< (v6 &&& 31)) - 1) ι s.1 s.2.1 s.2.2) (((1 <<< (v6 &&& 31)) - 1).toNatClampNeg) 0 (0, 0, 0)
  s14.1
set_option maxRecDepth 100000 in
set_option maxHeartbeats 4000000 in
theorem m_X0_bestSplit (l0 : Launch) (σ : az_S) (p0 : Int32) : AMet l0 yX0_bestSplit cX0_bestSplit 10 (some .int) ({ frames := 3, cells := 0, slots := 0, locals := 72 } : Room) false [.ref 12, .int p0] (wd σ) (fun r h => r = some (.int (x_X0_bestSplit σ p0)) ∧ h = wd σ) := by
  refine AMet_of (by decide +kernel) (by simp [Value.category]) (Nat.le_of_ble_eq_true rfl) (fun K hK hct hG hE => ?_)
  have hT := tt_X0_bestSplit
  refine AW_g hT cl_X0 hK 0 2 (pc' := 2) (lo' := [some (.ref 12), some (.int p0), none, none, none, none, none, none, none, none]) (st' := [.int p0, .ref 12]) (hp' := wd σ) rfl ?_
  refine AW_callV hT hK 2 [.int p0] [] (m_X0_membersOf l0 σ p0) cw_X0_membersOf lk_X0_110 vi_X0_membersOf rfl rfl rfl rfl rfl rfl (Nat.le_of_ble_eq_true rfl) (Nat.le_of_ble_eq_true rfl) (AW_k1 (fun v2 h1 => ?_))
  refine AW_g hT cl_X0 hK 3 1 (pc' := 6) (lo' := [some (.ref 12), some (.int p0), none, none, none, none, none, none, none, none]) (st' := [.int p0, .int v2]) (hp' := wd σ) rfl ?_
  refine AW_callSN hT hK 4 [.int p0] [.int v2] (m_X5_setOf l0 σ p0) cw_X5_setOf lk_X0_102 sm_X5_setOf rfl rfl rfl rfl (Nat.le_of_ble_eq_true rfl) (Nat.le_of_ble_eq_true rfl) (AW_k1 (fun v4 h3 => ?_))
  refine AW_g hT cl_X0 hK 5 6 (pc' := 15) (lo' := [some (.ref 12), some (.int p0), some (.int (v2 &&& (v4 ^^^ (-1)))), none, none, none, none, none, none, none]) (st' := [.int (v2 &&& (v4 ^^^ (-1))), .int 1]) (hp' := wd σ) rfl ?_
  refine AW_callS hT hK 11 [.int (v2 &&& (v4 ^^^ (-1)))] [.int 1] (m_J6_bitCount_0f7a4 l0 σ (v2 &&& (v4 ^^^ (-1)))) cw_J6_bitCount_0f7a4 lk_X0_113 sm_J6_bitCount_0f7a4 rfl rfl rfl rfl (Nat.le_of_ble_eq_true rfl) (Nat.le_of_ble_eq_true rfl) (AW_k1 (fun v6 h5 => ?_))
  refine AW_g hT cl_X0 hK 12 12 (pc' := 34) (lo' := [some (.ref 12), some (.int p0), some (.int (v2 &&& (v4 ^^^ (-1)))), some (.int ((1 <<< (v6 &&& 31)) - 1)), some (.int 0), some (.int 0), some (.int 0), some (.int 0), none, none]) (st' := []) (hp' := wd σ) rfl ?_
  refine AW_to (lo' := [some (.ref 12), some (.int p0), some (.int (v2 &&& (v4 ^^^ (-1)))), some (.int ((1 <<< (v6 &&& 31)) - 1)), some (.int 0), some (.int 0), some (.int 0), some (.int (nI 0)), none, none]) (rfl) rfl rfl ?_
  refine lp_X0_bestSplit_34 hT hK σ p0 (v2 &&& (v4 ^^^ (-1))) ((1 <<< (v6 &&& 31)) - 1) (((1 <<< (v6 &&& 31)) - 1).toNatClampNeg) 0 0 0 0 (by first | rfl | omega) (fun s14 h15 => ?_)
  refine AW_g hT cl_X0 hK 56 1 (pc' := 94) (lo' := [some (.ref 12), some (.int p0), some (.int (v2 &&& (v4 ^^^ (-1)))), some (.int ((1 <<< (v6 &&& 31)) - 1)), some (.int s14.1), some (.int s14.2.1), some (.int s14.2.2), none, none, none]) (st' := [.int s14.1]) (hp' := wd σ) rfl ?_
  refine AW_iret hT hE 57 rfl rfl rfl (Nat.le_of_ble_eq_true rfl) (Nat.le_of_ble_eq_true rfl) ?_
  subst h15; subst h5; subst h3; subst h1; exact ⟨by simp only [x_X0_bestSplit], rfl⟩
def x_X2_set_19 (σ : az_S) (p0 : Int32) (p1 : Int32) : az_S :=
  if p0 < 0 then
    σ
  else
    if 12 ≤ p0 then
      σ
    else
      (sG σ 20 (va_up (σ.2.1 20) p0.toNatClampNeg p1))
set_option maxRecDepth 100000 in
set_option maxHeartbeats 4000000 in
theorem m_X2_set_19 (l0 : Launch) (σ : az_S) (p0 : Int32) (p1 : Int32) : AMet l0 yX2_set cX2_set 3 none ({ frames := 0, cells := 0, slots := 0, locals := 0 } : Room) false [.ref 19, .int p0, .int p1] (wd σ) (fun r h => r = none ∧ h = wd (x_X2_set_19 σ p0 p1)) := by
  refine AMet_of (by decide +kernel) (by simp [Value.category]) (Nat.le_of_ble_eq_true rfl) (fun K hK hct hG hE => ?_)
  have hT := tt_X2_set
  refine AW_g hT cl_X2 hK 0 1 (pc' := 1) (lo' := [some (.ref 19), some (.int p0), some (.int p1)]) (st' := [.int p0]) (hp' := wd σ) rfl ?_
  refine AW_if_lt hT hK 1 (tgt := 20) rfl rfl (fun c1 => ?_) (fun c1 => ?_)
  · refine AW_vret hT hE 12 rfl (Nat.le_of_ble_eq_true rfl) (Nat.le_of_ble_eq_true rfl) ?_
    exact ⟨rfl, congrArg wd (by simp only [x_X2_set_19, if_pos c1])⟩
  · refine AW_g hT cl_X2 hK 2 4 (pc' := 10) (lo' := [some (.ref 19), some (.int p0), some (.int p1)]) (st' := [.int 12, .int p0]) (hp' := wd σ) rfl ?_
    refine AW_icmp_ge hT hK 6 (tgt := 20) rfl rfl (fun c2 => ?_) (fun c2 => ?_)
    · refine AW_vret hT hE 12 rfl (Nat.le_of_ble_eq_true rfl) (Nat.le_of_ble_eq_true rfl) ?_
      exact ⟨rfl, congrArg wd (by simp only [x_X2_set_19, if_neg c1, if_pos c2])⟩
    · refine AW_g hT cl_X2 hK 7 4 (pc' := 19) (lo' := [some (.ref 19), some (.int p0), some (.int p1)]) (st' := [.int p1, .int p0, .ref 20]) (hp' := wd σ) rfl ?_
      refine AW_iastx hT hK 11 rfl (n := 12) (f := (σ.2.1 20)) rfl (az_in12 c1 c2) ?_
      refine AW_to (hp' := wd (sG σ 20 (va_up (σ.2.1 20) p0.toNatClampNeg p1))) rfl rfl rfl ?_
      refine AW_vret hT hE 12 rfl (Nat.le_of_ble_eq_true rfl) (Nat.le_of_ble_eq_true rfl) ?_
      exact ⟨rfl, congrArg wd (by simp only [x_X2_set_19, if_neg c1, if_neg c2])⟩
def x_X2_add_19 (σ : az_S) (p0 : Int32) (p1 : Int32) : az_S :=
  let v2 := x_X2_at_19 σ p0
  let τ4 := x_X2_set_19 σ p0 (v2 + p1)
  τ4
set_option maxRecDepth 100000 in
set_option maxHeartbeats 4000000 in
theorem m_X2_add_19 (l0 : Launch) (σ : az_S) (p0 : Int32) (p1 : Int32) : AMet l0 yX2_add cX2_add 3 none ({ frames := 1, cells := 0, slots := 0, locals := 22 } : Room) false [.ref 19, .int p0, .int p1] (wd σ) (fun r h => r = none ∧ h = wd (x_X2_add_19 σ p0 p1)) := by
  refine AMet_of (by decide +kernel) (by simp [Value.category]) (Nat.le_of_ble_eq_true rfl) (fun K hK hct hG hE => ?_)
  have hT := tt_X2_add
  refine AW_g hT cl_X2 hK 0 4 (pc' := 4) (lo' := [some (.ref 19), some (.int p0), some (.int p1)]) (st' := [.int p0, .ref 19, .int p0, .ref 19]) (hp' := wd σ) rfl ?_
  refine AW_callV hT hK 4 [.int p0] [.int p0, .ref 19] (m_X2_at_19 l0 σ p0) cw_X2_at lk_X2_15 vi_X2_at rfl rfl rfl rfl rfl rfl (Nat.le_of_ble_eq_true rfl) (Nat.le_of_ble_eq_true rfl) (AW_k1 (fun v2 h1 => ?_))
  refine AW_g hT cl_X2 hK 5 2 (pc' := 9) (lo' := [some (.ref 19), some (.int p0), some (.int p1)]) (st' := [.int (v2 + p1), .int p0, .ref 19]) (hp' := wd σ) rfl ?_
  refine AW_callV hT hK 7 [.int p0, .int (v2 + p1)] [] (m_X2_set_19 l0 σ p0 (v2 + p1)) cw_X2_set lk_X2_19 vi_X2_set rfl rfl rfl rfl rfl rfl (Nat.le_of_ble_eq_true rfl) (Nat.le_of_ble_eq_true rfl) (AW_kv (fun τ4 h3 => ?_))
  refine AW_vret hT hE 8 rfl (Nat.le_of_ble_eq_true rfl) (Nat.le_of_ble_eq_true rfl) ?_
  subst h3; subst h1; exact ⟨rfl, congrArg wd (by simp only [x_X2_add_19])⟩
def x_X4_setOneWay_23 (σ : az_S) (p0 : Int32) (p1 : Int32) (p2 : Int32) : az_S :=
  if p0 < 0 then
    σ
  else
    if 12 ≤ p0 then
      σ
    else
      if p1 < 0 then
        σ
      else
        if 12 ≤ p1 then
          σ
        else
          if ((p0 * 12) + p1) < 0 then
            σ
          else
            if 144 ≤ ((p0 * 12) + p1) then
              σ
            else
              (sG σ 24 (va_up (σ.2.1 24) ((p0 * 12) + p1).toNatClampNeg p2))
set_option maxRecDepth 100000 in
set_option maxHeartbeats 4000000 in
theorem m_X4_setOneWay_23 (l0 : Launch) (σ : az_S) (p0 : Int32) (p1 : Int32) (p2 : Int32) : AMet l0 yX4_setOneWay cX4_setOneWay 6 none ({ frames := 0, cells := 0, slots := 0, locals := 0 } : Room) false [.ref 23, .int p0, .int p1, .int p2] (wd σ) (fun r h => r = none ∧ h = wd (x_X4_setOneWay_23 σ p0 p1 p2)) := by
  refine AMet_of (by decide +kernel) (by simp [Value.category]) (Nat.le_of_ble_eq_true rfl) (fun K hK hct hG hE => ?_)
  have hT := tt_X4_setOneWay
  refine AW_g hT cl_X4 hK 0 7 (pc' := 9) (lo' := [some (.ref 23), some (.int p0), some (.int p1), some (.int p2), some (.int ((p0 * 12) + p1)), none]) (st' := [.int p0]) (hp' := wd σ) rfl ?_
  refine AW_if_lt hT hK 7 (tgt := 32) rfl rfl (fun c1 => ?_) (fun c1 => ?_)
  · refine AW_g hT cl_X4 hK 18 3 (pc' := 37) (lo' := [some (.ref 23), some (.int p0), some (.int p1), some (.int p2), some (.int ((p0 * 12) + p1)), some (.int 0)]) (st' := [.int 0]) (hp' := wd σ) rfl ?_
    refine AW_if_eq hT hK 21 (tgt := 63) rfl rfl (fun _ => ?_) (fun c2 => absurd (by decide) c2)
    refine AW_vret hT hE 34 rfl (Nat.le_of_ble_eq_true rfl) (Nat.le_of_ble_eq_true rfl) ?_
    exact ⟨rfl, congrArg wd (by simp only [x_X4_setOneWay_23, if_pos c1])⟩
  · refine AW_g hT cl_X4 hK 8 2 (pc' := 15) (lo' := [some (.ref 23), some (.int p0), some (.int p1), some (.int p2), some (.int ((p0 * 12) + p1)), none]) (st' := [.int 12, .int p0]) (hp' := wd σ) rfl ?_
    refine AW_icmp_ge hT hK 10 (tgt := 32) rfl rfl (fun c3 => ?_) (fun c3 => ?_)
    · refine AW_g hT cl_X4 hK 18 3 (pc' := 37) (lo' := [some (.ref 23), some (.int p0), some (.int p1), some (.int p2), some (.int ((p0 * 12) + p1)), some (.int 0)]) (st' := [.int 0]) (hp' := wd σ) rfl ?_
      refine AW_if_eq hT hK 21 (tgt := 63) rfl rfl (fun _ => ?_) (fun c4 => absurd (by decide) c4)
      refine AW_vret hT hE 34 rfl (Nat.le_of_ble_eq_true rfl) (Nat.le_of_ble_eq_true rfl) ?_
      exact ⟨rfl, congrArg wd (by simp only [x_X4_setOneWay_23, if_neg c1, if_pos c3])⟩
    · refine AW_g hT cl_X4 hK 11 1 (pc' := 19) (lo' := [some (.ref 23), some (.int p0), some (.int p1), some (.int p2), some (.int ((p0 * 12) + p1)), none]) (st' := [.int p1]) (hp' := wd σ) rfl ?_
      refine AW_if_lt hT hK 12 (tgt := 32) rfl rfl (fun c5 => ?_) (fun c5 => ?_)
      · refine AW_g hT cl_X4 hK 18 3 (pc' := 37) (lo' := [some (.ref 23), some (.int p0), some (.int p1), some (.int p2), some (.int ((p0 * 12) + p1)), some (.int 0)]) (st' := [.int 0]) (hp' := wd σ) rfl ?_
        refine AW_if_eq hT hK 21 (tgt := 63) rfl rfl (fun _ => ?_) (fun c6 => absurd (by decide) c6)
        refine AW_vret hT hE 34 rfl (Nat.le_of_ble_eq_true rfl) (Nat.le_of_ble_eq_true rfl) ?_
        exact ⟨rfl, congrArg wd (by simp only [x_X4_setOneWay_23, if_neg c1, if_neg c3, if_pos c5])⟩
      · refine AW_g hT cl_X4 hK 13 2 (pc' := 25) (lo' := [some (.ref 23), some (.int p0), some (.int p1), some (.int p2), some (.int ((p0 * 12) + p1)), none]) (st' := [.int 12, .int p1]) (hp' := wd σ) rfl ?_
        refine AW_icmp_ge hT hK 15 (tgt := 32) rfl rfl (fun c7 => ?_) (fun c7 => ?_)
        · refine AW_g hT cl_X4 hK 18 3 (pc' := 37) (lo' := [some (.ref 23), some (.int p0), some (.int p1), some (.int p2), some (.int ((p0 * 12) + p1)), some (.int 0)]) (st' := [.int 0]) (hp' := wd σ) rfl ?_
          refine AW_if_eq hT hK 21 (tgt := 63) rfl rfl (fun _ => ?_) (fun c8 => absurd (by decide) c8)
          refine AW_vret hT hE 34 rfl (Nat.le_of_ble_eq_true rfl) (Nat.le_of_ble_eq_true rfl) ?_
          exact ⟨rfl, congrArg wd (by simp only [x_X4_setOneWay_23, if_neg c1, if_neg c3, if_neg c5, if_pos c7])⟩
        · refine AW_g hT cl_X4 hK 16 1 (pc' := 29) (lo' := [some (.ref 23), some (.int p0), some (.int p1), some (.int p2), some (.int ((p0 * 12) + p1)), none]) (st' := [.int 1]) (hp' := wd σ) rfl ?_
          refine AW_goto hT hK 17 (tgt := 33) rfl rfl ?_
          refine AW_g hT cl_X4 hK 19 2 (pc' := 37) (lo' := [some (.ref 23), some (.int p0), some (.int p1), some (.int p2), some (.int ((p0 * 12) + p1)), some (.int 1)]) (st' := [.int 1]) (hp' := wd σ) rfl ?_
          refine AW_if_eq hT hK 21 (tgt := 63) rfl rfl (fun c9 => absurd c9 (by decide)) (fun _ => ?_)
          refine AW_g hT cl_X4 hK 22 1 (pc' := 42) (lo' := [some (.ref 23), some (.int p0), some (.int p1), some (.int p2), some (.int ((p0 * 12) + p1)), some (.int 1)]) (st' := [.int ((p0 * 12) + p1)]) (hp' := wd σ) rfl ?_
          refine AW_if_lt hT hK 23 (tgt := 63) rfl rfl (fun c10 => ?_) (fun c10 => ?_)
          · refine AW_vret hT hE 34 rfl (Nat.le_of_ble_eq_true rfl) (Nat.le_of_ble_eq_true rfl) ?_
            exact ⟨rfl, congrArg wd (by simp only [x_X4_setOneWay_23, if_neg c1, if_neg c3, if_neg c5, if_neg c7, if_pos c10])⟩
          · refine AW_g hT cl_X4 hK 24 4 (pc' := 52) (lo' := [some (.ref 23), some (.int p0), some (.int p1), some (.int p2), some (.int ((p0 * 12) + p1)), some (.int 1)]) (st' := [.int 144, .int ((p0 * 12) + p1)]) (hp' := wd σ) rfl ?_
            refine AW_icmp_ge hT hK 28 (tgt := 63) rfl rfl (fun c11 => ?_) (fun c11 => ?_)
            · refine AW_vret hT hE 34 rfl (Nat.le_of_ble_eq_true rfl) (Nat.le_of_ble_eq_true rfl) ?_
              exact ⟨rfl, congrArg wd (by simp only [x_X4_setOneWay_23, if_neg c1, if_neg c3, if_neg c5, if_neg c7, if_neg c10, if_pos c11])⟩
            · refine AW_g hT cl_X4 hK 29 4 (pc' := 62) (lo' := [some (.ref 23), some (.int p0), some (.int p1), some (.int p2), some (.int ((p0 * 12) + p1)), some (.int 1)]) (st' := [.int p2, .int ((p0 * 12) + p1), .ref 24]) (hp' := wd σ) rfl ?_
              refine AW_iastx hT hK 33 rfl (n := 144) (f := (σ.2.1 24)) rfl (az_in144 c10 c11) ?_
              refine AW_to (hp' := wd (sG σ 24 (va_up (σ.2.1 24) ((p0 * 12) + p1).toNatClampNeg p2))) rfl rfl rfl ?_
              refine AW_vret hT hE 34 rfl (Nat.le_of_ble_eq_true rfl) (Nat.le_of_ble_eq_true rfl) ?_
              exact ⟨rfl, congrArg wd (by simp only [x_X4_setOneWay_23, if_neg c1, if_neg c3, if_neg c5, if_neg c7, if_neg c10, if_neg c11])⟩
def x_X4_add_23 (σ : az_S) (p0 : Int32) (p1 : Int32) (p2 : Int32) : az_S :=
  let v2 := x_X4_at_23 σ p0 p1
  let τ4 := x_X4_setOneWay_23 σ p0 p1 (v2 + p2)
  let τ6 := x_X4_setOneWay_23 (τ4) p1 p0 (v2 + p2)
  τ6
set_option maxRecDepth 100000 in
set_option maxHeartbeats 4000000 in
theorem m_X4_add_23 (l0 : Launch) (σ : az_S) (p0 : Int32) (p1 : Int32) (p2 : Int32) : AMet l0 yX4_add cX4_add 5 none ({ frames := 1, cells := 0, slots := 0, locals := 25 } : Room) false [.ref 23, .int p0, .int p1, .int p2] (wd σ) (fun r h => r = none ∧ h = wd (x_X4_add_23 σ p0 p1 p2)) := by
  refine AMet_of (by decide +kernel) (by simp [Value.category]) (Nat.le_of_ble_eq_true rfl) (fun K hK hct hG hE => ?_)
  have hT := tt_X4_add
  refine AW_g hT cl_X4 hK 0 3 (pc' := 3) (lo' := [some (.ref 23), some (.int p0), some (.int p1), some (.int p2), none]) (st' := [.int p1, .int p0, .ref 23]) (hp' := wd σ) rfl ?_
  refine AW_callV hT hK 3 [.int p0, .int p1] [] (m_X4_at_23 l0 σ p0 p1) cw_X4_at lk_X4_19 vi_X4_at rfl rfl rfl rfl rfl rfl (Nat.le_of_ble_eq_true rfl) (Nat.le_of_ble_eq_true rfl) (AW_k1 (fun v2 h1 => ?_))
  refine AW_g hT cl_X4 hK 4 7 (pc' := 15) (lo' := [some (.ref 23), some (.int p0), some (.int p1), some (.int p2), some (.int (v2 + p2))]) (st' := [.int (v2 + p2), .int p1, .int p0, .ref 23]) (hp' := wd σ) rfl ?_
  refine AW_callV hT hK 11 [.int p0, .int p1, .int (v2 + p2)] [] (m_X4_setOneWay_23 l0 σ p0 p1 (v2 + p2)) cw_X4_setOneWay lk_X4_15 vi_X4_setOneWay rfl rfl rfl rfl rfl rfl (Nat.le_of_ble_eq_true rfl) (Nat.le_of_ble_eq_true rfl) (AW_kv (fun τ4 h3 => ?_))
  refine AW_g hT cl_X4 hK 12 4 (pc' := 23) (lo' := [some (.ref 23), some (.int p0), some (.int p1), some (.int p2), some (.int (v2 + p2))]) (st' := [.int (v2 + p2), .int p0, .int p1, .ref 23]) (hp' := wd (τ4)) rfl ?_
  refine AW_callV hT hK 16 [.int p1, .int p0, .int (v2 + p2)] [] (m_X4_setOneWay_23 l0 (τ4) p1 p0 (v2 + p2)) cw_X4_setOneWay lk_X4_15 vi_X4_setOneWay rfl rfl rfl rfl rfl rfl (Nat.le_of_ble_eq_true rfl) (Nat.le_of_ble_eq_true rfl) (AW_kv (fun τ6 h5 => ?_))
  refine AW_vret hT hE 17 rfl (Nat.le_of_ble_eq_true rfl) (Nat.le_of_ble_eq_true rfl) ?_
  subst h5; subst h3; subst h1; exact ⟨rfl, congrArg wd (by simp only [x_X4_add_23])⟩
def x_X2_set_13 (σ : az_S) (p0 : Int32) (p1 : Int32) : az_S :=
  if p0 < 0 then
    σ
  else
    if 12 ≤ p0 then
      σ
    else
      (sG σ 14 (va_up (σ.2.1 14) p0.toNatClampNeg p1))
set_option maxRecDepth 100000 in
set_option maxHeartbeats 4000000 in
theorem m_X2_set_13 (l0 : Launch) (σ : az_S) (p0 : Int32) (p1 : Int32) : AMet l0 yX2_set cX2_set 3 none ({ frames := 0, cells := 0, slots := 0, locals := 0 } : Room) false [.ref 13, .int p0, .int p1] (wd σ) (fun r h => r = none ∧ h = wd (x_X2_set_13 σ p0 p1)) := by
  refine AMet_of (by decide +kernel) (by simp [Value.category]) (Nat.le_of_ble_eq_true rfl) (fun K hK hct hG hE => ?_)
  have hT := tt_X2_set
  refine AW_g hT cl_X2 hK 0 1 (pc' := 1) (lo' := [some (.ref 13), some (.int p0), some (.int p1)]) (st' := [.int p0]) (hp' := wd σ) rfl ?_
  refine AW_if_lt hT hK 1 (tgt := 20) rfl rfl (fun c1 => ?_) (fun c1 => ?_)
  · refine AW_vret hT hE 12 rfl (Nat.le_of_ble_eq_true rfl) (Nat.le_of_ble_eq_true rfl) ?_
    exact ⟨rfl, congrArg wd (by simp only [x_X2_set_13, if_pos c1])⟩
  · refine AW_g hT cl_X2 hK 2 4 (pc' := 10) (lo' := [some (.ref 13), some (.int p0), some (.int p1)]) (st' := [.int 12, .int p0]) (hp' := wd σ) rfl ?_
    refine AW_icmp_ge hT hK 6 (tgt := 20) rfl rfl (fun c2 => ?_) (fun c2 => ?_)
    · refine AW_vret hT hE 12 rfl (Nat.le_of_ble_eq_true rfl) (Nat.le_of_ble_eq_true rfl) ?_
      exact ⟨rfl, congrArg wd (by simp only [x_X2_set_13, if_neg c1, if_pos c2])⟩
    · refine AW_g hT cl_X2 hK 7 4 (pc' := 19) (lo' := [some (.ref 13), some (.int p0), some (.int p1)]) (st' := [.int p1, .int p0, .ref 14]) (hp' := wd σ) rfl ?_
      refine AW_iastx hT hK 11 rfl (n := 12) (f := (σ.2.1 14)) rfl (az_in12 c1 c2) ?_
      refine AW_to (hp' := wd (sG σ 14 (va_up (σ.2.1 14) p0.toNatClampNeg p1))) rfl rfl rfl ?_
      refine AW_vret hT hE 12 rfl (Nat.le_of_ble_eq_true rfl) (Nat.le_of_ble_eq_true rfl) ?_
      exact ⟨rfl, congrArg wd (by simp only [x_X2_set_13, if_neg c1, if_neg c2])⟩
def b_X0_join_33 (d1 : Int32) (d2 : Int32) (i : Nat) (σ : az_S) : az_S :=
  let v11 := x_X2_at_13 σ (nI i)
  if v11 = d2 then
    let τ22 := x_X2_set_13 σ (nI i) d1
    let v24 := x_X0_isGroup (τ22) (nI i)
    if v24 = 0 then
      (τ22)
    else
      if (nI i) = d1 then
        (τ22)
      else
        let v28 := x_X4_at_23 (τ22) d2 (nI i)
        let τ30 := x_X4_add_23 (τ22) d1 (nI i) v28
        (τ30)
  else
    let v14 := x_X0_isGroup σ (nI i)
    if v14 = 0 then
      σ
    else
      if (nI i) = d1 then
        σ
      else
        let v18 := x_X4_at_23 σ d2 (nI i)
        let τ20 := x_X4_add_23 σ d1 (nI i) v18
        (τ20)
set_option maxRecDepth 100000 in
set_option maxHeartbeats 4000000 in
theorem lp_X0_join_33 {K : az_K} {l0 : Launch} (hT : az_Tb cX0_join tb_X0_join) (hK : az_OK K RX0 cX0_join ({ frames := 2, cells := 0, slots := 0, locals := 49 } : Room) l0) (d1 : Int32) (d2 : Int32) :
    ∀ (n i : Nat) (σ : az_S) (hi : i + n = 12) (kx : ∀ s' : az_S, az_it (fun ι s => b_X0_join_33 d1 d2 ι s) n i σ = s' → AW K 0 0 97 [some (.ref 12), some (.int d1), some (.int d2), none] [] (wd s')), AW K 0 0 33 [some (.ref 12), some (.int d1), some (.int d2), some (.int (nI i))] [] (wd σ) := by
  intro n
  induction n with
  | zero =>
    intro i σ hi kx
    refine AW_g hT cl_X0 hK 19 2 (pc' := 36) (lo' := [some (.ref 12), some (.int d1), some (.int d2), some (.int (nI i))]) (st' := [.int 12, .int (nI i)]) (hp' := wd σ) rfl ?_
    refine AW_icmp_ge hT hK 21 (tgt := 97) rfl rfl (fun c31 => ?_) (fun c31 => absurd (az_c0 hi) c31)
    refine AW_msk [true, true, true, false] (lo' := [some (.ref 12), some (.int d1), some (.int d2), none]) rfl ?_
    exact kx σ rfl
  | succ n ih =>
    intro i σ hi kx
    refine AW_g hT cl_X0 hK 19 2 (pc' := 36) (lo' := [some (.ref 12), some (.int d1), some (.int d2), some (.int (nI i))]) (st' := [.int 12, .int (nI i)]) (hp' := wd σ) rfl ?_
    refine AW_icmp_ge hT hK 21 (tgt := 97) rfl rfl (fun c9 => absurd c9 (az_c1 hi)) (fun c9 => ?_)
    refine AW_g hT cl_X0 hK 22 3 (pc' := 44) (lo' := [some (.ref 12), some (.int d1), some (.int d2), some (.int (nI i))]) (st' := [.int (nI i), .ref 13]) (hp' := wd σ) rfl ?_
    refine AW_callV hT hK 25 [.int (nI i)] [] (m_X2_at_13 l0 σ (nI i)) cw_X2_at lk_X0_44 vi_X2_at rfl rfl rfl rfl rfl rfl (Nat.le_of_ble_eq_true rfl) (Nat.le_of_ble_eq_true rfl) (AW_k1 (fun v11 h10 => ?_))
    refine AW_g hT cl_X0 hK 26 1 (pc' := 48) (lo' := [some (.ref 12), some (.int d1), some (.int d2), some (.int (nI i))]) (st' := [.int d2, .int v11]) (hp' := wd σ) rfl ?_
    refine AW_icmp_ne hT hK 27 (tgt := 60) rfl rfl (fun c12 => ?_) (fun c12 => ?_)
    · refine AW_g hT cl_X0 hK 33 2 (pc' := 62) (lo' := [some (.ref 12), some (.int d1), some (.int d2), some (.int (nI i))]) (st' := [.int (nI i), .ref 12]) (hp' := wd σ) rfl ?_
      refine AW_callV hT hK 35 [.int (nI i)] [] (m_X0_isGroup l0 σ (nI i)) cw_X0_isGroup lk_X0_67 vi_X0_isGroup rfl rfl rfl rfl rfl rfl (Nat.le_of_ble_eq_true rfl) (Nat.le_of_ble_eq_true rfl) (AW_k1 (fun v14 h13 => ?_))
      refine AW_if_eq hT hK 36 (tgt := 91) rfl rfl (fun c15 => ?_) (fun c15 => ?_)
      · refine AW_g hT cl_X0 hK 50 1 (pc' := 94) (lo' := [some (.ref 12), some (.int d1), some (.int d2), some (.int ((nI i) + 1))]) (st' := []) (hp' := wd σ) rfl ?_
        refine AW_goto hT hK 51 (tgt := 33) rfl rfl ?_
        refine AW_to (lo' := [some (.ref 12), some (.int d1), some (.int d2), some (.int (nI (i + 1)))]) (by rw [nI_1]) rfl rfl ?_
        subst h13; subst h10; skip
        exact ih (i + 1) _ (by omega) (fun s' hs' => kx s' ((congrArg (az_it _ n (i + 1)) (by simp only [b_X0_join_33, if_neg c12, if_pos c15])).trans hs'))
      · refine AW_g hT cl_X0 hK 37 2 (pc' := 70) (lo' := [some (.ref 12), some (.int d1), some (.int d2), some (.int (nI i))]) (st' := [.int d1, .int (nI i)]) (hp' := wd σ) rfl ?_
        refine AW_icmp_eq hT hK 39 (tgt := 91) rfl rfl (fun c16 => ?_) (fun c16 => ?_)
        · refine AW_g hT cl_X0 hK 50 1 (pc' := 94) (lo' := [some (.ref 12), some (.int d1), some (.int d2), some (.int ((nI i) + 1))]) (st' := []) (hp' := wd σ) rfl ?_
          refine AW_goto hT hK 51 (tgt := 33) rfl rfl ?_
          refine AW_to (lo' := [some (.ref 12), some (.int d1), some (.int d2), some (.int (nI (i + 1)))]) (by rw [nI_1]) rfl rfl ?_
          subst h13; subst h10; skip
          exact ih (i + 1) _ (by omega) (fun s' hs' => kx s' ((congrArg (az_it _ n (i + 1)) (by simp only [b_X0_join_33, if_neg c12, if_neg c15, if_pos c16])).trans hs'))
        · refine AW_g hT cl_X0 hK 40 8 (pc' := 85) (lo' := [some (.ref 12), some (.int d1), some (.int d2), some (.int (nI i))]) (st' := [.int (nI i), .int d2, .ref 23, .int (nI i), .int d1, .ref 23]) (hp' := wd σ) rfl ?_
          refine AW_callV hT hK 48 [.int d2, .int (nI i)] [.int (nI i), .int d1, .ref 23] (m_X4_at_23 l0 σ d2 (nI i)) cw_X4_at lk_X0_52 vi_X4_at rfl rfl rfl rfl rfl rfl (Nat.le_of_ble_eq_true rfl) (Nat.le_of_ble_eq_true rfl) (AW_k1 (fun v18 h17 => ?_))
          refine AW_callV hT hK 49 [.int d1, .int (nI i), .int v18] [] (m_X4_add_23 l0 σ d1 (nI i) v18) cw_X4_add lk_X0_108 vi_X4_add rfl rfl rfl rfl rfl rfl (Nat.le_of_ble_eq_true rfl) (Nat.le_of_ble_eq_true rfl) (AW_kv (fun τ20 h19 => ?_))
          refine AW_g hT cl_X0 hK 50 1 (pc' := 94) (lo' := [some (.ref 12), some (.int d1), some (.int d2), some (.int ((nI i) + 1))]) (st' := []) (hp' := wd (τ20)) rfl ?_
          refine AW_goto hT hK 51 (tgt := 33) rfl rfl ?_
          refine AW_to (lo' := [some (.ref 12), some (.int d1), some (.int d2), some (.int (nI (i + 1)))]) (by rw [nI_1]) rfl rfl ?_
          subst h19; subst h17; subst h13; subst h10; skip
          exact ih (i + 1) _ (by omega) (fun s' hs' => kx s' ((congrArg (az_it _ n (i + 1)) (by simp only [b_X0_join_33, if_neg c12, if_neg c15, if_neg c16])).trans hs'))
    · refine AW_g hT cl_X0 hK 28 4 (pc' := 57) (lo' := [some (.ref 12), some (.int d1), some (.int d2), some (.int (nI i))]) (st' := [.int d1, .int (nI i), .ref 13]) (hp' := wd σ) rfl ?_
      refine AW_callV hT hK 32 [.int (nI i), .int d1] [] (m_X2_set_13 l0 σ (nI i) d1) cw_X2_set lk_X0_74 vi_X2_set rfl rfl rfl rfl rfl rfl (Nat.le_of_ble_eq_true rfl) (Nat.le_of_ble_eq_true rfl) (AW_kv (fun τ22 h21 => ?_))
      refine AW_g hT cl_X0 hK 33 2 (pc' := 62) (lo' := [some (.ref 12), some (.int d1), some (.int d2), some (.int (nI i))]) (st' := [.int (nI i), .ref 12]) (hp' := wd (τ22)) rfl ?_
      refine AW_callV hT hK 35 [.int (nI i)] [] (m_X0_isGroup l0 (τ22) (nI i)) cw_X0_isGroup lk_X0_67 vi_X0_isGroup rfl rfl rfl rfl rfl rfl (Nat.le_of_ble_eq_true rfl) (Nat.le_of_ble_eq_true rfl) (AW_k1 (fun v24 h23 => ?_))
      refine AW_if_eq hT hK 36 (tgt := 91) rfl rfl (fun c25 => ?_) (fun c25 => ?_)
      · refine AW_g hT cl_X0 hK 50 1 (pc' := 94) (lo' := [some (.ref 12), some (.int d1), some (.int d2), some (.int ((nI i) + 1))]) (st' := []) (hp' := wd (τ22)) rfl ?_
        refine AW_goto hT hK 51 (tgt := 33) rfl rfl ?_
        refine AW_to (lo' := [some (.ref 12), some (.int d1), some (.int d2), some (.int (nI (i + 1)))]) (by rw [nI_1]) rfl rfl ?_
        subst h23; subst h21; subst h10; skip
        exact ih (i + 1) _ (by omega) (fun s' hs' => kx s' ((congrArg (az_it _ n (i + 1)) (by simp only [b_X0_join_33, if_pos c12, if_pos c25])).trans hs'))
      · refine AW_g hT cl_X0 hK 37 2 (pc' := 70) (lo' := [some (.ref 12), some (.int d1), some (.int d2), some (.int (nI i))]) (st' := [.int d1, .int (nI i)]) (hp' := wd (τ22)) rfl ?_
        refine AW_icmp_eq hT hK 39 (tgt := 91) rfl rfl (fun c26 => ?_) (fun c26 => ?_)
        · refine AW_g hT cl_X0 hK 50 1 (pc' := 94) (lo' := [some (.ref 12), some (.int d1), some (.int d2), some (.int ((nI i) + 1))]) (st' := []) (hp' := wd (τ22)) rfl ?_
          refine AW_goto hT hK 51 (tgt := 33) rfl rfl ?_
          refine AW_to (lo' := [some (.ref 12), some (.int d1), some (.int d2), some (.int (nI (i + 1)))]) (by rw [nI_1]) rfl rfl ?_
          subst h23; subst h21; subst h10; skip
          exact ih (i + 1) _ (by omega) (fun s' hs' => kx s' ((congrArg (az_it _ n (i + 1)) (by simp only [b_X0_join_33, if_pos c12, if_neg c25, if_pos c26])).trans hs'))
        · refine AW_g hT cl_X0 hK 40 8 (pc' := 85) (lo' := [some (.ref 12), some (.int d1), some (.int d2), some (.int (nI i))]) (st' := [.int (nI i), .int d2, .ref 23, .int (nI i), .int d1, .ref 23]) (hp' := wd (τ22)) rfl ?_
          refine AW_callV hT hK 48 [.int d2, .int (nI i)] [.int (nI i), .int d1, .ref 23] (m_X4_at_23 l0 (τ22) d2 (nI i)) cw_X4_at lk_X0_52 vi_X4_at rfl rfl rfl rfl rfl rfl (Nat.le_of_ble_eq_true rfl) (Nat.le_of_ble_eq_true rfl) (AW_k1 (fun v28 h27 => ?_))
          refine AW_callV hT hK 49 [.int d1, .int (nI i), .int v28] [] (m_X4_add_23 l0 (τ22) d1 (nI i) v28) cw_X4_add lk_X0_108 vi_X4_add rfl rfl rfl rfl rfl rfl (Nat.le_of_ble_eq_true rfl) (Nat.le_of_ble_eq_true rfl) (AW_kv (fun τ30 h29 => ?_))
          refine AW_g hT cl_X0 hK 50 1 (pc' := 94) (lo' := [some (.ref 12), some (.int d1), some (.int d2), some (.int ((nI i) + 1))]) (st' := []) (hp' := wd (τ30)) rfl ?_
          refine AW_goto hT hK 51 (tgt := 33) rfl rfl ?_
          refine AW_to (lo' := [some (.ref 12), some (.int d1), some (.int d2), some (.int (nI (i + 1)))]) (by rw [nI_1]) rfl rfl ?_
          subst h29; subst h27; subst h23; subst h21; subst h10; skip
          exact ih (i + 1) _ (by omega) (fun s' hs' => kx s' ((congrArg (az_it _ n (i + 1)) (by simp only [b_X0_join_33, if_pos c12, if_neg c25, if_neg c26])).trans hs'))
def x_X0_join (σ : az_S) (p0 : Int32) (p1 : Int32) : az_S :=
  let v2 := x_X5_setOf σ p1
  let u3 := ((σ.1 3) &&& (v2 ^^^ (-1)))
  let v6 := x_X2_at_19 (sF σ 3 u3) p1
  let τ8 := x_X2_add_19 (sF σ 3 u3) p0 v6
  let s32 := az_it (fun ι s => b_X0_join_33 p0 p1 ι s) 12 0 (τ8)
  s32
set_option maxRecDepth 100000 in
set_option maxHeartbeats 4000000 in
theorem m_X0_join (l0 : Launch) (σ : az_S) (p0 : Int32) (p1 : Int32) : AMet l0 yX0_join cX0_join 4 none ({ frames := 2, cells := 0, slots := 0, locals := 49 } : Room) false [.ref 12, .int p0, .int p1] (wd σ) (fun r h => r = none ∧ h = wd (x_X0_join σ p0 p1)) := by
  refine AMet_of (by decide +kernel) (by simp [Value.category]) (Nat.le_of_ble_eq_true rfl) (fun K hK hct hG hE => ?_)
  have hT := tt_X0_join
  refine AW_g hT cl_X0 hK 0 4 (pc' := 6) (lo' := [some (.ref 12), some (.int p0), some (.int p1), none]) (st' := [.int p1, .int (σ.1 3), .ref 12]) (hp' := wd σ) rfl ?_
  refine AW_callSN hT hK 4 [.int p1] [.int (σ.1 3), .ref 12] (m_X5_setOf l0 σ p1) cw_X5_setOf lk_X0_102 sm_X5_setOf rfl rfl rfl rfl (Nat.le_of_ble_eq_true rfl) (Nat.le_of_ble_eq_true rfl) (AW_k1 (fun v2 h1 => ?_))
  refine AW_g hT cl_X0 hK 5 3 (pc' := 12) (lo' := [some (.ref 12), some (.int p0), some (.int p1), none]) (st' := [.int ((σ.1 3) &&& (v2 ^^^ (-1))), .ref 12]) (hp' := wd σ) rfl ?_
  refine AW_topi (fun u3 h4 => ?_)
  refine AW_g hT cl_X0 hK 8 7 (pc' := 25) (lo' := [some (.ref 12), some (.int p0), some (.int p1), none]) (st' := [.int p1, .ref 19, .int p0, .ref 19]) (hp' := wd (sF σ 3 u3)) rfl ?_
  refine AW_callV hT hK 15 [.int p1] [.int p0, .ref 19] (m_X2_at_19 l0 (sF σ 3 u3) p1) cw_X2_at lk_X0_44 vi_X2_at rfl rfl rfl rfl rfl rfl (Nat.le_of_ble_eq_true rfl) (Nat.le_of_ble_eq_true rfl) (AW_k1 (fun v6 h5 => ?_))
  refine AW_callV hT hK 16 [.int p0, .int v6] [] (m_X2_add_19 l0 (sF σ 3 u3) p0 v6) cw_X2_add lk_X0_105 vi_X2_add rfl rfl rfl rfl rfl rfl (Nat.le_of_ble_eq_true rfl) (Nat.le_of_ble_eq_true rfl) (AW_kv (fun τ8 h7 => ?_))
  refine AW_g hT cl_X0 hK 17 2 (pc' := 33) (lo' := [some (.ref 12), some (.int p0), some (.int p1), some (.int 0)]) (st' := []) (hp' := wd (τ8)) rfl ?_
  refine AW_to (lo' := [some (.ref 12), some (.int p0), some (.int p1), some (.int (nI 0))]) (rfl) rfl rfl ?_
  refine lp_X0_join_33 hT hK p0 p1 12 0 (τ8) (by first | rfl | omega) (fun s32 h33 => ?_)
  refine AW_vret hT hE 52 rfl (Nat.le_of_ble_eq_true rfl) (Nat.le_of_ble_eq_true rfl) ?_
  subst h33; subst h7; subst h5; subst h4; subst h1; exact ⟨rfl, congrArg wd (by simp only [x_X0_join])⟩
def b_X0_joinGreatest_22 (σ : az_S) (d4 : Nat) (i : Nat) (w1 : Int32) (w2 : Int32) (w3 : Int32) : Int32 × Int32 × Int32 :=
  let v4 := x_X0_isGroup σ (nI d4)
  if v4 = 0 then
    (w1, w2, w3)
  else
    let v7 := x_X0_isGroup σ (nI i)
    if v7 = 0 then
      (w1, w2, w3)
    else
      let v10 := x_X0_gainOfJoining σ (nI d4) (nI i)
      if v10 ≤ w1 then
        (w1, w2, w3)
      else
        let v13 := x_X0_gainOfJoining σ (nI d4) (nI i)
        (v13, (nI d4), (nI i))
set_option maxRecDepth 100000 in
set_option maxHeartbeats 4000000 in
theorem lp_X0_joinGreatest_22 {K : az_K} {l0 : Launch} (hT : az_Tb cX0_joinGreatest tb_X0_joinGreatest) (hK : az_OK K RX0 cX0_joinGreatest ({ frames := 3, cells := 0, slots := 0, locals := 72 } : Room) l0) (σ : az_S) (d4 : Nat) (hd4 : d4 < 12) :
    ∀ (n i : Nat) (w1 : Int32) (w2 : Int32) (w3 : Int32) (hi : i + n = 12) (kx : ∀ s' : Int32 × Int32 × Int32, az_it (fun ι s => b_X0_joinGreatest_22 σ d4 ι s.1 s.2.1 s.2.2) n i (w1, w2, w3) = s' → AW K 0 0 80 [some (.ref 12), some (.int s'.1), some (.int s'.2.1), some (.int s'.2.2), some (.int (nI d4)), none] [] (wd σ)), AW K 0 0 22 [some (.ref 12), some (.int w1), some (.int w2), some (.int w3), some (.int (nI d4)), some (.int (nI i))] [] (wd σ) := by
  intro n
  induction n with
  | zero =>
    intro i w1 w2 w3 hi kx
    refine AW_g hT cl_X0 hK 15 2 (pc' := 26) (lo' := [some (.ref 12), some (.int w1), some (.int w2), some (.int w3), some (.int (nI d4)), some (.int (nI i))]) (st' := [.int 12, .int (nI i)]) (hp' := wd σ) rfl ?_
    refine AW_icmp_ge hT hK 17 (tgt := 80) rfl rfl (fun c14 => ?_) (fun c14 => absurd (az_c0 hi) c14)
    refine AW_msk [true, true, true, true, true, false] (lo' := [some (.ref 12), some (.int w1), some (.int w2), some (.int w3), some (.int (nI d4)), none]) rfl ?_
    exact kx (w1, w2, w3) rfl
  | succ n ih =>
    intro i w1 w2 w3 hi kx
    refine AW_g hT cl_X0 hK 15 2 (pc' := 26) (lo' := [some (.ref 12), some (.int w1), some (.int w2), some (.int w3), some (.int (nI d4)), some (.int (nI i))]) (st' := [.int 12, .int (nI i)]) (hp' := wd σ) rfl ?_
    refine AW_icmp_ge hT hK 17 (tgt := 80) rfl rfl (fun c2 => absurd c2 (az_c1 hi)) (fun c2 => ?_)
    refine AW_g hT cl_X0 hK 18 2 (pc' := 32) (lo' := [some (.ref 12), some (.int w1), some (.int w2), some (.int w3), some (.int (nI d4)), some (.int (nI i))]) (st' := [.int (nI d4), .ref 12]) (hp' := wd σ) rfl ?_
    refine AW_callV hT hK 20 [.int (nI d4)] [] (m_X0_isGroup l0 σ (nI d4)) cw_X0_isGroup lk_X0_67 vi_X0_isGroup rfl rfl rfl rfl rfl rfl (Nat.le_of_ble_eq_true rfl) (Nat.le_of_ble_eq_true rfl) (AW_k1 (fun v4 h3 => ?_))
    refine AW_if_eq hT hK 21 (tgt := 74) rfl rfl (fun c5 => ?_) (fun c5 => ?_)
    · refine AW_g hT cl_X0 hK 41 1 (pc' := 77) (lo' := [some (.ref 12), some (.int w1), some (.int w2), some (.int w3), some (.int (nI d4)), some (.int ((nI i) + 1))]) (st' := []) (hp' := wd σ) rfl ?_
      refine AW_goto hT hK 42 (tgt := 22) rfl rfl ?_
      refine AW_to (lo' := [some (.ref 12), some (.int w1), some (.int w2), some (.int w3), some (.int (nI d4)), some (.int (nI (i + 1)))]) (by rw [nI_1]) rfl rfl ?_
      subst h3; skip
      exact ih (i + 1) _ _ _ (by omega) (fun s' hs' => kx s' ((congrArg (az_it _ n (i + 1)) (by simp only [b_X0_joinGreatest_22, if_pos c5])).trans hs'))
    · refine AW_g hT cl_X0 hK 22 2 (pc' := 41) (lo' := [some (.ref 12), some (.int w1), some (.int w2), some (.int w3), some (.int (nI d4)), some (.int (nI i))]) (st' := [.int (nI i), .ref 12]) (hp' := wd σ) rfl ?_
      refine AW_callV hT hK 24 [.int (nI i)] [] (m_X0_isGroup l0 σ (nI i)) cw_X0_isGroup lk_X0_67 vi_X0_isGroup rfl rfl rfl rfl rfl rfl (Nat.le_of_ble_eq_true rfl) (Nat.le_of_ble_eq_true rfl) (AW_k1 (fun v7 h6 => ?_))
      refine AW_if_eq hT hK 25 (tgt := 74) rfl rfl (fun c8 => ?_) (fun c8 => ?_)
      · refine AW_g hT cl_X0 hK 41 1 (pc' := 77) (lo' := [some (.ref 12), some (.int w1), some (.int w2), some (.int w3), some (.int (nI d4)), some (.int ((nI i) + 1))]) (st' := []) (hp' := wd σ) rfl ?_
        refine AW_goto hT hK 42 (tgt := 22) rfl rfl ?_
        refine AW_to (lo' := [some (.ref 12), some (.int w1), some (.int w2), some (.int w3), some (.int (nI d4)), some (.int (nI (i + 1)))]) (by rw [nI_1]) rfl rfl ?_
        subst h6; subst h3; skip
        exact ih (i + 1) _ _ _ (by omega) (fun s' hs' => kx s' ((congrArg (az_it _ n (i + 1)) (by simp only [b_X0_joinGreatest_22, if_neg c5, if_pos c8])).trans hs'))
      · refine AW_g hT cl_X0 hK 26 3 (pc' := 52) (lo' := [some (.ref 12), some (.int w1), some (.int w2), some (.int w3), some (.int (nI d4)), some (.int (nI i))]) (st' := [.int (nI i), .int (nI d4), .ref 12]) (hp' := wd σ) rfl ?_
        refine AW_callV hT hK 29 [.int (nI d4), .int (nI i)] [] (m_X0_gainOfJoining l0 σ (nI d4) (nI i)) cw_X0_gainOfJoining lk_X0_96 vi_X0_gainOfJoining rfl rfl rfl rfl rfl rfl (Nat.le_of_ble_eq_true rfl) (Nat.le_of_ble_eq_true rfl) (AW_k1 (fun v10 h9 => ?_))
        refine AW_g hT cl_X0 hK 30 1 (pc' := 56) (lo' := [some (.ref 12), some (.int w1), some (.int w2), some (.int w3), some (.int (nI d4)), some (.int (nI i))]) (st' := [.int w1, .int v10]) (hp' := wd σ) rfl ?_
        refine AW_icmp_le hT hK 31 (tgt := 74) rfl rfl (fun c11 => ?_) (fun c11 => ?_)
        · refine AW_g hT cl_X0 hK 41 1 (pc' := 77) (lo' := [some (.ref 12), some (.int w1), some (.int w2), some (.int w3), some (.int (nI d4)), some (.int ((nI i) + 1))]) (st' := []) (hp' := wd σ) rfl ?_
          refine AW_goto hT hK 42 (tgt := 22) rfl rfl ?_
          refine AW_to (lo' := [some (.ref 12), some (.int w1), some (.int w2), some (.int w3), some (.int (nI d4)), some (.int (nI (i + 1)))]) (by rw [nI_1]) rfl rfl ?_
          subst h9; subst h6; subst h3; skip
          exact ih (i + 1) _ _ _ (by omega) (fun s' hs' => kx s' ((congrArg (az_it _ n (i + 1)) (by simp only [b_X0_joinGreatest_22, if_neg c5, if_neg c8, if_pos c11])).trans hs'))
        · refine AW_g hT cl_X0 hK 32 3 (pc' := 64) (lo' := [some (.ref 12), some (.int w1), some (.int w2), some (.int w3), some (.int (nI d4)), some (.int (nI i))]) (st' := [.int (nI i), .int (nI d4), .ref 12]) (hp' := wd σ) rfl ?_
          refine AW_callV hT hK 35 [.int (nI d4), .int (nI i)] [] (m_X0_gainOfJoining l0 σ (nI d4) (nI i)) cw_X0_gainOfJoining lk_X0_96 vi_X0_gainOfJoining rfl rfl rfl rfl rfl rfl (Nat.le_of_ble_eq_true rfl) (Nat.le_of_ble_eq_true rfl) (AW_k1 (fun v13 h12 => ?_))
          refine AW_g hT cl_X0 hK 36 6 (pc' := 77) (lo' := [some (.ref 12), some (.int v13), some (.int (nI d4)), some (.int (nI i)), some (.int (nI d4)), some (.int ((nI i) + 1))]) (st' := []) (hp' := wd σ) rfl ?_
          refine AW_goto hT hK 42 (tgt := 22) rfl rfl ?_
          refine AW_to (lo' := [some (.ref 12), some (.int v13), some (.int (nI d4)), some (.int (nI i)), some (.int (nI d4)), some (.int (nI (i + 1)))]) (by rw [nI_1]) rfl rfl ?_
          subst h12; subst h9; subst h6; subst h3; skip
          exact ih (i + 1) _ _ _ (by omega) (fun s' hs' => kx s' ((congrArg (az_it _ n (i + 1)) (by simp only [b_X0_joinGreatest_22, if_neg c5, if_neg c8, if_neg c11])).trans hs'))
def b_X0_joinGreatest_9 (σ : az_S) (i : Nat) (w1 : Int32) (w2 : Int32) (w3 : Int32) : Int32 × Int32 × Int32 :=
  let s15 := az_it (fun ι s => b_X0_joinGreatest_22 σ i ι s.1 s.2.1 s.2.2) (12 - (i + 1)) (i + 1) (w1, w2, w3)
  (s15.1, s15.2.1, s15.2.2)
set_option maxRecDepth 100000 in
set_option maxHeartbeats 4000000 in
theorem lp_X0_joinGreatest_9 {K : az_K} {l0 : Launch} (hT : az_Tb cX0_joinGreatest tb_X0_joinGreatest) (hK : az_OK K RX0 cX0_joinGreatest ({ frames := 3, cells := 0, slots := 0, locals := 72 } : Room) l0) (σ : az_S) :
    ∀ (n i : Nat) (w1 : Int32) (w2 : Int32) (w3 : Int32) (hi : i + n = 12) (kx : ∀ s' : Int32 × Int32 × Int32, az_it (fun ι s => b_X0_joinGreatest_9 σ ι s.1 s.2.1 s.2.2) n i (w1, w2, w3) = s' → AW K 0 0 86 [some (.ref 12), some (.int s'.1), some (.int s'.2.1), some (.int s'.2.2), none, none] [] (wd σ)), AW K 0 0 9 [some (.ref 12), some (.int w1), some (.int w2), some (.int w3), some (.int (nI i)), none] [] (wd σ) := by
  intro n
  induction n with
  | zero =>
    intro i w1 w2 w3 hi kx
    refine AW_g hT cl_X0 hK 8 2 (pc' := 13) (lo' := [some (.ref 12), some (.int w1), some (.int w2), some (.int w3), some (.int (nI i)), none]) (st' := [.int 12, .int (nI i)]) (hp' := wd σ) rfl ?_
    refine AW_icmp_ge hT hK 10 (tgt := 86) rfl rfl (fun c17 => ?_) (fun c17 => absurd (az_c0 hi) c17)
    refine AW_msk [true, true, true, true, false, false] (lo' := [some (.ref 12), some (.int w1), some (.int w2), some (.int w3), none, none]) rfl ?_
    exact kx (w1, w2, w3) rfl
  | succ n ih =>
    intro i w1 w2 w3 hi kx
    refine AW_g hT cl_X0 hK 8 2 (pc' := 13) (lo' := [some (.ref 12), some (.int w1), some (.int w2), some (.int w3), some (.int (nI i)), none]) (st' := [.int 12, .int (nI i)]) (hp' := wd σ) rfl ?_
    refine AW_icmp_ge hT hK 10 (tgt := 86) rfl rfl (fun c1 => absurd c1 (az_c1 hi)) (fun c1 => ?_)
    refine AW_g hT cl_X0 hK 11 4 (pc' := 22) (lo' := [some (.ref 12), some (.int w1), some (.int w2), some (.int w3), some (.int (nI i)), some (.int ((nI i) + 1))]) (st' := []) (hp' := wd σ) rfl ?_
    refine AW_to (lo' := [some (.ref 12), some (.int w1), some (.int w2), some (.int w3), some (.int (nI i)), some (.int (nI (i + 1)))]) (by rw [nI_1]) rfl rfl ?_
    refine lp_X0_joinGreatest_22 hT hK σ i (by omega) (12 - (i + 1)) (i + 1) w1 w2 w3 (by first | rfl | omega) (fun s15 h16 => ?_)
    refine AW_g hT cl_X0 hK 43 1 (pc' := 83) (lo' := [some (.ref 12), some (.int s15.1), some (.int s15.2.1), some (.int s15.2.2), some (.int ((nI i) + 1)), none]) (st' := []) (hp' := wd σ) rfl ?_
    refine AW_goto hT hK 44 (tgt := 9) rfl rfl ?_
    refine AW_to (lo' := [some (.ref 12), some (.int s15.1), some (.int s15.2.1), some (.int s15.2.2), some (.int (nI (i + 1))), none]) (by rw [nI_1]) rfl rfl ?_
    subst h16; skip
    exact ih (i + 1) _ _ _ (by omega) (fun s' hs' => kx s' ((congrArg (az_it _ n (i + 1)) (by simp only [b_X0_joinGreatest_9])).trans hs'))
def x_X0_joinGreatest (σ : az_S) : Int32 × az_S :=
  let s18 := az_it (fun ι s => b_X0_joinGreatest_9 σ ι s.1 s.2.1 s.2.2) 12 0 (0, (-1), (-1))
  if s18.1 ≤ 0 then
    (0, σ)
  else
    let τ23 := x_X0_join σ s18.2.1 s18.2.2
    (1, τ23)
set_option maxRecDepth 100000 in
set_option maxHeartbeats 4000000 in
theorem m_X0_joinGreatest (l0 : Launch) (σ : az_S) : AMet l0 yX0_joinGreatest cX0_joinGreatest 6 (some .boolean) ({ frames := 3, cells := 0, slots := 0, locals := 72 } : Room) false [.ref 12] (wd σ) (fun r h => r = some (.int (x_X0_joinGreatest σ).1) ∧ h = wd (x_X0_joinGreatest σ).2) := by
  refine AMet_of (by decide +kernel) (by simp [Value.category]) (Nat.le_of_ble_eq_true rfl) (fun K hK hct hG hE => ?_)
  have hT := tt_X0_joinGreatest
  refine AW_g hT cl_X0 hK 0 8 (pc' := 9) (lo' := [some (.ref 12), some (.int 0), some (.int (-1)), some (.int (-1)), some (.int 0), none]) (st' := []) (hp' := wd σ) rfl ?_
  refine AW_to (lo' := [some (.ref 12), some (.int 0), some (.int (-1)), some (.int (-1)), some (.int (nI 0)), none]) (rfl) rfl rfl ?_
  refine lp_X0_joinGreatest_9 hT hK σ 12 0 0 (-1) (-1) (by first | rfl | omega) (fun s18 h19 => ?_)
  refine AW_g hT cl_X0 hK 45 1 (pc' := 87) (lo' := [some (.ref 12), some (.int s18.1), some (.int s18.2.1), some (.int s18.2.2), none, none]) (st' := [.int s18.1]) (hp' := wd σ) rfl ?_
  refine AW_if_le hT hK 46 (tgt := 96) rfl rfl (fun c20 => ?_) (fun c20 => ?_)
  · refine AW_g hT cl_X0 hK 51 1 (pc' := 97) (lo' := [some (.ref 12), some (.int s18.1), some (.int s18.2.1), some (.int s18.2.2), none, none]) (st' := [.int s18.1]) (hp' := wd σ) rfl ?_
    refine AW_if_le hT hK 52 (tgt := 104) rfl rfl (fun _ => ?_) (fun c21 => absurd c20 c21)
    refine AW_g hT cl_X0 hK 55 1 (pc' := 105) (lo' := [some (.ref 12), some (.int s18.1), some (.int s18.2.1), some (.int s18.2.2), none, none]) (st' := [.int 0]) (hp' := wd σ) rfl ?_
    refine AW_iret hT hE 56 rfl rfl rfl (Nat.le_of_ble_eq_true rfl) (Nat.le_of_ble_eq_true rfl) ?_
    subst h19; exact ⟨by simp only [x_X0_joinGreatest, if_pos c20], by simp only [x_X0_joinGreatest, if_pos c20]⟩
  · refine AW_g hT cl_X0 hK 47 3 (pc' := 93) (lo' := [some (.ref 12), some (.int s18.1), some (.int s18.2.1), some (.int s18.2.2), none, none]) (st' := [.int s18.2.2, .int s18.2.1, .ref 12]) (hp' := wd σ) rfl ?_
    refine AW_callV hT hK 50 [.int s18.2.1, .int s18.2.2] [] (m_X0_join l0 σ s18.2.1 s18.2.2) cw_X0_join lk_X0_99 vi_X0_join rfl rfl rfl rfl rfl rfl (Nat.le_of_ble_eq_true rfl) (Nat.le_of_ble_eq_true rfl) (AW_kv (fun τ23 h22 => ?_))
    refine AW_g hT cl_X0 hK 51 1 (pc' := 97) (lo' := [some (.ref 12), some (.int s18.1), some (.int s18.2.1), some (.int s18.2.2), none, none]) (st' := [.int s18.1]) (hp' := wd (τ23)) rfl ?_
    refine AW_if_le hT hK 52 (tgt := 104) rfl rfl (fun c24 => absurd c24 c20) (fun _ => ?_)
    refine AW_g hT cl_X0 hK 53 1 (pc' := 101) (lo' := [some (.ref 12), some (.int s18.1), some (.int s18.2.1), some (.int s18.2.2), none, none]) (st' := [.int 1]) (hp' := wd (τ23)) rfl ?_
    refine AW_goto hT hK 54 (tgt := 105) rfl rfl ?_
    refine AW_iret hT hE 56 rfl rfl rfl (Nat.le_of_ble_eq_true rfl) (Nat.le_of_ble_eq_true rfl) ?_
    subst h22; subst h19; exact ⟨by simp only [x_X0_joinGreatest, if_neg c20], by simp only [x_X0_joinGreatest, if_neg c20]⟩
theorem nb_X0_joinGreatest (σ : az_S) : narrow .boolean (.int (x_X0_joinGreatest σ).1) = .int (x_X0_joinGreatest σ).1 := by
  unfold x_X0_joinGreatest
  (try dsimp only)
  (repeat' split) <;> first | rfl | (dsimp only; rfl)
def x_X4_setOneWay_21 (σ : az_S) (p0 : Int32) (p1 : Int32) (p2 : Int32) : az_S :=
  if p0 < 0 then
    σ
  else
    if 12 ≤ p0 then
      σ
    else
      if p1 < 0 then
        σ
      else
        if 12 ≤ p1 then
          σ
        else
          if ((p0 * 12) + p1) < 0 then
            σ
          else
            if 144 ≤ ((p0 * 12) + p1) then
              σ
            else
              (sG σ 22 (va_up (σ.2.1 22) ((p0 * 12) + p1).toNatClampNeg p2))
set_option maxRecDepth 100000 in
set_option maxHeartbeats 4000000 in
theorem m_X4_setOneWay_21 (l0 : Launch) (σ : az_S) (p0 : Int32) (p1 : Int32) (p2 : Int32) : AMet l0 yX4_setOneWay cX4_setOneWay 6 none ({ frames := 0, cells := 0, slots := 0, locals := 0 } : Room) false [.ref 21, .int p0, .int p1, .int p2] (wd σ) (fun r h => r = none ∧ h = wd (x_X4_setOneWay_21 σ p0 p1 p2)) := by
  refine AMet_of (by decide +kernel) (by simp [Value.category]) (Nat.le_of_ble_eq_true rfl) (fun K hK hct hG hE => ?_)
  have hT := tt_X4_setOneWay
  refine AW_g hT cl_X4 hK 0 7 (pc' := 9) (lo' := [some (.ref 21), some (.int p0), some (.int p1), some (.int p2), some (.int ((p0 * 12) + p1)), none]) (st' := [.int p0]) (hp' := wd σ) rfl ?_
  refine AW_if_lt hT hK 7 (tgt := 32) rfl rfl (fun c1 => ?_) (fun c1 => ?_)
  · refine AW_g hT cl_X4 hK 18 3 (pc' := 37) (lo' := [some (.ref 21), some (.int p0), some (.int p1), some (.int p2), some (.int ((p0 * 12) + p1)), some (.int 0)]) (st' := [.int 0]) (hp' := wd σ) rfl ?_
    refine AW_if_eq hT hK 21 (tgt := 63) rfl rfl (fun _ => ?_) (fun c2 => absurd (by decide) c2)
    refine AW_vret hT hE 34 rfl (Nat.le_of_ble_eq_true rfl) (Nat.le_of_ble_eq_true rfl) ?_
    exact ⟨rfl, congrArg wd (by simp only [x_X4_setOneWay_21, if_pos c1])⟩
  · refine AW_g hT cl_X4 hK 8 2 (pc' := 15) (lo' := [some (.ref 21), some (.int p0), some (.int p1), some (.int p2), some (.int ((p0 * 12) + p1)), none]) (st' := [.int 12, .int p0]) (hp' := wd σ) rfl ?_
    refine AW_icmp_ge hT hK 10 (tgt := 32) rfl rfl (fun c3 => ?_) (fun c3 => ?_)
    · refine AW_g hT cl_X4 hK 18 3 (pc' := 37) (lo' := [some (.ref 21), some (.int p0), some (.int p1), some (.int p2), some (.int ((p0 * 12) + p1)), some (.int 0)]) (st' := [.int 0]) (hp' := wd σ) rfl ?_
      refine AW_if_eq hT hK 21 (tgt := 63) rfl rfl (fun _ => ?_) (fun c4 => absurd (by decide) c4)
      refine AW_vret hT hE 34 rfl (Nat.le_of_ble_eq_true rfl) (Nat.le_of_ble_eq_true rfl) ?_
      exact ⟨rfl, congrArg wd (by simp only [x_X4_setOneWay_21, if_neg c1, if_pos c3])⟩
    · refine AW_g hT cl_X4 hK 11 1 (pc' := 19) (lo' := [some (.ref 21), some (.int p0), some (.int p1), some (.int p2), some (.int ((p0 * 12) + p1)), none]) (st' := [.int p1]) (hp' := wd σ) rfl ?_
      refine AW_if_lt hT hK 12 (tgt := 32) rfl rfl (fun c5 => ?_) (fun c5 => ?_)
      · refine AW_g hT cl_X4 hK 18 3 (pc' := 37) (lo' := [some (.ref 21), some (.int p0), some (.int p1), some (.int p2), some (.int ((p0 * 12) + p1)), some (.int 0)]) (st' := [.int 0]) (hp' := wd σ) rfl ?_
        refine AW_if_eq hT hK 21 (tgt := 63) rfl rfl (fun _ => ?_) (fun c6 => absurd (by decide) c6)
        refine AW_vret hT hE 34 rfl (Nat.le_of_ble_eq_true rfl) (Nat.le_of_ble_eq_true rfl) ?_
        exact ⟨rfl, congrArg wd (by simp only [x_X4_setOneWay_21, if_neg c1, if_neg c3, if_pos c5])⟩
      · refine AW_g hT cl_X4 hK 13 2 (pc' := 25) (lo' := [some (.ref 21), some (.int p0), some (.int p1), some (.int p2), some (.int ((p0 * 12) + p1)), none]) (st' := [.int 12, .int p1]) (hp' := wd σ) rfl ?_
        refine AW_icmp_ge hT hK 15 (tgt := 32) rfl rfl (fun c7 => ?_) (fun c7 => ?_)
        · refine AW_g hT cl_X4 hK 18 3 (pc' := 37) (lo' := [some (.ref 21), some (.int p0), some (.int p1), some (.int p2), some (.int ((p0 * 12) + p1)), some (.int 0)]) (st' := [.int 0]) (hp' := wd σ) rfl ?_
          refine AW_if_eq hT hK 21 (tgt := 63) rfl rfl (fun _ => ?_) (fun c8 => absurd (by decide) c8)
          refine AW_vret hT hE 34 rfl (Nat.le_of_ble_eq_true rfl) (Nat.le_of_ble_eq_true rfl) ?_
          exact ⟨rfl, congrArg wd (by simp only [x_X4_setOneWay_21, if_neg c1, if_neg c3, if_neg c5, if_pos c7])⟩
        · refine AW_g hT cl_X4 hK 16 1 (pc' := 29) (lo' := [some (.ref 21), some (.int p0), some (.int p1), some (.int p2), some (.int ((p0 * 12) + p1)), none]) (st' := [.int 1]) (hp' := wd σ) rfl ?_
          refine AW_goto hT hK 17 (tgt := 33) rfl rfl ?_
          refine AW_g hT cl_X4 hK 19 2 (pc' := 37) (lo' := [some (.ref 21), some (.int p0), some (.int p1), some (.int p2), some (.int ((p0 * 12) + p1)), some (.int 1)]) (st' := [.int 1]) (hp' := wd σ) rfl ?_
          refine AW_if_eq hT hK 21 (tgt := 63) rfl rfl (fun c9 => absurd c9 (by decide)) (fun _ => ?_)
          refine AW_g hT cl_X4 hK 22 1 (pc' := 42) (lo' := [some (.ref 21), some (.int p0), some (.int p1), some (.int p2), some (.int ((p0 * 12) + p1)), some (.int 1)]) (st' := [.int ((p0 * 12) + p1)]) (hp' := wd σ) rfl ?_
          refine AW_if_lt hT hK 23 (tgt := 63) rfl rfl (fun c10 => ?_) (fun c10 => ?_)
          · refine AW_vret hT hE 34 rfl (Nat.le_of_ble_eq_true rfl) (Nat.le_of_ble_eq_true rfl) ?_
            exact ⟨rfl, congrArg wd (by simp only [x_X4_setOneWay_21, if_neg c1, if_neg c3, if_neg c5, if_neg c7, if_pos c10])⟩
          · refine AW_g hT cl_X4 hK 24 4 (pc' := 52) (lo' := [some (.ref 21), some (.int p0), some (.int p1), some (.int p2), some (.int ((p0 * 12) + p1)), some (.int 1)]) (st' := [.int 144, .int ((p0 * 12) + p1)]) (hp' := wd σ) rfl ?_
            refine AW_icmp_ge hT hK 28 (tgt := 63) rfl rfl (fun c11 => ?_) (fun c11 => ?_)
            · refine AW_vret hT hE 34 rfl (Nat.le_of_ble_eq_true rfl) (Nat.le_of_ble_eq_true rfl) ?_
              exact ⟨rfl, congrArg wd (by simp only [x_X4_setOneWay_21, if_neg c1, if_neg c3, if_neg c5, if_neg c7, if_neg c10, if_pos c11])⟩
            · refine AW_g hT cl_X4 hK 29 4 (pc' := 62) (lo' := [some (.ref 21), some (.int p0), some (.int p1), some (.int p2), some (.int ((p0 * 12) + p1)), some (.int 1)]) (st' := [.int p2, .int ((p0 * 12) + p1), .ref 22]) (hp' := wd σ) rfl ?_
              refine AW_iastx hT hK 33 rfl (n := 144) (f := (σ.2.1 22)) rfl (az_in144 c10 c11) ?_
              refine AW_to (hp' := wd (sG σ 22 (va_up (σ.2.1 22) ((p0 * 12) + p1).toNatClampNeg p2))) rfl rfl rfl ?_
              refine AW_vret hT hE 34 rfl (Nat.le_of_ble_eq_true rfl) (Nat.le_of_ble_eq_true rfl) ?_
              exact ⟨rfl, congrArg wd (by simp only [x_X4_setOneWay_21, if_neg c1, if_neg c3, if_neg c5, if_neg c7, if_neg c10, if_neg c11])⟩
def x_X4_set_21 (σ : az_S) (p0 : Int32) (p1 : Int32) (p2 : Int32) : az_S :=
  let τ2 := x_X4_setOneWay_21 σ p0 p1 p2
  let τ4 := x_X4_setOneWay_21 (τ2) p1 p0 p2
  τ4
set_option maxRecDepth 100000 in
set_option maxHeartbeats 4000000 in
theorem m_X4_set_21 (l0 : Launch) (σ : az_S) (p0 : Int32) (p1 : Int32) (p2 : Int32) : AMet l0 yX4_set cX4_set 4 none ({ frames := 1, cells := 0, slots := 0, locals := 25 } : Room) false [.ref 21, .int p0, .int p1, .int p2] (wd σ) (fun r h => r = none ∧ h = wd (x_X4_set_21 σ p0 p1 p2)) := by
  refine AMet_of (by decide +kernel) (by simp [Value.category]) (Nat.le_of_ble_eq_true rfl) (fun K hK hct hG hE => ?_)
  have hT := tt_X4_set
  refine AW_g hT cl_X4 hK 0 4 (pc' := 4) (lo' := [some (.ref 21), some (.int p0), some (.int p1), some (.int p2)]) (st' := [.int p2, .int p1, .int p0, .ref 21]) (hp' := wd σ) rfl ?_
  refine AW_callV hT hK 4 [.int p0, .int p1, .int p2] [] (m_X4_setOneWay_21 l0 σ p0 p1 p2) cw_X4_setOneWay lk_X4_15 vi_X4_setOneWay rfl rfl rfl rfl rfl rfl (Nat.le_of_ble_eq_true rfl) (Nat.le_of_ble_eq_true rfl) (AW_kv (fun τ2 h1 => ?_))
  refine AW_g hT cl_X4 hK 5 4 (pc' := 11) (lo' := [some (.ref 21), some (.int p0), some (.int p1), some (.int p2)]) (st' := [.int p2, .int p0, .int p1, .ref 21]) (hp' := wd (τ2)) rfl ?_
  refine AW_callV hT hK 9 [.int p1, .int p0, .int p2] [] (m_X4_setOneWay_21 l0 (τ2) p1 p0 p2) cw_X4_setOneWay lk_X4_15 vi_X4_setOneWay rfl rfl rfl rfl rfl rfl (Nat.le_of_ble_eq_true rfl) (Nat.le_of_ble_eq_true rfl) (AW_kv (fun τ4 h3 => ?_))
  refine AW_vret hT hE 10 rfl (Nat.le_of_ble_eq_true rfl) (Nat.le_of_ble_eq_true rfl) ?_
  subst h3; subst h1; exact ⟨rfl, congrArg wd (by simp only [x_X4_set_21])⟩
def x_X4_set_23 (σ : az_S) (p0 : Int32) (p1 : Int32) (p2 : Int32) : az_S :=
  let τ2 := x_X4_setOneWay_23 σ p0 p1 p2
  let τ4 := x_X4_setOneWay_23 (τ2) p1 p0 p2
  τ4
set_option maxRecDepth 100000 in
set_option maxHeartbeats 4000000 in
theorem m_X4_set_23 (l0 : Launch) (σ : az_S) (p0 : Int32) (p1 : Int32) (p2 : Int32) : AMet l0 yX4_set cX4_set 4 none ({ frames := 1, cells := 0, slots := 0, locals := 25 } : Room) false [.ref 23, .int p0, .int p1, .int p2] (wd σ) (fun r h => r = none ∧ h = wd (x_X4_set_23 σ p0 p1 p2)) := by
  refine AMet_of (by decide +kernel) (by simp [Value.category]) (Nat.le_of_ble_eq_true rfl) (fun K hK hct hG hE => ?_)
  have hT := tt_X4_set
  refine AW_g hT cl_X4 hK 0 4 (pc' := 4) (lo' := [some (.ref 23), some (.int p0), some (.int p1), some (.int p2)]) (st' := [.int p2, .int p1, .int p0, .ref 23]) (hp' := wd σ) rfl ?_
  refine AW_callV hT hK 4 [.int p0, .int p1, .int p2] [] (m_X4_setOneWay_23 l0 σ p0 p1 p2) cw_X4_setOneWay lk_X4_15 vi_X4_setOneWay rfl rfl rfl rfl rfl rfl (Nat.le_of_ble_eq_true rfl) (Nat.le_of_ble_eq_true rfl) (AW_kv (fun τ2 h1 => ?_))
  refine AW_g hT cl_X4 hK 5 4 (pc' := 11) (lo' := [some (.ref 23), some (.int p0), some (.int p1), some (.int p2)]) (st' := [.int p2, .int p0, .int p1, .ref 23]) (hp' := wd (τ2)) rfl ?_
  refine AW_callV hT hK 9 [.int p1, .int p0, .int p2] [] (m_X4_setOneWay_23 l0 (τ2) p1 p0 p2) cw_X4_setOneWay lk_X4_15 vi_X4_setOneWay rfl rfl rfl rfl rfl rfl (Nat.le_of_ble_eq_true rfl) (Nat.le_of_ble_eq_true rfl) (AW_kv (fun τ4 h3 => ?_))
  refine AW_vret hT hE 10 rfl (Nat.le_of_ble_eq_true rfl) (Nat.le_of_ble_eq_true rfl) ?_
  subst h3; subst h1; exact ⟨rfl, congrArg wd (by simp only [x_X4_set_23])⟩
def x_X2_set_17 (σ : az_S) (p0 : Int32) (p1 : Int32) : az_S :=
  if p0 < 0 then
    σ
  else
    if 12 ≤ p0 then
      σ
    else
      (sG σ 18 (va_up (σ.2.1 18) p0.toNatClampNeg p1))
set_option maxRecDepth 100000 in
set_option maxHeartbeats 4000000 in
theorem m_X2_set_17 (l0 : Launch) (σ : az_S) (p0 : Int32) (p1 : Int32) : AMet l0 yX2_set cX2_set 3 none ({ frames := 0, cells := 0, slots := 0, locals := 0 } : Room) false [.ref 17, .int p0, .int p1] (wd σ) (fun r h => r = none ∧ h = wd (x_X2_set_17 σ p0 p1)) := by
  refine AMet_of (by decide +kernel) (by simp [Value.category]) (Nat.le_of_ble_eq_true rfl) (fun K hK hct hG hE => ?_)
  have hT := tt_X2_set
  refine AW_g hT cl_X2 hK 0 1 (pc' := 1) (lo' := [some (.ref 17), some (.int p0), some (.int p1)]) (st' := [.int p0]) (hp' := wd σ) rfl ?_
  refine AW_if_lt hT hK 1 (tgt := 20) rfl rfl (fun c1 => ?_) (fun c1 => ?_)
  · refine AW_vret hT hE 12 rfl (Nat.le_of_ble_eq_true rfl) (Nat.le_of_ble_eq_true rfl) ?_
    exact ⟨rfl, congrArg wd (by simp only [x_X2_set_17, if_pos c1])⟩
  · refine AW_g hT cl_X2 hK 2 4 (pc' := 10) (lo' := [some (.ref 17), some (.int p0), some (.int p1)]) (st' := [.int 12, .int p0]) (hp' := wd σ) rfl ?_
    refine AW_icmp_ge hT hK 6 (tgt := 20) rfl rfl (fun c2 => ?_) (fun c2 => ?_)
    · refine AW_vret hT hE 12 rfl (Nat.le_of_ble_eq_true rfl) (Nat.le_of_ble_eq_true rfl) ?_
      exact ⟨rfl, congrArg wd (by simp only [x_X2_set_17, if_neg c1, if_pos c2])⟩
    · refine AW_g hT cl_X2 hK 7 4 (pc' := 19) (lo' := [some (.ref 17), some (.int p0), some (.int p1)]) (st' := [.int p1, .int p0, .ref 18]) (hp' := wd σ) rfl ?_
      refine AW_iastx hT hK 11 rfl (n := 12) (f := (σ.2.1 18)) rfl (az_in12 c1 c2) ?_
      refine AW_to (hp' := wd (sG σ 18 (va_up (σ.2.1 18) p0.toNatClampNeg p1))) rfl rfl rfl ?_
      refine AW_vret hT hE 12 rfl (Nat.le_of_ble_eq_true rfl) (Nat.le_of_ble_eq_true rfl) ?_
      exact ⟨rfl, congrArg wd (by simp only [x_X2_set_17, if_neg c1, if_neg c2])⟩
def b_X0_partAll_50 (d2 : Nat) (i : Nat) (w3 : Int32) (σ : az_S) : Int32 × az_S :=
  if (nI d2) = (nI i) then
    let τ20 := x_X4_set_21 σ (nI d2) (nI i) 0
    let τ22 := x_X4_set_23 (τ20) (nI d2) (nI i) 0
    ((w3 + 0), (τ22))
  else
    let v14 := x_X3_weightOf σ (nI d2) (nI i)
    let τ16 := x_X4_set_21 σ (nI d2) (nI i) v14
    let τ18 := x_X4_set_23 (τ16) (nI d2) (nI i) v14
    ((w3 + v14), (τ18))
set_option maxRecDepth 100000 in
set_option maxHeartbeats 4000000 in
theorem lp_X0_partAll_50 {K : az_K} {l0 : Launch} (hT : az_Tb cX0_partAll tb_X0_partAll) (hK : az_OK K RX0 cX0_partAll ({ frames := 3, cells := 0, slots := 0, locals := 69 } : Room) l0) (d2 : Nat) (hd2 : d2 < 12) :
    ∀ (n i : Nat) (w3 : Int32) (σ : az_S) (hi : i + n = 12) (kx : ∀ s' : Int32 × az_S, az_it (fun ι s => b_X0_partAll_50 d2 ι s.1 s.2) n i (w3, σ) = s' → AW K 0 0 111 [some (.ref 12), some (.ref 1), some (.int (nI d2)), some (.int s'.1), none, none] [] (wd s'.2)), AW K 0 0 50 [some (.ref 12), some (.ref 1), some (.int (nI d2)), some (.int w3), some (.int (nI i)), none] [] (wd σ) := by
  intro n
  induction n with
  | zero =>
    intro i w3 σ hi kx
    refine AW_g hT cl_X0 hK 28 2 (pc' := 54) (lo' := [some (.ref 12), some (.ref 1), some (.int (nI d2)), some (.int w3), some (.int (nI i)), none]) (st' := [.int 12, .int (nI i)]) (hp' := wd σ) rfl ?_
    refine AW_icmp_ge hT hK 30 (tgt := 111) rfl rfl (fun c23 => ?_) (fun c23 => absurd (az_c0 hi) c23)
    refine AW_msk [true, true, true, true, false, false] (lo' := [some (.ref 12), some (.ref 1), some (.int (nI d2)), some (.int w3), none, none]) rfl ?_
    exact kx (w3, σ) rfl
  | succ n ih =>
    intro i w3 σ hi kx
    refine AW_g hT cl_X0 hK 28 2 (pc' := 54) (lo' := [some (.ref 12), some (.ref 1), some (.int (nI d2)), some (.int w3), some (.int (nI i)), none]) (st' := [.int 12, .int (nI i)]) (hp' := wd σ) rfl ?_
    refine AW_icmp_ge hT hK 30 (tgt := 111) rfl rfl (fun c11 => absurd c11 (az_c1 hi)) (fun c11 => ?_)
    refine AW_g hT cl_X0 hK 31 2 (pc' := 60) (lo' := [some (.ref 12), some (.ref 1), some (.int (nI d2)), some (.int w3), some (.int (nI i)), none]) (st' := [.int (nI i), .int (nI d2)]) (hp' := wd σ) rfl ?_
    refine AW_icmp_ne hT hK 33 (tgt := 67) rfl rfl (fun c12 => ?_) (fun c12 => ?_)
    · refine AW_g hT cl_X0 hK 36 3 (pc' := 71) (lo' := [some (.ref 12), some (.ref 1), some (.int (nI d2)), some (.int w3), some (.int (nI i)), none]) (st' := [.int (nI i), .int (nI d2), .ref 1]) (hp' := wd σ) rfl ?_
      refine AW_callV hT hK 39 [.int (nI d2), .int (nI i)] [] (m_X3_weightOf l0 σ (nI d2) (nI i)) cw_X3_weightOf lk_X0_90 vi_X3_weightOf rfl rfl rfl rfl rfl rfl (Nat.le_of_ble_eq_true rfl) (Nat.le_of_ble_eq_true rfl) (AW_k1 (fun v14 h13 => ?_))
      refine AW_g hT cl_X0 hK 40 6 (pc' := 85) (lo' := [some (.ref 12), some (.ref 1), some (.int (nI d2)), some (.int w3), some (.int (nI i)), some (.int v14)]) (st' := [.int v14, .int (nI i), .int (nI d2), .ref 21]) (hp' := wd σ) rfl ?_
      refine AW_callV hT hK 46 [.int (nI d2), .int (nI i), .int v14] [] (m_X4_set_21 l0 σ (nI d2) (nI i) v14) cw_X4_set lk_X0_93 vi_X4_set rfl rfl rfl rfl rfl rfl (Nat.le_of_ble_eq_true rfl) (Nat.le_of_ble_eq_true rfl) (AW_kv (fun τ16 h15 => ?_))
      refine AW_g hT cl_X0 hK 47 5 (pc' := 97) (lo' := [some (.ref 12), some (.ref 1), some (.int (nI d2)), some (.int w3), some (.int (nI i)), some (.int v14)]) (st' := [.int v14, .int (nI i), .int (nI d2), .ref 23]) (hp' := wd (τ16)) rfl ?_
      refine AW_callV hT hK 52 [.int (nI d2), .int (nI i), .int v14] [] (m_X4_set_23 l0 (τ16) (nI d2) (nI i) v14) cw_X4_set lk_X0_93 vi_X4_set rfl rfl rfl rfl rfl rfl (Nat.le_of_ble_eq_true rfl) (Nat.le_of_ble_eq_true rfl) (AW_kv (fun τ18 h17 => ?_))
      refine AW_g hT cl_X0 hK 53 5 (pc' := 108) (lo' := [some (.ref 12), some (.ref 1), some (.int (nI d2)), some (.int (w3 + v14)), some (.int ((nI i) + 1)), some (.int v14)]) (st' := []) (hp' := wd (τ18)) rfl ?_
      refine AW_goto hT hK 58 (tgt := 50) rfl rfl ?_
      refine AW_msk [true, true, true, true, true, false] (lo' := [some (.ref 12), some (.ref 1), some (.int (nI d2)), some (.int (w3 + v14)), some (.int ((nI i) + 1)), none]) rfl ?_
      refine AW_to (lo' := [some (.ref 12), some (.ref 1), some (.int (nI d2)), some (.int (w3 + v14)), some (.int (nI (i + 1))), none]) (by rw [nI_1]) rfl rfl ?_
      subst h17; subst h15; subst h13; skip
      exact ih (i + 1) _ _ (by omega) (fun s' hs' => kx s' ((congrArg (az_it _ n (i + 1)) (by simp only [b_X0_partAll_50, if_neg c12])).trans hs'))
    · refine AW_g hT cl_X0 hK 34 1 (pc' := 64) (lo' := [some (.ref 12), some (.ref 1), some (.int (nI d2)), some (.int w3), some (.int (nI i)), none]) (st' := [.int 0]) (hp' := wd σ) rfl ?_
      refine AW_goto hT hK 35 (tgt := 74) rfl rfl ?_
      refine AW_g hT cl_X0 hK 40 6 (pc' := 85) (lo' := [some (.ref 12), some (.ref 1), some (.int (nI d2)), some (.int w3), some (.int (nI i)), some (.int 0)]) (st' := [.int 0, .int (nI i), .int (nI d2), .ref 21]) (hp' := wd σ) rfl ?_
      refine AW_callV hT hK 46 [.int (nI d2), .int (nI i), .int 0] [] (m_X4_set_21 l0 σ (nI d2) (nI i) 0) cw_X4_set lk_X0_93 vi_X4_set rfl rfl rfl rfl rfl rfl (Nat.le_of_ble_eq_true rfl) (Nat.le_of_ble_eq_true rfl) (AW_kv (fun τ20 h19 => ?_))
      refine AW_g hT cl_X0 hK 47 5 (pc' := 97) (lo' := [some (.ref 12), some (.ref 1), some (.int (nI d2)), some (.int w3), some (.int (nI i)), some (.int 0)]) (st' := [.int 0, .int (nI i), .int (nI d2), .ref 23]) (hp' := wd (τ20)) rfl ?_
      refine AW_callV hT hK 52 [.int (nI d2), .int (nI i), .int 0] [] (m_X4_set_23 l0 (τ20) (nI d2) (nI i) 0) cw_X4_set lk_X0_93 vi_X4_set rfl rfl rfl rfl rfl rfl (Nat.le_of_ble_eq_true rfl) (Nat.le_of_ble_eq_true rfl) (AW_kv (fun τ22 h21 => ?_))
      refine AW_g hT cl_X0 hK 53 5 (pc' := 108) (lo' := [some (.ref 12), some (.ref 1), some (.int (nI d2)), some (.int (w3 + 0)), some (.int ((nI i) + 1)), some (.int 0)]) (st' := []) (hp' := wd (τ22)) rfl ?_
      refine AW_goto hT hK 58 (tgt := 50) rfl rfl ?_
      refine AW_msk [true, true, true, true, true, false] (lo' := [some (.ref 12), some (.ref 1), some (.int (nI d2)), some (.int (w3 + 0)), some (.int ((nI i) + 1)), none]) rfl ?_
      refine AW_to (lo' := [some (.ref 12), some (.ref 1), some (.int (nI d2)), some (.int (w3 + 0)), some (.int (nI (i + 1))), none]) (by rw [nI_1]) rfl rfl ?_
      subst h21; subst h19; skip
      exact ih (i + 1) _ _ (by omega) (fun s' hs' => kx s' ((congrArg (az_it _ n (i + 1)) (by simp only [b_X0_partAll_50, if_pos c12])).trans hs'))
def b_X0_partAll_18 (i : Nat) (σ : az_S) : az_S :=
  let v7 := x_X3_has σ (nI i)
  if v7 = 0 then
    let τ10 := x_X2_set_13 σ (nI i) (-1)
    let s24 := az_it (fun ι s => b_X0_partAll_50 i ι s.1 s.2) 12 0 (0, (τ10))
    let τ27 := x_X2_set_17 s24.2 (nI i) s24.1
    let τ29 := x_X2_set_19 (τ27) (nI i) s24.1
    (τ29)
  else
    let τ31 := x_X2_set_13 σ (nI i) (nI i)
    let s32 := az_it (fun ι s => b_X0_partAll_50 i ι s.1 s.2) 12 0 (0, (τ31))
    let τ35 := x_X2_set_17 s32.2 (nI i) s32.1
    let τ37 := x_X2_set_19 (τ35) (nI i) s32.1
    (τ37)
set_option maxRecDepth 100000 in
set_option maxHeartbeats 4000000 in
theorem lp_X0_partAll_18 {K : az_K} {l0 : Launch} (hT : az_Tb cX0_partAll tb_X0_partAll) (hK : az_OK K RX0 cX0_partAll ({ frames := 3, cells := 0, slots := 0, locals := 69 } : Room) l0) :
    ∀ (n i : Nat) (σ : az_S) (hi : i + n = 12) (kx : ∀ s' : az_S, az_it (fun ι s => b_X0_partAll_18 ι s) n i σ = s' → AW K 0 0 135 [some (.ref 12), some (.ref 1), none, none, none, none] [] (wd s')), AW K 0 0 18 [some (.ref 12), some (.ref 1), some (.int (nI i)), none, none, none] [] (wd σ) := by
  intro n
  induction n with
  | zero =>
    intro i σ hi kx
    refine AW_g hT cl_X0 hK 10 2 (pc' := 21) (lo' := [some (.ref 12), some (.ref 1), some (.int (nI i)), none, none, none]) (st' := [.int 12, .int (nI i)]) (hp' := wd σ) rfl ?_
    refine AW_icmp_ge hT hK 12 (tgt := 135) rfl rfl (fun c38 => ?_) (fun c38 => absurd (az_c0 hi) c38)
    refine AW_msk [true, true, false, false, false, false] (lo' := [some (.ref 12), some (.ref 1), none, none, none, none]) rfl ?_
    exact kx σ rfl
  | succ n ih =>
    intro i σ hi kx
    refine AW_g hT cl_X0 hK 10 2 (pc' := 21) (lo' := [some (.ref 12), some (.ref 1), some (.int (nI i)), none, none, none]) (st' := [.int 12, .int (nI i)]) (hp' := wd σ) rfl ?_
    refine AW_icmp_ge hT hK 12 (tgt := 135) rfl rfl (fun c5 => absurd c5 (az_c1 hi)) (fun c5 => ?_)
    refine AW_g hT cl_X0 hK 13 5 (pc' := 31) (lo' := [some (.ref 12), some (.ref 1), some (.int (nI i)), none, none, none]) (st' := [.int (nI i), .ref 1, .int (nI i), .ref 13]) (hp' := wd σ) rfl ?_
    refine AW_callV hT hK 18 [.int (nI i)] [.int (nI i), .ref 13] (m_X3_has l0 σ (nI i)) cw_X3_has lk_X0_87 vi_X3_has rfl rfl rfl rfl rfl rfl (Nat.le_of_ble_eq_true rfl) (Nat.le_of_ble_eq_true rfl) (AW_k1 (fun v7 h6 => ?_))
    refine AW_if_eq hT hK 19 (tgt := 41) rfl rfl (fun c8 => ?_) (fun c8 => ?_)
    · refine AW_g hT cl_X0 hK 22 1 (pc' := 42) (lo' := [some (.ref 12), some (.ref 1), some (.int (nI i)), none, none, none]) (st' := [.int (-1), .int (nI i), .ref 13]) (hp' := wd σ) rfl ?_
      refine AW_callV hT hK 23 [.int (nI i), .int (-1)] [] (m_X2_set_13 l0 σ (nI i) (-1)) cw_X2_set lk_X0_74 vi_X2_set rfl rfl rfl rfl rfl rfl (Nat.le_of_ble_eq_true rfl) (Nat.le_of_ble_eq_true rfl) (AW_kv (fun τ10 h9 => ?_))
      refine AW_g hT cl_X0 hK 24 4 (pc' := 50) (lo' := [some (.ref 12), some (.ref 1), some (.int (nI i)), some (.int 0), some (.int 0), none]) (st' := []) (hp' := wd (τ10)) rfl ?_
      refine AW_to (lo' := [some (.ref 12), some (.ref 1), some (.int (nI i)), some (.int 0), some (.int (nI 0)), none]) (rfl) rfl rfl ?_
      refine lp_X0_partAll_50 hT hK i (by omega) 12 0 0 (τ10) (by first | rfl | omega) (fun s24 h25 => ?_)
      refine AW_g hT cl_X0 hK 59 4 (pc' := 117) (lo' := [some (.ref 12), some (.ref 1), some (.int (nI i)), some (.int s24.1), none, none]) (st' := [.int s24.1, .int (nI i), .ref 17]) (hp' := wd s24.2) rfl ?_
      refine AW_callV hT hK 63 [.int (nI i), .int s24.1] [] (m_X2_set_17 l0 s24.2 (nI i) s24.1) cw_X2_set lk_X0_74 vi_X2_set rfl rfl rfl rfl rfl rfl (Nat.le_of_ble_eq_true rfl) (Nat.le_of_ble_eq_true rfl) (AW_kv (fun τ27 h26 => ?_))
      refine AW_g hT cl_X0 hK 64 4 (pc' := 126) (lo' := [some (.ref 12), some (.ref 1), some (.int (nI i)), some (.int s24.1), none, none]) (st' := [.int s24.1, .int (nI i), .ref 19]) (hp' := wd (τ27)) rfl ?_
      refine AW_callV hT hK 68 [.int (nI i), .int s24.1] [] (m_X2_set_19 l0 (τ27) (nI i) s24.1) cw_X2_set lk_X0_74 vi_X2_set rfl rfl rfl rfl rfl rfl (Nat.le_of_ble_eq_true rfl) (Nat.le_of_ble_eq_true rfl) (AW_kv (fun τ29 h28 => ?_))
      refine AW_g hT cl_X0 hK 69 1 (pc' := 132) (lo' := [some (.ref 12), some (.ref 1), some (.int ((nI i) + 1)), some (.int s24.1), none, none]) (st' := []) (hp' := wd (τ29)) rfl ?_
      refine AW_goto hT hK 70 (tgt := 18) rfl rfl ?_
      refine AW_msk [true, true, true, false, false, false] (lo' := [some (.ref 12), some (.ref 1), some (.int ((nI i) + 1)), none, none, none]) rfl ?_
      refine AW_to (lo' := [some (.ref 12), some (.ref 1), some (.int (nI (i + 1))), none, none, none]) (by rw [nI_1]) rfl rfl ?_
      subst h28; subst h26; subst h25; subst h9; subst h6; skip
      exact ih (i + 1) _ (by omega) (fun s' hs' => kx s' ((congrArg (az_it _ n (i + 1)) (by simp only [b_X0_partAll_18, if_pos c8])).trans hs'))
    · refine AW_g hT cl_X0 hK 20 1 (pc' := 38) (lo' := [some (.ref 12), some (.ref 1), some (.int (nI i)), none, none, none]) (st' := [.int (nI i), .int (nI i), .ref 13]) (hp' := wd σ) rfl ?_
      refine AW_goto hT hK 21 (tgt := 42) rfl rfl ?_
      refine AW_callV hT hK 23 [.int (nI i), .int (nI i)] [] (m_X2_set_13 l0 σ (nI i) (nI i)) cw_X2_set lk_X0_74 vi_X2_set rfl rfl rfl rfl rfl rfl (Nat.le_of_ble_eq_true rfl) (Nat.le_of_ble_eq_true rfl) (AW_kv (fun τ31 h30 => ?_))
      refine AW_g hT cl_X0 hK 24 4 (pc' := 50) (lo' := [some (.ref 12), some (.ref 1), some (.int (nI i)), some (.int 0), some (.int 0), none]) (st' := []) (hp' := wd (τ31)) rfl ?_
      refine AW_to (lo' := [some (.ref 12), some (.ref 1), some (.int (nI i)), some (.int 0), some (.int (nI 0)), none]) (rfl) rfl rfl ?_
      refine lp_X0_partAll_50 hT hK i (by omega) 12 0 0 (τ31) (by first | rfl | omega) (fun s32 h33 => ?_)
      refine AW_g hT cl_X0 hK 59 4 (pc' := 117) (lo' := [some (.ref 12), some (.ref 1), some (.int (nI i)), some (.int s32.1), none, none]) (st' := [.int s32.1, .int (nI i), .ref 17]) (hp' := wd s32.2) rfl ?_
      refine AW_callV hT hK 63 [.int (nI i), .int s32.1] [] (m_X2_set_17 l0 s32.2 (nI i) s32.1) cw_X2_set lk_X0_74 vi_X2_set rfl rfl rfl rfl rfl rfl (Nat.le_of_ble_eq_true rfl) (Nat.le_of_ble_eq_true rfl) (AW_kv (fun τ35 h34 => ?_))
      refine AW_g hT cl_X0 hK 64 4 (pc' := 126) (lo' := [some (.ref 12), some (.ref 1), some (.int (nI i)), some (.int s32.1), none, none]) (st' := [.int s32.1, .int (nI i), .ref 19]) (hp' := wd (τ35)) rfl ?_
      refine AW_callV hT hK 68 [.int (nI i), .int s32.1] [] (m_X2_set_19 l0 (τ35) (nI i) s32.1) cw_X2_set lk_X0_74 vi_X2_set rfl rfl rfl rfl rfl rfl (Nat.le_of_ble_eq_true rfl) (Nat.le_of_ble_eq_true rfl) (AW_kv (fun τ37 h36 => ?_))
      refine AW_g hT cl_X0 hK 69 1 (pc' := 132) (lo' := [some (.ref 12), some (.ref 1), some (.int ((nI i) + 1)), some (.int s32.1), none, none]) (st' := []) (hp' := wd (τ37)) rfl ?_
      refine AW_goto hT hK 70 (tgt := 18) rfl rfl ?_
      refine AW_msk [true, true, true, false, false, false] (lo' := [some (.ref 12), some (.ref 1), some (.int ((nI i) + 1)), none, none, none]) rfl ?_
      refine AW_to (lo' := [some (.ref 12), some (.ref 1), some (.int (nI (i + 1))), none, none, none]) (by rw [nI_1]) rfl rfl ?_
      subst h36; subst h34; subst h33; subst h30; subst h6; skip
      exact ih (i + 1) _ (by omega) (fun s' hs' => kx s' ((congrArg (az_it _ n (i + 1)) (by simp only [b_X0_partAll_18, if_neg c8])).trans hs'))
def x_X0_partAll (σ : az_S) : az_S :=
  let v2 := x_X3_weightsKept σ
  let v4 := x_X3_allThere (sF σ 4 v2)
  let s39 := az_it (fun ι s => b_X0_partAll_18 ι s) 12 0 (sF (sF σ 4 v2) 3 v4)
  s39
set_option maxRecDepth 100000 in
set_option maxHeartbeats 4000000 in
theorem m_X0_partAll (l0 : Launch) (σ : az_S) : AMet l0 yX0_partAll cX0_partAll 6 none ({ frames := 3, cells := 0, slots := 0, locals := 69 } : Room) false [.ref 12, .ref 1] (wd σ) (fun r h => r = none ∧ h = wd (x_X0_partAll σ)) := by
  refine AMet_of (by decide +kernel) (by simp [Value.category]) (Nat.le_of_ble_eq_true rfl) (fun K hK hct hG hE => ?_)
  have hT := tt_X0_partAll
  refine AW_g hT cl_X0 hK 0 2 (pc' := 2) (lo' := [some (.ref 12), some (.ref 1), none, none, none, none]) (st' := [.ref 1, .ref 12]) (hp' := wd σ) rfl ?_
  refine AW_callV hT hK 2 [] [.ref 12] (m_X3_weightsKept l0 σ) cw_X3_weightsKept lk_X0_78 vi_X3_weightsKept rfl rfl rfl rfl rfl rfl (Nat.le_of_ble_eq_true rfl) (Nat.le_of_ble_eq_true rfl) (AW_k1 (fun v2 h1 => ?_))
  refine AW_g hT cl_X0 hK 3 3 (pc' := 10) (lo' := [some (.ref 12), some (.ref 1), none, none, none, none]) (st' := [.ref 1, .ref 12]) (hp' := wd (sF σ 4 v2)) rfl ?_
  refine AW_callV hT hK 6 [] [.ref 12] (m_X3_allThere l0 (sF σ 4 v2)) cw_X3_allThere lk_X0_84 vi_X3_allThere rfl rfl rfl rfl rfl rfl (Nat.le_of_ble_eq_true rfl) (Nat.le_of_ble_eq_true rfl) (AW_k1 (fun v4 h3 => ?_))
  refine AW_g hT cl_X0 hK 7 3 (pc' := 18) (lo' := [some (.ref 12), some (.ref 1), some (.int 0), none, none, none]) (st' := []) (hp' := wd (sF (sF σ 4 v2) 3 v4)) rfl ?_
  refine AW_to (lo' := [some (.ref 12), some (.ref 1), some (.int (nI 0)), none, none, none]) (rfl) rfl rfl ?_
  refine lp_X0_partAll_18 hT hK 12 0 (sF (sF σ 4 v2) 3 v4) (by first | rfl | omega) (fun s39 h40 => ?_)
  refine AW_vret hT hE 71 rfl (Nat.le_of_ble_eq_true rfl) (Nat.le_of_ble_eq_true rfl) ?_
  subst h40; subst h3; subst h1; exact ⟨rfl, congrArg wd (by simp only [x_X0_partAll])⟩
def x_X2_set_15 (σ : az_S) (p0 : Int32) (p1 : Int32) : az_S :=
  if p0 < 0 then
    σ
  else
    if 12 ≤ p0 then
      σ
    else
      (sG σ 16 (va_up (σ.2.1 16) p0.toNatClampNeg p1))
set_option maxRecDepth 100000 in
set_option maxHeartbeats 4000000 in
theorem m_X2_set_15 (l0 : Launch) (σ : az_S) (p0 : Int32) (p1 : Int32) : AMet l0 yX2_set cX2_set 3 none ({ frames := 0, cells := 0, slots := 0, locals := 0 } : Room) false [.ref 15, .int p0, .int p1] (wd σ) (fun r h => r = none ∧ h = wd (x_X2_set_15 σ p0 p1)) := by
  refine AMet_of (by decide +kernel) (by simp [Value.category]) (Nat.le_of_ble_eq_true rfl) (fun K hK hct hG hE => ?_)
  have hT := tt_X2_set
  refine AW_g hT cl_X2 hK 0 1 (pc' := 1) (lo' := [some (.ref 15), some (.int p0), some (.int p1)]) (st' := [.int p0]) (hp' := wd σ) rfl ?_
  refine AW_if_lt hT hK 1 (tgt := 20) rfl rfl (fun c1 => ?_) (fun c1 => ?_)
  · refine AW_vret hT hE 12 rfl (Nat.le_of_ble_eq_true rfl) (Nat.le_of_ble_eq_true rfl) ?_
    exact ⟨rfl, congrArg wd (by simp only [x_X2_set_15, if_pos c1])⟩
  · refine AW_g hT cl_X2 hK 2 4 (pc' := 10) (lo' := [some (.ref 15), some (.int p0), some (.int p1)]) (st' := [.int 12, .int p0]) (hp' := wd σ) rfl ?_
    refine AW_icmp_ge hT hK 6 (tgt := 20) rfl rfl (fun c2 => ?_) (fun c2 => ?_)
    · refine AW_vret hT hE 12 rfl (Nat.le_of_ble_eq_true rfl) (Nat.le_of_ble_eq_true rfl) ?_
      exact ⟨rfl, congrArg wd (by simp only [x_X2_set_15, if_neg c1, if_pos c2])⟩
    · refine AW_g hT cl_X2 hK 7 4 (pc' := 19) (lo' := [some (.ref 15), some (.int p0), some (.int p1)]) (st' := [.int p1, .int p0, .ref 16]) (hp' := wd σ) rfl ?_
      refine AW_iastx hT hK 11 rfl (n := 12) (f := (σ.2.1 16)) rfl (az_in12 c1 c2) ?_
      refine AW_to (hp' := wd (sG σ 16 (va_up (σ.2.1 16) p0.toNatClampNeg p1))) rfl rfl rfl ?_
      refine AW_vret hT hE 12 rfl (Nat.le_of_ble_eq_true rfl) (Nat.le_of_ble_eq_true rfl) ?_
      exact ⟨rfl, congrArg wd (by simp only [x_X2_set_15, if_neg c1, if_neg c2])⟩
def b_X0_findAnew_9 (i : Nat) (w2 : Int32) (σ : az_S) : Int32 × az_S :=
  let q6 := x_X0_joinGreatest σ
  (q6.1, q6.2)
set_option maxRecDepth 100000 in
set_option maxHeartbeats 4000000 in
theorem lp_X0_findAnew_9 {K : az_K} {l0 : Launch} (hT : az_Tb cX0_findAnew tb_X0_findAnew) (hK : az_OK K RX0 cX0_findAnew ({ frames := 4, cells := 0, slots := 0, locals := 101 } : Room) l0) :
    ∀ (n i : Nat) (w2 : Int32) (σ : az_S) (hi : i + n = 12) (kx : ∀ s' : Int32 × az_S, az_ws (fun s : Int32 × az_S => decide (s.1 = 0)) (fun ι s => b_X0_findAnew_9 ι s.1 s.2) n i (w2, σ) = s' → AW K 0 0 30 [some (.ref 12), some (.ref 1), some (.int s'.1), none] [] (wd s'.2)), AW K 0 0 9 [some (.ref 12), some (.ref 1), some (.int w2), some (.int (nI i))] [] (wd σ) := by
  intro n
  induction n with
  | zero =>
    intro i w2 σ hi kx
    refine AW_g hT cl_X0 hK 7 1 (pc' := 10) (lo' := [some (.ref 12), some (.ref 1), some (.int w2), some (.int (nI i))]) (st' := [.int w2]) (hp' := wd σ) rfl ?_
    refine AW_if_eq hT hK 8 (tgt := 30) rfl rfl (fun c7 => ?_) (fun c7 => ?_)
    · refine AW_msk [true, true, true, false] (lo' := [some (.ref 12), some (.ref 1), some (.int w2), none]) rfl ?_
      exact kx (w2, σ) rfl
    refine AW_g hT cl_X0 hK 9 2 (pc' := 16) (lo' := [some (.ref 12), some (.ref 1), some (.int w2), some (.int (nI i))]) (st' := [.int 12, .int (nI i)]) (hp' := wd σ) rfl ?_
    refine AW_icmp_ge hT hK 11 (tgt := 30) rfl rfl (fun c8 => ?_) (fun c8 => absurd (az_c0 hi) c8)
    refine AW_msk [true, true, true, false] (lo' := [some (.ref 12), some (.ref 1), some (.int w2), none]) rfl ?_
    exact kx (w2, σ) rfl
  | succ n ih =>
    intro i w2 σ hi kx
    refine AW_g hT cl_X0 hK 7 1 (pc' := 10) (lo' := [some (.ref 12), some (.ref 1), some (.int w2), some (.int (nI i))]) (st' := [.int w2]) (hp' := wd σ) rfl ?_
    refine AW_if_eq hT hK 8 (tgt := 30) rfl rfl (fun c3 => ?_) (fun c3 => ?_)
    · refine AW_msk [true, true, true, false] (lo' := [some (.ref 12), some (.ref 1), some (.int w2), none]) rfl ?_
      exact kx (w2, σ) (az_ws_st (by simp only [c3, decide_true]))
    refine AW_g hT cl_X0 hK 9 2 (pc' := 16) (lo' := [some (.ref 12), some (.ref 1), some (.int w2), some (.int (nI i))]) (st' := [.int 12, .int (nI i)]) (hp' := wd σ) rfl ?_
    refine AW_icmp_ge hT hK 11 (tgt := 30) rfl rfl (fun c4 => absurd c4 (az_c1 hi)) (fun c4 => ?_)
    refine AW_g hT cl_X0 hK 12 1 (pc' := 20) (lo' := [some (.ref 12), some (.ref 1), some (.int w2), some (.int (nI i))]) (st' := [.ref 12]) (hp' := wd σ) rfl ?_
    refine AW_callV hT hK 13 [] [] (m_X0_joinGreatest l0 σ) cw_X0_joinGreatest lk_X0_63 vi_X0_joinGreatest rfl rfl rfl rfl rfl rfl (Nat.le_of_ble_eq_true rfl) (Nat.le_of_ble_eq_true rfl) (AW_kiw (fun q6 h5 => ?_))
    refine AW_g hT cl_X0 hK 14 2 (pc' := 27) (lo' := [some (.ref 12), some (.ref 1), some (.int q6.1), some (.int ((nI i) + 1))]) (st' := []) (hp' := wd q6.2) rfl ?_
    refine AW_goto hT hK 16 (tgt := 9) rfl rfl ?_
    refine AW_to (lo' := [some (.ref 12), some (.ref 1), some (.int q6.1), some (.int (nI (i + 1)))]) (by rw [nI_1]) rfl rfl ?_
    subst h5; skip
    exact ih (i + 1) _ _ (by omega) (fun s' hs' => kx s' ((az_ws_go (by simp only [c3, decide_false])).trans ((congrArg (az_ws (fun s : Int32 × az_S => decide (s.1 = 0)) _ n (i + 1)) (by simp only [b_X0_findAnew_9])).trans hs')))
def b_X0_findAnew_32 (d2 : Int32) (i : Nat) (σ : az_S) : az_S :=
  let v13 := x_X0_isGroup σ (nI i)
  if v13 = 0 then
    let τ16 := x_X2_set_15 σ (nI i) 0
    (τ16)
  else
    let v18 := x_X0_bestSplit σ (nI i)
    let τ20 := x_X2_set_15 σ (nI i) v18
    (τ20)
set_option maxRecDepth 100000 in
set_option maxHeartbeats 4000000 in
theorem lp_X0_findAnew_32 {K : az_K} {l0 : Launch} (hT : az_Tb cX0_findAnew tb_X0_findAnew) (hK : az_OK K RX0 cX0_findAnew ({ frames := 4, cells := 0, slots := 0, locals := 101 } : Room) l0) (d2 : Int32) :
    ∀ (n i : Nat) (σ : az_S) (hi : i + n = 12) (kx : ∀ s' : az_S, az_it (fun ι s => b_X0_findAnew_32 d2 ι s) n i σ = s' → AW K 0 0 69 [some (.ref 12), some (.ref 1), some (.int d2), none] [] (wd s')), AW K 0 0 32 [some (.ref 12), some (.ref 1), some (.int d2), some (.int (nI i))] [] (wd σ) := by
  intro n
  induction n with
  | zero =>
    intro i σ hi kx
    refine AW_g hT cl_X0 hK 19 2 (pc' := 35) (lo' := [some (.ref 12), some (.ref 1), some (.int d2), some (.int (nI i))]) (st' := [.int 12, .int (nI i)]) (hp' := wd σ) rfl ?_
    refine AW_icmp_ge hT hK 21 (tgt := 69) rfl rfl (fun c21 => ?_) (fun c21 => absurd (az_c0 hi) c21)
    refine AW_msk [true, true, true, false] (lo' := [some (.ref 12), some (.ref 1), some (.int d2), none]) rfl ?_
    exact kx σ rfl
  | succ n ih =>
    intro i σ hi kx
    refine AW_g hT cl_X0 hK 19 2 (pc' := 35) (lo' := [some (.ref 12), some (.ref 1), some (.int d2), some (.int (nI i))]) (st' := [.int 12, .int (nI i)]) (hp' := wd σ) rfl ?_
    refine AW_icmp_ge hT hK 21 (tgt := 69) rfl rfl (fun c11 => absurd c11 (az_c1 hi)) (fun c11 => ?_)
    refine AW_g hT cl_X0 hK 22 5 (pc' := 45) (lo' := [some (.ref 12), some (.ref 1), some (.int d2), some (.int (nI i))]) (st' := [.int (nI i), .ref 12, .int (nI i), .ref 15]) (hp' := wd σ) rfl ?_
    refine AW_callV hT hK 27 [.int (nI i)] [.int (nI i), .ref 15] (m_X0_isGroup l0 σ (nI i)) cw_X0_isGroup lk_X0_67 vi_X0_isGroup rfl rfl rfl rfl rfl rfl (Nat.le_of_ble_eq_true rfl) (Nat.le_of_ble_eq_true rfl) (AW_k1 (fun v13 h12 => ?_))
    refine AW_if_eq hT hK 28 (tgt := 59) rfl rfl (fun c14 => ?_) (fun c14 => ?_)
    · refine AW_g hT cl_X0 hK 33 1 (pc' := 60) (lo' := [some (.ref 12), some (.ref 1), some (.int d2), some (.int (nI i))]) (st' := [.int 0, .int (nI i), .ref 15]) (hp' := wd σ) rfl ?_
      refine AW_callV hT hK 34 [.int (nI i), .int 0] [] (m_X2_set_15 l0 σ (nI i) 0) cw_X2_set lk_X0_74 vi_X2_set rfl rfl rfl rfl rfl rfl (Nat.le_of_ble_eq_true rfl) (Nat.le_of_ble_eq_true rfl) (AW_kv (fun τ16 h15 => ?_))
      refine AW_g hT cl_X0 hK 35 1 (pc' := 66) (lo' := [some (.ref 12), some (.ref 1), some (.int d2), some (.int ((nI i) + 1))]) (st' := []) (hp' := wd (τ16)) rfl ?_
      refine AW_goto hT hK 36 (tgt := 32) rfl rfl ?_
      refine AW_to (lo' := [some (.ref 12), some (.ref 1), some (.int d2), some (.int (nI (i + 1)))]) (by rw [nI_1]) rfl rfl ?_
      subst h15; subst h12; skip
      exact ih (i + 1) _ (by omega) (fun s' hs' => kx s' ((congrArg (az_it _ n (i + 1)) (by simp only [b_X0_findAnew_32, if_pos c14])).trans hs'))
    · refine AW_g hT cl_X0 hK 29 2 (pc' := 53) (lo' := [some (.ref 12), some (.ref 1), some (.int d2), some (.int (nI i))]) (st' := [.int (nI i), .ref 12, .int (nI i), .ref 15]) (hp' := wd σ) rfl ?_
      refine AW_callV hT hK 31 [.int (nI i)] [.int (nI i), .ref 15] (m_X0_bestSplit l0 σ (nI i)) cw_X0_bestSplit lk_X0_71 vi_X0_bestSplit rfl rfl rfl rfl rfl rfl (Nat.le_of_ble_eq_true rfl) (Nat.le_of_ble_eq_true rfl) (AW_k1 (fun v18 h17 => ?_))
      refine AW_goto hT hK 32 (tgt := 60) rfl rfl ?_
      refine AW_callV hT hK 34 [.int (nI i), .int v18] [] (m_X2_set_15 l0 σ (nI i) v18) cw_X2_set lk_X0_74 vi_X2_set rfl rfl rfl rfl rfl rfl (Nat.le_of_ble_eq_true rfl) (Nat.le_of_ble_eq_true rfl) (AW_kv (fun τ20 h19 => ?_))
      refine AW_g hT cl_X0 hK 35 1 (pc' := 66) (lo' := [some (.ref 12), some (.ref 1), some (.int d2), some (.int ((nI i) + 1))]) (st' := []) (hp' := wd (τ20)) rfl ?_
      refine AW_goto hT hK 36 (tgt := 32) rfl rfl ?_
      refine AW_to (lo' := [some (.ref 12), some (.ref 1), some (.int d2), some (.int (nI (i + 1)))]) (by rw [nI_1]) rfl rfl ?_
      subst h19; subst h17; subst h12; skip
      exact ih (i + 1) _ (by omega) (fun s' hs' => kx s' ((congrArg (az_it _ n (i + 1)) (by simp only [b_X0_findAnew_32, if_neg c14])).trans hs'))
def x_X0_findAnew (σ : az_S) : az_S :=
  let τ2 := x_X0_partAll σ
  let s9 := az_ws (fun s : Int32 × az_S => decide (s.1 = 0)) (fun ι s => b_X0_findAnew_9 ι s.1 s.2) 12 0 (1, (τ2))
  let s22 := az_it (fun ι s => b_X0_findAnew_32 s9.1 ι s) 12 0 s9.2
  s22
set_option maxRecDepth 100000 in
set_option maxHeartbeats 4000000 in
theorem m_X0_findAnew (l0 : Launch) (σ : az_S) : AMet l0 yX0_findAnew cX0_findAnew 4 none ({ frames := 4, cells := 0, slots := 0, locals := 101 } : Room) false [.ref 12, .ref 1] (wd σ) (fun r h => r = none ∧ h = wd (x_X0_findAnew σ)) := by
  refine AMet_of (by decide +kernel) (by simp [Value.category]) (Nat.le_of_ble_eq_true rfl) (fun K hK hct hG hE => ?_)
  have hT := tt_X0_findAnew
  refine AW_g hT cl_X0 hK 0 2 (pc' := 2) (lo' := [some (.ref 12), some (.ref 1), none, none]) (st' := [.ref 1, .ref 12]) (hp' := wd σ) rfl ?_
  refine AW_callV hT hK 2 [.ref 1] [] (m_X0_partAll l0 σ) cw_X0_partAll lk_X0_59 vi_X0_partAll rfl rfl rfl rfl rfl rfl (Nat.le_of_ble_eq_true rfl) (Nat.le_of_ble_eq_true rfl) (AW_kv (fun τ2 h1 => ?_))
  refine AW_g hT cl_X0 hK 3 4 (pc' := 9) (lo' := [some (.ref 12), some (.ref 1), some (.int 1), some (.int 0)]) (st' := []) (hp' := wd (τ2)) rfl ?_
  refine AW_to (lo' := [some (.ref 12), some (.ref 1), some (.int 1), some (.int (nI 0))]) (rfl) rfl rfl ?_
  refine lp_X0_findAnew_9 hT hK 12 0 1 (τ2) (by first | rfl | omega) (fun s9 h10 => ?_)
  refine AW_g hT cl_X0 hK 17 2 (pc' := 32) (lo' := [some (.ref 12), some (.ref 1), some (.int s9.1), some (.int 0)]) (st' := []) (hp' := wd s9.2) rfl ?_
  refine AW_to (lo' := [some (.ref 12), some (.ref 1), some (.int s9.1), some (.int (nI 0))]) (rfl) rfl rfl ?_
  refine lp_X0_findAnew_32 hT hK s9.1 12 0 s9.2 (by first | rfl | omega) (fun s22 h23 => ?_)
  refine AW_vret hT hE 37 rfl (Nat.le_of_ble_eq_true rfl) (Nat.le_of_ble_eq_true rfl) ?_
  subst h23; subst h10; subst h1; exact ⟨rfl, congrArg wd (by simp only [x_X0_findAnew])⟩
end AZP
end
section
section AZP
def x_X2_at_26 (σ : az_S) (p0 : Int32) : Int32 :=
  if p0 < 0 then
    0
  else
    if 12 ≤ p0 then
      0
    else
      ((σ.2.1 27) p0.toNatClampNeg)
set_option maxRecDepth 100000 in
set_option maxHeartbeats 4000000 in
theorem m_X2_at_26 (l0 : Launch) (σ : az_S) (p0 : Int32) : AMet l0 yX2_at cX2_at 2 (some .int) ({ frames := 0, cells := 0, slots := 0, locals := 0 } : Room) false [.ref 26, .int p0] (wd σ) (fun r h => r = some (.int (x_X2_at_26 σ p0)) ∧ h = wd σ) := by
  refine AMet_of (by decide +kernel) (by simp [Value.category]) (Nat.le_of_ble_eq_true rfl) (fun K hK hct hG hE => ?_)
  have hT := tt_X2_at
  refine AW_g hT cl_X2 hK 0 1 (pc' := 1) (lo' := [some (.ref 26), some (.int p0)]) (st' := [.int p0]) (hp' := wd σ) rfl ?_
  refine AW_if_lt hT hK 1 (tgt := 22) rfl rfl (fun c1 => ?_) (fun c1 => ?_)
  · refine AW_g hT cl_X2 hK 12 1 (pc' := 23) (lo' := [some (.ref 26), some (.int p0)]) (st' := [.int 0]) (hp' := wd σ) rfl ?_
    refine AW_iret hT hE 13 rfl rfl rfl (Nat.le_of_ble_eq_true rfl) (Nat.le_of_ble_eq_true rfl) ?_
    exact ⟨by simp only [x_X2_at_26, if_pos c1], rfl⟩
  · refine AW_g hT cl_X2 hK 2 4 (pc' := 10) (lo' := [some (.ref 26), some (.int p0)]) (st' := [.int 12, .int p0]) (hp' := wd σ) rfl ?_
    refine AW_icmp_ge hT hK 6 (tgt := 22) rfl rfl (fun c2 => ?_) (fun c2 => ?_)
    · refine AW_g hT cl_X2 hK 12 1 (pc' := 23) (lo' := [some (.ref 26), some (.int p0)]) (st' := [.int 0]) (hp' := wd σ) rfl ?_
      refine AW_iret hT hE 13 rfl rfl rfl (Nat.le_of_ble_eq_true rfl) (Nat.le_of_ble_eq_true rfl) ?_
      exact ⟨by simp only [x_X2_at_26, if_neg c1, if_pos c2], rfl⟩
    · refine AW_g hT cl_X2 hK 7 3 (pc' := 18) (lo' := [some (.ref 26), some (.int p0)]) (st' := [.int p0, .ref 27]) (hp' := wd σ) rfl ?_
      refine AW_ialdx hT hK 10 rfl (n := 12) (f := (σ.2.1 27)) rfl (az_in12 c1 c2) ?_
      refine AW_goto hT hK 11 (tgt := 23) rfl rfl ?_
      refine AW_iret hT hE 13 rfl rfl rfl (Nat.le_of_ble_eq_true rfl) (Nat.le_of_ble_eq_true rfl) ?_
      exact ⟨by simp only [x_X2_at_26, if_neg c1, if_neg c2], rfl⟩
def x_X2_at_28 (σ : az_S) (p0 : Int32) : Int32 :=
  if p0 < 0 then
    0
  else
    if 12 ≤ p0 then
      0
    else
      ((σ.2.1 29) p0.toNatClampNeg)
set_option maxRecDepth 100000 in
set_option maxHeartbeats 4000000 in
theorem m_X2_at_28 (l0 : Launch) (σ : az_S) (p0 : Int32) : AMet l0 yX2_at cX2_at 2 (some .int) ({ frames := 0, cells := 0, slots := 0, locals := 0 } : Room) false [.ref 28, .int p0] (wd σ) (fun r h => r = some (.int (x_X2_at_28 σ p0)) ∧ h = wd σ) := by
  refine AMet_of (by decide +kernel) (by simp [Value.category]) (Nat.le_of_ble_eq_true rfl) (fun K hK hct hG hE => ?_)
  have hT := tt_X2_at
  refine AW_g hT cl_X2 hK 0 1 (pc' := 1) (lo' := [some (.ref 28), some (.int p0)]) (st' := [.int p0]) (hp' := wd σ) rfl ?_
  refine AW_if_lt hT hK 1 (tgt := 22) rfl rfl (fun c1 => ?_) (fun c1 => ?_)
  · refine AW_g hT cl_X2 hK 12 1 (pc' := 23) (lo' := [some (.ref 28), some (.int p0)]) (st' := [.int 0]) (hp' := wd σ) rfl ?_
    refine AW_iret hT hE 13 rfl rfl rfl (Nat.le_of_ble_eq_true rfl) (Nat.le_of_ble_eq_true rfl) ?_
    exact ⟨by simp only [x_X2_at_28, if_pos c1], rfl⟩
  · refine AW_g hT cl_X2 hK 2 4 (pc' := 10) (lo' := [some (.ref 28), some (.int p0)]) (st' := [.int 12, .int p0]) (hp' := wd σ) rfl ?_
    refine AW_icmp_ge hT hK 6 (tgt := 22) rfl rfl (fun c2 => ?_) (fun c2 => ?_)
    · refine AW_g hT cl_X2 hK 12 1 (pc' := 23) (lo' := [some (.ref 28), some (.int p0)]) (st' := [.int 0]) (hp' := wd σ) rfl ?_
      refine AW_iret hT hE 13 rfl rfl rfl (Nat.le_of_ble_eq_true rfl) (Nat.le_of_ble_eq_true rfl) ?_
      exact ⟨by simp only [x_X2_at_28, if_neg c1, if_pos c2], rfl⟩
    · refine AW_g hT cl_X2 hK 7 3 (pc' := 18) (lo' := [some (.ref 28), some (.int p0)]) (st' := [.int p0, .ref 29]) (hp' := wd σ) rfl ?_
      refine AW_ialdx hT hK 10 rfl (n := 12) (f := (σ.2.1 29)) rfl (az_in12 c1 c2) ?_
      refine AW_goto hT hK 11 (tgt := 23) rfl rfl ?_
      refine AW_iret hT hE 13 rfl rfl rfl (Nat.le_of_ble_eq_true rfl) (Nat.le_of_ble_eq_true rfl) ?_
      exact ⟨by simp only [x_X2_at_28, if_neg c1, if_neg c2], rfl⟩
def x_X1_countOf (σ : az_S) (p0 : Int32) (p1 : Int32) : Int32 :=
  let v2 := x_X2_at_26 σ p1
  let v4 := x_X2_at_28 σ p0
  (v2 * v4)
set_option maxRecDepth 100000 in
set_option maxHeartbeats 4000000 in
theorem m_X1_countOf (l0 : Launch) (σ : az_S) (p0 : Int32) (p1 : Int32) : AMet l0 yX1_countOf cX1_countOf 3 (some .int) ({ frames := 1, cells := 0, slots := 0, locals := 21 } : Room) false [.ref 25, .int p0, .int p1] (wd σ) (fun r h => r = some (.int (x_X1_countOf σ p0 p1)) ∧ h = wd σ) := by
  refine AMet_of (by decide +kernel) (by simp [Value.category]) (Nat.le_of_ble_eq_true rfl) (fun K hK hct hG hE => ?_)
  have hT := tt_X1_countOf
  refine AW_g hT cl_X1 hK 0 3 (pc' := 5) (lo' := [some (.ref 25), some (.int p0), some (.int p1)]) (st' := [.int p1, .ref 26]) (hp' := wd σ) rfl ?_
  refine AW_callV hT hK 3 [.int p1] [] (m_X2_at_26 l0 σ p1) cw_X2_at lk_X1_40 vi_X2_at rfl rfl rfl rfl rfl rfl (Nat.le_of_ble_eq_true rfl) (Nat.le_of_ble_eq_true rfl) (AW_k1 (fun v2 h1 => ?_))
  refine AW_g hT cl_X1 hK 4 3 (pc' := 13) (lo' := [some (.ref 25), some (.int p0), some (.int p1)]) (st' := [.int p0, .ref 28, .int v2]) (hp' := wd σ) rfl ?_
  refine AW_callV hT hK 7 [.int p0] [.int v2] (m_X2_at_28 l0 σ p0) cw_X2_at lk_X1_40 vi_X2_at rfl rfl rfl rfl rfl rfl (Nat.le_of_ble_eq_true rfl) (Nat.le_of_ble_eq_true rfl) (AW_k1 (fun v4 h3 => ?_))
  refine AW_g hT cl_X1 hK 8 1 (pc' := 17) (lo' := [some (.ref 25), some (.int p0), some (.int p1)]) (st' := [.int (v2 * v4)]) (hp' := wd σ) rfl ?_
  refine AW_iret hT hE 9 rfl rfl rfl (Nat.le_of_ble_eq_true rfl) (Nat.le_of_ble_eq_true rfl) ?_
  subst h3; subst h1; exact ⟨by simp only [x_X1_countOf], rfl⟩
def x_X1_wholeWays (σ : az_S) : Int32 :=
  (σ.1 5)
set_option maxRecDepth 100000 in
set_option maxHeartbeats 4000000 in
theorem m_X1_wholeWays (l0 : Launch) (σ : az_S) : AMet l0 yX1_wholeWays cX1_wholeWays 1 (some .int) ({ frames := 0, cells := 0, slots := 0, locals := 0 } : Room) false [.ref 25] (wd σ) (fun r h => r = some (.int (x_X1_wholeWays σ)) ∧ h = wd σ) := by
  refine AMet_of (by decide +kernel) (by simp [Value.category]) (Nat.le_of_ble_eq_true rfl) (fun K hK hct hG hE => ?_)
  have hT := tt_X1_wholeWays
  refine AW_g hT cl_X1 hK 0 2 (pc' := 4) (lo' := [some (.ref 25)]) (st' := [.int (σ.1 5)]) (hp' := wd σ) rfl ?_
  refine AW_iret hT hE 2 rfl rfl rfl (Nat.le_of_ble_eq_true rfl) (Nat.le_of_ble_eq_true rfl) ?_
  exact ⟨by simp only [x_X1_wholeWays], rfl⟩
def x_X1_lengthOfMain (σ : az_S) : Int32 :=
  (σ.1 6)
set_option maxRecDepth 100000 in
set_option maxHeartbeats 4000000 in
theorem m_X1_lengthOfMain (l0 : Launch) (σ : az_S) : AMet l0 yX1_lengthOfMain cX1_lengthOfMain 1 (some .int) ({ frames := 0, cells := 0, slots := 0, locals := 0 } : Room) false [.ref 25] (wd σ) (fun r h => r = some (.int (x_X1_lengthOfMain σ)) ∧ h = wd σ) := by
  refine AMet_of (by decide +kernel) (by simp [Value.category]) (Nat.le_of_ble_eq_true rfl) (fun K hK hct hG hE => ?_)
  have hT := tt_X1_lengthOfMain
  refine AW_g hT cl_X1 hK 0 2 (pc' := 4) (lo' := [some (.ref 25)]) (st' := [.int (σ.1 6)]) (hp' := wd σ) rfl ?_
  refine AW_iret hT hE 2 rfl rfl rfl (Nat.le_of_ble_eq_true rfl) (Nat.le_of_ble_eq_true rfl) ?_
  exact ⟨by simp only [x_X1_lengthOfMain], rfl⟩
def x_X2_at_34 (σ : az_S) (p0 : Int32) : Int32 :=
  if p0 < 0 then
    0
  else
    if 12 ≤ p0 then
      0
    else
      ((σ.2.1 35) p0.toNatClampNeg)
set_option maxRecDepth 100000 in
set_option maxHeartbeats 4000000 in
theorem m_X2_at_34 (l0 : Launch) (σ : az_S) (p0 : Int32) : AMet l0 yX2_at cX2_at 2 (some .int) ({ frames := 0, cells := 0, slots := 0, locals := 0 } : Room) false [.ref 34, .int p0] (wd σ) (fun r h => r = some (.int (x_X2_at_34 σ p0)) ∧ h = wd σ) := by
  refine AMet_of (by decide +kernel) (by simp [Value.category]) (Nat.le_of_ble_eq_true rfl) (fun K hK hct hG hE => ?_)
  have hT := tt_X2_at
  refine AW_g hT cl_X2 hK 0 1 (pc' := 1) (lo' := [some (.ref 34), some (.int p0)]) (st' := [.int p0]) (hp' := wd σ) rfl ?_
  refine AW_if_lt hT hK 1 (tgt := 22) rfl rfl (fun c1 => ?_) (fun c1 => ?_)
  · refine AW_g hT cl_X2 hK 12 1 (pc' := 23) (lo' := [some (.ref 34), some (.int p0)]) (st' := [.int 0]) (hp' := wd σ) rfl ?_
    refine AW_iret hT hE 13 rfl rfl rfl (Nat.le_of_ble_eq_true rfl) (Nat.le_of_ble_eq_true rfl) ?_
    exact ⟨by simp only [x_X2_at_34, if_pos c1], rfl⟩
  · refine AW_g hT cl_X2 hK 2 4 (pc' := 10) (lo' := [some (.ref 34), some (.int p0)]) (st' := [.int 12, .int p0]) (hp' := wd σ) rfl ?_
    refine AW_icmp_ge hT hK 6 (tgt := 22) rfl rfl (fun c2 => ?_) (fun c2 => ?_)
    · refine AW_g hT cl_X2 hK 12 1 (pc' := 23) (lo' := [some (.ref 34), some (.int p0)]) (st' := [.int 0]) (hp' := wd σ) rfl ?_
      refine AW_iret hT hE 13 rfl rfl rfl (Nat.le_of_ble_eq_true rfl) (Nat.le_of_ble_eq_true rfl) ?_
      exact ⟨by simp only [x_X2_at_34, if_neg c1, if_pos c2], rfl⟩
    · refine AW_g hT cl_X2 hK 7 3 (pc' := 18) (lo' := [some (.ref 34), some (.int p0)]) (st' := [.int p0, .ref 35]) (hp' := wd σ) rfl ?_
      refine AW_ialdx hT hK 10 rfl (n := 12) (f := (σ.2.1 35)) rfl (az_in12 c1 c2) ?_
      refine AW_goto hT hK 11 (tgt := 23) rfl rfl ?_
      refine AW_iret hT hE 13 rfl rfl rfl (Nat.le_of_ble_eq_true rfl) (Nat.le_of_ble_eq_true rfl) ?_
      exact ⟨by simp only [x_X2_at_34, if_neg c1, if_neg c2], rfl⟩
def x_X1_paperOfMain (σ : az_S) (p0 : Int32) : Int32 :=
  let v2 := x_X2_at_34 σ p0
  v2
set_option maxRecDepth 100000 in
set_option maxHeartbeats 4000000 in
theorem m_X1_paperOfMain (l0 : Launch) (σ : az_S) (p0 : Int32) : AMet l0 yX1_paperOfMain cX1_paperOfMain 2 (some .int) ({ frames := 1, cells := 0, slots := 0, locals := 21 } : Room) false [.ref 25, .int p0] (wd σ) (fun r h => r = some (.int (x_X1_paperOfMain σ p0)) ∧ h = wd σ) := by
  refine AMet_of (by decide +kernel) (by simp [Value.category]) (Nat.le_of_ble_eq_true rfl) (fun K hK hct hG hE => ?_)
  have hT := tt_X1_paperOfMain
  refine AW_g hT cl_X1 hK 0 3 (pc' := 5) (lo' := [some (.ref 25), some (.int p0)]) (st' := [.int p0, .ref 34]) (hp' := wd σ) rfl ?_
  refine AW_callV hT hK 3 [.int p0] [] (m_X2_at_34 l0 σ p0) cw_X2_at lk_X1_40 vi_X2_at rfl rfl rfl rfl rfl rfl (Nat.le_of_ble_eq_true rfl) (Nat.le_of_ble_eq_true rfl) (AW_k1 (fun v2 h1 => ?_))
  refine AW_iret hT hE 4 rfl rfl rfl (Nat.le_of_ble_eq_true rfl) (Nat.le_of_ble_eq_true rfl) ?_
  subst h1; exact ⟨by simp only [x_X1_paperOfMain], rfl⟩
def x_X1_sumOfMain (σ : az_S) : Int32 :=
  (σ.1 7)
set_option maxRecDepth 100000 in
set_option maxHeartbeats 4000000 in
theorem m_X1_sumOfMain (l0 : Launch) (σ : az_S) : AMet l0 yX1_sumOfMain cX1_sumOfMain 1 (some .int) ({ frames := 0, cells := 0, slots := 0, locals := 0 } : Room) false [.ref 25] (wd σ) (fun r h => r = some (.int (x_X1_sumOfMain σ)) ∧ h = wd σ) := by
  refine AMet_of (by decide +kernel) (by simp [Value.category]) (Nat.le_of_ble_eq_true rfl) (fun K hK hct hG hE => ?_)
  have hT := tt_X1_sumOfMain
  refine AW_g hT cl_X1 hK 0 2 (pc' := 4) (lo' := [some (.ref 25)]) (st' := [.int (σ.1 7)]) (hp' := wd σ) rfl ?_
  refine AW_iret hT hE 2 rfl rfl rfl (Nat.le_of_ble_eq_true rfl) (Nat.le_of_ble_eq_true rfl) ?_
  exact ⟨by simp only [x_X1_sumOfMain], rfl⟩
def x_X2_set_34 (σ : az_S) (p0 : Int32) (p1 : Int32) : az_S :=
  if p0 < 0 then
    σ
  else
    if 12 ≤ p0 then
      σ
    else
      (sG σ 35 (va_up (σ.2.1 35) p0.toNatClampNeg p1))
set_option maxRecDepth 100000 in
set_option maxHeartbeats 4000000 in
theorem m_X2_set_34 (l0 : Launch) (σ : az_S) (p0 : Int32) (p1 : Int32) : AMet l0 yX2_set cX2_set 3 none ({ frames := 0, cells := 0, slots := 0, locals := 0 } : Room) false [.ref 34, .int p0, .int p1] (wd σ) (fun r h => r = none ∧ h = wd (x_X2_set_34 σ p0 p1)) := by
  refine AMet_of (by decide +kernel) (by simp [Value.category]) (Nat.le_of_ble_eq_true rfl) (fun K hK hct hG hE => ?_)
  have hT := tt_X2_set
  refine AW_g hT cl_X2 hK 0 1 (pc' := 1) (lo' := [some (.ref 34), some (.int p0), some (.int p1)]) (st' := [.int p0]) (hp' := wd σ) rfl ?_
  refine AW_if_lt hT hK 1 (tgt := 20) rfl rfl (fun c1 => ?_) (fun c1 => ?_)
  · refine AW_vret hT hE 12 rfl (Nat.le_of_ble_eq_true rfl) (Nat.le_of_ble_eq_true rfl) ?_
    exact ⟨rfl, congrArg wd (by simp only [x_X2_set_34, if_pos c1])⟩
  · refine AW_g hT cl_X2 hK 2 4 (pc' := 10) (lo' := [some (.ref 34), some (.int p0), some (.int p1)]) (st' := [.int 12, .int p0]) (hp' := wd σ) rfl ?_
    refine AW_icmp_ge hT hK 6 (tgt := 20) rfl rfl (fun c2 => ?_) (fun c2 => ?_)
    · refine AW_vret hT hE 12 rfl (Nat.le_of_ble_eq_true rfl) (Nat.le_of_ble_eq_true rfl) ?_
      exact ⟨rfl, congrArg wd (by simp only [x_X2_set_34, if_neg c1, if_pos c2])⟩
    · refine AW_g hT cl_X2 hK 7 4 (pc' := 19) (lo' := [some (.ref 34), some (.int p0), some (.int p1)]) (st' := [.int p1, .int p0, .ref 35]) (hp' := wd σ) rfl ?_
      refine AW_iastx hT hK 11 rfl (n := 12) (f := (σ.2.1 35)) rfl (az_in12 c1 c2) ?_
      refine AW_to (hp' := wd (sG σ 35 (va_up (σ.2.1 35) p0.toNatClampNeg p1))) rfl rfl rfl ?_
      refine AW_vret hT hE 12 rfl (Nat.le_of_ble_eq_true rfl) (Nat.le_of_ble_eq_true rfl) ?_
      exact ⟨rfl, congrArg wd (by simp only [x_X2_set_34, if_neg c1, if_neg c2])⟩
def x_X2_at_32 (σ : az_S) (p0 : Int32) : Int32 :=
  if p0 < 0 then
    0
  else
    if 12 ≤ p0 then
      0
    else
      ((σ.2.1 33) p0.toNatClampNeg)
set_option maxRecDepth 100000 in
set_option maxHeartbeats 4000000 in
theorem m_X2_at_32 (l0 : Launch) (σ : az_S) (p0 : Int32) : AMet l0 yX2_at cX2_at 2 (some .int) ({ frames := 0, cells := 0, slots := 0, locals := 0 } : Room) false [.ref 32, .int p0] (wd σ) (fun r h => r = some (.int (x_X2_at_32 σ p0)) ∧ h = wd σ) := by
  refine AMet_of (by decide +kernel) (by simp [Value.category]) (Nat.le_of_ble_eq_true rfl) (fun K hK hct hG hE => ?_)
  have hT := tt_X2_at
  refine AW_g hT cl_X2 hK 0 1 (pc' := 1) (lo' := [some (.ref 32), some (.int p0)]) (st' := [.int p0]) (hp' := wd σ) rfl ?_
  refine AW_if_lt hT hK 1 (tgt := 22) rfl rfl (fun c1 => ?_) (fun c1 => ?_)
  · refine AW_g hT cl_X2 hK 12 1 (pc' := 23) (lo' := [some (.ref 32), some (.int p0)]) (st' := [.int 0]) (hp' := wd σ) rfl ?_
    refine AW_iret hT hE 13 rfl rfl rfl (Nat.le_of_ble_eq_true rfl) (Nat.le_of_ble_eq_true rfl) ?_
    exact ⟨by simp only [x_X2_at_32, if_pos c1], rfl⟩
  · refine AW_g hT cl_X2 hK 2 4 (pc' := 10) (lo' := [some (.ref 32), some (.int p0)]) (st' := [.int 12, .int p0]) (hp' := wd σ) rfl ?_
    refine AW_icmp_ge hT hK 6 (tgt := 22) rfl rfl (fun c2 => ?_) (fun c2 => ?_)
    · refine AW_g hT cl_X2 hK 12 1 (pc' := 23) (lo' := [some (.ref 32), some (.int p0)]) (st' := [.int 0]) (hp' := wd σ) rfl ?_
      refine AW_iret hT hE 13 rfl rfl rfl (Nat.le_of_ble_eq_true rfl) (Nat.le_of_ble_eq_true rfl) ?_
      exact ⟨by simp only [x_X2_at_32, if_neg c1, if_pos c2], rfl⟩
    · refine AW_g hT cl_X2 hK 7 3 (pc' := 18) (lo' := [some (.ref 32), some (.int p0)]) (st' := [.int p0, .ref 33]) (hp' := wd σ) rfl ?_
      refine AW_ialdx hT hK 10 rfl (n := 12) (f := (σ.2.1 33)) rfl (az_in12 c1 c2) ?_
      refine AW_goto hT hK 11 (tgt := 23) rfl rfl ?_
      refine AW_iret hT hE 13 rfl rfl rfl (Nat.le_of_ble_eq_true rfl) (Nat.le_of_ble_eq_true rfl) ?_
      exact ⟨by simp only [x_X2_at_32, if_neg c1, if_neg c2], rfl⟩
def b_X1_follow_9 (d1 : Int32) (i : Nat) (w2 : Int32) (σ : az_S) : Int32 × az_S :=
  let τ4 := x_X2_set_34 σ (nI i) w2
  let u5 := ((τ4.1 6) + 1)
  let v8 := x_X2_at_32 (sF τ4 6 u5) w2
  (v8, (sF τ4 6 u5))
set_option maxRecDepth 100000 in
set_option maxHeartbeats 4000000 in
theorem lp_X1_follow_9 {K : az_K} {l0 : Launch} (hT : az_Tb cX1_follow tb_X1_follow) (hK : az_OK K RX1 cX1_follow ({ frames := 1, cells := 0, slots := 0, locals := 22 } : Room) l0) (d1 : Int32) :
    ∀ (n i : Nat) (w2 : Int32) (σ : az_S) (hi : i + n = 12) (kx : ∀ s' : Int32 × az_S, az_ws (fun s : Int32 × az_S => decide (s.1 = (-1))) (fun ι s => b_X1_follow_9 d1 ι s.1 s.2) n i (w2, σ) = s' → AW K 0 0 54 [some (.ref 25), some (.int d1), some (.int s'.1), none] [] (wd s'.2)), AW K 0 0 9 [some (.ref 25), some (.int d1), some (.int w2), some (.int (nI i))] [] (wd σ) := by
  intro n
  induction n with
  | zero =>
    intro i w2 σ hi kx
    refine AW_g hT cl_X1 hK 7 2 (pc' := 12) (lo' := [some (.ref 25), some (.int d1), some (.int w2), some (.int (nI i))]) (st' := [.int 12, .int (nI i)]) (hp' := wd σ) rfl ?_
    refine AW_icmp_ge hT hK 9 (tgt := 54) rfl rfl (fun c9 => ?_) (fun c9 => absurd (az_c0 hi) c9)
    refine AW_msk [true, true, true, false] (lo' := [some (.ref 25), some (.int d1), some (.int w2), none]) rfl ?_
    exact kx (w2, σ) rfl
  | succ n ih =>
    intro i w2 σ hi kx
    refine AW_g hT cl_X1 hK 7 2 (pc' := 12) (lo' := [some (.ref 25), some (.int d1), some (.int w2), some (.int (nI i))]) (st' := [.int 12, .int (nI i)]) (hp' := wd σ) rfl ?_
    refine AW_icmp_ge hT hK 9 (tgt := 54) rfl rfl (fun c1 => absurd c1 (az_c1 hi)) (fun c1 => ?_)
    refine AW_g hT cl_X1 hK 10 2 (pc' := 17) (lo' := [some (.ref 25), some (.int d1), some (.int w2), some (.int (nI i))]) (st' := [.int (-1), .int w2]) (hp' := wd σ) rfl ?_
    refine AW_icmp_eq hT hK 12 (tgt := 54) rfl rfl (fun c2 => ?_) (fun c2 => ?_)
    · refine AW_msk [true, true, true, false] (lo' := [some (.ref 25), some (.int d1), some (.int w2), none]) rfl ?_
      exact kx (w2, σ) (az_ws_st (by simp only [c2, decide_true]))
    refine AW_g hT cl_X1 hK 13 4 (pc' := 26) (lo' := [some (.ref 25), some (.int d1), some (.int w2), some (.int (nI i))]) (st' := [.int w2, .int (nI i), .ref 34]) (hp' := wd σ) rfl ?_
    refine AW_callV hT hK 17 [.int (nI i), .int w2] [] (m_X2_set_34 l0 σ (nI i) w2) cw_X2_set lk_X1_53 vi_X2_set rfl rfl rfl rfl rfl rfl (Nat.le_of_ble_eq_true rfl) (Nat.le_of_ble_eq_true rfl) (AW_kv (fun τ4 h3 => ?_))
    refine AW_g hT cl_X1 hK 18 5 (pc' := 36) (lo' := [some (.ref 25), some (.int d1), some (.int w2), some (.int (nI i))]) (st' := [.int ((τ4.1 6) + 1), .ref 25]) (hp' := wd (τ4)) rfl ?_
    refine AW_topi (fun u5 h6 => ?_)
    refine AW_g hT cl_X1 hK 23 4 (pc' := 44) (lo' := [some (.ref 25), some (.int d1), some (.int w2), some (.int (nI i))]) (st' := [.int w2, .ref 32]) (hp' := wd (sF τ4 6 u5)) rfl ?_
    refine AW_callV hT hK 27 [.int w2] [] (m_X2_at_32 l0 (sF τ4 6 u5) w2) cw_X2_at lk_X1_40 vi_X2_at rfl rfl rfl rfl rfl rfl (Nat.le_of_ble_eq_true rfl) (Nat.le_of_ble_eq_true rfl) (AW_k1 (fun v8 h7 => ?_))
    refine AW_g hT cl_X1 hK 28 2 (pc' := 51) (lo' := [some (.ref 25), some (.int d1), some (.int v8), some (.int ((nI i) + 1))]) (st' := []) (hp' := wd (sF τ4 6 u5)) rfl ?_
    refine AW_goto hT hK 30 (tgt := 9) rfl rfl ?_
    refine AW_to (lo' := [some (.ref 25), some (.int d1), some (.int v8), some (.int (nI (i + 1)))]) (by rw [nI_1]) rfl rfl ?_
    subst h7; subst h6; subst h3; skip
    exact ih (i + 1) _ _ (by omega) (fun s' hs' => kx s' ((az_ws_go (by simp only [c2, decide_false])).trans ((congrArg (az_ws (fun s : Int32 × az_S => decide (s.1 = (-1))) _ n (i + 1)) (by simp only [b_X1_follow_9])).trans hs')))
def x_X1_follow (σ : az_S) (p0 : Int32) : az_S :=
  let s10 := az_ws (fun s : Int32 × az_S => decide (s.1 = (-1))) (fun ι s => b_X1_follow_9 p0 ι s.1 s.2) 12 0 (p0, (sF σ 6 0))
  s10.2
set_option maxRecDepth 100000 in
set_option maxHeartbeats 4000000 in
theorem m_X1_follow (l0 : Launch) (σ : az_S) (p0 : Int32) : AMet l0 yX1_follow cX1_follow 4 none ({ frames := 1, cells := 0, slots := 0, locals := 22 } : Room) false [.ref 25, .int p0] (wd σ) (fun r h => r = none ∧ h = wd (x_X1_follow σ p0)) := by
  refine AMet_of (by decide +kernel) (by simp [Value.category]) (Nat.le_of_ble_eq_true rfl) (fun K hK hct hG hE => ?_)
  have hT := tt_X1_follow
  refine AW_g hT cl_X1 hK 0 7 (pc' := 9) (lo' := [some (.ref 25), some (.int p0), some (.int p0), some (.int 0)]) (st' := []) (hp' := wd (sF σ 6 0)) rfl ?_
  refine AW_to (lo' := [some (.ref 25), some (.int p0), some (.int p0), some (.int (nI 0))]) (rfl) rfl rfl ?_
  refine lp_X1_follow_9 hT hK p0 12 0 p0 (sF σ 6 0) (by first | rfl | omega) (fun s10 h11 => ?_)
  refine AW_vret hT hE 31 rfl (Nat.le_of_ble_eq_true rfl) (Nat.le_of_ble_eq_true rfl) ?_
  subst h11; exact ⟨rfl, congrArg wd (by simp only [x_X1_follow])⟩
def b_X1_sumOver_26_4 (σ : az_S) (d1 : Int32) (i : Nat) (w2 : Int32) : Int32 :=
  let v3 := x_X5_holds σ d1 (nI i)
  if v3 = 0 then
    w2
  else
    let v6 := x_X2_at_26 σ (nI i)
    (w2 + v6)
set_option maxRecDepth 100000 in
set_option maxHeartbeats 4000000 in
theorem lp_X1_sumOver_26_4 {K : az_K} {l0 : Launch} (hT : az_Tb cX1_sumOver tb_X1_sumOver) (hK : az_OK K RX1 cX1_sumOver ({ frames := 1, cells := 0, slots := 0, locals := 21 } : Room) l0) (σ : az_S) (d1 : Int32) :
    ∀ (n i : Nat) (w2 : Int32) (hi : i + n = 12) (kx : ∀ s' : Int32, az_it (fun ι s => b_X1_sumOver_26_4 σ d1 ι s) n i w2 = s' → AW K 0 0 32 [some (.ref 26), some (.int d1), some (.int s'), none] [] (wd σ)), AW K 0 0 4 [some (.ref 26), some (.int d1), some (.int w2), some (.int (nI i))] [] (wd σ) := by
  intro n
  induction n with
  | zero =>
    intro i w2 hi kx
    refine AW_g hT cl_X1 hK 4 2 (pc' := 7) (lo' := [some (.ref 26), some (.int d1), some (.int w2), some (.int (nI i))]) (st' := [.int 12, .int (nI i)]) (hp' := wd σ) rfl ?_
    refine AW_icmp_ge hT hK 6 (tgt := 32) rfl rfl (fun c7 => ?_) (fun c7 => absurd (az_c0 hi) c7)
    refine AW_msk [true, true, true, false] (lo' := [some (.ref 26), some (.int d1), some (.int w2), none]) rfl ?_
    exact kx w2 rfl
  | succ n ih =>
    intro i w2 hi kx
    refine AW_g hT cl_X1 hK 4 2 (pc' := 7) (lo' := [some (.ref 26), some (.int d1), some (.int w2), some (.int (nI i))]) (st' := [.int 12, .int (nI i)]) (hp' := wd σ) rfl ?_
    refine AW_icmp_ge hT hK 6 (tgt := 32) rfl rfl (fun c1 => absurd c1 (az_c1 hi)) (fun c1 => ?_)
    refine AW_g hT cl_X1 hK 7 2 (pc' := 12) (lo' := [some (.ref 26), some (.int d1), some (.int w2), some (.int (nI i))]) (st' := [.int (nI i), .int d1]) (hp' := wd σ) rfl ?_
    refine AW_callSN hT hK 9 [.int d1, .int (nI i)] [] (m_X5_holds l0 σ d1 (nI i)) cw_X5_holds lk_X1_68 sm_X5_holds rfl rfl rfl rfl (Nat.le_of_ble_eq_true rfl) (Nat.le_of_ble_eq_true rfl) (AW_k1 (fun v3 h2 => ?_))
    refine AW_if_eq hT hK 10 (tgt := 26) rfl rfl (fun c4 => ?_) (fun c4 => ?_)
    · refine AW_g hT cl_X1 hK 17 1 (pc' := 29) (lo' := [some (.ref 26), some (.int d1), some (.int w2), some (.int ((nI i) + 1))]) (st' := []) (hp' := wd σ) rfl ?_
      refine AW_goto hT hK 18 (tgt := 4) rfl rfl ?_
      refine AW_to (lo' := [some (.ref 26), some (.int d1), some (.int w2), some (.int (nI (i + 1)))]) (by rw [nI_1]) rfl rfl ?_
      subst h2; skip
      exact ih (i + 1) _ (by omega) (fun s' hs' => kx s' ((congrArg (az_it _ n (i + 1)) (by simp only [b_X1_sumOver_26_4, if_pos c4])).trans hs'))
    · refine AW_g hT cl_X1 hK 11 3 (pc' := 21) (lo' := [some (.ref 26), some (.int d1), some (.int w2), some (.int (nI i))]) (st' := [.int (nI i), .ref 26, .int w2]) (hp' := wd σ) rfl ?_
      refine AW_callV hT hK 14 [.int (nI i)] [.int w2] (m_X2_at_26 l0 σ (nI i)) cw_X2_at lk_X1_40 vi_X2_at rfl rfl rfl rfl rfl rfl (Nat.le_of_ble_eq_true rfl) (Nat.le_of_ble_eq_true rfl) (AW_k1 (fun v6 h5 => ?_))
      refine AW_g hT cl_X1 hK 15 3 (pc' := 29) (lo' := [some (.ref 26), some (.int d1), some (.int (w2 + v6)), some (.int ((nI i) + 1))]) (st' := []) (hp' := wd σ) rfl ?_
      refine AW_goto hT hK 18 (tgt := 4) rfl rfl ?_
      refine AW_to (lo' := [some (.ref 26), some (.int d1), some (.int (w2 + v6)), some (.int (nI (i + 1)))]) (by rw [nI_1]) rfl rfl ?_
      subst h5; subst h2; skip
      exact ih (i + 1) _ (by omega) (fun s' hs' => kx s' ((congrArg (az_it _ n (i + 1)) (by simp only [b_X1_sumOver_26_4, if_neg c4])).trans hs'))
def x_X1_sumOver_26 (σ : az_S) (p0 : Int32) : Int32 :=
  let s8 := az_it (fun ι s => b_X1_sumOver_26_4 σ p0 ι s) 12 0 0
  if p0 = 0 then
    1
  else
    s8
set_option maxRecDepth 100000 in
set_option maxHeartbeats 4000000 in
theorem m_X1_sumOver_26 (l0 : Launch) (σ : az_S) (p0 : Int32) : AMet l0 yX1_sumOver cX1_sumOver 4 (some .int) ({ frames := 1, cells := 0, slots := 0, locals := 21 } : Room) false [.ref 26, .int p0] (wd σ) (fun r h => r = some (.int (x_X1_sumOver_26 σ p0)) ∧ h = wd σ) := by
  refine AMet_of (by decide +kernel) (by simp [Value.category]) (Nat.le_of_ble_eq_true rfl) (fun K hK hct hG hE => ?_)
  have hT := tt_X1_sumOver
  refine AW_g hT cl_X1 hK 0 4 (pc' := 4) (lo' := [some (.ref 26), some (.int p0), some (.int 0), some (.int 0)]) (st' := []) (hp' := wd σ) rfl ?_
  refine AW_to (lo' := [some (.ref 26), some (.int p0), some (.int 0), some (.int (nI 0))]) (rfl) rfl rfl ?_
  refine lp_X1_sumOver_26_4 hT hK σ p0 12 0 0 (by first | rfl | omega) (fun s8 h9 => ?_)
  refine AW_g hT cl_X1 hK 19 1 (pc' := 33) (lo' := [some (.ref 26), some (.int p0), some (.int s8), none]) (st' := [.int p0]) (hp' := wd σ) rfl ?_
  refine AW_if_ne hT hK 20 (tgt := 40) rfl rfl (fun c10 => ?_) (fun c10 => ?_)
  · refine AW_g hT cl_X1 hK 23 1 (pc' := 41) (lo' := [some (.ref 26), some (.int p0), some (.int s8), none]) (st' := [.int s8]) (hp' := wd σ) rfl ?_
    refine AW_iret hT hE 24 rfl rfl rfl (Nat.le_of_ble_eq_true rfl) (Nat.le_of_ble_eq_true rfl) ?_
    subst h9; exact ⟨by simp only [x_X1_sumOver_26, if_neg c10], rfl⟩
  · refine AW_g hT cl_X1 hK 21 1 (pc' := 37) (lo' := [some (.ref 26), some (.int p0), some (.int s8), none]) (st' := [.int 1]) (hp' := wd σ) rfl ?_
    refine AW_goto hT hK 22 (tgt := 41) rfl rfl ?_
    refine AW_iret hT hE 24 rfl rfl rfl (Nat.le_of_ble_eq_true rfl) (Nat.le_of_ble_eq_true rfl) ?_
    subst h9; exact ⟨by simp only [x_X1_sumOver_26, if_pos c10], rfl⟩
def b_X1_sumOver_28_4 (σ : az_S) (d1 : Int32) (i : Nat) (w2 : Int32) : Int32 :=
  let v3 := x_X5_holds σ d1 (nI i)
  if v3 = 0 then
    w2
  else
    let v6 := x_X2_at_28 σ (nI i)
    (w2 + v6)
set_option maxRecDepth 100000 in
set_option maxHeartbeats 4000000 in
theorem lp_X1_sumOver_28_4 {K : az_K} {l0 : Launch} (hT : az_Tb cX1_sumOver tb_X1_sumOver) (hK : az_OK K RX1 cX1_sumOver ({ frames := 1, cells := 0, slots := 0, locals := 21 } : Room) l0) (σ : az_S) (d1 : Int32) :
    ∀ (n i : Nat) (w2 : Int32) (hi : i + n = 12) (kx : ∀ s' : Int32, az_it (fun ι s => b_X1_sumOver_28_4 σ d1 ι s) n i w2 = s' → AW K 0 0 32 [some (.ref 28), some (.int d1), some (.int s'), none] [] (wd σ)), AW K 0 0 4 [some (.ref 28), some (.int d1), some (.int w2), some (.int (nI i))] [] (wd σ) := by
  intro n
  induction n with
  | zero =>
    intro i w2 hi kx
    refine AW_g hT cl_X1 hK 4 2 (pc' := 7) (lo' := [some (.ref 28), some (.int d1), some (.int w2), some (.int (nI i))]) (st' := [.int 12, .int (nI i)]) (hp' := wd σ) rfl ?_
    refine AW_icmp_ge hT hK 6 (tgt := 32) rfl rfl (fun c7 => ?_) (fun c7 => absurd (az_c0 hi) c7)
    refine AW_msk [true, true, true, false] (lo' := [some (.ref 28), some (.int d1), some (.int w2), none]) rfl ?_
    exact kx w2 rfl
  | succ n ih =>
    intro i w2 hi kx
    refine AW_g hT cl_X1 hK 4 2 (pc' := 7) (lo' := [some (.ref 28), some (.int d1), some (.int w2), some (.int (nI i))]) (st' := [.int 12, .int (nI i)]) (hp' := wd σ) rfl ?_
    refine AW_icmp_ge hT hK 6 (tgt := 32) rfl rfl (fun c1 => absurd c1 (az_c1 hi)) (fun c1 => ?_)
    refine AW_g hT cl_X1 hK 7 2 (pc' := 12) (lo' := [some (.ref 28), some (.int d1), some (.int w2), some (.int (nI i))]) (st' := [.int (nI i), .int d1]) (hp' := wd σ) rfl ?_
    refine AW_callSN hT hK 9 [.int d1, .int (nI i)] [] (m_X5_holds l0 σ d1 (nI i)) cw_X5_holds lk_X1_68 sm_X5_holds rfl rfl rfl rfl (Nat.le_of_ble_eq_true rfl) (Nat.le_of_ble_eq_true rfl) (AW_k1 (fun v3 h2 => ?_))
    refine AW_if_eq hT hK 10 (tgt := 26) rfl rfl (fun c4 => ?_) (fun c4 => ?_)
    · refine AW_g hT cl_X1 hK 17 1 (pc' := 29) (lo' := [some (.ref 28), some (.int d1), some (.int w2), some (.int ((nI i) + 1))]) (st' := []) (hp' := wd σ) rfl ?_
      refine AW_goto hT hK 18 (tgt := 4) rfl rfl ?_
      refine AW_to (lo' := [some (.ref 28), some (.int d1), some (.int w2), some (.int (nI (i + 1)))]) (by rw [nI_1]) rfl rfl ?_
      subst h2; skip
      exact ih (i + 1) _ (by omega) (fun s' hs' => kx s' ((congrArg (az_it _ n (i + 1)) (by simp only [b_X1_sumOver_28_4, if_pos c4])).trans hs'))
    · refine AW_g hT cl_X1 hK 11 3 (pc' := 21) (lo' := [some (.ref 28), some (.int d1), some (.int w2), some (.int (nI i))]) (st' := [.int (nI i), .ref 28, .int w2]) (hp' := wd σ) rfl ?_
      refine AW_callV hT hK 14 [.int (nI i)] [.int w2] (m_X2_at_28 l0 σ (nI i)) cw_X2_at lk_X1_40 vi_X2_at rfl rfl rfl rfl rfl rfl (Nat.le_of_ble_eq_true rfl) (Nat.le_of_ble_eq_true rfl) (AW_k1 (fun v6 h5 => ?_))
      refine AW_g hT cl_X1 hK 15 3 (pc' := 29) (lo' := [some (.ref 28), some (.int d1), some (.int (w2 + v6)), some (.int ((nI i) + 1))]) (st' := []) (hp' := wd σ) rfl ?_
      refine AW_goto hT hK 18 (tgt := 4) rfl rfl ?_
      refine AW_to (lo' := [some (.ref 28), some (.int d1), some (.int (w2 + v6)), some (.int (nI (i + 1)))]) (by rw [nI_1]) rfl rfl ?_
      subst h5; subst h2; skip
      exact ih (i + 1) _ (by omega) (fun s' hs' => kx s' ((congrArg (az_it _ n (i + 1)) (by simp only [b_X1_sumOver_28_4, if_neg c4])).trans hs'))
def x_X1_sumOver_28 (σ : az_S) (p0 : Int32) : Int32 :=
  let s8 := az_it (fun ι s => b_X1_sumOver_28_4 σ p0 ι s) 12 0 0
  if p0 = 0 then
    1
  else
    s8
set_option maxRecDepth 100000 in
set_option maxHeartbeats 4000000 in
theorem m_X1_sumOver_28 (l0 : Launch) (σ : az_S) (p0 : Int32) : AMet l0 yX1_sumOver cX1_sumOver 4 (some .int) ({ frames := 1, cells := 0, slots := 0, locals := 21 } : Room) false [.ref 28, .int p0] (wd σ) (fun r h => r = some (.int (x_X1_sumOver_28 σ p0)) ∧ h = wd σ) := by
  refine AMet_of (by decide +kernel) (by simp [Value.category]) (Nat.le_of_ble_eq_true rfl) (fun K hK hct hG hE => ?_)
  have hT := tt_X1_sumOver
  refine AW_g hT cl_X1 hK 0 4 (pc' := 4) (lo' := [some (.ref 28), some (.int p0), some (.int 0), some (.int 0)]) (st' := []) (hp' := wd σ) rfl ?_
  refine AW_to (lo' := [some (.ref 28), some (.int p0), some (.int 0), some (.int (nI 0))]) (rfl) rfl rfl ?_
  refine lp_X1_sumOver_28_4 hT hK σ p0 12 0 0 (by first | rfl | omega) (fun s8 h9 => ?_)
  refine AW_g hT cl_X1 hK 19 1 (pc' := 33) (lo' := [some (.ref 28), some (.int p0), some (.int s8), none]) (st' := [.int p0]) (hp' := wd σ) rfl ?_
  refine AW_if_ne hT hK 20 (tgt := 40) rfl rfl (fun c10 => ?_) (fun c10 => ?_)
  · refine AW_g hT cl_X1 hK 23 1 (pc' := 41) (lo' := [some (.ref 28), some (.int p0), some (.int s8), none]) (st' := [.int s8]) (hp' := wd σ) rfl ?_
    refine AW_iret hT hE 24 rfl rfl rfl (Nat.le_of_ble_eq_true rfl) (Nat.le_of_ble_eq_true rfl) ?_
    subst h9; exact ⟨by simp only [x_X1_sumOver_28, if_neg c10], rfl⟩
  · refine AW_g hT cl_X1 hK 21 1 (pc' := 37) (lo' := [some (.ref 28), some (.int p0), some (.int s8), none]) (st' := [.int 1]) (hp' := wd σ) rfl ?_
    refine AW_goto hT hK 22 (tgt := 41) rfl rfl ?_
    refine AW_iret hT hE 24 rfl rfl rfl (Nat.le_of_ble_eq_true rfl) (Nat.le_of_ble_eq_true rfl) ?_
    subst h9; exact ⟨by simp only [x_X1_sumOver_28, if_pos c10], rfl⟩
def x_X2_at_30 (σ : az_S) (p0 : Int32) : Int32 :=
  if p0 < 0 then
    0
  else
    if 12 ≤ p0 then
      0
    else
      ((σ.2.1 31) p0.toNatClampNeg)
set_option maxRecDepth 100000 in
set_option maxHeartbeats 4000000 in
theorem m_X2_at_30 (l0 : Launch) (σ : az_S) (p0 : Int32) : AMet l0 yX2_at cX2_at 2 (some .int) ({ frames := 0, cells := 0, slots := 0, locals := 0 } : Room) false [.ref 30, .int p0] (wd σ) (fun r h => r = some (.int (x_X2_at_30 σ p0)) ∧ h = wd σ) := by
  refine AMet_of (by decide +kernel) (by simp [Value.category]) (Nat.le_of_ble_eq_true rfl) (fun K hK hct hG hE => ?_)
  have hT := tt_X2_at
  refine AW_g hT cl_X2 hK 0 1 (pc' := 1) (lo' := [some (.ref 30), some (.int p0)]) (st' := [.int p0]) (hp' := wd σ) rfl ?_
  refine AW_if_lt hT hK 1 (tgt := 22) rfl rfl (fun c1 => ?_) (fun c1 => ?_)
  · refine AW_g hT cl_X2 hK 12 1 (pc' := 23) (lo' := [some (.ref 30), some (.int p0)]) (st' := [.int 0]) (hp' := wd σ) rfl ?_
    refine AW_iret hT hE 13 rfl rfl rfl (Nat.le_of_ble_eq_true rfl) (Nat.le_of_ble_eq_true rfl) ?_
    exact ⟨by simp only [x_X2_at_30, if_pos c1], rfl⟩
  · refine AW_g hT cl_X2 hK 2 4 (pc' := 10) (lo' := [some (.ref 30), some (.int p0)]) (st' := [.int 12, .int p0]) (hp' := wd σ) rfl ?_
    refine AW_icmp_ge hT hK 6 (tgt := 22) rfl rfl (fun c2 => ?_) (fun c2 => ?_)
    · refine AW_g hT cl_X2 hK 12 1 (pc' := 23) (lo' := [some (.ref 30), some (.int p0)]) (st' := [.int 0]) (hp' := wd σ) rfl ?_
      refine AW_iret hT hE 13 rfl rfl rfl (Nat.le_of_ble_eq_true rfl) (Nat.le_of_ble_eq_true rfl) ?_
      exact ⟨by simp only [x_X2_at_30, if_neg c1, if_pos c2], rfl⟩
    · refine AW_g hT cl_X2 hK 7 3 (pc' := 18) (lo' := [some (.ref 30), some (.int p0)]) (st' := [.int p0, .ref 31]) (hp' := wd σ) rfl ?_
      refine AW_ialdx hT hK 10 rfl (n := 12) (f := (σ.2.1 31)) rfl (az_in12 c1 c2) ?_
      refine AW_goto hT hK 11 (tgt := 23) rfl rfl ?_
      refine AW_iret hT hE 13 rfl rfl rfl (Nat.le_of_ble_eq_true rfl) (Nat.le_of_ble_eq_true rfl) ?_
      exact ⟨by simp only [x_X2_at_30, if_neg c1, if_neg c2], rfl⟩
def x_X2_set_32 (σ : az_S) (p0 : Int32) (p1 : Int32) : az_S :=
  if p0 < 0 then
    σ
  else
    if 12 ≤ p0 then
      σ
    else
      (sG σ 33 (va_up (σ.2.1 33) p0.toNatClampNeg p1))
set_option maxRecDepth 100000 in
set_option maxHeartbeats 4000000 in
theorem m_X2_set_32 (l0 : Launch) (σ : az_S) (p0 : Int32) (p1 : Int32) : AMet l0 yX2_set cX2_set 3 none ({ frames := 0, cells := 0, slots := 0, locals := 0 } : Room) false [.ref 32, .int p0, .int p1] (wd σ) (fun r h => r = none ∧ h = wd (x_X2_set_32 σ p0 p1)) := by
  refine AMet_of (by decide +kernel) (by simp [Value.category]) (Nat.le_of_ble_eq_true rfl) (fun K hK hct hG hE => ?_)
  have hT := tt_X2_set
  refine AW_g hT cl_X2 hK 0 1 (pc' := 1) (lo' := [some (.ref 32), some (.int p0), some (.int p1)]) (st' := [.int p0]) (hp' := wd σ) rfl ?_
  refine AW_if_lt hT hK 1 (tgt := 20) rfl rfl (fun c1 => ?_) (fun c1 => ?_)
  · refine AW_vret hT hE 12 rfl (Nat.le_of_ble_eq_true rfl) (Nat.le_of_ble_eq_true rfl) ?_
    exact ⟨rfl, congrArg wd (by simp only [x_X2_set_32, if_pos c1])⟩
  · refine AW_g hT cl_X2 hK 2 4 (pc' := 10) (lo' := [some (.ref 32), some (.int p0), some (.int p1)]) (st' := [.int 12, .int p0]) (hp' := wd σ) rfl ?_
    refine AW_icmp_ge hT hK 6 (tgt := 20) rfl rfl (fun c2 => ?_) (fun c2 => ?_)
    · refine AW_vret hT hE 12 rfl (Nat.le_of_ble_eq_true rfl) (Nat.le_of_ble_eq_true rfl) ?_
      exact ⟨rfl, congrArg wd (by simp only [x_X2_set_32, if_neg c1, if_pos c2])⟩
    · refine AW_g hT cl_X2 hK 7 4 (pc' := 19) (lo' := [some (.ref 32), some (.int p0), some (.int p1)]) (st' := [.int p1, .int p0, .ref 33]) (hp' := wd σ) rfl ?_
      refine AW_iastx hT hK 11 rfl (n := 12) (f := (σ.2.1 33)) rfl (az_in12 c1 c2) ?_
      refine AW_to (hp' := wd (sG σ 33 (va_up (σ.2.1 33) p0.toNatClampNeg p1))) rfl rfl rfl ?_
      refine AW_vret hT hE 12 rfl (Nat.le_of_ble_eq_true rfl) (Nat.le_of_ble_eq_true rfl) ?_
      exact ⟨rfl, congrArg wd (by simp only [x_X2_set_32, if_neg c1, if_neg c2])⟩
def x_X2_set_30 (σ : az_S) (p0 : Int32) (p1 : Int32) : az_S :=
  if p0 < 0 then
    σ
  else
    if 12 ≤ p0 then
      σ
    else
      (sG σ 31 (va_up (σ.2.1 31) p0.toNatClampNeg p1))
set_option maxRecDepth 100000 in
set_option maxHeartbeats 4000000 in
theorem m_X2_set_30 (l0 : Launch) (σ : az_S) (p0 : Int32) (p1 : Int32) : AMet l0 yX2_set cX2_set 3 none ({ frames := 0, cells := 0, slots := 0, locals := 0 } : Room) false [.ref 30, .int p0, .int p1] (wd σ) (fun r h => r = none ∧ h = wd (x_X2_set_30 σ p0 p1)) := by
  refine AMet_of (by decide +kernel) (by simp [Value.category]) (Nat.le_of_ble_eq_true rfl) (fun K hK hct hG hE => ?_)
  have hT := tt_X2_set
  refine AW_g hT cl_X2 hK 0 1 (pc' := 1) (lo' := [some (.ref 30), some (.int p0), some (.int p1)]) (st' := [.int p0]) (hp' := wd σ) rfl ?_
  refine AW_if_lt hT hK 1 (tgt := 20) rfl rfl (fun c1 => ?_) (fun c1 => ?_)
  · refine AW_vret hT hE 12 rfl (Nat.le_of_ble_eq_true rfl) (Nat.le_of_ble_eq_true rfl) ?_
    exact ⟨rfl, congrArg wd (by simp only [x_X2_set_30, if_pos c1])⟩
  · refine AW_g hT cl_X2 hK 2 4 (pc' := 10) (lo' := [some (.ref 30), some (.int p0), some (.int p1)]) (st' := [.int 12, .int p0]) (hp' := wd σ) rfl ?_
    refine AW_icmp_ge hT hK 6 (tgt := 20) rfl rfl (fun c2 => ?_) (fun c2 => ?_)
    · refine AW_vret hT hE 12 rfl (Nat.le_of_ble_eq_true rfl) (Nat.le_of_ble_eq_true rfl) ?_
      exact ⟨rfl, congrArg wd (by simp only [x_X2_set_30, if_neg c1, if_pos c2])⟩
    · refine AW_g hT cl_X2 hK 7 4 (pc' := 19) (lo' := [some (.ref 30), some (.int p0), some (.int p1)]) (st' := [.int p1, .int p0, .ref 31]) (hp' := wd σ) rfl ?_
      refine AW_iastx hT hK 11 rfl (n := 12) (f := (σ.2.1 31)) rfl (az_in12 c1 c2) ?_
      refine AW_to (hp' := wd (sG σ 31 (va_up (σ.2.1 31) p0.toNatClampNeg p1))) rfl rfl rfl ?_
      refine AW_vret hT hE 12 rfl (Nat.le_of_ble_eq_true rfl) (Nat.le_of_ble_eq_true rfl) ?_
      exact ⟨rfl, congrArg wd (by simp only [x_X2_set_30, if_neg c1, if_neg c2])⟩
def b_X1_findNext_8 (σ : az_S) (d2 : Int32) (i : Nat) (w3 : Int32) (w4 : Int32) : Int32 × Int32 :=
  let v3 := x_X3_cites σ (nI i) d2
  if v3 = 0 then
    (w3, w4)
  else
    let v6 := x_X1_countOf σ (nI i) d2
    let v8 := x_X2_at_30 σ (nI i)
    if w3 = (-1) then
      ((nI i), (v6 + v8))
    else
      if (v6 + v8) ≤ w4 then
        (w3, w4)
      else
        ((nI i), (v6 + v8))
set_option maxRecDepth 100000 in
set_option maxHeartbeats 4000000 in
theorem lp_X1_findNext_8 {K : az_K} {l0 : Launch} (hT : az_Tb cX1_findNext tb_X1_findNext) (hK : az_OK K RX1 cX1_findNext ({ frames := 2, cells := 0, slots := 0, locals := 43 } : Room) l0) (σ : az_S) (d2 : Int32) :
    ∀ (n i : Nat) (w3 : Int32) (w4 : Int32) (hi : i + n = 12) (kx : ∀ s' : Int32 × Int32, az_it (fun ι s => b_X1_findNext_8 σ d2 ι s.1 s.2) n i (w3, w4) = s' → AW K 0 0 69 [some (.ref 25), some (.ref 1), some (.int d2), some (.int s'.1), some (.int s'.2), none, none] [] (wd σ)), AW K 0 0 8 [some (.ref 25), some (.ref 1), some (.int d2), some (.int w3), some (.int w4), some (.int (nI i)), none] [] (wd σ) := by
  intro n
  induction n with
  | zero =>
    intro i w3 w4 hi kx
    refine AW_g hT cl_X1 hK 6 2 (pc' := 12) (lo' := [some (.ref 25), some (.ref 1), some (.int d2), some (.int w3), some (.int w4), some (.int (nI i)), none]) (st' := [.int 12, .int (nI i)]) (hp' := wd σ) rfl ?_
    refine AW_icmp_ge hT hK 8 (tgt := 69) rfl rfl (fun c11 => ?_) (fun c11 => absurd (az_c0 hi) c11)
    refine AW_msk [true, true, true, true, true, false, false] (lo' := [some (.ref 25), some (.ref 1), some (.int d2), some (.int w3), some (.int w4), none, none]) rfl ?_
    exact kx (w3, w4) rfl
  | succ n ih =>
    intro i w3 w4 hi kx
    refine AW_g hT cl_X1 hK 6 2 (pc' := 12) (lo' := [some (.ref 25), some (.ref 1), some (.int d2), some (.int w3), some (.int w4), some (.int (nI i)), none]) (st' := [.int 12, .int (nI i)]) (hp' := wd σ) rfl ?_
    refine AW_icmp_ge hT hK 8 (tgt := 69) rfl rfl (fun c1 => absurd c1 (az_c1 hi)) (fun c1 => ?_)
    refine AW_g hT cl_X1 hK 9 3 (pc' := 19) (lo' := [some (.ref 25), some (.ref 1), some (.int d2), some (.int w3), some (.int w4), some (.int (nI i)), none]) (st' := [.int d2, .int (nI i), .ref 1]) (hp' := wd σ) rfl ?_
    refine AW_callV hT hK 12 [.int (nI i), .int d2] [] (m_X3_cites l0 σ (nI i) d2) cw_X3_cites lk_X1_72 vi_X3_cites rfl rfl rfl rfl rfl rfl (Nat.le_of_ble_eq_true rfl) (Nat.le_of_ble_eq_true rfl) (AW_k1 (fun v3 h2 => ?_))
    refine AW_if_eq hT hK 13 (tgt := 63) rfl rfl (fun c4 => ?_) (fun c4 => ?_)
    · refine AW_g hT cl_X1 hK 34 1 (pc' := 66) (lo' := [some (.ref 25), some (.ref 1), some (.int d2), some (.int w3), some (.int w4), some (.int ((nI i) + 1)), none]) (st' := []) (hp' := wd σ) rfl ?_
      refine AW_goto hT hK 35 (tgt := 8) rfl rfl ?_
      refine AW_to (lo' := [some (.ref 25), some (.ref 1), some (.int d2), some (.int w3), some (.int w4), some (.int (nI (i + 1))), none]) (by rw [nI_1]) rfl rfl ?_
      subst h2; skip
      exact ih (i + 1) _ _ (by omega) (fun s' hs' => kx s' ((congrArg (az_it _ n (i + 1)) (by simp only [b_X1_findNext_8, if_pos c4])).trans hs'))
    · refine AW_g hT cl_X1 hK 14 3 (pc' := 29) (lo' := [some (.ref 25), some (.ref 1), some (.int d2), some (.int w3), some (.int w4), some (.int (nI i)), none]) (st' := [.int d2, .int (nI i), .ref 25]) (hp' := wd σ) rfl ?_
      refine AW_callV hT hK 17 [.int (nI i), .int d2] [] (m_X1_countOf l0 σ (nI i) d2) cw_X1_countOf lk_X1_75 vi_X1_countOf rfl rfl rfl rfl rfl rfl (Nat.le_of_ble_eq_true rfl) (Nat.le_of_ble_eq_true rfl) (AW_k1 (fun v6 h5 => ?_))
      refine AW_g hT cl_X1 hK 18 3 (pc' := 38) (lo' := [some (.ref 25), some (.ref 1), some (.int d2), some (.int w3), some (.int w4), some (.int (nI i)), none]) (st' := [.int (nI i), .ref 30, .int v6]) (hp' := wd σ) rfl ?_
      refine AW_callV hT hK 21 [.int (nI i)] [.int v6] (m_X2_at_30 l0 σ (nI i)) cw_X2_at lk_X1_40 vi_X2_at rfl rfl rfl rfl rfl rfl (Nat.le_of_ble_eq_true rfl) (Nat.le_of_ble_eq_true rfl) (AW_k1 (fun v8 h7 => ?_))
      refine AW_g hT cl_X1 hK 22 4 (pc' := 46) (lo' := [some (.ref 25), some (.ref 1), some (.int d2), some (.int w3), some (.int w4), some (.int (nI i)), some (.int (v6 + v8))]) (st' := [.int (-1), .int w3]) (hp' := wd σ) rfl ?_
      refine AW_icmp_eq hT hK 26 (tgt := 56) rfl rfl (fun c9 => ?_) (fun c9 => ?_)
      · refine AW_g hT cl_X1 hK 30 5 (pc' := 66) (lo' := [some (.ref 25), some (.ref 1), some (.int d2), some (.int (nI i)), some (.int (v6 + v8)), some (.int ((nI i) + 1)), some (.int (v6 + v8))]) (st' := []) (hp' := wd σ) rfl ?_
        refine AW_goto hT hK 35 (tgt := 8) rfl rfl ?_
        refine AW_msk [true, true, true, true, true, true, false] (lo' := [some (.ref 25), some (.ref 1), some (.int d2), some (.int (nI i)), some (.int (v6 + v8)), some (.int ((nI i) + 1)), none]) rfl ?_
        refine AW_to (lo' := [some (.ref 25), some (.ref 1), some (.int d2), some (.int (nI i)), some (.int (v6 + v8)), some (.int (nI (i + 1))), none]) (by rw [nI_1]) rfl rfl ?_
        subst h7; subst h5; subst h2; skip
        exact ih (i + 1) _ _ (by omega) (fun s' hs' => kx s' ((congrArg (az_it _ n (i + 1)) (by simp only [b_X1_findNext_8, if_neg c4, if_pos c9])).trans hs'))
      · refine AW_g hT cl_X1 hK 27 2 (pc' := 53) (lo' := [some (.ref 25), some (.ref 1), some (.int d2), some (.int w3), some (.int w4), some (.int (nI i)), some (.int (v6 + v8))]) (st' := [.int w4, .int (v6 + v8)]) (hp' := wd σ) rfl ?_
        refine AW_icmp_le hT hK 29 (tgt := 63) rfl rfl (fun c10 => ?_) (fun c10 => ?_)
        · refine AW_g hT cl_X1 hK 34 1 (pc' := 66) (lo' := [some (.ref 25), some (.ref 1), some (.int d2), some (.int w3), some (.int w4), some (.int ((nI i) + 1)), some (.int (v6 + v8))]) (st' := []) (hp' := wd σ) rfl ?_
          refine AW_goto hT hK 35 (tgt := 8) rfl rfl ?_
          refine AW_msk [true, true, true, true, true, true, false] (lo' := [some (.ref 25), some (.ref 1), some (.int d2), some (.int w3), some (.int w4), some (.int ((nI i) + 1)), none]) rfl ?_
          refine AW_to (lo' := [some (.ref 25), some (.ref 1), some (.int d2), some (.int w3), some (.int w4), some (.int (nI (i + 1))), none]) (by rw [nI_1]) rfl rfl ?_
          subst h7; subst h5; subst h2; skip
          exact ih (i + 1) _ _ (by omega) (fun s' hs' => kx s' ((congrArg (az_it _ n (i + 1)) (by simp only [b_X1_findNext_8, if_neg c4, if_neg c9, if_pos c10])).trans hs'))
        · refine AW_g hT cl_X1 hK 30 5 (pc' := 66) (lo' := [some (.ref 25), some (.ref 1), some (.int d2), some (.int (nI i)), some (.int (v6 + v8)), some (.int ((nI i) + 1)), some (.int (v6 + v8))]) (st' := []) (hp' := wd σ) rfl ?_
          refine AW_goto hT hK 35 (tgt := 8) rfl rfl ?_
          refine AW_msk [true, true, true, true, true, true, false] (lo' := [some (.ref 25), some (.ref 1), some (.int d2), some (.int (nI i)), some (.int (v6 + v8)), some (.int ((nI i) + 1)), none]) rfl ?_
          refine AW_to (lo' := [some (.ref 25), some (.ref 1), some (.int d2), some (.int (nI i)), some (.int (v6 + v8)), some (.int (nI (i + 1))), none]) (by rw [nI_1]) rfl rfl ?_
          subst h7; subst h5; subst h2; skip
          exact ih (i + 1) _ _ (by omega) (fun s' hs' => kx s' ((congrArg (az_it _ n (i + 1)) (by simp only [b_X1_findNext_8, if_neg c4, if_neg c9, if_neg c10])).trans hs'))
def x_X1_findNext (σ : az_S) (p0 : Int32) : az_S :=
  let s12 := az_it (fun ι s => b_X1_findNext_8 σ p0 ι s.1 s.2) 12 0 ((-1), 0)
  let τ15 := x_X2_set_32 σ p0 s12.1
  let τ17 := x_X2_set_30 (τ15) p0 s12.2
  τ17
set_option maxRecDepth 100000 in
set_option maxHeartbeats 4000000 in
theorem m_X1_findNext (l0 : Launch) (σ : az_S) (p0 : Int32) : AMet l0 yX1_findNext cX1_findNext 7 none ({ frames := 2, cells := 0, slots := 0, locals := 43 } : Room) false [.ref 25, .ref 1, .int p0] (wd σ) (fun r h => r = none ∧ h = wd (x_X1_findNext σ p0)) := by
  refine AMet_of (by decide +kernel) (by simp [Value.category]) (Nat.le_of_ble_eq_true rfl) (fun K hK hct hG hE => ?_)
  have hT := tt_X1_findNext
  refine AW_g hT cl_X1 hK 0 6 (pc' := 8) (lo' := [some (.ref 25), some (.ref 1), some (.int p0), some (.int (-1)), some (.int 0), some (.int 0), none]) (st' := []) (hp' := wd σ) rfl ?_
  refine AW_to (lo' := [some (.ref 25), some (.ref 1), some (.int p0), some (.int (-1)), some (.int 0), some (.int (nI 0)), none]) (rfl) rfl rfl ?_
  refine lp_X1_findNext_8 hT hK σ p0 12 0 (-1) 0 (by first | rfl | omega) (fun s12 h13 => ?_)
  refine AW_g hT cl_X1 hK 36 4 (pc' := 75) (lo' := [some (.ref 25), some (.ref 1), some (.int p0), some (.int s12.1), some (.int s12.2), none, none]) (st' := [.int s12.1, .int p0, .ref 32]) (hp' := wd σ) rfl ?_
  refine AW_callV hT hK 40 [.int p0, .int s12.1] [] (m_X2_set_32 l0 σ p0 s12.1) cw_X2_set lk_X1_53 vi_X2_set rfl rfl rfl rfl rfl rfl (Nat.le_of_ble_eq_true rfl) (Nat.le_of_ble_eq_true rfl) (AW_kv (fun τ15 h14 => ?_))
  refine AW_g hT cl_X1 hK 41 4 (pc' := 85) (lo' := [some (.ref 25), some (.ref 1), some (.int p0), some (.int s12.1), some (.int s12.2), none, none]) (st' := [.int s12.2, .int p0, .ref 30]) (hp' := wd (τ15)) rfl ?_
  refine AW_callV hT hK 45 [.int p0, .int s12.2] [] (m_X2_set_30 l0 (τ15) p0 s12.2) cw_X2_set lk_X1_53 vi_X2_set rfl rfl rfl rfl rfl rfl (Nat.le_of_ble_eq_true rfl) (Nat.le_of_ble_eq_true rfl) (AW_kv (fun τ17 h16 => ?_))
  refine AW_vret hT hE 46 rfl (Nat.le_of_ble_eq_true rfl) (Nat.le_of_ble_eq_true rfl) ?_
  subst h16; subst h14; subst h13; exact ⟨rfl, congrArg wd (by simp only [x_X1_findNext])⟩
def b_X1_findMain_14 (i : Nat) (w2 : Int32) (σ : az_S) : Int32 × az_S :=
  let v3 := x_X3_has σ (nI i)
  if v3 = 0 then
    (w2, σ)
  else
    let v6 := x_X3_referredBy σ (nI i)
    if v6 = 0 then
      let v9 := x_X2_at_28 σ (nI i)
      let u10 := ((σ.1 5) + v9)
      if w2 = (-1) then
        let v14 := x_X2_at_30 (sF σ 5 u10) (nI i)
        ((nI i), (sF (sF σ 5 u10) 7 v14))
      else
        let v16 := x_X2_at_30 (sF σ 5 u10) (nI i)
        if v16 ≤ ((sF σ 5 u10).1 7) then
          (w2, (sF σ 5 u10))
        else
          let v19 := x_X2_at_30 (sF σ 5 u10) (nI i)
          ((nI i), (sF (sF σ 5 u10) 7 v19))
    else
      (w2, σ)
set_option maxRecDepth 100000 in
set_option maxHeartbeats 4000000 in
theorem lp_X1_findMain_14 {K : az_K} {l0 : Launch} (hT : az_Tb cX1_findMain tb_X1_findMain) (hK : az_OK K RX1 cX1_findMain ({ frames := 2, cells := 0, slots := 0, locals := 45 } : Room) l0) :
    ∀ (n i : Nat) (w2 : Int32) (σ : az_S) (hi : i + n = 12) (kx : ∀ s' : Int32 × az_S, az_it (fun ι s => b_X1_findMain_14 ι s.1 s.2) n i (w2, σ) = s' → AW K 0 0 93 [some (.ref 25), some (.ref 1), some (.int s'.1), none] [] (wd s'.2)), AW K 0 0 14 [some (.ref 25), some (.ref 1), some (.int w2), some (.int (nI i))] [] (wd σ) := by
  intro n
  induction n with
  | zero =>
    intro i w2 σ hi kx
    refine AW_g hT cl_X1 hK 10 2 (pc' := 17) (lo' := [some (.ref 25), some (.ref 1), some (.int w2), some (.int (nI i))]) (st' := [.int 12, .int (nI i)]) (hp' := wd σ) rfl ?_
    refine AW_icmp_ge hT hK 12 (tgt := 93) rfl rfl (fun c20 => ?_) (fun c20 => absurd (az_c0 hi) c20)
    refine AW_msk [true, true, true, false] (lo' := [some (.ref 25), some (.ref 1), some (.int w2), none]) rfl ?_
    exact kx (w2, σ) rfl
  | succ n ih =>
    intro i w2 σ hi kx
    refine AW_g hT cl_X1 hK 10 2 (pc' := 17) (lo' := [some (.ref 25), some (.ref 1), some (.int w2), some (.int (nI i))]) (st' := [.int 12, .int (nI i)]) (hp' := wd σ) rfl ?_
    refine AW_icmp_ge hT hK 12 (tgt := 93) rfl rfl (fun c1 => absurd c1 (az_c1 hi)) (fun c1 => ?_)
    refine AW_g hT cl_X1 hK 13 2 (pc' := 22) (lo' := [some (.ref 25), some (.ref 1), some (.int w2), some (.int (nI i))]) (st' := [.int (nI i), .ref 1]) (hp' := wd σ) rfl ?_
    refine AW_callV hT hK 15 [.int (nI i)] [] (m_X3_has l0 σ (nI i)) cw_X3_has lk_X1_79 vi_X3_has rfl rfl rfl rfl rfl rfl (Nat.le_of_ble_eq_true rfl) (Nat.le_of_ble_eq_true rfl) (AW_k1 (fun v3 h2 => ?_))
    refine AW_if_eq hT hK 16 (tgt := 87) rfl rfl (fun c4 => ?_) (fun c4 => ?_)
    · refine AW_g hT cl_X1 hK 48 1 (pc' := 90) (lo' := [some (.ref 25), some (.ref 1), some (.int w2), some (.int ((nI i) + 1))]) (st' := []) (hp' := wd σ) rfl ?_
      refine AW_goto hT hK 49 (tgt := 14) rfl rfl ?_
      refine AW_to (lo' := [some (.ref 25), some (.ref 1), some (.int w2), some (.int (nI (i + 1)))]) (by rw [nI_1]) rfl rfl ?_
      subst h2; skip
      exact ih (i + 1) _ _ (by omega) (fun s' hs' => kx s' ((congrArg (az_it _ n (i + 1)) (by simp only [b_X1_findMain_14, if_pos c4])).trans hs'))
    · refine AW_g hT cl_X1 hK 17 2 (pc' := 30) (lo' := [some (.ref 25), some (.ref 1), some (.int w2), some (.int (nI i))]) (st' := [.int (nI i), .ref 1]) (hp' := wd σ) rfl ?_
      refine AW_callV hT hK 19 [.int (nI i)] [] (m_X3_referredBy l0 σ (nI i)) cw_X3_referredBy lk_X1_44 vi_X3_referredBy rfl rfl rfl rfl rfl rfl (Nat.le_of_ble_eq_true rfl) (Nat.le_of_ble_eq_true rfl) (AW_k1 (fun v6 h5 => ?_))
      refine AW_if_ne hT hK 20 (tgt := 87) rfl rfl (fun c7 => ?_) (fun c7 => ?_)
      · refine AW_g hT cl_X1 hK 48 1 (pc' := 90) (lo' := [some (.ref 25), some (.ref 1), some (.int w2), some (.int ((nI i) + 1))]) (st' := []) (hp' := wd σ) rfl ?_
        refine AW_goto hT hK 49 (tgt := 14) rfl rfl ?_
        refine AW_to (lo' := [some (.ref 25), some (.ref 1), some (.int w2), some (.int (nI (i + 1)))]) (by rw [nI_1]) rfl rfl ?_
        subst h5; subst h2; skip
        exact ih (i + 1) _ _ (by omega) (fun s' hs' => kx s' ((congrArg (az_it _ n (i + 1)) (by simp only [b_X1_findMain_14, if_neg c4, if_neg c7])).trans hs'))
      · refine AW_g hT cl_X1 hK 21 6 (pc' := 46) (lo' := [some (.ref 25), some (.ref 1), some (.int w2), some (.int (nI i))]) (st' := [.int (nI i), .ref 28, .int (σ.1 5), .ref 25]) (hp' := wd σ) rfl ?_
        refine AW_callV hT hK 27 [.int (nI i)] [.int (σ.1 5), .ref 25] (m_X2_at_28 l0 σ (nI i)) cw_X2_at lk_X1_40 vi_X2_at rfl rfl rfl rfl rfl rfl (Nat.le_of_ble_eq_true rfl) (Nat.le_of_ble_eq_true rfl) (AW_k1 (fun v9 h8 => ?_))
        refine AW_g hT cl_X1 hK 28 1 (pc' := 50) (lo' := [some (.ref 25), some (.ref 1), some (.int w2), some (.int (nI i))]) (st' := [.int ((σ.1 5) + v9), .ref 25]) (hp' := wd σ) rfl ?_
        refine AW_topi (fun u10 h11 => ?_)
        refine AW_g hT cl_X1 hK 29 3 (pc' := 55) (lo' := [some (.ref 25), some (.ref 1), some (.int w2), some (.int (nI i))]) (st' := [.int (-1), .int w2]) (hp' := wd (sF σ 5 u10)) rfl ?_
        refine AW_icmp_eq hT hK 32 (tgt := 73) rfl rfl (fun c12 => ?_) (fun c12 => ?_)
        · refine AW_g hT cl_X1 hK 40 6 (pc' := 81) (lo' := [some (.ref 25), some (.ref 1), some (.int (nI i)), some (.int (nI i))]) (st' := [.int (nI i), .ref 30, .ref 25]) (hp' := wd (sF σ 5 u10)) rfl ?_
          refine AW_callV hT hK 46 [.int (nI i)] [.ref 25] (m_X2_at_30 l0 (sF σ 5 u10) (nI i)) cw_X2_at lk_X1_40 vi_X2_at rfl rfl rfl rfl rfl rfl (Nat.le_of_ble_eq_true rfl) (Nat.le_of_ble_eq_true rfl) (AW_k1 (fun v14 h13 => ?_))
          refine AW_g hT cl_X1 hK 47 2 (pc' := 90) (lo' := [some (.ref 25), some (.ref 1), some (.int (nI i)), some (.int ((nI i) + 1))]) (st' := []) (hp' := wd (sF (sF σ 5 u10) 7 v14)) rfl ?_
          refine AW_goto hT hK 49 (tgt := 14) rfl rfl ?_
          refine AW_to (lo' := [some (.ref 25), some (.ref 1), some (.int (nI i)), some (.int (nI (i + 1)))]) (by rw [nI_1]) rfl rfl ?_
          subst h13; subst h11; subst h8; subst h5; subst h2; skip
          exact ih (i + 1) _ _ (by omega) (fun s' hs' => kx s' ((congrArg (az_it _ n (i + 1)) (by simp only [b_X1_findMain_14, if_neg c4, if_pos c7, if_pos c12])).trans hs'))
        · refine AW_g hT cl_X1 hK 33 3 (pc' := 63) (lo' := [some (.ref 25), some (.ref 1), some (.int w2), some (.int (nI i))]) (st' := [.int (nI i), .ref 30]) (hp' := wd (sF σ 5 u10)) rfl ?_
          refine AW_callV hT hK 36 [.int (nI i)] [] (m_X2_at_30 l0 (sF σ 5 u10) (nI i)) cw_X2_at lk_X1_40 vi_X2_at rfl rfl rfl rfl rfl rfl (Nat.le_of_ble_eq_true rfl) (Nat.le_of_ble_eq_true rfl) (AW_k1 (fun v16 h15 => ?_))
          refine AW_g hT cl_X1 hK 37 2 (pc' := 70) (lo' := [some (.ref 25), some (.ref 1), some (.int w2), some (.int (nI i))]) (st' := [.int ((sF σ 5 u10).1 7), .int v16]) (hp' := wd (sF σ 5 u10)) rfl ?_
          refine AW_icmp_le hT hK 39 (tgt := 87) rfl rfl (fun c17 => ?_) (fun c17 => ?_)
          · refine AW_g hT cl_X1 hK 48 1 (pc' := 90) (lo' := [some (.ref 25), some (.ref 1), some (.int w2), some (.int ((nI i) + 1))]) (st' := []) (hp' := wd (sF σ 5 u10)) rfl ?_
            refine AW_goto hT hK 49 (tgt := 14) rfl rfl ?_
            refine AW_to (lo' := [some (.ref 25), some (.ref 1), some (.int w2), some (.int (nI (i + 1)))]) (by rw [nI_1]) rfl rfl ?_
            subst h15; subst h11; subst h8; subst h5; subst h2; skip
            exact ih (i + 1) _ _ (by omega) (fun s' hs' => kx s' ((congrArg (az_it _ n (i + 1)) (by simp only [b_X1_findMain_14, if_neg c4, if_pos c7, if_neg c12, if_pos c17])).trans hs'))
          · refine AW_g hT cl_X1 hK 40 6 (pc' := 81) (lo' := [some (.ref 25), some (.ref 1), some (.int (nI i)), some (.int (nI i))]) (st' := [.int (nI i), .ref 30, .ref 25]) (hp' := wd (sF σ 5 u10)) rfl ?_
            refine AW_callV hT hK 46 [.int (nI i)] [.ref 25] (m_X2_at_30 l0 (sF σ 5 u10) (nI i)) cw_X2_at lk_X1_40 vi_X2_at rfl rfl rfl rfl rfl rfl (Nat.le_of_ble_eq_true rfl) (Nat.le_of_ble_eq_true rfl) (AW_k1 (fun v19 h18 => ?_))
            refine AW_g hT cl_X1 hK 47 2 (pc' := 90) (lo' := [some (.ref 25), some (.ref 1), some (.int (nI i)), some (.int ((nI i) + 1))]) (st' := []) (hp' := wd (sF (sF σ 5 u10) 7 v19)) rfl ?_
            refine AW_goto hT hK 49 (tgt := 14) rfl rfl ?_
            refine AW_to (lo' := [some (.ref 25), some (.ref 1), some (.int (nI i)), some (.int (nI (i + 1)))]) (by rw [nI_1]) rfl rfl ?_
            subst h18; subst h15; subst h11; subst h8; subst h5; subst h2; skip
            exact ih (i + 1) _ _ (by omega) (fun s' hs' => kx s' ((congrArg (az_it _ n (i + 1)) (by simp only [b_X1_findMain_14, if_neg c4, if_pos c7, if_neg c12, if_neg c17])).trans hs'))
def x_X1_findMain (σ : az_S) : az_S :=
  let s21 := az_it (fun ι s => b_X1_findMain_14 ι s.1 s.2) 12 0 ((-1), (sF (sF σ 7 0) 5 0))
  let τ24 := x_X1_follow s21.2 s21.1
  τ24
set_option maxRecDepth 100000 in
set_option maxHeartbeats 4000000 in
theorem m_X1_findMain (l0 : Launch) (σ : az_S) : AMet l0 yX1_findMain cX1_findMain 4 none ({ frames := 2, cells := 0, slots := 0, locals := 45 } : Room) false [.ref 25, .ref 1] (wd σ) (fun r h => r = none ∧ h = wd (x_X1_findMain σ)) := by
  refine AMet_of (by decide +kernel) (by simp [Value.category]) (Nat.le_of_ble_eq_true rfl) (fun K hK hct hG hE => ?_)
  have hT := tt_X1_findMain
  refine AW_g hT cl_X1 hK 0 10 (pc' := 14) (lo' := [some (.ref 25), some (.ref 1), some (.int (-1)), some (.int 0)]) (st' := []) (hp' := wd (sF (sF σ 7 0) 5 0)) rfl ?_
  refine AW_to (lo' := [some (.ref 25), some (.ref 1), some (.int (-1)), some (.int (nI 0))]) (rfl) rfl rfl ?_
  refine lp_X1_findMain_14 hT hK 12 0 (-1) (sF (sF σ 7 0) 5 0) (by first | rfl | omega) (fun s21 h22 => ?_)
  refine AW_g hT cl_X1 hK 50 2 (pc' := 95) (lo' := [some (.ref 25), some (.ref 1), some (.int s21.1), none]) (st' := [.int s21.1, .ref 25]) (hp' := wd s21.2) rfl ?_
  refine AW_callV hT hK 52 [.int s21.1] [] (m_X1_follow l0 s21.2 s21.1) cw_X1_follow lk_X1_83 vi_X1_follow rfl rfl rfl rfl rfl rfl (Nat.le_of_ble_eq_true rfl) (Nat.le_of_ble_eq_true rfl) (AW_kv (fun τ24 h23 => ?_))
  refine AW_vret hT hE 53 rfl (Nat.le_of_ble_eq_true rfl) (Nat.le_of_ble_eq_true rfl) ?_
  subst h23; subst h22; exact ⟨rfl, congrArg wd (by simp only [x_X1_findMain])⟩
def x_X2_set_26 (σ : az_S) (p0 : Int32) (p1 : Int32) : az_S :=
  if p0 < 0 then
    σ
  else
    if 12 ≤ p0 then
      σ
    else
      (sG σ 27 (va_up (σ.2.1 27) p0.toNatClampNeg p1))
set_option maxRecDepth 100000 in
set_option maxHeartbeats 4000000 in
theorem m_X2_set_26 (l0 : Launch) (σ : az_S) (p0 : Int32) (p1 : Int32) : AMet l0 yX2_set cX2_set 3 none ({ frames := 0, cells := 0, slots := 0, locals := 0 } : Room) false [.ref 26, .int p0, .int p1] (wd σ) (fun r h => r = none ∧ h = wd (x_X2_set_26 σ p0 p1)) := by
  refine AMet_of (by decide +kernel) (by simp [Value.category]) (Nat.le_of_ble_eq_true rfl) (fun K hK hct hG hE => ?_)
  have hT := tt_X2_set
  refine AW_g hT cl_X2 hK 0 1 (pc' := 1) (lo' := [some (.ref 26), some (.int p0), some (.int p1)]) (st' := [.int p0]) (hp' := wd σ) rfl ?_
  refine AW_if_lt hT hK 1 (tgt := 20) rfl rfl (fun c1 => ?_) (fun c1 => ?_)
  · refine AW_vret hT hE 12 rfl (Nat.le_of_ble_eq_true rfl) (Nat.le_of_ble_eq_true rfl) ?_
    exact ⟨rfl, congrArg wd (by simp only [x_X2_set_26, if_pos c1])⟩
  · refine AW_g hT cl_X2 hK 2 4 (pc' := 10) (lo' := [some (.ref 26), some (.int p0), some (.int p1)]) (st' := [.int 12, .int p0]) (hp' := wd σ) rfl ?_
    refine AW_icmp_ge hT hK 6 (tgt := 20) rfl rfl (fun c2 => ?_) (fun c2 => ?_)
    · refine AW_vret hT hE 12 rfl (Nat.le_of_ble_eq_true rfl) (Nat.le_of_ble_eq_true rfl) ?_
      exact ⟨rfl, congrArg wd (by simp only [x_X2_set_26, if_neg c1, if_pos c2])⟩
    · refine AW_g hT cl_X2 hK 7 4 (pc' := 19) (lo' := [some (.ref 26), some (.int p0), some (.int p1)]) (st' := [.int p1, .int p0, .ref 27]) (hp' := wd σ) rfl ?_
      refine AW_iastx hT hK 11 rfl (n := 12) (f := (σ.2.1 27)) rfl (az_in12 c1 c2) ?_
      refine AW_to (hp' := wd (sG σ 27 (va_up (σ.2.1 27) p0.toNatClampNeg p1))) rfl rfl rfl ?_
      refine AW_vret hT hE 12 rfl (Nat.le_of_ble_eq_true rfl) (Nat.le_of_ble_eq_true rfl) ?_
      exact ⟨rfl, congrArg wd (by simp only [x_X2_set_26, if_neg c1, if_neg c2])⟩
def x_X2_set_28 (σ : az_S) (p0 : Int32) (p1 : Int32) : az_S :=
  if p0 < 0 then
    σ
  else
    if 12 ≤ p0 then
      σ
    else
      (sG σ 29 (va_up (σ.2.1 29) p0.toNatClampNeg p1))
set_option maxRecDepth 100000 in
set_option maxHeartbeats 4000000 in
theorem m_X2_set_28 (l0 : Launch) (σ : az_S) (p0 : Int32) (p1 : Int32) : AMet l0 yX2_set cX2_set 3 none ({ frames := 0, cells := 0, slots := 0, locals := 0 } : Room) false [.ref 28, .int p0, .int p1] (wd σ) (fun r h => r = none ∧ h = wd (x_X2_set_28 σ p0 p1)) := by
  refine AMet_of (by decide +kernel) (by simp [Value.category]) (Nat.le_of_ble_eq_true rfl) (fun K hK hct hG hE => ?_)
  have hT := tt_X2_set
  refine AW_g hT cl_X2 hK 0 1 (pc' := 1) (lo' := [some (.ref 28), some (.int p0), some (.int p1)]) (st' := [.int p0]) (hp' := wd σ) rfl ?_
  refine AW_if_lt hT hK 1 (tgt := 20) rfl rfl (fun c1 => ?_) (fun c1 => ?_)
  · refine AW_vret hT hE 12 rfl (Nat.le_of_ble_eq_true rfl) (Nat.le_of_ble_eq_true rfl) ?_
    exact ⟨rfl, congrArg wd (by simp only [x_X2_set_28, if_pos c1])⟩
  · refine AW_g hT cl_X2 hK 2 4 (pc' := 10) (lo' := [some (.ref 28), some (.int p0), some (.int p1)]) (st' := [.int 12, .int p0]) (hp' := wd σ) rfl ?_
    refine AW_icmp_ge hT hK 6 (tgt := 20) rfl rfl (fun c2 => ?_) (fun c2 => ?_)
    · refine AW_vret hT hE 12 rfl (Nat.le_of_ble_eq_true rfl) (Nat.le_of_ble_eq_true rfl) ?_
      exact ⟨rfl, congrArg wd (by simp only [x_X2_set_28, if_neg c1, if_pos c2])⟩
    · refine AW_g hT cl_X2 hK 7 4 (pc' := 19) (lo' := [some (.ref 28), some (.int p0), some (.int p1)]) (st' := [.int p1, .int p0, .ref 29]) (hp' := wd σ) rfl ?_
      refine AW_iastx hT hK 11 rfl (n := 12) (f := (σ.2.1 29)) rfl (az_in12 c1 c2) ?_
      refine AW_to (hp' := wd (sG σ 29 (va_up (σ.2.1 29) p0.toNatClampNeg p1))) rfl rfl rfl ?_
      refine AW_vret hT hE 12 rfl (Nat.le_of_ble_eq_true rfl) (Nat.le_of_ble_eq_true rfl) ?_
      exact ⟨rfl, congrArg wd (by simp only [x_X2_set_28, if_neg c1, if_neg c2])⟩
def b_X1_findAnew_2 (i : Nat) (σ : az_S) : az_S :=
  let v3 := x_X3_referredBy σ (nI i)
  let v5 := x_X1_sumOver_26 σ v3
  let τ7 := x_X2_set_26 σ (nI i) v5
  (τ7)
set_option maxRecDepth 100000 in
set_option maxHeartbeats 4000000 in
theorem lp_X1_findAnew_2 {K : az_K} {l0 : Launch} (hT : az_Tb cX1_findAnew tb_X1_findAnew) (hK : az_OK K RX1 cX1_findAnew ({ frames := 3, cells := 0, slots := 0, locals := 69 } : Room) l0) :
    ∀ (n i : Nat) (σ : az_S) (hi : i + n = 12) (kx : ∀ s' : az_S, az_it (fun ι s => b_X1_findAnew_2 ι s) n i σ = s' → AW K 0 0 34 [some (.ref 25), some (.ref 1), none] [] (wd s')), AW K 0 0 2 [some (.ref 25), some (.ref 1), some (.int (nI i))] [] (wd σ) := by
  intro n
  induction n with
  | zero =>
    intro i σ hi kx
    refine AW_g hT cl_X1 hK 2 2 (pc' := 5) (lo' := [some (.ref 25), some (.ref 1), some (.int (nI i))]) (st' := [.int 12, .int (nI i)]) (hp' := wd σ) rfl ?_
    refine AW_icmp_ge hT hK 4 (tgt := 34) rfl rfl (fun c8 => ?_) (fun c8 => absurd (az_c0 hi) c8)
    refine AW_msk [true, true, false] (lo' := [some (.ref 25), some (.ref 1), none]) rfl ?_
    exact kx σ rfl
  | succ n ih =>
    intro i σ hi kx
    refine AW_g hT cl_X1 hK 2 2 (pc' := 5) (lo' := [some (.ref 25), some (.ref 1), some (.int (nI i))]) (st' := [.int 12, .int (nI i)]) (hp' := wd σ) rfl ?_
    refine AW_icmp_ge hT hK 4 (tgt := 34) rfl rfl (fun c1 => absurd c1 (az_c1 hi)) (fun c1 => ?_)
    refine AW_g hT cl_X1 hK 5 7 (pc' := 19) (lo' := [some (.ref 25), some (.ref 1), some (.int (nI i))]) (st' := [.int (nI i), .ref 1, .ref 26, .int (nI i), .ref 26]) (hp' := wd σ) rfl ?_
    refine AW_callV hT hK 12 [.int (nI i)] [.ref 26, .int (nI i), .ref 26] (m_X3_referredBy l0 σ (nI i)) cw_X3_referredBy lk_X1_44 vi_X3_referredBy rfl rfl rfl rfl rfl rfl (Nat.le_of_ble_eq_true rfl) (Nat.le_of_ble_eq_true rfl) (AW_k1 (fun v3 h2 => ?_))
    refine AW_callS hT hK 13 [.ref 26, .int v3] [.int (nI i), .ref 26] (m_X1_sumOver_26 l0 σ v3) cw_X1_sumOver lk_X1_49 sm_X1_sumOver rfl rfl rfl rfl (Nat.le_of_ble_eq_true rfl) (Nat.le_of_ble_eq_true rfl) (AW_k1 (fun v5 h4 => ?_))
    refine AW_callV hT hK 14 [.int (nI i), .int v5] [] (m_X2_set_26 l0 σ (nI i) v5) cw_X2_set lk_X1_53 vi_X2_set rfl rfl rfl rfl rfl rfl (Nat.le_of_ble_eq_true rfl) (Nat.le_of_ble_eq_true rfl) (AW_kv (fun τ7 h6 => ?_))
    refine AW_g hT cl_X1 hK 15 1 (pc' := 31) (lo' := [some (.ref 25), some (.ref 1), some (.int ((nI i) + 1))]) (st' := []) (hp' := wd (τ7)) rfl ?_
    refine AW_goto hT hK 16 (tgt := 2) rfl rfl ?_
    refine AW_to (lo' := [some (.ref 25), some (.ref 1), some (.int (nI (i + 1)))]) (by rw [nI_1]) rfl rfl ?_
    subst h6; subst h4; subst h2; skip
    exact ih (i + 1) _ (by omega) (fun s' hs' => kx s' ((congrArg (az_it _ n (i + 1)) (by simp only [b_X1_findAnew_2])).trans hs'))
def b_X1_findAnew_37 (n : Nat) (σ : az_S) : az_S :=
  let v13 := x_X3_citersOf σ (nI n)
  let v15 := x_X1_sumOver_28 σ v13
  let τ17 := x_X2_set_28 σ (nI n) v15
  let τ19 := x_X1_findNext (τ17) (nI n)
  (τ19)
set_option maxRecDepth 100000 in
set_option maxHeartbeats 4000000 in
theorem lp_X1_findAnew_37 {K : az_K} {l0 : Launch} (hT : az_Tb cX1_findAnew tb_X1_findAnew) (hK : az_OK K RX1 cX1_findAnew ({ frames := 3, cells := 0, slots := 0, locals := 69 } : Room) l0) :
    ∀ (n : Nat) (σ : az_S) (hi : n ≤ 12) (kx : ∀ s' : az_S, az_dn (fun ι s => b_X1_findAnew_37 ι s) n σ = s' → AW K 0 0 73 [some (.ref 25), some (.ref 1), none] [] (wd s')), AW K 0 0 37 [some (.ref 25), some (.ref 1), some (.int (nI n - 1))] [] (wd σ) := by
  intro n
  induction n with
  | zero =>
    intro σ hi kx
    refine AW_g hT cl_X1 hK 19 1 (pc' := 38) (lo' := [some (.ref 25), some (.ref 1), some (.int (nI 0 - 1))]) (st' := [.int (nI 0 - 1)]) (hp' := wd σ) rfl ?_
    refine AW_if_lt hT hK 20 (tgt := 73) rfl rfl (fun c20 => ?_) (fun c20 => absurd (az_cd0) c20)
    refine AW_msk [true, true, false] (lo' := [some (.ref 25), some (.ref 1), none]) rfl ?_
    exact kx σ rfl
  | succ n ih =>
    intro σ hi kx
    refine AW_to (lo' := [some (.ref 25), some (.ref 1), some (.int (nI n))]) (by rw [az_dn1]) rfl rfl ?_
    refine AW_g hT cl_X1 hK 19 1 (pc' := 38) (lo' := [some (.ref 25), some (.ref 1), some (.int (nI n))]) (st' := [.int (nI n)]) (hp' := wd σ) rfl ?_
    refine AW_if_lt hT hK 20 (tgt := 73) rfl rfl (fun c11 => absurd c11 (az_cd1 hi)) (fun c11 => ?_)
    refine AW_g hT cl_X1 hK 21 7 (pc' := 52) (lo' := [some (.ref 25), some (.ref 1), some (.int (nI n))]) (st' := [.int (nI n), .ref 1, .ref 28, .int (nI n), .ref 28]) (hp' := wd σ) rfl ?_
    refine AW_callV hT hK 28 [.int (nI n)] [.ref 28, .int (nI n), .ref 28] (m_X3_citersOf l0 σ (nI n)) cw_X3_citersOf lk_X1_57 vi_X3_citersOf rfl rfl rfl rfl rfl rfl (Nat.le_of_ble_eq_true rfl) (Nat.le_of_ble_eq_true rfl) (AW_k1 (fun v13 h12 => ?_))
    refine AW_callS hT hK 29 [.ref 28, .int v13] [.int (nI n), .ref 28] (m_X1_sumOver_28 l0 σ v13) cw_X1_sumOver lk_X1_49 sm_X1_sumOver rfl rfl rfl rfl (Nat.le_of_ble_eq_true rfl) (Nat.le_of_ble_eq_true rfl) (AW_k1 (fun v15 h14 => ?_))
    refine AW_callV hT hK 30 [.int (nI n), .int v15] [] (m_X2_set_28 l0 σ (nI n) v15) cw_X2_set lk_X1_53 vi_X2_set rfl rfl rfl rfl rfl rfl (Nat.le_of_ble_eq_true rfl) (Nat.le_of_ble_eq_true rfl) (AW_kv (fun τ17 h16 => ?_))
    refine AW_g hT cl_X1 hK 31 3 (pc' := 64) (lo' := [some (.ref 25), some (.ref 1), some (.int (nI n))]) (st' := [.int (nI n), .ref 1, .ref 25]) (hp' := wd (τ17)) rfl ?_
    refine AW_callV hT hK 34 [.ref 1, .int (nI n)] [] (m_X1_findNext l0 (τ17) (nI n)) cw_X1_findNext lk_X1_60 vi_X1_findNext rfl rfl rfl rfl rfl rfl (Nat.le_of_ble_eq_true rfl) (Nat.le_of_ble_eq_true rfl) (AW_kv (fun τ19 h18 => ?_))
    refine AW_g hT cl_X1 hK 35 1 (pc' := 70) (lo' := [some (.ref 25), some (.ref 1), some (.int ((nI n) + (-1)))]) (st' := []) (hp' := wd (τ19)) rfl ?_
    refine AW_goto hT hK 36 (tgt := 37) rfl rfl ?_
    refine AW_to (lo' := [some (.ref 25), some (.ref 1), some (.int (nI n - 1))]) (by rw [az_dn2]) rfl rfl ?_
    subst h18; subst h16; subst h14; subst h12; skip
    exact ih _ (by omega) (fun s' hs' => kx s' ((congrArg (az_dn _ n) (by simp only [b_X1_findAnew_37])).trans hs'))
def x_X1_findAnew (σ : az_S) : az_S :=
  let s9 := az_it (fun ι s => b_X1_findAnew_2 ι s) 12 0 σ
  let s21 := az_dn (fun ι s => b_X1_findAnew_37 ι s) 12 s9
  let τ24 := x_X1_findMain s21
  τ24
set_option maxRecDepth 100000 in
set_option maxHeartbeats 4000000 in
theorem m_X1_findAnew (l0 : Launch) (σ : az_S) : AMet l0 yX1_findAnew cX1_findAnew 3 none ({ frames := 3, cells := 0, slots := 0, locals := 69 } : Room) false [.ref 25, .ref 1] (wd σ) (fun r h => r = none ∧ h = wd (x_X1_findAnew σ)) := by
  refine AMet_of (by decide +kernel) (by simp [Value.category]) (Nat.le_of_ble_eq_true rfl) (fun K hK hct hG hE => ?_)
  have hT := tt_X1_findAnew
  refine AW_g hT cl_X1 hK 0 2 (pc' := 2) (lo' := [some (.ref 25), some (.ref 1), some (.int 0)]) (st' := []) (hp' := wd σ) rfl ?_
  refine AW_to (lo' := [some (.ref 25), some (.ref 1), some (.int (nI 0))]) (rfl) rfl rfl ?_
  refine lp_X1_findAnew_2 hT hK 12 0 σ (by first | rfl | omega) (fun s9 h10 => ?_)
  refine AW_g hT cl_X1 hK 17 2 (pc' := 37) (lo' := [some (.ref 25), some (.ref 1), some (.int 11)]) (st' := []) (hp' := wd s9) rfl ?_
  refine AW_to (lo' := [some (.ref 25), some (.ref 1), some (.int (nI 12 - 1))]) (rfl) rfl rfl ?_
  refine lp_X1_findAnew_37 hT hK 12 s9 (Nat.le_of_ble_eq_true rfl) (fun s21 h22 => ?_)
  refine AW_g hT cl_X1 hK 37 2 (pc' := 75) (lo' := [some (.ref 25), some (.ref 1), none]) (st' := [.ref 1, .ref 25]) (hp' := wd s21) rfl ?_
  refine AW_callV hT hK 39 [.ref 1] [] (m_X1_findMain l0 s21) cw_X1_findMain lk_X1_64 vi_X1_findMain rfl rfl rfl rfl rfl rfl (Nat.le_of_ble_eq_true rfl) (Nat.le_of_ble_eq_true rfl) (AW_kv (fun τ24 h23 => ?_))
  refine AW_vret hT hE 40 rfl (Nat.le_of_ble_eq_true rfl) (Nat.le_of_ble_eq_true rfl) ?_
  subst h23; subst h22; subst h10; exact ⟨rfl, congrArg wd (by simp only [x_X1_findAnew])⟩
end AZP
end
section
section AZP
def x_X5_mapAnew (σ : az_S) : az_S :=
  let τ2 := x_X0_findAnew σ
  let τ4 := x_X1_findAnew (τ2)
  τ4
set_option maxRecDepth 100000 in
set_option maxHeartbeats 4000000 in
theorem m_X5_mapAnew (l0 : Launch) (σ : az_S) : AMet l0 yX5_mapAnew cX5_mapAnew 1 none ({ frames := 5, cells := 0, slots := 0, locals := 124 } : Room) false [.ref 0] (wd σ) (fun r h => r = none ∧ h = wd (x_X5_mapAnew σ)) := by
  refine AMet_of (by decide +kernel) (by simp [Value.category]) (Nat.le_of_ble_eq_true rfl) (fun K hK hct hG hE => ?_)
  have hT := tt_X5_mapAnew
  refine AW_g hT cl_X5 hK 0 4 (pc' := 8) (lo' := [some (.ref 0)]) (st' := [.ref 1, .ref 12]) (hp' := wd σ) rfl ?_
  refine AW_callV hT hK 4 [.ref 1] [] (m_X0_findAnew l0 σ) cw_X0_findAnew lk_X5_159 vi_X0_findAnew rfl rfl rfl rfl rfl rfl (Nat.le_of_ble_eq_true rfl) (Nat.le_of_ble_eq_true rfl) (AW_kv (fun τ2 h1 => ?_))
  refine AW_g hT cl_X5 hK 5 4 (pc' := 19) (lo' := [some (.ref 0)]) (st' := [.ref 1, .ref 25]) (hp' := wd (τ2)) rfl ?_
  refine AW_callV hT hK 9 [.ref 1] [] (m_X1_findAnew l0 (τ2)) cw_X1_findAnew lk_X5_163 vi_X1_findAnew rfl rfl rfl rfl rfl rfl (Nat.le_of_ble_eq_true rfl) (Nat.le_of_ble_eq_true rfl) (AW_kv (fun τ4 h3 => ?_))
  refine AW_vret hT hE 10 rfl (Nat.le_of_ble_eq_true rfl) (Nat.le_of_ble_eq_true rfl) ?_
  subst h3; subst h1; exact ⟨rfl, congrArg wd (by simp only [x_X5_mapAnew])⟩
def x_X5_papers (σ : az_S) : Int32 :=
  let v2 := x_X3_allThere σ
  let v4 := x_J6_bitCount_0f7a4 σ v2
  v4
set_option maxRecDepth 100000 in
set_option maxHeartbeats 4000000 in
theorem m_X5_papers (l0 : Launch) (σ : az_S) : AMet l0 yX5_papers cX5_papers 1 (some .int) ({ frames := 1, cells := 0, slots := 0, locals := 20 } : Room) false [.ref 0] (wd σ) (fun r h => r = some (.int (x_X5_papers σ)) ∧ h = wd σ) := by
  refine AMet_of (by decide +kernel) (by simp [Value.category]) (Nat.le_of_ble_eq_true rfl) (fun K hK hct hG hE => ?_)
  have hT := tt_X5_papers
  refine AW_g hT cl_X5 hK 0 2 (pc' := 4) (lo' := [some (.ref 0)]) (st' := [.ref 1]) (hp' := wd σ) rfl ?_
  refine AW_callV hT hK 2 [] [] (m_X3_allThere l0 σ) cw_X3_allThere lk_X5_78 vi_X3_allThere rfl rfl rfl rfl rfl rfl (Nat.le_of_ble_eq_true rfl) (Nat.le_of_ble_eq_true rfl) (AW_k1 (fun v2 h1 => ?_))
  refine AW_callS hT hK 3 [.int v2] [] (m_J6_bitCount_0f7a4 l0 σ v2) cw_J6_bitCount_0f7a4 lk_X5_70 sm_J6_bitCount_0f7a4 rfl rfl rfl rfl (Nat.le_of_ble_eq_true rfl) (Nat.le_of_ble_eq_true rfl) (AW_k1 (fun v4 h3 => ?_))
  refine AW_iret hT hE 4 rfl rfl rfl (Nat.le_of_ble_eq_true rfl) (Nat.le_of_ble_eq_true rfl) ?_
  subst h3; subst h1; exact ⟨by simp only [x_X5_papers], rfl⟩
def x_X5_totalAnew (σ : az_S) : Int32 :=
  let v2 := x_X3_weightsFromReferences σ
  v2
set_option maxRecDepth 100000 in
set_option maxHeartbeats 4000000 in
theorem m_X5_totalAnew (l0 : Launch) (σ : az_S) : AMet l0 yX5_totalAnew cX5_totalAnew 1 (some .int) ({ frames := 4, cells := 0, slots := 0, locals := 90 } : Room) false [.ref 0] (wd σ) (fun r h => r = some (.int (x_X5_totalAnew σ)) ∧ h = wd σ) := by
  refine AMet_of (by decide +kernel) (by simp [Value.category]) (Nat.le_of_ble_eq_true rfl) (fun K hK hct hG hE => ?_)
  have hT := tt_X5_totalAnew
  refine AW_g hT cl_X5 hK 0 2 (pc' := 4) (lo' := [some (.ref 0)]) (st' := [.ref 1]) (hp' := wd σ) rfl ?_
  refine AW_callV hT hK 2 [] [] (m_X3_weightsFromReferences l0 σ) cw_X3_weightsFromReferences lk_X5_91 vi_X3_weightsFromReferences rfl rfl rfl rfl rfl rfl (Nat.le_of_ble_eq_true rfl) (Nat.le_of_ble_eq_true rfl) (AW_k1 (fun v2 h1 => ?_))
  refine AW_iret hT hE 3 rfl rfl rfl (Nat.le_of_ble_eq_true rfl) (Nat.le_of_ble_eq_true rfl) ?_
  subst h1; exact ⟨by simp only [x_X5_totalAnew], rfl⟩
def x_X5_total (σ : az_S) : Int32 :=
  let v2 := x_X3_weightsKept σ
  v2
set_option maxRecDepth 100000 in
set_option maxHeartbeats 4000000 in
theorem m_X5_total (l0 : Launch) (σ : az_S) : AMet l0 yX5_total cX5_total 1 (some .int) ({ frames := 3, cells := 0, slots := 0, locals := 69 } : Room) false [.ref 0] (wd σ) (fun r h => r = some (.int (x_X5_total σ)) ∧ h = wd σ) := by
  refine AMet_of (by decide +kernel) (by simp [Value.category]) (Nat.le_of_ble_eq_true rfl) (fun K hK hct hG hE => ?_)
  have hT := tt_X5_total
  refine AW_g hT cl_X5 hK 0 2 (pc' := 4) (lo' := [some (.ref 0)]) (st' := [.ref 1]) (hp' := wd σ) rfl ?_
  refine AW_callV hT hK 2 [] [] (m_X3_weightsKept l0 σ) cw_X3_weightsKept lk_X5_94 vi_X3_weightsKept rfl rfl rfl rfl rfl rfl (Nat.le_of_ble_eq_true rfl) (Nat.le_of_ble_eq_true rfl) (AW_k1 (fun v2 h1 => ?_))
  refine AW_iret hT hE 3 rfl rfl rfl (Nat.le_of_ble_eq_true rfl) (Nat.le_of_ble_eq_true rfl) ?_
  subst h1; exact ⟨by simp only [x_X5_total], rfl⟩
def x_X5_fields (σ : az_S) : Int32 :=
  let v2 := x_X0_allGroups σ
  let v4 := x_J6_bitCount_0f7a4 σ v2
  v4
set_option maxRecDepth 100000 in
set_option maxHeartbeats 4000000 in
theorem m_X5_fields (l0 : Launch) (σ : az_S) : AMet l0 yX5_fields cX5_fields 1 (some .int) ({ frames := 1, cells := 0, slots := 0, locals := 20 } : Room) false [.ref 0] (wd σ) (fun r h => r = some (.int (x_X5_fields σ)) ∧ h = wd σ) := by
  refine AMet_of (by decide +kernel) (by simp [Value.category]) (Nat.le_of_ble_eq_true rfl) (fun K hK hct hG hE => ?_)
  have hT := tt_X5_fields
  refine AW_g hT cl_X5 hK 0 2 (pc' := 4) (lo' := [some (.ref 0)]) (st' := [.ref 12]) (hp' := wd σ) rfl ?_
  refine AW_callV hT hK 2 [] [] (m_X0_allGroups l0 σ) cw_X0_allGroups lk_X5_107 vi_X0_allGroups rfl rfl rfl rfl rfl rfl (Nat.le_of_ble_eq_true rfl) (Nat.le_of_ble_eq_true rfl) (AW_k1 (fun v2 h1 => ?_))
  refine AW_callS hT hK 3 [.int v2] [] (m_J6_bitCount_0f7a4 l0 σ v2) cw_J6_bitCount_0f7a4 lk_X5_70 sm_J6_bitCount_0f7a4 rfl rfl rfl rfl (Nat.le_of_ble_eq_true rfl) (Nat.le_of_ble_eq_true rfl) (AW_k1 (fun v4 h3 => ?_))
  refine AW_iret hT hE 4 rfl rfl rfl (Nat.le_of_ble_eq_true rfl) (Nat.le_of_ble_eq_true rfl) ?_
  subst h3; subst h1; exact ⟨by simp only [x_X5_fields], rfl⟩
def x_X5_ways (σ : az_S) : Int32 :=
  let v2 := x_X1_wholeWays σ
  v2
set_option maxRecDepth 100000 in
set_option maxHeartbeats 4000000 in
theorem m_X5_ways (l0 : Launch) (σ : az_S) : AMet l0 yX5_ways cX5_ways 1 (some .int) ({ frames := 1, cells := 0, slots := 0, locals := 20 } : Room) false [.ref 0] (wd σ) (fun r h => r = some (.int (x_X5_ways σ)) ∧ h = wd σ) := by
  refine AMet_of (by decide +kernel) (by simp [Value.category]) (Nat.le_of_ble_eq_true rfl) (fun K hK hct hG hE => ?_)
  have hT := tt_X5_ways
  refine AW_g hT cl_X5 hK 0 2 (pc' := 4) (lo' := [some (.ref 0)]) (st' := [.ref 25]) (hp' := wd σ) rfl ?_
  refine AW_callV hT hK 2 [] [] (m_X1_wholeWays l0 σ) cw_X1_wholeWays lk_X5_133 vi_X1_wholeWays rfl rfl rfl rfl rfl rfl (Nat.le_of_ble_eq_true rfl) (Nat.le_of_ble_eq_true rfl) (AW_k1 (fun v2 h1 => ?_))
  refine AW_iret hT hE 3 rfl rfl rfl (Nat.le_of_ble_eq_true rfl) (Nat.le_of_ble_eq_true rfl) ?_
  subst h1; exact ⟨by simp only [x_X5_ways], rfl⟩
def x_X5_mainLength (σ : az_S) : Int32 :=
  let v2 := x_X1_lengthOfMain σ
  v2
set_option maxRecDepth 100000 in
set_option maxHeartbeats 4000000 in
theorem m_X5_mainLength (l0 : Launch) (σ : az_S) : AMet l0 yX5_mainLength cX5_mainLength 1 (some .int) ({ frames := 1, cells := 0, slots := 0, locals := 20 } : Room) false [.ref 0] (wd σ) (fun r h => r = some (.int (x_X5_mainLength σ)) ∧ h = wd σ) := by
  refine AMet_of (by decide +kernel) (by simp [Value.category]) (Nat.le_of_ble_eq_true rfl) (fun K hK hct hG hE => ?_)
  have hT := tt_X5_mainLength
  refine AW_g hT cl_X5 hK 0 2 (pc' := 4) (lo' := [some (.ref 0)]) (st' := [.ref 25]) (hp' := wd σ) rfl ?_
  refine AW_callV hT hK 2 [] [] (m_X1_lengthOfMain l0 σ) cw_X1_lengthOfMain lk_X5_136 vi_X1_lengthOfMain rfl rfl rfl rfl rfl rfl (Nat.le_of_ble_eq_true rfl) (Nat.le_of_ble_eq_true rfl) (AW_k1 (fun v2 h1 => ?_))
  refine AW_iret hT hE 3 rfl rfl rfl (Nat.le_of_ble_eq_true rfl) (Nat.le_of_ble_eq_true rfl) ?_
  subst h1; exact ⟨by simp only [x_X5_mainLength], rfl⟩
def x_X5_mainSum (σ : az_S) : Int64 :=
  let v2 := x_X1_sumOfMain σ
  v2.toInt64
set_option maxRecDepth 100000 in
set_option maxHeartbeats 4000000 in
theorem m_X5_mainSum (l0 : Launch) (σ : az_S) : AMet l0 yX5_mainSum cX5_mainSum 1 (some .long) ({ frames := 1, cells := 0, slots := 0, locals := 20 } : Room) false [.ref 0] (wd σ) (fun r h => r = some (.long (x_X5_mainSum σ)) ∧ h = wd σ) := by
  refine AMet_of (by decide +kernel) (by simp [Value.category]) (Nat.le_of_ble_eq_true rfl) (fun K hK hct hG hE => ?_)
  have hT := tt_X5_mainSum
  refine AW_g hT cl_X5 hK 0 2 (pc' := 4) (lo' := [some (.ref 0)]) (st' := [.ref 25]) (hp' := wd σ) rfl ?_
  refine AW_callV hT hK 2 [] [] (m_X1_sumOfMain l0 σ) cw_X1_sumOfMain lk_X5_147 vi_X1_sumOfMain rfl rfl rfl rfl rfl rfl (Nat.le_of_ble_eq_true rfl) (Nat.le_of_ble_eq_true rfl) (AW_k1 (fun v2 h1 => ?_))
  refine AW_g hT cl_X5 hK 3 1 (pc' := 8) (lo' := [some (.ref 0)]) (st' := [.long v2.toInt64]) (hp' := wd σ) rfl ?_
  refine AW_lret hT hE 4 rfl (Nat.le_of_ble_eq_true rfl) (Nat.le_of_ble_eq_true rfl) ?_
  subst h1; exact ⟨by simp only [x_X5_mainSum], rfl⟩
def x_X5_referencePairs (σ : az_S) (p0 : Int32) (p1 : Int32) : Int32 :=
  let v2 := x_X3_referredBy σ p0
  let v4 := x_J6_bitCount_0f7a4 σ v2
  let v6 := x_X3_referredBy σ p1
  let v8 := x_J6_bitCount_0f7a4 σ v6
  (v4 * v8)
set_option maxRecDepth 100000 in
set_option maxHeartbeats 4000000 in
theorem m_X5_referencePairs (l0 : Launch) (σ : az_S) (p0 : Int32) (p1 : Int32) : AMet l0 yX5_referencePairs cX5_referencePairs 3 (some .int) ({ frames := 2, cells := 0, slots := 0, locals := 42 } : Room) false [.ref 0, .int p0, .int p1] (wd σ) (fun r h => r = some (.int (x_X5_referencePairs σ p0 p1)) ∧ h = wd σ) := by
  refine AMet_of (by decide +kernel) (by simp [Value.category]) (Nat.le_of_ble_eq_true rfl) (fun K hK hct hG hE => ?_)
  have hT := tt_X5_referencePairs
  refine AW_g hT cl_X5 hK 0 3 (pc' := 5) (lo' := [some (.ref 0), some (.int p0), some (.int p1)]) (st' := [.int p0, .ref 1]) (hp' := wd σ) rfl ?_
  refine AW_callV hT hK 3 [.int p0] [] (m_X3_referredBy l0 σ p0) cw_X3_referredBy lk_X5_82 vi_X3_referredBy rfl rfl rfl rfl rfl rfl (Nat.le_of_ble_eq_true rfl) (Nat.le_of_ble_eq_true rfl) (AW_k1 (fun v2 h1 => ?_))
  refine AW_callS hT hK 4 [.int v2] [] (m_J6_bitCount_0f7a4 l0 σ v2) cw_J6_bitCount_0f7a4 lk_X5_70 sm_J6_bitCount_0f7a4 rfl rfl rfl rfl (Nat.le_of_ble_eq_true rfl) (Nat.le_of_ble_eq_true rfl) (AW_k1 (fun v4 h3 => ?_))
  refine AW_g hT cl_X5 hK 5 3 (pc' := 16) (lo' := [some (.ref 0), some (.int p0), some (.int p1)]) (st' := [.int p1, .ref 1, .int v4]) (hp' := wd σ) rfl ?_
  refine AW_callV hT hK 8 [.int p1] [.int v4] (m_X3_referredBy l0 σ p1) cw_X3_referredBy lk_X5_82 vi_X3_referredBy rfl rfl rfl rfl rfl rfl (Nat.le_of_ble_eq_true rfl) (Nat.le_of_ble_eq_true rfl) (AW_k1 (fun v6 h5 => ?_))
  refine AW_callS hT hK 9 [.int v6] [.int v4] (m_J6_bitCount_0f7a4 l0 σ v6) cw_J6_bitCount_0f7a4 lk_X5_70 sm_J6_bitCount_0f7a4 rfl rfl rfl rfl (Nat.le_of_ble_eq_true rfl) (Nat.le_of_ble_eq_true rfl) (AW_k1 (fun v8 h7 => ?_))
  refine AW_g hT cl_X5 hK 10 1 (pc' := 23) (lo' := [some (.ref 0), some (.int p0), some (.int p1)]) (st' := [.int (v4 * v8)]) (hp' := wd σ) rfl ?_
  refine AW_iret hT hE 11 rfl rfl rfl (Nat.le_of_ble_eq_true rfl) (Nat.le_of_ble_eq_true rfl) ?_
  subst h7; subst h5; subst h3; subst h1; exact ⟨by simp only [x_X5_referencePairs], rfl⟩
/-- lowestTerm, from the divisor n downwards -/
def lt_go (t u w : Int32) : Nat → Int32
  | 0 => t
  | n + 1 => if nI (n + 1) ≤ 1 then t else if u - u / nI (n + 1) * nI (n + 1) = 0 then (if w - w / nI (n + 1) * nI (n + 1) = 0 then t / nI (n + 1) else lt_go t u w n) else lt_go t u w n
def x_X5_lowestTerm (σ : az_S) (p0 p1 p2 : Int32) : Int32 := if p2 ≤ 1 then p0 else lt_go p0 p1 p2 p2.toNatClampNeg
theorem lp_lowestTerm {K : az_K} {l0 : Launch} {Ψ : Option Value → az_H → Prop} (hT : az_Tb cX5_lowestTerm tb_X5_lowestTerm) (hK : az_OK K RX5 cX5_lowestTerm ({ frames := 0, cells := 0, slots := 0, locals := 0 } : Room) l0) (hE : az_End K cX5_lowestTerm (some .int) ({ frames := 0, cells := 0, slots := 0, locals := 0 } : Room) Ψ) (σ : az_S) (p0 p1 p2 : Int32) :
    ∀ (n : Nat) (hn : n < 2 ^ 31) (h : Ψ (some (.int (lt_go p0 p1 p2 n))) (wd σ)), AW K 0 0 2 [some (.int p0), some (.int p1), some (.int p2), some (.int (nI n))] [] (wd σ) := by
  intro n
  induction n with
  | zero =>
    intro hn h
    refine AW_g hT cl_X5 hK 2 2 (pc' := 4) (lo' := [some (.int p0), some (.int p1), some (.int p2), some (.int (nI 0))]) (st' := [.int 1, .int (nI 0)]) (hp' := wd σ) rfl ?_
    refine AW_icmp_le hT hK 4 (tgt := 29) rfl rfl (fun c => ?_) (fun c => absurd (by decide) c)
    refine AW_g hT cl_X5 hK 19 1 (pc' := 30) (lo' := [some (.int p0), some (.int p1), some (.int p2), some (.int (nI 0))]) (st' := [.int p0]) (hp' := wd σ) rfl ?_
    exact AW_iret hT hE 20 rfl rfl rfl (Nat.le_of_ble_eq_true rfl) (Nat.le_of_ble_eq_true rfl) h
  | succ n ih =>
    intro hn h
    have hne : ¬ nI (n + 1) = 0 := nI_ne0 (by omega) hn
    refine AW_g hT cl_X5 hK 2 2 (pc' := 4) (lo' := [some (.int p0), some (.int p1), some (.int p2), some (.int (nI (n + 1)))]) (st' := [.int 1, .int (nI (n + 1))]) (hp' := wd σ) rfl ?_
    refine AW_icmp_le hT hK 4 (tgt := 29) rfl rfl (fun c => ?_) (fun c => ?_)
    · refine AW_g hT cl_X5 hK 19 1 (pc' := 30) (lo' := [some (.int p0), some (.int p1), some (.int p2), some (.int (nI (n + 1)))]) (st' := [.int p0]) (hp' := wd σ) rfl ?_
      refine AW_iret hT hE 20 rfl rfl rfl (Nat.le_of_ble_eq_true rfl) (Nat.le_of_ble_eq_true rfl) ?_
      simp only [lt_go, if_pos c] at h
      exact h
    · have hb : ∀ (hh : Ψ (some (.int (lt_go p0 p1 p2 n))) (wd σ)), AW K 0 0 23 [some (.int p0), some (.int p1), some (.int p2), some (.int (nI (n + 1)))] [] (wd σ) := by
        intro hh
        refine AW_g hT cl_X5 hK 17 1 (pc' := 26) (lo' := [some (.int p0), some (.int p1), some (.int p2), some (.int (nI (n + 1) + (-1)))]) (st' := []) (hp' := wd σ) rfl ?_
        refine AW_goto hT hK 18 (tgt := 2) rfl rfl ?_
        refine AW_to (lo' := [some (.int p0), some (.int p1), some (.int p2), some (.int (nI n))]) (by rw [pk_m1]) rfl rfl ?_
        exact ih (by omega) hh
      refine AW_g hT cl_X5 hK 5 2 (pc' := 9) (lo' := [some (.int p0), some (.int p1), some (.int p2), some (.int (nI (n + 1)))]) (st' := [.int (nI (n + 1)), .int p1]) (hp' := wd σ) rfl ?_
      refine AW_irem hT hK 7 rfl hne ?_
      refine AW_if_ne hT hK 8 (tgt := 23) rfl rfl (fun c2 => hb ?_) (fun c2 => ?_)
      · simp only [lt_go, if_neg c, if_neg c2] at h
        exact h
      refine AW_g hT cl_X5 hK 9 2 (pc' := 15) (lo' := [some (.int p0), some (.int p1), some (.int p2), some (.int (nI (n + 1)))]) (st' := [.int (nI (n + 1)), .int p2]) (hp' := wd σ) rfl ?_
      refine AW_irem hT hK 11 rfl hne ?_
      refine AW_if_ne hT hK 12 (tgt := 23) rfl rfl (fun c3 => hb ?_) (fun c3 => ?_)
      · simp only [lt_go, if_neg c, if_pos c2, if_neg c3] at h
        exact h
      refine AW_g hT cl_X5 hK 13 2 (pc' := 21) (lo' := [some (.int p0), some (.int p1), some (.int p2), some (.int (nI (n + 1)))]) (st' := [.int (nI (n + 1)), .int p0]) (hp' := wd σ) rfl ?_
      refine AW_idiv hT hK 15 rfl hne ?_
      refine AW_iret hT hE 16 rfl rfl rfl (Nat.le_of_ble_eq_true rfl) (Nat.le_of_ble_eq_true rfl) ?_
      simp only [lt_go, if_neg c, if_pos c2, if_pos c3] at h
      exact h
theorem m_X5_lowestTerm (l0 : Launch) (σ : az_S) (p0 p1 p2 : Int32) : AMet l0 yX5_lowestTerm cX5_lowestTerm 4 (some .int) ({ frames := 0, cells := 0, slots := 0, locals := 0 } : Room) false [.int p0, .int p1, .int p2] (wd σ) (fun r h => r = some (.int (x_X5_lowestTerm σ p0 p1 p2)) ∧ h = wd σ) := by
  refine AMet_of (by decide +kernel) (by simp [Value.category]) (Nat.le_of_ble_eq_true rfl) (fun K hK hct hG hE => ?_)
  have hT := tt_X5_lowestTerm
  refine AW_g hT cl_X5 hK 0 2 (pc' := 2) (lo' := [some (.int p0), some (.int p1), some (.int p2), some (.int p2)]) (st' := []) (hp' := wd σ) rfl ?_
  by_cases c : p2 ≤ 1
  · refine AW_g hT cl_X5 hK 2 2 (pc' := 4) (lo' := [some (.int p0), some (.int p1), some (.int p2), some (.int p2)]) (st' := [.int 1, .int p2]) (hp' := wd σ) rfl ?_
    refine AW_icmp_le hT hK 4 (tgt := 29) rfl rfl (fun c => ?_) (fun c2 => absurd c c2)
    refine AW_g hT cl_X5 hK 19 1 (pc' := 30) (lo' := [some (.int p0), some (.int p1), some (.int p2), some (.int p2)]) (st' := [.int p0]) (hp' := wd σ) rfl ?_
    refine AW_iret hT hE 20 rfl rfl rfl (Nat.le_of_ble_eq_true rfl) (Nat.le_of_ble_eq_true rfl) ?_
    exact ⟨by simp only [x_X5_lowestTerm, if_pos c], rfl⟩
  · obtain ⟨h1, h2, h3⟩ : 0 ≤ p2 ∧ p2 = nI p2.toNatClampNeg ∧ p2.toNatClampNeg < 2 ^ 31 := by
      rcases az_tc p2 with ⟨h, -⟩ | h
      · exfalso
        apply c
        rw [Int32.lt_iff_toInt_lt] at h
        rw [Int32.le_iff_toInt_le]
        have e1 : (0 : Int32).toInt = 0 := rfl
        have e2 : (1 : Int32).toInt = 1 := rfl
        omega
      · exact h
    refine AW_to (lo' := [some (.int p0), some (.int p1), some (.int p2), some (.int (nI p2.toNatClampNeg))]) (by rw [← h2]) rfl rfl ?_
    exact lp_lowestTerm hT hK hE σ p0 p1 p2 _ h3 ⟨by simp only [x_X5_lowestTerm, if_neg c], rfl⟩
end AZP
end
section
/-! 'throw new E("text")' for a class whose constructor hands the text on by any index of its pool (NoSuchElementException: 13); follows the library's laws for the index 7 (BundleOwnThrow, and vx_throwS of the kit) -/
section AZX
def az_at (own : String) (ic : Nat) (X : String) (ix : Nat) (rx : ByteArray) : List Cond :=
  Bundle.throwableAtoms ++ Bundle.throwableSAtoms ++ (Bundle.passSAtoms X "java/lang/RuntimeException" ix rx ++ Bundle.chainSAtoms "java/lang/RuntimeException" ["java/lang/Exception"]) ++
  [.methodLink own ic (Bundle.initS X), .instantiable X 6, .castable X X, .selects X Bundle.tFill0 Bundle.tFill0, .selects X Bundle.tFill Bundle.tFill,
   .lays X Bundle.tN "cause" "Ljava/lang/Throwable;", .lays X Bundle.tN "stackTrace" Bundle.steD, .lays X Bundle.tN "suppressedExceptions" Bundle.listD, .lays X Bundle.tN "detailMessage" "Ljava/lang/String;",
   .isRef (.static Bundle.tN "UNASSIGNED_STACK" Bundle.steD), .isRef (.static Bundle.tN "SUPPRESSED_SENTINEL" Bundle.listD),
   .fieldLink Bundle.tN 198 Bundle.tN "backtrace" "Ljava/lang/Object;", .lays Bundle.tN Bundle.tN "backtrace" "Ljava/lang/Object;", .lays X Bundle.tN "backtrace" "Ljava/lang/Object;"]
def az_rx (rx : ByteArray) (ix : Nat) : Prop := decode rx 0 = .ok (.aload_n 0, 1) ∧ decode rx 1 = .ok (.aload_n 1, 1) ∧ decode rx 2 = .ok (.invokespecial ix, 3) ∧ decode rx 5 = .ok (.return_, 1)
section
variable {p : Program} {l : Launch} {e : Env} {R : Room} {s : State} {m₀ : MethodId} {args : Array Value} {below : List Frame} {meth : Method} {c : Code} {W : State} {locs : List Loc} {cells slots : Nat}
set_option maxHeartbeats 2000000 in
theorem az_ctorX (X : Stand p l e R s m₀ args below meth c W locs cells slots) (hexec : p.tables.exec = Jvm.exec) (htr : e.platform.stackTraces = false) {own cls : String} {ic ix : Nat} {rx : ByteArray} (hrx : az_rx rx ix)
    (hown : s.vm.findClass own = some m₀.cls) (hcls : Bundle.fit cls = true) (h : ∀ a ∈ az_at own ic cls ix rx, a.before args s = true)
    (hlocs : ∀ x ∈ locs, ∀ cell, s.heap[x.base]? = some cell → cell.vm.isStatics = false)
    {a : Addr} {cX : ClassId} {kX : Class} (hfoundX : s.vm.findClass cls = some cX) (hkX : s.vm.classes[cX]? = some kX) (hcell : W.heap[a]? = some (freshCell cX kX)) (hnew : s.heap.size ≤ a)
    {msg : Value} (hmsg : msg.isRef = true)
    {g : JFrame} (hg : g.method = m₀) (hsize : g.locals.size = c.maxLocals) (hlocked : g.locked = none) (hentered : g.entered = []) {rest : List Value} (hstack : g.stack = msg :: .ref a :: .ref a :: rest)
    (hd6 : decode c.code g.pc = .ok (.invokespecial ic, 3)) (hd9 : decode c.code (g.pc + 3) = .ok (.athrow, 1)) (hout : ∀ x ∈ c.exceptionTable.toList, covers x (g.pc + 3) = false)
    (hRframes : 5 < R.frames) (hRlocals : 2 * g.monitorRoom + ((Value.ref a :: rest).map fun v => v.category).sum + (13 * 3 + 42) ≤ R.locals) (hlocks : meth.locks = false) :
    ∃ U : State, Steps p.tables e below (W.setTop g) U ∧ U.status = .running ∧ Ended U below (.threw a) ∧ s.WarmedH U.vm ∧ s.sameButNew ({ U with vm := s.vm } : State) locs cells slots ∧
      ∃ ce, U.heap[a]? = some ce ∧ s.vm.findClass cls = some ce.cls ∧ ce.vm = .none := by
  have howns : e.platform.frameOwnsMonitors = true := by rw [X.admits.platform]
  have hfin : e.platform.finalization = false := by rw [X.admits.platform]
  have hpl : e.platform.magicAccessors = ({} : Platform).magicAccessors := by rw [X.admits.platform]
  have a' : ∀ x, x ∈ az_at own ic cls ix rx → x.holds args s none s [] = true := fun x hx => h x hx
  obtain ⟨T, Z0, L, -, Y⟩ := ThrowableC.of_atoms (args := args) howns hfin hpl (fun x hx => h x (by simp [az_at, hx]))
  obtain ⟨Z, M, LZ, LM, hnZ⟩ := Init0T.ofS_atoms (args := args) hpl L Y (fun x hx => h x (by simp [az_at, hx]))
  obtain ⟨P1, L1, hP1m, hs1⟩ := PassC.ofS_atoms (args := args) (s := s) hpl (X := cls) (Y := "java/lang/RuntimeException") (Bundle.fit_spec hcls).1 (by decide) hrx.1 hrx.2.1 hrx.2.2.1 hrx.2.2.2 (fun x hx => h x (by simp [az_at, hx]))
  obtain ⟨P2, Ps, hlen, L2, hL, hP2m, hsup, hpass⟩ := Bundle.chainS (args := args) hpl hnZ ["java/lang/Exception"] "java/lang/RuntimeException" (by decide) (by decide) (fun x hx => h x (by simp [az_at, hx]))
  have hfound : s.vm.findClass cls = some P1.m.cls := findClass_of_methodNamed hP1m
  cases Option.some.inj (hfoundX.symm.trans hfound)
  obtain ⟨c1, kX', hc1, hk, hord, -, -, hn6⟩ := Cond.instantiable_spec (a' (.instantiable cls 6) (by simp [az_at]))
  cases Option.some.inj (hc1.symm.trans hfound)
  cases Option.some.inj (hkX.symm.trans hk)
  have hsel0 : selectMethod e.platform s.vm P1.m.cls T.fill0 = .method T.fill0 := by
    obtain ⟨c2, r2, m2, q1, q2, q3, q4, -⟩ := Cond.selects_spec (a' (.selects cls Bundle.tFill0 Bundle.tFill0) (by simp [az_at]))
    cases Option.some.inj (q1.symm.trans hfound)
    cases Option.some.inj (q2.symm.trans (State.methodFound?_of_named Y.fill0 (by decide)))
    cases Option.some.inj (q3.symm.trans Y.fill0)
    rw [Launch.admits_selectMethod X.admits]; exact q4
  have hselF : selectMethod e.platform s.vm P1.m.cls T.fill = .method T.fill := by
    obtain ⟨c2, r2, m2, q1, q2, q3, q4, -⟩ := Cond.selects_spec (a' (.selects cls Bundle.tFill Bundle.tFill) (by simp [az_at]))
    cases Option.some.inj (q1.symm.trans hfound)
    cases Option.some.inj (q2.symm.trans (State.methodFound?_of_named Y.fill (by decide)))
    cases Option.some.inj (q3.symm.trans Y.fill)
    rw [Launch.admits_selectMethod X.admits]; exact q4
  obtain ⟨cellS0, hcS0, hiss⟩ := Y.statics
  obtain ⟨u0, hu0⟩ := Cond.staticRefV Y.unassigned L.unassignedStatic L.statics hcS0 hiss (a' (.isRef (.static Bundle.tN "UNASSIGNED_STACK" Bundle.steD)) (by simp [az_at]))
  obtain ⟨sen, hsen⟩ := Cond.staticRefV Y.sentinel L.sentinelStatic L.statics hcS0 hiss (a' (.isRef (.static Bundle.tN "SUPPRESSED_SENTINEL" Bundle.listD)) (by simp [az_at]))
  obtain ⟨ci198, i198, fB, hk198, hg198, ha198, hsB, -, hnB, htB, hffB⟩ := Cond.ownField (t := .object "java/lang/Object") Y.found L.cls (by decide +kernel) (a' (.fieldLink Bundle.tN 198 Bundle.tN "backtrace" "Ljava/lang/Object;") (by simp [az_at])) (a' (.lays Bundle.tN Bundle.tN "backtrace" "Ljava/lang/Object;") (by simp [az_at])) e.platform hpl
  obtain ⟨cellS, hcS', heS, -, hkeep⟩ := X.same.2.2.2.2.2 T.aS cellS0 hcS0
  have hcellS : W.heap[T.aS]? = some cellS := hcS'
  have hout' : ∀ i, (⟨T.aS, i⟩ : Loc) ∉ locs := fun i hmem => by
    have := hlocs _ hmem cellS0 hcS0
    rw [hiss] at this; cases this
  have hknownS : cellS.vm ≠ .unknown := by
    rw [heS]; intro hu
    rw [show cellS0.vm = .unknown from hu] at hiss
    cases hiss
  have hneS : T.aS ≠ a := Nat.ne_of_lt (Nat.lt_of_lt_of_le (Array.getElem?_eq_some_iff.mp hcS0).1 hnew)
  obtain ⟨iM, hffM⟩ := Y.msg
  obtain ⟨tyC, dC, hdC, hdnC⟩ := Cond.laysAt hfound hk Y.cause (a' (.lays cls Bundle.tN "cause" "Ljava/lang/Throwable;") (by simp [az_at]))
  obtain ⟨tyS, dS, hdS, hdnS⟩ := Cond.laysAt hfound hk Y.stack (a' (.lays cls Bundle.tN "stackTrace" Bundle.steD) (by simp [az_at]))
  obtain ⟨tyP, dP, hdP, hdnP⟩ := Cond.laysAt hfound hk Y.supp (a' (.lays cls Bundle.tN "suppressedExceptions" Bundle.listD) (by simp [az_at]))
  obtain ⟨tyM, dM, hdM, hdnM⟩ := Cond.laysAt hfound hk hffM (a' (.lays cls Bundle.tN "detailMessage" "Ljava/lang/String;") (by simp [az_at]))
  obtain ⟨tyB, dB, hdB, hdnB⟩ := Cond.laysAt hfound hk hffB (a' (.lays cls Bundle.tN "backtrace" "Ljava/lang/Object;") (by simp [az_at]))
  have bC := Cond.laysApart hdB hdC hdnB hdnC (by rw [hnB, Y.causeName]; decide)
  have bS := Cond.laysApart hdB hdS hdnB hdnS (by rw [hnB, Y.stackName]; decide)
  have bP := Cond.laysApart hdB hdP hdnB hdnP (by rw [hnB, Y.suppName]; decide)
  have hskip : SkipFacts T e.platform s (fun u => u) u0 ((preparedCellV T.toThrowableT (freshCell P1.m.cls kX) a u0 sen).withEntry W.cur) :=
    ⟨{ ci198 := ci198, i198 := i198, fBack := fB }, ⟨hk198, hg198, ha198, hsB⟩, by
      have := fresh_default (c := P1.m.cls) tyB
      rw [htB] at this
      simpa [preparedCellV, Cell.setSlot, Cell.withEntry, Array.getElem?_setIfInBounds, bC, bS, bP, bC.symm, bS.symm, bP.symm, defaultValue] using this, fun _ _ => rfl⟩
  obtain ⟨tm, methC, cdC, kC, vm₁, hnC, -, -, -, -, -, -, -, hW₁, st1⟩ := Steps.initColdS (tb := p.tables) (e := e) (below := below) (s := s) (U := W) X.here hexec X.warmed hpl hown (t := Bundle.initS cls) rfl rfl (Bundle.fit_spec hcls).2
    (a' (.methodLink own ic (Bundle.initS cls)) (by simp [az_at])) (h (.instanceMethod (Bundle.initS cls)) (by simp [az_at, Bundle.passSAtoms])) (bytes := rx) (maxL := 2) (h (.code (Bundle.initS cls) rx 2 none) (by simp [az_at, Bundle.passSAtoms]))
    (f := g) hg (a := a) (msg := msg) (rest := .ref a :: rest) hstack hd6
  cases Option.some.inj (hnC.symm.trans hP1m)
  have X₁ := X.noted hW₁
  have hlink1 := Option.some.inj (hs1.symm.trans hP2m)
  obtain ⟨vm₂, X₂, st2⟩ := X₁.ctorMessageOffV hexec (g := { g with stack := .ref a :: rest }) hg hsize T L Z LZ M LM (P1 :: P2 :: Ps)
    (fun P hP => by
      rcases List.mem_cons.mp hP with rfl | hP
      · exact L1
      · rcases List.mem_cons.mp hP with rfl | hP
        · exact L2
        · exact hL P hP) ⟨hlink1, hsup, hpass⟩ (u0 := u0) (sen := sen) (self := a) hmsg (cell := freshCell P1.m.cls kX) (cellS := cellS)
    hcell (fun _ => by simp) (by simp) rfl rfl hsel0 hselF hcellS hneS hknownS (by rw [hkeep _ (hout' _)]; exact hu0) (by rw [hkeep _ (hout' _)]; exact hsen)
    (Takes.of_laid hk hord tyC (by rw [Y.causeType]; rfl)) (Takes.of_laid hk hord tyS (by rw [Y.stackType]; exact fits_refV_array _ u0)) (Takes.of_laid hk hord tyP (by rw [Y.suppType]; exact fits_refV_object _ sen))
    (Takes.of_laid hk hord tyM (by rw [Y.msgType]; exact fits_refV_object _ ⟨msg, hmsg⟩)) Y.objLocals hskip htr [] hd6
    (by simp only [List.length_cons, hlen, List.length_nil]; omega) (by simp only [List.length_cons, hlen, List.length_nil]; exact hRlocals)
  obtain ⟨hwalk, hrun, hended, hWU, hsame⟩ := X₂.athrowLeaves hexec (g := { g with stack := .ref a :: rest, pc := g.pc + 3 }) hg hlocked hentered hout (a := a) (rest := rest) rfl hd9
  have hlt : a < ((W.setVm vm₁).setVm vm₂).heap.size := (Array.getElem?_eq_some_iff.mp hcell).1
  have hU := heapAt_setCell_self (s := (W.setVm vm₁).setVm vm₂) (plainBareV T.toThrowableT (freshCell P1.m.cls kX) a u0 sen msg) hlt
  refine ⟨_, st1 _ (fun acts => ?_), hrun, hended, hWU, hsame.weaken (fun y hy hlt' => ?_) (Nat.le_refl _) (Nat.le_refl _), _, hU, hfound, rfl⟩
  · rw [doInvoke_state]
    exact st2 _ hwalk
  · rcases List.mem_append.mp hy with h1 | h1
    · exact h1
    · exfalso
      have hb : y.base = a := by
        simp only [List.mem_cons, List.not_mem_nil, or_false] at h1
        rcases h1 with rfl | rfl | rfl | rfl | rfl <;> rfl
      rw [hb] at hlt'
      exact Nat.not_lt.mpr hnew hlt'
end
/-- 'throw new E("text")', in abstract terms -/
def az_XC (D : va_G) (cA : Nat → ClassId) (ad : Nat → Nat) (hp : az_H) (sz : Nat) (Ξ : String → Prop) : String → State → State → Prop := fun E st t =>
  Ξ E ∧ va_P D vwCl (az_w cA ad hp) t.heap ∧ va_F (va_A (az_w cA ad hp) sz) st t ∧ st.heap.size + 1 ≤ t.heap.size
/-- the contract of a method that returns, or throws and has changed nothing -/
def AMetX (l : Launch) (y : MethodName) (cc : ByteArray) (maxL : Nat) (ret : Option FieldType) (rm : Room) (as : List Value) (hp : az_H) (Ψ : Option Value → az_H → Prop) (Ξ : String → Prop) : Prop :=
  ∀ (D : va_G) (cA : Nat → ClassId) (ad : Nat → Nat) (sz : Nat),
    vx_Met l y [.code y cc maxL ret] rm (va_Pc (as.map (az_v ad)) (az_U D cA ad hp sz)) (az_Q D cA ad hp sz false Ψ) (az_XC D cA ad hp sz Ξ) rm.cells rm.slots (va_A (az_w cA ad hp) sz)
/-- a throw under way over this method's frame -/
def AWX (K : az_K) (cells slots pc : Nat) (lo : List (Option Value)) (rest : List Value) (hp : az_H) (E : String) : Prop :=
  match K with
  | (p, l, e, R, s, m, args, below, meth, c, D, cA, A, Ag, Q, nL) =>
    ∀ (ad : Nat → Nat) (H : Heap) (locs : List Loc) (ls : Array Slot) (q : Addr) (ce : Cell), Ag ad → va_P D vwCl (az_w cA ad hp) H → va_D A (az_w cA ad hp) → va_S A s.heap H locs → s.heap.size + 1 ≤ H.size → az_ls ad ls nL lo → H[q]? = some ce → ce.vm = .none → s.vm.findClass E = some ce.cls →
      vx_W p l e R s m args below meth c H locs cells slots Q (F0 m pc ls (rest.map (az_v ad))) q
/-- a body that may throw -/
def az_Thr (K : az_K) (rm : Room) (hp0 : az_H) (Ξ : String → Prop) : Prop :=
  match K with
  | (_, _, _, _, s, _, args, below, _, c, D, cA, A, Ag, Q, _) =>
    (∀ x ∈ c.exceptionTable.toList, False) ∧ ∃ (Qc : Array Value → State → Outcome → State → Prop) (ad0 : Nat → Nat), Q = vx_MQ below Qc (az_XC D cA ad0 hp0 s.heap.size Ξ) args s rm.cells rm.slots A ∧ (∀ ad, Ag ad → ad = ad0) ∧ A = va_A (az_w cA ad0 hp0) s.heap.size
section
variable {K : az_K} {own : String} {cc : ByteArray} {R0 : Room} {l0 : Launch} {tb : List (Nat × Instr)} {cells slots pc : Nat} {lo : List (Option Value)} {st rest : List Value} {hp : az_H} {Ξ : String → Prop}
theorem AWX_out (hK : az_OK K own cc R0 l0) (hX : az_Thr K R0 hp Ξ) {E : String} (hc : cells ≤ R0.cells) (hs : slots ≤ R0.slots) (h : Ξ E) : AWX K cells slots pc lo rest hp E := by
  obtain ⟨p, l, e, R, s, m, args, below, meth, c, D, cA, A, Ag, Q, nL⟩ := K
  obtain ⟨hexec, hb, hml, hlk, hown, hev, hKn, hA, rfl, rfl⟩ := hK
  obtain ⟨ht, Qc, ad0, rfl, hag0, hAe⟩ := hX
  intro ad H locs ls q ce hag hP hD hS hlb hl hq hv hcl
  have := hag0 ad hag
  subst this
  refine vx_out (E := E) (ce := ce) (fun x hx => (ht x hx).elim) hlk hq hv hcl (fun t ht9 hW => ⟨h, by rw [ht9]; exact hP, ?_, by rw [ht9]; exact hlb⟩) hS.2.2 hc hs
  rw [← hAe]
  exact hS.F ht9
def az_NSE : String := "java/util/NoSuchElementException"
def az_IAE : String := "java/lang/IllegalArgumentException"
def az_ISE : String := "java/lang/IllegalStateException"
def az_IOB : String := "java/lang/IndexOutOfBoundsException"
theorem AW_throw (hT : az_Tb cc tb) (hK : az_OK K own cc R0 l0) (hX : az_Thr K R0 hp Ξ) (hl0 : l0.stackTraces = false) (i : Nat) {cls text : String} {ik is ic ix : Nat} {rx : ByteArray} (hrx : az_rx rx ix)
    (h0 : tb[i]? = some (pc, .new ik)) (h3 : tb[i + 1]? = some (pc + 3, .dup)) (h4 : tb[i + 2]? = some (pc + 4, .ldc is)) (h6 : tb[i + 3]? = some (pc + 6, .invokespecial ic)) (h9 : tb[i + 4]? = some (pc + 9, .athrow))
    (hcls : Bundle.fit cls = true) (hk : Cond.classLink own ik cls ∈ lw_tbl) (hini : Cond.initialized cls ∈ lw_tbl) (htx : (own, is, text) ∈ az_txt)
    (hat : ∀ w ∈ (az_at own ic cls ix rx).filter vx_no, w ∈ lw_tbl ∧ az_kp w = true) (hgood : ∀ w ∈ (az_at own ic cls ix rx).filter vx_no, vx_ot w = true)
    (hR : 5 < R0.frames ∧ (rest.map fun v => v.category).sum + (13 * 3 + 43) ≤ R0.locals) (hc : cells + 1 ≤ R0.cells) (hs : slots + 6 ≤ R0.slots) (h : Ξ cls) : AW K cells slots pc lo rest hp := by
  obtain ⟨p, l, e, R, s, m, args, below, meth, c, D, cA, A, Ag, Q, nL⟩ := K
  obtain ⟨hexec, hb, hml, hlk, hown, hev, hKn, hA, rfl, rfl⟩ := hK
  obtain ⟨ht, Qc, ad0, rfl, hag0, hAe⟩ := hX
  intro ad H locs ls hag hP hD hS hl1
  have := hag0 ad hag
  subst this
  have d0 := hT.at h0
  have d3 := hT.at h3
  have d4 := hT.at h4
  have d6 := hT.at h6
  have d9 := hT.at h9
  obtain ⟨sa, hstr⟩ := hev.2.2.2 _ htx
  intro T hTH X
  have htr : e.platform.stackTraces = false := (show e.platform.stackTraces = l.stackTraces by rw [X.admits.platform]).trans hl0
  have Y := vx_rebase X (R' := { frames := R.frames, locals := R.locals, cells := 1, slots := 6 }) (Nat.le_refl _) (Nat.le_refl _) hc hs
  obtain ⟨s', hA9⟩ : ∃ z, z = (T.setVm s.vm).setFrames (.invoking m args :: below) := ⟨_, rfl⟩
  rw [← hA9] at Y
  have hvm : s'.vm = s.vm := by rw [hA9]; rfl
  have hhp : s'.heap = H := by rw [hA9]; exact hTH
  have hW0 : s.WarmedH s'.vm := by rw [hvm]; exact State.WarmedH.refl s
  have hev' : az_ev A s' := hev.to hW0 hS hhp (fun _ h => h)
  have hwd' : az_wd s' := hev'.1
  have hall : ∀ w ∈ az_at own ic cls ix rx, w.before args s' = true :=
    vx_own (fun w hw => hwd'.use (hat w hw).1 (hat w hw).2 args) (vx_isRefq hev'.2.1.1) (vx_isRefq hev'.2.2.1.1) hev'.2.1.2.word hev'.2.2.1.2.word
  have hown' : s'.vm.findClass own = some m.cls := by rw [hvm]; exact hown
  have hins : (Cond.instantiable cls 6).before args s' = true := hall _ (by simp [az_at])
  obtain ⟨vm₁, cX, kX, hfX, hkX, -, -, X₁, st1⟩ := Y.newCold hexec (own := own) (C := cls) (index := ik) (n := 6) hown' (hwd'.use hk rfl args) hins (hwd'.use hini rfl args)
    (g := F0 m pc ls (rest.map (az_v ad))) rfl (by rw [hb]; exact d0) (Nat.le_refl _) (Nat.le_refl _)
  generalize hT1 : (T.setVm vm₁).pushCell { cls := cX, slots := kX.instanceTypes.map defaultValue, vm := .none } = T1 at X₁ st1
  have hcat : (Value.ref T.heap.size).category = 1 := rfl
  have hcellA : T1.heap[T.heap.size]? = some (freshCell cX kX) := by rw [← hT1]; exact State.heap_pushCell_size _ _
  have d3' : decode c.code (pc + 3) = .ok (.dup, 1) := by rw [hb]; exact d3
  have d4' : decode c.code (pc + 4) = .ok (.ldc is, 2) := by rw [hb]; exact d4
  have hstr' : vk_R own is text sa s' := vk_R.warm hW0 hstr
  obtain ⟨U, hsteps, hrun, hend, hW, hsame, ce, hce, hcl9, hcv9⟩ := az_ctorX X₁ hexec htr (own := own) (cls := cls) (ic := ic) hrx hown' hcls hall (fun x hx => nomatch hx) hfX hkX hcellA (by rw [hhp, hTH]; exact Nat.le_refl _) (msg := .ref sa) rfl
    (g := { method := m, pc := pc + 6, locals := ls, stack := .ref sa :: .ref T.heap.size :: .ref T.heap.size :: rest.map (az_v ad), locked := none }) rfl (hl1.1.1.trans hml.symm) rfl rfl (rest := rest.map (az_v ad)) rfl
    (by rw [hb]; exact d6) (by rw [hb]; exact d9) (fun x hx => (ht x hx).elim) hR.1 (by have h9 := hR.2; rw [← az_cats ad rest] at h9; show 2 * 0 + (1 + ((rest.map (az_v ad)).map fun v => v.category).sum) + (13 * 3 + 42) ≤ R.locals; omega) hlk
  obtain ⟨f1, f2⟩ := vx_frame hsame
  rw [hhp] at f1 f2
  have f3 : ∀ q : Nat, q < H.size → U.heap[q]? = H[q]? := fun q hq => f2 q hq (fun z hz => nomatch hz)
  have hWs : s.WarmedH U.vm := State.WarmedH.trans hW0 hW
  have hcl : s.vm.findClass cls = some ce.cls := by
    rw [hvm] at hcl9
    exact hcl9
  have hall2 : s.sameButNew ({ U with vm := s.vm } : State) locs R.cells R.slots := by
    subst hA9
    obtain ⟨e1, e2⟩ := hsame
    rw [State.setFrames_setFrames] at e1
    have h2 : (T.setVm s.vm).sameButNew ({ U with vm := s.vm } : State) [] (0 + 1) (0 + 6) := ⟨e1, e2⟩
    have h3 := X.same.trans h2
    rw [List.append_nil] at h3
    exact h3.mono hc hs
  refine ⟨U, ?_, .threw T.heap.size, hrun, hend, Or.inr ⟨T.heap.size, rfl, cls, ce, locs, ⟨h, hP.kept (fun k q hq => f3 q.1 (hP k q hq).lt), ?_, ?_⟩, hce, hcv9, hcl, hWs, hall2, hS.2.2⟩⟩
  · refine st1 _ ?_
    show Steps p.tables e below (T1.setTop { method := m, pc := pc + 3, locals := ls, stack := .ref T.heap.size :: rest.map (az_v ad), locked := none }) _
    jvm_step X₁.here [X₁.here.top, hexec, d3', Value.category]
    exact X₁.ldcString hexec (own := own) (text := text) (index := is) (a := sa) hown' hstr'.1 hstr'.2
      (g := { method := m, pc := pc + 4, locals := ls, stack := .ref T.heap.size :: .ref T.heap.size :: rest.map (az_v ad), locked := none }) rfl d4' _ hsteps
  · rw [← hAe]
    exact ⟨Nat.le_trans hS.1 f1, fun q h1 h2 => (f3 q (Nat.lt_of_lt_of_le h1 hS.1)).trans (hS.2.1 q h1 h2)⟩
  · have h9 : T.heap.size < U.heap.size := (Array.getElem?_eq_some_iff.mp hce).1
    have h8 : s.heap.size ≤ T.heap.size := by rw [hTH]; exact hS.1
    exact Nat.lt_of_le_of_lt h8 h9
end
end AZX
end
section
/-! methods that may throw: their contracts out of walks, and their calls -/
section AZX2
variable {K : az_K} {own : String} {cc : ByteArray} {R0 : Room} {l0 : Launch} {tb : List (Nat × Instr)} {cells slots pc : Nat} {lo : List (Option Value)} {st : List Value} {hp : az_H}
theorem AMetX_of {y : MethodName} {maxL : Nat} {ret : Option FieldType} {rm : Room} {as : List Value} {hp0 : az_H} {Ψ : Option Value → az_H → Prop} {Ξ : String → Prop} (hy : plainName y.cls = true) (hcat : ∀ v ∈ as, v.category = 1) (hlen : as.length ≤ maxL)
    (body : ∀ K : az_K, az_OK K y.cls cc rm l0 → az_Thr K rm hp0 Ξ → az_End K cc ret rm Ψ → AW K 0 0 0 (as.map some ++ List.replicate (maxL - as.length) none) [] hp0) : AMetX l0 y cc maxL ret rm as hp0 Ψ Ξ := by
  intro D cA ad0 sz
  refine vx_ofW (cc := cc) (maxL := maxL) (ret := ret) hy rfl ?_
  intro p e s m args below meth c s₁ B hml htab hv
  obtain ⟨rfl, hsz, hP, hKn, hD0, hev⟩ := hv
  subst hsz
  have hD := hD0.self (sz := s.heap.size)
  have hA : ∀ q : Nat, s.heap.size ≤ q → va_A (az_w cA ad0 hp0) s.heap.size q := fun q h => Or.inr h
  have hl := lv_entry (as.map (az_v ad0)) (n := maxL) (by rw [az_sl_len ad0 as hcat]; exact hlen)
  rw [lg_entry_eq]
  have hl2 : az_ls ad0 ((lg_sl (as.map (az_v ad0)) ++ List.replicate (maxL - (lg_sl (as.map (az_v ad0))).length) Slot.unset).toArray) maxL (as.map some ++ List.replicate (maxL - as.length) none) :=
    ⟨⟨hl.1, hl.2.1, fun q hq => hl.2.2 q (az_entry ad0 as _ hcat 0 q hq)⟩, by simp; omega⟩
  refine body (p, l0, e, rm, s, m, (as.map (az_v ad0)).toArray, below, meth, c, D, cA, va_A (az_w cA ad0 hp0) s.heap.size, fun ad' => ad' = ad0, _, maxL)
    ⟨B.exec, B.bytes, hml, B.notSynchronized, findClass_of_methodNamed B.named, hev, hKn, hA, rfl, rfl⟩ ⟨htab, _, ad0, rfl, fun _ h => h, rfl⟩ ?_ ad0 s.heap [] _ rfl hP hD va_S.rf hl2
  intro cells slots pc lo hp hc hs
  refine ⟨fun v ty hr hn hd h => ?_, fun v hr hd h => ?_, fun hr hd h => ?_⟩
  · intro ad H locs ls hag hP1 hD1 hS1 hl1
    refine W.widen hc hs (vx_ret ?_)
    exact W.zret (v := v) B.exec B.bytes (B.returns.trans hr) hn (fun t ht hW => ⟨⟨some (.int v), hp, ad, rfl, h, fun _ => hag, fun i _ => by rw [show ad = ad0 from hag], by rw [ht]; exact hP1, hD1⟩, hS1.F ht⟩) hS1.2.2 hd B.notSynchronized
  · intro ad H locs ls hag hP1 hD1 hS1 hl1
    refine W.widen hc hs (vx_ret ?_)
    exact W.lret (v := v) B.exec B.bytes (B.returns.trans hr) (fun t ht hW => ⟨⟨some (.long v), hp, ad, rfl, h, fun _ => hag, fun i _ => by rw [show ad = ad0 from hag], by rw [ht]; exact hP1, hD1⟩, hS1.F ht⟩) hS1.2.2 hd B.notSynchronized
  · intro ad H locs ls hag hP1 hD1 hS1 hl1
    refine W.widen hc hs (vx_ret ?_)
    exact W.vret B.exec B.bytes (B.returns.trans hr) (fun t ht hW => ⟨⟨none, hp, ad, rfl, h, fun _ => hag, fun i _ => by rw [show ad = ad0 from hag], by rw [ht]; exact hP1, hD1⟩, hS1.F ht⟩) hS1.2.2 hd B.notSynchronized
/-- behind a call that may throw -/
theorem az_afterX {p : Program} {l : Launch} {e : Env} {R : Room} {s : State} {m : MethodId} {args : Array Value} {below : List Frame} {meth : Method} {c : Code} {D : va_G} {cA : Nat → ClassId} {A : Nat → Prop} {Q : State → Prop} {ad : Nat → Nat} {H : Heap} {locs : List Loc} {cells slots mc ms pc : Nat} {ls : Array Slot} {st0 rest : List Value} {hp : az_H} {Ψ : Option Value → az_H → Prop} {Ξ : String → Prop} {a : Array Value}
    (hr : vx_Run p l e R s m args below meth c H locs cells slots mc ms (F0 m pc ls st0) rest (az_Q D cA ad hp H.size false Ψ a) (az_XC D cA ad hp H.size Ξ) (va_A (az_w cA ad hp) H.size)) (hS : va_S A s.heap H locs) (hD : va_D A (az_w cA ad hp)) (hA : ∀ q, s.heap.size ≤ q → A q)
    (kk : ∀ (r : Option Value) (hp' : az_H) (H1 : Heap) (locs1 : List Loc), Ψ r hp' → va_P D vwCl (az_w cA ad hp') H1 → va_D A (az_w cA ad hp') → va_S A s.heap H1 locs1 →
      W p l e R s m args below meth c H1 locs1 (cells + mc) (slots + ms) Q (F0 m (pc + 3) ls ((r.map (az_v ad)).toList ++ rest)))
    (kx : ∀ (E : String) (q : Addr) (ce : Cell) (H1 : Heap) (locs1 : List Loc), Ξ E → va_P D vwCl (az_w cA ad hp) H1 → va_S A s.heap H1 locs1 → s.heap.size + 1 ≤ H1.size → H1[q]? = some ce → ce.vm = .none → s.vm.findClass E = some ce.cls →
      vx_W p l e R s m args below meth c H1 locs1 (cells + mc) (slots + ms) Q (F0 m pc ls rest) q) : W p l e R s m args below meth c H locs cells slots Q (F0 m pc ls st0) := by
  have hB : ∀ q, va_A (az_w cA ad hp) H.size q → A q := fun q h => by
    rcases h with ⟨k, e9, h⟩ | h
    · exact hD.2 k _ h
    · exact hA q (Nat.le_trans hS.1 h)
  intro T hT X
  rcases hr T hT X with ⟨v, st₀, t, T', L, h0, X', hL, e1, e2, ⟨⟨r, hp', ad', hv, hΨ, hg, hag, hP1, hD1⟩, hF⟩, st⟩ | ⟨q, st₀, t, T', L, E, ce, h0, X', hL, e1, e2, ⟨hΞ, hP1, hF, hlb⟩, hce, hcv, hcl, st⟩
  · cases hv
    have := hg rfl
    subst this
    obtain ⟨k1, k2, k3⟩ := vx_keep h0 e1 hS (fun q _ h => hB q h) hB hL hF
    obtain ⟨t2, a1, b1⟩ := kk r hp' T'.heap (locs ++ L) hΨ (by rw [e1]; exact hP1) (hD1.weaken (fun _ q _ h => hB q.1 h)) k3 T' rfl X'
    exact ⟨t2, st t2 a1, b1⟩
  · obtain ⟨k1, k2, k3⟩ := vx_keep h0 e1 hS (fun q _ h => hB q h) hB hL hF
    obtain ⟨t2, a1, b1⟩ := kx E q ce T'.heap (locs ++ L) hΞ (by rw [e1]; exact hP1) k3 (by rw [e1]; rw [h0] at hlb; exact Nat.le_trans (Nat.add_le_add_right hS.1 1) hlb) (by rw [e1]; exact hce) hcv hcl T' rfl X'
    exact ⟨t2, st.trans a1, b1⟩
variable {y : MethodName} {cb : ByteArray} {mL n idx : Nat} {ret : Option FieldType} {rm : Room} {Ψ : Option Value → az_H → Prop} {Ξ : String → Prop}
theorem AW_callVX (hT : az_Tb cc tb) (hK : az_OK K own cc R0 l0) (i : Nat) (as rest : List Value) {k cj N9 : Nat} {fs : List Value} {T9 : u_T} (hM : AMetX l0 y cb mL ret rm (.ref k :: as) hp Ψ Ξ) (cv : az_Cw y cb mL ret n) (hl : Cond.methodLink own idx y ∈ lw_tbl) (hv : Cond.instanceMethod y ∈ lw_tbl ∧ Cond.selects y.cls y y ∈ lw_tbl)
    (hi : tb[i]? = some (pc, .invokevirtual idx)) (hobj : hp[k]? = some (.inr (cj, fs))) (hcj : vwCl[cj]? = some (y.cls, T9, N9)) (hn : as.length = n) (hst : st = as.reverse ++ .ref k :: rest) (hrm : az_rm rm R0 mL rest = true) (hc : cells + rm.cells ≤ R0.cells) (hs : slots + rm.slots ≤ R0.slots)
    (kk : ∀ (r : Option Value) (hp' : az_H), Ψ r hp' → AW K (cells + rm.cells) (slots + rm.slots) (pc + 3) lo (r.toList ++ rest) hp') (kx : ∀ E : String, Ξ E → AWX K (cells + rm.cells) (slots + rm.slots) pc lo rest hp E) : AW K cells slots pc lo st hp := by
  obtain ⟨p, l, e, R, s, m, args, below, meth, c, D, cA, A, Ag, Q, nL⟩ := K
  obtain ⟨hexec, hb, hml, hlk, hown, hev, hKn, hA, rfl, rfl⟩ := hK
  obtain ⟨hR, hcat⟩ := az_rm.of hrm
  subst hst
  intro ad H locs ls hag hP hD hS hl1
  refine az_afterX (vx_runV (As := as.map (az_v ad)) (rest := rest.map (az_v ad)) (b := ad k) (C := y.cls) (Ts := []) (own := own) (nL := nL) ⟨hexec, hb, hml, hown, fun _ h => by cases h⟩ (hM D cA ad H.size) ⟨az_cb hev.1 cv hl hR, hev.1.use hv.1 rfl args, hev.1.use hv.2 rfl args⟩
    ⟨az_blind D cA ad hp H.size _, va_recv hKn hP hcj (az_w_at hobj), az_start hev hKn hA hP hD hS (.ref (ad k) :: as.map (az_v ad))⟩ rfl (by rw [List.length_map]; exact hn) hl1.1.1 (by rw [List.map_append, List.map_reverse]; rfl) (lv_room (by rw [az_cats]; exact hcat)) (hT.at hi) ⟨hc, hs⟩) hS hD hA (fun r hp' H1 locs1 hΨ hP1 hD1 hS1 => ?_) (fun E q ce H1 locs1 hΞ hP1 hS1 hlb h1 h2 h3 => kx E hΞ ad H1 locs1 ls q ce hag hP1 hD hS1 hlb hl1 h1 h2 h3)
  rw [az_ret_map]
  exact kk r hp' hΨ ad H1 locs1 ls hag hP1 hD1 hS1 hl1
theorem AW_callSX (hT : az_Tb cc tb) (hK : az_OK K own cc R0 l0) (i : Nat) (as rest : List Value) (hM : AMetX l0 y cb mL ret rm as hp Ψ Ξ) (cv : az_Cw y cb mL ret n) (hl : Cond.methodLink own idx y ∈ lw_tbl) (hv : Cond.static y ∈ lw_tbl)
    (hi : tb[i]? = some (pc, .invokestatic idx)) (hn : as.length = n) (hst : st = as.reverse ++ rest) (hrm : az_rm rm R0 mL rest = true) (hc : cells + rm.cells ≤ R0.cells) (hs : slots + rm.slots ≤ R0.slots)
    (kk : ∀ (r : Option Value) (hp' : az_H), Ψ r hp' → AW K (cells + rm.cells) (slots + rm.slots) (pc + 3) lo (r.toList ++ rest) hp') (kx : ∀ E : String, Ξ E → AWX K (cells + rm.cells) (slots + rm.slots) pc lo rest hp E) : AW K cells slots pc lo st hp := by
  obtain ⟨p, l, e, R, s, m, args, below, meth, c, D, cA, A, Ag, Q, nL⟩ := K
  obtain ⟨hexec, hb, hml, hlk, hown, hev, hKn, hA, rfl, rfl⟩ := hK
  obtain ⟨hR, hcat⟩ := az_rm.of hrm
  subst hst
  intro ad H locs ls hag hP hD hS hl1
  refine az_afterX (vx_runS (As := as.map (az_v ad)) (rest := rest.map (az_v ad)) (Ts := []) (own := own) (nL := nL) ⟨hexec, hb, hml, hown, fun _ h => by cases h⟩ (hM D cA ad H.size) ⟨az_cb hev.1 cv hl hR, hev.1.use hv rfl args⟩
    ⟨az_blind D cA ad hp H.size _, az_start hev hKn hA hP hD hS (as.map (az_v ad))⟩ rfl (by rw [List.length_map]; exact hn) hl1.1.1 (by rw [List.map_append, List.map_reverse]) (lv_room (by rw [az_cats]; exact hcat)) (hT.at hi) ⟨hc, hs⟩) hS hD hA (fun r hp' H1 locs1 hΨ hP1 hD1 hS1 => ?_) (fun E q ce H1 locs1 hΞ hP1 hS1 hlb h1 h2 h3 => kx E hΞ ad H1 locs1 ls q ce hag hP1 hD hS1 hlb hl1 h1 h2 h3)
  rw [az_ret_map]
  exact kk r hp' hΨ ad H1 locs1 ls hag hP1 hD1 hS1 hl1
end AZX2
end
section
section AZP
def az_r7 : ByteArray := ⟨#[0x2a, 0x2b, 0xb7, 0x00, 0x07, 0xb1]⟩
theorem az_r7_ok : az_rx az_r7 7 := by unfold az_rx; decide +kernel
def az_r13 : ByteArray := ⟨#[0x2a, 0x2b, 0xb7, 0x00, 0x0d, 0xb1]⟩
theorem az_r13_ok : az_rx az_r13 13 := by unfold az_rx; decide +kernel
theorem az_ats {L : List Cond} (h : (L.all fun w => decide (w ∈ lw_tbl) && (az_kp w && vx_ot w)) = true) : (∀ w ∈ L, w ∈ lw_tbl ∧ az_kp w = true) ∧ ∀ w ∈ L, vx_ot w = true := by
  have k := List.all_eq_true.mp h
  simp only [Bool.and_eq_true, decide_eq_true_eq] at k
  exact ⟨fun w hw => ⟨(k w hw).1, (k w hw).2.1⟩, fun w hw => (k w hw).2.2⟩
set_option maxRecDepth 100000 in
theorem at_38 : (∀ w ∈ (az_at RX5 38 az_IAE 7 az_r7).filter vx_no, w ∈ lw_tbl ∧ az_kp w = true) ∧ ∀ w ∈ (az_at RX5 38 az_IAE 7 az_r7).filter vx_no, vx_ot w = true := az_ats (by decide +kernel)
set_option maxRecDepth 100000 in
theorem at_54 : (∀ w ∈ (az_at RX5 54 az_ISE 7 az_r7).filter vx_no, w ∈ lw_tbl ∧ az_kp w = true) ∧ ∀ w ∈ (az_at RX5 54 az_ISE 7 az_r7).filter vx_no, vx_ot w = true := az_ats (by decide +kernel)
set_option maxRecDepth 100000 in
theorem at_129 : (∀ w ∈ (az_at RX5 129 az_NSE 13 az_r13).filter vx_no, w ∈ lw_tbl ∧ az_kp w = true) ∧ ∀ w ∈ (az_at RX5 129 az_NSE 13 az_r13).filter vx_no, vx_ot w = true := az_ats (by decide +kernel)
set_option maxRecDepth 100000 in
theorem at_143 : (∀ w ∈ (az_at RX5 143 az_IOB 7 az_r7).filter vx_no, w ∈ lw_tbl ∧ az_kp w = true) ∧ ∀ w ∈ (az_at RX5 143 az_IOB 7 az_r7).filter vx_no, vx_ot w = true := az_ats (by decide +kernel)
end AZP
end
section
section AZP
def x_X5_requirePaper (σ : az_S) (p0 : Int32) : String ⊕ Unit :=
  let v2 := x_X3_has σ p0
  if v2 = 0 then
    .inl az_NSE
  else
    .inr ()
set_option maxRecDepth 100000 in
set_option maxHeartbeats 4000000 in
theorem m_X5_requirePaper (l0 : Launch) (σ : az_S) (p0 : Int32) (rv : Unit) (hr : x_X5_requirePaper σ p0 = .inr rv) : AMet l0 yX5_requirePaper cX5_requirePaper 2 none ({ frames := 6, cells := 0, slots := 0, locals := 82 } : Room) false [.ref 0, .int p0] (wd σ) (fun r h => r = none ∧ h = wd σ) := by
  refine AMet_of (by decide +kernel) (by simp [Value.category]) (Nat.le_of_ble_eq_true rfl) (fun K hK hct hG hE => ?_)
  have hT := tt_X5_requirePaper
  refine AW_g hT cl_X5 hK 0 3 (pc' := 5) (lo' := [some (.ref 0), some (.int p0)]) (st' := [.int p0, .ref 1]) (hp' := wd σ) rfl ?_
  refine AW_callV hT hK 3 [.int p0] [] (m_X3_has l0 σ p0) cw_X3_has lk_X5_156 vi_X3_has rfl rfl rfl rfl rfl rfl (Nat.le_of_ble_eq_true rfl) (Nat.le_of_ble_eq_true rfl) (AW_k1 (fun v2 h1 => ?_))
  refine AW_if_ne hT hK 4 (tgt := 21) rfl rfl (fun c3 => ?_) (fun c3 => ?_)
  · refine AW_vret hT hE 10 rfl (Nat.le_of_ble_eq_true rfl) (Nat.le_of_ble_eq_true rfl) ?_
    subst h1; simp only [x_X5_requirePaper, if_neg c3] at hr; cases hr; exact ⟨rfl, rfl⟩
  · exfalso; subst h1; simp only [x_X5_requirePaper, if_pos c3] at hr; cases hr
set_option maxRecDepth 100000 in
set_option maxHeartbeats 4000000 in
theorem mx_X5_requirePaper (l0 : Launch) (hl0 : l0.stackTraces = false) (σ : az_S) (p0 : Int32) (E0 : String) (hr : x_X5_requirePaper σ p0 = .inl E0) : AMetX l0 yX5_requirePaper cX5_requirePaper 2 none ({ frames := 6, cells := 1, slots := 6, locals := 82 } : Room) [.ref 0, .int p0] (wd σ) (fun _ _ => False) (fun E => E = E0) := by
  refine AMetX_of (by decide +kernel) (by simp [Value.category]) (Nat.le_of_ble_eq_true rfl) (fun K hK hX hE => ?_)
  have hT := tt_X5_requirePaper
  refine AW_g hT cl_X5 hK 0 3 (pc' := 5) (lo' := [some (.ref 0), some (.int p0)]) (st' := [.int p0, .ref 1]) (hp' := wd σ) rfl ?_
  refine AW_callV hT hK 3 [.int p0] [] (m_X3_has l0 σ p0) cw_X3_has lk_X5_156 vi_X3_has rfl rfl rfl rfl rfl rfl (Nat.le_of_ble_eq_true rfl) (Nat.le_of_ble_eq_true rfl) (AW_k1 (fun v105 h104 => ?_))
  refine AW_if_ne hT hK 4 (tgt := 21) rfl rfl (fun c106 => ?_) (fun c106 => ?_)
  · exfalso; subst h104; simp only [x_X5_requirePaper, if_neg c106] at hr
    first | (cases hr; done) | ((repeat' split at hr) <;> cases hr)
  · subst h104; refine AW_throw hT hK hX hl0 5 (cls := az_NSE) (text := "the paper is not there") (ix := 13) (rx := az_r13) az_r13_ok rfl rfl rfl rfl rfl (by decide) (List.mem_of_getElem? (i := 204) (by decide +kernel)) (List.mem_of_getElem? (i := 34) (by decide +kernel)) (by decide) at_129.1 at_129.2 ⟨by decide, by decide⟩ (Nat.le_of_ble_eq_true rfl) (Nat.le_of_ble_eq_true rfl) ?_
    simp only [x_X5_requirePaper, if_pos c106] at hr; cases hr; rfl
def x_X5_requireField (σ : az_S) (p0 : Int32) : String ⊕ Unit :=
  let v2 := x_X0_isGroup σ p0
  if v2 = 0 then
    .inl az_NSE
  else
    .inr ()
set_option maxRecDepth 100000 in
set_option maxHeartbeats 4000000 in
theorem m_X5_requireField (l0 : Launch) (σ : az_S) (p0 : Int32) (rv : Unit) (hr : x_X5_requireField σ p0 = .inr rv) : AMet l0 yX5_requireField cX5_requireField 2 none ({ frames := 6, cells := 0, slots := 0, locals := 82 } : Room) false [.ref 0, .int p0] (wd σ) (fun r h => r = none ∧ h = wd σ) := by
  refine AMet_of (by decide +kernel) (by simp [Value.category]) (Nat.le_of_ble_eq_true rfl) (fun K hK hct hG hE => ?_)
  have hT := tt_X5_requireField
  refine AW_g hT cl_X5 hK 0 3 (pc' := 5) (lo' := [some (.ref 0), some (.int p0)]) (st' := [.int p0, .ref 12]) (hp' := wd σ) rfl ?_
  refine AW_callV hT hK 3 [.int p0] [] (m_X0_isGroup l0 σ p0) cw_X0_isGroup lk_X5_166 vi_X0_isGroup rfl rfl rfl rfl rfl rfl (Nat.le_of_ble_eq_true rfl) (Nat.le_of_ble_eq_true rfl) (AW_k1 (fun v2 h1 => ?_))
  refine AW_if_ne hT hK 4 (tgt := 21) rfl rfl (fun c3 => ?_) (fun c3 => ?_)
  · refine AW_vret hT hE 10 rfl (Nat.le_of_ble_eq_true rfl) (Nat.le_of_ble_eq_true rfl) ?_
    subst h1; simp only [x_X5_requireField, if_neg c3] at hr; cases hr; exact ⟨rfl, rfl⟩
  · exfalso; subst h1; simp only [x_X5_requireField, if_pos c3] at hr; cases hr
set_option maxRecDepth 100000 in
set_option maxHeartbeats 4000000 in
theorem mx_X5_requireField (l0 : Launch) (hl0 : l0.stackTraces = false) (σ : az_S) (p0 : Int32) (E0 : String) (hr : x_X5_requireField σ p0 = .inl E0) : AMetX l0 yX5_requireField cX5_requireField 2 none ({ frames := 6, cells := 1, slots := 6, locals := 82 } : Room) [.ref 0, .int p0] (wd σ) (fun _ _ => False) (fun E => E = E0) := by
  refine AMetX_of (by decide +kernel) (by simp [Value.category]) (Nat.le_of_ble_eq_true rfl) (fun K hK hX hE => ?_)
  have hT := tt_X5_requireField
  refine AW_g hT cl_X5 hK 0 3 (pc' := 5) (lo' := [some (.ref 0), some (.int p0)]) (st' := [.int p0, .ref 12]) (hp' := wd σ) rfl ?_
  refine AW_callV hT hK 3 [.int p0] [] (m_X0_isGroup l0 σ p0) cw_X0_isGroup lk_X5_166 vi_X0_isGroup rfl rfl rfl rfl rfl rfl (Nat.le_of_ble_eq_true rfl) (Nat.le_of_ble_eq_true rfl) (AW_k1 (fun v105 h104 => ?_))
  refine AW_if_ne hT hK 4 (tgt := 21) rfl rfl (fun c106 => ?_) (fun c106 => ?_)
  · exfalso; subst h104; simp only [x_X5_requireField, if_neg c106] at hr
    first | (cases hr; done) | ((repeat' split at hr) <;> cases hr)
  · subst h104; refine AW_throw hT hK hX hl0 5 (cls := az_NSE) (text := "there is no such field") (ix := 13) (rx := az_r13) az_r13_ok rfl rfl rfl rfl rfl (by decide) (List.mem_of_getElem? (i := 204) (by decide +kernel)) (List.mem_of_getElem? (i := 34) (by decide +kernel)) (by decide) at_129.1 at_129.2 ⟨by decide, by decide⟩ (Nat.le_of_ble_eq_true rfl) (Nat.le_of_ble_eq_true rfl) ?_
    simp only [x_X5_requireField, if_pos c106] at hr; cases hr; rfl
def x_X5_requireYear (σ : az_S) (p0 : Int32) : String ⊕ Unit :=
  if p0 < 0 then
    .inl az_IAE
  else
    if p0 ≤ 99 then
      .inr ()
    else
      .inl az_IAE
set_option maxRecDepth 100000 in
set_option maxHeartbeats 4000000 in
theorem m_X5_requireYear (l0 : Launch) (σ : az_S) (p0 : Int32) (rv : Unit) (hr : x_X5_requireYear σ p0 = .inr rv) : AMet l0 yX5_requireYear cX5_requireYear 1 none ({ frames := 6, cells := 0, slots := 0, locals := 82 } : Room) false [.int p0] (wd σ) (fun r h => r = none ∧ h = wd σ) := by
  refine AMet_of (by decide +kernel) (by simp [Value.category]) (Nat.le_of_ble_eq_true rfl) (fun K hK hct hG hE => ?_)
  have hT := tt_X5_requireYear
  refine AW_g hT cl_X5 hK 0 1 (pc' := 1) (lo' := [some (.int p0)]) (st' := [.int p0]) (hp' := wd σ) rfl ?_
  refine AW_if_lt hT hK 1 (tgt := 10) rfl rfl (fun c1 => ?_) (fun c1 => ?_)
  · exfalso; simp only [x_X5_requireYear, if_pos c1] at hr; cases hr
  · refine AW_g hT cl_X5 hK 2 2 (pc' := 7) (lo' := [some (.int p0)]) (st' := [.int 99, .int p0]) (hp' := wd σ) rfl ?_
    refine AW_icmp_le hT hK 4 (tgt := 20) rfl rfl (fun c2 => ?_) (fun c2 => ?_)
    · refine AW_vret hT hE 10 rfl (Nat.le_of_ble_eq_true rfl) (Nat.le_of_ble_eq_true rfl) ?_
      simp only [x_X5_requireYear, if_neg c1, if_pos c2] at hr; cases hr; exact ⟨rfl, rfl⟩
    · exfalso; simp only [x_X5_requireYear, if_neg c1, if_neg c2] at hr; cases hr
set_option maxRecDepth 100000 in
set_option maxHeartbeats 4000000 in
theorem mx_X5_requireYear (l0 : Launch) (hl0 : l0.stackTraces = false) (σ : az_S) (p0 : Int32) (E0 : String) (hr : x_X5_requireYear σ p0 = .inl E0) : AMetX l0 yX5_requireYear cX5_requireYear 1 none ({ frames := 6, cells := 1, slots := 6, locals := 82 } : Room) [.int p0] (wd σ) (fun _ _ => False) (fun E => E = E0) := by
  refine AMetX_of (by decide +kernel) (by simp [Value.category]) (Nat.le_of_ble_eq_true rfl) (fun K hK hX hE => ?_)
  have hT := tt_X5_requireYear
  refine AW_g hT cl_X5 hK 0 1 (pc' := 1) (lo' := [some (.int p0)]) (st' := [.int p0]) (hp' := wd σ) rfl ?_
  refine AW_if_lt hT hK 1 (tgt := 10) rfl rfl (fun c103 => ?_) (fun c103 => ?_)
  · refine AW_throw hT hK hX hl0 5 (cls := az_IAE) (text := "the year is out of range") (ix := 7) (rx := az_r7) az_r7_ok rfl rfl rfl rfl rfl (by decide) (List.mem_of_getElem? (i := 497) (by decide +kernel)) (List.mem_of_getElem? (i := 35) (by decide +kernel)) (by decide) at_38.1 at_38.2 ⟨by decide, by decide⟩ (Nat.le_of_ble_eq_true rfl) (Nat.le_of_ble_eq_true rfl) ?_
    simp only [x_X5_requireYear, if_pos c103] at hr; cases hr; rfl
  · refine AW_g hT cl_X5 hK 2 2 (pc' := 7) (lo' := [some (.int p0)]) (st' := [.int 99, .int p0]) (hp' := wd σ) rfl ?_
    refine AW_icmp_le hT hK 4 (tgt := 20) rfl rfl (fun c104 => ?_) (fun c104 => ?_)
    · exfalso; simp only [x_X5_requireYear, if_neg c103, if_pos c104] at hr
      first | (cases hr; done) | ((repeat' split at hr) <;> cases hr)
    · refine AW_throw hT hK hX hl0 5 (cls := az_IAE) (text := "the year is out of range") (ix := 7) (rx := az_r7) az_r7_ok rfl rfl rfl rfl rfl (by decide) (List.mem_of_getElem? (i := 497) (by decide +kernel)) (List.mem_of_getElem? (i := 35) (by decide +kernel)) (by decide) at_38.1 at_38.2 ⟨by decide, by decide⟩ (Nat.le_of_ble_eq_true rfl) (Nat.le_of_ble_eq_true rfl) ?_
      simp only [x_X5_requireYear, if_neg c103, if_neg c104] at hr; cases hr; rfl
def x_X5_references (σ : az_S) (p0 : Int32) : String ⊕ Int32 :=
  match x_X5_requirePaper σ p0 with
  | .inl E => .inl E
  | .inr _ =>
    let v4 := x_X3_referredBy σ p0
    .inr v4
set_option maxRecDepth 100000 in
set_option maxHeartbeats 4000000 in
theorem m_X5_references (l0 : Launch) (σ : az_S) (p0 : Int32) (rv : Int32) (hr : x_X5_references σ p0 = .inr rv) : AMet l0 yX5_references cX5_references 2 (some .int) ({ frames := 7, cells := 0, slots := 0, locals := 103 } : Room) false [.ref 0, .int p0] (wd σ) (fun r h => r = some (.int rv) ∧ h = wd σ) := by
  refine AMet_of (by decide +kernel) (by simp [Value.category]) (Nat.le_of_ble_eq_true rfl) (fun K hK hct hG hE => ?_)
  have hT := tt_X5_references
  refine AW_g hT cl_X5 hK 0 2 (pc' := 2) (lo' := [some (.ref 0), some (.int p0)]) (st' := [.int p0, .ref 0]) (hp' := wd σ) rfl ?_
  rcases hc1 : x_X5_requirePaper σ p0 with E | v2
  · exfalso; simp only [x_X5_references, hc1] at hr; cases hr
  · refine AW_callV hT hK 2 [.int p0] [] (m_X5_requirePaper l0 σ p0 v2 hc1) cw_X5_requirePaper lk_X5_62 vi_X5_requirePaper rfl rfl rfl rfl rfl rfl (Nat.le_of_ble_eq_true rfl) (Nat.le_of_ble_eq_true rfl) (AW_kn ?_)
    refine AW_g hT cl_X5 hK 3 3 (pc' := 10) (lo' := [some (.ref 0), some (.int p0)]) (st' := [.int p0, .ref 1]) (hp' := wd σ) rfl ?_
    refine AW_callV hT hK 6 [.int p0] [] (m_X3_referredBy l0 σ p0) cw_X3_referredBy lk_X5_82 vi_X3_referredBy rfl rfl rfl rfl rfl rfl (Nat.le_of_ble_eq_true rfl) (Nat.le_of_ble_eq_true rfl) (AW_k1 (fun v4 h3 => ?_))
    refine AW_iret hT hE 7 rfl rfl rfl (Nat.le_of_ble_eq_true rfl) (Nat.le_of_ble_eq_true rfl) ?_
    subst h3; simp only [x_X5_references, hc1] at hr; cases hr; exact ⟨rfl, rfl⟩
set_option maxRecDepth 100000 in
set_option maxHeartbeats 4000000 in
theorem mx_X5_references (l0 : Launch) (hl0 : l0.stackTraces = false) (σ : az_S) (p0 : Int32) (E0 : String) (hr : x_X5_references σ p0 = .inl E0) : AMetX l0 yX5_references cX5_references 2 (some .int) ({ frames := 7, cells := 1, slots := 6, locals := 103 } : Room) [.ref 0, .int p0] (wd σ) (fun _ _ => False) (fun E => E = E0) := by
  refine AMetX_of (by decide +kernel) (by simp [Value.category]) (Nat.le_of_ble_eq_true rfl) (fun K hK hX hE => ?_)
  have hT := tt_X5_references
  refine AW_g hT cl_X5 hK 0 2 (pc' := 2) (lo' := [some (.ref 0), some (.int p0)]) (st' := [.int p0, .ref 0]) (hp' := wd σ) rfl ?_
  rcases hc105 : x_X5_requirePaper σ p0 with E | v106
  · refine AW_callVX hT hK 2 [.int p0] [] (mx_X5_requirePaper l0 hl0 σ p0 E hc105) cw_X5_requirePaper lk_X5_62 vi_X5_requirePaper rfl rfl rfl rfl rfl rfl (Nat.le_of_ble_eq_true rfl) (Nat.le_of_ble_eq_true rfl) (fun _ _ h9 => h9.elim) (fun E9 h9 => AWX_out hK hX (Nat.le_of_ble_eq_true rfl) (Nat.le_of_ble_eq_true rfl) ?_)
    subst h9; simp only [x_X5_references, hc105] at hr; cases hr; rfl
  · refine AW_callV hT hK 2 [.int p0] [] (m_X5_requirePaper l0 σ p0 v106 hc105) cw_X5_requirePaper lk_X5_62 vi_X5_requirePaper rfl rfl rfl rfl rfl rfl (Nat.le_of_ble_eq_true rfl) (Nat.le_of_ble_eq_true rfl) (AW_kn ?_)
    exfalso; simp only [x_X5_references, hc105] at hr
    first | (cases hr; done) | ((repeat' split at hr) <;> cases hr)
def x_X5_citing (σ : az_S) (p0 : Int32) : String ⊕ Int32 :=
  match x_X5_requirePaper σ p0 with
  | .inl E => .inl E
  | .inr _ =>
    let v4 := x_X3_citersOf σ p0
    .inr v4
set_option maxRecDepth 100000 in
set_option maxHeartbeats 4000000 in
theorem m_X5_citing (l0 : Launch) (σ : az_S) (p0 : Int32) (rv : Int32) (hr : x_X5_citing σ p0 = .inr rv) : AMet l0 yX5_citing cX5_citing 2 (some .int) ({ frames := 7, cells := 0, slots := 0, locals := 103 } : Room) false [.ref 0, .int p0] (wd σ) (fun r h => r = some (.int rv) ∧ h = wd σ) := by
  refine AMet_of (by decide +kernel) (by simp [Value.category]) (Nat.le_of_ble_eq_true rfl) (fun K hK hct hG hE => ?_)
  have hT := tt_X5_citing
  refine AW_g hT cl_X5 hK 0 2 (pc' := 2) (lo' := [some (.ref 0), some (.int p0)]) (st' := [.int p0, .ref 0]) (hp' := wd σ) rfl ?_
  rcases hc1 : x_X5_requirePaper σ p0 with E | v2
  · exfalso; simp only [x_X5_citing, hc1] at hr; cases hr
  · refine AW_callV hT hK 2 [.int p0] [] (m_X5_requirePaper l0 σ p0 v2 hc1) cw_X5_requirePaper lk_X5_62 vi_X5_requirePaper rfl rfl rfl rfl rfl rfl (Nat.le_of_ble_eq_true rfl) (Nat.le_of_ble_eq_true rfl) (AW_kn ?_)
    refine AW_g hT cl_X5 hK 3 3 (pc' := 10) (lo' := [some (.ref 0), some (.int p0)]) (st' := [.int p0, .ref 1]) (hp' := wd σ) rfl ?_
    refine AW_callV hT hK 6 [.int p0] [] (m_X3_citersOf l0 σ p0) cw_X3_citersOf lk_X5_66 vi_X3_citersOf rfl rfl rfl rfl rfl rfl (Nat.le_of_ble_eq_true rfl) (Nat.le_of_ble_eq_true rfl) (AW_k1 (fun v4 h3 => ?_))
    refine AW_iret hT hE 7 rfl rfl rfl (Nat.le_of_ble_eq_true rfl) (Nat.le_of_ble_eq_true rfl) ?_
    subst h3; simp only [x_X5_citing, hc1] at hr; cases hr; exact ⟨rfl, rfl⟩
set_option maxRecDepth 100000 in
set_option maxHeartbeats 4000000 in
theorem mx_X5_citing (l0 : Launch) (hl0 : l0.stackTraces = false) (σ : az_S) (p0 : Int32) (E0 : String) (hr : x_X5_citing σ p0 = .inl E0) : AMetX l0 yX5_citing cX5_citing 2 (some .int) ({ frames := 7, cells := 1, slots := 6, locals := 103 } : Room) [.ref 0, .int p0] (wd σ) (fun _ _ => False) (fun E => E = E0) := by
  refine AMetX_of (by decide +kernel) (by simp [Value.category]) (Nat.le_of_ble_eq_true rfl) (fun K hK hX hE => ?_)
  have hT := tt_X5_citing
  refine AW_g hT cl_X5 hK 0 2 (pc' := 2) (lo' := [some (.ref 0), some (.int p0)]) (st' := [.int p0, .ref 0]) (hp' := wd σ) rfl ?_
  rcases hc105 : x_X5_requirePaper σ p0 with E | v106
  · refine AW_callVX hT hK 2 [.int p0] [] (mx_X5_requirePaper l0 hl0 σ p0 E hc105) cw_X5_requirePaper lk_X5_62 vi_X5_requirePaper rfl rfl rfl rfl rfl rfl (Nat.le_of_ble_eq_true rfl) (Nat.le_of_ble_eq_true rfl) (fun _ _ h9 => h9.elim) (fun E9 h9 => AWX_out hK hX (Nat.le_of_ble_eq_true rfl) (Nat.le_of_ble_eq_true rfl) ?_)
    subst h9; simp only [x_X5_citing, hc105] at hr; cases hr; rfl
  · refine AW_callV hT hK 2 [.int p0] [] (m_X5_requirePaper l0 σ p0 v106 hc105) cw_X5_requirePaper lk_X5_62 vi_X5_requirePaper rfl rfl rfl rfl rfl rfl (Nat.le_of_ble_eq_true rfl) (Nat.le_of_ble_eq_true rfl) (AW_kn ?_)
    exfalso; simp only [x_X5_citing, hc105] at hr
    first | (cases hr; done) | ((repeat' split at hr) <;> cases hr)
def x_X5_shared (σ : az_S) (p0 : Int32) (p1 : Int32) : String ⊕ Int32 :=
  match x_X5_requirePaper σ p0 with
  | .inl E => .inl E
  | .inr _ =>
    match x_X5_requirePaper σ p1 with
    | .inl E => .inl E
    | .inr _ =>
      let v6 := x_X3_sharedOf σ p0 p1
      .inr v6
set_option maxRecDepth 100000 in
set_option maxHeartbeats 4000000 in
theorem m_X5_shared (l0 : Launch) (σ : az_S) (p0 : Int32) (p1 : Int32) (rv : Int32) (hr : x_X5_shared σ p0 p1 = .inr rv) : AMet l0 yX5_shared cX5_shared 3 (some .int) ({ frames := 7, cells := 0, slots := 0, locals := 103 } : Room) false [.ref 0, .int p0, .int p1] (wd σ) (fun r h => r = some (.int rv) ∧ h = wd σ) := by
  refine AMet_of (by decide +kernel) (by simp [Value.category]) (Nat.le_of_ble_eq_true rfl) (fun K hK hct hG hE => ?_)
  have hT := tt_X5_shared
  refine AW_g hT cl_X5 hK 0 2 (pc' := 2) (lo' := [some (.ref 0), some (.int p0), some (.int p1)]) (st' := [.int p0, .ref 0]) (hp' := wd σ) rfl ?_
  rcases hc1 : x_X5_requirePaper σ p0 with E | v2
  · exfalso; simp only [x_X5_shared, hc1] at hr; cases hr
  · refine AW_callV hT hK 2 [.int p0] [] (m_X5_requirePaper l0 σ p0 v2 hc1) cw_X5_requirePaper lk_X5_62 vi_X5_requirePaper rfl rfl rfl rfl rfl rfl (Nat.le_of_ble_eq_true rfl) (Nat.le_of_ble_eq_true rfl) (AW_kn ?_)
    refine AW_g hT cl_X5 hK 3 2 (pc' := 7) (lo' := [some (.ref 0), some (.int p0), some (.int p1)]) (st' := [.int p1, .ref 0]) (hp' := wd σ) rfl ?_
    rcases hc3 : x_X5_requirePaper σ p1 with E | v4
    · exfalso; simp only [x_X5_shared, hc1, hc3] at hr; cases hr
    · refine AW_callV hT hK 5 [.int p1] [] (m_X5_requirePaper l0 σ p1 v4 hc3) cw_X5_requirePaper lk_X5_62 vi_X5_requirePaper rfl rfl rfl rfl rfl rfl (Nat.le_of_ble_eq_true rfl) (Nat.le_of_ble_eq_true rfl) (AW_kn ?_)
      refine AW_g hT cl_X5 hK 6 4 (pc' := 16) (lo' := [some (.ref 0), some (.int p0), some (.int p1)]) (st' := [.int p1, .int p0, .ref 1]) (hp' := wd σ) rfl ?_
      refine AW_callV hT hK 10 [.int p0, .int p1] [] (m_X3_sharedOf l0 σ p0 p1) cw_X3_sharedOf lk_X5_85 vi_X3_sharedOf rfl rfl rfl rfl rfl rfl (Nat.le_of_ble_eq_true rfl) (Nat.le_of_ble_eq_true rfl) (AW_k1 (fun v6 h5 => ?_))
      refine AW_iret hT hE 11 rfl rfl rfl (Nat.le_of_ble_eq_true rfl) (Nat.le_of_ble_eq_true rfl) ?_
      subst h5; simp only [x_X5_shared, hc1, hc3] at hr; cases hr; exact ⟨rfl, rfl⟩
set_option maxRecDepth 100000 in
set_option maxHeartbeats 4000000 in
theorem mx_X5_shared (l0 : Launch) (hl0 : l0.stackTraces = false) (σ : az_S) (p0 : Int32) (p1 : Int32) (E0 : String) (hr : x_X5_shared σ p0 p1 = .inl E0) : AMetX l0 yX5_shared cX5_shared 3 (some .int) ({ frames := 7, cells := 1, slots := 6, locals := 103 } : Room) [.ref 0, .int p0, .int p1] (wd σ) (fun _ _ => False) (fun E => E = E0) := by
  refine AMetX_of (by decide +kernel) (by simp [Value.category]) (Nat.le_of_ble_eq_true rfl) (fun K hK hX hE => ?_)
  have hT := tt_X5_shared
  refine AW_g hT cl_X5 hK 0 2 (pc' := 2) (lo' := [some (.ref 0), some (.int p0), some (.int p1)]) (st' := [.int p0, .ref 0]) (hp' := wd σ) rfl ?_
  rcases hc107 : x_X5_requirePaper σ p0 with E | v108
  · refine AW_callVX hT hK 2 [.int p0] [] (mx_X5_requirePaper l0 hl0 σ p0 E hc107) cw_X5_requirePaper lk_X5_62 vi_X5_requirePaper rfl rfl rfl rfl rfl rfl (Nat.le_of_ble_eq_true rfl) (Nat.le_of_ble_eq_true rfl) (fun _ _ h9 => h9.elim) (fun E9 h9 => AWX_out hK hX (Nat.le_of_ble_eq_true rfl) (Nat.le_of_ble_eq_true rfl) ?_)
    subst h9; simp only [x_X5_shared, hc107] at hr; cases hr; rfl
  · refine AW_callV hT hK 2 [.int p0] [] (m_X5_requirePaper l0 σ p0 v108 hc107) cw_X5_requirePaper lk_X5_62 vi_X5_requirePaper rfl rfl rfl rfl rfl rfl (Nat.le_of_ble_eq_true rfl) (Nat.le_of_ble_eq_true rfl) (AW_kn ?_)
    refine AW_g hT cl_X5 hK 3 2 (pc' := 7) (lo' := [some (.ref 0), some (.int p0), some (.int p1)]) (st' := [.int p1, .ref 0]) (hp' := wd σ) rfl ?_
    rcases hc109 : x_X5_requirePaper σ p1 with E | v110
    · refine AW_callVX hT hK 5 [.int p1] [] (mx_X5_requirePaper l0 hl0 σ p1 E hc109) cw_X5_requirePaper lk_X5_62 vi_X5_requirePaper rfl rfl rfl rfl rfl rfl (Nat.le_of_ble_eq_true rfl) (Nat.le_of_ble_eq_true rfl) (fun _ _ h9 => h9.elim) (fun E9 h9 => AWX_out hK hX (Nat.le_of_ble_eq_true rfl) (Nat.le_of_ble_eq_true rfl) ?_)
      subst h9; simp only [x_X5_shared, hc107, hc109] at hr; cases hr; rfl
    · refine AW_callV hT hK 5 [.int p1] [] (m_X5_requirePaper l0 σ p1 v110 hc109) cw_X5_requirePaper lk_X5_62 vi_X5_requirePaper rfl rfl rfl rfl rfl rfl (Nat.le_of_ble_eq_true rfl) (Nat.le_of_ble_eq_true rfl) (AW_kn ?_)
      exfalso; simp only [x_X5_shared, hc107, hc109] at hr
      first | (cases hr; done) | ((repeat' split at hr) <;> cases hr)
def x_X5_joint (σ : az_S) (p0 : Int32) (p1 : Int32) : String ⊕ Int32 :=
  match x_X5_requirePaper σ p0 with
  | .inl E => .inl E
  | .inr _ =>
    match x_X5_requirePaper σ p1 with
    | .inl E => .inl E
    | .inr _ =>
      let v6 := x_X3_jointOf σ p0 p1
      .inr v6
set_option maxRecDepth 100000 in
set_option maxHeartbeats 4000000 in
theorem m_X5_joint (l0 : Launch) (σ : az_S) (p0 : Int32) (p1 : Int32) (rv : Int32) (hr : x_X5_joint σ p0 p1 = .inr rv) : AMet l0 yX5_joint cX5_joint 3 (some .int) ({ frames := 7, cells := 0, slots := 0, locals := 103 } : Room) false [.ref 0, .int p0, .int p1] (wd σ) (fun r h => r = some (.int rv) ∧ h = wd σ) := by
  refine AMet_of (by decide +kernel) (by simp [Value.category]) (Nat.le_of_ble_eq_true rfl) (fun K hK hct hG hE => ?_)
  have hT := tt_X5_joint
  refine AW_g hT cl_X5 hK 0 2 (pc' := 2) (lo' := [some (.ref 0), some (.int p0), some (.int p1)]) (st' := [.int p0, .ref 0]) (hp' := wd σ) rfl ?_
  rcases hc1 : x_X5_requirePaper σ p0 with E | v2
  · exfalso; simp only [x_X5_joint, hc1] at hr; cases hr
  · refine AW_callV hT hK 2 [.int p0] [] (m_X5_requirePaper l0 σ p0 v2 hc1) cw_X5_requirePaper lk_X5_62 vi_X5_requirePaper rfl rfl rfl rfl rfl rfl (Nat.le_of_ble_eq_true rfl) (Nat.le_of_ble_eq_true rfl) (AW_kn ?_)
    refine AW_g hT cl_X5 hK 3 2 (pc' := 7) (lo' := [some (.ref 0), some (.int p0), some (.int p1)]) (st' := [.int p1, .ref 0]) (hp' := wd σ) rfl ?_
    rcases hc3 : x_X5_requirePaper σ p1 with E | v4
    · exfalso; simp only [x_X5_joint, hc1, hc3] at hr; cases hr
    · refine AW_callV hT hK 5 [.int p1] [] (m_X5_requirePaper l0 σ p1 v4 hc3) cw_X5_requirePaper lk_X5_62 vi_X5_requirePaper rfl rfl rfl rfl rfl rfl (Nat.le_of_ble_eq_true rfl) (Nat.le_of_ble_eq_true rfl) (AW_kn ?_)
      refine AW_g hT cl_X5 hK 6 4 (pc' := 16) (lo' := [some (.ref 0), some (.int p0), some (.int p1)]) (st' := [.int p1, .int p0, .ref 1]) (hp' := wd σ) rfl ?_
      refine AW_callV hT hK 10 [.int p0, .int p1] [] (m_X3_jointOf l0 σ p0 p1) cw_X3_jointOf lk_X5_88 vi_X3_jointOf rfl rfl rfl rfl rfl rfl (Nat.le_of_ble_eq_true rfl) (Nat.le_of_ble_eq_true rfl) (AW_k1 (fun v6 h5 => ?_))
      refine AW_iret hT hE 11 rfl rfl rfl (Nat.le_of_ble_eq_true rfl) (Nat.le_of_ble_eq_true rfl) ?_
      subst h5; simp only [x_X5_joint, hc1, hc3] at hr; cases hr; exact ⟨rfl, rfl⟩
set_option maxRecDepth 100000 in
set_option maxHeartbeats 4000000 in
theorem mx_X5_joint (l0 : Launch) (hl0 : l0.stackTraces = false) (σ : az_S) (p0 : Int32) (p1 : Int32) (E0 : String) (hr : x_X5_joint σ p0 p1 = .inl E0) : AMetX l0 yX5_joint cX5_joint 3 (some .int) ({ frames := 7, cells := 1, slots := 6, locals := 103 } : Room) [.ref 0, .int p0, .int p1] (wd σ) (fun _ _ => False) (fun E => E = E0) := by
  refine AMetX_of (by decide +kernel) (by simp [Value.category]) (Nat.le_of_ble_eq_true rfl) (fun K hK hX hE => ?_)
  have hT := tt_X5_joint
  refine AW_g hT cl_X5 hK 0 2 (pc' := 2) (lo' := [some (.ref 0), some (.int p0), some (.int p1)]) (st' := [.int p0, .ref 0]) (hp' := wd σ) rfl ?_
  rcases hc107 : x_X5_requirePaper σ p0 with E | v108
  · refine AW_callVX hT hK 2 [.int p0] [] (mx_X5_requirePaper l0 hl0 σ p0 E hc107) cw_X5_requirePaper lk_X5_62 vi_X5_requirePaper rfl rfl rfl rfl rfl rfl (Nat.le_of_ble_eq_true rfl) (Nat.le_of_ble_eq_true rfl) (fun _ _ h9 => h9.elim) (fun E9 h9 => AWX_out hK hX (Nat.le_of_ble_eq_true rfl) (Nat.le_of_ble_eq_true rfl) ?_)
    subst h9; simp only [x_X5_joint, hc107] at hr; cases hr; rfl
  · refine AW_callV hT hK 2 [.int p0] [] (m_X5_requirePaper l0 σ p0 v108 hc107) cw_X5_requirePaper lk_X5_62 vi_X5_requirePaper rfl rfl rfl rfl rfl rfl (Nat.le_of_ble_eq_true rfl) (Nat.le_of_ble_eq_true rfl) (AW_kn ?_)
    refine AW_g hT cl_X5 hK 3 2 (pc' := 7) (lo' := [some (.ref 0), some (.int p0), some (.int p1)]) (st' := [.int p1, .ref 0]) (hp' := wd σ) rfl ?_
    rcases hc109 : x_X5_requirePaper σ p1 with E | v110
    · refine AW_callVX hT hK 5 [.int p1] [] (mx_X5_requirePaper l0 hl0 σ p1 E hc109) cw_X5_requirePaper lk_X5_62 vi_X5_requirePaper rfl rfl rfl rfl rfl rfl (Nat.le_of_ble_eq_true rfl) (Nat.le_of_ble_eq_true rfl) (fun _ _ h9 => h9.elim) (fun E9 h9 => AWX_out hK hX (Nat.le_of_ble_eq_true rfl) (Nat.le_of_ble_eq_true rfl) ?_)
      subst h9; simp only [x_X5_joint, hc107, hc109] at hr; cases hr; rfl
    · refine AW_callV hT hK 5 [.int p1] [] (m_X5_requirePaper l0 σ p1 v110 hc109) cw_X5_requirePaper lk_X5_62 vi_X5_requirePaper rfl rfl rfl rfl rfl rfl (Nat.le_of_ble_eq_true rfl) (Nat.le_of_ble_eq_true rfl) (AW_kn ?_)
      exfalso; simp only [x_X5_joint, hc107, hc109] at hr
      first | (cases hr; done) | ((repeat' split at hr) <;> cases hr)
def x_X5_likenessNumerator (σ : az_S) (p0 : Int32) (p1 : Int32) : String ⊕ Int32 :=
  match x_X5_requirePaper σ p0 with
  | .inl E => .inl E
  | .inr _ =>
    match x_X5_requirePaper σ p1 with
    | .inl E => .inl E
    | .inr _ =>
      let v6 := x_X3_sharedOf σ p0 p1
      let v8 := x_X5_referencePairs σ p0 p1
      let v10 := x_X5_lowestTerm σ (v6 * v6) (v6 * v6) v8
      .inr v10
set_option maxRecDepth 100000 in
set_option maxHeartbeats 4000000 in
theorem m_X5_likenessNumerator (l0 : Launch) (σ : az_S) (p0 : Int32) (p1 : Int32) (rv : Int32) (hr : x_X5_likenessNumerator σ p0 p1 = .inr rv) : AMet l0 yX5_likenessNumerator cX5_likenessNumerator 4 (some .int) ({ frames := 7, cells := 0, slots := 0, locals := 103 } : Room) false [.ref 0, .int p0, .int p1] (wd σ) (fun r h => r = some (.int rv) ∧ h = wd σ) := by
  refine AMet_of (by decide +kernel) (by simp [Value.category]) (Nat.le_of_ble_eq_true rfl) (fun K hK hct hG hE => ?_)
  have hT := tt_X5_likenessNumerator
  refine AW_g hT cl_X5 hK 0 2 (pc' := 2) (lo' := [some (.ref 0), some (.int p0), some (.int p1), none]) (st' := [.int p0, .ref 0]) (hp' := wd σ) rfl ?_
  rcases hc1 : x_X5_requirePaper σ p0 with E | v2
  · exfalso; simp only [x_X5_likenessNumerator, hc1] at hr; cases hr
  · refine AW_callV hT hK 2 [.int p0] [] (m_X5_requirePaper l0 σ p0 v2 hc1) cw_X5_requirePaper lk_X5_62 vi_X5_requirePaper rfl rfl rfl rfl rfl rfl (Nat.le_of_ble_eq_true rfl) (Nat.le_of_ble_eq_true rfl) (AW_kn ?_)
    refine AW_g hT cl_X5 hK 3 2 (pc' := 7) (lo' := [some (.ref 0), some (.int p0), some (.int p1), none]) (st' := [.int p1, .ref 0]) (hp' := wd σ) rfl ?_
    rcases hc3 : x_X5_requirePaper σ p1 with E | v4
    · exfalso; simp only [x_X5_likenessNumerator, hc1, hc3] at hr; cases hr
    · refine AW_callV hT hK 5 [.int p1] [] (m_X5_requirePaper l0 σ p1 v4 hc3) cw_X5_requirePaper lk_X5_62 vi_X5_requirePaper rfl rfl rfl rfl rfl rfl (Nat.le_of_ble_eq_true rfl) (Nat.le_of_ble_eq_true rfl) (AW_kn ?_)
      refine AW_g hT cl_X5 hK 6 4 (pc' := 16) (lo' := [some (.ref 0), some (.int p0), some (.int p1), none]) (st' := [.int p1, .int p0, .ref 1]) (hp' := wd σ) rfl ?_
      refine AW_callV hT hK 10 [.int p0, .int p1] [] (m_X3_sharedOf l0 σ p0 p1) cw_X3_sharedOf lk_X5_85 vi_X3_sharedOf rfl rfl rfl rfl rfl rfl (Nat.le_of_ble_eq_true rfl) (Nat.le_of_ble_eq_true rfl) (AW_k1 (fun v6 h5 => ?_))
      refine AW_g hT cl_X5 hK 11 10 (pc' := 29) (lo' := [some (.ref 0), some (.int p0), some (.int p1), some (.int v6)]) (st' := [.int p1, .int p0, .ref 0, .int (v6 * v6), .int (v6 * v6)]) (hp' := wd σ) rfl ?_
      refine AW_callV hT hK 21 [.int p0, .int p1] [.int (v6 * v6), .int (v6 * v6)] (m_X5_referencePairs l0 σ p0 p1) cw_X5_referencePairs lk_X5_97 vi_X5_referencePairs rfl rfl rfl rfl rfl rfl (Nat.le_of_ble_eq_true rfl) (Nat.le_of_ble_eq_true rfl) (AW_k1 (fun v8 h7 => ?_))
      refine AW_callS hT hK 22 [.int (v6 * v6), .int (v6 * v6), .int v8] [] (m_X5_lowestTerm l0 σ (v6 * v6) (v6 * v6) v8) cw_X5_lowestTerm lk_X5_100 sm_X5_lowestTerm rfl rfl rfl rfl (Nat.le_of_ble_eq_true rfl) (Nat.le_of_ble_eq_true rfl) (AW_k1 (fun v10 h9 => ?_))
      refine AW_iret hT hE 23 rfl rfl rfl (Nat.le_of_ble_eq_true rfl) (Nat.le_of_ble_eq_true rfl) ?_
      subst h9; subst h7; subst h5; simp only [x_X5_likenessNumerator, hc1, hc3] at hr; cases hr; exact ⟨rfl, rfl⟩
set_option maxRecDepth 100000 in
set_option maxHeartbeats 4000000 in
theorem mx_X5_likenessNumerator (l0 : Launch) (hl0 : l0.stackTraces = false) (σ : az_S) (p0 : Int32) (p1 : Int32) (E0 : String) (hr : x_X5_likenessNumerator σ p0 p1 = .inl E0) : AMetX l0 yX5_likenessNumerator cX5_likenessNumerator 4 (some .int) ({ frames := 7, cells := 1, slots := 6, locals := 103 } : Room) [.ref 0, .int p0, .int p1] (wd σ) (fun _ _ => False) (fun E => E = E0) := by
  refine AMetX_of (by decide +kernel) (by simp [Value.category]) (Nat.le_of_ble_eq_true rfl) (fun K hK hX hE => ?_)
  have hT := tt_X5_likenessNumerator
  refine AW_g hT cl_X5 hK 0 2 (pc' := 2) (lo' := [some (.ref 0), some (.int p0), some (.int p1), none]) (st' := [.int p0, .ref 0]) (hp' := wd σ) rfl ?_
  rcases hc111 : x_X5_requirePaper σ p0 with E | v112
  · refine AW_callVX hT hK 2 [.int p0] [] (mx_X5_requirePaper l0 hl0 σ p0 E hc111) cw_X5_requirePaper lk_X5_62 vi_X5_requirePaper rfl rfl rfl rfl rfl rfl (Nat.le_of_ble_eq_true rfl) (Nat.le_of_ble_eq_true rfl) (fun _ _ h9 => h9.elim) (fun E9 h9 => AWX_out hK hX (Nat.le_of_ble_eq_true rfl) (Nat.le_of_ble_eq_true rfl) ?_)
    subst h9; simp only [x_X5_likenessNumerator, hc111] at hr; cases hr; rfl
  · refine AW_callV hT hK 2 [.int p0] [] (m_X5_requirePaper l0 σ p0 v112 hc111) cw_X5_requirePaper lk_X5_62 vi_X5_requirePaper rfl rfl rfl rfl rfl rfl (Nat.le_of_ble_eq_true rfl) (Nat.le_of_ble_eq_true rfl) (AW_kn ?_)
    refine AW_g hT cl_X5 hK 3 2 (pc' := 7) (lo' := [some (.ref 0), some (.int p0), some (.int p1), none]) (st' := [.int p1, .ref 0]) (hp' := wd σ) rfl ?_
    rcases hc113 : x_X5_requirePaper σ p1 with E | v114
    · refine AW_callVX hT hK 5 [.int p1] [] (mx_X5_requirePaper l0 hl0 σ p1 E hc113) cw_X5_requirePaper lk_X5_62 vi_X5_requirePaper rfl rfl rfl rfl rfl rfl (Nat.le_of_ble_eq_true rfl) (Nat.le_of_ble_eq_true rfl) (fun _ _ h9 => h9.elim) (fun E9 h9 => AWX_out hK hX (Nat.le_of_ble_eq_true rfl) (Nat.le_of_ble_eq_true rfl) ?_)
      subst h9; simp only [x_X5_likenessNumerator, hc111, hc113] at hr; cases hr; rfl
    · refine AW_callV hT hK 5 [.int p1] [] (m_X5_requirePaper l0 σ p1 v114 hc113) cw_X5_requirePaper lk_X5_62 vi_X5_requirePaper rfl rfl rfl rfl rfl rfl (Nat.le_of_ble_eq_true rfl) (Nat.le_of_ble_eq_true rfl) (AW_kn ?_)
      exfalso; simp only [x_X5_likenessNumerator, hc111, hc113] at hr
      first | (cases hr; done) | ((repeat' split at hr) <;> cases hr)
def x_X5_likenessDenominator (σ : az_S) (p0 : Int32) (p1 : Int32) : String ⊕ Int32 :=
  match x_X5_requirePaper σ p0 with
  | .inl E => .inl E
  | .inr _ =>
    match x_X5_requirePaper σ p1 with
    | .inl E => .inl E
    | .inr _ =>
      let v6 := x_X3_sharedOf σ p0 p1
      let v8 := x_X5_referencePairs σ p0 p1
      if v8 = 0 then
        .inr 1
      else
        let v11 := x_X5_lowestTerm σ v8 (v6 * v6) v8
        .inr v11
set_option maxRecDepth 100000 in
set_option maxHeartbeats 4000000 in
theorem m_X5_likenessDenominator (l0 : Launch) (σ : az_S) (p0 : Int32) (p1 : Int32) (rv : Int32) (hr : x_X5_likenessDenominator σ p0 p1 = .inr rv) : AMet l0 yX5_likenessDenominator cX5_likenessDenominator 5 (some .int) ({ frames := 7, cells := 0, slots := 0, locals := 103 } : Room) false [.ref 0, .int p0, .int p1] (wd σ) (fun r h => r = some (.int rv) ∧ h = wd σ) := by
  refine AMet_of (by decide +kernel) (by simp [Value.category]) (Nat.le_of_ble_eq_true rfl) (fun K hK hct hG hE => ?_)
  have hT := tt_X5_likenessDenominator
  refine AW_g hT cl_X5 hK 0 2 (pc' := 2) (lo' := [some (.ref 0), some (.int p0), some (.int p1), none, none]) (st' := [.int p0, .ref 0]) (hp' := wd σ) rfl ?_
  rcases hc1 : x_X5_requirePaper σ p0 with E | v2
  · exfalso; simp only [x_X5_likenessDenominator, hc1] at hr; cases hr
  · refine AW_callV hT hK 2 [.int p0] [] (m_X5_requirePaper l0 σ p0 v2 hc1) cw_X5_requirePaper lk_X5_62 vi_X5_requirePaper rfl rfl rfl rfl rfl rfl (Nat.le_of_ble_eq_true rfl) (Nat.le_of_ble_eq_true rfl) (AW_kn ?_)
    refine AW_g hT cl_X5 hK 3 2 (pc' := 7) (lo' := [some (.ref 0), some (.int p0), some (.int p1), none, none]) (st' := [.int p1, .ref 0]) (hp' := wd σ) rfl ?_
    rcases hc3 : x_X5_requirePaper σ p1 with E | v4
    · exfalso; simp only [x_X5_likenessDenominator, hc1, hc3] at hr; cases hr
    · refine AW_callV hT hK 5 [.int p1] [] (m_X5_requirePaper l0 σ p1 v4 hc3) cw_X5_requirePaper lk_X5_62 vi_X5_requirePaper rfl rfl rfl rfl rfl rfl (Nat.le_of_ble_eq_true rfl) (Nat.le_of_ble_eq_true rfl) (AW_kn ?_)
      refine AW_g hT cl_X5 hK 6 4 (pc' := 16) (lo' := [some (.ref 0), some (.int p0), some (.int p1), none, none]) (st' := [.int p1, .int p0, .ref 1]) (hp' := wd σ) rfl ?_
      refine AW_callV hT hK 10 [.int p0, .int p1] [] (m_X3_sharedOf l0 σ p0 p1) cw_X3_sharedOf lk_X5_85 vi_X3_sharedOf rfl rfl rfl rfl rfl rfl (Nat.le_of_ble_eq_true rfl) (Nat.le_of_ble_eq_true rfl) (AW_k1 (fun v6 h5 => ?_))
      refine AW_g hT cl_X5 hK 11 4 (pc' := 23) (lo' := [some (.ref 0), some (.int p0), some (.int p1), some (.int v6), none]) (st' := [.int p1, .int p0, .ref 0]) (hp' := wd σ) rfl ?_
      refine AW_callV hT hK 15 [.int p0, .int p1] [] (m_X5_referencePairs l0 σ p0 p1) cw_X5_referencePairs lk_X5_97 vi_X5_referencePairs rfl rfl rfl rfl rfl rfl (Nat.le_of_ble_eq_true rfl) (Nat.le_of_ble_eq_true rfl) (AW_k1 (fun v8 h7 => ?_))
      refine AW_g hT cl_X5 hK 16 2 (pc' := 30) (lo' := [some (.ref 0), some (.int p0), some (.int p1), some (.int v6), some (.int v8)]) (st' := [.int v8]) (hp' := wd σ) rfl ?_
      refine AW_if_ne hT hK 18 (tgt := 37) rfl rfl (fun c9 => ?_) (fun c9 => ?_)
      · refine AW_g hT cl_X5 hK 21 5 (pc' := 44) (lo' := [some (.ref 0), some (.int p0), some (.int p1), some (.int v6), some (.int v8)]) (st' := [.int v8, .int (v6 * v6), .int v8]) (hp' := wd σ) rfl ?_
        refine AW_callS hT hK 26 [.int v8, .int (v6 * v6), .int v8] [] (m_X5_lowestTerm l0 σ v8 (v6 * v6) v8) cw_X5_lowestTerm lk_X5_100 sm_X5_lowestTerm rfl rfl rfl rfl (Nat.le_of_ble_eq_true rfl) (Nat.le_of_ble_eq_true rfl) (AW_k1 (fun v11 h10 => ?_))
        refine AW_iret hT hE 27 rfl rfl rfl (Nat.le_of_ble_eq_true rfl) (Nat.le_of_ble_eq_true rfl) ?_
        subst h10; subst h7; subst h5; simp only [x_X5_likenessDenominator, hc1, hc3, if_neg c9] at hr; cases hr; exact ⟨rfl, rfl⟩
      · refine AW_g hT cl_X5 hK 19 1 (pc' := 34) (lo' := [some (.ref 0), some (.int p0), some (.int p1), some (.int v6), some (.int v8)]) (st' := [.int 1]) (hp' := wd σ) rfl ?_
        refine AW_goto hT hK 20 (tgt := 47) rfl rfl ?_
        refine AW_iret hT hE 27 rfl rfl rfl (Nat.le_of_ble_eq_true rfl) (Nat.le_of_ble_eq_true rfl) ?_
        subst h7; subst h5; simp only [x_X5_likenessDenominator, hc1, hc3, if_pos c9] at hr; cases hr; exact ⟨rfl, rfl⟩
set_option maxRecDepth 100000 in
set_option maxHeartbeats 4000000 in
theorem mx_X5_likenessDenominator (l0 : Launch) (hl0 : l0.stackTraces = false) (σ : az_S) (p0 : Int32) (p1 : Int32) (E0 : String) (hr : x_X5_likenessDenominator σ p0 p1 = .inl E0) : AMetX l0 yX5_likenessDenominator cX5_likenessDenominator 5 (some .int) ({ frames := 7, cells := 1, slots := 6, locals := 103 } : Room) [.ref 0, .int p0, .int p1] (wd σ) (fun _ _ => False) (fun E => E = E0) := by
  refine AMetX_of (by decide +kernel) (by simp [Value.category]) (Nat.le_of_ble_eq_true rfl) (fun K hK hX hE => ?_)
  have hT := tt_X5_likenessDenominator
  refine AW_g hT cl_X5 hK 0 2 (pc' := 2) (lo' := [some (.ref 0), some (.int p0), some (.int p1), none, none]) (st' := [.int p0, .ref 0]) (hp' := wd σ) rfl ?_
  rcases hc112 : x_X5_requirePaper σ p0 with E | v113
  · refine AW_callVX hT hK 2 [.int p0] [] (mx_X5_requirePaper l0 hl0 σ p0 E hc112) cw_X5_requirePaper lk_X5_62 vi_X5_requirePaper rfl rfl rfl rfl rfl rfl (Nat.le_of_ble_eq_true rfl) (Nat.le_of_ble_eq_true rfl) (fun _ _ h9 => h9.elim) (fun E9 h9 => AWX_out hK hX (Nat.le_of_ble_eq_true rfl) (Nat.le_of_ble_eq_true rfl) ?_)
    subst h9; simp only [x_X5_likenessDenominator, hc112] at hr; cases hr; rfl
  · refine AW_callV hT hK 2 [.int p0] [] (m_X5_requirePaper l0 σ p0 v113 hc112) cw_X5_requirePaper lk_X5_62 vi_X5_requirePaper rfl rfl rfl rfl rfl rfl (Nat.le_of_ble_eq_true rfl) (Nat.le_of_ble_eq_true rfl) (AW_kn ?_)
    refine AW_g hT cl_X5 hK 3 2 (pc' := 7) (lo' := [some (.ref 0), some (.int p0), some (.int p1), none, none]) (st' := [.int p1, .ref 0]) (hp' := wd σ) rfl ?_
    rcases hc114 : x_X5_requirePaper σ p1 with E | v115
    · refine AW_callVX hT hK 5 [.int p1] [] (mx_X5_requirePaper l0 hl0 σ p1 E hc114) cw_X5_requirePaper lk_X5_62 vi_X5_requirePaper rfl rfl rfl rfl rfl rfl (Nat.le_of_ble_eq_true rfl) (Nat.le_of_ble_eq_true rfl) (fun _ _ h9 => h9.elim) (fun E9 h9 => AWX_out hK hX (Nat.le_of_ble_eq_true rfl) (Nat.le_of_ble_eq_true rfl) ?_)
      subst h9; simp only [x_X5_likenessDenominator, hc112, hc114] at hr; cases hr; rfl
    · refine AW_callV hT hK 5 [.int p1] [] (m_X5_requirePaper l0 σ p1 v115 hc114) cw_X5_requirePaper lk_X5_62 vi_X5_requirePaper rfl rfl rfl rfl rfl rfl (Nat.le_of_ble_eq_true rfl) (Nat.le_of_ble_eq_true rfl) (AW_kn ?_)
      exfalso; simp only [x_X5_likenessDenominator, hc112, hc114] at hr
      first | (cases hr; done) | ((repeat' split at hr) <;> cases hr)
def x_X5_fieldOf (σ : az_S) (p0 : Int32) : String ⊕ Int32 :=
  match x_X5_requirePaper σ p0 with
  | .inl E => .inl E
  | .inr _ =>
    let v4 := x_X0_groupOf σ p0
    .inr v4
set_option maxRecDepth 100000 in
set_option maxHeartbeats 4000000 in
theorem m_X5_fieldOf (l0 : Launch) (σ : az_S) (p0 : Int32) (rv : Int32) (hr : x_X5_fieldOf σ p0 = .inr rv) : AMet l0 yX5_fieldOf cX5_fieldOf 2 (some .int) ({ frames := 7, cells := 0, slots := 0, locals := 103 } : Room) false [.ref 0, .int p0] (wd σ) (fun r h => r = some (.int rv) ∧ h = wd σ) := by
  refine AMet_of (by decide +kernel) (by simp [Value.category]) (Nat.le_of_ble_eq_true rfl) (fun K hK hct hG hE => ?_)
  have hT := tt_X5_fieldOf
  refine AW_g hT cl_X5 hK 0 2 (pc' := 2) (lo' := [some (.ref 0), some (.int p0)]) (st' := [.int p0, .ref 0]) (hp' := wd σ) rfl ?_
  rcases hc1 : x_X5_requirePaper σ p0 with E | v2
  · exfalso; simp only [x_X5_fieldOf, hc1] at hr; cases hr
  · refine AW_callV hT hK 2 [.int p0] [] (m_X5_requirePaper l0 σ p0 v2 hc1) cw_X5_requirePaper lk_X5_62 vi_X5_requirePaper rfl rfl rfl rfl rfl rfl (Nat.le_of_ble_eq_true rfl) (Nat.le_of_ble_eq_true rfl) (AW_kn ?_)
    refine AW_g hT cl_X5 hK 3 3 (pc' := 10) (lo' := [some (.ref 0), some (.int p0)]) (st' := [.int p0, .ref 12]) (hp' := wd σ) rfl ?_
    refine AW_callV hT hK 6 [.int p0] [] (m_X0_groupOf l0 σ p0) cw_X0_groupOf lk_X5_104 vi_X0_groupOf rfl rfl rfl rfl rfl rfl (Nat.le_of_ble_eq_true rfl) (Nat.le_of_ble_eq_true rfl) (AW_k1 (fun v4 h3 => ?_))
    refine AW_iret hT hE 7 rfl rfl rfl (Nat.le_of_ble_eq_true rfl) (Nat.le_of_ble_eq_true rfl) ?_
    subst h3; simp only [x_X5_fieldOf, hc1] at hr; cases hr; exact ⟨rfl, rfl⟩
set_option maxRecDepth 100000 in
set_option maxHeartbeats 4000000 in
theorem mx_X5_fieldOf (l0 : Launch) (hl0 : l0.stackTraces = false) (σ : az_S) (p0 : Int32) (E0 : String) (hr : x_X5_fieldOf σ p0 = .inl E0) : AMetX l0 yX5_fieldOf cX5_fieldOf 2 (some .int) ({ frames := 7, cells := 1, slots := 6, locals := 103 } : Room) [.ref 0, .int p0] (wd σ) (fun _ _ => False) (fun E => E = E0) := by
  refine AMetX_of (by decide +kernel) (by simp [Value.category]) (Nat.le_of_ble_eq_true rfl) (fun K hK hX hE => ?_)
  have hT := tt_X5_fieldOf
  refine AW_g hT cl_X5 hK 0 2 (pc' := 2) (lo' := [some (.ref 0), some (.int p0)]) (st' := [.int p0, .ref 0]) (hp' := wd σ) rfl ?_
  rcases hc105 : x_X5_requirePaper σ p0 with E | v106
  · refine AW_callVX hT hK 2 [.int p0] [] (mx_X5_requirePaper l0 hl0 σ p0 E hc105) cw_X5_requirePaper lk_X5_62 vi_X5_requirePaper rfl rfl rfl rfl rfl rfl (Nat.le_of_ble_eq_true rfl) (Nat.le_of_ble_eq_true rfl) (fun _ _ h9 => h9.elim) (fun E9 h9 => AWX_out hK hX (Nat.le_of_ble_eq_true rfl) (Nat.le_of_ble_eq_true rfl) ?_)
    subst h9; simp only [x_X5_fieldOf, hc105] at hr; cases hr; rfl
  · refine AW_callV hT hK 2 [.int p0] [] (m_X5_requirePaper l0 σ p0 v106 hc105) cw_X5_requirePaper lk_X5_62 vi_X5_requirePaper rfl rfl rfl rfl rfl rfl (Nat.le_of_ble_eq_true rfl) (Nat.le_of_ble_eq_true rfl) (AW_kn ?_)
    exfalso; simp only [x_X5_fieldOf, hc105] at hr
    first | (cases hr; done) | ((repeat' split at hr) <;> cases hr)
def x_X5_gain (σ : az_S) (p0 : Int32) (p1 : Int32) : String ⊕ Int32 :=
  match x_X5_requireField σ p0 with
  | .inl E => .inl E
  | .inr _ =>
    match x_X5_requireField σ p1 with
    | .inl E => .inl E
    | .inr _ =>
      if p0 = p1 then
        .inl az_IAE
      else
        let v7 := x_X0_gainOfJoining σ p0 p1
        .inr v7
set_option maxRecDepth 100000 in
set_option maxHeartbeats 4000000 in
theorem m_X5_gain (l0 : Launch) (σ : az_S) (p0 : Int32) (p1 : Int32) (rv : Int32) (hr : x_X5_gain σ p0 p1 = .inr rv) : AMet l0 yX5_gain cX5_gain 3 (some .int) ({ frames := 7, cells := 0, slots := 0, locals := 103 } : Room) false [.ref 0, .int p0, .int p1] (wd σ) (fun r h => r = some (.int rv) ∧ h = wd σ) := by
  refine AMet_of (by decide +kernel) (by simp [Value.category]) (Nat.le_of_ble_eq_true rfl) (fun K hK hct hG hE => ?_)
  have hT := tt_X5_gain
  refine AW_g hT cl_X5 hK 0 2 (pc' := 2) (lo' := [some (.ref 0), some (.int p0), some (.int p1)]) (st' := [.int p0, .ref 0]) (hp' := wd σ) rfl ?_
  rcases hc1 : x_X5_requireField σ p0 with E | v2
  · exfalso; simp only [x_X5_gain, hc1] at hr; cases hr
  · refine AW_callV hT hK 2 [.int p0] [] (m_X5_requireField l0 σ p0 v2 hc1) cw_X5_requireField lk_X5_110 vi_X5_requireField rfl rfl rfl rfl rfl rfl (Nat.le_of_ble_eq_true rfl) (Nat.le_of_ble_eq_true rfl) (AW_kn ?_)
    refine AW_g hT cl_X5 hK 3 2 (pc' := 7) (lo' := [some (.ref 0), some (.int p0), some (.int p1)]) (st' := [.int p1, .ref 0]) (hp' := wd σ) rfl ?_
    rcases hc3 : x_X5_requireField σ p1 with E | v4
    · exfalso; simp only [x_X5_gain, hc1, hc3] at hr; cases hr
    · refine AW_callV hT hK 5 [.int p1] [] (m_X5_requireField l0 σ p1 v4 hc3) cw_X5_requireField lk_X5_110 vi_X5_requireField rfl rfl rfl rfl rfl rfl (Nat.le_of_ble_eq_true rfl) (Nat.le_of_ble_eq_true rfl) (AW_kn ?_)
      refine AW_g hT cl_X5 hK 6 2 (pc' := 12) (lo' := [some (.ref 0), some (.int p0), some (.int p1)]) (st' := [.int p1, .int p0]) (hp' := wd σ) rfl ?_
      refine AW_icmp_ne hT hK 8 (tgt := 25) rfl rfl (fun c5 => ?_) (fun c5 => ?_)
      · refine AW_g hT cl_X5 hK 14 4 (pc' := 31) (lo' := [some (.ref 0), some (.int p0), some (.int p1)]) (st' := [.int p1, .int p0, .ref 12]) (hp' := wd σ) rfl ?_
        refine AW_callV hT hK 18 [.int p0, .int p1] [] (m_X0_gainOfJoining l0 σ p0 p1) cw_X0_gainOfJoining lk_X5_115 vi_X0_gainOfJoining rfl rfl rfl rfl rfl rfl (Nat.le_of_ble_eq_true rfl) (Nat.le_of_ble_eq_true rfl) (AW_k1 (fun v7 h6 => ?_))
        refine AW_iret hT hE 19 rfl rfl rfl (Nat.le_of_ble_eq_true rfl) (Nat.le_of_ble_eq_true rfl) ?_
        subst h6; simp only [x_X5_gain, hc1, hc3, if_neg c5] at hr; cases hr; exact ⟨rfl, rfl⟩
      · exfalso; simp only [x_X5_gain, hc1, hc3, if_pos c5] at hr; cases hr
set_option maxRecDepth 100000 in
set_option maxHeartbeats 4000000 in
theorem mx_X5_gain (l0 : Launch) (hl0 : l0.stackTraces = false) (σ : az_S) (p0 : Int32) (p1 : Int32) (E0 : String) (hr : x_X5_gain σ p0 p1 = .inl E0) : AMetX l0 yX5_gain cX5_gain 3 (some .int) ({ frames := 7, cells := 1, slots := 6, locals := 103 } : Room) [.ref 0, .int p0, .int p1] (wd σ) (fun _ _ => False) (fun E => E = E0) := by
  refine AMetX_of (by decide +kernel) (by simp [Value.category]) (Nat.le_of_ble_eq_true rfl) (fun K hK hX hE => ?_)
  have hT := tt_X5_gain
  refine AW_g hT cl_X5 hK 0 2 (pc' := 2) (lo' := [some (.ref 0), some (.int p0), some (.int p1)]) (st' := [.int p0, .ref 0]) (hp' := wd σ) rfl ?_
  rcases hc108 : x_X5_requireField σ p0 with E | v109
  · refine AW_callVX hT hK 2 [.int p0] [] (mx_X5_requireField l0 hl0 σ p0 E hc108) cw_X5_requireField lk_X5_110 vi_X5_requireField rfl rfl rfl rfl rfl rfl (Nat.le_of_ble_eq_true rfl) (Nat.le_of_ble_eq_true rfl) (fun _ _ h9 => h9.elim) (fun E9 h9 => AWX_out hK hX (Nat.le_of_ble_eq_true rfl) (Nat.le_of_ble_eq_true rfl) ?_)
    subst h9; simp only [x_X5_gain, hc108] at hr; cases hr; rfl
  · refine AW_callV hT hK 2 [.int p0] [] (m_X5_requireField l0 σ p0 v109 hc108) cw_X5_requireField lk_X5_110 vi_X5_requireField rfl rfl rfl rfl rfl rfl (Nat.le_of_ble_eq_true rfl) (Nat.le_of_ble_eq_true rfl) (AW_kn ?_)
    refine AW_g hT cl_X5 hK 3 2 (pc' := 7) (lo' := [some (.ref 0), some (.int p0), some (.int p1)]) (st' := [.int p1, .ref 0]) (hp' := wd σ) rfl ?_
    rcases hc110 : x_X5_requireField σ p1 with E | v111
    · refine AW_callVX hT hK 5 [.int p1] [] (mx_X5_requireField l0 hl0 σ p1 E hc110) cw_X5_requireField lk_X5_110 vi_X5_requireField rfl rfl rfl rfl rfl rfl (Nat.le_of_ble_eq_true rfl) (Nat.le_of_ble_eq_true rfl) (fun _ _ h9 => h9.elim) (fun E9 h9 => AWX_out hK hX (Nat.le_of_ble_eq_true rfl) (Nat.le_of_ble_eq_true rfl) ?_)
      subst h9; simp only [x_X5_gain, hc108, hc110] at hr; cases hr; rfl
    · refine AW_callV hT hK 5 [.int p1] [] (m_X5_requireField l0 σ p1 v111 hc110) cw_X5_requireField lk_X5_110 vi_X5_requireField rfl rfl rfl rfl rfl rfl (Nat.le_of_ble_eq_true rfl) (Nat.le_of_ble_eq_true rfl) (AW_kn ?_)
      refine AW_g hT cl_X5 hK 6 2 (pc' := 12) (lo' := [some (.ref 0), some (.int p0), some (.int p1)]) (st' := [.int p1, .int p0]) (hp' := wd σ) rfl ?_
      refine AW_icmp_ne hT hK 8 (tgt := 25) rfl rfl (fun c112 => ?_) (fun c112 => ?_)
      · exfalso; simp only [x_X5_gain, hc108, hc110, if_neg c112] at hr
        first | (cases hr; done) | ((repeat' split at hr) <;> cases hr)
      · refine AW_throw hT hK hX hl0 9 (cls := az_IAE) (text := "both fields are the same") (ix := 7) (rx := az_r7) az_r7_ok rfl rfl rfl rfl rfl (by decide) (List.mem_of_getElem? (i := 497) (by decide +kernel)) (List.mem_of_getElem? (i := 35) (by decide +kernel)) (by decide) at_38.1 at_38.2 ⟨by decide, by decide⟩ (Nat.le_of_ble_eq_true rfl) (Nat.le_of_ble_eq_true rfl) ?_
        simp only [x_X5_gain, hc108, hc110, if_pos c112] at hr; cases hr; rfl
def x_X5_split (σ : az_S) (p0 : Int32) : String ⊕ Int32 :=
  match x_X5_requireField σ p0 with
  | .inl E => .inl E
  | .inr _ =>
    let v4 := x_X0_splitOf σ p0
    .inr v4
set_option maxRecDepth 100000 in
set_option maxHeartbeats 4000000 in
theorem m_X5_split (l0 : Launch) (σ : az_S) (p0 : Int32) (rv : Int32) (hr : x_X5_split σ p0 = .inr rv) : AMet l0 yX5_split cX5_split 2 (some .int) ({ frames := 7, cells := 0, slots := 0, locals := 103 } : Room) false [.ref 0, .int p0] (wd σ) (fun r h => r = some (.int rv) ∧ h = wd σ) := by
  refine AMet_of (by decide +kernel) (by simp [Value.category]) (Nat.le_of_ble_eq_true rfl) (fun K hK hct hG hE => ?_)
  have hT := tt_X5_split
  refine AW_g hT cl_X5 hK 0 2 (pc' := 2) (lo' := [some (.ref 0), some (.int p0)]) (st' := [.int p0, .ref 0]) (hp' := wd σ) rfl ?_
  rcases hc1 : x_X5_requireField σ p0 with E | v2
  · exfalso; simp only [x_X5_split, hc1] at hr; cases hr
  · refine AW_callV hT hK 2 [.int p0] [] (m_X5_requireField l0 σ p0 v2 hc1) cw_X5_requireField lk_X5_110 vi_X5_requireField rfl rfl rfl rfl rfl rfl (Nat.le_of_ble_eq_true rfl) (Nat.le_of_ble_eq_true rfl) (AW_kn ?_)
    refine AW_g hT cl_X5 hK 3 3 (pc' := 10) (lo' := [some (.ref 0), some (.int p0)]) (st' := [.int p0, .ref 12]) (hp' := wd σ) rfl ?_
    refine AW_callV hT hK 6 [.int p0] [] (m_X0_splitOf l0 σ p0) cw_X0_splitOf lk_X5_118 vi_X0_splitOf rfl rfl rfl rfl rfl rfl (Nat.le_of_ble_eq_true rfl) (Nat.le_of_ble_eq_true rfl) (AW_k1 (fun v4 h3 => ?_))
    refine AW_iret hT hE 7 rfl rfl rfl (Nat.le_of_ble_eq_true rfl) (Nat.le_of_ble_eq_true rfl) ?_
    subst h3; simp only [x_X5_split, hc1] at hr; cases hr; exact ⟨rfl, rfl⟩
set_option maxRecDepth 100000 in
set_option maxHeartbeats 4000000 in
theorem mx_X5_split (l0 : Launch) (hl0 : l0.stackTraces = false) (σ : az_S) (p0 : Int32) (E0 : String) (hr : x_X5_split σ p0 = .inl E0) : AMetX l0 yX5_split cX5_split 2 (some .int) ({ frames := 7, cells := 1, slots := 6, locals := 103 } : Room) [.ref 0, .int p0] (wd σ) (fun _ _ => False) (fun E => E = E0) := by
  refine AMetX_of (by decide +kernel) (by simp [Value.category]) (Nat.le_of_ble_eq_true rfl) (fun K hK hX hE => ?_)
  have hT := tt_X5_split
  refine AW_g hT cl_X5 hK 0 2 (pc' := 2) (lo' := [some (.ref 0), some (.int p0)]) (st' := [.int p0, .ref 0]) (hp' := wd σ) rfl ?_
  rcases hc105 : x_X5_requireField σ p0 with E | v106
  · refine AW_callVX hT hK 2 [.int p0] [] (mx_X5_requireField l0 hl0 σ p0 E hc105) cw_X5_requireField lk_X5_110 vi_X5_requireField rfl rfl rfl rfl rfl rfl (Nat.le_of_ble_eq_true rfl) (Nat.le_of_ble_eq_true rfl) (fun _ _ h9 => h9.elim) (fun E9 h9 => AWX_out hK hX (Nat.le_of_ble_eq_true rfl) (Nat.le_of_ble_eq_true rfl) ?_)
    subst h9; simp only [x_X5_split, hc105] at hr; cases hr; rfl
  · refine AW_callV hT hK 2 [.int p0] [] (m_X5_requireField l0 σ p0 v106 hc105) cw_X5_requireField lk_X5_110 vi_X5_requireField rfl rfl rfl rfl rfl rfl (Nat.le_of_ble_eq_true rfl) (Nat.le_of_ble_eq_true rfl) (AW_kn ?_)
    exfalso; simp only [x_X5_split, hc105] at hr
    first | (cases hr; done) | ((repeat' split at hr) <;> cases hr)
def x_X5_count (σ : az_S) (p0 : Int32) (p1 : Int32) : String ⊕ Int32 :=
  match x_X5_requirePaper σ p0 with
  | .inl E => .inl E
  | .inr _ =>
    match x_X5_requirePaper σ p1 with
    | .inl E => .inl E
    | .inr _ =>
      let v6 := x_X3_cites σ p0 p1
      if v6 = 0 then
        .inl az_NSE
      else
        let v9 := x_X1_countOf σ p0 p1
        .inr v9
set_option maxRecDepth 100000 in
set_option maxHeartbeats 4000000 in
theorem m_X5_count (l0 : Launch) (σ : az_S) (p0 : Int32) (p1 : Int32) (rv : Int32) (hr : x_X5_count σ p0 p1 = .inr rv) : AMet l0 yX5_count cX5_count 3 (some .int) ({ frames := 7, cells := 0, slots := 0, locals := 103 } : Room) false [.ref 0, .int p0, .int p1] (wd σ) (fun r h => r = some (.int rv) ∧ h = wd σ) := by
  refine AMet_of (by decide +kernel) (by simp [Value.category]) (Nat.le_of_ble_eq_true rfl) (fun K hK hct hG hE => ?_)
  have hT := tt_X5_count
  refine AW_g hT cl_X5 hK 0 2 (pc' := 2) (lo' := [some (.ref 0), some (.int p0), some (.int p1)]) (st' := [.int p0, .ref 0]) (hp' := wd σ) rfl ?_
  rcases hc1 : x_X5_requirePaper σ p0 with E | v2
  · exfalso; simp only [x_X5_count, hc1] at hr; cases hr
  · refine AW_callV hT hK 2 [.int p0] [] (m_X5_requirePaper l0 σ p0 v2 hc1) cw_X5_requirePaper lk_X5_62 vi_X5_requirePaper rfl rfl rfl rfl rfl rfl (Nat.le_of_ble_eq_true rfl) (Nat.le_of_ble_eq_true rfl) (AW_kn ?_)
    refine AW_g hT cl_X5 hK 3 2 (pc' := 7) (lo' := [some (.ref 0), some (.int p0), some (.int p1)]) (st' := [.int p1, .ref 0]) (hp' := wd σ) rfl ?_
    rcases hc3 : x_X5_requirePaper σ p1 with E | v4
    · exfalso; simp only [x_X5_count, hc1, hc3] at hr; cases hr
    · refine AW_callV hT hK 5 [.int p1] [] (m_X5_requirePaper l0 σ p1 v4 hc3) cw_X5_requirePaper lk_X5_62 vi_X5_requirePaper rfl rfl rfl rfl rfl rfl (Nat.le_of_ble_eq_true rfl) (Nat.le_of_ble_eq_true rfl) (AW_kn ?_)
      refine AW_g hT cl_X5 hK 6 4 (pc' := 16) (lo' := [some (.ref 0), some (.int p0), some (.int p1)]) (st' := [.int p1, .int p0, .ref 1]) (hp' := wd σ) rfl ?_
      refine AW_callV hT hK 10 [.int p0, .int p1] [] (m_X3_cites l0 σ p0 p1) cw_X3_cites lk_X5_121 vi_X3_cites rfl rfl rfl rfl rfl rfl (Nat.le_of_ble_eq_true rfl) (Nat.le_of_ble_eq_true rfl) (AW_k1 (fun v6 h5 => ?_))
      refine AW_if_ne hT hK 11 (tgt := 32) rfl rfl (fun c7 => ?_) (fun c7 => ?_)
      · refine AW_g hT cl_X5 hK 17 4 (pc' := 38) (lo' := [some (.ref 0), some (.int p0), some (.int p1)]) (st' := [.int p1, .int p0, .ref 25]) (hp' := wd σ) rfl ?_
        refine AW_callV hT hK 21 [.int p0, .int p1] [] (m_X1_countOf l0 σ p0 p1) cw_X1_countOf lk_X5_130 vi_X1_countOf rfl rfl rfl rfl rfl rfl (Nat.le_of_ble_eq_true rfl) (Nat.le_of_ble_eq_true rfl) (AW_k1 (fun v9 h8 => ?_))
        refine AW_iret hT hE 22 rfl rfl rfl (Nat.le_of_ble_eq_true rfl) (Nat.le_of_ble_eq_true rfl) ?_
        subst h8; subst h5; simp only [x_X5_count, hc1, hc3, if_neg c7] at hr; cases hr; exact ⟨rfl, rfl⟩
      · exfalso; subst h5; simp only [x_X5_count, hc1, hc3, if_pos c7] at hr; cases hr
set_option maxRecDepth 100000 in
set_option maxHeartbeats 4000000 in
theorem mx_X5_count (l0 : Launch) (hl0 : l0.stackTraces = false) (σ : az_S) (p0 : Int32) (p1 : Int32) (E0 : String) (hr : x_X5_count σ p0 p1 = .inl E0) : AMetX l0 yX5_count cX5_count 3 (some .int) ({ frames := 7, cells := 1, slots := 6, locals := 103 } : Room) [.ref 0, .int p0, .int p1] (wd σ) (fun _ _ => False) (fun E => E = E0) := by
  refine AMetX_of (by decide +kernel) (by simp [Value.category]) (Nat.le_of_ble_eq_true rfl) (fun K hK hX hE => ?_)
  have hT := tt_X5_count
  refine AW_g hT cl_X5 hK 0 2 (pc' := 2) (lo' := [some (.ref 0), some (.int p0), some (.int p1)]) (st' := [.int p0, .ref 0]) (hp' := wd σ) rfl ?_
  rcases hc110 : x_X5_requirePaper σ p0 with E | v111
  · refine AW_callVX hT hK 2 [.int p0] [] (mx_X5_requirePaper l0 hl0 σ p0 E hc110) cw_X5_requirePaper lk_X5_62 vi_X5_requirePaper rfl rfl rfl rfl rfl rfl (Nat.le_of_ble_eq_true rfl) (Nat.le_of_ble_eq_true rfl) (fun _ _ h9 => h9.elim) (fun E9 h9 => AWX_out hK hX (Nat.le_of_ble_eq_true rfl) (Nat.le_of_ble_eq_true rfl) ?_)
    subst h9; simp only [x_X5_count, hc110] at hr; cases hr; rfl
  · refine AW_callV hT hK 2 [.int p0] [] (m_X5_requirePaper l0 σ p0 v111 hc110) cw_X5_requirePaper lk_X5_62 vi_X5_requirePaper rfl rfl rfl rfl rfl rfl (Nat.le_of_ble_eq_true rfl) (Nat.le_of_ble_eq_true rfl) (AW_kn ?_)
    refine AW_g hT cl_X5 hK 3 2 (pc' := 7) (lo' := [some (.ref 0), some (.int p0), some (.int p1)]) (st' := [.int p1, .ref 0]) (hp' := wd σ) rfl ?_
    rcases hc112 : x_X5_requirePaper σ p1 with E | v113
    · refine AW_callVX hT hK 5 [.int p1] [] (mx_X5_requirePaper l0 hl0 σ p1 E hc112) cw_X5_requirePaper lk_X5_62 vi_X5_requirePaper rfl rfl rfl rfl rfl rfl (Nat.le_of_ble_eq_true rfl) (Nat.le_of_ble_eq_true rfl) (fun _ _ h9 => h9.elim) (fun E9 h9 => AWX_out hK hX (Nat.le_of_ble_eq_true rfl) (Nat.le_of_ble_eq_true rfl) ?_)
      subst h9; simp only [x_X5_count, hc110, hc112] at hr; cases hr; rfl
    · refine AW_callV hT hK 5 [.int p1] [] (m_X5_requirePaper l0 σ p1 v113 hc112) cw_X5_requirePaper lk_X5_62 vi_X5_requirePaper rfl rfl rfl rfl rfl rfl (Nat.le_of_ble_eq_true rfl) (Nat.le_of_ble_eq_true rfl) (AW_kn ?_)
      refine AW_g hT cl_X5 hK 6 4 (pc' := 16) (lo' := [some (.ref 0), some (.int p0), some (.int p1)]) (st' := [.int p1, .int p0, .ref 1]) (hp' := wd σ) rfl ?_
      refine AW_callV hT hK 10 [.int p0, .int p1] [] (m_X3_cites l0 σ p0 p1) cw_X3_cites lk_X5_121 vi_X3_cites rfl rfl rfl rfl rfl rfl (Nat.le_of_ble_eq_true rfl) (Nat.le_of_ble_eq_true rfl) (AW_k1 (fun v115 h114 => ?_))
      refine AW_if_ne hT hK 11 (tgt := 32) rfl rfl (fun c116 => ?_) (fun c116 => ?_)
      · exfalso; subst h114; simp only [x_X5_count, hc110, hc112, if_neg c116] at hr
        first | (cases hr; done) | ((repeat' split at hr) <;> cases hr)
      · subst h114; refine AW_throw hT hK hX hl0 12 (cls := az_NSE) (text := "the paper does not refer to the other one") (ix := 13) (rx := az_r13) az_r13_ok rfl rfl rfl rfl rfl (by decide) (List.mem_of_getElem? (i := 204) (by decide +kernel)) (List.mem_of_getElem? (i := 34) (by decide +kernel)) (by decide) at_129.1 at_129.2 ⟨by decide, by decide⟩ (Nat.le_of_ble_eq_true rfl) (Nat.le_of_ble_eq_true rfl) ?_
        simp only [x_X5_count, hc110, hc112, if_pos c116] at hr; cases hr; rfl
def x_X5_mainAt (σ : az_S) (p0 : Int32) : String ⊕ Int32 :=
  if p0 < 0 then
    .inl az_IOB
  else
    let v3 := x_X1_lengthOfMain σ
    if p0 < v3 then
      let v6 := x_X1_paperOfMain σ p0
      .inr v6
    else
      .inl az_IOB
set_option maxRecDepth 100000 in
set_option maxHeartbeats 4000000 in
theorem m_X5_mainAt (l0 : Launch) (σ : az_S) (p0 : Int32) (rv : Int32) (hr : x_X5_mainAt σ p0 = .inr rv) : AMet l0 yX5_mainAt cX5_mainAt 2 (some .int) ({ frames := 6, cells := 0, slots := 0, locals := 82 } : Room) false [.ref 0, .int p0] (wd σ) (fun r h => r = some (.int rv) ∧ h = wd σ) := by
  refine AMet_of (by decide +kernel) (by simp [Value.category]) (Nat.le_of_ble_eq_true rfl) (fun K hK hct hG hE => ?_)
  have hT := tt_X5_mainAt
  refine AW_g hT cl_X5 hK 0 1 (pc' := 1) (lo' := [some (.ref 0), some (.int p0)]) (st' := [.int p0]) (hp' := wd σ) rfl ?_
  refine AW_if_lt hT hK 1 (tgt := 15) rfl rfl (fun c1 => ?_) (fun c1 => ?_)
  · exfalso; simp only [x_X5_mainAt, if_pos c1] at hr; cases hr
  · refine AW_g hT cl_X5 hK 2 3 (pc' := 9) (lo' := [some (.ref 0), some (.int p0)]) (st' := [.ref 25, .int p0]) (hp' := wd σ) rfl ?_
    refine AW_callV hT hK 5 [] [.int p0] (m_X1_lengthOfMain l0 σ) cw_X1_lengthOfMain lk_X5_136 vi_X1_lengthOfMain rfl rfl rfl rfl rfl rfl (Nat.le_of_ble_eq_true rfl) (Nat.le_of_ble_eq_true rfl) (AW_k1 (fun v3 h2 => ?_))
    refine AW_icmp_lt hT hK 6 (tgt := 25) rfl rfl (fun c4 => ?_) (fun c4 => ?_)
    · refine AW_g hT cl_X5 hK 12 3 (pc' := 30) (lo' := [some (.ref 0), some (.int p0)]) (st' := [.int p0, .ref 25]) (hp' := wd σ) rfl ?_
      refine AW_callV hT hK 15 [.int p0] [] (m_X1_paperOfMain l0 σ p0) cw_X1_paperOfMain lk_X5_144 vi_X1_paperOfMain rfl rfl rfl rfl rfl rfl (Nat.le_of_ble_eq_true rfl) (Nat.le_of_ble_eq_true rfl) (AW_k1 (fun v6 h5 => ?_))
      refine AW_iret hT hE 16 rfl rfl rfl (Nat.le_of_ble_eq_true rfl) (Nat.le_of_ble_eq_true rfl) ?_
      subst h5; subst h2; simp only [x_X5_mainAt, if_neg c1, if_pos c4] at hr; cases hr; exact ⟨rfl, rfl⟩
    · exfalso; subst h2; simp only [x_X5_mainAt, if_neg c1, if_neg c4] at hr; cases hr
set_option maxRecDepth 100000 in
set_option maxHeartbeats 4000000 in
theorem mx_X5_mainAt (l0 : Launch) (hl0 : l0.stackTraces = false) (σ : az_S) (p0 : Int32) (E0 : String) (hr : x_X5_mainAt σ p0 = .inl E0) : AMetX l0 yX5_mainAt cX5_mainAt 2 (some .int) ({ frames := 6, cells := 1, slots := 6, locals := 82 } : Room) [.ref 0, .int p0] (wd σ) (fun _ _ => False) (fun E => E = E0) := by
  refine AMetX_of (by decide +kernel) (by simp [Value.category]) (Nat.le_of_ble_eq_true rfl) (fun K hK hX hE => ?_)
  have hT := tt_X5_mainAt
  refine AW_g hT cl_X5 hK 0 1 (pc' := 1) (lo' := [some (.ref 0), some (.int p0)]) (st' := [.int p0]) (hp' := wd σ) rfl ?_
  refine AW_if_lt hT hK 1 (tgt := 15) rfl rfl (fun c107 => ?_) (fun c107 => ?_)
  · refine AW_throw hT hK hX hl0 7 (cls := az_IOB) (text := "the main way has no such place") (ix := 7) (rx := az_r7) az_r7_ok rfl rfl rfl rfl rfl (by decide) (List.mem_of_getElem? (i := 625) (by decide +kernel)) (List.mem_of_getElem? (i := 37) (by decide +kernel)) (by decide) at_143.1 at_143.2 ⟨by decide, by decide⟩ (Nat.le_of_ble_eq_true rfl) (Nat.le_of_ble_eq_true rfl) ?_
    simp only [x_X5_mainAt, if_pos c107] at hr; cases hr; rfl
  · refine AW_g hT cl_X5 hK 2 3 (pc' := 9) (lo' := [some (.ref 0), some (.int p0)]) (st' := [.ref 25, .int p0]) (hp' := wd σ) rfl ?_
    refine AW_callV hT hK 5 [] [.int p0] (m_X1_lengthOfMain l0 σ) cw_X1_lengthOfMain lk_X5_136 vi_X1_lengthOfMain rfl rfl rfl rfl rfl rfl (Nat.le_of_ble_eq_true rfl) (Nat.le_of_ble_eq_true rfl) (AW_k1 (fun v109 h108 => ?_))
    refine AW_icmp_lt hT hK 6 (tgt := 25) rfl rfl (fun c110 => ?_) (fun c110 => ?_)
    · exfalso; subst h108; simp only [x_X5_mainAt, if_neg c107, if_pos c110] at hr
      first | (cases hr; done) | ((repeat' split at hr) <;> cases hr)
    · subst h108; refine AW_throw hT hK hX hl0 7 (cls := az_IOB) (text := "the main way has no such place") (ix := 7) (rx := az_r7) az_r7_ok rfl rfl rfl rfl rfl (by decide) (List.mem_of_getElem? (i := 625) (by decide +kernel)) (List.mem_of_getElem? (i := 37) (by decide +kernel)) (by decide) at_143.1 at_143.2 ⟨by decide, by decide⟩ (Nat.le_of_ble_eq_true rfl) (Nat.le_of_ble_eq_true rfl) ?_
      simp only [x_X5_mainAt, if_neg c107, if_neg c110] at hr; cases hr; rfl
def x_X5_rise (σ : az_S) (p0 : Int32) (p1 : Int32) : String ⊕ Int32 :=
  match x_X5_requirePaper σ p0 with
  | .inl E => .inl E
  | .inr _ =>
    match x_X5_requireYear σ p1 with
    | .inl E => .inl E
    | .inr _ =>
      let v6 := x_X3_riseOf σ p0 p1
      .inr v6
set_option maxRecDepth 100000 in
set_option maxHeartbeats 4000000 in
theorem m_X5_rise (l0 : Launch) (σ : az_S) (p0 : Int32) (p1 : Int32) (rv : Int32) (hr : x_X5_rise σ p0 p1 = .inr rv) : AMet l0 yX5_rise cX5_rise 3 (some .int) ({ frames := 7, cells := 0, slots := 0, locals := 103 } : Room) false [.ref 0, .int p0, .int p1] (wd σ) (fun r h => r = some (.int rv) ∧ h = wd σ) := by
  refine AMet_of (by decide +kernel) (by simp [Value.category]) (Nat.le_of_ble_eq_true rfl) (fun K hK hct hG hE => ?_)
  have hT := tt_X5_rise
  refine AW_g hT cl_X5 hK 0 2 (pc' := 2) (lo' := [some (.ref 0), some (.int p0), some (.int p1)]) (st' := [.int p0, .ref 0]) (hp' := wd σ) rfl ?_
  rcases hc1 : x_X5_requirePaper σ p0 with E | v2
  · exfalso; simp only [x_X5_rise, hc1] at hr; cases hr
  · refine AW_callV hT hK 2 [.int p0] [] (m_X5_requirePaper l0 σ p0 v2 hc1) cw_X5_requirePaper lk_X5_62 vi_X5_requirePaper rfl rfl rfl rfl rfl rfl (Nat.le_of_ble_eq_true rfl) (Nat.le_of_ble_eq_true rfl) (AW_kn ?_)
    refine AW_g hT cl_X5 hK 3 1 (pc' := 6) (lo' := [some (.ref 0), some (.int p0), some (.int p1)]) (st' := [.int p1]) (hp' := wd σ) rfl ?_
    rcases hc3 : x_X5_requireYear σ p1 with E | v4
    · exfalso; simp only [x_X5_rise, hc1, hc3] at hr; cases hr
    · refine AW_callS hT hK 4 [.int p1] [] (m_X5_requireYear l0 σ p1 v4 hc3) cw_X5_requireYear lk_X5_150 sm_X5_requireYear rfl rfl rfl rfl (Nat.le_of_ble_eq_true rfl) (Nat.le_of_ble_eq_true rfl) (AW_kn ?_)
      refine AW_g hT cl_X5 hK 5 4 (pc' := 15) (lo' := [some (.ref 0), some (.int p0), some (.int p1)]) (st' := [.int p1, .int p0, .ref 1]) (hp' := wd σ) rfl ?_
      refine AW_callV hT hK 9 [.int p0, .int p1] [] (m_X3_riseOf l0 σ p0 p1) cw_X3_riseOf lk_X5_153 vi_X3_riseOf rfl rfl rfl rfl rfl rfl (Nat.le_of_ble_eq_true rfl) (Nat.le_of_ble_eq_true rfl) (AW_k1 (fun v6 h5 => ?_))
      refine AW_iret hT hE 10 rfl rfl rfl (Nat.le_of_ble_eq_true rfl) (Nat.le_of_ble_eq_true rfl) ?_
      subst h5; simp only [x_X5_rise, hc1, hc3] at hr; cases hr; exact ⟨rfl, rfl⟩
set_option maxRecDepth 100000 in
set_option maxHeartbeats 4000000 in
theorem mx_X5_rise (l0 : Launch) (hl0 : l0.stackTraces = false) (σ : az_S) (p0 : Int32) (p1 : Int32) (E0 : String) (hr : x_X5_rise σ p0 p1 = .inl E0) : AMetX l0 yX5_rise cX5_rise 3 (some .int) ({ frames := 7, cells := 1, slots := 6, locals := 103 } : Room) [.ref 0, .int p0, .int p1] (wd σ) (fun _ _ => False) (fun E => E = E0) := by
  refine AMetX_of (by decide +kernel) (by simp [Value.category]) (Nat.le_of_ble_eq_true rfl) (fun K hK hX hE => ?_)
  have hT := tt_X5_rise
  refine AW_g hT cl_X5 hK 0 2 (pc' := 2) (lo' := [some (.ref 0), some (.int p0), some (.int p1)]) (st' := [.int p0, .ref 0]) (hp' := wd σ) rfl ?_
  rcases hc107 : x_X5_requirePaper σ p0 with E | v108
  · refine AW_callVX hT hK 2 [.int p0] [] (mx_X5_requirePaper l0 hl0 σ p0 E hc107) cw_X5_requirePaper lk_X5_62 vi_X5_requirePaper rfl rfl rfl rfl rfl rfl (Nat.le_of_ble_eq_true rfl) (Nat.le_of_ble_eq_true rfl) (fun _ _ h9 => h9.elim) (fun E9 h9 => AWX_out hK hX (Nat.le_of_ble_eq_true rfl) (Nat.le_of_ble_eq_true rfl) ?_)
    subst h9; simp only [x_X5_rise, hc107] at hr; cases hr; rfl
  · refine AW_callV hT hK 2 [.int p0] [] (m_X5_requirePaper l0 σ p0 v108 hc107) cw_X5_requirePaper lk_X5_62 vi_X5_requirePaper rfl rfl rfl rfl rfl rfl (Nat.le_of_ble_eq_true rfl) (Nat.le_of_ble_eq_true rfl) (AW_kn ?_)
    refine AW_g hT cl_X5 hK 3 1 (pc' := 6) (lo' := [some (.ref 0), some (.int p0), some (.int p1)]) (st' := [.int p1]) (hp' := wd σ) rfl ?_
    rcases hc109 : x_X5_requireYear σ p1 with E | v110
    · refine AW_callSX hT hK 4 [.int p1] [] (mx_X5_requireYear l0 hl0 σ p1 E hc109) cw_X5_requireYear lk_X5_150 sm_X5_requireYear rfl rfl rfl rfl (Nat.le_of_ble_eq_true rfl) (Nat.le_of_ble_eq_true rfl) (fun _ _ h9 => h9.elim) (fun E9 h9 => AWX_out hK hX (Nat.le_of_ble_eq_true rfl) (Nat.le_of_ble_eq_true rfl) ?_)
      subst h9; simp only [x_X5_rise, hc107, hc109] at hr; cases hr; rfl
    · refine AW_callS hT hK 4 [.int p1] [] (m_X5_requireYear l0 σ p1 v110 hc109) cw_X5_requireYear lk_X5_150 sm_X5_requireYear rfl rfl rfl rfl (Nat.le_of_ble_eq_true rfl) (Nat.le_of_ble_eq_true rfl) (AW_kn ?_)
      exfalso; simp only [x_X5_rise, hc107, hc109] at hr
      first | (cases hr; done) | ((repeat' split at hr) <;> cases hr)
def b_X5_riser_11 (σ : az_S) (d1 : Int32) (i : Nat) (w2 : Int32) (w3 : Int32) : Int32 × Int32 :=
  let v5 := x_X3_has σ (nI i)
  if v5 = 0 then
    (w2, w3)
  else
    let v8 := x_X3_riseOf σ (nI i) d1
    if w2 = (-1) then
      ((nI i), v8)
    else
      if v8 ≤ w3 then
        (w2, w3)
      else
        ((nI i), v8)
set_option maxRecDepth 100000 in
set_option maxHeartbeats 4000000 in
theorem lp_X5_riser_11 {K : az_K} {l0 : Launch} (hT : az_Tb cX5_riser tb_X5_riser) (hK : az_OK K RX5 cX5_riser ({ frames := 7, cells := 0, slots := 0, locals := 102 } : Room) l0) (σ : az_S) (d1 : Int32) :
    ∀ (n i : Nat) (w2 : Int32) (w3 : Int32) (hi : i + n = 12) (kx : ∀ s' : Int32 × Int32, az_it (fun ι s => b_X5_riser_11 σ d1 ι s.1 s.2) n i (w2, w3) = s' → AW K 0 0 65 [some (.ref 0), some (.int d1), some (.int s'.1), some (.int s'.2), none, none] [] (wd σ)), AW K 0 0 11 [some (.ref 0), some (.int d1), some (.int w2), some (.int w3), some (.int (nI i)), none] [] (wd σ) := by
  intro n
  induction n with
  | zero =>
    intro i w2 w3 hi kx
    refine AW_g hT cl_X5 hK 8 2 (pc' := 15) (lo' := [some (.ref 0), some (.int d1), some (.int w2), some (.int w3), some (.int (nI i)), none]) (st' := [.int 12, .int (nI i)]) (hp' := wd σ) rfl ?_
    refine AW_icmp_ge hT hK 10 (tgt := 65) rfl rfl (fun c11 => ?_) (fun c11 => absurd (az_c0 hi) c11)
    refine AW_msk [true, true, true, true, false, false] (lo' := [some (.ref 0), some (.int d1), some (.int w2), some (.int w3), none, none]) rfl ?_
    exact kx (w2, w3) rfl
  | succ n ih =>
    intro i w2 w3 hi kx
    refine AW_g hT cl_X5 hK 8 2 (pc' := 15) (lo' := [some (.ref 0), some (.int d1), some (.int w2), some (.int w3), some (.int (nI i)), none]) (st' := [.int 12, .int (nI i)]) (hp' := wd σ) rfl ?_
    refine AW_icmp_ge hT hK 10 (tgt := 65) rfl rfl (fun c3 => absurd c3 (az_c1 hi)) (fun c3 => ?_)
    refine AW_g hT cl_X5 hK 11 3 (pc' := 24) (lo' := [some (.ref 0), some (.int d1), some (.int w2), some (.int w3), some (.int (nI i)), none]) (st' := [.int (nI i), .ref 1]) (hp' := wd σ) rfl ?_
    refine AW_callV hT hK 14 [.int (nI i)] [] (m_X3_has l0 σ (nI i)) cw_X3_has lk_X5_156 vi_X3_has rfl rfl rfl rfl rfl rfl (Nat.le_of_ble_eq_true rfl) (Nat.le_of_ble_eq_true rfl) (AW_k1 (fun v5 h4 => ?_))
    refine AW_if_eq hT hK 15 (tgt := 59) rfl rfl (fun c6 => ?_) (fun c6 => ?_)
    · refine AW_g hT cl_X5 hK 32 1 (pc' := 62) (lo' := [some (.ref 0), some (.int d1), some (.int w2), some (.int w3), some (.int ((nI i) + 1)), none]) (st' := []) (hp' := wd σ) rfl ?_
      refine AW_goto hT hK 33 (tgt := 11) rfl rfl ?_
      refine AW_to (lo' := [some (.ref 0), some (.int d1), some (.int w2), some (.int w3), some (.int (nI (i + 1))), none]) (by rw [nI_1]) rfl rfl ?_
      subst h4; skip
      exact ih (i + 1) _ _ (by omega) (fun s' hs' => kx s' ((congrArg (az_it _ n (i + 1)) (by simp only [b_X5_riser_11, if_pos c6])).trans hs'))
    · refine AW_g hT cl_X5 hK 16 4 (pc' := 37) (lo' := [some (.ref 0), some (.int d1), some (.int w2), some (.int w3), some (.int (nI i)), none]) (st' := [.int d1, .int (nI i), .ref 1]) (hp' := wd σ) rfl ?_
      refine AW_callV hT hK 20 [.int (nI i), .int d1] [] (m_X3_riseOf l0 σ (nI i) d1) cw_X3_riseOf lk_X5_153 vi_X3_riseOf rfl rfl rfl rfl rfl rfl (Nat.le_of_ble_eq_true rfl) (Nat.le_of_ble_eq_true rfl) (AW_k1 (fun v8 h7 => ?_))
      refine AW_g hT cl_X5 hK 21 3 (pc' := 44) (lo' := [some (.ref 0), some (.int d1), some (.int w2), some (.int w3), some (.int (nI i)), some (.int v8)]) (st' := [.int (-1), .int w2]) (hp' := wd σ) rfl ?_
      refine AW_icmp_eq hT hK 24 (tgt := 53) rfl rfl (fun c9 => ?_) (fun c9 => ?_)
      · refine AW_g hT cl_X5 hK 28 5 (pc' := 62) (lo' := [some (.ref 0), some (.int d1), some (.int (nI i)), some (.int v8), some (.int ((nI i) + 1)), some (.int v8)]) (st' := []) (hp' := wd σ) rfl ?_
        refine AW_goto hT hK 33 (tgt := 11) rfl rfl ?_
        refine AW_msk [true, true, true, true, true, false] (lo' := [some (.ref 0), some (.int d1), some (.int (nI i)), some (.int v8), some (.int ((nI i) + 1)), none]) rfl ?_
        refine AW_to (lo' := [some (.ref 0), some (.int d1), some (.int (nI i)), some (.int v8), some (.int (nI (i + 1))), none]) (by rw [nI_1]) rfl rfl ?_
        subst h7; subst h4; skip
        exact ih (i + 1) _ _ (by omega) (fun s' hs' => kx s' ((congrArg (az_it _ n (i + 1)) (by simp only [b_X5_riser_11, if_neg c6, if_pos c9])).trans hs'))
      · refine AW_g hT cl_X5 hK 25 2 (pc' := 50) (lo' := [some (.ref 0), some (.int d1), some (.int w2), some (.int w3), some (.int (nI i)), some (.int v8)]) (st' := [.int w3, .int v8]) (hp' := wd σ) rfl ?_
        refine AW_icmp_le hT hK 27 (tgt := 59) rfl rfl (fun c10 => ?_) (fun c10 => ?_)
        · refine AW_g hT cl_X5 hK 32 1 (pc' := 62) (lo' := [some (.ref 0), some (.int d1), some (.int w2), some (.int w3), some (.int ((nI i) + 1)), some (.int v8)]) (st' := []) (hp' := wd σ) rfl ?_
          refine AW_goto hT hK 33 (tgt := 11) rfl rfl ?_
          refine AW_msk [true, true, true, true, true, false] (lo' := [some (.ref 0), some (.int d1), some (.int w2), some (.int w3), some (.int ((nI i) + 1)), none]) rfl ?_
          refine AW_to (lo' := [some (.ref 0), some (.int d1), some (.int w2), some (.int w3), some (.int (nI (i + 1))), none]) (by rw [nI_1]) rfl rfl ?_
          subst h7; subst h4; skip
          exact ih (i + 1) _ _ (by omega) (fun s' hs' => kx s' ((congrArg (az_it _ n (i + 1)) (by simp only [b_X5_riser_11, if_neg c6, if_neg c9, if_pos c10])).trans hs'))
        · refine AW_g hT cl_X5 hK 28 5 (pc' := 62) (lo' := [some (.ref 0), some (.int d1), some (.int (nI i)), some (.int v8), some (.int ((nI i) + 1)), some (.int v8)]) (st' := []) (hp' := wd σ) rfl ?_
          refine AW_goto hT hK 33 (tgt := 11) rfl rfl ?_
          refine AW_msk [true, true, true, true, true, false] (lo' := [some (.ref 0), some (.int d1), some (.int (nI i)), some (.int v8), some (.int ((nI i) + 1)), none]) rfl ?_
          refine AW_to (lo' := [some (.ref 0), some (.int d1), some (.int (nI i)), some (.int v8), some (.int (nI (i + 1))), none]) (by rw [nI_1]) rfl rfl ?_
          subst h7; subst h4; skip
          exact ih (i + 1) _ _ (by omega) (fun s' hs' => kx s' ((congrArg (az_it _ n (i + 1)) (by simp only [b_X5_riser_11, if_neg c6, if_neg c9, if_neg c10])).trans hs'))
def x_X5_riser (σ : az_S) (p0 : Int32) : String ⊕ Int32 :=
  match x_X5_requireYear σ p0 with
  | .inl E => .inl E
  | .inr _ =>
    let s12 := az_it (fun ι s => b_X5_riser_11 σ p0 ι s.1 s.2) 12 0 ((-1), 0)
    .inr s12.1
set_option maxRecDepth 100000 in
set_option maxHeartbeats 4000000 in
theorem m_X5_riser (l0 : Launch) (σ : az_S) (p0 : Int32) (rv : Int32) (hr : x_X5_riser σ p0 = .inr rv) : AMet l0 yX5_riser cX5_riser 6 (some .int) ({ frames := 7, cells := 0, slots := 0, locals := 102 } : Room) false [.ref 0, .int p0] (wd σ) (fun r h => r = some (.int rv) ∧ h = wd σ) := by
  refine AMet_of (by decide +kernel) (by simp [Value.category]) (Nat.le_of_ble_eq_true rfl) (fun K hK hct hG hE => ?_)
  have hT := tt_X5_riser
  refine AW_g hT cl_X5 hK 0 1 (pc' := 1) (lo' := [some (.ref 0), some (.int p0), none, none, none, none]) (st' := [.int p0]) (hp' := wd σ) rfl ?_
  rcases hc1 : x_X5_requireYear σ p0 with E | v2
  · exfalso; simp only [x_X5_riser, hc1] at hr; cases hr
  · refine AW_callS hT hK 1 [.int p0] [] (m_X5_requireYear l0 σ p0 v2 hc1) cw_X5_requireYear lk_X5_150 sm_X5_requireYear rfl rfl rfl rfl (Nat.le_of_ble_eq_true rfl) (Nat.le_of_ble_eq_true rfl) (AW_kn ?_)
    refine AW_g hT cl_X5 hK 2 6 (pc' := 11) (lo' := [some (.ref 0), some (.int p0), some (.int (-1)), some (.int 0), some (.int 0), none]) (st' := []) (hp' := wd σ) rfl ?_
    refine AW_to (lo' := [some (.ref 0), some (.int p0), some (.int (-1)), some (.int 0), some (.int (nI 0)), none]) (rfl) rfl rfl ?_
    refine lp_X5_riser_11 hT hK σ p0 12 0 (-1) 0 (by first | rfl | omega) (fun s12 h13 => ?_)
    refine AW_g hT cl_X5 hK 34 1 (pc' := 66) (lo' := [some (.ref 0), some (.int p0), some (.int s12.1), some (.int s12.2), none, none]) (st' := [.int s12.1]) (hp' := wd σ) rfl ?_
    refine AW_iret hT hE 35 rfl rfl rfl (Nat.le_of_ble_eq_true rfl) (Nat.le_of_ble_eq_true rfl) ?_
    subst h13; simp only [x_X5_riser, hc1] at hr; cases hr; exact ⟨rfl, rfl⟩
set_option maxRecDepth 100000 in
set_option maxHeartbeats 4000000 in
theorem mx_X5_riser (l0 : Launch) (hl0 : l0.stackTraces = false) (σ : az_S) (p0 : Int32) (E0 : String) (hr : x_X5_riser σ p0 = .inl E0) : AMetX l0 yX5_riser cX5_riser 6 (some .int) ({ frames := 7, cells := 1, slots := 6, locals := 102 } : Room) [.ref 0, .int p0] (wd σ) (fun _ _ => False) (fun E => E = E0) := by
  refine AMetX_of (by decide +kernel) (by simp [Value.category]) (Nat.le_of_ble_eq_true rfl) (fun K hK hX hE => ?_)
  have hT := tt_X5_riser
  refine AW_g hT cl_X5 hK 0 1 (pc' := 1) (lo' := [some (.ref 0), some (.int p0), none, none, none, none]) (st' := [.int p0]) (hp' := wd σ) rfl ?_
  rcases hc114 : x_X5_requireYear σ p0 with E | v115
  · refine AW_callSX hT hK 1 [.int p0] [] (mx_X5_requireYear l0 hl0 σ p0 E hc114) cw_X5_requireYear lk_X5_150 sm_X5_requireYear rfl rfl rfl rfl (Nat.le_of_ble_eq_true rfl) (Nat.le_of_ble_eq_true rfl) (fun _ _ h9 => h9.elim) (fun E9 h9 => AWX_out hK hX (Nat.le_of_ble_eq_true rfl) (Nat.le_of_ble_eq_true rfl) ?_)
    subst h9; simp only [x_X5_riser, hc114] at hr; cases hr; rfl
  · refine AW_callS hT hK 1 [.int p0] [] (m_X5_requireYear l0 σ p0 v115 hc114) cw_X5_requireYear lk_X5_150 sm_X5_requireYear rfl rfl rfl rfl (Nat.le_of_ble_eq_true rfl) (Nat.le_of_ble_eq_true rfl) (AW_kn ?_)
    exfalso; simp only [x_X5_riser, hc114] at hr
    first | (cases hr; done) | ((repeat' split at hr) <;> cases hr)
def b_X5_heir_12 (σ : az_S) (d1 : Int32) (i : Nat) (w2 : Int32) (w3 : Int32) : Int32 × Int32 :=
  let v5 := x_X3_cites σ (nI i) d1
  if v5 = 0 then
    (w2, w3)
  else
    let v8 := x_X3_sharedOf σ d1 (nI i)
    if w2 = (-1) then
      ((nI i), v8)
    else
      if v8 ≤ w3 then
        (w2, w3)
      else
        ((nI i), v8)
set_option maxRecDepth 100000 in
set_option maxHeartbeats 4000000 in
theorem lp_X5_heir_12 {K : az_K} {l0 : Launch} (hT : az_Tb cX5_heir tb_X5_heir) (hK : az_OK K RX5 cX5_heir ({ frames := 7, cells := 0, slots := 0, locals := 103 } : Room) l0) (σ : az_S) (d1 : Int32) :
    ∀ (n i : Nat) (w2 : Int32) (w3 : Int32) (hi : i + n = 12) (kx : ∀ s' : Int32 × Int32, az_it (fun ι s => b_X5_heir_12 σ d1 ι s.1 s.2) n i (w2, w3) = s' → AW K 0 0 67 [some (.ref 0), some (.int d1), some (.int s'.1), some (.int s'.2), none, none] [] (wd σ)), AW K 0 0 12 [some (.ref 0), some (.int d1), some (.int w2), some (.int w3), some (.int (nI i)), none] [] (wd σ) := by
  intro n
  induction n with
  | zero =>
    intro i w2 w3 hi kx
    refine AW_g hT cl_X5 hK 9 2 (pc' := 16) (lo' := [some (.ref 0), some (.int d1), some (.int w2), some (.int w3), some (.int (nI i)), none]) (st' := [.int 12, .int (nI i)]) (hp' := wd σ) rfl ?_
    refine AW_icmp_ge hT hK 11 (tgt := 67) rfl rfl (fun c11 => ?_) (fun c11 => absurd (az_c0 hi) c11)
    refine AW_msk [true, true, true, true, false, false] (lo' := [some (.ref 0), some (.int d1), some (.int w2), some (.int w3), none, none]) rfl ?_
    exact kx (w2, w3) rfl
  | succ n ih =>
    intro i w2 w3 hi kx
    refine AW_g hT cl_X5 hK 9 2 (pc' := 16) (lo' := [some (.ref 0), some (.int d1), some (.int w2), some (.int w3), some (.int (nI i)), none]) (st' := [.int 12, .int (nI i)]) (hp' := wd σ) rfl ?_
    refine AW_icmp_ge hT hK 11 (tgt := 67) rfl rfl (fun c3 => absurd c3 (az_c1 hi)) (fun c3 => ?_)
    refine AW_g hT cl_X5 hK 12 4 (pc' := 26) (lo' := [some (.ref 0), some (.int d1), some (.int w2), some (.int w3), some (.int (nI i)), none]) (st' := [.int d1, .int (nI i), .ref 1]) (hp' := wd σ) rfl ?_
    refine AW_callV hT hK 16 [.int (nI i), .int d1] [] (m_X3_cites l0 σ (nI i) d1) cw_X3_cites lk_X5_121 vi_X3_cites rfl rfl rfl rfl rfl rfl (Nat.le_of_ble_eq_true rfl) (Nat.le_of_ble_eq_true rfl) (AW_k1 (fun v5 h4 => ?_))
    refine AW_if_eq hT hK 17 (tgt := 61) rfl rfl (fun c6 => ?_) (fun c6 => ?_)
    · refine AW_g hT cl_X5 hK 34 1 (pc' := 64) (lo' := [some (.ref 0), some (.int d1), some (.int w2), some (.int w3), some (.int ((nI i) + 1)), none]) (st' := []) (hp' := wd σ) rfl ?_
      refine AW_goto hT hK 35 (tgt := 12) rfl rfl ?_
      refine AW_to (lo' := [some (.ref 0), some (.int d1), some (.int w2), some (.int w3), some (.int (nI (i + 1))), none]) (by rw [nI_1]) rfl rfl ?_
      subst h4; skip
      exact ih (i + 1) _ _ (by omega) (fun s' hs' => kx s' ((congrArg (az_it _ n (i + 1)) (by simp only [b_X5_heir_12, if_pos c6])).trans hs'))
    · refine AW_g hT cl_X5 hK 18 4 (pc' := 39) (lo' := [some (.ref 0), some (.int d1), some (.int w2), some (.int w3), some (.int (nI i)), none]) (st' := [.int (nI i), .int d1, .ref 1]) (hp' := wd σ) rfl ?_
      refine AW_callV hT hK 22 [.int d1, .int (nI i)] [] (m_X3_sharedOf l0 σ d1 (nI i)) cw_X3_sharedOf lk_X5_85 vi_X3_sharedOf rfl rfl rfl rfl rfl rfl (Nat.le_of_ble_eq_true rfl) (Nat.le_of_ble_eq_true rfl) (AW_k1 (fun v8 h7 => ?_))
      refine AW_g hT cl_X5 hK 23 3 (pc' := 46) (lo' := [some (.ref 0), some (.int d1), some (.int w2), some (.int w3), some (.int (nI i)), some (.int v8)]) (st' := [.int (-1), .int w2]) (hp' := wd σ) rfl ?_
      refine AW_icmp_eq hT hK 26 (tgt := 55) rfl rfl (fun c9 => ?_) (fun c9 => ?_)
      · refine AW_g hT cl_X5 hK 30 5 (pc' := 64) (lo' := [some (.ref 0), some (.int d1), some (.int (nI i)), some (.int v8), some (.int ((nI i) + 1)), some (.int v8)]) (st' := []) (hp' := wd σ) rfl ?_
        refine AW_goto hT hK 35 (tgt := 12) rfl rfl ?_
        refine AW_msk [true, true, true, true, true, false] (lo' := [some (.ref 0), some (.int d1), some (.int (nI i)), some (.int v8), some (.int ((nI i) + 1)), none]) rfl ?_
        refine AW_to (lo' := [some (.ref 0), some (.int d1), some (.int (nI i)), some (.int v8), some (.int (nI (i + 1))), none]) (by rw [nI_1]) rfl rfl ?_
        subst h7; subst h4; skip
        exact ih (i + 1) _ _ (by omega) (fun s' hs' => kx s' ((congrArg (az_it _ n (i + 1)) (by simp only [b_X5_heir_12, if_neg c6, if_pos c9])).trans hs'))
      · refine AW_g hT cl_X5 hK 27 2 (pc' := 52) (lo' := [some (.ref 0), some (.int d1), some (.int w2), some (.int w3), some (.int (nI i)), some (.int v8)]) (st' := [.int w3, .int v8]) (hp' := wd σ) rfl ?_
        refine AW_icmp_le hT hK 29 (tgt := 61) rfl rfl (fun c10 => ?_) (fun c10 => ?_)
        · refine AW_g hT cl_X5 hK 34 1 (pc' := 64) (lo' := [some (.ref 0), some (.int d1), some (.int w2), some (.int w3), some (.int ((nI i) + 1)), some (.int v8)]) (st' := []) (hp' := wd σ) rfl ?_
          refine AW_goto hT hK 35 (tgt := 12) rfl rfl ?_
          refine AW_msk [true, true, true, true, true, false] (lo' := [some (.ref 0), some (.int d1), some (.int w2), some (.int w3), some (.int ((nI i) + 1)), none]) rfl ?_
          refine AW_to (lo' := [some (.ref 0), some (.int d1), some (.int w2), some (.int w3), some (.int (nI (i + 1))), none]) (by rw [nI_1]) rfl rfl ?_
          subst h7; subst h4; skip
          exact ih (i + 1) _ _ (by omega) (fun s' hs' => kx s' ((congrArg (az_it _ n (i + 1)) (by simp only [b_X5_heir_12, if_neg c6, if_neg c9, if_pos c10])).trans hs'))
        · refine AW_g hT cl_X5 hK 30 5 (pc' := 64) (lo' := [some (.ref 0), some (.int d1), some (.int (nI i)), some (.int v8), some (.int ((nI i) + 1)), some (.int v8)]) (st' := []) (hp' := wd σ) rfl ?_
          refine AW_goto hT hK 35 (tgt := 12) rfl rfl ?_
          refine AW_msk [true, true, true, true, true, false] (lo' := [some (.ref 0), some (.int d1), some (.int (nI i)), some (.int v8), some (.int ((nI i) + 1)), none]) rfl ?_
          refine AW_to (lo' := [some (.ref 0), some (.int d1), some (.int (nI i)), some (.int v8), some (.int (nI (i + 1))), none]) (by rw [nI_1]) rfl rfl ?_
          subst h7; subst h4; skip
          exact ih (i + 1) _ _ (by omega) (fun s' hs' => kx s' ((congrArg (az_it _ n (i + 1)) (by simp only [b_X5_heir_12, if_neg c6, if_neg c9, if_neg c10])).trans hs'))
def x_X5_heir (σ : az_S) (p0 : Int32) : String ⊕ Int32 :=
  match x_X5_requirePaper σ p0 with
  | .inl E => .inl E
  | .inr _ =>
    let s12 := az_it (fun ι s => b_X5_heir_12 σ p0 ι s.1 s.2) 12 0 ((-1), 0)
    .inr s12.1
set_option maxRecDepth 100000 in
set_option maxHeartbeats 4000000 in
theorem m_X5_heir (l0 : Launch) (σ : az_S) (p0 : Int32) (rv : Int32) (hr : x_X5_heir σ p0 = .inr rv) : AMet l0 yX5_heir cX5_heir 6 (some .int) ({ frames := 7, cells := 0, slots := 0, locals := 103 } : Room) false [.ref 0, .int p0] (wd σ) (fun r h => r = some (.int rv) ∧ h = wd σ) := by
  refine AMet_of (by decide +kernel) (by simp [Value.category]) (Nat.le_of_ble_eq_true rfl) (fun K hK hct hG hE => ?_)
  have hT := tt_X5_heir
  refine AW_g hT cl_X5 hK 0 2 (pc' := 2) (lo' := [some (.ref 0), some (.int p0), none, none, none, none]) (st' := [.int p0, .ref 0]) (hp' := wd σ) rfl ?_
  rcases hc1 : x_X5_requirePaper σ p0 with E | v2
  · exfalso; simp only [x_X5_heir, hc1] at hr; cases hr
  · refine AW_callV hT hK 2 [.int p0] [] (m_X5_requirePaper l0 σ p0 v2 hc1) cw_X5_requirePaper lk_X5_62 vi_X5_requirePaper rfl rfl rfl rfl rfl rfl (Nat.le_of_ble_eq_true rfl) (Nat.le_of_ble_eq_true rfl) (AW_kn ?_)
    refine AW_g hT cl_X5 hK 3 6 (pc' := 12) (lo' := [some (.ref 0), some (.int p0), some (.int (-1)), some (.int 0), some (.int 0), none]) (st' := []) (hp' := wd σ) rfl ?_
    refine AW_to (lo' := [some (.ref 0), some (.int p0), some (.int (-1)), some (.int 0), some (.int (nI 0)), none]) (rfl) rfl rfl ?_
    refine lp_X5_heir_12 hT hK σ p0 12 0 (-1) 0 (by first | rfl | omega) (fun s12 h13 => ?_)
    refine AW_g hT cl_X5 hK 36 1 (pc' := 68) (lo' := [some (.ref 0), some (.int p0), some (.int s12.1), some (.int s12.2), none, none]) (st' := [.int s12.1]) (hp' := wd σ) rfl ?_
    refine AW_iret hT hE 37 rfl rfl rfl (Nat.le_of_ble_eq_true rfl) (Nat.le_of_ble_eq_true rfl) ?_
    subst h13; simp only [x_X5_heir, hc1] at hr; cases hr; exact ⟨rfl, rfl⟩
set_option maxRecDepth 100000 in
set_option maxHeartbeats 4000000 in
theorem mx_X5_heir (l0 : Launch) (hl0 : l0.stackTraces = false) (σ : az_S) (p0 : Int32) (E0 : String) (hr : x_X5_heir σ p0 = .inl E0) : AMetX l0 yX5_heir cX5_heir 6 (some .int) ({ frames := 7, cells := 1, slots := 6, locals := 103 } : Room) [.ref 0, .int p0] (wd σ) (fun _ _ => False) (fun E => E = E0) := by
  refine AMetX_of (by decide +kernel) (by simp [Value.category]) (Nat.le_of_ble_eq_true rfl) (fun K hK hX hE => ?_)
  have hT := tt_X5_heir
  refine AW_g hT cl_X5 hK 0 2 (pc' := 2) (lo' := [some (.ref 0), some (.int p0), none, none, none, none]) (st' := [.int p0, .ref 0]) (hp' := wd σ) rfl ?_
  rcases hc114 : x_X5_requirePaper σ p0 with E | v115
  · refine AW_callVX hT hK 2 [.int p0] [] (mx_X5_requirePaper l0 hl0 σ p0 E hc114) cw_X5_requirePaper lk_X5_62 vi_X5_requirePaper rfl rfl rfl rfl rfl rfl (Nat.le_of_ble_eq_true rfl) (Nat.le_of_ble_eq_true rfl) (fun _ _ h9 => h9.elim) (fun E9 h9 => AWX_out hK hX (Nat.le_of_ble_eq_true rfl) (Nat.le_of_ble_eq_true rfl) ?_)
    subst h9; simp only [x_X5_heir, hc114] at hr; cases hr; rfl
  · refine AW_callV hT hK 2 [.int p0] [] (m_X5_requirePaper l0 σ p0 v115 hc114) cw_X5_requirePaper lk_X5_62 vi_X5_requirePaper rfl rfl rfl rfl rfl rfl (Nat.le_of_ble_eq_true rfl) (Nat.le_of_ble_eq_true rfl) (AW_kn ?_)
    exfalso; simp only [x_X5_heir, hc114] at hr
    first | (cases hr; done) | ((repeat' split at hr) <;> cases hr)
def x_X5_come (σ : az_S) (p0 : Int32) (p1 : Int32) : String ⊕ (Int32 × az_S) :=
  let v2 := x_X3_takesYear σ p0
  if v2 = 0 then
    .inl az_IAE
  else
    let v5 := x_X3_hasAll σ p1
    if v5 = 0 then
      .inl az_IAE
    else
      let v8 := x_X3_isFull σ
      if v8 = 0 then
        let q11 := x_X3_put σ p0 p1
        let τ13 := x_X5_mapAnew q11.2
        .inr (q11.1, τ13)
      else
        .inl az_ISE
set_option maxRecDepth 100000 in
set_option maxHeartbeats 4000000 in
theorem m_X5_come (l0 : Launch) (σ : az_S) (p0 : Int32) (p1 : Int32) (rv : (Int32 × az_S)) (hr : x_X5_come σ p0 p1 = .inr rv) : AMet l0 yX5_come cX5_come 4 (some .int) ({ frames := 6, cells := 0, slots := 0, locals := 144 } : Room) false [.ref 0, .int p0, .int p1] (wd σ) (fun r h => r = some (.int rv.1) ∧ h = wd rv.2) := by
  refine AMet_of (by decide +kernel) (by simp [Value.category]) (Nat.le_of_ble_eq_true rfl) (fun K hK hct hG hE => ?_)
  have hT := tt_X5_come
  refine AW_g hT cl_X5 hK 0 3 (pc' := 5) (lo' := [some (.ref 0), some (.int p0), some (.int p1), none]) (st' := [.int p0, .ref 1]) (hp' := wd σ) rfl ?_
  refine AW_callV hT hK 3 [.int p0] [] (m_X3_takesYear l0 σ p0) cw_X3_takesYear lk_X5_30 vi_X3_takesYear rfl rfl rfl rfl rfl rfl (Nat.le_of_ble_eq_true rfl) (Nat.le_of_ble_eq_true rfl) (AW_k1 (fun v2 h1 => ?_))
  refine AW_if_ne hT hK 4 (tgt := 21) rfl rfl (fun c3 => ?_) (fun c3 => ?_)
  · refine AW_g hT cl_X5 hK 10 3 (pc' := 26) (lo' := [some (.ref 0), some (.int p0), some (.int p1), none]) (st' := [.int p1, .ref 1]) (hp' := wd σ) rfl ?_
    refine AW_callV hT hK 13 [.int p1] [] (m_X3_hasAll l0 σ p1) cw_X3_hasAll lk_X5_41 vi_X3_hasAll rfl rfl rfl rfl rfl rfl (Nat.le_of_ble_eq_true rfl) (Nat.le_of_ble_eq_true rfl) (AW_k1 (fun v5 h4 => ?_))
    refine AW_if_ne hT hK 14 (tgt := 42) rfl rfl (fun c6 => ?_) (fun c6 => ?_)
    · refine AW_g hT cl_X5 hK 20 2 (pc' := 46) (lo' := [some (.ref 0), some (.int p0), some (.int p1), none]) (st' := [.ref 1]) (hp' := wd σ) rfl ?_
      refine AW_callV hT hK 22 [] [] (m_X3_isFull l0 σ) cw_X3_isFull lk_X5_46 vi_X3_isFull rfl rfl rfl rfl rfl rfl (Nat.le_of_ble_eq_true rfl) (Nat.le_of_ble_eq_true rfl) (AW_k1 (fun v8 h7 => ?_))
      refine AW_if_eq hT hK 23 (tgt := 62) rfl rfl (fun c9 => ?_) (fun c9 => ?_)
      · refine AW_g hT cl_X5 hK 29 4 (pc' := 68) (lo' := [some (.ref 0), some (.int p0), some (.int p1), none]) (st' := [.int p1, .int p0, .ref 1]) (hp' := wd σ) rfl ?_
        refine AW_callV hT hK 33 [.int p0, .int p1] [] (m_X3_put l0 σ p0 p1) cw_X3_put lk_X5_55 vi_X3_put rfl rfl rfl rfl rfl rfl (Nat.le_of_ble_eq_true rfl) (Nat.le_of_ble_eq_true rfl) (AW_kiw (fun q11 h10 => ?_))
        refine AW_g hT cl_X5 hK 34 2 (pc' := 73) (lo' := [some (.ref 0), some (.int p0), some (.int p1), some (.int q11.1)]) (st' := [.ref 0]) (hp' := wd q11.2) rfl ?_
        refine AW_callV hT hK 36 [] [] (m_X5_mapAnew l0 q11.2) cw_X5_mapAnew lk_X5_59 vi_X5_mapAnew rfl rfl rfl rfl rfl rfl (Nat.le_of_ble_eq_true rfl) (Nat.le_of_ble_eq_true rfl) (AW_kv (fun τ13 h12 => ?_))
        refine AW_g hT cl_X5 hK 37 1 (pc' := 77) (lo' := [some (.ref 0), some (.int p0), some (.int p1), some (.int q11.1)]) (st' := [.int q11.1]) (hp' := wd (τ13)) rfl ?_
        refine AW_iret hT hE 38 rfl rfl rfl (Nat.le_of_ble_eq_true rfl) (Nat.le_of_ble_eq_true rfl) ?_
        subst h12; subst h10; subst h7; subst h4; subst h1; simp only [x_X5_come, if_neg c3, if_neg c6, if_pos c9] at hr; cases hr; exact ⟨rfl, rfl⟩
      · exfalso; subst h7; subst h4; subst h1; simp only [x_X5_come, if_neg c3, if_neg c6, if_neg c9] at hr; cases hr
    · exfalso; subst h4; subst h1; simp only [x_X5_come, if_neg c3, if_pos c6] at hr; cases hr
  · exfalso; subst h1; simp only [x_X5_come, if_pos c3] at hr; cases hr
set_option maxRecDepth 100000 in
set_option maxHeartbeats 4000000 in
theorem mx_X5_come (l0 : Launch) (hl0 : l0.stackTraces = false) (σ : az_S) (p0 : Int32) (p1 : Int32) (E0 : String) (hr : x_X5_come σ p0 p1 = .inl E0) : AMetX l0 yX5_come cX5_come 4 (some .int) ({ frames := 6, cells := 1, slots := 6, locals := 144 } : Room) [.ref 0, .int p0, .int p1] (wd σ) (fun _ _ => False) (fun E => E = E0) := by
  refine AMetX_of (by decide +kernel) (by simp [Value.category]) (Nat.le_of_ble_eq_true rfl) (fun K hK hX hE => ?_)
  have hT := tt_X5_come
  refine AW_g hT cl_X5 hK 0 3 (pc' := 5) (lo' := [some (.ref 0), some (.int p0), some (.int p1), none]) (st' := [.int p0, .ref 1]) (hp' := wd σ) rfl ?_
  refine AW_callV hT hK 3 [.int p0] [] (m_X3_takesYear l0 σ p0) cw_X3_takesYear lk_X5_30 vi_X3_takesYear rfl rfl rfl rfl rfl rfl (Nat.le_of_ble_eq_true rfl) (Nat.le_of_ble_eq_true rfl) (AW_k1 (fun v115 h114 => ?_))
  refine AW_if_ne hT hK 4 (tgt := 21) rfl rfl (fun c116 => ?_) (fun c116 => ?_)
  · refine AW_g hT cl_X5 hK 10 3 (pc' := 26) (lo' := [some (.ref 0), some (.int p0), some (.int p1), none]) (st' := [.int p1, .ref 1]) (hp' := wd σ) rfl ?_
    refine AW_callV hT hK 13 [.int p1] [] (m_X3_hasAll l0 σ p1) cw_X3_hasAll lk_X5_41 vi_X3_hasAll rfl rfl rfl rfl rfl rfl (Nat.le_of_ble_eq_true rfl) (Nat.le_of_ble_eq_true rfl) (AW_k1 (fun v118 h117 => ?_))
    refine AW_if_ne hT hK 14 (tgt := 42) rfl rfl (fun c119 => ?_) (fun c119 => ?_)
    · refine AW_g hT cl_X5 hK 20 2 (pc' := 46) (lo' := [some (.ref 0), some (.int p0), some (.int p1), none]) (st' := [.ref 1]) (hp' := wd σ) rfl ?_
      refine AW_callV hT hK 22 [] [] (m_X3_isFull l0 σ) cw_X3_isFull lk_X5_46 vi_X3_isFull rfl rfl rfl rfl rfl rfl (Nat.le_of_ble_eq_true rfl) (Nat.le_of_ble_eq_true rfl) (AW_k1 (fun v121 h120 => ?_))
      refine AW_if_eq hT hK 23 (tgt := 62) rfl rfl (fun c122 => ?_) (fun c122 => ?_)
      · exfalso; subst h120; subst h117; subst h114; simp only [x_X5_come, if_neg c116, if_neg c119, if_pos c122] at hr
        first | (cases hr; done) | ((repeat' split at hr) <;> cases hr)
      · subst h120; subst h117; subst h114; refine AW_throw hT hK hX hl0 24 (cls := az_ISE) (text := "all papers have come") (ix := 7) (rx := az_r7) az_r7_ok rfl rfl rfl rfl rfl (by decide) (List.mem_of_getElem? (i := 696) (by decide +kernel)) (List.mem_of_getElem? (i := 36) (by decide +kernel)) (by decide) at_54.1 at_54.2 ⟨by decide, by decide⟩ (Nat.le_of_ble_eq_true rfl) (Nat.le_of_ble_eq_true rfl) ?_
        simp only [x_X5_come, if_neg c116, if_neg c119, if_neg c122] at hr; cases hr; rfl
    · subst h117; subst h114; refine AW_throw hT hK hX hl0 15 (cls := az_IAE) (text := "a paper that is referred to is not there") (ix := 7) (rx := az_r7) az_r7_ok rfl rfl rfl rfl rfl (by decide) (List.mem_of_getElem? (i := 497) (by decide +kernel)) (List.mem_of_getElem? (i := 35) (by decide +kernel)) (by decide) at_38.1 at_38.2 ⟨by decide, by decide⟩ (Nat.le_of_ble_eq_true rfl) (Nat.le_of_ble_eq_true rfl) ?_
      simp only [x_X5_come, if_neg c116, if_pos c119] at hr; cases hr; rfl
  · subst h114; refine AW_throw hT hK hX hl0 5 (cls := az_IAE) (text := "the year is out of range") (ix := 7) (rx := az_r7) az_r7_ok rfl rfl rfl rfl rfl (by decide) (List.mem_of_getElem? (i := 497) (by decide +kernel)) (List.mem_of_getElem? (i := 35) (by decide +kernel)) (by decide) at_38.1 at_38.2 ⟨by decide, by decide⟩ (Nat.le_of_ble_eq_true rfl) (Nat.le_of_ble_eq_true rfl) ?_
    simp only [x_X5_come, if_pos c116] at hr; cases hr; rfl
def x_X5_withdraw (σ : az_S) (p0 : Int32) : String ⊕ (Int32 × az_S) :=
  match x_X5_requirePaper σ p0 with
  | .inl E => .inl E
  | .inr _ =>
    let v4 := x_X3_citersOf σ p0
    let v6 := x_J6_bitCount_0f7a4 σ v4
    let τ8 := x_X3_take σ p0
    let τ10 := x_X5_mapAnew (τ8)
    .inr (v6, τ10)
set_option maxRecDepth 100000 in
set_option maxHeartbeats 4000000 in
theorem m_X5_withdraw (l0 : Launch) (σ : az_S) (p0 : Int32) (rv : (Int32 × az_S)) (hr : x_X5_withdraw σ p0 = .inr rv) : AMet l0 yX5_withdraw cX5_withdraw 3 (some .int) ({ frames := 7, cells := 0, slots := 0, locals := 144 } : Room) false [.ref 0, .int p0] (wd σ) (fun r h => r = some (.int rv.1) ∧ h = wd rv.2) := by
  refine AMet_of (by decide +kernel) (by simp [Value.category]) (Nat.le_of_ble_eq_true rfl) (fun K hK hct hG hE => ?_)
  have hT := tt_X5_withdraw
  refine AW_g hT cl_X5 hK 0 2 (pc' := 2) (lo' := [some (.ref 0), some (.int p0), none]) (st' := [.int p0, .ref 0]) (hp' := wd σ) rfl ?_
  rcases hc1 : x_X5_requirePaper σ p0 with E | v2
  · exfalso; simp only [x_X5_withdraw, hc1] at hr; cases hr
  · refine AW_callV hT hK 2 [.int p0] [] (m_X5_requirePaper l0 σ p0 v2 hc1) cw_X5_requirePaper lk_X5_62 vi_X5_requirePaper rfl rfl rfl rfl rfl rfl (Nat.le_of_ble_eq_true rfl) (Nat.le_of_ble_eq_true rfl) (AW_kn ?_)
    refine AW_g hT cl_X5 hK 3 3 (pc' := 10) (lo' := [some (.ref 0), some (.int p0), none]) (st' := [.int p0, .ref 1]) (hp' := wd σ) rfl ?_
    refine AW_callV hT hK 6 [.int p0] [] (m_X3_citersOf l0 σ p0) cw_X3_citersOf lk_X5_66 vi_X3_citersOf rfl rfl rfl rfl rfl rfl (Nat.le_of_ble_eq_true rfl) (Nat.le_of_ble_eq_true rfl) (AW_k1 (fun v4 h3 => ?_))
    refine AW_callS hT hK 7 [.int v4] [] (m_J6_bitCount_0f7a4 l0 σ v4) cw_J6_bitCount_0f7a4 lk_X5_70 sm_J6_bitCount_0f7a4 rfl rfl rfl rfl (Nat.le_of_ble_eq_true rfl) (Nat.le_of_ble_eq_true rfl) (AW_k1 (fun v6 h5 => ?_))
    refine AW_g hT cl_X5 hK 8 4 (pc' := 22) (lo' := [some (.ref 0), some (.int p0), some (.int v6)]) (st' := [.int p0, .ref 1]) (hp' := wd σ) rfl ?_
    refine AW_callV hT hK 12 [.int p0] [] (m_X3_take l0 σ p0) cw_X3_take lk_X5_75 vi_X3_take rfl rfl rfl rfl rfl rfl (Nat.le_of_ble_eq_true rfl) (Nat.le_of_ble_eq_true rfl) (AW_kv (fun τ8 h7 => ?_))
    refine AW_g hT cl_X5 hK 13 1 (pc' := 26) (lo' := [some (.ref 0), some (.int p0), some (.int v6)]) (st' := [.ref 0]) (hp' := wd (τ8)) rfl ?_
    refine AW_callV hT hK 14 [] [] (m_X5_mapAnew l0 (τ8)) cw_X5_mapAnew lk_X5_59 vi_X5_mapAnew rfl rfl rfl rfl rfl rfl (Nat.le_of_ble_eq_true rfl) (Nat.le_of_ble_eq_true rfl) (AW_kv (fun τ10 h9 => ?_))
    refine AW_g hT cl_X5 hK 15 1 (pc' := 30) (lo' := [some (.ref 0), some (.int p0), some (.int v6)]) (st' := [.int v6]) (hp' := wd (τ10)) rfl ?_
    refine AW_iret hT hE 16 rfl rfl rfl (Nat.le_of_ble_eq_true rfl) (Nat.le_of_ble_eq_true rfl) ?_
    subst h9; subst h7; subst h5; subst h3; simp only [x_X5_withdraw, hc1] at hr; cases hr; exact ⟨rfl, rfl⟩
set_option maxRecDepth 100000 in
set_option maxHeartbeats 4000000 in
theorem mx_X5_withdraw (l0 : Launch) (hl0 : l0.stackTraces = false) (σ : az_S) (p0 : Int32) (E0 : String) (hr : x_X5_withdraw σ p0 = .inl E0) : AMetX l0 yX5_withdraw cX5_withdraw 3 (some .int) ({ frames := 7, cells := 1, slots := 6, locals := 144 } : Room) [.ref 0, .int p0] (wd σ) (fun _ _ => False) (fun E => E = E0) := by
  refine AMetX_of (by decide +kernel) (by simp [Value.category]) (Nat.le_of_ble_eq_true rfl) (fun K hK hX hE => ?_)
  have hT := tt_X5_withdraw
  refine AW_g hT cl_X5 hK 0 2 (pc' := 2) (lo' := [some (.ref 0), some (.int p0), none]) (st' := [.int p0, .ref 0]) (hp' := wd σ) rfl ?_
  rcases hc111 : x_X5_requirePaper σ p0 with E | v112
  · refine AW_callVX hT hK 2 [.int p0] [] (mx_X5_requirePaper l0 hl0 σ p0 E hc111) cw_X5_requirePaper lk_X5_62 vi_X5_requirePaper rfl rfl rfl rfl rfl rfl (Nat.le_of_ble_eq_true rfl) (Nat.le_of_ble_eq_true rfl) (fun _ _ h9 => h9.elim) (fun E9 h9 => AWX_out hK hX (Nat.le_of_ble_eq_true rfl) (Nat.le_of_ble_eq_true rfl) ?_)
    subst h9; simp only [x_X5_withdraw, hc111] at hr; cases hr; rfl
  · refine AW_callV hT hK 2 [.int p0] [] (m_X5_requirePaper l0 σ p0 v112 hc111) cw_X5_requirePaper lk_X5_62 vi_X5_requirePaper rfl rfl rfl rfl rfl rfl (Nat.le_of_ble_eq_true rfl) (Nat.le_of_ble_eq_true rfl) (AW_kn ?_)
    exfalso; simp only [x_X5_withdraw, hc111] at hr
    first | (cases hr; done) | ((repeat' split at hr) <;> cases hr)
end AZP
end
section
/-! heaps that grow: new, newarray, the start of constructors -/
section AZG
def az_vin (n : Nat) : Value → Bool
  | .ref k => Nat.blt k n
  | _ => true
def az_lin (n : Nat) (l : List Value) : Bool := l.all (az_vin n)
def az_oin (n : Nat) : Option Value → Bool
  | some v => az_vin n v
  | none => true
def az_ein (n : Nat) : az_E → Bool
  | .inl _ => true
  | .inr q => az_lin n q.2
def az_fit (n : Nat) (hp : az_H) : Bool := hp.all (az_ein n)
theorem az_v_ext {ad ad' : Nat → Nat} {n : Nat} (hag : ∀ i, i < n → ad' i = ad i) (v : Value) (h : az_vin n v = true) : az_v ad' v = az_v ad v := by
  cases v with
  | ref k => exact congrArg Value.ref (hag k (Nat.blt_eq.mp h))
  | _ => rfl
theorem az_vs_ext {ad ad' : Nat → Nat} {n : Nat} (hag : ∀ i, i < n → ad' i = ad i) (l : List Value) (h : az_lin n l = true) : l.map (az_v ad') = l.map (az_v ad) :=
  List.map_congr_left fun v hv => az_v_ext hag v (List.all_eq_true.mp h v hv)
theorem az_w_ext {cA : Nat → ClassId} {ad ad' : Nat → Nat} {hp : az_H} {n : Nat} (hn : hp.length ≤ n) (hag : ∀ i, i < n → ad' i = ad i) (h : az_fit n hp = true) : az_w cA ad' hp = az_w cA ad hp := by
  apply List.ext_getElem?
  intro j
  unfold az_w
  rw [List.getElem?_mapIdx, List.getElem?_mapIdx]
  cases hj : hp[j]? with
  | none => rfl
  | some e =>
    have hlt : j < hp.length := (List.getElem?_eq_some_iff.mp hj).1
    have he := List.all_eq_true.mp h e (List.mem_of_getElem? hj)
    show some (ad' j, az_e cA ad' e) = some (ad j, az_e cA ad e)
    rw [hag j (Nat.lt_of_lt_of_le hlt hn)]
    cases e with
    | inl q => rfl
    | inr q =>
      show some (ad j, (Sum.inr (q.1, q.2.map (az_v ad')) : va_E)) = some (ad j, Sum.inr (q.1, q.2.map (az_v ad)))
      rw [az_vs_ext hag q.2 he]
theorem az_w_app (cA : Nat → ClassId) (ad : Nat → Nat) (hp : az_H) (e : az_E) : az_w cA ad (hp ++ [e]) = az_w cA ad hp ++ [(ad hp.length, az_e cA ad e)] := by
  unfold az_w
  rw [List.mapIdx_append]
  simp
theorem az_ls_ext {ad ad' : Nat → Nat} {n : Nat} {ls : Array Slot} {nL : Nat} {lo : List (Option Value)} (hag : ∀ i, i < n → ad' i = ad i) (h : lo.all (az_oin n) = true) (hl : az_ls ad ls nL lo) : az_ls ad' ls nL lo := by
  refine ⟨⟨hl.1.1, hl.1.2.1, fun q hq => hl.1.2.2 q ?_⟩, hl.2⟩
  obtain ⟨j, w, hj, rfl⟩ := (az_lv_mem ad' _ 0 q).mp hq
  exact (az_lv_mem ad lo 0 _).mpr ⟨j, w, hj, by rw [az_v_ext hag w (List.all_eq_true.mp h _ (List.mem_of_getElem? hj))]⟩
/-- the addresses may change where the method's start knew nothing -/
def az_Gr2 (K : az_K) (n0 : Nat) : Prop :=
  match K with
  | (_, _, _, _, _, _, _, _, _, _, _, _, _, Ag, _, _) => ∀ ad ad' : Nat → Nat, (∀ i, i < n0 → ad' i = ad i) → Ag ad → Ag ad'
variable {K : az_K} {own : String} {cc : ByteArray} {R0 : Room} {l0 : Launch} {tb : List (Nat × Instr)} {cells slots pc : Nat} {lo : List (Option Value)} {st rest : List Value} {hp : az_H} {n0 : Nat}
theorem AW_new (hT : az_Tb cc tb) (hK : az_OK K own cc R0 l0) (hG : az_Gr2 K n0) (i : Nat) {idx ci N : Nat} {C : String} {T : u_T} (ty : Nat → FieldType) (fs : List Value) (hi : tb[i]? = some (pc, .new idx)) (hcl : Cond.classLink own idx C ∈ lw_tbl) (hinst : Cond.instantiable C N ∈ lw_tbl) (hini : Cond.initialized C ∈ lw_tbl)
    (hc : vwCl[ci]? = some (C, T, N)) (hws : ∀ w ∈ u_ws C T N, w ∈ lw_tbl ∧ az_kp w = true) (hty : ∀ k, k < N → parseFieldDescriptor (T k).2.2.1 = some (ty k)) (hfs : ∀ j, j < N → defaultValue (ty j) = vp_V fs j) (hf0 : az_lin 0 fs = true)
    (hn : n0 ≤ hp.length) (hfit : (az_fit hp.length hp && (lo.all (az_oin hp.length) && az_lin hp.length rest)) = true) (hcells : cells + 1 ≤ R0.cells) (hslots : slots + N ≤ R0.slots)
    (kk : AW K (cells + 1) (slots + N) (pc + 3) lo (.ref hp.length :: rest) (hp ++ [.inr (ci, fs)])) : AW K cells slots pc lo rest hp := by
  obtain ⟨p, l, e, R, s, m, args, below, meth, c, D, cA, A, Ag, Q, nL⟩ := K
  obtain ⟨hexec, hb, hml, hlk, hown, hev, hKn, hA, rfl, rfl⟩ := hK
  rw [Bool.and_eq_true, Bool.and_eq_true] at hfit
  intro ad H locs ls hag hP hD hS hl
  refine va_new (Ts := u_ws C T N) hexec hb (fun w h => hev.1.use (hws w h).1 (hws w h).2 args) (fun w h => h) ty hty hown (hev.1.use hcl rfl args) (hev.1.use hinst rfl args) (hev.1.use hini rfl args) hKn hP hD hS hA hc hfs hcells hslots (hT.at hi) (fun q H1 hP1 hD1 hS1 => ?_)
  have hag' : ∀ i, i < hp.length → va_up ad hp.length q i = ad i := fun i h => va_up_ne _ _ (by omega)
  have e1 : az_w cA (va_up ad hp.length q) (hp ++ [.inr (ci, fs)]) = az_w cA ad hp ++ [(q, .inr (ci, fs))] := by
    rw [az_w_app, az_w_ext (Nat.le_refl _) hag' hfit.1, va_up_self]
    show _ ++ [(q, (Sum.inr (ci, fs.map (az_v (va_up ad hp.length q))) : va_E))] = _
    have e0 : fs.map (az_v (va_up ad hp.length q)) = fs := by
      conv => rhs; rw [← List.map_id fs]
      refine List.map_congr_left fun v hv => ?_
      have := List.all_eq_true.mp hf0 v hv
      cases v with
      | ref k => cases this
      | _ => rfl
    rw [e0]
  have k9 := kk (va_up ad hp.length q) H1 locs ls (hG ad _ (fun i h => hag' i (by omega)) hag) (by rw [e1]; exact hP1) (by rw [e1]; exact hD1) hS1 (az_ls_ext hag' hfit.2.1 hl)
  rw [List.map_cons, az_vs_ext hag' rest hfit.2.2] at k9
  show W _ _ _ _ _ _ _ _ _ _ _ _ _ _ _ (F0 m _ ls (.ref q :: _))
  have e2 : az_v (va_up ad hp.length q) (.ref hp.length) = .ref q := congrArg Value.ref (va_up_self _ _ _)
  rw [e2] at k9
  exact k9
theorem AW_newa (hT : az_Tb cc tb) (hK : az_OK K own cc R0 l0) (hG : az_Gr2 K n0) (i : Nat) {atype : ArrayType} (t : Nat) (ty : FieldType) {n : Int32} (N : Nat) (a0 : vp_A) (hi : tb[i]? = some (pc, .newarray atype)) (harr : Cond.arrayClass ty ∈ lw_tbl) (hty : newarray.typeOf atype = ty)
    (ht : t = 0 ∧ ty = .int) (ha : ∀ c : ClassId, vp_cell c a0 = arrV c N (fun _ => defaultValue ty)) (hn9 : ¬ n < 0) (hN : n.toNatClampNeg = N) (hbytes : N * componentBytes ty ≤ 536870912)
    (hn : n0 ≤ hp.length) (hfit : (az_fit hp.length hp && (lo.all (az_oin hp.length) && az_lin hp.length rest)) = true) (hcells : cells + 1 ≤ R0.cells) (hslots : slots + N ≤ R0.slots)
    (kk : AW K (cells + 1) (slots + N) (pc + 2) lo (.ref hp.length :: rest) (hp ++ [.inl (t, a0)])) : AW K cells slots pc lo (.int n :: rest) hp := by
  obtain ⟨p, l, e, R, s, m, args, below, meth, c, D, cA, A, Ag, Q, nL⟩ := K
  obtain ⟨hexec, hb, hml, hlk, hown, hev, hKn, hA, rfl, rfl⟩ := hK
  rw [Bool.and_eq_true, Bool.and_eq_true] at hfit
  intro ad H locs ls hag hP hD hS hl
  refine va_newa hexec hb (ty := ty) (by rw [hty]; exact hev.1.use harr rfl args) hty hKn hP hD hS hA ha hn9 hN hbytes hcells hslots (hT.at hi) (fun q c9 H1 hK1 hP1 hD1 hS1 => ?_)
  have hc9 : c9 = cA t := by
    have h3 := (hK1.2 1 (c9, ty) rfl).2
    obtain ⟨rfl, rfl⟩ := ht
    exact Option.some.inj (h3.symm.trans (hKn.2 0 _ rfl).2)
  rw [hc9] at hP1 hD1
  have hag' : ∀ i, i < hp.length → va_up ad hp.length q i = ad i := fun i h => va_up_ne _ _ (by omega)
  have e1 : az_w cA (va_up ad hp.length q) (hp ++ [.inl (t, a0)]) = az_w cA ad hp ++ [(q, .inl (cA t, a0))] := by
    rw [az_w_app, az_w_ext (Nat.le_refl _) hag' hfit.1, va_up_self]
    rfl
  have k9 := kk (va_up ad hp.length q) H1 locs ls (hG ad _ (fun i h => hag' i (by omega)) hag) (by rw [e1]; exact hP1) (by rw [e1]; exact hD1) hS1 (az_ls_ext hag' hfit.2.1 hl)
  rw [List.map_cons, az_vs_ext hag' rest hfit.2.2] at k9
  have e2 : az_v (va_up ad hp.length q) (.ref hp.length) = .ref q := congrArg Value.ref (va_up_self _ _ _)
  rw [e2] at k9
  exact k9
end AZG
end
section
/-! constructors: their contract, their calls, Object's own -/
section AZG2
variable {K : az_K} {own : String} {cc : ByteArray} {R0 : Room} {l0 : Launch} {tb : List (Nat × Instr)} {cells slots pc : Nat} {lo : List (Option Value)} {st rest : List Value} {hp : az_H} {n0 : Nat}
theorem AMet_ofG {y : MethodName} {maxL : Nat} {ret : Option FieldType} {rm : Room} {as : List Value} {hp0 : az_H} {Ψ : Option Value → az_H → Prop} (hy : plainName y.cls = true) (hcat : ∀ v ∈ as, v.category = 1) (hlen : as.length ≤ maxL)
    (body : ∀ K : az_K, az_OK K y.cls cc rm l0 → (y.name = "<init>" → K.2.2.2.2.2.2.2.2.1.name = "<init>") → az_Gr2 K hp0.length → az_End K cc ret rm Ψ → AW K 0 0 0 (as.map some ++ List.replicate (maxL - as.length) none) [] hp0) : AMet l0 y cc maxL ret rm true as hp0 Ψ := by
  intro D cA ad0 sz
  refine Met.ofW (cc := cc) (maxL := maxL) (ret := ret) hy rfl ?_
  intro p e s m args below meth c s₁ B hml hv
  obtain ⟨rfl, hsz, hP, hKn, hD0, hev⟩ := hv
  subst hsz
  have hD := hD0.self (sz := s.heap.size)
  have hA : ∀ q : Nat, s.heap.size ≤ q → va_A (az_w cA ad0 hp0) s.heap.size q := fun q h => Or.inr h
  have hl := lv_entry (as.map (az_v ad0)) (n := maxL) (by rw [az_sl_len ad0 as hcat]; exact hlen)
  rw [lg_entry_eq]
  have hl2 : az_ls ad0 ((lg_sl (as.map (az_v ad0)) ++ List.replicate (maxL - (lg_sl (as.map (az_v ad0))).length) Slot.unset).toArray) maxL (as.map some ++ List.replicate (maxL - as.length) none) :=
    ⟨⟨hl.1, hl.2.1, fun q hq => hl.2.2 q (az_entry ad0 as _ hcat 0 q hq)⟩, by simp; omega⟩
  refine body (p, l0, e, rm, s, m, (as.map (az_v ad0)).toArray, below, meth, c, D, cA, va_A (az_w cA ad0 hp0) s.heap.size, fun ad' => ∀ i, i < hp0.length → ad' i = ad0 i, _, maxL)
    ⟨B.exec, B.bytes, hml, B.notSynchronized, findClass_of_methodNamed B.named, hev, hKn, hA, rfl, rfl⟩ ?_ ?_ ?_ ad0 s.heap [] _ (fun _ _ => rfl) hP hD va_S.rf hl2
  · intro hy2
    exact (name_of_methodNamed B.named B.method).1.trans hy2
  · intro ad ad' h1 h2 i hi
    exact (h1 i hi).trans (h2 i hi)
  · intro cells slots pc lo hp hc hs
    refine ⟨fun v ty hr hn hd h => ?_, fun v hr hd h => ?_, fun hr hd h => ?_⟩
    · intro ad H locs ls hag hP1 hD1 hS1 hl1
      refine W.widen hc hs ?_
      exact W.zret (v := v) B.exec B.bytes (B.returns.trans hr) hn (fun t ht hW => ⟨⟨some (.int v), hp, ad, rfl, h, (fun z => by cases z), hag, by rw [ht]; exact hP1, hD1⟩, hS1.F ht⟩) hS1.2.2 hd B.notSynchronized
    · intro ad H locs ls hag hP1 hD1 hS1 hl1
      refine W.widen hc hs ?_
      exact W.lret (v := v) B.exec B.bytes (B.returns.trans hr) (fun t ht hW => ⟨⟨some (.long v), hp, ad, rfl, h, (fun z => by cases z), hag, by rw [ht]; exact hP1, hD1⟩, hS1.F ht⟩) hS1.2.2 hd B.notSynchronized
    · intro ad H locs ls hag hP1 hD1 hS1 hl1
      refine W.widen hc hs ?_
      exact W.vret B.exec B.bytes (B.returns.trans hr) (fun t ht hW => ⟨⟨none, hp, ad, rfl, h, (fun z => by cases z), hag, by rw [ht]; exact hP1, hD1⟩, hS1.F ht⟩) hS1.2.2 hd B.notSynchronized
theorem oi_inst : Cond.instanceMethod Lib.objectInit ∈ lw_tbl := List.mem_of_getElem? (i := 44) (by decide +kernel)
theorem oi_code : Cond.code Lib.objectInit ⟨#[0xb1]⟩ 1 none ∈ lw_tbl := List.mem_of_getElem? (i := 45) (by decide +kernel)
theorem AW_obj (hT : az_Tb cc tb) (hK : az_OK K own cc R0 l0) (i : Nat) {idx k : Nat} (hl : Cond.methodLink own idx Lib.objectInit ∈ lw_tbl) (hi : tb[i]? = some (pc, .invokespecial idx)) (hR : (Nat.ble 1 R0.frames && (Nat.ble 20 R0.locals && Nat.ble (rest.map fun v => v.category).sum 8)) = true)
    (kk : AW K cells slots (pc + 3) lo rest hp) : AW K cells slots pc lo (.ref k :: rest) hp := by
  obtain ⟨p, l, e, R, s, m, args, below, meth, c, D, cA, A, Ag, Q, nL⟩ := K
  obtain ⟨hexec, hb, hml, hlk, hown, hev, hKn, hA, rfl, rfl⟩ := hK
  rw [Bool.and_eq_true, Bool.and_eq_true] at hR
  intro ad H locs ls hag hP hD hS hl1
  have h8 : 2 * (F0 m pc ls (.ref (ad k) :: rest.map (az_v ad))).monitorRoom + ((rest.map (az_v ad)).map fun v => v.category).sum ≤ 8 := lv_room (by rw [az_cats]; exact Nat.le_of_ble_eq_true hR.2.2)
  have h20 := Nat.le_of_ble_eq_true hR.2.1
  exact W.objInit hexec hb hown (hev.1.use hl rfl args) (hev.1.use oi_inst rfl args) (hev.1.use oi_code rfl args) (g := F0 m pc ls (.ref (ad k) :: rest.map (az_v ad))) (a := ad k) (rest := rest.map (az_v ad)) rfl (hl1.1.1.trans hml.symm) rfl (hT.at hi) (Nat.le_of_ble_eq_true hR.1) (by omega) (kk ad H locs ls hag hP hD hS hl1)
variable {y : MethodName} {cb : ByteArray} {mL n idx : Nat} {rm : Room} {Ψ : Option Value → az_H → Prop}
/-- a public constructor -/
theorem AW_callI (hT : az_Tb cc tb) (hK : az_OK K own cc R0 l0) (hG : az_Gr2 K n0) (i : Nat) (as rest : List Value) {k : Nat} (hM : AMet l0 y cb mL none rm true (.ref k :: as) hp Ψ) (cv : az_Cw y cb mL none n) (hl : Cond.methodLink own idx y ∈ lw_tbl) (hv : Cond.instanceMethod y ∈ lw_tbl) (hy : y.name = "<init>")
    (hi : tb[i]? = some (pc, .invokespecial idx)) (hn : as.length = n) (hst : st = as.reverse ++ .ref k :: rest) (hrm : az_rm rm R0 mL rest = true) (hn0 : n0 ≤ hp.length) (hfit : (lo.all (az_oin hp.length) && az_lin hp.length rest) = true) (hc : cells + rm.cells ≤ R0.cells) (hs : slots + rm.slots ≤ R0.slots)
    (hvoid : ∀ r h, Ψ r h → r = none) (kk : ∀ (hp' : az_H), Ψ none hp' → AW K (cells + rm.cells) (slots + rm.slots) (pc + 3) lo rest hp') : AW K cells slots pc lo st hp := by
  obtain ⟨p, l, e, R, s, m, args, below, meth, c, D, cA, A, Ag, Q, nL⟩ := K
  obtain ⟨hexec, hb, hml, hlk, hown, hev, hKn, hA, rfl, rfl⟩ := hK
  obtain ⟨hR, hcat⟩ := az_rm.of hrm
  rw [Bool.and_eq_true] at hfit
  subst hst
  intro ad H locs ls hag hP hD hS hl1
  refine az_after (gr := true) (va_runI (As := as.map (az_v ad)) (rest := rest.map (az_v ad)) (b := ad k) (Ts := []) (own := own) (nL := nL) ⟨hexec, hb, hml, hown, fun _ h => by cases h⟩ (hM D cA ad H.size) ⟨az_cb hev.1 cv hl hR, hy, hev.1.use hv rfl args⟩
    ⟨az_blind D cA ad hp H.size _, az_start hev hKn hA hP hD hS (.ref (ad k) :: as.map (az_v ad))⟩ rfl (by rw [List.length_map]; exact hn) hl1.1.1 (by rw [List.map_append, List.map_reverse]; rfl) (lv_room (by rw [az_cats]; exact hcat)) (hT.at hi) ⟨hc, hs⟩) hS hD hA (fun r hp' ad' H1 locs1 hΨ _ hag' hP1 hD1 hS1 => ?_)
  have hr := hvoid r hp' hΨ
  subst hr
  have k9 := kk hp' hΨ ad' H1 locs1 ls (hG ad ad' (fun i h => hag' i (by omega)) hag) hP1 hD1 hS1 (az_ls_ext hag' hfit.1 hl1)
  rw [az_vs_ext hag' rest hfit.2] at k9
  exact k9
/-- a constructor of a nest mate -/
theorem AW_callIN (hT : az_Tb cc tb) (hK : az_OK K own cc R0 l0) (hG : az_Gr2 K n0) (i : Nat) (as rest : List Value) {host : String} {k : Nat} (hM : AMet l0 y cb mL none rm true (.ref k :: as) hp Ψ) (cv : az_Cw y cb mL none n) (hl : Cond.methodLinkNest own idx y host ∈ lw_tbl) (hv : Cond.instanceMethod y ∈ lw_tbl) (hy : y.name = "<init>")
    (hi : tb[i]? = some (pc, .invokespecial idx)) (hn : as.length = n) (hst : st = as.reverse ++ .ref k :: rest) (hrm : az_rm rm R0 mL rest = true) (hn0 : n0 ≤ hp.length) (hfit : (lo.all (az_oin hp.length) && az_lin hp.length rest) = true) (hc : cells + rm.cells ≤ R0.cells) (hs : slots + rm.slots ≤ R0.slots)
    (hvoid : ∀ r h, Ψ r h → r = none) (kk : ∀ (hp' : az_H), Ψ none hp' → AW K (cells + rm.cells) (slots + rm.slots) (pc + 3) lo rest hp') : AW K cells slots pc lo st hp := by
  obtain ⟨p, l, e, R, s, m, args, below, meth, c, D, cA, A, Ag, Q, nL⟩ := K
  obtain ⟨hexec, hb, hml, hlk, hown, hev, hKn, hA, rfl, rfl⟩ := hK
  obtain ⟨hR, hcat⟩ := az_rm.of hrm
  rw [Bool.and_eq_true] at hfit
  subst hst
  intro ad H locs ls hag hP hD hS hl1
  have cw : va_CN R s args own idx y host cb mL none [.code y cb mL none] rm rm.cells rm.slots n :=
    va_cnB (Ts := [.code y cb mL none]) n (fun w h9 => by rw [List.mem_singleton.mp h9]; exact hev.1.use cv.1.2 rfl args) (fun w h9 => ⟨h9, by rw [List.mem_singleton.mp h9]; exact Or.inl rfl⟩) rfl rfl rfl (hev.1 _ hl rfl) (hev.1.use cv.1.1 rfl args) cv.2 hR
  refine az_after (gr := true) (va_runIN (As := as.map (az_v ad)) (rest := rest.map (az_v ad)) (b := ad k) (Ts := []) (own := own) (host := host) (nL := nL) ⟨hexec, hb, hml, hown, fun _ h => by cases h⟩ (hM D cA ad H.size) ⟨cw, hy, hev.1.use hv rfl args⟩
    ⟨az_blind D cA ad hp H.size _, az_start hev hKn hA hP hD hS (.ref (ad k) :: as.map (az_v ad))⟩ rfl (by rw [List.length_map]; exact hn) hl1.1.1 (by rw [List.map_append, List.map_reverse]; rfl) (lv_room (by rw [az_cats]; exact hcat)) (hT.at hi) ⟨hc, hs⟩) hS hD hA (fun r hp' ad' H1 locs1 hΨ _ hag' hP1 hD1 hS1 => ?_)
  have hr := hvoid r hp' hΨ
  subst hr
  have k9 := kk hp' hΨ ad' H1 locs1 ls (hG ad ad' (fun i h => hag' i (by omega)) hag) hP1 hD1 hS1 (az_ls_ext hag' hfit.1 hl1)
  rw [az_vs_ext hag' rest hfit.2] at k9
  exact k9
end AZG2
end
section
section AZC
theorem oi_X0 : Cond.methodLink RX0 3 Lib.objectInit ∈ lw_tbl := List.mem_of_getElem? (i := 103) (by decide +kernel)
theorem ini_X0 : Cond.initialized RX0 ∈ lw_tbl := cw_X0_init.1.1
theorem ins_X0 : Cond.instantiable RX0 8 ∈ lw_tbl := List.mem_of_getElem? (i := 99) (by decide +kernel)
theorem oi_X1 : Cond.methodLink RX1 3 Lib.objectInit ∈ lw_tbl := List.mem_of_getElem? (i := 138) (by decide +kernel)
theorem ini_X1 : Cond.initialized RX1 ∈ lw_tbl := cw_X1_init.1.1
theorem ins_X1 : Cond.instantiable RX1 8 ∈ lw_tbl := List.mem_of_getElem? (i := 134) (by decide +kernel)
theorem oi_X2 : Cond.methodLink RX2 3 Lib.objectInit ∈ lw_tbl := List.mem_of_getElem? (i := 57) (by decide +kernel)
theorem ini_X2 : Cond.initialized RX2 ∈ lw_tbl := cw_X2_init.1.1
theorem ins_X2 : Cond.instantiable RX2 1 ∈ lw_tbl := List.mem_of_getElem? (i := 53) (by decide +kernel)
theorem oi_X3 : Cond.methodLink RX3 3 Lib.objectInit ∈ lw_tbl := List.mem_of_getElem? (i := 51) (by decide +kernel)
theorem ini_X3 : Cond.initialized RX3 ∈ lw_tbl := cw_X3_init.1.1
theorem ins_X3 : Cond.instantiable RX3 8 ∈ lw_tbl := List.mem_of_getElem? (i := 47) (by decide +kernel)
theorem oi_X4 : Cond.methodLink RX4 3 Lib.objectInit ∈ lw_tbl := List.mem_of_getElem? (i := 68) (by decide +kernel)
theorem ini_X4 : Cond.initialized RX4 ∈ lw_tbl := cw_X4_init.1.1
theorem ins_X4 : Cond.instantiable RX4 1 ∈ lw_tbl := List.mem_of_getElem? (i := 64) (by decide +kernel)
theorem oi_X5 : Cond.methodLink RX5 1 Lib.objectInit ∈ lw_tbl := List.mem_of_getElem? (i := 43) (by decide +kernel)
theorem ini_X5 : Cond.initialized RX5 ∈ lw_tbl := cw_X5_init.1.1
theorem ins_X5 : Cond.instantiable RX5 3 ∈ lw_tbl := List.mem_of_getElem? (i := 39) (by decide +kernel)
theorem arc_int : Cond.arrayClass .int ∈ lw_tbl := List.mem_of_getElem? (i := 62) (by decide +kernel)
theorem in_X2 (l0 : Launch) (hp : az_H) (k : Nat) (hp1 : az_H) (hfit : (az_fit hp.length hp && Nat.blt k hp.length) = true)
    (hx : az_run 2 1 TX2 tyX2 true flt_X2 ((tb_X2_init.drop 5).take 1) 9 [some (.ref k)] [.ref hp.length, .ref k] (hp ++ [.inl (0, (12, .inl fun _ => 0))]) = some (12, [some (.ref k)], [], hp1)) :
    AMet l0 yX2_init cX2_init 1 none ({ frames := 1, cells := 1, slots := 12, locals := 20 } : Room) true [.ref k] hp (fun r h => r = none ∧ h = hp1) := by
  refine AMet_ofG (by decide +kernel) (by simp [Value.category]) (Nat.le_of_ble_eq_true rfl) (fun K hK hct hG hE => ?_)
  have hT := tt_X2_init
  rw [Bool.and_eq_true] at hfit
  refine AW_g hT cl_X2 hK 0 1 (pc' := 1) (lo' := [some (.ref k)]) (st' := [.ref k]) (hp' := hp) rfl ?_
  refine AW_obj hT hK 1 oi_X2 rfl rfl ?_
  refine AW_g hT cl_X2 hK 2 2 (pc' := 7) (lo' := [some (.ref k)]) (st' := [.int 12, .ref k]) (hp' := hp) rfl ?_
  refine AW_newa hT hK hG 4 0 .int 12 (12, .inl fun _ => 0) rfl arc_int rfl ⟨rfl, rfl⟩ (fun _ => rfl) (by decide) (by decide) (by decide) (Nat.le_refl _) ?_ (Nat.le_of_ble_eq_true rfl) (Nat.le_of_ble_eq_true rfl) ?_
  · simp only [List.all_cons, List.all_nil, az_lin, az_oin, az_vin, hfit.1, hfit.2, Bool.and_true]
  · refine AW_go hT cl_X2 hK (fun _ => hct rfl) 5 1 hx ?_
    exact AW_vret hT hE 6 rfl (Nat.le_of_ble_eq_true rfl) (Nat.le_of_ble_eq_true rfl) ⟨rfl, rfl⟩
theorem in_X4 (l0 : Launch) (hp : az_H) (k : Nat) (hp1 : az_H) (hfit : (az_fit hp.length hp && Nat.blt k hp.length) = true)
    (hx : az_run 4 1 TX4 tyX4 true flt_X4 ((tb_X4_init.drop 5).take 1) 10 [some (.ref k)] [.ref hp.length, .ref k] (hp ++ [.inl (0, (144, .inl fun _ => 0))]) = some (13, [some (.ref k)], [], hp1)) :
    AMet l0 yX4_init cX4_init 1 none ({ frames := 1, cells := 1, slots := 144, locals := 20 } : Room) true [.ref k] hp (fun r h => r = none ∧ h = hp1) := by
  refine AMet_ofG (by decide +kernel) (by simp [Value.category]) (Nat.le_of_ble_eq_true rfl) (fun K hK hct hG hE => ?_)
  have hT := tt_X4_init
  rw [Bool.and_eq_true] at hfit
  refine AW_g hT cl_X4 hK 0 1 (pc' := 1) (lo' := [some (.ref k)]) (st' := [.ref k]) (hp' := hp) rfl ?_
  refine AW_obj hT hK 1 oi_X4 rfl rfl ?_
  refine AW_g hT cl_X4 hK 2 2 (pc' := 8) (lo' := [some (.ref k)]) (st' := [.int 144, .ref k]) (hp' := hp) rfl ?_
  refine AW_newa hT hK hG 4 0 .int 144 (144, .inl fun _ => 0) rfl arc_int rfl ⟨rfl, rfl⟩ (fun _ => rfl) (by decide) (by decide) (by decide) (Nat.le_refl _) ?_ (Nat.le_of_ble_eq_true rfl) (Nat.le_of_ble_eq_true rfl) ?_
  · simp only [List.all_cons, List.all_nil, az_lin, az_oin, az_vin, hfit.1, hfit.2, Bool.and_true]
  · refine AW_go hT cl_X4 hK (fun _ => hct rfl) 5 1 hx ?_
    exact AW_vret hT hE 6 rfl (Nat.le_of_ble_eq_true rfl) (Nat.le_of_ble_eq_true rfl) ⟨rfl, rfl⟩
end AZC
end
section
section AZD
theorem AW_kc {K : az_K} {cells slots pc : Nat} {lo : List (Option Value)} {rest : List Value} {hp1 : az_H} (k : AW K cells slots pc lo rest hp1) : ∀ hp' : az_H, ((none : Option Value) = none ∧ hp' = hp1) → AW K cells slots pc lo rest hp' := by
  intro hp' h
  rw [h.2]
  exact k
set_option maxRecDepth 100000 in
set_option maxHeartbeats 4000000 in
theorem in_X3 (l0 : Launch) : AMet l0 yX3_init cX3_init 1 none ({ frames := 2, cells := 10, slots := 329, locals := 40 } : Room) true [.ref 1] [.inr (5, [.null, .null, .null]), .inr (3, [.null, .null, .null, .null, .null, .int 0, .int 0, .int 0])] (fun r h => r = none ∧ h = [.inr (5, [.null, .null, .null]), .inr (3, [.ref 2, .ref 4, .ref 6, .ref 8, .ref 10, .int 0, .int 0, .int 0]), .inr (2, [.ref 3]), .inl (0, (12, .inl fun _ => 0)), .inr (2, [.ref 5]), .inl (0, (12, .inl fun _ => 0)), .inr (2, [.ref 7]), .inl (0, (12, .inl fun _ => 0)), .inr (4, [.ref 9]), .inl (0, (144, .inl fun _ => 0)), .inr (4, [.ref 11]), .inl (0, (144, .inl fun _ => 0))]) := by
  refine AMet_ofG (by decide +kernel) (by simp [Value.category]) (Nat.le_of_ble_eq_true rfl) (fun K hK hct hG hE => ?_)
  have hT := tt_X3_init
  refine AW_go (ctor := true) hT cl_X3 hK (fun _ => hct rfl) 0 1 (pc' := 1) (lo' := [some (.ref 1)]) (st' := [.ref 1]) (hp' := [.inr (5, [.null, .null, .null]), .inr (3, [.null, .null, .null, .null, .null, .int 0, .int 0, .int 0])]) rfl ?_
  refine AW_obj hT hK 1 oi_X3 rfl rfl ?_
  refine AW_go (ctor := true) hT cl_X3 hK (fun _ => hct rfl) 2 1 (pc' := 5) (lo' := [some (.ref 1)]) (st' := [.ref 1]) (hp' := [.inr (5, [.null, .null, .null]), .inr (3, [.null, .null, .null, .null, .null, .int 0, .int 0, .int 0])]) rfl ?_
  refine AW_new hT hK hG 3 (ci := 2) (N := 1) tyX2 [.null] rfl (List.mem_of_getElem? (i := 52) (by decide +kernel)) ins_X2 ini_X2 rfl lay_X2 tyX2_ok (by decide) rfl (Nat.le_of_ble_eq_true rfl) rfl (Nat.le_of_ble_eq_true rfl) (Nat.le_of_ble_eq_true rfl) ?_
  refine AW_go (ctor := true) hT cl_X3 hK (fun _ => hct rfl) 4 1 (pc' := 9) (lo' := [some (.ref 1)]) (st' := [.ref 2, .ref 2, .ref 1]) (hp' := [.inr (5, [.null, .null, .null]), .inr (3, [.null, .null, .null, .null, .null, .int 0, .int 0, .int 0]), .inr (2, [.null])]) rfl ?_
  refine AW_callIN hT hK hG 5 [] [.ref 2, .ref 1] (in_X2 l0 [.inr (5, [.null, .null, .null]), .inr (3, [.null, .null, .null, .null, .null, .int 0, .int 0, .int 0]), .inr (2, [.null])] 2 _ rfl rfl) cw_X2_init lk_X3_11 im_X2_init rfl rfl rfl rfl rfl (Nat.le_of_ble_eq_true rfl) rfl (Nat.le_of_ble_eq_true rfl) (Nat.le_of_ble_eq_true rfl) (fun _ _ h => h.1) (AW_kc ?_)
  refine AW_go (ctor := true) hT cl_X3 hK (fun _ => hct rfl) 6 2 (pc' := 16) (lo' := [some (.ref 1)]) (st' := [.ref 1]) (hp' := [.inr (5, [.null, .null, .null]), .inr (3, [.ref 2, .null, .null, .null, .null, .int 0, .int 0, .int 0]), .inr (2, [.ref 3]), .inl (0, (12, .inl fun _ => 0))]) rfl ?_
  refine AW_new hT hK hG 8 (ci := 2) (N := 1) tyX2 [.null] rfl (List.mem_of_getElem? (i := 52) (by decide +kernel)) ins_X2 ini_X2 rfl lay_X2 tyX2_ok (by decide) rfl (Nat.le_of_ble_eq_true rfl) rfl (Nat.le_of_ble_eq_true rfl) (Nat.le_of_ble_eq_true rfl) ?_
  refine AW_go (ctor := true) hT cl_X3 hK (fun _ => hct rfl) 9 1 (pc' := 20) (lo' := [some (.ref 1)]) (st' := [.ref 4, .ref 4, .ref 1]) (hp' := [.inr (5, [.null, .null, .null]), .inr (3, [.ref 2, .null, .null, .null, .null, .int 0, .int 0, .int 0]), .inr (2, [.ref 3]), .inl (0, (12, .inl fun _ => 0)), .inr (2, [.null])]) rfl ?_
  refine AW_callIN hT hK hG 10 [] [.ref 4, .ref 1] (in_X2 l0 [.inr (5, [.null, .null, .null]), .inr (3, [.ref 2, .null, .null, .null, .null, .int 0, .int 0, .int 0]), .inr (2, [.ref 3]), .inl (0, (12, .inl fun _ => 0)), .inr (2, [.null])] 4 _ rfl rfl) cw_X2_init lk_X3_11 im_X2_init rfl rfl rfl rfl rfl (Nat.le_of_ble_eq_true rfl) rfl (Nat.le_of_ble_eq_true rfl) (Nat.le_of_ble_eq_true rfl) (fun _ _ h => h.1) (AW_kc ?_)
  refine AW_go (ctor := true) hT cl_X3 hK (fun _ => hct rfl) 11 2 (pc' := 27) (lo' := [some (.ref 1)]) (st' := [.ref 1]) (hp' := [.inr (5, [.null, .null, .null]), .inr (3, [.ref 2, .ref 4, .null, .null, .null, .int 0, .int 0, .int 0]), .inr (2, [.ref 3]), .inl (0, (12, .inl fun _ => 0)), .inr (2, [.ref 5]), .inl (0, (12, .inl fun _ => 0))]) rfl ?_
  refine AW_new hT hK hG 13 (ci := 2) (N := 1) tyX2 [.null] rfl (List.mem_of_getElem? (i := 52) (by decide +kernel)) ins_X2 ini_X2 rfl lay_X2 tyX2_ok (by decide) rfl (Nat.le_of_ble_eq_true rfl) rfl (Nat.le_of_ble_eq_true rfl) (Nat.le_of_ble_eq_true rfl) ?_
  refine AW_go (ctor := true) hT cl_X3 hK (fun _ => hct rfl) 14 1 (pc' := 31) (lo' := [some (.ref 1)]) (st' := [.ref 6, .ref 6, .ref 1]) (hp' := [.inr (5, [.null, .null, .null]), .inr (3, [.ref 2, .ref 4, .null, .null, .null, .int 0, .int 0, .int 0]), .inr (2, [.ref 3]), .inl (0, (12, .inl fun _ => 0)), .inr (2, [.ref 5]), .inl (0, (12, .inl fun _ => 0)), .inr (2, [.null])]) rfl ?_
  refine AW_callIN hT hK hG 15 [] [.ref 6, .ref 1] (in_X2 l0 [.inr (5, [.null, .null, .null]), .inr (3, [.ref 2, .ref 4, .null, .null, .null, .int 0, .int 0, .int 0]), .inr (2, [.ref 3]), .inl (0, (12, .inl fun _ => 0)), .inr (2, [.ref 5]), .inl (0, (12, .inl fun _ => 0)), .inr (2, [.null])] 6 _ rfl rfl) cw_X2_init lk_X3_11 im_X2_init rfl rfl rfl rfl rfl (Nat.le_of_ble_eq_true rfl) rfl (Nat.le_of_ble_eq_true rfl) (Nat.le_of_ble_eq_true rfl) (fun _ _ h => h.1) (AW_kc ?_)
  refine AW_go (ctor := true) hT cl_X3 hK (fun _ => hct rfl) 16 2 (pc' := 38) (lo' := [some (.ref 1)]) (st' := [.ref 1]) (hp' := [.inr (5, [.null, .null, .null]), .inr (3, [.ref 2, .ref 4, .ref 6, .null, .null, .int 0, .int 0, .int 0]), .inr (2, [.ref 3]), .inl (0, (12, .inl fun _ => 0)), .inr (2, [.ref 5]), .inl (0, (12, .inl fun _ => 0)), .inr (2, [.ref 7]), .inl (0, (12, .inl fun _ => 0))]) rfl ?_
  refine AW_new hT hK hG 18 (ci := 4) (N := 1) tyX4 [.null] rfl (List.mem_of_getElem? (i := 63) (by decide +kernel)) ins_X4 ini_X4 rfl lay_X4 tyX4_ok (by decide) rfl (Nat.le_of_ble_eq_true rfl) rfl (Nat.le_of_ble_eq_true rfl) (Nat.le_of_ble_eq_true rfl) ?_
  refine AW_go (ctor := true) hT cl_X3 hK (fun _ => hct rfl) 19 1 (pc' := 42) (lo' := [some (.ref 1)]) (st' := [.ref 8, .ref 8, .ref 1]) (hp' := [.inr (5, [.null, .null, .null]), .inr (3, [.ref 2, .ref 4, .ref 6, .null, .null, .int 0, .int 0, .int 0]), .inr (2, [.ref 3]), .inl (0, (12, .inl fun _ => 0)), .inr (2, [.ref 5]), .inl (0, (12, .inl fun _ => 0)), .inr (2, [.ref 7]), .inl (0, (12, .inl fun _ => 0)), .inr (4, [.null])]) rfl ?_
  refine AW_callIN hT hK hG 20 [] [.ref 8, .ref 1] (in_X4 l0 [.inr (5, [.null, .null, .null]), .inr (3, [.ref 2, .ref 4, .ref 6, .null, .null, .int 0, .int 0, .int 0]), .inr (2, [.ref 3]), .inl (0, (12, .inl fun _ => 0)), .inr (2, [.ref 5]), .inl (0, (12, .inl fun _ => 0)), .inr (2, [.ref 7]), .inl (0, (12, .inl fun _ => 0)), .inr (4, [.null])] 8 _ rfl rfl) cw_X4_init lk_X3_26 im_X4_init rfl rfl rfl rfl rfl (Nat.le_of_ble_eq_true rfl) rfl (Nat.le_of_ble_eq_true rfl) (Nat.le_of_ble_eq_true rfl) (fun _ _ h => h.1) (AW_kc ?_)
  refine AW_go (ctor := true) hT cl_X3 hK (fun _ => hct rfl) 21 2 (pc' := 49) (lo' := [some (.ref 1)]) (st' := [.ref 1]) (hp' := [.inr (5, [.null, .null, .null]), .inr (3, [.ref 2, .ref 4, .ref 6, .ref 8, .null, .int 0, .int 0, .int 0]), .inr (2, [.ref 3]), .inl (0, (12, .inl fun _ => 0)), .inr (2, [.ref 5]), .inl (0, (12, .inl fun _ => 0)), .inr (2, [.ref 7]), .inl (0, (12, .inl fun _ => 0)), .inr (4, [.ref 9]), .inl (0, (144, .inl fun _ => 0))]) rfl ?_
  refine AW_new hT hK hG 23 (ci := 4) (N := 1) tyX4 [.null] rfl (List.mem_of_getElem? (i := 63) (by decide +kernel)) ins_X4 ini_X4 rfl lay_X4 tyX4_ok (by decide) rfl (Nat.le_of_ble_eq_true rfl) rfl (Nat.le_of_ble_eq_true rfl) (Nat.le_of_ble_eq_true rfl) ?_
  refine AW_go (ctor := true) hT cl_X3 hK (fun _ => hct rfl) 24 1 (pc' := 53) (lo' := [some (.ref 1)]) (st' := [.ref 10, .ref 10, .ref 1]) (hp' := [.inr (5, [.null, .null, .null]), .inr (3, [.ref 2, .ref 4, .ref 6, .ref 8, .null, .int 0, .int 0, .int 0]), .inr (2, [.ref 3]), .inl (0, (12, .inl fun _ => 0)), .inr (2, [.ref 5]), .inl (0, (12, .inl fun _ => 0)), .inr (2, [.ref 7]), .inl (0, (12, .inl fun _ => 0)), .inr (4, [.ref 9]), .inl (0, (144, .inl fun _ => 0)), .inr (4, [.null])]) rfl ?_
  refine AW_callIN hT hK hG 25 [] [.ref 10, .ref 1] (in_X4 l0 [.inr (5, [.null, .null, .null]), .inr (3, [.ref 2, .ref 4, .ref 6, .ref 8, .null, .int 0, .int 0, .int 0]), .inr (2, [.ref 3]), .inl (0, (12, .inl fun _ => 0)), .inr (2, [.ref 5]), .inl (0, (12, .inl fun _ => 0)), .inr (2, [.ref 7]), .inl (0, (12, .inl fun _ => 0)), .inr (4, [.ref 9]), .inl (0, (144, .inl fun _ => 0)), .inr (4, [.null])] 10 _ rfl rfl) cw_X4_init lk_X3_26 im_X4_init rfl rfl rfl rfl rfl (Nat.le_of_ble_eq_true rfl) rfl (Nat.le_of_ble_eq_true rfl) (Nat.le_of_ble_eq_true rfl) (fun _ _ h => h.1) (AW_kc ?_)
  refine AW_go (ctor := true) hT cl_X3 hK (fun _ => hct rfl) 26 10 (pc' := 74) (lo' := [some (.ref 1)]) (st' := []) (hp' := [.inr (5, [.null, .null, .null]), .inr (3, [.ref 2, .ref 4, .ref 6, .ref 8, .ref 10, .int 0, .int 0, .int 0]), .inr (2, [.ref 3]), .inl (0, (12, .inl fun _ => 0)), .inr (2, [.ref 5]), .inl (0, (12, .inl fun _ => 0)), .inr (2, [.ref 7]), .inl (0, (12, .inl fun _ => 0)), .inr (4, [.ref 9]), .inl (0, (144, .inl fun _ => 0)), .inr (4, [.ref 11]), .inl (0, (144, .inl fun _ => 0))]) rfl ?_
  exact AW_vret hT hE 36 rfl (Nat.le_of_ble_eq_true rfl) (Nat.le_of_ble_eq_true rfl) ⟨rfl, rfl⟩
set_option maxRecDepth 100000 in
set_option maxHeartbeats 4000000 in
theorem in_X0 (l0 : Launch) : AMet l0 yX0_init cX0_init 1 none ({ frames := 2, cells := 12, slots := 342, locals := 40 } : Room) true [.ref 12] [.inr (5, [.ref 1, .null, .null]), .inr (3, [.ref 2, .ref 4, .ref 6, .ref 8, .ref 10, .int 0, .int 0, .int 0]), .inr (2, [.ref 3]), .inl (0, (12, .inl fun _ => 0)), .inr (2, [.ref 5]), .inl (0, (12, .inl fun _ => 0)), .inr (2, [.ref 7]), .inl (0, (12, .inl fun _ => 0)), .inr (4, [.ref 9]), .inl (0, (144, .inl fun _ => 0)), .inr (4, [.ref 11]), .inl (0, (144, .inl fun _ => 0)), .inr (0, [.null, .null, .null, .null, .null, .null, .int 0, .int 0])] (fun r h => r = none ∧ h = [.inr (5, [.ref 1, .null, .null]), .inr (3, [.ref 2, .ref 4, .ref 6, .ref 8, .ref 10, .int 0, .int 0, .int 0]), .inr (2, [.ref 3]), .inl (0, (12, .inl fun _ => 0)), .inr (2, [.ref 5]), .inl (0, (12, .inl fun _ => 0)), .inr (2, [.ref 7]), .inl (0, (12, .inl fun _ => 0)), .inr (4, [.ref 9]), .inl (0, (144, .inl fun _ => 0)), .inr (4, [.ref 11]), .inl (0, (144, .inl fun _ => 0)), .inr (0, [.ref 13, .ref 15, .ref 17, .ref 19, .ref 21, .ref 23, .int 0, .int 0]), .inr (2, [.ref 14]), .inl (0, (12, .inl fun _ => 0)), .inr (2, [.ref 16]), .inl (0, (12, .inl fun _ => 0)), .inr (2, [.ref 18]), .inl (0, (12, .inl fun _ => 0)), .inr (2, [.ref 20]), .inl (0, (12, .inl fun _ => 0)), .inr (4, [.ref 22]), .inl (0, (144, .inl fun _ => 0)), .inr (4, [.ref 24]), .inl (0, (144, .inl fun _ => 0))]) := by
  refine AMet_ofG (by decide +kernel) (by simp [Value.category]) (Nat.le_of_ble_eq_true rfl) (fun K hK hct hG hE => ?_)
  have hT := tt_X0_init
  refine AW_go (ctor := true) hT cl_X0 hK (fun _ => hct rfl) 0 1 (pc' := 1) (lo' := [some (.ref 12)]) (st' := [.ref 12]) (hp' := [.inr (5, [.ref 1, .null, .null]), .inr (3, [.ref 2, .ref 4, .ref 6, .ref 8, .ref 10, .int 0, .int 0, .int 0]), .inr (2, [.ref 3]), .inl (0, (12, .inl fun _ => 0)), .inr (2, [.ref 5]), .inl (0, (12, .inl fun _ => 0)), .inr (2, [.ref 7]), .inl (0, (12, .inl fun _ => 0)), .inr (4, [.ref 9]), .inl (0, (144, .inl fun _ => 0)), .inr (4, [.ref 11]), .inl (0, (144, .inl fun _ => 0)), .inr (0, [.null, .null, .null, .null, .null, .null, .int 0, .int 0])]) rfl ?_
  refine AW_obj hT hK 1 oi_X0 rfl rfl ?_
  refine AW_go (ctor := true) hT cl_X0 hK (fun _ => hct rfl) 2 1 (pc' := 5) (lo' := [some (.ref 12)]) (st' := [.ref 12]) (hp' := [.inr (5, [.ref 1, .null, .null]), .inr (3, [.ref 2, .ref 4, .ref 6, .ref 8, .ref 10, .int 0, .int 0, .int 0]), .inr (2, [.ref 3]), .inl (0, (12, .inl fun _ => 0)), .inr (2, [.ref 5]), .inl (0, (12, .inl fun _ => 0)), .inr (2, [.ref 7]), .inl (0, (12, .inl fun _ => 0)), .inr (4, [.ref 9]), .inl (0, (144, .inl fun _ => 0)), .inr (4, [.ref 11]), .inl (0, (144, .inl fun _ => 0)), .inr (0, [.null, .null, .null, .null, .null, .null, .int 0, .int 0])]) rfl ?_
  refine AW_new hT hK hG 3 (ci := 2) (N := 1) tyX2 [.null] rfl (List.mem_of_getElem? (i := 104) (by decide +kernel)) ins_X2 ini_X2 rfl lay_X2 tyX2_ok (by decide) rfl (Nat.le_of_ble_eq_true rfl) rfl (Nat.le_of_ble_eq_true rfl) (Nat.le_of_ble_eq_true rfl) ?_
  refine AW_go (ctor := true) hT cl_X0 hK (fun _ => hct rfl) 4 1 (pc' := 9) (lo' := [some (.ref 12)]) (st' := [.ref 13, .ref 13, .ref 12]) (hp' := [.inr (5, [.ref 1, .null, .null]), .inr (3, [.ref 2, .ref 4, .ref 6, .ref 8, .ref 10, .int 0, .int 0, .int 0]), .inr (2, [.ref 3]), .inl (0, (12, .inl fun _ => 0)), .inr (2, [.ref 5]), .inl (0, (12, .inl fun _ => 0)), .inr (2, [.ref 7]), .inl (0, (12, .inl fun _ => 0)), .inr (4, [.ref 9]), .inl (0, (144, .inl fun _ => 0)), .inr (4, [.ref 11]), .inl (0, (144, .inl fun _ => 0)), .inr (0, [.null, .null, .null, .null, .null, .null, .int 0, .int 0]), .inr (2, [.null])]) rfl ?_
  refine AW_callIN hT hK hG 5 [] [.ref 13, .ref 12] (in_X2 l0 [.inr (5, [.ref 1, .null, .null]), .inr (3, [.ref 2, .ref 4, .ref 6, .ref 8, .ref 10, .int 0, .int 0, .int 0]), .inr (2, [.ref 3]), .inl (0, (12, .inl fun _ => 0)), .inr (2, [.ref 5]), .inl (0, (12, .inl fun _ => 0)), .inr (2, [.ref 7]), .inl (0, (12, .inl fun _ => 0)), .inr (4, [.ref 9]), .inl (0, (144, .inl fun _ => 0)), .inr (4, [.ref 11]), .inl (0, (144, .inl fun _ => 0)), .inr (0, [.null, .null, .null, .null, .null, .null, .int 0, .int 0]), .inr (2, [.null])] 13 _ rfl rfl) cw_X2_init lk_X0_11 im_X2_init rfl rfl rfl rfl rfl (Nat.le_of_ble_eq_true rfl) rfl (Nat.le_of_ble_eq_true rfl) (Nat.le_of_ble_eq_true rfl) (fun _ _ h => h.1) (AW_kc ?_)
  refine AW_go (ctor := true) hT cl_X0 hK (fun _ => hct rfl) 6 2 (pc' := 16) (lo' := [some (.ref 12)]) (st' := [.ref 12]) (hp' := [.inr (5, [.ref 1, .null, .null]), .inr (3, [.ref 2, .ref 4, .ref 6, .ref 8, .ref 10, .int 0, .int 0, .int 0]), .inr (2, [.ref 3]), .inl (0, (12, .inl fun _ => 0)), .inr (2, [.ref 5]), .inl (0, (12, .inl fun _ => 0)), .inr (2, [.ref 7]), .inl (0, (12, .inl fun _ => 0)), .inr (4, [.ref 9]), .inl (0, (144, .inl fun _ => 0)), .inr (4, [.ref 11]), .inl (0, (144, .inl fun _ => 0)), .inr (0, [.ref 13, .null, .null, .null, .null, .null, .int 0, .int 0]), .inr (2, [.ref 14]), .inl (0, (12, .inl fun _ => 0))]) rfl ?_
  refine AW_new hT hK hG 8 (ci := 2) (N := 1) tyX2 [.null] rfl (List.mem_of_getElem? (i := 104) (by decide +kernel)) ins_X2 ini_X2 rfl lay_X2 tyX2_ok (by decide) rfl (Nat.le_of_ble_eq_true rfl) rfl (Nat.le_of_ble_eq_true rfl) (Nat.le_of_ble_eq_true rfl) ?_
  refine AW_go (ctor := true) hT cl_X0 hK (fun _ => hct rfl) 9 1 (pc' := 20) (lo' := [some (.ref 12)]) (st' := [.ref 15, .ref 15, .ref 12]) (hp' := [.inr (5, [.ref 1, .null, .null]), .inr (3, [.ref 2, .ref 4, .ref 6, .ref 8, .ref 10, .int 0, .int 0, .int 0]), .inr (2, [.ref 3]), .inl (0, (12, .inl fun _ => 0)), .inr (2, [.ref 5]), .inl (0, (12, .inl fun _ => 0)), .inr (2, [.ref 7]), .inl (0, (12, .inl fun _ => 0)), .inr (4, [.ref 9]), .inl (0, (144, .inl fun _ => 0)), .inr (4, [.ref 11]), .inl (0, (144, .inl fun _ => 0)), .inr (0, [.ref 13, .null, .null, .null, .null, .null, .int 0, .int 0]), .inr (2, [.ref 14]), .inl (0, (12, .inl fun _ => 0)), .inr (2, [.null])]) rfl ?_
  refine AW_callIN hT hK hG 10 [] [.ref 15, .ref 12] (in_X2 l0 [.inr (5, [.ref 1, .null, .null]), .inr (3, [.ref 2, .ref 4, .ref 6, .ref 8, .ref 10, .int 0, .int 0, .int 0]), .inr (2, [.ref 3]), .inl (0, (12, .inl fun _ => 0)), .inr (2, [.ref 5]), .inl (0, (12, .inl fun _ => 0)), .inr (2, [.ref 7]), .inl (0, (12, .inl fun _ => 0)), .inr (4, [.ref 9]), .inl (0, (144, .inl fun _ => 0)), .inr (4, [.ref 11]), .inl (0, (144, .inl fun _ => 0)), .inr (0, [.ref 13, .null, .null, .null, .null, .null, .int 0, .int 0]), .inr (2, [.ref 14]), .inl (0, (12, .inl fun _ => 0)), .inr (2, [.null])] 15 _ rfl rfl) cw_X2_init lk_X0_11 im_X2_init rfl rfl rfl rfl rfl (Nat.le_of_ble_eq_true rfl) rfl (Nat.le_of_ble_eq_true rfl) (Nat.le_of_ble_eq_true rfl) (fun _ _ h => h.1) (AW_kc ?_)
  refine AW_go (ctor := true) hT cl_X0 hK (fun _ => hct rfl) 11 2 (pc' := 27) (lo' := [some (.ref 12)]) (st' := [.ref 12]) (hp' := [.inr (5, [.ref 1, .null, .null]), .inr (3, [.ref 2, .ref 4, .ref 6, .ref 8, .ref 10, .int 0, .int 0, .int 0]), .inr (2, [.ref 3]), .inl (0, (12, .inl fun _ => 0)), .inr (2, [.ref 5]), .inl (0, (12, .inl fun _ => 0)), .inr (2, [.ref 7]), .inl (0, (12, .inl fun _ => 0)), .inr (4, [.ref 9]), .inl (0, (144, .inl fun _ => 0)), .inr (4, [.ref 11]), .inl (0, (144, .inl fun _ => 0)), .inr (0, [.ref 13, .ref 15, .null, .null, .null, .null, .int 0, .int 0]), .inr (2, [.ref 14]), .inl (0, (12, .inl fun _ => 0)), .inr (2, [.ref 16]), .inl (0, (12, .inl fun _ => 0))]) rfl ?_
  refine AW_new hT hK hG 13 (ci := 2) (N := 1) tyX2 [.null] rfl (List.mem_of_getElem? (i := 104) (by decide +kernel)) ins_X2 ini_X2 rfl lay_X2 tyX2_ok (by decide) rfl (Nat.le_of_ble_eq_true rfl) rfl (Nat.le_of_ble_eq_true rfl) (Nat.le_of_ble_eq_true rfl) ?_
  refine AW_go (ctor := true) hT cl_X0 hK (fun _ => hct rfl) 14 1 (pc' := 31) (lo' := [some (.ref 12)]) (st' := [.ref 17, .ref 17, .ref 12]) (hp' := [.inr (5, [.ref 1, .null, .null]), .inr (3, [.ref 2, .ref 4, .ref 6, .ref 8, .ref 10, .int 0, .int 0, .int 0]), .inr (2, [.ref 3]), .inl (0, (12, .inl fun _ => 0)), .inr (2, [.ref 5]), .inl (0, (12, .inl fun _ => 0)), .inr (2, [.ref 7]), .inl (0, (12, .inl fun _ => 0)), .inr (4, [.ref 9]), .inl (0, (144, .inl fun _ => 0)), .inr (4, [.ref 11]), .inl (0, (144, .inl fun _ => 0)), .inr (0, [.ref 13, .ref 15, .null, .null, .null, .null, .int 0, .int 0]), .inr (2, [.ref 14]), .inl (0, (12, .inl fun _ => 0)), .inr (2, [.ref 16]), .inl (0, (12, .inl fun _ => 0)), .inr (2, [.null])]) rfl ?_
  refine AW_callIN hT hK hG 15 [] [.ref 17, .ref 12] (in_X2 l0 [.inr (5, [.ref 1, .null, .null]), .inr (3, [.ref 2, .ref 4, .ref 6, .ref 8, .ref 10, .int 0, .int 0, .int 0]), .inr (2, [.ref 3]), .inl (0, (12, .inl fun _ => 0)), .inr (2, [.ref 5]), .inl (0, (12, .inl fun _ => 0)), .inr (2, [.ref 7]), .inl (0, (12, .inl fun _ => 0)), .inr (4, [.ref 9]), .inl (0, (144, .inl fun _ => 0)), .inr (4, [.ref 11]), .inl (0, (144, .inl fun _ => 0)), .inr (0, [.ref 13, .ref 15, .null, .null, .null, .null, .int 0, .int 0]), .inr (2, [.ref 14]), .inl (0, (12, .inl fun _ => 0)), .inr (2, [.ref 16]), .inl (0, (12, .inl fun _ => 0)), .inr (2, [.null])] 17 _ rfl rfl) cw_X2_init lk_X0_11 im_X2_init rfl rfl rfl rfl rfl (Nat.le_of_ble_eq_true rfl) rfl (Nat.le_of_ble_eq_true rfl) (Nat.le_of_ble_eq_true rfl) (fun _ _ h => h.1) (AW_kc ?_)
  refine AW_go (ctor := true) hT cl_X0 hK (fun _ => hct rfl) 16 2 (pc' := 38) (lo' := [some (.ref 12)]) (st' := [.ref 12]) (hp' := [.inr (5, [.ref 1, .null, .null]), .inr (3, [.ref 2, .ref 4, .ref 6, .ref 8, .ref 10, .int 0, .int 0, .int 0]), .inr (2, [.ref 3]), .inl (0, (12, .inl fun _ => 0)), .inr (2, [.ref 5]), .inl (0, (12, .inl fun _ => 0)), .inr (2, [.ref 7]), .inl (0, (12, .inl fun _ => 0)), .inr (4, [.ref 9]), .inl (0, (144, .inl fun _ => 0)), .inr (4, [.ref 11]), .inl (0, (144, .inl fun _ => 0)), .inr (0, [.ref 13, .ref 15, .ref 17, .null, .null, .null, .int 0, .int 0]), .inr (2, [.ref 14]), .inl (0, (12, .inl fun _ => 0)), .inr (2, [.ref 16]), .inl (0, (12, .inl fun _ => 0)), .inr (2, [.ref 18]), .inl (0, (12, .inl fun _ => 0))]) rfl ?_
  refine AW_new hT hK hG 18 (ci := 2) (N := 1) tyX2 [.null] rfl (List.mem_of_getElem? (i := 104) (by decide +kernel)) ins_X2 ini_X2 rfl lay_X2 tyX2_ok (by decide) rfl (Nat.le_of_ble_eq_true rfl) rfl (Nat.le_of_ble_eq_true rfl) (Nat.le_of_ble_eq_true rfl) ?_
  refine AW_go (ctor := true) hT cl_X0 hK (fun _ => hct rfl) 19 1 (pc' := 42) (lo' := [some (.ref 12)]) (st' := [.ref 19, .ref 19, .ref 12]) (hp' := [.inr (5, [.ref 1, .null, .null]), .inr (3, [.ref 2, .ref 4, .ref 6, .ref 8, .ref 10, .int 0, .int 0, .int 0]), .inr (2, [.ref 3]), .inl (0, (12, .inl fun _ => 0)), .inr (2, [.ref 5]), .inl (0, (12, .inl fun _ => 0)), .inr (2, [.ref 7]), .inl (0, (12, .inl fun _ => 0)), .inr (4, [.ref 9]), .inl (0, (144, .inl fun _ => 0)), .inr (4, [.ref 11]), .inl (0, (144, .inl fun _ => 0)), .inr (0, [.ref 13, .ref 15, .ref 17, .null, .null, .null, .int 0, .int 0]), .inr (2, [.ref 14]), .inl (0, (12, .inl fun _ => 0)), .inr (2, [.ref 16]), .inl (0, (12, .inl fun _ => 0)), .inr (2, [.ref 18]), .inl (0, (12, .inl fun _ => 0)), .inr (2, [.null])]) rfl ?_
  refine AW_callIN hT hK hG 20 [] [.ref 19, .ref 12] (in_X2 l0 [.inr (5, [.ref 1, .null, .null]), .inr (3, [.ref 2, .ref 4, .ref 6, .ref 8, .ref 10, .int 0, .int 0, .int 0]), .inr (2, [.ref 3]), .inl (0, (12, .inl fun _ => 0)), .inr (2, [.ref 5]), .inl (0, (12, .inl fun _ => 0)), .inr (2, [.ref 7]), .inl (0, (12, .inl fun _ => 0)), .inr (4, [.ref 9]), .inl (0, (144, .inl fun _ => 0)), .inr (4, [.ref 11]), .inl (0, (144, .inl fun _ => 0)), .inr (0, [.ref 13, .ref 15, .ref 17, .null, .null, .null, .int 0, .int 0]), .inr (2, [.ref 14]), .inl (0, (12, .inl fun _ => 0)), .inr (2, [.ref 16]), .inl (0, (12, .inl fun _ => 0)), .inr (2, [.ref 18]), .inl (0, (12, .inl fun _ => 0)), .inr (2, [.null])] 19 _ rfl rfl) cw_X2_init lk_X0_11 im_X2_init rfl rfl rfl rfl rfl (Nat.le_of_ble_eq_true rfl) rfl (Nat.le_of_ble_eq_true rfl) (Nat.le_of_ble_eq_true rfl) (fun _ _ h => h.1) (AW_kc ?_)
  refine AW_go (ctor := true) hT cl_X0 hK (fun _ => hct rfl) 21 2 (pc' := 49) (lo' := [some (.ref 12)]) (st' := [.ref 12]) (hp' := [.inr (5, [.ref 1, .null, .null]), .inr (3, [.ref 2, .ref 4, .ref 6, .ref 8, .ref 10, .int 0, .int 0, .int 0]), .inr (2, [.ref 3]), .inl (0, (12, .inl fun _ => 0)), .inr (2, [.ref 5]), .inl (0, (12, .inl fun _ => 0)), .inr (2, [.ref 7]), .inl (0, (12, .inl fun _ => 0)), .inr (4, [.ref 9]), .inl (0, (144, .inl fun _ => 0)), .inr (4, [.ref 11]), .inl (0, (144, .inl fun _ => 0)), .inr (0, [.ref 13, .ref 15, .ref 17, .ref 19, .null, .null, .int 0, .int 0]), .inr (2, [.ref 14]), .inl (0, (12, .inl fun _ => 0)), .inr (2, [.ref 16]), .inl (0, (12, .inl fun _ => 0)), .inr (2, [.ref 18]), .inl (0, (12, .inl fun _ => 0)), .inr (2, [.ref 20]), .inl (0, (12, .inl fun _ => 0))]) rfl ?_
  refine AW_new hT hK hG 23 (ci := 4) (N := 1) tyX4 [.null] rfl (List.mem_of_getElem? (i := 106) (by decide +kernel)) ins_X4 ini_X4 rfl lay_X4 tyX4_ok (by decide) rfl (Nat.le_of_ble_eq_true rfl) rfl (Nat.le_of_ble_eq_true rfl) (Nat.le_of_ble_eq_true rfl) ?_
  refine AW_go (ctor := true) hT cl_X0 hK (fun _ => hct rfl) 24 1 (pc' := 53) (lo' := [some (.ref 12)]) (st' := [.ref 21, .ref 21, .ref 12]) (hp' := [.inr (5, [.ref 1, .null, .null]), .inr (3, [.ref 2, .ref 4, .ref 6, .ref 8, .ref 10, .int 0, .int 0, .int 0]), .inr (2, [.ref 3]), .inl (0, (12, .inl fun _ => 0)), .inr (2, [.ref 5]), .inl (0, (12, .inl fun _ => 0)), .inr (2, [.ref 7]), .inl (0, (12, .inl fun _ => 0)), .inr (4, [.ref 9]), .inl (0, (144, .inl fun _ => 0)), .inr (4, [.ref 11]), .inl (0, (144, .inl fun _ => 0)), .inr (0, [.ref 13, .ref 15, .ref 17, .ref 19, .null, .null, .int 0, .int 0]), .inr (2, [.ref 14]), .inl (0, (12, .inl fun _ => 0)), .inr (2, [.ref 16]), .inl (0, (12, .inl fun _ => 0)), .inr (2, [.ref 18]), .inl (0, (12, .inl fun _ => 0)), .inr (2, [.ref 20]), .inl (0, (12, .inl fun _ => 0)), .inr (4, [.null])]) rfl ?_
  refine AW_callIN hT hK hG 25 [] [.ref 21, .ref 12] (in_X4 l0 [.inr (5, [.ref 1, .null, .null]), .inr (3, [.ref 2, .ref 4, .ref 6, .ref 8, .ref 10, .int 0, .int 0, .int 0]), .inr (2, [.ref 3]), .inl (0, (12, .inl fun _ => 0)), .inr (2, [.ref 5]), .inl (0, (12, .inl fun _ => 0)), .inr (2, [.ref 7]), .inl (0, (12, .inl fun _ => 0)), .inr (4, [.ref 9]), .inl (0, (144, .inl fun _ => 0)), .inr (4, [.ref 11]), .inl (0, (144, .inl fun _ => 0)), .inr (0, [.ref 13, .ref 15, .ref 17, .ref 19, .null, .null, .int 0, .int 0]), .inr (2, [.ref 14]), .inl (0, (12, .inl fun _ => 0)), .inr (2, [.ref 16]), .inl (0, (12, .inl fun _ => 0)), .inr (2, [.ref 18]), .inl (0, (12, .inl fun _ => 0)), .inr (2, [.ref 20]), .inl (0, (12, .inl fun _ => 0)), .inr (4, [.null])] 21 _ rfl rfl) cw_X4_init lk_X0_29 im_X4_init rfl rfl rfl rfl rfl (Nat.le_of_ble_eq_true rfl) rfl (Nat.le_of_ble_eq_true rfl) (Nat.le_of_ble_eq_true rfl) (fun _ _ h => h.1) (AW_kc ?_)
  refine AW_go (ctor := true) hT cl_X0 hK (fun _ => hct rfl) 26 2 (pc' := 60) (lo' := [some (.ref 12)]) (st' := [.ref 12]) (hp' := [.inr (5, [.ref 1, .null, .null]), .inr (3, [.ref 2, .ref 4, .ref 6, .ref 8, .ref 10, .int 0, .int 0, .int 0]), .inr (2, [.ref 3]), .inl (0, (12, .inl fun _ => 0)), .inr (2, [.ref 5]), .inl (0, (12, .inl fun _ => 0)), .inr (2, [.ref 7]), .inl (0, (12, .inl fun _ => 0)), .inr (4, [.ref 9]), .inl (0, (144, .inl fun _ => 0)), .inr (4, [.ref 11]), .inl (0, (144, .inl fun _ => 0)), .inr (0, [.ref 13, .ref 15, .ref 17, .ref 19, .ref 21, .null, .int 0, .int 0]), .inr (2, [.ref 14]), .inl (0, (12, .inl fun _ => 0)), .inr (2, [.ref 16]), .inl (0, (12, .inl fun _ => 0)), .inr (2, [.ref 18]), .inl (0, (12, .inl fun _ => 0)), .inr (2, [.ref 20]), .inl (0, (12, .inl fun _ => 0)), .inr (4, [.ref 22]), .inl (0, (144, .inl fun _ => 0))]) rfl ?_
  refine AW_new hT hK hG 28 (ci := 4) (N := 1) tyX4 [.null] rfl (List.mem_of_getElem? (i := 106) (by decide +kernel)) ins_X4 ini_X4 rfl lay_X4 tyX4_ok (by decide) rfl (Nat.le_of_ble_eq_true rfl) rfl (Nat.le_of_ble_eq_true rfl) (Nat.le_of_ble_eq_true rfl) ?_
  refine AW_go (ctor := true) hT cl_X0 hK (fun _ => hct rfl) 29 1 (pc' := 64) (lo' := [some (.ref 12)]) (st' := [.ref 23, .ref 23, .ref 12]) (hp' := [.inr (5, [.ref 1, .null, .null]), .inr (3, [.ref 2, .ref 4, .ref 6, .ref 8, .ref 10, .int 0, .int 0, .int 0]), .inr (2, [.ref 3]), .inl (0, (12, .inl fun _ => 0)), .inr (2, [.ref 5]), .inl (0, (12, .inl fun _ => 0)), .inr (2, [.ref 7]), .inl (0, (12, .inl fun _ => 0)), .inr (4, [.ref 9]), .inl (0, (144, .inl fun _ => 0)), .inr (4, [.ref 11]), .inl (0, (144, .inl fun _ => 0)), .inr (0, [.ref 13, .ref 15, .ref 17, .ref 19, .ref 21, .null, .int 0, .int 0]), .inr (2, [.ref 14]), .inl (0, (12, .inl fun _ => 0)), .inr (2, [.ref 16]), .inl (0, (12, .inl fun _ => 0)), .inr (2, [.ref 18]), .inl (0, (12, .inl fun _ => 0)), .inr (2, [.ref 20]), .inl (0, (12, .inl fun _ => 0)), .inr (4, [.ref 22]), .inl (0, (144, .inl fun _ => 0)), .inr (4, [.null])]) rfl ?_
  refine AW_callIN hT hK hG 30 [] [.ref 23, .ref 12] (in_X4 l0 [.inr (5, [.ref 1, .null, .null]), .inr (3, [.ref 2, .ref 4, .ref 6, .ref 8, .ref 10, .int 0, .int 0, .int 0]), .inr (2, [.ref 3]), .inl (0, (12, .inl fun _ => 0)), .inr (2, [.ref 5]), .inl (0, (12, .inl fun _ => 0)), .inr (2, [.ref 7]), .inl (0, (12, .inl fun _ => 0)), .inr (4, [.ref 9]), .inl (0, (144, .inl fun _ => 0)), .inr (4, [.ref 11]), .inl (0, (144, .inl fun _ => 0)), .inr (0, [.ref 13, .ref 15, .ref 17, .ref 19, .ref 21, .null, .int 0, .int 0]), .inr (2, [.ref 14]), .inl (0, (12, .inl fun _ => 0)), .inr (2, [.ref 16]), .inl (0, (12, .inl fun _ => 0)), .inr (2, [.ref 18]), .inl (0, (12, .inl fun _ => 0)), .inr (2, [.ref 20]), .inl (0, (12, .inl fun _ => 0)), .inr (4, [.ref 22]), .inl (0, (144, .inl fun _ => 0)), .inr (4, [.null])] 23 _ rfl rfl) cw_X4_init lk_X0_29 im_X4_init rfl rfl rfl rfl rfl (Nat.le_of_ble_eq_true rfl) rfl (Nat.le_of_ble_eq_true rfl) (Nat.le_of_ble_eq_true rfl) (fun _ _ h => h.1) (AW_kc ?_)
  refine AW_go (ctor := true) hT cl_X0 hK (fun _ => hct rfl) 31 7 (pc' := 80) (lo' := [some (.ref 12)]) (st' := []) (hp' := [.inr (5, [.ref 1, .null, .null]), .inr (3, [.ref 2, .ref 4, .ref 6, .ref 8, .ref 10, .int 0, .int 0, .int 0]), .inr (2, [.ref 3]), .inl (0, (12, .inl fun _ => 0)), .inr (2, [.ref 5]), .inl (0, (12, .inl fun _ => 0)), .inr (2, [.ref 7]), .inl (0, (12, .inl fun _ => 0)), .inr (4, [.ref 9]), .inl (0, (144, .inl fun _ => 0)), .inr (4, [.ref 11]), .inl (0, (144, .inl fun _ => 0)), .inr (0, [.ref 13, .ref 15, .ref 17, .ref 19, .ref 21, .ref 23, .int 0, .int 0]), .inr (2, [.ref 14]), .inl (0, (12, .inl fun _ => 0)), .inr (2, [.ref 16]), .inl (0, (12, .inl fun _ => 0)), .inr (2, [.ref 18]), .inl (0, (12, .inl fun _ => 0)), .inr (2, [.ref 20]), .inl (0, (12, .inl fun _ => 0)), .inr (4, [.ref 22]), .inl (0, (144, .inl fun _ => 0)), .inr (4, [.ref 24]), .inl (0, (144, .inl fun _ => 0))]) rfl ?_
  exact AW_vret hT hE 38 rfl (Nat.le_of_ble_eq_true rfl) (Nat.le_of_ble_eq_true rfl) ⟨rfl, rfl⟩
end AZD
end
section
/-! a new Row, whatever the heap before it -/
section AZR
variable {K : az_K} {own : String} {cc : ByteArray} {R0 : Room} {l0 : Launch} {tb : List (Nat × Instr)} {cells slots pc : Nat} {lo : List (Option Value)} {st rest : List Value} {hp : az_H} {n0 : Nat}
theorem az_row_pf (hp : az_H) : az_run 2 1 TX2 tyX2 true flt_X2 ((tb_X2_init.drop 5).take 1) 9 [some (.ref hp.length)] [.ref (hp ++ [(.inr (2, [.null]) : az_E)]).length, .ref hp.length] ((hp ++ [(.inr (2, [.null]) : az_E)]) ++ [.inl (0, (12, .inl fun _ => 0))]) = some (12, [some (.ref hp.length)], [], hp ++ [.inr (2, [.ref (hp.length + 1)]), .inl (0, (12, .inl fun _ => 0))]) := by
  have hl : (hp ++ [(.inr (2, [.null]) : az_E)]).length = hp.length + 1 := by simp
  rw [hl]
  have h1 : ((hp ++ [(.inr (2, [.null]) : az_E)]) ++ [.inl (0, (12, .inl fun _ => 0))])[hp.length]? = some (.inr (2, [.null])) := by simp
  have h2 : ((hp ++ [(.inr (2, [.null]) : az_E)]) ++ [(.inl (0, (12, .inl fun _ => 0)) : az_E)]).set hp.length (.inr (2, [.ref (hp.length + 1)])) = hp ++ [.inr (2, [.ref (hp.length + 1)]), .inl (0, (12, .inl fun _ => 0))] := by simp
  have h3 : az_pf 2 1 TX2 tyX2 true flt_X2 ((hp ++ [(.inr (2, [.null]) : az_E)]) ++ [.inl (0, (12, .inl fun _ => 0))]) 9 hp.length (.ref (hp.length + 1)) = some (hp ++ [.inr (2, [.ref (hp.length + 1)]), .inl (0, (12, .inl fun _ => 0))]) := by
    rw [← h2]
    unfold az_pf
    rw [h1]
    rfl
  show (match az_ph [some (.ref hp.length)] [] (az_pf 2 1 TX2 tyX2 true flt_X2 ((hp ++ [(.inr (2, [.null]) : az_E)]) ++ [.inl (0, (12, .inl fun _ => 0))]) 9 hp.length (.ref (hp.length + 1))) with
    | some q => az_run 2 1 TX2 tyX2 true flt_X2 [] 12 q.1 q.2.1 q.2.2
    | none => none) = _
  rw [h3]
  rfl
theorem az_vin_mono {n n' : Nat} (h : n ≤ n') {v : Value} (h1 : az_vin n v = true) : az_vin n' v = true := by
  cases v with
  | ref k => exact Nat.blt_eq.mpr (Nat.lt_of_lt_of_le (Nat.blt_eq.mp h1) h)
  | _ => rfl
theorem az_lin_mono {n n' : Nat} (h : n ≤ n') {l : List Value} (h1 : az_lin n l = true) : az_lin n' l = true :=
  List.all_eq_true.mpr fun v hv => az_vin_mono h (List.all_eq_true.mp h1 v hv)
theorem az_lo_mono {n n' : Nat} (h : n ≤ n') {l : List (Option Value)} (h1 : l.all (az_oin n) = true) : l.all (az_oin n') = true := by
  refine List.all_eq_true.mpr fun v hv => ?_
  have := List.all_eq_true.mp h1 v hv
  cases v with
  | none => rfl
  | some w => exact az_vin_mono h this
theorem az_fit_mono {n n' : Nat} (h : n ≤ n') {hp : az_H} (h1 : az_fit n hp = true) : az_fit n' hp = true := by
  refine List.all_eq_true.mpr fun v hv => ?_
  have := List.all_eq_true.mp h1 v hv
  cases v with
  | inl _ => rfl
  | inr q => exact az_lin_mono h this
theorem AW_row {host : String} {ci N : Nat} {T : u_T} {ty : Nat → FieldType} {flt : List (Nat × Nat × Nat)} (hT : az_Tb cc tb) (hC : az_Cl own ci N T ty flt) (hK : az_OK K own cc R0 l0) (hG : az_Gr2 K n0) (i : Nat) {idx jdx : Nat}
    (hi0 : tb[i]? = some (pc, .new idx)) (hi1 : tb[i + 1]? = some (pc + 3, .dup)) (hi2 : tb[i + 2]? = some (pc + 4, .invokespecial jdx)) (hcl : Cond.classLink own idx RX2 ∈ lw_tbl) (hl : Cond.methodLinkNest own jdx yX2_init host ∈ lw_tbl)
    (hn : n0 ≤ hp.length) (hfit : (az_fit hp.length hp && (lo.all (az_oin hp.length) && az_lin hp.length rest)) = true) (hrm : az_rm ({ frames := 1, cells := 1, slots := 12, locals := 20 } : Room) R0 1 (.ref hp.length :: rest) = true) (hcells : cells + 2 ≤ R0.cells) (hslots : slots + 13 ≤ R0.slots)
    (kk : AW K (cells + 2) (slots + 13) (pc + 7) lo (.ref hp.length :: rest) (hp ++ [.inr (2, [.ref (hp.length + 1)]), .inl (0, (12, .inl fun _ => 0))])) : AW K cells slots pc lo rest hp := by
  have hfit' := hfit
  rw [Bool.and_eq_true, Bool.and_eq_true] at hfit'
  obtain ⟨hf, hlo, hre⟩ := hfit'
  have hl1 : (hp ++ [(.inr (2, [.null]) : az_E)]).length = hp.length + 1 := by simp
  refine AW_new hT hK hG i (ci := 2) (N := 1) tyX2 [.null] hi0 hcl ins_X2 ini_X2 rfl lay_X2 tyX2_ok (by decide) rfl hn hfit (by omega) (by omega) ?_
  refine AW_x hK hC (ctor := false) (fun h => by cases h) (hT.at hi1) (q := (lo, .ref hp.length :: .ref hp.length :: rest, hp ++ [.inr (2, [.null])])) rfl ?_
  have hfit2 : (az_fit (hp ++ [(.inr (2, [.null]) : az_E)]).length (hp ++ [.inr (2, [.null])]) && Nat.blt hp.length (hp ++ [(.inr (2, [.null]) : az_E)]).length) = true := by
    rw [hl1, Bool.and_eq_true]
    refine ⟨?_, Nat.blt_eq.mpr (by omega)⟩
    unfold az_fit
    rw [List.all_append, Bool.and_eq_true]
    exact ⟨az_fit_mono (by omega) hf, rfl⟩
  refine AW_callIN hT hK hG (i + 2) [] (.ref hp.length :: rest) (in_X2 l0 (hp ++ [.inr (2, [.null])]) hp.length _ hfit2 (az_row_pf hp)) cw_X2_init hl im_X2_init rfl hi2 rfl rfl hrm (by rw [hl1]; omega) ?_ (show cells + 1 + 1 ≤ _ by omega) (show slots + 1 + 12 ≤ _ by omega) (fun _ _ h => h.1) (AW_kc kk)
  rw [hl1, Bool.and_eq_true]
  refine ⟨az_lo_mono (by omega) hlo, ?_⟩
  unfold az_lin
  rw [List.all_cons, Bool.and_eq_true]
  exact ⟨Nat.blt_eq.mpr (by omega), az_lin_mono (by omega) hre⟩
end AZR
end
section
section AZD2
set_option maxRecDepth 100000 in
set_option maxHeartbeats 4000000 in
theorem in_X1 (l0 : Launch) : AMet l0 yX1_init cX1_init 1 none ({ frames := 2, cells := 10, slots := 65, locals := 40 } : Room) true [.ref 25] [.inr (5, [.ref 1, .ref 12, .null]), .inr (3, [.ref 2, .ref 4, .ref 6, .ref 8, .ref 10, .int 0, .int 0, .int 0]), .inr (2, [.ref 3]), .inl (0, (12, .inl fun _ => 0)), .inr (2, [.ref 5]), .inl (0, (12, .inl fun _ => 0)), .inr (2, [.ref 7]), .inl (0, (12, .inl fun _ => 0)), .inr (4, [.ref 9]), .inl (0, (144, .inl fun _ => 0)), .inr (4, [.ref 11]), .inl (0, (144, .inl fun _ => 0)), .inr (0, [.ref 13, .ref 15, .ref 17, .ref 19, .ref 21, .ref 23, .int 0, .int 0]), .inr (2, [.ref 14]), .inl (0, (12, .inl fun _ => 0)), .inr (2, [.ref 16]), .inl (0, (12, .inl fun _ => 0)), .inr (2, [.ref 18]), .inl (0, (12, .inl fun _ => 0)), .inr (2, [.ref 20]), .inl (0, (12, .inl fun _ => 0)), .inr (4, [.ref 22]), .inl (0, (144, .inl fun _ => 0)), .inr (4, [.ref 24]), .inl (0, (144, .inl fun _ => 0)), .inr (1, [.null, .null, .null, .null, .null, .int 0, .int 0, .int 0])] (fun r h => r = none ∧ h = [.inr (5, [.ref 1, .ref 12, .null]), .inr (3, [.ref 2, .ref 4, .ref 6, .ref 8, .ref 10, .int 0, .int 0, .int 0]), .inr (2, [.ref 3]), .inl (0, (12, .inl fun _ => 0)), .inr (2, [.ref 5]), .inl (0, (12, .inl fun _ => 0)), .inr (2, [.ref 7]), .inl (0, (12, .inl fun _ => 0)), .inr (4, [.ref 9]), .inl (0, (144, .inl fun _ => 0)), .inr (4, [.ref 11]), .inl (0, (144, .inl fun _ => 0)), .inr (0, [.ref 13, .ref 15, .ref 17, .ref 19, .ref 21, .ref 23, .int 0, .int 0]), .inr (2, [.ref 14]), .inl (0, (12, .inl fun _ => 0)), .inr (2, [.ref 16]), .inl (0, (12, .inl fun _ => 0)), .inr (2, [.ref 18]), .inl (0, (12, .inl fun _ => 0)), .inr (2, [.ref 20]), .inl (0, (12, .inl fun _ => 0)), .inr (4, [.ref 22]), .inl (0, (144, .inl fun _ => 0)), .inr (4, [.ref 24]), .inl (0, (144, .inl fun _ => 0)), .inr (1, [.ref 26, .ref 28, .ref 30, .ref 32, .ref 34, .int 0, .int 0, .int 0]), .inr (2, [.ref 27]), .inl (0, (12, .inl fun _ => 0)), .inr (2, [.ref 29]), .inl (0, (12, .inl fun _ => 0)), .inr (2, [.ref 31]), .inl (0, (12, .inl fun _ => 0)), .inr (2, [.ref 33]), .inl (0, (12, .inl fun _ => 0)), .inr (2, [.ref 35]), .inl (0, (12, .inl fun _ => 0))]) := by
  refine AMet_ofG (by decide +kernel) (by simp [Value.category]) (Nat.le_of_ble_eq_true rfl) (fun K hK hct hG hE => ?_)
  have hT := tt_X1_init
  refine AW_go (ctor := true) hT cl_X1 hK (fun _ => hct rfl) 0 1 (pc' := 1) (lo' := [some (.ref 25)]) (st' := [.ref 25]) (hp' := [.inr (5, [.ref 1, .ref 12, .null]), .inr (3, [.ref 2, .ref 4, .ref 6, .ref 8, .ref 10, .int 0, .int 0, .int 0]), .inr (2, [.ref 3]), .inl (0, (12, .inl fun _ => 0)), .inr (2, [.ref 5]), .inl (0, (12, .inl fun _ => 0)), .inr (2, [.ref 7]), .inl (0, (12, .inl fun _ => 0)), .inr (4, [.ref 9]), .inl (0, (144, .inl fun _ => 0)), .inr (4, [.ref 11]), .inl (0, (144, .inl fun _ => 0)), .inr (0, [.ref 13, .ref 15, .ref 17, .ref 19, .ref 21, .ref 23, .int 0, .int 0]), .inr (2, [.ref 14]), .inl (0, (12, .inl fun _ => 0)), .inr (2, [.ref 16]), .inl (0, (12, .inl fun _ => 0)), .inr (2, [.ref 18]), .inl (0, (12, .inl fun _ => 0)), .inr (2, [.ref 20]), .inl (0, (12, .inl fun _ => 0)), .inr (4, [.ref 22]), .inl (0, (144, .inl fun _ => 0)), .inr (4, [.ref 24]), .inl (0, (144, .inl fun _ => 0)), .inr (1, [.null, .null, .null, .null, .null, .int 0, .int 0, .int 0])]) rfl ?_
  refine AW_obj hT hK 1 oi_X1 rfl rfl ?_
  refine AW_go (ctor := true) hT cl_X1 hK (fun _ => hct rfl) 2 1 (pc' := 5) (lo' := [some (.ref 25)]) (st' := [.ref 25]) (hp' := [.inr (5, [.ref 1, .ref 12, .null]), .inr (3, [.ref 2, .ref 4, .ref 6, .ref 8, .ref 10, .int 0, .int 0, .int 0]), .inr (2, [.ref 3]), .inl (0, (12, .inl fun _ => 0)), .inr (2, [.ref 5]), .inl (0, (12, .inl fun _ => 0)), .inr (2, [.ref 7]), .inl (0, (12, .inl fun _ => 0)), .inr (4, [.ref 9]), .inl (0, (144, .inl fun _ => 0)), .inr (4, [.ref 11]), .inl (0, (144, .inl fun _ => 0)), .inr (0, [.ref 13, .ref 15, .ref 17, .ref 19, .ref 21, .ref 23, .int 0, .int 0]), .inr (2, [.ref 14]), .inl (0, (12, .inl fun _ => 0)), .inr (2, [.ref 16]), .inl (0, (12, .inl fun _ => 0)), .inr (2, [.ref 18]), .inl (0, (12, .inl fun _ => 0)), .inr (2, [.ref 20]), .inl (0, (12, .inl fun _ => 0)), .inr (4, [.ref 22]), .inl (0, (144, .inl fun _ => 0)), .inr (4, [.ref 24]), .inl (0, (144, .inl fun _ => 0)), .inr (1, [.null, .null, .null, .null, .null, .int 0, .int 0, .int 0])]) rfl ?_
  refine AW_row hT cl_X1 hK hG 3 rfl rfl rfl (List.mem_of_getElem? (i := 139) (by decide +kernel)) lk_X1_11 (Nat.le_of_ble_eq_true rfl) (by decide +kernel) rfl (Nat.le_of_ble_eq_true rfl) (Nat.le_of_ble_eq_true rfl) ?_
  refine AW_go (ctor := true) hT cl_X1 hK (fun _ => hct rfl) 6 2 (pc' := 16) (lo' := [some (.ref 25)]) (st' := [.ref 25]) (hp' := [.inr (5, [.ref 1, .ref 12, .null]), .inr (3, [.ref 2, .ref 4, .ref 6, .ref 8, .ref 10, .int 0, .int 0, .int 0]), .inr (2, [.ref 3]), .inl (0, (12, .inl fun _ => 0)), .inr (2, [.ref 5]), .inl (0, (12, .inl fun _ => 0)), .inr (2, [.ref 7]), .inl (0, (12, .inl fun _ => 0)), .inr (4, [.ref 9]), .inl (0, (144, .inl fun _ => 0)), .inr (4, [.ref 11]), .inl (0, (144, .inl fun _ => 0)), .inr (0, [.ref 13, .ref 15, .ref 17, .ref 19, .ref 21, .ref 23, .int 0, .int 0]), .inr (2, [.ref 14]), .inl (0, (12, .inl fun _ => 0)), .inr (2, [.ref 16]), .inl (0, (12, .inl fun _ => 0)), .inr (2, [.ref 18]), .inl (0, (12, .inl fun _ => 0)), .inr (2, [.ref 20]), .inl (0, (12, .inl fun _ => 0)), .inr (4, [.ref 22]), .inl (0, (144, .inl fun _ => 0)), .inr (4, [.ref 24]), .inl (0, (144, .inl fun _ => 0)), .inr (1, [.ref 26, .null, .null, .null, .null, .int 0, .int 0, .int 0]), .inr (2, [.ref 27]), .inl (0, (12, .inl fun _ => 0))]) rfl ?_
  refine AW_row hT cl_X1 hK hG 8 rfl rfl rfl (List.mem_of_getElem? (i := 139) (by decide +kernel)) lk_X1_11 (Nat.le_of_ble_eq_true rfl) (by decide +kernel) rfl (Nat.le_of_ble_eq_true rfl) (Nat.le_of_ble_eq_true rfl) ?_
  refine AW_go (ctor := true) hT cl_X1 hK (fun _ => hct rfl) 11 2 (pc' := 27) (lo' := [some (.ref 25)]) (st' := [.ref 25]) (hp' := [.inr (5, [.ref 1, .ref 12, .null]), .inr (3, [.ref 2, .ref 4, .ref 6, .ref 8, .ref 10, .int 0, .int 0, .int 0]), .inr (2, [.ref 3]), .inl (0, (12, .inl fun _ => 0)), .inr (2, [.ref 5]), .inl (0, (12, .inl fun _ => 0)), .inr (2, [.ref 7]), .inl (0, (12, .inl fun _ => 0)), .inr (4, [.ref 9]), .inl (0, (144, .inl fun _ => 0)), .inr (4, [.ref 11]), .inl (0, (144, .inl fun _ => 0)), .inr (0, [.ref 13, .ref 15, .ref 17, .ref 19, .ref 21, .ref 23, .int 0, .int 0]), .inr (2, [.ref 14]), .inl (0, (12, .inl fun _ => 0)), .inr (2, [.ref 16]), .inl (0, (12, .inl fun _ => 0)), .inr (2, [.ref 18]), .inl (0, (12, .inl fun _ => 0)), .inr (2, [.ref 20]), .inl (0, (12, .inl fun _ => 0)), .inr (4, [.ref 22]), .inl (0, (144, .inl fun _ => 0)), .inr (4, [.ref 24]), .inl (0, (144, .inl fun _ => 0)), .inr (1, [.ref 26, .ref 28, .null, .null, .null, .int 0, .int 0, .int 0]), .inr (2, [.ref 27]), .inl (0, (12, .inl fun _ => 0)), .inr (2, [.ref 29]), .inl (0, (12, .inl fun _ => 0))]) rfl ?_
  refine AW_row hT cl_X1 hK hG 13 rfl rfl rfl (List.mem_of_getElem? (i := 139) (by decide +kernel)) lk_X1_11 (Nat.le_of_ble_eq_true rfl) (by decide +kernel) rfl (Nat.le_of_ble_eq_true rfl) (Nat.le_of_ble_eq_true rfl) ?_
  refine AW_go (ctor := true) hT cl_X1 hK (fun _ => hct rfl) 16 2 (pc' := 38) (lo' := [some (.ref 25)]) (st' := [.ref 25]) (hp' := [.inr (5, [.ref 1, .ref 12, .null]), .inr (3, [.ref 2, .ref 4, .ref 6, .ref 8, .ref 10, .int 0, .int 0, .int 0]), .inr (2, [.ref 3]), .inl (0, (12, .inl fun _ => 0)), .inr (2, [.ref 5]), .inl (0, (12, .inl fun _ => 0)), .inr (2, [.ref 7]), .inl (0, (12, .inl fun _ => 0)), .inr (4, [.ref 9]), .inl (0, (144, .inl fun _ => 0)), .inr (4, [.ref 11]), .inl (0, (144, .inl fun _ => 0)), .inr (0, [.ref 13, .ref 15, .ref 17, .ref 19, .ref 21, .ref 23, .int 0, .int 0]), .inr (2, [.ref 14]), .inl (0, (12, .inl fun _ => 0)), .inr (2, [.ref 16]), .inl (0, (12, .inl fun _ => 0)), .inr (2, [.ref 18]), .inl (0, (12, .inl fun _ => 0)), .inr (2, [.ref 20]), .inl (0, (12, .inl fun _ => 0)), .inr (4, [.ref 22]), .inl (0, (144, .inl fun _ => 0)), .inr (4, [.ref 24]), .inl (0, (144, .inl fun _ => 0)), .inr (1, [.ref 26, .ref 28, .ref 30, .null, .null, .int 0, .int 0, .int 0]), .inr (2, [.ref 27]), .inl (0, (12, .inl fun _ => 0)), .inr (2, [.ref 29]), .inl (0, (12, .inl fun _ => 0)), .inr (2, [.ref 31]), .inl (0, (12, .inl fun _ => 0))]) rfl ?_
  refine AW_row hT cl_X1 hK hG 18 rfl rfl rfl (List.mem_of_getElem? (i := 139) (by decide +kernel)) lk_X1_11 (Nat.le_of_ble_eq_true rfl) (by decide +kernel) rfl (Nat.le_of_ble_eq_true rfl) (Nat.le_of_ble_eq_true rfl) ?_
  refine AW_go (ctor := true) hT cl_X1 hK (fun _ => hct rfl) 21 2 (pc' := 49) (lo' := [some (.ref 25)]) (st' := [.ref 25]) (hp' := [.inr (5, [.ref 1, .ref 12, .null]), .inr (3, [.ref 2, .ref 4, .ref 6, .ref 8, .ref 10, .int 0, .int 0, .int 0]), .inr (2, [.ref 3]), .inl (0, (12, .inl fun _ => 0)), .inr (2, [.ref 5]), .inl (0, (12, .inl fun _ => 0)), .inr (2, [.ref 7]), .inl (0, (12, .inl fun _ => 0)), .inr (4, [.ref 9]), .inl (0, (144, .inl fun _ => 0)), .inr (4, [.ref 11]), .inl (0, (144, .inl fun _ => 0)), .inr (0, [.ref 13, .ref 15, .ref 17, .ref 19, .ref 21, .ref 23, .int 0, .int 0]), .inr (2, [.ref 14]), .inl (0, (12, .inl fun _ => 0)), .inr (2, [.ref 16]), .inl (0, (12, .inl fun _ => 0)), .inr (2, [.ref 18]), .inl (0, (12, .inl fun _ => 0)), .inr (2, [.ref 20]), .inl (0, (12, .inl fun _ => 0)), .inr (4, [.ref 22]), .inl (0, (144, .inl fun _ => 0)), .inr (4, [.ref 24]), .inl (0, (144, .inl fun _ => 0)), .inr (1, [.ref 26, .ref 28, .ref 30, .ref 32, .null, .int 0, .int 0, .int 0]), .inr (2, [.ref 27]), .inl (0, (12, .inl fun _ => 0)), .inr (2, [.ref 29]), .inl (0, (12, .inl fun _ => 0)), .inr (2, [.ref 31]), .inl (0, (12, .inl fun _ => 0)), .inr (2, [.ref 33]), .inl (0, (12, .inl fun _ => 0))]) rfl ?_
  refine AW_row hT cl_X1 hK hG 23 rfl rfl rfl (List.mem_of_getElem? (i := 139) (by decide +kernel)) lk_X1_11 (Nat.le_of_ble_eq_true rfl) (by decide +kernel) rfl (Nat.le_of_ble_eq_true rfl) (Nat.le_of_ble_eq_true rfl) ?_
  refine AW_go (ctor := true) hT cl_X1 hK (fun _ => hct rfl) 26 10 (pc' := 74) (lo' := [some (.ref 25)]) (st' := []) (hp' := [.inr (5, [.ref 1, .ref 12, .null]), .inr (3, [.ref 2, .ref 4, .ref 6, .ref 8, .ref 10, .int 0, .int 0, .int 0]), .inr (2, [.ref 3]), .inl (0, (12, .inl fun _ => 0)), .inr (2, [.ref 5]), .inl (0, (12, .inl fun _ => 0)), .inr (2, [.ref 7]), .inl (0, (12, .inl fun _ => 0)), .inr (4, [.ref 9]), .inl (0, (144, .inl fun _ => 0)), .inr (4, [.ref 11]), .inl (0, (144, .inl fun _ => 0)), .inr (0, [.ref 13, .ref 15, .ref 17, .ref 19, .ref 21, .ref 23, .int 0, .int 0]), .inr (2, [.ref 14]), .inl (0, (12, .inl fun _ => 0)), .inr (2, [.ref 16]), .inl (0, (12, .inl fun _ => 0)), .inr (2, [.ref 18]), .inl (0, (12, .inl fun _ => 0)), .inr (2, [.ref 20]), .inl (0, (12, .inl fun _ => 0)), .inr (4, [.ref 22]), .inl (0, (144, .inl fun _ => 0)), .inr (4, [.ref 24]), .inl (0, (144, .inl fun _ => 0)), .inr (1, [.ref 26, .ref 28, .ref 30, .ref 32, .ref 34, .int 0, .int 0, .int 0]), .inr (2, [.ref 27]), .inl (0, (12, .inl fun _ => 0)), .inr (2, [.ref 29]), .inl (0, (12, .inl fun _ => 0)), .inr (2, [.ref 31]), .inl (0, (12, .inl fun _ => 0)), .inr (2, [.ref 33]), .inl (0, (12, .inl fun _ => 0)), .inr (2, [.ref 35]), .inl (0, (12, .inl fun _ => 0))]) rfl ?_
  exact AW_vret hT hE 36 rfl (Nat.le_of_ble_eq_true rfl) (Nat.le_of_ble_eq_true rfl) ⟨rfl, rfl⟩
end AZD2
end
section
section AZD3
set_option maxRecDepth 100000 in
set_option maxHeartbeats 4000000 in
theorem in_X5 (l0 : Launch) : AMet l0 yX5_init cX5_init 1 none ({ frames := 3, cells := 35, slots := 760, locals := 60 } : Room) true [.ref 0] [.inr (5, [.null, .null, .null])] (fun r h => r = none ∧ h = [.inr (5, [.ref 1, .ref 12, .ref 25]), .inr (3, [.ref 2, .ref 4, .ref 6, .ref 8, .ref 10, .int 0, .int 0, .int 0]), .inr (2, [.ref 3]), .inl (0, (12, .inl fun _ => 0)), .inr (2, [.ref 5]), .inl (0, (12, .inl fun _ => 0)), .inr (2, [.ref 7]), .inl (0, (12, .inl fun _ => 0)), .inr (4, [.ref 9]), .inl (0, (144, .inl fun _ => 0)), .inr (4, [.ref 11]), .inl (0, (144, .inl fun _ => 0)), .inr (0, [.ref 13, .ref 15, .ref 17, .ref 19, .ref 21, .ref 23, .int 0, .int 0]), .inr (2, [.ref 14]), .inl (0, (12, .inl fun _ => 0)), .inr (2, [.ref 16]), .inl (0, (12, .inl fun _ => 0)), .inr (2, [.ref 18]), .inl (0, (12, .inl fun _ => 0)), .inr (2, [.ref 20]), .inl (0, (12, .inl fun _ => 0)), .inr (4, [.ref 22]), .inl (0, (144, .inl fun _ => 0)), .inr (4, [.ref 24]), .inl (0, (144, .inl fun _ => 0)), .inr (1, [.ref 26, .ref 28, .ref 30, .ref 32, .ref 34, .int 0, .int 0, .int 0]), .inr (2, [.ref 27]), .inl (0, (12, .inl fun _ => 0)), .inr (2, [.ref 29]), .inl (0, (12, .inl fun _ => 0)), .inr (2, [.ref 31]), .inl (0, (12, .inl fun _ => 0)), .inr (2, [.ref 33]), .inl (0, (12, .inl fun _ => 0)), .inr (2, [.ref 35]), .inl (0, (12, .inl fun _ => 0))]) := by
  refine AMet_ofG (by decide +kernel) (by simp [Value.category]) (Nat.le_of_ble_eq_true rfl) (fun K hK hct hG hE => ?_)
  have hT := tt_X5_init
  refine AW_go (ctor := true) hT cl_X5 hK (fun _ => hct rfl) 0 1 (pc' := 1) (lo' := [some (.ref 0)]) (st' := [.ref 0]) (hp' := [.inr (5, [.null, .null, .null])]) rfl ?_
  refine AW_obj hT hK 1 oi_X5 rfl rfl ?_
  refine AW_go (ctor := true) hT cl_X5 hK (fun _ => hct rfl) 2 1 (pc' := 5) (lo' := [some (.ref 0)]) (st' := [.ref 0]) (hp' := [.inr (5, [.null, .null, .null])]) rfl ?_
  refine AW_new hT hK hG 3 (ci := 3) (N := 8) tyX3 [.null, .null, .null, .null, .null, .int 0, .int 0, .int 0] rfl (List.mem_of_getElem? (i := 46) (by decide +kernel)) ins_X3 ini_X3 rfl lay_X3 tyX3_ok (by decide) rfl (Nat.le_of_ble_eq_true rfl) rfl (Nat.le_of_ble_eq_true rfl) (Nat.le_of_ble_eq_true rfl) ?_
  refine AW_go (ctor := true) hT cl_X5 hK (fun _ => hct rfl) 4 1 (pc' := 9) (lo' := [some (.ref 0)]) (st' := [.ref 1, .ref 1, .ref 0]) (hp' := [.inr (5, [.null, .null, .null]), .inr (3, [.null, .null, .null, .null, .null, .int 0, .int 0, .int 0])]) rfl ?_
  refine AW_callIN hT hK hG 5 [] [.ref 1, .ref 0] (in_X3 l0) cw_X3_init lk_X5_9 im_X3_init rfl rfl rfl rfl rfl (Nat.le_of_ble_eq_true rfl) rfl (Nat.le_of_ble_eq_true rfl) (Nat.le_of_ble_eq_true rfl) (fun _ _ h => h.1) (AW_kc ?_)
  refine AW_go (ctor := true) hT cl_X5 hK (fun _ => hct rfl) 6 2 (pc' := 16) (lo' := [some (.ref 0)]) (st' := [.ref 0]) (hp' := [.inr (5, [.ref 1, .null, .null]), .inr (3, [.ref 2, .ref 4, .ref 6, .ref 8, .ref 10, .int 0, .int 0, .int 0]), .inr (2, [.ref 3]), .inl (0, (12, .inl fun _ => 0)), .inr (2, [.ref 5]), .inl (0, (12, .inl fun _ => 0)), .inr (2, [.ref 7]), .inl (0, (12, .inl fun _ => 0)), .inr (4, [.ref 9]), .inl (0, (144, .inl fun _ => 0)), .inr (4, [.ref 11]), .inl (0, (144, .inl fun _ => 0))]) rfl ?_
  refine AW_new hT hK hG 8 (ci := 0) (N := 8) tyX0 [.null, .null, .null, .null, .null, .null, .int 0, .int 0] rfl (List.mem_of_getElem? (i := 98) (by decide +kernel)) ins_X0 ini_X0 rfl lay_X0 tyX0_ok (by decide) rfl (Nat.le_of_ble_eq_true rfl) rfl (Nat.le_of_ble_eq_true rfl) (Nat.le_of_ble_eq_true rfl) ?_
  refine AW_go (ctor := true) hT cl_X5 hK (fun _ => hct rfl) 9 1 (pc' := 20) (lo' := [some (.ref 0)]) (st' := [.ref 12, .ref 12, .ref 0]) (hp' := [.inr (5, [.ref 1, .null, .null]), .inr (3, [.ref 2, .ref 4, .ref 6, .ref 8, .ref 10, .int 0, .int 0, .int 0]), .inr (2, [.ref 3]), .inl (0, (12, .inl fun _ => 0)), .inr (2, [.ref 5]), .inl (0, (12, .inl fun _ => 0)), .inr (2, [.ref 7]), .inl (0, (12, .inl fun _ => 0)), .inr (4, [.ref 9]), .inl (0, (144, .inl fun _ => 0)), .inr (4, [.ref 11]), .inl (0, (144, .inl fun _ => 0)), .inr (0, [.null, .null, .null, .null, .null, .null, .int 0, .int 0])]) rfl ?_
  refine AW_callIN hT hK hG 10 [] [.ref 12, .ref 0] (in_X0 l0) cw_X0_init lk_X5_18 im_X0_init rfl rfl rfl rfl rfl (Nat.le_of_ble_eq_true rfl) rfl (Nat.le_of_ble_eq_true rfl) (Nat.le_of_ble_eq_true rfl) (fun _ _ h => h.1) (AW_kc ?_)
  refine AW_go (ctor := true) hT cl_X5 hK (fun _ => hct rfl) 11 2 (pc' := 27) (lo' := [some (.ref 0)]) (st' := [.ref 0]) (hp' := [.inr (5, [.ref 1, .ref 12, .null]), .inr (3, [.ref 2, .ref 4, .ref 6, .ref 8, .ref 10, .int 0, .int 0, .int 0]), .inr (2, [.ref 3]), .inl (0, (12, .inl fun _ => 0)), .inr (2, [.ref 5]), .inl (0, (12, .inl fun _ => 0)), .inr (2, [.ref 7]), .inl (0, (12, .inl fun _ => 0)), .inr (4, [.ref 9]), .inl (0, (144, .inl fun _ => 0)), .inr (4, [.ref 11]), .inl (0, (144, .inl fun _ => 0)), .inr (0, [.ref 13, .ref 15, .ref 17, .ref 19, .ref 21, .ref 23, .int 0, .int 0]), .inr (2, [.ref 14]), .inl (0, (12, .inl fun _ => 0)), .inr (2, [.ref 16]), .inl (0, (12, .inl fun _ => 0)), .inr (2, [.ref 18]), .inl (0, (12, .inl fun _ => 0)), .inr (2, [.ref 20]), .inl (0, (12, .inl fun _ => 0)), .inr (4, [.ref 22]), .inl (0, (144, .inl fun _ => 0)), .inr (4, [.ref 24]), .inl (0, (144, .inl fun _ => 0))]) rfl ?_
  refine AW_new hT hK hG 13 (ci := 1) (N := 8) tyX1 [.null, .null, .null, .null, .null, .int 0, .int 0, .int 0] rfl (List.mem_of_getElem? (i := 133) (by decide +kernel)) ins_X1 ini_X1 rfl lay_X1 tyX1_ok (by decide) rfl (Nat.le_of_ble_eq_true rfl) rfl (Nat.le_of_ble_eq_true rfl) (Nat.le_of_ble_eq_true rfl) ?_
  refine AW_go (ctor := true) hT cl_X5 hK (fun _ => hct rfl) 14 1 (pc' := 31) (lo' := [some (.ref 0)]) (st' := [.ref 25, .ref 25, .ref 0]) (hp' := [.inr (5, [.ref 1, .ref 12, .null]), .inr (3, [.ref 2, .ref 4, .ref 6, .ref 8, .ref 10, .int 0, .int 0, .int 0]), .inr (2, [.ref 3]), .inl (0, (12, .inl fun _ => 0)), .inr (2, [.ref 5]), .inl (0, (12, .inl fun _ => 0)), .inr (2, [.ref 7]), .inl (0, (12, .inl fun _ => 0)), .inr (4, [.ref 9]), .inl (0, (144, .inl fun _ => 0)), .inr (4, [.ref 11]), .inl (0, (144, .inl fun _ => 0)), .inr (0, [.ref 13, .ref 15, .ref 17, .ref 19, .ref 21, .ref 23, .int 0, .int 0]), .inr (2, [.ref 14]), .inl (0, (12, .inl fun _ => 0)), .inr (2, [.ref 16]), .inl (0, (12, .inl fun _ => 0)), .inr (2, [.ref 18]), .inl (0, (12, .inl fun _ => 0)), .inr (2, [.ref 20]), .inl (0, (12, .inl fun _ => 0)), .inr (4, [.ref 22]), .inl (0, (144, .inl fun _ => 0)), .inr (4, [.ref 24]), .inl (0, (144, .inl fun _ => 0)), .inr (1, [.null, .null, .null, .null, .null, .int 0, .int 0, .int 0])]) rfl ?_
  refine AW_callIN hT hK hG 15 [] [.ref 25, .ref 0] (in_X1 l0) cw_X1_init lk_X5_25 im_X1_init rfl rfl rfl rfl rfl (Nat.le_of_ble_eq_true rfl) rfl (Nat.le_of_ble_eq_true rfl) (Nat.le_of_ble_eq_true rfl) (fun _ _ h => h.1) (AW_kc ?_)
  refine AW_go (ctor := true) hT cl_X5 hK (fun _ => hct rfl) 16 1 (pc' := 37) (lo' := [some (.ref 0)]) (st' := []) (hp' := [.inr (5, [.ref 1, .ref 12, .ref 25]), .inr (3, [.ref 2, .ref 4, .ref 6, .ref 8, .ref 10, .int 0, .int 0, .int 0]), .inr (2, [.ref 3]), .inl (0, (12, .inl fun _ => 0)), .inr (2, [.ref 5]), .inl (0, (12, .inl fun _ => 0)), .inr (2, [.ref 7]), .inl (0, (12, .inl fun _ => 0)), .inr (4, [.ref 9]), .inl (0, (144, .inl fun _ => 0)), .inr (4, [.ref 11]), .inl (0, (144, .inl fun _ => 0)), .inr (0, [.ref 13, .ref 15, .ref 17, .ref 19, .ref 21, .ref 23, .int 0, .int 0]), .inr (2, [.ref 14]), .inl (0, (12, .inl fun _ => 0)), .inr (2, [.ref 16]), .inl (0, (12, .inl fun _ => 0)), .inr (2, [.ref 18]), .inl (0, (12, .inl fun _ => 0)), .inr (2, [.ref 20]), .inl (0, (12, .inl fun _ => 0)), .inr (4, [.ref 22]), .inl (0, (144, .inl fun _ => 0)), .inr (4, [.ref 24]), .inl (0, (144, .inl fun _ => 0)), .inr (1, [.ref 26, .ref 28, .ref 30, .ref 32, .ref 34, .int 0, .int 0, .int 0]), .inr (2, [.ref 27]), .inl (0, (12, .inl fun _ => 0)), .inr (2, [.ref 29]), .inl (0, (12, .inl fun _ => 0)), .inr (2, [.ref 31]), .inl (0, (12, .inl fun _ => 0)), .inr (2, [.ref 33]), .inl (0, (12, .inl fun _ => 0)), .inr (2, [.ref 35]), .inl (0, (12, .inl fun _ => 0))]) rfl ?_
  exact AW_vret hT hE 17 rfl (Nat.le_of_ble_eq_true rfl) (Nat.le_of_ble_eq_true rfl) ⟨rfl, rfl⟩
end AZD3
end
section
/-! walks that keep how far the heap has grown at least -/
section AZLW
def AL (K : az_K) (lb cells slots pc : Nat) (lo : List (Option Value)) (st : List Value) (hp : az_H) : Prop :=
  match K with
  | (p, l, e, R, s, m, args, below, meth, c, D, cA, A, Ag, Q, nL) =>
    ∀ (ad : Nat → Nat) (H : Heap) (locs : List Loc) (ls : Array Slot), s.heap.size + lb ≤ H.size → Ag ad → va_P D vwCl (az_w cA ad hp) H → va_D A (az_w cA ad hp) → va_S A s.heap H locs → az_ls ad ls nL lo →
      W p l e R s m args below meth c H locs cells slots Q (F0 m pc ls (st.map (az_v ad)))
variable {K : az_K} {own : String} {cc : ByteArray} {R0 : Room} {l0 : Launch} {tb : List (Nat × Instr)} {lb cells slots pc : Nat} {lo : List (Option Value)} {st rest : List Value} {hp : az_H}
theorem AL_x (hK : az_OK K own cc R0 l0) {i : Instr} {q : List (Option Value) × List Value × az_H} (hd : decode cc pc = .ok (i, az_len i)) (hx : az_x 99 0 TN tyN false [] i lo st hp = some q)
    (k : AL K lb cells slots (pc + az_len i) q.1 q.2.1 q.2.2) : AL K lb cells slots pc lo st hp := by
  obtain ⟨p, l, e, R, s, m, args, below, meth, c, D, cA, A, Ag, Q, nL⟩ := K
  obtain ⟨hexec, hb, hml, hlk, hown, hev, hKn, hA, -, -⟩ := hK
  intro ad H locs ls hlb hag hP hD hS hl
  have lg : ∀ {i : Nat} {v : Value}, az_lg lo i = some v → ls[i]? = some (.val (az_v ad v)) := by
    intro i v h
    unfold az_lg at h
    split at h
    · rename_i w hw
      cases h
      exact az_ls_at hl hw
    · cases h
  unfold az_x at hx
  split at hx
  · cases hx; exact lv_iconst hexec hb hd rfl (k ad H locs ls hlb hag hP hD hS hl)
  · cases hx; exact lv_bipush hexec hb hd rfl (k ad H locs ls hlb hag hP hD hS hl)
  · cases hx; exact lv_sipush hexec hb hd rfl (k ad H locs ls hlb hag hP hD hS hl)
  · cases hx; exact lv_lconst hexec hb hd rfl (k ad H locs ls hlb hag hP hD hS hl)
  · split at hx
    · rename_i hg; cases hx; exact lv_iload_n hexec hb hd rfl (lg hg) (k ad H locs ls hlb hag hP hD hS hl)
    · cases hx
  · split at hx
    · rename_i hg; cases hx; exact lv_iload hexec hb hd (lg hg) (k ad H locs ls hlb hag hP hD hS hl)
    · cases hx
  · split at hx
    · rename_i hg; cases hx; exact lv_lload_n hexec hb hd rfl (lg hg) (k ad H locs ls hlb hag hP hD hS hl)
    · cases hx
  · split at hx
    · rename_i hg; cases hx; exact lv_lload hexec hb hd (lg hg) (k ad H locs ls hlb hag hP hD hS hl)
    · cases hx
  · split at hx
    · rename_i hg; cases hx; exact lv_aload_n hexec hb hd rfl (lg hg) (k ad H locs ls hlb hag hP hD hS hl)
    · cases hx
  · split at hx
    · rename_i hg; cases hx; exact lv_aload hexec hb hd (lg hg) (k ad H locs ls hlb hag hP hD hS hl)
    · cases hx
  · split at hx
    · unfold az_pl at hx
      split at hx
      · rename_i hs
        cases hx
        exact lv_istore_n (x := _) hexec hb hd rfl hl.1 (by rw [← hl.2]; exact (az_s1_of hs).2.1) rfl (fun ls' hl' => k ad H locs ls' hlb hag hP hD hS (az_ls_s1 hl.2 hs hl'))
      · cases hx
    · cases hx
  · split at hx
    · unfold az_pl at hx
      split at hx
      · rename_i hs
        cases hx
        exact lv_istore hexec hb hd hl.1 (by rw [← hl.2]; exact (az_s1_of hs).2.1) rfl (fun ls' hl' => k ad H locs ls' hlb hag hP hD hS (az_ls_s1 hl.2 hs hl'))
      · cases hx
    · cases hx
  · split at hx
    · unfold az_pl at hx
      split at hx
      · rename_i hs
        cases hx
        exact lv_lstore_n hexec hb hd rfl hl.1 (by rw [← hl.2]; exact (az_s2_of hs).2.1) rfl (fun ls' hl' => k ad H locs ls' hlb hag hP hD hS (az_ls_s2 hl.2 hs hl'))
      · cases hx
    · cases hx
  · split at hx
    · unfold az_pl at hx
      split at hx
      · rename_i hs
        cases hx
        exact lv_lstore hexec hb hd hl.1 (by rw [← hl.2]; exact (az_s2_of hs).2.1) rfl (fun ls' hl' => k ad H locs ls' hlb hag hP hD hS (az_ls_s2 hl.2 hs hl'))
      · cases hx
    · cases hx
  · split at hx
    · unfold az_pl at hx
      split at hx
      · rename_i hs
        cases hx
        exact lv_astore_n hexec hb hd rfl hl.1 (by rw [← hl.2]; exact (az_s1_of hs).2.1) rfl (fun ls' hl' => k ad H locs ls' hlb hag hP hD hS (az_ls_s1 hl.2 hs hl'))
      · cases hx
    · cases hx
  · split at hx
    · unfold az_pl at hx
      split at hx
      · rename_i hs
        cases hx
        exact lv_astore hexec hb hd hl.1 (by rw [← hl.2]; exact (az_s1_of hs).2.1) rfl (fun ls' hl' => k ad H locs ls' hlb hag hP hD hS (az_ls_s1 hl.2 hs hl'))
      · cases hx
    · cases hx
  · rename_i kk n
    split at hx
    · rename_i x hg
      unfold az_pl at hx
      split at hx
      · rename_i hs
        cases hx
        have hm : (kk, Value.int x) ∈ az_lv ad 0 lo := by
          unfold az_lg at hg
          split at hg
          · rename_i w hw
            cases hg
            exact (az_lv_mem ad lo 0 _).mpr ⟨kk, _, hw, by rw [Nat.zero_add]; rfl⟩
          · cases hg
        obtain ⟨j, hj⟩ := List.getElem?_of_mem hm
        exact lv_iinc hexec hb hd hl.1 hj rfl (by rw [← hl.2]; exact (az_s1_of hs).2.1) rfl (fun ls' hl' => k ad H locs ls' hlb hag hP hD hS (az_ls_s1 hl.2 hs hl'))
      · cases hx
    · cases hx
  · split at hx
    · cases hx; exact lv_iadd hexec hb hd (k ad H locs ls hlb hag hP hD hS hl)
    · cases hx
  · split at hx
    · cases hx; exact lv_isub hexec hb hd (k ad H locs ls hlb hag hP hD hS hl)
    · cases hx
  · split at hx
    · cases hx; exact lv_imul hexec hb hd (k ad H locs ls hlb hag hP hD hS hl)
    · cases hx
  · split at hx
    · cases hx; exact lv_iand hexec hb hd (k ad H locs ls hlb hag hP hD hS hl)
    · cases hx
  · split at hx
    · cases hx; exact lv_ior hexec hb hd (k ad H locs ls hlb hag hP hD hS hl)
    · cases hx
  · split at hx
    · cases hx; exact lv_ixor hexec hb hd (k ad H locs ls hlb hag hP hD hS hl)
    · cases hx
  · split at hx
    · cases hx; exact lv_ishl hexec hb hd (k ad H locs ls hlb hag hP hD hS hl)
    · cases hx
  · split at hx
    · cases hx; exact lv_ishr hexec hb hd (k ad H locs ls hlb hag hP hD hS hl)
    · cases hx
  · split at hx
    · cases hx; exact lv_iushr hexec hb hd rfl (k ad H locs ls hlb hag hP hD hS hl)
    · cases hx
  · split at hx
    · cases hx; exact lv_i2l hexec hb hd rfl (k ad H locs ls hlb hag hP hD hS hl)
    · cases hx
  · split at hx
    · cases hx; exact lv_ladd hexec hb hd (k ad H locs ls hlb hag hP hD hS hl)
    · cases hx
  · split at hx
    · cases hx; exact lv_lmul hexec hb hd (k ad H locs ls hlb hag hP hD hS hl)
    · cases hx
  · split at hx
    · cases hx; exact W.lcmp hexec hb hd (k ad H locs ls hlb hag hP hD hS hl)
    · cases hx
  · split at hx
    · split at hx
      · rename_i hcat
        cases hx
        exact lv_dup hexec hb hd (by rw [az_v_cat]; exact Nat.eq_of_beq_eq_true hcat) (k ad H locs ls hlb hag hP hD hS hl)
      · cases hx
    · cases hx
  · split at hx
    · split at hx
      · rename_i hcat
        rw [Bool.and_eq_true] at hcat
        cases hx
        exact lv_dup2_11 hexec hb hd (by rw [az_v_cat]; exact Nat.eq_of_beq_eq_true hcat.1) (by rw [az_v_cat]; exact Nat.eq_of_beq_eq_true hcat.2) (k ad H locs ls hlb hag hP hD hS hl)
      · cases hx
    · cases hx
  · split at hx
    · split at hx
      · rename_i hn
        cases hx
        unfold az_al at hn
        split at hn
        · rename_i t n0 f0 hk0
          split at hn
          · rename_i hb2
            cases hn
            have ht2 : t ≤ 0 := Nat.le_of_ble_eq_true hb2
            have he := az_w_at (cA := cA) (ad := ad) hk0
            obtain ⟨ty9, hty9⟩ : ∃ ty9, (az_tys cA)[t]? = some (cA t, ty9) := by
              have h09 : t = 0 := by omega
              subst h09
              exact ⟨_, rfl⟩
            exact va_alen hexec hb hKn hP _ t he hty9 rfl hd (k ad H locs ls hlb hag hP hD hS hl)
          · cases hn
        · cases hn
      · cases hx
    · cases hx
  · split at hx
    · unfold az_ps at hx
      split at hx
      · rename_i hg
        unfold az_gf at hg
        split at hg
        · rename_i f0 q0 hf hk0
          simp at hf
        · cases hg
      · cases hx
    · cases hx
  · split at hx
    · unfold az_ph at hx
      split at hx
      · rename_i hp' hg
        unfold az_pf at hg
        split at hg
        · rename_i f0 q0 hf hk0
          simp at hf
        · cases hg
      · cases hx
    · cases hx
  · cases hx
theorem AL_run (hK : az_OK K own cc R0 l0) : ∀ (bl : List (Nat × Instr)) (_ : ∀ x ∈ bl, decode cc x.1 = .ok (x.2, az_len x.2)) {pc : Nat} {lo : List (Option Value)} {st : List Value} {hp : az_H} {pc' : Nat} {lo' : List (Option Value)} {st' : List Value} {hp' : az_H}
      (_ : az_run 99 0 TN tyN false [] bl pc lo st hp = some (pc', lo', st', hp')) (_ : AL K lb cells slots pc' lo' st' hp'), AL K lb cells slots pc lo st hp
  | [], _, pc, lo, st, hp, pc', lo', st', hp', hx, k => by
    cases hx
    exact k
  | x :: t, hd, pc, lo, st, hp, pc', lo', st', hp', hx, k => by
    unfold az_run at hx
    split at hx
    · rename_i hpc
      have hpc : x.1 = pc := Nat.eq_of_beq_eq_true hpc
      subst hpc
      split at hx
      · rename_i q hq
        exact AL_x hK (hd x List.mem_cons_self) hq (AL_run hK t (fun y hy => hd y (List.mem_cons_of_mem _ hy)) hx k)
      · cases hx
    · cases hx
theorem AL_g (hT : az_Tb cc tb) (hK : az_OK K own cc R0 l0) (i n : Nat) {pc' : Nat} {lo' : List (Option Value)} {st' : List Value} {hp' : az_H}
    (hx : az_run 99 0 TN tyN false [] ((tb.drop i).take n) pc lo st hp = some (pc', lo', st', hp')) (k : AL K lb cells slots pc' lo' st' hp') : AL K lb cells slots pc lo st hp :=
  AL_run hK _ (fun x h => hT x (List.mem_of_mem_drop (List.mem_of_mem_take h))) hx k
theorem AL_goto (hT : az_Tb cc tb) (hK : az_OK K own cc R0 l0) (i : Nat) {off : Int} {tgt : Nat} (hi : tb[i]? = some (pc, .goto off)) (ht : (pc : Int) + off = (tgt : Int)) (k : AL K lb cells slots tgt lo st hp) : AL K lb cells slots pc lo st hp := by
  obtain ⟨p, l, e, R, s, m, args, below, meth, c, D, cA, A, Ag, Q, nL⟩ := K
  obtain ⟨hexec, hb, -⟩ := hK
  intro ad H locs ls hlb hag hP hD hS hl
  exact lv_goto hexec hb (hT.at hi) ht (k ad H locs ls hlb hag hP hD hS hl)
theorem AL_if_eq (hT : az_Tb cc tb) (hK : az_OK K own cc R0 l0) (i : Nat) {off : Int} {tgt : Nat} {x : Int32} (hi : tb[i]? = some (pc, .ifCond .eq off)) (ht : (pc : Int) + off = (tgt : Int)) (kt : x = 0 → AL K lb cells slots tgt lo rest hp) (kf : ¬ x = 0 → AL K lb cells slots (pc + 3) lo rest hp) : AL K lb cells slots pc lo (.int x :: rest) hp := by
  obtain ⟨p, l, e, R, s, m, args, below, meth, c, D, cA, A, Ag, Q, nL⟩ := K
  obtain ⟨hexec, hb, -⟩ := hK
  intro ad H locs ls hlb hag hP hD hS hl
  exact lv_if_eq hexec hb (hT.at hi) ht (fun z => kt z ad H locs ls hlb hag hP hD hS hl) (fun z => kf z ad H locs ls hlb hag hP hD hS hl)
theorem AL_icmp_eq (hT : az_Tb cc tb) (hK : az_OK K own cc R0 l0) (i : Nat) {off : Int} {tgt : Nat} {x y : Int32} (hi : tb[i]? = some (pc, .if_icmp .eq off)) (ht : (pc : Int) + off = (tgt : Int)) (kt : x = y → AL K lb cells slots tgt lo rest hp) (kf : ¬ x = y → AL K lb cells slots (pc + 3) lo rest hp) : AL K lb cells slots pc lo (.int y :: .int x :: rest) hp := by
  obtain ⟨p, l, e, R, s, m, args, below, meth, c, D, cA, A, Ag, Q, nL⟩ := K
  obtain ⟨hexec, hb, -⟩ := hK
  intro ad H locs ls hlb hag hP hD hS hl
  exact lv_icmp_eq hexec hb (hT.at hi) ht (fun z => kt z ad H locs ls hlb hag hP hD hS hl) (fun z => kf z ad H locs ls hlb hag hP hD hS hl)
theorem AL_if_ne (hT : az_Tb cc tb) (hK : az_OK K own cc R0 l0) (i : Nat) {off : Int} {tgt : Nat} {x : Int32} (hi : tb[i]? = some (pc, .ifCond .ne off)) (ht : (pc : Int) + off = (tgt : Int)) (kt : ¬ x = 0 → AL K lb cells slots tgt lo rest hp) (kf : x = 0 → AL K lb cells slots (pc + 3) lo rest hp) : AL K lb cells slots pc lo (.int x :: rest) hp := by
  obtain ⟨p, l, e, R, s, m, args, below, meth, c, D, cA, A, Ag, Q, nL⟩ := K
  obtain ⟨hexec, hb, -⟩ := hK
  intro ad H locs ls hlb hag hP hD hS hl
  exact lv_if_ne hexec hb (hT.at hi) ht (fun z => kt z ad H locs ls hlb hag hP hD hS hl) (fun z => kf z ad H locs ls hlb hag hP hD hS hl)
theorem AL_icmp_ne (hT : az_Tb cc tb) (hK : az_OK K own cc R0 l0) (i : Nat) {off : Int} {tgt : Nat} {x y : Int32} (hi : tb[i]? = some (pc, .if_icmp .ne off)) (ht : (pc : Int) + off = (tgt : Int)) (kt : ¬ x = y → AL K lb cells slots tgt lo rest hp) (kf : x = y → AL K lb cells slots (pc + 3) lo rest hp) : AL K lb cells slots pc lo (.int y :: .int x :: rest) hp := by
  obtain ⟨p, l, e, R, s, m, args, below, meth, c, D, cA, A, Ag, Q, nL⟩ := K
  obtain ⟨hexec, hb, -⟩ := hK
  intro ad H locs ls hlb hag hP hD hS hl
  exact lv_icmp_ne hexec hb (hT.at hi) ht (fun z => kt z ad H locs ls hlb hag hP hD hS hl) (fun z => kf z ad H locs ls hlb hag hP hD hS hl)
theorem AL_if_lt (hT : az_Tb cc tb) (hK : az_OK K own cc R0 l0) (i : Nat) {off : Int} {tgt : Nat} {x : Int32} (hi : tb[i]? = some (pc, .ifCond .lt off)) (ht : (pc : Int) + off = (tgt : Int)) (kt : x < 0 → AL K lb cells slots tgt lo rest hp) (kf : ¬ x < 0 → AL K lb cells slots (pc + 3) lo rest hp) : AL K lb cells slots pc lo (.int x :: rest) hp := by
  obtain ⟨p, l, e, R, s, m, args, below, meth, c, D, cA, A, Ag, Q, nL⟩ := K
  obtain ⟨hexec, hb, -⟩ := hK
  intro ad H locs ls hlb hag hP hD hS hl
  exact lv_if_lt hexec hb (hT.at hi) ht (fun z => kt z ad H locs ls hlb hag hP hD hS hl) (fun z => kf z ad H locs ls hlb hag hP hD hS hl)
theorem AL_icmp_lt (hT : az_Tb cc tb) (hK : az_OK K own cc R0 l0) (i : Nat) {off : Int} {tgt : Nat} {x y : Int32} (hi : tb[i]? = some (pc, .if_icmp .lt off)) (ht : (pc : Int) + off = (tgt : Int)) (kt : x < y → AL K lb cells slots tgt lo rest hp) (kf : ¬ x < y → AL K lb cells slots (pc + 3) lo rest hp) : AL K lb cells slots pc lo (.int y :: .int x :: rest) hp := by
  obtain ⟨p, l, e, R, s, m, args, below, meth, c, D, cA, A, Ag, Q, nL⟩ := K
  obtain ⟨hexec, hb, -⟩ := hK
  intro ad H locs ls hlb hag hP hD hS hl
  exact lv_icmp_lt hexec hb (hT.at hi) ht (fun z => kt z ad H locs ls hlb hag hP hD hS hl) (fun z => kf z ad H locs ls hlb hag hP hD hS hl)
theorem AL_if_ge (hT : az_Tb cc tb) (hK : az_OK K own cc R0 l0) (i : Nat) {off : Int} {tgt : Nat} {x : Int32} (hi : tb[i]? = some (pc, .ifCond .ge off)) (ht : (pc : Int) + off = (tgt : Int)) (kt : 0 ≤ x → AL K lb cells slots tgt lo rest hp) (kf : ¬ 0 ≤ x → AL K lb cells slots (pc + 3) lo rest hp) : AL K lb cells slots pc lo (.int x :: rest) hp := by
  obtain ⟨p, l, e, R, s, m, args, below, meth, c, D, cA, A, Ag, Q, nL⟩ := K
  obtain ⟨hexec, hb, -⟩ := hK
  intro ad H locs ls hlb hag hP hD hS hl
  exact lv_if_ge hexec hb (hT.at hi) ht (fun z => kt z ad H locs ls hlb hag hP hD hS hl) (fun z => kf z ad H locs ls hlb hag hP hD hS hl)
theorem AL_icmp_ge (hT : az_Tb cc tb) (hK : az_OK K own cc R0 l0) (i : Nat) {off : Int} {tgt : Nat} {x y : Int32} (hi : tb[i]? = some (pc, .if_icmp .ge off)) (ht : (pc : Int) + off = (tgt : Int)) (kt : y ≤ x → AL K lb cells slots tgt lo rest hp) (kf : ¬ y ≤ x → AL K lb cells slots (pc + 3) lo rest hp) : AL K lb cells slots pc lo (.int y :: .int x :: rest) hp := by
  obtain ⟨p, l, e, R, s, m, args, below, meth, c, D, cA, A, Ag, Q, nL⟩ := K
  obtain ⟨hexec, hb, -⟩ := hK
  intro ad H locs ls hlb hag hP hD hS hl
  exact lv_icmp_ge hexec hb (hT.at hi) ht (fun z => kt z ad H locs ls hlb hag hP hD hS hl) (fun z => kf z ad H locs ls hlb hag hP hD hS hl)
theorem AL_if_gt (hT : az_Tb cc tb) (hK : az_OK K own cc R0 l0) (i : Nat) {off : Int} {tgt : Nat} {x : Int32} (hi : tb[i]? = some (pc, .ifCond .gt off)) (ht : (pc : Int) + off = (tgt : Int)) (kt : 0 < x → AL K lb cells slots tgt lo rest hp) (kf : ¬ 0 < x → AL K lb cells slots (pc + 3) lo rest hp) : AL K lb cells slots pc lo (.int x :: rest) hp := by
  obtain ⟨p, l, e, R, s, m, args, below, meth, c, D, cA, A, Ag, Q, nL⟩ := K
  obtain ⟨hexec, hb, -⟩ := hK
  intro ad H locs ls hlb hag hP hD hS hl
  exact lv_if_gt hexec hb (hT.at hi) ht (fun z => kt z ad H locs ls hlb hag hP hD hS hl) (fun z => kf z ad H locs ls hlb hag hP hD hS hl)
theorem AL_icmp_gt (hT : az_Tb cc tb) (hK : az_OK K own cc R0 l0) (i : Nat) {off : Int} {tgt : Nat} {x y : Int32} (hi : tb[i]? = some (pc, .if_icmp .gt off)) (ht : (pc : Int) + off = (tgt : Int)) (kt : y < x → AL K lb cells slots tgt lo rest hp) (kf : ¬ y < x → AL K lb cells slots (pc + 3) lo rest hp) : AL K lb cells slots pc lo (.int y :: .int x :: rest) hp := by
  obtain ⟨p, l, e, R, s, m, args, below, meth, c, D, cA, A, Ag, Q, nL⟩ := K
  obtain ⟨hexec, hb, -⟩ := hK
  intro ad H locs ls hlb hag hP hD hS hl
  exact lv_icmp_gt hexec hb (hT.at hi) ht (fun z => kt z ad H locs ls hlb hag hP hD hS hl) (fun z => kf z ad H locs ls hlb hag hP hD hS hl)
theorem AL_if_le (hT : az_Tb cc tb) (hK : az_OK K own cc R0 l0) (i : Nat) {off : Int} {tgt : Nat} {x : Int32} (hi : tb[i]? = some (pc, .ifCond .le off)) (ht : (pc : Int) + off = (tgt : Int)) (kt : x ≤ 0 → AL K lb cells slots tgt lo rest hp) (kf : ¬ x ≤ 0 → AL K lb cells slots (pc + 3) lo rest hp) : AL K lb cells slots pc lo (.int x :: rest) hp := by
  obtain ⟨p, l, e, R, s, m, args, below, meth, c, D, cA, A, Ag, Q, nL⟩ := K
  obtain ⟨hexec, hb, -⟩ := hK
  intro ad H locs ls hlb hag hP hD hS hl
  exact lv_if_le hexec hb (hT.at hi) ht (fun z => kt z ad H locs ls hlb hag hP hD hS hl) (fun z => kf z ad H locs ls hlb hag hP hD hS hl)
theorem AL_icmp_le (hT : az_Tb cc tb) (hK : az_OK K own cc R0 l0) (i : Nat) {off : Int} {tgt : Nat} {x y : Int32} (hi : tb[i]? = some (pc, .if_icmp .le off)) (ht : (pc : Int) + off = (tgt : Int)) (kt : x ≤ y → AL K lb cells slots tgt lo rest hp) (kf : ¬ x ≤ y → AL K lb cells slots (pc + 3) lo rest hp) : AL K lb cells slots pc lo (.int y :: .int x :: rest) hp := by
  obtain ⟨p, l, e, R, s, m, args, below, meth, c, D, cA, A, Ag, Q, nL⟩ := K
  obtain ⟨hexec, hb, -⟩ := hK
  intro ad H locs ls hlb hag hP hD hS hl
  exact lv_icmp_le hexec hb (hT.at hi) ht (fun z => kt z ad H locs ls hlb hag hP hD hS hl) (fun z => kf z ad H locs ls hlb hag hP hD hS hl)
theorem AL_iald (hT : az_Tb cc tb) (hK : az_OK K own cc R0 l0) (i j : Nat) {k n : Nat} {x : Int32} {f : Nat → Int32} (hi : tb[i]? = some (pc, .iaload)) (hk : hp[k]? = some (.inl (0, n, .inl f))) (hx : x = nI j) (hj : j < n) (hn : n < 2 ^ 31) (kk : AL K lb cells slots (pc + 1) lo (.int (f j) :: rest) hp) : AL K lb cells slots pc lo (.int x :: .ref k :: rest) hp := by
  obtain ⟨p, l, e, R, s, m, args, below, meth, c, D, cA, A, Ag, Q, nL⟩ := K
  obtain ⟨hexec, hb, -, -, -, -, hKn, -⟩ := hK
  intro ad H locs ls hlb hag hP hD hS hl
  subst hx
  exact va_iald hexec hb hKn hP _ 0 (az_w_at hk) rfl (vp_in_nI hj hn) (hT.at hi) (by rw [nI_clamp (Nat.lt_trans hj hn)]; exact kk ad H locs ls hlb hag hP hD hS hl)
theorem AL_to {lo' : List (Option Value)} {st' : List Value} {hp' : az_H} (h1 : lo = lo') (h2 : st = st') (h3 : hp = hp') (k : AL K lb cells slots pc lo' st' hp') : AL K lb cells slots pc lo st hp := by
  subst h1 h2 h3
  exact k
theorem AL_widen {a b : Nat} (h1 : cells ≤ a) (h2 : slots ≤ b) (k : AL K lb a b pc lo st hp) : AL K lb cells slots pc lo st hp := by
  obtain ⟨p, l, e, R, s, m, args, below, meth, c, D, cA, A, Ag, Q, nL⟩ := K
  intro ad H locs ls hlb hag hP hD hS hl
  exact W.widen h1 h2 (k ad H locs ls hlb hag hP hD hS hl)
theorem AL_lo {lo' : List (Option Value)} (hlen : lo'.length = lo.length) (hs : ∀ (i : Nat) (v : Value), lo'[i]? = some (some v) → lo[i]? = some (some v)) (k : AL K lb cells slots pc lo' st hp) : AL K lb cells slots pc lo st hp := by
  obtain ⟨p, l, e, R, s, m, args, below, meth, c, D, cA, A, Ag, Q, nL⟩ := K
  intro ad H locs ls hlb hag hP hD hS hl
  exact k ad H locs ls hlb hag hP hD hS (az_ls_sub hl hlen hs)
theorem AL_idivN (hT : az_Tb cc tb) (hK : az_OK K own cc R0 l0) (i a b : Nat) {x y : Int32} (hi : tb[i]? = some (pc, .idiv)) (hx : x = nI a) (hy : y = nI b) (ha : a < 2 ^ 31) (h0 : 0 < b) (hb2 : b < 2 ^ 31) (kk : AL K lb cells slots (pc + 1) lo (.int (nI (a / b)) :: rest) hp) : AL K lb cells slots pc lo (.int y :: .int x :: rest) hp := by
  obtain ⟨p, l, e, R, s, m, args, below, meth, c, D, cA, A, Ag, Q, nL⟩ := K
  obtain ⟨hexec, hb, -, -, -, -, hKn, -⟩ := hK
  intro ad H locs ls hlb hag hP hD hS hl
  subst hx hy
  exact lv_idiv hexec hb (hT.at hi) (nI_ne0 h0 hb2) (by rw [pk_div ha h0 hb2]; exact kk ad H locs ls hlb hag hP hD hS hl)
theorem AL_iremN (hT : az_Tb cc tb) (hK : az_OK K own cc R0 l0) (i a b : Nat) {x y : Int32} (hi : tb[i]? = some (pc, .irem)) (hx : x = nI a) (hy : y = nI b) (ha : a < 2 ^ 31) (h0 : 0 < b) (hb2 : b < 2 ^ 31) (kk : AL K lb cells slots (pc + 1) lo (.int (nI (a % b)) :: rest) hp) : AL K lb cells slots pc lo (.int y :: .int x :: rest) hp := by
  obtain ⟨p, l, e, R, s, m, args, below, meth, c, D, cA, A, Ag, Q, nL⟩ := K
  obtain ⟨hexec, hb, -, -, -, -, hKn, -⟩ := hK
  intro ad H locs ls hlb hag hP hD hS hl
  subst hx hy
  exact lv_irem hexec hb (hT.at hi) (nI_ne0 h0 hb2) (by rw [pk_rem ha h0 hb2]; exact kk ad H locs ls hlb hag hP hD hS hl)
theorem AL_msk (bs : List Bool) {lo' : List (Option Value)} (h : az_msk bs lo = lo') (k : AL K lb cells slots pc lo' st hp) : AL K lb cells slots pc lo st hp := by
  subst h
  exact AL_lo (az_msk_len bs lo) (az_msk_at bs lo) k
theorem AL_topi {x : Int32} (k : ∀ u : Int32, x = u → AL K lb cells slots pc lo (.int u :: rest) hp) : AL K lb cells slots pc lo (.int x :: rest) hp := k x rfl
theorem AL_ldc (hT : az_Tb cc tb) (hK : az_OK K own cc R0 l0) (i : Nat) {idx : Nat} {v : Int32} (hi : tb[i]? = some (pc, .ldc idx)) (hw : Cond.constant own idx v ∈ lw_tbl) (kk : AL K lb cells slots (pc + 2) lo (.int v :: st) hp) : AL K lb cells slots pc lo st hp := by
  obtain ⟨p, l, e, R, s, m, args, below, meth, c, D, cA, A, Ag, Q, nL⟩ := K
  obtain ⟨hexec, hb, -, -, hown, hev, hKn, -⟩ := hK
  intro ad H locs ls hlb hag hP hD hS hl
  exact lv_ldc hexec hb hown (hev.1.use hw rfl args) (hT.at hi) (kk ad H locs ls hlb hag hP hD hS hl)
theorem AL_ldc2 (hT : az_Tb cc tb) (hK : az_OK K own cc R0 l0) (i : Nat) {idx : Nat} {v : Int64} (hi : tb[i]? = some (pc, .ldc2_w idx)) (hw : Cond.constantLong own idx v ∈ lw_tbl) (kk : AL K lb cells slots (pc + 3) lo (.long v :: st) hp) : AL K lb cells slots pc lo st hp := by
  obtain ⟨p, l, e, R, s, m, args, below, meth, c, D, cA, A, Ag, Q, nL⟩ := K
  obtain ⟨hexec, hb, -, -, hown, hev, hKn, -⟩ := hK
  intro ad H locs ls hlb hag hP hD hS hl
  exact lv_ldc2 hexec hb hown (hev.1.use hw rfl args) (hT.at hi) (kk ad H locs ls hlb hag hP hD hS hl)
/-- the script: its cell is called 46 -/
def az_Scr (K : az_K) (b L : Nat) (xs : Nat → Int32) : Prop :=
  match K with
  | (_, _, _, _, s, _, _, _, _, _, _, _, A, Ag, _, _) => va_X b L xs s s.heap ∧ b < s.heap.size ∧ (¬ A b) ∧ ∀ ad, Ag ad → ad 46 = b
theorem AL_sld (hT : az_Tb cc tb) (hK : az_OK K own cc R0 l0) {b L : Nat} {xs : Nat → Int32} (hX : az_Scr K b L xs) (i : Nat) {x v : Int32} (hi : tb[i]? = some (pc, .iaload)) (hin : vp_in x L) (hv : xs x.toNatClampNeg = v) (kk : AL K lb cells slots (pc + 1) lo (.int v :: rest) hp) : AL K lb cells slots pc lo (.int x :: .ref 46 :: rest) hp := by
  obtain ⟨p, l, e, R, s, m, args, below, meth, c, D, cA, A, Ag, Q, nL⟩ := K
  obtain ⟨hexec, hb, -⟩ := hK
  obtain ⟨h1, h2, h3, h4⟩ := hX
  intro ad H locs ls hlb hag hP hD hS hl
  subst hv
  have k9 := va_sld (rest := rest.map (az_v ad)) hexec hb h1 h2 h3 hS hin (hT.at hi) (kk ad H locs ls hlb hag hP hD hS hl)
  show W _ _ _ _ _ _ _ _ _ _ _ _ _ _ _ (F0 m _ ls (.int x :: .ref (ad 46) :: _))
  rw [h4 ad hag]
  exact k9
theorem AL_slen (hT : az_Tb cc tb) (hK : az_OK K own cc R0 l0) {b L : Nat} {xs : Nat → Int32} (hX : az_Scr K b L xs) (i : Nat) (hi : tb[i]? = some (pc, .arraylength)) (kk : AL K lb cells slots (pc + 1) lo (.int (nI L) :: rest) hp) : AL K lb cells slots pc lo (.ref 46 :: rest) hp := by
  obtain ⟨p, l, e, R, s, m, args, below, meth, c, D, cA, A, Ag, Q, nL⟩ := K
  obtain ⟨hexec, hb, -⟩ := hK
  obtain ⟨h1, h2, h3, h4⟩ := hX
  intro ad H locs ls hlb hag hP hD hS hl
  have k9 := va_slen (rest := rest.map (az_v ad)) hexec hb h1 h2 h3 hS (hT.at hi) (kk ad H locs ls hlb hag hP hD hS hl)
  show W _ _ _ _ _ _ _ _ _ _ _ _ _ _ _ (F0 m _ ls (.ref (ad 46) :: _))
  rw [h4 ad hag]
  exact k9
/-- behind a call, with the heap's growth -/
theorem az_afterL {p : Program} {l : Launch} {e : Env} {R : Room} {s : State} {m : MethodId} {args : Array Value} {below : List Frame} {meth : Method} {c : Code} {D : va_G} {cA : Nat → ClassId} {A : Nat → Prop} {Q : State → Prop} {ad : Nat → Nat} {H : Heap} {locs : List Loc} {cells slots mc ms pc d : Nat} {ls : Array Slot} {st0 rest : List Value} {hp : az_H} {gr : Bool} {Ψ : Option Value → az_H → Prop} {a : Array Value}
    (hr : va_Run p l e R s m args below meth c H locs cells slots mc ms (F0 m pc ls st0) rest (fun st oc t => az_Q D cA ad hp H.size gr Ψ a st oc t ∧ st.heap.size + d ≤ t.heap.size) (va_A (az_w cA ad hp) H.size)) (hS : va_S A s.heap H locs) (hD : va_D A (az_w cA ad hp)) (hA : ∀ q, s.heap.size ≤ q → A q)
    (kk : ∀ (r : Option Value) (hp' : az_H) (ad' : Nat → Nat) (H1 : Heap) (locs1 : List Loc), Ψ r hp' → (gr = false → ad' = ad) → H.size + d ≤ H1.size → va_P D vwCl (az_w cA ad' hp') H1 → va_D A (az_w cA ad' hp') → va_S A s.heap H1 locs1 →
      W p l e R s m args below meth c H1 locs1 (cells + mc) (slots + ms) Q (F0 m (pc + 3) ls ((r.map (az_v ad')).toList ++ rest))) : W p l e R s m args below meth c H locs cells slots Q (F0 m pc ls st0) := by
  have hB : ∀ q, va_A (az_w cA ad hp) H.size q → A q := fun q h => by
    rcases h with ⟨k, e9, h⟩ | h
    · exact hD.2 k _ h
    · exact hA q (Nat.le_trans hS.1 h)
  intro T hT X
  obtain ⟨v, st₀, t, T', L, h0, X', hL, e1, e2, ⟨⟨⟨r, hp', ad', hv, hΨ, hg, hag, hP1, hD1⟩, hz, hk⟩, hd9⟩, st⟩ := hr T hT X
  cases hv
  rw [h0] at hz hk hd9
  obtain ⟨t2, a1, b1⟩ := kk r hp' ad' T'.heap (locs ++ L) hΨ hg (by rw [e1]; exact hd9) (by rw [e1]; exact hP1) (hD1.weaken (fun _ q _ h => hB q.1 h))
    ⟨Nat.le_trans hS.1 (by rw [e1]; exact hz), fun q h1 h2 => by rw [e1, hk q (Nat.lt_of_lt_of_le h1 hS.1) (fun z => h2 (hB q z))]; exact hS.2.1 q h1 h2, fun q hq => by
      rcases List.mem_append.mp hq with h | h
      · exact hS.2.2 q h
      · exact hB _ (hL q h)⟩ T' rfl X'
  exact ⟨t2, st t2 a1, b1⟩
/-- a contract of the class's gives one with the growth 0 -/
theorem az_Q0 {D : va_G} {cA : Nat → ClassId} {ad : Nat → Nat} {hp : az_H} {sz : Nat} {gr : Bool} {Ψ : Option Value → az_H → Prop} {a : Array Value} {s t : State} {o : Outcome} (h : az_Q D cA ad hp sz gr Ψ a s o t) : az_Q D cA ad hp sz gr Ψ a s o t ∧ s.heap.size + 0 ≤ t.heap.size := ⟨h, h.2.1⟩
theorem va_Run.monoL {p : Program} {l : Launch} {e : Env} {R : Room} {s : State} {m : MethodId} {args : Array Value} {below : List Frame} {meth : Method} {c : Code} {H : Heap} {locs : List Loc} {cells slots mc ms : Nat} {g : JFrame} {rest : List Value} {P P' : State → Outcome → State → Prop} {B : Nat → Prop}
    (h : va_Run p l e R s m args below meth c H locs cells slots mc ms g rest P B) (hq : ∀ a b d, P a b d → P' a b d) : va_Run p l e R s m args below meth c H locs cells slots mc ms g rest P' B := by
  intro T hT X
  obtain ⟨v, st₀, t, T', L, h0, X', hL, e1, e2, h3, st⟩ := h T hT X
  exact ⟨v, st₀, t, T', L, h0, X', hL, e1, e2, hq _ _ _ h3, st⟩
variable {y : MethodName} {cb : ByteArray} {mL n idx : Nat} {ret : Option FieldType} {rm : Room} {Ψ : Option Value → az_H → Prop}
theorem AL_callV (hT : az_Tb cc tb) (hK : az_OK K own cc R0 l0) (i : Nat) (as rest : List Value) {k cj N9 : Nat} {fs : List Value} {T9 : u_T} (hM : AMet l0 y cb mL ret rm false (.ref k :: as) hp Ψ) (cv : az_Cw y cb mL ret n) (hl : Cond.methodLink own idx y ∈ lw_tbl) (hv : Cond.instanceMethod y ∈ lw_tbl ∧ Cond.selects y.cls y y ∈ lw_tbl)
    (hi : tb[i]? = some (pc, .invokevirtual idx)) (hobj : hp[k]? = some (.inr (cj, fs))) (hcj : vwCl[cj]? = some (y.cls, T9, N9)) (hn : as.length = n) (hst : st = as.reverse ++ .ref k :: rest) (hrm : az_rm rm R0 mL rest = true) (hc : cells + rm.cells ≤ R0.cells) (hs : slots + rm.slots ≤ R0.slots)
    (kk : ∀ (r : Option Value) (hp' : az_H), Ψ r hp' → AL K lb (cells + rm.cells) (slots + rm.slots) (pc + 3) lo (r.toList ++ rest) hp') : AL K lb cells slots pc lo st hp := by
  obtain ⟨p, l, e, R, s, m, args, below, meth, c, D, cA, A, Ag, Q, nL⟩ := K
  obtain ⟨hexec, hb, hml, hlk, hown, hev, hKn, hA, rfl, rfl⟩ := hK
  obtain ⟨hR, hcat⟩ := az_rm.of hrm
  subst hst
  intro ad H locs ls hlb hag hP hD hS hl1
  refine az_afterL (d := 0) (gr := false) (va_Run.monoL (va_runV (As := as.map (az_v ad)) (rest := rest.map (az_v ad)) (b := ad k) (C := y.cls) (Ts := []) (own := own) (nL := nL) ⟨hexec, hb, hml, hown, fun _ h => by cases h⟩ (hM D cA ad H.size) ⟨az_cb hev.1 cv hl hR, hev.1.use hv.1 rfl args, hev.1.use hv.2 rfl args⟩
    ⟨az_blind D cA ad hp H.size _, va_recv hKn hP hcj (az_w_at hobj), az_start hev hKn hA hP hD hS (.ref (ad k) :: as.map (az_v ad))⟩ rfl (by rw [List.length_map]; exact hn) hl1.1.1 (by rw [List.map_append, List.map_reverse]; rfl) (lv_room (by rw [az_cats]; exact hcat)) (hT.at hi) ⟨hc, hs⟩) (fun _ _ _ h => az_Q0 h)) hS hD hA (fun r hp' ad' H1 locs1 hΨ hg hlb1 hP1 hD1 hS1 => ?_)
  have := hg rfl
  subst this
  rw [az_ret_map]
  exact kk r hp' hΨ ad' H1 locs1 ls (Nat.le_trans hlb hlb1) hag hP1 hD1 hS1 hl1
theorem AL_k1 {X v : Int32} {hp1 : az_H} (e : X = v) (k : AL K lb cells slots pc lo (.int v :: rest) hp1) : ∀ (r : Option Value) (hp' : az_H), (r = some (.int X) ∧ hp' = hp1) → AL K lb cells slots pc lo (r.toList ++ rest) hp' := by
  rintro r hp' ⟨rfl, rfl⟩
  subst e
  exact k
theorem AL_kl {X v : Int64} {hp1 : az_H} (e : X = v) (k : AL K lb cells slots pc lo (.long v :: rest) hp1) : ∀ (r : Option Value) (hp' : az_H), (r = some (.long X) ∧ hp' = hp1) → AL K lb cells slots pc lo (r.toList ++ rest) hp' := by
  rintro r hp' ⟨rfl, rfl⟩
  subst e
  exact k
end AZLW
section AZLC
def az_Tab (K : az_K) (hh : List (Nat × Nat × Nat × Nat)) : Prop :=
  match K with
  | (_, _, _, _, _, _, _, _, _, c, _, _, _, _, _, _) => c.exceptionTable.toList = tableOf hh
def az_NcK (K : az_K) (C T : String) : Prop :=
  match K with
  | (_, _, _, _, s, _, _, _, _, _, _, _, _, _, _, _) => va_Nc C T s
def az_nc (U : State) : Prop := va_Nc "java/lang/IllegalArgumentException" "java/lang/IndexOutOfBoundsException" U
theorem az_ls_none {ad : Nat → Nat} {ls' : Array Slot} {nL i : Nat} {v : Value} {lo : List (Option Value)} (hlen : lo.length = nL) (hc : ∀ (j : Nat) (w : Value), j + 1 = i → lo[j]? = some (some w) → w.category = 1)
    (hl : lv_has ls' nL ((i, v) :: (az_lv ad 0 lo).filter (fun q => !(q.1 == i) && !(q.1 + 1 == i && q.2.category == 2)))) : az_ls ad ls' nL (lo.set i none) := by
  refine ⟨⟨hl.1, hl.2.1, fun q hq => hl.2.2 q ?_⟩, by rw [List.length_set]; exact hlen⟩
  obtain ⟨j, w, hj, rfl⟩ := (az_lv_mem ad _ 0 q).mp hq
  rw [Nat.zero_add]
  by_cases hij : i = j
  · subst hij
    rw [az_set_at] at hj
    split at hj <;> cases hj
  · rw [List.getElem?_set_ne hij] at hj
    refine List.mem_cons_of_mem _ (List.mem_filter.mpr ⟨(az_lv_mem ad lo 0 _).mpr ⟨j, w, hj, by rw [Nat.zero_add]⟩, ?_⟩)
    have h1 : (j == i) = false := by simp; omega
    by_cases h2 : j + 1 = i
    · have hw := hc j w h2 hj
      have h3 : ((az_v ad w).category == 2) = false := by rw [az_v_cat, hw]; rfl
      simp only [h1, h3, Bool.and_false, Bool.not_false, Bool.and_self]
    · have h3 : (j + 1 == i) = false := by simp; omega
      simp only [h1, h3, Bool.false_and, Bool.not_false, Bool.and_self]
/-- the contract of a method of the law: it answers v, leaves the heap's cells as they were, and makes at least d new cells; w: its word -/
def AME (l : Launch) (y : MethodName) (w : Cond) (rm : Room) (as : List Value) (hp : az_H) (v : Value) (d : Nat) : Prop :=
  ∀ (D : va_G) (cA : Nat → ClassId) (ad : Nat → Nat) (sz : Nat),
    Met l y [w] rm (va_Pc (as.map (az_v ad)) (fun U => az_U D cA ad hp sz U ∧ az_nc U)) (fun a st oc t => az_Q D cA ad hp sz false (fun r h => r = some v ∧ h = hp) a st oc t ∧ st.heap.size + d ≤ t.heap.size) rm.cells rm.slots (va_A (az_w cA ad hp) sz)
def az_NcL (K : az_K) : Prop := az_NcK K "java/lang/IllegalArgumentException" "java/lang/IndexOutOfBoundsException"
variable {K : az_K} {own : String} {cc : ByteArray} {R0 : Room} {l0 : Launch} {tb : List (Nat × Instr)} {lb cells slots pc d : Nat} {lo : List (Option Value)} {st rest : List Value} {hp : az_H} {hh : List (Nat × Nat × Nat × Nat)} {v : Value}
/-- what a return owes -/
def az_EndL (K : az_K) (cc : ByteArray) (ret : Option FieldType) (R0 : Room) (v : Value) (d : Nat) (hp : az_H) : Prop :=
  ∀ (cells slots pc : Nat) (lo : List (Option Value)), cells ≤ R0.cells → slots ≤ R0.slots →
    (∀ (x : Int32) (ty : FieldType), v = .int x → ret = some ty → narrow ty (.int x) = .int x → decode cc pc = .ok (.ireturn, 1) → AL K d cells slots pc lo [.int x] hp) ∧
    (∀ x : Int64, v = .long x → ret = some .long → decode cc pc = .ok (.lreturn, 1) → AL K d cells slots pc lo [.long x] hp)
theorem AL_iret {ret : Option FieldType} {x : Int32} (hT : az_Tb cc tb) (hE : az_EndL K cc ret R0 (.int x) d hp) (i : Nat) {ty : FieldType} (hi : tb[i]? = some (pc, .ireturn)) (hr : ret = some ty) (hn : narrow ty (.int x) = .int x) (hc : cells ≤ R0.cells) (hs : slots ≤ R0.slots) : AL K d cells slots pc lo [.int x] hp :=
  (hE cells slots pc lo hc hs).1 x ty rfl hr hn (hT.at hi)
theorem AL_lret {x : Int64} (hT : az_Tb cc tb) (hE : az_EndL K cc (some .long) R0 (.long x) d hp) (i : Nat) (hi : tb[i]? = some (pc, .lreturn)) (hc : cells ≤ R0.cells) (hs : slots ≤ R0.slots) : AL K d cells slots pc lo [.long x] hp :=
  (hE cells slots pc lo hc hs).2 x rfl rfl (hT.at hi)
theorem AME_of {y : MethodName} {maxL : Nat} {ret : Option FieldType} {rm : Room} {as : List Value} {hp0 : az_H} (hy : plainName y.cls = true) (hcat : ∀ v ∈ as, v.category = 1) (hlen : as.length ≤ maxL)
    (body : ∀ K : az_K, az_OK K y.cls cc rm l0 → az_NcL K → az_EndL K cc ret rm v d hp0 → AL K 0 0 0 0 (as.map some ++ List.replicate (maxL - as.length) none) [] hp0) : AME l0 y (.code y cc maxL ret) rm as hp0 v d := by
  intro D cA ad0 sz
  refine Met.ofW (cc := cc) (maxL := maxL) (ret := ret) hy rfl ?_
  intro p e s m args below meth c s₁ B hml hv
  obtain ⟨rfl, ⟨hsz, hP, hKn, hD0, hev⟩, hnc⟩ := hv
  subst hsz
  have hD := hD0.self (sz := s.heap.size)
  have hA : ∀ q : Nat, s.heap.size ≤ q → va_A (az_w cA ad0 hp0) s.heap.size q := fun q h => Or.inr h
  have hl := lv_entry (as.map (az_v ad0)) (n := maxL) (by rw [az_sl_len ad0 as hcat]; exact hlen)
  rw [lg_entry_eq]
  have hl2 : az_ls ad0 ((lg_sl (as.map (az_v ad0)) ++ List.replicate (maxL - (lg_sl (as.map (az_v ad0))).length) Slot.unset).toArray) maxL (as.map some ++ List.replicate (maxL - as.length) none) :=
    ⟨⟨hl.1, hl.2.1, fun q hq => hl.2.2 q (az_entry ad0 as _ hcat 0 q hq)⟩, by simp; omega⟩
  refine body (p, l0, e, rm, s, m, (as.map (az_v ad0)).toArray, below, meth, c, D, cA, va_A (az_w cA ad0 hp0) s.heap.size, fun ad' => ad' = ad0, _, maxL)
    ⟨B.exec, B.bytes, hml, B.notSynchronized, findClass_of_methodNamed B.named, hev, hKn, hA, rfl, rfl⟩ hnc ?_ ad0 s.heap [] _ (Nat.le_refl _) rfl hP hD va_S.rf hl2
  intro cells slots pc lo hc hs
  refine ⟨fun x ty hvx hr hn hd => ?_, fun x hvx hr hd => ?_⟩
  · subst hvx
    intro ad H locs ls hlb hag hP1 hD1 hS1 hl1
    refine W.widen hc hs ?_
    exact W.zret (v := x) B.exec B.bytes (B.returns.trans hr) hn (fun t ht hW => ⟨⟨⟨some (.int x), hp0, ad, rfl, ⟨rfl, rfl⟩, fun _ => hag, fun i _ => by rw [show ad = ad0 from hag], by rw [ht]; exact hP1, hD1⟩, hS1.F ht⟩, by rw [ht]; exact hlb⟩) hS1.2.2 hd B.notSynchronized
  · subst hvx
    intro ad H locs ls hlb hag hP1 hD1 hS1 hl1
    refine W.widen hc hs ?_
    exact W.lret (v := x) B.exec B.bytes (B.returns.trans hr) (fun t ht hW => ⟨⟨⟨some (.long x), hp0, ad, rfl, ⟨rfl, rfl⟩, fun _ => hag, fun i _ => by rw [show ad = ad0 from hag], by rw [ht]; exact hP1, hD1⟩, hS1.F ht⟩, by rw [ht]; exact hlb⟩) hS1.2.2 hd B.notSynchronized
/-- of a method with a table of handlers -/
theorem AME_ofW {y : MethodName} {maxL : Nat} {ret : Option FieldType} {rm : Room} {as : List Value} {hp0 : az_H} (hy : plainName y.cls = true) (hcat : ∀ v ∈ as, v.category = 1) (hlen : as.length ≤ maxL)
    (body : ∀ K : az_K, az_OK K y.cls cc rm l0 → az_Tab K hh → az_NcL K → az_EndL K cc ret rm v d hp0 → AL K 0 0 0 0 (as.map some ++ List.replicate (maxL - as.length) none) [] hp0) : AME l0 y (.codeWith y cc maxL ret hh) rm as hp0 v d := by
  intro D cA ad0 sz
  refine MetFree.of_bodyS (code := cc) (maxLocals := maxL) (ret := ret) hy ?_ ?_
  · intro args s m h hn
    obtain ⟨m9, meth, c, hn9, h1, h2, h3, h4, -, h5, h6, -⟩ := Cond.codeWith_spec (atoms_spec (ws := [.codeWith y cc maxL ret hh]) h _ List.mem_cons_self)
    cases hn.symm.trans hn9
    exact ⟨meth, c, h1, h2, h3, h4, h5, h6⟩
  · intro p e s m args below meth c s₁ B hml hP0 _
    have hh0 : s₁.heap = s.heap := by rw [B.state]; rfl
    obtain ⟨rfl, ⟨hsz, hP, hKn, hD0, hev⟩, hnc⟩ := hP0
    have htab := vx_table (x := y) B (atoms_spec (ws := [.codeWith y cc maxL ret hh]) B.pre _ List.mem_cons_self)
    subst hsz
    have hD := hD0.self (sz := s.heap.size)
    have hA : ∀ q : Nat, s.heap.size ≤ q → va_A (az_w cA ad0 hp0) s.heap.size q := fun q h => Or.inr h
    have hl := lv_entry (as.map (az_v ad0)) (n := maxL) (by rw [az_sl_len ad0 as hcat]; exact hlen)
    have hl2 : az_ls ad0 ((lg_sl (as.map (az_v ad0)) ++ List.replicate (maxL - (lg_sl (as.map (az_v ad0))).length) Slot.unset).toArray) maxL (as.map some ++ List.replicate (maxL - as.length) none) :=
      ⟨⟨hl.1, hl.2.1, fun q hq => hl.2.2 q (az_entry ad0 as _ hcat 0 q hq)⟩, by simp; omega⟩
    have KW := body (p, l0, e, rm, s, m, (as.map (az_v ad0)).toArray, below, meth, c, D, cA, va_A (az_w cA ad0 hp0) s.heap.size, fun ad' => ad' = ad0, MQ below (fun a st oc t => az_Q D cA ad0 hp0 s.heap.size false (fun r h => r = some v ∧ h = hp0) a st oc t ∧ st.heap.size + d ≤ t.heap.size) (as.map (az_v ad0)).toArray s rm.cells rm.slots (va_A (az_w cA ad0 hp0) s.heap.size), maxL)
      ⟨B.exec, B.bytes, hml, B.notSynchronized, findClass_of_methodNamed B.named, hev, hKn, hA, rfl, rfl⟩ htab hnc (by
        intro cells slots pc lo hc hs
        refine ⟨fun x ty hvx hr hn hd => ?_, fun x hvx hr hd => ?_⟩
        · subst hvx
          intro ad H locs ls hlb hag hP1 hD1 hS1 hl1
          refine W.widen hc hs ?_
          exact W.zret (v := x) B.exec B.bytes (B.returns.trans hr) hn (fun t ht hW => ⟨⟨⟨some (.int x), hp0, ad, rfl, ⟨rfl, rfl⟩, fun _ => hag, fun i _ => by rw [show ad = ad0 from hag], by rw [ht]; exact hP1, hD1⟩, hS1.F ht⟩, by rw [ht]; exact hlb⟩) hS1.2.2 hd B.notSynchronized
        · subst hvx
          intro ad H locs ls hlb hag hP1 hD1 hS1 hl1
          refine W.widen hc hs ?_
          exact W.lret (v := x) B.exec B.bytes (B.returns.trans hr) (fun t ht hW => ⟨⟨⟨some (.long x), hp0, ad, rfl, ⟨rfl, rfl⟩, fun _ => hag, fun i _ => by rw [show ad = ad0 from hag], by rw [ht]; exact hP1, hD1⟩, hS1.F ht⟩, by rw [ht]; exact hlb⟩) hS1.2.2 hd B.notSynchronized)
      ad0 s.heap [] _ (Nat.le_refl _) rfl hP hD va_S.rf hl2
    rw [List.map_nil, ← lg_entry_eq] at KW
    obtain ⟨t, a1, o, b1, b2, b3⟩ := KW s₁ hh0 (Stand.of_body B)
    exact ⟨t, o, a1, b1, b2, ⟨b3.1, b3.2⟩⟩
theorem AWX_catch (hT : az_Tb cc tb) (hK : az_OK K own cc R0 l0) (hTab : az_Tab K hh) {E : String} (pre : List ExceptionTableEntry) (x : ExceptionTableEntry) (suf : List ExceptionTableEntry) (hsplit : tableOf hh = pre ++ x :: suf)
    (hpass : ∀ z ∈ pre, z.catchType ≠ 0 ∧ ∃ nm : String, Cond.classLink own z.catchType nm ∈ lw_tbl ∧ az_NcK K E nm) (hx : covers x pc = true) (h0 : x.catchType ≠ 0) (hl : Cond.classLink own x.catchType E ∈ lw_tbl) (hcast : Cond.castable E E ∈ lw_tbl)
    (i k : Nat) {ins : Instr} (hi : tb[i]? = some (x.handlerPc, ins)) (hins : (∃ k' : Fin 4, ins = .astore_n k' ∧ (k' : Nat) = k) ∨ ins = .astore k) (hk : (Nat.ble (k + 1) lo.length && az_pre lo k) = true) (kk : AL K 1 cells slots (x.handlerPc + az_len ins) (lo.set k none) [] hp) : AWX K cells slots pc lo rest hp E := by
  obtain ⟨p, l, e, R, s, m, args, below, meth, c, D, cA, A, Ag, Q, nL⟩ := K
  obtain ⟨hexec, hb, hml, hlk, hown, hev, hKn, hA, rfl, rfl⟩ := hK
  rw [Bool.and_eq_true] at hk
  have hk1 : k < lo.length := Nat.le_of_ble_eq_true hk.1
  have hk2 := az_pre_of hk.2
  intro ad H locs ls q ce hag hP hD hS hlb hl1 hq hv hcl
  refine vx_catch (E := E) (name := E) hown pre x suf (hTab.trans hsplit) (fun z hz => Or.inr ⟨(hpass z hz).1, ?_⟩) hx h0 (hev.1.use hl rfl args) (hev.1.use hcast rfl args) hq hv hcl ?_
  · obtain ⟨nm, h1, h2⟩ := (hpass z hz).2
    exact ⟨nm, hev.1.use h1 rfl args, h2⟩
  · have hd := hT.at hi
    rcases hins with ⟨k', rfl, rfl⟩ | rfl
    · exact lv_astore_n hexec hb hd rfl hl1.1 (by rw [← hl1.2]; exact hk1) rfl (fun ls' hl' => kk ad H locs ls' hlb hag hP hD hS (az_ls_none hl1.2 hk2 hl'))
    · exact lv_astore hexec hb hd hl1.1 (by rw [← hl1.2]; exact hk1) rfl (fun ls' hl' => kk ad H locs ls' hlb hag hP hD hS (az_ls_none hl1.2 hk2 hl'))
/-- calls of the class's methods that throw: as in part 16, out of an AL -/
theorem AL_AW {lb : Nat} (h : AW K cells slots pc lo st hp) : AL K lb cells slots pc lo st hp := by
  obtain ⟨p, l, e, R, s, m, args, below, meth, c, D, cA, A, Ag, Q, nL⟩ := K
  intro ad H locs ls hlb hag hP hD hS hl
  exact h ad H locs ls hag hP hD hS hl
variable {y : MethodName} {mL n idx : Nat} {ret : Option FieldType} {rm : Room}
def az_CwE (y : MethodName) (w : Cond) (n : Nat) : Prop :=
  (Cond.initialized y.cls ∈ lw_tbl ∧ w ∈ lw_tbl) ∧ y.cls ≠ "java/lang/invoke/MethodHandle" ∧ y.cls ≠ "java/lang/invoke/VarHandle" ∧ (parseMethodDescriptor y.desc).map (fun d => d.parameters.length) = some n
theorem az_blindE (D : va_G) (cA : Nat → ClassId) (ad : Nat → Nat) (hp : az_H) (sz : Nat) (as : List Value) : FrameBlind (va_Pc as (fun U => az_U D cA ad hp sz U ∧ az_nc U)) := by
  intro a U g mk h
  exact ⟨(az_blind D cA ad hp sz as a U g mk ⟨h.1, h.2.1⟩).1, (az_blind D cA ad hp sz as a U g mk ⟨h.1, h.2.1⟩).2, va_Nc.moved (u := U) (U := U.calling g mk a) (Vm.Alike.refl U.vm) h.2.2⟩
theorem az_startE {D : va_G} {cA : Nat → ClassId} {ad : Nat → Nat} {hp : az_H} {s : State} {A : Nat → Prop} {H : Heap} {locs : List Loc} (hev : az_ev A s) (hKn : va_K D vwCl (az_tys cA) s) (hnc : az_nc s) (hA : ∀ q, s.heap.size ≤ q → A q) (hP : va_P D vwCl (az_w cA ad hp) H) (hD : va_D A (az_w cA ad hp)) (hS : va_S A s.heap H locs) (as : List Value) :
    ∀ U : State, U.heap = H → s.WarmedH U.vm → va_Pc as (fun U => az_U D cA ad hp H.size U ∧ az_nc U) as.toArray U := by
  intro U hU hW
  exact ⟨(az_start hev hKn hA hP hD hS as U hU hW).1, (az_start hev hKn hA hP hD hS as U hU hW).2, va_Nc.moved hW.alike hnc⟩
/-- a static method of the law's without handlers -/
theorem AL_callE (hT : az_Tb cc tb) (hK : az_OK K own cc R0 l0) (hN : az_NcL K) (i : Nat) (as rest : List Value) {cb : ByteArray} (hM : AME l0 y (.code y cb mL ret) rm as hp v d) (cv : az_Cw y cb mL ret n) (hl : Cond.methodLink own idx y ∈ lw_tbl) (hv : Cond.static y ∈ lw_tbl)
    (hi : tb[i]? = some (pc, .invokestatic idx)) (hn : as.length = n) (hst : st = as.reverse ++ rest) (hrm : az_rm rm R0 mL rest = true) (hc : cells + rm.cells ≤ R0.cells) (hs : slots + rm.slots ≤ R0.slots)
    (kk : AL K (lb + d) (cells + rm.cells) (slots + rm.slots) (pc + 3) lo (v :: rest) hp) : AL K lb cells slots pc lo st hp := by
  obtain ⟨p, l, e, R, s, m, args, below, meth, c, D, cA, A, Ag, Q, nL⟩ := K
  obtain ⟨hexec, hb, hml, hlk, hown, hev, hKn, hA, rfl, rfl⟩ := hK
  obtain ⟨hR, hcat⟩ := az_rm.of hrm
  subst hst
  intro ad H locs ls hlb hag hP hD hS hl1
  refine az_afterL (gr := false) (va_runS (As := as.map (az_v ad)) (rest := rest.map (az_v ad)) (Ts := []) (own := own) (nL := nL) ⟨hexec, hb, hml, hown, fun _ h => by cases h⟩ (hM D cA ad H.size) ⟨az_cb hev.1 cv hl hR, hev.1.use hv rfl args⟩
    ⟨az_blindE D cA ad hp H.size _, az_startE hev hKn hN hA hP hD hS (as.map (az_v ad))⟩ rfl (by rw [List.length_map]; exact hn) hl1.1.1 (by rw [List.map_append, List.map_reverse]) (lv_room (by rw [az_cats]; exact hcat)) (hT.at hi) ⟨hc, hs⟩) hS hD hA (fun r hp' ad' H1 locs1 hΨ hg hlb1 hP1 hD1 hS1 => ?_)
  have := hg rfl
  subst this
  obtain ⟨rfl, rfl⟩ := hΨ
  exact kk ad' H1 locs1 ls (by omega) hag hP1 hD1 hS1 hl1
/-- a static method of the law's with handlers -/
theorem AL_callEW (hT : az_Tb cc tb) (hK : az_OK K own cc R0 l0) (hN : az_NcL K) (i : Nat) (as rest : List Value) {cb : ByteArray} (hM : AME l0 y (.codeWith y cb mL ret hh) rm as hp v d) (cv : az_CwE y (.codeWith y cb mL ret hh) n) (hl : Cond.methodLink own idx y ∈ lw_tbl) (hv : Cond.static y ∈ lw_tbl)
    (hi : tb[i]? = some (pc, .invokestatic idx)) (hn : as.length = n) (hst : st = as.reverse ++ rest) (hrm : az_rm rm R0 mL rest = true) (hc : cells + rm.cells ≤ R0.cells) (hs : slots + rm.slots ≤ R0.slots)
    (kk : AL K (lb + d) (cells + rm.cells) (slots + rm.slots) (pc + 3) lo (v :: rest) hp) : AL K lb cells slots pc lo st hp := by
  obtain ⟨p, l, e, R, s, m, args, below, meth, c, D, cA, A, Ag, Q, nL⟩ := K
  obtain ⟨hexec, hb, hml, hlk, hown, hev, hKn, hA, rfl, rfl⟩ := hK
  obtain ⟨hR, hcat⟩ := az_rm.of hrm
  subst hst
  intro ad H locs ls hlb hag hP hD hS hl1
  have hcd : (Cond.codeWith y cb mL ret hh).before args s = true := hev.1.use cv.1.2 rfl args
  have cw : vx_CSW R s args own idx y cb mL ret hh [.codeWith y cb mL ret hh] rm rm.cells rm.slots n := by
    refine ⟨⟨rfl, rfl, hR.1, hR.2, pay_in (big := [.codeWith y cb mL ret hh]) (args := args) (fun w h9 => by rw [List.mem_singleton.mp h9]; exact hcd) (fun w h9 => ⟨h9, by rw [List.mem_singleton.mp h9]; exact Or.inl rfl⟩), List.mem_cons_self⟩, hcd, hev.1.use cv.1.1 rfl args, ⟨cv.2.1, cv.2.2.1⟩, fun sig h => ?_, hev.1.use hl rfl args, hev.1.use hv rfl args⟩
    have h2 := cv.2.2.2
    rw [h] at h2
    exact (Option.some.inj h2).symm
  refine az_afterL (gr := false) (vx_runSW (As := as.map (az_v ad)) (rest := rest.map (az_v ad)) (Ts := []) (own := own) (nL := nL) ⟨hexec, hb, hml, hown, fun _ h => by cases h⟩ (hM D cA ad H.size) cw
    ⟨az_blindE D cA ad hp H.size _, az_startE hev hKn hN hA hP hD hS (as.map (az_v ad))⟩
    rfl (by rw [List.length_map]; exact hn) hl1.1.1 (by rw [List.map_append, List.map_reverse]) (lv_room (by rw [az_cats]; exact hcat)) (hT.at hi) ⟨hc, hs⟩) hS hD hA (fun r hp' ad' H1 locs1 hΨ hg hlb1 hP1 hD1 hS1 => ?_)
  have := hg rfl
  subst this
  obtain ⟨rfl, rfl⟩ := hΨ
  exact kk ad' H1 locs1 ls (by omega) hag hP1 hD1 hS1 hl1
/-- the same, with the counts side by side -/
theorem AL_cV (hT : az_Tb cc tb) (hK : az_OK K own cc R0 l0) (i : Nat) (as rest : List Value) {cb : ByteArray} {Ψ : Option Value → az_H → Prop} {k cj N9 : Nat} {fs : List Value} {T9 : u_T} (hM : AMet l0 y cb mL ret rm false (.ref k :: as) hp Ψ) (cv : az_Cw y cb mL ret n) (hl : Cond.methodLink own idx y ∈ lw_tbl) (hv : Cond.instanceMethod y ∈ lw_tbl ∧ Cond.selects y.cls y y ∈ lw_tbl)
    (hi : tb[i]? = some (pc, .invokevirtual idx)) (hobj : hp[k]? = some (.inr (cj, fs))) (hcj : vwCl[cj]? = some (y.cls, T9, N9)) (hn : as.length = n) (hst : st = as.reverse ++ .ref k :: rest) (hrm : az_rm rm R0 mL rest = true) (h0 : rm.cells = 0) (h1 : rm.slots = 0) (hc : cells ≤ R0.cells) (hs : slots ≤ R0.slots)
    (kk : ∀ (r : Option Value) (hp' : az_H), Ψ r hp' → AL K lb cells slots (pc + 3) lo (r.toList ++ rest) hp') : AL K lb cells slots pc lo st hp :=
  AL_callV hT hK i as rest hM cv hl hv hi hobj hcj hn hst hrm (by rw [h0]; exact hc) (by rw [h1]; exact hs) (by rw [h0, h1]; exact kk)
theorem AL_cE (hT : az_Tb cc tb) (hK : az_OK K own cc R0 l0) (hN : az_NcL K) (i : Nat) (as rest : List Value) {cb : ByteArray} (hM : AME l0 y (.code y cb mL ret) rm as hp v d) (cv : az_Cw y cb mL ret n) (hl : Cond.methodLink own idx y ∈ lw_tbl) (hv : Cond.static y ∈ lw_tbl)
    (hi : tb[i]? = some (pc, .invokestatic idx)) (hn : as.length = n) (hst : st = as.reverse ++ rest) (hrm : az_rm rm R0 mL rest = true) (h0 : rm.cells = d) (h1 : rm.slots = 6 * d) (hc : cells + d ≤ R0.cells) (hs : slots + 6 * d ≤ R0.slots)
    (kk : AL K (lb + d) (cells + d) (slots + 6 * d) (pc + 3) lo (v :: rest) hp) : AL K lb cells slots pc lo st hp :=
  AL_callE hT hK hN i as rest hM cv hl hv hi hn hst hrm (by rw [h0]; exact hc) (by rw [h1]; exact hs) (by rw [h0, h1]; exact kk)
theorem AL_cW (hT : az_Tb cc tb) (hK : az_OK K own cc R0 l0) (hN : az_NcL K) (i : Nat) (as rest : List Value) {cb : ByteArray} (hM : AME l0 y (.codeWith y cb mL ret hh) rm as hp v d) (cv : az_CwE y (.codeWith y cb mL ret hh) n) (hl : Cond.methodLink own idx y ∈ lw_tbl) (hv : Cond.static y ∈ lw_tbl)
    (hi : tb[i]? = some (pc, .invokestatic idx)) (hn : as.length = n) (hst : st = as.reverse ++ rest) (hrm : az_rm rm R0 mL rest = true) (h0 : rm.cells = d) (h1 : rm.slots = 6 * d) (hc : cells + d ≤ R0.cells) (hs : slots + 6 * d ≤ R0.slots)
    (kk : AL K (lb + d) (cells + d) (slots + 6 * d) (pc + 3) lo (v :: rest) hp) : AL K lb cells slots pc lo st hp :=
  AL_callEW hT hK hN i as rest hM cv hl hv hi hn hst hrm (by rw [h0]; exact hc) (by rw [h1]; exact hs) (by rw [h0, h1]; exact kk)
theorem AL_cnt {lb' cells' slots' : Nat} (h1 : lb = lb') (h2 : cells = cells') (h3 : slots = slots') (k : AL K lb' cells' slots' pc lo st hp) : AL K lb cells slots pc lo st hp := by
  subst h1 h2 h3
  exact k
/-! the state without papers -/
def rE : Nat → Int32 := fun i => if i < 12 then -1 else 0
def sE : az_S := (fun _ => 0, va_up (fun _ _ => 0) 36 rE, fun _ _ => 0)
theorem rE_lt {j : Nat} (h : j < 12) : rE j = -1 := by
  unfold rE
  rw [if_pos h]
theorem AL_r (hT : az_Tb cc tb) (hK : az_OK K own cc R0 l0) (i j : Nat) {x : Int32} (hi : tb[i]? = some (pc, .iaload)) (hx : x = nI j) (hj : j < 12) (kk : AL K lb cells slots (pc + 1) lo (.int (-1) :: rest) (wd sE)) : AL K lb cells slots pc lo (.int x :: .ref 36 :: rest) (wd sE) :=
  AL_iald hT hK i j (n := 12) (f := rE) hi rfl hx hj (by decide) (by rw [rE_lt hj]; exact kk)
theorem AL_y (hT : az_Tb cc tb) (hK : az_OK K own cc R0 l0) (i j : Nat) {x : Int32} (hi : tb[i]? = some (pc, .iaload)) (hx : x = nI j) (hj : j < 12) (kk : AL K lb cells slots (pc + 1) lo (.int 0 :: rest) (wd sE)) : AL K lb cells slots pc lo (.int x :: .ref 37 :: rest) (wd sE) :=
  AL_iald hT hK i j (n := 12) (f := fun _ => 0) hi rfl hx hj (by decide) kk
theorem AL_m (hT : az_Tb cc tb) (hK : az_OK K own cc R0 l0) (i : Nat) {x : Int32} (hi : tb[i]? = some (pc, .iaload)) (hx : x = nI 0) (kk : AL K lb cells slots (pc + 1) lo (.int 0 :: rest) (wd sE)) : AL K lb cells slots pc lo (.int x :: .ref 38 :: rest) (wd sE) :=
  AL_iald hT hK i 0 (n := 1) (f := fun _ => 0) hi rfl hx (by decide) (by decide) kk
theorem e_holds0 (σ : az_S) (a : Int32) : x_X5_holds σ 0 a = 0 := by
  unfold x_X5_holds
  have e : ((0 : Int32) >>> (a &&& 31)) &&& 1 = 0 := by simp
  rw [e]
  (repeat' split) <;> first | rfl | (rename_i h; exact absurd rfl h)
theorem e_paper (a : Int32) : x_X5_requirePaper sE a = .inl az_NSE := by
  have h : x_X3_has sE a = 0 := e_holds0 sE a
  simp only [x_X5_requirePaper, h]
  rfl
theorem e_field (a : Int32) : x_X5_requireField sE a = .inl az_NSE := by
  have h : x_X0_isGroup sE a = 0 := e_holds0 sE a
  simp only [x_X5_requireField, h]
  rfl
theorem e_withdraw (a : Int32) : x_X5_withdraw sE a = .inl az_NSE := by simp only [x_X5_withdraw, e_paper]
theorem e_references (a : Int32) : x_X5_references sE a = .inl az_NSE := by simp only [x_X5_references, e_paper]
theorem e_citing (a : Int32) : x_X5_citing sE a = .inl az_NSE := by simp only [x_X5_citing, e_paper]
theorem e_shared (a b : Int32) : x_X5_shared sE a b = .inl az_NSE := by simp only [x_X5_shared, e_paper]
theorem e_joint (a b : Int32) : x_X5_joint sE a b = .inl az_NSE := by simp only [x_X5_joint, e_paper]
theorem e_likenessNumerator (a b : Int32) : x_X5_likenessNumerator sE a b = .inl az_NSE := by simp only [x_X5_likenessNumerator, e_paper]
theorem e_likenessDenominator (a b : Int32) : x_X5_likenessDenominator sE a b = .inl az_NSE := by simp only [x_X5_likenessDenominator, e_paper]
theorem e_fieldOf (a : Int32) : x_X5_fieldOf sE a = .inl az_NSE := by simp only [x_X5_fieldOf, e_paper]
theorem e_gain (a b : Int32) : x_X5_gain sE a b = .inl az_NSE := by simp only [x_X5_gain, e_field]
theorem e_split (a : Int32) : x_X5_split sE a = .inl az_NSE := by simp only [x_X5_split, e_field]
theorem e_count (a b : Int32) : x_X5_count sE a b = .inl az_NSE := by simp only [x_X5_count, e_paper]
theorem e_rise (a b : Int32) : x_X5_rise sE a b = .inl az_NSE := by simp only [x_X5_rise, e_paper]
theorem e_heir (a : Int32) : x_X5_heir sE a = .inl az_NSE := by simp only [x_X5_heir, e_paper]
theorem e_papers : x_X5_papers sE = 0 := by decide +kernel
theorem e_fields : x_X5_fields sE = 0 := by decide +kernel
theorem e_ways : x_X5_ways sE = 0 := by decide +kernel
theorem e_total : x_X5_total sE = 0 := by decide +kernel
theorem e_totalAnew : x_X5_totalAnew sE = 0 := by decide +kernel
theorem e_mainLength : x_X5_mainLength sE = 0 := by decide +kernel
theorem e_mainSum : x_X5_mainSum sE = 0 := by decide +kernel
theorem e_riser : x_X5_riser sE 0 = .inr (-1) := by decide +kernel
end AZLC
end
