/-! the law's start: the two objects, the row for answers; the machine's givens -/
/-! THE CLAIM OUT OF ONE WALK OF THE LAW'S BODY. Your part is whole_start (and what it stands on); all else here is the same for every law, but numbers. -/
def R_law : String := "CociteLaw"
def lw_P (b : Addr) (xs : List Int32) (args : Array Value) (s : State) : Prop := args = #[.ref b] ∧ s.IntsAt b xs ∧ xs.length ≤ 1536 ∧ (Jvm.Cond.and given_1 narrow_1).before args s = true
def lw_Q (_ : Array Value) (s : State) (o : Outcome) (t : State) : Prop := o = .returned (some (.int 1)) ∧ Framed s o t [] 1079 9248
def lw_Z (below : List Frame) (a : Array Value) (s : State) : State → Prop := fun t => ∃ o, t.status = .running ∧ Ended t below o ∧ lw_Q a s o t
/-- the law's own end, with 1 on the stack, nothing written that was there before, its room as the claim has it -/
theorem lw_ret {p : Program} {l : Launch} {e : Env} {s : State} {m : MethodId} {below : List Frame} {meth : Method} {c : Code} {b : Nat} (hx : p.tables.exec = Jvm.exec) (hb : c.code = code) (hr : meth.sig.returnType = ret) (hlocks : meth.locks = false) {pc : Nat} {H : Heap} {ls : Array Slot} (hdg : decode code pc = .ok (.ireturn, 1)) : W p l e room_1 s m #[Value.ref b] below meth c H [] 1079 9248 (lw_Z below #[Value.ref b] s) (F0 m pc ls [.int 1]) := by
  intro T hT X
  obtain ⟨fs, hret, hrun, hended, hW, hframe⟩ := X.leave (v := some (.int 1)) (hlocks := hlocks) (fun h => by rw [hr] at h; cases h)
  have hmeth' : T.vm.method? m = some meth := X.method'
  refine ⟨T.setFrames fs, ?_, .returned (some (.int 1)), hrun, hended, rfl, ⟨_, rfl⟩, hW, hframe⟩
  jvm_step X.here [X.here.top, hx, hb, hdg, hmeth', hr, ret, narrow_b1]
  (try refine ⟨rfl, ?_⟩); (try refine ⟨rfl, ?_⟩)
  first | (intro acts; rw [hret _ acts rfl rfl rfl]) | rw [hret _ _ rfl rfl rfl]
  exact Steps.refl _
/-- what holds at the law's entry: the machine, the code, the tables' words (any of lw_tbl by 'hts w (by decide +kernel)'), the script of L ints xs at the cell b, what the Statement gives of the start (any of its parts by flat_of_before) -/
def lw_At (p : Program) (s : State) (m : MethodId) (meth : Method) (c : Code) (b L : Nat) (xs : Nat → Int32) : Prop :=
  p.tables.exec = Jvm.exec ∧ c.code = code ∧ meth.sig.returnType = ret ∧ c.maxLocals = 7 ∧ s.vm.findClass R_law = some m.cls ∧ (∀ w ∈ lw_tbl, w.before #[Value.ref b] s = true) ∧ va_X b L xs s s.heap ∧ b < s.heap.size ∧ meth.locks = false ∧ (Jvm.Cond.and given_1 narrow_1).before #[Value.ref b] s = true
section AZQ
variable {K : az_K} {own : String} {cc : ByteArray} {R0 : Room} {l0 : Launch} {tb : List (Nat × Instr)} {cells slots pc : Nat} {lo : List (Option Value)} {st rest : List Value} {hp : az_H}
/-- the places whose addresses stay: those that are there, and the script's (46) -/
def az_SL (n : Nat) : Value → Bool
  | .ref k => Nat.blt k n || Nat.ble 46 k
  | _ => true
def az_SO (n : Nat) : Option Value → Bool
  | some v => az_SL n v
  | none => true
def az_GrL (K : az_K) : Prop :=
  match K with
  | (_, _, _, _, _, _, _, _, _, _, _, _, _, Ag, _, _) => ∀ ad ad' : Nat → Nat, (∀ i, 46 ≤ i → ad' i = ad i) → Ag ad → Ag ad'
theorem az_SL_ext {ad ad' : Nat → Nat} {n : Nat} (h1 : ∀ i, i < n → ad' i = ad i) (h2 : ∀ i, 46 ≤ i → ad' i = ad i) (v : Value) (h : az_SL n v = true) : az_v ad' v = az_v ad v := by
  cases v with
  | ref k =>
    refine congrArg Value.ref ?_
    rcases (Bool.or_eq_true _ _).mp h with h | h
    · exact h1 k (Nat.blt_eq.mp h)
    · exact h2 k (Nat.le_of_ble_eq_true h)
  | _ => rfl
theorem az_SLs_ext {ad ad' : Nat → Nat} {n : Nat} (h1 : ∀ i, i < n → ad' i = ad i) (h2 : ∀ i, 46 ≤ i → ad' i = ad i) (l : List Value) (h : l.all (az_SL n) = true) : l.map (az_v ad') = l.map (az_v ad) :=
  List.map_congr_left fun v hv => az_SL_ext h1 h2 v (List.all_eq_true.mp h v hv)
theorem az_ls_extL {ad ad' : Nat → Nat} {n : Nat} {ls : Array Slot} {nL : Nat} {lo : List (Option Value)} (h1 : ∀ i, i < n → ad' i = ad i) (h2 : ∀ i, 46 ≤ i → ad' i = ad i) (h : lo.all (az_SO n) = true) (hl : az_ls ad ls nL lo) : az_ls ad' ls nL lo := by
  refine ⟨⟨hl.1.1, hl.1.2.1, fun q hq => hl.1.2.2 q ?_⟩, hl.2⟩
  obtain ⟨j, w, hj, rfl⟩ := (az_lv_mem ad' _ 0 q).mp hq
  exact (az_lv_mem ad lo 0 _).mpr ⟨j, w, hj, by rw [az_SL_ext h1 h2 w (List.all_eq_true.mp h _ (List.mem_of_getElem? hj))]⟩
theorem AW_newL (hT : az_Tb cc tb) (hK : az_OK K own cc R0 l0) (hG : az_GrL K) (i : Nat) {idx ci N : Nat} {C : String} {T : u_T} (ty : Nat → FieldType) (fs : List Value) (hi : tb[i]? = some (pc, .new idx)) (hcl : Cond.classLink own idx C ∈ lw_tbl) (hinst : Cond.instantiable C N ∈ lw_tbl) (hini : Cond.initialized C ∈ lw_tbl)
    (hc : vwCl[ci]? = some (C, T, N)) (hws : ∀ w ∈ u_ws C T N, w ∈ lw_tbl ∧ az_kp w = true) (hty : ∀ k, k < N → parseFieldDescriptor (T k).2.2.1 = some (ty k)) (hfs : ∀ j, j < N → defaultValue (ty j) = vp_V fs j) (hf0 : az_lin 0 fs = true)
    (hn : hp.length < 46) (hfit : (az_fit hp.length hp && (lo.all (az_SO hp.length) && rest.all (az_SL hp.length))) = true) (hcells : cells + 1 ≤ R0.cells) (hslots : slots + N ≤ R0.slots)
    (kk : AW K (cells + 1) (slots + N) (pc + 3) lo (.ref hp.length :: rest) (hp ++ [.inr (ci, fs)])) : AW K cells slots pc lo rest hp := by
  obtain ⟨p, l, e, R, s, m, args, below, meth, c, D, cA, A, Ag, Q, nL⟩ := K
  obtain ⟨hexec, hb, hml, hlk, hown, hev, hKn, hA, rfl, rfl⟩ := hK
  rw [Bool.and_eq_true, Bool.and_eq_true] at hfit
  intro ad H locs ls hag hP hD hS hl
  refine va_new (Ts := u_ws C T N) hexec hb (fun w h => hev.1.use (hws w h).1 (hws w h).2 args) (fun w h => h) ty hty hown (hev.1.use hcl rfl args) (hev.1.use hinst rfl args) (hev.1.use hini rfl args) hKn hP hD hS hA hc hfs hcells hslots (hT.at hi) (fun q H1 hP1 hD1 hS1 => ?_)
  have hag' : ∀ i, i < hp.length → va_up ad hp.length q i = ad i := fun i h => va_up_ne _ _ (by omega)
  have hag2 : ∀ i, 46 ≤ i → va_up ad hp.length q i = ad i := fun i h => va_up_ne _ _ (by omega)
  have e1 : az_w cA (va_up ad hp.length q) (hp ++ [.inr (ci, fs)]) = az_w cA ad hp ++ [(q, .inr (ci, fs))] := by
    rw [az_w_app, az_w_ext (Nat.le_refl _) hag' hfit.1, va_up_self]
    show _ ++ [(q, (Sum.inr (ci, fs.map (az_v (va_up ad hp.length q))) : va_E))] = _
    have e0 : fs.map (az_v (va_up ad hp.length q)) = fs := by
      conv => rhs; rw [← List.map_id fs]
      refine List.map_congr_left fun v hv => ?_
      have := List.all_eq_true.mp hf0 v hv
      cases v with
      | ref k => cases this
      | _ => rfl
    rw [e0]
  have k9 := kk (va_up ad hp.length q) H1 locs ls (hG ad _ hag2 hag) (by rw [e1]; exact hP1) (by rw [e1]; exact hD1) hS1 (az_ls_extL hag' hag2 hfit.2.1 hl)
  rw [List.map_cons, az_SLs_ext hag' hag2 rest hfit.2.2] at k9
  show W _ _ _ _ _ _ _ _ _ _ _ _ _ _ _ (F0 m _ ls (.ref q :: _))
  have e2 : az_v (va_up ad hp.length q) (.ref hp.length) = .ref q := congrArg Value.ref (va_up_self _ _ _)
  rw [e2] at k9
  exact k9
theorem AW_newaL (hT : az_Tb cc tb) (hK : az_OK K own cc R0 l0) (hG : az_GrL K) (i : Nat) {atype : ArrayType} (t : Nat) (ty : FieldType) {n : Int32} (N : Nat) (a0 : vp_A) (hi : tb[i]? = some (pc, .newarray atype)) (harr : Cond.arrayClass ty ∈ lw_tbl) (hty : newarray.typeOf atype = ty)
    (ht : (t = 0 ∧ ty = .int) ∨ (t = 1 ∧ ty = .long) ∨ (t = 2 ∧ ty = .boolean)) (ha : ∀ c : ClassId, vp_cell c a0 = arrV c N (fun _ => defaultValue ty)) (hn9 : ¬ n < 0) (hN : n.toNatClampNeg = N) (hbytes : N * componentBytes ty ≤ 536870912)
    (hn : hp.length < 46) (hfit : (az_fit hp.length hp && (lo.all (az_SO hp.length) && rest.all (az_SL hp.length))) = true) (hcells : cells + 1 ≤ R0.cells) (hslots : slots + N ≤ R0.slots)
    (kk : AW K (cells + 1) (slots + N) (pc + 2) lo (.ref hp.length :: rest) (hp ++ [.inl (t, a0)])) : AW K cells slots pc lo (.int n :: rest) hp := by
  obtain ⟨p, l, e, R, s, m, args, below, meth, c, D, cA, A, Ag, Q, nL⟩ := K
  obtain ⟨hexec, hb, hml, hlk, hown, hev, hKn, hA, rfl, rfl⟩ := hK
  rw [Bool.and_eq_true, Bool.and_eq_true] at hfit
  intro ad H locs ls hag hP hD hS hl
  refine va_newa hexec hb (ty := ty) (by rw [hty]; exact hev.1.use harr rfl args) hty hKn hP hD hS hA ha hn9 hN hbytes hcells hslots (hT.at hi) (fun q c9 H1 hK1 hP1 hD1 hS1 => ?_)
  have hc9 : c9 = cA t := by
    have h3 := (hK1.2 3 (c9, ty) rfl).2
    rcases ht with ⟨rfl, rfl⟩ | ⟨rfl, rfl⟩ | ⟨rfl, rfl⟩
    · exact Option.some.inj (h3.symm.trans (hKn.2 0 _ rfl).2)
    · exact Option.some.inj (h3.symm.trans (hKn.2 1 _ rfl).2)
    · exact Option.some.inj (h3.symm.trans (hKn.2 2 _ rfl).2)
  rw [hc9] at hP1 hD1
  have hag' : ∀ i, i < hp.length → va_up ad hp.length q i = ad i := fun i h => va_up_ne _ _ (by omega)
  have hag2 : ∀ i, 46 ≤ i → va_up ad hp.length q i = ad i := fun i h => va_up_ne _ _ (by omega)
  have e1 : az_w cA (va_up ad hp.length q) (hp ++ [.inl (t, a0)]) = az_w cA ad hp ++ [(q, .inl (cA t, a0))] := by
    rw [az_w_app, az_w_ext (Nat.le_refl _) hag' hfit.1, va_up_self]
    rfl
  have k9 := kk (va_up ad hp.length q) H1 locs ls (hG ad _ hag2 hag) (by rw [e1]; exact hP1) (by rw [e1]; exact hD1) hS1 (az_ls_extL hag' hag2 hfit.2.1 hl)
  rw [List.map_cons, az_SLs_ext hag' hag2 rest hfit.2.2] at k9
  have e2 : az_v (va_up ad hp.length q) (.ref hp.length) = .ref q := congrArg Value.ref (va_up_self _ _ _)
  rw [e2] at k9
  exact k9
variable {y : MethodName} {cb : ByteArray} {mL n idx : Nat} {rm : Room}
theorem AW_callIL (hT : az_Tb cc tb) (hK : az_OK K own cc R0 l0) (hG : az_GrL K) (i : Nat) (as rest : List Value) {k : Nat} {hp1 : az_H} (hM : AMet l0 y cb mL none rm true (.ref k :: as) hp (fun r h => r = none ∧ h = hp1)) (cv : az_Cw y cb mL none n) (hl : Cond.methodLink own idx y ∈ lw_tbl) (hv : Cond.instanceMethod y ∈ lw_tbl) (hy : y.name = "<init>")
    (hi : tb[i]? = some (pc, .invokespecial idx)) (hn : as.length = n) (hst : st = as.reverse ++ .ref k :: rest) (hrm : az_rm rm R0 mL rest = true) (hn0 : hp.length ≤ 46) (hn1 : hp1.length ≤ 46) (hf1 : az_fit 46 hp1 = true) (hfit : (lo.all (az_SO hp.length) && rest.all (az_SL hp.length)) = true) (hc : cells + rm.cells ≤ R0.cells) (hs : slots + rm.slots ≤ R0.slots)
    (kk : AW K (cells + rm.cells) (slots + rm.slots) (pc + 3) lo rest hp1) : AW K cells slots pc lo st hp := by
  obtain ⟨p, l, e, R, s, m, args, below, meth, c, D, cA, A, Ag, Q, nL⟩ := K
  obtain ⟨hexec, hb, hml, hlk, hown, hev, hKn, hA, rfl, rfl⟩ := hK
  obtain ⟨hR, hcat⟩ := az_rm.of hrm
  rw [Bool.and_eq_true] at hfit
  subst hst
  intro ad H locs ls hag hP hD hS hl1
  refine az_after (gr := true) (va_runI (As := as.map (az_v ad)) (rest := rest.map (az_v ad)) (b := ad k) (Ts := []) (own := own) (nL := nL) ⟨hexec, hb, hml, hown, fun _ h => by cases h⟩ (hM D cA ad H.size) ⟨az_cb hev.1 cv hl hR, hy, hev.1.use hv rfl args⟩
    ⟨az_blind D cA ad hp H.size _, az_start hev hKn hA hP hD hS (.ref (ad k) :: as.map (az_v ad))⟩ rfl (by rw [List.length_map]; exact hn) hl1.1.1 (by rw [List.map_append, List.map_reverse]; rfl) (lv_room (by rw [az_cats]; exact hcat)) (hT.at hi) ⟨hc, hs⟩) hS hD hA (fun r hp' ad' H1 locs1 hΨ _ hag' hP1 hD1 hS1 => ?_)
  obtain ⟨rfl, rfl⟩ := hΨ
  have h46 : ∀ i, i < 46 → (if i < 46 then ad' i else ad i) = ad' i := fun i h => by rw [if_pos h]
  have e1 : az_w cA (fun i => if i < 46 then ad' i else ad i) hp' = az_w cA ad' hp' := az_w_ext hn1 h46 hf1
  have g1 : ∀ i, i < hp.length → (if i < 46 then ad' i else ad i) = ad i := fun i h => by rw [if_pos (by omega)]; exact hag' i h
  have g2 : ∀ i, 46 ≤ i → (if i < 46 then ad' i else ad i) = ad i := fun i h => by rw [if_neg (by omega)]
  have k9 := kk (fun i => if i < 46 then ad' i else ad i) H1 locs1 ls (hG ad _ g2 hag) (by rw [e1]; exact hP1) (by rw [e1]; exact hD1) hS1 (az_ls_extL g1 g2 hfit.1 hl1)
  rw [az_SLs_ext g1 g2 rest hfit.2] at k9
  exact k9
def az_s0 : az_S := (fun _ => 0, fun _ _ => 0, fun _ _ => 0)
def tc_start : List (Nat × Instr) := (tb_L_law_0.drop 0).take 12 ++ ((tb_L_law_0.drop 12).take 12)
theorem tcT_start : az_Tb cL_law tc_start := az_Tb.app tt_L_law_0_0 (tt_L_law_0_12)
set_option maxRecDepth 100000 in
set_option maxHeartbeats 4000000 in
theorem law_first {K : az_K} {l0 : Launch} (hK : az_OK K RL code room_1 l0) (hG : az_GrL K) (kk : AW K 46 1002 23 [some (.ref 46), some (.ref 0), some (.ref 36), some (.ref 45), some (.int (nI 0)), none, none] [] (wd az_s0)) : AW K 0 0 0 [some (.ref 46), none, none, none, none, none, none] [] [] := by
  have hT := tcT_start
  refine AW_newL hT hK hG 0 (ci := 5) (N := 3) tyX5 [.null, .null, .null] rfl (List.mem_of_getElem? (i := 57) (by decide +kernel)) ins_X5 ini_X5 rfl lay_X5 tyX5_ok (by decide) rfl (Nat.le_of_ble_eq_true rfl) rfl (Nat.le_of_ble_eq_true rfl) (Nat.le_of_ble_eq_true rfl) ?_
  refine AW_g hT cl_L hK 1 1 (pc' := 4) (lo' := [some (.ref 46), none, none, none, none, none, none]) (st' := [.ref 0, .ref 0]) (hp' := [.inr (5, [.null, .null, .null])]) rfl ?_
  refine AW_callIL hT hK hG 2 [] [.ref 0] (in_X5 l0) cw_X5_init lk_L_67 im_X5_init rfl rfl rfl rfl rfl (Nat.le_of_ble_eq_true rfl) (Nat.le_of_ble_eq_true rfl) (by decide +kernel) rfl (Nat.le_of_ble_eq_true rfl) (Nat.le_of_ble_eq_true rfl) ?_
  refine AW_g hT cl_L hK 3 1 (pc' := 8) (lo' := [some (.ref 46), some (.ref 0), none, none, none, none, none]) (st' := []) (hp' := [.inr (5, [.ref 1, .ref 12, .ref 25]), .inr (3, [.ref 2, .ref 4, .ref 6, .ref 8, .ref 10, .int 0, .int 0, .int 0]), .inr (2, [.ref 3]), .inl (0, (12, .inl fun _ => 0)), .inr (2, [.ref 5]), .inl (0, (12, .inl fun _ => 0)), .inr (2, [.ref 7]), .inl (0, (12, .inl fun _ => 0)), .inr (4, [.ref 9]), .inl (0, (144, .inl fun _ => 0)), .inr (4, [.ref 11]), .inl (0, (144, .inl fun _ => 0)), .inr (0, [.ref 13, .ref 15, .ref 17, .ref 19, .ref 21, .ref 23, .int 0, .int 0]), .inr (2, [.ref 14]), .inl (0, (12, .inl fun _ => 0)), .inr (2, [.ref 16]), .inl (0, (12, .inl fun _ => 0)), .inr (2, [.ref 18]), .inl (0, (12, .inl fun _ => 0)), .inr (2, [.ref 20]), .inl (0, (12, .inl fun _ => 0)), .inr (4, [.ref 22]), .inl (0, (144, .inl fun _ => 0)), .inr (4, [.ref 24]), .inl (0, (144, .inl fun _ => 0)), .inr (1, [.ref 26, .ref 28, .ref 30, .ref 32, .ref 34, .int 0, .int 0, .int 0]), .inr (2, [.ref 27]), .inl (0, (12, .inl fun _ => 0)), .inr (2, [.ref 29]), .inl (0, (12, .inl fun _ => 0)), .inr (2, [.ref 31]), .inl (0, (12, .inl fun _ => 0)), .inr (2, [.ref 33]), .inl (0, (12, .inl fun _ => 0)), .inr (2, [.ref 35]), .inl (0, (12, .inl fun _ => 0))]) rfl ?_
  refine AW_newL hT hK hG 4 (ci := 6) (N := 10) tyX6 [.int 0, .null, .null, .null, .null, .null, .null, .null, .null, .int 0] rfl (List.mem_of_getElem? (i := 732) (by decide +kernel)) ins_X6 ini_X6 rfl lay_X6 tyX6_ok (by decide) rfl (Nat.le_of_ble_eq_true rfl) (by decide +kernel) (Nat.le_of_ble_eq_true rfl) (Nat.le_of_ble_eq_true rfl) ?_
  refine AW_g hT cl_L hK 5 1 (pc' := 12) (lo' := [some (.ref 46), some (.ref 0), none, none, none, none, none]) (st' := [.ref 36, .ref 36]) (hp' := [.inr (5, [.ref 1, .ref 12, .ref 25]), .inr (3, [.ref 2, .ref 4, .ref 6, .ref 8, .ref 10, .int 0, .int 0, .int 0]), .inr (2, [.ref 3]), .inl (0, (12, .inl fun _ => 0)), .inr (2, [.ref 5]), .inl (0, (12, .inl fun _ => 0)), .inr (2, [.ref 7]), .inl (0, (12, .inl fun _ => 0)), .inr (4, [.ref 9]), .inl (0, (144, .inl fun _ => 0)), .inr (4, [.ref 11]), .inl (0, (144, .inl fun _ => 0)), .inr (0, [.ref 13, .ref 15, .ref 17, .ref 19, .ref 21, .ref 23, .int 0, .int 0]), .inr (2, [.ref 14]), .inl (0, (12, .inl fun _ => 0)), .inr (2, [.ref 16]), .inl (0, (12, .inl fun _ => 0)), .inr (2, [.ref 18]), .inl (0, (12, .inl fun _ => 0)), .inr (2, [.ref 20]), .inl (0, (12, .inl fun _ => 0)), .inr (4, [.ref 22]), .inl (0, (144, .inl fun _ => 0)), .inr (4, [.ref 24]), .inl (0, (144, .inl fun _ => 0)), .inr (1, [.ref 26, .ref 28, .ref 30, .ref 32, .ref 34, .int 0, .int 0, .int 0]), .inr (2, [.ref 27]), .inl (0, (12, .inl fun _ => 0)), .inr (2, [.ref 29]), .inl (0, (12, .inl fun _ => 0)), .inr (2, [.ref 31]), .inl (0, (12, .inl fun _ => 0)), .inr (2, [.ref 33]), .inl (0, (12, .inl fun _ => 0)), .inr (2, [.ref 35]), .inl (0, (12, .inl fun _ => 0)), .inr (6, [.int 0, .null, .null, .null, .null, .null, .null, .null, .null, .int 0])]) rfl ?_
  refine AW_callIL hT hK hG 6 [] [.ref 36] (in_X6 l0) cw_X6_init lk_L_70 im_X6_init rfl rfl rfl rfl rfl (Nat.le_of_ble_eq_true rfl) (Nat.le_of_ble_eq_true rfl) (by decide +kernel) (by decide +kernel) (Nat.le_of_ble_eq_true rfl) (Nat.le_of_ble_eq_true rfl) ?_
  refine AW_g hT cl_L hK 7 2 (pc' := 17) (lo' := [some (.ref 46), some (.ref 0), some (.ref 36), none, none, none, none]) (st' := [.int 1]) (hp' := [.inr (5, [.ref 1, .ref 12, .ref 25]), .inr (3, [.ref 2, .ref 4, .ref 6, .ref 8, .ref 10, .int 0, .int 0, .int 0]), .inr (2, [.ref 3]), .inl (0, (12, .inl fun _ => 0)), .inr (2, [.ref 5]), .inl (0, (12, .inl fun _ => 0)), .inr (2, [.ref 7]), .inl (0, (12, .inl fun _ => 0)), .inr (4, [.ref 9]), .inl (0, (144, .inl fun _ => 0)), .inr (4, [.ref 11]), .inl (0, (144, .inl fun _ => 0)), .inr (0, [.ref 13, .ref 15, .ref 17, .ref 19, .ref 21, .ref 23, .int 0, .int 0]), .inr (2, [.ref 14]), .inl (0, (12, .inl fun _ => 0)), .inr (2, [.ref 16]), .inl (0, (12, .inl fun _ => 0)), .inr (2, [.ref 18]), .inl (0, (12, .inl fun _ => 0)), .inr (2, [.ref 20]), .inl (0, (12, .inl fun _ => 0)), .inr (4, [.ref 22]), .inl (0, (144, .inl fun _ => 0)), .inr (4, [.ref 24]), .inl (0, (144, .inl fun _ => 0)), .inr (1, [.ref 26, .ref 28, .ref 30, .ref 32, .ref 34, .int 0, .int 0, .int 0]), .inr (2, [.ref 27]), .inl (0, (12, .inl fun _ => 0)), .inr (2, [.ref 29]), .inl (0, (12, .inl fun _ => 0)), .inr (2, [.ref 31]), .inl (0, (12, .inl fun _ => 0)), .inr (2, [.ref 33]), .inl (0, (12, .inl fun _ => 0)), .inr (2, [.ref 35]), .inl (0, (12, .inl fun _ => 0)), .inr (6, [.int 0, .ref 37, .ref 38, .ref 39, .ref 40, .ref 41, .ref 42, .ref 43, .ref 44, .int 0]), .inl (2, (12, .inl fun _ => 0)), .inl (0, (12, .inl fun _ => 0)), .inl (0, (12, .inl fun _ => 0)), .inl (0, (144, .inl fun _ => 0)), .inl (0, (12, .inl fun _ => 0)), .inl (0, (12, .inl fun _ => 0)), .inl (0, (12, .inl fun _ => 0)), .inl (1, (12, .inr (.inl fun _ => 0)))]) rfl ?_
  refine AW_newaL hT hK hG 9 (atype := .long) 1 .long 1 (1, .inr (.inl fun _ => 0)) rfl arc_long rfl (Or.inr (Or.inl ⟨rfl, rfl⟩)) (fun _ => rfl) (by decide) (by decide) (by decide) (Nat.le_of_ble_eq_true rfl) (by decide +kernel) (Nat.le_of_ble_eq_true rfl) (Nat.le_of_ble_eq_true rfl) ?_
  refine AW_g hT cl_L hK 10 3 (pc' := 23) (lo' := [some (.ref 46), some (.ref 0), some (.ref 36), some (.ref 45), some (.int (nI 0)), none, none]) (st' := []) (hp' := wd az_s0) rfl ?_
  exact AW_widen (Nat.le_of_ble_eq_true rfl) (Nat.le_of_ble_eq_true rfl) kk
/-- what the machine gives at the law's entry -/
theorem law_ev {s : State} {b : Nat} (hts : ∀ w ∈ lw_tbl, w.before #[Value.ref b] s = true) (hgv : (Jvm.Cond.and given_1 narrow_1).before #[Value.ref b] s = true) : az_ev (fun q => s.heap.size ≤ q) s := by
  have hwd : az_wd s := fun w hw hk => az_kp_warm hk (State.WarmedH.refl s) (hts w hw)
  have hs := flat_of_before _ hgv
  obtain ⟨cC, iS, hKn⟩ := u_known (C := RX5) (T := TX5) (N := 3) (n := 3) hts (fun w h => (lay_X5 w h).1) (hts _ ins_X5)
  refine ⟨hwd, vx_Zqof (args := #[Value.ref b]) (hts _ (List.mem_of_getElem? (i := 325) (by decide +kernel))) (hts _ (List.mem_of_getElem? (i := 49) (by decide +kernel))) (hs _ (by decide +kernel)) (fun a h => Nat.not_le.mpr h),
    vx_Zqof (args := #[Value.ref b]) (hts _ (List.mem_of_getElem? (i := 327) (by decide +kernel))) (hts _ (List.mem_of_getElem? (i := 49) (by decide +kernel))) (hs _ (by decide +kernel)) (fun a h => Nat.not_le.mpr h), ?_⟩
  have z : ∀ (k : Nat) (tx : String), Cond.stringRef "Cocite" k tx ∈ lw_tbl → ∃ a : Nat, vk_R "Cocite" k tx a s := by
    intro k tx h
    obtain ⟨k9, cf, i, a, -, -, -, -, -, h6⟩ := Cond.stringRef_spec (show s.vm.findClass "Cocite" = some cC from hKn.2.1) (hts _ h)
    exact ⟨a, vk_R.of (hts _ h) h6⟩
  intro q hq
  unfold az_txt at hq
  simp only [List.mem_cons, List.not_mem_nil, or_false] at hq
  rcases hq with rfl | rfl | rfl | rfl | rfl | rfl | rfl | rfl
  · exact z _ _ (List.mem_of_getElem? (i := 340) (by decide +kernel))
  · exact z _ _ (List.mem_of_getElem? (i := 371) (by decide +kernel))
  · exact z _ _ (List.mem_of_getElem? (i := 385) (by decide +kernel))
  · exact z _ _ (List.mem_of_getElem? (i := 551) (by decide +kernel))
  · exact z _ _ (List.mem_of_getElem? (i := 648) (by decide +kernel))
  · exact z _ _ (List.mem_of_getElem? (i := 649) (by decide +kernel))
  · exact z _ _ (List.mem_of_getElem? (i := 670) (by decide +kernel))
  · exact z _ _ (List.mem_of_getElem? (i := 689) (by decide +kernel))
theorem law_known {s : State} {b : Nat} (hts : ∀ w ∈ lw_tbl, w.before #[Value.ref b] s = true) : ∃ (D : va_G) (cA : Nat → ClassId), va_K D vwCl (az_tys cA) s := by
  obtain ⟨c0, i0, k0⟩ := u_known (C := RX0) (T := TX0) (N := 8) (n := 8) hts (fun w h => (lay_X0 w h).1) (hts _ ins_X0)
  obtain ⟨c1, i1, k1⟩ := u_known (C := RX1) (T := TX1) (N := 8) (n := 8) hts (fun w h => (lay_X1 w h).1) (hts _ ins_X1)
  obtain ⟨c2, i2, k2⟩ := u_known (C := RX2) (T := TX2) (N := 1) (n := 1) hts (fun w h => (lay_X2 w h).1) (hts _ ins_X2)
  obtain ⟨c3, i3, k3⟩ := u_known (C := RX3) (T := TX3) (N := 8) (n := 8) hts (fun w h => (lay_X3 w h).1) (hts _ ins_X3)
  obtain ⟨c4, i4, k4⟩ := u_known (C := RX4) (T := TX4) (N := 1) (n := 1) hts (fun w h => (lay_X4 w h).1) (hts _ ins_X4)
  obtain ⟨c5, i5, k5⟩ := u_known (C := RX5) (T := TX5) (N := 3) (n := 3) hts (fun w h => (lay_X5 w h).1) (hts _ ins_X5)
  obtain ⟨c6, i6, k6⟩ := u_known (C := RX6) (T := TX6) (N := 10) (n := 10) hts (fun w h => (lay_X6 w h).1) (hts _ ins_X6)
  obtain ⟨a0, b0, d0, f0, g0, h0⟩ := Cond.arrayClass_spec (hts _ arc_int)
  obtain ⟨a1, b1, d1, f1, g1, h1⟩ := Cond.arrayClass_spec (hts _ arc_long)
  obtain ⟨a2, b2, d2, f2, g2, h2⟩ := Cond.arrayClass_spec (hts _ arc_boolean)
  refine ⟨(fun k => if k = 0 then c0 else if k = 1 then c1 else if k = 2 then c2 else if k = 3 then c3 else if k = 4 then c4 else if k = 5 then c5 else c6, fun k => if k = 0 then i0 else if k = 1 then i1 else if k = 2 then i2 else if k = 3 then i3 else if k = 4 then i4 else if k = 5 then i5 else i6), fun k => if k = 0 then a0 else if k = 1 then a1 else a2, ?_, ?_⟩
  · intro k q hq
    match k, hq with
    | 0, hq => cases hq; exact k0
    | 1, hq => cases hq; exact k1
    | 2, hq => cases hq; exact k2
    | 3, hq => cases hq; exact k3
    | 4, hq => cases hq; exact k4
    | 5, hq => cases hq; exact k5
    | 6, hq => cases hq; exact k6
    | k + 7, hq => simp [vwCl] at hq
  · intro k q hq
    match k, hq with
    | 0, hq => cases hq; exact ⟨fun n z => ⟨fun k h => (by cases h), b0, g0, d0, h0⟩, f0⟩
    | 1, hq => cases hq; exact ⟨fun n z => ⟨fun k h => (by cases h), b1, g1, d1, h1⟩, f1⟩
    | 2, hq => cases hq; exact ⟨fun n z => ⟨fun k h => (by cases h), b2, g2, d2, h2⟩, f2⟩
    | k + 3, hq => simp [az_tys] at hq
theorem law_start (I : az_S → Prop) (hI : law_sim I) (hI0 : I az_s0) {p : Program} {e : Env} {s : State} {m : MethodId} {below : List Frame} {meth : Method} {c : Code} (l : Launch) (hflags : l.flags = flags0) {b L : Nat} {xs : Nat → Int32} (hL : L ≤ 1536) (C0 : lw_At p s m meth c b L xs) : W p l e room_1 s m #[Value.ref b] below meth c s.heap [] 0 0 (lw_Z below #[Value.ref b] s) (entryFrame m ([Value.ref b] : List Value).toArray 7) := by
  obtain ⟨hx, hb, hr, hml, hown, hts, hX, hbl, hlocks, hgv⟩ := C0
  obtain ⟨D, cA, hKn⟩ := law_known hts
  have hs := flat_of_before _ hgv
  have hl0 : l.stackTraces = false := by unfold Launch.stackTraces; rw [hflags]; decide +kernel
  have hOK : az_OK (p, l, e, room_1, s, m, #[Value.ref b], below, meth, c, D, cA, (fun q => s.heap.size ≤ q), (fun ad => ad 46 = b), lw_Z below #[Value.ref b] s, 7) RL code room_1 l :=
    ⟨hx, hb, hml, hlocks, hown, law_ev hts hgv, hKn, fun _ h => h, rfl, rfl⟩
  have hG : az_GrL (p, l, e, room_1, s, m, #[Value.ref b], below, meth, c, D, cA, (fun q => s.heap.size ≤ q), (fun ad => ad 46 = b), lw_Z below #[Value.ref b] s, 7) := fun ad ad' h1 h2 => (h1 46 (Nat.le_refl _)).trans h2
  have hSc : az_Scr (p, l, e, room_1, s, m, #[Value.ref b], below, meth, c, D, cA, (fun q => s.heap.size ≤ q), (fun ad => ad 46 = b), lw_Z below #[Value.ref b] s, 7) b L xs := ⟨hX, hbl, Nat.not_le.mpr hbl, fun _ h => h⟩
  have hN : az_NcK (p, l, e, room_1, s, m, #[Value.ref b], below, meth, c, D, cA, (fun q => s.heap.size ≤ q), (fun ad => ad 46 = b), lw_Z below #[Value.ref b] s, 7) "java/lang/IllegalStateException" "java/lang/IllegalArgumentException" ∧ az_NcK (p, l, e, room_1, s, m, #[Value.ref b], below, meth, c, D, cA, (fun q => s.heap.size ≤ q), (fun ad => ad 46 = b), lw_Z below #[Value.ref b] s, 7) "java/lang/IllegalArgumentException" "java/util/NoSuchElementException" :=
    ⟨va_Nc.of (args := #[Value.ref b]) (hs _ (by decide +kernel)), va_Nc.of (args := #[Value.ref b]) (hs _ (by decide +kernel))⟩
  have hEnd : ∀ (cells slots : Nat) (lo : List (Option Value)) (hp : az_H), cells ≤ 1079 → slots ≤ 9248 → AW (p, l, e, room_1, s, m, #[Value.ref b], below, meth, c, D, cA, (fun q => s.heap.size ≤ q), (fun ad => ad 46 = b), lw_Z below #[Value.ref b] s, 7) cells slots 1235 lo [.int 1] hp := by
    intro cells slots lo hp hc hs ad H locs ls hag hP hD hS hl
    refine va_forget hS.2.2 ?_
    exact W.widen hc hs (lw_ret hx hb hr hlocks (tt_L_law_11_48.at (i := 10) rfl))
  have hgo := law_loop hOK hl0 hN hSc hL hEnd I hI 512 0 46 1002 az_s0 hI0 (Nat.zero_le _) (by omega) (by omega) (by omega)
  have hfirst := law_first hOK hG hgo
  have hle := lv_entry ([Value.ref b]) (n := 7) (Nat.le_of_ble_eq_true rfl)
  have k9 := hfirst (fun _ => b) s.heap [] ((lg_sl ([Value.ref b]) ++ List.replicate (7 - (lg_sl ([Value.ref b])).length) Slot.unset).toArray) rfl (fun k q h => by simp [az_w] at h) ⟨fun i j p q h => by simp [az_w] at h, fun k q h => by simp [az_w] at h⟩ va_S.rf ⟨hle, rfl⟩
  rw [lg_entry_eq]
  exact k9
end AZQ
