/-! the law's helpers: static methods with a table of handlers -/
section AZH
def az_Tab (K : az_K) (hh : List (Nat × Nat × Nat × Nat)) : Prop :=
  match K with
  | (_, _, _, _, _, _, _, _, _, c, _, _, _, _, _, _) => c.exceptionTable.toList = tableOf hh
def az_NcK (K : az_K) (C T : String) : Prop :=
  match K with
  | (_, _, _, _, s, _, _, _, _, _, _, _, _, _, _, _) => va_Nc C T s
def az_nc (U : State) : Prop := va_Nc "java/lang/IllegalStateException" "java/lang/IllegalArgumentException" U ∧ va_Nc "java/lang/IllegalArgumentException" "java/util/NoSuchElementException" U
theorem az_ls_none {ad : Nat → Nat} {ls' : Array Slot} {nL i : Nat} {v : Value} {lo : List (Option Value)} (hlen : lo.length = nL) (hc : ∀ (j : Nat) (w : Value), j + 1 = i → lo[j]? = some (some w) → w.category = 1)
    (hl : lv_has ls' nL ((i, v) :: (az_lv ad 0 lo).filter (fun q => !(q.1 == i) && !(q.1 + 1 == i && q.2.category == 2)))) : az_ls ad ls' nL (lo.set i none) := by
  refine ⟨⟨hl.1, hl.2.1, fun q hq => hl.2.2 q ?_⟩, by rw [List.length_set]; exact hlen⟩
  obtain ⟨j, w, hj, rfl⟩ := (az_lv_mem ad _ 0 q).mp hq
  rw [Nat.zero_add]
  by_cases hij : i = j
  · subst hij
    rw [az_set_at] at hj
    split at hj <;> cases hj
  · rw [List.getElem?_set_ne hij] at hj
    refine List.mem_cons_of_mem _ (List.mem_filter.mpr ⟨(az_lv_mem ad lo 0 _).mpr ⟨j, w, hj, by rw [Nat.zero_add]⟩, ?_⟩)
    have h1 : (j == i) = false := by simp; omega
    by_cases h2 : j + 1 = i
    · have hw := hc j w h2 hj
      have h3 : ((az_v ad w).category == 2) = false := by rw [az_v_cat, hw]; rfl
      simp only [h1, h3, Bool.and_false, Bool.not_false, Bool.and_self]
    · have h3 : (j + 1 == i) = false := by simp; omega
      simp only [h1, h3, Bool.false_and, Bool.not_false, Bool.and_self]
/-- the contract of a helper -/
def AMetW (l : Launch) (y : MethodName) (cc : ByteArray) (maxL : Nat) (ret : Option FieldType) (hh : List (Nat × Nat × Nat × Nat)) (rm : Room) (as : List Value) (hp : az_H) (Ψ : Option Value → az_H → Prop) : Prop :=
  ∀ (D : va_G) (cA : Nat → ClassId) (ad : Nat → Nat) (sz : Nat),
    Met l y [.codeWith y cc maxL ret hh] rm (va_Pc (as.map (az_v ad)) (fun U => az_U D cA ad hp sz U ∧ az_nc U)) (az_Q D cA ad hp sz false Ψ) rm.cells rm.slots (va_A (az_w cA ad hp) sz)
variable {K : az_K} {own : String} {cc : ByteArray} {R0 : Room} {l0 : Launch} {tb : List (Nat × Instr)} {cells slots pc : Nat} {lo : List (Option Value)} {st rest : List Value} {hp : az_H} {hh : List (Nat × Nat × Nat × Nat)}
theorem AWX_catch (hT : az_Tb cc tb) (hK : az_OK K own cc R0 l0) (hTab : az_Tab K hh) {E : String} (pre : List ExceptionTableEntry) (x : ExceptionTableEntry) (suf : List ExceptionTableEntry) (hsplit : tableOf hh = pre ++ x :: suf)
    (hpass : ∀ z ∈ pre, z.catchType ≠ 0 ∧ ∃ nm : String, Cond.classLink own z.catchType nm ∈ lw_tbl ∧ az_NcK K E nm) (hx : covers x pc = true) (h0 : x.catchType ≠ 0) (hl : Cond.classLink own x.catchType E ∈ lw_tbl) (hcast : Cond.castable E E ∈ lw_tbl)
    (i k : Nat) {ins : Instr} (hi : tb[i]? = some (x.handlerPc, ins)) (hins : (∃ k' : Fin 4, ins = .astore_n k' ∧ (k' : Nat) = k) ∨ ins = .astore k) (hk : (Nat.ble (k + 1) lo.length && az_pre lo k) = true) (kk : AW K cells slots (x.handlerPc + az_len ins) (lo.set k none) [] hp) : AWX K cells slots pc lo rest hp E := by
  obtain ⟨p, l, e, R, s, m, args, below, meth, c, D, cA, A, Ag, Q, nL⟩ := K
  obtain ⟨hexec, hb, hml, hlk, hown, hev, hKn, hA, rfl, rfl⟩ := hK
  rw [Bool.and_eq_true] at hk
  have hk1 : k < lo.length := Nat.le_of_ble_eq_true hk.1
  have hk2 := az_pre_of hk.2
  intro ad H locs ls q ce hag hP hD hS hl1 hq hv hcl
  refine vx_catch (E := E) (name := E) hown pre x suf (hTab.trans hsplit) (fun z hz => Or.inr ⟨(hpass z hz).1, ?_⟩) hx h0 (hev.1.use hl rfl args) (hev.1.use hcast rfl args) hq hv hcl ?_
  · obtain ⟨nm, h1, h2⟩ := (hpass z hz).2
    exact ⟨nm, hev.1.use h1 rfl args, h2⟩
  · have hd := hT.at hi
    rcases hins with ⟨k', rfl, rfl⟩ | rfl
    · exact lv_astore_n hexec hb hd rfl hl1.1 (by rw [← hl1.2]; exact hk1) rfl (fun ls' hl' => kk ad H locs ls' hag hP hD hS (az_ls_none hl1.2 hk2 hl'))
    · exact lv_astore hexec hb hd hl1.1 (by rw [← hl1.2]; exact hk1) rfl (fun ls' hl' => kk ad H locs ls' hag hP hD hS (az_ls_none hl1.2 hk2 hl'))
theorem AMetW_of {y : MethodName} {maxL : Nat} {ret : Option FieldType} {rm : Room} {as : List Value} {hp0 : az_H} {Ψ : Option Value → az_H → Prop} (hy : plainName y.cls = true) (hcat : ∀ v ∈ as, v.category = 1) (hlen : as.length ≤ maxL)
    (body : ∀ K : az_K, az_OK K y.cls cc rm l0 → az_Tab K hh → (az_NcK K "java/lang/IllegalStateException" "java/lang/IllegalArgumentException" ∧ az_NcK K "java/lang/IllegalArgumentException" "java/util/NoSuchElementException") → az_End K cc ret rm Ψ → AW K 0 0 0 (as.map some ++ List.replicate (maxL - as.length) none) [] hp0) : AMetW l0 y cc maxL ret hh rm as hp0 Ψ := by
  intro D cA ad0 sz
  refine MetFree.of_bodyS (code := cc) (maxLocals := maxL) (ret := ret) hy ?_ ?_
  · intro args s m h hn
    obtain ⟨m9, meth, c, hn9, h1, h2, h3, h4, -, h5, h6, -⟩ := Cond.codeWith_spec (atoms_spec (ws := [.codeWith y cc maxL ret hh]) h _ List.mem_cons_self)
    cases hn.symm.trans hn9
    exact ⟨meth, c, h1, h2, h3, h4, h5, h6⟩
  · intro p e s m args below meth c s₁ B hml hP0 _
    have hh0 : s₁.heap = s.heap := by rw [B.state]; rfl
    obtain ⟨rfl, ⟨hsz, hP, hKn, hD0, hev⟩, hnc⟩ := hP0
    have htab := vx_table (x := y) B (atoms_spec (ws := [.codeWith y cc maxL ret hh]) B.pre _ List.mem_cons_self)
    subst hsz
    have hD := hD0.self (sz := s.heap.size)
    have hA : ∀ q : Nat, s.heap.size ≤ q → va_A (az_w cA ad0 hp0) s.heap.size q := fun q h => Or.inr h
    have hl := lv_entry (as.map (az_v ad0)) (n := maxL) (by rw [az_sl_len ad0 as hcat]; exact hlen)
    have hl2 : az_ls ad0 ((lg_sl (as.map (az_v ad0)) ++ List.replicate (maxL - (lg_sl (as.map (az_v ad0))).length) Slot.unset).toArray) maxL (as.map some ++ List.replicate (maxL - as.length) none) :=
      ⟨⟨hl.1, hl.2.1, fun q hq => hl.2.2 q (az_entry ad0 as _ hcat 0 q hq)⟩, by simp; omega⟩
    have KW := body (p, l0, e, rm, s, m, (as.map (az_v ad0)).toArray, below, meth, c, D, cA, va_A (az_w cA ad0 hp0) s.heap.size, fun ad' => ad' = ad0, MQ below (az_Q D cA ad0 hp0 s.heap.size false Ψ) (as.map (az_v ad0)).toArray s rm.cells rm.slots (va_A (az_w cA ad0 hp0) s.heap.size), maxL)
      ⟨B.exec, B.bytes, hml, B.notSynchronized, findClass_of_methodNamed B.named, hev, hKn, hA, rfl, rfl⟩ htab hnc (by
        intro cells slots pc lo hp hc hs
        refine ⟨fun v ty hr hn hd h => ?_, fun v hr hd h => ?_, fun hr hd h => ?_⟩
        · intro ad H locs ls hag hP1 hD1 hS1 hl1
          refine W.widen hc hs ?_
          exact W.zret (v := v) B.exec B.bytes (B.returns.trans hr) hn (fun t ht hW => ⟨⟨some (.int v), hp, ad, rfl, h, fun _ => hag, fun i _ => by rw [show ad = ad0 from hag], by rw [ht]; exact hP1, hD1⟩, hS1.F ht⟩) hS1.2.2 hd B.notSynchronized
        · intro ad H locs ls hag hP1 hD1 hS1 hl1
          refine W.widen hc hs ?_
          exact W.lret (v := v) B.exec B.bytes (B.returns.trans hr) (fun t ht hW => ⟨⟨some (.long v), hp, ad, rfl, h, fun _ => hag, fun i _ => by rw [show ad = ad0 from hag], by rw [ht]; exact hP1, hD1⟩, hS1.F ht⟩) hS1.2.2 hd B.notSynchronized
        · intro ad H locs ls hag hP1 hD1 hS1 hl1
          refine W.widen hc hs ?_
          exact W.vret B.exec B.bytes (B.returns.trans hr) (fun t ht hW => ⟨⟨none, hp, ad, rfl, h, fun _ => hag, fun i _ => by rw [show ad = ad0 from hag], by rw [ht]; exact hP1, hD1⟩, hS1.F ht⟩) hS1.2.2 hd B.notSynchronized)
      ad0 s.heap [] _ rfl hP hD va_S.rf hl2
    rw [List.map_nil, ← lg_entry_eq] at KW
    obtain ⟨t, a1, o, b1, b2, b3⟩ := KW s₁ hh0 (Stand.of_body B)
    exact ⟨t, o, a1, b1, b2, ⟨b3.1, b3.2⟩⟩
variable {y : MethodName} {cb : ByteArray} {mL n idx : Nat} {ret : Option FieldType} {rm : Room} {Ψ : Option Value → az_H → Prop}
def az_CwW (y : MethodName) (cb : ByteArray) (mL : Nat) (ret : Option FieldType) (hh : List (Nat × Nat × Nat × Nat)) (n : Nat) : Prop :=
  (Cond.initialized y.cls ∈ lw_tbl ∧ Cond.codeWith y cb mL ret hh ∈ lw_tbl) ∧ y.cls ≠ "java/lang/invoke/MethodHandle" ∧ y.cls ≠ "java/lang/invoke/VarHandle" ∧ (parseMethodDescriptor y.desc).map (fun d => d.parameters.length) = some n
theorem AW_callSW (hT : az_Tb cc tb) (hK : az_OK K own cc R0 l0) (hN : az_NcK K "java/lang/IllegalStateException" "java/lang/IllegalArgumentException" ∧ az_NcK K "java/lang/IllegalArgumentException" "java/util/NoSuchElementException") (i : Nat) (as rest : List Value) (hM : AMetW l0 y cb mL ret hh rm as hp Ψ) (cv : az_CwW y cb mL ret hh n) (hl : Cond.methodLink own idx y ∈ lw_tbl) (hv : Cond.static y ∈ lw_tbl)
    (hi : tb[i]? = some (pc, .invokestatic idx)) (hn : as.length = n) (hst : st = as.reverse ++ rest) (hrm : az_rm rm R0 mL rest = true) (hc : cells + rm.cells ≤ R0.cells) (hs : slots + rm.slots ≤ R0.slots)
    (kk : ∀ (r : Option Value) (hp' : az_H), Ψ r hp' → AW K (cells + rm.cells) (slots + rm.slots) (pc + 3) lo (r.toList ++ rest) hp') : AW K cells slots pc lo st hp := by
  obtain ⟨p, l, e, R, s, m, args, below, meth, c, D, cA, A, Ag, Q, nL⟩ := K
  obtain ⟨hexec, hb, hml, hlk, hown, hev, hKn, hA, rfl, rfl⟩ := hK
  obtain ⟨hR, hcat⟩ := az_rm.of hrm
  subst hst
  intro ad H locs ls hag hP hD hS hl1
  have hcd : (Cond.codeWith y cb mL ret hh).before args s = true := hev.1.use cv.1.2 rfl args
  have cw : vx_CSW R s args own idx y cb mL ret hh [.codeWith y cb mL ret hh] rm rm.cells rm.slots n := by
    refine ⟨⟨rfl, rfl, hR.1, hR.2, pay_in (big := [.codeWith y cb mL ret hh]) (args := args) (fun w h9 => by rw [List.mem_singleton.mp h9]; exact hcd) (fun w h9 => ⟨h9, by rw [List.mem_singleton.mp h9]; exact Or.inl rfl⟩), List.mem_cons_self⟩, hcd, hev.1.use cv.1.1 rfl args, ⟨cv.2.1, cv.2.2.1⟩, fun sig h => ?_, hev.1.use hl rfl args, hev.1.use hv rfl args⟩
    have h2 := cv.2.2.2
    rw [h] at h2
    exact (Option.some.inj h2).symm
  refine az_after (gr := false) (vx_runSW (As := as.map (az_v ad)) (rest := rest.map (az_v ad)) (Ts := []) (own := own) (nL := nL) ⟨hexec, hb, hml, hown, fun _ h => by cases h⟩ (hM D cA ad H.size) cw
    ⟨fun a U g mk h => ⟨(az_blind D cA ad hp H.size (as.map (az_v ad)) a U g mk ⟨h.1, h.2.1⟩).1, (az_blind D cA ad hp H.size (as.map (az_v ad)) a U g mk ⟨h.1, h.2.1⟩).2, va_Nc.moved (u := U) (U := U.calling g mk a) (Vm.Alike.refl U.vm) h.2.2.1, va_Nc.moved (u := U) (U := U.calling g mk a) (Vm.Alike.refl U.vm) h.2.2.2⟩,
     fun U hU hW => ⟨(az_start hev hKn hA hP hD hS (as.map (az_v ad)) U hU hW).1, (az_start hev hKn hA hP hD hS (as.map (az_v ad)) U hU hW).2, va_Nc.moved hW.alike hN.1, va_Nc.moved hW.alike hN.2⟩⟩
    rfl (by rw [List.length_map]; exact hn) hl1.1.1 (by rw [List.map_append, List.map_reverse]) (lv_room (by rw [az_cats]; exact hcat)) (hT.at hi) ⟨hc, hs⟩) hS hD hA (fun r hp' ad' H1 locs1 hΨ hg hag' hP1 hD1 hS1 => ?_)
  have := hg rfl
  subst this
  rw [az_ret_map]
  exact kk r hp' hΨ ad' H1 locs1 ls hag hP1 hD1 hS1 hl1
end AZH
