/-! constructors: their contract, their calls, Object's own -/
section AZG2
variable {K : az_K} {own : String} {cc : ByteArray} {R0 : Room} {l0 : Launch} {tb : List (Nat × Instr)} {cells slots pc : Nat} {lo : List (Option Value)} {st rest : List Value} {hp : az_H} {n0 : Nat}
theorem AMet_ofG {y : MethodName} {maxL : Nat} {ret : Option FieldType} {rm : Room} {as : List Value} {hp0 : az_H} {Ψ : Option Value → az_H → Prop} (hy : plainName y.cls = true) (hcat : ∀ v ∈ as, v.category = 1) (hlen : as.length ≤ maxL)
    (body : ∀ K : az_K, az_OK K y.cls cc rm l0 → (y.name = "<init>" → K.2.2.2.2.2.2.2.2.1.name = "<init>") → az_Gr2 K hp0.length → az_End K cc ret rm Ψ → AW K 0 0 0 (as.map some ++ List.replicate (maxL - as.length) none) [] hp0) : AMet l0 y cc maxL ret rm true as hp0 Ψ := by
  intro D cA ad0 sz
  refine Met.ofW (cc := cc) (maxL := maxL) (ret := ret) hy rfl ?_
  intro p e s m args below meth c s₁ B hml hv
  obtain ⟨rfl, hsz, hP, hKn, hD0, hev⟩ := hv
  subst hsz
  have hD := hD0.self (sz := s.heap.size)
  have hA : ∀ q : Nat, s.heap.size ≤ q → va_A (az_w cA ad0 hp0) s.heap.size q := fun q h => Or.inr h
  have hl := lv_entry (as.map (az_v ad0)) (n := maxL) (by rw [az_sl_len ad0 as hcat]; exact hlen)
  rw [lg_entry_eq]
  have hl2 : az_ls ad0 ((lg_sl (as.map (az_v ad0)) ++ List.replicate (maxL - (lg_sl (as.map (az_v ad0))).length) Slot.unset).toArray) maxL (as.map some ++ List.replicate (maxL - as.length) none) :=
    ⟨⟨hl.1, hl.2.1, fun q hq => hl.2.2 q (az_entry ad0 as _ hcat 0 q hq)⟩, by simp; omega⟩
  refine body (p, l0, e, rm, s, m, (as.map (az_v ad0)).toArray, below, meth, c, D, cA, va_A (az_w cA ad0 hp0) s.heap.size, fun ad' => ∀ i, i < hp0.length → ad' i = ad0 i, _, maxL)
    ⟨B.exec, B.bytes, hml, B.notSynchronized, findClass_of_methodNamed B.named, hev, hKn, hA, rfl, rfl⟩ ?_ ?_ ?_ ad0 s.heap [] _ (fun _ _ => rfl) hP hD va_S.rf hl2
  · intro hy2
    exact (name_of_methodNamed B.named B.method).1.trans hy2
  · intro ad ad' h1 h2 i hi
    exact (h1 i hi).trans (h2 i hi)
  · intro cells slots pc lo hp hc hs
    refine ⟨fun v ty hr hn hd h => ?_, fun v hr hd h => ?_, fun hr hd h => ?_⟩
    · intro ad H locs ls hag hP1 hD1 hS1 hl1
      refine W.widen hc hs ?_
      exact W.zret (v := v) B.exec B.bytes (B.returns.trans hr) hn (fun t ht hW => ⟨⟨some (.int v), hp, ad, rfl, h, (fun z => by cases z), hag, by rw [ht]; exact hP1, hD1⟩, hS1.F ht⟩) hS1.2.2 hd B.notSynchronized
    · intro ad H locs ls hag hP1 hD1 hS1 hl1
      refine W.widen hc hs ?_
      exact W.lret (v := v) B.exec B.bytes (B.returns.trans hr) (fun t ht hW => ⟨⟨some (.long v), hp, ad, rfl, h, (fun z => by cases z), hag, by rw [ht]; exact hP1, hD1⟩, hS1.F ht⟩) hS1.2.2 hd B.notSynchronized
    · intro ad H locs ls hag hP1 hD1 hS1 hl1
      refine W.widen hc hs ?_
      exact W.vret B.exec B.bytes (B.returns.trans hr) (fun t ht hW => ⟨⟨none, hp, ad, rfl, h, (fun z => by cases z), hag, by rw [ht]; exact hP1, hD1⟩, hS1.F ht⟩) hS1.2.2 hd B.notSynchronized
theorem oi_inst : Cond.instanceMethod Lib.objectInit ∈ lw_tbl := List.mem_of_getElem? (i := 44) (by decide +kernel)
theorem oi_code : Cond.code Lib.objectInit ⟨#[0xb1]⟩ 1 none ∈ lw_tbl := List.mem_of_getElem? (i := 45) (by decide +kernel)
theorem AW_obj (hT : az_Tb cc tb) (hK : az_OK K own cc R0 l0) (i : Nat) {idx k : Nat} (hl : Cond.methodLink own idx Lib.objectInit ∈ lw_tbl) (hi : tb[i]? = some (pc, .invokespecial idx)) (hR : (Nat.ble 1 R0.frames && (Nat.ble 20 R0.locals && Nat.ble (rest.map fun v => v.category).sum 8)) = true)
    (kk : AW K cells slots (pc + 3) lo rest hp) : AW K cells slots pc lo (.ref k :: rest) hp := by
  obtain ⟨p, l, e, R, s, m, args, below, meth, c, D, cA, A, Ag, Q, nL⟩ := K
  obtain ⟨hexec, hb, hml, hlk, hown, hev, hKn, hA, rfl, rfl⟩ := hK
  rw [Bool.and_eq_true, Bool.and_eq_true] at hR
  intro ad H locs ls hag hP hD hS hl1
  have h8 : 2 * (F0 m pc ls (.ref (ad k) :: rest.map (az_v ad))).monitorRoom + ((rest.map (az_v ad)).map fun v => v.category).sum ≤ 8 := lv_room (by rw [az_cats]; exact Nat.le_of_ble_eq_true hR.2.2)
  have h20 := Nat.le_of_ble_eq_true hR.2.1
  exact W.objInit hexec hb hown (hev.1.use hl rfl args) (hev.1.use oi_inst rfl args) (hev.1.use oi_code rfl args) (g := F0 m pc ls (.ref (ad k) :: rest.map (az_v ad))) (a := ad k) (rest := rest.map (az_v ad)) rfl (hl1.1.1.trans hml.symm) rfl (hT.at hi) (Nat.le_of_ble_eq_true hR.1) (by omega) (kk ad H locs ls hag hP hD hS hl1)
variable {y : MethodName} {cb : ByteArray} {mL n idx : Nat} {rm : Room} {Ψ : Option Value → az_H → Prop}
/-- a public constructor -/
theorem AW_callI (hT : az_Tb cc tb) (hK : az_OK K own cc R0 l0) (hG : az_Gr2 K n0) (i : Nat) (as rest : List Value) {k : Nat} (hM : AMet l0 y cb mL none rm true (.ref k :: as) hp Ψ) (cv : az_Cw y cb mL none n) (hl : Cond.methodLink own idx y ∈ lw_tbl) (hv : Cond.instanceMethod y ∈ lw_tbl) (hy : y.name = "<init>")
    (hi : tb[i]? = some (pc, .invokespecial idx)) (hn : as.length = n) (hst : st = as.reverse ++ .ref k :: rest) (hrm : az_rm rm R0 mL rest = true) (hn0 : n0 ≤ hp.length) (hfit : (lo.all (az_oin hp.length) && az_lin hp.length rest) = true) (hc : cells + rm.cells ≤ R0.cells) (hs : slots + rm.slots ≤ R0.slots)
    (hvoid : ∀ r h, Ψ r h → r = none) (kk : ∀ (hp' : az_H), Ψ none hp' → AW K (cells + rm.cells) (slots + rm.slots) (pc + 3) lo rest hp') : AW K cells slots pc lo st hp := by
  obtain ⟨p, l, e, R, s, m, args, below, meth, c, D, cA, A, Ag, Q, nL⟩ := K
  obtain ⟨hexec, hb, hml, hlk, hown, hev, hKn, hA, rfl, rfl⟩ := hK
  obtain ⟨hR, hcat⟩ := az_rm.of hrm
  rw [Bool.and_eq_true] at hfit
  subst hst
  intro ad H locs ls hag hP hD hS hl1
  refine az_after (gr := true) (va_runI (As := as.map (az_v ad)) (rest := rest.map (az_v ad)) (b := ad k) (Ts := []) (own := own) (nL := nL) ⟨hexec, hb, hml, hown, fun _ h => by cases h⟩ (hM D cA ad H.size) ⟨az_cb hev.1 cv hl hR, hy, hev.1.use hv rfl args⟩
    ⟨az_blind D cA ad hp H.size _, az_start hev hKn hA hP hD hS (.ref (ad k) :: as.map (az_v ad))⟩ rfl (by rw [List.length_map]; exact hn) hl1.1.1 (by rw [List.map_append, List.map_reverse]; rfl) (lv_room (by rw [az_cats]; exact hcat)) (hT.at hi) ⟨hc, hs⟩) hS hD hA (fun r hp' ad' H1 locs1 hΨ _ hag' hP1 hD1 hS1 => ?_)
  have hr := hvoid r hp' hΨ
  subst hr
  have k9 := kk hp' hΨ ad' H1 locs1 ls (hG ad ad' (fun i h => hag' i (by omega)) hag) hP1 hD1 hS1 (az_ls_ext hag' hfit.1 hl1)
  rw [az_vs_ext hag' rest hfit.2] at k9
  exact k9
/-- a constructor of a nest mate -/
theorem AW_callIN (hT : az_Tb cc tb) (hK : az_OK K own cc R0 l0) (hG : az_Gr2 K n0) (i : Nat) (as rest : List Value) {host : String} {k : Nat} (hM : AMet l0 y cb mL none rm true (.ref k :: as) hp Ψ) (cv : az_Cw y cb mL none n) (hl : Cond.methodLinkNest own idx y host ∈ lw_tbl) (hv : Cond.instanceMethod y ∈ lw_tbl) (hy : y.name = "<init>")
    (hi : tb[i]? = some (pc, .invokespecial idx)) (hn : as.length = n) (hst : st = as.reverse ++ .ref k :: rest) (hrm : az_rm rm R0 mL rest = true) (hn0 : n0 ≤ hp.length) (hfit : (lo.all (az_oin hp.length) && az_lin hp.length rest) = true) (hc : cells + rm.cells ≤ R0.cells) (hs : slots + rm.slots ≤ R0.slots)
    (hvoid : ∀ r h, Ψ r h → r = none) (kk : ∀ (hp' : az_H), Ψ none hp' → AW K (cells + rm.cells) (slots + rm.slots) (pc + 3) lo rest hp') : AW K cells slots pc lo st hp := by
  obtain ⟨p, l, e, R, s, m, args, below, meth, c, D, cA, A, Ag, Q, nL⟩ := K
  obtain ⟨hexec, hb, hml, hlk, hown, hev, hKn, hA, rfl, rfl⟩ := hK
  obtain ⟨hR, hcat⟩ := az_rm.of hrm
  rw [Bool.and_eq_true] at hfit
  subst hst
  intro ad H locs ls hag hP hD hS hl1
  have cw : va_CN R s args own idx y host cb mL none [.code y cb mL none] rm rm.cells rm.slots n :=
    va_cnB (Ts := [.code y cb mL none]) n (fun w h9 => by rw [List.mem_singleton.mp h9]; exact hev.1.use cv.1.2 rfl args) (fun w h9 => ⟨h9, by rw [List.mem_singleton.mp h9]; exact Or.inl rfl⟩) rfl rfl rfl (hev.1 _ hl rfl) (hev.1.use cv.1.1 rfl args) cv.2 hR
  refine az_after (gr := true) (va_runIN (As := as.map (az_v ad)) (rest := rest.map (az_v ad)) (b := ad k) (Ts := []) (own := own) (host := host) (nL := nL) ⟨hexec, hb, hml, hown, fun _ h => by cases h⟩ (hM D cA ad H.size) ⟨cw, hy, hev.1.use hv rfl args⟩
    ⟨az_blind D cA ad hp H.size _, az_start hev hKn hA hP hD hS (.ref (ad k) :: as.map (az_v ad))⟩ rfl (by rw [List.length_map]; exact hn) hl1.1.1 (by rw [List.map_append, List.map_reverse]; rfl) (lv_room (by rw [az_cats]; exact hcat)) (hT.at hi) ⟨hc, hs⟩) hS hD hA (fun r hp' ad' H1 locs1 hΨ _ hag' hP1 hD1 hS1 => ?_)
  have hr := hvoid r hp' hΨ
  subst hr
  have k9 := kk hp' hΨ ad' H1 locs1 ls (hG ad ad' (fun i h => hag' i (by omega)) hag) hP1 hD1 hS1 (az_ls_ext hag' hfit.1 hl1)
  rw [az_vs_ext hag' rest hfit.2] at k9
  exact k9
end AZG2
