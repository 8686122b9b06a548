/-! calls -/
section AZ5
/-- behind a call -/
theorem az_after {p : Program} {l : Launch} {e : Env} {R : Room} {s : State} {m : MethodId} {args : Array Value} {below : List Frame} {meth : Method} {c : Code} {D : va_G} {cA : Nat → ClassId} {A : Nat → Prop} {Q : State → Prop} {ad : Nat → Nat} {H : Heap} {locs : List Loc} {cells slots mc ms pc : Nat} {ls : Array Slot} {st0 rest : List Value} {hp : az_H} {gr : Bool} {Ψ : Option Value → az_H → Prop} {a : Array Value}
    (hr : va_Run p l e R s m args below meth c H locs cells slots mc ms (F0 m pc ls st0) rest (az_Q D cA ad hp H.size gr Ψ a) (va_A (az_w cA ad hp) H.size)) (hS : va_S A s.heap H locs) (hD : va_D A (az_w cA ad hp)) (hA : ∀ q, s.heap.size ≤ q → A q)
    (kk : ∀ (r : Option Value) (hp' : az_H) (ad' : Nat → Nat) (H1 : Heap) (locs1 : List Loc), Ψ r hp' → (gr = false → ad' = ad) → (∀ i, i < hp.length → ad' i = ad i) → va_P D vwCl (az_w cA ad' hp') H1 → va_D A (az_w cA ad' hp') → va_S A s.heap H1 locs1 →
      W p l e R s m args below meth c H1 locs1 (cells + mc) (slots + ms) Q (F0 m (pc + 3) ls ((r.map (az_v ad')).toList ++ rest))) : W p l e R s m args below meth c H locs cells slots Q (F0 m pc ls st0) := by
  have hB : ∀ q, va_A (az_w cA ad hp) H.size q → A q := fun q h => by
    rcases h with ⟨k, e9, h⟩ | h
    · exact hD.2 k _ h
    · exact hA q (Nat.le_trans hS.1 h)
  intro T hT X
  obtain ⟨v, st₀, t, T', L, h0, X', hL, e1, e2, ⟨⟨r, hp', ad', hv, hΨ, hg, hag, hP1, hD1⟩, hz, hk⟩, st⟩ := hr T hT X
  cases hv
  rw [h0] at hz hk
  obtain ⟨t2, a1, b1⟩ := kk r hp' ad' T'.heap (locs ++ L) hΨ hg hag (by rw [e1]; exact hP1) (hD1.weaken (fun _ q _ h => hB q.1 h))
    ⟨Nat.le_trans hS.1 (by rw [e1]; exact hz), fun q h1 h2 => by rw [e1, hk q (Nat.lt_of_lt_of_le h1 hS.1) (fun z => h2 (hB q z))]; exact hS.2.1 q h1 h2, fun q hq => by
      rcases List.mem_append.mp hq with h | h
      · exact hS.2.2 q h
      · exact hB _ (hL q h)⟩ T' rfl X'
  exact ⟨t2, st t2 a1, b1⟩
/-- what the tables say of a call -/
def az_Cw (y : MethodName) (cb : ByteArray) (mL : Nat) (ret : Option FieldType) (n : Nat) : Prop :=
  (Cond.initialized y.cls ∈ lw_tbl ∧ Cond.code y cb mL ret ∈ lw_tbl) ∧ y.cls ≠ "java/lang/invoke/MethodHandle" ∧ y.cls ≠ "java/lang/invoke/VarHandle" ∧ (parseMethodDescriptor y.desc).map (fun d => d.parameters.length) = some n
theorem az_cb {R : Room} {s : State} {args : Array Value} {own : String} {idx : Nat} {y : MethodName} {cb : ByteArray} {mL : Nat} {ret : Option FieldType} {n : Nat} {rm : Room} (hw : az_wd s) (h : az_Cw y cb mL ret n) (hl : Cond.methodLink own idx y ∈ lw_tbl) (hR : rm.frames + 1 ≤ R.frames ∧ 8 + (mL + 11) + rm.locals ≤ R.locals) :
    CallB R s args own idx y cb mL ret [.code y cb mL ret] rm rm.cells rm.slots n :=
  callB_of (Ts := [.code y cb mL ret]) n (fun w h9 => by rw [List.mem_singleton.mp h9]; exact hw.use h.1.2 rfl args) (fun w h9 => ⟨h9, by rw [List.mem_singleton.mp h9]; exact Or.inl rfl⟩) rfl rfl rfl (hw.use h.1.1 rfl args) (hw.use hl rfl args) h.2 hR
def az_rm (rm R0 : Room) (mL : Nat) (rest : List Value) : Bool := Nat.ble (rm.frames + 1) R0.frames && (Nat.ble (8 + (mL + 11) + rm.locals) R0.locals && Nat.ble (rest.map fun v => v.category).sum 8)
theorem az_rm.of {rm R0 : Room} {mL : Nat} {rest : List Value} (h : az_rm rm R0 mL rest = true) : (rm.frames + 1 ≤ R0.frames ∧ 8 + (mL + 11) + rm.locals ≤ R0.locals) ∧ (rest.map fun v => v.category).sum ≤ 8 := by
  unfold az_rm at h
  rw [Bool.and_eq_true, Bool.and_eq_true] at h
  exact ⟨⟨Nat.le_of_ble_eq_true h.1, Nat.le_of_ble_eq_true h.2.1⟩, Nat.le_of_ble_eq_true h.2.2⟩
theorem az_cats (ad : Nat → Nat) (l : List Value) : ((l.map (az_v ad)).map fun v => v.category).sum = (l.map fun v => v.category).sum := by
  rw [List.map_map]
  congr 1
  exact List.map_congr_left (fun v _ => az_v_cat ad v)
theorem az_ret_map (ad : Nat → Nat) (r : Option Value) (rest : List Value) : (r.map (az_v ad)).toList ++ rest.map (az_v ad) = (r.toList ++ rest).map (az_v ad) := by
  cases r <;> rfl
theorem az_blind (D : va_G) (cA : Nat → ClassId) (ad : Nat → Nat) (hp : az_H) (sz : Nat) (as : List Value) : FrameBlind (va_Pc as (az_U D cA ad hp sz)) := by
  intro a U g mk h
  obtain ⟨h0, h1, h2, h3, h4, h5⟩ := h
  exact ⟨h0, h1, h2, va_K.moved (u := U) (U := U.calling g mk a) (Vm.Alike.refl U.vm) h3, h4, h5.call g mk a⟩
theorem az_start {D : va_G} {cA : Nat → ClassId} {ad : Nat → Nat} {hp : az_H} {s : State} {A : Nat → Prop} {H : Heap} {locs : List Loc} (hev : az_ev A s) (hKn : va_K D vwCl (az_tys cA) s) (hA : ∀ q, s.heap.size ≤ q → A q) (hP : va_P D vwCl (az_w cA ad hp) H) (hD : va_D A (az_w cA ad hp)) (hS : va_S A s.heap H locs) (as : List Value) :
    ∀ U : State, U.heap = H → s.WarmedH U.vm → va_Pc as (az_U D cA ad hp H.size) as.toArray U := by
  intro U hU hW
  refine ⟨rfl, by rw [hU], by rw [hU]; exact hP, va_K.moved hW.alike hKn, hD.weaken (fun _ _ _ _ => trivial), hev.to hW hS hU (fun q h => ?_)⟩
  rcases h with ⟨k, e9, h⟩ | h
  · exact hD.2 k _ h
  · exact hA q (Nat.le_trans hS.1 h)
variable {K : az_K} {own : String} {cc : ByteArray} {R0 : Room} {l0 : Launch} {tb : List (Nat × Instr)} {cells slots pc : Nat} {lo : List (Option Value)} {st : List Value} {hp : az_H}
variable {y : MethodName} {cb : ByteArray} {mL n idx : Nat} {ret : Option FieldType} {rm : Room} {Ψ : Option Value → az_H → Prop}
theorem AW_callV (hT : az_Tb cc tb) (hK : az_OK K own cc R0 l0) (i : Nat) (as rest : List Value) {k cj N9 : Nat} {fs : List Value} {T9 : u_T} (hM : AMet l0 y cb mL ret rm false (.ref k :: as) hp Ψ) (cv : az_Cw y cb mL ret n) (hl : Cond.methodLink own idx y ∈ lw_tbl) (hv : Cond.instanceMethod y ∈ lw_tbl ∧ Cond.selects y.cls y y ∈ lw_tbl)
    (hi : tb[i]? = some (pc, .invokevirtual idx)) (hobj : hp[k]? = some (.inr (cj, fs))) (hcj : vwCl[cj]? = some (y.cls, T9, N9)) (hn : as.length = n) (hst : st = as.reverse ++ .ref k :: rest) (hrm : az_rm rm R0 mL rest = true) (hc : cells + rm.cells ≤ R0.cells) (hs : slots + rm.slots ≤ R0.slots)
    (kk : ∀ (r : Option Value) (hp' : az_H), Ψ r hp' → AW K (cells + rm.cells) (slots + rm.slots) (pc + 3) lo (r.toList ++ rest) hp') : AW K cells slots pc lo st hp := by
  obtain ⟨p, l, e, R, s, m, args, below, meth, c, D, cA, A, Ag, Q, nL⟩ := K
  obtain ⟨hexec, hb, hml, hlk, hown, hev, hKn, hA, rfl, rfl⟩ := hK
  obtain ⟨hR, hcat⟩ := az_rm.of hrm
  subst hst
  intro ad H locs ls hag hP hD hS hl1
  refine az_after (gr := false) (va_runV (As := as.map (az_v ad)) (rest := rest.map (az_v ad)) (b := ad k) (C := y.cls) (Ts := []) (own := own) (nL := nL) ⟨hexec, hb, hml, hown, fun _ h => by cases h⟩ (hM D cA ad H.size) ⟨az_cb hev.1 cv hl hR, hev.1.use hv.1 rfl args, hev.1.use hv.2 rfl args⟩
    ⟨az_blind D cA ad hp H.size _, va_recv hKn hP hcj (az_w_at hobj), az_start hev hKn hA hP hD hS (.ref (ad k) :: as.map (az_v ad))⟩ rfl (by rw [List.length_map]; exact hn) hl1.1.1 (by rw [List.map_append, List.map_reverse]; rfl) (lv_room (by rw [az_cats]; exact hcat)) (hT.at hi) ⟨hc, hs⟩) hS hD hA (fun r hp' ad' H1 locs1 hΨ hg hag' hP1 hD1 hS1 => ?_)
  have := hg rfl
  subst this
  rw [az_ret_map]
  exact kk r hp' hΨ ad' H1 locs1 ls hag hP1 hD1 hS1 hl1
theorem AW_callS (hT : az_Tb cc tb) (hK : az_OK K own cc R0 l0) (i : Nat) (as rest : List Value) (hM : AMet l0 y cb mL ret rm false as hp Ψ) (cv : az_Cw y cb mL ret n) (hl : Cond.methodLink own idx y ∈ lw_tbl) (hv : Cond.static y ∈ lw_tbl)
    (hi : tb[i]? = some (pc, .invokestatic idx)) (hn : as.length = n) (hst : st = as.reverse ++ rest) (hrm : az_rm rm R0 mL rest = true) (hc : cells + rm.cells ≤ R0.cells) (hs : slots + rm.slots ≤ R0.slots)
    (kk : ∀ (r : Option Value) (hp' : az_H), Ψ r hp' → AW K (cells + rm.cells) (slots + rm.slots) (pc + 3) lo (r.toList ++ rest) hp') : AW K cells slots pc lo st hp := by
  obtain ⟨p, l, e, R, s, m, args, below, meth, c, D, cA, A, Ag, Q, nL⟩ := K
  obtain ⟨hexec, hb, hml, hlk, hown, hev, hKn, hA, rfl, rfl⟩ := hK
  obtain ⟨hR, hcat⟩ := az_rm.of hrm
  subst hst
  intro ad H locs ls hag hP hD hS hl1
  refine az_after (gr := false) (va_runS (As := as.map (az_v ad)) (rest := rest.map (az_v ad)) (Ts := []) (own := own) (nL := nL) ⟨hexec, hb, hml, hown, fun _ h => by cases h⟩ (hM D cA ad H.size) ⟨az_cb hev.1 cv hl hR, hev.1.use hv rfl args⟩
    ⟨az_blind D cA ad hp H.size _, az_start hev hKn hA hP hD hS (as.map (az_v ad))⟩ rfl (by rw [List.length_map]; exact hn) hl1.1.1 (by rw [List.map_append, List.map_reverse]) (lv_room (by rw [az_cats]; exact hcat)) (hT.at hi) ⟨hc, hs⟩) hS hD hA (fun r hp' ad' H1 locs1 hΨ hg hag' hP1 hD1 hS1 => ?_)
  have := hg rfl
  subst this
  rw [az_ret_map]
  exact kk r hp' hΨ ad' H1 locs1 ls hag hP1 hD1 hS1 hl1
/-- a private static method of a nest mate -/
theorem AW_callSN (hT : az_Tb cc tb) (hK : az_OK K own cc R0 l0) (i : Nat) (as rest : List Value) {host : String} (hM : AMet l0 y cb mL ret rm false as hp Ψ) (cv : az_Cw y cb mL ret n) (hl : Cond.methodLinkNest own idx y host ∈ lw_tbl) (hv : Cond.static y ∈ lw_tbl)
    (hi : tb[i]? = some (pc, .invokestatic idx)) (hn : as.length = n) (hst : st = as.reverse ++ rest) (hrm : az_rm rm R0 mL rest = true) (hc : cells + rm.cells ≤ R0.cells) (hs : slots + rm.slots ≤ R0.slots)
    (kk : ∀ (r : Option Value) (hp' : az_H), Ψ r hp' → AW K (cells + rm.cells) (slots + rm.slots) (pc + 3) lo (r.toList ++ rest) hp') : AW K cells slots pc lo st hp := by
  obtain ⟨p, l, e, R, s, m, args, below, meth, c, D, cA, A, Ag, Q, nL⟩ := K
  obtain ⟨hexec, hb, hml, hlk, hown, hev, hKn, hA, rfl, rfl⟩ := hK
  obtain ⟨hR, hcat⟩ := az_rm.of hrm
  subst hst
  intro ad H locs ls hag hP hD hS hl1
  have cw : va_CN R s args own idx y host cb mL ret [.code y cb mL ret] rm rm.cells rm.slots n :=
    va_cnB (Ts := [.code y cb mL ret]) n (fun w h9 => by rw [List.mem_singleton.mp h9]; exact hev.1.use cv.1.2 rfl args) (fun w h9 => ⟨h9, by rw [List.mem_singleton.mp h9]; exact Or.inl rfl⟩) rfl rfl rfl (hev.1 _ hl rfl) (hev.1.use cv.1.1 rfl args) cv.2 hR
  refine az_after (gr := false) (va_runSN (As := as.map (az_v ad)) (rest := rest.map (az_v ad)) (Ts := []) (own := own) (host := host) (nL := nL) ⟨hexec, hb, hml, hown, fun _ h => by cases h⟩ (hM D cA ad H.size) ⟨cw, hev.1.use hv rfl args, trivial⟩
    ⟨az_blind D cA ad hp H.size _, az_start hev hKn hA hP hD hS (as.map (az_v ad))⟩ rfl (by rw [List.length_map]; exact hn) hl1.1.1 (by rw [List.map_append, List.map_reverse]) (lv_room (by rw [az_cats]; exact hcat)) (hT.at hi) ⟨hc, hs⟩) hS hD hA (fun r hp' ad' H1 locs1 hΨ hg hag' hP1 hD1 hS1 => ?_)
  have := hg rfl
  subst this
  rw [az_ret_map]
  exact kk r hp' hΨ ad' H1 locs1 ls hag hP1 hD1 hS1 hl1
end AZ5
