/-! methods that may throw: their contracts out of walks, and their calls -/
section AZX2
variable {K : az_K} {own : String} {cc : ByteArray} {R0 : Room} {l0 : Launch} {tb : List (Nat × Instr)} {cells slots pc : Nat} {lo : List (Option Value)} {st : List Value} {hp : az_H}
theorem AMetX_of {y : MethodName} {maxL : Nat} {ret : Option FieldType} {rm : Room} {as : List Value} {hp0 : az_H} {Ψ : Option Value → az_H → Prop} {Ξ : String → Prop} (hy : plainName y.cls = true) (hcat : ∀ v ∈ as, v.category = 1) (hlen : as.length ≤ maxL)
    (body : ∀ K : az_K, az_OK K y.cls cc rm l0 → az_Thr K rm hp0 Ξ → az_End K cc ret rm Ψ → AW K 0 0 0 (as.map some ++ List.replicate (maxL - as.length) none) [] hp0) : AMetX l0 y cc maxL ret rm as hp0 Ψ Ξ := by
  intro D cA ad0 sz
  refine vx_ofW (cc := cc) (maxL := maxL) (ret := ret) hy rfl ?_
  intro p e s m args below meth c s₁ B hml htab hv
  obtain ⟨rfl, hsz, hP, hKn, hD0, hev⟩ := hv
  subst hsz
  have hD := hD0.self (sz := s.heap.size)
  have hA : ∀ q : Nat, s.heap.size ≤ q → va_A (az_w cA ad0 hp0) s.heap.size q := fun q h => Or.inr h
  have hl := lv_entry (as.map (az_v ad0)) (n := maxL) (by rw [az_sl_len ad0 as hcat]; exact hlen)
  rw [lg_entry_eq]
  have hl2 : az_ls ad0 ((lg_sl (as.map (az_v ad0)) ++ List.replicate (maxL - (lg_sl (as.map (az_v ad0))).length) Slot.unset).toArray) maxL (as.map some ++ List.replicate (maxL - as.length) none) :=
    ⟨⟨hl.1, hl.2.1, fun q hq => hl.2.2 q (az_entry ad0 as _ hcat 0 q hq)⟩, by simp; omega⟩
  refine body (p, l0, e, rm, s, m, (as.map (az_v ad0)).toArray, below, meth, c, D, cA, va_A (az_w cA ad0 hp0) s.heap.size, fun ad' => ad' = ad0, _, maxL)
    ⟨B.exec, B.bytes, hml, B.notSynchronized, findClass_of_methodNamed B.named, hev, hKn, hA, rfl, rfl⟩ ⟨htab, _, ad0, rfl, fun _ h => h, rfl⟩ ?_ ad0 s.heap [] _ rfl hP hD va_S.rf hl2
  intro cells slots pc lo hp hc hs
  refine ⟨fun v ty hr hn hd h => ?_, fun v hr hd h => ?_, fun hr hd h => ?_⟩
  · intro ad H locs ls hag hP1 hD1 hS1 hl1
    refine W.widen hc hs (vx_ret ?_)
    exact W.zret (v := v) B.exec B.bytes (B.returns.trans hr) hn (fun t ht hW => ⟨⟨some (.int v), hp, ad, rfl, h, fun _ => hag, fun i _ => by rw [show ad = ad0 from hag], by rw [ht]; exact hP1, hD1⟩, hS1.F ht⟩) hS1.2.2 hd B.notSynchronized
  · intro ad H locs ls hag hP1 hD1 hS1 hl1
    refine W.widen hc hs (vx_ret ?_)
    exact W.lret (v := v) B.exec B.bytes (B.returns.trans hr) (fun t ht hW => ⟨⟨some (.long v), hp, ad, rfl, h, fun _ => hag, fun i _ => by rw [show ad = ad0 from hag], by rw [ht]; exact hP1, hD1⟩, hS1.F ht⟩) hS1.2.2 hd B.notSynchronized
  · intro ad H locs ls hag hP1 hD1 hS1 hl1
    refine W.widen hc hs (vx_ret ?_)
    exact W.vret B.exec B.bytes (B.returns.trans hr) (fun t ht hW => ⟨⟨none, hp, ad, rfl, h, fun _ => hag, fun i _ => by rw [show ad = ad0 from hag], by rw [ht]; exact hP1, hD1⟩, hS1.F ht⟩) hS1.2.2 hd B.notSynchronized
/-- behind a call that may throw -/
theorem az_afterX {p : Program} {l : Launch} {e : Env} {R : Room} {s : State} {m : MethodId} {args : Array Value} {below : List Frame} {meth : Method} {c : Code} {D : va_G} {cA : Nat → ClassId} {A : Nat → Prop} {Q : State → Prop} {ad : Nat → Nat} {H : Heap} {locs : List Loc} {cells slots mc ms pc : Nat} {ls : Array Slot} {st0 rest : List Value} {hp : az_H} {Ψ : Option Value → az_H → Prop} {Ξ : String → Prop} {a : Array Value}
    (hr : vx_Run p l e R s m args below meth c H locs cells slots mc ms (F0 m pc ls st0) rest (az_Q D cA ad hp H.size false Ψ a) (az_XC D cA ad hp H.size Ξ) (va_A (az_w cA ad hp) H.size)) (hS : va_S A s.heap H locs) (hD : va_D A (az_w cA ad hp)) (hA : ∀ q, s.heap.size ≤ q → A q)
    (kk : ∀ (r : Option Value) (hp' : az_H) (H1 : Heap) (locs1 : List Loc), Ψ r hp' → va_P D vwCl (az_w cA ad hp') H1 → va_D A (az_w cA ad hp') → va_S A s.heap H1 locs1 →
      W p l e R s m args below meth c H1 locs1 (cells + mc) (slots + ms) Q (F0 m (pc + 3) ls ((r.map (az_v ad)).toList ++ rest)))
    (kx : ∀ (E : String) (q : Addr) (ce : Cell) (H1 : Heap) (locs1 : List Loc), Ξ E → va_P D vwCl (az_w cA ad hp) H1 → va_S A s.heap H1 locs1 → s.heap.size + 1 ≤ H1.size → H1[q]? = some ce → ce.vm = .none → s.vm.findClass E = some ce.cls →
      vx_W p l e R s m args below meth c H1 locs1 (cells + mc) (slots + ms) Q (F0 m pc ls rest) q) : W p l e R s m args below meth c H locs cells slots Q (F0 m pc ls st0) := by
  have hB : ∀ q, va_A (az_w cA ad hp) H.size q → A q := fun q h => by
    rcases h with ⟨k, e9, h⟩ | h
    · exact hD.2 k _ h
    · exact hA q (Nat.le_trans hS.1 h)
  intro T hT X
  rcases hr T hT X with ⟨v, st₀, t, T', L, h0, X', hL, e1, e2, ⟨⟨r, hp', ad', hv, hΨ, hg, hag, hP1, hD1⟩, hF⟩, st⟩ | ⟨q, st₀, t, T', L, E, ce, h0, X', hL, e1, e2, ⟨hΞ, hP1, hF, hlb⟩, hce, hcv, hcl, st⟩
  · cases hv
    have := hg rfl
    subst this
    obtain ⟨k1, k2, k3⟩ := vx_keep h0 e1 hS (fun q _ h => hB q h) hB hL hF
    obtain ⟨t2, a1, b1⟩ := kk r hp' T'.heap (locs ++ L) hΨ (by rw [e1]; exact hP1) (hD1.weaken (fun _ q _ h => hB q.1 h)) k3 T' rfl X'
    exact ⟨t2, st t2 a1, b1⟩
  · obtain ⟨k1, k2, k3⟩ := vx_keep h0 e1 hS (fun q _ h => hB q h) hB hL hF
    obtain ⟨t2, a1, b1⟩ := kx E q ce T'.heap (locs ++ L) hΞ (by rw [e1]; exact hP1) k3 (by rw [e1]; rw [h0] at hlb; exact Nat.le_trans (Nat.add_le_add_right hS.1 1) hlb) (by rw [e1]; exact hce) hcv hcl T' rfl X'
    exact ⟨t2, st.trans a1, b1⟩
variable {y : MethodName} {cb : ByteArray} {mL n idx : Nat} {ret : Option FieldType} {rm : Room} {Ψ : Option Value → az_H → Prop} {Ξ : String → Prop}
theorem AW_callVX (hT : az_Tb cc tb) (hK : az_OK K own cc R0 l0) (i : Nat) (as rest : List Value) {k cj N9 : Nat} {fs : List Value} {T9 : u_T} (hM : AMetX l0 y cb mL ret rm (.ref k :: as) hp Ψ Ξ) (cv : az_Cw y cb mL ret n) (hl : Cond.methodLink own idx y ∈ lw_tbl) (hv : Cond.instanceMethod y ∈ lw_tbl ∧ Cond.selects y.cls y y ∈ lw_tbl)
    (hi : tb[i]? = some (pc, .invokevirtual idx)) (hobj : hp[k]? = some (.inr (cj, fs))) (hcj : vwCl[cj]? = some (y.cls, T9, N9)) (hn : as.length = n) (hst : st = as.reverse ++ .ref k :: rest) (hrm : az_rm rm R0 mL rest = true) (hc : cells + rm.cells ≤ R0.cells) (hs : slots + rm.slots ≤ R0.slots)
    (kk : ∀ (r : Option Value) (hp' : az_H), Ψ r hp' → AW K (cells + rm.cells) (slots + rm.slots) (pc + 3) lo (r.toList ++ rest) hp') (kx : ∀ E : String, Ξ E → AWX K (cells + rm.cells) (slots + rm.slots) pc lo rest hp E) : AW K cells slots pc lo st hp := by
  obtain ⟨p, l, e, R, s, m, args, below, meth, c, D, cA, A, Ag, Q, nL⟩ := K
  obtain ⟨hexec, hb, hml, hlk, hown, hev, hKn, hA, rfl, rfl⟩ := hK
  obtain ⟨hR, hcat⟩ := az_rm.of hrm
  subst hst
  intro ad H locs ls hag hP hD hS hl1
  refine az_afterX (vx_runV (As := as.map (az_v ad)) (rest := rest.map (az_v ad)) (b := ad k) (C := y.cls) (Ts := []) (own := own) (nL := nL) ⟨hexec, hb, hml, hown, fun _ h => by cases h⟩ (hM D cA ad H.size) ⟨az_cb hev.1 cv hl hR, hev.1.use hv.1 rfl args, hev.1.use hv.2 rfl args⟩
    ⟨az_blind D cA ad hp H.size _, va_recv hKn hP hcj (az_w_at hobj), az_start hev hKn hA hP hD hS (.ref (ad k) :: as.map (az_v ad))⟩ rfl (by rw [List.length_map]; exact hn) hl1.1.1 (by rw [List.map_append, List.map_reverse]; rfl) (lv_room (by rw [az_cats]; exact hcat)) (hT.at hi) ⟨hc, hs⟩) hS hD hA (fun r hp' H1 locs1 hΨ hP1 hD1 hS1 => ?_) (fun E q ce H1 locs1 hΞ hP1 hS1 hlb h1 h2 h3 => kx E hΞ ad H1 locs1 ls q ce hag hP1 hD hS1 hlb hl1 h1 h2 h3)
  rw [az_ret_map]
  exact kk r hp' hΨ ad H1 locs1 ls hag hP1 hD1 hS1 hl1
theorem AW_callSX (hT : az_Tb cc tb) (hK : az_OK K own cc R0 l0) (i : Nat) (as rest : List Value) (hM : AMetX l0 y cb mL ret rm as hp Ψ Ξ) (cv : az_Cw y cb mL ret n) (hl : Cond.methodLink own idx y ∈ lw_tbl) (hv : Cond.static y ∈ lw_tbl)
    (hi : tb[i]? = some (pc, .invokestatic idx)) (hn : as.length = n) (hst : st = as.reverse ++ rest) (hrm : az_rm rm R0 mL rest = true) (hc : cells + rm.cells ≤ R0.cells) (hs : slots + rm.slots ≤ R0.slots)
    (kk : ∀ (r : Option Value) (hp' : az_H), Ψ r hp' → AW K (cells + rm.cells) (slots + rm.slots) (pc + 3) lo (r.toList ++ rest) hp') (kx : ∀ E : String, Ξ E → AWX K (cells + rm.cells) (slots + rm.slots) pc lo rest hp E) : AW K cells slots pc lo st hp := by
  obtain ⟨p, l, e, R, s, m, args, below, meth, c, D, cA, A, Ag, Q, nL⟩ := K
  obtain ⟨hexec, hb, hml, hlk, hown, hev, hKn, hA, rfl, rfl⟩ := hK
  obtain ⟨hR, hcat⟩ := az_rm.of hrm
  subst hst
  intro ad H locs ls hag hP hD hS hl1
  refine az_afterX (vx_runS (As := as.map (az_v ad)) (rest := rest.map (az_v ad)) (Ts := []) (own := own) (nL := nL) ⟨hexec, hb, hml, hown, fun _ h => by cases h⟩ (hM D cA ad H.size) ⟨az_cb hev.1 cv hl hR, hev.1.use hv rfl args⟩
    ⟨az_blind D cA ad hp H.size _, az_start hev hKn hA hP hD hS (as.map (az_v ad))⟩ rfl (by rw [List.length_map]; exact hn) hl1.1.1 (by rw [List.map_append, List.map_reverse]) (lv_room (by rw [az_cats]; exact hcat)) (hT.at hi) ⟨hc, hs⟩) hS hD hA (fun r hp' H1 locs1 hΨ hP1 hD1 hS1 => ?_) (fun E q ce H1 locs1 hΞ hP1 hS1 hlb h1 h2 h3 => kx E hΞ ad H1 locs1 ls q ce hag hP1 hD hS1 hlb hl1 h1 h2 h3)
  rw [az_ret_map]
  exact kk r hp' hΨ ad H1 locs1 ls hag hP1 hD1 hS1 hl1
end AZX2
