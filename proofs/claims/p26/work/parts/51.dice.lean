/-! dice -/
section AZDI
def az_X (D : va_G) (cA : Nat → ClassId) (ad : Nat → Nat) (hp : az_H) (sz b L : Nat) (xs : Nat → Int32) : State → Prop := fun U => az_U D cA ad hp sz U ∧ (va_X b L xs U U.heap ∧ b < U.heap.size ∧ (¬ va_A (az_w cA ad hp) sz b) ∧ ad 46 = b)
set_option maxRecDepth 100000 in
set_option maxHeartbeats 4000000 in
theorem l_dice (l0 : Launch) (hp : az_H) (b L : Nat) (xs : Nat → Int32) (k : Nat) (x : Int32) (hk : k < L) (hL : L < 2 ^ 31) (hx : xs k &&& 2147483647 = x) (D : va_G) (cA : Nat → ClassId) (ad0 : Nat → Nat) (sz : Nat) :
    Met l0 yL_dice [.code yL_dice cL_dice 2 (some .int)] ({ frames := 1, cells := 0, slots := 0, locals := 21 } : Room) (va_Pc (([.ref 46, .int (nI k)] : List Value).map (az_v ad0)) (az_X D cA ad0 hp sz b L xs)) (fun a st oc t => az_Q D cA ad0 hp sz false (fun r h => r = some (.int x) ∧ h = hp) a st oc t ∧ st.heap.size + 0 ≤ t.heap.size) 0 0 (va_A (az_w cA ad0 hp) sz) := by
  refine Met.ofW (cc := cL_dice) (maxL := 2) (ret := some .int) (by decide +kernel) rfl ?_
  intro p e s m args below meth c s₁ B hml hv
  obtain ⟨rfl, ⟨hsz, hP, hKn, hD0, hev⟩, hXs, hbl, hnb, hab⟩ := hv
  subst hsz
  have hcat : ∀ v ∈ ([.ref 46, .int (nI k)] : List Value), v.category = 1 := by simp [Value.category]
  have hD := hD0.self (sz := s.heap.size)
  have hA : ∀ q : Nat, s.heap.size ≤ q → va_A (az_w cA ad0 hp) s.heap.size q := fun q h => Or.inr h
  have hl := lv_entry (([.ref 46, .int (nI k)] : List Value).map (az_v ad0)) (n := 2) (by rw [az_sl_len ad0 _ hcat]; exact Nat.le_refl _)
  rw [lg_entry_eq]
  have hl2 : az_ls ad0 ((lg_sl (([.ref 46, .int (nI k)] : List Value).map (az_v ad0)) ++ List.replicate (2 - (lg_sl (([.ref 46, .int (nI k)] : List Value).map (az_v ad0))).length) Slot.unset).toArray) 2 [some (.ref 46), some (.int (nI k))] :=
    ⟨⟨hl.1, hl.2.1, fun q hq => hl.2.2 q (az_entry ad0 [.ref 46, .int (nI k)] 0 hcat 0 q hq)⟩, rfl⟩
  have hK : az_OK (p, l0, e, ({ frames := 1, cells := 0, slots := 0, locals := 21 } : Room), s, m, (([.ref 46, .int (nI k)] : List Value).map (az_v ad0)).toArray, below, meth, c, D, cA, va_A (az_w cA ad0 hp) s.heap.size, (fun ad' => ad' = ad0), MQ below (fun a st oc t => az_Q D cA ad0 hp s.heap.size false (fun r h => r = some (.int x) ∧ h = hp) a st oc t ∧ st.heap.size + 0 ≤ t.heap.size) (([.ref 46, .int (nI k)] : List Value).map (az_v ad0)).toArray s 0 0 (va_A (az_w cA ad0 hp) s.heap.size), 2) RL cL_dice ({ frames := 1, cells := 0, slots := 0, locals := 21 } : Room) l0 :=
    ⟨B.exec, B.bytes, hml, B.notSynchronized, findClass_of_methodNamed B.named, hev, hKn, hA, rfl, rfl⟩
  have hSc : az_Scr (p, l0, e, ({ frames := 1, cells := 0, slots := 0, locals := 21 } : Room), s, m, (([.ref 46, .int (nI k)] : List Value).map (az_v ad0)).toArray, below, meth, c, D, cA, va_A (az_w cA ad0 hp) s.heap.size, (fun ad' => ad' = ad0), MQ below (fun a st oc t => az_Q D cA ad0 hp s.heap.size false (fun r h => r = some (.int x) ∧ h = hp) a st oc t ∧ st.heap.size + 0 ≤ t.heap.size) (([.ref 46, .int (nI k)] : List Value).map (az_v ad0)).toArray s 0 0 (va_A (az_w cA ad0 hp) s.heap.size), 2) b L xs := ⟨hXs, hbl, hnb, fun ad h => by rw [show ad = ad0 from h]; exact hab⟩
  have hE : ∀ (cells slots pc : Nat) (lo : List (Option Value)), cells ≤ 0 → slots ≤ 0 → decode cL_dice pc = .ok (.ireturn, 1) → AL (p, l0, e, ({ frames := 1, cells := 0, slots := 0, locals := 21 } : Room), s, m, (([.ref 46, .int (nI k)] : List Value).map (az_v ad0)).toArray, below, meth, c, D, cA, va_A (az_w cA ad0 hp) s.heap.size, (fun ad' => ad' = ad0), MQ below (fun a st oc t => az_Q D cA ad0 hp s.heap.size false (fun r h => r = some (.int x) ∧ h = hp) a st oc t ∧ st.heap.size + 0 ≤ t.heap.size) (([.ref 46, .int (nI k)] : List Value).map (az_v ad0)).toArray s 0 0 (va_A (az_w cA ad0 hp) s.heap.size), 2) 0 cells slots pc lo [.int x] hp := by
    intro cells slots pc lo hc hs hd ad H locs ls hlb hag hP1 hD1 hS1 hl1
    refine W.widen hc hs ?_
    exact W.zret (v := x) (ty := .int) B.exec B.bytes B.returns rfl (fun t ht hW => ⟨⟨⟨some (.int x), hp, ad, rfl, ⟨rfl, rfl⟩, fun _ => hag, fun i _ => by rw [show ad = ad0 from hag], by rw [ht]; exact hP1, hD1⟩, hS1.F ht⟩, by rw [ht]; exact hlb⟩) hS1.2.2 hd B.notSynchronized
  have hT := tt_L_dice
  have hw : AL (p, l0, e, ({ frames := 1, cells := 0, slots := 0, locals := 21 } : Room), s, m, (([.ref 46, .int (nI k)] : List Value).map (az_v ad0)).toArray, below, meth, c, D, cA, va_A (az_w cA ad0 hp) s.heap.size, (fun ad' => ad' = ad0), MQ below (fun a st oc t => az_Q D cA ad0 hp s.heap.size false (fun r h => r = some (.int x) ∧ h = hp) a st oc t ∧ st.heap.size + 0 ≤ t.heap.size) (([.ref 46, .int (nI k)] : List Value).map (az_v ad0)).toArray s 0 0 (va_A (az_w cA ad0 hp) s.heap.size), 2) 0 0 0 0 [some (.ref 46), some (.int (nI k))] [] hp := by
    refine AL_g hT hK 0 2 (pc' := 2) (lo' := [some (.ref 46), some (.int (nI k))]) (st' := [.ref 46, .int (nI k)]) (hp' := hp) rfl ?_
    refine AL_slen hT hK hSc 2 rfl ?_
    refine AL_icmp_ge hT hK 3 (tgt := 12) rfl rfl (fun c => absurd c (nI_ge hk hL)) (fun _ => ?_)
    refine AL_g hT hK 4 2 (pc' := 8) (lo' := [some (.ref 46), some (.int (nI k))]) (st' := [.int (nI k), .ref 46]) (hp' := hp) rfl ?_
    refine AL_sld hT hK hSc 6 rfl (vp_in_nI hk hL) (v := xs k) (by rw [nI_clamp (Nat.lt_trans hk hL)]) ?_
    refine AL_goto hT hK 7 (tgt := 31) rfl rfl ?_
    refine AL_ldc hT hK 21 (v := 2147483647) rfl (List.mem_of_getElem? (i := 180) (by decide +kernel)) ?_
    refine AL_g hT hK 22 1 (pc' := 34) (lo' := [some (.ref 46), some (.int (nI k))]) (st' := [.int (xs k &&& 2147483647)]) (hp' := hp) rfl ?_
    rw [hx]
    exact hE 0 0 34 _ (Nat.le_refl _) (Nat.le_refl _) (hT.at (i := 23) rfl)
  exact hw ad0 s.heap [] _ (Nat.le_refl _) rfl hP hD va_S.rf hl2
theorem AL_dice {K : az_K} {own : String} {cc : ByteArray} {R0 : Room} {l0 : Launch} {tb : List (Nat × Instr)} {lb cells slots pc : Nat} {lo : List (Option Value)} {rest : List Value} {hp : az_H} (hT : az_Tb cc tb) (hK : az_OK K own cc R0 l0) {b L : Nat} {xs : Nat → Int32} (hX : az_Scr K b L xs) (i k : Nat) (x : Int32) (hk : k < L) (hL : L < 2 ^ 31) (hx : xs k &&& 2147483647 = x) {idx : Nat} (hl : Cond.methodLink own idx yL_dice ∈ lw_tbl)
    (hi : tb[i]? = some (pc, .invokestatic idx)) (hrm : az_rm ({ frames := 1, cells := 0, slots := 0, locals := 21 } : Room) R0 2 rest = true) (hc : cells ≤ R0.cells) (hs : slots ≤ R0.slots)
    (kk : AL K lb cells slots (pc + 3) lo (.int x :: rest) hp) : AL K lb cells slots pc lo (.int (nI k) :: .ref 46 :: rest) hp := by
  obtain ⟨p, l, e, R, s, m, args, below, meth, c, D, cA, A, Ag, Q, nL⟩ := K
  obtain ⟨hexec, hb, hml, hlk, hown, hev, hKn, hA, rfl, rfl⟩ := hK
  obtain ⟨hR, hcat⟩ := az_rm.of hrm
  obtain ⟨h1, h2, h3, h4⟩ := hX
  intro ad H locs ls hlb hag hP hD hS hl1
  refine az_afterL (d := 0) (gr := false) (va_runS (As := ([.ref 46, .int (nI k)] : List Value).map (az_v ad)) (rest := rest.map (az_v ad)) (Ts := []) (own := own) (nL := nL) ⟨hexec, hb, hml, hown, fun _ h => by cases h⟩ (l_dice l hp b L xs k x hk hL hx D cA ad H.size) ⟨az_cb hev.1 cw_L_dice hl hR, hev.1.use sm_L_dice rfl args⟩
    ⟨fun a U g mk h => ⟨(az_blind D cA ad hp H.size _ a U g mk ⟨h.1, h.2.1⟩).1, (az_blind D cA ad hp H.size _ a U g mk ⟨h.1, h.2.1⟩).2, va_X.moved (u := U) (U := U.calling g mk a) (Vm.Alike.refl U.vm) h.2.2.1, h.2.2.2.1, h.2.2.2.2⟩,
     fun U hU hW => ⟨rfl, (az_start hev hKn hA hP hD hS (([.ref 46, .int (nI k)] : List Value).map (az_v ad)) U hU hW).2, (by rw [hU]; exact va_X.moved hW.alike (h1.kept (hS.2.1 b h2 h3))), (by rw [hU]; exact Nat.lt_of_lt_of_le h2 hS.1), (fun z => by
       rcases z with ⟨k9, e9, z⟩ | z
       · exact h3 (hD.2 k9 _ z)
       · exact absurd (Nat.lt_of_lt_of_le h2 hS.1) (Nat.not_lt.mpr z)), h4 ad hag⟩⟩
    rfl rfl hl1.1.1 rfl (lv_room (by rw [az_cats]; exact hcat)) (hT.at hi) ⟨hc, hs⟩) hS hD hA (fun r hp' ad' H1 locs1 hΨ hg hlb1 hP1 hD1 hS1 => ?_)
  have := hg rfl
  subst this
  obtain ⟨rfl, rfl⟩ := hΨ
  exact kk ad' H1 locs1 ls (Nat.le_trans hlb hlb1) hag hP1 hD1 hS1 hl1
end AZDI
