/-! one paper comes; the law's methods behind it, by program (gen/ew.py) -/
section AZLT
def sTa (σ : az_S) : az_S := sG σ 36 (va_up (σ.2.1 36) 0 0)
def sTb (σ : az_S) : az_S := sG (sTa σ) 37 (va_up ((sTa σ).2.1 37) 0 3)
def sTc (σ : az_S) : az_S := sG (sTb σ) 38 (va_up ((sTb σ).2.1 38) 0 1)
theorem AW_AL0 {K : az_K} {cells slots pc : Nat} {lo : List (Option Value)} {st : List Value} {hp : az_H} (k : AL K 0 cells slots pc lo st hp) : AW K cells slots pc lo st hp := by
  obtain ⟨p, l, e, R, s, m, args, below, meth, c, D, cA, A, Ag, Q, nL⟩ := K
  intro ad H locs ls hag hP hD hS hl
  exact k ad H locs ls hS.1 hag hP hD hS hl
theorem e_shr0 (x : Int32) : (0 : Int32) >>> x = 0 := by simp
/-- what is known of the state with one paper -/
def TF (σ : az_S) : Prop := (∀ j, j < 12 → σ.2.1 36 j = if j = 0 then 0 else -1) ∧ (∀ k, k < 12 → k ≠ 0 → x_X5_requirePaper σ (nI k) = .inl az_NSE) ∧ x_X5_references σ 0 = .inr 0 ∧ x_X5_citing σ 0 = .inr 0 ∧ x_X5_fieldOf σ 0 = .inr 0 ∧ x_X5_split σ 0 = .inr 0 ∧ x_X5_gain σ 0 0 = .inl az_IAE ∧ (∀ k, k < 12 → x_X5_count σ (nI k) 0 = .inl az_NSE) ∧ x_X5_papers σ = 1 ∧ x_X5_total σ = 0 ∧ x_X5_totalAnew σ = 0 ∧ x_X5_fields σ = 1 ∧ x_X5_ways σ = 1
theorem t_ab : ∀ i, i < 144 → ¬ nI (i % 12) ≤ nI (i / 12) → (if i % 12 = 0 then (0 : Int32) else -1) = -1 := by decide +kernel
theorem t_references {σ : az_S} {a : Int32} (h : x_X5_requirePaper σ a = .inl az_NSE) : x_X5_references σ a = .inl az_NSE := by simp only [x_X5_references, h]
theorem t_fieldOf {σ : az_S} {a : Int32} (h : x_X5_requirePaper σ a = .inl az_NSE) : x_X5_fieldOf σ a = .inl az_NSE := by simp only [x_X5_fieldOf, h]
set_option maxRecDepth 100000 in
set_option maxHeartbeats 4000000 in
theorem l_ofI_8 (l0 : Launch) (hl0 : l0.stackTraces = false) (σ : az_S) (a b : Int32) (hx : x_X5_gain σ a b = .inl az_IAE) : AME l0 yL_of (.codeWith yL_of cL_of 5 (some .int) [(0, 173, 174, 61), (0, 173, 179, 15)]) ({ frames := 8, cells := 1, slots := 6, locals := 166 } : Room) [.ref 0, .int 8, .int a, .int b] (wd σ) (wd σ) (.int (-2000000002)) 1 := by
  refine AME_ofW (by decide +kernel) (by simp [Value.category]) (Nat.le_of_ble_eq_true rfl) (fun K hK hTab hN hE => ?_)
  have hT := tt_L_of
  refine AL_g hT hK 0 1 (pc' := 1) (lo' := [some (.ref 0), some (.int 8), some (.int a), some (.int b), none]) (st' := [.int 8]) (hp' := wd σ) rfl ?_
  refine AL_if_ne hT hK 1 (tgt := 12) rfl rfl (fun _ => ?_) (fun c => absurd c (by decide))
  refine AL_g hT hK 6 2 (pc' := 14) (lo' := [some (.ref 0), some (.int 8), some (.int a), some (.int b), none]) (st' := [.int 1, .int 8]) (hp' := wd σ) rfl ?_
  refine AL_icmp_ne hT hK 8 (tgt := 25) rfl rfl (fun _ => ?_) (fun c => absurd c (by decide))
  refine AL_g hT hK 13 2 (pc' := 27) (lo' := [some (.ref 0), some (.int 8), some (.int a), some (.int b), none]) (st' := [.int 2, .int 8]) (hp' := wd σ) rfl ?_
  refine AL_icmp_ne hT hK 15 (tgt := 38) rfl rfl (fun _ => ?_) (fun c => absurd c (by decide))
  refine AL_g hT hK 20 2 (pc' := 40) (lo' := [some (.ref 0), some (.int 8), some (.int a), some (.int b), none]) (st' := [.int 3, .int 8]) (hp' := wd σ) rfl ?_
  refine AL_icmp_ne hT hK 22 (tgt := 52) rfl rfl (fun _ => ?_) (fun c => absurd c (by decide))
  refine AL_g hT hK 28 2 (pc' := 54) (lo' := [some (.ref 0), some (.int 8), some (.int a), some (.int b), none]) (st' := [.int 4, .int 8]) (hp' := wd σ) rfl ?_
  refine AL_icmp_ne hT hK 30 (tgt := 66) rfl rfl (fun _ => ?_) (fun c => absurd c (by decide))
  refine AL_g hT hK 36 2 (pc' := 68) (lo' := [some (.ref 0), some (.int 8), some (.int a), some (.int b), none]) (st' := [.int 5, .int 8]) (hp' := wd σ) rfl ?_
  refine AL_icmp_ne hT hK 38 (tgt := 80) rfl rfl (fun _ => ?_) (fun c => absurd c (by decide))
  refine AL_g hT hK 44 2 (pc' := 83) (lo' := [some (.ref 0), some (.int 8), some (.int a), some (.int b), none]) (st' := [.int 6, .int 8]) (hp' := wd σ) rfl ?_
  refine AL_icmp_ne hT hK 46 (tgt := 95) rfl rfl (fun _ => ?_) (fun c => absurd c (by decide))
  refine AL_g hT hK 52 2 (pc' := 98) (lo' := [some (.ref 0), some (.int 8), some (.int a), some (.int b), none]) (st' := [.int 7, .int 8]) (hp' := wd σ) rfl ?_
  refine AL_icmp_ne hT hK 54 (tgt := 109) rfl rfl (fun _ => ?_) (fun c => absurd c (by decide))
  refine AL_g hT hK 59 2 (pc' := 112) (lo' := [some (.ref 0), some (.int 8), some (.int a), some (.int b), none]) (st' := [.int 8, .int 8]) (hp' := wd σ) rfl ?_
  refine AL_icmp_ne hT hK 61 (tgt := 124) rfl rfl (fun c => absurd (by decide) c) (fun _ => ?_)
  refine AL_g hT hK 62 3 (pc' := 118) (lo' := [some (.ref 0), some (.int 8), some (.int a), some (.int b), none]) (st' := [.int b, .int a, .ref 0]) (hp' := wd σ) rfl ?_
  refine AL_AW ?_
  refine AW_callVX hT hK 65 [.int a, .int b] [] (mx_X5_gain l0 hl0 σ a b az_IAE hx) cw_X5_gain lk_L_46 vi_X5_gain rfl rfl rfl rfl rfl rfl (Nat.le_of_ble_eq_true rfl) (Nat.le_of_ble_eq_true rfl) (fun _ _ hf => hf.elim) (fun E hEE => ?_)
  rw [hEE]
  refine AWX_catch hT hK hTab [⟨0, 173, 174, 61⟩] ⟨0, 173, 179, 15⟩ [] rfl (fun z hz => by rw [List.mem_singleton.mp hz]; exact ⟨by decide, _, hl_61, hN.2⟩) rfl (by decide) hl_15 hc_15 97 4 (ins := .astore 4) rfl (Or.inr rfl) rfl ?_
  refine AL_cnt (lb' := 1) (cells' := 1) (slots' := 6) rfl rfl rfl ?_
  refine AL_ldc hT hK 98 (v := (-2000000002)) rfl (List.mem_of_getElem? (i := 550) (by decide +kernel)) ?_
  refine AL_cnt (lb' := 1) (cells' := 1) (slots' := 6 * 1) (by omega) (by omega) (by omega) ?_
  exact AL_iret hT hE 99 rfl rfl rfl (Nat.le_of_ble_eq_true rfl) (Nat.le_of_ble_eq_true rfl)
set_option maxRecDepth 100000 in
set_option maxHeartbeats 4000000 in
theorem l_bits_0 (l0 : Launch) (hl0 : l0.stackTraces = false) (hp : az_H) : AME l0 yL_bits (.code yL_bits cL_bits 3 (some .int)) ({ frames := 1, cells := 0, slots := 0, locals := 20 } : Room) [.int 0] (hp) (hp) (.int 0) 0 := by
  refine AME_of (by decide +kernel) (by simp [Value.category]) (Nat.le_of_ble_eq_true rfl) (fun K hK hN hE => ?_)
  have hT := tt_L_bits
  refine AL_g hT hK 0 4 (pc' := 4) (lo' := [some (.int 0), some (.int 0), some (.int 0)]) (st' := []) (hp' := hp) rfl ?_
  have lp5 : ∀ (n4 i2 : Nat), i2 + n4 = 12 → 0 ≤ i2 → AL K (0) (0) (6 * (0)) 4 [some (.int 0), some (.int 0), some (.int (nI i2))] [] (hp) := by
    intro n4
    induction n4 with
    | zero =>
      intro i2 hi3 hi3s
      refine AL_g hT hK 4 2 (pc' := 7) (lo' := [some (.int 0), some (.int 0), some (.int (nI i2))]) (st' := [.int 12, .int (nI i2)]) (hp' := hp) rfl ?_
      refine AL_icmp_ge hT hK 6 (tgt := 24) rfl rfl (fun _ => ?_) (fun c => absurd (az_c0 hi3) c)
      refine AL_msk [true, true, false] (lo' := [some (.int 0), some (.int 0), none]) rfl ?_
      refine AL_g hT hK 17 1 (pc' := 25) (lo' := [some (.int 0), some (.int 0), none]) (st' := [.int 0]) (hp' := hp) rfl ?_
      refine AL_cnt (lb' := 0) (cells' := 0) (slots' := 6 * 0) (by omega) (by omega) (by omega) ?_
      exact AL_iret hT hE 18 rfl rfl rfl (Nat.le_of_ble_eq_true rfl) (Nat.le_of_ble_eq_true rfl)
    | succ n4 ih6 =>
      intro i2 hi3 hi3s
      refine AL_g hT hK 4 2 (pc' := 7) (lo' := [some (.int 0), some (.int 0), some (.int (nI i2))]) (st' := [.int 12, .int (nI i2)]) (hp' := hp) rfl ?_
      refine AL_icmp_ge hT hK 6 (tgt := 24) rfl rfl (fun c => absurd c (az_c1 hi3)) (fun _ => ?_)
      refine AL_g hT hK 7 4 (pc' := 14) (lo' := [some (.int 0), some (.int 0), some (.int (nI i2))]) (st' := [.int (0 >>> (nI i2 &&& 31)), .int 0]) (hp' := hp) rfl ?_
      refine AL_to (st' := [.int 0, .int 0]) rfl (by rw [e_shr0]) rfl ?_
      refine AL_g hT hK 11 5 (pc' := 21) (lo' := [some (.int 0), some (.int 0), some (.int (nI i2 + 1))]) (st' := []) (hp' := hp) rfl ?_
      refine AL_goto hT hK 16 (tgt := 4) rfl rfl ?_
      refine AL_to (lo' := [some (.int 0), some (.int 0), some (.int (nI (i2 + 1)))]) (by rw [nI_1]) rfl rfl ?_
      refine AL_cnt (lb' := (0)) (cells' := (0)) (slots' := 6 * (0)) (by omega) (by omega) (by omega) ?_
      exact ih6 (i2 + 1) (by omega) (by omega)
  refine AL_cnt (lb' := (0)) (cells' := (0)) (slots' := 6 * (0)) (by omega) (by omega) (by omega) ?_
  exact lp5 12 0 rfl (Nat.le_refl _)
set_option maxRecDepth 100000 in
set_option maxHeartbeats 4000000 in
theorem l_comeOK (l0 : Launch) (hl0 : l0.stackTraces = false) (σ : az_S) (hc : x_X5_come sE 3 0 = .inr (0, σ)) : AME l0 yL_come (.codeWith yL_come cL_come 4 (some .int) [(0, 6, 7, 15), (0, 6, 11, 18)]) ({ frames := 7, cells := 0, slots := 0, locals := 167 } : Room) [.ref 0, .int 3, .int 0] (wd sE) (wd σ) (.int 0) 0 := by
  refine AME_ofW (by decide +kernel) (by simp [Value.category]) (Nat.le_of_ble_eq_true rfl) (fun K hK hTab hN hE => ?_)
  have hT := tt_L_come
  refine AL_g hT hK 0 3 (pc' := 3) (lo' := [some (.ref 0), some (.int 3), some (.int 0), none]) (st' := [.int 0, .int 3, .ref 0]) (hp' := wd sE) rfl ?_
  refine AL_cV hT hK 3 [.int 3, .int 0] [] (m_X5_come l0 sE 3 0 (0, σ) hc) cw_X5_come lk_L_9 vi_X5_come rfl rfl rfl rfl rfl rfl rfl rfl (by show _ ≤ 0; omega) (by show _ ≤ 0; omega) (AL_k1 rfl ?_)
  refine AL_cnt (lb' := 0) (cells' := 0) (slots' := 6 * 0) (by omega) (by omega) (by omega) ?_
  exact AL_iret hT hE 4 rfl rfl rfl (Nat.le_of_ble_eq_true rfl) (Nat.le_of_ble_eq_true rfl)
set_option maxRecDepth 100000 in
set_option maxHeartbeats 4000000 in
theorem l_isCome (l0 : Launch) (hl0 : l0.stackTraces = false) (σ : az_S) (hc : x_X5_come sE 3 0 = .inr (0, σ)) (hr : ∀ j, j < 12 → σ.2.1 36 j = -1) (hm : σ.2.1 38 0 = 0) (ht : x_X5_total (sTc σ) = 0) : AME l0 yL_isCome (.code yL_isCome cL_isCome 10 (some .boolean)) ({ frames := 8, cells := 0, slots := 0, locals := 190 } : Room) [.ref 0, .ref 36, .ref 37, .ref 38, .int 3, .int 0] (wd sE) (wd (sTc σ)) (.int 1) 0 := by
  refine AME_of (by decide +kernel) (by simp [Value.category]) (Nat.le_of_ble_eq_true rfl) (fun K hK hN hE => ?_)
  have hT := tt_L_isCome
  refine AL_g hT hK 0 1 (pc' := 1) (lo' := [some (.ref 0), some (.ref 36), some (.ref 37), some (.ref 38), some (.int 3), some (.int 0), none, none, none, none]) (st' := [.ref 0]) (hp' := wd sE) rfl ?_
  refine AL_cV hT hK 1 [] [] (m_X5_total l0 sE) cw_X5_total lk_L_89 vi_X5_total rfl rfl rfl rfl rfl rfl rfl rfl (by show _ ≤ 0; omega) (by show _ ≤ 0; omega) (AL_k1 e_total ?_)
  refine AL_g hT hK 2 4 (pc' := 11) (lo' := [some (.ref 0), some (.ref 36), some (.ref 37), some (.ref 38), some (.int 3), some (.int 0), some (.int 0), none, none, none]) (st' := [.int 0, .int 3, .ref 0]) (hp' := wd sE) rfl ?_
  refine AL_cW hT hK hN 6 [.ref 0, .int 3, .int 0] [] (l_comeOK l0 hl0 σ hc) cy_L_come lk_L_131 sm_L_come rfl rfl rfl rfl rfl rfl (by show _ ≤ 0; omega) (by show _ ≤ 0; omega) ?_
  refine AL_g hT hK 7 3 (pc' := 18) (lo' := [some (.ref 0), some (.ref 36), some (.ref 37), some (.ref 38), some (.int 3), some (.int 0), some (.int 0), some (.int 0), none, none]) (st' := [.int 0, .ref 38]) (hp' := wd σ) rfl ?_
  refine AL_ld hT hK 10 0 1 (f := σ.2.1 38) 0 rfl rfl rfl (by decide) (by decide) hm ?_
  refine AL_g hT hK 11 1 (pc' := 21) (lo' := [some (.ref 0), some (.ref 36), some (.ref 37), some (.ref 38), some (.int 3), some (.int 0), some (.int 0), some (.int 0), none, none]) (st' := [.int 12, .int 0]) (hp' := wd σ) rfl ?_
  refine AL_icmp_ne hT hK 12 (tgt := 46) rfl rfl (fun _ => ?_) (fun c => absurd c (by decide))
  refine AL_g hT hK 24 4 (pc' := 52) (lo' := [some (.ref 0), some (.ref 36), some (.ref 37), some (.ref 38), some (.int 3), some (.int 0), some (.int 0), some (.int 0), some (.int 0), some (.int 0)]) (st' := []) (hp' := wd σ) rfl ?_
  have lp5 : ∀ (n4 i2 : Nat), i2 + n4 = 12 → 0 ≤ i2 → AL K (0) (0) (6 * (0)) 52 [some (.ref 0), some (.ref 36), some (.ref 37), some (.ref 38), some (.int 3), some (.int 0), some (.int 0), some (.int 0), some (.int 0), some (.int (nI i2))] [] (wd σ) := by
    intro n4
    induction n4 with
    | zero =>
      intro i2 hi3 hi3s
      refine AL_g hT hK 28 2 (pc' := 56) (lo' := [some (.ref 0), some (.ref 36), some (.ref 37), some (.ref 38), some (.int 3), some (.int 0), some (.int 0), some (.int 0), some (.int 0), some (.int (nI i2))]) (st' := [.int 12, .int (nI i2)]) (hp' := wd σ) rfl ?_
      refine AL_icmp_ge hT hK 30 (tgt := 91) rfl rfl (fun _ => ?_) (fun c => absurd (az_c0 hi3) c)
      refine AL_msk [true, true, true, true, true, true, true, true, true, false] (lo' := [some (.ref 0), some (.ref 36), some (.ref 37), some (.ref 38), some (.int 3), some (.int 0), some (.int 0), some (.int 0), some (.int 0), none]) rfl ?_
      refine AL_g hT hK 48 3 (pc' := 94) (lo' := [some (.ref 0), some (.ref 36), some (.ref 37), some (.ref 38), some (.int 3), some (.int 0), some (.int 0), some (.int 0), some (.int 0), none]) (st' := [.int 0, .ref 38, .ref 36]) (hp' := wd σ) rfl ?_
      refine AL_ld hT hK 51 0 1 (f := σ.2.1 38) 0 rfl rfl rfl (by decide) (by decide) hm ?_
      refine AL_g hT hK 52 1 (pc' := 97) (lo' := [some (.ref 0), some (.ref 36), some (.ref 37), some (.ref 38), some (.int 3), some (.int 0), some (.int 0), some (.int 0), some (.int 0), none]) (st' := [.int 0, .int 0, .ref 36]) (hp' := wd σ) rfl ?_
      refine AL_AW ?_
      refine AW_iast hT hK 53 0 (n := 12) (f := σ.2.1 36) rfl rfl rfl (by decide) (by decide) ?_
      refine AW_to (hp' := wd (sTa σ)) rfl rfl rfl ?_
      refine AW_AL0 ?_
      refine AL_g hT hK 54 3 (pc' := 101) (lo' := [some (.ref 0), some (.ref 36), some (.ref 37), some (.ref 38), some (.int 3), some (.int 0), some (.int 0), some (.int 0), some (.int 0), none]) (st' := [.int 0, .ref 38, .ref 37]) (hp' := wd (sTa σ)) rfl ?_
      refine AL_ld hT hK 57 0 1 (f := (sTa σ).2.1 38) 0 rfl rfl rfl (by decide) (by decide) hm ?_
      refine AL_g hT hK 58 1 (pc' := 104) (lo' := [some (.ref 0), some (.ref 36), some (.ref 37), some (.ref 38), some (.int 3), some (.int 0), some (.int 0), some (.int 0), some (.int 0), none]) (st' := [.int 3, .int 0, .ref 37]) (hp' := wd (sTa σ)) rfl ?_
      refine AL_AW ?_
      refine AW_iast hT hK 59 0 (n := 12) (f := (sTa σ).2.1 37) rfl rfl rfl (by decide) (by decide) ?_
      refine AW_to (hp' := wd (sTb σ)) rfl rfl rfl ?_
      refine AW_AL0 ?_
      refine AL_g hT hK 60 3 (pc' := 108) (lo' := [some (.ref 0), some (.ref 36), some (.ref 37), some (.ref 38), some (.int 3), some (.int 0), some (.int 0), some (.int 0), some (.int 0), none]) (st' := [.int 0, .ref 38, .int 0, .ref 38]) (hp' := wd (sTb σ)) rfl ?_
      refine AL_ld hT hK 63 0 1 (f := (sTb σ).2.1 38) 0 rfl rfl rfl (by decide) (by decide) hm ?_
      refine AL_g hT hK 64 2 (pc' := 111) (lo' := [some (.ref 0), some (.ref 36), some (.ref 37), some (.ref 38), some (.int 3), some (.int 0), some (.int 0), some (.int 0), some (.int 0), none]) (st' := [.int 1, .int 0, .ref 38]) (hp' := wd (sTb σ)) rfl ?_
      refine AL_AW ?_
      refine AW_iast hT hK 66 0 (n := 1) (f := (sTb σ).2.1 38) rfl rfl rfl (by decide) (by decide) ?_
      refine AW_to (hp' := wd (sTc σ)) rfl rfl rfl ?_
      refine AW_AL0 ?_
      refine AL_g hT hK 67 1 (pc' := 114) (lo' := [some (.ref 0), some (.ref 36), some (.ref 37), some (.ref 38), some (.int 3), some (.int 0), some (.int 0), some (.int 0), some (.int 0), none]) (st' := [.int 0]) (hp' := wd (sTc σ)) rfl ?_
      refine AL_cE hT hK hN 68 [.int 0] [] (l_bits_0 l0 hl0 (wd (sTc σ))) cw_L_bits lk_L_102 sm_L_bits rfl rfl rfl rfl rfl rfl (by show _ ≤ 0; omega) (by show _ ≤ 0; omega) ?_
      refine AL_g hT hK 69 4 (pc' := 123) (lo' := [some (.ref 0), some (.ref 36), some (.ref 37), some (.ref 38), some (.int 3), some (.int 0), some (.int 0), some (.int 0), some (.int 0), some (.int 0)]) (st' := [.int 0, .ref 38, .int 0]) (hp' := wd (sTc σ)) rfl ?_
      refine AL_ld hT hK 73 0 1 (f := (sTc σ).2.1 38) 1 rfl rfl rfl (by decide) (by decide) rfl ?_
      refine AL_g hT hK 74 2 (pc' := 126) (lo' := [some (.ref 0), some (.ref 36), some (.ref 37), some (.ref 38), some (.int 3), some (.int 0), some (.int 0), some (.int 0), some (.int 0), some (.int 0)]) (st' := [.int 0, .int 0]) (hp' := wd (sTc σ)) rfl ?_
      refine AL_icmp_ne hT hK 76 (tgt := 155) rfl rfl (fun c => absurd (by decide) c) (fun _ => ?_)
      refine AL_g hT hK 77 1 (pc' := 130) (lo' := [some (.ref 0), some (.ref 36), some (.ref 37), some (.ref 38), some (.int 3), some (.int 0), some (.int 0), some (.int 0), some (.int 0), some (.int 0)]) (st' := [.ref 0]) (hp' := wd (sTc σ)) rfl ?_
      refine AL_cV hT hK 78 [] [] (m_X5_total l0 (sTc σ)) cw_X5_total lk_L_89 vi_X5_total rfl rfl rfl rfl rfl rfl rfl rfl (by show _ ≤ 0; omega) (by show _ ≤ 0; omega) (AL_k1 ht ?_)
      refine AL_g hT hK 79 9 (pc' := 146) (lo' := [some (.ref 0), some (.ref 36), some (.ref 37), some (.ref 38), some (.int 3), some (.int 0), some (.int 0), some (.int 0), some (.int 0), some (.int 0)]) (st' := [.int 2, .int 0, .int 0, .int 0]) (hp' := wd (sTc σ)) rfl ?_
      refine AL_idivN hT hK 88 0 2 rfl rfl rfl (by decide) (by decide) (by decide) ?_
      refine AL_to (st' := [.int 0, .int 0, .int 0]) rfl rfl rfl ?_
      refine AL_g hT hK 89 1 (pc' := 148) (lo' := [some (.ref 0), some (.ref 36), some (.ref 37), some (.ref 38), some (.int 3), some (.int 0), some (.int 0), some (.int 0), some (.int 0), some (.int 0)]) (st' := [.int 0, .int 0]) (hp' := wd (sTc σ)) rfl ?_
      refine AL_icmp_ne hT hK 90 (tgt := 155) rfl rfl (fun c => absurd (by decide) c) (fun _ => ?_)
      refine AL_g hT hK 91 1 (pc' := 152) (lo' := [some (.ref 0), some (.ref 36), some (.ref 37), some (.ref 38), some (.int 3), some (.int 0), some (.int 0), some (.int 0), some (.int 0), some (.int 0)]) (st' := [.int 1]) (hp' := wd (sTc σ)) rfl ?_
      refine AL_goto hT hK 92 (tgt := 156) rfl rfl ?_
      refine AL_cnt (lb' := 0) (cells' := 0) (slots' := 6 * 0) (by omega) (by omega) (by omega) ?_
      exact AL_iret hT hE 94 rfl rfl rfl (Nat.le_of_ble_eq_true rfl) (Nat.le_of_ble_eq_true rfl)
    | succ n4 ih6 =>
      intro i2 hi3 hi3s
      refine AL_g hT hK 28 2 (pc' := 56) (lo' := [some (.ref 0), some (.ref 36), some (.ref 37), some (.ref 38), some (.int 3), some (.int 0), some (.int 0), some (.int 0), some (.int 0), some (.int (nI i2))]) (st' := [.int 12, .int (nI i2)]) (hp' := wd σ) rfl ?_
      refine AL_icmp_ge hT hK 30 (tgt := 91) rfl rfl (fun c => absurd c (az_c1 hi3)) (fun _ => ?_)
      refine AL_g hT hK 31 3 (pc' := 64) (lo' := [some (.ref 0), some (.ref 36), some (.ref 37), some (.ref 38), some (.int 3), some (.int 0), some (.int 0), some (.int 0), some (.int 0), some (.int (nI i2))]) (st' := [.int (nI i2), .ref 36, .int 0]) (hp' := wd σ) rfl ?_
      refine AL_ld hT hK 34 i2 12 (f := σ.2.1 36) (-1) rfl rfl rfl (by omega) (by decide) (hr _ (by omega)) ?_
      refine AL_if_ge hT hK 35 (tgt := 72) rfl rfl (fun c => absurd c (by decide)) (fun _ => ?_)
      refine AL_g hT hK 36 1 (pc' := 69) (lo' := [some (.ref 0), some (.ref 36), some (.ref 37), some (.ref 38), some (.int 3), some (.int 0), some (.int 0), some (.int 0), some (.int 0), some (.int (nI i2))]) (st' := [.int 0, .int 0]) (hp' := wd σ) rfl ?_
      refine AL_goto hT hK 37 (tgt := 82) rfl rfl ?_
      refine AL_g hT hK 44 3 (pc' := 88) (lo' := [some (.ref 0), some (.ref 36), some (.ref 37), some (.ref 38), some (.int 3), some (.int 0), some (.int 0), some (.int 0), some (.int 0), some (.int (nI i2 + 1))]) (st' := []) (hp' := wd σ) rfl ?_
      refine AL_goto hT hK 47 (tgt := 52) rfl rfl ?_
      refine AL_to (lo' := [some (.ref 0), some (.ref 36), some (.ref 37), some (.ref 38), some (.int 3), some (.int 0), some (.int 0), some (.int 0), some (.int 0), some (.int (nI (i2 + 1)))]) (by rw [nI_1]) rfl rfl ?_
      refine AL_cnt (lb' := (0)) (cells' := (0)) (slots' := 6 * (0)) (by omega) (by omega) (by omega) ?_
      exact ih6 (i2 + 1) (by omega) (by omega)
  refine AL_cnt (lb' := (0)) (cells' := (0)) (slots' := 6 * (0)) (by omega) (by omega) (by omega) ?_
  exact lp5 12 0 rfl (Nat.le_refl _)
set_option maxRecDepth 100000 in
set_option maxHeartbeats 4000000 in
theorem l_arePapersT (l0 : Launch) (hl0 : l0.stackTraces = false) (σ : az_S) (hF : TF σ) : AME l0 yL_arePapers (.code yL_arePapers cL_arePapers 14 (some .boolean)) ({ frames := 9, cells := 22, slots := 132, locals := 190 } : Room) [.ref 0, .ref 36, .ref 37, .ref 38] (wd σ) (wd σ) (.int 1) 22 := by
  refine AME_of (by decide +kernel) (by simp [Value.category]) (Nat.le_of_ble_eq_true rfl) (fun K hK hN hE => ?_)
  have hT := tt_L_arePapers
  have hF9 := hF
  obtain ⟨f_r, f_p, f_ref, f_cit, f_fo, f_sp, f_g, f_c, f_pa, f_t, f_ta, f_fi, f_w⟩ := hF9
  refine AL_g hT hK 0 8 (pc' := 12) (lo' := [some (.ref 0), some (.ref 36), some (.ref 37), some (.ref 38), some (.int 0), some (.int 0), some (.int 1), some (.int 0), none, none, none, none, none, none]) (st' := []) (hp' := wd σ) rfl ?_
  refine AL_g hT hK 8 2 (pc' := 16) (lo' := [some (.ref 0), some (.ref 36), some (.ref 37), some (.ref 38), some (.int 0), some (.int 0), some (.int 1), some (.int 0), none, none, none, none, none, none]) (st' := [.int 12, .int 0]) (hp' := wd σ) rfl ?_
  refine AL_icmp_ge hT hK 10 (tgt := 199) rfl rfl (fun c => absurd c (by decide)) (fun _ => ?_)
  refine AL_g hT hK 11 1 (pc' := 21) (lo' := [some (.ref 0), some (.ref 36), some (.ref 37), some (.ref 38), some (.int 0), some (.int 0), some (.int 1), some (.int 0), none, none, none, none, none, none]) (st' := [.int 1]) (hp' := wd σ) rfl ?_
  refine AL_if_eq hT hK 12 (tgt := 199) rfl rfl (fun c => absurd c (by decide)) (fun _ => ?_)
  refine AL_g hT hK 13 5 (pc' := 32) (lo' := [some (.ref 0), some (.ref 36), some (.ref 37), some (.ref 38), some (.int 0), some (.int 0), some (.int 1), some (.int 0), some (.int 0), none, none, none, none, none]) (st' := [.int 0, .ref 36, .int 0]) (hp' := wd σ) rfl ?_
  refine AL_ld hT hK 18 0 12 (f := σ.2.1 36) 0 rfl rfl rfl (by decide) (by decide) (f_r 0 (by decide)) ?_
  refine AL_if_ge hT hK 19 (tgt := 40) rfl rfl (fun _ => ?_) (fun c => absurd (by decide) c)
  refine AL_g hT hK 22 5 (pc' := 47) (lo' := [some (.ref 0), some (.ref 36), some (.ref 37), some (.ref 38), some (.int 1), some (.int 0), some (.int 1), some (.int 0), some (.int 0), some (.int 0), none, none, none, none]) (st' := []) (hp' := wd σ) rfl ?_
  refine AL_g hT hK 27 2 (pc' := 51) (lo' := [some (.ref 0), some (.ref 36), some (.ref 37), some (.ref 38), some (.int 1), some (.int 0), some (.int 1), some (.int 0), some (.int 0), some (.int 0), none, none, none, none]) (st' := [.int 12, .int 0]) (hp' := wd σ) rfl ?_
  refine AL_icmp_ge hT hK 29 (tgt := 93) rfl rfl (fun c => absurd c (by decide)) (fun _ => ?_)
  refine AL_g hT hK 30 3 (pc' := 59) (lo' := [some (.ref 0), some (.ref 36), some (.ref 37), some (.ref 38), some (.int 1), some (.int 0), some (.int 1), some (.int 0), some (.int 0), some (.int 0), none, none, none, none]) (st' := [.int 0, .ref 36, .int 0]) (hp' := wd σ) rfl ?_
  refine AL_ld hT hK 33 0 12 (f := σ.2.1 36) 0 rfl rfl rfl (by decide) (by decide) (f_r 0 (by decide)) ?_
  refine AL_if_le hT hK 34 (tgt := 83) rfl rfl (fun _ => ?_) (fun c => absurd (by decide) c)
  refine AL_g hT hK 48 4 (pc' := 90) (lo' := [some (.ref 0), some (.ref 36), some (.ref 37), some (.ref 38), some (.int 1), some (.int 0), some (.int 1), some (.int 0), some (.int 0), some (.int 1), none, none, none, none]) (st' := []) (hp' := wd σ) rfl ?_
  refine AL_goto hT hK 52 (tgt := 47) rfl rfl ?_
  have lp5 : ∀ (n4 i2 : Nat), i2 + n4 = 12 → 1 ≤ i2 → AL K (0) (0) (6 * (0)) 47 [some (.ref 0), some (.ref 36), some (.ref 37), some (.ref 38), some (.int 1), some (.int 0), some (.int 1), some (.int 0), some (.int 0), some (.int (nI i2)), none, none, none, none] [] (wd σ) := by
    intro n4
    induction n4 with
    | zero =>
      intro i2 hi3 hi3s
      refine AL_g hT hK 27 2 (pc' := 51) (lo' := [some (.ref 0), some (.ref 36), some (.ref 37), some (.ref 38), some (.int 1), some (.int 0), some (.int 1), some (.int 0), some (.int 0), some (.int (nI i2)), none, none, none, none]) (st' := [.int 12, .int (nI i2)]) (hp' := wd σ) rfl ?_
      refine AL_icmp_ge hT hK 29 (tgt := 93) rfl rfl (fun _ => ?_) (fun c => absurd (az_c0 hi3) c)
      refine AL_msk [true, true, true, true, true, true, true, true, true, false, false, false, false, false] (lo' := [some (.ref 0), some (.ref 36), some (.ref 37), some (.ref 38), some (.int 1), some (.int 0), some (.int 1), some (.int 0), some (.int 0), none, none, none, none, none]) rfl ?_
      refine AL_g hT hK 53 2 (pc' := 96) (lo' := [some (.ref 0), some (.ref 36), some (.ref 37), some (.ref 38), some (.int 1), some (.int 0), some (.int 1), some (.int 0), some (.int 0), none, none, none, none, none]) (st' := [.int 0, .ref 36]) (hp' := wd σ) rfl ?_
      refine AL_ld hT hK 55 0 12 (f := σ.2.1 36) 0 rfl rfl rfl (by decide) (by decide) (f_r 0 (by decide)) ?_
      refine AL_if_ge hT hK 56 (tgt := 135) rfl rfl (fun _ => ?_) (fun c => absurd (by decide) c)
      refine AL_g hT hK 75 2 (pc' := 138) (lo' := [some (.ref 0), some (.ref 36), some (.ref 37), some (.ref 38), some (.int 1), some (.int 0), some (.int 1), some (.int 0), some (.int 0), none, none, none, none, none]) (st' := [.int 0, .ref 0]) (hp' := wd σ) rfl ?_
      refine AL_cV hT hK 77 [.int 0] [] (m_X5_references l0 σ 0 0 f_ref) cw_X5_references lk_L_25 vi_X5_references rfl rfl rfl rfl rfl rfl rfl rfl (by show _ ≤ 22; omega) (by show _ ≤ 132; omega) (AL_k1 rfl ?_)
      refine AL_g hT hK 78 2 (pc' := 144) (lo' := [some (.ref 0), some (.ref 36), some (.ref 37), some (.ref 38), some (.int 1), some (.int 0), some (.int 1), some (.int 0), some (.int 0), none, none, none, none, none]) (st' := [.int 0, .ref 36, .int 0]) (hp' := wd σ) rfl ?_
      refine AL_ld hT hK 80 0 12 (f := σ.2.1 36) 0 rfl rfl rfl (by decide) (by decide) (f_r 0 (by decide)) ?_
      refine AL_icmp_ne hT hK 81 (tgt := 190) rfl rfl (fun c => absurd (by decide) c) (fun _ => ?_)
      refine AL_g hT hK 82 2 (pc' := 151) (lo' := [some (.ref 0), some (.ref 36), some (.ref 37), some (.ref 38), some (.int 1), some (.int 0), some (.int 1), some (.int 0), some (.int 0), none, none, none, none, none]) (st' := [.int 0, .ref 0]) (hp' := wd σ) rfl ?_
      refine AL_cV hT hK 84 [.int 0] [] (m_X5_citing l0 σ 0 0 f_cit) cw_X5_citing lk_L_28 vi_X5_citing rfl rfl rfl rfl rfl rfl rfl rfl (by show _ ≤ 22; omega) (by show _ ≤ 132; omega) (AL_k1 rfl ?_)
      refine AL_g hT hK 85 1 (pc' := 156) (lo' := [some (.ref 0), some (.ref 36), some (.ref 37), some (.ref 38), some (.int 1), some (.int 0), some (.int 1), some (.int 0), some (.int 0), none, none, none, none, none]) (st' := [.int 0, .int 0]) (hp' := wd σ) rfl ?_
      refine AL_icmp_ne hT hK 86 (tgt := 190) rfl rfl (fun c => absurd (by decide) c) (fun _ => ?_)
      refine AL_g hT hK 87 10 (pc' := 173) (lo' := [some (.ref 0), some (.ref 36), some (.ref 37), some (.ref 38), some (.int 1), some (.int 0), some (.int 1), some (.int 0), some (.int 0), none, none, none, none, none]) (st' := [.int 0, .int 0]) (hp' := wd σ) rfl ?_
      refine AL_icmp_ne hT hK 97 (tgt := 190) rfl rfl (fun c => absurd (by decide) c) (fun _ => ?_)
      refine AL_g hT hK 98 2 (pc' := 179) (lo' := [some (.ref 0), some (.ref 36), some (.ref 37), some (.ref 38), some (.int 1), some (.int 0), some (.int 1), some (.int 0), some (.int 0), none, none, none, none, none]) (st' := [.int 0, .ref 36]) (hp' := wd σ) rfl ?_
      refine AL_ld hT hK 100 0 12 (f := σ.2.1 36) 0 rfl rfl rfl (by decide) (by decide) (f_r 0 (by decide)) ?_
      refine AL_g hT hK 101 2 (pc' := 183) (lo' := [some (.ref 0), some (.ref 36), some (.ref 37), some (.ref 38), some (.int 1), some (.int 0), some (.int 1), some (.int 0), some (.int 0), none, none, none, none, none]) (st' := [.int 0]) (hp' := wd σ) rfl ?_
      refine AL_if_ne hT hK 103 (tgt := 190) rfl rfl (fun c => absurd (by decide) c) (fun _ => ?_)
      refine AL_g hT hK 104 1 (pc' := 187) (lo' := [some (.ref 0), some (.ref 36), some (.ref 37), some (.ref 38), some (.int 1), some (.int 0), some (.int 1), some (.int 0), some (.int 0), none, none, none, none, none]) (st' := [.int 1]) (hp' := wd σ) rfl ?_
      refine AL_goto hT hK 105 (tgt := 191) rfl rfl ?_
      refine AL_g hT hK 107 2 (pc' := 196) (lo' := [some (.ref 0), some (.ref 36), some (.ref 37), some (.ref 38), some (.int 1), some (.int 0), some (.int 1), some (.int 1), some (.int 0), none, none, none, none, none]) (st' := []) (hp' := wd σ) rfl ?_
      refine AL_goto hT hK 109 (tgt := 12) rfl rfl ?_
      refine AL_msk [true, true, true, true, true, true, true, true, false, false, false, false, false, false] (lo' := [some (.ref 0), some (.ref 36), some (.ref 37), some (.ref 38), some (.int 1), some (.int 0), some (.int 1), some (.int 1), none, none, none, none, none, none]) rfl ?_
      have lp11 : ∀ (n10 i8 : Nat), i8 + n10 = 12 → 1 ≤ i8 → AL K (0 + 2 * (i8 - 1)) (0 + 2 * (i8 - 1)) (6 * (0 + 2 * (i8 - 1))) 12 [some (.ref 0), some (.ref 36), some (.ref 37), some (.ref 38), some (.int 1), some (.int 0), some (.int 1), some (.int (nI i8)), none, none, none, none, none, none] [] (wd σ) := by
        intro n10
        induction n10 with
        | zero =>
          intro i8 hi9 hi9s
          refine AL_g hT hK 8 2 (pc' := 16) (lo' := [some (.ref 0), some (.ref 36), some (.ref 37), some (.ref 38), some (.int 1), some (.int 0), some (.int 1), some (.int (nI i8)), none, none, none, none, none, none]) (st' := [.int 12, .int (nI i8)]) (hp' := wd σ) rfl ?_
          refine AL_icmp_ge hT hK 10 (tgt := 199) rfl rfl (fun _ => ?_) (fun c => absurd (az_c0 hi9) c)
          refine AL_msk [true, true, true, true, true, true, true, false, false, false, false, false, false, false] (lo' := [some (.ref 0), some (.ref 36), some (.ref 37), some (.ref 38), some (.int 1), some (.int 0), some (.int 1), none, none, none, none, none, none, none]) rfl ?_
          refine AL_cnt (lb' := (0 + 22)) (cells' := (0 + 22)) (slots' := 6 * (0 + 22)) (by omega) (by omega) (by omega) ?_
          refine AL_g hT hK 110 2 (pc' := 202) (lo' := [some (.ref 0), some (.ref 36), some (.ref 37), some (.ref 38), some (.int 1), some (.int 0), some (.int 1), some (.int 0), none, none, none, none, none, none]) (st' := []) (hp' := wd σ) rfl ?_
          have lp17 : ∀ (n16 i14 : Nat), i14 + n16 = 144 → 0 ≤ i14 → AL K ((0 + 22)) ((0 + 22)) (6 * ((0 + 22))) 202 [some (.ref 0), some (.ref 36), some (.ref 37), some (.ref 38), some (.int 1), some (.int 0), some (.int 1), some (.int (nI i14)), none, none, none, none, none, none] [] (wd σ) := by
            intro n16
            induction n16 with
            | zero =>
              intro i14 hi15 hi15s
              refine AL_g hT hK 112 2 (pc' := 207) (lo' := [some (.ref 0), some (.ref 36), some (.ref 37), some (.ref 38), some (.int 1), some (.int 0), some (.int 1), some (.int (nI i14)), none, none, none, none, none, none]) (st' := [.int 144, .int (nI i14)]) (hp' := wd σ) rfl ?_
              refine AL_icmp_ge hT hK 114 (tgt := 446) rfl rfl (fun _ => ?_) (fun c => absurd (az_c0 hi15) c)
              refine AL_msk [true, true, true, true, true, true, true, false, false, false, false, false, false, false] (lo' := [some (.ref 0), some (.ref 36), some (.ref 37), some (.ref 38), some (.int 1), some (.int 0), some (.int 1), none, none, none, none, none, none, none]) rfl ?_
              refine AL_g hT hK 234 1 (pc' := 448) (lo' := [some (.ref 0), some (.ref 36), some (.ref 37), some (.ref 38), some (.int 1), some (.int 0), some (.int 1), none, none, none, none, none, none, none]) (st' := [.int 1]) (hp' := wd σ) rfl ?_
              refine AL_if_eq hT hK 235 (tgt := 482) rfl rfl (fun c => absurd c (by decide)) (fun _ => ?_)
              refine AL_g hT hK 236 1 (pc' := 452) (lo' := [some (.ref 0), some (.ref 36), some (.ref 37), some (.ref 38), some (.int 1), some (.int 0), some (.int 1), none, none, none, none, none, none, none]) (st' := [.ref 0]) (hp' := wd σ) rfl ?_
              refine AL_cV hT hK 237 [] [] (m_X5_papers l0 σ) cw_X5_papers lk_L_73 vi_X5_papers rfl rfl rfl rfl rfl rfl rfl rfl (by show _ ≤ 22; omega) (by show _ ≤ 132; omega) (AL_k1 f_pa ?_)
              refine AL_g hT hK 238 1 (pc' := 457) (lo' := [some (.ref 0), some (.ref 36), some (.ref 37), some (.ref 38), some (.int 1), some (.int 0), some (.int 1), none, none, none, none, none, none, none]) (st' := [.int 1, .int 1]) (hp' := wd σ) rfl ?_
              refine AL_icmp_ne hT hK 239 (tgt := 482) rfl rfl (fun c => absurd (by decide) c) (fun _ => ?_)
              refine AL_g hT hK 240 1 (pc' := 461) (lo' := [some (.ref 0), some (.ref 36), some (.ref 37), some (.ref 38), some (.int 1), some (.int 0), some (.int 1), none, none, none, none, none, none, none]) (st' := [.ref 0]) (hp' := wd σ) rfl ?_
              refine AL_cV hT hK 241 [] [] (m_X5_total l0 σ) cw_X5_total lk_L_89 vi_X5_total rfl rfl rfl rfl rfl rfl rfl rfl (by show _ ≤ 22; omega) (by show _ ≤ 132; omega) (AL_k1 f_t ?_)
              refine AL_g hT hK 242 1 (pc' := 466) (lo' := [some (.ref 0), some (.ref 36), some (.ref 37), some (.ref 38), some (.int 1), some (.int 0), some (.int 1), none, none, none, none, none, none, none]) (st' := [.int 0, .int 0]) (hp' := wd σ) rfl ?_
              refine AL_icmp_ne hT hK 243 (tgt := 482) rfl rfl (fun c => absurd (by decide) c) (fun _ => ?_)
              refine AL_g hT hK 244 1 (pc' := 470) (lo' := [some (.ref 0), some (.ref 36), some (.ref 37), some (.ref 38), some (.int 1), some (.int 0), some (.int 1), none, none, none, none, none, none, none]) (st' := [.ref 0]) (hp' := wd σ) rfl ?_
              refine AL_cV hT hK 245 [] [] (m_X5_totalAnew l0 σ) cw_X5_totalAnew lk_L_109 vi_X5_totalAnew rfl rfl rfl rfl rfl rfl rfl rfl (by show _ ≤ 22; omega) (by show _ ≤ 132; omega) (AL_k1 f_ta ?_)
              refine AL_g hT hK 246 1 (pc' := 475) (lo' := [some (.ref 0), some (.ref 36), some (.ref 37), some (.ref 38), some (.int 1), some (.int 0), some (.int 1), none, none, none, none, none, none, none]) (st' := [.int 0, .int 0]) (hp' := wd σ) rfl ?_
              refine AL_icmp_ne hT hK 247 (tgt := 482) rfl rfl (fun c => absurd (by decide) c) (fun _ => ?_)
              refine AL_g hT hK 248 1 (pc' := 479) (lo' := [some (.ref 0), some (.ref 36), some (.ref 37), some (.ref 38), some (.int 1), some (.int 0), some (.int 1), none, none, none, none, none, none, none]) (st' := [.int 1]) (hp' := wd σ) rfl ?_
              refine AL_goto hT hK 249 (tgt := 483) rfl rfl ?_
              refine AL_cnt (lb' := 22) (cells' := 22) (slots' := 6 * 22) (by omega) (by omega) (by omega) ?_
              exact AL_iret hT hE 251 rfl rfl rfl (Nat.le_of_ble_eq_true rfl) (Nat.le_of_ble_eq_true rfl)
            | succ n16 ih18 =>
              intro i14 hi15 hi15s
              refine AL_g hT hK 112 2 (pc' := 207) (lo' := [some (.ref 0), some (.ref 36), some (.ref 37), some (.ref 38), some (.int 1), some (.int 0), some (.int 1), some (.int (nI i14)), none, none, none, none, none, none]) (st' := [.int 144, .int (nI i14)]) (hp' := wd σ) rfl ?_
              refine AL_icmp_ge hT hK 114 (tgt := 446) rfl rfl (fun c => absurd c (az_c1 hi15)) (fun _ => ?_)
              refine AL_g hT hK 115 1 (pc' := 212) (lo' := [some (.ref 0), some (.ref 36), some (.ref 37), some (.ref 38), some (.int 1), some (.int 0), some (.int 1), some (.int (nI i14)), none, none, none, none, none, none]) (st' := [.int 1]) (hp' := wd σ) rfl ?_
              refine AL_if_eq hT hK 116 (tgt := 446) rfl rfl (fun c => absurd c (by decide)) (fun _ => ?_)
              refine AL_g hT hK 117 2 (pc' := 219) (lo' := [some (.ref 0), some (.ref 36), some (.ref 37), some (.ref 38), some (.int 1), some (.int 0), some (.int 1), some (.int (nI i14)), none, none, none, none, none, none]) (st' := [.int 12, .int (nI i14)]) (hp' := wd σ) rfl ?_
              refine AL_idivN hT hK 119 i14 12 rfl rfl rfl (by omega) (by decide) (by decide) ?_
              refine AL_g hT hK 120 3 (pc' := 226) (lo' := [some (.ref 0), some (.ref 36), some (.ref 37), some (.ref 38), some (.int 1), some (.int 0), some (.int 1), some (.int (nI i14)), some (.int (nI (i14 / 12))), none, none, none, none, none]) (st' := [.int 12, .int (nI i14)]) (hp' := wd σ) rfl ?_
              refine AL_iremN hT hK 123 i14 12 rfl rfl rfl (by omega) (by decide) (by decide) ?_
              refine AL_g hT hK 124 3 (pc' := 233) (lo' := [some (.ref 0), some (.ref 36), some (.ref 37), some (.ref 38), some (.int 1), some (.int 0), some (.int 1), some (.int (nI i14)), some (.int (nI (i14 / 12))), some (.int (nI (i14 % 12))), none, none, none, none]) (st' := [.int (nI (i14 % 12)), .int (nI (i14 / 12))]) (hp' := wd σ) rfl ?_
              refine AL_icmp_ge hT hK 127 (tgt := 440) rfl rfl (fun _ => ?_) (fun c19 => ?_)
              · refine AL_g hT hK 232 1 (pc' := 443) (lo' := [some (.ref 0), some (.ref 36), some (.ref 37), some (.ref 38), some (.int 1), some (.int 0), some (.int 1), some (.int (nI i14 + 1)), some (.int (nI (i14 / 12))), some (.int (nI (i14 % 12))), none, none, none, none]) (st' := []) (hp' := wd σ) rfl ?_
                refine AL_goto hT hK 233 (tgt := 202) rfl rfl ?_
                refine AL_msk [true, true, true, true, true, true, true, true, false, false, false, false, false, false] (lo' := [some (.ref 0), some (.ref 36), some (.ref 37), some (.ref 38), some (.int 1), some (.int 0), some (.int 1), some (.int (nI i14 + 1)), none, none, none, none, none, none]) rfl ?_
                refine AL_to (lo' := [some (.ref 0), some (.ref 36), some (.ref 37), some (.ref 38), some (.int 1), some (.int 0), some (.int 1), some (.int (nI (i14 + 1))), none, none, none, none, none, none]) (by rw [nI_1]) rfl rfl ?_
                refine AL_cnt (lb' := ((0 + 22))) (cells' := ((0 + 22))) (slots' := 6 * ((0 + 22))) (by omega) (by omega) (by omega) ?_
                exact ih18 (i14 + 1) (by omega) (by omega)
              · refine AL_g hT hK 128 2 (pc' := 239) (lo' := [some (.ref 0), some (.ref 36), some (.ref 37), some (.ref 38), some (.int 1), some (.int 0), some (.int 1), some (.int (nI i14)), some (.int (nI (i14 / 12))), some (.int (nI (i14 % 12))), none, none, none, none]) (st' := [.int (nI (i14 / 12)), .ref 36]) (hp' := wd σ) rfl ?_
                refine AL_ld hT hK 130 (i14 / 12) 12 (f := σ.2.1 36) (σ.2.1 36 (i14 / 12)) rfl rfl rfl (by omega) (by decide) rfl ?_
                refine AL_if_lt hT hK 131 (tgt := 440) rfl rfl (fun _ => ?_) (fun c20 => ?_)
                · refine AL_g hT hK 232 1 (pc' := 443) (lo' := [some (.ref 0), some (.ref 36), some (.ref 37), some (.ref 38), some (.int 1), some (.int 0), some (.int 1), some (.int (nI i14 + 1)), some (.int (nI (i14 / 12))), some (.int (nI (i14 % 12))), none, none, none, none]) (st' := []) (hp' := wd σ) rfl ?_
                  refine AL_goto hT hK 233 (tgt := 202) rfl rfl ?_
                  refine AL_msk [true, true, true, true, true, true, true, true, false, false, false, false, false, false] (lo' := [some (.ref 0), some (.ref 36), some (.ref 37), some (.ref 38), some (.int 1), some (.int 0), some (.int 1), some (.int (nI i14 + 1)), none, none, none, none, none, none]) rfl ?_
                  refine AL_to (lo' := [some (.ref 0), some (.ref 36), some (.ref 37), some (.ref 38), some (.int 1), some (.int 0), some (.int 1), some (.int (nI (i14 + 1))), none, none, none, none, none, none]) (by rw [nI_1]) rfl rfl ?_
                  refine AL_cnt (lb' := ((0 + 22))) (cells' := ((0 + 22))) (slots' := 6 * ((0 + 22))) (by omega) (by omega) (by omega) ?_
                  exact ih18 (i14 + 1) (by omega) (by omega)
                · refine AL_g hT hK 132 2 (pc' := 246) (lo' := [some (.ref 0), some (.ref 36), some (.ref 37), some (.ref 38), some (.int 1), some (.int 0), some (.int 1), some (.int (nI i14)), some (.int (nI (i14 / 12))), some (.int (nI (i14 % 12))), none, none, none, none]) (st' := [.int (nI (i14 % 12)), .ref 36]) (hp' := wd σ) rfl ?_
                  refine AL_ld hT hK 134 (i14 % 12) 12 (f := σ.2.1 36) (-1) rfl rfl rfl (by omega) (by decide) ((f_r _ (by omega)).trans (t_ab _ (by omega) c19)) ?_
                  refine AL_if_lt hT hK 135 (tgt := 440) rfl rfl (fun _ => ?_) (fun c => absurd (by decide) c)
                  refine AL_g hT hK 232 1 (pc' := 443) (lo' := [some (.ref 0), some (.ref 36), some (.ref 37), some (.ref 38), some (.int 1), some (.int 0), some (.int 1), some (.int (nI i14 + 1)), some (.int (nI (i14 / 12))), some (.int (nI (i14 % 12))), none, none, none, none]) (st' := []) (hp' := wd σ) rfl ?_
                  refine AL_goto hT hK 233 (tgt := 202) rfl rfl ?_
                  refine AL_msk [true, true, true, true, true, true, true, true, false, false, false, false, false, false] (lo' := [some (.ref 0), some (.ref 36), some (.ref 37), some (.ref 38), some (.int 1), some (.int 0), some (.int 1), some (.int (nI i14 + 1)), none, none, none, none, none, none]) rfl ?_
                  refine AL_to (lo' := [some (.ref 0), some (.ref 36), some (.ref 37), some (.ref 38), some (.int 1), some (.int 0), some (.int 1), some (.int (nI (i14 + 1))), none, none, none, none, none, none]) (by rw [nI_1]) rfl rfl ?_
                  refine AL_cnt (lb' := ((0 + 22))) (cells' := ((0 + 22))) (slots' := 6 * ((0 + 22))) (by omega) (by omega) (by omega) ?_
                  exact ih18 (i14 + 1) (by omega) (by omega)
          refine AL_cnt (lb' := ((0 + 22))) (cells' := ((0 + 22))) (slots' := 6 * ((0 + 22))) (by omega) (by omega) (by omega) ?_
          exact lp17 144 0 rfl (Nat.le_refl _)
        | succ n10 ih12 =>
          intro i8 hi9 hi9s
          refine AL_g hT hK 8 2 (pc' := 16) (lo' := [some (.ref 0), some (.ref 36), some (.ref 37), some (.ref 38), some (.int 1), some (.int 0), some (.int 1), some (.int (nI i8)), none, none, none, none, none, none]) (st' := [.int 12, .int (nI i8)]) (hp' := wd σ) rfl ?_
          refine AL_icmp_ge hT hK 10 (tgt := 199) rfl rfl (fun c => absurd c (az_c1 hi9)) (fun _ => ?_)
          refine AL_g hT hK 11 1 (pc' := 21) (lo' := [some (.ref 0), some (.ref 36), some (.ref 37), some (.ref 38), some (.int 1), some (.int 0), some (.int 1), some (.int (nI i8)), none, none, none, none, none, none]) (st' := [.int 1]) (hp' := wd σ) rfl ?_
          refine AL_if_eq hT hK 12 (tgt := 199) rfl rfl (fun c => absurd c (by decide)) (fun _ => ?_)
          refine AL_g hT hK 13 5 (pc' := 32) (lo' := [some (.ref 0), some (.ref 36), some (.ref 37), some (.ref 38), some (.int 1), some (.int 0), some (.int 1), some (.int (nI i8)), some (.int 0), none, none, none, none, none]) (st' := [.int (nI i8), .ref 36, .int 1]) (hp' := wd σ) rfl ?_
          refine AL_ld hT hK 18 i8 12 (f := σ.2.1 36) (-1) rfl rfl rfl (by omega) (by decide) ((f_r _ (by omega)).trans (if_neg (by omega))) ?_
          refine AL_if_ge hT hK 19 (tgt := 40) rfl rfl (fun c => absurd c (by decide)) (fun _ => ?_)
          refine AL_g hT hK 20 1 (pc' := 37) (lo' := [some (.ref 0), some (.ref 36), some (.ref 37), some (.ref 38), some (.int 1), some (.int 0), some (.int 1), some (.int (nI i8)), some (.int 0), none, none, none, none, none]) (st' := [.int 0, .int 1]) (hp' := wd σ) rfl ?_
          refine AL_goto hT hK 21 (tgt := 41) rfl rfl ?_
          refine AL_g hT hK 23 4 (pc' := 47) (lo' := [some (.ref 0), some (.ref 36), some (.ref 37), some (.ref 38), some (.int 1), some (.int 0), some (.int 1), some (.int (nI i8)), some (.int 0), some (.int 0), none, none, none, none]) (st' := []) (hp' := wd σ) rfl ?_
          refine AL_g hT hK 27 2 (pc' := 51) (lo' := [some (.ref 0), some (.ref 36), some (.ref 37), some (.ref 38), some (.int 1), some (.int 0), some (.int 1), some (.int (nI i8)), some (.int 0), some (.int 0), none, none, none, none]) (st' := [.int 12, .int 0]) (hp' := wd σ) rfl ?_
          refine AL_icmp_ge hT hK 29 (tgt := 93) rfl rfl (fun c => absurd c (by decide)) (fun _ => ?_)
          refine AL_g hT hK 30 3 (pc' := 59) (lo' := [some (.ref 0), some (.ref 36), some (.ref 37), some (.ref 38), some (.int 1), some (.int 0), some (.int 1), some (.int (nI i8)), some (.int 0), some (.int 0), none, none, none, none]) (st' := [.int 0, .ref 36, .int 0]) (hp' := wd σ) rfl ?_
          refine AL_ld hT hK 33 0 12 (f := σ.2.1 36) 0 rfl rfl rfl (by decide) (by decide) (f_r 0 (by decide)) ?_
          refine AL_if_le hT hK 34 (tgt := 83) rfl rfl (fun _ => ?_) (fun c => absurd (by decide) c)
          refine AL_g hT hK 48 4 (pc' := 90) (lo' := [some (.ref 0), some (.ref 36), some (.ref 37), some (.ref 38), some (.int 1), some (.int 0), some (.int 1), some (.int (nI i8)), some (.int 0), some (.int 1), none, none, none, none]) (st' := []) (hp' := wd σ) rfl ?_
          refine AL_goto hT hK 52 (tgt := 47) rfl rfl ?_
          have lp25 : ∀ (n24 i22 : Nat), i22 + n24 = 12 → 1 ≤ i22 → AL K ((0 + 2 * (i8 - 1))) ((0 + 2 * (i8 - 1))) (6 * ((0 + 2 * (i8 - 1)))) 47 [some (.ref 0), some (.ref 36), some (.ref 37), some (.ref 38), some (.int 1), some (.int 0), some (.int 1), some (.int (nI i8)), some (.int 0), some (.int (nI i22)), none, none, none, none] [] (wd σ) := by
            intro n24
            induction n24 with
            | zero =>
              intro i22 hi23 hi23s
              refine AL_g hT hK 27 2 (pc' := 51) (lo' := [some (.ref 0), some (.ref 36), some (.ref 37), some (.ref 38), some (.int 1), some (.int 0), some (.int 1), some (.int (nI i8)), some (.int 0), some (.int (nI i22)), none, none, none, none]) (st' := [.int 12, .int (nI i22)]) (hp' := wd σ) rfl ?_
              refine AL_icmp_ge hT hK 29 (tgt := 93) rfl rfl (fun _ => ?_) (fun c => absurd (az_c0 hi23) c)
              refine AL_msk [true, true, true, true, true, true, true, true, true, false, false, false, false, false] (lo' := [some (.ref 0), some (.ref 36), some (.ref 37), some (.ref 38), some (.int 1), some (.int 0), some (.int 1), some (.int (nI i8)), some (.int 0), none, none, none, none, none]) rfl ?_
              refine AL_g hT hK 53 2 (pc' := 96) (lo' := [some (.ref 0), some (.ref 36), some (.ref 37), some (.ref 38), some (.int 1), some (.int 0), some (.int 1), some (.int (nI i8)), some (.int 0), none, none, none, none, none]) (st' := [.int (nI i8), .ref 36]) (hp' := wd σ) rfl ?_
              refine AL_ld hT hK 55 i8 12 (f := σ.2.1 36) (-1) rfl rfl rfl (by omega) (by decide) ((f_r _ (by omega)).trans (if_neg (by omega))) ?_
              refine AL_if_ge hT hK 56 (tgt := 135) rfl rfl (fun c => absurd c (by decide)) (fun _ => ?_)
              refine AL_g hT hK 57 4 (pc' := 105) (lo' := [some (.ref 0), some (.ref 36), some (.ref 37), some (.ref 38), some (.int 1), some (.int 0), some (.int 1), some (.int (nI i8)), some (.int 0), none, none, none, none, none]) (st' := [.int 0, .int (nI i8), .int 1, .ref 0]) (hp' := wd σ) rfl ?_
              refine AL_cW hT hK hN 61 [.ref 0, .int 1, .int (nI i8), .int 0] [] (l_of_1 l0 hl0 σ (nI i8) 0 (t_references (f_p i8 (by omega) (by omega)))) cy_L_of lk_L_96 sm_L_of rfl rfl rfl rfl rfl rfl (by show _ ≤ 22; omega) (by show _ ≤ 132; omega) ?_
              refine AL_ldc hT hK 62 (v := (-2000000004)) rfl (List.mem_of_getElem? (i := 549) (by decide +kernel)) ?_
              refine AL_icmp_ne hT hK 63 (tgt := 131) rfl rfl (fun c => absurd (by decide) c) (fun _ => ?_)
              refine AL_g hT hK 64 4 (pc' := 119) (lo' := [some (.ref 0), some (.ref 36), some (.ref 37), some (.ref 38), some (.int 1), some (.int 0), some (.int 1), some (.int (nI i8)), some (.int 0), none, none, none, none, none]) (st' := [.int 0, .int (nI i8), .int 7, .ref 0]) (hp' := wd σ) rfl ?_
              refine AL_cW hT hK hN 68 [.ref 0, .int 7, .int (nI i8), .int 0] [] (l_of_7 l0 hl0 σ (nI i8) 0 (t_fieldOf (f_p i8 (by omega) (by omega)))) cy_L_of lk_L_96 sm_L_of rfl rfl rfl rfl rfl rfl (by show _ ≤ 22; omega) (by show _ ≤ 132; omega) ?_
              refine AL_ldc hT hK 69 (v := (-2000000004)) rfl (List.mem_of_getElem? (i := 549) (by decide +kernel)) ?_
              refine AL_icmp_ne hT hK 70 (tgt := 131) rfl rfl (fun c => absurd (by decide) c) (fun _ => ?_)
              refine AL_g hT hK 71 1 (pc' := 128) (lo' := [some (.ref 0), some (.ref 36), some (.ref 37), some (.ref 38), some (.int 1), some (.int 0), some (.int 1), some (.int (nI i8)), some (.int 0), none, none, none, none, none]) (st' := [.int 1]) (hp' := wd σ) rfl ?_
              refine AL_goto hT hK 72 (tgt := 191) rfl rfl ?_
              refine AL_g hT hK 107 2 (pc' := 196) (lo' := [some (.ref 0), some (.ref 36), some (.ref 37), some (.ref 38), some (.int 1), some (.int 0), some (.int 1), some (.int (nI i8 + 1)), some (.int 0), none, none, none, none, none]) (st' := []) (hp' := wd σ) rfl ?_
              refine AL_goto hT hK 109 (tgt := 12) rfl rfl ?_
              refine AL_msk [true, true, true, true, true, true, true, true, false, false, false, false, false, false] (lo' := [some (.ref 0), some (.ref 36), some (.ref 37), some (.ref 38), some (.int 1), some (.int 0), some (.int 1), some (.int (nI i8 + 1)), none, none, none, none, none, none]) rfl ?_
              refine AL_to (lo' := [some (.ref 0), some (.ref 36), some (.ref 37), some (.ref 38), some (.int 1), some (.int 0), some (.int 1), some (.int (nI (i8 + 1))), none, none, none, none, none, none]) (by rw [nI_1]) rfl rfl ?_
              refine AL_cnt (lb' := (0 + 2 * ((i8 + 1) - 1))) (cells' := (0 + 2 * ((i8 + 1) - 1))) (slots' := 6 * (0 + 2 * ((i8 + 1) - 1))) (by omega) (by omega) (by omega) ?_
              exact ih12 (i8 + 1) (by omega) (by omega)
            | succ n24 ih26 =>
              intro i22 hi23 hi23s
              refine AL_g hT hK 27 2 (pc' := 51) (lo' := [some (.ref 0), some (.ref 36), some (.ref 37), some (.ref 38), some (.int 1), some (.int 0), some (.int 1), some (.int (nI i8)), some (.int 0), some (.int (nI i22)), none, none, none, none]) (st' := [.int 12, .int (nI i22)]) (hp' := wd σ) rfl ?_
              refine AL_icmp_ge hT hK 29 (tgt := 93) rfl rfl (fun c => absurd c (az_c1 hi23)) (fun _ => ?_)
              refine AL_g hT hK 30 3 (pc' := 59) (lo' := [some (.ref 0), some (.ref 36), some (.ref 37), some (.ref 38), some (.int 1), some (.int 0), some (.int 1), some (.int (nI i8)), some (.int 0), some (.int (nI i22)), none, none, none, none]) (st' := [.int (nI i22), .ref 36, .int 0]) (hp' := wd σ) rfl ?_
              refine AL_ld hT hK 33 i22 12 (f := σ.2.1 36) (-1) rfl rfl rfl (by omega) (by decide) ((f_r _ (by omega)).trans (if_neg (by omega))) ?_
              refine AL_if_le hT hK 34 (tgt := 83) rfl rfl (fun _ => ?_) (fun c => absurd (by decide) c)
              refine AL_g hT hK 48 4 (pc' := 90) (lo' := [some (.ref 0), some (.ref 36), some (.ref 37), some (.ref 38), some (.int 1), some (.int 0), some (.int 1), some (.int (nI i8)), some (.int 0), some (.int (nI i22 + 1)), none, none, none, none]) (st' := []) (hp' := wd σ) rfl ?_
              refine AL_goto hT hK 52 (tgt := 47) rfl rfl ?_
              refine AL_to (lo' := [some (.ref 0), some (.ref 36), some (.ref 37), some (.ref 38), some (.int 1), some (.int 0), some (.int 1), some (.int (nI i8)), some (.int 0), some (.int (nI (i22 + 1))), none, none, none, none]) (by rw [nI_1]) rfl rfl ?_
              refine AL_cnt (lb' := ((0 + 2 * (i8 - 1)))) (cells' := ((0 + 2 * (i8 - 1)))) (slots' := 6 * ((0 + 2 * (i8 - 1)))) (by omega) (by omega) (by omega) ?_
              exact ih26 (i22 + 1) (by omega) (by omega)
          refine AL_cnt (lb' := ((0 + 2 * (i8 - 1)))) (cells' := ((0 + 2 * (i8 - 1)))) (slots' := 6 * ((0 + 2 * (i8 - 1)))) (by omega) (by omega) (by omega) ?_
          exact lp25 11 1 rfl (Nat.le_refl _)
      refine AL_cnt (lb' := (0 + 2 * (1 - 1))) (cells' := (0 + 2 * (1 - 1))) (slots' := 6 * (0 + 2 * (1 - 1))) (by omega) (by omega) (by omega) ?_
      exact lp11 11 1 rfl (Nat.le_refl _)
    | succ n4 ih6 =>
      intro i2 hi3 hi3s
      refine AL_g hT hK 27 2 (pc' := 51) (lo' := [some (.ref 0), some (.ref 36), some (.ref 37), some (.ref 38), some (.int 1), some (.int 0), some (.int 1), some (.int 0), some (.int 0), some (.int (nI i2)), none, none, none, none]) (st' := [.int 12, .int (nI i2)]) (hp' := wd σ) rfl ?_
      refine AL_icmp_ge hT hK 29 (tgt := 93) rfl rfl (fun c => absurd c (az_c1 hi3)) (fun _ => ?_)
      refine AL_g hT hK 30 3 (pc' := 59) (lo' := [some (.ref 0), some (.ref 36), some (.ref 37), some (.ref 38), some (.int 1), some (.int 0), some (.int 1), some (.int 0), some (.int 0), some (.int (nI i2)), none, none, none, none]) (st' := [.int (nI i2), .ref 36, .int 0]) (hp' := wd σ) rfl ?_
      refine AL_ld hT hK 33 i2 12 (f := σ.2.1 36) (-1) rfl rfl rfl (by omega) (by decide) ((f_r _ (by omega)).trans (if_neg (by omega))) ?_
      refine AL_if_le hT hK 34 (tgt := 83) rfl rfl (fun _ => ?_) (fun c => absurd (by decide) c)
      refine AL_g hT hK 48 4 (pc' := 90) (lo' := [some (.ref 0), some (.ref 36), some (.ref 37), some (.ref 38), some (.int 1), some (.int 0), some (.int 1), some (.int 0), some (.int 0), some (.int (nI i2 + 1)), none, none, none, none]) (st' := []) (hp' := wd σ) rfl ?_
      refine AL_goto hT hK 52 (tgt := 47) rfl rfl ?_
      refine AL_to (lo' := [some (.ref 0), some (.ref 36), some (.ref 37), some (.ref 38), some (.int 1), some (.int 0), some (.int 1), some (.int 0), some (.int 0), some (.int (nI (i2 + 1))), none, none, none, none]) (by rw [nI_1]) rfl rfl ?_
      refine AL_cnt (lb' := (0)) (cells' := (0)) (slots' := 6 * (0)) (by omega) (by omega) (by omega) ?_
      exact ih6 (i2 + 1) (by omega) (by omega)
  refine AL_cnt (lb' := (0)) (cells' := (0)) (slots' := 6 * (0)) (by omega) (by omega) (by omega) ?_
  exact lp5 11 1 rfl (Nat.le_refl _)
set_option maxRecDepth 100000 in
set_option maxHeartbeats 4000000 in
theorem l_isSplitT (l0 : Launch) (hl0 : l0.stackTraces = false) (σ : az_S) (hF : TF σ) : AME l0 yL_isSplit (.code yL_isSplit cL_isSplit 5 (some .boolean)) ({ frames := 8, cells := 0, slots := 0, locals := 124 } : Room) [.ref 0, .ref 36, .int 0] (wd σ) (wd σ) (.int 1) 0 := by
  refine AME_of (by decide +kernel) (by simp [Value.category]) (Nat.le_of_ble_eq_true rfl) (fun K hK hN hE => ?_)
  have hT := tt_L_isSplit
  have hF9 := hF
  obtain ⟨f_r, f_p, f_ref, f_cit, f_fo, f_sp, f_g, f_c, f_pa, f_t, f_ta, f_fi, f_w⟩ := hF9
  refine AL_g hT hK 0 4 (pc' := 5) (lo' := [some (.ref 0), some (.ref 36), some (.int 0), some (.int 0), some (.int 0)]) (st' := []) (hp' := wd σ) rfl ?_
  refine AL_g hT hK 4 2 (pc' := 9) (lo' := [some (.ref 0), some (.ref 36), some (.int 0), some (.int 0), some (.int 0)]) (st' := [.int 12, .int 0]) (hp' := wd σ) rfl ?_
  refine AL_icmp_ge hT hK 6 (tgt := 46) rfl rfl (fun c => absurd c (by decide)) (fun _ => ?_)
  refine AL_g hT hK 7 3 (pc' := 16) (lo' := [some (.ref 0), some (.ref 36), some (.int 0), some (.int 0), some (.int 0)]) (st' := [.int 0, .ref 36, .int 0]) (hp' := wd σ) rfl ?_
  refine AL_ld hT hK 10 0 12 (f := σ.2.1 36) 0 rfl rfl rfl (by decide) (by decide) (f_r 0 (by decide)) ?_
  refine AL_if_lt hT hK 11 (tgt := 37) rfl rfl (fun c => absurd c (by decide)) (fun _ => ?_)
  refine AL_g hT hK 12 2 (pc' := 23) (lo' := [some (.ref 0), some (.ref 36), some (.int 0), some (.int 0), some (.int 0)]) (st' := [.int 0, .ref 0, .int 0]) (hp' := wd σ) rfl ?_
  refine AL_cV hT hK 14 [.int 0] [.int 0] (m_X5_fieldOf l0 σ 0 0 f_fo) cw_X5_fieldOf lk_L_43 vi_X5_fieldOf rfl rfl rfl rfl rfl rfl rfl rfl (by show _ ≤ 0; omega) (by show _ ≤ 0; omega) (AL_k1 rfl ?_)
  refine AL_g hT hK 15 1 (pc' := 27) (lo' := [some (.ref 0), some (.ref 36), some (.int 0), some (.int 0), some (.int 0)]) (st' := [.int 0, .int 0, .int 0]) (hp' := wd σ) rfl ?_
  refine AL_icmp_ne hT hK 16 (tgt := 37) rfl rfl (fun c => absurd (by decide) c) (fun _ => ?_)
  refine AL_g hT hK 17 3 (pc' := 34) (lo' := [some (.ref 0), some (.ref 36), some (.int 0), some (.int 0), some (.int 0)]) (st' := [.int 1, .int 0]) (hp' := wd σ) rfl ?_
  refine AL_goto hT hK 20 (tgt := 38) rfl rfl ?_
  refine AL_g hT hK 22 3 (pc' := 43) (lo' := [some (.ref 0), some (.ref 36), some (.int 0), some (.int 1), some (.int 1)]) (st' := []) (hp' := wd σ) rfl ?_
  refine AL_goto hT hK 25 (tgt := 5) rfl rfl ?_
  have lp5 : ∀ (n4 i2 : Nat), i2 + n4 = 12 → 1 ≤ i2 → AL K (0) (0) (6 * (0)) 5 [some (.ref 0), some (.ref 36), some (.int 0), some (.int 1), some (.int (nI i2))] [] (wd σ) := by
    intro n4
    induction n4 with
    | zero =>
      intro i2 hi3 hi3s
      refine AL_g hT hK 4 2 (pc' := 9) (lo' := [some (.ref 0), some (.ref 36), some (.int 0), some (.int 1), some (.int (nI i2))]) (st' := [.int 12, .int (nI i2)]) (hp' := wd σ) rfl ?_
      refine AL_icmp_ge hT hK 6 (tgt := 46) rfl rfl (fun _ => ?_) (fun c => absurd (az_c0 hi3) c)
      refine AL_msk [true, true, true, true, false] (lo' := [some (.ref 0), some (.ref 36), some (.int 0), some (.int 1), none]) rfl ?_
      refine AL_g hT hK 26 2 (pc' := 48) (lo' := [some (.ref 0), some (.ref 36), some (.int 0), some (.int 1), none]) (st' := [.int 0, .ref 0]) (hp' := wd σ) rfl ?_
      refine AL_cV hT hK 28 [.int 0] [] (m_X5_split l0 σ 0 0 f_sp) cw_X5_split lk_L_49 vi_X5_split rfl rfl rfl rfl rfl rfl rfl rfl (by show _ ≤ 0; omega) (by show _ ≤ 0; omega) (AL_k1 rfl ?_)
      refine AL_g hT hK 29 2 (pc' := 55) (lo' := [some (.ref 0), some (.ref 36), some (.int 0), some (.int 1), some (.int 0)]) (st' := [.int 0]) (hp' := wd σ) rfl ?_
      refine AL_if_eq hT hK 31 (tgt := 83) rfl rfl (fun _ => ?_) (fun c => absurd (by decide) c)
      refine AL_g hT hK 48 1 (pc' := 84) (lo' := [some (.ref 0), some (.ref 36), some (.int 0), some (.int 1), some (.int 0)]) (st' := [.int 1]) (hp' := wd σ) rfl ?_
      refine AL_goto hT hK 49 (tgt := 88) rfl rfl ?_
      refine AL_cnt (lb' := 0) (cells' := 0) (slots' := 6 * 0) (by omega) (by omega) (by omega) ?_
      exact AL_iret hT hE 51 rfl rfl rfl (Nat.le_of_ble_eq_true rfl) (Nat.le_of_ble_eq_true rfl)
    | succ n4 ih6 =>
      intro i2 hi3 hi3s
      refine AL_g hT hK 4 2 (pc' := 9) (lo' := [some (.ref 0), some (.ref 36), some (.int 0), some (.int 1), some (.int (nI i2))]) (st' := [.int 12, .int (nI i2)]) (hp' := wd σ) rfl ?_
      refine AL_icmp_ge hT hK 6 (tgt := 46) rfl rfl (fun c => absurd c (az_c1 hi3)) (fun _ => ?_)
      refine AL_g hT hK 7 3 (pc' := 16) (lo' := [some (.ref 0), some (.ref 36), some (.int 0), some (.int 1), some (.int (nI i2))]) (st' := [.int (nI i2), .ref 36, .int 1]) (hp' := wd σ) rfl ?_
      refine AL_ld hT hK 10 i2 12 (f := σ.2.1 36) (-1) rfl rfl rfl (by omega) (by decide) ((f_r _ (by omega)).trans (if_neg (by omega))) ?_
      refine AL_if_lt hT hK 11 (tgt := 37) rfl rfl (fun _ => ?_) (fun c => absurd (by decide) c)
      refine AL_g hT hK 21 4 (pc' := 43) (lo' := [some (.ref 0), some (.ref 36), some (.int 0), some (.int 1), some (.int (nI i2 + 1))]) (st' := []) (hp' := wd σ) rfl ?_
      refine AL_goto hT hK 25 (tgt := 5) rfl rfl ?_
      refine AL_to (lo' := [some (.ref 0), some (.ref 36), some (.int 0), some (.int 1), some (.int (nI (i2 + 1)))]) (by rw [nI_1]) rfl rfl ?_
      refine AL_cnt (lb' := (0)) (cells' := (0)) (slots' := 6 * (0)) (by omega) (by omega) (by omega) ?_
      exact ih6 (i2 + 1) (by omega) (by omega)
  refine AL_cnt (lb' := (0)) (cells' := (0)) (slots' := 6 * (0)) (by omega) (by omega) (by omega) ?_
  exact lp5 11 1 rfl (Nat.le_refl _)
set_option maxRecDepth 100000 in
set_option maxHeartbeats 4000000 in
theorem l_areFieldsT (l0 : Launch) (hl0 : l0.stackTraces = false) (σ : az_S) (hF : TF σ) : AME l0 yL_areFields (.code yL_areFields cL_areFields 10 (some .boolean)) ({ frames := 9, cells := 1, slots := 6, locals := 190 } : Room) [.ref 0, .ref 36] (wd σ) (wd σ) (.int 1) 1 := by
  refine AME_of (by decide +kernel) (by simp [Value.category]) (Nat.le_of_ble_eq_true rfl) (fun K hK hN hE => ?_)
  have hT := tt_L_areFields
  have hF9 := hF
  obtain ⟨f_r, f_p, f_ref, f_cit, f_fo, f_sp, f_g, f_c, f_pa, f_t, f_ta, f_fi, f_w⟩ := hF9
  refine AL_g hT hK 0 8 (pc' := 10) (lo' := [some (.ref 0), some (.ref 36), some (.int 0), some (.int 0), some (.int 1), some (.int 0), none, none, none, none]) (st' := []) (hp' := wd σ) rfl ?_
  refine AL_g hT hK 8 2 (pc' := 14) (lo' := [some (.ref 0), some (.ref 36), some (.int 0), some (.int 0), some (.int 1), some (.int 0), none, none, none, none]) (st' := [.int 12, .int 0]) (hp' := wd σ) rfl ?_
  refine AL_icmp_ge hT hK 10 (tgt := 297) rfl rfl (fun c => absurd c (by decide)) (fun _ => ?_)
  refine AL_g hT hK 11 1 (pc' := 19) (lo' := [some (.ref 0), some (.ref 36), some (.int 0), some (.int 0), some (.int 1), some (.int 0), none, none, none, none]) (st' := [.int 1]) (hp' := wd σ) rfl ?_
  refine AL_if_eq hT hK 12 (tgt := 297) rfl rfl (fun c => absurd c (by decide)) (fun _ => ?_)
  refine AL_g hT hK 13 2 (pc' := 25) (lo' := [some (.ref 0), some (.ref 36), some (.int 0), some (.int 0), some (.int 1), some (.int 0), none, none, none, none]) (st' := [.int 0, .ref 36]) (hp' := wd σ) rfl ?_
  refine AL_ld hT hK 15 0 12 (f := σ.2.1 36) 0 rfl rfl rfl (by decide) (by decide) (f_r 0 (by decide)) ?_
  refine AL_if_lt hT hK 16 (tgt := 291) rfl rfl (fun c => absurd c (by decide)) (fun _ => ?_)
  refine AL_g hT hK 17 2 (pc' := 32) (lo' := [some (.ref 0), some (.ref 36), some (.int 0), some (.int 0), some (.int 1), some (.int 0), none, none, none, none]) (st' := [.int 0, .ref 0]) (hp' := wd σ) rfl ?_
  refine AL_cV hT hK 19 [.int 0] [] (m_X5_fieldOf l0 σ 0 0 f_fo) cw_X5_fieldOf lk_L_43 vi_X5_fieldOf rfl rfl rfl rfl rfl rfl rfl rfl (by show _ ≤ 1; omega) (by show _ ≤ 6; omega) (AL_k1 rfl ?_)
  refine AL_g hT hK 20 4 (pc' := 42) (lo' := [some (.ref 0), some (.ref 36), some (.int 0), some (.int 0), some (.int 1), some (.int 0), some (.int 0), none, none, none]) (st' := [.int 0, .int 0, .int 0]) (hp' := wd σ) rfl ?_
  refine AL_icmp_ne hT hK 24 (tgt := 49) rfl rfl (fun c => absurd (by decide) c) (fun _ => ?_)
  refine AL_g hT hK 25 1 (pc' := 46) (lo' := [some (.ref 0), some (.ref 36), some (.int 0), some (.int 0), some (.int 1), some (.int 0), some (.int 0), none, none, none]) (st' := [.int 1, .int 0]) (hp' := wd σ) rfl ?_
  refine AL_goto hT hK 26 (tgt := 50) rfl rfl ?_
  refine AL_g hT hK 28 3 (pc' := 54) (lo' := [some (.ref 0), some (.ref 36), some (.int 1), some (.int 0), some (.int 1), some (.int 0), some (.int 0), none, none, none]) (st' := [.int 0]) (hp' := wd σ) rfl ?_
  refine AL_if_lt hT hK 31 (tgt := 79) rfl rfl (fun c => absurd c (by decide)) (fun _ => ?_)
  refine AL_g hT hK 32 2 (pc' := 61) (lo' := [some (.ref 0), some (.ref 36), some (.int 1), some (.int 0), some (.int 1), some (.int 0), some (.int 0), none, none, none]) (st' := [.int 0, .int 0]) (hp' := wd σ) rfl ?_
  refine AL_icmp_gt hT hK 34 (tgt := 79) rfl rfl (fun c => absurd c (by decide)) (fun _ => ?_)
  refine AL_g hT hK 35 2 (pc' := 67) (lo' := [some (.ref 0), some (.ref 36), some (.int 1), some (.int 0), some (.int 1), some (.int 0), some (.int 0), none, none, none]) (st' := [.int 0, .ref 0]) (hp' := wd σ) rfl ?_
  refine AL_cV hT hK 37 [.int 0] [] (m_X5_fieldOf l0 σ 0 0 f_fo) cw_X5_fieldOf lk_L_43 vi_X5_fieldOf rfl rfl rfl rfl rfl rfl rfl rfl (by show _ ≤ 1; omega) (by show _ ≤ 6; omega) (AL_k1 rfl ?_)
  refine AL_g hT hK 38 1 (pc' := 72) (lo' := [some (.ref 0), some (.ref 36), some (.int 1), some (.int 0), some (.int 1), some (.int 0), some (.int 0), none, none, none]) (st' := [.int 0, .int 0]) (hp' := wd σ) rfl ?_
  refine AL_icmp_ne hT hK 39 (tgt := 79) rfl rfl (fun c => absurd (by decide) c) (fun _ => ?_)
  refine AL_g hT hK 40 1 (pc' := 76) (lo' := [some (.ref 0), some (.ref 36), some (.int 1), some (.int 0), some (.int 1), some (.int 0), some (.int 0), none, none, none]) (st' := [.int 1]) (hp' := wd σ) rfl ?_
  refine AL_goto hT hK 41 (tgt := 80) rfl rfl ?_
  refine AL_g hT hK 43 3 (pc' := 85) (lo' := [some (.ref 0), some (.ref 36), some (.int 1), some (.int 0), some (.int 1), some (.int 0), some (.int 0), some (.int 0), none, none]) (st' := []) (hp' := wd σ) rfl ?_
  refine AL_g hT hK 46 2 (pc' := 89) (lo' := [some (.ref 0), some (.ref 36), some (.int 1), some (.int 0), some (.int 1), some (.int 0), some (.int 0), some (.int 0), none, none]) (st' := [.int 12, .int 0]) (hp' := wd σ) rfl ?_
  refine AL_icmp_ge hT hK 48 (tgt := 230) rfl rfl (fun c => absurd c (by decide)) (fun _ => ?_)
  refine AL_g hT hK 49 1 (pc' := 94) (lo' := [some (.ref 0), some (.ref 36), some (.int 1), some (.int 0), some (.int 1), some (.int 0), some (.int 0), some (.int 0), none, none]) (st' := [.int 1]) (hp' := wd σ) rfl ?_
  refine AL_if_eq hT hK 50 (tgt := 230) rfl rfl (fun c => absurd c (by decide)) (fun _ => ?_)
  refine AL_g hT hK 51 2 (pc' := 100) (lo' := [some (.ref 0), some (.ref 36), some (.int 1), some (.int 0), some (.int 1), some (.int 0), some (.int 0), some (.int 0), none, none]) (st' := [.int 0, .ref 36]) (hp' := wd σ) rfl ?_
  refine AL_ld hT hK 53 0 12 (f := σ.2.1 36) 0 rfl rfl rfl (by decide) (by decide) (f_r 0 (by decide)) ?_
  refine AL_if_lt hT hK 54 (tgt := 126) rfl rfl (fun c => absurd c (by decide)) (fun _ => ?_)
  refine AL_g hT hK 55 2 (pc' := 108) (lo' := [some (.ref 0), some (.ref 36), some (.int 1), some (.int 0), some (.int 1), some (.int 0), some (.int 0), some (.int 0), none, none]) (st' := [.int 0, .int 0]) (hp' := wd σ) rfl ?_
  refine AL_icmp_ne hT hK 57 (tgt := 126) rfl rfl (fun c => absurd (by decide) c) (fun _ => ?_)
  refine AL_g hT hK 58 2 (pc' := 114) (lo' := [some (.ref 0), some (.ref 36), some (.int 1), some (.int 0), some (.int 1), some (.int 0), some (.int 0), some (.int 0), none, none]) (st' := [.int 0, .ref 0]) (hp' := wd σ) rfl ?_
  refine AL_cV hT hK 60 [.int 0] [] (m_X5_fieldOf l0 σ 0 0 f_fo) cw_X5_fieldOf lk_L_43 vi_X5_fieldOf rfl rfl rfl rfl rfl rfl rfl rfl (by show _ ≤ 1; omega) (by show _ ≤ 6; omega) (AL_k1 rfl ?_)
  refine AL_g hT hK 61 1 (pc' := 119) (lo' := [some (.ref 0), some (.ref 36), some (.int 1), some (.int 0), some (.int 1), some (.int 0), some (.int 0), some (.int 0), none, none]) (st' := [.int 0, .int 0]) (hp' := wd σ) rfl ?_
  refine AL_icmp_ne hT hK 62 (tgt := 126) rfl rfl (fun c => absurd (by decide) c) (fun _ => ?_)
  refine AL_g hT hK 63 1 (pc' := 123) (lo' := [some (.ref 0), some (.ref 36), some (.int 1), some (.int 0), some (.int 1), some (.int 0), some (.int 0), some (.int 0), none, none]) (st' := [.int 1]) (hp' := wd σ) rfl ?_
  refine AL_goto hT hK 64 (tgt := 127) rfl rfl ?_
  refine AL_g hT hK 66 2 (pc' := 131) (lo' := [some (.ref 0), some (.ref 36), some (.int 1), some (.int 0), some (.int 1), some (.int 0), some (.int 0), some (.int 0), some (.int 1), none]) (st' := [.int 1]) (hp' := wd σ) rfl ?_
  refine AL_if_eq hT hK 68 (tgt := 147) rfl rfl (fun c => absurd c (by decide)) (fun _ => ?_)
  refine AL_g hT hK 69 4 (pc' := 141) (lo' := [some (.ref 0), some (.ref 36), some (.int 1), some (.int 0), some (.int 1), some (.int 0), some (.int 0), some (.int 0), some (.int 1), none]) (st' := [.int 0, .int 0, .int 8, .ref 0]) (hp' := wd σ) rfl ?_
  refine AL_cW hT hK hN 73 [.ref 0, .int 8, .int 0, .int 0] [] (l_ofI_8 l0 hl0 σ 0 0 f_g) cy_L_of lk_L_96 sm_L_of rfl rfl rfl rfl rfl rfl (by show _ ≤ 1; omega) (by show _ ≤ 6; omega) ?_
  refine AL_goto hT hK 74 (tgt := 148) rfl rfl ?_
  refine AL_g hT hK 76 2 (pc' := 152) (lo' := [some (.ref 0), some (.ref 36), some (.int 1), some (.int 0), some (.int 1), some (.int 0), some (.int 0), some (.int 0), some (.int 1), some (.int (-2000000002))]) (st' := [.int 1]) (hp' := wd σ) rfl ?_
  refine AL_if_eq hT hK 78 (tgt := 192) rfl rfl (fun c => absurd c (by decide)) (fun _ => ?_)
  refine AL_g hT hK 79 2 (pc' := 159) (lo' := [some (.ref 0), some (.ref 36), some (.int 1), some (.int 0), some (.int 1), some (.int 0), some (.int 0), some (.int 0), some (.int 1), some (.int (-2000000002))]) (st' := [.int 0, .int 0]) (hp' := wd σ) rfl ?_
  refine AL_icmp_ne hT hK 81 (tgt := 172) rfl rfl (fun c => absurd (by decide) c) (fun _ => ?_)
  refine AL_g hT hK 82 1 (pc' := 164) (lo' := [some (.ref 0), some (.ref 36), some (.int 1), some (.int 0), some (.int 1), some (.int 0), some (.int 0), some (.int 0), some (.int 1), some (.int (-2000000002))]) (st' := [.int (-2000000002)]) (hp' := wd σ) rfl ?_
  refine AL_ldc hT hK 83 (v := (-2000000002)) rfl (List.mem_of_getElem? (i := 550) (by decide +kernel)) ?_
  refine AL_icmp_ne hT hK 84 (tgt := 196) rfl rfl (fun c => absurd (by decide) c) (fun _ => ?_)
  refine AL_goto hT hK 85 (tgt := 192) rfl rfl ?_
  refine AL_g hT hK 95 1 (pc' := 193) (lo' := [some (.ref 0), some (.ref 36), some (.int 1), some (.int 0), some (.int 1), some (.int 0), some (.int 0), some (.int 0), some (.int 1), some (.int (-2000000002))]) (st' := [.int 1]) (hp' := wd σ) rfl ?_
  refine AL_goto hT hK 96 (tgt := 197) rfl rfl ?_
  refine AL_g hT hK 98 3 (pc' := 202) (lo' := [some (.ref 0), some (.ref 36), some (.int 1), some (.int 0), some (.int 1), some (.int 0), some (.int 0), some (.int 0), some (.int 1), some (.int (-2000000002))]) (st' := [.int 1, .int 0]) (hp' := wd σ) rfl ?_
  refine AL_if_eq hT hK 101 (tgt := 221) rfl rfl (fun c => absurd c (by decide)) (fun _ => ?_)
  refine AL_g hT hK 102 2 (pc' := 209) (lo' := [some (.ref 0), some (.ref 36), some (.int 1), some (.int 0), some (.int 1), some (.int 0), some (.int 0), some (.int 0), some (.int 1), some (.int (-2000000002))]) (st' := [.int 0, .int 0, .int 0]) (hp' := wd σ) rfl ?_
  refine AL_icmp_eq hT hK 104 (tgt := 221) rfl rfl (fun _ => ?_) (fun c => absurd (by decide) c)
  refine AL_g hT hK 109 4 (pc' := 227) (lo' := [some (.ref 0), some (.ref 36), some (.int 1), some (.int 0), some (.int 1), some (.int 0), some (.int 0), some (.int 1), some (.int 1), some (.int (-2000000002))]) (st' := []) (hp' := wd σ) rfl ?_
  refine AL_goto hT hK 113 (tgt := 85) rfl rfl ?_
  refine AL_msk [true, true, true, true, true, true, true, true, false, false] (lo' := [some (.ref 0), some (.ref 36), some (.int 1), some (.int 0), some (.int 1), some (.int 0), some (.int 0), some (.int 1), none, none]) rfl ?_
  have lp5 : ∀ (n4 i2 : Nat), i2 + n4 = 12 → 1 ≤ i2 → AL K (0 + 1) (0 + 1) (6 * (0 + 1)) 85 [some (.ref 0), some (.ref 36), some (.int 1), some (.int 0), some (.int 1), some (.int 0), some (.int 0), some (.int (nI i2)), none, none] [] (wd σ) := by
    intro n4
    induction n4 with
    | zero =>
      intro i2 hi3 hi3s
      refine AL_g hT hK 46 2 (pc' := 89) (lo' := [some (.ref 0), some (.ref 36), some (.int 1), some (.int 0), some (.int 1), some (.int 0), some (.int 0), some (.int (nI i2)), none, none]) (st' := [.int 12, .int (nI i2)]) (hp' := wd σ) rfl ?_
      refine AL_icmp_ge hT hK 48 (tgt := 230) rfl rfl (fun _ => ?_) (fun c => absurd (az_c0 hi3) c)
      refine AL_msk [true, true, true, true, true, true, true, false, false, false] (lo' := [some (.ref 0), some (.ref 36), some (.int 1), some (.int 0), some (.int 1), some (.int 0), some (.int 0), none, none, none]) rfl ?_
      refine AL_g hT hK 114 1 (pc' := 232) (lo' := [some (.ref 0), some (.ref 36), some (.int 1), some (.int 0), some (.int 1), some (.int 0), some (.int 0), none, none, none]) (st' := [.int 1]) (hp' := wd σ) rfl ?_
      refine AL_if_eq hT hK 115 (tgt := 288) rfl rfl (fun c => absurd c (by decide)) (fun _ => ?_)
      refine AL_g hT hK 116 2 (pc' := 239) (lo' := [some (.ref 0), some (.ref 36), some (.int 1), some (.int 0), some (.int 1), some (.int 0), some (.int 0), none, none, none]) (st' := [.int 0, .int 0]) (hp' := wd σ) rfl ?_
      refine AL_icmp_ne hT hK 118 (tgt := 255) rfl rfl (fun c => absurd (by decide) c) (fun _ => ?_)
      refine AL_g hT hK 119 3 (pc' := 246) (lo' := [some (.ref 0), some (.ref 36), some (.int 1), some (.int 0), some (.int 1), some (.int 0), some (.int 0), none, none, none]) (st' := [.int 0, .ref 36, .ref 0]) (hp' := wd σ) rfl ?_
      refine AL_cE hT hK hN 122 [.ref 0, .ref 36, .int 0] [] (l_isSplitT l0 hl0 σ hF) cw_L_isSplit lk_L_112 sm_L_isSplit rfl rfl rfl rfl rfl rfl (by show _ ≤ 1; omega) (by show _ ≤ 6; omega) ?_
      refine AL_if_eq hT hK 123 (tgt := 288) rfl rfl (fun c => absurd c (by decide)) (fun _ => ?_)
      refine AL_goto hT hK 124 (tgt := 284) rfl rfl ?_
      refine AL_g hT hK 139 1 (pc' := 285) (lo' := [some (.ref 0), some (.ref 36), some (.int 1), some (.int 0), some (.int 1), some (.int 0), some (.int 0), none, none, none]) (st' := [.int 1]) (hp' := wd σ) rfl ?_
      refine AL_goto hT hK 140 (tgt := 289) rfl rfl ?_
      refine AL_g hT hK 142 2 (pc' := 294) (lo' := [some (.ref 0), some (.ref 36), some (.int 1), some (.int 0), some (.int 1), some (.int 1), some (.int 0), none, none, none]) (st' := []) (hp' := wd σ) rfl ?_
      refine AL_goto hT hK 144 (tgt := 10) rfl rfl ?_
      refine AL_msk [true, true, true, true, true, true, false, false, false, false] (lo' := [some (.ref 0), some (.ref 36), some (.int 1), some (.int 0), some (.int 1), some (.int 1), none, none, none, none]) rfl ?_
      have lp11 : ∀ (n10 i8 : Nat), i8 + n10 = 12 → 1 ≤ i8 → AL K (0 + 1) (0 + 1) (6 * (0 + 1)) 10 [some (.ref 0), some (.ref 36), some (.int 1), some (.int 0), some (.int 1), some (.int (nI i8)), none, none, none, none] [] (wd σ) := by
        intro n10
        induction n10 with
        | zero =>
          intro i8 hi9 hi9s
          refine AL_g hT hK 8 2 (pc' := 14) (lo' := [some (.ref 0), some (.ref 36), some (.int 1), some (.int 0), some (.int 1), some (.int (nI i8)), none, none, none, none]) (st' := [.int 12, .int (nI i8)]) (hp' := wd σ) rfl ?_
          refine AL_icmp_ge hT hK 10 (tgt := 297) rfl rfl (fun _ => ?_) (fun c => absurd (az_c0 hi9) c)
          refine AL_msk [true, true, true, true, true, false, false, false, false, false] (lo' := [some (.ref 0), some (.ref 36), some (.int 1), some (.int 0), some (.int 1), none, none, none, none, none]) rfl ?_
          refine AL_g hT hK 145 1 (pc' := 299) (lo' := [some (.ref 0), some (.ref 36), some (.int 1), some (.int 0), some (.int 1), none, none, none, none, none]) (st' := [.int 1]) (hp' := wd σ) rfl ?_
          refine AL_if_eq hT hK 146 (tgt := 320) rfl rfl (fun c => absurd c (by decide)) (fun _ => ?_)
          refine AL_g hT hK 147 1 (pc' := 303) (lo' := [some (.ref 0), some (.ref 36), some (.int 1), some (.int 0), some (.int 1), none, none, none, none, none]) (st' := [.ref 0]) (hp' := wd σ) rfl ?_
          refine AL_cV hT hK 148 [] [] (m_X5_fields l0 σ) cw_X5_fields lk_L_79 vi_X5_fields rfl rfl rfl rfl rfl rfl rfl rfl (by show _ ≤ 1; omega) (by show _ ≤ 6; omega) (AL_k1 f_fi ?_)
          refine AL_g hT hK 149 1 (pc' := 307) (lo' := [some (.ref 0), some (.ref 36), some (.int 1), some (.int 0), some (.int 1), none, none, none, none, none]) (st' := [.int 1, .int 1]) (hp' := wd σ) rfl ?_
          refine AL_icmp_ne hT hK 150 (tgt := 320) rfl rfl (fun c => absurd (by decide) c) (fun _ => ?_)
          refine AL_g hT hK 151 2 (pc' := 312) (lo' := [some (.ref 0), some (.ref 36), some (.int 1), some (.int 0), some (.int 1), none, none, none, none, none]) (st' := [.int 2, .int 0]) (hp' := wd σ) rfl ?_
          refine AL_iremN hT hK 153 0 2 rfl rfl rfl (by decide) (by decide) (by decide) ?_
          refine AL_to (st' := [.int 0]) rfl rfl rfl ?_
          refine AL_if_ne hT hK 154 (tgt := 320) rfl rfl (fun c => absurd (by decide) c) (fun _ => ?_)
          refine AL_g hT hK 155 1 (pc' := 317) (lo' := [some (.ref 0), some (.ref 36), some (.int 1), some (.int 0), some (.int 1), none, none, none, none, none]) (st' := [.int 1]) (hp' := wd σ) rfl ?_
          refine AL_goto hT hK 156 (tgt := 321) rfl rfl ?_
          refine AL_cnt (lb' := 1) (cells' := 1) (slots' := 6 * 1) (by omega) (by omega) (by omega) ?_
          exact AL_iret hT hE 158 rfl rfl rfl (Nat.le_of_ble_eq_true rfl) (Nat.le_of_ble_eq_true rfl)
        | succ n10 ih12 =>
          intro i8 hi9 hi9s
          refine AL_g hT hK 8 2 (pc' := 14) (lo' := [some (.ref 0), some (.ref 36), some (.int 1), some (.int 0), some (.int 1), some (.int (nI i8)), none, none, none, none]) (st' := [.int 12, .int (nI i8)]) (hp' := wd σ) rfl ?_
          refine AL_icmp_ge hT hK 10 (tgt := 297) rfl rfl (fun c => absurd c (az_c1 hi9)) (fun _ => ?_)
          refine AL_g hT hK 11 1 (pc' := 19) (lo' := [some (.ref 0), some (.ref 36), some (.int 1), some (.int 0), some (.int 1), some (.int (nI i8)), none, none, none, none]) (st' := [.int 1]) (hp' := wd σ) rfl ?_
          refine AL_if_eq hT hK 12 (tgt := 297) rfl rfl (fun c => absurd c (by decide)) (fun _ => ?_)
          refine AL_g hT hK 13 2 (pc' := 25) (lo' := [some (.ref 0), some (.ref 36), some (.int 1), some (.int 0), some (.int 1), some (.int (nI i8)), none, none, none, none]) (st' := [.int (nI i8), .ref 36]) (hp' := wd σ) rfl ?_
          refine AL_ld hT hK 15 i8 12 (f := σ.2.1 36) (-1) rfl rfl rfl (by omega) (by decide) ((f_r _ (by omega)).trans (if_neg (by omega))) ?_
          refine AL_if_lt hT hK 16 (tgt := 291) rfl rfl (fun _ => ?_) (fun c => absurd (by decide) c)
          refine AL_g hT hK 143 1 (pc' := 294) (lo' := [some (.ref 0), some (.ref 36), some (.int 1), some (.int 0), some (.int 1), some (.int (nI i8 + 1)), none, none, none, none]) (st' := []) (hp' := wd σ) rfl ?_
          refine AL_goto hT hK 144 (tgt := 10) rfl rfl ?_
          refine AL_to (lo' := [some (.ref 0), some (.ref 36), some (.int 1), some (.int 0), some (.int 1), some (.int (nI (i8 + 1))), none, none, none, none]) (by rw [nI_1]) rfl rfl ?_
          refine AL_cnt (lb' := (0 + 1)) (cells' := (0 + 1)) (slots' := 6 * (0 + 1)) (by omega) (by omega) (by omega) ?_
          exact ih12 (i8 + 1) (by omega) (by omega)
      refine AL_cnt (lb' := (0 + 1)) (cells' := (0 + 1)) (slots' := 6 * (0 + 1)) (by omega) (by omega) (by omega) ?_
      exact lp11 11 1 rfl (Nat.le_refl _)
    | succ n4 ih6 =>
      intro i2 hi3 hi3s
      refine AL_g hT hK 46 2 (pc' := 89) (lo' := [some (.ref 0), some (.ref 36), some (.int 1), some (.int 0), some (.int 1), some (.int 0), some (.int 0), some (.int (nI i2)), none, none]) (st' := [.int 12, .int (nI i2)]) (hp' := wd σ) rfl ?_
      refine AL_icmp_ge hT hK 48 (tgt := 230) rfl rfl (fun c => absurd c (az_c1 hi3)) (fun _ => ?_)
      refine AL_g hT hK 49 1 (pc' := 94) (lo' := [some (.ref 0), some (.ref 36), some (.int 1), some (.int 0), some (.int 1), some (.int 0), some (.int 0), some (.int (nI i2)), none, none]) (st' := [.int 1]) (hp' := wd σ) rfl ?_
      refine AL_if_eq hT hK 50 (tgt := 230) rfl rfl (fun c => absurd c (by decide)) (fun _ => ?_)
      refine AL_g hT hK 51 2 (pc' := 100) (lo' := [some (.ref 0), some (.ref 36), some (.int 1), some (.int 0), some (.int 1), some (.int 0), some (.int 0), some (.int (nI i2)), none, none]) (st' := [.int (nI i2), .ref 36]) (hp' := wd σ) rfl ?_
      refine AL_ld hT hK 53 i2 12 (f := σ.2.1 36) (-1) rfl rfl rfl (by omega) (by decide) ((f_r _ (by omega)).trans (if_neg (by omega))) ?_
      refine AL_if_lt hT hK 54 (tgt := 126) rfl rfl (fun _ => ?_) (fun c => absurd (by decide) c)
      refine AL_g hT hK 65 3 (pc' := 131) (lo' := [some (.ref 0), some (.ref 36), some (.int 1), some (.int 0), some (.int 1), some (.int 0), some (.int 0), some (.int (nI i2)), some (.int 0), none]) (st' := [.int 0]) (hp' := wd σ) rfl ?_
      refine AL_if_eq hT hK 68 (tgt := 147) rfl rfl (fun _ => ?_) (fun c => absurd (by decide) c)
      refine AL_g hT hK 75 3 (pc' := 152) (lo' := [some (.ref 0), some (.ref 36), some (.int 1), some (.int 0), some (.int 1), some (.int 0), some (.int 0), some (.int (nI i2)), some (.int 0), some (.int 0)]) (st' := [.int 0]) (hp' := wd σ) rfl ?_
      refine AL_if_eq hT hK 78 (tgt := 192) rfl rfl (fun _ => ?_) (fun c => absurd (by decide) c)
      refine AL_g hT hK 95 1 (pc' := 193) (lo' := [some (.ref 0), some (.ref 36), some (.int 1), some (.int 0), some (.int 1), some (.int 0), some (.int 0), some (.int (nI i2)), some (.int 0), some (.int 0)]) (st' := [.int 1]) (hp' := wd σ) rfl ?_
      refine AL_goto hT hK 96 (tgt := 197) rfl rfl ?_
      refine AL_g hT hK 98 3 (pc' := 202) (lo' := [some (.ref 0), some (.ref 36), some (.int 1), some (.int 0), some (.int 1), some (.int 0), some (.int 0), some (.int (nI i2)), some (.int 0), some (.int 0)]) (st' := [.int 0, .int 0]) (hp' := wd σ) rfl ?_
      refine AL_if_eq hT hK 101 (tgt := 221) rfl rfl (fun _ => ?_) (fun c => absurd (by decide) c)
      refine AL_g hT hK 109 4 (pc' := 227) (lo' := [some (.ref 0), some (.ref 36), some (.int 1), some (.int 0), some (.int 1), some (.int 0), some (.int 0), some (.int (nI i2 + 1)), some (.int 0), some (.int 0)]) (st' := []) (hp' := wd σ) rfl ?_
      refine AL_goto hT hK 113 (tgt := 85) rfl rfl ?_
      refine AL_msk [true, true, true, true, true, true, true, true, false, false] (lo' := [some (.ref 0), some (.ref 36), some (.int 1), some (.int 0), some (.int 1), some (.int 0), some (.int 0), some (.int (nI i2 + 1)), none, none]) rfl ?_
      refine AL_to (lo' := [some (.ref 0), some (.ref 36), some (.int 1), some (.int 0), some (.int 1), some (.int 0), some (.int 0), some (.int (nI (i2 + 1))), none, none]) (by rw [nI_1]) rfl rfl ?_
      refine AL_cnt (lb' := (0 + 1)) (cells' := (0 + 1)) (slots' := 6 * (0 + 1)) (by omega) (by omega) (by omega) ?_
      exact ih6 (i2 + 1) (by omega) (by omega)
  refine AL_cnt (lb' := (0 + 1)) (cells' := (0 + 1)) (slots' := 6 * (0 + 1)) (by omega) (by omega) (by omega) ?_
  exact lp5 11 1 rfl (Nat.le_refl _)
set_option maxRecDepth 100000 in
set_option maxHeartbeats 4000000 in
theorem l_areWaysT (l0 : Launch) (hl0 : l0.stackTraces = false) (σ : az_S) (hF : TF σ) : AME l0 yL_areWays (.code yL_areWays cL_areWays 10 (some .boolean)) ({ frames := 9, cells := 12, slots := 72, locals := 190 } : Room) [.ref 0, .ref 36] (wd σ) (wd σ) (.int 1) 12 := by
  refine AME_of (by decide +kernel) (by simp [Value.category]) (Nat.le_of_ble_eq_true rfl) (fun K hK hN hE => ?_)
  have hT := tt_L_areWays
  have hF9 := hF
  obtain ⟨f_r, f_p, f_ref, f_cit, f_fo, f_sp, f_g, f_c, f_pa, f_t, f_ta, f_fi, f_w⟩ := hF9
  refine AL_g hT hK 0 8 (pc' := 10) (lo' := [some (.ref 0), some (.ref 36), some (.int 0), some (.int 0), some (.int 1), some (.int 0), none, none, none, none]) (st' := []) (hp' := wd σ) rfl ?_
  refine AL_g hT hK 8 2 (pc' := 14) (lo' := [some (.ref 0), some (.ref 36), some (.int 0), some (.int 0), some (.int 1), some (.int 0), none, none, none, none]) (st' := [.int 12, .int 0]) (hp' := wd σ) rfl ?_
  refine AL_icmp_ge hT hK 10 (tgt := 304) rfl rfl (fun c => absurd c (by decide)) (fun _ => ?_)
  refine AL_g hT hK 11 1 (pc' := 19) (lo' := [some (.ref 0), some (.ref 36), some (.int 0), some (.int 0), some (.int 1), some (.int 0), none, none, none, none]) (st' := [.int 1]) (hp' := wd σ) rfl ?_
  refine AL_if_eq hT hK 12 (tgt := 304) rfl rfl (fun c => absurd c (by decide)) (fun _ => ?_)
  refine AL_g hT hK 13 2 (pc' := 25) (lo' := [some (.ref 0), some (.ref 36), some (.int 0), some (.int 0), some (.int 1), some (.int 0), none, none, none, none]) (st' := [.int 0, .ref 36]) (hp' := wd σ) rfl ?_
  refine AL_ld hT hK 15 0 12 (f := σ.2.1 36) 0 rfl rfl rfl (by decide) (by decide) (f_r 0 (by decide)) ?_
  refine AL_if_lt hT hK 16 (tgt := 298) rfl rfl (fun c => absurd c (by decide)) (fun _ => ?_)
  refine AL_g hT hK 17 6 (pc' := 38) (lo' := [some (.ref 0), some (.ref 36), some (.int 0), some (.int 0), some (.int 1), some (.int 0), some (.int 0), some (.int 0), some (.int 0), none]) (st' := []) (hp' := wd σ) rfl ?_
  refine AL_g hT hK 23 2 (pc' := 42) (lo' := [some (.ref 0), some (.ref 36), some (.int 0), some (.int 0), some (.int 1), some (.int 0), some (.int 0), some (.int 0), some (.int 0), none]) (st' := [.int 12, .int 0]) (hp' := wd σ) rfl ?_
  refine AL_icmp_ge hT hK 25 (tgt := 162) rfl rfl (fun c => absurd c (by decide)) (fun _ => ?_)
  refine AL_g hT hK 26 1 (pc' := 47) (lo' := [some (.ref 0), some (.ref 36), some (.int 0), some (.int 0), some (.int 1), some (.int 0), some (.int 0), some (.int 0), some (.int 0), none]) (st' := [.int 1]) (hp' := wd σ) rfl ?_
  refine AL_if_eq hT hK 27 (tgt := 162) rfl rfl (fun c => absurd c (by decide)) (fun _ => ?_)
  refine AL_g hT hK 28 2 (pc' := 53) (lo' := [some (.ref 0), some (.ref 36), some (.int 0), some (.int 0), some (.int 1), some (.int 0), some (.int 0), some (.int 0), some (.int 0), none]) (st' := [.int 0, .ref 36]) (hp' := wd σ) rfl ?_
  refine AL_ld hT hK 30 0 12 (f := σ.2.1 36) 0 rfl rfl rfl (by decide) (by decide) (f_r 0 (by decide)) ?_
  refine AL_if_le hT hK 31 (tgt := 74) rfl rfl (fun _ => ?_) (fun c => absurd (by decide) c)
  refine AL_g hT hK 43 5 (pc' := 82) (lo' := [some (.ref 0), some (.ref 36), some (.int 0), some (.int 0), some (.int 1), some (.int 0), some (.int 0), some (.int 0), some (.int 0), some (.int 0)]) (st' := [.int 0, .ref 36, .int 0]) (hp' := wd σ) rfl ?_
  refine AL_ld hT hK 48 0 12 (f := σ.2.1 36) 0 rfl rfl rfl (by decide) (by decide) (f_r 0 (by decide)) ?_
  refine AL_g hT hK 49 5 (pc' := 89) (lo' := [some (.ref 0), some (.ref 36), some (.int 0), some (.int 0), some (.int 1), some (.int 0), some (.int 0), some (.int 0), some (.int 0), some (.int 0)]) (st' := [.int 1, .int 0, .int 0]) (hp' := wd σ) rfl ?_
  refine AL_icmp_ne hT hK 54 (tgt := 103) rfl rfl (fun _ => ?_) (fun c => absurd c (by decide))
  refine AL_g hT hK 60 5 (pc' := 111) (lo' := [some (.ref 0), some (.ref 36), some (.int 0), some (.int 0), some (.int 1), some (.int 0), some (.int 0), some (.int 0), some (.int 0), some (.int 0)]) (st' := [.int 0, .int 0]) (hp' := wd σ) rfl ?_
  refine AL_if_eq hT hK 65 (tgt := 125) rfl rfl (fun _ => ?_) (fun c => absurd (by decide) c)
  refine AL_g hT hK 71 4 (pc' := 131) (lo' := [some (.ref 0), some (.ref 36), some (.int 0), some (.int 0), some (.int 1), some (.int 0), some (.int 0), some (.int 0), some (.int 0), some (.int 0)]) (st' := [.int 0]) (hp' := wd σ) rfl ?_
  refine AL_if_ne hT hK 75 (tgt := 149) rfl rfl (fun c => absurd (by decide) c) (fun _ => ?_)
  refine AL_g hT hK 76 4 (pc' := 141) (lo' := [some (.ref 0), some (.ref 36), some (.int 0), some (.int 0), some (.int 1), some (.int 0), some (.int 0), some (.int 0), some (.int 0), some (.int 0)]) (st' := [.int 0, .int 0, .int 10, .ref 0]) (hp' := wd σ) rfl ?_
  refine AL_cW hT hK hN 80 [.ref 0, .int 10, .int 0, .int 0] [] (l_of_10 l0 hl0 σ 0 0 (f_c 0 (by omega))) cy_L_of lk_L_96 sm_L_of rfl rfl rfl rfl rfl rfl (by show _ ≤ 12; omega) (by show _ ≤ 72; omega) ?_
  refine AL_ldc hT hK 81 (v := (-2000000004)) rfl (List.mem_of_getElem? (i := 549) (by decide +kernel)) ?_
  refine AL_icmp_ne hT hK 82 (tgt := 153) rfl rfl (fun c => absurd (by decide) c) (fun _ => ?_)
  refine AL_g hT hK 83 1 (pc' := 150) (lo' := [some (.ref 0), some (.ref 36), some (.int 0), some (.int 0), some (.int 1), some (.int 0), some (.int 0), some (.int 0), some (.int 0), some (.int 0)]) (st' := [.int 1]) (hp' := wd σ) rfl ?_
  refine AL_goto hT hK 84 (tgt := 154) rfl rfl ?_
  refine AL_g hT hK 86 2 (pc' := 159) (lo' := [some (.ref 0), some (.ref 36), some (.int 0), some (.int 0), some (.int 1), some (.int 0), some (.int 0), some (.int 0), some (.int 1), some (.int 0)]) (st' := []) (hp' := wd σ) rfl ?_
  refine AL_goto hT hK 88 (tgt := 38) rfl rfl ?_
  refine AL_msk [true, true, true, true, true, true, true, true, true, false] (lo' := [some (.ref 0), some (.ref 36), some (.int 0), some (.int 0), some (.int 1), some (.int 0), some (.int 0), some (.int 0), some (.int 1), none]) rfl ?_
  have lp5 : ∀ (n4 i2 : Nat), i2 + n4 = 12 → 1 ≤ i2 → AL K (0 + 1 + 1 * (i2 - 1)) (0 + 1 + 1 * (i2 - 1)) (6 * (0 + 1 + 1 * (i2 - 1))) 38 [some (.ref 0), some (.ref 36), some (.int 0), some (.int 0), some (.int 1), some (.int 0), some (.int 0), some (.int 0), some (.int (nI i2)), none] [] (wd σ) := by
    intro n4
    induction n4 with
    | zero =>
      intro i2 hi3 hi3s
      refine AL_g hT hK 23 2 (pc' := 42) (lo' := [some (.ref 0), some (.ref 36), some (.int 0), some (.int 0), some (.int 1), some (.int 0), some (.int 0), some (.int 0), some (.int (nI i2)), none]) (st' := [.int 12, .int (nI i2)]) (hp' := wd σ) rfl ?_
      refine AL_icmp_ge hT hK 25 (tgt := 162) rfl rfl (fun _ => ?_) (fun c => absurd (az_c0 hi3) c)
      refine AL_msk [true, true, true, true, true, true, true, true, false, false] (lo' := [some (.ref 0), some (.ref 36), some (.int 0), some (.int 0), some (.int 1), some (.int 0), some (.int 0), some (.int 0), none, none]) rfl ?_
      refine AL_cnt (lb' := (0 + 1 + 11)) (cells' := (0 + 1 + 11)) (slots' := 6 * (0 + 1 + 11)) (by omega) (by omega) (by omega) ?_
      refine AL_g hT hK 89 2 (pc' := 165) (lo' := [some (.ref 0), some (.ref 36), some (.int 0), some (.int 0), some (.int 1), some (.int 0), some (.int 0), some (.int 0), none, none]) (st' := [.int 0, .ref 36]) (hp' := wd σ) rfl ?_
      refine AL_ld hT hK 91 0 12 (f := σ.2.1 36) 0 rfl rfl rfl (by decide) (by decide) (f_r 0 (by decide)) ?_
      refine AL_if_ne hT hK 92 (tgt := 182) rfl rfl (fun c => absurd (by decide) c) (fun _ => ?_)
      refine AL_g hT hK 93 2 (pc' := 172) (lo' := [some (.ref 0), some (.ref 36), some (.int 0), some (.int 0), some (.int 1), some (.int 0), some (.int 0), some (.int 0), none, none]) (st' := [.int 0, .ref 0]) (hp' := wd σ) rfl ?_
      refine AL_cV hT hK 95 [.int 0] [] (m_X5_citing l0 σ 0 0 f_cit) cw_X5_citing lk_L_28 vi_X5_citing rfl rfl rfl rfl rfl rfl rfl rfl (by show _ ≤ 12; omega) (by show _ ≤ 72; omega) (AL_k1 rfl ?_)
      refine AL_if_ne hT hK 96 (tgt := 182) rfl rfl (fun c => absurd (by decide) c) (fun _ => ?_)
      refine AL_g hT hK 97 1 (pc' := 179) (lo' := [some (.ref 0), some (.ref 36), some (.int 0), some (.int 0), some (.int 1), some (.int 0), some (.int 0), some (.int 0), none, none]) (st' := [.int 1]) (hp' := wd σ) rfl ?_
      refine AL_goto hT hK 98 (tgt := 183) rfl rfl ?_
      refine AL_g hT hK 100 3 (pc' := 188) (lo' := [some (.ref 0), some (.ref 36), some (.int 0), some (.int 0), some (.int 1), some (.int 0), some (.int 0), some (.int 0), some (.int 1), none]) (st' := [.int 1, .int 0]) (hp' := wd σ) rfl ?_
      refine AL_if_eq hT hK 103 (tgt := 195) rfl rfl (fun c => absurd c (by decide)) (fun _ => ?_)
      refine AL_g hT hK 104 1 (pc' := 192) (lo' := [some (.ref 0), some (.ref 36), some (.int 0), some (.int 0), some (.int 1), some (.int 0), some (.int 0), some (.int 0), some (.int 1), none]) (st' := [.int 1, .int 0]) (hp' := wd σ) rfl ?_
      refine AL_goto hT hK 105 (tgt := 208) rfl rfl ?_
      refine AL_g hT hK 113 4 (pc' := 213) (lo' := [some (.ref 0), some (.ref 36), some (.int 1), some (.int 0), some (.int 1), some (.int 0), some (.int 0), some (.int 0), some (.int 1), none]) (st' := [.int 1, .int 0]) (hp' := wd σ) rfl ?_
      refine AL_if_eq hT hK 117 (tgt := 220) rfl rfl (fun c => absurd c (by decide)) (fun _ => ?_)
      refine AL_g hT hK 118 1 (pc' := 217) (lo' := [some (.ref 0), some (.ref 36), some (.int 1), some (.int 0), some (.int 1), some (.int 0), some (.int 0), some (.int 0), some (.int 1), none]) (st' := [.int 1, .int 0]) (hp' := wd σ) rfl ?_
      refine AL_goto hT hK 119 (tgt := 235) rfl rfl ?_
      refine AL_g hT hK 127 3 (pc' := 239) (lo' := [some (.ref 0), some (.ref 36), some (.int 1), some (.int 1), some (.int 1), some (.int 0), some (.int 0), some (.int 0), some (.int 1), none]) (st' := [.int 1]) (hp' := wd σ) rfl ?_
      refine AL_if_eq hT hK 130 (tgt := 295) rfl rfl (fun c => absurd c (by decide)) (fun _ => ?_)
      refine AL_g hT hK 131 2 (pc' := 245) (lo' := [some (.ref 0), some (.ref 36), some (.int 1), some (.int 1), some (.int 1), some (.int 0), some (.int 0), some (.int 0), some (.int 1), none]) (st' := [.int 0, .ref 36]) (hp' := wd σ) rfl ?_
      refine AL_ld hT hK 133 0 12 (f := σ.2.1 36) 0 rfl rfl rfl (by decide) (by decide) (f_r 0 (by decide)) ?_
      refine AL_if_eq hT hK 134 (tgt := 265) rfl rfl (fun _ => ?_) (fun c => absurd (by decide) c)
      refine AL_g hT hK 142 2 (pc' := 268) (lo' := [some (.ref 0), some (.ref 36), some (.int 1), some (.int 1), some (.int 1), some (.int 0), some (.int 0), some (.int 0), some (.int 1), none]) (st' := [.int 0, .ref 36]) (hp' := wd σ) rfl ?_
      refine AL_ld hT hK 144 0 12 (f := σ.2.1 36) 0 rfl rfl rfl (by decide) (by decide) (f_r 0 (by decide)) ?_
      refine AL_if_eq hT hK 145 (tgt := 277) rfl rfl (fun _ => ?_) (fun c => absurd (by decide) c)
      refine AL_g hT hK 148 2 (pc' := 280) (lo' := [some (.ref 0), some (.ref 36), some (.int 1), some (.int 1), some (.int 1), some (.int 0), some (.int 0), some (.int 0), some (.int 1), none]) (st' := [.int 0, .ref 0]) (hp' := wd σ) rfl ?_
      refine AL_cV hT hK 150 [.int 0] [] (m_X5_citing l0 σ 0 0 f_cit) cw_X5_citing lk_L_28 vi_X5_citing rfl rfl rfl rfl rfl rfl rfl rfl (by show _ ≤ 12; omega) (by show _ ≤ 72; omega) (AL_k1 rfl ?_)
      refine AL_if_eq hT hK 151 (tgt := 291) rfl rfl (fun _ => ?_) (fun c => absurd (by decide) c)
      refine AL_g hT hK 154 1 (pc' := 292) (lo' := [some (.ref 0), some (.ref 36), some (.int 1), some (.int 1), some (.int 1), some (.int 0), some (.int 0), some (.int 0), some (.int 1), none]) (st' := [.int 1]) (hp' := wd σ) rfl ?_
      refine AL_goto hT hK 155 (tgt := 296) rfl rfl ?_
      refine AL_g hT hK 157 2 (pc' := 301) (lo' := [some (.ref 0), some (.ref 36), some (.int 1), some (.int 1), some (.int 1), some (.int 1), some (.int 0), some (.int 0), some (.int 1), none]) (st' := []) (hp' := wd σ) rfl ?_
      refine AL_goto hT hK 159 (tgt := 10) rfl rfl ?_
      refine AL_msk [true, true, true, true, true, true, false, false, false, false] (lo' := [some (.ref 0), some (.ref 36), some (.int 1), some (.int 1), some (.int 1), some (.int 1), none, none, none, none]) rfl ?_
      have lp11 : ∀ (n10 i8 : Nat), i8 + n10 = 12 → 1 ≤ i8 → AL K ((0 + 1 + 11)) ((0 + 1 + 11)) (6 * ((0 + 1 + 11))) 10 [some (.ref 0), some (.ref 36), some (.int 1), some (.int 1), some (.int 1), some (.int (nI i8)), none, none, none, none] [] (wd σ) := by
        intro n10
        induction n10 with
        | zero =>
          intro i8 hi9 hi9s
          refine AL_g hT hK 8 2 (pc' := 14) (lo' := [some (.ref 0), some (.ref 36), some (.int 1), some (.int 1), some (.int 1), some (.int (nI i8)), none, none, none, none]) (st' := [.int 12, .int (nI i8)]) (hp' := wd σ) rfl ?_
          refine AL_icmp_ge hT hK 10 (tgt := 304) rfl rfl (fun _ => ?_) (fun c => absurd (az_c0 hi9) c)
          refine AL_msk [true, true, true, true, true, false, false, false, false, false] (lo' := [some (.ref 0), some (.ref 36), some (.int 1), some (.int 1), some (.int 1), none, none, none, none, none]) rfl ?_
          refine AL_g hT hK 160 1 (pc' := 306) (lo' := [some (.ref 0), some (.ref 36), some (.int 1), some (.int 1), some (.int 1), none, none, none, none, none]) (st' := [.int 1]) (hp' := wd σ) rfl ?_
          refine AL_if_eq hT hK 161 (tgt := 329) rfl rfl (fun c => absurd c (by decide)) (fun _ => ?_)
          refine AL_g hT hK 162 1 (pc' := 310) (lo' := [some (.ref 0), some (.ref 36), some (.int 1), some (.int 1), some (.int 1), none, none, none, none, none]) (st' := [.ref 0]) (hp' := wd σ) rfl ?_
          refine AL_cV hT hK 163 [] [] (m_X5_ways l0 σ) cw_X5_ways lk_L_84 vi_X5_ways rfl rfl rfl rfl rfl rfl rfl rfl (by show _ ≤ 12; omega) (by show _ ≤ 72; omega) (AL_k1 f_w ?_)
          refine AL_g hT hK 164 1 (pc' := 314) (lo' := [some (.ref 0), some (.ref 36), some (.int 1), some (.int 1), some (.int 1), none, none, none, none, none]) (st' := [.int 1, .int 1]) (hp' := wd σ) rfl ?_
          refine AL_icmp_ne hT hK 165 (tgt := 329) rfl rfl (fun c => absurd (by decide) c) (fun _ => ?_)
          refine AL_g hT hK 166 1 (pc' := 318) (lo' := [some (.ref 0), some (.ref 36), some (.int 1), some (.int 1), some (.int 1), none, none, none, none, none]) (st' := [.ref 0]) (hp' := wd σ) rfl ?_
          refine AL_cV hT hK 167 [] [] (m_X5_ways l0 σ) cw_X5_ways lk_L_84 vi_X5_ways rfl rfl rfl rfl rfl rfl rfl rfl (by show _ ≤ 12; omega) (by show _ ≤ 72; omega) (AL_k1 f_w ?_)
          refine AL_g hT hK 168 1 (pc' := 322) (lo' := [some (.ref 0), some (.ref 36), some (.int 1), some (.int 1), some (.int 1), none, none, none, none, none]) (st' := [.int 1, .int 1]) (hp' := wd σ) rfl ?_
          refine AL_icmp_ne hT hK 169 (tgt := 329) rfl rfl (fun c => absurd (by decide) c) (fun _ => ?_)
          refine AL_g hT hK 170 1 (pc' := 326) (lo' := [some (.ref 0), some (.ref 36), some (.int 1), some (.int 1), some (.int 1), none, none, none, none, none]) (st' := [.int 1]) (hp' := wd σ) rfl ?_
          refine AL_goto hT hK 171 (tgt := 330) rfl rfl ?_
          refine AL_cnt (lb' := 12) (cells' := 12) (slots' := 6 * 12) (by omega) (by omega) (by omega) ?_
          exact AL_iret hT hE 173 rfl rfl rfl (Nat.le_of_ble_eq_true rfl) (Nat.le_of_ble_eq_true rfl)
        | succ n10 ih12 =>
          intro i8 hi9 hi9s
          refine AL_g hT hK 8 2 (pc' := 14) (lo' := [some (.ref 0), some (.ref 36), some (.int 1), some (.int 1), some (.int 1), some (.int (nI i8)), none, none, none, none]) (st' := [.int 12, .int (nI i8)]) (hp' := wd σ) rfl ?_
          refine AL_icmp_ge hT hK 10 (tgt := 304) rfl rfl (fun c => absurd c (az_c1 hi9)) (fun _ => ?_)
          refine AL_g hT hK 11 1 (pc' := 19) (lo' := [some (.ref 0), some (.ref 36), some (.int 1), some (.int 1), some (.int 1), some (.int (nI i8)), none, none, none, none]) (st' := [.int 1]) (hp' := wd σ) rfl ?_
          refine AL_if_eq hT hK 12 (tgt := 304) rfl rfl (fun c => absurd c (by decide)) (fun _ => ?_)
          refine AL_g hT hK 13 2 (pc' := 25) (lo' := [some (.ref 0), some (.ref 36), some (.int 1), some (.int 1), some (.int 1), some (.int (nI i8)), none, none, none, none]) (st' := [.int (nI i8), .ref 36]) (hp' := wd σ) rfl ?_
          refine AL_ld hT hK 15 i8 12 (f := σ.2.1 36) (-1) rfl rfl rfl (by omega) (by decide) ((f_r _ (by omega)).trans (if_neg (by omega))) ?_
          refine AL_if_lt hT hK 16 (tgt := 298) rfl rfl (fun _ => ?_) (fun c => absurd (by decide) c)
          refine AL_g hT hK 158 1 (pc' := 301) (lo' := [some (.ref 0), some (.ref 36), some (.int 1), some (.int 1), some (.int 1), some (.int (nI i8 + 1)), none, none, none, none]) (st' := []) (hp' := wd σ) rfl ?_
          refine AL_goto hT hK 159 (tgt := 10) rfl rfl ?_
          refine AL_to (lo' := [some (.ref 0), some (.ref 36), some (.int 1), some (.int 1), some (.int 1), some (.int (nI (i8 + 1))), none, none, none, none]) (by rw [nI_1]) rfl rfl ?_
          refine AL_cnt (lb' := ((0 + 1 + 11))) (cells' := ((0 + 1 + 11))) (slots' := 6 * ((0 + 1 + 11))) (by omega) (by omega) (by omega) ?_
          exact ih12 (i8 + 1) (by omega) (by omega)
      refine AL_cnt (lb' := ((0 + 1 + 11))) (cells' := ((0 + 1 + 11))) (slots' := 6 * ((0 + 1 + 11))) (by omega) (by omega) (by omega) ?_
      exact lp11 11 1 rfl (Nat.le_refl _)
    | succ n4 ih6 =>
      intro i2 hi3 hi3s
      refine AL_g hT hK 23 2 (pc' := 42) (lo' := [some (.ref 0), some (.ref 36), some (.int 0), some (.int 0), some (.int 1), some (.int 0), some (.int 0), some (.int 0), some (.int (nI i2)), none]) (st' := [.int 12, .int (nI i2)]) (hp' := wd σ) rfl ?_
      refine AL_icmp_ge hT hK 25 (tgt := 162) rfl rfl (fun c => absurd c (az_c1 hi3)) (fun _ => ?_)
      refine AL_g hT hK 26 1 (pc' := 47) (lo' := [some (.ref 0), some (.ref 36), some (.int 0), some (.int 0), some (.int 1), some (.int 0), some (.int 0), some (.int 0), some (.int (nI i2)), none]) (st' := [.int 1]) (hp' := wd σ) rfl ?_
      refine AL_if_eq hT hK 27 (tgt := 162) rfl rfl (fun c => absurd c (by decide)) (fun _ => ?_)
      refine AL_g hT hK 28 2 (pc' := 53) (lo' := [some (.ref 0), some (.ref 36), some (.int 0), some (.int 0), some (.int 1), some (.int 0), some (.int 0), some (.int 0), some (.int (nI i2)), none]) (st' := [.int (nI i2), .ref 36]) (hp' := wd σ) rfl ?_
      refine AL_ld hT hK 30 i2 12 (f := σ.2.1 36) (-1) rfl rfl rfl (by omega) (by decide) ((f_r _ (by omega)).trans (if_neg (by omega))) ?_
      refine AL_if_le hT hK 31 (tgt := 74) rfl rfl (fun _ => ?_) (fun c => absurd (by decide) c)
      refine AL_g hT hK 43 5 (pc' := 82) (lo' := [some (.ref 0), some (.ref 36), some (.int 0), some (.int 0), some (.int 1), some (.int 0), some (.int 0), some (.int 0), some (.int (nI i2)), some (.int 0)]) (st' := [.int 0, .ref 36, .int 0]) (hp' := wd σ) rfl ?_
      refine AL_ld hT hK 48 0 12 (f := σ.2.1 36) 0 rfl rfl rfl (by decide) (by decide) (f_r 0 (by decide)) ?_
      refine AL_g hT hK 49 2 (pc' := 86) (lo' := [some (.ref 0), some (.ref 36), some (.int 0), some (.int 0), some (.int 1), some (.int 0), some (.int 0), some (.int 0), some (.int (nI i2)), some (.int 0)]) (st' := [.int (0 >>> (nI i2 &&& 31)), .int 0]) (hp' := wd σ) rfl ?_
      refine AL_to (st' := [.int 0, .int 0]) rfl (by rw [e_shr0]) rfl ?_
      refine AL_g hT hK 51 3 (pc' := 89) (lo' := [some (.ref 0), some (.ref 36), some (.int 0), some (.int 0), some (.int 1), some (.int 0), some (.int 0), some (.int 0), some (.int (nI i2)), some (.int 0)]) (st' := [.int 1, .int 0, .int 0]) (hp' := wd σ) rfl ?_
      refine AL_icmp_ne hT hK 54 (tgt := 103) rfl rfl (fun _ => ?_) (fun c => absurd c (by decide))
      refine AL_g hT hK 60 5 (pc' := 111) (lo' := [some (.ref 0), some (.ref 36), some (.int 0), some (.int 0), some (.int 1), some (.int 0), some (.int 0), some (.int 0), some (.int (nI i2)), some (.int 0)]) (st' := [.int 0, .int 0]) (hp' := wd σ) rfl ?_
      refine AL_if_eq hT hK 65 (tgt := 125) rfl rfl (fun _ => ?_) (fun c => absurd (by decide) c)
      refine AL_g hT hK 71 4 (pc' := 131) (lo' := [some (.ref 0), some (.ref 36), some (.int 0), some (.int 0), some (.int 1), some (.int 0), some (.int 0), some (.int 0), some (.int (nI i2)), some (.int 0)]) (st' := [.int 0]) (hp' := wd σ) rfl ?_
      refine AL_if_ne hT hK 75 (tgt := 149) rfl rfl (fun c => absurd (by decide) c) (fun _ => ?_)
      refine AL_g hT hK 76 4 (pc' := 141) (lo' := [some (.ref 0), some (.ref 36), some (.int 0), some (.int 0), some (.int 1), some (.int 0), some (.int 0), some (.int 0), some (.int (nI i2)), some (.int 0)]) (st' := [.int 0, .int (nI i2), .int 10, .ref 0]) (hp' := wd σ) rfl ?_
      refine AL_cW hT hK hN 80 [.ref 0, .int 10, .int (nI i2), .int 0] [] (l_of_10 l0 hl0 σ (nI i2) 0 (f_c i2 (by omega))) cy_L_of lk_L_96 sm_L_of rfl rfl rfl rfl rfl rfl (by show _ ≤ 12; omega) (by show _ ≤ 72; omega) ?_
      refine AL_ldc hT hK 81 (v := (-2000000004)) rfl (List.mem_of_getElem? (i := 549) (by decide +kernel)) ?_
      refine AL_icmp_ne hT hK 82 (tgt := 153) rfl rfl (fun c => absurd (by decide) c) (fun _ => ?_)
      refine AL_g hT hK 83 1 (pc' := 150) (lo' := [some (.ref 0), some (.ref 36), some (.int 0), some (.int 0), some (.int 1), some (.int 0), some (.int 0), some (.int 0), some (.int (nI i2)), some (.int 0)]) (st' := [.int 1]) (hp' := wd σ) rfl ?_
      refine AL_goto hT hK 84 (tgt := 154) rfl rfl ?_
      refine AL_g hT hK 86 2 (pc' := 159) (lo' := [some (.ref 0), some (.ref 36), some (.int 0), some (.int 0), some (.int 1), some (.int 0), some (.int 0), some (.int 0), some (.int (nI i2 + 1)), some (.int 0)]) (st' := []) (hp' := wd σ) rfl ?_
      refine AL_goto hT hK 88 (tgt := 38) rfl rfl ?_
      refine AL_msk [true, true, true, true, true, true, true, true, true, false] (lo' := [some (.ref 0), some (.ref 36), some (.int 0), some (.int 0), some (.int 1), some (.int 0), some (.int 0), some (.int 0), some (.int (nI i2 + 1)), none]) rfl ?_
      refine AL_to (lo' := [some (.ref 0), some (.ref 36), some (.int 0), some (.int 0), some (.int 1), some (.int 0), some (.int 0), some (.int 0), some (.int (nI (i2 + 1))), none]) (by rw [nI_1]) rfl rfl ?_
      refine AL_cnt (lb' := (0 + 1 + 1 * ((i2 + 1) - 1))) (cells' := (0 + 1 + 1 * ((i2 + 1) - 1))) (slots' := 6 * (0 + 1 + 1 * ((i2 + 1) - 1))) (by omega) (by omega) (by omega) ?_
      exact ih6 (i2 + 1) (by omega) (by omega)
  refine AL_cnt (lb' := (0 + 1 + 1 * (1 - 1))) (cells' := (0 + 1 + 1 * (1 - 1))) (slots' := 6 * (0 + 1 + 1 * (1 - 1))) (by omega) (by omega) (by omega) ?_
  exact lp5 11 1 rfl (Nat.le_refl _)
end AZLT
