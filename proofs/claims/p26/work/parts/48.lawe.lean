/-! the law's methods in the state without papers, by program (gen/ew.py) -/
section AZLE
theorem hl_15 : Cond.classLink RL 15 az_IAE ∈ lw_tbl := (List.mem_of_getElem? (i := 188) (by decide +kernel))
theorem hc_15 : Cond.castable az_IAE az_IAE ∈ lw_tbl := (List.mem_of_getElem? (i := 499) (by decide +kernel))
theorem hl_61 : Cond.classLink RL 61 az_NSE ∈ lw_tbl := (List.mem_of_getElem? (i := 187) (by decide +kernel))
theorem hc_61 : Cond.castable az_NSE az_NSE ∈ lw_tbl := (List.mem_of_getElem? (i := 206) (by decide +kernel))
theorem hl_70 : Cond.classLink RL 70 az_IOB ∈ lw_tbl := (List.mem_of_getElem? (i := 620) (by decide +kernel))
theorem hc_70 : Cond.castable az_IOB az_IOB ∈ lw_tbl := (List.mem_of_getElem? (i := 627) (by decide +kernel))
theorem hi_L : Cond.initialized RL ∈ lw_tbl := (List.mem_of_getElem? (i := 23) (by decide +kernel))
theorem cy_L_come : az_CwE yL_come (.codeWith yL_come cL_come 4 (some .int) [(0, 6, 7, 15), (0, 6, 11, 18)]) 3 := ⟨⟨hi_L, cx_L_come⟩, by decide +kernel, by decide +kernel, by decide +kernel⟩
theorem cy_L_of : az_CwE yL_of (.codeWith yL_of cL_of 5 (some .int) [(0, 173, 174, 61), (0, 173, 179, 15)]) 4 := ⟨⟨hi_L, cx_L_of⟩, by decide +kernel, by decide +kernel, by decide +kernel⟩
theorem cy_L_at : az_CwE yL_at (.codeWith yL_at cL_at 4 (some .int) [(0, 17, 18, 70), (0, 17, 22, 15)]) 3 := ⟨⟨hi_L, cx_L_at⟩, by decide +kernel, by decide +kernel, by decide +kernel⟩
set_option maxRecDepth 100000 in
set_option maxHeartbeats 4000000 in
theorem l_of_0 (l0 : Launch) (hl0 : l0.stackTraces = false) (σ : az_S) (a b : Int32) (hx : x_X5_withdraw σ a = .inl az_NSE) : AME l0 yL_of (.codeWith yL_of cL_of 5 (some .int) [(0, 173, 174, 61), (0, 173, 179, 15)]) ({ frames := 8, cells := 1, slots := 6, locals := 166 } : Room) [.ref 0, .int 0, .int a, .int b] (wd σ) (wd σ) (.int (-2000000004)) 1 := by
  refine AME_ofW (by decide +kernel) (by simp [Value.category]) (Nat.le_of_ble_eq_true rfl) (fun K hK hTab hN hE => ?_)
  have hT := tt_L_of
  refine AL_g hT hK 0 1 (pc' := 1) (lo' := [some (.ref 0), some (.int 0), some (.int a), some (.int b), none]) (st' := [.int 0]) (hp' := wd σ) rfl ?_
  refine AL_if_ne hT hK 1 (tgt := 12) rfl rfl (fun c => absurd (by decide) c) (fun _ => ?_)
  refine AL_g hT hK 2 2 (pc' := 6) (lo' := [some (.ref 0), some (.int 0), some (.int a), some (.int b), none]) (st' := [.int a, .ref 0]) (hp' := wd σ) rfl ?_
  refine AL_AW ?_
  refine AW_callVX hT hK 4 [.int a] [] (mx_X5_withdraw l0 hl0 σ a az_NSE hx) cw_X5_withdraw lk_L_21 vi_X5_withdraw rfl rfl rfl rfl rfl rfl (Nat.le_of_ble_eq_true rfl) (Nat.le_of_ble_eq_true rfl) (fun _ _ hf => hf.elim) (fun E hEE => ?_)
  rw [hEE]
  refine AWX_catch hT hK hTab [] ⟨0, 173, 174, 61⟩ [⟨0, 173, 179, 15⟩] rfl (fun z hz => by cases hz) rfl (by decide) hl_61 hc_61 94 4 (ins := .astore 4) rfl (Or.inr rfl) rfl ?_
  refine AL_cnt (lb' := 1) (cells' := 1) (slots' := 6) rfl rfl rfl ?_
  refine AL_ldc hT hK 95 (v := (-2000000004)) rfl (List.mem_of_getElem? (i := 549) (by decide +kernel)) ?_
  refine AL_cnt (lb' := 1) (cells' := 1) (slots' := 6 * 1) (by omega) (by omega) (by omega) ?_
  exact AL_iret hT hE 96 rfl rfl rfl (Nat.le_of_ble_eq_true rfl) (Nat.le_of_ble_eq_true rfl)
set_option maxRecDepth 100000 in
set_option maxHeartbeats 4000000 in
theorem l_of_1 (l0 : Launch) (hl0 : l0.stackTraces = false) (σ : az_S) (a b : Int32) (hx : x_X5_references σ a = .inl az_NSE) : AME l0 yL_of (.codeWith yL_of cL_of 5 (some .int) [(0, 173, 174, 61), (0, 173, 179, 15)]) ({ frames := 8, cells := 1, slots := 6, locals := 166 } : Room) [.ref 0, .int 1, .int a, .int b] (wd σ) (wd σ) (.int (-2000000004)) 1 := by
  refine AME_ofW (by decide +kernel) (by simp [Value.category]) (Nat.le_of_ble_eq_true rfl) (fun K hK hTab hN hE => ?_)
  have hT := tt_L_of
  refine AL_g hT hK 0 1 (pc' := 1) (lo' := [some (.ref 0), some (.int 1), some (.int a), some (.int b), none]) (st' := [.int 1]) (hp' := wd σ) rfl ?_
  refine AL_if_ne hT hK 1 (tgt := 12) rfl rfl (fun _ => ?_) (fun c => absurd c (by decide))
  refine AL_g hT hK 6 2 (pc' := 14) (lo' := [some (.ref 0), some (.int 1), some (.int a), some (.int b), none]) (st' := [.int 1, .int 1]) (hp' := wd σ) rfl ?_
  refine AL_icmp_ne hT hK 8 (tgt := 25) rfl rfl (fun c => absurd (by decide) c) (fun _ => ?_)
  refine AL_g hT hK 9 2 (pc' := 19) (lo' := [some (.ref 0), some (.int 1), some (.int a), some (.int b), none]) (st' := [.int a, .ref 0]) (hp' := wd σ) rfl ?_
  refine AL_AW ?_
  refine AW_callVX hT hK 11 [.int a] [] (mx_X5_references l0 hl0 σ a az_NSE hx) cw_X5_references lk_L_25 vi_X5_references rfl rfl rfl rfl rfl rfl (Nat.le_of_ble_eq_true rfl) (Nat.le_of_ble_eq_true rfl) (fun _ _ hf => hf.elim) (fun E hEE => ?_)
  rw [hEE]
  refine AWX_catch hT hK hTab [] ⟨0, 173, 174, 61⟩ [⟨0, 173, 179, 15⟩] rfl (fun z hz => by cases hz) rfl (by decide) hl_61 hc_61 94 4 (ins := .astore 4) rfl (Or.inr rfl) rfl ?_
  refine AL_cnt (lb' := 1) (cells' := 1) (slots' := 6) rfl rfl rfl ?_
  refine AL_ldc hT hK 95 (v := (-2000000004)) rfl (List.mem_of_getElem? (i := 549) (by decide +kernel)) ?_
  refine AL_cnt (lb' := 1) (cells' := 1) (slots' := 6 * 1) (by omega) (by omega) (by omega) ?_
  exact AL_iret hT hE 96 rfl rfl rfl (Nat.le_of_ble_eq_true rfl) (Nat.le_of_ble_eq_true rfl)
set_option maxRecDepth 100000 in
set_option maxHeartbeats 4000000 in
theorem l_of_2 (l0 : Launch) (hl0 : l0.stackTraces = false) (σ : az_S) (a b : Int32) (hx : x_X5_citing σ a = .inl az_NSE) : AME l0 yL_of (.codeWith yL_of cL_of 5 (some .int) [(0, 173, 174, 61), (0, 173, 179, 15)]) ({ frames := 8, cells := 1, slots := 6, locals := 166 } : Room) [.ref 0, .int 2, .int a, .int b] (wd σ) (wd σ) (.int (-2000000004)) 1 := by
  refine AME_ofW (by decide +kernel) (by simp [Value.category]) (Nat.le_of_ble_eq_true rfl) (fun K hK hTab hN hE => ?_)
  have hT := tt_L_of
  refine AL_g hT hK 0 1 (pc' := 1) (lo' := [some (.ref 0), some (.int 2), some (.int a), some (.int b), none]) (st' := [.int 2]) (hp' := wd σ) rfl ?_
  refine AL_if_ne hT hK 1 (tgt := 12) rfl rfl (fun _ => ?_) (fun c => absurd c (by decide))
  refine AL_g hT hK 6 2 (pc' := 14) (lo' := [some (.ref 0), some (.int 2), some (.int a), some (.int b), none]) (st' := [.int 1, .int 2]) (hp' := wd σ) rfl ?_
  refine AL_icmp_ne hT hK 8 (tgt := 25) rfl rfl (fun _ => ?_) (fun c => absurd c (by decide))
  refine AL_g hT hK 13 2 (pc' := 27) (lo' := [some (.ref 0), some (.int 2), some (.int a), some (.int b), none]) (st' := [.int 2, .int 2]) (hp' := wd σ) rfl ?_
  refine AL_icmp_ne hT hK 15 (tgt := 38) rfl rfl (fun c => absurd (by decide) c) (fun _ => ?_)
  refine AL_g hT hK 16 2 (pc' := 32) (lo' := [some (.ref 0), some (.int 2), some (.int a), some (.int b), none]) (st' := [.int a, .ref 0]) (hp' := wd σ) rfl ?_
  refine AL_AW ?_
  refine AW_callVX hT hK 18 [.int a] [] (mx_X5_citing l0 hl0 σ a az_NSE hx) cw_X5_citing lk_L_28 vi_X5_citing rfl rfl rfl rfl rfl rfl (Nat.le_of_ble_eq_true rfl) (Nat.le_of_ble_eq_true rfl) (fun _ _ hf => hf.elim) (fun E hEE => ?_)
  rw [hEE]
  refine AWX_catch hT hK hTab [] ⟨0, 173, 174, 61⟩ [⟨0, 173, 179, 15⟩] rfl (fun z hz => by cases hz) rfl (by decide) hl_61 hc_61 94 4 (ins := .astore 4) rfl (Or.inr rfl) rfl ?_
  refine AL_cnt (lb' := 1) (cells' := 1) (slots' := 6) rfl rfl rfl ?_
  refine AL_ldc hT hK 95 (v := (-2000000004)) rfl (List.mem_of_getElem? (i := 549) (by decide +kernel)) ?_
  refine AL_cnt (lb' := 1) (cells' := 1) (slots' := 6 * 1) (by omega) (by omega) (by omega) ?_
  exact AL_iret hT hE 96 rfl rfl rfl (Nat.le_of_ble_eq_true rfl) (Nat.le_of_ble_eq_true rfl)
set_option maxRecDepth 100000 in
set_option maxHeartbeats 4000000 in
theorem l_of_3 (l0 : Launch) (hl0 : l0.stackTraces = false) (σ : az_S) (a b : Int32) (hx : x_X5_shared σ a b = .inl az_NSE) : AME l0 yL_of (.codeWith yL_of cL_of 5 (some .int) [(0, 173, 174, 61), (0, 173, 179, 15)]) ({ frames := 8, cells := 1, slots := 6, locals := 166 } : Room) [.ref 0, .int 3, .int a, .int b] (wd σ) (wd σ) (.int (-2000000004)) 1 := by
  refine AME_ofW (by decide +kernel) (by simp [Value.category]) (Nat.le_of_ble_eq_true rfl) (fun K hK hTab hN hE => ?_)
  have hT := tt_L_of
  refine AL_g hT hK 0 1 (pc' := 1) (lo' := [some (.ref 0), some (.int 3), some (.int a), some (.int b), none]) (st' := [.int 3]) (hp' := wd σ) rfl ?_
  refine AL_if_ne hT hK 1 (tgt := 12) rfl rfl (fun _ => ?_) (fun c => absurd c (by decide))
  refine AL_g hT hK 6 2 (pc' := 14) (lo' := [some (.ref 0), some (.int 3), some (.int a), some (.int b), none]) (st' := [.int 1, .int 3]) (hp' := wd σ) rfl ?_
  refine AL_icmp_ne hT hK 8 (tgt := 25) rfl rfl (fun _ => ?_) (fun c => absurd c (by decide))
  refine AL_g hT hK 13 2 (pc' := 27) (lo' := [some (.ref 0), some (.int 3), some (.int a), some (.int b), none]) (st' := [.int 2, .int 3]) (hp' := wd σ) rfl ?_
  refine AL_icmp_ne hT hK 15 (tgt := 38) rfl rfl (fun _ => ?_) (fun c => absurd c (by decide))
  refine AL_g hT hK 20 2 (pc' := 40) (lo' := [some (.ref 0), some (.int 3), some (.int a), some (.int b), none]) (st' := [.int 3, .int 3]) (hp' := wd σ) rfl ?_
  refine AL_icmp_ne hT hK 22 (tgt := 52) rfl rfl (fun c => absurd (by decide) c) (fun _ => ?_)
  refine AL_g hT hK 23 3 (pc' := 46) (lo' := [some (.ref 0), some (.int 3), some (.int a), some (.int b), none]) (st' := [.int b, .int a, .ref 0]) (hp' := wd σ) rfl ?_
  refine AL_AW ?_
  refine AW_callVX hT hK 26 [.int a, .int b] [] (mx_X5_shared l0 hl0 σ a b az_NSE hx) cw_X5_shared lk_L_31 vi_X5_shared rfl rfl rfl rfl rfl rfl (Nat.le_of_ble_eq_true rfl) (Nat.le_of_ble_eq_true rfl) (fun _ _ hf => hf.elim) (fun E hEE => ?_)
  rw [hEE]
  refine AWX_catch hT hK hTab [] ⟨0, 173, 174, 61⟩ [⟨0, 173, 179, 15⟩] rfl (fun z hz => by cases hz) rfl (by decide) hl_61 hc_61 94 4 (ins := .astore 4) rfl (Or.inr rfl) rfl ?_
  refine AL_cnt (lb' := 1) (cells' := 1) (slots' := 6) rfl rfl rfl ?_
  refine AL_ldc hT hK 95 (v := (-2000000004)) rfl (List.mem_of_getElem? (i := 549) (by decide +kernel)) ?_
  refine AL_cnt (lb' := 1) (cells' := 1) (slots' := 6 * 1) (by omega) (by omega) (by omega) ?_
  exact AL_iret hT hE 96 rfl rfl rfl (Nat.le_of_ble_eq_true rfl) (Nat.le_of_ble_eq_true rfl)
set_option maxRecDepth 100000 in
set_option maxHeartbeats 4000000 in
theorem l_of_4 (l0 : Launch) (hl0 : l0.stackTraces = false) (σ : az_S) (a b : Int32) (hx : x_X5_joint σ a b = .inl az_NSE) : AME l0 yL_of (.codeWith yL_of cL_of 5 (some .int) [(0, 173, 174, 61), (0, 173, 179, 15)]) ({ frames := 8, cells := 1, slots := 6, locals := 166 } : Room) [.ref 0, .int 4, .int a, .int b] (wd σ) (wd σ) (.int (-2000000004)) 1 := by
  refine AME_ofW (by decide +kernel) (by simp [Value.category]) (Nat.le_of_ble_eq_true rfl) (fun K hK hTab hN hE => ?_)
  have hT := tt_L_of
  refine AL_g hT hK 0 1 (pc' := 1) (lo' := [some (.ref 0), some (.int 4), some (.int a), some (.int b), none]) (st' := [.int 4]) (hp' := wd σ) rfl ?_
  refine AL_if_ne hT hK 1 (tgt := 12) rfl rfl (fun _ => ?_) (fun c => absurd c (by decide))
  refine AL_g hT hK 6 2 (pc' := 14) (lo' := [some (.ref 0), some (.int 4), some (.int a), some (.int b), none]) (st' := [.int 1, .int 4]) (hp' := wd σ) rfl ?_
  refine AL_icmp_ne hT hK 8 (tgt := 25) rfl rfl (fun _ => ?_) (fun c => absurd c (by decide))
  refine AL_g hT hK 13 2 (pc' := 27) (lo' := [some (.ref 0), some (.int 4), some (.int a), some (.int b), none]) (st' := [.int 2, .int 4]) (hp' := wd σ) rfl ?_
  refine AL_icmp_ne hT hK 15 (tgt := 38) rfl rfl (fun _ => ?_) (fun c => absurd c (by decide))
  refine AL_g hT hK 20 2 (pc' := 40) (lo' := [some (.ref 0), some (.int 4), some (.int a), some (.int b), none]) (st' := [.int 3, .int 4]) (hp' := wd σ) rfl ?_
  refine AL_icmp_ne hT hK 22 (tgt := 52) rfl rfl (fun _ => ?_) (fun c => absurd c (by decide))
  refine AL_g hT hK 28 2 (pc' := 54) (lo' := [some (.ref 0), some (.int 4), some (.int a), some (.int b), none]) (st' := [.int 4, .int 4]) (hp' := wd σ) rfl ?_
  refine AL_icmp_ne hT hK 30 (tgt := 66) rfl rfl (fun c => absurd (by decide) c) (fun _ => ?_)
  refine AL_g hT hK 31 3 (pc' := 60) (lo' := [some (.ref 0), some (.int 4), some (.int a), some (.int b), none]) (st' := [.int b, .int a, .ref 0]) (hp' := wd σ) rfl ?_
  refine AL_AW ?_
  refine AW_callVX hT hK 34 [.int a, .int b] [] (mx_X5_joint l0 hl0 σ a b az_NSE hx) cw_X5_joint lk_L_34 vi_X5_joint rfl rfl rfl rfl rfl rfl (Nat.le_of_ble_eq_true rfl) (Nat.le_of_ble_eq_true rfl) (fun _ _ hf => hf.elim) (fun E hEE => ?_)
  rw [hEE]
  refine AWX_catch hT hK hTab [] ⟨0, 173, 174, 61⟩ [⟨0, 173, 179, 15⟩] rfl (fun z hz => by cases hz) rfl (by decide) hl_61 hc_61 94 4 (ins := .astore 4) rfl (Or.inr rfl) rfl ?_
  refine AL_cnt (lb' := 1) (cells' := 1) (slots' := 6) rfl rfl rfl ?_
  refine AL_ldc hT hK 95 (v := (-2000000004)) rfl (List.mem_of_getElem? (i := 549) (by decide +kernel)) ?_
  refine AL_cnt (lb' := 1) (cells' := 1) (slots' := 6 * 1) (by omega) (by omega) (by omega) ?_
  exact AL_iret hT hE 96 rfl rfl rfl (Nat.le_of_ble_eq_true rfl) (Nat.le_of_ble_eq_true rfl)
set_option maxRecDepth 100000 in
set_option maxHeartbeats 4000000 in
theorem l_of_5 (l0 : Launch) (hl0 : l0.stackTraces = false) (σ : az_S) (a b : Int32) (hx : x_X5_likenessNumerator σ a b = .inl az_NSE) : AME l0 yL_of (.codeWith yL_of cL_of 5 (some .int) [(0, 173, 174, 61), (0, 173, 179, 15)]) ({ frames := 8, cells := 1, slots := 6, locals := 166 } : Room) [.ref 0, .int 5, .int a, .int b] (wd σ) (wd σ) (.int (-2000000004)) 1 := by
  refine AME_ofW (by decide +kernel) (by simp [Value.category]) (Nat.le_of_ble_eq_true rfl) (fun K hK hTab hN hE => ?_)
  have hT := tt_L_of
  refine AL_g hT hK 0 1 (pc' := 1) (lo' := [some (.ref 0), some (.int 5), some (.int a), some (.int b), none]) (st' := [.int 5]) (hp' := wd σ) rfl ?_
  refine AL_if_ne hT hK 1 (tgt := 12) rfl rfl (fun _ => ?_) (fun c => absurd c (by decide))
  refine AL_g hT hK 6 2 (pc' := 14) (lo' := [some (.ref 0), some (.int 5), some (.int a), some (.int b), none]) (st' := [.int 1, .int 5]) (hp' := wd σ) rfl ?_
  refine AL_icmp_ne hT hK 8 (tgt := 25) rfl rfl (fun _ => ?_) (fun c => absurd c (by decide))
  refine AL_g hT hK 13 2 (pc' := 27) (lo' := [some (.ref 0), some (.int 5), some (.int a), some (.int b), none]) (st' := [.int 2, .int 5]) (hp' := wd σ) rfl ?_
  refine AL_icmp_ne hT hK 15 (tgt := 38) rfl rfl (fun _ => ?_) (fun c => absurd c (by decide))
  refine AL_g hT hK 20 2 (pc' := 40) (lo' := [some (.ref 0), some (.int 5), some (.int a), some (.int b), none]) (st' := [.int 3, .int 5]) (hp' := wd σ) rfl ?_
  refine AL_icmp_ne hT hK 22 (tgt := 52) rfl rfl (fun _ => ?_) (fun c => absurd c (by decide))
  refine AL_g hT hK 28 2 (pc' := 54) (lo' := [some (.ref 0), some (.int 5), some (.int a), some (.int b), none]) (st' := [.int 4, .int 5]) (hp' := wd σ) rfl ?_
  refine AL_icmp_ne hT hK 30 (tgt := 66) rfl rfl (fun _ => ?_) (fun c => absurd c (by decide))
  refine AL_g hT hK 36 2 (pc' := 68) (lo' := [some (.ref 0), some (.int 5), some (.int a), some (.int b), none]) (st' := [.int 5, .int 5]) (hp' := wd σ) rfl ?_
  refine AL_icmp_ne hT hK 38 (tgt := 80) rfl rfl (fun c => absurd (by decide) c) (fun _ => ?_)
  refine AL_g hT hK 39 3 (pc' := 74) (lo' := [some (.ref 0), some (.int 5), some (.int a), some (.int b), none]) (st' := [.int b, .int a, .ref 0]) (hp' := wd σ) rfl ?_
  refine AL_AW ?_
  refine AW_callVX hT hK 42 [.int a, .int b] [] (mx_X5_likenessNumerator l0 hl0 σ a b az_NSE hx) cw_X5_likenessNumerator lk_L_37 vi_X5_likenessNumerator rfl rfl rfl rfl rfl rfl (Nat.le_of_ble_eq_true rfl) (Nat.le_of_ble_eq_true rfl) (fun _ _ hf => hf.elim) (fun E hEE => ?_)
  rw [hEE]
  refine AWX_catch hT hK hTab [] ⟨0, 173, 174, 61⟩ [⟨0, 173, 179, 15⟩] rfl (fun z hz => by cases hz) rfl (by decide) hl_61 hc_61 94 4 (ins := .astore 4) rfl (Or.inr rfl) rfl ?_
  refine AL_cnt (lb' := 1) (cells' := 1) (slots' := 6) rfl rfl rfl ?_
  refine AL_ldc hT hK 95 (v := (-2000000004)) rfl (List.mem_of_getElem? (i := 549) (by decide +kernel)) ?_
  refine AL_cnt (lb' := 1) (cells' := 1) (slots' := 6 * 1) (by omega) (by omega) (by omega) ?_
  exact AL_iret hT hE 96 rfl rfl rfl (Nat.le_of_ble_eq_true rfl) (Nat.le_of_ble_eq_true rfl)
set_option maxRecDepth 100000 in
set_option maxHeartbeats 4000000 in
theorem l_of_6 (l0 : Launch) (hl0 : l0.stackTraces = false) (σ : az_S) (a b : Int32) (hx : x_X5_likenessDenominator σ a b = .inl az_NSE) : AME l0 yL_of (.codeWith yL_of cL_of 5 (some .int) [(0, 173, 174, 61), (0, 173, 179, 15)]) ({ frames := 8, cells := 1, slots := 6, locals := 166 } : Room) [.ref 0, .int 6, .int a, .int b] (wd σ) (wd σ) (.int (-2000000004)) 1 := by
  refine AME_ofW (by decide +kernel) (by simp [Value.category]) (Nat.le_of_ble_eq_true rfl) (fun K hK hTab hN hE => ?_)
  have hT := tt_L_of
  refine AL_g hT hK 0 1 (pc' := 1) (lo' := [some (.ref 0), some (.int 6), some (.int a), some (.int b), none]) (st' := [.int 6]) (hp' := wd σ) rfl ?_
  refine AL_if_ne hT hK 1 (tgt := 12) rfl rfl (fun _ => ?_) (fun c => absurd c (by decide))
  refine AL_g hT hK 6 2 (pc' := 14) (lo' := [some (.ref 0), some (.int 6), some (.int a), some (.int b), none]) (st' := [.int 1, .int 6]) (hp' := wd σ) rfl ?_
  refine AL_icmp_ne hT hK 8 (tgt := 25) rfl rfl (fun _ => ?_) (fun c => absurd c (by decide))
  refine AL_g hT hK 13 2 (pc' := 27) (lo' := [some (.ref 0), some (.int 6), some (.int a), some (.int b), none]) (st' := [.int 2, .int 6]) (hp' := wd σ) rfl ?_
  refine AL_icmp_ne hT hK 15 (tgt := 38) rfl rfl (fun _ => ?_) (fun c => absurd c (by decide))
  refine AL_g hT hK 20 2 (pc' := 40) (lo' := [some (.ref 0), some (.int 6), some (.int a), some (.int b), none]) (st' := [.int 3, .int 6]) (hp' := wd σ) rfl ?_
  refine AL_icmp_ne hT hK 22 (tgt := 52) rfl rfl (fun _ => ?_) (fun c => absurd c (by decide))
  refine AL_g hT hK 28 2 (pc' := 54) (lo' := [some (.ref 0), some (.int 6), some (.int a), some (.int b), none]) (st' := [.int 4, .int 6]) (hp' := wd σ) rfl ?_
  refine AL_icmp_ne hT hK 30 (tgt := 66) rfl rfl (fun _ => ?_) (fun c => absurd c (by decide))
  refine AL_g hT hK 36 2 (pc' := 68) (lo' := [some (.ref 0), some (.int 6), some (.int a), some (.int b), none]) (st' := [.int 5, .int 6]) (hp' := wd σ) rfl ?_
  refine AL_icmp_ne hT hK 38 (tgt := 80) rfl rfl (fun _ => ?_) (fun c => absurd c (by decide))
  refine AL_g hT hK 44 2 (pc' := 83) (lo' := [some (.ref 0), some (.int 6), some (.int a), some (.int b), none]) (st' := [.int 6, .int 6]) (hp' := wd σ) rfl ?_
  refine AL_icmp_ne hT hK 46 (tgt := 95) rfl rfl (fun c => absurd (by decide) c) (fun _ => ?_)
  refine AL_g hT hK 47 3 (pc' := 89) (lo' := [some (.ref 0), some (.int 6), some (.int a), some (.int b), none]) (st' := [.int b, .int a, .ref 0]) (hp' := wd σ) rfl ?_
  refine AL_AW ?_
  refine AW_callVX hT hK 50 [.int a, .int b] [] (mx_X5_likenessDenominator l0 hl0 σ a b az_NSE hx) cw_X5_likenessDenominator lk_L_40 vi_X5_likenessDenominator rfl rfl rfl rfl rfl rfl (Nat.le_of_ble_eq_true rfl) (Nat.le_of_ble_eq_true rfl) (fun _ _ hf => hf.elim) (fun E hEE => ?_)
  rw [hEE]
  refine AWX_catch hT hK hTab [] ⟨0, 173, 174, 61⟩ [⟨0, 173, 179, 15⟩] rfl (fun z hz => by cases hz) rfl (by decide) hl_61 hc_61 94 4 (ins := .astore 4) rfl (Or.inr rfl) rfl ?_
  refine AL_cnt (lb' := 1) (cells' := 1) (slots' := 6) rfl rfl rfl ?_
  refine AL_ldc hT hK 95 (v := (-2000000004)) rfl (List.mem_of_getElem? (i := 549) (by decide +kernel)) ?_
  refine AL_cnt (lb' := 1) (cells' := 1) (slots' := 6 * 1) (by omega) (by omega) (by omega) ?_
  exact AL_iret hT hE 96 rfl rfl rfl (Nat.le_of_ble_eq_true rfl) (Nat.le_of_ble_eq_true rfl)
set_option maxRecDepth 100000 in
set_option maxHeartbeats 4000000 in
theorem l_of_7 (l0 : Launch) (hl0 : l0.stackTraces = false) (σ : az_S) (a b : Int32) (hx : x_X5_fieldOf σ a = .inl az_NSE) : AME l0 yL_of (.codeWith yL_of cL_of 5 (some .int) [(0, 173, 174, 61), (0, 173, 179, 15)]) ({ frames := 8, cells := 1, slots := 6, locals := 166 } : Room) [.ref 0, .int 7, .int a, .int b] (wd σ) (wd σ) (.int (-2000000004)) 1 := by
  refine AME_ofW (by decide +kernel) (by simp [Value.category]) (Nat.le_of_ble_eq_true rfl) (fun K hK hTab hN hE => ?_)
  have hT := tt_L_of
  refine AL_g hT hK 0 1 (pc' := 1) (lo' := [some (.ref 0), some (.int 7), some (.int a), some (.int b), none]) (st' := [.int 7]) (hp' := wd σ) rfl ?_
  refine AL_if_ne hT hK 1 (tgt := 12) rfl rfl (fun _ => ?_) (fun c => absurd c (by decide))
  refine AL_g hT hK 6 2 (pc' := 14) (lo' := [some (.ref 0), some (.int 7), some (.int a), some (.int b), none]) (st' := [.int 1, .int 7]) (hp' := wd σ) rfl ?_
  refine AL_icmp_ne hT hK 8 (tgt := 25) rfl rfl (fun _ => ?_) (fun c => absurd c (by decide))
  refine AL_g hT hK 13 2 (pc' := 27) (lo' := [some (.ref 0), some (.int 7), some (.int a), some (.int b), none]) (st' := [.int 2, .int 7]) (hp' := wd σ) rfl ?_
  refine AL_icmp_ne hT hK 15 (tgt := 38) rfl rfl (fun _ => ?_) (fun c => absurd c (by decide))
  refine AL_g hT hK 20 2 (pc' := 40) (lo' := [some (.ref 0), some (.int 7), some (.int a), some (.int b), none]) (st' := [.int 3, .int 7]) (hp' := wd σ) rfl ?_
  refine AL_icmp_ne hT hK 22 (tgt := 52) rfl rfl (fun _ => ?_) (fun c => absurd c (by decide))
  refine AL_g hT hK 28 2 (pc' := 54) (lo' := [some (.ref 0), some (.int 7), some (.int a), some (.int b), none]) (st' := [.int 4, .int 7]) (hp' := wd σ) rfl ?_
  refine AL_icmp_ne hT hK 30 (tgt := 66) rfl rfl (fun _ => ?_) (fun c => absurd c (by decide))
  refine AL_g hT hK 36 2 (pc' := 68) (lo' := [some (.ref 0), some (.int 7), some (.int a), some (.int b), none]) (st' := [.int 5, .int 7]) (hp' := wd σ) rfl ?_
  refine AL_icmp_ne hT hK 38 (tgt := 80) rfl rfl (fun _ => ?_) (fun c => absurd c (by decide))
  refine AL_g hT hK 44 2 (pc' := 83) (lo' := [some (.ref 0), some (.int 7), some (.int a), some (.int b), none]) (st' := [.int 6, .int 7]) (hp' := wd σ) rfl ?_
  refine AL_icmp_ne hT hK 46 (tgt := 95) rfl rfl (fun _ => ?_) (fun c => absurd c (by decide))
  refine AL_g hT hK 52 2 (pc' := 98) (lo' := [some (.ref 0), some (.int 7), some (.int a), some (.int b), none]) (st' := [.int 7, .int 7]) (hp' := wd σ) rfl ?_
  refine AL_icmp_ne hT hK 54 (tgt := 109) rfl rfl (fun c => absurd (by decide) c) (fun _ => ?_)
  refine AL_g hT hK 55 2 (pc' := 103) (lo' := [some (.ref 0), some (.int 7), some (.int a), some (.int b), none]) (st' := [.int a, .ref 0]) (hp' := wd σ) rfl ?_
  refine AL_AW ?_
  refine AW_callVX hT hK 57 [.int a] [] (mx_X5_fieldOf l0 hl0 σ a az_NSE hx) cw_X5_fieldOf lk_L_43 vi_X5_fieldOf rfl rfl rfl rfl rfl rfl (Nat.le_of_ble_eq_true rfl) (Nat.le_of_ble_eq_true rfl) (fun _ _ hf => hf.elim) (fun E hEE => ?_)
  rw [hEE]
  refine AWX_catch hT hK hTab [] ⟨0, 173, 174, 61⟩ [⟨0, 173, 179, 15⟩] rfl (fun z hz => by cases hz) rfl (by decide) hl_61 hc_61 94 4 (ins := .astore 4) rfl (Or.inr rfl) rfl ?_
  refine AL_cnt (lb' := 1) (cells' := 1) (slots' := 6) rfl rfl rfl ?_
  refine AL_ldc hT hK 95 (v := (-2000000004)) rfl (List.mem_of_getElem? (i := 549) (by decide +kernel)) ?_
  refine AL_cnt (lb' := 1) (cells' := 1) (slots' := 6 * 1) (by omega) (by omega) (by omega) ?_
  exact AL_iret hT hE 96 rfl rfl rfl (Nat.le_of_ble_eq_true rfl) (Nat.le_of_ble_eq_true rfl)
set_option maxRecDepth 100000 in
set_option maxHeartbeats 4000000 in
theorem l_of_8 (l0 : Launch) (hl0 : l0.stackTraces = false) (σ : az_S) (a b : Int32) (hx : x_X5_gain σ a b = .inl az_NSE) : AME l0 yL_of (.codeWith yL_of cL_of 5 (some .int) [(0, 173, 174, 61), (0, 173, 179, 15)]) ({ frames := 8, cells := 1, slots := 6, locals := 166 } : Room) [.ref 0, .int 8, .int a, .int b] (wd σ) (wd σ) (.int (-2000000004)) 1 := by
  refine AME_ofW (by decide +kernel) (by simp [Value.category]) (Nat.le_of_ble_eq_true rfl) (fun K hK hTab hN hE => ?_)
  have hT := tt_L_of
  refine AL_g hT hK 0 1 (pc' := 1) (lo' := [some (.ref 0), some (.int 8), some (.int a), some (.int b), none]) (st' := [.int 8]) (hp' := wd σ) rfl ?_
  refine AL_if_ne hT hK 1 (tgt := 12) rfl rfl (fun _ => ?_) (fun c => absurd c (by decide))
  refine AL_g hT hK 6 2 (pc' := 14) (lo' := [some (.ref 0), some (.int 8), some (.int a), some (.int b), none]) (st' := [.int 1, .int 8]) (hp' := wd σ) rfl ?_
  refine AL_icmp_ne hT hK 8 (tgt := 25) rfl rfl (fun _ => ?_) (fun c => absurd c (by decide))
  refine AL_g hT hK 13 2 (pc' := 27) (lo' := [some (.ref 0), some (.int 8), some (.int a), some (.int b), none]) (st' := [.int 2, .int 8]) (hp' := wd σ) rfl ?_
  refine AL_icmp_ne hT hK 15 (tgt := 38) rfl rfl (fun _ => ?_) (fun c => absurd c (by decide))
  refine AL_g hT hK 20 2 (pc' := 40) (lo' := [some (.ref 0), some (.int 8), some (.int a), some (.int b), none]) (st' := [.int 3, .int 8]) (hp' := wd σ) rfl ?_
  refine AL_icmp_ne hT hK 22 (tgt := 52) rfl rfl (fun _ => ?_) (fun c => absurd c (by decide))
  refine AL_g hT hK 28 2 (pc' := 54) (lo' := [some (.ref 0), some (.int 8), some (.int a), some (.int b), none]) (st' := [.int 4, .int 8]) (hp' := wd σ) rfl ?_
  refine AL_icmp_ne hT hK 30 (tgt := 66) rfl rfl (fun _ => ?_) (fun c => absurd c (by decide))
  refine AL_g hT hK 36 2 (pc' := 68) (lo' := [some (.ref 0), some (.int 8), some (.int a), some (.int b), none]) (st' := [.int 5, .int 8]) (hp' := wd σ) rfl ?_
  refine AL_icmp_ne hT hK 38 (tgt := 80) rfl rfl (fun _ => ?_) (fun c => absurd c (by decide))
  refine AL_g hT hK 44 2 (pc' := 83) (lo' := [some (.ref 0), some (.int 8), some (.int a), some (.int b), none]) (st' := [.int 6, .int 8]) (hp' := wd σ) rfl ?_
  refine AL_icmp_ne hT hK 46 (tgt := 95) rfl rfl (fun _ => ?_) (fun c => absurd c (by decide))
  refine AL_g hT hK 52 2 (pc' := 98) (lo' := [some (.ref 0), some (.int 8), some (.int a), some (.int b), none]) (st' := [.int 7, .int 8]) (hp' := wd σ) rfl ?_
  refine AL_icmp_ne hT hK 54 (tgt := 109) rfl rfl (fun _ => ?_) (fun c => absurd c (by decide))
  refine AL_g hT hK 59 2 (pc' := 112) (lo' := [some (.ref 0), some (.int 8), some (.int a), some (.int b), none]) (st' := [.int 8, .int 8]) (hp' := wd σ) rfl ?_
  refine AL_icmp_ne hT hK 61 (tgt := 124) rfl rfl (fun c => absurd (by decide) c) (fun _ => ?_)
  refine AL_g hT hK 62 3 (pc' := 118) (lo' := [some (.ref 0), some (.int 8), some (.int a), some (.int b), none]) (st' := [.int b, .int a, .ref 0]) (hp' := wd σ) rfl ?_
  refine AL_AW ?_
  refine AW_callVX hT hK 65 [.int a, .int b] [] (mx_X5_gain l0 hl0 σ a b az_NSE hx) cw_X5_gain lk_L_46 vi_X5_gain rfl rfl rfl rfl rfl rfl (Nat.le_of_ble_eq_true rfl) (Nat.le_of_ble_eq_true rfl) (fun _ _ hf => hf.elim) (fun E hEE => ?_)
  rw [hEE]
  refine AWX_catch hT hK hTab [] ⟨0, 173, 174, 61⟩ [⟨0, 173, 179, 15⟩] rfl (fun z hz => by cases hz) rfl (by decide) hl_61 hc_61 94 4 (ins := .astore 4) rfl (Or.inr rfl) rfl ?_
  refine AL_cnt (lb' := 1) (cells' := 1) (slots' := 6) rfl rfl rfl ?_
  refine AL_ldc hT hK 95 (v := (-2000000004)) rfl (List.mem_of_getElem? (i := 549) (by decide +kernel)) ?_
  refine AL_cnt (lb' := 1) (cells' := 1) (slots' := 6 * 1) (by omega) (by omega) (by omega) ?_
  exact AL_iret hT hE 96 rfl rfl rfl (Nat.le_of_ble_eq_true rfl) (Nat.le_of_ble_eq_true rfl)
set_option maxRecDepth 100000 in
set_option maxHeartbeats 4000000 in
theorem l_of_9 (l0 : Launch) (hl0 : l0.stackTraces = false) (σ : az_S) (a b : Int32) (hx : x_X5_split σ a = .inl az_NSE) : AME l0 yL_of (.codeWith yL_of cL_of 5 (some .int) [(0, 173, 174, 61), (0, 173, 179, 15)]) ({ frames := 8, cells := 1, slots := 6, locals := 166 } : Room) [.ref 0, .int 9, .int a, .int b] (wd σ) (wd σ) (.int (-2000000004)) 1 := by
  refine AME_ofW (by decide +kernel) (by simp [Value.category]) (Nat.le_of_ble_eq_true rfl) (fun K hK hTab hN hE => ?_)
  have hT := tt_L_of
  refine AL_g hT hK 0 1 (pc' := 1) (lo' := [some (.ref 0), some (.int 9), some (.int a), some (.int b), none]) (st' := [.int 9]) (hp' := wd σ) rfl ?_
  refine AL_if_ne hT hK 1 (tgt := 12) rfl rfl (fun _ => ?_) (fun c => absurd c (by decide))
  refine AL_g hT hK 6 2 (pc' := 14) (lo' := [some (.ref 0), some (.int 9), some (.int a), some (.int b), none]) (st' := [.int 1, .int 9]) (hp' := wd σ) rfl ?_
  refine AL_icmp_ne hT hK 8 (tgt := 25) rfl rfl (fun _ => ?_) (fun c => absurd c (by decide))
  refine AL_g hT hK 13 2 (pc' := 27) (lo' := [some (.ref 0), some (.int 9), some (.int a), some (.int b), none]) (st' := [.int 2, .int 9]) (hp' := wd σ) rfl ?_
  refine AL_icmp_ne hT hK 15 (tgt := 38) rfl rfl (fun _ => ?_) (fun c => absurd c (by decide))
  refine AL_g hT hK 20 2 (pc' := 40) (lo' := [some (.ref 0), some (.int 9), some (.int a), some (.int b), none]) (st' := [.int 3, .int 9]) (hp' := wd σ) rfl ?_
  refine AL_icmp_ne hT hK 22 (tgt := 52) rfl rfl (fun _ => ?_) (fun c => absurd c (by decide))
  refine AL_g hT hK 28 2 (pc' := 54) (lo' := [some (.ref 0), some (.int 9), some (.int a), some (.int b), none]) (st' := [.int 4, .int 9]) (hp' := wd σ) rfl ?_
  refine AL_icmp_ne hT hK 30 (tgt := 66) rfl rfl (fun _ => ?_) (fun c => absurd c (by decide))
  refine AL_g hT hK 36 2 (pc' := 68) (lo' := [some (.ref 0), some (.int 9), some (.int a), some (.int b), none]) (st' := [.int 5, .int 9]) (hp' := wd σ) rfl ?_
  refine AL_icmp_ne hT hK 38 (tgt := 80) rfl rfl (fun _ => ?_) (fun c => absurd c (by decide))
  refine AL_g hT hK 44 2 (pc' := 83) (lo' := [some (.ref 0), some (.int 9), some (.int a), some (.int b), none]) (st' := [.int 6, .int 9]) (hp' := wd σ) rfl ?_
  refine AL_icmp_ne hT hK 46 (tgt := 95) rfl rfl (fun _ => ?_) (fun c => absurd c (by decide))
  refine AL_g hT hK 52 2 (pc' := 98) (lo' := [some (.ref 0), some (.int 9), some (.int a), some (.int b), none]) (st' := [.int 7, .int 9]) (hp' := wd σ) rfl ?_
  refine AL_icmp_ne hT hK 54 (tgt := 109) rfl rfl (fun _ => ?_) (fun c => absurd c (by decide))
  refine AL_g hT hK 59 2 (pc' := 112) (lo' := [some (.ref 0), some (.int 9), some (.int a), some (.int b), none]) (st' := [.int 8, .int 9]) (hp' := wd σ) rfl ?_
  refine AL_icmp_ne hT hK 61 (tgt := 124) rfl rfl (fun _ => ?_) (fun c => absurd c (by decide))
  refine AL_g hT hK 67 2 (pc' := 127) (lo' := [some (.ref 0), some (.int 9), some (.int a), some (.int b), none]) (st' := [.int 9, .int 9]) (hp' := wd σ) rfl ?_
  refine AL_icmp_ne hT hK 69 (tgt := 138) rfl rfl (fun c => absurd (by decide) c) (fun _ => ?_)
  refine AL_g hT hK 70 2 (pc' := 132) (lo' := [some (.ref 0), some (.int 9), some (.int a), some (.int b), none]) (st' := [.int a, .ref 0]) (hp' := wd σ) rfl ?_
  refine AL_AW ?_
  refine AW_callVX hT hK 72 [.int a] [] (mx_X5_split l0 hl0 σ a az_NSE hx) cw_X5_split lk_L_49 vi_X5_split rfl rfl rfl rfl rfl rfl (Nat.le_of_ble_eq_true rfl) (Nat.le_of_ble_eq_true rfl) (fun _ _ hf => hf.elim) (fun E hEE => ?_)
  rw [hEE]
  refine AWX_catch hT hK hTab [] ⟨0, 173, 174, 61⟩ [⟨0, 173, 179, 15⟩] rfl (fun z hz => by cases hz) rfl (by decide) hl_61 hc_61 94 4 (ins := .astore 4) rfl (Or.inr rfl) rfl ?_
  refine AL_cnt (lb' := 1) (cells' := 1) (slots' := 6) rfl rfl rfl ?_
  refine AL_ldc hT hK 95 (v := (-2000000004)) rfl (List.mem_of_getElem? (i := 549) (by decide +kernel)) ?_
  refine AL_cnt (lb' := 1) (cells' := 1) (slots' := 6 * 1) (by omega) (by omega) (by omega) ?_
  exact AL_iret hT hE 96 rfl rfl rfl (Nat.le_of_ble_eq_true rfl) (Nat.le_of_ble_eq_true rfl)
set_option maxRecDepth 100000 in
set_option maxHeartbeats 4000000 in
theorem l_of_10 (l0 : Launch) (hl0 : l0.stackTraces = false) (σ : az_S) (a b : Int32) (hx : x_X5_count σ a b = .inl az_NSE) : AME l0 yL_of (.codeWith yL_of cL_of 5 (some .int) [(0, 173, 174, 61), (0, 173, 179, 15)]) ({ frames := 8, cells := 1, slots := 6, locals := 166 } : Room) [.ref 0, .int 10, .int a, .int b] (wd σ) (wd σ) (.int (-2000000004)) 1 := by
  refine AME_ofW (by decide +kernel) (by simp [Value.category]) (Nat.le_of_ble_eq_true rfl) (fun K hK hTab hN hE => ?_)
  have hT := tt_L_of
  refine AL_g hT hK 0 1 (pc' := 1) (lo' := [some (.ref 0), some (.int 10), some (.int a), some (.int b), none]) (st' := [.int 10]) (hp' := wd σ) rfl ?_
  refine AL_if_ne hT hK 1 (tgt := 12) rfl rfl (fun _ => ?_) (fun c => absurd c (by decide))
  refine AL_g hT hK 6 2 (pc' := 14) (lo' := [some (.ref 0), some (.int 10), some (.int a), some (.int b), none]) (st' := [.int 1, .int 10]) (hp' := wd σ) rfl ?_
  refine AL_icmp_ne hT hK 8 (tgt := 25) rfl rfl (fun _ => ?_) (fun c => absurd c (by decide))
  refine AL_g hT hK 13 2 (pc' := 27) (lo' := [some (.ref 0), some (.int 10), some (.int a), some (.int b), none]) (st' := [.int 2, .int 10]) (hp' := wd σ) rfl ?_
  refine AL_icmp_ne hT hK 15 (tgt := 38) rfl rfl (fun _ => ?_) (fun c => absurd c (by decide))
  refine AL_g hT hK 20 2 (pc' := 40) (lo' := [some (.ref 0), some (.int 10), some (.int a), some (.int b), none]) (st' := [.int 3, .int 10]) (hp' := wd σ) rfl ?_
  refine AL_icmp_ne hT hK 22 (tgt := 52) rfl rfl (fun _ => ?_) (fun c => absurd c (by decide))
  refine AL_g hT hK 28 2 (pc' := 54) (lo' := [some (.ref 0), some (.int 10), some (.int a), some (.int b), none]) (st' := [.int 4, .int 10]) (hp' := wd σ) rfl ?_
  refine AL_icmp_ne hT hK 30 (tgt := 66) rfl rfl (fun _ => ?_) (fun c => absurd c (by decide))
  refine AL_g hT hK 36 2 (pc' := 68) (lo' := [some (.ref 0), some (.int 10), some (.int a), some (.int b), none]) (st' := [.int 5, .int 10]) (hp' := wd σ) rfl ?_
  refine AL_icmp_ne hT hK 38 (tgt := 80) rfl rfl (fun _ => ?_) (fun c => absurd c (by decide))
  refine AL_g hT hK 44 2 (pc' := 83) (lo' := [some (.ref 0), some (.int 10), some (.int a), some (.int b), none]) (st' := [.int 6, .int 10]) (hp' := wd σ) rfl ?_
  refine AL_icmp_ne hT hK 46 (tgt := 95) rfl rfl (fun _ => ?_) (fun c => absurd c (by decide))
  refine AL_g hT hK 52 2 (pc' := 98) (lo' := [some (.ref 0), some (.int 10), some (.int a), some (.int b), none]) (st' := [.int 7, .int 10]) (hp' := wd σ) rfl ?_
  refine AL_icmp_ne hT hK 54 (tgt := 109) rfl rfl (fun _ => ?_) (fun c => absurd c (by decide))
  refine AL_g hT hK 59 2 (pc' := 112) (lo' := [some (.ref 0), some (.int 10), some (.int a), some (.int b), none]) (st' := [.int 8, .int 10]) (hp' := wd σ) rfl ?_
  refine AL_icmp_ne hT hK 61 (tgt := 124) rfl rfl (fun _ => ?_) (fun c => absurd c (by decide))
  refine AL_g hT hK 67 2 (pc' := 127) (lo' := [some (.ref 0), some (.int 10), some (.int a), some (.int b), none]) (st' := [.int 9, .int 10]) (hp' := wd σ) rfl ?_
  refine AL_icmp_ne hT hK 69 (tgt := 138) rfl rfl (fun _ => ?_) (fun c => absurd c (by decide))
  refine AL_g hT hK 74 2 (pc' := 141) (lo' := [some (.ref 0), some (.int 10), some (.int a), some (.int b), none]) (st' := [.int 10, .int 10]) (hp' := wd σ) rfl ?_
  refine AL_icmp_ne hT hK 76 (tgt := 153) rfl rfl (fun c => absurd (by decide) c) (fun _ => ?_)
  refine AL_g hT hK 77 3 (pc' := 147) (lo' := [some (.ref 0), some (.int 10), some (.int a), some (.int b), none]) (st' := [.int b, .int a, .ref 0]) (hp' := wd σ) rfl ?_
  refine AL_AW ?_
  refine AW_callVX hT hK 80 [.int a, .int b] [] (mx_X5_count l0 hl0 σ a b az_NSE hx) cw_X5_count lk_L_52 vi_X5_count rfl rfl rfl rfl rfl rfl (Nat.le_of_ble_eq_true rfl) (Nat.le_of_ble_eq_true rfl) (fun _ _ hf => hf.elim) (fun E hEE => ?_)
  rw [hEE]
  refine AWX_catch hT hK hTab [] ⟨0, 173, 174, 61⟩ [⟨0, 173, 179, 15⟩] rfl (fun z hz => by cases hz) rfl (by decide) hl_61 hc_61 94 4 (ins := .astore 4) rfl (Or.inr rfl) rfl ?_
  refine AL_cnt (lb' := 1) (cells' := 1) (slots' := 6) rfl rfl rfl ?_
  refine AL_ldc hT hK 95 (v := (-2000000004)) rfl (List.mem_of_getElem? (i := 549) (by decide +kernel)) ?_
  refine AL_cnt (lb' := 1) (cells' := 1) (slots' := 6 * 1) (by omega) (by omega) (by omega) ?_
  exact AL_iret hT hE 96 rfl rfl rfl (Nat.le_of_ble_eq_true rfl) (Nat.le_of_ble_eq_true rfl)
set_option maxRecDepth 100000 in
set_option maxHeartbeats 4000000 in
theorem l_of_11 (l0 : Launch) (hl0 : l0.stackTraces = false) (σ : az_S) (a b : Int32) (hx : x_X5_rise σ a b = .inl az_NSE) : AME l0 yL_of (.codeWith yL_of cL_of 5 (some .int) [(0, 173, 174, 61), (0, 173, 179, 15)]) ({ frames := 8, cells := 1, slots := 6, locals := 166 } : Room) [.ref 0, .int 11, .int a, .int b] (wd σ) (wd σ) (.int (-2000000004)) 1 := by
  refine AME_ofW (by decide +kernel) (by simp [Value.category]) (Nat.le_of_ble_eq_true rfl) (fun K hK hTab hN hE => ?_)
  have hT := tt_L_of
  refine AL_g hT hK 0 1 (pc' := 1) (lo' := [some (.ref 0), some (.int 11), some (.int a), some (.int b), none]) (st' := [.int 11]) (hp' := wd σ) rfl ?_
  refine AL_if_ne hT hK 1 (tgt := 12) rfl rfl (fun _ => ?_) (fun c => absurd c (by decide))
  refine AL_g hT hK 6 2 (pc' := 14) (lo' := [some (.ref 0), some (.int 11), some (.int a), some (.int b), none]) (st' := [.int 1, .int 11]) (hp' := wd σ) rfl ?_
  refine AL_icmp_ne hT hK 8 (tgt := 25) rfl rfl (fun _ => ?_) (fun c => absurd c (by decide))
  refine AL_g hT hK 13 2 (pc' := 27) (lo' := [some (.ref 0), some (.int 11), some (.int a), some (.int b), none]) (st' := [.int 2, .int 11]) (hp' := wd σ) rfl ?_
  refine AL_icmp_ne hT hK 15 (tgt := 38) rfl rfl (fun _ => ?_) (fun c => absurd c (by decide))
  refine AL_g hT hK 20 2 (pc' := 40) (lo' := [some (.ref 0), some (.int 11), some (.int a), some (.int b), none]) (st' := [.int 3, .int 11]) (hp' := wd σ) rfl ?_
  refine AL_icmp_ne hT hK 22 (tgt := 52) rfl rfl (fun _ => ?_) (fun c => absurd c (by decide))
  refine AL_g hT hK 28 2 (pc' := 54) (lo' := [some (.ref 0), some (.int 11), some (.int a), some (.int b), none]) (st' := [.int 4, .int 11]) (hp' := wd σ) rfl ?_
  refine AL_icmp_ne hT hK 30 (tgt := 66) rfl rfl (fun _ => ?_) (fun c => absurd c (by decide))
  refine AL_g hT hK 36 2 (pc' := 68) (lo' := [some (.ref 0), some (.int 11), some (.int a), some (.int b), none]) (st' := [.int 5, .int 11]) (hp' := wd σ) rfl ?_
  refine AL_icmp_ne hT hK 38 (tgt := 80) rfl rfl (fun _ => ?_) (fun c => absurd c (by decide))
  refine AL_g hT hK 44 2 (pc' := 83) (lo' := [some (.ref 0), some (.int 11), some (.int a), some (.int b), none]) (st' := [.int 6, .int 11]) (hp' := wd σ) rfl ?_
  refine AL_icmp_ne hT hK 46 (tgt := 95) rfl rfl (fun _ => ?_) (fun c => absurd c (by decide))
  refine AL_g hT hK 52 2 (pc' := 98) (lo' := [some (.ref 0), some (.int 11), some (.int a), some (.int b), none]) (st' := [.int 7, .int 11]) (hp' := wd σ) rfl ?_
  refine AL_icmp_ne hT hK 54 (tgt := 109) rfl rfl (fun _ => ?_) (fun c => absurd c (by decide))
  refine AL_g hT hK 59 2 (pc' := 112) (lo' := [some (.ref 0), some (.int 11), some (.int a), some (.int b), none]) (st' := [.int 8, .int 11]) (hp' := wd σ) rfl ?_
  refine AL_icmp_ne hT hK 61 (tgt := 124) rfl rfl (fun _ => ?_) (fun c => absurd c (by decide))
  refine AL_g hT hK 67 2 (pc' := 127) (lo' := [some (.ref 0), some (.int 11), some (.int a), some (.int b), none]) (st' := [.int 9, .int 11]) (hp' := wd σ) rfl ?_
  refine AL_icmp_ne hT hK 69 (tgt := 138) rfl rfl (fun _ => ?_) (fun c => absurd c (by decide))
  refine AL_g hT hK 74 2 (pc' := 141) (lo' := [some (.ref 0), some (.int 11), some (.int a), some (.int b), none]) (st' := [.int 10, .int 11]) (hp' := wd σ) rfl ?_
  refine AL_icmp_ne hT hK 76 (tgt := 153) rfl rfl (fun _ => ?_) (fun c => absurd c (by decide))
  refine AL_g hT hK 82 2 (pc' := 156) (lo' := [some (.ref 0), some (.int 11), some (.int a), some (.int b), none]) (st' := [.int 11, .int 11]) (hp' := wd σ) rfl ?_
  refine AL_icmp_ne hT hK 84 (tgt := 168) rfl rfl (fun c => absurd (by decide) c) (fun _ => ?_)
  refine AL_g hT hK 85 3 (pc' := 162) (lo' := [some (.ref 0), some (.int 11), some (.int a), some (.int b), none]) (st' := [.int b, .int a, .ref 0]) (hp' := wd σ) rfl ?_
  refine AL_AW ?_
  refine AW_callVX hT hK 88 [.int a, .int b] [] (mx_X5_rise l0 hl0 σ a b az_NSE hx) cw_X5_rise lk_L_55 vi_X5_rise rfl rfl rfl rfl rfl rfl (Nat.le_of_ble_eq_true rfl) (Nat.le_of_ble_eq_true rfl) (fun _ _ hf => hf.elim) (fun E hEE => ?_)
  rw [hEE]
  refine AWX_catch hT hK hTab [] ⟨0, 173, 174, 61⟩ [⟨0, 173, 179, 15⟩] rfl (fun z hz => by cases hz) rfl (by decide) hl_61 hc_61 94 4 (ins := .astore 4) rfl (Or.inr rfl) rfl ?_
  refine AL_cnt (lb' := 1) (cells' := 1) (slots' := 6) rfl rfl rfl ?_
  refine AL_ldc hT hK 95 (v := (-2000000004)) rfl (List.mem_of_getElem? (i := 549) (by decide +kernel)) ?_
  refine AL_cnt (lb' := 1) (cells' := 1) (slots' := 6 * 1) (by omega) (by omega) (by omega) ?_
  exact AL_iret hT hE 96 rfl rfl rfl (Nat.le_of_ble_eq_true rfl) (Nat.le_of_ble_eq_true rfl)
set_option maxRecDepth 100000 in
set_option maxHeartbeats 4000000 in
theorem l_of_12 (l0 : Launch) (hl0 : l0.stackTraces = false) (σ : az_S) (a b : Int32) (hx : x_X5_heir σ a = .inl az_NSE) : AME l0 yL_of (.codeWith yL_of cL_of 5 (some .int) [(0, 173, 174, 61), (0, 173, 179, 15)]) ({ frames := 8, cells := 1, slots := 6, locals := 166 } : Room) [.ref 0, .int 12, .int a, .int b] (wd σ) (wd σ) (.int (-2000000004)) 1 := by
  refine AME_ofW (by decide +kernel) (by simp [Value.category]) (Nat.le_of_ble_eq_true rfl) (fun K hK hTab hN hE => ?_)
  have hT := tt_L_of
  refine AL_g hT hK 0 1 (pc' := 1) (lo' := [some (.ref 0), some (.int 12), some (.int a), some (.int b), none]) (st' := [.int 12]) (hp' := wd σ) rfl ?_
  refine AL_if_ne hT hK 1 (tgt := 12) rfl rfl (fun _ => ?_) (fun c => absurd c (by decide))
  refine AL_g hT hK 6 2 (pc' := 14) (lo' := [some (.ref 0), some (.int 12), some (.int a), some (.int b), none]) (st' := [.int 1, .int 12]) (hp' := wd σ) rfl ?_
  refine AL_icmp_ne hT hK 8 (tgt := 25) rfl rfl (fun _ => ?_) (fun c => absurd c (by decide))
  refine AL_g hT hK 13 2 (pc' := 27) (lo' := [some (.ref 0), some (.int 12), some (.int a), some (.int b), none]) (st' := [.int 2, .int 12]) (hp' := wd σ) rfl ?_
  refine AL_icmp_ne hT hK 15 (tgt := 38) rfl rfl (fun _ => ?_) (fun c => absurd c (by decide))
  refine AL_g hT hK 20 2 (pc' := 40) (lo' := [some (.ref 0), some (.int 12), some (.int a), some (.int b), none]) (st' := [.int 3, .int 12]) (hp' := wd σ) rfl ?_
  refine AL_icmp_ne hT hK 22 (tgt := 52) rfl rfl (fun _ => ?_) (fun c => absurd c (by decide))
  refine AL_g hT hK 28 2 (pc' := 54) (lo' := [some (.ref 0), some (.int 12), some (.int a), some (.int b), none]) (st' := [.int 4, .int 12]) (hp' := wd σ) rfl ?_
  refine AL_icmp_ne hT hK 30 (tgt := 66) rfl rfl (fun _ => ?_) (fun c => absurd c (by decide))
  refine AL_g hT hK 36 2 (pc' := 68) (lo' := [some (.ref 0), some (.int 12), some (.int a), some (.int b), none]) (st' := [.int 5, .int 12]) (hp' := wd σ) rfl ?_
  refine AL_icmp_ne hT hK 38 (tgt := 80) rfl rfl (fun _ => ?_) (fun c => absurd c (by decide))
  refine AL_g hT hK 44 2 (pc' := 83) (lo' := [some (.ref 0), some (.int 12), some (.int a), some (.int b), none]) (st' := [.int 6, .int 12]) (hp' := wd σ) rfl ?_
  refine AL_icmp_ne hT hK 46 (tgt := 95) rfl rfl (fun _ => ?_) (fun c => absurd c (by decide))
  refine AL_g hT hK 52 2 (pc' := 98) (lo' := [some (.ref 0), some (.int 12), some (.int a), some (.int b), none]) (st' := [.int 7, .int 12]) (hp' := wd σ) rfl ?_
  refine AL_icmp_ne hT hK 54 (tgt := 109) rfl rfl (fun _ => ?_) (fun c => absurd c (by decide))
  refine AL_g hT hK 59 2 (pc' := 112) (lo' := [some (.ref 0), some (.int 12), some (.int a), some (.int b), none]) (st' := [.int 8, .int 12]) (hp' := wd σ) rfl ?_
  refine AL_icmp_ne hT hK 61 (tgt := 124) rfl rfl (fun _ => ?_) (fun c => absurd c (by decide))
  refine AL_g hT hK 67 2 (pc' := 127) (lo' := [some (.ref 0), some (.int 12), some (.int a), some (.int b), none]) (st' := [.int 9, .int 12]) (hp' := wd σ) rfl ?_
  refine AL_icmp_ne hT hK 69 (tgt := 138) rfl rfl (fun _ => ?_) (fun c => absurd c (by decide))
  refine AL_g hT hK 74 2 (pc' := 141) (lo' := [some (.ref 0), some (.int 12), some (.int a), some (.int b), none]) (st' := [.int 10, .int 12]) (hp' := wd σ) rfl ?_
  refine AL_icmp_ne hT hK 76 (tgt := 153) rfl rfl (fun _ => ?_) (fun c => absurd c (by decide))
  refine AL_g hT hK 82 2 (pc' := 156) (lo' := [some (.ref 0), some (.int 12), some (.int a), some (.int b), none]) (st' := [.int 11, .int 12]) (hp' := wd σ) rfl ?_
  refine AL_icmp_ne hT hK 84 (tgt := 168) rfl rfl (fun _ => ?_) (fun c => absurd c (by decide))
  refine AL_g hT hK 90 2 (pc' := 170) (lo' := [some (.ref 0), some (.int 12), some (.int a), some (.int b), none]) (st' := [.int a, .ref 0]) (hp' := wd σ) rfl ?_
  refine AL_AW ?_
  refine AW_callVX hT hK 92 [.int a] [] (mx_X5_heir l0 hl0 σ a az_NSE hx) cw_X5_heir lk_L_58 vi_X5_heir rfl rfl rfl rfl rfl rfl (Nat.le_of_ble_eq_true rfl) (Nat.le_of_ble_eq_true rfl) (fun _ _ hf => hf.elim) (fun E hEE => ?_)
  rw [hEE]
  refine AWX_catch hT hK hTab [] ⟨0, 173, 174, 61⟩ [⟨0, 173, 179, 15⟩] rfl (fun z hz => by cases hz) rfl (by decide) hl_61 hc_61 94 4 (ins := .astore 4) rfl (Or.inr rfl) rfl ?_
  refine AL_cnt (lb' := 1) (cells' := 1) (slots' := 6) rfl rfl rfl ?_
  refine AL_ldc hT hK 95 (v := (-2000000004)) rfl (List.mem_of_getElem? (i := 549) (by decide +kernel)) ?_
  refine AL_cnt (lb' := 1) (cells' := 1) (slots' := 6 * 1) (by omega) (by omega) (by omega) ?_
  exact AL_iret hT hE 96 rfl rfl rfl (Nat.le_of_ble_eq_true rfl) (Nat.le_of_ble_eq_true rfl)
theorem l_of : ∀ (w : Nat) (hw : w < 13) (l0 : Launch) (hl0 : l0.stackTraces = false) (a b : Int32), AME l0 yL_of (.codeWith yL_of cL_of 5 (some .int) [(0, 173, 174, 61), (0, 173, 179, 15)]) ({ frames := 8, cells := 1, slots := 6, locals := 166 } : Room) [.ref 0, .int (nI w), .int a, .int b] (wd sE) (wd sE) (.int (-2000000004)) 1
  | 0, _ => fun l0 hl0 a b => l_of_0 l0 hl0 sE a b (e_withdraw a)
  | 1, _ => fun l0 hl0 a b => l_of_1 l0 hl0 sE a b (e_references a)
  | 2, _ => fun l0 hl0 a b => l_of_2 l0 hl0 sE a b (e_citing a)
  | 3, _ => fun l0 hl0 a b => l_of_3 l0 hl0 sE a b (e_shared a b)
  | 4, _ => fun l0 hl0 a b => l_of_4 l0 hl0 sE a b (e_joint a b)
  | 5, _ => fun l0 hl0 a b => l_of_5 l0 hl0 sE a b (e_likenessNumerator a b)
  | 6, _ => fun l0 hl0 a b => l_of_6 l0 hl0 sE a b (e_likenessDenominator a b)
  | 7, _ => fun l0 hl0 a b => l_of_7 l0 hl0 sE a b (e_fieldOf a)
  | 8, _ => fun l0 hl0 a b => l_of_8 l0 hl0 sE a b (e_gain a b)
  | 9, _ => fun l0 hl0 a b => l_of_9 l0 hl0 sE a b (e_split a)
  | 10, _ => fun l0 hl0 a b => l_of_10 l0 hl0 sE a b (e_count a b)
  | 11, _ => fun l0 hl0 a b => l_of_11 l0 hl0 sE a b (e_rise a b)
  | 12, _ => fun l0 hl0 a b => l_of_12 l0 hl0 sE a b (e_heir a)
  | n + 13, h => absurd h (by omega)
theorem el_come_0 : x_X5_come sE (-1) 0 = .inl az_IAE := by
  have h : x_X3_takesYear sE (-1) = 0 := by decide +kernel
  simp only [x_X5_come, h]
  rfl
set_option maxRecDepth 100000 in
set_option maxHeartbeats 4000000 in
theorem l_come_0 (l0 : Launch) (hl0 : l0.stackTraces = false) : AME l0 yL_come (.codeWith yL_come cL_come 4 (some .int) [(0, 6, 7, 15), (0, 6, 11, 18)]) ({ frames := 7, cells := 1, slots := 6, locals := 167 } : Room) [.ref 0, .int (-1), .int 0] (wd sE) (wd sE) (.int (-2000000002)) 1 := by
  refine AME_ofW (by decide +kernel) (by simp [Value.category]) (Nat.le_of_ble_eq_true rfl) (fun K hK hTab hN hE => ?_)
  have hT := tt_L_come
  refine AL_g hT hK 0 3 (pc' := 3) (lo' := [some (.ref 0), some (.int (-1)), some (.int 0), none]) (st' := [.int 0, .int (-1), .ref 0]) (hp' := wd sE) rfl ?_
  refine AL_AW ?_
  refine AW_callVX hT hK 3 [.int (-1), .int 0] [] (mx_X5_come l0 hl0 sE (-1) 0 az_IAE el_come_0) cw_X5_come lk_L_9 vi_X5_come rfl rfl rfl rfl rfl rfl (Nat.le_of_ble_eq_true rfl) (Nat.le_of_ble_eq_true rfl) (fun _ _ hf => hf.elim) (fun E hEE => ?_)
  rw [hEE]
  refine AWX_catch hT hK hTab [] ⟨0, 6, 7, 15⟩ [⟨0, 6, 11, 18⟩] rfl (fun z hz => by cases hz) rfl (by decide) hl_15 hc_15 5 3 (ins := .astore_n 3) rfl (Or.inl ⟨3, rfl, rfl⟩) rfl ?_
  refine AL_cnt (lb' := 1) (cells' := 1) (slots' := 6) rfl rfl rfl ?_
  refine AL_ldc hT hK 6 (v := (-2000000002)) rfl (List.mem_of_getElem? (i := 550) (by decide +kernel)) ?_
  refine AL_cnt (lb' := 1) (cells' := 1) (slots' := 6 * 1) (by omega) (by omega) (by omega) ?_
  exact AL_iret hT hE 7 rfl rfl rfl (Nat.le_of_ble_eq_true rfl) (Nat.le_of_ble_eq_true rfl)
theorem el_come_1 : x_X5_come sE 99 (-1) = .inl az_IAE := by
  have h : x_X3_takesYear sE 99 = 1 := by decide +kernel
  have h2 : x_X3_hasAll sE (-1) = 0 := by decide +kernel
  simp only [x_X5_come, h, h2]
  rfl
set_option maxRecDepth 100000 in
set_option maxHeartbeats 4000000 in
theorem l_come_1 (l0 : Launch) (hl0 : l0.stackTraces = false) : AME l0 yL_come (.codeWith yL_come cL_come 4 (some .int) [(0, 6, 7, 15), (0, 6, 11, 18)]) ({ frames := 7, cells := 1, slots := 6, locals := 167 } : Room) [.ref 0, .int 99, .int (-1)] (wd sE) (wd sE) (.int (-2000000002)) 1 := by
  refine AME_ofW (by decide +kernel) (by simp [Value.category]) (Nat.le_of_ble_eq_true rfl) (fun K hK hTab hN hE => ?_)
  have hT := tt_L_come
  refine AL_g hT hK 0 3 (pc' := 3) (lo' := [some (.ref 0), some (.int 99), some (.int (-1)), none]) (st' := [.int (-1), .int 99, .ref 0]) (hp' := wd sE) rfl ?_
  refine AL_AW ?_
  refine AW_callVX hT hK 3 [.int 99, .int (-1)] [] (mx_X5_come l0 hl0 sE 99 (-1) az_IAE el_come_1) cw_X5_come lk_L_9 vi_X5_come rfl rfl rfl rfl rfl rfl (Nat.le_of_ble_eq_true rfl) (Nat.le_of_ble_eq_true rfl) (fun _ _ hf => hf.elim) (fun E hEE => ?_)
  rw [hEE]
  refine AWX_catch hT hK hTab [] ⟨0, 6, 7, 15⟩ [⟨0, 6, 11, 18⟩] rfl (fun z hz => by cases hz) rfl (by decide) hl_15 hc_15 5 3 (ins := .astore_n 3) rfl (Or.inl ⟨3, rfl, rfl⟩) rfl ?_
  refine AL_cnt (lb' := 1) (cells' := 1) (slots' := 6) rfl rfl rfl ?_
  refine AL_ldc hT hK 6 (v := (-2000000002)) rfl (List.mem_of_getElem? (i := 550) (by decide +kernel)) ?_
  refine AL_cnt (lb' := 1) (cells' := 1) (slots' := 6 * 1) (by omega) (by omega) (by omega) ?_
  exact AL_iret hT hE 7 rfl rfl rfl (Nat.le_of_ble_eq_true rfl) (Nat.le_of_ble_eq_true rfl)
theorem el_come_2 : x_X5_come sE 99 4096 = .inl az_IAE := by
  have h : x_X3_takesYear sE 99 = 1 := by decide +kernel
  have h2 : x_X3_hasAll sE 4096 = 0 := by decide +kernel
  simp only [x_X5_come, h, h2]
  rfl
set_option maxRecDepth 100000 in
set_option maxHeartbeats 4000000 in
theorem l_come_2 (l0 : Launch) (hl0 : l0.stackTraces = false) : AME l0 yL_come (.codeWith yL_come cL_come 4 (some .int) [(0, 6, 7, 15), (0, 6, 11, 18)]) ({ frames := 7, cells := 1, slots := 6, locals := 167 } : Room) [.ref 0, .int 99, .int 4096] (wd sE) (wd sE) (.int (-2000000002)) 1 := by
  refine AME_ofW (by decide +kernel) (by simp [Value.category]) (Nat.le_of_ble_eq_true rfl) (fun K hK hTab hN hE => ?_)
  have hT := tt_L_come
  refine AL_g hT hK 0 3 (pc' := 3) (lo' := [some (.ref 0), some (.int 99), some (.int 4096), none]) (st' := [.int 4096, .int 99, .ref 0]) (hp' := wd sE) rfl ?_
  refine AL_AW ?_
  refine AW_callVX hT hK 3 [.int 99, .int 4096] [] (mx_X5_come l0 hl0 sE 99 4096 az_IAE el_come_2) cw_X5_come lk_L_9 vi_X5_come rfl rfl rfl rfl rfl rfl (Nat.le_of_ble_eq_true rfl) (Nat.le_of_ble_eq_true rfl) (fun _ _ hf => hf.elim) (fun E hEE => ?_)
  rw [hEE]
  refine AWX_catch hT hK hTab [] ⟨0, 6, 7, 15⟩ [⟨0, 6, 11, 18⟩] rfl (fun z hz => by cases hz) rfl (by decide) hl_15 hc_15 5 3 (ins := .astore_n 3) rfl (Or.inl ⟨3, rfl, rfl⟩) rfl ?_
  refine AL_cnt (lb' := 1) (cells' := 1) (slots' := 6) rfl rfl rfl ?_
  refine AL_ldc hT hK 6 (v := (-2000000002)) rfl (List.mem_of_getElem? (i := 550) (by decide +kernel)) ?_
  refine AL_cnt (lb' := 1) (cells' := 1) (slots' := 6 * 1) (by omega) (by omega) (by omega) ?_
  exact AL_iret hT hE 7 rfl rfl rfl (Nat.le_of_ble_eq_true rfl) (Nat.le_of_ble_eq_true rfl)
theorem el_at_0 : x_X5_riser sE (-1) = .inl az_IAE := by decide +kernel
set_option maxRecDepth 100000 in
set_option maxHeartbeats 4000000 in
theorem l_at_0 (l0 : Launch) (hl0 : l0.stackTraces = false) : AME l0 yL_at (.codeWith yL_at cL_at 4 (some .int) [(0, 17, 18, 70), (0, 17, 22, 15)]) ({ frames := 8, cells := 1, slots := 6, locals := 127 } : Room) [.ref 0, .int 1, .int (-1)] (wd sE) (wd sE) (.int (-2000000002)) 1 := by
  refine AME_ofW (by decide +kernel) (by simp [Value.category]) (Nat.le_of_ble_eq_true rfl) (fun K hK hTab hN hE => ?_)
  have hT := tt_L_at
  refine AL_g hT hK 0 1 (pc' := 1) (lo' := [some (.ref 0), some (.int 1), some (.int (-1)), none]) (st' := [.int 1]) (hp' := wd sE) rfl ?_
  refine AL_if_ne hT hK 1 (tgt := 12) rfl rfl (fun _ => ?_) (fun c => absurd c (by decide))
  refine AL_g hT hK 6 2 (pc' := 14) (lo' := [some (.ref 0), some (.int 1), some (.int (-1)), none]) (st' := [.int (-1), .ref 0]) (hp' := wd sE) rfl ?_
  refine AL_AW ?_
  refine AW_callVX hT hK 8 [.int (-1)] [] (mx_X5_riser l0 hl0 sE (-1) az_IAE el_at_0) cw_X5_riser lk_L_67 vi_X5_riser rfl rfl rfl rfl rfl rfl (Nat.le_of_ble_eq_true rfl) (Nat.le_of_ble_eq_true rfl) (fun _ _ hf => hf.elim) (fun E hEE => ?_)
  rw [hEE]
  refine AWX_catch hT hK hTab [⟨0, 17, 18, 70⟩] ⟨0, 17, 22, 15⟩ [] rfl (fun z hz => by rw [List.mem_singleton.mp hz]; exact ⟨by decide, _, hl_70, hN.1⟩) rfl (by decide) hl_15 hc_15 13 3 (ins := .astore_n 3) rfl (Or.inl ⟨3, rfl, rfl⟩) rfl ?_
  refine AL_cnt (lb' := 1) (cells' := 1) (slots' := 6) rfl rfl rfl ?_
  refine AL_ldc hT hK 14 (v := (-2000000002)) rfl (List.mem_of_getElem? (i := 550) (by decide +kernel)) ?_
  refine AL_cnt (lb' := 1) (cells' := 1) (slots' := 6 * 1) (by omega) (by omega) (by omega) ?_
  exact AL_iret hT hE 15 rfl rfl rfl (Nat.le_of_ble_eq_true rfl) (Nat.le_of_ble_eq_true rfl)
theorem el_come_3 : x_X5_come sE 101 0 = .inl az_IAE := by
  have h : x_X3_takesYear sE 101 = 0 := by decide +kernel
  simp only [x_X5_come, h]
  rfl
set_option maxRecDepth 100000 in
set_option maxHeartbeats 4000000 in
theorem l_come_3 (l0 : Launch) (hl0 : l0.stackTraces = false) : AME l0 yL_come (.codeWith yL_come cL_come 4 (some .int) [(0, 6, 7, 15), (0, 6, 11, 18)]) ({ frames := 7, cells := 1, slots := 6, locals := 167 } : Room) [.ref 0, .int 101, .int 0] (wd sE) (wd sE) (.int (-2000000002)) 1 := by
  refine AME_ofW (by decide +kernel) (by simp [Value.category]) (Nat.le_of_ble_eq_true rfl) (fun K hK hTab hN hE => ?_)
  have hT := tt_L_come
  refine AL_g hT hK 0 3 (pc' := 3) (lo' := [some (.ref 0), some (.int 101), some (.int 0), none]) (st' := [.int 0, .int 101, .ref 0]) (hp' := wd sE) rfl ?_
  refine AL_AW ?_
  refine AW_callVX hT hK 3 [.int 101, .int 0] [] (mx_X5_come l0 hl0 sE 101 0 az_IAE el_come_3) cw_X5_come lk_L_9 vi_X5_come rfl rfl rfl rfl rfl rfl (Nat.le_of_ble_eq_true rfl) (Nat.le_of_ble_eq_true rfl) (fun _ _ hf => hf.elim) (fun E hEE => ?_)
  rw [hEE]
  refine AWX_catch hT hK hTab [] ⟨0, 6, 7, 15⟩ [⟨0, 6, 11, 18⟩] rfl (fun z hz => by cases hz) rfl (by decide) hl_15 hc_15 5 3 (ins := .astore_n 3) rfl (Or.inl ⟨3, rfl, rfl⟩) rfl ?_
  refine AL_cnt (lb' := 1) (cells' := 1) (slots' := 6) rfl rfl rfl ?_
  refine AL_ldc hT hK 6 (v := (-2000000002)) rfl (List.mem_of_getElem? (i := 550) (by decide +kernel)) ?_
  refine AL_cnt (lb' := 1) (cells' := 1) (slots' := 6 * 1) (by omega) (by omega) (by omega) ?_
  exact AL_iret hT hE 7 rfl rfl rfl (Nat.le_of_ble_eq_true rfl) (Nat.le_of_ble_eq_true rfl)
theorem el_come_4 : x_X5_come sE 99 8192 = .inl az_IAE := by
  have h : x_X3_takesYear sE 99 = 1 := by decide +kernel
  have h2 : x_X3_hasAll sE 8192 = 0 := by decide +kernel
  simp only [x_X5_come, h, h2]
  rfl
set_option maxRecDepth 100000 in
set_option maxHeartbeats 4000000 in
theorem l_come_4 (l0 : Launch) (hl0 : l0.stackTraces = false) : AME l0 yL_come (.codeWith yL_come cL_come 4 (some .int) [(0, 6, 7, 15), (0, 6, 11, 18)]) ({ frames := 7, cells := 1, slots := 6, locals := 167 } : Room) [.ref 0, .int 99, .int 8192] (wd sE) (wd sE) (.int (-2000000002)) 1 := by
  refine AME_ofW (by decide +kernel) (by simp [Value.category]) (Nat.le_of_ble_eq_true rfl) (fun K hK hTab hN hE => ?_)
  have hT := tt_L_come
  refine AL_g hT hK 0 3 (pc' := 3) (lo' := [some (.ref 0), some (.int 99), some (.int 8192), none]) (st' := [.int 8192, .int 99, .ref 0]) (hp' := wd sE) rfl ?_
  refine AL_AW ?_
  refine AW_callVX hT hK 3 [.int 99, .int 8192] [] (mx_X5_come l0 hl0 sE 99 8192 az_IAE el_come_4) cw_X5_come lk_L_9 vi_X5_come rfl rfl rfl rfl rfl rfl (Nat.le_of_ble_eq_true rfl) (Nat.le_of_ble_eq_true rfl) (fun _ _ hf => hf.elim) (fun E hEE => ?_)
  rw [hEE]
  refine AWX_catch hT hK hTab [] ⟨0, 6, 7, 15⟩ [⟨0, 6, 11, 18⟩] rfl (fun z hz => by cases hz) rfl (by decide) hl_15 hc_15 5 3 (ins := .astore_n 3) rfl (Or.inl ⟨3, rfl, rfl⟩) rfl ?_
  refine AL_cnt (lb' := 1) (cells' := 1) (slots' := 6) rfl rfl rfl ?_
  refine AL_ldc hT hK 6 (v := (-2000000002)) rfl (List.mem_of_getElem? (i := 550) (by decide +kernel)) ?_
  refine AL_cnt (lb' := 1) (cells' := 1) (slots' := 6 * 1) (by omega) (by omega) (by omega) ?_
  exact AL_iret hT hE 7 rfl rfl rfl (Nat.le_of_ble_eq_true rfl) (Nat.le_of_ble_eq_true rfl)
theorem el_at_1 : x_X5_riser sE 101 = .inl az_IAE := by decide +kernel
set_option maxRecDepth 100000 in
set_option maxHeartbeats 4000000 in
theorem l_at_1 (l0 : Launch) (hl0 : l0.stackTraces = false) : AME l0 yL_at (.codeWith yL_at cL_at 4 (some .int) [(0, 17, 18, 70), (0, 17, 22, 15)]) ({ frames := 8, cells := 1, slots := 6, locals := 127 } : Room) [.ref 0, .int 1, .int 101] (wd sE) (wd sE) (.int (-2000000002)) 1 := by
  refine AME_ofW (by decide +kernel) (by simp [Value.category]) (Nat.le_of_ble_eq_true rfl) (fun K hK hTab hN hE => ?_)
  have hT := tt_L_at
  refine AL_g hT hK 0 1 (pc' := 1) (lo' := [some (.ref 0), some (.int 1), some (.int 101), none]) (st' := [.int 1]) (hp' := wd sE) rfl ?_
  refine AL_if_ne hT hK 1 (tgt := 12) rfl rfl (fun _ => ?_) (fun c => absurd c (by decide))
  refine AL_g hT hK 6 2 (pc' := 14) (lo' := [some (.ref 0), some (.int 1), some (.int 101), none]) (st' := [.int 101, .ref 0]) (hp' := wd sE) rfl ?_
  refine AL_AW ?_
  refine AW_callVX hT hK 8 [.int 101] [] (mx_X5_riser l0 hl0 sE 101 az_IAE el_at_1) cw_X5_riser lk_L_67 vi_X5_riser rfl rfl rfl rfl rfl rfl (Nat.le_of_ble_eq_true rfl) (Nat.le_of_ble_eq_true rfl) (fun _ _ hf => hf.elim) (fun E hEE => ?_)
  rw [hEE]
  refine AWX_catch hT hK hTab [⟨0, 17, 18, 70⟩] ⟨0, 17, 22, 15⟩ [] rfl (fun z hz => by rw [List.mem_singleton.mp hz]; exact ⟨by decide, _, hl_70, hN.1⟩) rfl (by decide) hl_15 hc_15 13 3 (ins := .astore_n 3) rfl (Or.inl ⟨3, rfl, rfl⟩) rfl ?_
  refine AL_cnt (lb' := 1) (cells' := 1) (slots' := 6) rfl rfl rfl ?_
  refine AL_ldc hT hK 14 (v := (-2000000002)) rfl (List.mem_of_getElem? (i := 550) (by decide +kernel)) ?_
  refine AL_cnt (lb' := 1) (cells' := 1) (slots' := 6 * 1) (by omega) (by omega) (by omega) ?_
  exact AL_iret hT hE 15 rfl rfl rfl (Nat.le_of_ble_eq_true rfl) (Nat.le_of_ble_eq_true rfl)
theorem el_come_5 : x_X5_come sE (-27) 0 = .inl az_IAE := by
  have h : x_X3_takesYear sE (-27) = 0 := by decide +kernel
  simp only [x_X5_come, h]
  rfl
set_option maxRecDepth 100000 in
set_option maxHeartbeats 4000000 in
theorem l_come_5 (l0 : Launch) (hl0 : l0.stackTraces = false) : AME l0 yL_come (.codeWith yL_come cL_come 4 (some .int) [(0, 6, 7, 15), (0, 6, 11, 18)]) ({ frames := 7, cells := 1, slots := 6, locals := 167 } : Room) [.ref 0, .int (-27), .int 0] (wd sE) (wd sE) (.int (-2000000002)) 1 := by
  refine AME_ofW (by decide +kernel) (by simp [Value.category]) (Nat.le_of_ble_eq_true rfl) (fun K hK hTab hN hE => ?_)
  have hT := tt_L_come
  refine AL_g hT hK 0 3 (pc' := 3) (lo' := [some (.ref 0), some (.int (-27)), some (.int 0), none]) (st' := [.int 0, .int (-27), .ref 0]) (hp' := wd sE) rfl ?_
  refine AL_AW ?_
  refine AW_callVX hT hK 3 [.int (-27), .int 0] [] (mx_X5_come l0 hl0 sE (-27) 0 az_IAE el_come_5) cw_X5_come lk_L_9 vi_X5_come rfl rfl rfl rfl rfl rfl (Nat.le_of_ble_eq_true rfl) (Nat.le_of_ble_eq_true rfl) (fun _ _ hf => hf.elim) (fun E hEE => ?_)
  rw [hEE]
  refine AWX_catch hT hK hTab [] ⟨0, 6, 7, 15⟩ [⟨0, 6, 11, 18⟩] rfl (fun z hz => by cases hz) rfl (by decide) hl_15 hc_15 5 3 (ins := .astore_n 3) rfl (Or.inl ⟨3, rfl, rfl⟩) rfl ?_
  refine AL_cnt (lb' := 1) (cells' := 1) (slots' := 6) rfl rfl rfl ?_
  refine AL_ldc hT hK 6 (v := (-2000000002)) rfl (List.mem_of_getElem? (i := 550) (by decide +kernel)) ?_
  refine AL_cnt (lb' := 1) (cells' := 1) (slots' := 6 * 1) (by omega) (by omega) (by omega) ?_
  exact AL_iret hT hE 7 rfl rfl rfl (Nat.le_of_ble_eq_true rfl) (Nat.le_of_ble_eq_true rfl)
theorem el_come_6 : x_X5_come sE 99 268435456 = .inl az_IAE := by
  have h : x_X3_takesYear sE 99 = 1 := by decide +kernel
  have h2 : x_X3_hasAll sE 268435456 = 0 := by decide +kernel
  simp only [x_X5_come, h, h2]
  rfl
set_option maxRecDepth 100000 in
set_option maxHeartbeats 4000000 in
theorem l_come_6 (l0 : Launch) (hl0 : l0.stackTraces = false) : AME l0 yL_come (.codeWith yL_come cL_come 4 (some .int) [(0, 6, 7, 15), (0, 6, 11, 18)]) ({ frames := 7, cells := 1, slots := 6, locals := 167 } : Room) [.ref 0, .int 99, .int 268435456] (wd sE) (wd sE) (.int (-2000000002)) 1 := by
  refine AME_ofW (by decide +kernel) (by simp [Value.category]) (Nat.le_of_ble_eq_true rfl) (fun K hK hTab hN hE => ?_)
  have hT := tt_L_come
  refine AL_g hT hK 0 3 (pc' := 3) (lo' := [some (.ref 0), some (.int 99), some (.int 268435456), none]) (st' := [.int 268435456, .int 99, .ref 0]) (hp' := wd sE) rfl ?_
  refine AL_AW ?_
  refine AW_callVX hT hK 3 [.int 99, .int 268435456] [] (mx_X5_come l0 hl0 sE 99 268435456 az_IAE el_come_6) cw_X5_come lk_L_9 vi_X5_come rfl rfl rfl rfl rfl rfl (Nat.le_of_ble_eq_true rfl) (Nat.le_of_ble_eq_true rfl) (fun _ _ hf => hf.elim) (fun E hEE => ?_)
  rw [hEE]
  refine AWX_catch hT hK hTab [] ⟨0, 6, 7, 15⟩ [⟨0, 6, 11, 18⟩] rfl (fun z hz => by cases hz) rfl (by decide) hl_15 hc_15 5 3 (ins := .astore_n 3) rfl (Or.inl ⟨3, rfl, rfl⟩) rfl ?_
  refine AL_cnt (lb' := 1) (cells' := 1) (slots' := 6) rfl rfl rfl ?_
  refine AL_ldc hT hK 6 (v := (-2000000002)) rfl (List.mem_of_getElem? (i := 550) (by decide +kernel)) ?_
  refine AL_cnt (lb' := 1) (cells' := 1) (slots' := 6 * 1) (by omega) (by omega) (by omega) ?_
  exact AL_iret hT hE 7 rfl rfl rfl (Nat.le_of_ble_eq_true rfl) (Nat.le_of_ble_eq_true rfl)
theorem el_at_2 : x_X5_riser sE (-27) = .inl az_IAE := by decide +kernel
set_option maxRecDepth 100000 in
set_option maxHeartbeats 4000000 in
theorem l_at_2 (l0 : Launch) (hl0 : l0.stackTraces = false) : AME l0 yL_at (.codeWith yL_at cL_at 4 (some .int) [(0, 17, 18, 70), (0, 17, 22, 15)]) ({ frames := 8, cells := 1, slots := 6, locals := 127 } : Room) [.ref 0, .int 1, .int (-27)] (wd sE) (wd sE) (.int (-2000000002)) 1 := by
  refine AME_ofW (by decide +kernel) (by simp [Value.category]) (Nat.le_of_ble_eq_true rfl) (fun K hK hTab hN hE => ?_)
  have hT := tt_L_at
  refine AL_g hT hK 0 1 (pc' := 1) (lo' := [some (.ref 0), some (.int 1), some (.int (-27)), none]) (st' := [.int 1]) (hp' := wd sE) rfl ?_
  refine AL_if_ne hT hK 1 (tgt := 12) rfl rfl (fun _ => ?_) (fun c => absurd c (by decide))
  refine AL_g hT hK 6 2 (pc' := 14) (lo' := [some (.ref 0), some (.int 1), some (.int (-27)), none]) (st' := [.int (-27), .ref 0]) (hp' := wd sE) rfl ?_
  refine AL_AW ?_
  refine AW_callVX hT hK 8 [.int (-27)] [] (mx_X5_riser l0 hl0 sE (-27) az_IAE el_at_2) cw_X5_riser lk_L_67 vi_X5_riser rfl rfl rfl rfl rfl rfl (Nat.le_of_ble_eq_true rfl) (Nat.le_of_ble_eq_true rfl) (fun _ _ hf => hf.elim) (fun E hEE => ?_)
  rw [hEE]
  refine AWX_catch hT hK hTab [⟨0, 17, 18, 70⟩] ⟨0, 17, 22, 15⟩ [] rfl (fun z hz => by rw [List.mem_singleton.mp hz]; exact ⟨by decide, _, hl_70, hN.1⟩) rfl (by decide) hl_15 hc_15 13 3 (ins := .astore_n 3) rfl (Or.inl ⟨3, rfl, rfl⟩) rfl ?_
  refine AL_cnt (lb' := 1) (cells' := 1) (slots' := 6) rfl rfl rfl ?_
  refine AL_ldc hT hK 14 (v := (-2000000002)) rfl (List.mem_of_getElem? (i := 550) (by decide +kernel)) ?_
  refine AL_cnt (lb' := 1) (cells' := 1) (slots' := 6 * 1) (by omega) (by omega) (by omega) ?_
  exact AL_iret hT hE 15 rfl rfl rfl (Nat.le_of_ble_eq_true rfl) (Nat.le_of_ble_eq_true rfl)
theorem el_at_3 : x_X5_mainAt sE 0 = .inl az_IOB := by decide +kernel
set_option maxRecDepth 100000 in
set_option maxHeartbeats 4000000 in
theorem l_at_3 (l0 : Launch) (hl0 : l0.stackTraces = false) : AME l0 yL_at (.codeWith yL_at cL_at 4 (some .int) [(0, 17, 18, 70), (0, 17, 22, 15)]) ({ frames := 7, cells := 1, slots := 6, locals := 103 } : Room) [.ref 0, .int 0, .int 0] (wd sE) (wd sE) (.int (-2000000001)) 1 := by
  refine AME_ofW (by decide +kernel) (by simp [Value.category]) (Nat.le_of_ble_eq_true rfl) (fun K hK hTab hN hE => ?_)
  have hT := tt_L_at
  refine AL_g hT hK 0 1 (pc' := 1) (lo' := [some (.ref 0), some (.int 0), some (.int 0), none]) (st' := [.int 0]) (hp' := wd sE) rfl ?_
  refine AL_if_ne hT hK 1 (tgt := 12) rfl rfl (fun c => absurd (by decide) c) (fun _ => ?_)
  refine AL_g hT hK 2 2 (pc' := 6) (lo' := [some (.ref 0), some (.int 0), some (.int 0), none]) (st' := [.int 0, .ref 0]) (hp' := wd sE) rfl ?_
  refine AL_AW ?_
  refine AW_callVX hT hK 4 [.int 0] [] (mx_X5_mainAt l0 hl0 sE 0 az_IOB el_at_3) cw_X5_mainAt lk_L_64 vi_X5_mainAt rfl rfl rfl rfl rfl rfl (Nat.le_of_ble_eq_true rfl) (Nat.le_of_ble_eq_true rfl) (fun _ _ hf => hf.elim) (fun E hEE => ?_)
  rw [hEE]
  refine AWX_catch hT hK hTab [] ⟨0, 17, 18, 70⟩ [⟨0, 17, 22, 15⟩] rfl (fun z hz => by cases hz) rfl (by decide) hl_70 hc_70 10 3 (ins := .astore_n 3) rfl (Or.inl ⟨3, rfl, rfl⟩) rfl ?_
  refine AL_cnt (lb' := 1) (cells' := 1) (slots' := 6) rfl rfl rfl ?_
  refine AL_ldc hT hK 11 (v := (-2000000001)) rfl (List.mem_of_getElem? (i := 649) (by decide +kernel)) ?_
  refine AL_cnt (lb' := 1) (cells' := 1) (slots' := 6 * 1) (by omega) (by omega) (by omega) ?_
  exact AL_iret hT hE 12 rfl rfl rfl (Nat.le_of_ble_eq_true rfl) (Nat.le_of_ble_eq_true rfl)
theorem el_at_4 : x_X5_mainAt sE (-1) = .inl az_IOB := by decide +kernel
set_option maxRecDepth 100000 in
set_option maxHeartbeats 4000000 in
theorem l_at_4 (l0 : Launch) (hl0 : l0.stackTraces = false) : AME l0 yL_at (.codeWith yL_at cL_at 4 (some .int) [(0, 17, 18, 70), (0, 17, 22, 15)]) ({ frames := 7, cells := 1, slots := 6, locals := 103 } : Room) [.ref 0, .int 0, .int (-1)] (wd sE) (wd sE) (.int (-2000000001)) 1 := by
  refine AME_ofW (by decide +kernel) (by simp [Value.category]) (Nat.le_of_ble_eq_true rfl) (fun K hK hTab hN hE => ?_)
  have hT := tt_L_at
  refine AL_g hT hK 0 1 (pc' := 1) (lo' := [some (.ref 0), some (.int 0), some (.int (-1)), none]) (st' := [.int 0]) (hp' := wd sE) rfl ?_
  refine AL_if_ne hT hK 1 (tgt := 12) rfl rfl (fun c => absurd (by decide) c) (fun _ => ?_)
  refine AL_g hT hK 2 2 (pc' := 6) (lo' := [some (.ref 0), some (.int 0), some (.int (-1)), none]) (st' := [.int (-1), .ref 0]) (hp' := wd sE) rfl ?_
  refine AL_AW ?_
  refine AW_callVX hT hK 4 [.int (-1)] [] (mx_X5_mainAt l0 hl0 sE (-1) az_IOB el_at_4) cw_X5_mainAt lk_L_64 vi_X5_mainAt rfl rfl rfl rfl rfl rfl (Nat.le_of_ble_eq_true rfl) (Nat.le_of_ble_eq_true rfl) (fun _ _ hf => hf.elim) (fun E hEE => ?_)
  rw [hEE]
  refine AWX_catch hT hK hTab [] ⟨0, 17, 18, 70⟩ [⟨0, 17, 22, 15⟩] rfl (fun z hz => by cases hz) rfl (by decide) hl_70 hc_70 10 3 (ins := .astore_n 3) rfl (Or.inl ⟨3, rfl, rfl⟩) rfl ?_
  refine AL_cnt (lb' := 1) (cells' := 1) (slots' := 6) rfl rfl rfl ?_
  refine AL_ldc hT hK 11 (v := (-2000000001)) rfl (List.mem_of_getElem? (i := 649) (by decide +kernel)) ?_
  refine AL_cnt (lb' := 1) (cells' := 1) (slots' := 6 * 1) (by omega) (by omega) (by omega) ?_
  exact AL_iret hT hE 12 rfl rfl rfl (Nat.le_of_ble_eq_true rfl) (Nat.le_of_ble_eq_true rfl)
set_option maxRecDepth 100000 in
set_option maxHeartbeats 4000000 in
theorem l_all (l0 : Launch) (hl0 : l0.stackTraces = false) : AME l0 yL_all (.code yL_all cL_all 5 (some .long)) ({ frames := 4, cells := 0, slots := 0, locals := 89 } : Room) [.ref 0, .ref 36] (wd sE) (wd sE) (.long 0) 0 := by
  refine AME_of (by decide +kernel) (by simp [Value.category]) (Nat.le_of_ble_eq_true rfl) (fun K hK hN hE => ?_)
  have hT := tt_L_all
  refine AL_g hT hK 0 1 (pc' := 1) (lo' := [some (.ref 0), some (.ref 36), none, none, none]) (st' := [.ref 0]) (hp' := wd sE) rfl ?_
  refine AL_cV hT hK 1 [] [] (m_X5_papers l0 sE) cw_X5_papers lk_L_73 vi_X5_papers rfl rfl rfl rfl rfl rfl rfl rfl (by show _ ≤ 0; omega) (by show _ ≤ 0; omega) (AL_k1 e_papers ?_)
  refine AL_g hT hK 2 1 (pc' := 5) (lo' := [some (.ref 0), some (.ref 36), none, none, none]) (st' := [.long 0]) (hp' := wd sE) rfl ?_
  refine AL_ldc2 hT hK 3 (v := 31) rfl (List.mem_of_getElem? (i := 670) (by decide +kernel)) ?_
  refine AL_g hT hK 4 1 (pc' := 9) (lo' := [some (.ref 0), some (.ref 36), none, none, none]) (st' := [.ref 0, .long 31, .long 0]) (hp' := wd sE) rfl ?_
  refine AL_cV hT hK 5 [] [.long 31, .long 0] (m_X5_fields l0 sE) cw_X5_fields lk_L_79 vi_X5_fields rfl rfl rfl rfl rfl rfl rfl rfl (by show _ ≤ 0; omega) (by show _ ≤ 0; omega) (AL_k1 e_fields ?_)
  refine AL_g hT hK 6 3 (pc' := 15) (lo' := [some (.ref 0), some (.ref 36), none, none, none]) (st' := [.long 0]) (hp' := wd sE) rfl ?_
  refine AL_ldc2 hT hK 9 (v := 7) rfl (List.mem_of_getElem? (i := 671) (by decide +kernel)) ?_
  refine AL_g hT hK 10 1 (pc' := 19) (lo' := [some (.ref 0), some (.ref 36), none, none, none]) (st' := [.ref 0, .long 7, .long 0]) (hp' := wd sE) rfl ?_
  refine AL_cV hT hK 11 [] [.long 7, .long 0] (m_X5_ways l0 sE) cw_X5_ways lk_L_84 vi_X5_ways rfl rfl rfl rfl rfl rfl rfl rfl (by show _ ≤ 0; omega) (by show _ ≤ 0; omega) (AL_k1 e_ways ?_)
  refine AL_g hT hK 12 3 (pc' := 25) (lo' := [some (.ref 0), some (.ref 36), none, none, none]) (st' := [.long 0]) (hp' := wd sE) rfl ?_
  refine AL_ldc2 hT hK 15 (v := 1009) rfl (List.mem_of_getElem? (i := 672) (by decide +kernel)) ?_
  refine AL_g hT hK 16 1 (pc' := 29) (lo' := [some (.ref 0), some (.ref 36), none, none, none]) (st' := [.ref 0, .long 1009, .long 0]) (hp' := wd sE) rfl ?_
  refine AL_cV hT hK 17 [] [.long 1009, .long 0] (m_X5_total l0 sE) cw_X5_total lk_L_89 vi_X5_total rfl rfl rfl rfl rfl rfl rfl rfl (by show _ ≤ 0; omega) (by show _ ≤ 0; omega) (AL_k1 e_total ?_)
  refine AL_g hT hK 18 6 (pc' := 39) (lo' := [some (.ref 0), some (.ref 36), some (.long 0), none, some (.int 0)]) (st' := []) (hp' := wd sE) rfl ?_
  have lp5 : ∀ (n4 i2 : Nat), i2 + n4 = 12 → 0 ≤ i2 → AL K (0) (0) (6 * (0)) 39 [some (.ref 0), some (.ref 36), some (.long 0), none, some (.int (nI i2))] [] (wd sE) := by
    intro n4
    induction n4 with
    | zero =>
      intro i2 hi3 hi3s
      refine AL_g hT hK 24 2 (pc' := 43) (lo' := [some (.ref 0), some (.ref 36), some (.long 0), none, some (.int (nI i2))]) (st' := [.int 12, .int (nI i2)]) (hp' := wd sE) rfl ?_
      refine AL_icmp_ge hT hK 26 (tgt := 91) rfl rfl (fun _ => ?_) (fun c => absurd (az_c0 hi3) c)
      refine AL_msk [true, true, true, false, false] (lo' := [some (.ref 0), some (.ref 36), some (.long 0), none, none]) rfl ?_
      refine AL_g hT hK 53 1 (pc' := 92) (lo' := [some (.ref 0), some (.ref 36), some (.long 0), none, none]) (st' := [.long 0]) (hp' := wd sE) rfl ?_
      refine AL_cnt (lb' := 0) (cells' := 0) (slots' := 6 * 0) (by omega) (by omega) (by omega) ?_
      exact AL_lret hT hE 54 rfl (Nat.le_of_ble_eq_true rfl) (Nat.le_of_ble_eq_true rfl)
    | succ n4 ih6 =>
      intro i2 hi3 hi3s
      refine AL_g hT hK 24 2 (pc' := 43) (lo' := [some (.ref 0), some (.ref 36), some (.long 0), none, some (.int (nI i2))]) (st' := [.int 12, .int (nI i2)]) (hp' := wd sE) rfl ?_
      refine AL_icmp_ge hT hK 26 (tgt := 91) rfl rfl (fun c => absurd c (az_c1 hi3)) (fun _ => ?_)
      refine AL_ldc2 hT hK 27 (v := 1000003) rfl (List.mem_of_getElem? (i := 673) (by decide +kernel)) ?_
      refine AL_g hT hK 28 4 (pc' := 54) (lo' := [some (.ref 0), some (.ref 36), some (.long 0), none, some (.int (nI i2))]) (st' := [.int (nI i2), .ref 36, .long 0]) (hp' := wd sE) rfl ?_
      refine AL_r hT hK 32 i2 rfl rfl (by omega) ?_
      refine AL_if_ge hT hK 33 (tgt := 62) rfl rfl (fun c => absurd c (by decide)) (fun _ => ?_)
      refine AL_g hT hK 34 1 (pc' := 59) (lo' := [some (.ref 0), some (.ref 36), some (.long 0), none, some (.int (nI i2))]) (st' := [.long 0, .long 0]) (hp' := wd sE) rfl ?_
      refine AL_goto hT hK 35 (tgt := 83) rfl rfl ?_
      refine AL_g hT hK 49 3 (pc' := 88) (lo' := [some (.ref 0), some (.ref 36), some (.long 0), none, some (.int (nI i2 + 1))]) (st' := []) (hp' := wd sE) rfl ?_
      refine AL_goto hT hK 52 (tgt := 39) rfl rfl ?_
      refine AL_to (lo' := [some (.ref 0), some (.ref 36), some (.long 0), none, some (.int (nI (i2 + 1)))]) (by rw [nI_1]) rfl rfl ?_
      refine AL_cnt (lb' := (0)) (cells' := (0)) (slots' := 6 * (0)) (by omega) (by omega) (by omega) ?_
      exact ih6 (i2 + 1) (by omega) (by omega)
  refine AL_cnt (lb' := (0)) (cells' := (0)) (slots' := 6 * (0)) (by omega) (by omega) (by omega) ?_
  exact lp5 12 0 rfl (Nat.le_refl _)
set_option maxRecDepth 100000 in
set_option maxHeartbeats 4000000 in
theorem l_isRefused_0 (l0 : Launch) (hl0 : l0.stackTraces = false) : AME l0 yL_isRefused (.code yL_isRefused cL_isRefused 12 (some .boolean)) ({ frames := 9, cells := 41, slots := 246, locals := 190 } : Room) [.ref 0, .ref 36, .ref 37, .ref 38, .int 0] (wd sE) (wd sE) (.int 1) 41 := by
  refine AME_of (by decide +kernel) (by simp [Value.category]) (Nat.le_of_ble_eq_true rfl) (fun K hK hN hE => ?_)
  have hT := tt_L_isRefused
  refine AL_g hT hK 0 2 (pc' := 3) (lo' := [some (.ref 0), some (.ref 36), some (.ref 37), some (.ref 38), some (.int 0), none, none, none, none, none, none, none]) (st' := [.int 2, .int 0]) (hp' := wd sE) rfl ?_
  refine AL_iremN hT hK 2 0 2 rfl rfl rfl (by decide) (by decide) (by decide) ?_
  refine AL_to (st' := [.int 0]) rfl rfl rfl ?_
  refine AL_if_ne hT hK 3 (tgt := 11) rfl rfl (fun c => absurd (by decide) c) (fun _ => ?_)
  refine AL_g hT hK 4 1 (pc' := 8) (lo' := [some (.ref 0), some (.ref 36), some (.ref 37), some (.ref 38), some (.int 0), none, none, none, none, none, none, none]) (st' := [.int 1]) (hp' := wd sE) rfl ?_
  refine AL_goto hT hK 5 (tgt := 12) rfl rfl ?_
  refine AL_g hT hK 7 5 (pc' := 19) (lo' := [some (.ref 0), some (.ref 36), some (.ref 37), some (.ref 38), some (.int 0), some (.int 1), some (.int 0), none, none, none, none, none]) (st' := [.int 0, .ref 38]) (hp' := wd sE) rfl ?_
  refine AL_m hT hK 12 rfl rfl ?_
  refine AL_if_ne hT hK 13 (tgt := 27) rfl rfl (fun c => absurd (by decide) c) (fun _ => ?_)
  refine AL_g hT hK 14 1 (pc' := 24) (lo' := [some (.ref 0), some (.ref 36), some (.ref 37), some (.ref 38), some (.int 0), some (.int 1), some (.int 0), none, none, none, none, none]) (st' := [.int 0]) (hp' := wd sE) rfl ?_
  refine AL_goto hT hK 15 (tgt := 34) rfl rfl ?_
  refine AL_g hT hK 23 3 (pc' := 39) (lo' := [some (.ref 0), some (.ref 36), some (.ref 37), some (.ref 38), some (.int 0), some (.int 1), some (.int 0), some (.int 0), some (.int 0), none, none, none]) (st' := []) (hp' := wd sE) rfl ?_
  have lp5 : ∀ (n4 i2 : Nat), i2 + n4 = 12 → 0 ≤ i2 → AL K (0) (0) (6 * (0)) 39 [some (.ref 0), some (.ref 36), some (.ref 37), some (.ref 38), some (.int 0), some (.int 1), some (.int 0), some (.int 0), some (.int (nI i2)), none, none, none] [] (wd sE) := by
    intro n4
    induction n4 with
    | zero =>
      intro i2 hi3 hi3s
      refine AL_g hT hK 26 2 (pc' := 43) (lo' := [some (.ref 0), some (.ref 36), some (.ref 37), some (.ref 38), some (.int 0), some (.int 1), some (.int 0), some (.int 0), some (.int (nI i2)), none, none, none]) (st' := [.int 12, .int (nI i2)]) (hp' := wd sE) rfl ?_
      refine AL_icmp_ge hT hK 28 (tgt := 72) rfl rfl (fun _ => ?_) (fun c => absurd (az_c0 hi3) c)
      refine AL_msk [true, true, true, true, true, true, true, true, false, false, false, false] (lo' := [some (.ref 0), some (.ref 36), some (.ref 37), some (.ref 38), some (.int 0), some (.int 1), some (.int 0), some (.int 0), none, none, none, none]) rfl ?_
      refine AL_g hT hK 43 2 (pc' := 74) (lo' := [some (.ref 0), some (.ref 36), some (.ref 37), some (.ref 38), some (.int 0), some (.int 1), some (.int 0), some (.int 0), none, none, none, none]) (st' := [.ref 36, .ref 0]) (hp' := wd sE) rfl ?_
      refine AL_cE hT hK hN 45 [.ref 0, .ref 36] [] (l_all l0 hl0) cw_L_all lk_L_127 sm_L_all rfl rfl rfl rfl rfl rfl (by show _ ≤ 41; omega) (by show _ ≤ 246; omega) ?_
      refine AL_g hT hK 46 3 (pc' := 82) (lo' := [some (.ref 0), some (.ref 36), some (.ref 37), some (.ref 38), some (.int 0), some (.int 1), some (.int 0), some (.int 0), some (.long 0), none, none, none]) (st' := [.int 1, .ref 0]) (hp' := wd sE) rfl ?_
      refine AL_if_eq hT hK 49 (tgt := 98) rfl rfl (fun c => absurd c (by decide)) (fun _ => ?_)
      refine AL_g hT hK 50 5 (pc' := 93) (lo' := [some (.ref 0), some (.ref 36), some (.ref 37), some (.ref 38), some (.int 0), some (.int 1), some (.int 0), some (.int 0), some (.long 0), none, none, none]) (st' := [.int 30, .int 0, .int (-1), .ref 0]) (hp' := wd sE) rfl ?_
      refine AL_iremN hT hK 55 0 30 rfl rfl rfl (by decide) (by decide) (by decide) ?_
      refine AL_to (st' := [.int 0, .int (-1), .ref 0]) rfl rfl rfl ?_
      refine AL_g hT hK 56 1 (pc' := 95) (lo' := [some (.ref 0), some (.ref 36), some (.ref 37), some (.ref 38), some (.int 0), some (.int 1), some (.int 0), some (.int 0), some (.long 0), none, none, none]) (st' := [.int (-1), .ref 0]) (hp' := wd sE) rfl ?_
      refine AL_goto hT hK 57 (tgt := 106) rfl rfl ?_
      refine AL_g hT hK 63 1 (pc' := 107) (lo' := [some (.ref 0), some (.ref 36), some (.ref 37), some (.ref 38), some (.int 0), some (.int 1), some (.int 0), some (.int 0), some (.long 0), none, none, none]) (st' := [.int 0, .int (-1), .ref 0]) (hp' := wd sE) rfl ?_
      refine AL_cW hT hK hN 64 [.ref 0, .int (-1), .int 0] [] (l_come_0 l0 hl0) cy_L_come lk_L_131 sm_L_come rfl rfl rfl rfl rfl rfl (by show _ ≤ 41; omega) (by show _ ≤ 246; omega) ?_
      refine AL_ldc hT hK 65 (v := (-2000000002)) rfl (List.mem_of_getElem? (i := 550) (by decide +kernel)) ?_
      refine AL_icmp_ne hT hK 66 (tgt := 209) rfl rfl (fun c => absurd (by decide) c) (fun _ => ?_)
      refine AL_g hT hK 67 5 (pc' := 122) (lo' := [some (.ref 0), some (.ref 36), some (.ref 37), some (.ref 38), some (.int 0), some (.int 1), some (.int 0), some (.int 0), some (.long 0), none, none, none]) (st' := [.int (-1), .int 99, .ref 0]) (hp' := wd sE) rfl ?_
      refine AL_cW hT hK hN 72 [.ref 0, .int 99, .int (-1)] [] (l_come_1 l0 hl0) cy_L_come lk_L_131 sm_L_come rfl rfl rfl rfl rfl rfl (by show _ ≤ 41; omega) (by show _ ≤ 246; omega) ?_
      refine AL_ldc hT hK 73 (v := (-2000000002)) rfl (List.mem_of_getElem? (i := 550) (by decide +kernel)) ?_
      refine AL_icmp_ne hT hK 74 (tgt := 209) rfl rfl (fun c => absurd (by decide) c) (fun _ => ?_)
      refine AL_g hT hK 75 6 (pc' := 140) (lo' := [some (.ref 0), some (.ref 36), some (.ref 37), some (.ref 38), some (.int 0), some (.int 1), some (.int 0), some (.int 0), some (.long 0), none, none, none]) (st' := [.int 19, .int 0, .int 12, .int 1, .int 99, .ref 0]) (hp' := wd sE) rfl ?_
      refine AL_iremN hT hK 81 0 19 rfl rfl rfl (by decide) (by decide) (by decide) ?_
      refine AL_to (st' := [.int 0, .int 12, .int 1, .int 99, .ref 0]) rfl rfl rfl ?_
      refine AL_g hT hK 82 2 (pc' := 143) (lo' := [some (.ref 0), some (.ref 36), some (.ref 37), some (.ref 38), some (.int 0), some (.int 1), some (.int 0), some (.int 0), some (.long 0), none, none, none]) (st' := [.int 4096, .int 99, .ref 0]) (hp' := wd sE) rfl ?_
      refine AL_cW hT hK hN 84 [.ref 0, .int 99, .int 4096] [] (l_come_2 l0 hl0) cy_L_come lk_L_131 sm_L_come rfl rfl rfl rfl rfl rfl (by show _ ≤ 41; omega) (by show _ ≤ 246; omega) ?_
      refine AL_ldc hT hK 85 (v := (-2000000002)) rfl (List.mem_of_getElem? (i := 550) (by decide +kernel)) ?_
      refine AL_icmp_ne hT hK 86 (tgt := 209) rfl rfl (fun c => absurd (by decide) c) (fun _ => ?_)
      refine AL_g hT hK 87 2 (pc' := 153) (lo' := [some (.ref 0), some (.ref 36), some (.ref 37), some (.ref 38), some (.int 0), some (.int 1), some (.int 0), some (.int 0), some (.long 0), none, none, none]) (st' := [.int 0, .ref 38]) (hp' := wd sE) rfl ?_
      refine AL_m hT hK 89 rfl rfl ?_
      refine AL_g hT hK 90 1 (pc' := 156) (lo' := [some (.ref 0), some (.ref 36), some (.ref 37), some (.ref 38), some (.int 0), some (.int 1), some (.int 0), some (.int 0), some (.long 0), none, none, none]) (st' := [.int 12, .int 0]) (hp' := wd sE) rfl ?_
      refine AL_icmp_lt hT hK 91 (tgt := 172) rfl rfl (fun _ => ?_) (fun c => absurd (by decide) c)
      refine AL_g hT hK 98 3 (pc' := 176) (lo' := [some (.ref 0), some (.ref 36), some (.ref 37), some (.ref 38), some (.int 0), some (.int 1), some (.int 0), some (.int 0), some (.long 0), none, none, none]) (st' := [.int 1, .int 1, .ref 0]) (hp' := wd sE) rfl ?_
      refine AL_if_eq hT hK 101 (tgt := 189) rfl rfl (fun c => absurd c (by decide)) (fun _ => ?_)
      refine AL_g hT hK 102 3 (pc' := 184) (lo' := [some (.ref 0), some (.ref 36), some (.ref 37), some (.ref 38), some (.int 0), some (.int 1), some (.int 0), some (.int 0), some (.long 0), none, none, none]) (st' := [.int 30, .int 0, .int (-1), .int 1, .ref 0]) (hp' := wd sE) rfl ?_
      refine AL_iremN hT hK 105 0 30 rfl rfl rfl (by decide) (by decide) (by decide) ?_
      refine AL_to (st' := [.int 0, .int (-1), .int 1, .ref 0]) rfl rfl rfl ?_
      refine AL_g hT hK 106 1 (pc' := 186) (lo' := [some (.ref 0), some (.ref 36), some (.ref 37), some (.ref 38), some (.int 0), some (.int 1), some (.int 0), some (.int 0), some (.long 0), none, none, none]) (st' := [.int (-1), .int 1, .ref 0]) (hp' := wd sE) rfl ?_
      refine AL_goto hT hK 107 (tgt := 197) rfl rfl ?_
      refine AL_cW hT hK hN 113 [.ref 0, .int 1, .int (-1)] [] (l_at_0 l0 hl0) cy_L_at lk_L_119 sm_L_at rfl rfl rfl rfl rfl rfl (by show _ ≤ 41; omega) (by show _ ≤ 246; omega) ?_
      refine AL_ldc hT hK 114 (v := (-2000000002)) rfl (List.mem_of_getElem? (i := 550) (by decide +kernel)) ?_
      refine AL_icmp_ne hT hK 115 (tgt := 209) rfl rfl (fun c => absurd (by decide) c) (fun _ => ?_)
      refine AL_g hT hK 116 1 (pc' := 206) (lo' := [some (.ref 0), some (.ref 36), some (.ref 37), some (.ref 38), some (.int 0), some (.int 1), some (.int 0), some (.int 0), some (.long 0), none, none, none]) (st' := [.int 1]) (hp' := wd sE) rfl ?_
      refine AL_goto hT hK 117 (tgt := 210) rfl rfl ?_
      refine AL_g hT hK 119 3 (pc' := 215) (lo' := [some (.ref 0), some (.ref 36), some (.ref 37), some (.ref 38), some (.int 0), some (.int 1), some (.int 0), some (.int 0), some (.long 0), none, some (.int 1), some (.int 0)]) (st' := []) (hp' := wd sE) rfl ?_
      have lp11 : ∀ (n10 i8 : Nat), i8 + n10 = 13 → 0 ≤ i8 → AL K (0 + 4 + 1 * i8) (0 + 4 + 1 * i8) (6 * (0 + 4 + 1 * i8)) 215 [some (.ref 0), some (.ref 36), some (.ref 37), some (.ref 38), some (.int 0), some (.int 1), some (.int 0), some (.int 0), some (.long 0), none, some (.int 1), some (.int (nI i8))] [] (wd sE) := by
        intro n10
        induction n10 with
        | zero =>
          intro i8 hi9 hi9s
          refine AL_g hT hK 122 2 (pc' := 219) (lo' := [some (.ref 0), some (.ref 36), some (.ref 37), some (.ref 38), some (.int 0), some (.int 1), some (.int 0), some (.int 0), some (.long 0), none, some (.int 1), some (.int (nI i8))]) (st' := [.int 13, .int (nI i8)]) (hp' := wd sE) rfl ?_
          refine AL_icmp_ge hT hK 124 (tgt := 276) rfl rfl (fun _ => ?_) (fun c => absurd (az_c0 hi9) c)
          refine AL_msk [true, true, true, true, true, true, true, true, true, false, true, false] (lo' := [some (.ref 0), some (.ref 36), some (.ref 37), some (.ref 38), some (.int 0), some (.int 1), some (.int 0), some (.int 0), some (.long 0), none, some (.int 1), none]) rfl ?_
          refine AL_cnt (lb' := (0 + 4 + 13)) (cells' := (0 + 4 + 13)) (slots' := 6 * (0 + 4 + 13)) (by omega) (by omega) (by omega) ?_
          refine AL_g hT hK 152 2 (pc' := 279) (lo' := [some (.ref 0), some (.ref 36), some (.ref 37), some (.ref 38), some (.int 0), some (.int 1), some (.int 0), some (.int 0), some (.long 0), none, some (.int 1), some (.int 0)]) (st' := []) (hp' := wd sE) rfl ?_
          have lp17 : ∀ (n16 i14 : Nat), i14 + n16 = 12 → 0 ≤ i14 → AL K ((0 + 4 + 13) + 2 * i14) ((0 + 4 + 13) + 2 * i14) (6 * ((0 + 4 + 13) + 2 * i14)) 279 [some (.ref 0), some (.ref 36), some (.ref 37), some (.ref 38), some (.int 0), some (.int 1), some (.int 0), some (.int 0), some (.long 0), none, some (.int 1), some (.int (nI i14))] [] (wd sE) := by
            intro n16
            induction n16 with
            | zero =>
              intro i14 hi15 hi15s
              refine AL_g hT hK 154 2 (pc' := 283) (lo' := [some (.ref 0), some (.ref 36), some (.ref 37), some (.ref 38), some (.int 0), some (.int 1), some (.int 0), some (.int 0), some (.long 0), none, some (.int 1), some (.int (nI i14))]) (st' := [.int 12, .int (nI i14)]) (hp' := wd sE) rfl ?_
              refine AL_icmp_ge hT hK 156 (tgt := 418) rfl rfl (fun _ => ?_) (fun c => absurd (az_c0 hi15) c)
              refine AL_msk [true, true, true, true, true, true, true, true, true, false, true, false] (lo' := [some (.ref 0), some (.ref 36), some (.ref 37), some (.ref 38), some (.int 0), some (.int 1), some (.int 0), some (.int 0), some (.long 0), none, some (.int 1), none]) rfl ?_
              refine AL_cnt (lb' := ((0 + 4 + 13) + 24)) (cells' := ((0 + 4 + 13) + 24)) (slots' := 6 * ((0 + 4 + 13) + 24)) (by omega) (by omega) (by omega) ?_
              refine AL_g hT hK 223 1 (pc' := 420) (lo' := [some (.ref 0), some (.ref 36), some (.ref 37), some (.ref 38), some (.int 0), some (.int 1), some (.int 0), some (.int 0), some (.long 0), none, some (.int 1), none]) (st' := [.int 1]) (hp' := wd sE) rfl ?_
              refine AL_if_eq hT hK 224 (tgt := 438) rfl rfl (fun c => absurd c (by decide)) (fun _ => ?_)
              refine AL_g hT hK 225 2 (pc' := 425) (lo' := [some (.ref 0), some (.ref 36), some (.ref 37), some (.ref 38), some (.int 0), some (.int 1), some (.int 0), some (.int 0), some (.long 0), none, some (.int 1), none]) (st' := [.ref 36, .ref 0]) (hp' := wd sE) rfl ?_
              refine AL_cE hT hK hN 227 [.ref 0, .ref 36] [] (l_all l0 hl0) cw_L_all lk_L_127 sm_L_all rfl rfl rfl rfl rfl rfl (by show _ ≤ 41; omega) (by show _ ≤ 246; omega) ?_
              refine AL_g hT hK 228 2 (pc' := 431) (lo' := [some (.ref 0), some (.ref 36), some (.ref 37), some (.ref 38), some (.int 0), some (.int 1), some (.int 0), some (.int 0), some (.long 0), none, some (.int 1), none]) (st' := [.int 0]) (hp' := wd sE) rfl ?_
              refine AL_if_ne hT hK 230 (tgt := 438) rfl rfl (fun c => absurd (by decide) c) (fun _ => ?_)
              refine AL_g hT hK 231 1 (pc' := 435) (lo' := [some (.ref 0), some (.ref 36), some (.ref 37), some (.ref 38), some (.int 0), some (.int 1), some (.int 0), some (.int 0), some (.long 0), none, some (.int 1), none]) (st' := [.int 1]) (hp' := wd sE) rfl ?_
              refine AL_goto hT hK 232 (tgt := 439) rfl rfl ?_
              refine AL_cnt (lb' := 41) (cells' := 41) (slots' := 6 * 41) (by omega) (by omega) (by omega) ?_
              exact AL_iret hT hE 234 rfl rfl rfl (Nat.le_of_ble_eq_true rfl) (Nat.le_of_ble_eq_true rfl)
            | succ n16 ih18 =>
              intro i14 hi15 hi15s
              refine AL_g hT hK 154 2 (pc' := 283) (lo' := [some (.ref 0), some (.ref 36), some (.ref 37), some (.ref 38), some (.int 0), some (.int 1), some (.int 0), some (.int 0), some (.long 0), none, some (.int 1), some (.int (nI i14))]) (st' := [.int 12, .int (nI i14)]) (hp' := wd sE) rfl ?_
              refine AL_icmp_ge hT hK 156 (tgt := 418) rfl rfl (fun c => absurd c (az_c1 hi15)) (fun _ => ?_)
              refine AL_g hT hK 157 1 (pc' := 288) (lo' := [some (.ref 0), some (.ref 36), some (.ref 37), some (.ref 38), some (.int 0), some (.int 1), some (.int 0), some (.int 0), some (.long 0), none, some (.int 1), some (.int (nI i14))]) (st' := [.int 1]) (hp' := wd sE) rfl ?_
              refine AL_if_eq hT hK 158 (tgt := 418) rfl rfl (fun c => absurd c (by decide)) (fun _ => ?_)
              refine AL_g hT hK 159 2 (pc' := 294) (lo' := [some (.ref 0), some (.ref 36), some (.ref 37), some (.ref 38), some (.int 0), some (.int 1), some (.int 0), some (.int 0), some (.long 0), none, some (.int 1), some (.int (nI i14))]) (st' := [.int (nI i14), .ref 36]) (hp' := wd sE) rfl ?_
              refine AL_r hT hK 161 i14 rfl rfl (by omega) ?_
              refine AL_if_ge hT hK 162 (tgt := 333) rfl rfl (fun c => absurd c (by decide)) (fun _ => ?_)
              refine AL_g hT hK 163 4 (pc' := 303) (lo' := [some (.ref 0), some (.ref 36), some (.ref 37), some (.ref 38), some (.int 0), some (.int 1), some (.int 0), some (.int 0), some (.long 0), none, some (.int 1), some (.int (nI i14))]) (st' := [.int 0, .int (nI i14), .int 0, .ref 0]) (hp' := wd sE) rfl ?_
              refine AL_cW hT hK hN 167 [.ref 0, .int 0, .int (nI i14), .int 0] [] (l_of 0 (by decide) l0 hl0 (nI i14) 0) cy_L_of lk_L_96 sm_L_of rfl rfl rfl rfl rfl rfl (by show _ ≤ 41; omega) (by show _ ≤ 246; omega) ?_
              refine AL_ldc hT hK 168 (v := (-2000000004)) rfl (List.mem_of_getElem? (i := 549) (by decide +kernel)) ?_
              refine AL_icmp_ne hT hK 169 (tgt := 329) rfl rfl (fun c => absurd (by decide) c) (fun _ => ?_)
              refine AL_g hT hK 170 4 (pc' := 317) (lo' := [some (.ref 0), some (.ref 36), some (.ref 37), some (.ref 38), some (.int 0), some (.int 1), some (.int 0), some (.int 0), some (.long 0), none, some (.int 1), some (.int (nI i14))]) (st' := [.int 0, .int (nI i14), .int 12, .ref 0]) (hp' := wd sE) rfl ?_
              refine AL_cW hT hK hN 174 [.ref 0, .int 12, .int (nI i14), .int 0] [] (l_of 12 (by decide) l0 hl0 (nI i14) 0) cy_L_of lk_L_96 sm_L_of rfl rfl rfl rfl rfl rfl (by show _ ≤ 41; omega) (by show _ ≤ 246; omega) ?_
              refine AL_ldc hT hK 175 (v := (-2000000004)) rfl (List.mem_of_getElem? (i := 549) (by decide +kernel)) ?_
              refine AL_icmp_ne hT hK 176 (tgt := 329) rfl rfl (fun c => absurd (by decide) c) (fun _ => ?_)
              refine AL_g hT hK 177 1 (pc' := 326) (lo' := [some (.ref 0), some (.ref 36), some (.ref 37), some (.ref 38), some (.int 0), some (.int 1), some (.int 0), some (.int 0), some (.long 0), none, some (.int 1), some (.int (nI i14))]) (st' := [.int 1]) (hp' := wd sE) rfl ?_
              refine AL_goto hT hK 178 (tgt := 410) rfl rfl ?_
              refine AL_g hT hK 220 2 (pc' := 415) (lo' := [some (.ref 0), some (.ref 36), some (.ref 37), some (.ref 38), some (.int 0), some (.int 1), some (.int 0), some (.int 0), some (.long 0), none, some (.int 1), some (.int (nI i14 + 1))]) (st' := []) (hp' := wd sE) rfl ?_
              refine AL_goto hT hK 222 (tgt := 279) rfl rfl ?_
              refine AL_to (lo' := [some (.ref 0), some (.ref 36), some (.ref 37), some (.ref 38), some (.int 0), some (.int 1), some (.int 0), some (.int 0), some (.long 0), none, some (.int 1), some (.int (nI (i14 + 1)))]) (by rw [nI_1]) rfl rfl ?_
              refine AL_cnt (lb' := ((0 + 4 + 13) + 2 * (i14 + 1))) (cells' := ((0 + 4 + 13) + 2 * (i14 + 1))) (slots' := 6 * ((0 + 4 + 13) + 2 * (i14 + 1))) (by omega) (by omega) (by omega) ?_
              exact ih18 (i14 + 1) (by omega) (by omega)
          refine AL_cnt (lb' := ((0 + 4 + 13) + 2 * 0)) (cells' := ((0 + 4 + 13) + 2 * 0)) (slots' := 6 * ((0 + 4 + 13) + 2 * 0)) (by omega) (by omega) (by omega) ?_
          exact lp17 12 0 rfl (Nat.le_refl _)
        | succ n10 ih12 =>
          intro i8 hi9 hi9s
          refine AL_g hT hK 122 2 (pc' := 219) (lo' := [some (.ref 0), some (.ref 36), some (.ref 37), some (.ref 38), some (.int 0), some (.int 1), some (.int 0), some (.int 0), some (.long 0), none, some (.int 1), some (.int (nI i8))]) (st' := [.int 13, .int (nI i8)]) (hp' := wd sE) rfl ?_
          refine AL_icmp_ge hT hK 124 (tgt := 276) rfl rfl (fun c => absurd c (az_c1 hi9)) (fun _ => ?_)
          refine AL_g hT hK 125 1 (pc' := 224) (lo' := [some (.ref 0), some (.ref 36), some (.ref 37), some (.ref 38), some (.int 0), some (.int 1), some (.int 0), some (.int 0), some (.long 0), none, some (.int 1), some (.int (nI i8))]) (st' := [.int 1]) (hp' := wd sE) rfl ?_
          refine AL_if_eq hT hK 126 (tgt := 276) rfl rfl (fun c => absurd c (by decide)) (fun _ => ?_)
          refine AL_g hT hK 127 3 (pc' := 232) (lo' := [some (.ref 0), some (.ref 36), some (.ref 37), some (.ref 38), some (.int 0), some (.int 1), some (.int 0), some (.int 0), some (.long 0), none, some (.int 1), some (.int (nI i8))]) (st' := [.int 1, .int (nI i8), .ref 0]) (hp' := wd sE) rfl ?_
          refine AL_if_eq hT hK 130 (tgt := 245) rfl rfl (fun c => absurd c (by decide)) (fun _ => ?_)
          refine AL_g hT hK 131 3 (pc' := 240) (lo' := [some (.ref 0), some (.ref 36), some (.ref 37), some (.ref 38), some (.int 0), some (.int 1), some (.int 0), some (.int 0), some (.long 0), none, some (.int 1), some (.int (nI i8))]) (st' := [.int 30, .int 0, .int (-1), .int (nI i8), .ref 0]) (hp' := wd sE) rfl ?_
          refine AL_iremN hT hK 134 0 30 rfl rfl rfl (by decide) (by decide) (by decide) ?_
          refine AL_to (st' := [.int 0, .int (-1), .int (nI i8), .ref 0]) rfl rfl rfl ?_
          refine AL_g hT hK 135 1 (pc' := 242) (lo' := [some (.ref 0), some (.ref 36), some (.ref 37), some (.ref 38), some (.int 0), some (.int 1), some (.int 0), some (.int 0), some (.long 0), none, some (.int 1), some (.int (nI i8))]) (st' := [.int (-1), .int (nI i8), .ref 0]) (hp' := wd sE) rfl ?_
          refine AL_goto hT hK 136 (tgt := 253) rfl rfl ?_
          refine AL_g hT hK 142 1 (pc' := 255) (lo' := [some (.ref 0), some (.ref 36), some (.ref 37), some (.ref 38), some (.int 0), some (.int 1), some (.int 0), some (.int 0), some (.long 0), none, some (.int 1), some (.int (nI i8))]) (st' := [.int (-5), .int (-1), .int (nI i8), .ref 0]) (hp' := wd sE) rfl ?_
          refine AL_cW hT hK hN 143 [.ref 0, .int (nI i8), .int (-1), .int (-5)] [] (l_of i8 (by omega) l0 hl0 (-1) (-5)) cy_L_of lk_L_96 sm_L_of rfl rfl rfl rfl rfl rfl (by show _ ≤ 41; omega) (by show _ ≤ 246; omega) ?_
          refine AL_ldc hT hK 144 (v := (-2000000004)) rfl (List.mem_of_getElem? (i := 549) (by decide +kernel)) ?_
          refine AL_icmp_ne hT hK 145 (tgt := 267) rfl rfl (fun c => absurd (by decide) c) (fun _ => ?_)
          refine AL_g hT hK 146 1 (pc' := 264) (lo' := [some (.ref 0), some (.ref 36), some (.ref 37), some (.ref 38), some (.int 0), some (.int 1), some (.int 0), some (.int 0), some (.long 0), none, some (.int 1), some (.int (nI i8))]) (st' := [.int 1]) (hp' := wd sE) rfl ?_
          refine AL_goto hT hK 147 (tgt := 268) rfl rfl ?_
          refine AL_g hT hK 149 2 (pc' := 273) (lo' := [some (.ref 0), some (.ref 36), some (.ref 37), some (.ref 38), some (.int 0), some (.int 1), some (.int 0), some (.int 0), some (.long 0), none, some (.int 1), some (.int (nI i8 + 1))]) (st' := []) (hp' := wd sE) rfl ?_
          refine AL_goto hT hK 151 (tgt := 215) rfl rfl ?_
          refine AL_to (lo' := [some (.ref 0), some (.ref 36), some (.ref 37), some (.ref 38), some (.int 0), some (.int 1), some (.int 0), some (.int 0), some (.long 0), none, some (.int 1), some (.int (nI (i8 + 1)))]) (by rw [nI_1]) rfl rfl ?_
          refine AL_cnt (lb' := (0 + 4 + 1 * (i8 + 1))) (cells' := (0 + 4 + 1 * (i8 + 1))) (slots' := 6 * (0 + 4 + 1 * (i8 + 1))) (by omega) (by omega) (by omega) ?_
          exact ih12 (i8 + 1) (by omega) (by omega)
      refine AL_cnt (lb' := (0 + 4 + 1 * 0)) (cells' := (0 + 4 + 1 * 0)) (slots' := 6 * (0 + 4 + 1 * 0)) (by omega) (by omega) (by omega) ?_
      exact lp11 13 0 rfl (Nat.le_refl _)
    | succ n4 ih6 =>
      intro i2 hi3 hi3s
      refine AL_g hT hK 26 2 (pc' := 43) (lo' := [some (.ref 0), some (.ref 36), some (.ref 37), some (.ref 38), some (.int 0), some (.int 1), some (.int 0), some (.int 0), some (.int (nI i2)), none, none, none]) (st' := [.int 12, .int (nI i2)]) (hp' := wd sE) rfl ?_
      refine AL_icmp_ge hT hK 28 (tgt := 72) rfl rfl (fun c => absurd c (az_c1 hi3)) (fun _ => ?_)
      refine AL_g hT hK 29 3 (pc' := 51) (lo' := [some (.ref 0), some (.ref 36), some (.ref 37), some (.ref 38), some (.int 0), some (.int 1), some (.int 0), some (.int 0), some (.int (nI i2)), none, none, none]) (st' := [.int (nI i2), .ref 36, .int 0]) (hp' := wd sE) rfl ?_
      refine AL_r hT hK 32 i2 rfl rfl (by omega) ?_
      refine AL_if_ge hT hK 33 (tgt := 59) rfl rfl (fun c => absurd c (by decide)) (fun _ => ?_)
      refine AL_g hT hK 34 1 (pc' := 56) (lo' := [some (.ref 0), some (.ref 36), some (.ref 37), some (.ref 38), some (.int 0), some (.int 1), some (.int 0), some (.int 0), some (.int (nI i2)), none, none, none]) (st' := [.int 0, .int 0]) (hp' := wd sE) rfl ?_
      refine AL_goto hT hK 35 (tgt := 63) rfl rfl ?_
      refine AL_g hT hK 39 3 (pc' := 69) (lo' := [some (.ref 0), some (.ref 36), some (.ref 37), some (.ref 38), some (.int 0), some (.int 1), some (.int 0), some (.int 0), some (.int (nI i2 + 1)), none, none, none]) (st' := []) (hp' := wd sE) rfl ?_
      refine AL_goto hT hK 42 (tgt := 39) rfl rfl ?_
      refine AL_to (lo' := [some (.ref 0), some (.ref 36), some (.ref 37), some (.ref 38), some (.int 0), some (.int 1), some (.int 0), some (.int 0), some (.int (nI (i2 + 1))), none, none, none]) (by rw [nI_1]) rfl rfl ?_
      refine AL_cnt (lb' := (0)) (cells' := (0)) (slots' := 6 * (0)) (by omega) (by omega) (by omega) ?_
      exact ih6 (i2 + 1) (by omega) (by omega)
  refine AL_cnt (lb' := (0)) (cells' := (0)) (slots' := 6 * (0)) (by omega) (by omega) (by omega) ?_
  exact lp5 12 0 rfl (Nat.le_refl _)
set_option maxRecDepth 100000 in
set_option maxHeartbeats 4000000 in
theorem l_isRefused_1 (l0 : Launch) (hl0 : l0.stackTraces = false) : AME l0 yL_isRefused (.code yL_isRefused cL_isRefused 12 (some .boolean)) ({ frames := 9, cells := 41, slots := 246, locals := 190 } : Room) [.ref 0, .ref 36, .ref 37, .ref 38, .int 1] (wd sE) (wd sE) (.int 1) 41 := by
  refine AME_of (by decide +kernel) (by simp [Value.category]) (Nat.le_of_ble_eq_true rfl) (fun K hK hN hE => ?_)
  have hT := tt_L_isRefused
  refine AL_g hT hK 0 2 (pc' := 3) (lo' := [some (.ref 0), some (.ref 36), some (.ref 37), some (.ref 38), some (.int 1), none, none, none, none, none, none, none]) (st' := [.int 2, .int 1]) (hp' := wd sE) rfl ?_
  refine AL_iremN hT hK 2 1 2 rfl rfl rfl (by decide) (by decide) (by decide) ?_
  refine AL_to (st' := [.int 1]) rfl rfl rfl ?_
  refine AL_if_ne hT hK 3 (tgt := 11) rfl rfl (fun _ => ?_) (fun c => absurd c (by decide))
  refine AL_g hT hK 6 6 (pc' := 19) (lo' := [some (.ref 0), some (.ref 36), some (.ref 37), some (.ref 38), some (.int 1), some (.int 0), some (.int 0), none, none, none, none, none]) (st' := [.int 0, .ref 38]) (hp' := wd sE) rfl ?_
  refine AL_m hT hK 12 rfl rfl ?_
  refine AL_if_ne hT hK 13 (tgt := 27) rfl rfl (fun c => absurd (by decide) c) (fun _ => ?_)
  refine AL_g hT hK 14 1 (pc' := 24) (lo' := [some (.ref 0), some (.ref 36), some (.ref 37), some (.ref 38), some (.int 1), some (.int 0), some (.int 0), none, none, none, none, none]) (st' := [.int 0]) (hp' := wd sE) rfl ?_
  refine AL_goto hT hK 15 (tgt := 34) rfl rfl ?_
  refine AL_g hT hK 23 3 (pc' := 39) (lo' := [some (.ref 0), some (.ref 36), some (.ref 37), some (.ref 38), some (.int 1), some (.int 0), some (.int 0), some (.int 0), some (.int 0), none, none, none]) (st' := []) (hp' := wd sE) rfl ?_
  have lp5 : ∀ (n4 i2 : Nat), i2 + n4 = 12 → 0 ≤ i2 → AL K (0) (0) (6 * (0)) 39 [some (.ref 0), some (.ref 36), some (.ref 37), some (.ref 38), some (.int 1), some (.int 0), some (.int 0), some (.int 0), some (.int (nI i2)), none, none, none] [] (wd sE) := by
    intro n4
    induction n4 with
    | zero =>
      intro i2 hi3 hi3s
      refine AL_g hT hK 26 2 (pc' := 43) (lo' := [some (.ref 0), some (.ref 36), some (.ref 37), some (.ref 38), some (.int 1), some (.int 0), some (.int 0), some (.int 0), some (.int (nI i2)), none, none, none]) (st' := [.int 12, .int (nI i2)]) (hp' := wd sE) rfl ?_
      refine AL_icmp_ge hT hK 28 (tgt := 72) rfl rfl (fun _ => ?_) (fun c => absurd (az_c0 hi3) c)
      refine AL_msk [true, true, true, true, true, true, true, true, false, false, false, false] (lo' := [some (.ref 0), some (.ref 36), some (.ref 37), some (.ref 38), some (.int 1), some (.int 0), some (.int 0), some (.int 0), none, none, none, none]) rfl ?_
      refine AL_g hT hK 43 2 (pc' := 74) (lo' := [some (.ref 0), some (.ref 36), some (.ref 37), some (.ref 38), some (.int 1), some (.int 0), some (.int 0), some (.int 0), none, none, none, none]) (st' := [.ref 36, .ref 0]) (hp' := wd sE) rfl ?_
      refine AL_cE hT hK hN 45 [.ref 0, .ref 36] [] (l_all l0 hl0) cw_L_all lk_L_127 sm_L_all rfl rfl rfl rfl rfl rfl (by show _ ≤ 41; omega) (by show _ ≤ 246; omega) ?_
      refine AL_g hT hK 46 3 (pc' := 82) (lo' := [some (.ref 0), some (.ref 36), some (.ref 37), some (.ref 38), some (.int 1), some (.int 0), some (.int 0), some (.int 0), some (.long 0), none, none, none]) (st' := [.int 0, .ref 0]) (hp' := wd sE) rfl ?_
      refine AL_if_eq hT hK 49 (tgt := 98) rfl rfl (fun _ => ?_) (fun c => absurd (by decide) c)
      refine AL_g hT hK 58 3 (pc' := 104) (lo' := [some (.ref 0), some (.ref 36), some (.ref 37), some (.ref 38), some (.int 1), some (.int 0), some (.int 0), some (.int 0), some (.long 0), none, none, none]) (st' := [.int 30, .int 1, .int 100, .ref 0]) (hp' := wd sE) rfl ?_
      refine AL_iremN hT hK 61 1 30 rfl rfl rfl (by decide) (by decide) (by decide) ?_
      refine AL_to (st' := [.int 1, .int 100, .ref 0]) rfl rfl rfl ?_
      refine AL_g hT hK 62 2 (pc' := 107) (lo' := [some (.ref 0), some (.ref 36), some (.ref 37), some (.ref 38), some (.int 1), some (.int 0), some (.int 0), some (.int 0), some (.long 0), none, none, none]) (st' := [.int 0, .int 101, .ref 0]) (hp' := wd sE) rfl ?_
      refine AL_cW hT hK hN 64 [.ref 0, .int 101, .int 0] [] (l_come_3 l0 hl0) cy_L_come lk_L_131 sm_L_come rfl rfl rfl rfl rfl rfl (by show _ ≤ 41; omega) (by show _ ≤ 246; omega) ?_
      refine AL_ldc hT hK 65 (v := (-2000000002)) rfl (List.mem_of_getElem? (i := 550) (by decide +kernel)) ?_
      refine AL_icmp_ne hT hK 66 (tgt := 209) rfl rfl (fun c => absurd (by decide) c) (fun _ => ?_)
      refine AL_g hT hK 67 5 (pc' := 122) (lo' := [some (.ref 0), some (.ref 36), some (.ref 37), some (.ref 38), some (.int 1), some (.int 0), some (.int 0), some (.int 0), some (.long 0), none, none, none]) (st' := [.int (-1), .int 99, .ref 0]) (hp' := wd sE) rfl ?_
      refine AL_cW hT hK hN 72 [.ref 0, .int 99, .int (-1)] [] (l_come_1 l0 hl0) cy_L_come lk_L_131 sm_L_come rfl rfl rfl rfl rfl rfl (by show _ ≤ 41; omega) (by show _ ≤ 246; omega) ?_
      refine AL_ldc hT hK 73 (v := (-2000000002)) rfl (List.mem_of_getElem? (i := 550) (by decide +kernel)) ?_
      refine AL_icmp_ne hT hK 74 (tgt := 209) rfl rfl (fun c => absurd (by decide) c) (fun _ => ?_)
      refine AL_g hT hK 75 6 (pc' := 140) (lo' := [some (.ref 0), some (.ref 36), some (.ref 37), some (.ref 38), some (.int 1), some (.int 0), some (.int 0), some (.int 0), some (.long 0), none, none, none]) (st' := [.int 19, .int 1, .int 12, .int 1, .int 99, .ref 0]) (hp' := wd sE) rfl ?_
      refine AL_iremN hT hK 81 1 19 rfl rfl rfl (by decide) (by decide) (by decide) ?_
      refine AL_to (st' := [.int 1, .int 12, .int 1, .int 99, .ref 0]) rfl rfl rfl ?_
      refine AL_g hT hK 82 2 (pc' := 143) (lo' := [some (.ref 0), some (.ref 36), some (.ref 37), some (.ref 38), some (.int 1), some (.int 0), some (.int 0), some (.int 0), some (.long 0), none, none, none]) (st' := [.int 8192, .int 99, .ref 0]) (hp' := wd sE) rfl ?_
      refine AL_cW hT hK hN 84 [.ref 0, .int 99, .int 8192] [] (l_come_4 l0 hl0) cy_L_come lk_L_131 sm_L_come rfl rfl rfl rfl rfl rfl (by show _ ≤ 41; omega) (by show _ ≤ 246; omega) ?_
      refine AL_ldc hT hK 85 (v := (-2000000002)) rfl (List.mem_of_getElem? (i := 550) (by decide +kernel)) ?_
      refine AL_icmp_ne hT hK 86 (tgt := 209) rfl rfl (fun c => absurd (by decide) c) (fun _ => ?_)
      refine AL_g hT hK 87 2 (pc' := 153) (lo' := [some (.ref 0), some (.ref 36), some (.ref 37), some (.ref 38), some (.int 1), some (.int 0), some (.int 0), some (.int 0), some (.long 0), none, none, none]) (st' := [.int 0, .ref 38]) (hp' := wd sE) rfl ?_
      refine AL_m hT hK 89 rfl rfl ?_
      refine AL_g hT hK 90 1 (pc' := 156) (lo' := [some (.ref 0), some (.ref 36), some (.ref 37), some (.ref 38), some (.int 1), some (.int 0), some (.int 0), some (.int 0), some (.long 0), none, none, none]) (st' := [.int 12, .int 0]) (hp' := wd sE) rfl ?_
      refine AL_icmp_lt hT hK 91 (tgt := 172) rfl rfl (fun _ => ?_) (fun c => absurd (by decide) c)
      refine AL_g hT hK 98 3 (pc' := 176) (lo' := [some (.ref 0), some (.ref 36), some (.ref 37), some (.ref 38), some (.int 1), some (.int 0), some (.int 0), some (.int 0), some (.long 0), none, none, none]) (st' := [.int 0, .int 1, .ref 0]) (hp' := wd sE) rfl ?_
      refine AL_if_eq hT hK 101 (tgt := 189) rfl rfl (fun _ => ?_) (fun c => absurd (by decide) c)
      refine AL_g hT hK 108 3 (pc' := 195) (lo' := [some (.ref 0), some (.ref 36), some (.ref 37), some (.ref 38), some (.int 1), some (.int 0), some (.int 0), some (.int 0), some (.long 0), none, none, none]) (st' := [.int 30, .int 1, .int 100, .int 1, .ref 0]) (hp' := wd sE) rfl ?_
      refine AL_iremN hT hK 111 1 30 rfl rfl rfl (by decide) (by decide) (by decide) ?_
      refine AL_to (st' := [.int 1, .int 100, .int 1, .ref 0]) rfl rfl rfl ?_
      refine AL_g hT hK 112 1 (pc' := 197) (lo' := [some (.ref 0), some (.ref 36), some (.ref 37), some (.ref 38), some (.int 1), some (.int 0), some (.int 0), some (.int 0), some (.long 0), none, none, none]) (st' := [.int 101, .int 1, .ref 0]) (hp' := wd sE) rfl ?_
      refine AL_cW hT hK hN 113 [.ref 0, .int 1, .int 101] [] (l_at_1 l0 hl0) cy_L_at lk_L_119 sm_L_at rfl rfl rfl rfl rfl rfl (by show _ ≤ 41; omega) (by show _ ≤ 246; omega) ?_
      refine AL_ldc hT hK 114 (v := (-2000000002)) rfl (List.mem_of_getElem? (i := 550) (by decide +kernel)) ?_
      refine AL_icmp_ne hT hK 115 (tgt := 209) rfl rfl (fun c => absurd (by decide) c) (fun _ => ?_)
      refine AL_g hT hK 116 1 (pc' := 206) (lo' := [some (.ref 0), some (.ref 36), some (.ref 37), some (.ref 38), some (.int 1), some (.int 0), some (.int 0), some (.int 0), some (.long 0), none, none, none]) (st' := [.int 1]) (hp' := wd sE) rfl ?_
      refine AL_goto hT hK 117 (tgt := 210) rfl rfl ?_
      refine AL_g hT hK 119 3 (pc' := 215) (lo' := [some (.ref 0), some (.ref 36), some (.ref 37), some (.ref 38), some (.int 1), some (.int 0), some (.int 0), some (.int 0), some (.long 0), none, some (.int 1), some (.int 0)]) (st' := []) (hp' := wd sE) rfl ?_
      have lp11 : ∀ (n10 i8 : Nat), i8 + n10 = 13 → 0 ≤ i8 → AL K (0 + 4 + 1 * i8) (0 + 4 + 1 * i8) (6 * (0 + 4 + 1 * i8)) 215 [some (.ref 0), some (.ref 36), some (.ref 37), some (.ref 38), some (.int 1), some (.int 0), some (.int 0), some (.int 0), some (.long 0), none, some (.int 1), some (.int (nI i8))] [] (wd sE) := by
        intro n10
        induction n10 with
        | zero =>
          intro i8 hi9 hi9s
          refine AL_g hT hK 122 2 (pc' := 219) (lo' := [some (.ref 0), some (.ref 36), some (.ref 37), some (.ref 38), some (.int 1), some (.int 0), some (.int 0), some (.int 0), some (.long 0), none, some (.int 1), some (.int (nI i8))]) (st' := [.int 13, .int (nI i8)]) (hp' := wd sE) rfl ?_
          refine AL_icmp_ge hT hK 124 (tgt := 276) rfl rfl (fun _ => ?_) (fun c => absurd (az_c0 hi9) c)
          refine AL_msk [true, true, true, true, true, true, true, true, true, false, true, false] (lo' := [some (.ref 0), some (.ref 36), some (.ref 37), some (.ref 38), some (.int 1), some (.int 0), some (.int 0), some (.int 0), some (.long 0), none, some (.int 1), none]) rfl ?_
          refine AL_cnt (lb' := (0 + 4 + 13)) (cells' := (0 + 4 + 13)) (slots' := 6 * (0 + 4 + 13)) (by omega) (by omega) (by omega) ?_
          refine AL_g hT hK 152 2 (pc' := 279) (lo' := [some (.ref 0), some (.ref 36), some (.ref 37), some (.ref 38), some (.int 1), some (.int 0), some (.int 0), some (.int 0), some (.long 0), none, some (.int 1), some (.int 0)]) (st' := []) (hp' := wd sE) rfl ?_
          have lp17 : ∀ (n16 i14 : Nat), i14 + n16 = 12 → 0 ≤ i14 → AL K ((0 + 4 + 13) + 2 * i14) ((0 + 4 + 13) + 2 * i14) (6 * ((0 + 4 + 13) + 2 * i14)) 279 [some (.ref 0), some (.ref 36), some (.ref 37), some (.ref 38), some (.int 1), some (.int 0), some (.int 0), some (.int 0), some (.long 0), none, some (.int 1), some (.int (nI i14))] [] (wd sE) := by
            intro n16
            induction n16 with
            | zero =>
              intro i14 hi15 hi15s
              refine AL_g hT hK 154 2 (pc' := 283) (lo' := [some (.ref 0), some (.ref 36), some (.ref 37), some (.ref 38), some (.int 1), some (.int 0), some (.int 0), some (.int 0), some (.long 0), none, some (.int 1), some (.int (nI i14))]) (st' := [.int 12, .int (nI i14)]) (hp' := wd sE) rfl ?_
              refine AL_icmp_ge hT hK 156 (tgt := 418) rfl rfl (fun _ => ?_) (fun c => absurd (az_c0 hi15) c)
              refine AL_msk [true, true, true, true, true, true, true, true, true, false, true, false] (lo' := [some (.ref 0), some (.ref 36), some (.ref 37), some (.ref 38), some (.int 1), some (.int 0), some (.int 0), some (.int 0), some (.long 0), none, some (.int 1), none]) rfl ?_
              refine AL_cnt (lb' := ((0 + 4 + 13) + 24)) (cells' := ((0 + 4 + 13) + 24)) (slots' := 6 * ((0 + 4 + 13) + 24)) (by omega) (by omega) (by omega) ?_
              refine AL_g hT hK 223 1 (pc' := 420) (lo' := [some (.ref 0), some (.ref 36), some (.ref 37), some (.ref 38), some (.int 1), some (.int 0), some (.int 0), some (.int 0), some (.long 0), none, some (.int 1), none]) (st' := [.int 1]) (hp' := wd sE) rfl ?_
              refine AL_if_eq hT hK 224 (tgt := 438) rfl rfl (fun c => absurd c (by decide)) (fun _ => ?_)
              refine AL_g hT hK 225 2 (pc' := 425) (lo' := [some (.ref 0), some (.ref 36), some (.ref 37), some (.ref 38), some (.int 1), some (.int 0), some (.int 0), some (.int 0), some (.long 0), none, some (.int 1), none]) (st' := [.ref 36, .ref 0]) (hp' := wd sE) rfl ?_
              refine AL_cE hT hK hN 227 [.ref 0, .ref 36] [] (l_all l0 hl0) cw_L_all lk_L_127 sm_L_all rfl rfl rfl rfl rfl rfl (by show _ ≤ 41; omega) (by show _ ≤ 246; omega) ?_
              refine AL_g hT hK 228 2 (pc' := 431) (lo' := [some (.ref 0), some (.ref 36), some (.ref 37), some (.ref 38), some (.int 1), some (.int 0), some (.int 0), some (.int 0), some (.long 0), none, some (.int 1), none]) (st' := [.int 0]) (hp' := wd sE) rfl ?_
              refine AL_if_ne hT hK 230 (tgt := 438) rfl rfl (fun c => absurd (by decide) c) (fun _ => ?_)
              refine AL_g hT hK 231 1 (pc' := 435) (lo' := [some (.ref 0), some (.ref 36), some (.ref 37), some (.ref 38), some (.int 1), some (.int 0), some (.int 0), some (.int 0), some (.long 0), none, some (.int 1), none]) (st' := [.int 1]) (hp' := wd sE) rfl ?_
              refine AL_goto hT hK 232 (tgt := 439) rfl rfl ?_
              refine AL_cnt (lb' := 41) (cells' := 41) (slots' := 6 * 41) (by omega) (by omega) (by omega) ?_
              exact AL_iret hT hE 234 rfl rfl rfl (Nat.le_of_ble_eq_true rfl) (Nat.le_of_ble_eq_true rfl)
            | succ n16 ih18 =>
              intro i14 hi15 hi15s
              refine AL_g hT hK 154 2 (pc' := 283) (lo' := [some (.ref 0), some (.ref 36), some (.ref 37), some (.ref 38), some (.int 1), some (.int 0), some (.int 0), some (.int 0), some (.long 0), none, some (.int 1), some (.int (nI i14))]) (st' := [.int 12, .int (nI i14)]) (hp' := wd sE) rfl ?_
              refine AL_icmp_ge hT hK 156 (tgt := 418) rfl rfl (fun c => absurd c (az_c1 hi15)) (fun _ => ?_)
              refine AL_g hT hK 157 1 (pc' := 288) (lo' := [some (.ref 0), some (.ref 36), some (.ref 37), some (.ref 38), some (.int 1), some (.int 0), some (.int 0), some (.int 0), some (.long 0), none, some (.int 1), some (.int (nI i14))]) (st' := [.int 1]) (hp' := wd sE) rfl ?_
              refine AL_if_eq hT hK 158 (tgt := 418) rfl rfl (fun c => absurd c (by decide)) (fun _ => ?_)
              refine AL_g hT hK 159 2 (pc' := 294) (lo' := [some (.ref 0), some (.ref 36), some (.ref 37), some (.ref 38), some (.int 1), some (.int 0), some (.int 0), some (.int 0), some (.long 0), none, some (.int 1), some (.int (nI i14))]) (st' := [.int (nI i14), .ref 36]) (hp' := wd sE) rfl ?_
              refine AL_r hT hK 161 i14 rfl rfl (by omega) ?_
              refine AL_if_ge hT hK 162 (tgt := 333) rfl rfl (fun c => absurd c (by decide)) (fun _ => ?_)
              refine AL_g hT hK 163 4 (pc' := 303) (lo' := [some (.ref 0), some (.ref 36), some (.ref 37), some (.ref 38), some (.int 1), some (.int 0), some (.int 0), some (.int 0), some (.long 0), none, some (.int 1), some (.int (nI i14))]) (st' := [.int 0, .int (nI i14), .int 0, .ref 0]) (hp' := wd sE) rfl ?_
              refine AL_cW hT hK hN 167 [.ref 0, .int 0, .int (nI i14), .int 0] [] (l_of 0 (by decide) l0 hl0 (nI i14) 0) cy_L_of lk_L_96 sm_L_of rfl rfl rfl rfl rfl rfl (by show _ ≤ 41; omega) (by show _ ≤ 246; omega) ?_
              refine AL_ldc hT hK 168 (v := (-2000000004)) rfl (List.mem_of_getElem? (i := 549) (by decide +kernel)) ?_
              refine AL_icmp_ne hT hK 169 (tgt := 329) rfl rfl (fun c => absurd (by decide) c) (fun _ => ?_)
              refine AL_g hT hK 170 4 (pc' := 317) (lo' := [some (.ref 0), some (.ref 36), some (.ref 37), some (.ref 38), some (.int 1), some (.int 0), some (.int 0), some (.int 0), some (.long 0), none, some (.int 1), some (.int (nI i14))]) (st' := [.int 0, .int (nI i14), .int 12, .ref 0]) (hp' := wd sE) rfl ?_
              refine AL_cW hT hK hN 174 [.ref 0, .int 12, .int (nI i14), .int 0] [] (l_of 12 (by decide) l0 hl0 (nI i14) 0) cy_L_of lk_L_96 sm_L_of rfl rfl rfl rfl rfl rfl (by show _ ≤ 41; omega) (by show _ ≤ 246; omega) ?_
              refine AL_ldc hT hK 175 (v := (-2000000004)) rfl (List.mem_of_getElem? (i := 549) (by decide +kernel)) ?_
              refine AL_icmp_ne hT hK 176 (tgt := 329) rfl rfl (fun c => absurd (by decide) c) (fun _ => ?_)
              refine AL_g hT hK 177 1 (pc' := 326) (lo' := [some (.ref 0), some (.ref 36), some (.ref 37), some (.ref 38), some (.int 1), some (.int 0), some (.int 0), some (.int 0), some (.long 0), none, some (.int 1), some (.int (nI i14))]) (st' := [.int 1]) (hp' := wd sE) rfl ?_
              refine AL_goto hT hK 178 (tgt := 410) rfl rfl ?_
              refine AL_g hT hK 220 2 (pc' := 415) (lo' := [some (.ref 0), some (.ref 36), some (.ref 37), some (.ref 38), some (.int 1), some (.int 0), some (.int 0), some (.int 0), some (.long 0), none, some (.int 1), some (.int (nI i14 + 1))]) (st' := []) (hp' := wd sE) rfl ?_
              refine AL_goto hT hK 222 (tgt := 279) rfl rfl ?_
              refine AL_to (lo' := [some (.ref 0), some (.ref 36), some (.ref 37), some (.ref 38), some (.int 1), some (.int 0), some (.int 0), some (.int 0), some (.long 0), none, some (.int 1), some (.int (nI (i14 + 1)))]) (by rw [nI_1]) rfl rfl ?_
              refine AL_cnt (lb' := ((0 + 4 + 13) + 2 * (i14 + 1))) (cells' := ((0 + 4 + 13) + 2 * (i14 + 1))) (slots' := 6 * ((0 + 4 + 13) + 2 * (i14 + 1))) (by omega) (by omega) (by omega) ?_
              exact ih18 (i14 + 1) (by omega) (by omega)
          refine AL_cnt (lb' := ((0 + 4 + 13) + 2 * 0)) (cells' := ((0 + 4 + 13) + 2 * 0)) (slots' := 6 * ((0 + 4 + 13) + 2 * 0)) (by omega) (by omega) (by omega) ?_
          exact lp17 12 0 rfl (Nat.le_refl _)
        | succ n10 ih12 =>
          intro i8 hi9 hi9s
          refine AL_g hT hK 122 2 (pc' := 219) (lo' := [some (.ref 0), some (.ref 36), some (.ref 37), some (.ref 38), some (.int 1), some (.int 0), some (.int 0), some (.int 0), some (.long 0), none, some (.int 1), some (.int (nI i8))]) (st' := [.int 13, .int (nI i8)]) (hp' := wd sE) rfl ?_
          refine AL_icmp_ge hT hK 124 (tgt := 276) rfl rfl (fun c => absurd c (az_c1 hi9)) (fun _ => ?_)
          refine AL_g hT hK 125 1 (pc' := 224) (lo' := [some (.ref 0), some (.ref 36), some (.ref 37), some (.ref 38), some (.int 1), some (.int 0), some (.int 0), some (.int 0), some (.long 0), none, some (.int 1), some (.int (nI i8))]) (st' := [.int 1]) (hp' := wd sE) rfl ?_
          refine AL_if_eq hT hK 126 (tgt := 276) rfl rfl (fun c => absurd c (by decide)) (fun _ => ?_)
          refine AL_g hT hK 127 3 (pc' := 232) (lo' := [some (.ref 0), some (.ref 36), some (.ref 37), some (.ref 38), some (.int 1), some (.int 0), some (.int 0), some (.int 0), some (.long 0), none, some (.int 1), some (.int (nI i8))]) (st' := [.int 0, .int (nI i8), .ref 0]) (hp' := wd sE) rfl ?_
          refine AL_if_eq hT hK 130 (tgt := 245) rfl rfl (fun _ => ?_) (fun c => absurd (by decide) c)
          refine AL_g hT hK 137 3 (pc' := 251) (lo' := [some (.ref 0), some (.ref 36), some (.ref 37), some (.ref 38), some (.int 1), some (.int 0), some (.int 0), some (.int 0), some (.long 0), none, some (.int 1), some (.int (nI i8))]) (st' := [.int 30, .int 1, .int 12, .int (nI i8), .ref 0]) (hp' := wd sE) rfl ?_
          refine AL_iremN hT hK 140 1 30 rfl rfl rfl (by decide) (by decide) (by decide) ?_
          refine AL_to (st' := [.int 1, .int 12, .int (nI i8), .ref 0]) rfl rfl rfl ?_
          refine AL_g hT hK 141 2 (pc' := 255) (lo' := [some (.ref 0), some (.ref 36), some (.ref 37), some (.ref 38), some (.int 1), some (.int 0), some (.int 0), some (.int 0), some (.long 0), none, some (.int 1), some (.int (nI i8))]) (st' := [.int (-5), .int 13, .int (nI i8), .ref 0]) (hp' := wd sE) rfl ?_
          refine AL_cW hT hK hN 143 [.ref 0, .int (nI i8), .int 13, .int (-5)] [] (l_of i8 (by omega) l0 hl0 13 (-5)) cy_L_of lk_L_96 sm_L_of rfl rfl rfl rfl rfl rfl (by show _ ≤ 41; omega) (by show _ ≤ 246; omega) ?_
          refine AL_ldc hT hK 144 (v := (-2000000004)) rfl (List.mem_of_getElem? (i := 549) (by decide +kernel)) ?_
          refine AL_icmp_ne hT hK 145 (tgt := 267) rfl rfl (fun c => absurd (by decide) c) (fun _ => ?_)
          refine AL_g hT hK 146 1 (pc' := 264) (lo' := [some (.ref 0), some (.ref 36), some (.ref 37), some (.ref 38), some (.int 1), some (.int 0), some (.int 0), some (.int 0), some (.long 0), none, some (.int 1), some (.int (nI i8))]) (st' := [.int 1]) (hp' := wd sE) rfl ?_
          refine AL_goto hT hK 147 (tgt := 268) rfl rfl ?_
          refine AL_g hT hK 149 2 (pc' := 273) (lo' := [some (.ref 0), some (.ref 36), some (.ref 37), some (.ref 38), some (.int 1), some (.int 0), some (.int 0), some (.int 0), some (.long 0), none, some (.int 1), some (.int (nI i8 + 1))]) (st' := []) (hp' := wd sE) rfl ?_
          refine AL_goto hT hK 151 (tgt := 215) rfl rfl ?_
          refine AL_to (lo' := [some (.ref 0), some (.ref 36), some (.ref 37), some (.ref 38), some (.int 1), some (.int 0), some (.int 0), some (.int 0), some (.long 0), none, some (.int 1), some (.int (nI (i8 + 1)))]) (by rw [nI_1]) rfl rfl ?_
          refine AL_cnt (lb' := (0 + 4 + 1 * (i8 + 1))) (cells' := (0 + 4 + 1 * (i8 + 1))) (slots' := 6 * (0 + 4 + 1 * (i8 + 1))) (by omega) (by omega) (by omega) ?_
          exact ih12 (i8 + 1) (by omega) (by omega)
      refine AL_cnt (lb' := (0 + 4 + 1 * 0)) (cells' := (0 + 4 + 1 * 0)) (slots' := 6 * (0 + 4 + 1 * 0)) (by omega) (by omega) (by omega) ?_
      exact lp11 13 0 rfl (Nat.le_refl _)
    | succ n4 ih6 =>
      intro i2 hi3 hi3s
      refine AL_g hT hK 26 2 (pc' := 43) (lo' := [some (.ref 0), some (.ref 36), some (.ref 37), some (.ref 38), some (.int 1), some (.int 0), some (.int 0), some (.int 0), some (.int (nI i2)), none, none, none]) (st' := [.int 12, .int (nI i2)]) (hp' := wd sE) rfl ?_
      refine AL_icmp_ge hT hK 28 (tgt := 72) rfl rfl (fun c => absurd c (az_c1 hi3)) (fun _ => ?_)
      refine AL_g hT hK 29 3 (pc' := 51) (lo' := [some (.ref 0), some (.ref 36), some (.ref 37), some (.ref 38), some (.int 1), some (.int 0), some (.int 0), some (.int 0), some (.int (nI i2)), none, none, none]) (st' := [.int (nI i2), .ref 36, .int 0]) (hp' := wd sE) rfl ?_
      refine AL_r hT hK 32 i2 rfl rfl (by omega) ?_
      refine AL_if_ge hT hK 33 (tgt := 59) rfl rfl (fun c => absurd c (by decide)) (fun _ => ?_)
      refine AL_g hT hK 34 1 (pc' := 56) (lo' := [some (.ref 0), some (.ref 36), some (.ref 37), some (.ref 38), some (.int 1), some (.int 0), some (.int 0), some (.int 0), some (.int (nI i2)), none, none, none]) (st' := [.int 0, .int 0]) (hp' := wd sE) rfl ?_
      refine AL_goto hT hK 35 (tgt := 63) rfl rfl ?_
      refine AL_g hT hK 39 3 (pc' := 69) (lo' := [some (.ref 0), some (.ref 36), some (.ref 37), some (.ref 38), some (.int 1), some (.int 0), some (.int 0), some (.int 0), some (.int (nI i2 + 1)), none, none, none]) (st' := []) (hp' := wd sE) rfl ?_
      refine AL_goto hT hK 42 (tgt := 39) rfl rfl ?_
      refine AL_to (lo' := [some (.ref 0), some (.ref 36), some (.ref 37), some (.ref 38), some (.int 1), some (.int 0), some (.int 0), some (.int 0), some (.int (nI (i2 + 1))), none, none, none]) (by rw [nI_1]) rfl rfl ?_
      refine AL_cnt (lb' := (0)) (cells' := (0)) (slots' := 6 * (0)) (by omega) (by omega) (by omega) ?_
      exact ih6 (i2 + 1) (by omega) (by omega)
  refine AL_cnt (lb' := (0)) (cells' := (0)) (slots' := 6 * (0)) (by omega) (by omega) (by omega) ?_
  exact lp5 12 0 rfl (Nat.le_refl _)
set_option maxRecDepth 100000 in
set_option maxHeartbeats 4000000 in
theorem l_isRefused_2 (l0 : Launch) (hl0 : l0.stackTraces = false) : AME l0 yL_isRefused (.code yL_isRefused cL_isRefused 12 (some .boolean)) ({ frames := 9, cells := 41, slots := 246, locals := 190 } : Room) [.ref 0, .ref 36, .ref 37, .ref 38, .int 715827866] (wd sE) (wd sE) (.int 1) 41 := by
  refine AME_of (by decide +kernel) (by simp [Value.category]) (Nat.le_of_ble_eq_true rfl) (fun K hK hN hE => ?_)
  have hT := tt_L_isRefused
  refine AL_g hT hK 0 2 (pc' := 3) (lo' := [some (.ref 0), some (.ref 36), some (.ref 37), some (.ref 38), some (.int 715827866), none, none, none, none, none, none, none]) (st' := [.int 2, .int 715827866]) (hp' := wd sE) rfl ?_
  refine AL_iremN hT hK 2 715827866 2 rfl rfl rfl (by decide) (by decide) (by decide) ?_
  refine AL_to (st' := [.int 0]) rfl rfl rfl ?_
  refine AL_if_ne hT hK 3 (tgt := 11) rfl rfl (fun c => absurd (by decide) c) (fun _ => ?_)
  refine AL_g hT hK 4 1 (pc' := 8) (lo' := [some (.ref 0), some (.ref 36), some (.ref 37), some (.ref 38), some (.int 715827866), none, none, none, none, none, none, none]) (st' := [.int 1]) (hp' := wd sE) rfl ?_
  refine AL_goto hT hK 5 (tgt := 12) rfl rfl ?_
  refine AL_g hT hK 7 5 (pc' := 19) (lo' := [some (.ref 0), some (.ref 36), some (.ref 37), some (.ref 38), some (.int 715827866), some (.int 1), some (.int 0), none, none, none, none, none]) (st' := [.int 0, .ref 38]) (hp' := wd sE) rfl ?_
  refine AL_m hT hK 12 rfl rfl ?_
  refine AL_if_ne hT hK 13 (tgt := 27) rfl rfl (fun c => absurd (by decide) c) (fun _ => ?_)
  refine AL_g hT hK 14 1 (pc' := 24) (lo' := [some (.ref 0), some (.ref 36), some (.ref 37), some (.ref 38), some (.int 715827866), some (.int 1), some (.int 0), none, none, none, none, none]) (st' := [.int 0]) (hp' := wd sE) rfl ?_
  refine AL_goto hT hK 15 (tgt := 34) rfl rfl ?_
  refine AL_g hT hK 23 3 (pc' := 39) (lo' := [some (.ref 0), some (.ref 36), some (.ref 37), some (.ref 38), some (.int 715827866), some (.int 1), some (.int 0), some (.int 0), some (.int 0), none, none, none]) (st' := []) (hp' := wd sE) rfl ?_
  have lp5 : ∀ (n4 i2 : Nat), i2 + n4 = 12 → 0 ≤ i2 → AL K (0) (0) (6 * (0)) 39 [some (.ref 0), some (.ref 36), some (.ref 37), some (.ref 38), some (.int 715827866), some (.int 1), some (.int 0), some (.int 0), some (.int (nI i2)), none, none, none] [] (wd sE) := by
    intro n4
    induction n4 with
    | zero =>
      intro i2 hi3 hi3s
      refine AL_g hT hK 26 2 (pc' := 43) (lo' := [some (.ref 0), some (.ref 36), some (.ref 37), some (.ref 38), some (.int 715827866), some (.int 1), some (.int 0), some (.int 0), some (.int (nI i2)), none, none, none]) (st' := [.int 12, .int (nI i2)]) (hp' := wd sE) rfl ?_
      refine AL_icmp_ge hT hK 28 (tgt := 72) rfl rfl (fun _ => ?_) (fun c => absurd (az_c0 hi3) c)
      refine AL_msk [true, true, true, true, true, true, true, true, false, false, false, false] (lo' := [some (.ref 0), some (.ref 36), some (.ref 37), some (.ref 38), some (.int 715827866), some (.int 1), some (.int 0), some (.int 0), none, none, none, none]) rfl ?_
      refine AL_g hT hK 43 2 (pc' := 74) (lo' := [some (.ref 0), some (.ref 36), some (.ref 37), some (.ref 38), some (.int 715827866), some (.int 1), some (.int 0), some (.int 0), none, none, none, none]) (st' := [.ref 36, .ref 0]) (hp' := wd sE) rfl ?_
      refine AL_cE hT hK hN 45 [.ref 0, .ref 36] [] (l_all l0 hl0) cw_L_all lk_L_127 sm_L_all rfl rfl rfl rfl rfl rfl (by show _ ≤ 41; omega) (by show _ ≤ 246; omega) ?_
      refine AL_g hT hK 46 3 (pc' := 82) (lo' := [some (.ref 0), some (.ref 36), some (.ref 37), some (.ref 38), some (.int 715827866), some (.int 1), some (.int 0), some (.int 0), some (.long 0), none, none, none]) (st' := [.int 1, .ref 0]) (hp' := wd sE) rfl ?_
      refine AL_if_eq hT hK 49 (tgt := 98) rfl rfl (fun c => absurd c (by decide)) (fun _ => ?_)
      refine AL_g hT hK 50 5 (pc' := 93) (lo' := [some (.ref 0), some (.ref 36), some (.ref 37), some (.ref 38), some (.int 715827866), some (.int 1), some (.int 0), some (.int 0), some (.long 0), none, none, none]) (st' := [.int 30, .int 715827866, .int (-1), .ref 0]) (hp' := wd sE) rfl ?_
      refine AL_iremN hT hK 55 715827866 30 rfl rfl rfl (by decide) (by decide) (by decide) ?_
      refine AL_to (st' := [.int 26, .int (-1), .ref 0]) rfl rfl rfl ?_
      refine AL_g hT hK 56 1 (pc' := 95) (lo' := [some (.ref 0), some (.ref 36), some (.ref 37), some (.ref 38), some (.int 715827866), some (.int 1), some (.int 0), some (.int 0), some (.long 0), none, none, none]) (st' := [.int (-27), .ref 0]) (hp' := wd sE) rfl ?_
      refine AL_goto hT hK 57 (tgt := 106) rfl rfl ?_
      refine AL_g hT hK 63 1 (pc' := 107) (lo' := [some (.ref 0), some (.ref 36), some (.ref 37), some (.ref 38), some (.int 715827866), some (.int 1), some (.int 0), some (.int 0), some (.long 0), none, none, none]) (st' := [.int 0, .int (-27), .ref 0]) (hp' := wd sE) rfl ?_
      refine AL_cW hT hK hN 64 [.ref 0, .int (-27), .int 0] [] (l_come_5 l0 hl0) cy_L_come lk_L_131 sm_L_come rfl rfl rfl rfl rfl rfl (by show _ ≤ 41; omega) (by show _ ≤ 246; omega) ?_
      refine AL_ldc hT hK 65 (v := (-2000000002)) rfl (List.mem_of_getElem? (i := 550) (by decide +kernel)) ?_
      refine AL_icmp_ne hT hK 66 (tgt := 209) rfl rfl (fun c => absurd (by decide) c) (fun _ => ?_)
      refine AL_g hT hK 67 5 (pc' := 122) (lo' := [some (.ref 0), some (.ref 36), some (.ref 37), some (.ref 38), some (.int 715827866), some (.int 1), some (.int 0), some (.int 0), some (.long 0), none, none, none]) (st' := [.int (-1), .int 99, .ref 0]) (hp' := wd sE) rfl ?_
      refine AL_cW hT hK hN 72 [.ref 0, .int 99, .int (-1)] [] (l_come_1 l0 hl0) cy_L_come lk_L_131 sm_L_come rfl rfl rfl rfl rfl rfl (by show _ ≤ 41; omega) (by show _ ≤ 246; omega) ?_
      refine AL_ldc hT hK 73 (v := (-2000000002)) rfl (List.mem_of_getElem? (i := 550) (by decide +kernel)) ?_
      refine AL_icmp_ne hT hK 74 (tgt := 209) rfl rfl (fun c => absurd (by decide) c) (fun _ => ?_)
      refine AL_g hT hK 75 6 (pc' := 140) (lo' := [some (.ref 0), some (.ref 36), some (.ref 37), some (.ref 38), some (.int 715827866), some (.int 1), some (.int 0), some (.int 0), some (.long 0), none, none, none]) (st' := [.int 19, .int 715827866, .int 12, .int 1, .int 99, .ref 0]) (hp' := wd sE) rfl ?_
      refine AL_iremN hT hK 81 715827866 19 rfl rfl rfl (by decide) (by decide) (by decide) ?_
      refine AL_to (st' := [.int 16, .int 12, .int 1, .int 99, .ref 0]) rfl rfl rfl ?_
      refine AL_g hT hK 82 2 (pc' := 143) (lo' := [some (.ref 0), some (.ref 36), some (.ref 37), some (.ref 38), some (.int 715827866), some (.int 1), some (.int 0), some (.int 0), some (.long 0), none, none, none]) (st' := [.int 268435456, .int 99, .ref 0]) (hp' := wd sE) rfl ?_
      refine AL_cW hT hK hN 84 [.ref 0, .int 99, .int 268435456] [] (l_come_6 l0 hl0) cy_L_come lk_L_131 sm_L_come rfl rfl rfl rfl rfl rfl (by show _ ≤ 41; omega) (by show _ ≤ 246; omega) ?_
      refine AL_ldc hT hK 85 (v := (-2000000002)) rfl (List.mem_of_getElem? (i := 550) (by decide +kernel)) ?_
      refine AL_icmp_ne hT hK 86 (tgt := 209) rfl rfl (fun c => absurd (by decide) c) (fun _ => ?_)
      refine AL_g hT hK 87 2 (pc' := 153) (lo' := [some (.ref 0), some (.ref 36), some (.ref 37), some (.ref 38), some (.int 715827866), some (.int 1), some (.int 0), some (.int 0), some (.long 0), none, none, none]) (st' := [.int 0, .ref 38]) (hp' := wd sE) rfl ?_
      refine AL_m hT hK 89 rfl rfl ?_
      refine AL_g hT hK 90 1 (pc' := 156) (lo' := [some (.ref 0), some (.ref 36), some (.ref 37), some (.ref 38), some (.int 715827866), some (.int 1), some (.int 0), some (.int 0), some (.long 0), none, none, none]) (st' := [.int 12, .int 0]) (hp' := wd sE) rfl ?_
      refine AL_icmp_lt hT hK 91 (tgt := 172) rfl rfl (fun _ => ?_) (fun c => absurd (by decide) c)
      refine AL_g hT hK 98 3 (pc' := 176) (lo' := [some (.ref 0), some (.ref 36), some (.ref 37), some (.ref 38), some (.int 715827866), some (.int 1), some (.int 0), some (.int 0), some (.long 0), none, none, none]) (st' := [.int 1, .int 1, .ref 0]) (hp' := wd sE) rfl ?_
      refine AL_if_eq hT hK 101 (tgt := 189) rfl rfl (fun c => absurd c (by decide)) (fun _ => ?_)
      refine AL_g hT hK 102 3 (pc' := 184) (lo' := [some (.ref 0), some (.ref 36), some (.ref 37), some (.ref 38), some (.int 715827866), some (.int 1), some (.int 0), some (.int 0), some (.long 0), none, none, none]) (st' := [.int 30, .int 715827866, .int (-1), .int 1, .ref 0]) (hp' := wd sE) rfl ?_
      refine AL_iremN hT hK 105 715827866 30 rfl rfl rfl (by decide) (by decide) (by decide) ?_
      refine AL_to (st' := [.int 26, .int (-1), .int 1, .ref 0]) rfl rfl rfl ?_
      refine AL_g hT hK 106 1 (pc' := 186) (lo' := [some (.ref 0), some (.ref 36), some (.ref 37), some (.ref 38), some (.int 715827866), some (.int 1), some (.int 0), some (.int 0), some (.long 0), none, none, none]) (st' := [.int (-27), .int 1, .ref 0]) (hp' := wd sE) rfl ?_
      refine AL_goto hT hK 107 (tgt := 197) rfl rfl ?_
      refine AL_cW hT hK hN 113 [.ref 0, .int 1, .int (-27)] [] (l_at_2 l0 hl0) cy_L_at lk_L_119 sm_L_at rfl rfl rfl rfl rfl rfl (by show _ ≤ 41; omega) (by show _ ≤ 246; omega) ?_
      refine AL_ldc hT hK 114 (v := (-2000000002)) rfl (List.mem_of_getElem? (i := 550) (by decide +kernel)) ?_
      refine AL_icmp_ne hT hK 115 (tgt := 209) rfl rfl (fun c => absurd (by decide) c) (fun _ => ?_)
      refine AL_g hT hK 116 1 (pc' := 206) (lo' := [some (.ref 0), some (.ref 36), some (.ref 37), some (.ref 38), some (.int 715827866), some (.int 1), some (.int 0), some (.int 0), some (.long 0), none, none, none]) (st' := [.int 1]) (hp' := wd sE) rfl ?_
      refine AL_goto hT hK 117 (tgt := 210) rfl rfl ?_
      refine AL_g hT hK 119 3 (pc' := 215) (lo' := [some (.ref 0), some (.ref 36), some (.ref 37), some (.ref 38), some (.int 715827866), some (.int 1), some (.int 0), some (.int 0), some (.long 0), none, some (.int 1), some (.int 0)]) (st' := []) (hp' := wd sE) rfl ?_
      have lp11 : ∀ (n10 i8 : Nat), i8 + n10 = 13 → 0 ≤ i8 → AL K (0 + 4 + 1 * i8) (0 + 4 + 1 * i8) (6 * (0 + 4 + 1 * i8)) 215 [some (.ref 0), some (.ref 36), some (.ref 37), some (.ref 38), some (.int 715827866), some (.int 1), some (.int 0), some (.int 0), some (.long 0), none, some (.int 1), some (.int (nI i8))] [] (wd sE) := by
        intro n10
        induction n10 with
        | zero =>
          intro i8 hi9 hi9s
          refine AL_g hT hK 122 2 (pc' := 219) (lo' := [some (.ref 0), some (.ref 36), some (.ref 37), some (.ref 38), some (.int 715827866), some (.int 1), some (.int 0), some (.int 0), some (.long 0), none, some (.int 1), some (.int (nI i8))]) (st' := [.int 13, .int (nI i8)]) (hp' := wd sE) rfl ?_
          refine AL_icmp_ge hT hK 124 (tgt := 276) rfl rfl (fun _ => ?_) (fun c => absurd (az_c0 hi9) c)
          refine AL_msk [true, true, true, true, true, true, true, true, true, false, true, false] (lo' := [some (.ref 0), some (.ref 36), some (.ref 37), some (.ref 38), some (.int 715827866), some (.int 1), some (.int 0), some (.int 0), some (.long 0), none, some (.int 1), none]) rfl ?_
          refine AL_cnt (lb' := (0 + 4 + 13)) (cells' := (0 + 4 + 13)) (slots' := 6 * (0 + 4 + 13)) (by omega) (by omega) (by omega) ?_
          refine AL_g hT hK 152 2 (pc' := 279) (lo' := [some (.ref 0), some (.ref 36), some (.ref 37), some (.ref 38), some (.int 715827866), some (.int 1), some (.int 0), some (.int 0), some (.long 0), none, some (.int 1), some (.int 0)]) (st' := []) (hp' := wd sE) rfl ?_
          have lp17 : ∀ (n16 i14 : Nat), i14 + n16 = 12 → 0 ≤ i14 → AL K ((0 + 4 + 13) + 2 * i14) ((0 + 4 + 13) + 2 * i14) (6 * ((0 + 4 + 13) + 2 * i14)) 279 [some (.ref 0), some (.ref 36), some (.ref 37), some (.ref 38), some (.int 715827866), some (.int 1), some (.int 0), some (.int 0), some (.long 0), none, some (.int 1), some (.int (nI i14))] [] (wd sE) := by
            intro n16
            induction n16 with
            | zero =>
              intro i14 hi15 hi15s
              refine AL_g hT hK 154 2 (pc' := 283) (lo' := [some (.ref 0), some (.ref 36), some (.ref 37), some (.ref 38), some (.int 715827866), some (.int 1), some (.int 0), some (.int 0), some (.long 0), none, some (.int 1), some (.int (nI i14))]) (st' := [.int 12, .int (nI i14)]) (hp' := wd sE) rfl ?_
              refine AL_icmp_ge hT hK 156 (tgt := 418) rfl rfl (fun _ => ?_) (fun c => absurd (az_c0 hi15) c)
              refine AL_msk [true, true, true, true, true, true, true, true, true, false, true, false] (lo' := [some (.ref 0), some (.ref 36), some (.ref 37), some (.ref 38), some (.int 715827866), some (.int 1), some (.int 0), some (.int 0), some (.long 0), none, some (.int 1), none]) rfl ?_
              refine AL_cnt (lb' := ((0 + 4 + 13) + 24)) (cells' := ((0 + 4 + 13) + 24)) (slots' := 6 * ((0 + 4 + 13) + 24)) (by omega) (by omega) (by omega) ?_
              refine AL_g hT hK 223 1 (pc' := 420) (lo' := [some (.ref 0), some (.ref 36), some (.ref 37), some (.ref 38), some (.int 715827866), some (.int 1), some (.int 0), some (.int 0), some (.long 0), none, some (.int 1), none]) (st' := [.int 1]) (hp' := wd sE) rfl ?_
              refine AL_if_eq hT hK 224 (tgt := 438) rfl rfl (fun c => absurd c (by decide)) (fun _ => ?_)
              refine AL_g hT hK 225 2 (pc' := 425) (lo' := [some (.ref 0), some (.ref 36), some (.ref 37), some (.ref 38), some (.int 715827866), some (.int 1), some (.int 0), some (.int 0), some (.long 0), none, some (.int 1), none]) (st' := [.ref 36, .ref 0]) (hp' := wd sE) rfl ?_
              refine AL_cE hT hK hN 227 [.ref 0, .ref 36] [] (l_all l0 hl0) cw_L_all lk_L_127 sm_L_all rfl rfl rfl rfl rfl rfl (by show _ ≤ 41; omega) (by show _ ≤ 246; omega) ?_
              refine AL_g hT hK 228 2 (pc' := 431) (lo' := [some (.ref 0), some (.ref 36), some (.ref 37), some (.ref 38), some (.int 715827866), some (.int 1), some (.int 0), some (.int 0), some (.long 0), none, some (.int 1), none]) (st' := [.int 0]) (hp' := wd sE) rfl ?_
              refine AL_if_ne hT hK 230 (tgt := 438) rfl rfl (fun c => absurd (by decide) c) (fun _ => ?_)
              refine AL_g hT hK 231 1 (pc' := 435) (lo' := [some (.ref 0), some (.ref 36), some (.ref 37), some (.ref 38), some (.int 715827866), some (.int 1), some (.int 0), some (.int 0), some (.long 0), none, some (.int 1), none]) (st' := [.int 1]) (hp' := wd sE) rfl ?_
              refine AL_goto hT hK 232 (tgt := 439) rfl rfl ?_
              refine AL_cnt (lb' := 41) (cells' := 41) (slots' := 6 * 41) (by omega) (by omega) (by omega) ?_
              exact AL_iret hT hE 234 rfl rfl rfl (Nat.le_of_ble_eq_true rfl) (Nat.le_of_ble_eq_true rfl)
            | succ n16 ih18 =>
              intro i14 hi15 hi15s
              refine AL_g hT hK 154 2 (pc' := 283) (lo' := [some (.ref 0), some (.ref 36), some (.ref 37), some (.ref 38), some (.int 715827866), some (.int 1), some (.int 0), some (.int 0), some (.long 0), none, some (.int 1), some (.int (nI i14))]) (st' := [.int 12, .int (nI i14)]) (hp' := wd sE) rfl ?_
              refine AL_icmp_ge hT hK 156 (tgt := 418) rfl rfl (fun c => absurd c (az_c1 hi15)) (fun _ => ?_)
              refine AL_g hT hK 157 1 (pc' := 288) (lo' := [some (.ref 0), some (.ref 36), some (.ref 37), some (.ref 38), some (.int 715827866), some (.int 1), some (.int 0), some (.int 0), some (.long 0), none, some (.int 1), some (.int (nI i14))]) (st' := [.int 1]) (hp' := wd sE) rfl ?_
              refine AL_if_eq hT hK 158 (tgt := 418) rfl rfl (fun c => absurd c (by decide)) (fun _ => ?_)
              refine AL_g hT hK 159 2 (pc' := 294) (lo' := [some (.ref 0), some (.ref 36), some (.ref 37), some (.ref 38), some (.int 715827866), some (.int 1), some (.int 0), some (.int 0), some (.long 0), none, some (.int 1), some (.int (nI i14))]) (st' := [.int (nI i14), .ref 36]) (hp' := wd sE) rfl ?_
              refine AL_r hT hK 161 i14 rfl rfl (by omega) ?_
              refine AL_if_ge hT hK 162 (tgt := 333) rfl rfl (fun c => absurd c (by decide)) (fun _ => ?_)
              refine AL_g hT hK 163 4 (pc' := 303) (lo' := [some (.ref 0), some (.ref 36), some (.ref 37), some (.ref 38), some (.int 715827866), some (.int 1), some (.int 0), some (.int 0), some (.long 0), none, some (.int 1), some (.int (nI i14))]) (st' := [.int 0, .int (nI i14), .int 0, .ref 0]) (hp' := wd sE) rfl ?_
              refine AL_cW hT hK hN 167 [.ref 0, .int 0, .int (nI i14), .int 0] [] (l_of 0 (by decide) l0 hl0 (nI i14) 0) cy_L_of lk_L_96 sm_L_of rfl rfl rfl rfl rfl rfl (by show _ ≤ 41; omega) (by show _ ≤ 246; omega) ?_
              refine AL_ldc hT hK 168 (v := (-2000000004)) rfl (List.mem_of_getElem? (i := 549) (by decide +kernel)) ?_
              refine AL_icmp_ne hT hK 169 (tgt := 329) rfl rfl (fun c => absurd (by decide) c) (fun _ => ?_)
              refine AL_g hT hK 170 4 (pc' := 317) (lo' := [some (.ref 0), some (.ref 36), some (.ref 37), some (.ref 38), some (.int 715827866), some (.int 1), some (.int 0), some (.int 0), some (.long 0), none, some (.int 1), some (.int (nI i14))]) (st' := [.int 0, .int (nI i14), .int 12, .ref 0]) (hp' := wd sE) rfl ?_
              refine AL_cW hT hK hN 174 [.ref 0, .int 12, .int (nI i14), .int 0] [] (l_of 12 (by decide) l0 hl0 (nI i14) 0) cy_L_of lk_L_96 sm_L_of rfl rfl rfl rfl rfl rfl (by show _ ≤ 41; omega) (by show _ ≤ 246; omega) ?_
              refine AL_ldc hT hK 175 (v := (-2000000004)) rfl (List.mem_of_getElem? (i := 549) (by decide +kernel)) ?_
              refine AL_icmp_ne hT hK 176 (tgt := 329) rfl rfl (fun c => absurd (by decide) c) (fun _ => ?_)
              refine AL_g hT hK 177 1 (pc' := 326) (lo' := [some (.ref 0), some (.ref 36), some (.ref 37), some (.ref 38), some (.int 715827866), some (.int 1), some (.int 0), some (.int 0), some (.long 0), none, some (.int 1), some (.int (nI i14))]) (st' := [.int 1]) (hp' := wd sE) rfl ?_
              refine AL_goto hT hK 178 (tgt := 410) rfl rfl ?_
              refine AL_g hT hK 220 2 (pc' := 415) (lo' := [some (.ref 0), some (.ref 36), some (.ref 37), some (.ref 38), some (.int 715827866), some (.int 1), some (.int 0), some (.int 0), some (.long 0), none, some (.int 1), some (.int (nI i14 + 1))]) (st' := []) (hp' := wd sE) rfl ?_
              refine AL_goto hT hK 222 (tgt := 279) rfl rfl ?_
              refine AL_to (lo' := [some (.ref 0), some (.ref 36), some (.ref 37), some (.ref 38), some (.int 715827866), some (.int 1), some (.int 0), some (.int 0), some (.long 0), none, some (.int 1), some (.int (nI (i14 + 1)))]) (by rw [nI_1]) rfl rfl ?_
              refine AL_cnt (lb' := ((0 + 4 + 13) + 2 * (i14 + 1))) (cells' := ((0 + 4 + 13) + 2 * (i14 + 1))) (slots' := 6 * ((0 + 4 + 13) + 2 * (i14 + 1))) (by omega) (by omega) (by omega) ?_
              exact ih18 (i14 + 1) (by omega) (by omega)
          refine AL_cnt (lb' := ((0 + 4 + 13) + 2 * 0)) (cells' := ((0 + 4 + 13) + 2 * 0)) (slots' := 6 * ((0 + 4 + 13) + 2 * 0)) (by omega) (by omega) (by omega) ?_
          exact lp17 12 0 rfl (Nat.le_refl _)
        | succ n10 ih12 =>
          intro i8 hi9 hi9s
          refine AL_g hT hK 122 2 (pc' := 219) (lo' := [some (.ref 0), some (.ref 36), some (.ref 37), some (.ref 38), some (.int 715827866), some (.int 1), some (.int 0), some (.int 0), some (.long 0), none, some (.int 1), some (.int (nI i8))]) (st' := [.int 13, .int (nI i8)]) (hp' := wd sE) rfl ?_
          refine AL_icmp_ge hT hK 124 (tgt := 276) rfl rfl (fun c => absurd c (az_c1 hi9)) (fun _ => ?_)
          refine AL_g hT hK 125 1 (pc' := 224) (lo' := [some (.ref 0), some (.ref 36), some (.ref 37), some (.ref 38), some (.int 715827866), some (.int 1), some (.int 0), some (.int 0), some (.long 0), none, some (.int 1), some (.int (nI i8))]) (st' := [.int 1]) (hp' := wd sE) rfl ?_
          refine AL_if_eq hT hK 126 (tgt := 276) rfl rfl (fun c => absurd c (by decide)) (fun _ => ?_)
          refine AL_g hT hK 127 3 (pc' := 232) (lo' := [some (.ref 0), some (.ref 36), some (.ref 37), some (.ref 38), some (.int 715827866), some (.int 1), some (.int 0), some (.int 0), some (.long 0), none, some (.int 1), some (.int (nI i8))]) (st' := [.int 1, .int (nI i8), .ref 0]) (hp' := wd sE) rfl ?_
          refine AL_if_eq hT hK 130 (tgt := 245) rfl rfl (fun c => absurd c (by decide)) (fun _ => ?_)
          refine AL_g hT hK 131 3 (pc' := 240) (lo' := [some (.ref 0), some (.ref 36), some (.ref 37), some (.ref 38), some (.int 715827866), some (.int 1), some (.int 0), some (.int 0), some (.long 0), none, some (.int 1), some (.int (nI i8))]) (st' := [.int 30, .int 715827866, .int (-1), .int (nI i8), .ref 0]) (hp' := wd sE) rfl ?_
          refine AL_iremN hT hK 134 715827866 30 rfl rfl rfl (by decide) (by decide) (by decide) ?_
          refine AL_to (st' := [.int 26, .int (-1), .int (nI i8), .ref 0]) rfl rfl rfl ?_
          refine AL_g hT hK 135 1 (pc' := 242) (lo' := [some (.ref 0), some (.ref 36), some (.ref 37), some (.ref 38), some (.int 715827866), some (.int 1), some (.int 0), some (.int 0), some (.long 0), none, some (.int 1), some (.int (nI i8))]) (st' := [.int (-27), .int (nI i8), .ref 0]) (hp' := wd sE) rfl ?_
          refine AL_goto hT hK 136 (tgt := 253) rfl rfl ?_
          refine AL_g hT hK 142 1 (pc' := 255) (lo' := [some (.ref 0), some (.ref 36), some (.ref 37), some (.ref 38), some (.int 715827866), some (.int 1), some (.int 0), some (.int 0), some (.long 0), none, some (.int 1), some (.int (nI i8))]) (st' := [.int (-5), .int (-27), .int (nI i8), .ref 0]) (hp' := wd sE) rfl ?_
          refine AL_cW hT hK hN 143 [.ref 0, .int (nI i8), .int (-27), .int (-5)] [] (l_of i8 (by omega) l0 hl0 (-27) (-5)) cy_L_of lk_L_96 sm_L_of rfl rfl rfl rfl rfl rfl (by show _ ≤ 41; omega) (by show _ ≤ 246; omega) ?_
          refine AL_ldc hT hK 144 (v := (-2000000004)) rfl (List.mem_of_getElem? (i := 549) (by decide +kernel)) ?_
          refine AL_icmp_ne hT hK 145 (tgt := 267) rfl rfl (fun c => absurd (by decide) c) (fun _ => ?_)
          refine AL_g hT hK 146 1 (pc' := 264) (lo' := [some (.ref 0), some (.ref 36), some (.ref 37), some (.ref 38), some (.int 715827866), some (.int 1), some (.int 0), some (.int 0), some (.long 0), none, some (.int 1), some (.int (nI i8))]) (st' := [.int 1]) (hp' := wd sE) rfl ?_
          refine AL_goto hT hK 147 (tgt := 268) rfl rfl ?_
          refine AL_g hT hK 149 2 (pc' := 273) (lo' := [some (.ref 0), some (.ref 36), some (.ref 37), some (.ref 38), some (.int 715827866), some (.int 1), some (.int 0), some (.int 0), some (.long 0), none, some (.int 1), some (.int (nI i8 + 1))]) (st' := []) (hp' := wd sE) rfl ?_
          refine AL_goto hT hK 151 (tgt := 215) rfl rfl ?_
          refine AL_to (lo' := [some (.ref 0), some (.ref 36), some (.ref 37), some (.ref 38), some (.int 715827866), some (.int 1), some (.int 0), some (.int 0), some (.long 0), none, some (.int 1), some (.int (nI (i8 + 1)))]) (by rw [nI_1]) rfl rfl ?_
          refine AL_cnt (lb' := (0 + 4 + 1 * (i8 + 1))) (cells' := (0 + 4 + 1 * (i8 + 1))) (slots' := 6 * (0 + 4 + 1 * (i8 + 1))) (by omega) (by omega) (by omega) ?_
          exact ih12 (i8 + 1) (by omega) (by omega)
      refine AL_cnt (lb' := (0 + 4 + 1 * 0)) (cells' := (0 + 4 + 1 * 0)) (slots' := 6 * (0 + 4 + 1 * 0)) (by omega) (by omega) (by omega) ?_
      exact lp11 13 0 rfl (Nat.le_refl _)
    | succ n4 ih6 =>
      intro i2 hi3 hi3s
      refine AL_g hT hK 26 2 (pc' := 43) (lo' := [some (.ref 0), some (.ref 36), some (.ref 37), some (.ref 38), some (.int 715827866), some (.int 1), some (.int 0), some (.int 0), some (.int (nI i2)), none, none, none]) (st' := [.int 12, .int (nI i2)]) (hp' := wd sE) rfl ?_
      refine AL_icmp_ge hT hK 28 (tgt := 72) rfl rfl (fun c => absurd c (az_c1 hi3)) (fun _ => ?_)
      refine AL_g hT hK 29 3 (pc' := 51) (lo' := [some (.ref 0), some (.ref 36), some (.ref 37), some (.ref 38), some (.int 715827866), some (.int 1), some (.int 0), some (.int 0), some (.int (nI i2)), none, none, none]) (st' := [.int (nI i2), .ref 36, .int 0]) (hp' := wd sE) rfl ?_
      refine AL_r hT hK 32 i2 rfl rfl (by omega) ?_
      refine AL_if_ge hT hK 33 (tgt := 59) rfl rfl (fun c => absurd c (by decide)) (fun _ => ?_)
      refine AL_g hT hK 34 1 (pc' := 56) (lo' := [some (.ref 0), some (.ref 36), some (.ref 37), some (.ref 38), some (.int 715827866), some (.int 1), some (.int 0), some (.int 0), some (.int (nI i2)), none, none, none]) (st' := [.int 0, .int 0]) (hp' := wd sE) rfl ?_
      refine AL_goto hT hK 35 (tgt := 63) rfl rfl ?_
      refine AL_g hT hK 39 3 (pc' := 69) (lo' := [some (.ref 0), some (.ref 36), some (.ref 37), some (.ref 38), some (.int 715827866), some (.int 1), some (.int 0), some (.int 0), some (.int (nI i2 + 1)), none, none, none]) (st' := []) (hp' := wd sE) rfl ?_
      refine AL_goto hT hK 42 (tgt := 39) rfl rfl ?_
      refine AL_to (lo' := [some (.ref 0), some (.ref 36), some (.ref 37), some (.ref 38), some (.int 715827866), some (.int 1), some (.int 0), some (.int 0), some (.int (nI (i2 + 1))), none, none, none]) (by rw [nI_1]) rfl rfl ?_
      refine AL_cnt (lb' := (0)) (cells' := (0)) (slots' := 6 * (0)) (by omega) (by omega) (by omega) ?_
      exact ih6 (i2 + 1) (by omega) (by omega)
  refine AL_cnt (lb' := (0)) (cells' := (0)) (slots' := 6 * (0)) (by omega) (by omega) (by omega) ?_
  exact lp5 12 0 rfl (Nat.le_refl _)
set_option maxRecDepth 100000 in
set_option maxHeartbeats 4000000 in
theorem l_arePapers (l0 : Launch) (hl0 : l0.stackTraces = false) : AME l0 yL_arePapers (.code yL_arePapers cL_arePapers 14 (some .boolean)) ({ frames := 9, cells := 24, slots := 144, locals := 190 } : Room) [.ref 0, .ref 36, .ref 37, .ref 38] (wd sE) (wd sE) (.int 1) 24 := by
  refine AME_of (by decide +kernel) (by simp [Value.category]) (Nat.le_of_ble_eq_true rfl) (fun K hK hN hE => ?_)
  have hT := tt_L_arePapers
  refine AL_g hT hK 0 8 (pc' := 12) (lo' := [some (.ref 0), some (.ref 36), some (.ref 37), some (.ref 38), some (.int 0), some (.int 0), some (.int 1), some (.int 0), none, none, none, none, none, none]) (st' := []) (hp' := wd sE) rfl ?_
  have lp5 : ∀ (n4 i2 : Nat), i2 + n4 = 12 → 0 ≤ i2 → AL K (0 + 2 * i2) (0 + 2 * i2) (6 * (0 + 2 * i2)) 12 [some (.ref 0), some (.ref 36), some (.ref 37), some (.ref 38), some (.int 0), some (.int 0), some (.int 1), some (.int (nI i2)), none, none, none, none, none, none] [] (wd sE) := by
    intro n4
    induction n4 with
    | zero =>
      intro i2 hi3 hi3s
      refine AL_g hT hK 8 2 (pc' := 16) (lo' := [some (.ref 0), some (.ref 36), some (.ref 37), some (.ref 38), some (.int 0), some (.int 0), some (.int 1), some (.int (nI i2)), none, none, none, none, none, none]) (st' := [.int 12, .int (nI i2)]) (hp' := wd sE) rfl ?_
      refine AL_icmp_ge hT hK 10 (tgt := 199) rfl rfl (fun _ => ?_) (fun c => absurd (az_c0 hi3) c)
      refine AL_msk [true, true, true, true, true, true, true, false, false, false, false, false, false, false] (lo' := [some (.ref 0), some (.ref 36), some (.ref 37), some (.ref 38), some (.int 0), some (.int 0), some (.int 1), none, none, none, none, none, none, none]) rfl ?_
      refine AL_cnt (lb' := (0 + 24)) (cells' := (0 + 24)) (slots' := 6 * (0 + 24)) (by omega) (by omega) (by omega) ?_
      refine AL_g hT hK 110 2 (pc' := 202) (lo' := [some (.ref 0), some (.ref 36), some (.ref 37), some (.ref 38), some (.int 0), some (.int 0), some (.int 1), some (.int 0), none, none, none, none, none, none]) (st' := []) (hp' := wd sE) rfl ?_
      have lp11 : ∀ (n10 i8 : Nat), i8 + n10 = 144 → 0 ≤ i8 → AL K ((0 + 24)) ((0 + 24)) (6 * ((0 + 24))) 202 [some (.ref 0), some (.ref 36), some (.ref 37), some (.ref 38), some (.int 0), some (.int 0), some (.int 1), some (.int (nI i8)), none, none, none, none, none, none] [] (wd sE) := by
        intro n10
        induction n10 with
        | zero =>
          intro i8 hi9 hi9s
          refine AL_g hT hK 112 2 (pc' := 207) (lo' := [some (.ref 0), some (.ref 36), some (.ref 37), some (.ref 38), some (.int 0), some (.int 0), some (.int 1), some (.int (nI i8)), none, none, none, none, none, none]) (st' := [.int 144, .int (nI i8)]) (hp' := wd sE) rfl ?_
          refine AL_icmp_ge hT hK 114 (tgt := 446) rfl rfl (fun _ => ?_) (fun c => absurd (az_c0 hi9) c)
          refine AL_msk [true, true, true, true, true, true, true, false, false, false, false, false, false, false] (lo' := [some (.ref 0), some (.ref 36), some (.ref 37), some (.ref 38), some (.int 0), some (.int 0), some (.int 1), none, none, none, none, none, none, none]) rfl ?_
          refine AL_g hT hK 234 1 (pc' := 448) (lo' := [some (.ref 0), some (.ref 36), some (.ref 37), some (.ref 38), some (.int 0), some (.int 0), some (.int 1), none, none, none, none, none, none, none]) (st' := [.int 1]) (hp' := wd sE) rfl ?_
          refine AL_if_eq hT hK 235 (tgt := 482) rfl rfl (fun c => absurd c (by decide)) (fun _ => ?_)
          refine AL_g hT hK 236 1 (pc' := 452) (lo' := [some (.ref 0), some (.ref 36), some (.ref 37), some (.ref 38), some (.int 0), some (.int 0), some (.int 1), none, none, none, none, none, none, none]) (st' := [.ref 0]) (hp' := wd sE) rfl ?_
          refine AL_cV hT hK 237 [] [] (m_X5_papers l0 sE) cw_X5_papers lk_L_73 vi_X5_papers rfl rfl rfl rfl rfl rfl rfl rfl (by show _ ≤ 24; omega) (by show _ ≤ 144; omega) (AL_k1 e_papers ?_)
          refine AL_g hT hK 238 1 (pc' := 457) (lo' := [some (.ref 0), some (.ref 36), some (.ref 37), some (.ref 38), some (.int 0), some (.int 0), some (.int 1), none, none, none, none, none, none, none]) (st' := [.int 0, .int 0]) (hp' := wd sE) rfl ?_
          refine AL_icmp_ne hT hK 239 (tgt := 482) rfl rfl (fun c => absurd (by decide) c) (fun _ => ?_)
          refine AL_g hT hK 240 1 (pc' := 461) (lo' := [some (.ref 0), some (.ref 36), some (.ref 37), some (.ref 38), some (.int 0), some (.int 0), some (.int 1), none, none, none, none, none, none, none]) (st' := [.ref 0]) (hp' := wd sE) rfl ?_
          refine AL_cV hT hK 241 [] [] (m_X5_total l0 sE) cw_X5_total lk_L_89 vi_X5_total rfl rfl rfl rfl rfl rfl rfl rfl (by show _ ≤ 24; omega) (by show _ ≤ 144; omega) (AL_k1 e_total ?_)
          refine AL_g hT hK 242 1 (pc' := 466) (lo' := [some (.ref 0), some (.ref 36), some (.ref 37), some (.ref 38), some (.int 0), some (.int 0), some (.int 1), none, none, none, none, none, none, none]) (st' := [.int 0, .int 0]) (hp' := wd sE) rfl ?_
          refine AL_icmp_ne hT hK 243 (tgt := 482) rfl rfl (fun c => absurd (by decide) c) (fun _ => ?_)
          refine AL_g hT hK 244 1 (pc' := 470) (lo' := [some (.ref 0), some (.ref 36), some (.ref 37), some (.ref 38), some (.int 0), some (.int 0), some (.int 1), none, none, none, none, none, none, none]) (st' := [.ref 0]) (hp' := wd sE) rfl ?_
          refine AL_cV hT hK 245 [] [] (m_X5_totalAnew l0 sE) cw_X5_totalAnew lk_L_109 vi_X5_totalAnew rfl rfl rfl rfl rfl rfl rfl rfl (by show _ ≤ 24; omega) (by show _ ≤ 144; omega) (AL_k1 e_totalAnew ?_)
          refine AL_g hT hK 246 1 (pc' := 475) (lo' := [some (.ref 0), some (.ref 36), some (.ref 37), some (.ref 38), some (.int 0), some (.int 0), some (.int 1), none, none, none, none, none, none, none]) (st' := [.int 0, .int 0]) (hp' := wd sE) rfl ?_
          refine AL_icmp_ne hT hK 247 (tgt := 482) rfl rfl (fun c => absurd (by decide) c) (fun _ => ?_)
          refine AL_g hT hK 248 1 (pc' := 479) (lo' := [some (.ref 0), some (.ref 36), some (.ref 37), some (.ref 38), some (.int 0), some (.int 0), some (.int 1), none, none, none, none, none, none, none]) (st' := [.int 1]) (hp' := wd sE) rfl ?_
          refine AL_goto hT hK 249 (tgt := 483) rfl rfl ?_
          refine AL_cnt (lb' := 24) (cells' := 24) (slots' := 6 * 24) (by omega) (by omega) (by omega) ?_
          exact AL_iret hT hE 251 rfl rfl rfl (Nat.le_of_ble_eq_true rfl) (Nat.le_of_ble_eq_true rfl)
        | succ n10 ih12 =>
          intro i8 hi9 hi9s
          refine AL_g hT hK 112 2 (pc' := 207) (lo' := [some (.ref 0), some (.ref 36), some (.ref 37), some (.ref 38), some (.int 0), some (.int 0), some (.int 1), some (.int (nI i8)), none, none, none, none, none, none]) (st' := [.int 144, .int (nI i8)]) (hp' := wd sE) rfl ?_
          refine AL_icmp_ge hT hK 114 (tgt := 446) rfl rfl (fun c => absurd c (az_c1 hi9)) (fun _ => ?_)
          refine AL_g hT hK 115 1 (pc' := 212) (lo' := [some (.ref 0), some (.ref 36), some (.ref 37), some (.ref 38), some (.int 0), some (.int 0), some (.int 1), some (.int (nI i8)), none, none, none, none, none, none]) (st' := [.int 1]) (hp' := wd sE) rfl ?_
          refine AL_if_eq hT hK 116 (tgt := 446) rfl rfl (fun c => absurd c (by decide)) (fun _ => ?_)
          refine AL_g hT hK 117 2 (pc' := 219) (lo' := [some (.ref 0), some (.ref 36), some (.ref 37), some (.ref 38), some (.int 0), some (.int 0), some (.int 1), some (.int (nI i8)), none, none, none, none, none, none]) (st' := [.int 12, .int (nI i8)]) (hp' := wd sE) rfl ?_
          refine AL_idivN hT hK 119 i8 12 rfl rfl rfl (by omega) (by decide) (by decide) ?_
          refine AL_g hT hK 120 3 (pc' := 226) (lo' := [some (.ref 0), some (.ref 36), some (.ref 37), some (.ref 38), some (.int 0), some (.int 0), some (.int 1), some (.int (nI i8)), some (.int (nI (i8 / 12))), none, none, none, none, none]) (st' := [.int 12, .int (nI i8)]) (hp' := wd sE) rfl ?_
          refine AL_iremN hT hK 123 i8 12 rfl rfl rfl (by omega) (by decide) (by decide) ?_
          refine AL_g hT hK 124 3 (pc' := 233) (lo' := [some (.ref 0), some (.ref 36), some (.ref 37), some (.ref 38), some (.int 0), some (.int 0), some (.int 1), some (.int (nI i8)), some (.int (nI (i8 / 12))), some (.int (nI (i8 % 12))), none, none, none, none]) (st' := [.int (nI (i8 % 12)), .int (nI (i8 / 12))]) (hp' := wd sE) rfl ?_
          refine AL_icmp_ge hT hK 127 (tgt := 440) rfl rfl (fun _ => ?_) (fun c13 => ?_)
          · refine AL_g hT hK 232 1 (pc' := 443) (lo' := [some (.ref 0), some (.ref 36), some (.ref 37), some (.ref 38), some (.int 0), some (.int 0), some (.int 1), some (.int (nI i8 + 1)), some (.int (nI (i8 / 12))), some (.int (nI (i8 % 12))), none, none, none, none]) (st' := []) (hp' := wd sE) rfl ?_
            refine AL_goto hT hK 233 (tgt := 202) rfl rfl ?_
            refine AL_msk [true, true, true, true, true, true, true, true, false, false, false, false, false, false] (lo' := [some (.ref 0), some (.ref 36), some (.ref 37), some (.ref 38), some (.int 0), some (.int 0), some (.int 1), some (.int (nI i8 + 1)), none, none, none, none, none, none]) rfl ?_
            refine AL_to (lo' := [some (.ref 0), some (.ref 36), some (.ref 37), some (.ref 38), some (.int 0), some (.int 0), some (.int 1), some (.int (nI (i8 + 1))), none, none, none, none, none, none]) (by rw [nI_1]) rfl rfl ?_
            refine AL_cnt (lb' := ((0 + 24))) (cells' := ((0 + 24))) (slots' := 6 * ((0 + 24))) (by omega) (by omega) (by omega) ?_
            exact ih12 (i8 + 1) (by omega) (by omega)
          · refine AL_g hT hK 128 2 (pc' := 239) (lo' := [some (.ref 0), some (.ref 36), some (.ref 37), some (.ref 38), some (.int 0), some (.int 0), some (.int 1), some (.int (nI i8)), some (.int (nI (i8 / 12))), some (.int (nI (i8 % 12))), none, none, none, none]) (st' := [.int (nI (i8 / 12)), .ref 36]) (hp' := wd sE) rfl ?_
            refine AL_r hT hK 130 (i8 / 12) rfl rfl (by omega) ?_
            refine AL_if_lt hT hK 131 (tgt := 440) rfl rfl (fun _ => ?_) (fun c => absurd (by decide) c)
            refine AL_g hT hK 232 1 (pc' := 443) (lo' := [some (.ref 0), some (.ref 36), some (.ref 37), some (.ref 38), some (.int 0), some (.int 0), some (.int 1), some (.int (nI i8 + 1)), some (.int (nI (i8 / 12))), some (.int (nI (i8 % 12))), none, none, none, none]) (st' := []) (hp' := wd sE) rfl ?_
            refine AL_goto hT hK 233 (tgt := 202) rfl rfl ?_
            refine AL_msk [true, true, true, true, true, true, true, true, false, false, false, false, false, false] (lo' := [some (.ref 0), some (.ref 36), some (.ref 37), some (.ref 38), some (.int 0), some (.int 0), some (.int 1), some (.int (nI i8 + 1)), none, none, none, none, none, none]) rfl ?_
            refine AL_to (lo' := [some (.ref 0), some (.ref 36), some (.ref 37), some (.ref 38), some (.int 0), some (.int 0), some (.int 1), some (.int (nI (i8 + 1))), none, none, none, none, none, none]) (by rw [nI_1]) rfl rfl ?_
            refine AL_cnt (lb' := ((0 + 24))) (cells' := ((0 + 24))) (slots' := 6 * ((0 + 24))) (by omega) (by omega) (by omega) ?_
            exact ih12 (i8 + 1) (by omega) (by omega)
      refine AL_cnt (lb' := ((0 + 24))) (cells' := ((0 + 24))) (slots' := 6 * ((0 + 24))) (by omega) (by omega) (by omega) ?_
      exact lp11 144 0 rfl (Nat.le_refl _)
    | succ n4 ih6 =>
      intro i2 hi3 hi3s
      refine AL_g hT hK 8 2 (pc' := 16) (lo' := [some (.ref 0), some (.ref 36), some (.ref 37), some (.ref 38), some (.int 0), some (.int 0), some (.int 1), some (.int (nI i2)), none, none, none, none, none, none]) (st' := [.int 12, .int (nI i2)]) (hp' := wd sE) rfl ?_
      refine AL_icmp_ge hT hK 10 (tgt := 199) rfl rfl (fun c => absurd c (az_c1 hi3)) (fun _ => ?_)
      refine AL_g hT hK 11 1 (pc' := 21) (lo' := [some (.ref 0), some (.ref 36), some (.ref 37), some (.ref 38), some (.int 0), some (.int 0), some (.int 1), some (.int (nI i2)), none, none, none, none, none, none]) (st' := [.int 1]) (hp' := wd sE) rfl ?_
      refine AL_if_eq hT hK 12 (tgt := 199) rfl rfl (fun c => absurd c (by decide)) (fun _ => ?_)
      refine AL_g hT hK 13 5 (pc' := 32) (lo' := [some (.ref 0), some (.ref 36), some (.ref 37), some (.ref 38), some (.int 0), some (.int 0), some (.int 1), some (.int (nI i2)), some (.int 0), none, none, none, none, none]) (st' := [.int (nI i2), .ref 36, .int 0]) (hp' := wd sE) rfl ?_
      refine AL_r hT hK 18 i2 rfl rfl (by omega) ?_
      refine AL_if_ge hT hK 19 (tgt := 40) rfl rfl (fun c => absurd c (by decide)) (fun _ => ?_)
      refine AL_g hT hK 20 1 (pc' := 37) (lo' := [some (.ref 0), some (.ref 36), some (.ref 37), some (.ref 38), some (.int 0), some (.int 0), some (.int 1), some (.int (nI i2)), some (.int 0), none, none, none, none, none]) (st' := [.int 0, .int 0]) (hp' := wd sE) rfl ?_
      refine AL_goto hT hK 21 (tgt := 41) rfl rfl ?_
      refine AL_g hT hK 23 4 (pc' := 47) (lo' := [some (.ref 0), some (.ref 36), some (.ref 37), some (.ref 38), some (.int 0), some (.int 0), some (.int 1), some (.int (nI i2)), some (.int 0), some (.int 0), none, none, none, none]) (st' := []) (hp' := wd sE) rfl ?_
      have lp18 : ∀ (n17 i15 : Nat), i15 + n17 = 12 → 0 ≤ i15 → AL K ((0 + 2 * i2)) ((0 + 2 * i2)) (6 * ((0 + 2 * i2))) 47 [some (.ref 0), some (.ref 36), some (.ref 37), some (.ref 38), some (.int 0), some (.int 0), some (.int 1), some (.int (nI i2)), some (.int 0), some (.int (nI i15)), none, none, none, none] [] (wd sE) := by
        intro n17
        induction n17 with
        | zero =>
          intro i15 hi16 hi16s
          refine AL_g hT hK 27 2 (pc' := 51) (lo' := [some (.ref 0), some (.ref 36), some (.ref 37), some (.ref 38), some (.int 0), some (.int 0), some (.int 1), some (.int (nI i2)), some (.int 0), some (.int (nI i15)), none, none, none, none]) (st' := [.int 12, .int (nI i15)]) (hp' := wd sE) rfl ?_
          refine AL_icmp_ge hT hK 29 (tgt := 93) rfl rfl (fun _ => ?_) (fun c => absurd (az_c0 hi16) c)
          refine AL_msk [true, true, true, true, true, true, true, true, true, false, false, false, false, false] (lo' := [some (.ref 0), some (.ref 36), some (.ref 37), some (.ref 38), some (.int 0), some (.int 0), some (.int 1), some (.int (nI i2)), some (.int 0), none, none, none, none, none]) rfl ?_
          refine AL_g hT hK 53 2 (pc' := 96) (lo' := [some (.ref 0), some (.ref 36), some (.ref 37), some (.ref 38), some (.int 0), some (.int 0), some (.int 1), some (.int (nI i2)), some (.int 0), none, none, none, none, none]) (st' := [.int (nI i2), .ref 36]) (hp' := wd sE) rfl ?_
          refine AL_r hT hK 55 i2 rfl rfl (by omega) ?_
          refine AL_if_ge hT hK 56 (tgt := 135) rfl rfl (fun c => absurd c (by decide)) (fun _ => ?_)
          refine AL_g hT hK 57 4 (pc' := 105) (lo' := [some (.ref 0), some (.ref 36), some (.ref 37), some (.ref 38), some (.int 0), some (.int 0), some (.int 1), some (.int (nI i2)), some (.int 0), none, none, none, none, none]) (st' := [.int 0, .int (nI i2), .int 1, .ref 0]) (hp' := wd sE) rfl ?_
          refine AL_cW hT hK hN 61 [.ref 0, .int 1, .int (nI i2), .int 0] [] (l_of 1 (by decide) l0 hl0 (nI i2) 0) cy_L_of lk_L_96 sm_L_of rfl rfl rfl rfl rfl rfl (by show _ ≤ 24; omega) (by show _ ≤ 144; omega) ?_
          refine AL_ldc hT hK 62 (v := (-2000000004)) rfl (List.mem_of_getElem? (i := 549) (by decide +kernel)) ?_
          refine AL_icmp_ne hT hK 63 (tgt := 131) rfl rfl (fun c => absurd (by decide) c) (fun _ => ?_)
          refine AL_g hT hK 64 4 (pc' := 119) (lo' := [some (.ref 0), some (.ref 36), some (.ref 37), some (.ref 38), some (.int 0), some (.int 0), some (.int 1), some (.int (nI i2)), some (.int 0), none, none, none, none, none]) (st' := [.int 0, .int (nI i2), .int 7, .ref 0]) (hp' := wd sE) rfl ?_
          refine AL_cW hT hK hN 68 [.ref 0, .int 7, .int (nI i2), .int 0] [] (l_of 7 (by decide) l0 hl0 (nI i2) 0) cy_L_of lk_L_96 sm_L_of rfl rfl rfl rfl rfl rfl (by show _ ≤ 24; omega) (by show _ ≤ 144; omega) ?_
          refine AL_ldc hT hK 69 (v := (-2000000004)) rfl (List.mem_of_getElem? (i := 549) (by decide +kernel)) ?_
          refine AL_icmp_ne hT hK 70 (tgt := 131) rfl rfl (fun c => absurd (by decide) c) (fun _ => ?_)
          refine AL_g hT hK 71 1 (pc' := 128) (lo' := [some (.ref 0), some (.ref 36), some (.ref 37), some (.ref 38), some (.int 0), some (.int 0), some (.int 1), some (.int (nI i2)), some (.int 0), none, none, none, none, none]) (st' := [.int 1]) (hp' := wd sE) rfl ?_
          refine AL_goto hT hK 72 (tgt := 191) rfl rfl ?_
          refine AL_g hT hK 107 2 (pc' := 196) (lo' := [some (.ref 0), some (.ref 36), some (.ref 37), some (.ref 38), some (.int 0), some (.int 0), some (.int 1), some (.int (nI i2 + 1)), some (.int 0), none, none, none, none, none]) (st' := []) (hp' := wd sE) rfl ?_
          refine AL_goto hT hK 109 (tgt := 12) rfl rfl ?_
          refine AL_msk [true, true, true, true, true, true, true, true, false, false, false, false, false, false] (lo' := [some (.ref 0), some (.ref 36), some (.ref 37), some (.ref 38), some (.int 0), some (.int 0), some (.int 1), some (.int (nI i2 + 1)), none, none, none, none, none, none]) rfl ?_
          refine AL_to (lo' := [some (.ref 0), some (.ref 36), some (.ref 37), some (.ref 38), some (.int 0), some (.int 0), some (.int 1), some (.int (nI (i2 + 1))), none, none, none, none, none, none]) (by rw [nI_1]) rfl rfl ?_
          refine AL_cnt (lb' := (0 + 2 * (i2 + 1))) (cells' := (0 + 2 * (i2 + 1))) (slots' := 6 * (0 + 2 * (i2 + 1))) (by omega) (by omega) (by omega) ?_
          exact ih6 (i2 + 1) (by omega) (by omega)
        | succ n17 ih19 =>
          intro i15 hi16 hi16s
          refine AL_g hT hK 27 2 (pc' := 51) (lo' := [some (.ref 0), some (.ref 36), some (.ref 37), some (.ref 38), some (.int 0), some (.int 0), some (.int 1), some (.int (nI i2)), some (.int 0), some (.int (nI i15)), none, none, none, none]) (st' := [.int 12, .int (nI i15)]) (hp' := wd sE) rfl ?_
          refine AL_icmp_ge hT hK 29 (tgt := 93) rfl rfl (fun c => absurd c (az_c1 hi16)) (fun _ => ?_)
          refine AL_g hT hK 30 3 (pc' := 59) (lo' := [some (.ref 0), some (.ref 36), some (.ref 37), some (.ref 38), some (.int 0), some (.int 0), some (.int 1), some (.int (nI i2)), some (.int 0), some (.int (nI i15)), none, none, none, none]) (st' := [.int (nI i15), .ref 36, .int 0]) (hp' := wd sE) rfl ?_
          refine AL_r hT hK 33 i15 rfl rfl (by omega) ?_
          refine AL_if_le hT hK 34 (tgt := 83) rfl rfl (fun _ => ?_) (fun c => absurd (by decide) c)
          refine AL_g hT hK 48 4 (pc' := 90) (lo' := [some (.ref 0), some (.ref 36), some (.ref 37), some (.ref 38), some (.int 0), some (.int 0), some (.int 1), some (.int (nI i2)), some (.int 0), some (.int (nI i15 + 1)), none, none, none, none]) (st' := []) (hp' := wd sE) rfl ?_
          refine AL_goto hT hK 52 (tgt := 47) rfl rfl ?_
          refine AL_to (lo' := [some (.ref 0), some (.ref 36), some (.ref 37), some (.ref 38), some (.int 0), some (.int 0), some (.int 1), some (.int (nI i2)), some (.int 0), some (.int (nI (i15 + 1))), none, none, none, none]) (by rw [nI_1]) rfl rfl ?_
          refine AL_cnt (lb' := ((0 + 2 * i2))) (cells' := ((0 + 2 * i2))) (slots' := 6 * ((0 + 2 * i2))) (by omega) (by omega) (by omega) ?_
          exact ih19 (i15 + 1) (by omega) (by omega)
      refine AL_cnt (lb' := ((0 + 2 * i2))) (cells' := ((0 + 2 * i2))) (slots' := 6 * ((0 + 2 * i2))) (by omega) (by omega) (by omega) ?_
      exact lp18 12 0 rfl (Nat.le_refl _)
  refine AL_cnt (lb' := (0 + 2 * 0)) (cells' := (0 + 2 * 0)) (slots' := 6 * (0 + 2 * 0)) (by omega) (by omega) (by omega) ?_
  exact lp5 12 0 rfl (Nat.le_refl _)
set_option maxRecDepth 100000 in
set_option maxHeartbeats 4000000 in
theorem l_areFields (l0 : Launch) (hl0 : l0.stackTraces = false) : AME l0 yL_areFields (.code yL_areFields cL_areFields 10 (some .boolean)) ({ frames := 2, cells := 0, slots := 0, locals := 40 } : Room) [.ref 0, .ref 36] (wd sE) (wd sE) (.int 1) 0 := by
  refine AME_of (by decide +kernel) (by simp [Value.category]) (Nat.le_of_ble_eq_true rfl) (fun K hK hN hE => ?_)
  have hT := tt_L_areFields
  refine AL_g hT hK 0 8 (pc' := 10) (lo' := [some (.ref 0), some (.ref 36), some (.int 0), some (.int 0), some (.int 1), some (.int 0), none, none, none, none]) (st' := []) (hp' := wd sE) rfl ?_
  have lp5 : ∀ (n4 i2 : Nat), i2 + n4 = 12 → 0 ≤ i2 → AL K (0) (0) (6 * (0)) 10 [some (.ref 0), some (.ref 36), some (.int 0), some (.int 0), some (.int 1), some (.int (nI i2)), none, none, none, none] [] (wd sE) := by
    intro n4
    induction n4 with
    | zero =>
      intro i2 hi3 hi3s
      refine AL_g hT hK 8 2 (pc' := 14) (lo' := [some (.ref 0), some (.ref 36), some (.int 0), some (.int 0), some (.int 1), some (.int (nI i2)), none, none, none, none]) (st' := [.int 12, .int (nI i2)]) (hp' := wd sE) rfl ?_
      refine AL_icmp_ge hT hK 10 (tgt := 297) rfl rfl (fun _ => ?_) (fun c => absurd (az_c0 hi3) c)
      refine AL_msk [true, true, true, true, true, false, false, false, false, false] (lo' := [some (.ref 0), some (.ref 36), some (.int 0), some (.int 0), some (.int 1), none, none, none, none, none]) rfl ?_
      refine AL_g hT hK 145 1 (pc' := 299) (lo' := [some (.ref 0), some (.ref 36), some (.int 0), some (.int 0), some (.int 1), none, none, none, none, none]) (st' := [.int 1]) (hp' := wd sE) rfl ?_
      refine AL_if_eq hT hK 146 (tgt := 320) rfl rfl (fun c => absurd c (by decide)) (fun _ => ?_)
      refine AL_g hT hK 147 1 (pc' := 303) (lo' := [some (.ref 0), some (.ref 36), some (.int 0), some (.int 0), some (.int 1), none, none, none, none, none]) (st' := [.ref 0]) (hp' := wd sE) rfl ?_
      refine AL_cV hT hK 148 [] [] (m_X5_fields l0 sE) cw_X5_fields lk_L_79 vi_X5_fields rfl rfl rfl rfl rfl rfl rfl rfl (by show _ ≤ 0; omega) (by show _ ≤ 0; omega) (AL_k1 e_fields ?_)
      refine AL_g hT hK 149 1 (pc' := 307) (lo' := [some (.ref 0), some (.ref 36), some (.int 0), some (.int 0), some (.int 1), none, none, none, none, none]) (st' := [.int 0, .int 0]) (hp' := wd sE) rfl ?_
      refine AL_icmp_ne hT hK 150 (tgt := 320) rfl rfl (fun c => absurd (by decide) c) (fun _ => ?_)
      refine AL_g hT hK 151 2 (pc' := 312) (lo' := [some (.ref 0), some (.ref 36), some (.int 0), some (.int 0), some (.int 1), none, none, none, none, none]) (st' := [.int 2, .int 0]) (hp' := wd sE) rfl ?_
      refine AL_iremN hT hK 153 0 2 rfl rfl rfl (by decide) (by decide) (by decide) ?_
      refine AL_to (st' := [.int 0]) rfl rfl rfl ?_
      refine AL_if_ne hT hK 154 (tgt := 320) rfl rfl (fun c => absurd (by decide) c) (fun _ => ?_)
      refine AL_g hT hK 155 1 (pc' := 317) (lo' := [some (.ref 0), some (.ref 36), some (.int 0), some (.int 0), some (.int 1), none, none, none, none, none]) (st' := [.int 1]) (hp' := wd sE) rfl ?_
      refine AL_goto hT hK 156 (tgt := 321) rfl rfl ?_
      refine AL_cnt (lb' := 0) (cells' := 0) (slots' := 6 * 0) (by omega) (by omega) (by omega) ?_
      exact AL_iret hT hE 158 rfl rfl rfl (Nat.le_of_ble_eq_true rfl) (Nat.le_of_ble_eq_true rfl)
    | succ n4 ih6 =>
      intro i2 hi3 hi3s
      refine AL_g hT hK 8 2 (pc' := 14) (lo' := [some (.ref 0), some (.ref 36), some (.int 0), some (.int 0), some (.int 1), some (.int (nI i2)), none, none, none, none]) (st' := [.int 12, .int (nI i2)]) (hp' := wd sE) rfl ?_
      refine AL_icmp_ge hT hK 10 (tgt := 297) rfl rfl (fun c => absurd c (az_c1 hi3)) (fun _ => ?_)
      refine AL_g hT hK 11 1 (pc' := 19) (lo' := [some (.ref 0), some (.ref 36), some (.int 0), some (.int 0), some (.int 1), some (.int (nI i2)), none, none, none, none]) (st' := [.int 1]) (hp' := wd sE) rfl ?_
      refine AL_if_eq hT hK 12 (tgt := 297) rfl rfl (fun c => absurd c (by decide)) (fun _ => ?_)
      refine AL_g hT hK 13 2 (pc' := 25) (lo' := [some (.ref 0), some (.ref 36), some (.int 0), some (.int 0), some (.int 1), some (.int (nI i2)), none, none, none, none]) (st' := [.int (nI i2), .ref 36]) (hp' := wd sE) rfl ?_
      refine AL_r hT hK 15 i2 rfl rfl (by omega) ?_
      refine AL_if_lt hT hK 16 (tgt := 291) rfl rfl (fun _ => ?_) (fun c => absurd (by decide) c)
      refine AL_g hT hK 143 1 (pc' := 294) (lo' := [some (.ref 0), some (.ref 36), some (.int 0), some (.int 0), some (.int 1), some (.int (nI i2 + 1)), none, none, none, none]) (st' := []) (hp' := wd sE) rfl ?_
      refine AL_goto hT hK 144 (tgt := 10) rfl rfl ?_
      refine AL_to (lo' := [some (.ref 0), some (.ref 36), some (.int 0), some (.int 0), some (.int 1), some (.int (nI (i2 + 1))), none, none, none, none]) (by rw [nI_1]) rfl rfl ?_
      refine AL_cnt (lb' := (0)) (cells' := (0)) (slots' := 6 * (0)) (by omega) (by omega) (by omega) ?_
      exact ih6 (i2 + 1) (by omega) (by omega)
  refine AL_cnt (lb' := (0)) (cells' := (0)) (slots' := 6 * (0)) (by omega) (by omega) (by omega) ?_
  exact lp5 12 0 rfl (Nat.le_refl _)
set_option maxRecDepth 100000 in
set_option maxHeartbeats 4000000 in
theorem l_areWays (l0 : Launch) (hl0 : l0.stackTraces = false) : AME l0 yL_areWays (.code yL_areWays cL_areWays 10 (some .boolean)) ({ frames := 2, cells := 0, slots := 0, locals := 40 } : Room) [.ref 0, .ref 36] (wd sE) (wd sE) (.int 1) 0 := by
  refine AME_of (by decide +kernel) (by simp [Value.category]) (Nat.le_of_ble_eq_true rfl) (fun K hK hN hE => ?_)
  have hT := tt_L_areWays
  refine AL_g hT hK 0 8 (pc' := 10) (lo' := [some (.ref 0), some (.ref 36), some (.int 0), some (.int 0), some (.int 1), some (.int 0), none, none, none, none]) (st' := []) (hp' := wd sE) rfl ?_
  have lp5 : ∀ (n4 i2 : Nat), i2 + n4 = 12 → 0 ≤ i2 → AL K (0) (0) (6 * (0)) 10 [some (.ref 0), some (.ref 36), some (.int 0), some (.int 0), some (.int 1), some (.int (nI i2)), none, none, none, none] [] (wd sE) := by
    intro n4
    induction n4 with
    | zero =>
      intro i2 hi3 hi3s
      refine AL_g hT hK 8 2 (pc' := 14) (lo' := [some (.ref 0), some (.ref 36), some (.int 0), some (.int 0), some (.int 1), some (.int (nI i2)), none, none, none, none]) (st' := [.int 12, .int (nI i2)]) (hp' := wd sE) rfl ?_
      refine AL_icmp_ge hT hK 10 (tgt := 304) rfl rfl (fun _ => ?_) (fun c => absurd (az_c0 hi3) c)
      refine AL_msk [true, true, true, true, true, false, false, false, false, false] (lo' := [some (.ref 0), some (.ref 36), some (.int 0), some (.int 0), some (.int 1), none, none, none, none, none]) rfl ?_
      refine AL_g hT hK 160 1 (pc' := 306) (lo' := [some (.ref 0), some (.ref 36), some (.int 0), some (.int 0), some (.int 1), none, none, none, none, none]) (st' := [.int 1]) (hp' := wd sE) rfl ?_
      refine AL_if_eq hT hK 161 (tgt := 329) rfl rfl (fun c => absurd c (by decide)) (fun _ => ?_)
      refine AL_g hT hK 162 1 (pc' := 310) (lo' := [some (.ref 0), some (.ref 36), some (.int 0), some (.int 0), some (.int 1), none, none, none, none, none]) (st' := [.ref 0]) (hp' := wd sE) rfl ?_
      refine AL_cV hT hK 163 [] [] (m_X5_ways l0 sE) cw_X5_ways lk_L_84 vi_X5_ways rfl rfl rfl rfl rfl rfl rfl rfl (by show _ ≤ 0; omega) (by show _ ≤ 0; omega) (AL_k1 e_ways ?_)
      refine AL_g hT hK 164 1 (pc' := 314) (lo' := [some (.ref 0), some (.ref 36), some (.int 0), some (.int 0), some (.int 1), none, none, none, none, none]) (st' := [.int 0, .int 0]) (hp' := wd sE) rfl ?_
      refine AL_icmp_ne hT hK 165 (tgt := 329) rfl rfl (fun c => absurd (by decide) c) (fun _ => ?_)
      refine AL_g hT hK 166 1 (pc' := 318) (lo' := [some (.ref 0), some (.ref 36), some (.int 0), some (.int 0), some (.int 1), none, none, none, none, none]) (st' := [.ref 0]) (hp' := wd sE) rfl ?_
      refine AL_cV hT hK 167 [] [] (m_X5_ways l0 sE) cw_X5_ways lk_L_84 vi_X5_ways rfl rfl rfl rfl rfl rfl rfl rfl (by show _ ≤ 0; omega) (by show _ ≤ 0; omega) (AL_k1 e_ways ?_)
      refine AL_g hT hK 168 1 (pc' := 322) (lo' := [some (.ref 0), some (.ref 36), some (.int 0), some (.int 0), some (.int 1), none, none, none, none, none]) (st' := [.int 0, .int 0]) (hp' := wd sE) rfl ?_
      refine AL_icmp_ne hT hK 169 (tgt := 329) rfl rfl (fun c => absurd (by decide) c) (fun _ => ?_)
      refine AL_g hT hK 170 1 (pc' := 326) (lo' := [some (.ref 0), some (.ref 36), some (.int 0), some (.int 0), some (.int 1), none, none, none, none, none]) (st' := [.int 1]) (hp' := wd sE) rfl ?_
      refine AL_goto hT hK 171 (tgt := 330) rfl rfl ?_
      refine AL_cnt (lb' := 0) (cells' := 0) (slots' := 6 * 0) (by omega) (by omega) (by omega) ?_
      exact AL_iret hT hE 173 rfl rfl rfl (Nat.le_of_ble_eq_true rfl) (Nat.le_of_ble_eq_true rfl)
    | succ n4 ih6 =>
      intro i2 hi3 hi3s
      refine AL_g hT hK 8 2 (pc' := 14) (lo' := [some (.ref 0), some (.ref 36), some (.int 0), some (.int 0), some (.int 1), some (.int (nI i2)), none, none, none, none]) (st' := [.int 12, .int (nI i2)]) (hp' := wd sE) rfl ?_
      refine AL_icmp_ge hT hK 10 (tgt := 304) rfl rfl (fun c => absurd c (az_c1 hi3)) (fun _ => ?_)
      refine AL_g hT hK 11 1 (pc' := 19) (lo' := [some (.ref 0), some (.ref 36), some (.int 0), some (.int 0), some (.int 1), some (.int (nI i2)), none, none, none, none]) (st' := [.int 1]) (hp' := wd sE) rfl ?_
      refine AL_if_eq hT hK 12 (tgt := 304) rfl rfl (fun c => absurd c (by decide)) (fun _ => ?_)
      refine AL_g hT hK 13 2 (pc' := 25) (lo' := [some (.ref 0), some (.ref 36), some (.int 0), some (.int 0), some (.int 1), some (.int (nI i2)), none, none, none, none]) (st' := [.int (nI i2), .ref 36]) (hp' := wd sE) rfl ?_
      refine AL_r hT hK 15 i2 rfl rfl (by omega) ?_
      refine AL_if_lt hT hK 16 (tgt := 298) rfl rfl (fun _ => ?_) (fun c => absurd (by decide) c)
      refine AL_g hT hK 158 1 (pc' := 301) (lo' := [some (.ref 0), some (.ref 36), some (.int 0), some (.int 0), some (.int 1), some (.int (nI i2 + 1)), none, none, none, none]) (st' := []) (hp' := wd sE) rfl ?_
      refine AL_goto hT hK 159 (tgt := 10) rfl rfl ?_
      refine AL_to (lo' := [some (.ref 0), some (.ref 36), some (.int 0), some (.int 0), some (.int 1), some (.int (nI (i2 + 1))), none, none, none, none]) (by rw [nI_1]) rfl rfl ?_
      refine AL_cnt (lb' := (0)) (cells' := (0)) (slots' := 6 * (0)) (by omega) (by omega) (by omega) ?_
      exact ih6 (i2 + 1) (by omega) (by omega)
  refine AL_cnt (lb' := (0)) (cells' := (0)) (slots' := 6 * (0)) (by omega) (by omega) (by omega) ?_
  exact lp5 12 0 rfl (Nat.le_refl _)
set_option maxRecDepth 100000 in
set_option maxHeartbeats 4000000 in
theorem l_isMain (l0 : Launch) (hl0 : l0.stackTraces = false) : AME l0 yL_isMain (.code yL_isMain cL_isMain 9 (some .boolean)) ({ frames := 8, cells := 2, slots := 12, locals := 126 } : Room) [.ref 0, .ref 36] (wd sE) (wd sE) (.int 1) 2 := by
  refine AME_of (by decide +kernel) (by simp [Value.category]) (Nat.le_of_ble_eq_true rfl) (fun K hK hN hE => ?_)
  have hT := tt_L_isMain
  refine AL_g hT hK 0 1 (pc' := 1) (lo' := [some (.ref 0), some (.ref 36), none, none, none, none, none, none, none]) (st' := [.ref 0]) (hp' := wd sE) rfl ?_
  refine AL_cV hT hK 1 [] [] (m_X5_mainLength l0 sE) cw_X5_mainLength lk_L_116 vi_X5_mainLength rfl rfl rfl rfl rfl rfl rfl rfl (by show _ ≤ 2; omega) (by show _ ≤ 12; omega) (AL_k1 e_mainLength ?_)
  refine AL_g hT hK 2 8 (pc' := 13) (lo' := [some (.ref 0), some (.ref 36), some (.int 0), some (.long 0), none, some (.int (-1)), none, none, none]) (st' := [.int 0, .int 0, .ref 0]) (hp' := wd sE) rfl ?_
  refine AL_cW hT hK hN 10 [.ref 0, .int 0, .int 0] [] (l_at_3 l0 hl0) cy_L_at lk_L_119 sm_L_at rfl rfl rfl rfl rfl rfl (by show _ ≤ 2; omega) (by show _ ≤ 12; omega) ?_
  refine AL_ldc hT hK 11 (v := (-2000000001)) rfl (List.mem_of_getElem? (i := 649) (by decide +kernel)) ?_
  refine AL_icmp_ne hT hK 12 (tgt := 60) rfl rfl (fun c => absurd (by decide) c) (fun _ => ?_)
  refine AL_g hT hK 13 3 (pc' := 24) (lo' := [some (.ref 0), some (.ref 36), some (.int 0), some (.long 0), none, some (.int (-1)), none, none, none]) (st' := [.int (-1), .int 0, .ref 0]) (hp' := wd sE) rfl ?_
  refine AL_cW hT hK hN 16 [.ref 0, .int 0, .int (-1)] [] (l_at_4 l0 hl0) cy_L_at lk_L_119 sm_L_at rfl rfl rfl rfl rfl rfl (by show _ ≤ 2; omega) (by show _ ≤ 12; omega) ?_
  refine AL_ldc hT hK 17 (v := (-2000000001)) rfl (List.mem_of_getElem? (i := 649) (by decide +kernel)) ?_
  refine AL_icmp_ne hT hK 18 (tgt := 60) rfl rfl (fun c => absurd (by decide) c) (fun _ => ?_)
  refine AL_g hT hK 19 1 (pc' := 33) (lo' := [some (.ref 0), some (.ref 36), some (.int 0), some (.long 0), none, some (.int (-1)), none, none, none]) (st' := [.int 0]) (hp' := wd sE) rfl ?_
  refine AL_if_ne hT hK 20 (tgt := 40) rfl rfl (fun c => absurd (by decide) c) (fun _ => ?_)
  refine AL_g hT hK 21 1 (pc' := 37) (lo' := [some (.ref 0), some (.ref 36), some (.int 0), some (.long 0), none, some (.int (-1)), none, none, none]) (st' := [.int 1]) (hp' := wd sE) rfl ?_
  refine AL_goto hT hK 22 (tgt := 41) rfl rfl ?_
  refine AL_g hT hK 24 1 (pc' := 42) (lo' := [some (.ref 0), some (.ref 36), some (.int 0), some (.long 0), none, some (.int (-1)), none, none, none]) (st' := [.ref 0, .int 1]) (hp' := wd sE) rfl ?_
  refine AL_cV hT hK 25 [] [.int 1] (m_X5_papers l0 sE) cw_X5_papers lk_L_73 vi_X5_papers rfl rfl rfl rfl rfl rfl rfl rfl (by show _ ≤ 2; omega) (by show _ ≤ 12; omega) (AL_k1 e_papers ?_)
  refine AL_if_ne hT hK 26 (tgt := 52) rfl rfl (fun c => absurd (by decide) c) (fun _ => ?_)
  refine AL_g hT hK 27 1 (pc' := 49) (lo' := [some (.ref 0), some (.ref 36), some (.int 0), some (.long 0), none, some (.int (-1)), none, none, none]) (st' := [.int 1, .int 1]) (hp' := wd sE) rfl ?_
  refine AL_goto hT hK 28 (tgt := 53) rfl rfl ?_
  refine AL_icmp_ne hT hK 30 (tgt := 60) rfl rfl (fun c => absurd (by decide) c) (fun _ => ?_)
  refine AL_g hT hK 31 1 (pc' := 57) (lo' := [some (.ref 0), some (.ref 36), some (.int 0), some (.long 0), none, some (.int (-1)), none, none, none]) (st' := [.int 1]) (hp' := wd sE) rfl ?_
  refine AL_goto hT hK 32 (tgt := 61) rfl rfl ?_
  refine AL_g hT hK 34 5 (pc' := 69) (lo' := [some (.ref 0), some (.ref 36), some (.int 0), some (.long 0), none, some (.int (-1)), some (.int 1), some (.int 0), none]) (st' := [.int 0, .int 0]) (hp' := wd sE) rfl ?_
  refine AL_icmp_ge hT hK 39 (tgt := 170) rfl rfl (fun _ => ?_) (fun c => absurd (by decide) c)
  refine AL_g hT hK 91 1 (pc' := 172) (lo' := [some (.ref 0), some (.ref 36), some (.int 0), some (.long 0), none, some (.int (-1)), some (.int 1), some (.int 0), none]) (st' := [.int 1]) (hp' := wd sE) rfl ?_
  refine AL_if_eq hT hK 92 (tgt := 201) rfl rfl (fun c => absurd c (by decide)) (fun _ => ?_)
  refine AL_g hT hK 93 1 (pc' := 176) (lo' := [some (.ref 0), some (.ref 36), some (.int 0), some (.long 0), none, some (.int (-1)), some (.int 1), some (.int 0), none]) (st' := [.ref 0]) (hp' := wd sE) rfl ?_
  refine AL_cV hT hK 94 [] [] (m_X5_mainSum l0 sE) cw_X5_mainSum lk_L_123 vi_X5_mainSum rfl rfl rfl rfl rfl rfl rfl rfl (by show _ ≤ 2; omega) (by show _ ≤ 12; omega) (AL_kl e_mainSum ?_)
  refine AL_g hT hK 95 2 (pc' := 181) (lo' := [some (.ref 0), some (.ref 36), some (.int 0), some (.long 0), none, some (.int (-1)), some (.int 1), some (.int 0), none]) (st' := [.int 0]) (hp' := wd sE) rfl ?_
  refine AL_if_ne hT hK 97 (tgt := 201) rfl rfl (fun c => absurd (by decide) c) (fun _ => ?_)
  refine AL_g hT hK 98 1 (pc' := 185) (lo' := [some (.ref 0), some (.ref 36), some (.int 0), some (.long 0), none, some (.int (-1)), some (.int 1), some (.int 0), none]) (st' := [.int 0]) (hp' := wd sE) rfl ?_
  refine AL_if_eq hT hK 99 (tgt := 197) rfl rfl (fun _ => ?_) (fun c => absurd (by decide) c)
  refine AL_g hT hK 104 1 (pc' := 198) (lo' := [some (.ref 0), some (.ref 36), some (.int 0), some (.long 0), none, some (.int (-1)), some (.int 1), some (.int 0), none]) (st' := [.int 1]) (hp' := wd sE) rfl ?_
  refine AL_goto hT hK 105 (tgt := 202) rfl rfl ?_
  refine AL_cnt (lb' := 2) (cells' := 2) (slots' := 6 * 2) (by omega) (by omega) (by omega) ?_
  exact AL_iret hT hE 107 rfl rfl rfl (Nat.le_of_ble_eq_true rfl) (Nat.le_of_ble_eq_true rfl)
set_option maxRecDepth 100000 in
set_option maxHeartbeats 4000000 in
theorem l_isLess_0 (l0 : Launch) (hl0 : l0.stackTraces = false) : AME l0 yL_isLess (.code yL_isLess cL_isLess 12 (some .boolean)) ({ frames := 1, cells := 0, slots := 0, locals := 20 } : Room) [.ref 0, .ref 36, .int 134217724] (wd sE) (wd sE) (.int 1) 0 := by
  refine AME_of (by decide +kernel) (by simp [Value.category]) (Nat.le_of_ble_eq_true rfl) (fun K hK hN hE => ?_)
  have hT := tt_L_isLess
  refine AL_g hT hK 0 4 (pc' := 5) (lo' := [some (.ref 0), some (.ref 36), some (.int 134217724), some (.int (-1)), some (.int 0), none, none, none, none, none, none, none]) (st' := []) (hp' := wd sE) rfl ?_
  have lp5 : ∀ (n4 i2 : Nat), i2 + n4 = 12 → 0 ≤ i2 → AL K (0) (0) (6 * (0)) 5 [some (.ref 0), some (.ref 36), some (.int 134217724), some (.int (-1)), some (.int (nI i2)), none, none, none, none, none, none, none] [] (wd sE) := by
    intro n4
    induction n4 with
    | zero =>
      intro i2 hi3 hi3s
      refine AL_g hT hK 4 2 (pc' := 9) (lo' := [some (.ref 0), some (.ref 36), some (.int 134217724), some (.int (-1)), some (.int (nI i2)), none, none, none, none, none, none, none]) (st' := [.int 12, .int (nI i2)]) (hp' := wd sE) rfl ?_
      refine AL_icmp_ge hT hK 6 (tgt := 45) rfl rfl (fun _ => ?_) (fun c => absurd (az_c0 hi3) c)
      refine AL_msk [true, true, true, true, false, false, false, false, false, false, false, false] (lo' := [some (.ref 0), some (.ref 36), some (.int 134217724), some (.int (-1)), none, none, none, none, none, none, none, none]) rfl ?_
      refine AL_g hT hK 25 9 (pc' := 59) (lo' := [some (.ref 0), some (.ref 36), some (.int 134217724), some (.int (-1)), some (.long 0), none, some (.int (-1)), some (.int 0), some (.int 0), none, none, none]) (st' := [.int (-1)]) (hp' := wd sE) rfl ?_
      refine AL_if_lt hT hK 34 (tgt := 190) rfl rfl (fun _ => ?_) (fun c => absurd (by decide) c)
      refine AL_g hT hK 101 1 (pc' := 192) (lo' := [some (.ref 0), some (.ref 36), some (.int 134217724), some (.int (-1)), some (.long 0), none, some (.int (-1)), some (.int 0), some (.int 0), none, none, none]) (st' := [.int 0]) (hp' := wd sE) rfl ?_
      refine AL_if_ne hT hK 102 (tgt := 221) rfl rfl (fun c => absurd (by decide) c) (fun _ => ?_)
      refine AL_g hT hK 103 1 (pc' := 197) (lo' := [some (.ref 0), some (.ref 36), some (.int 134217724), some (.int (-1)), some (.long 0), none, some (.int (-1)), some (.int 0), some (.int 0), none, none, none]) (st' := [.int (-1)]) (hp' := wd sE) rfl ?_
      refine AL_if_lt hT hK 104 (tgt := 221) rfl rfl (fun _ => ?_) (fun c => absurd (by decide) c)
      refine AL_g hT hK 115 3 (pc' := 227) (lo' := [some (.ref 0), some (.ref 36), some (.int 134217724), some (.int (-1)), some (.long 0), none, some (.int (-1)), some (.int 0), some (.int 0), none, none, none]) (st' := [.int (-1)]) (hp' := wd sE) rfl ?_
      refine AL_if_lt hT hK 118 (tgt := 255) rfl rfl (fun _ => ?_) (fun c => absurd (by decide) c)
      refine AL_g hT hK 131 1 (pc' := 256) (lo' := [some (.ref 0), some (.ref 36), some (.int 134217724), some (.int (-1)), some (.long 0), none, some (.int (-1)), some (.int 0), some (.int 0), none, none, none]) (st' := [.int 1]) (hp' := wd sE) rfl ?_
      refine AL_goto hT hK 132 (tgt := 260) rfl rfl ?_
      refine AL_cnt (lb' := 0) (cells' := 0) (slots' := 6 * 0) (by omega) (by omega) (by omega) ?_
      exact AL_iret hT hE 134 rfl rfl rfl (Nat.le_of_ble_eq_true rfl) (Nat.le_of_ble_eq_true rfl)
    | succ n4 ih6 =>
      intro i2 hi3 hi3s
      refine AL_g hT hK 4 2 (pc' := 9) (lo' := [some (.ref 0), some (.ref 36), some (.int 134217724), some (.int (-1)), some (.int (nI i2)), none, none, none, none, none, none, none]) (st' := [.int 12, .int (nI i2)]) (hp' := wd sE) rfl ?_
      refine AL_icmp_ge hT hK 6 (tgt := 45) rfl rfl (fun c => absurd c (az_c1 hi3)) (fun _ => ?_)
      refine AL_g hT hK 7 4 (pc' := 18) (lo' := [some (.ref 0), some (.ref 36), some (.int 134217724), some (.int (-1)), some (.int (nI i2)), none, none, none, none, none, none, none]) (st' := [.int 12, .int ((nI i2) + 134217724)]) (hp' := wd sE) rfl ?_
      refine AL_iremN hT hK 11 (i2 + 134217724) 12 rfl (nI_add (i2) (134217724)) rfl (by omega) (by decide) (by decide) ?_
      refine AL_g hT hK 12 3 (pc' := 24) (lo' := [some (.ref 0), some (.ref 36), some (.int 134217724), some (.int (-1)), some (.int (nI i2)), some (.int (nI ((i2 + 134217724) % 12))), none, none, none, none, none, none]) (st' := [.int (nI ((i2 + 134217724) % 12)), .ref 36]) (hp' := wd sE) rfl ?_
      refine AL_r hT hK 15 ((i2 + 134217724) % 12) rfl rfl (by omega) ?_
      refine AL_if_ne hT hK 16 (tgt := 37) rfl rfl (fun _ => ?_) (fun c => absurd c (by decide))
      refine AL_g hT hK 21 3 (pc' := 42) (lo' := [some (.ref 0), some (.ref 36), some (.int 134217724), some (.int (-1)), some (.int (nI i2 + 1)), some (.int (nI ((i2 + 134217724) % 12))), none, none, none, none, none, none]) (st' := []) (hp' := wd sE) rfl ?_
      refine AL_goto hT hK 24 (tgt := 5) rfl rfl ?_
      refine AL_msk [true, true, true, true, true, false, false, false, false, false, false, false] (lo' := [some (.ref 0), some (.ref 36), some (.int 134217724), some (.int (-1)), some (.int (nI i2 + 1)), none, none, none, none, none, none, none]) rfl ?_
      refine AL_to (lo' := [some (.ref 0), some (.ref 36), some (.int 134217724), some (.int (-1)), some (.int (nI (i2 + 1))), none, none, none, none, none, none, none]) (by rw [nI_1]) rfl rfl ?_
      refine AL_cnt (lb' := (0)) (cells' := (0)) (slots' := 6 * (0)) (by omega) (by omega) (by omega) ?_
      exact ih6 (i2 + 1) (by omega) (by omega)
  refine AL_cnt (lb' := (0)) (cells' := (0)) (slots' := 6 * (0)) (by omega) (by omega) (by omega) ?_
  exact lp5 12 0 rfl (Nat.le_refl _)
set_option maxRecDepth 100000 in
set_option maxHeartbeats 4000000 in
theorem l_isLess_1 (l0 : Launch) (hl0 : l0.stackTraces = false) : AME l0 yL_isLess (.code yL_isLess cL_isLess 12 (some .boolean)) ({ frames := 1, cells := 0, slots := 0, locals := 20 } : Room) [.ref 0, .ref 36, .int 19173960] (wd sE) (wd sE) (.int 1) 0 := by
  refine AME_of (by decide +kernel) (by simp [Value.category]) (Nat.le_of_ble_eq_true rfl) (fun K hK hN hE => ?_)
  have hT := tt_L_isLess
  refine AL_g hT hK 0 4 (pc' := 5) (lo' := [some (.ref 0), some (.ref 36), some (.int 19173960), some (.int (-1)), some (.int 0), none, none, none, none, none, none, none]) (st' := []) (hp' := wd sE) rfl ?_
  have lp5 : ∀ (n4 i2 : Nat), i2 + n4 = 12 → 0 ≤ i2 → AL K (0) (0) (6 * (0)) 5 [some (.ref 0), some (.ref 36), some (.int 19173960), some (.int (-1)), some (.int (nI i2)), none, none, none, none, none, none, none] [] (wd sE) := by
    intro n4
    induction n4 with
    | zero =>
      intro i2 hi3 hi3s
      refine AL_g hT hK 4 2 (pc' := 9) (lo' := [some (.ref 0), some (.ref 36), some (.int 19173960), some (.int (-1)), some (.int (nI i2)), none, none, none, none, none, none, none]) (st' := [.int 12, .int (nI i2)]) (hp' := wd sE) rfl ?_
      refine AL_icmp_ge hT hK 6 (tgt := 45) rfl rfl (fun _ => ?_) (fun c => absurd (az_c0 hi3) c)
      refine AL_msk [true, true, true, true, false, false, false, false, false, false, false, false] (lo' := [some (.ref 0), some (.ref 36), some (.int 19173960), some (.int (-1)), none, none, none, none, none, none, none, none]) rfl ?_
      refine AL_g hT hK 25 9 (pc' := 59) (lo' := [some (.ref 0), some (.ref 36), some (.int 19173960), some (.int (-1)), some (.long 0), none, some (.int (-1)), some (.int 0), some (.int 0), none, none, none]) (st' := [.int (-1)]) (hp' := wd sE) rfl ?_
      refine AL_if_lt hT hK 34 (tgt := 190) rfl rfl (fun _ => ?_) (fun c => absurd (by decide) c)
      refine AL_g hT hK 101 1 (pc' := 192) (lo' := [some (.ref 0), some (.ref 36), some (.int 19173960), some (.int (-1)), some (.long 0), none, some (.int (-1)), some (.int 0), some (.int 0), none, none, none]) (st' := [.int 0]) (hp' := wd sE) rfl ?_
      refine AL_if_ne hT hK 102 (tgt := 221) rfl rfl (fun c => absurd (by decide) c) (fun _ => ?_)
      refine AL_g hT hK 103 1 (pc' := 197) (lo' := [some (.ref 0), some (.ref 36), some (.int 19173960), some (.int (-1)), some (.long 0), none, some (.int (-1)), some (.int 0), some (.int 0), none, none, none]) (st' := [.int (-1)]) (hp' := wd sE) rfl ?_
      refine AL_if_lt hT hK 104 (tgt := 221) rfl rfl (fun _ => ?_) (fun c => absurd (by decide) c)
      refine AL_g hT hK 115 3 (pc' := 227) (lo' := [some (.ref 0), some (.ref 36), some (.int 19173960), some (.int (-1)), some (.long 0), none, some (.int (-1)), some (.int 0), some (.int 0), none, none, none]) (st' := [.int (-1)]) (hp' := wd sE) rfl ?_
      refine AL_if_lt hT hK 118 (tgt := 255) rfl rfl (fun _ => ?_) (fun c => absurd (by decide) c)
      refine AL_g hT hK 131 1 (pc' := 256) (lo' := [some (.ref 0), some (.ref 36), some (.int 19173960), some (.int (-1)), some (.long 0), none, some (.int (-1)), some (.int 0), some (.int 0), none, none, none]) (st' := [.int 1]) (hp' := wd sE) rfl ?_
      refine AL_goto hT hK 132 (tgt := 260) rfl rfl ?_
      refine AL_cnt (lb' := 0) (cells' := 0) (slots' := 6 * 0) (by omega) (by omega) (by omega) ?_
      exact AL_iret hT hE 134 rfl rfl rfl (Nat.le_of_ble_eq_true rfl) (Nat.le_of_ble_eq_true rfl)
    | succ n4 ih6 =>
      intro i2 hi3 hi3s
      refine AL_g hT hK 4 2 (pc' := 9) (lo' := [some (.ref 0), some (.ref 36), some (.int 19173960), some (.int (-1)), some (.int (nI i2)), none, none, none, none, none, none, none]) (st' := [.int 12, .int (nI i2)]) (hp' := wd sE) rfl ?_
      refine AL_icmp_ge hT hK 6 (tgt := 45) rfl rfl (fun c => absurd c (az_c1 hi3)) (fun _ => ?_)
      refine AL_g hT hK 7 4 (pc' := 18) (lo' := [some (.ref 0), some (.ref 36), some (.int 19173960), some (.int (-1)), some (.int (nI i2)), none, none, none, none, none, none, none]) (st' := [.int 12, .int ((nI i2) + 19173960)]) (hp' := wd sE) rfl ?_
      refine AL_iremN hT hK 11 (i2 + 19173960) 12 rfl (nI_add (i2) (19173960)) rfl (by omega) (by decide) (by decide) ?_
      refine AL_g hT hK 12 3 (pc' := 24) (lo' := [some (.ref 0), some (.ref 36), some (.int 19173960), some (.int (-1)), some (.int (nI i2)), some (.int (nI ((i2 + 19173960) % 12))), none, none, none, none, none, none]) (st' := [.int (nI ((i2 + 19173960) % 12)), .ref 36]) (hp' := wd sE) rfl ?_
      refine AL_r hT hK 15 ((i2 + 19173960) % 12) rfl rfl (by omega) ?_
      refine AL_if_ne hT hK 16 (tgt := 37) rfl rfl (fun _ => ?_) (fun c => absurd c (by decide))
      refine AL_g hT hK 21 3 (pc' := 42) (lo' := [some (.ref 0), some (.ref 36), some (.int 19173960), some (.int (-1)), some (.int (nI i2 + 1)), some (.int (nI ((i2 + 19173960) % 12))), none, none, none, none, none, none]) (st' := []) (hp' := wd sE) rfl ?_
      refine AL_goto hT hK 24 (tgt := 5) rfl rfl ?_
      refine AL_msk [true, true, true, true, true, false, false, false, false, false, false, false] (lo' := [some (.ref 0), some (.ref 36), some (.int 19173960), some (.int (-1)), some (.int (nI i2 + 1)), none, none, none, none, none, none, none]) rfl ?_
      refine AL_to (lo' := [some (.ref 0), some (.ref 36), some (.int 19173960), some (.int (-1)), some (.int (nI (i2 + 1))), none, none, none, none, none, none, none]) (by rw [nI_1]) rfl rfl ?_
      refine AL_cnt (lb' := (0)) (cells' := (0)) (slots' := 6 * (0)) (by omega) (by omega) (by omega) ?_
      exact ih6 (i2 + 1) (by omega) (by omega)
  refine AL_cnt (lb' := (0)) (cells' := (0)) (slots' := 6 * (0)) (by omega) (by omega) (by omega) ?_
  exact lp5 12 0 rfl (Nat.le_refl _)
theorem e_riser24 : x_X5_riser sE 24 = .inr (-1) := by decide +kernel
set_option maxRecDepth 100000 in
set_option maxHeartbeats 4000000 in
theorem l_areRises_0 (l0 : Launch) (hl0 : l0.stackTraces = false) : AME l0 yL_areRises (.code yL_areRises cL_areRises 11 (some .boolean)) ({ frames := 8, cells := 0, slots := 0, locals := 127 } : Room) [.ref 0, .ref 36, .ref 37, .int 24] (wd sE) (wd sE) (.int 1) 0 := by
  refine AME_of (by decide +kernel) (by simp [Value.category]) (Nat.le_of_ble_eq_true rfl) (fun K hK hN hE => ?_)
  have hT := tt_L_areRises
  refine AL_g hT hK 0 2 (pc' := 2) (lo' := [some (.ref 0), some (.ref 36), some (.ref 37), some (.int 24), none, none, none, none, none, none, none]) (st' := [.int 24, .ref 0]) (hp' := wd sE) rfl ?_
  refine AL_cV hT hK 2 [.int 24] [] (m_X5_riser l0 sE 24 (-1) e_riser24) cw_X5_riser lk_L_67 vi_X5_riser rfl rfl rfl rfl rfl rfl rfl rfl (by show _ ≤ 0; omega) (by show _ ≤ 0; omega) (AL_k1 rfl ?_)
  refine AL_g hT hK 3 2 (pc' := 9) (lo' := [some (.ref 0), some (.ref 36), some (.ref 37), some (.int 24), some (.int (-1)), none, none, none, none, none, none]) (st' := [.int (-1)]) (hp' := wd sE) rfl ?_
  refine AL_if_ge hT hK 5 (tgt := 16) rfl rfl (fun c => absurd c (by decide)) (fun _ => ?_)
  refine AL_g hT hK 6 1 (pc' := 13) (lo' := [some (.ref 0), some (.ref 36), some (.ref 37), some (.int 24), some (.int (-1)), none, none, none, none, none, none]) (st' := [.int 1]) (hp' := wd sE) rfl ?_
  refine AL_goto hT hK 7 (tgt := 17) rfl rfl ?_
  refine AL_g hT hK 9 1 (pc' := 18) (lo' := [some (.ref 0), some (.ref 36), some (.ref 37), some (.int 24), some (.int (-1)), none, none, none, none, none, none]) (st' := [.ref 0, .int 1]) (hp' := wd sE) rfl ?_
  refine AL_cV hT hK 10 [] [.int 1] (m_X5_papers l0 sE) cw_X5_papers lk_L_73 vi_X5_papers rfl rfl rfl rfl rfl rfl rfl rfl (by show _ ≤ 0; omega) (by show _ ≤ 0; omega) (AL_k1 e_papers ?_)
  refine AL_if_ne hT hK 11 (tgt := 28) rfl rfl (fun c => absurd (by decide) c) (fun _ => ?_)
  refine AL_g hT hK 12 1 (pc' := 25) (lo' := [some (.ref 0), some (.ref 36), some (.ref 37), some (.int 24), some (.int (-1)), none, none, none, none, none, none]) (st' := [.int 1, .int 1]) (hp' := wd sE) rfl ?_
  refine AL_goto hT hK 13 (tgt := 29) rfl rfl ?_
  refine AL_icmp_ne hT hK 15 (tgt := 36) rfl rfl (fun c => absurd (by decide) c) (fun _ => ?_)
  refine AL_g hT hK 16 1 (pc' := 33) (lo' := [some (.ref 0), some (.ref 36), some (.ref 37), some (.int 24), some (.int (-1)), none, none, none, none, none, none]) (st' := [.int 1]) (hp' := wd sE) rfl ?_
  refine AL_goto hT hK 17 (tgt := 37) rfl rfl ?_
  refine AL_g hT hK 19 3 (pc' := 42) (lo' := [some (.ref 0), some (.ref 36), some (.ref 37), some (.int 24), some (.int (-1)), some (.int 1), some (.int 0), none, none, none, none]) (st' := []) (hp' := wd sE) rfl ?_
  have lp5 : ∀ (n4 i2 : Nat), i2 + n4 = 12 → 0 ≤ i2 → AL K (0) (0) (6 * (0)) 42 [some (.ref 0), some (.ref 36), some (.ref 37), some (.int 24), some (.int (-1)), some (.int 1), some (.int (nI i2)), none, none, none, none] [] (wd sE) := by
    intro n4
    induction n4 with
    | zero =>
      intro i2 hi3 hi3s
      refine AL_g hT hK 22 2 (pc' := 46) (lo' := [some (.ref 0), some (.ref 36), some (.ref 37), some (.int 24), some (.int (-1)), some (.int 1), some (.int (nI i2)), none, none, none, none]) (st' := [.int 12, .int (nI i2)]) (hp' := wd sE) rfl ?_
      refine AL_icmp_ge hT hK 24 (tgt := 350) rfl rfl (fun _ => ?_) (fun c => absurd (az_c0 hi3) c)
      refine AL_msk [true, true, true, true, true, true, false, false, false, false, false] (lo' := [some (.ref 0), some (.ref 36), some (.ref 37), some (.int 24), some (.int (-1)), some (.int 1), none, none, none, none, none]) rfl ?_
      refine AL_g hT hK 179 1 (pc' := 352) (lo' := [some (.ref 0), some (.ref 36), some (.ref 37), some (.int 24), some (.int (-1)), some (.int 1), none, none, none, none, none]) (st' := [.int 1]) (hp' := wd sE) rfl ?_
      refine AL_cnt (lb' := 0) (cells' := 0) (slots' := 6 * 0) (by omega) (by omega) (by omega) ?_
      exact AL_iret hT hE 180 rfl rfl rfl (Nat.le_of_ble_eq_true rfl) (Nat.le_of_ble_eq_true rfl)
    | succ n4 ih6 =>
      intro i2 hi3 hi3s
      refine AL_g hT hK 22 2 (pc' := 46) (lo' := [some (.ref 0), some (.ref 36), some (.ref 37), some (.int 24), some (.int (-1)), some (.int 1), some (.int (nI i2)), none, none, none, none]) (st' := [.int 12, .int (nI i2)]) (hp' := wd sE) rfl ?_
      refine AL_icmp_ge hT hK 24 (tgt := 350) rfl rfl (fun c => absurd c (az_c1 hi3)) (fun _ => ?_)
      refine AL_g hT hK 25 1 (pc' := 51) (lo' := [some (.ref 0), some (.ref 36), some (.ref 37), some (.int 24), some (.int (-1)), some (.int 1), some (.int (nI i2)), none, none, none, none]) (st' := [.int 1]) (hp' := wd sE) rfl ?_
      refine AL_if_eq hT hK 26 (tgt := 350) rfl rfl (fun c => absurd c (by decide)) (fun _ => ?_)
      refine AL_g hT hK 27 2 (pc' := 57) (lo' := [some (.ref 0), some (.ref 36), some (.ref 37), some (.int 24), some (.int (-1)), some (.int 1), some (.int (nI i2)), none, none, none, none]) (st' := [.int (nI i2), .ref 36]) (hp' := wd sE) rfl ?_
      refine AL_r hT hK 29 i2 rfl rfl (by omega) ?_
      refine AL_if_lt hT hK 30 (tgt := 344) rfl rfl (fun _ => ?_) (fun c => absurd (by decide) c)
      refine AL_g hT hK 177 1 (pc' := 347) (lo' := [some (.ref 0), some (.ref 36), some (.ref 37), some (.int 24), some (.int (-1)), some (.int 1), some (.int (nI i2 + 1)), none, none, none, none]) (st' := []) (hp' := wd sE) rfl ?_
      refine AL_goto hT hK 178 (tgt := 42) rfl rfl ?_
      refine AL_to (lo' := [some (.ref 0), some (.ref 36), some (.ref 37), some (.int 24), some (.int (-1)), some (.int 1), some (.int (nI (i2 + 1))), none, none, none, none]) (by rw [nI_1]) rfl rfl ?_
      refine AL_cnt (lb' := (0)) (cells' := (0)) (slots' := 6 * (0)) (by omega) (by omega) (by omega) ?_
      exact ih6 (i2 + 1) (by omega) (by omega)
  refine AL_cnt (lb' := (0)) (cells' := (0)) (slots' := 6 * (0)) (by omega) (by omega) (by omega) ?_
  exact lp5 12 0 rfl (Nat.le_refl _)
set_option maxRecDepth 100000 in
set_option maxHeartbeats 4000000 in
theorem l_areRises_1 (l0 : Launch) (hl0 : l0.stackTraces = false) : AME l0 yL_areRises (.code yL_areRises cL_areRises 11 (some .boolean)) ({ frames := 8, cells := 0, slots := 0, locals := 127 } : Room) [.ref 0, .ref 36, .ref 37, .int 0] (wd sE) (wd sE) (.int 1) 0 := by
  refine AME_of (by decide +kernel) (by simp [Value.category]) (Nat.le_of_ble_eq_true rfl) (fun K hK hN hE => ?_)
  have hT := tt_L_areRises
  refine AL_g hT hK 0 2 (pc' := 2) (lo' := [some (.ref 0), some (.ref 36), some (.ref 37), some (.int 0), none, none, none, none, none, none, none]) (st' := [.int 0, .ref 0]) (hp' := wd sE) rfl ?_
  refine AL_cV hT hK 2 [.int 0] [] (m_X5_riser l0 sE 0 (-1) e_riser) cw_X5_riser lk_L_67 vi_X5_riser rfl rfl rfl rfl rfl rfl rfl rfl (by show _ ≤ 0; omega) (by show _ ≤ 0; omega) (AL_k1 rfl ?_)
  refine AL_g hT hK 3 2 (pc' := 9) (lo' := [some (.ref 0), some (.ref 36), some (.ref 37), some (.int 0), some (.int (-1)), none, none, none, none, none, none]) (st' := [.int (-1)]) (hp' := wd sE) rfl ?_
  refine AL_if_ge hT hK 5 (tgt := 16) rfl rfl (fun c => absurd c (by decide)) (fun _ => ?_)
  refine AL_g hT hK 6 1 (pc' := 13) (lo' := [some (.ref 0), some (.ref 36), some (.ref 37), some (.int 0), some (.int (-1)), none, none, none, none, none, none]) (st' := [.int 1]) (hp' := wd sE) rfl ?_
  refine AL_goto hT hK 7 (tgt := 17) rfl rfl ?_
  refine AL_g hT hK 9 1 (pc' := 18) (lo' := [some (.ref 0), some (.ref 36), some (.ref 37), some (.int 0), some (.int (-1)), none, none, none, none, none, none]) (st' := [.ref 0, .int 1]) (hp' := wd sE) rfl ?_
  refine AL_cV hT hK 10 [] [.int 1] (m_X5_papers l0 sE) cw_X5_papers lk_L_73 vi_X5_papers rfl rfl rfl rfl rfl rfl rfl rfl (by show _ ≤ 0; omega) (by show _ ≤ 0; omega) (AL_k1 e_papers ?_)
  refine AL_if_ne hT hK 11 (tgt := 28) rfl rfl (fun c => absurd (by decide) c) (fun _ => ?_)
  refine AL_g hT hK 12 1 (pc' := 25) (lo' := [some (.ref 0), some (.ref 36), some (.ref 37), some (.int 0), some (.int (-1)), none, none, none, none, none, none]) (st' := [.int 1, .int 1]) (hp' := wd sE) rfl ?_
  refine AL_goto hT hK 13 (tgt := 29) rfl rfl ?_
  refine AL_icmp_ne hT hK 15 (tgt := 36) rfl rfl (fun c => absurd (by decide) c) (fun _ => ?_)
  refine AL_g hT hK 16 1 (pc' := 33) (lo' := [some (.ref 0), some (.ref 36), some (.ref 37), some (.int 0), some (.int (-1)), none, none, none, none, none, none]) (st' := [.int 1]) (hp' := wd sE) rfl ?_
  refine AL_goto hT hK 17 (tgt := 37) rfl rfl ?_
  refine AL_g hT hK 19 3 (pc' := 42) (lo' := [some (.ref 0), some (.ref 36), some (.ref 37), some (.int 0), some (.int (-1)), some (.int 1), some (.int 0), none, none, none, none]) (st' := []) (hp' := wd sE) rfl ?_
  have lp5 : ∀ (n4 i2 : Nat), i2 + n4 = 12 → 0 ≤ i2 → AL K (0) (0) (6 * (0)) 42 [some (.ref 0), some (.ref 36), some (.ref 37), some (.int 0), some (.int (-1)), some (.int 1), some (.int (nI i2)), none, none, none, none] [] (wd sE) := by
    intro n4
    induction n4 with
    | zero =>
      intro i2 hi3 hi3s
      refine AL_g hT hK 22 2 (pc' := 46) (lo' := [some (.ref 0), some (.ref 36), some (.ref 37), some (.int 0), some (.int (-1)), some (.int 1), some (.int (nI i2)), none, none, none, none]) (st' := [.int 12, .int (nI i2)]) (hp' := wd sE) rfl ?_
      refine AL_icmp_ge hT hK 24 (tgt := 350) rfl rfl (fun _ => ?_) (fun c => absurd (az_c0 hi3) c)
      refine AL_msk [true, true, true, true, true, true, false, false, false, false, false] (lo' := [some (.ref 0), some (.ref 36), some (.ref 37), some (.int 0), some (.int (-1)), some (.int 1), none, none, none, none, none]) rfl ?_
      refine AL_g hT hK 179 1 (pc' := 352) (lo' := [some (.ref 0), some (.ref 36), some (.ref 37), some (.int 0), some (.int (-1)), some (.int 1), none, none, none, none, none]) (st' := [.int 1]) (hp' := wd sE) rfl ?_
      refine AL_cnt (lb' := 0) (cells' := 0) (slots' := 6 * 0) (by omega) (by omega) (by omega) ?_
      exact AL_iret hT hE 180 rfl rfl rfl (Nat.le_of_ble_eq_true rfl) (Nat.le_of_ble_eq_true rfl)
    | succ n4 ih6 =>
      intro i2 hi3 hi3s
      refine AL_g hT hK 22 2 (pc' := 46) (lo' := [some (.ref 0), some (.ref 36), some (.ref 37), some (.int 0), some (.int (-1)), some (.int 1), some (.int (nI i2)), none, none, none, none]) (st' := [.int 12, .int (nI i2)]) (hp' := wd sE) rfl ?_
      refine AL_icmp_ge hT hK 24 (tgt := 350) rfl rfl (fun c => absurd c (az_c1 hi3)) (fun _ => ?_)
      refine AL_g hT hK 25 1 (pc' := 51) (lo' := [some (.ref 0), some (.ref 36), some (.ref 37), some (.int 0), some (.int (-1)), some (.int 1), some (.int (nI i2)), none, none, none, none]) (st' := [.int 1]) (hp' := wd sE) rfl ?_
      refine AL_if_eq hT hK 26 (tgt := 350) rfl rfl (fun c => absurd c (by decide)) (fun _ => ?_)
      refine AL_g hT hK 27 2 (pc' := 57) (lo' := [some (.ref 0), some (.ref 36), some (.ref 37), some (.int 0), some (.int (-1)), some (.int 1), some (.int (nI i2)), none, none, none, none]) (st' := [.int (nI i2), .ref 36]) (hp' := wd sE) rfl ?_
      refine AL_r hT hK 29 i2 rfl rfl (by omega) ?_
      refine AL_if_lt hT hK 30 (tgt := 344) rfl rfl (fun _ => ?_) (fun c => absurd (by decide) c)
      refine AL_g hT hK 177 1 (pc' := 347) (lo' := [some (.ref 0), some (.ref 36), some (.ref 37), some (.int 0), some (.int (-1)), some (.int 1), some (.int (nI i2 + 1)), none, none, none, none]) (st' := []) (hp' := wd sE) rfl ?_
      refine AL_goto hT hK 178 (tgt := 42) rfl rfl ?_
      refine AL_to (lo' := [some (.ref 0), some (.ref 36), some (.ref 37), some (.int 0), some (.int (-1)), some (.int 1), some (.int (nI (i2 + 1))), none, none, none, none]) (by rw [nI_1]) rfl rfl ?_
      refine AL_cnt (lb' := (0)) (cells' := (0)) (slots' := 6 * (0)) (by omega) (by omega) (by omega) ?_
      exact ih6 (i2 + 1) (by omega) (by omega)
  refine AL_cnt (lb' := (0)) (cells' := (0)) (slots' := 6 * (0)) (by omega) (by omega) (by omega) ?_
  exact lp5 12 0 rfl (Nat.le_refl _)
set_option maxRecDepth 100000 in
set_option maxHeartbeats 4000000 in
theorem l_isGone (l0 : Launch) (hl0 : l0.stackTraces = false) : AME l0 yL_isGone (.code yL_isGone cL_isGone 7 (some .boolean)) ({ frames := 9, cells := 1, slots := 6, locals := 190 } : Room) [.ref 0, .ref 36, .int 4] (wd sE) (wd sE) (.int 1) 1 := by
  refine AME_of (by decide +kernel) (by simp [Value.category]) (Nat.le_of_ble_eq_true rfl) (fun K hK hN hE => ?_)
  have hT := tt_L_isGone
  refine AL_g hT hK 0 2 (pc' := 2) (lo' := [some (.ref 0), some (.ref 36), some (.int 4), none, none, none, none]) (st' := [.int 4, .ref 36]) (hp' := wd sE) rfl ?_
  refine AL_r hT hK 2 4 rfl rfl (by omega) ?_
  refine AL_g hT hK 3 2 (pc' := 5) (lo' := [some (.ref 0), some (.ref 36), some (.int 4), some (.int (-1)), none, none, none]) (st' := [.int (-1)]) (hp' := wd sE) rfl ?_
  refine AL_if_ge hT hK 5 (tgt := 12) rfl rfl (fun c => absurd c (by decide)) (fun _ => ?_)
  refine AL_g hT hK 6 1 (pc' := 9) (lo' := [some (.ref 0), some (.ref 36), some (.int 4), some (.int (-1)), none, none, none]) (st' := [.int 0]) (hp' := wd sE) rfl ?_
  refine AL_goto hT hK 7 (tgt := 17) rfl rfl ?_
  refine AL_g hT hK 11 5 (pc' := 23) (lo' := [some (.ref 0), some (.ref 36), some (.int 4), some (.int (-1)), some (.int 0), none, none]) (st' := [.int 0, .int 4, .int 0, .ref 0]) (hp' := wd sE) rfl ?_
  refine AL_cW hT hK hN 16 [.ref 0, .int 0, .int 4, .int 0] [] (l_of 0 (by decide) l0 hl0 4 0) cy_L_of lk_L_96 sm_L_of rfl rfl rfl rfl rfl rfl (by show _ ≤ 1; omega) (by show _ ≤ 6; omega) ?_
  refine AL_g hT hK 17 2 (pc' := 29) (lo' := [some (.ref 0), some (.ref 36), some (.int 4), some (.int (-1)), some (.int 0), some (.int (-2000000004)), none]) (st' := [.int (-1)]) (hp' := wd sE) rfl ?_
  refine AL_if_ge hT hK 19 (tgt := 45) rfl rfl (fun c => absurd c (by decide)) (fun _ => ?_)
  refine AL_g hT hK 20 1 (pc' := 34) (lo' := [some (.ref 0), some (.ref 36), some (.int 4), some (.int (-1)), some (.int 0), some (.int (-2000000004)), none]) (st' := [.int (-2000000004)]) (hp' := wd sE) rfl ?_
  refine AL_ldc hT hK 21 (v := (-2000000004)) rfl (List.mem_of_getElem? (i := 549) (by decide +kernel)) ?_
  refine AL_icmp_ne hT hK 22 (tgt := 43) rfl rfl (fun c => absurd (by decide) c) (fun _ => ?_)
  refine AL_g hT hK 23 1 (pc' := 40) (lo' := [some (.ref 0), some (.ref 36), some (.int 4), some (.int (-1)), some (.int 0), some (.int (-2000000004)), none]) (st' := [.int 1]) (hp' := wd sE) rfl ?_
  refine AL_goto hT hK 24 (tgt := 44) rfl rfl ?_
  refine AL_cnt (lb' := 1) (cells' := 1) (slots' := 6 * 1) (by omega) (by omega) (by omega) ?_
  exact AL_iret hT hE 26 rfl rfl rfl (Nat.le_of_ble_eq_true rfl) (Nat.le_of_ble_eq_true rfl)
end AZLE
