section AZP
def x_X5_holds (σ : az_S) (p0 : Int32) (p1 : Int32) : Int32 :=
  if p1 < 0 then
    0
  else
    if 12 ≤ p1 then
      0
    else
      if ((p0 >>> (p1 &&& 31)) &&& 1) = 0 then
        0
      else
        1
set_option maxRecDepth 100000 in
set_option maxHeartbeats 4000000 in
theorem m_X5_holds (l0 : Launch) (σ : az_S) (p0 : Int32) (p1 : Int32) : AMet l0 yX5_holds cX5_holds 2 (some .boolean) ({ frames := 0, cells := 0, slots := 0, locals := 0 } : Room) false [.int p0, .int p1] (wd σ) (fun r h => r = some (.int (x_X5_holds σ p0 p1)) ∧ h = wd σ) := by
  refine AMet_of (by decide +kernel) (by simp [Value.category]) (Nat.le_of_ble_eq_true rfl) (fun K hK hct hG hE => ?_)
  have hT := tt_X5_holds
  refine AW_g hT cl_X5 hK 0 1 (pc' := 1) (lo' := [some (.int p0), some (.int p1)]) (st' := [.int p1]) (hp' := wd σ) rfl ?_
  refine AW_if_lt hT hK 1 (tgt := 22) rfl rfl (fun c1 => ?_) (fun c1 => ?_)
  · refine AW_g hT cl_X5 hK 13 1 (pc' := 23) (lo' := [some (.int p0), some (.int p1)]) (st' := [.int 0]) (hp' := wd σ) rfl ?_
    refine AW_iret hT hE 14 rfl rfl rfl (Nat.le_of_ble_eq_true rfl) (Nat.le_of_ble_eq_true rfl) ?_
    exact ⟨by simp only [x_X5_holds, if_pos c1], rfl⟩
  · refine AW_g hT cl_X5 hK 2 2 (pc' := 7) (lo' := [some (.int p0), some (.int p1)]) (st' := [.int 12, .int p1]) (hp' := wd σ) rfl ?_
    refine AW_icmp_ge hT hK 4 (tgt := 22) rfl rfl (fun c2 => ?_) (fun c2 => ?_)
    · refine AW_g hT cl_X5 hK 13 1 (pc' := 23) (lo' := [some (.int p0), some (.int p1)]) (st' := [.int 0]) (hp' := wd σ) rfl ?_
      refine AW_iret hT hE 14 rfl rfl rfl (Nat.le_of_ble_eq_true rfl) (Nat.le_of_ble_eq_true rfl) ?_
      exact ⟨by simp only [x_X5_holds, if_neg c1, if_pos c2], rfl⟩
    · refine AW_g hT cl_X5 hK 5 5 (pc' := 15) (lo' := [some (.int p0), some (.int p1)]) (st' := [.int ((p0 >>> (p1 &&& 31)) &&& 1)]) (hp' := wd σ) rfl ?_
      refine AW_if_eq hT hK 10 (tgt := 22) rfl rfl (fun c3 => ?_) (fun c3 => ?_)
      · refine AW_g hT cl_X5 hK 13 1 (pc' := 23) (lo' := [some (.int p0), some (.int p1)]) (st' := [.int 0]) (hp' := wd σ) rfl ?_
        refine AW_iret hT hE 14 rfl rfl rfl (Nat.le_of_ble_eq_true rfl) (Nat.le_of_ble_eq_true rfl) ?_
        exact ⟨by simp only [x_X5_holds, if_neg c1, if_neg c2, if_pos c3], rfl⟩
      · refine AW_g hT cl_X5 hK 11 1 (pc' := 19) (lo' := [some (.int p0), some (.int p1)]) (st' := [.int 1]) (hp' := wd σ) rfl ?_
        refine AW_goto hT hK 12 (tgt := 23) rfl rfl ?_
        refine AW_iret hT hE 14 rfl rfl rfl (Nat.le_of_ble_eq_true rfl) (Nat.le_of_ble_eq_true rfl) ?_
        exact ⟨by simp only [x_X5_holds, if_neg c1, if_neg c2, if_neg c3], rfl⟩
theorem nb_X5_holds (σ : az_S) (p0 : Int32) (p1 : Int32) : narrow .boolean (.int (x_X5_holds σ p0 p1)) = .int (x_X5_holds σ p0 p1) := by
  unfold x_X5_holds
  (try dsimp only)
  (repeat' split) <;> first | rfl | (dsimp only; rfl)
def x_X5_setOf (σ : az_S) (p0 : Int32) : Int32 :=
  if p0 < 0 then
    0
  else
    if 12 ≤ p0 then
      0
    else
      (1 <<< (p0 &&& 31))
set_option maxRecDepth 100000 in
set_option maxHeartbeats 4000000 in
theorem m_X5_setOf (l0 : Launch) (σ : az_S) (p0 : Int32) : AMet l0 yX5_setOf cX5_setOf 1 (some .int) ({ frames := 0, cells := 0, slots := 0, locals := 0 } : Room) false [.int p0] (wd σ) (fun r h => r = some (.int (x_X5_setOf σ p0)) ∧ h = wd σ) := by
  refine AMet_of (by decide +kernel) (by simp [Value.category]) (Nat.le_of_ble_eq_true rfl) (fun K hK hct hG hE => ?_)
  have hT := tt_X5_setOf
  refine AW_g hT cl_X5 hK 0 1 (pc' := 1) (lo' := [some (.int p0)]) (st' := [.int p0]) (hp' := wd σ) rfl ?_
  refine AW_if_lt hT hK 1 (tgt := 16) rfl rfl (fun c1 => ?_) (fun c1 => ?_)
  · refine AW_g hT cl_X5 hK 9 1 (pc' := 17) (lo' := [some (.int p0)]) (st' := [.int 0]) (hp' := wd σ) rfl ?_
    refine AW_iret hT hE 10 rfl rfl rfl (Nat.le_of_ble_eq_true rfl) (Nat.le_of_ble_eq_true rfl) ?_
    exact ⟨by simp only [x_X5_setOf, if_pos c1], rfl⟩
  · refine AW_g hT cl_X5 hK 2 2 (pc' := 7) (lo' := [some (.int p0)]) (st' := [.int 12, .int p0]) (hp' := wd σ) rfl ?_
    refine AW_icmp_ge hT hK 4 (tgt := 16) rfl rfl (fun c2 => ?_) (fun c2 => ?_)
    · refine AW_g hT cl_X5 hK 9 1 (pc' := 17) (lo' := [some (.int p0)]) (st' := [.int 0]) (hp' := wd σ) rfl ?_
      refine AW_iret hT hE 10 rfl rfl rfl (Nat.le_of_ble_eq_true rfl) (Nat.le_of_ble_eq_true rfl) ?_
      exact ⟨by simp only [x_X5_setOf, if_neg c1, if_pos c2], rfl⟩
    · refine AW_g hT cl_X5 hK 5 3 (pc' := 13) (lo' := [some (.int p0)]) (st' := [.int (1 <<< (p0 &&& 31))]) (hp' := wd σ) rfl ?_
      refine AW_goto hT hK 8 (tgt := 17) rfl rfl ?_
      refine AW_iret hT hE 10 rfl rfl rfl (Nat.le_of_ble_eq_true rfl) (Nat.le_of_ble_eq_true rfl) ?_
      exact ⟨by simp only [x_X5_setOf, if_neg c1, if_neg c2], rfl⟩
def x_J6_bitCount_0f7a4 (σ : az_S) (p0 : Int32) : Int32 :=
  ((((((((p0 - ((((p0 : Int32).toUInt32 >>> ((1 : Int32).toUInt32 &&& Int32.toUInt32 31)).toInt32) &&& 1431655765)) &&& 858993459) + (((((p0 - ((((p0 : Int32).toUInt32 >>> ((1 : Int32).toUInt32 &&& Int32.toUInt32 31)).toInt32) &&& 1431655765)) : Int32).toUInt32 >>> ((2 : Int32).toUInt32 &&& Int32.toUInt32 31)).toInt32) &&& 858993459)) + ((((((p0 - ((((p0 : Int32).toUInt32 >>> ((1 : Int32).toUInt32 &&& Int32.toUInt32 31)).toInt32) &&& 1431655765)) &&& 858993459) + (((((p0 - ((((p0 : Int32).toUInt32 >>> ((1 : Int32).toUInt32 &&& Int32.toUInt32 31)).toInt32) &&& 1431655765)) : Int32).toUInt32 >>> ((2 : Int32).toUInt32 &&& Int32.toUInt32 31)).toInt32) &&& 858993459)) : Int32).toUInt32 >>> ((4 : Int32).toUInt32 &&& Int32.toUInt32 31)).toInt32)) &&& 252645135) + ((((((((p0 - ((((p0 : Int32).toUInt32 >>> ((1 : Int32).toUInt32 &&& Int32.toUInt32 31)).toInt32) &&& 1431655765)) &&& 858993459) + (((((p0 - ((((p0 : Int32).toUInt32 >>> ((1 : Int32).toUInt32 &&& Int32.toUInt32 31)).toInt32) &&& 1431655765)) : Int32).toUInt32 >>> ((2 : Int32).toUInt32 &&& Int32.toUInt32 31)).toInt32) &&& 858993459)) + ((((((p0 - ((((p0 : Int32).toUInt32 >>> ((1 : Int32).toUInt32 &&& Int32.toUInt32 31)).toInt32) &&& 1431655765)) &&& 858993459) + (((((p0 - ((((p0 : Int32).toUInt32 >>> ((1 : Int32).toUInt32 &&& Int32.toUInt32 31)).toInt32) &&& 1431655765)) : Int32).toUInt32 >>> ((2 : Int32).toUInt32 &&& Int32.toUInt32 31)).toInt32) &&& 858993459)) : Int32).toUInt32 >>> ((4 : Int32).toUInt32 &&& Int32.toUInt32 31)).toInt32)) &&& 252645135) : Int32).toUInt32 >>> ((8 : Int32).toUInt32 &&& Int32.toUInt32 31)).toInt32)) + (((((((((p0 - ((((p0 : Int32).toUInt32 >>> ((1 : Int32).toUInt32 &&& Int32.toUInt32 31)).toInt32) &&& 1431655765)) &&& 858993459) + (((((p0 - ((((p0 : Int32).toUInt32 >>> ((1 : Int32).toUInt32 &&& Int32.toUInt32 31)).toInt32) &&& 1431655765)) : Int32).toUInt32 >>> ((2 : Int32).toUInt32 &&& Int32.toUInt32 31)).toInt32) &&& 858993459)) + ((((((p0 - ((((p0 : Int32).toUInt32 >>> ((1 : Int32).toUInt32 &&& Int32.toUInt32 31)).toInt32) &&& 1431655765)) &&& 858993459) + (((((p0 - ((((p0 : Int32).toUInt32 >>> ((1 : Int32).toUInt32 &&& Int32.toUInt32 31)).toInt32) &&& 1431655765)) : Int32).toUInt32 >>> ((2 : Int32).toUInt32 &&& Int32.toUInt32 31)).toInt32) &&& 858993459)) : Int32).toUInt32 >>> ((4 : Int32).toUInt32 &&& Int32.toUInt32 31)).toInt32)) &&& 252645135) + ((((((((p0 - ((((p0 : Int32).toUInt32 >>> ((1 : Int32).toUInt32 &&& Int32.toUInt32 31)).toInt32) &&& 1431655765)) &&& 858993459) + (((((p0 - ((((p0 : Int32).toUInt32 >>> ((1 : Int32).toUInt32 &&& Int32.toUInt32 31)).toInt32) &&& 1431655765)) : Int32).toUInt32 >>> ((2 : Int32).toUInt32 &&& Int32.toUInt32 31)).toInt32) &&& 858993459)) + ((((((p0 - ((((p0 : Int32).toUInt32 >>> ((1 : Int32).toUInt32 &&& Int32.toUInt32 31)).toInt32) &&& 1431655765)) &&& 858993459) + (((((p0 - ((((p0 : Int32).toUInt32 >>> ((1 : Int32).toUInt32 &&& Int32.toUInt32 31)).toInt32) &&& 1431655765)) : Int32).toUInt32 >>> ((2 : Int32).toUInt32 &&& Int32.toUInt32 31)).toInt32) &&& 858993459)) : Int32).toUInt32 >>> ((4 : Int32).toUInt32 &&& Int32.toUInt32 31)).toInt32)) &&& 252645135) : Int32).toUInt32 >>> ((8 : Int32).toUInt32 &&& Int32.toUInt32 31)).toInt32)) : Int32).toUInt32 >>> ((16 : Int32).toUInt32 &&& Int32.toUInt32 31)).toInt32)) &&& 63)
set_option maxRecDepth 100000 in
set_option maxHeartbeats 4000000 in
theorem m_J6_bitCount_0f7a4 (l0 : Launch) (σ : az_S) (p0 : Int32) : AMet l0 yJ6_bitCount_0f7a4 cJ6_bitCount_0f7a4 1 (some .int) ({ frames := 0, cells := 0, slots := 0, locals := 0 } : Room) false [.int p0] (wd σ) (fun r h => r = some (.int (x_J6_bitCount_0f7a4 σ p0)) ∧ h = wd σ) := by
  refine AMet_of (by decide +kernel) (by simp [Value.category]) (Nat.le_of_ble_eq_true rfl) (fun K hK hct hG hE => ?_)
  have hT := tt_J6_bitCount_0f7a4
  refine AW_g hT (cl_N _) hK 0 4 (pc' := 4) (lo' := [some (.int p0)]) (st' := [.int (((p0 : Int32).toUInt32 >>> ((1 : Int32).toUInt32 &&& Int32.toUInt32 31)).toInt32), .int p0]) (hp' := wd σ) rfl ?_
  refine AW_ldcw hT hK 4 (v := 1431655765) rfl (List.mem_of_getElem? (i := 284) (by decide +kernel)) ?_
  refine AW_g hT (cl_N _) hK 5 4 (pc' := 11) (lo' := [some (.int (p0 - ((((p0 : Int32).toUInt32 >>> ((1 : Int32).toUInt32 &&& Int32.toUInt32 31)).toInt32) &&& 1431655765)))]) (st' := [.int (p0 - ((((p0 : Int32).toUInt32 >>> ((1 : Int32).toUInt32 &&& Int32.toUInt32 31)).toInt32) &&& 1431655765))]) (hp' := wd σ) rfl ?_
  refine AW_ldcw hT hK 9 (v := 858993459) rfl (List.mem_of_getElem? (i := 285) (by decide +kernel)) ?_
  refine AW_g hT (cl_N _) hK 10 4 (pc' := 18) (lo' := [some (.int (p0 - ((((p0 : Int32).toUInt32 >>> ((1 : Int32).toUInt32 &&& Int32.toUInt32 31)).toInt32) &&& 1431655765)))]) (st' := [.int ((((p0 - ((((p0 : Int32).toUInt32 >>> ((1 : Int32).toUInt32 &&& Int32.toUInt32 31)).toInt32) &&& 1431655765)) : Int32).toUInt32 >>> ((2 : Int32).toUInt32 &&& Int32.toUInt32 31)).toInt32), .int ((p0 - ((((p0 : Int32).toUInt32 >>> ((1 : Int32).toUInt32 &&& Int32.toUInt32 31)).toInt32) &&& 1431655765)) &&& 858993459)]) (hp' := wd σ) rfl ?_
  refine AW_ldcw hT hK 14 (v := 858993459) rfl (List.mem_of_getElem? (i := 285) (by decide +kernel)) ?_
  refine AW_g hT (cl_N _) hK 15 8 (pc' := 29) (lo' := [some (.int (((p0 - ((((p0 : Int32).toUInt32 >>> ((1 : Int32).toUInt32 &&& Int32.toUInt32 31)).toInt32) &&& 1431655765)) &&& 858993459) + (((((p0 - ((((p0 : Int32).toUInt32 >>> ((1 : Int32).toUInt32 &&& Int32.toUInt32 31)).toInt32) &&& 1431655765)) : Int32).toUInt32 >>> ((2 : Int32).toUInt32 &&& Int32.toUInt32 31)).toInt32) &&& 858993459)))]) (st' := [.int ((((p0 - ((((p0 : Int32).toUInt32 >>> ((1 : Int32).toUInt32 &&& Int32.toUInt32 31)).toInt32) &&& 1431655765)) &&& 858993459) + (((((p0 - ((((p0 : Int32).toUInt32 >>> ((1 : Int32).toUInt32 &&& Int32.toUInt32 31)).toInt32) &&& 1431655765)) : Int32).toUInt32 >>> ((2 : Int32).toUInt32 &&& Int32.toUInt32 31)).toInt32) &&& 858993459)) + ((((((p0 - ((((p0 : Int32).toUInt32 >>> ((1 : Int32).toUInt32 &&& Int32.toUInt32 31)).toInt32) &&& 1431655765)) &&& 858993459) + (((((p0 - ((((p0 : Int32).toUInt32 >>> ((1 : Int32).toUInt32 &&& Int32.toUInt32 31)).toInt32) &&& 1431655765)) : Int32).toUInt32 >>> ((2 : Int32).toUInt32 &&& Int32.toUInt32 31)).toInt32) &&& 858993459)) : Int32).toUInt32 >>> ((4 : Int32).toUInt32 &&& Int32.toUInt32 31)).toInt32))]) (hp' := wd σ) rfl ?_
  refine AW_ldcw hT hK 23 (v := 252645135) rfl (List.mem_of_getElem? (i := 286) (by decide +kernel)) ?_
  refine AW_g hT (cl_N _) hK 24 17 (pc' := 52) (lo' := [some (.int (((((((p0 - ((((p0 : Int32).toUInt32 >>> ((1 : Int32).toUInt32 &&& Int32.toUInt32 31)).toInt32) &&& 1431655765)) &&& 858993459) + (((((p0 - ((((p0 : Int32).toUInt32 >>> ((1 : Int32).toUInt32 &&& Int32.toUInt32 31)).toInt32) &&& 1431655765)) : Int32).toUInt32 >>> ((2 : Int32).toUInt32 &&& Int32.toUInt32 31)).toInt32) &&& 858993459)) + ((((((p0 - ((((p0 : Int32).toUInt32 >>> ((1 : Int32).toUInt32 &&& Int32.toUInt32 31)).toInt32) &&& 1431655765)) &&& 858993459) + (((((p0 - ((((p0 : Int32).toUInt32 >>> ((1 : Int32).toUInt32 &&& Int32.toUInt32 31)).toInt32) &&& 1431655765)) : Int32).toUInt32 >>> ((2 : Int32).toUInt32 &&& Int32.toUInt32 31)).toInt32) &&& 858993459)) : Int32).toUInt32 >>> ((4 : Int32).toUInt32 &&& Int32.toUInt32 31)).toInt32)) &&& 252645135) + ((((((((p0 - ((((p0 : Int32).toUInt32 >>> ((1 : Int32).toUInt32 &&& Int32.toUInt32 31)).toInt32) &&& 1431655765)) &&& 858993459) + (((((p0 - ((((p0 : Int32).toUInt32 >>> ((1 : Int32).toUInt32 &&& Int32.toUInt32 31)).toInt32) &&& 1431655765)) : Int32).toUInt32 >>> ((2 : Int32).toUInt32 &&& Int32.toUInt32 31)).toInt32) &&& 858993459)) + ((((((p0 - ((((p0 : Int32).toUInt32 >>> ((1 : Int32).toUInt32 &&& Int32.toUInt32 31)).toInt32) &&& 1431655765)) &&& 858993459) + (((((p0 - ((((p0 : Int32).toUInt32 >>> ((1 : Int32).toUInt32 &&& Int32.toUInt32 31)).toInt32) &&& 1431655765)) : Int32).toUInt32 >>> ((2 : Int32).toUInt32 &&& Int32.toUInt32 31)).toInt32) &&& 858993459)) : Int32).toUInt32 >>> ((4 : Int32).toUInt32 &&& Int32.toUInt32 31)).toInt32)) &&& 252645135) : Int32).toUInt32 >>> ((8 : Int32).toUInt32 &&& Int32.toUInt32 31)).toInt32)) + (((((((((p0 - ((((p0 : Int32).toUInt32 >>> ((1 : Int32).toUInt32 &&& Int32.toUInt32 31)).toInt32) &&& 1431655765)) &&& 858993459) + (((((p0 - ((((p0 : Int32).toUInt32 >>> ((1 : Int32).toUInt32 &&& Int32.toUInt32 31)).toInt32) &&& 1431655765)) : Int32).toUInt32 >>> ((2 : Int32).toUInt32 &&& Int32.toUInt32 31)).toInt32) &&& 858993459)) + ((((((p0 - ((((p0 : Int32).toUInt32 >>> ((1 : Int32).toUInt32 &&& Int32.toUInt32 31)).toInt32) &&& 1431655765)) &&& 858993459) + (((((p0 - ((((p0 : Int32).toUInt32 >>> ((1 : Int32).toUInt32 &&& Int32.toUInt32 31)).toInt32) &&& 1431655765)) : Int32).toUInt32 >>> ((2 : Int32).toUInt32 &&& Int32.toUInt32 31)).toInt32) &&& 858993459)) : Int32).toUInt32 >>> ((4 : Int32).toUInt32 &&& Int32.toUInt32 31)).toInt32)) &&& 252645135) + ((((((((p0 - ((((p0 : Int32).toUInt32 >>> ((1 : Int32).toUInt32 &&& Int32.toUInt32 31)).toInt32) &&& 1431655765)) &&& 858993459) + (((((p0 - ((((p0 : Int32).toUInt32 >>> ((1 : Int32).toUInt32 &&& Int32.toUInt32 31)).toInt32) &&& 1431655765)) : Int32).toUInt32 >>> ((2 : Int32).toUInt32 &&& Int32.toUInt32 31)).toInt32) &&& 858993459)) + ((((((p0 - ((((p0 : Int32).toUInt32 >>> ((1 : Int32).toUInt32 &&& Int32.toUInt32 31)).toInt32) &&& 1431655765)) &&& 858993459) + (((((p0 - ((((p0 : Int32).toUInt32 >>> ((1 : Int32).toUInt32 &&& Int32.toUInt32 31)).toInt32) &&& 1431655765)) : Int32).toUInt32 >>> ((2 : Int32).toUInt32 &&& Int32.toUInt32 31)).toInt32) &&& 858993459)) : Int32).toUInt32 >>> ((4 : Int32).toUInt32 &&& Int32.toUInt32 31)).toInt32)) &&& 252645135) : Int32).toUInt32 >>> ((8 : Int32).toUInt32 &&& Int32.toUInt32 31)).toInt32)) : Int32).toUInt32 >>> ((16 : Int32).toUInt32 &&& Int32.toUInt32 31)).toInt32)))]) (st' := [.int ((((((((p0 - ((((p0 : Int32).toUInt32 >>> ((1 : Int32).toUInt32 &&& Int32.toUInt32 31)).toInt32) &&& 1431655765)) &&& 858993459) + (((((p0 - ((((p0 : Int32).toUInt32 >>> ((1 : Int32).toUInt32 &&& Int32.toUInt32 31)).toInt32) &&& 1431655765)) : Int32).toUInt32 >>> ((2 : Int32).toUInt32 &&& Int32.toUInt32 31)).toInt32) &&& 858993459)) + ((((((p0 - ((((p0 : Int32).toUInt32 >>> ((1 : Int32).toUInt32 &&& Int32.toUInt32 31)).toInt32) &&& 1431655765)) &&& 858993459) + (((((p0 - ((((p0 : Int32).toUInt32 >>> ((1 : Int32).toUInt32 &&& Int32.toUInt32 31)).toInt32) &&& 1431655765)) : Int32).toUInt32 >>> ((2 : Int32).toUInt32 &&& Int32.toUInt32 31)).toInt32) &&& 858993459)) : Int32).toUInt32 >>> ((4 : Int32).toUInt32 &&& Int32.toUInt32 31)).toInt32)) &&& 252645135) + ((((((((p0 - ((((p0 : Int32).toUInt32 >>> ((1 : Int32).toUInt32 &&& Int32.toUInt32 31)).toInt32) &&& 1431655765)) &&& 858993459) + (((((p0 - ((((p0 : Int32).toUInt32 >>> ((1 : Int32).toUInt32 &&& Int32.toUInt32 31)).toInt32) &&& 1431655765)) : Int32).toUInt32 >>> ((2 : Int32).toUInt32 &&& Int32.toUInt32 31)).toInt32) &&& 858993459)) + ((((((p0 - ((((p0 : Int32).toUInt32 >>> ((1 : Int32).toUInt32 &&& Int32.toUInt32 31)).toInt32) &&& 1431655765)) &&& 858993459) + (((((p0 - ((((p0 : Int32).toUInt32 >>> ((1 : Int32).toUInt32 &&& Int32.toUInt32 31)).toInt32) &&& 1431655765)) : Int32).toUInt32 >>> ((2 : Int32).toUInt32 &&& Int32.toUInt32 31)).toInt32) &&& 858993459)) : Int32).toUInt32 >>> ((4 : Int32).toUInt32 &&& Int32.toUInt32 31)).toInt32)) &&& 252645135) : Int32).toUInt32 >>> ((8 : Int32).toUInt32 &&& Int32.toUInt32 31)).toInt32)) + (((((((((p0 - ((((p0 : Int32).toUInt32 >>> ((1 : Int32).toUInt32 &&& Int32.toUInt32 31)).toInt32) &&& 1431655765)) &&& 858993459) + (((((p0 - ((((p0 : Int32).toUInt32 >>> ((1 : Int32).toUInt32 &&& Int32.toUInt32 31)).toInt32) &&& 1431655765)) : Int32).toUInt32 >>> ((2 : Int32).toUInt32 &&& Int32.toUInt32 31)).toInt32) &&& 858993459)) + ((((((p0 - ((((p0 : Int32).toUInt32 >>> ((1 : Int32).toUInt32 &&& Int32.toUInt32 31)).toInt32) &&& 1431655765)) &&& 858993459) + (((((p0 - ((((p0 : Int32).toUInt32 >>> ((1 : Int32).toUInt32 &&& Int32.toUInt32 31)).toInt32) &&& 1431655765)) : Int32).toUInt32 >>> ((2 : Int32).toUInt32 &&& Int32.toUInt32 31)).toInt32) &&& 858993459)) : Int32).toUInt32 >>> ((4 : Int32).toUInt32 &&& Int32.toUInt32 31)).toInt32)) &&& 252645135) + ((((((((p0 - ((((p0 : Int32).toUInt32 >>> ((1 : Int32).toUInt32 &&& Int32.toUInt32 31)).toInt32) &&& 1431655765)) &&& 858993459) + (((((p0 - ((((p0 : Int32).toUInt32 >>> ((1 : Int32).toUInt32 &&& Int32.toUInt32 31)).toInt32) &&& 1431655765)) : Int32).toUInt32 >>> ((2 : Int32).toUInt32 &&& Int32.toUInt32 31)).toInt32) &&& 858993459)) + ((((((p0 - ((((p0 : Int32).toUInt32 >>> ((1 : Int32).toUInt32 &&& Int32.toUInt32 31)).toInt32) &&& 1431655765)) &&& 858993459) + (((((p0 - ((((p0 : Int32).toUInt32 >>> ((1 : Int32).toUInt32 &&& Int32.toUInt32 31)).toInt32) &&& 1431655765)) : Int32).toUInt32 >>> ((2 : Int32).toUInt32 &&& Int32.toUInt32 31)).toInt32) &&& 858993459)) : Int32).toUInt32 >>> ((4 : Int32).toUInt32 &&& Int32.toUInt32 31)).toInt32)) &&& 252645135) : Int32).toUInt32 >>> ((8 : Int32).toUInt32 &&& Int32.toUInt32 31)).toInt32)) : Int32).toUInt32 >>> ((16 : Int32).toUInt32 &&& Int32.toUInt32 31)).toInt32)) &&& 63)]) (hp' := wd σ) rfl ?_
  refine AW_iret hT hE 41 rfl rfl rfl (Nat.le_of_ble_eq_true rfl) (Nat.le_of_ble_eq_true rfl) ?_
  exact ⟨by simp only [x_J6_bitCount_0f7a4], rfl⟩
def x_X2_at_4 (σ : az_S) (p0 : Int32) : Int32 :=
  if p0 < 0 then
    0
  else
    if 12 ≤ p0 then
      0
    else
      ((σ.2.1 5) p0.toNatClampNeg)
set_option maxRecDepth 100000 in
set_option maxHeartbeats 4000000 in
theorem m_X2_at_4 (l0 : Launch) (σ : az_S) (p0 : Int32) : AMet l0 yX2_at cX2_at 2 (some .int) ({ frames := 0, cells := 0, slots := 0, locals := 0 } : Room) false [.ref 4, .int p0] (wd σ) (fun r h => r = some (.int (x_X2_at_4 σ p0)) ∧ h = wd σ) := by
  refine AMet_of (by decide +kernel) (by simp [Value.category]) (Nat.le_of_ble_eq_true rfl) (fun K hK hct hG hE => ?_)
  have hT := tt_X2_at
  refine AW_g hT cl_X2 hK 0 1 (pc' := 1) (lo' := [some (.ref 4), some (.int p0)]) (st' := [.int p0]) (hp' := wd σ) rfl ?_
  refine AW_if_lt hT hK 1 (tgt := 22) rfl rfl (fun c1 => ?_) (fun c1 => ?_)
  · refine AW_g hT cl_X2 hK 12 1 (pc' := 23) (lo' := [some (.ref 4), some (.int p0)]) (st' := [.int 0]) (hp' := wd σ) rfl ?_
    refine AW_iret hT hE 13 rfl rfl rfl (Nat.le_of_ble_eq_true rfl) (Nat.le_of_ble_eq_true rfl) ?_
    exact ⟨by simp only [x_X2_at_4, if_pos c1], rfl⟩
  · refine AW_g hT cl_X2 hK 2 4 (pc' := 10) (lo' := [some (.ref 4), some (.int p0)]) (st' := [.int 12, .int p0]) (hp' := wd σ) rfl ?_
    refine AW_icmp_ge hT hK 6 (tgt := 22) rfl rfl (fun c2 => ?_) (fun c2 => ?_)
    · refine AW_g hT cl_X2 hK 12 1 (pc' := 23) (lo' := [some (.ref 4), some (.int p0)]) (st' := [.int 0]) (hp' := wd σ) rfl ?_
      refine AW_iret hT hE 13 rfl rfl rfl (Nat.le_of_ble_eq_true rfl) (Nat.le_of_ble_eq_true rfl) ?_
      exact ⟨by simp only [x_X2_at_4, if_neg c1, if_pos c2], rfl⟩
    · refine AW_g hT cl_X2 hK 7 3 (pc' := 18) (lo' := [some (.ref 4), some (.int p0)]) (st' := [.int p0, .ref 5]) (hp' := wd σ) rfl ?_
      refine AW_ialdx hT hK 10 rfl (n := 12) (f := (σ.2.1 5)) rfl (az_in12 c1 c2) ?_
      refine AW_goto hT hK 11 (tgt := 23) rfl rfl ?_
      refine AW_iret hT hE 13 rfl rfl rfl (Nat.le_of_ble_eq_true rfl) (Nat.le_of_ble_eq_true rfl) ?_
      exact ⟨by simp only [x_X2_at_4, if_neg c1, if_neg c2], rfl⟩
def x_X2_set_4 (σ : az_S) (p0 : Int32) (p1 : Int32) : az_S :=
  if p0 < 0 then
    σ
  else
    if 12 ≤ p0 then
      σ
    else
      (sG σ 5 (va_up (σ.2.1 5) p0.toNatClampNeg p1))
set_option maxRecDepth 100000 in
set_option maxHeartbeats 4000000 in
theorem m_X2_set_4 (l0 : Launch) (σ : az_S) (p0 : Int32) (p1 : Int32) : AMet l0 yX2_set cX2_set 3 none ({ frames := 0, cells := 0, slots := 0, locals := 0 } : Room) false [.ref 4, .int p0, .int p1] (wd σ) (fun r h => r = none ∧ h = wd (x_X2_set_4 σ p0 p1)) := by
  refine AMet_of (by decide +kernel) (by simp [Value.category]) (Nat.le_of_ble_eq_true rfl) (fun K hK hct hG hE => ?_)
  have hT := tt_X2_set
  refine AW_g hT cl_X2 hK 0 1 (pc' := 1) (lo' := [some (.ref 4), some (.int p0), some (.int p1)]) (st' := [.int p0]) (hp' := wd σ) rfl ?_
  refine AW_if_lt hT hK 1 (tgt := 20) rfl rfl (fun c1 => ?_) (fun c1 => ?_)
  · refine AW_vret hT hE 12 rfl (Nat.le_of_ble_eq_true rfl) (Nat.le_of_ble_eq_true rfl) ?_
    exact ⟨rfl, congrArg wd (by simp only [x_X2_set_4, if_pos c1])⟩
  · refine AW_g hT cl_X2 hK 2 4 (pc' := 10) (lo' := [some (.ref 4), some (.int p0), some (.int p1)]) (st' := [.int 12, .int p0]) (hp' := wd σ) rfl ?_
    refine AW_icmp_ge hT hK 6 (tgt := 20) rfl rfl (fun c2 => ?_) (fun c2 => ?_)
    · refine AW_vret hT hE 12 rfl (Nat.le_of_ble_eq_true rfl) (Nat.le_of_ble_eq_true rfl) ?_
      exact ⟨rfl, congrArg wd (by simp only [x_X2_set_4, if_neg c1, if_pos c2])⟩
    · refine AW_g hT cl_X2 hK 7 4 (pc' := 19) (lo' := [some (.ref 4), some (.int p0), some (.int p1)]) (st' := [.int p1, .int p0, .ref 5]) (hp' := wd σ) rfl ?_
      refine AW_iastx hT hK 11 rfl (n := 12) (f := (σ.2.1 5)) rfl (az_in12 c1 c2) ?_
      refine AW_to (hp' := wd (sG σ 5 (va_up (σ.2.1 5) p0.toNatClampNeg p1))) rfl rfl rfl ?_
      refine AW_vret hT hE 12 rfl (Nat.le_of_ble_eq_true rfl) (Nat.le_of_ble_eq_true rfl) ?_
      exact ⟨rfl, congrArg wd (by simp only [x_X2_set_4, if_neg c1, if_neg c2])⟩
def x_X2_add_4 (σ : az_S) (p0 : Int32) (p1 : Int32) : az_S :=
  let v2 := x_X2_at_4 σ p0
  let τ4 := x_X2_set_4 σ p0 (v2 + p1)
  τ4
set_option maxRecDepth 100000 in
set_option maxHeartbeats 4000000 in
theorem m_X2_add_4 (l0 : Launch) (σ : az_S) (p0 : Int32) (p1 : Int32) : AMet l0 yX2_add cX2_add 3 none ({ frames := 1, cells := 0, slots := 0, locals := 22 } : Room) false [.ref 4, .int p0, .int p1] (wd σ) (fun r h => r = none ∧ h = wd (x_X2_add_4 σ p0 p1)) := by
  refine AMet_of (by decide +kernel) (by simp [Value.category]) (Nat.le_of_ble_eq_true rfl) (fun K hK hct hG hE => ?_)
  have hT := tt_X2_add
  refine AW_g hT cl_X2 hK 0 4 (pc' := 4) (lo' := [some (.ref 4), some (.int p0), some (.int p1)]) (st' := [.int p0, .ref 4, .int p0, .ref 4]) (hp' := wd σ) rfl ?_
  refine AW_callV hT hK 4 [.int p0] [.int p0, .ref 4] (m_X2_at_4 l0 σ p0) cw_X2_at lk_X2_15 vi_X2_at rfl rfl rfl rfl rfl rfl (Nat.le_of_ble_eq_true rfl) (Nat.le_of_ble_eq_true rfl) (AW_k1 (fun v2 h1 => ?_))
  refine AW_g hT cl_X2 hK 5 2 (pc' := 9) (lo' := [some (.ref 4), some (.int p0), some (.int p1)]) (st' := [.int (v2 + p1), .int p0, .ref 4]) (hp' := wd σ) rfl ?_
  refine AW_callV hT hK 7 [.int p0, .int (v2 + p1)] [] (m_X2_set_4 l0 σ p0 (v2 + p1)) cw_X2_set lk_X2_19 vi_X2_set rfl rfl rfl rfl rfl rfl (Nat.le_of_ble_eq_true rfl) (Nat.le_of_ble_eq_true rfl) (AW_kv (fun τ4 h3 => ?_))
  refine AW_vret hT hE 8 rfl (Nat.le_of_ble_eq_true rfl) (Nat.le_of_ble_eq_true rfl) ?_
  subst h3; subst h1; exact ⟨rfl, congrArg wd (by simp only [x_X2_add_4])⟩
def x_X4_at_8 (σ : az_S) (p0 : Int32) (p1 : Int32) : Int32 :=
  if p0 < 0 then
    0
  else
    if 12 ≤ p0 then
      0
    else
      if p1 < 0 then
        0
      else
        if 12 ≤ p1 then
          0
        else
          if ((p0 * 12) + p1) < 0 then
            0
          else
            if 144 ≤ ((p0 * 12) + p1) then
              0
            else
              ((σ.2.1 9) ((p0 * 12) + p1).toNatClampNeg)
set_option maxRecDepth 100000 in
set_option maxHeartbeats 4000000 in
theorem m_X4_at_8 (l0 : Launch) (σ : az_S) (p0 : Int32) (p1 : Int32) : AMet l0 yX4_at cX4_at 5 (some .int) ({ frames := 0, cells := 0, slots := 0, locals := 0 } : Room) false [.ref 8, .int p0, .int p1] (wd σ) (fun r h => r = some (.int (x_X4_at_8 σ p0 p1)) ∧ h = wd σ) := by
  refine AMet_of (by decide +kernel) (by simp [Value.category]) (Nat.le_of_ble_eq_true rfl) (fun K hK hct hG hE => ?_)
  have hT := tt_X4_at
  refine AW_g hT cl_X4 hK 0 7 (pc' := 8) (lo' := [some (.ref 8), some (.int p0), some (.int p1), some (.int ((p0 * 12) + p1)), none]) (st' := [.int p0]) (hp' := wd σ) rfl ?_
  refine AW_if_lt hT hK 7 (tgt := 31) rfl rfl (fun c1 => ?_) (fun c1 => ?_)
  · refine AW_g hT cl_X4 hK 18 3 (pc' := 36) (lo' := [some (.ref 8), some (.int p0), some (.int p1), some (.int ((p0 * 12) + p1)), some (.int 0)]) (st' := [.int 0]) (hp' := wd σ) rfl ?_
    refine AW_if_eq hT hK 21 (tgt := 61) rfl rfl (fun _ => ?_) (fun c2 => absurd (by decide) c2)
    refine AW_g hT cl_X4 hK 34 1 (pc' := 62) (lo' := [some (.ref 8), some (.int p0), some (.int p1), some (.int ((p0 * 12) + p1)), some (.int 0)]) (st' := [.int 0]) (hp' := wd σ) rfl ?_
    refine AW_iret hT hE 35 rfl rfl rfl (Nat.le_of_ble_eq_true rfl) (Nat.le_of_ble_eq_true rfl) ?_
    exact ⟨by simp only [x_X4_at_8, if_pos c1], rfl⟩
  · refine AW_g hT cl_X4 hK 8 2 (pc' := 14) (lo' := [some (.ref 8), some (.int p0), some (.int p1), some (.int ((p0 * 12) + p1)), none]) (st' := [.int 12, .int p0]) (hp' := wd σ) rfl ?_
    refine AW_icmp_ge hT hK 10 (tgt := 31) rfl rfl (fun c3 => ?_) (fun c3 => ?_)
    · refine AW_g hT cl_X4 hK 18 3 (pc' := 36) (lo' := [some (.ref 8), some (.int p0), some (.int p1), some (.int ((p0 * 12) + p1)), some (.int 0)]) (st' := [.int 0]) (hp' := wd σ) rfl ?_
      refine AW_if_eq hT hK 21 (tgt := 61) rfl rfl (fun _ => ?_) (fun c4 => absurd (by decide) c4)
      refine AW_g hT cl_X4 hK 34 1 (pc' := 62) (lo' := [some (.ref 8), some (.int p0), some (.int p1), some (.int ((p0 * 12) + p1)), some (.int 0)]) (st' := [.int 0]) (hp' := wd σ) rfl ?_
      refine AW_iret hT hE 35 rfl rfl rfl (Nat.le_of_ble_eq_true rfl) (Nat.le_of_ble_eq_true rfl) ?_
      exact ⟨by simp only [x_X4_at_8, if_neg c1, if_pos c3], rfl⟩
    · refine AW_g hT cl_X4 hK 11 1 (pc' := 18) (lo' := [some (.ref 8), some (.int p0), some (.int p1), some (.int ((p0 * 12) + p1)), none]) (st' := [.int p1]) (hp' := wd σ) rfl ?_
      refine AW_if_lt hT hK 12 (tgt := 31) rfl rfl (fun c5 => ?_) (fun c5 => ?_)
      · refine AW_g hT cl_X4 hK 18 3 (pc' := 36) (lo' := [some (.ref 8), some (.int p0), some (.int p1), some (.int ((p0 * 12) + p1)), some (.int 0)]) (st' := [.int 0]) (hp' := wd σ) rfl ?_
        refine AW_if_eq hT hK 21 (tgt := 61) rfl rfl (fun _ => ?_) (fun c6 => absurd (by decide) c6)
        refine AW_g hT cl_X4 hK 34 1 (pc' := 62) (lo' := [some (.ref 8), some (.int p0), some (.int p1), some (.int ((p0 * 12) + p1)), some (.int 0)]) (st' := [.int 0]) (hp' := wd σ) rfl ?_
        refine AW_iret hT hE 35 rfl rfl rfl (Nat.le_of_ble_eq_true rfl) (Nat.le_of_ble_eq_true rfl) ?_
        exact ⟨by simp only [x_X4_at_8, if_neg c1, if_neg c3, if_pos c5], rfl⟩
      · refine AW_g hT cl_X4 hK 13 2 (pc' := 24) (lo' := [some (.ref 8), some (.int p0), some (.int p1), some (.int ((p0 * 12) + p1)), none]) (st' := [.int 12, .int p1]) (hp' := wd σ) rfl ?_
        refine AW_icmp_ge hT hK 15 (tgt := 31) rfl rfl (fun c7 => ?_) (fun c7 => ?_)
        · refine AW_g hT cl_X4 hK 18 3 (pc' := 36) (lo' := [some (.ref 8), some (.int p0), some (.int p1), some (.int ((p0 * 12) + p1)), some (.int 0)]) (st' := [.int 0]) (hp' := wd σ) rfl ?_
          refine AW_if_eq hT hK 21 (tgt := 61) rfl rfl (fun _ => ?_) (fun c8 => absurd (by decide) c8)
          refine AW_g hT cl_X4 hK 34 1 (pc' := 62) (lo' := [some (.ref 8), some (.int p0), some (.int p1), some (.int ((p0 * 12) + p1)), some (.int 0)]) (st' := [.int 0]) (hp' := wd σ) rfl ?_
          refine AW_iret hT hE 35 rfl rfl rfl (Nat.le_of_ble_eq_true rfl) (Nat.le_of_ble_eq_true rfl) ?_
          exact ⟨by simp only [x_X4_at_8, if_neg c1, if_neg c3, if_neg c5, if_pos c7], rfl⟩
        · refine AW_g hT cl_X4 hK 16 1 (pc' := 28) (lo' := [some (.ref 8), some (.int p0), some (.int p1), some (.int ((p0 * 12) + p1)), none]) (st' := [.int 1]) (hp' := wd σ) rfl ?_
          refine AW_goto hT hK 17 (tgt := 32) rfl rfl ?_
          refine AW_g hT cl_X4 hK 19 2 (pc' := 36) (lo' := [some (.ref 8), some (.int p0), some (.int p1), some (.int ((p0 * 12) + p1)), some (.int 1)]) (st' := [.int 1]) (hp' := wd σ) rfl ?_
          refine AW_if_eq hT hK 21 (tgt := 61) rfl rfl (fun c9 => absurd c9 (by decide)) (fun _ => ?_)
          refine AW_g hT cl_X4 hK 22 1 (pc' := 40) (lo' := [some (.ref 8), some (.int p0), some (.int p1), some (.int ((p0 * 12) + p1)), some (.int 1)]) (st' := [.int ((p0 * 12) + p1)]) (hp' := wd σ) rfl ?_
          refine AW_if_lt hT hK 23 (tgt := 61) rfl rfl (fun c10 => ?_) (fun c10 => ?_)
          · refine AW_g hT cl_X4 hK 34 1 (pc' := 62) (lo' := [some (.ref 8), some (.int p0), some (.int p1), some (.int ((p0 * 12) + p1)), some (.int 1)]) (st' := [.int 0]) (hp' := wd σ) rfl ?_
            refine AW_iret hT hE 35 rfl rfl rfl (Nat.le_of_ble_eq_true rfl) (Nat.le_of_ble_eq_true rfl) ?_
            exact ⟨by simp only [x_X4_at_8, if_neg c1, if_neg c3, if_neg c5, if_neg c7, if_pos c10], rfl⟩
          · refine AW_g hT cl_X4 hK 24 4 (pc' := 49) (lo' := [some (.ref 8), some (.int p0), some (.int p1), some (.int ((p0 * 12) + p1)), some (.int 1)]) (st' := [.int 144, .int ((p0 * 12) + p1)]) (hp' := wd σ) rfl ?_
            refine AW_icmp_ge hT hK 28 (tgt := 61) rfl rfl (fun c11 => ?_) (fun c11 => ?_)
            · refine AW_g hT cl_X4 hK 34 1 (pc' := 62) (lo' := [some (.ref 8), some (.int p0), some (.int p1), some (.int ((p0 * 12) + p1)), some (.int 1)]) (st' := [.int 0]) (hp' := wd σ) rfl ?_
              refine AW_iret hT hE 35 rfl rfl rfl (Nat.le_of_ble_eq_true rfl) (Nat.le_of_ble_eq_true rfl) ?_
              exact ⟨by simp only [x_X4_at_8, if_neg c1, if_neg c3, if_neg c5, if_neg c7, if_neg c10, if_pos c11], rfl⟩
            · refine AW_g hT cl_X4 hK 29 3 (pc' := 57) (lo' := [some (.ref 8), some (.int p0), some (.int p1), some (.int ((p0 * 12) + p1)), some (.int 1)]) (st' := [.int ((p0 * 12) + p1), .ref 9]) (hp' := wd σ) rfl ?_
              refine AW_ialdx hT hK 32 rfl (n := 144) (f := (σ.2.1 9)) rfl (az_in144 c10 c11) ?_
              refine AW_goto hT hK 33 (tgt := 62) rfl rfl ?_
              refine AW_iret hT hE 35 rfl rfl rfl (Nat.le_of_ble_eq_true rfl) (Nat.le_of_ble_eq_true rfl) ?_
              exact ⟨by simp only [x_X4_at_8, if_neg c1, if_neg c3, if_neg c5, if_neg c7, if_neg c10, if_neg c11], rfl⟩
def x_X4_setOneWay_8 (σ : az_S) (p0 : Int32) (p1 : Int32) (p2 : Int32) : az_S :=
  if p0 < 0 then
    σ
  else
    if 12 ≤ p0 then
      σ
    else
      if p1 < 0 then
        σ
      else
        if 12 ≤ p1 then
          σ
        else
          if ((p0 * 12) + p1) < 0 then
            σ
          else
            if 144 ≤ ((p0 * 12) + p1) then
              σ
            else
              (sG σ 9 (va_up (σ.2.1 9) ((p0 * 12) + p1).toNatClampNeg p2))
set_option maxRecDepth 100000 in
set_option maxHeartbeats 4000000 in
theorem m_X4_setOneWay_8 (l0 : Launch) (σ : az_S) (p0 : Int32) (p1 : Int32) (p2 : Int32) : AMet l0 yX4_setOneWay cX4_setOneWay 6 none ({ frames := 0, cells := 0, slots := 0, locals := 0 } : Room) false [.ref 8, .int p0, .int p1, .int p2] (wd σ) (fun r h => r = none ∧ h = wd (x_X4_setOneWay_8 σ p0 p1 p2)) := by
  refine AMet_of (by decide +kernel) (by simp [Value.category]) (Nat.le_of_ble_eq_true rfl) (fun K hK hct hG hE => ?_)
  have hT := tt_X4_setOneWay
  refine AW_g hT cl_X4 hK 0 7 (pc' := 9) (lo' := [some (.ref 8), some (.int p0), some (.int p1), some (.int p2), some (.int ((p0 * 12) + p1)), none]) (st' := [.int p0]) (hp' := wd σ) rfl ?_
  refine AW_if_lt hT hK 7 (tgt := 32) rfl rfl (fun c1 => ?_) (fun c1 => ?_)
  · refine AW_g hT cl_X4 hK 18 3 (pc' := 37) (lo' := [some (.ref 8), some (.int p0), some (.int p1), some (.int p2), some (.int ((p0 * 12) + p1)), some (.int 0)]) (st' := [.int 0]) (hp' := wd σ) rfl ?_
    refine AW_if_eq hT hK 21 (tgt := 63) rfl rfl (fun _ => ?_) (fun c2 => absurd (by decide) c2)
    refine AW_vret hT hE 34 rfl (Nat.le_of_ble_eq_true rfl) (Nat.le_of_ble_eq_true rfl) ?_
    exact ⟨rfl, congrArg wd (by simp only [x_X4_setOneWay_8, if_pos c1])⟩
  · refine AW_g hT cl_X4 hK 8 2 (pc' := 15) (lo' := [some (.ref 8), some (.int p0), some (.int p1), some (.int p2), some (.int ((p0 * 12) + p1)), none]) (st' := [.int 12, .int p0]) (hp' := wd σ) rfl ?_
    refine AW_icmp_ge hT hK 10 (tgt := 32) rfl rfl (fun c3 => ?_) (fun c3 => ?_)
    · refine AW_g hT cl_X4 hK 18 3 (pc' := 37) (lo' := [some (.ref 8), some (.int p0), some (.int p1), some (.int p2), some (.int ((p0 * 12) + p1)), some (.int 0)]) (st' := [.int 0]) (hp' := wd σ) rfl ?_
      refine AW_if_eq hT hK 21 (tgt := 63) rfl rfl (fun _ => ?_) (fun c4 => absurd (by decide) c4)
      refine AW_vret hT hE 34 rfl (Nat.le_of_ble_eq_true rfl) (Nat.le_of_ble_eq_true rfl) ?_
      exact ⟨rfl, congrArg wd (by simp only [x_X4_setOneWay_8, if_neg c1, if_pos c3])⟩
    · refine AW_g hT cl_X4 hK 11 1 (pc' := 19) (lo' := [some (.ref 8), some (.int p0), some (.int p1), some (.int p2), some (.int ((p0 * 12) + p1)), none]) (st' := [.int p1]) (hp' := wd σ) rfl ?_
      refine AW_if_lt hT hK 12 (tgt := 32) rfl rfl (fun c5 => ?_) (fun c5 => ?_)
      · refine AW_g hT cl_X4 hK 18 3 (pc' := 37) (lo' := [some (.ref 8), some (.int p0), some (.int p1), some (.int p2), some (.int ((p0 * 12) + p1)), some (.int 0)]) (st' := [.int 0]) (hp' := wd σ) rfl ?_
        refine AW_if_eq hT hK 21 (tgt := 63) rfl rfl (fun _ => ?_) (fun c6 => absurd (by decide) c6)
        refine AW_vret hT hE 34 rfl (Nat.le_of_ble_eq_true rfl) (Nat.le_of_ble_eq_true rfl) ?_
        exact ⟨rfl, congrArg wd (by simp only [x_X4_setOneWay_8, if_neg c1, if_neg c3, if_pos c5])⟩
      · refine AW_g hT cl_X4 hK 13 2 (pc' := 25) (lo' := [some (.ref 8), some (.int p0), some (.int p1), some (.int p2), some (.int ((p0 * 12) + p1)), none]) (st' := [.int 12, .int p1]) (hp' := wd σ) rfl ?_
        refine AW_icmp_ge hT hK 15 (tgt := 32) rfl rfl (fun c7 => ?_) (fun c7 => ?_)
        · refine AW_g hT cl_X4 hK 18 3 (pc' := 37) (lo' := [some (.ref 8), some (.int p0), some (.int p1), some (.int p2), some (.int ((p0 * 12) + p1)), some (.int 0)]) (st' := [.int 0]) (hp' := wd σ) rfl ?_
          refine AW_if_eq hT hK 21 (tgt := 63) rfl rfl (fun _ => ?_) (fun c8 => absurd (by decide) c8)
          refine AW_vret hT hE 34 rfl (Nat.le_of_ble_eq_true rfl) (Nat.le_of_ble_eq_true rfl) ?_
          exact ⟨rfl, congrArg wd (by simp only [x_X4_setOneWay_8, if_neg c1, if_neg c3, if_neg c5, if_pos c7])⟩
        · refine AW_g hT cl_X4 hK 16 1 (pc' := 29) (lo' := [some (.ref 8), some (.int p0), some (.int p1), some (.int p2), some (.int ((p0 * 12) + p1)), none]) (st' := [.int 1]) (hp' := wd σ) rfl ?_
          refine AW_goto hT hK 17 (tgt := 33) rfl rfl ?_
          refine AW_g hT cl_X4 hK 19 2 (pc' := 37) (lo' := [some (.ref 8), some (.int p0), some (.int p1), some (.int p2), some (.int ((p0 * 12) + p1)), some (.int 1)]) (st' := [.int 1]) (hp' := wd σ) rfl ?_
          refine AW_if_eq hT hK 21 (tgt := 63) rfl rfl (fun c9 => absurd c9 (by decide)) (fun _ => ?_)
          refine AW_g hT cl_X4 hK 22 1 (pc' := 42) (lo' := [some (.ref 8), some (.int p0), some (.int p1), some (.int p2), some (.int ((p0 * 12) + p1)), some (.int 1)]) (st' := [.int ((p0 * 12) + p1)]) (hp' := wd σ) rfl ?_
          refine AW_if_lt hT hK 23 (tgt := 63) rfl rfl (fun c10 => ?_) (fun c10 => ?_)
          · refine AW_vret hT hE 34 rfl (Nat.le_of_ble_eq_true rfl) (Nat.le_of_ble_eq_true rfl) ?_
            exact ⟨rfl, congrArg wd (by simp only [x_X4_setOneWay_8, if_neg c1, if_neg c3, if_neg c5, if_neg c7, if_pos c10])⟩
          · refine AW_g hT cl_X4 hK 24 4 (pc' := 52) (lo' := [some (.ref 8), some (.int p0), some (.int p1), some (.int p2), some (.int ((p0 * 12) + p1)), some (.int 1)]) (st' := [.int 144, .int ((p0 * 12) + p1)]) (hp' := wd σ) rfl ?_
            refine AW_icmp_ge hT hK 28 (tgt := 63) rfl rfl (fun c11 => ?_) (fun c11 => ?_)
            · refine AW_vret hT hE 34 rfl (Nat.le_of_ble_eq_true rfl) (Nat.le_of_ble_eq_true rfl) ?_
              exact ⟨rfl, congrArg wd (by simp only [x_X4_setOneWay_8, if_neg c1, if_neg c3, if_neg c5, if_neg c7, if_neg c10, if_pos c11])⟩
            · refine AW_g hT cl_X4 hK 29 4 (pc' := 62) (lo' := [some (.ref 8), some (.int p0), some (.int p1), some (.int p2), some (.int ((p0 * 12) + p1)), some (.int 1)]) (st' := [.int p2, .int ((p0 * 12) + p1), .ref 9]) (hp' := wd σ) rfl ?_
              refine AW_iastx hT hK 33 rfl (n := 144) (f := (σ.2.1 9)) rfl (az_in144 c10 c11) ?_
              refine AW_to (hp' := wd (sG σ 9 (va_up (σ.2.1 9) ((p0 * 12) + p1).toNatClampNeg p2))) rfl rfl rfl ?_
              refine AW_vret hT hE 34 rfl (Nat.le_of_ble_eq_true rfl) (Nat.le_of_ble_eq_true rfl) ?_
              exact ⟨rfl, congrArg wd (by simp only [x_X4_setOneWay_8, if_neg c1, if_neg c3, if_neg c5, if_neg c7, if_neg c10, if_neg c11])⟩
def x_X4_set_8 (σ : az_S) (p0 : Int32) (p1 : Int32) (p2 : Int32) : az_S :=
  let τ2 := x_X4_setOneWay_8 σ p0 p1 p2
  let τ4 := x_X4_setOneWay_8 (τ2) p1 p0 p2
  τ4
set_option maxRecDepth 100000 in
set_option maxHeartbeats 4000000 in
theorem m_X4_set_8 (l0 : Launch) (σ : az_S) (p0 : Int32) (p1 : Int32) (p2 : Int32) : AMet l0 yX4_set cX4_set 4 none ({ frames := 1, cells := 0, slots := 0, locals := 25 } : Room) false [.ref 8, .int p0, .int p1, .int p2] (wd σ) (fun r h => r = none ∧ h = wd (x_X4_set_8 σ p0 p1 p2)) := by
  refine AMet_of (by decide +kernel) (by simp [Value.category]) (Nat.le_of_ble_eq_true rfl) (fun K hK hct hG hE => ?_)
  have hT := tt_X4_set
  refine AW_g hT cl_X4 hK 0 4 (pc' := 4) (lo' := [some (.ref 8), some (.int p0), some (.int p1), some (.int p2)]) (st' := [.int p2, .int p1, .int p0, .ref 8]) (hp' := wd σ) rfl ?_
  refine AW_callV hT hK 4 [.int p0, .int p1, .int p2] [] (m_X4_setOneWay_8 l0 σ p0 p1 p2) cw_X4_setOneWay lk_X4_15 vi_X4_setOneWay rfl rfl rfl rfl rfl rfl (Nat.le_of_ble_eq_true rfl) (Nat.le_of_ble_eq_true rfl) (AW_kv (fun τ2 h1 => ?_))
  refine AW_g hT cl_X4 hK 5 4 (pc' := 11) (lo' := [some (.ref 8), some (.int p0), some (.int p1), some (.int p2)]) (st' := [.int p2, .int p0, .int p1, .ref 8]) (hp' := wd (τ2)) rfl ?_
  refine AW_callV hT hK 9 [.int p1, .int p0, .int p2] [] (m_X4_setOneWay_8 l0 (τ2) p1 p0 p2) cw_X4_setOneWay lk_X4_15 vi_X4_setOneWay rfl rfl rfl rfl rfl rfl (Nat.le_of_ble_eq_true rfl) (Nat.le_of_ble_eq_true rfl) (AW_kv (fun τ4 h3 => ?_))
  refine AW_vret hT hE 10 rfl (Nat.le_of_ble_eq_true rfl) (Nat.le_of_ble_eq_true rfl) ?_
  subst h3; subst h1; exact ⟨rfl, congrArg wd (by simp only [x_X4_set_8])⟩
def x_X4_add_8 (σ : az_S) (p0 : Int32) (p1 : Int32) (p2 : Int32) : az_S :=
  let v2 := x_X4_at_8 σ p0 p1
  let τ4 := x_X4_setOneWay_8 σ p0 p1 (v2 + p2)
  let τ6 := x_X4_setOneWay_8 (τ4) p1 p0 (v2 + p2)
  τ6
set_option maxRecDepth 100000 in
set_option maxHeartbeats 4000000 in
theorem m_X4_add_8 (l0 : Launch) (σ : az_S) (p0 : Int32) (p1 : Int32) (p2 : Int32) : AMet l0 yX4_add cX4_add 5 none ({ frames := 1, cells := 0, slots := 0, locals := 25 } : Room) false [.ref 8, .int p0, .int p1, .int p2] (wd σ) (fun r h => r = none ∧ h = wd (x_X4_add_8 σ p0 p1 p2)) := by
  refine AMet_of (by decide +kernel) (by simp [Value.category]) (Nat.le_of_ble_eq_true rfl) (fun K hK hct hG hE => ?_)
  have hT := tt_X4_add
  refine AW_g hT cl_X4 hK 0 3 (pc' := 3) (lo' := [some (.ref 8), some (.int p0), some (.int p1), some (.int p2), none]) (st' := [.int p1, .int p0, .ref 8]) (hp' := wd σ) rfl ?_
  refine AW_callV hT hK 3 [.int p0, .int p1] [] (m_X4_at_8 l0 σ p0 p1) cw_X4_at lk_X4_19 vi_X4_at rfl rfl rfl rfl rfl rfl (Nat.le_of_ble_eq_true rfl) (Nat.le_of_ble_eq_true rfl) (AW_k1 (fun v2 h1 => ?_))
  refine AW_g hT cl_X4 hK 4 7 (pc' := 15) (lo' := [some (.ref 8), some (.int p0), some (.int p1), some (.int p2), some (.int (v2 + p2))]) (st' := [.int (v2 + p2), .int p1, .int p0, .ref 8]) (hp' := wd σ) rfl ?_
  refine AW_callV hT hK 11 [.int p0, .int p1, .int (v2 + p2)] [] (m_X4_setOneWay_8 l0 σ p0 p1 (v2 + p2)) cw_X4_setOneWay lk_X4_15 vi_X4_setOneWay rfl rfl rfl rfl rfl rfl (Nat.le_of_ble_eq_true rfl) (Nat.le_of_ble_eq_true rfl) (AW_kv (fun τ4 h3 => ?_))
  refine AW_g hT cl_X4 hK 12 4 (pc' := 23) (lo' := [some (.ref 8), some (.int p0), some (.int p1), some (.int p2), some (.int (v2 + p2))]) (st' := [.int (v2 + p2), .int p0, .int p1, .ref 8]) (hp' := wd (τ4)) rfl ?_
  refine AW_callV hT hK 16 [.int p1, .int p0, .int (v2 + p2)] [] (m_X4_setOneWay_8 l0 (τ4) p1 p0 (v2 + p2)) cw_X4_setOneWay lk_X4_15 vi_X4_setOneWay rfl rfl rfl rfl rfl rfl (Nat.le_of_ble_eq_true rfl) (Nat.le_of_ble_eq_true rfl) (AW_kv (fun τ6 h5 => ?_))
  refine AW_vret hT hE 17 rfl (Nat.le_of_ble_eq_true rfl) (Nat.le_of_ble_eq_true rfl) ?_
  subst h5; subst h3; subst h1; exact ⟨rfl, congrArg wd (by simp only [x_X4_add_8])⟩
end AZP
