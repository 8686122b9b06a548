section AZP
def x_X2_at_13 (σ : az_S) (p0 : Int32) : Int32 :=
  if p0 < 0 then
    0
  else
    if 12 ≤ p0 then
      0
    else
      ((σ.2.1 14) p0.toNatClampNeg)
set_option maxRecDepth 100000 in
set_option maxHeartbeats 4000000 in
theorem m_X2_at_13 (l0 : Launch) (σ : az_S) (p0 : Int32) : AMet l0 yX2_at cX2_at 2 (some .int) ({ frames := 0, cells := 0, slots := 0, locals := 0 } : Room) false [.ref 13, .int p0] (wd σ) (fun r h => r = some (.int (x_X2_at_13 σ p0)) ∧ h = wd σ) := by
  refine AMet_of (by decide +kernel) (by simp [Value.category]) (Nat.le_of_ble_eq_true rfl) (fun K hK hct hG hE => ?_)
  have hT := tt_X2_at
  refine AW_g hT cl_X2 hK 0 1 (pc' := 1) (lo' := [some (.ref 13), some (.int p0)]) (st' := [.int p0]) (hp' := wd σ) rfl ?_
  refine AW_if_lt hT hK 1 (tgt := 22) rfl rfl (fun c1 => ?_) (fun c1 => ?_)
  · refine AW_g hT cl_X2 hK 12 1 (pc' := 23) (lo' := [some (.ref 13), some (.int p0)]) (st' := [.int 0]) (hp' := wd σ) rfl ?_
    refine AW_iret hT hE 13 rfl rfl rfl (Nat.le_of_ble_eq_true rfl) (Nat.le_of_ble_eq_true rfl) ?_
    exact ⟨by simp only [x_X2_at_13, if_pos c1], rfl⟩
  · refine AW_g hT cl_X2 hK 2 4 (pc' := 10) (lo' := [some (.ref 13), some (.int p0)]) (st' := [.int 12, .int p0]) (hp' := wd σ) rfl ?_
    refine AW_icmp_ge hT hK 6 (tgt := 22) rfl rfl (fun c2 => ?_) (fun c2 => ?_)
    · refine AW_g hT cl_X2 hK 12 1 (pc' := 23) (lo' := [some (.ref 13), some (.int p0)]) (st' := [.int 0]) (hp' := wd σ) rfl ?_
      refine AW_iret hT hE 13 rfl rfl rfl (Nat.le_of_ble_eq_true rfl) (Nat.le_of_ble_eq_true rfl) ?_
      exact ⟨by simp only [x_X2_at_13, if_neg c1, if_pos c2], rfl⟩
    · refine AW_g hT cl_X2 hK 7 3 (pc' := 18) (lo' := [some (.ref 13), some (.int p0)]) (st' := [.int p0, .ref 14]) (hp' := wd σ) rfl ?_
      refine AW_ialdx hT hK 10 rfl (n := 12) (f := (σ.2.1 14)) rfl (az_in12 c1 c2) ?_
      refine AW_goto hT hK 11 (tgt := 23) rfl rfl ?_
      refine AW_iret hT hE 13 rfl rfl rfl (Nat.le_of_ble_eq_true rfl) (Nat.le_of_ble_eq_true rfl) ?_
      exact ⟨by simp only [x_X2_at_13, if_neg c1, if_neg c2], rfl⟩
def x_X0_groupOf (σ : az_S) (p0 : Int32) : Int32 :=
  let v2 := x_X2_at_13 σ p0
  v2
set_option maxRecDepth 100000 in
set_option maxHeartbeats 4000000 in
theorem m_X0_groupOf (l0 : Launch) (σ : az_S) (p0 : Int32) : AMet l0 yX0_groupOf cX0_groupOf 2 (some .int) ({ frames := 1, cells := 0, slots := 0, locals := 21 } : Room) false [.ref 12, .int p0] (wd σ) (fun r h => r = some (.int (x_X0_groupOf σ p0)) ∧ h = wd σ) := by
  refine AMet_of (by decide +kernel) (by simp [Value.category]) (Nat.le_of_ble_eq_true rfl) (fun K hK hct hG hE => ?_)
  have hT := tt_X0_groupOf
  refine AW_g hT cl_X0 hK 0 3 (pc' := 5) (lo' := [some (.ref 12), some (.int p0)]) (st' := [.int p0, .ref 13]) (hp' := wd σ) rfl ?_
  refine AW_callV hT hK 3 [.int p0] [] (m_X2_at_13 l0 σ p0) cw_X2_at lk_X0_44 vi_X2_at rfl rfl rfl rfl rfl rfl (Nat.le_of_ble_eq_true rfl) (Nat.le_of_ble_eq_true rfl) (AW_k1 (fun v2 h1 => ?_))
  refine AW_iret hT hE 4 rfl rfl rfl (Nat.le_of_ble_eq_true rfl) (Nat.le_of_ble_eq_true rfl) ?_
  subst h1; exact ⟨by simp only [x_X0_groupOf], rfl⟩
def x_X0_allGroups (σ : az_S) : Int32 :=
  (σ.1 3)
set_option maxRecDepth 100000 in
set_option maxHeartbeats 4000000 in
theorem m_X0_allGroups (l0 : Launch) (σ : az_S) : AMet l0 yX0_allGroups cX0_allGroups 1 (some .int) ({ frames := 0, cells := 0, slots := 0, locals := 0 } : Room) false [.ref 12] (wd σ) (fun r h => r = some (.int (x_X0_allGroups σ)) ∧ h = wd σ) := by
  refine AMet_of (by decide +kernel) (by simp [Value.category]) (Nat.le_of_ble_eq_true rfl) (fun K hK hct hG hE => ?_)
  have hT := tt_X0_allGroups
  refine AW_g hT cl_X0 hK 0 2 (pc' := 4) (lo' := [some (.ref 12)]) (st' := [.int (σ.1 3)]) (hp' := wd σ) rfl ?_
  refine AW_iret hT hE 2 rfl rfl rfl (Nat.le_of_ble_eq_true rfl) (Nat.le_of_ble_eq_true rfl) ?_
  exact ⟨by simp only [x_X0_allGroups], rfl⟩
def x_X0_isGroup (σ : az_S) (p0 : Int32) : Int32 :=
  let v2 := x_X5_holds σ (σ.1 3) p0
  v2
set_option maxRecDepth 100000 in
set_option maxHeartbeats 4000000 in
theorem m_X0_isGroup (l0 : Launch) (σ : az_S) (p0 : Int32) : AMet l0 yX0_isGroup cX0_isGroup 2 (some .boolean) ({ frames := 1, cells := 0, slots := 0, locals := 21 } : Room) false [.ref 12, .int p0] (wd σ) (fun r h => r = some (.int (x_X0_isGroup σ p0)) ∧ h = wd σ) := by
  refine AMet_of (by decide +kernel) (by simp [Value.category]) (Nat.le_of_ble_eq_true rfl) (fun K hK hct hG hE => ?_)
  have hT := tt_X0_isGroup
  refine AW_g hT cl_X0 hK 0 3 (pc' := 5) (lo' := [some (.ref 12), some (.int p0)]) (st' := [.int p0, .int (σ.1 3)]) (hp' := wd σ) rfl ?_
  refine AW_callSN hT hK 3 [.int (σ.1 3), .int p0] [] (m_X5_holds l0 σ (σ.1 3) p0) cw_X5_holds lk_X0_48 sm_X5_holds rfl rfl rfl rfl (Nat.le_of_ble_eq_true rfl) (Nat.le_of_ble_eq_true rfl) (AW_k1 (fun v2 h1 => ?_))
  refine AW_iret hT hE 4 rfl rfl (by rw [← h1]; exact nb_X5_holds _ _ _) (Nat.le_of_ble_eq_true rfl) (Nat.le_of_ble_eq_true rfl) ?_
  subst h1; exact ⟨by simp only [x_X0_isGroup], rfl⟩
theorem nb_X0_isGroup (σ : az_S) (p0 : Int32) : narrow .boolean (.int (x_X0_isGroup σ p0)) = .int (x_X0_isGroup σ p0) := by
  unfold x_X0_isGroup
  exact nb_X5_holds _ _ _
def x_X2_at_15 (σ : az_S) (p0 : Int32) : Int32 :=
  if p0 < 0 then
    0
  else
    if 12 ≤ p0 then
      0
    else
      ((σ.2.1 16) p0.toNatClampNeg)
set_option maxRecDepth 100000 in
set_option maxHeartbeats 4000000 in
theorem m_X2_at_15 (l0 : Launch) (σ : az_S) (p0 : Int32) : AMet l0 yX2_at cX2_at 2 (some .int) ({ frames := 0, cells := 0, slots := 0, locals := 0 } : Room) false [.ref 15, .int p0] (wd σ) (fun r h => r = some (.int (x_X2_at_15 σ p0)) ∧ h = wd σ) := by
  refine AMet_of (by decide +kernel) (by simp [Value.category]) (Nat.le_of_ble_eq_true rfl) (fun K hK hct hG hE => ?_)
  have hT := tt_X2_at
  refine AW_g hT cl_X2 hK 0 1 (pc' := 1) (lo' := [some (.ref 15), some (.int p0)]) (st' := [.int p0]) (hp' := wd σ) rfl ?_
  refine AW_if_lt hT hK 1 (tgt := 22) rfl rfl (fun c1 => ?_) (fun c1 => ?_)
  · refine AW_g hT cl_X2 hK 12 1 (pc' := 23) (lo' := [some (.ref 15), some (.int p0)]) (st' := [.int 0]) (hp' := wd σ) rfl ?_
    refine AW_iret hT hE 13 rfl rfl rfl (Nat.le_of_ble_eq_true rfl) (Nat.le_of_ble_eq_true rfl) ?_
    exact ⟨by simp only [x_X2_at_15, if_pos c1], rfl⟩
  · refine AW_g hT cl_X2 hK 2 4 (pc' := 10) (lo' := [some (.ref 15), some (.int p0)]) (st' := [.int 12, .int p0]) (hp' := wd σ) rfl ?_
    refine AW_icmp_ge hT hK 6 (tgt := 22) rfl rfl (fun c2 => ?_) (fun c2 => ?_)
    · refine AW_g hT cl_X2 hK 12 1 (pc' := 23) (lo' := [some (.ref 15), some (.int p0)]) (st' := [.int 0]) (hp' := wd σ) rfl ?_
      refine AW_iret hT hE 13 rfl rfl rfl (Nat.le_of_ble_eq_true rfl) (Nat.le_of_ble_eq_true rfl) ?_
      exact ⟨by simp only [x_X2_at_15, if_neg c1, if_pos c2], rfl⟩
    · refine AW_g hT cl_X2 hK 7 3 (pc' := 18) (lo' := [some (.ref 15), some (.int p0)]) (st' := [.int p0, .ref 16]) (hp' := wd σ) rfl ?_
      refine AW_ialdx hT hK 10 rfl (n := 12) (f := (σ.2.1 16)) rfl (az_in12 c1 c2) ?_
      refine AW_goto hT hK 11 (tgt := 23) rfl rfl ?_
      refine AW_iret hT hE 13 rfl rfl rfl (Nat.le_of_ble_eq_true rfl) (Nat.le_of_ble_eq_true rfl) ?_
      exact ⟨by simp only [x_X2_at_15, if_neg c1, if_neg c2], rfl⟩
def x_X0_splitOf (σ : az_S) (p0 : Int32) : Int32 :=
  let v2 := x_X2_at_15 σ p0
  v2
set_option maxRecDepth 100000 in
set_option maxHeartbeats 4000000 in
theorem m_X0_splitOf (l0 : Launch) (σ : az_S) (p0 : Int32) : AMet l0 yX0_splitOf cX0_splitOf 2 (some .int) ({ frames := 1, cells := 0, slots := 0, locals := 21 } : Room) false [.ref 12, .int p0] (wd σ) (fun r h => r = some (.int (x_X0_splitOf σ p0)) ∧ h = wd σ) := by
  refine AMet_of (by decide +kernel) (by simp [Value.category]) (Nat.le_of_ble_eq_true rfl) (fun K hK hct hG hE => ?_)
  have hT := tt_X0_splitOf
  refine AW_g hT cl_X0 hK 0 3 (pc' := 5) (lo' := [some (.ref 12), some (.int p0)]) (st' := [.int p0, .ref 15]) (hp' := wd σ) rfl ?_
  refine AW_callV hT hK 3 [.int p0] [] (m_X2_at_15 l0 σ p0) cw_X2_at lk_X0_44 vi_X2_at rfl rfl rfl rfl rfl rfl (Nat.le_of_ble_eq_true rfl) (Nat.le_of_ble_eq_true rfl) (AW_k1 (fun v2 h1 => ?_))
  refine AW_iret hT hE 4 rfl rfl rfl (Nat.le_of_ble_eq_true rfl) (Nat.le_of_ble_eq_true rfl) ?_
  subst h1; exact ⟨by simp only [x_X0_splitOf], rfl⟩
def x_X0_gainFrom (σ : az_S) (p0 : Int32) (p1 : Int32) (p2 : Int32) : Int32 :=
  (((2 * (σ.1 4)) * p0) - (p1 * p2))
set_option maxRecDepth 100000 in
set_option maxHeartbeats 4000000 in
theorem m_X0_gainFrom (l0 : Launch) (σ : az_S) (p0 : Int32) (p1 : Int32) (p2 : Int32) : AMet l0 yX0_gainFrom cX0_gainFrom 4 (some .int) ({ frames := 0, cells := 0, slots := 0, locals := 0 } : Room) false [.ref 12, .int p0, .int p1, .int p2] (wd σ) (fun r h => r = some (.int (x_X0_gainFrom σ p0 p1 p2)) ∧ h = wd σ) := by
  refine AMet_of (by decide +kernel) (by simp [Value.category]) (Nat.le_of_ble_eq_true rfl) (fun K hK hct hG hE => ?_)
  have hT := tt_X0_gainFrom
  refine AW_g hT cl_X0 hK 0 10 (pc' := 12) (lo' := [some (.ref 12), some (.int p0), some (.int p1), some (.int p2)]) (st' := [.int (((2 * (σ.1 4)) * p0) - (p1 * p2))]) (hp' := wd σ) rfl ?_
  refine AW_iret hT hE 10 rfl rfl rfl (Nat.le_of_ble_eq_true rfl) (Nat.le_of_ble_eq_true rfl) ?_
  exact ⟨by simp only [x_X0_gainFrom], rfl⟩
def x_X4_at_23 (σ : az_S) (p0 : Int32) (p1 : Int32) : Int32 :=
  if p0 < 0 then
    0
  else
    if 12 ≤ p0 then
      0
    else
      if p1 < 0 then
        0
      else
        if 12 ≤ p1 then
          0
        else
          if ((p0 * 12) + p1) < 0 then
            0
          else
            if 144 ≤ ((p0 * 12) + p1) then
              0
            else
              ((σ.2.1 24) ((p0 * 12) + p1).toNatClampNeg)
set_option maxRecDepth 100000 in
set_option maxHeartbeats 4000000 in
theorem m_X4_at_23 (l0 : Launch) (σ : az_S) (p0 : Int32) (p1 : Int32) : AMet l0 yX4_at cX4_at 5 (some .int) ({ frames := 0, cells := 0, slots := 0, locals := 0 } : Room) false [.ref 23, .int p0, .int p1] (wd σ) (fun r h => r = some (.int (x_X4_at_23 σ p0 p1)) ∧ h = wd σ) := by
  refine AMet_of (by decide +kernel) (by simp [Value.category]) (Nat.le_of_ble_eq_true rfl) (fun K hK hct hG hE => ?_)
  have hT := tt_X4_at
  refine AW_g hT cl_X4 hK 0 7 (pc' := 8) (lo' := [some (.ref 23), some (.int p0), some (.int p1), some (.int ((p0 * 12) + p1)), none]) (st' := [.int p0]) (hp' := wd σ) rfl ?_
  refine AW_if_lt hT hK 7 (tgt := 31) rfl rfl (fun c1 => ?_) (fun c1 => ?_)
  · refine AW_g hT cl_X4 hK 18 3 (pc' := 36) (lo' := [some (.ref 23), some (.int p0), some (.int p1), some (.int ((p0 * 12) + p1)), some (.int 0)]) (st' := [.int 0]) (hp' := wd σ) rfl ?_
    refine AW_if_eq hT hK 21 (tgt := 61) rfl rfl (fun _ => ?_) (fun c2 => absurd (by decide) c2)
    refine AW_g hT cl_X4 hK 34 1 (pc' := 62) (lo' := [some (.ref 23), some (.int p0), some (.int p1), some (.int ((p0 * 12) + p1)), some (.int 0)]) (st' := [.int 0]) (hp' := wd σ) rfl ?_
    refine AW_iret hT hE 35 rfl rfl rfl (Nat.le_of_ble_eq_true rfl) (Nat.le_of_ble_eq_true rfl) ?_
    exact ⟨by simp only [x_X4_at_23, if_pos c1], rfl⟩
  · refine AW_g hT cl_X4 hK 8 2 (pc' := 14) (lo' := [some (.ref 23), some (.int p0), some (.int p1), some (.int ((p0 * 12) + p1)), none]) (st' := [.int 12, .int p0]) (hp' := wd σ) rfl ?_
    refine AW_icmp_ge hT hK 10 (tgt := 31) rfl rfl (fun c3 => ?_) (fun c3 => ?_)
    · refine AW_g hT cl_X4 hK 18 3 (pc' := 36) (lo' := [some (.ref 23), some (.int p0), some (.int p1), some (.int ((p0 * 12) + p1)), some (.int 0)]) (st' := [.int 0]) (hp' := wd σ) rfl ?_
      refine AW_if_eq hT hK 21 (tgt := 61) rfl rfl (fun _ => ?_) (fun c4 => absurd (by decide) c4)
      refine AW_g hT cl_X4 hK 34 1 (pc' := 62) (lo' := [some (.ref 23), some (.int p0), some (.int p1), some (.int ((p0 * 12) + p1)), some (.int 0)]) (st' := [.int 0]) (hp' := wd σ) rfl ?_
      refine AW_iret hT hE 35 rfl rfl rfl (Nat.le_of_ble_eq_true rfl) (Nat.le_of_ble_eq_true rfl) ?_
      exact ⟨by simp only [x_X4_at_23, if_neg c1, if_pos c3], rfl⟩
    · refine AW_g hT cl_X4 hK 11 1 (pc' := 18) (lo' := [some (.ref 23), some (.int p0), some (.int p1), some (.int ((p0 * 12) + p1)), none]) (st' := [.int p1]) (hp' := wd σ) rfl ?_
      refine AW_if_lt hT hK 12 (tgt := 31) rfl rfl (fun c5 => ?_) (fun c5 => ?_)
      · refine AW_g hT cl_X4 hK 18 3 (pc' := 36) (lo' := [some (.ref 23), some (.int p0), some (.int p1), some (.int ((p0 * 12) + p1)), some (.int 0)]) (st' := [.int 0]) (hp' := wd σ) rfl ?_
        refine AW_if_eq hT hK 21 (tgt := 61) rfl rfl (fun _ => ?_) (fun c6 => absurd (by decide) c6)
        refine AW_g hT cl_X4 hK 34 1 (pc' := 62) (lo' := [some (.ref 23), some (.int p0), some (.int p1), some (.int ((p0 * 12) + p1)), some (.int 0)]) (st' := [.int 0]) (hp' := wd σ) rfl ?_
        refine AW_iret hT hE 35 rfl rfl rfl (Nat.le_of_ble_eq_true rfl) (Nat.le_of_ble_eq_true rfl) ?_
        exact ⟨by simp only [x_X4_at_23, if_neg c1, if_neg c3, if_pos c5], rfl⟩
      · refine AW_g hT cl_X4 hK 13 2 (pc' := 24) (lo' := [some (.ref 23), some (.int p0), some (.int p1), some (.int ((p0 * 12) + p1)), none]) (st' := [.int 12, .int p1]) (hp' := wd σ) rfl ?_
        refine AW_icmp_ge hT hK 15 (tgt := 31) rfl rfl (fun c7 => ?_) (fun c7 => ?_)
        · refine AW_g hT cl_X4 hK 18 3 (pc' := 36) (lo' := [some (.ref 23), some (.int p0), some (.int p1), some (.int ((p0 * 12) + p1)), some (.int 0)]) (st' := [.int 0]) (hp' := wd σ) rfl ?_
          refine AW_if_eq hT hK 21 (tgt := 61) rfl rfl (fun _ => ?_) (fun c8 => absurd (by decide) c8)
          refine AW_g hT cl_X4 hK 34 1 (pc' := 62) (lo' := [some (.ref 23), some (.int p0), some (.int p1), some (.int ((p0 * 12) + p1)), some (.int 0)]) (st' := [.int 0]) (hp' := wd σ) rfl ?_
          refine AW_iret hT hE 35 rfl rfl rfl (Nat.le_of_ble_eq_true rfl) (Nat.le_of_ble_eq_true rfl) ?_
          exact ⟨by simp only [x_X4_at_23, if_neg c1, if_neg c3, if_neg c5, if_pos c7], rfl⟩
        · refine AW_g hT cl_X4 hK 16 1 (pc' := 28) (lo' := [some (.ref 23), some (.int p0), some (.int p1), some (.int ((p0 * 12) + p1)), none]) (st' := [.int 1]) (hp' := wd σ) rfl ?_
          refine AW_goto hT hK 17 (tgt := 32) rfl rfl ?_
          refine AW_g hT cl_X4 hK 19 2 (pc' := 36) (lo' := [some (.ref 23), some (.int p0), some (.int p1), some (.int ((p0 * 12) + p1)), some (.int 1)]) (st' := [.int 1]) (hp' := wd σ) rfl ?_
          refine AW_if_eq hT hK 21 (tgt := 61) rfl rfl (fun c9 => absurd c9 (by decide)) (fun _ => ?_)
          refine AW_g hT cl_X4 hK 22 1 (pc' := 40) (lo' := [some (.ref 23), some (.int p0), some (.int p1), some (.int ((p0 * 12) + p1)), some (.int 1)]) (st' := [.int ((p0 * 12) + p1)]) (hp' := wd σ) rfl ?_
          refine AW_if_lt hT hK 23 (tgt := 61) rfl rfl (fun c10 => ?_) (fun c10 => ?_)
          · refine AW_g hT cl_X4 hK 34 1 (pc' := 62) (lo' := [some (.ref 23), some (.int p0), some (.int p1), some (.int ((p0 * 12) + p1)), some (.int 1)]) (st' := [.int 0]) (hp' := wd σ) rfl ?_
            refine AW_iret hT hE 35 rfl rfl rfl (Nat.le_of_ble_eq_true rfl) (Nat.le_of_ble_eq_true rfl) ?_
            exact ⟨by simp only [x_X4_at_23, if_neg c1, if_neg c3, if_neg c5, if_neg c7, if_pos c10], rfl⟩
          · refine AW_g hT cl_X4 hK 24 4 (pc' := 49) (lo' := [some (.ref 23), some (.int p0), some (.int p1), some (.int ((p0 * 12) + p1)), some (.int 1)]) (st' := [.int 144, .int ((p0 * 12) + p1)]) (hp' := wd σ) rfl ?_
            refine AW_icmp_ge hT hK 28 (tgt := 61) rfl rfl (fun c11 => ?_) (fun c11 => ?_)
            · refine AW_g hT cl_X4 hK 34 1 (pc' := 62) (lo' := [some (.ref 23), some (.int p0), some (.int p1), some (.int ((p0 * 12) + p1)), some (.int 1)]) (st' := [.int 0]) (hp' := wd σ) rfl ?_
              refine AW_iret hT hE 35 rfl rfl rfl (Nat.le_of_ble_eq_true rfl) (Nat.le_of_ble_eq_true rfl) ?_
              exact ⟨by simp only [x_X4_at_23, if_neg c1, if_neg c3, if_neg c5, if_neg c7, if_neg c10, if_pos c11], rfl⟩
            · refine AW_g hT cl_X4 hK 29 3 (pc' := 57) (lo' := [some (.ref 23), some (.int p0), some (.int p1), some (.int ((p0 * 12) + p1)), some (.int 1)]) (st' := [.int ((p0 * 12) + p1), .ref 24]) (hp' := wd σ) rfl ?_
              refine AW_ialdx hT hK 32 rfl (n := 144) (f := (σ.2.1 24)) rfl (az_in144 c10 c11) ?_
              refine AW_goto hT hK 33 (tgt := 62) rfl rfl ?_
              refine AW_iret hT hE 35 rfl rfl rfl (Nat.le_of_ble_eq_true rfl) (Nat.le_of_ble_eq_true rfl) ?_
              exact ⟨by simp only [x_X4_at_23, if_neg c1, if_neg c3, if_neg c5, if_neg c7, if_neg c10, if_neg c11], rfl⟩
def x_X2_at_19 (σ : az_S) (p0 : Int32) : Int32 :=
  if p0 < 0 then
    0
  else
    if 12 ≤ p0 then
      0
    else
      ((σ.2.1 20) p0.toNatClampNeg)
set_option maxRecDepth 100000 in
set_option maxHeartbeats 4000000 in
theorem m_X2_at_19 (l0 : Launch) (σ : az_S) (p0 : Int32) : AMet l0 yX2_at cX2_at 2 (some .int) ({ frames := 0, cells := 0, slots := 0, locals := 0 } : Room) false [.ref 19, .int p0] (wd σ) (fun r h => r = some (.int (x_X2_at_19 σ p0)) ∧ h = wd σ) := by
  refine AMet_of (by decide +kernel) (by simp [Value.category]) (Nat.le_of_ble_eq_true rfl) (fun K hK hct hG hE => ?_)
  have hT := tt_X2_at
  refine AW_g hT cl_X2 hK 0 1 (pc' := 1) (lo' := [some (.ref 19), some (.int p0)]) (st' := [.int p0]) (hp' := wd σ) rfl ?_
  refine AW_if_lt hT hK 1 (tgt := 22) rfl rfl (fun c1 => ?_) (fun c1 => ?_)
  · refine AW_g hT cl_X2 hK 12 1 (pc' := 23) (lo' := [some (.ref 19), some (.int p0)]) (st' := [.int 0]) (hp' := wd σ) rfl ?_
    refine AW_iret hT hE 13 rfl rfl rfl (Nat.le_of_ble_eq_true rfl) (Nat.le_of_ble_eq_true rfl) ?_
    exact ⟨by simp only [x_X2_at_19, if_pos c1], rfl⟩
  · refine AW_g hT cl_X2 hK 2 4 (pc' := 10) (lo' := [some (.ref 19), some (.int p0)]) (st' := [.int 12, .int p0]) (hp' := wd σ) rfl ?_
    refine AW_icmp_ge hT hK 6 (tgt := 22) rfl rfl (fun c2 => ?_) (fun c2 => ?_)
    · refine AW_g hT cl_X2 hK 12 1 (pc' := 23) (lo' := [some (.ref 19), some (.int p0)]) (st' := [.int 0]) (hp' := wd σ) rfl ?_
      refine AW_iret hT hE 13 rfl rfl rfl (Nat.le_of_ble_eq_true rfl) (Nat.le_of_ble_eq_true rfl) ?_
      exact ⟨by simp only [x_X2_at_19, if_neg c1, if_pos c2], rfl⟩
    · refine AW_g hT cl_X2 hK 7 3 (pc' := 18) (lo' := [some (.ref 19), some (.int p0)]) (st' := [.int p0, .ref 20]) (hp' := wd σ) rfl ?_
      refine AW_ialdx hT hK 10 rfl (n := 12) (f := (σ.2.1 20)) rfl (az_in12 c1 c2) ?_
      refine AW_goto hT hK 11 (tgt := 23) rfl rfl ?_
      refine AW_iret hT hE 13 rfl rfl rfl (Nat.le_of_ble_eq_true rfl) (Nat.le_of_ble_eq_true rfl) ?_
      exact ⟨by simp only [x_X2_at_19, if_neg c1, if_neg c2], rfl⟩
def x_X0_gainOfJoining (σ : az_S) (p0 : Int32) (p1 : Int32) : Int32 :=
  let v2 := x_X4_at_23 σ p0 p1
  let v4 := x_X2_at_19 σ p0
  let v6 := x_X2_at_19 σ p1
  let v8 := x_X0_gainFrom σ v2 v4 v6
  v8
set_option maxRecDepth 100000 in
set_option maxHeartbeats 4000000 in
theorem m_X0_gainOfJoining (l0 : Launch) (σ : az_S) (p0 : Int32) (p1 : Int32) : AMet l0 yX0_gainOfJoining cX0_gainOfJoining 4 (some .int) ({ frames := 1, cells := 0, slots := 0, locals := 24 } : Room) false [.ref 12, .int p0, .int p1] (wd σ) (fun r h => r = some (.int (x_X0_gainOfJoining σ p0 p1)) ∧ h = wd σ) := by
  refine AMet_of (by decide +kernel) (by simp [Value.category]) (Nat.le_of_ble_eq_true rfl) (fun K hK hct hG hE => ?_)
  have hT := tt_X0_gainOfJoining
  refine AW_g hT cl_X0 hK 0 4 (pc' := 6) (lo' := [some (.ref 12), some (.int p0), some (.int p1), none]) (st' := [.int p1, .int p0, .ref 23]) (hp' := wd σ) rfl ?_
  refine AW_callV hT hK 4 [.int p0, .int p1] [] (m_X4_at_23 l0 σ p0 p1) cw_X4_at lk_X0_52 vi_X4_at rfl rfl rfl rfl rfl rfl (Nat.le_of_ble_eq_true rfl) (Nat.le_of_ble_eq_true rfl) (AW_k1 (fun v2 h1 => ?_))
  refine AW_g hT cl_X0 hK 5 6 (pc' := 17) (lo' := [some (.ref 12), some (.int p0), some (.int p1), some (.int v2)]) (st' := [.int p0, .ref 19, .int v2, .ref 12]) (hp' := wd σ) rfl ?_
  refine AW_callV hT hK 11 [.int p0] [.int v2, .ref 12] (m_X2_at_19 l0 σ p0) cw_X2_at lk_X0_44 vi_X2_at rfl rfl rfl rfl rfl rfl (Nat.le_of_ble_eq_true rfl) (Nat.le_of_ble_eq_true rfl) (AW_k1 (fun v4 h3 => ?_))
  refine AW_g hT cl_X0 hK 12 3 (pc' := 25) (lo' := [some (.ref 12), some (.int p0), some (.int p1), some (.int v2)]) (st' := [.int p1, .ref 19, .int v4, .int v2, .ref 12]) (hp' := wd σ) rfl ?_
  refine AW_callV hT hK 15 [.int p1] [.int v4, .int v2, .ref 12] (m_X2_at_19 l0 σ p1) cw_X2_at lk_X0_44 vi_X2_at rfl rfl rfl rfl rfl rfl (Nat.le_of_ble_eq_true rfl) (Nat.le_of_ble_eq_true rfl) (AW_k1 (fun v6 h5 => ?_))
  refine AW_callV hT hK 16 [.int v2, .int v4, .int v6] [] (m_X0_gainFrom l0 σ v2 v4 v6) cw_X0_gainFrom lk_X0_55 vi_X0_gainFrom rfl rfl rfl rfl rfl rfl (Nat.le_of_ble_eq_true rfl) (Nat.le_of_ble_eq_true rfl) (AW_k1 (fun v8 h7 => ?_))
  refine AW_iret hT hE 17 rfl rfl rfl (Nat.le_of_ble_eq_true rfl) (Nat.le_of_ble_eq_true rfl) ?_
  subst h7; subst h5; subst h3; subst h1; exact ⟨by simp only [x_X0_gainOfJoining], rfl⟩
def b_X0_membersOf_4 (σ : az_S) (d1 : Int32) (i : Nat) (w2 : Int32) : Int32 :=
  let v3 := x_X2_at_13 σ (nI i)
  if v3 = d1 then
    let v6 := x_X5_setOf σ (nI i)
    (w2 ||| v6)
  else
    w2
set_option maxRecDepth 100000 in
set_option maxHeartbeats 4000000 in
theorem lp_X0_membersOf_4 {K : az_K} {l0 : Launch} (hT : az_Tb cX0_membersOf tb_X0_membersOf) (hK : az_OK K RX0 cX0_membersOf ({ frames := 1, cells := 0, slots := 0, locals := 21 } : Room) l0) (σ : az_S) (d1 : Int32) :
    ∀ (n i : Nat) (w2 : Int32) (hi : i + n = 12) (kx : ∀ s' : Int32, az_it (fun ι s => b_X0_membersOf_4 σ d1 ι s) n i w2 = s' → AW K 0 0 35 [some (.ref 12), some (.int d1), some (.int s'), none] [] (wd σ)), AW K 0 0 4 [some (.ref 12), some (.int d1), some (.int w2), some (.int (nI i))] [] (wd σ) := by
  intro n
  induction n with
  | zero =>
    intro i w2 hi kx
    refine AW_g hT cl_X0 hK 4 2 (pc' := 7) (lo' := [some (.ref 12), some (.int d1), some (.int w2), some (.int (nI i))]) (st' := [.int 12, .int (nI i)]) (hp' := wd σ) rfl ?_
    refine AW_icmp_ge hT hK 6 (tgt := 35) rfl rfl (fun c7 => ?_) (fun c7 => absurd (az_c0 hi) c7)
    refine AW_msk [true, true, true, false] (lo' := [some (.ref 12), some (.int d1), some (.int w2), none]) rfl ?_
    exact kx w2 rfl
  | succ n ih =>
    intro i w2 hi kx
    refine AW_g hT cl_X0 hK 4 2 (pc' := 7) (lo' := [some (.ref 12), some (.int d1), some (.int w2), some (.int (nI i))]) (st' := [.int 12, .int (nI i)]) (hp' := wd σ) rfl ?_
    refine AW_icmp_ge hT hK 6 (tgt := 35) rfl rfl (fun c1 => absurd c1 (az_c1 hi)) (fun c1 => ?_)
    refine AW_g hT cl_X0 hK 7 3 (pc' := 15) (lo' := [some (.ref 12), some (.int d1), some (.int w2), some (.int (nI i))]) (st' := [.int (nI i), .ref 13]) (hp' := wd σ) rfl ?_
    refine AW_callV hT hK 10 [.int (nI i)] [] (m_X2_at_13 l0 σ (nI i)) cw_X2_at lk_X0_44 vi_X2_at rfl rfl rfl rfl rfl rfl (Nat.le_of_ble_eq_true rfl) (Nat.le_of_ble_eq_true rfl) (AW_k1 (fun v3 h2 => ?_))
    refine AW_g hT cl_X0 hK 11 1 (pc' := 19) (lo' := [some (.ref 12), some (.int d1), some (.int w2), some (.int (nI i))]) (st' := [.int d1, .int v3]) (hp' := wd σ) rfl ?_
    refine AW_icmp_ne hT hK 12 (tgt := 29) rfl rfl (fun c4 => ?_) (fun c4 => ?_)
    · refine AW_g hT cl_X0 hK 18 1 (pc' := 32) (lo' := [some (.ref 12), some (.int d1), some (.int w2), some (.int ((nI i) + 1))]) (st' := []) (hp' := wd σ) rfl ?_
      refine AW_goto hT hK 19 (tgt := 4) rfl rfl ?_
      refine AW_to (lo' := [some (.ref 12), some (.int d1), some (.int w2), some (.int (nI (i + 1)))]) (by rw [nI_1]) rfl rfl ?_
      subst h2; skip
      exact ih (i + 1) _ (by omega) (fun s' hs' => kx s' ((congrArg (az_it _ n (i + 1)) (by simp only [b_X0_membersOf_4, if_neg c4])).trans hs'))
    · refine AW_g hT cl_X0 hK 13 2 (pc' := 24) (lo' := [some (.ref 12), some (.int d1), some (.int w2), some (.int (nI i))]) (st' := [.int (nI i), .int w2]) (hp' := wd σ) rfl ?_
      refine AW_callSN hT hK 15 [.int (nI i)] [.int w2] (m_X5_setOf l0 σ (nI i)) cw_X5_setOf lk_X0_102 sm_X5_setOf rfl rfl rfl rfl (Nat.le_of_ble_eq_true rfl) (Nat.le_of_ble_eq_true rfl) (AW_k1 (fun v6 h5 => ?_))
      refine AW_g hT cl_X0 hK 16 3 (pc' := 32) (lo' := [some (.ref 12), some (.int d1), some (.int (w2 ||| v6)), some (.int ((nI i) + 1))]) (st' := []) (hp' := wd σ) rfl ?_
      refine AW_goto hT hK 19 (tgt := 4) rfl rfl ?_
      refine AW_to (lo' := [some (.ref 12), some (.int d1), some (.int (w2 ||| v6)), some (.int (nI (i + 1)))]) (by rw [nI_1]) rfl rfl ?_
      subst h5; subst h2; skip
      exact ih (i + 1) _ (by omega) (fun s' hs' => kx s' ((congrArg (az_it _ n (i + 1)) (by simp only [b_X0_membersOf_4, if_pos c4])).trans hs'))
def x_X0_membersOf (σ : az_S) (p0 : Int32) : Int32 :=
  let s8 := az_it (fun ι s => b_X0_membersOf_4 σ p0 ι s) 12 0 0
  s8
set_option maxRecDepth 100000 in
set_option maxHeartbeats 4000000 in
theorem m_X0_membersOf (l0 : Launch) (σ : az_S) (p0 : Int32) : AMet l0 yX0_membersOf cX0_membersOf 4 (some .int) ({ frames := 1, cells := 0, slots := 0, locals := 21 } : Room) false [.ref 12, .int p0] (wd σ) (fun r h => r = some (.int (x_X0_membersOf σ p0)) ∧ h = wd σ) := by
  refine AMet_of (by decide +kernel) (by simp [Value.category]) (Nat.le_of_ble_eq_true rfl) (fun K hK hct hG hE => ?_)
  have hT := tt_X0_membersOf
  refine AW_g hT cl_X0 hK 0 4 (pc' := 4) (lo' := [some (.ref 12), some (.int p0), some (.int 0), some (.int 0)]) (st' := []) (hp' := wd σ) rfl ?_
  refine AW_to (lo' := [some (.ref 12), some (.int p0), some (.int 0), some (.int (nI 0))]) (rfl) rfl rfl ?_
  refine lp_X0_membersOf_4 hT hK σ p0 12 0 0 (by first | rfl | omega) (fun s8 h9 => ?_)
  refine AW_g hT cl_X0 hK 20 1 (pc' := 36) (lo' := [some (.ref 12), some (.int p0), some (.int s8), none]) (st' := [.int s8]) (hp' := wd σ) rfl ?_
  refine AW_iret hT hE 21 rfl rfl rfl (Nat.le_of_ble_eq_true rfl) (Nat.le_of_ble_eq_true rfl) ?_
  subst h9; exact ⟨by simp only [x_X0_membersOf], rfl⟩
def x_X4_at_21 (σ : az_S) (p0 : Int32) (p1 : Int32) : Int32 :=
  if p0 < 0 then
    0
  else
    if 12 ≤ p0 then
      0
    else
      if p1 < 0 then
        0
      else
        if 12 ≤ p1 then
          0
        else
          if ((p0 * 12) + p1) < 0 then
            0
          else
            if 144 ≤ ((p0 * 12) + p1) then
              0
            else
              ((σ.2.1 22) ((p0 * 12) + p1).toNatClampNeg)
set_option maxRecDepth 100000 in
set_option maxHeartbeats 4000000 in
theorem m_X4_at_21 (l0 : Launch) (σ : az_S) (p0 : Int32) (p1 : Int32) : AMet l0 yX4_at cX4_at 5 (some .int) ({ frames := 0, cells := 0, slots := 0, locals := 0 } : Room) false [.ref 21, .int p0, .int p1] (wd σ) (fun r h => r = some (.int (x_X4_at_21 σ p0 p1)) ∧ h = wd σ) := by
  refine AMet_of (by decide +kernel) (by simp [Value.category]) (Nat.le_of_ble_eq_true rfl) (fun K hK hct hG hE => ?_)
  have hT := tt_X4_at
  refine AW_g hT cl_X4 hK 0 7 (pc' := 8) (lo' := [some (.ref 21), some (.int p0), some (.int p1), some (.int ((p0 * 12) + p1)), none]) (st' := [.int p0]) (hp' := wd σ) rfl ?_
  refine AW_if_lt hT hK 7 (tgt := 31) rfl rfl (fun c1 => ?_) (fun c1 => ?_)
  · refine AW_g hT cl_X4 hK 18 3 (pc' := 36) (lo' := [some (.ref 21), some (.int p0), some (.int p1), some (.int ((p0 * 12) + p1)), some (.int 0)]) (st' := [.int 0]) (hp' := wd σ) rfl ?_
    refine AW_if_eq hT hK 21 (tgt := 61) rfl rfl (fun _ => ?_) (fun c2 => absurd (by decide) c2)
    refine AW_g hT cl_X4 hK 34 1 (pc' := 62) (lo' := [some (.ref 21), some (.int p0), some (.int p1), some (.int ((p0 * 12) + p1)), some (.int 0)]) (st' := [.int 0]) (hp' := wd σ) rfl ?_
    refine AW_iret hT hE 35 rfl rfl rfl (Nat.le_of_ble_eq_true rfl) (Nat.le_of_ble_eq_true rfl) ?_
    exact ⟨by simp only [x_X4_at_21, if_pos c1], rfl⟩
  · refine AW_g hT cl_X4 hK 8 2 (pc' := 14) (lo' := [some (.ref 21), some (.int p0), some (.int p1), some (.int ((p0 * 12) + p1)), none]) (st' := [.int 12, .int p0]) (hp' := wd σ) rfl ?_
    refine AW_icmp_ge hT hK 10 (tgt := 31) rfl rfl (fun c3 => ?_) (fun c3 => ?_)
    · refine AW_g hT cl_X4 hK 18 3 (pc' := 36) (lo' := [some (.ref 21), some (.int p0), some (.int p1), some (.int ((p0 * 12) + p1)), some (.int 0)]) (st' := [.int 0]) (hp' := wd σ) rfl ?_
      refine AW_if_eq hT hK 21 (tgt := 61) rfl rfl (fun _ => ?_) (fun c4 => absurd (by decide) c4)
      refine AW_g hT cl_X4 hK 34 1 (pc' := 62) (lo' := [some (.ref 21), some (.int p0), some (.int p1), some (.int ((p0 * 12) + p1)), some (.int 0)]) (st' := [.int 0]) (hp' := wd σ) rfl ?_
      refine AW_iret hT hE 35 rfl rfl rfl (Nat.le_of_ble_eq_true rfl) (Nat.le_of_ble_eq_true rfl) ?_
      exact ⟨by simp only [x_X4_at_21, if_neg c1, if_pos c3], rfl⟩
    · refine AW_g hT cl_X4 hK 11 1 (pc' := 18) (lo' := [some (.ref 21), some (.int p0), some (.int p1), some (.int ((p0 * 12) + p1)), none]) (st' := [.int p1]) (hp' := wd σ) rfl ?_
      refine AW_if_lt hT hK 12 (tgt := 31) rfl rfl (fun c5 => ?_) (fun c5 => ?_)
      · refine AW_g hT cl_X4 hK 18 3 (pc' := 36) (lo' := [some (.ref 21), some (.int p0), some (.int p1), some (.int ((p0 * 12) + p1)), some (.int 0)]) (st' := [.int 0]) (hp' := wd σ) rfl ?_
        refine AW_if_eq hT hK 21 (tgt := 61) rfl rfl (fun _ => ?_) (fun c6 => absurd (by decide) c6)
        refine AW_g hT cl_X4 hK 34 1 (pc' := 62) (lo' := [some (.ref 21), some (.int p0), some (.int p1), some (.int ((p0 * 12) + p1)), some (.int 0)]) (st' := [.int 0]) (hp' := wd σ) rfl ?_
        refine AW_iret hT hE 35 rfl rfl rfl (Nat.le_of_ble_eq_true rfl) (Nat.le_of_ble_eq_true rfl) ?_
        exact ⟨by simp only [x_X4_at_21, if_neg c1, if_neg c3, if_pos c5], rfl⟩
      · refine AW_g hT cl_X4 hK 13 2 (pc' := 24) (lo' := [some (.ref 21), some (.int p0), some (.int p1), some (.int ((p0 * 12) + p1)), none]) (st' := [.int 12, .int p1]) (hp' := wd σ) rfl ?_
        refine AW_icmp_ge hT hK 15 (tgt := 31) rfl rfl (fun c7 => ?_) (fun c7 => ?_)
        · refine AW_g hT cl_X4 hK 18 3 (pc' := 36) (lo' := [some (.ref 21), some (.int p0), some (.int p1), some (.int ((p0 * 12) + p1)), some (.int 0)]) (st' := [.int 0]) (hp' := wd σ) rfl ?_
          refine AW_if_eq hT hK 21 (tgt := 61) rfl rfl (fun _ => ?_) (fun c8 => absurd (by decide) c8)
          refine AW_g hT cl_X4 hK 34 1 (pc' := 62) (lo' := [some (.ref 21), some (.int p0), some (.int p1), some (.int ((p0 * 12) + p1)), some (.int 0)]) (st' := [.int 0]) (hp' := wd σ) rfl ?_
          refine AW_iret hT hE 35 rfl rfl rfl (Nat.le_of_ble_eq_true rfl) (Nat.le_of_ble_eq_true rfl) ?_
          exact ⟨by simp only [x_X4_at_21, if_neg c1, if_neg c3, if_neg c5, if_pos c7], rfl⟩
        · refine AW_g hT cl_X4 hK 16 1 (pc' := 28) (lo' := [some (.ref 21), some (.int p0), some (.int p1), some (.int ((p0 * 12) + p1)), none]) (st' := [.int 1]) (hp' := wd σ) rfl ?_
          refine AW_goto hT hK 17 (tgt := 32) rfl rfl ?_
          refine AW_g hT cl_X4 hK 19 2 (pc' := 36) (lo' := [some (.ref 21), some (.int p0), some (.int p1), some (.int ((p0 * 12) + p1)), some (.int 1)]) (st' := [.int 1]) (hp' := wd σ) rfl ?_
          refine AW_if_eq hT hK 21 (tgt := 61) rfl rfl (fun c9 => absurd c9 (by decide)) (fun _ => ?_)
          refine AW_g hT cl_X4 hK 22 1 (pc' := 40) (lo' := [some (.ref 21), some (.int p0), some (.int p1), some (.int ((p0 * 12) + p1)), some (.int 1)]) (st' := [.int ((p0 * 12) + p1)]) (hp' := wd σ) rfl ?_
          refine AW_if_lt hT hK 23 (tgt := 61) rfl rfl (fun c10 => ?_) (fun c10 => ?_)
          · refine AW_g hT cl_X4 hK 34 1 (pc' := 62) (lo' := [some (.ref 21), some (.int p0), some (.int p1), some (.int ((p0 * 12) + p1)), some (.int 1)]) (st' := [.int 0]) (hp' := wd σ) rfl ?_
            refine AW_iret hT hE 35 rfl rfl rfl (Nat.le_of_ble_eq_true rfl) (Nat.le_of_ble_eq_true rfl) ?_
            exact ⟨by simp only [x_X4_at_21, if_neg c1, if_neg c3, if_neg c5, if_neg c7, if_pos c10], rfl⟩
          · refine AW_g hT cl_X4 hK 24 4 (pc' := 49) (lo' := [some (.ref 21), some (.int p0), some (.int p1), some (.int ((p0 * 12) + p1)), some (.int 1)]) (st' := [.int 144, .int ((p0 * 12) + p1)]) (hp' := wd σ) rfl ?_
            refine AW_icmp_ge hT hK 28 (tgt := 61) rfl rfl (fun c11 => ?_) (fun c11 => ?_)
            · refine AW_g hT cl_X4 hK 34 1 (pc' := 62) (lo' := [some (.ref 21), some (.int p0), some (.int p1), some (.int ((p0 * 12) + p1)), some (.int 1)]) (st' := [.int 0]) (hp' := wd σ) rfl ?_
              refine AW_iret hT hE 35 rfl rfl rfl (Nat.le_of_ble_eq_true rfl) (Nat.le_of_ble_eq_true rfl) ?_
              exact ⟨by simp only [x_X4_at_21, if_neg c1, if_neg c3, if_neg c5, if_neg c7, if_neg c10, if_pos c11], rfl⟩
            · refine AW_g hT cl_X4 hK 29 3 (pc' := 57) (lo' := [some (.ref 21), some (.int p0), some (.int p1), some (.int ((p0 * 12) + p1)), some (.int 1)]) (st' := [.int ((p0 * 12) + p1), .ref 22]) (hp' := wd σ) rfl ?_
              refine AW_ialdx hT hK 32 rfl (n := 144) (f := (σ.2.1 22)) rfl (az_in144 c10 c11) ?_
              refine AW_goto hT hK 33 (tgt := 62) rfl rfl ?_
              refine AW_iret hT hE 35 rfl rfl rfl (Nat.le_of_ble_eq_true rfl) (Nat.le_of_ble_eq_true rfl) ?_
              exact ⟨by simp only [x_X4_at_21, if_neg c1, if_neg c3, if_neg c5, if_neg c7, if_neg c10, if_neg c11], rfl⟩
def b_X0_weightWithAll_5 (σ : az_S) (d1 : Int32) (d2 : Int32) (i : Nat) (w3 : Int32) : Int32 :=
  let v3 := x_X5_holds σ d2 (nI i)
  if v3 = 0 then
    w3
  else
    let v6 := x_X4_at_21 σ d1 (nI i)
    (w3 + v6)
set_option maxRecDepth 100000 in
set_option maxHeartbeats 4000000 in
theorem lp_X0_weightWithAll_5 {K : az_K} {l0 : Launch} (hT : az_Tb cX0_weightWithAll tb_X0_weightWithAll) (hK : az_OK K RX0 cX0_weightWithAll ({ frames := 1, cells := 0, slots := 0, locals := 24 } : Room) l0) (σ : az_S) (d1 : Int32) (d2 : Int32) :
    ∀ (n i : Nat) (w3 : Int32) (hi : i + n = 12) (kx : ∀ s' : Int32, az_it (fun ι s => b_X0_weightWithAll_5 σ d1 d2 ι s) n i w3 = s' → AW K 0 0 40 [some (.ref 12), some (.int d1), some (.int d2), some (.int s'), none] [] (wd σ)), AW K 0 0 5 [some (.ref 12), some (.int d1), some (.int d2), some (.int w3), some (.int (nI i))] [] (wd σ) := by
  intro n
  induction n with
  | zero =>
    intro i w3 hi kx
    refine AW_g hT cl_X0 hK 4 2 (pc' := 9) (lo' := [some (.ref 12), some (.int d1), some (.int d2), some (.int w3), some (.int (nI i))]) (st' := [.int 12, .int (nI i)]) (hp' := wd σ) rfl ?_
    refine AW_icmp_ge hT hK 6 (tgt := 40) rfl rfl (fun c7 => ?_) (fun c7 => absurd (az_c0 hi) c7)
    refine AW_msk [true, true, true, true, false] (lo' := [some (.ref 12), some (.int d1), some (.int d2), some (.int w3), none]) rfl ?_
    exact kx w3 rfl
  | succ n ih =>
    intro i w3 hi kx
    refine AW_g hT cl_X0 hK 4 2 (pc' := 9) (lo' := [some (.ref 12), some (.int d1), some (.int d2), some (.int w3), some (.int (nI i))]) (st' := [.int 12, .int (nI i)]) (hp' := wd σ) rfl ?_
    refine AW_icmp_ge hT hK 6 (tgt := 40) rfl rfl (fun c1 => absurd c1 (az_c1 hi)) (fun c1 => ?_)
    refine AW_g hT cl_X0 hK 7 2 (pc' := 15) (lo' := [some (.ref 12), some (.int d1), some (.int d2), some (.int w3), some (.int (nI i))]) (st' := [.int (nI i), .int d2]) (hp' := wd σ) rfl ?_
    refine AW_callSN hT hK 9 [.int d2, .int (nI i)] [] (m_X5_holds l0 σ d2 (nI i)) cw_X5_holds lk_X0_48 sm_X5_holds rfl rfl rfl rfl (Nat.le_of_ble_eq_true rfl) (Nat.le_of_ble_eq_true rfl) (AW_k1 (fun v3 h2 => ?_))
    refine AW_if_eq hT hK 10 (tgt := 34) rfl rfl (fun c4 => ?_) (fun c4 => ?_)
    · refine AW_g hT cl_X0 hK 19 1 (pc' := 37) (lo' := [some (.ref 12), some (.int d1), some (.int d2), some (.int w3), some (.int ((nI i) + 1))]) (st' := []) (hp' := wd σ) rfl ?_
      refine AW_goto hT hK 20 (tgt := 5) rfl rfl ?_
      refine AW_to (lo' := [some (.ref 12), some (.int d1), some (.int d2), some (.int w3), some (.int (nI (i + 1)))]) (by rw [nI_1]) rfl rfl ?_
      subst h2; skip
      exact ih (i + 1) _ (by omega) (fun s' hs' => kx s' ((congrArg (az_it _ n (i + 1)) (by simp only [b_X0_weightWithAll_5, if_pos c4])).trans hs'))
    · refine AW_g hT cl_X0 hK 11 5 (pc' := 29) (lo' := [some (.ref 12), some (.int d1), some (.int d2), some (.int w3), some (.int (nI i))]) (st' := [.int (nI i), .int d1, .ref 21, .int w3]) (hp' := wd σ) rfl ?_
      refine AW_callV hT hK 16 [.int d1, .int (nI i)] [.int w3] (m_X4_at_21 l0 σ d1 (nI i)) cw_X4_at lk_X0_52 vi_X4_at rfl rfl rfl rfl rfl rfl (Nat.le_of_ble_eq_true rfl) (Nat.le_of_ble_eq_true rfl) (AW_k1 (fun v6 h5 => ?_))
      refine AW_g hT cl_X0 hK 17 3 (pc' := 37) (lo' := [some (.ref 12), some (.int d1), some (.int d2), some (.int (w3 + v6)), some (.int ((nI i) + 1))]) (st' := []) (hp' := wd σ) rfl ?_
      refine AW_goto hT hK 20 (tgt := 5) rfl rfl ?_
      refine AW_to (lo' := [some (.ref 12), some (.int d1), some (.int d2), some (.int (w3 + v6)), some (.int (nI (i + 1)))]) (by rw [nI_1]) rfl rfl ?_
      subst h5; subst h2; skip
      exact ih (i + 1) _ (by omega) (fun s' hs' => kx s' ((congrArg (az_it _ n (i + 1)) (by simp only [b_X0_weightWithAll_5, if_neg c4])).trans hs'))
def x_X0_weightWithAll (σ : az_S) (p0 : Int32) (p1 : Int32) : Int32 :=
  let s8 := az_it (fun ι s => b_X0_weightWithAll_5 σ p0 p1 ι s) 12 0 0
  s8
set_option maxRecDepth 100000 in
set_option maxHeartbeats 4000000 in
theorem m_X0_weightWithAll (l0 : Launch) (σ : az_S) (p0 : Int32) (p1 : Int32) : AMet l0 yX0_weightWithAll cX0_weightWithAll 5 (some .int) ({ frames := 1, cells := 0, slots := 0, locals := 24 } : Room) false [.ref 12, .int p0, .int p1] (wd σ) (fun r h => r = some (.int (x_X0_weightWithAll σ p0 p1)) ∧ h = wd σ) := by
  refine AMet_of (by decide +kernel) (by simp [Value.category]) (Nat.le_of_ble_eq_true rfl) (fun K hK hct hG hE => ?_)
  have hT := tt_X0_weightWithAll
  refine AW_g hT cl_X0 hK 0 4 (pc' := 5) (lo' := [some (.ref 12), some (.int p0), some (.int p1), some (.int 0), some (.int 0)]) (st' := []) (hp' := wd σ) rfl ?_
  refine AW_to (lo' := [some (.ref 12), some (.int p0), some (.int p1), some (.int 0), some (.int (nI 0))]) (rfl) rfl rfl ?_
  refine lp_X0_weightWithAll_5 hT hK σ p0 p1 12 0 0 (by first | rfl | omega) (fun s8 h9 => ?_)
  refine AW_g hT cl_X0 hK 21 1 (pc' := 41) (lo' := [some (.ref 12), some (.int p0), some (.int p1), some (.int s8), none]) (st' := [.int s8]) (hp' := wd σ) rfl ?_
  refine AW_iret hT hE 22 rfl rfl rfl (Nat.le_of_ble_eq_true rfl) (Nat.le_of_ble_eq_true rfl) ?_
  subst h9; exact ⟨by simp only [x_X0_weightWithAll], rfl⟩
def x_X2_at_17 (σ : az_S) (p0 : Int32) : Int32 :=
  if p0 < 0 then
    0
  else
    if 12 ≤ p0 then
      0
    else
      ((σ.2.1 18) p0.toNatClampNeg)
set_option maxRecDepth 100000 in
set_option maxHeartbeats 4000000 in
theorem m_X2_at_17 (l0 : Launch) (σ : az_S) (p0 : Int32) : AMet l0 yX2_at cX2_at 2 (some .int) ({ frames := 0, cells := 0, slots := 0, locals := 0 } : Room) false [.ref 17, .int p0] (wd σ) (fun r h => r = some (.int (x_X2_at_17 σ p0)) ∧ h = wd σ) := by
  refine AMet_of (by decide +kernel) (by simp [Value.category]) (Nat.le_of_ble_eq_true rfl) (fun K hK hct hG hE => ?_)
  have hT := tt_X2_at
  refine AW_g hT cl_X2 hK 0 1 (pc' := 1) (lo' := [some (.ref 17), some (.int p0)]) (st' := [.int p0]) (hp' := wd σ) rfl ?_
  refine AW_if_lt hT hK 1 (tgt := 22) rfl rfl (fun c1 => ?_) (fun c1 => ?_)
  · refine AW_g hT cl_X2 hK 12 1 (pc' := 23) (lo' := [some (.ref 17), some (.int p0)]) (st' := [.int 0]) (hp' := wd σ) rfl ?_
    refine AW_iret hT hE 13 rfl rfl rfl (Nat.le_of_ble_eq_true rfl) (Nat.le_of_ble_eq_true rfl) ?_
    exact ⟨by simp only [x_X2_at_17, if_pos c1], rfl⟩
  · refine AW_g hT cl_X2 hK 2 4 (pc' := 10) (lo' := [some (.ref 17), some (.int p0)]) (st' := [.int 12, .int p0]) (hp' := wd σ) rfl ?_
    refine AW_icmp_ge hT hK 6 (tgt := 22) rfl rfl (fun c2 => ?_) (fun c2 => ?_)
    · refine AW_g hT cl_X2 hK 12 1 (pc' := 23) (lo' := [some (.ref 17), some (.int p0)]) (st' := [.int 0]) (hp' := wd σ) rfl ?_
      refine AW_iret hT hE 13 rfl rfl rfl (Nat.le_of_ble_eq_true rfl) (Nat.le_of_ble_eq_true rfl) ?_
      exact ⟨by simp only [x_X2_at_17, if_neg c1, if_pos c2], rfl⟩
    · refine AW_g hT cl_X2 hK 7 3 (pc' := 18) (lo' := [some (.ref 17), some (.int p0)]) (st' := [.int p0, .ref 18]) (hp' := wd σ) rfl ?_
      refine AW_ialdx hT hK 10 rfl (n := 12) (f := (σ.2.1 18)) rfl (az_in12 c1 c2) ?_
      refine AW_goto hT hK 11 (tgt := 23) rfl rfl ?_
      refine AW_iret hT hE 13 rfl rfl rfl (Nat.le_of_ble_eq_true rfl) (Nat.le_of_ble_eq_true rfl) ?_
      exact ⟨by simp only [x_X2_at_17, if_neg c1, if_neg c2], rfl⟩
def b_X0_strengthOf_4 (σ : az_S) (d1 : Int32) (i : Nat) (w2 : Int32) : Int32 :=
  let v3 := x_X5_holds σ d1 (nI i)
  if v3 = 0 then
    w2
  else
    let v6 := x_X2_at_17 σ (nI i)
    (w2 + v6)
set_option maxRecDepth 100000 in
set_option maxHeartbeats 4000000 in
theorem lp_X0_strengthOf_4 {K : az_K} {l0 : Launch} (hT : az_Tb cX0_strengthOf tb_X0_strengthOf) (hK : az_OK K RX0 cX0_strengthOf ({ frames := 1, cells := 0, slots := 0, locals := 21 } : Room) l0) (σ : az_S) (d1 : Int32) :
    ∀ (n i : Nat) (w2 : Int32) (hi : i + n = 12) (kx : ∀ s' : Int32, az_it (fun ι s => b_X0_strengthOf_4 σ d1 ι s) n i w2 = s' → AW K 0 0 35 [some (.ref 12), some (.int d1), some (.int s'), none] [] (wd σ)), AW K 0 0 4 [some (.ref 12), some (.int d1), some (.int w2), some (.int (nI i))] [] (wd σ) := by
  intro n
  induction n with
  | zero =>
    intro i w2 hi kx
    refine AW_g hT cl_X0 hK 4 2 (pc' := 7) (lo' := [some (.ref 12), some (.int d1), some (.int w2), some (.int (nI i))]) (st' := [.int 12, .int (nI i)]) (hp' := wd σ) rfl ?_
    refine AW_icmp_ge hT hK 6 (tgt := 35) rfl rfl (fun c7 => ?_) (fun c7 => absurd (az_c0 hi) c7)
    refine AW_msk [true, true, true, false] (lo' := [some (.ref 12), some (.int d1), some (.int w2), none]) rfl ?_
    exact kx w2 rfl
  | succ n ih =>
    intro i w2 hi kx
    refine AW_g hT cl_X0 hK 4 2 (pc' := 7) (lo' := [some (.ref 12), some (.int d1), some (.int w2), some (.int (nI i))]) (st' := [.int 12, .int (nI i)]) (hp' := wd σ) rfl ?_
    refine AW_icmp_ge hT hK 6 (tgt := 35) rfl rfl (fun c1 => absurd c1 (az_c1 hi)) (fun c1 => ?_)
    refine AW_g hT cl_X0 hK 7 2 (pc' := 12) (lo' := [some (.ref 12), some (.int d1), some (.int w2), some (.int (nI i))]) (st' := [.int (nI i), .int d1]) (hp' := wd σ) rfl ?_
    refine AW_callSN hT hK 9 [.int d1, .int (nI i)] [] (m_X5_holds l0 σ d1 (nI i)) cw_X5_holds lk_X0_48 sm_X5_holds rfl rfl rfl rfl (Nat.le_of_ble_eq_true rfl) (Nat.le_of_ble_eq_true rfl) (AW_k1 (fun v3 h2 => ?_))
    refine AW_if_eq hT hK 10 (tgt := 29) rfl rfl (fun c4 => ?_) (fun c4 => ?_)
    · refine AW_g hT cl_X0 hK 18 1 (pc' := 32) (lo' := [some (.ref 12), some (.int d1), some (.int w2), some (.int ((nI i) + 1))]) (st' := []) (hp' := wd σ) rfl ?_
      refine AW_goto hT hK 19 (tgt := 4) rfl rfl ?_
      refine AW_to (lo' := [some (.ref 12), some (.int d1), some (.int w2), some (.int (nI (i + 1)))]) (by rw [nI_1]) rfl rfl ?_
      subst h2; skip
      exact ih (i + 1) _ (by omega) (fun s' hs' => kx s' ((congrArg (az_it _ n (i + 1)) (by simp only [b_X0_strengthOf_4, if_pos c4])).trans hs'))
    · refine AW_g hT cl_X0 hK 11 4 (pc' := 24) (lo' := [some (.ref 12), some (.int d1), some (.int w2), some (.int (nI i))]) (st' := [.int (nI i), .ref 17, .int w2]) (hp' := wd σ) rfl ?_
      refine AW_callV hT hK 15 [.int (nI i)] [.int w2] (m_X2_at_17 l0 σ (nI i)) cw_X2_at lk_X0_44 vi_X2_at rfl rfl rfl rfl rfl rfl (Nat.le_of_ble_eq_true rfl) (Nat.le_of_ble_eq_true rfl) (AW_k1 (fun v6 h5 => ?_))
      refine AW_g hT cl_X0 hK 16 3 (pc' := 32) (lo' := [some (.ref 12), some (.int d1), some (.int (w2 + v6)), some (.int ((nI i) + 1))]) (st' := []) (hp' := wd σ) rfl ?_
      refine AW_goto hT hK 19 (tgt := 4) rfl rfl ?_
      refine AW_to (lo' := [some (.ref 12), some (.int d1), some (.int (w2 + v6)), some (.int (nI (i + 1)))]) (by rw [nI_1]) rfl rfl ?_
      subst h5; subst h2; skip
      exact ih (i + 1) _ (by omega) (fun s' hs' => kx s' ((congrArg (az_it _ n (i + 1)) (by simp only [b_X0_strengthOf_4, if_neg c4])).trans hs'))
def x_X0_strengthOf (σ : az_S) (p0 : Int32) : Int32 :=
  let s8 := az_it (fun ι s => b_X0_strengthOf_4 σ p0 ι s) 12 0 0
  s8
set_option maxRecDepth 100000 in
set_option maxHeartbeats 4000000 in
theorem m_X0_strengthOf (l0 : Launch) (σ : az_S) (p0 : Int32) : AMet l0 yX0_strengthOf cX0_strengthOf 4 (some .int) ({ frames := 1, cells := 0, slots := 0, locals := 21 } : Room) false [.ref 12, .int p0] (wd σ) (fun r h => r = some (.int (x_X0_strengthOf σ p0)) ∧ h = wd σ) := by
  refine AMet_of (by decide +kernel) (by simp [Value.category]) (Nat.le_of_ble_eq_true rfl) (fun K hK hct hG hE => ?_)
  have hT := tt_X0_strengthOf
  refine AW_g hT cl_X0 hK 0 4 (pc' := 4) (lo' := [some (.ref 12), some (.int p0), some (.int 0), some (.int 0)]) (st' := []) (hp' := wd σ) rfl ?_
  refine AW_to (lo' := [some (.ref 12), some (.int p0), some (.int 0), some (.int (nI 0))]) (rfl) rfl rfl ?_
  refine lp_X0_strengthOf_4 hT hK σ p0 12 0 0 (by first | rfl | omega) (fun s8 h9 => ?_)
  refine AW_g hT cl_X0 hK 20 1 (pc' := 36) (lo' := [some (.ref 12), some (.int p0), some (.int s8), none]) (st' := [.int s8]) (hp' := wd σ) rfl ?_
  refine AW_iret hT hE 21 rfl rfl rfl (Nat.le_of_ble_eq_true rfl) (Nat.le_of_ble_eq_true rfl) ?_
  subst h9; exact ⟨by simp only [x_X0_strengthOf], rfl⟩
def b_X0_gainOfParts_5 (σ : az_S) (d1 : Int32) (d2 : Int32) (i : Nat) (w3 : Int32) : Int32 :=
  let v3 := x_X5_holds σ d1 (nI i)
  if v3 = 0 then
    w3
  else
    let v6 := x_X0_weightWithAll σ (nI i) d2
    (w3 + v6)
set_option maxRecDepth 100000 in
set_option maxHeartbeats 4000000 in
theorem lp_X0_gainOfParts_5 {K : az_K} {l0 : Launch} (hT : az_Tb cX0_gainOfParts tb_X0_gainOfParts) (hK : az_OK K RX0 cX0_gainOfParts ({ frames := 2, cells := 0, slots := 0, locals := 48 } : Room) l0) (σ : az_S) (d1 : Int32) (d2 : Int32) :
    ∀ (n i : Nat) (w3 : Int32) (hi : i + n = 12) (kx : ∀ s' : Int32, az_it (fun ι s => b_X0_gainOfParts_5 σ d1 d2 ι s) n i w3 = s' → AW K 0 0 37 [some (.ref 12), some (.int d1), some (.int d2), some (.int s'), none] [] (wd σ)), AW K 0 0 5 [some (.ref 12), some (.int d1), some (.int d2), some (.int w3), some (.int (nI i))] [] (wd σ) := by
  intro n
  induction n with
  | zero =>
    intro i w3 hi kx
    refine AW_g hT cl_X0 hK 4 2 (pc' := 9) (lo' := [some (.ref 12), some (.int d1), some (.int d2), some (.int w3), some (.int (nI i))]) (st' := [.int 12, .int (nI i)]) (hp' := wd σ) rfl ?_
    refine AW_icmp_ge hT hK 6 (tgt := 37) rfl rfl (fun c7 => ?_) (fun c7 => absurd (az_c0 hi) c7)
    refine AW_msk [true, true, true, true, false] (lo' := [some (.ref 12), some (.int d1), some (.int d2), some (.int w3), none]) rfl ?_
    exact kx w3 rfl
  | succ n ih =>
    intro i w3 hi kx
    refine AW_g hT cl_X0 hK 4 2 (pc' := 9) (lo' := [some (.ref 12), some (.int d1), some (.int d2), some (.int w3), some (.int (nI i))]) (st' := [.int 12, .int (nI i)]) (hp' := wd σ) rfl ?_
    refine AW_icmp_ge hT hK 6 (tgt := 37) rfl rfl (fun c1 => absurd c1 (az_c1 hi)) (fun c1 => ?_)
    refine AW_g hT cl_X0 hK 7 2 (pc' := 15) (lo' := [some (.ref 12), some (.int d1), some (.int d2), some (.int w3), some (.int (nI i))]) (st' := [.int (nI i), .int d1]) (hp' := wd σ) rfl ?_
    refine AW_callSN hT hK 9 [.int d1, .int (nI i)] [] (m_X5_holds l0 σ d1 (nI i)) cw_X5_holds lk_X0_48 sm_X5_holds rfl rfl rfl rfl (Nat.le_of_ble_eq_true rfl) (Nat.le_of_ble_eq_true rfl) (AW_k1 (fun v3 h2 => ?_))
    refine AW_if_eq hT hK 10 (tgt := 31) rfl rfl (fun c4 => ?_) (fun c4 => ?_)
    · refine AW_g hT cl_X0 hK 18 1 (pc' := 34) (lo' := [some (.ref 12), some (.int d1), some (.int d2), some (.int w3), some (.int ((nI i) + 1))]) (st' := []) (hp' := wd σ) rfl ?_
      refine AW_goto hT hK 19 (tgt := 5) rfl rfl ?_
      refine AW_to (lo' := [some (.ref 12), some (.int d1), some (.int d2), some (.int w3), some (.int (nI (i + 1)))]) (by rw [nI_1]) rfl rfl ?_
      subst h2; skip
      exact ih (i + 1) _ (by omega) (fun s' hs' => kx s' ((congrArg (az_it _ n (i + 1)) (by simp only [b_X0_gainOfParts_5, if_pos c4])).trans hs'))
    · refine AW_g hT cl_X0 hK 11 4 (pc' := 26) (lo' := [some (.ref 12), some (.int d1), some (.int d2), some (.int w3), some (.int (nI i))]) (st' := [.int d2, .int (nI i), .ref 12, .int w3]) (hp' := wd σ) rfl ?_
      refine AW_callV hT hK 15 [.int (nI i), .int d2] [.int w3] (m_X0_weightWithAll l0 σ (nI i) d2) cw_X0_weightWithAll lk_X0_121 vi_X0_weightWithAll rfl rfl rfl rfl rfl rfl (Nat.le_of_ble_eq_true rfl) (Nat.le_of_ble_eq_true rfl) (AW_k1 (fun v6 h5 => ?_))
      refine AW_g hT cl_X0 hK 16 3 (pc' := 34) (lo' := [some (.ref 12), some (.int d1), some (.int d2), some (.int (w3 + v6)), some (.int ((nI i) + 1))]) (st' := []) (hp' := wd σ) rfl ?_
      refine AW_goto hT hK 19 (tgt := 5) rfl rfl ?_
      refine AW_to (lo' := [some (.ref 12), some (.int d1), some (.int d2), some (.int (w3 + v6)), some (.int (nI (i + 1)))]) (by rw [nI_1]) rfl rfl ?_
      subst h5; subst h2; skip
      exact ih (i + 1) _ (by omega) (fun s' hs' => kx s' ((congrArg (az_it _ n (i + 1)) (by simp only [b_X0_gainOfParts_5, if_neg c4])).trans hs'))
def x_X0_gainOfParts (σ : az_S) (p0 : Int32) (p1 : Int32) : Int32 :=
  let s8 := az_it (fun ι s => b_X0_gainOfParts_5 σ p0 p1 ι s) 12 0 0
  let v11 := x_X0_strengthOf σ p0
  let v13 := x_X0_strengthOf σ p1
  let v15 := x_X0_gainFrom σ s8 v11 v13
  v15
set_option maxRecDepth 100000 in
set_option maxHeartbeats 4000000 in
theorem m_X0_gainOfParts (l0 : Launch) (σ : az_S) (p0 : Int32) (p1 : Int32) : AMet l0 yX0_gainOfParts cX0_gainOfParts 5 (some .int) ({ frames := 2, cells := 0, slots := 0, locals := 48 } : Room) false [.ref 12, .int p0, .int p1] (wd σ) (fun r h => r = some (.int (x_X0_gainOfParts σ p0 p1)) ∧ h = wd σ) := by
  refine AMet_of (by decide +kernel) (by simp [Value.category]) (Nat.le_of_ble_eq_true rfl) (fun K hK hct hG hE => ?_)
  have hT := tt_X0_gainOfParts
  refine AW_g hT cl_X0 hK 0 4 (pc' := 5) (lo' := [some (.ref 12), some (.int p0), some (.int p1), some (.int 0), some (.int 0)]) (st' := []) (hp' := wd σ) rfl ?_
  refine AW_to (lo' := [some (.ref 12), some (.int p0), some (.int p1), some (.int 0), some (.int (nI 0))]) (rfl) rfl rfl ?_
  refine lp_X0_gainOfParts_5 hT hK σ p0 p1 12 0 0 (by first | rfl | omega) (fun s8 h9 => ?_)
  refine AW_g hT cl_X0 hK 20 4 (pc' := 41) (lo' := [some (.ref 12), some (.int p0), some (.int p1), some (.int s8), none]) (st' := [.int p0, .ref 12, .int s8, .ref 12]) (hp' := wd σ) rfl ?_
  refine AW_callV hT hK 24 [.int p0] [.int s8, .ref 12] (m_X0_strengthOf l0 σ p0) cw_X0_strengthOf lk_X0_124 vi_X0_strengthOf rfl rfl rfl rfl rfl rfl (Nat.le_of_ble_eq_true rfl) (Nat.le_of_ble_eq_true rfl) (AW_k1 (fun v11 h10 => ?_))
  refine AW_g hT cl_X0 hK 25 2 (pc' := 46) (lo' := [some (.ref 12), some (.int p0), some (.int p1), some (.int s8), none]) (st' := [.int p1, .ref 12, .int v11, .int s8, .ref 12]) (hp' := wd σ) rfl ?_
  refine AW_callV hT hK 27 [.int p1] [.int v11, .int s8, .ref 12] (m_X0_strengthOf l0 σ p1) cw_X0_strengthOf lk_X0_124 vi_X0_strengthOf rfl rfl rfl rfl rfl rfl (Nat.le_of_ble_eq_true rfl) (Nat.le_of_ble_eq_true rfl) (AW_k1 (fun v13 h12 => ?_))
  refine AW_callV hT hK 28 [.int s8, .int v11, .int v13] [] (m_X0_gainFrom l0 σ s8 v11 v13) cw_X0_gainFrom lk_X0_55 vi_X0_gainFrom rfl rfl rfl rfl rfl rfl (Nat.le_of_ble_eq_true rfl) (Nat.le_of_ble_eq_true rfl) (AW_k1 (fun v15 h14 => ?_))
  refine AW_iret hT hE 29 rfl rfl rfl (Nat.le_of_ble_eq_true rfl) (Nat.le_of_ble_eq_true rfl) ?_
  subst h14; subst h12; subst h10; subst h9; exact ⟨by simp only [x_X0_gainOfParts], rfl⟩
def b_X0_bestSplit_34 (σ : az_S) (d1 : Int32) (d2 : Int32) (d3 : Int32) (i : Nat) (w4 : Int32) (w5 : Int32) (w6 : Int32) : Int32 × Int32 × Int32 :=
  let v9 := x_X5_setOf σ d1
  let v11 := x_X0_gainOfParts σ (v9 ||| w6) (d2 &&& (w6 ^^^ (-1)))
  if w5 ≤ v11 then
    (w4, w5, ((w6 - d2) &&& d2))
  else
    ((v9 ||| w6), v11, ((w6 - d2) &&& d2))
set_option maxRecDepth 100000 in
set_option maxHeartbeats 4000000 in
theorem lp_X0_bestSplit_34 {K : az_K} {l0 : Launch} (hT : az_Tb cX0_bestSplit tb_X0_bestSplit) (hK : az_OK K RX0 cX0_bestSplit ({ frames := 3, cells := 0, slots := 0, locals := 72 } : Room) l0) (σ : az_S) (d1 : Int32) (d2 : Int32) (d3 : Int32) :
    ∀ (n i : Nat) (w4 : Int32) (w5 : Int32) (w6 : Int32) (hi : i + n = (d3).toNatClampNeg) (kx : ∀ s' : Int32 × Int32 × Int32, az_it (fun ι s => b_X0_bestSplit_34 σ d1 d2 d3 ι s.1 s.2.1 s.2.2) n i (w4, w5, w6) = s' → AW K 0 0 92 [some (.ref 12), some (.int d1), some (.int d2), some (.int d3), some (.int s'.1), some (.int s'.2.1), some (.int s'.2.2), none, none, none] [] (wd σ)), AW K 0 0 34 [some (.ref 12), some (.int d1), some (.int d2), some (.int d3), some (.int w4), some (.int w5), some (.int w6), some (.int (nI i)), none, none] [] (wd σ) := by
  intro n
  induction n with
  | zero =>
    intro i w4 w5 w6 hi kx
    refine AW_g hT cl_X0 hK 24 2 (pc' := 37) (lo' := [some (.ref 12), some (.int d1), some (.int d2), some (.int d3), some (.int w4), some (.int w5), some (.int w6), some (.int (nI i)), none, none]) (st' := [.int d3, .int (nI i)]) (hp' := wd σ) rfl ?_
    refine AW_icmp_ge hT hK 26 (tgt := 92) rfl rfl (fun c13 => ?_) (fun c13 => absurd (az_cv0 hi) c13)
    refine AW_msk [true, true, true, true, true, true, true, false, false, false] (lo' := [some (.ref 12), some (.int d1), some (.int d2), some (.int d3), some (.int w4), some (.int w5), some (.int w6), none, none, none]) rfl ?_
    exact kx (w4, w5, w6) rfl
  | succ n ih =>
    intro i w4 w5 w6 hi kx
    refine AW_g hT cl_X0 hK 24 2 (pc' := 37) (lo' := [some (.ref 12), some (.int d1), some (.int d2), some (.int d3), some (.int w4), some (.int w5), some (.int w6), some (.int (nI i)), none, none]) (st' := [.int d3, .int (nI i)]) (hp' := wd σ) rfl ?_
    refine AW_icmp_ge hT hK 26 (tgt := 92) rfl rfl (fun c7 => absurd c7 (az_cv1 hi)) (fun c7 => ?_)
    refine AW_g hT cl_X0 hK 27 1 (pc' := 41) (lo' := [some (.ref 12), some (.int d1), some (.int d2), some (.int d3), some (.int w4), some (.int w5), some (.int w6), some (.int (nI i)), none, none]) (st' := [.int d1]) (hp' := wd σ) rfl ?_
    refine AW_callSN hT hK 28 [.int d1] [] (m_X5_setOf l0 σ d1) cw_X5_setOf lk_X0_102 sm_X5_setOf rfl rfl rfl rfl (Nat.le_of_ble_eq_true rfl) (Nat.le_of_ble_eq_true rfl) (AW_k1 (fun v9 h8 => ?_))
    refine AW_g hT cl_X0 hK 29 10 (pc' := 58) (lo' := [some (.ref 12), some (.int d1), some (.int d2), some (.int d3), some (.int w4), some (.int w5), some (.int w6), some (.int (nI i)), some (.int (v9 ||| w6)), none]) (st' := [.int (d2 &&& (w6 ^^^ (-1))), .int (v9 ||| w6), .ref 12]) (hp' := wd σ) rfl ?_
    refine AW_callV hT hK 39 [.int (v9 ||| w6), .int (d2 &&& (w6 ^^^ (-1)))] [] (m_X0_gainOfParts l0 σ (v9 ||| w6) (d2 &&& (w6 ^^^ (-1)))) cw_X0_gainOfParts lk_X0_118 vi_X0_gainOfParts rfl rfl rfl rfl rfl rfl (Nat.le_of_ble_eq_true rfl) (Nat.le_of_ble_eq_true rfl) (AW_k1 (fun v11 h10 => ?_))
    refine AW_g hT cl_X0 hK 40 3 (pc' := 67) (lo' := [some (.ref 12), some (.int d1), some (.int d2), some (.int d3), some (.int w4), some (.int w5), some (.int w6), some (.int (nI i)), some (.int (v9 ||| w6)), some (.int v11)]) (st' := [.int w5, .int v11]) (hp' := wd σ) rfl ?_
    refine AW_icmp_ge hT hK 43 (tgt := 78) rfl rfl (fun c12 => ?_) (fun c12 => ?_)
    · refine AW_g hT cl_X0 hK 48 7 (pc' := 89) (lo' := [some (.ref 12), some (.int d1), some (.int d2), some (.int d3), some (.int w4), some (.int w5), some (.int ((w6 - d2) &&& d2)), some (.int ((nI i) + 1)), some (.int (v9 ||| w6)), some (.int v11)]) (st' := []) (hp' := wd σ) rfl ?_
      refine AW_goto hT hK 55 (tgt := 34) rfl rfl ?_
      refine AW_msk [true, true, true, true, true, true, true, true, false, false] (lo' := [some (.ref 12), some (.int d1), some (.int d2), some (.int d3), some (.int w4), some (.int w5), some (.int ((w6 - d2) &&& d2)), some (.int ((nI i) + 1)), none, none]) rfl ?_
      refine AW_to (lo' := [some (.ref 12), some (.int d1), some (.int d2), some (.int d3), some (.int w4), some (.int w5), some (.int ((w6 - d2) &&& d2)), some (.int (nI (i + 1))), none, none]) (by rw [nI_1]) rfl rfl ?_
      subst h10; subst h8; skip
      exact ih (i + 1) _ _ _ (by omega) (fun s' hs' => kx s' ((congrArg (az_it _ n (i + 1)) (by simp only [b_X0_bestSplit_34, if_pos c12])).trans hs'))
    · refine AW_g hT cl_X0 hK 44 11 (pc' := 89) (lo' := [some (.ref 12), some (.int d1), some (.int d2), some (.int d3), some (.int (v9 ||| w6)), some (.int v11), some (.int ((w6 - d2) &&& d2)), some (.int ((nI i) + 1)), some (.int (v9 ||| w6)), some (.int v11)]) (st' := []) (hp' := wd σ) rfl ?_
      refine AW_goto hT hK 55 (tgt := 34) rfl rfl ?_
      refine AW_msk [true, true, true, true, true, true, true, true, false, false] (lo' := [some (.ref 12), some (.int d1), some (.int d2), some (.int d3), some (.int (v9 ||| w6)), some (.int v11), some (.int ((w6 - d2) &&& d2)), some (.int ((nI i) + 1)), none, none]) rfl ?_
      refine AW_to (lo' := [some (.ref 12), some (.int d1), some (.int d2), some (.int d3), some (.int (v9 ||| w6)), some (.int v11), some (.int ((w6 - d2) &&& d2)), some (.int (nI (i + 1))), none, none]) (by rw [nI_1]) rfl rfl ?_
      subst h10; subst h8; skip
      exact ih (i + 1) _ _ _ (by omega) (fun s' hs' => kx s' ((congrArg (az_it _ n (i + 1)) (by simp only [b_X0_bestSplit_34, if_neg c12])).trans hs'))
def x_X0_bestSplit (σ : az_S) (p0 : Int32) : Int32 :=
  let v2 := x_X0_membersOf σ p0
  let v4 := x_X5_setOf σ p0
  let v6 := x_J6_bitCount_0f7a4 σ (v2 &&& (v4 ^^^ (-1)))
  let s14 := az_it (fun ι s => b_X0_bestSplit_34 σ p0 (v2 &&& (v4 ^^^ (-1))) ((1 <<< (v6 &&& 31)) - 1) ι s.1 s.2.1 s.2.2) (((1 <<< (v6 &&& 31)) - 1).toNatClampNeg) 0 (0, 0, 0)
  s14.1
set_option maxRecDepth 100000 in
set_option maxHeartbeats 4000000 in
theorem m_X0_bestSplit (l0 : Launch) (σ : az_S) (p0 : Int32) : AMet l0 yX0_bestSplit cX0_bestSplit 10 (some .int) ({ frames := 3, cells := 0, slots := 0, locals := 72 } : Room) false [.ref 12, .int p0] (wd σ) (fun r h => r = some (.int (x_X0_bestSplit σ p0)) ∧ h = wd σ) := by
  refine AMet_of (by decide +kernel) (by simp [Value.category]) (Nat.le_of_ble_eq_true rfl) (fun K hK hct hG hE => ?_)
  have hT := tt_X0_bestSplit
  refine AW_g hT cl_X0 hK 0 2 (pc' := 2) (lo' := [some (.ref 12), some (.int p0), none, none, none, none, none, none, none, none]) (st' := [.int p0, .ref 12]) (hp' := wd σ) rfl ?_
  refine AW_callV hT hK 2 [.int p0] [] (m_X0_membersOf l0 σ p0) cw_X0_membersOf lk_X0_110 vi_X0_membersOf rfl rfl rfl rfl rfl rfl (Nat.le_of_ble_eq_true rfl) (Nat.le_of_ble_eq_true rfl) (AW_k1 (fun v2 h1 => ?_))
  refine AW_g hT cl_X0 hK 3 1 (pc' := 6) (lo' := [some (.ref 12), some (.int p0), none, none, none, none, none, none, none, none]) (st' := [.int p0, .int v2]) (hp' := wd σ) rfl ?_
  refine AW_callSN hT hK 4 [.int p0] [.int v2] (m_X5_setOf l0 σ p0) cw_X5_setOf lk_X0_102 sm_X5_setOf rfl rfl rfl rfl (Nat.le_of_ble_eq_true rfl) (Nat.le_of_ble_eq_true rfl) (AW_k1 (fun v4 h3 => ?_))
  refine AW_g hT cl_X0 hK 5 6 (pc' := 15) (lo' := [some (.ref 12), some (.int p0), some (.int (v2 &&& (v4 ^^^ (-1)))), none, none, none, none, none, none, none]) (st' := [.int (v2 &&& (v4 ^^^ (-1))), .int 1]) (hp' := wd σ) rfl ?_
  refine AW_callS hT hK 11 [.int (v2 &&& (v4 ^^^ (-1)))] [.int 1] (m_J6_bitCount_0f7a4 l0 σ (v2 &&& (v4 ^^^ (-1)))) cw_J6_bitCount_0f7a4 lk_X0_113 sm_J6_bitCount_0f7a4 rfl rfl rfl rfl (Nat.le_of_ble_eq_true rfl) (Nat.le_of_ble_eq_true rfl) (AW_k1 (fun v6 h5 => ?_))
  refine AW_g hT cl_X0 hK 12 12 (pc' := 34) (lo' := [some (.ref 12), some (.int p0), some (.int (v2 &&& (v4 ^^^ (-1)))), some (.int ((1 <<< (v6 &&& 31)) - 1)), some (.int 0), some (.int 0), some (.int 0), some (.int 0), none, none]) (st' := []) (hp' := wd σ) rfl ?_
  refine AW_to (lo' := [some (.ref 12), some (.int p0), some (.int (v2 &&& (v4 ^^^ (-1)))), some (.int ((1 <<< (v6 &&& 31)) - 1)), some (.int 0), some (.int 0), some (.int 0), some (.int (nI 0)), none, none]) (rfl) rfl rfl ?_
  refine lp_X0_bestSplit_34 hT hK σ p0 (v2 &&& (v4 ^^^ (-1))) ((1 <<< (v6 &&& 31)) - 1) (((1 <<< (v6 &&& 31)) - 1).toNatClampNeg) 0 0 0 0 (by first | rfl | omega) (fun s14 h15 => ?_)
  refine AW_g hT cl_X0 hK 56 1 (pc' := 94) (lo' := [some (.ref 12), some (.int p0), some (.int (v2 &&& (v4 ^^^ (-1)))), some (.int ((1 <<< (v6 &&& 31)) - 1)), some (.int s14.1), some (.int s14.2.1), some (.int s14.2.2), none, none, none]) (st' := [.int s14.1]) (hp' := wd σ) rfl ?_
  refine AW_iret hT hE 57 rfl rfl rfl (Nat.le_of_ble_eq_true rfl) (Nat.le_of_ble_eq_true rfl) ?_
  subst h15; subst h5; subst h3; subst h1; exact ⟨by simp only [x_X0_bestSplit], rfl⟩
def x_X2_set_19 (σ : az_S) (p0 : Int32) (p1 : Int32) : az_S :=
  if p0 < 0 then
    σ
  else
    if 12 ≤ p0 then
      σ
    else
      (sG σ 20 (va_up (σ.2.1 20) p0.toNatClampNeg p1))
set_option maxRecDepth 100000 in
set_option maxHeartbeats 4000000 in
theorem m_X2_set_19 (l0 : Launch) (σ : az_S) (p0 : Int32) (p1 : Int32) : AMet l0 yX2_set cX2_set 3 none ({ frames := 0, cells := 0, slots := 0, locals := 0 } : Room) false [.ref 19, .int p0, .int p1] (wd σ) (fun r h => r = none ∧ h = wd (x_X2_set_19 σ p0 p1)) := by
  refine AMet_of (by decide +kernel) (by simp [Value.category]) (Nat.le_of_ble_eq_true rfl) (fun K hK hct hG hE => ?_)
  have hT := tt_X2_set
  refine AW_g hT cl_X2 hK 0 1 (pc' := 1) (lo' := [some (.ref 19), some (.int p0), some (.int p1)]) (st' := [.int p0]) (hp' := wd σ) rfl ?_
  refine AW_if_lt hT hK 1 (tgt := 20) rfl rfl (fun c1 => ?_) (fun c1 => ?_)
  · refine AW_vret hT hE 12 rfl (Nat.le_of_ble_eq_true rfl) (Nat.le_of_ble_eq_true rfl) ?_
    exact ⟨rfl, congrArg wd (by simp only [x_X2_set_19, if_pos c1])⟩
  · refine AW_g hT cl_X2 hK 2 4 (pc' := 10) (lo' := [some (.ref 19), some (.int p0), some (.int p1)]) (st' := [.int 12, .int p0]) (hp' := wd σ) rfl ?_
    refine AW_icmp_ge hT hK 6 (tgt := 20) rfl rfl (fun c2 => ?_) (fun c2 => ?_)
    · refine AW_vret hT hE 12 rfl (Nat.le_of_ble_eq_true rfl) (Nat.le_of_ble_eq_true rfl) ?_
      exact ⟨rfl, congrArg wd (by simp only [x_X2_set_19, if_neg c1, if_pos c2])⟩
    · refine AW_g hT cl_X2 hK 7 4 (pc' := 19) (lo' := [some (.ref 19), some (.int p0), some (.int p1)]) (st' := [.int p1, .int p0, .ref 20]) (hp' := wd σ) rfl ?_
      refine AW_iastx hT hK 11 rfl (n := 12) (f := (σ.2.1 20)) rfl (az_in12 c1 c2) ?_
      refine AW_to (hp' := wd (sG σ 20 (va_up (σ.2.1 20) p0.toNatClampNeg p1))) rfl rfl rfl ?_
      refine AW_vret hT hE 12 rfl (Nat.le_of_ble_eq_true rfl) (Nat.le_of_ble_eq_true rfl) ?_
      exact ⟨rfl, congrArg wd (by simp only [x_X2_set_19, if_neg c1, if_neg c2])⟩
def x_X2_add_19 (σ : az_S) (p0 : Int32) (p1 : Int32) : az_S :=
  let v2 := x_X2_at_19 σ p0
  let τ4 := x_X2_set_19 σ p0 (v2 + p1)
  τ4
set_option maxRecDepth 100000 in
set_option maxHeartbeats 4000000 in
theorem m_X2_add_19 (l0 : Launch) (σ : az_S) (p0 : Int32) (p1 : Int32) : AMet l0 yX2_add cX2_add 3 none ({ frames := 1, cells := 0, slots := 0, locals := 22 } : Room) false [.ref 19, .int p0, .int p1] (wd σ) (fun r h => r = none ∧ h = wd (x_X2_add_19 σ p0 p1)) := by
  refine AMet_of (by decide +kernel) (by simp [Value.category]) (Nat.le_of_ble_eq_true rfl) (fun K hK hct hG hE => ?_)
  have hT := tt_X2_add
  refine AW_g hT cl_X2 hK 0 4 (pc' := 4) (lo' := [some (.ref 19), some (.int p0), some (.int p1)]) (st' := [.int p0, .ref 19, .int p0, .ref 19]) (hp' := wd σ) rfl ?_
  refine AW_callV hT hK 4 [.int p0] [.int p0, .ref 19] (m_X2_at_19 l0 σ p0) cw_X2_at lk_X2_15 vi_X2_at rfl rfl rfl rfl rfl rfl (Nat.le_of_ble_eq_true rfl) (Nat.le_of_ble_eq_true rfl) (AW_k1 (fun v2 h1 => ?_))
  refine AW_g hT cl_X2 hK 5 2 (pc' := 9) (lo' := [some (.ref 19), some (.int p0), some (.int p1)]) (st' := [.int (v2 + p1), .int p0, .ref 19]) (hp' := wd σ) rfl ?_
  refine AW_callV hT hK 7 [.int p0, .int (v2 + p1)] [] (m_X2_set_19 l0 σ p0 (v2 + p1)) cw_X2_set lk_X2_19 vi_X2_set rfl rfl rfl rfl rfl rfl (Nat.le_of_ble_eq_true rfl) (Nat.le_of_ble_eq_true rfl) (AW_kv (fun τ4 h3 => ?_))
  refine AW_vret hT hE 8 rfl (Nat.le_of_ble_eq_true rfl) (Nat.le_of_ble_eq_true rfl) ?_
  subst h3; subst h1; exact ⟨rfl, congrArg wd (by simp only [x_X2_add_19])⟩
def x_X4_setOneWay_23 (σ : az_S) (p0 : Int32) (p1 : Int32) (p2 : Int32) : az_S :=
  if p0 < 0 then
    σ
  else
    if 12 ≤ p0 then
      σ
    else
      if p1 < 0 then
        σ
      else
        if 12 ≤ p1 then
          σ
        else
          if ((p0 * 12) + p1) < 0 then
            σ
          else
            if 144 ≤ ((p0 * 12) + p1) then
              σ
            else
              (sG σ 24 (va_up (σ.2.1 24) ((p0 * 12) + p1).toNatClampNeg p2))
set_option maxRecDepth 100000 in
set_option maxHeartbeats 4000000 in
theorem m_X4_setOneWay_23 (l0 : Launch) (σ : az_S) (p0 : Int32) (p1 : Int32) (p2 : Int32) : AMet l0 yX4_setOneWay cX4_setOneWay 6 none ({ frames := 0, cells := 0, slots := 0, locals := 0 } : Room) false [.ref 23, .int p0, .int p1, .int p2] (wd σ) (fun r h => r = none ∧ h = wd (x_X4_setOneWay_23 σ p0 p1 p2)) := by
  refine AMet_of (by decide +kernel) (by simp [Value.category]) (Nat.le_of_ble_eq_true rfl) (fun K hK hct hG hE => ?_)
  have hT := tt_X4_setOneWay
  refine AW_g hT cl_X4 hK 0 7 (pc' := 9) (lo' := [some (.ref 23), some (.int p0), some (.int p1), some (.int p2), some (.int ((p0 * 12) + p1)), none]) (st' := [.int p0]) (hp' := wd σ) rfl ?_
  refine AW_if_lt hT hK 7 (tgt := 32) rfl rfl (fun c1 => ?_) (fun c1 => ?_)
  · refine AW_g hT cl_X4 hK 18 3 (pc' := 37) (lo' := [some (.ref 23), some (.int p0), some (.int p1), some (.int p2), some (.int ((p0 * 12) + p1)), some (.int 0)]) (st' := [.int 0]) (hp' := wd σ) rfl ?_
    refine AW_if_eq hT hK 21 (tgt := 63) rfl rfl (fun _ => ?_) (fun c2 => absurd (by decide) c2)
    refine AW_vret hT hE 34 rfl (Nat.le_of_ble_eq_true rfl) (Nat.le_of_ble_eq_true rfl) ?_
    exact ⟨rfl, congrArg wd (by simp only [x_X4_setOneWay_23, if_pos c1])⟩
  · refine AW_g hT cl_X4 hK 8 2 (pc' := 15) (lo' := [some (.ref 23), some (.int p0), some (.int p1), some (.int p2), some (.int ((p0 * 12) + p1)), none]) (st' := [.int 12, .int p0]) (hp' := wd σ) rfl ?_
    refine AW_icmp_ge hT hK 10 (tgt := 32) rfl rfl (fun c3 => ?_) (fun c3 => ?_)
    · refine AW_g hT cl_X4 hK 18 3 (pc' := 37) (lo' := [some (.ref 23), some (.int p0), some (.int p1), some (.int p2), some (.int ((p0 * 12) + p1)), some (.int 0)]) (st' := [.int 0]) (hp' := wd σ) rfl ?_
      refine AW_if_eq hT hK 21 (tgt := 63) rfl rfl (fun _ => ?_) (fun c4 => absurd (by decide) c4)
      refine AW_vret hT hE 34 rfl (Nat.le_of_ble_eq_true rfl) (Nat.le_of_ble_eq_true rfl) ?_
      exact ⟨rfl, congrArg wd (by simp only [x_X4_setOneWay_23, if_neg c1, if_pos c3])⟩
    · refine AW_g hT cl_X4 hK 11 1 (pc' := 19) (lo' := [some (.ref 23), some (.int p0), some (.int p1), some (.int p2), some (.int ((p0 * 12) + p1)), none]) (st' := [.int p1]) (hp' := wd σ) rfl ?_
      refine AW_if_lt hT hK 12 (tgt := 32) rfl rfl (fun c5 => ?_) (fun c5 => ?_)
      · refine AW_g hT cl_X4 hK 18 3 (pc' := 37) (lo' := [some (.ref 23), some (.int p0), some (.int p1), some (.int p2), some (.int ((p0 * 12) + p1)), some (.int 0)]) (st' := [.int 0]) (hp' := wd σ) rfl ?_
        refine AW_if_eq hT hK 21 (tgt := 63) rfl rfl (fun _ => ?_) (fun c6 => absurd (by decide) c6)
        refine AW_vret hT hE 34 rfl (Nat.le_of_ble_eq_true rfl) (Nat.le_of_ble_eq_true rfl) ?_
        exact ⟨rfl, congrArg wd (by simp only [x_X4_setOneWay_23, if_neg c1, if_neg c3, if_pos c5])⟩
      · refine AW_g hT cl_X4 hK 13 2 (pc' := 25) (lo' := [some (.ref 23), some (.int p0), some (.int p1), some (.int p2), some (.int ((p0 * 12) + p1)), none]) (st' := [.int 12, .int p1]) (hp' := wd σ) rfl ?_
        refine AW_icmp_ge hT hK 15 (tgt := 32) rfl rfl (fun c7 => ?_) (fun c7 => ?_)
        · refine AW_g hT cl_X4 hK 18 3 (pc' := 37) (lo' := [some (.ref 23), some (.int p0), some (.int p1), some (.int p2), some (.int ((p0 * 12) + p1)), some (.int 0)]) (st' := [.int 0]) (hp' := wd σ) rfl ?_
          refine AW_if_eq hT hK 21 (tgt := 63) rfl rfl (fun _ => ?_) (fun c8 => absurd (by decide) c8)
          refine AW_vret hT hE 34 rfl (Nat.le_of_ble_eq_true rfl) (Nat.le_of_ble_eq_true rfl) ?_
          exact ⟨rfl, congrArg wd (by simp only [x_X4_setOneWay_23, if_neg c1, if_neg c3, if_neg c5, if_pos c7])⟩
        · refine AW_g hT cl_X4 hK 16 1 (pc' := 29) (lo' := [some (.ref 23), some (.int p0), some (.int p1), some (.int p2), some (.int ((p0 * 12) + p1)), none]) (st' := [.int 1]) (hp' := wd σ) rfl ?_
          refine AW_goto hT hK 17 (tgt := 33) rfl rfl ?_
          refine AW_g hT cl_X4 hK 19 2 (pc' := 37) (lo' := [some (.ref 23), some (.int p0), some (.int p1), some (.int p2), some (.int ((p0 * 12) + p1)), some (.int 1)]) (st' := [.int 1]) (hp' := wd σ) rfl ?_
          refine AW_if_eq hT hK 21 (tgt := 63) rfl rfl (fun c9 => absurd c9 (by decide)) (fun _ => ?_)
          refine AW_g hT cl_X4 hK 22 1 (pc' := 42) (lo' := [some (.ref 23), some (.int p0), some (.int p1), some (.int p2), some (.int ((p0 * 12) + p1)), some (.int 1)]) (st' := [.int ((p0 * 12) + p1)]) (hp' := wd σ) rfl ?_
          refine AW_if_lt hT hK 23 (tgt := 63) rfl rfl (fun c10 => ?_) (fun c10 => ?_)
          · refine AW_vret hT hE 34 rfl (Nat.le_of_ble_eq_true rfl) (Nat.le_of_ble_eq_true rfl) ?_
            exact ⟨rfl, congrArg wd (by simp only [x_X4_setOneWay_23, if_neg c1, if_neg c3, if_neg c5, if_neg c7, if_pos c10])⟩
          · refine AW_g hT cl_X4 hK 24 4 (pc' := 52) (lo' := [some (.ref 23), some (.int p0), some (.int p1), some (.int p2), some (.int ((p0 * 12) + p1)), some (.int 1)]) (st' := [.int 144, .int ((p0 * 12) + p1)]) (hp' := wd σ) rfl ?_
            refine AW_icmp_ge hT hK 28 (tgt := 63) rfl rfl (fun c11 => ?_) (fun c11 => ?_)
            · refine AW_vret hT hE 34 rfl (Nat.le_of_ble_eq_true rfl) (Nat.le_of_ble_eq_true rfl) ?_
              exact ⟨rfl, congrArg wd (by simp only [x_X4_setOneWay_23, if_neg c1, if_neg c3, if_neg c5, if_neg c7, if_neg c10, if_pos c11])⟩
            · refine AW_g hT cl_X4 hK 29 4 (pc' := 62) (lo' := [some (.ref 23), some (.int p0), some (.int p1), some (.int p2), some (.int ((p0 * 12) + p1)), some (.int 1)]) (st' := [.int p2, .int ((p0 * 12) + p1), .ref 24]) (hp' := wd σ) rfl ?_
              refine AW_iastx hT hK 33 rfl (n := 144) (f := (σ.2.1 24)) rfl (az_in144 c10 c11) ?_
              refine AW_to (hp' := wd (sG σ 24 (va_up (σ.2.1 24) ((p0 * 12) + p1).toNatClampNeg p2))) rfl rfl rfl ?_
              refine AW_vret hT hE 34 rfl (Nat.le_of_ble_eq_true rfl) (Nat.le_of_ble_eq_true rfl) ?_
              exact ⟨rfl, congrArg wd (by simp only [x_X4_setOneWay_23, if_neg c1, if_neg c3, if_neg c5, if_neg c7, if_neg c10, if_neg c11])⟩
def x_X4_add_23 (σ : az_S) (p0 : Int32) (p1 : Int32) (p2 : Int32) : az_S :=
  let v2 := x_X4_at_23 σ p0 p1
  let τ4 := x_X4_setOneWay_23 σ p0 p1 (v2 + p2)
  let τ6 := x_X4_setOneWay_23 (τ4) p1 p0 (v2 + p2)
  τ6
set_option maxRecDepth 100000 in
set_option maxHeartbeats 4000000 in
theorem m_X4_add_23 (l0 : Launch) (σ : az_S) (p0 : Int32) (p1 : Int32) (p2 : Int32) : AMet l0 yX4_add cX4_add 5 none ({ frames := 1, cells := 0, slots := 0, locals := 25 } : Room) false [.ref 23, .int p0, .int p1, .int p2] (wd σ) (fun r h => r = none ∧ h = wd (x_X4_add_23 σ p0 p1 p2)) := by
  refine AMet_of (by decide +kernel) (by simp [Value.category]) (Nat.le_of_ble_eq_true rfl) (fun K hK hct hG hE => ?_)
  have hT := tt_X4_add
  refine AW_g hT cl_X4 hK 0 3 (pc' := 3) (lo' := [some (.ref 23), some (.int p0), some (.int p1), some (.int p2), none]) (st' := [.int p1, .int p0, .ref 23]) (hp' := wd σ) rfl ?_
  refine AW_callV hT hK 3 [.int p0, .int p1] [] (m_X4_at_23 l0 σ p0 p1) cw_X4_at lk_X4_19 vi_X4_at rfl rfl rfl rfl rfl rfl (Nat.le_of_ble_eq_true rfl) (Nat.le_of_ble_eq_true rfl) (AW_k1 (fun v2 h1 => ?_))
  refine AW_g hT cl_X4 hK 4 7 (pc' := 15) (lo' := [some (.ref 23), some (.int p0), some (.int p1), some (.int p2), some (.int (v2 + p2))]) (st' := [.int (v2 + p2), .int p1, .int p0, .ref 23]) (hp' := wd σ) rfl ?_
  refine AW_callV hT hK 11 [.int p0, .int p1, .int (v2 + p2)] [] (m_X4_setOneWay_23 l0 σ p0 p1 (v2 + p2)) cw_X4_setOneWay lk_X4_15 vi_X4_setOneWay rfl rfl rfl rfl rfl rfl (Nat.le_of_ble_eq_true rfl) (Nat.le_of_ble_eq_true rfl) (AW_kv (fun τ4 h3 => ?_))
  refine AW_g hT cl_X4 hK 12 4 (pc' := 23) (lo' := [some (.ref 23), some (.int p0), some (.int p1), some (.int p2), some (.int (v2 + p2))]) (st' := [.int (v2 + p2), .int p0, .int p1, .ref 23]) (hp' := wd (τ4)) rfl ?_
  refine AW_callV hT hK 16 [.int p1, .int p0, .int (v2 + p2)] [] (m_X4_setOneWay_23 l0 (τ4) p1 p0 (v2 + p2)) cw_X4_setOneWay lk_X4_15 vi_X4_setOneWay rfl rfl rfl rfl rfl rfl (Nat.le_of_ble_eq_true rfl) (Nat.le_of_ble_eq_true rfl) (AW_kv (fun τ6 h5 => ?_))
  refine AW_vret hT hE 17 rfl (Nat.le_of_ble_eq_true rfl) (Nat.le_of_ble_eq_true rfl) ?_
  subst h5; subst h3; subst h1; exact ⟨rfl, congrArg wd (by simp only [x_X4_add_23])⟩
def x_X2_set_13 (σ : az_S) (p0 : Int32) (p1 : Int32) : az_S :=
  if p0 < 0 then
    σ
  else
    if 12 ≤ p0 then
      σ
    else
      (sG σ 14 (va_up (σ.2.1 14) p0.toNatClampNeg p1))
set_option maxRecDepth 100000 in
set_option maxHeartbeats 4000000 in
theorem m_X2_set_13 (l0 : Launch) (σ : az_S) (p0 : Int32) (p1 : Int32) : AMet l0 yX2_set cX2_set 3 none ({ frames := 0, cells := 0, slots := 0, locals := 0 } : Room) false [.ref 13, .int p0, .int p1] (wd σ) (fun r h => r = none ∧ h = wd (x_X2_set_13 σ p0 p1)) := by
  refine AMet_of (by decide +kernel) (by simp [Value.category]) (Nat.le_of_ble_eq_true rfl) (fun K hK hct hG hE => ?_)
  have hT := tt_X2_set
  refine AW_g hT cl_X2 hK 0 1 (pc' := 1) (lo' := [some (.ref 13), some (.int p0), some (.int p1)]) (st' := [.int p0]) (hp' := wd σ) rfl ?_
  refine AW_if_lt hT hK 1 (tgt := 20) rfl rfl (fun c1 => ?_) (fun c1 => ?_)
  · refine AW_vret hT hE 12 rfl (Nat.le_of_ble_eq_true rfl) (Nat.le_of_ble_eq_true rfl) ?_
    exact ⟨rfl, congrArg wd (by simp only [x_X2_set_13, if_pos c1])⟩
  · refine AW_g hT cl_X2 hK 2 4 (pc' := 10) (lo' := [some (.ref 13), some (.int p0), some (.int p1)]) (st' := [.int 12, .int p0]) (hp' := wd σ) rfl ?_
    refine AW_icmp_ge hT hK 6 (tgt := 20) rfl rfl (fun c2 => ?_) (fun c2 => ?_)
    · refine AW_vret hT hE 12 rfl (Nat.le_of_ble_eq_true rfl) (Nat.le_of_ble_eq_true rfl) ?_
      exact ⟨rfl, congrArg wd (by simp only [x_X2_set_13, if_neg c1, if_pos c2])⟩
    · refine AW_g hT cl_X2 hK 7 4 (pc' := 19) (lo' := [some (.ref 13), some (.int p0), some (.int p1)]) (st' := [.int p1, .int p0, .ref 14]) (hp' := wd σ) rfl ?_
      refine AW_iastx hT hK 11 rfl (n := 12) (f := (σ.2.1 14)) rfl (az_in12 c1 c2) ?_
      refine AW_to (hp' := wd (sG σ 14 (va_up (σ.2.1 14) p0.toNatClampNeg p1))) rfl rfl rfl ?_
      refine AW_vret hT hE 12 rfl (Nat.le_of_ble_eq_true rfl) (Nat.le_of_ble_eq_true rfl) ?_
      exact ⟨rfl, congrArg wd (by simp only [x_X2_set_13, if_neg c1, if_neg c2])⟩
def b_X0_join_33 (d1 : Int32) (d2 : Int32) (i : Nat) (σ : az_S) : az_S :=
  let v11 := x_X2_at_13 σ (nI i)
  if v11 = d2 then
    let τ22 := x_X2_set_13 σ (nI i) d1
    let v24 := x_X0_isGroup (τ22) (nI i)
    if v24 = 0 then
      (τ22)
    else
      if (nI i) = d1 then
        (τ22)
      else
        let v28 := x_X4_at_23 (τ22) d2 (nI i)
        let τ30 := x_X4_add_23 (τ22) d1 (nI i) v28
        (τ30)
  else
    let v14 := x_X0_isGroup σ (nI i)
    if v14 = 0 then
      σ
    else
      if (nI i) = d1 then
        σ
      else
        let v18 := x_X4_at_23 σ d2 (nI i)
        let τ20 := x_X4_add_23 σ d1 (nI i) v18
        (τ20)
set_option maxRecDepth 100000 in
set_option maxHeartbeats 4000000 in
theorem lp_X0_join_33 {K : az_K} {l0 : Launch} (hT : az_Tb cX0_join tb_X0_join) (hK : az_OK K RX0 cX0_join ({ frames := 2, cells := 0, slots := 0, locals := 49 } : Room) l0) (d1 : Int32) (d2 : Int32) :
    ∀ (n i : Nat) (σ : az_S) (hi : i + n = 12) (kx : ∀ s' : az_S, az_it (fun ι s => b_X0_join_33 d1 d2 ι s) n i σ = s' → AW K 0 0 97 [some (.ref 12), some (.int d1), some (.int d2), none] [] (wd s')), AW K 0 0 33 [some (.ref 12), some (.int d1), some (.int d2), some (.int (nI i))] [] (wd σ) := by
  intro n
  induction n with
  | zero =>
    intro i σ hi kx
    refine AW_g hT cl_X0 hK 19 2 (pc' := 36) (lo' := [some (.ref 12), some (.int d1), some (.int d2), some (.int (nI i))]) (st' := [.int 12, .int (nI i)]) (hp' := wd σ) rfl ?_
    refine AW_icmp_ge hT hK 21 (tgt := 97) rfl rfl (fun c31 => ?_) (fun c31 => absurd (az_c0 hi) c31)
    refine AW_msk [true, true, true, false] (lo' := [some (.ref 12), some (.int d1), some (.int d2), none]) rfl ?_
    exact kx σ rfl
  | succ n ih =>
    intro i σ hi kx
    refine AW_g hT cl_X0 hK 19 2 (pc' := 36) (lo' := [some (.ref 12), some (.int d1), some (.int d2), some (.int (nI i))]) (st' := [.int 12, .int (nI i)]) (hp' := wd σ) rfl ?_
    refine AW_icmp_ge hT hK 21 (tgt := 97) rfl rfl (fun c9 => absurd c9 (az_c1 hi)) (fun c9 => ?_)
    refine AW_g hT cl_X0 hK 22 3 (pc' := 44) (lo' := [some (.ref 12), some (.int d1), some (.int d2), some (.int (nI i))]) (st' := [.int (nI i), .ref 13]) (hp' := wd σ) rfl ?_
    refine AW_callV hT hK 25 [.int (nI i)] [] (m_X2_at_13 l0 σ (nI i)) cw_X2_at lk_X0_44 vi_X2_at rfl rfl rfl rfl rfl rfl (Nat.le_of_ble_eq_true rfl) (Nat.le_of_ble_eq_true rfl) (AW_k1 (fun v11 h10 => ?_))
    refine AW_g hT cl_X0 hK 26 1 (pc' := 48) (lo' := [some (.ref 12), some (.int d1), some (.int d2), some (.int (nI i))]) (st' := [.int d2, .int v11]) (hp' := wd σ) rfl ?_
    refine AW_icmp_ne hT hK 27 (tgt := 60) rfl rfl (fun c12 => ?_) (fun c12 => ?_)
    · refine AW_g hT cl_X0 hK 33 2 (pc' := 62) (lo' := [some (.ref 12), some (.int d1), some (.int d2), some (.int (nI i))]) (st' := [.int (nI i), .ref 12]) (hp' := wd σ) rfl ?_
      refine AW_callV hT hK 35 [.int (nI i)] [] (m_X0_isGroup l0 σ (nI i)) cw_X0_isGroup lk_X0_67 vi_X0_isGroup rfl rfl rfl rfl rfl rfl (Nat.le_of_ble_eq_true rfl) (Nat.le_of_ble_eq_true rfl) (AW_k1 (fun v14 h13 => ?_))
      refine AW_if_eq hT hK 36 (tgt := 91) rfl rfl (fun c15 => ?_) (fun c15 => ?_)
      · refine AW_g hT cl_X0 hK 50 1 (pc' := 94) (lo' := [some (.ref 12), some (.int d1), some (.int d2), some (.int ((nI i) + 1))]) (st' := []) (hp' := wd σ) rfl ?_
        refine AW_goto hT hK 51 (tgt := 33) rfl rfl ?_
        refine AW_to (lo' := [some (.ref 12), some (.int d1), some (.int d2), some (.int (nI (i + 1)))]) (by rw [nI_1]) rfl rfl ?_
        subst h13; subst h10; skip
        exact ih (i + 1) _ (by omega) (fun s' hs' => kx s' ((congrArg (az_it _ n (i + 1)) (by simp only [b_X0_join_33, if_neg c12, if_pos c15])).trans hs'))
      · refine AW_g hT cl_X0 hK 37 2 (pc' := 70) (lo' := [some (.ref 12), some (.int d1), some (.int d2), some (.int (nI i))]) (st' := [.int d1, .int (nI i)]) (hp' := wd σ) rfl ?_
        refine AW_icmp_eq hT hK 39 (tgt := 91) rfl rfl (fun c16 => ?_) (fun c16 => ?_)
        · refine AW_g hT cl_X0 hK 50 1 (pc' := 94) (lo' := [some (.ref 12), some (.int d1), some (.int d2), some (.int ((nI i) + 1))]) (st' := []) (hp' := wd σ) rfl ?_
          refine AW_goto hT hK 51 (tgt := 33) rfl rfl ?_
          refine AW_to (lo' := [some (.ref 12), some (.int d1), some (.int d2), some (.int (nI (i + 1)))]) (by rw [nI_1]) rfl rfl ?_
          subst h13; subst h10; skip
          exact ih (i + 1) _ (by omega) (fun s' hs' => kx s' ((congrArg (az_it _ n (i + 1)) (by simp only [b_X0_join_33, if_neg c12, if_neg c15, if_pos c16])).trans hs'))
        · refine AW_g hT cl_X0 hK 40 8 (pc' := 85) (lo' := [some (.ref 12), some (.int d1), some (.int d2), some (.int (nI i))]) (st' := [.int (nI i), .int d2, .ref 23, .int (nI i), .int d1, .ref 23]) (hp' := wd σ) rfl ?_
          refine AW_callV hT hK 48 [.int d2, .int (nI i)] [.int (nI i), .int d1, .ref 23] (m_X4_at_23 l0 σ d2 (nI i)) cw_X4_at lk_X0_52 vi_X4_at rfl rfl rfl rfl rfl rfl (Nat.le_of_ble_eq_true rfl) (Nat.le_of_ble_eq_true rfl) (AW_k1 (fun v18 h17 => ?_))
          refine AW_callV hT hK 49 [.int d1, .int (nI i), .int v18] [] (m_X4_add_23 l0 σ d1 (nI i) v18) cw_X4_add lk_X0_108 vi_X4_add rfl rfl rfl rfl rfl rfl (Nat.le_of_ble_eq_true rfl) (Nat.le_of_ble_eq_true rfl) (AW_kv (fun τ20 h19 => ?_))
          refine AW_g hT cl_X0 hK 50 1 (pc' := 94) (lo' := [some (.ref 12), some (.int d1), some (.int d2), some (.int ((nI i) + 1))]) (st' := []) (hp' := wd (τ20)) rfl ?_
          refine AW_goto hT hK 51 (tgt := 33) rfl rfl ?_
          refine AW_to (lo' := [some (.ref 12), some (.int d1), some (.int d2), some (.int (nI (i + 1)))]) (by rw [nI_1]) rfl rfl ?_
          subst h19; subst h17; subst h13; subst h10; skip
          exact ih (i + 1) _ (by omega) (fun s' hs' => kx s' ((congrArg (az_it _ n (i + 1)) (by simp only [b_X0_join_33, if_neg c12, if_neg c15, if_neg c16])).trans hs'))
    · refine AW_g hT cl_X0 hK 28 4 (pc' := 57) (lo' := [some (.ref 12), some (.int d1), some (.int d2), some (.int (nI i))]) (st' := [.int d1, .int (nI i), .ref 13]) (hp' := wd σ) rfl ?_
      refine AW_callV hT hK 32 [.int (nI i), .int d1] [] (m_X2_set_13 l0 σ (nI i) d1) cw_X2_set lk_X0_74 vi_X2_set rfl rfl rfl rfl rfl rfl (Nat.le_of_ble_eq_true rfl) (Nat.le_of_ble_eq_true rfl) (AW_kv (fun τ22 h21 => ?_))
      refine AW_g hT cl_X0 hK 33 2 (pc' := 62) (lo' := [some (.ref 12), some (.int d1), some (.int d2), some (.int (nI i))]) (st' := [.int (nI i), .ref 12]) (hp' := wd (τ22)) rfl ?_
      refine AW_callV hT hK 35 [.int (nI i)] [] (m_X0_isGroup l0 (τ22) (nI i)) cw_X0_isGroup lk_X0_67 vi_X0_isGroup rfl rfl rfl rfl rfl rfl (Nat.le_of_ble_eq_true rfl) (Nat.le_of_ble_eq_true rfl) (AW_k1 (fun v24 h23 => ?_))
      refine AW_if_eq hT hK 36 (tgt := 91) rfl rfl (fun c25 => ?_) (fun c25 => ?_)
      · refine AW_g hT cl_X0 hK 50 1 (pc' := 94) (lo' := [some (.ref 12), some (.int d1), some (.int d2), some (.int ((nI i) + 1))]) (st' := []) (hp' := wd (τ22)) rfl ?_
        refine AW_goto hT hK 51 (tgt := 33) rfl rfl ?_
        refine AW_to (lo' := [some (.ref 12), some (.int d1), some (.int d2), some (.int (nI (i + 1)))]) (by rw [nI_1]) rfl rfl ?_
        subst h23; subst h21; subst h10; skip
        exact ih (i + 1) _ (by omega) (fun s' hs' => kx s' ((congrArg (az_it _ n (i + 1)) (by simp only [b_X0_join_33, if_pos c12, if_pos c25])).trans hs'))
      · refine AW_g hT cl_X0 hK 37 2 (pc' := 70) (lo' := [some (.ref 12), some (.int d1), some (.int d2), some (.int (nI i))]) (st' := [.int d1, .int (nI i)]) (hp' := wd (τ22)) rfl ?_
        refine AW_icmp_eq hT hK 39 (tgt := 91) rfl rfl (fun c26 => ?_) (fun c26 => ?_)
        · refine AW_g hT cl_X0 hK 50 1 (pc' := 94) (lo' := [some (.ref 12), some (.int d1), some (.int d2), some (.int ((nI i) + 1))]) (st' := []) (hp' := wd (τ22)) rfl ?_
          refine AW_goto hT hK 51 (tgt := 33) rfl rfl ?_
          refine AW_to (lo' := [some (.ref 12), some (.int d1), some (.int d2), some (.int (nI (i + 1)))]) (by rw [nI_1]) rfl rfl ?_
          subst h23; subst h21; subst h10; skip
          exact ih (i + 1) _ (by omega) (fun s' hs' => kx s' ((congrArg (az_it _ n (i + 1)) (by simp only [b_X0_join_33, if_pos c12, if_neg c25, if_pos c26])).trans hs'))
        · refine AW_g hT cl_X0 hK 40 8 (pc' := 85) (lo' := [some (.ref 12), some (.int d1), some (.int d2), some (.int (nI i))]) (st' := [.int (nI i), .int d2, .ref 23, .int (nI i), .int d1, .ref 23]) (hp' := wd (τ22)) rfl ?_
          refine AW_callV hT hK 48 [.int d2, .int (nI i)] [.int (nI i), .int d1, .ref 23] (m_X4_at_23 l0 (τ22) d2 (nI i)) cw_X4_at lk_X0_52 vi_X4_at rfl rfl rfl rfl rfl rfl (Nat.le_of_ble_eq_true rfl) (Nat.le_of_ble_eq_true rfl) (AW_k1 (fun v28 h27 => ?_))
          refine AW_callV hT hK 49 [.int d1, .int (nI i), .int v28] [] (m_X4_add_23 l0 (τ22) d1 (nI i) v28) cw_X4_add lk_X0_108 vi_X4_add rfl rfl rfl rfl rfl rfl (Nat.le_of_ble_eq_true rfl) (Nat.le_of_ble_eq_true rfl) (AW_kv (fun τ30 h29 => ?_))
          refine AW_g hT cl_X0 hK 50 1 (pc' := 94) (lo' := [some (.ref 12), some (.int d1), some (.int d2), some (.int ((nI i) + 1))]) (st' := []) (hp' := wd (τ30)) rfl ?_
          refine AW_goto hT hK 51 (tgt := 33) rfl rfl ?_
          refine AW_to (lo' := [some (.ref 12), some (.int d1), some (.int d2), some (.int (nI (i + 1)))]) (by rw [nI_1]) rfl rfl ?_
          subst h29; subst h27; subst h23; subst h21; subst h10; skip
          exact ih (i + 1) _ (by omega) (fun s' hs' => kx s' ((congrArg (az_it _ n (i + 1)) (by simp only [b_X0_join_33, if_pos c12, if_neg c25, if_neg c26])).trans hs'))
def x_X0_join (σ : az_S) (p0 : Int32) (p1 : Int32) : az_S :=
  let v2 := x_X5_setOf σ p1
  let u3 := ((σ.1 3) &&& (v2 ^^^ (-1)))
  let v6 := x_X2_at_19 (sF σ 3 u3) p1
  let τ8 := x_X2_add_19 (sF σ 3 u3) p0 v6
  let s32 := az_it (fun ι s => b_X0_join_33 p0 p1 ι s) 12 0 (τ8)
  s32
set_option maxRecDepth 100000 in
set_option maxHeartbeats 4000000 in
theorem m_X0_join (l0 : Launch) (σ : az_S) (p0 : Int32) (p1 : Int32) : AMet l0 yX0_join cX0_join 4 none ({ frames := 2, cells := 0, slots := 0, locals := 49 } : Room) false [.ref 12, .int p0, .int p1] (wd σ) (fun r h => r = none ∧ h = wd (x_X0_join σ p0 p1)) := by
  refine AMet_of (by decide +kernel) (by simp [Value.category]) (Nat.le_of_ble_eq_true rfl) (fun K hK hct hG hE => ?_)
  have hT := tt_X0_join
  refine AW_g hT cl_X0 hK 0 4 (pc' := 6) (lo' := [some (.ref 12), some (.int p0), some (.int p1), none]) (st' := [.int p1, .int (σ.1 3), .ref 12]) (hp' := wd σ) rfl ?_
  refine AW_callSN hT hK 4 [.int p1] [.int (σ.1 3), .ref 12] (m_X5_setOf l0 σ p1) cw_X5_setOf lk_X0_102 sm_X5_setOf rfl rfl rfl rfl (Nat.le_of_ble_eq_true rfl) (Nat.le_of_ble_eq_true rfl) (AW_k1 (fun v2 h1 => ?_))
  refine AW_g hT cl_X0 hK 5 3 (pc' := 12) (lo' := [some (.ref 12), some (.int p0), some (.int p1), none]) (st' := [.int ((σ.1 3) &&& (v2 ^^^ (-1))), .ref 12]) (hp' := wd σ) rfl ?_
  refine AW_topi (fun u3 h4 => ?_)
  refine AW_g hT cl_X0 hK 8 7 (pc' := 25) (lo' := [some (.ref 12), some (.int p0), some (.int p1), none]) (st' := [.int p1, .ref 19, .int p0, .ref 19]) (hp' := wd (sF σ 3 u3)) rfl ?_
  refine AW_callV hT hK 15 [.int p1] [.int p0, .ref 19] (m_X2_at_19 l0 (sF σ 3 u3) p1) cw_X2_at lk_X0_44 vi_X2_at rfl rfl rfl rfl rfl rfl (Nat.le_of_ble_eq_true rfl) (Nat.le_of_ble_eq_true rfl) (AW_k1 (fun v6 h5 => ?_))
  refine AW_callV hT hK 16 [.int p0, .int v6] [] (m_X2_add_19 l0 (sF σ 3 u3) p0 v6) cw_X2_add lk_X0_105 vi_X2_add rfl rfl rfl rfl rfl rfl (Nat.le_of_ble_eq_true rfl) (Nat.le_of_ble_eq_true rfl) (AW_kv (fun τ8 h7 => ?_))
  refine AW_g hT cl_X0 hK 17 2 (pc' := 33) (lo' := [some (.ref 12), some (.int p0), some (.int p1), some (.int 0)]) (st' := []) (hp' := wd (τ8)) rfl ?_
  refine AW_to (lo' := [some (.ref 12), some (.int p0), some (.int p1), some (.int (nI 0))]) (rfl) rfl rfl ?_
  refine lp_X0_join_33 hT hK p0 p1 12 0 (τ8) (by first | rfl | omega) (fun s32 h33 => ?_)
  refine AW_vret hT hE 52 rfl (Nat.le_of_ble_eq_true rfl) (Nat.le_of_ble_eq_true rfl) ?_
  subst h33; subst h7; subst h5; subst h4; subst h1; exact ⟨rfl, congrArg wd (by simp only [x_X0_join])⟩
def b_X0_joinGreatest_22 (σ : az_S) (d4 : Nat) (i : Nat) (w1 : Int32) (w2 : Int32) (w3 : Int32) : Int32 × Int32 × Int32 :=
  let v4 := x_X0_isGroup σ (nI d4)
  if v4 = 0 then
    (w1, w2, w3)
  else
    let v7 := x_X0_isGroup σ (nI i)
    if v7 = 0 then
      (w1, w2, w3)
    else
      let v10 := x_X0_gainOfJoining σ (nI d4) (nI i)
      if v10 ≤ w1 then
        (w1, w2, w3)
      else
        let v13 := x_X0_gainOfJoining σ (nI d4) (nI i)
        (v13, (nI d4), (nI i))
set_option maxRecDepth 100000 in
set_option maxHeartbeats 4000000 in
theorem lp_X0_joinGreatest_22 {K : az_K} {l0 : Launch} (hT : az_Tb cX0_joinGreatest tb_X0_joinGreatest) (hK : az_OK K RX0 cX0_joinGreatest ({ frames := 3, cells := 0, slots := 0, locals := 72 } : Room) l0) (σ : az_S) (d4 : Nat) (hd4 : d4 < 12) :
    ∀ (n i : Nat) (w1 : Int32) (w2 : Int32) (w3 : Int32) (hi : i + n = 12) (kx : ∀ s' : Int32 × Int32 × Int32, az_it (fun ι s => b_X0_joinGreatest_22 σ d4 ι s.1 s.2.1 s.2.2) n i (w1, w2, w3) = s' → AW K 0 0 80 [some (.ref 12), some (.int s'.1), some (.int s'.2.1), some (.int s'.2.2), some (.int (nI d4)), none] [] (wd σ)), AW K 0 0 22 [some (.ref 12), some (.int w1), some (.int w2), some (.int w3), some (.int (nI d4)), some (.int (nI i))] [] (wd σ) := by
  intro n
  induction n with
  | zero =>
    intro i w1 w2 w3 hi kx
    refine AW_g hT cl_X0 hK 15 2 (pc' := 26) (lo' := [some (.ref 12), some (.int w1), some (.int w2), some (.int w3), some (.int (nI d4)), some (.int (nI i))]) (st' := [.int 12, .int (nI i)]) (hp' := wd σ) rfl ?_
    refine AW_icmp_ge hT hK 17 (tgt := 80) rfl rfl (fun c14 => ?_) (fun c14 => absurd (az_c0 hi) c14)
    refine AW_msk [true, true, true, true, true, false] (lo' := [some (.ref 12), some (.int w1), some (.int w2), some (.int w3), some (.int (nI d4)), none]) rfl ?_
    exact kx (w1, w2, w3) rfl
  | succ n ih =>
    intro i w1 w2 w3 hi kx
    refine AW_g hT cl_X0 hK 15 2 (pc' := 26) (lo' := [some (.ref 12), some (.int w1), some (.int w2), some (.int w3), some (.int (nI d4)), some (.int (nI i))]) (st' := [.int 12, .int (nI i)]) (hp' := wd σ) rfl ?_
    refine AW_icmp_ge hT hK 17 (tgt := 80) rfl rfl (fun c2 => absurd c2 (az_c1 hi)) (fun c2 => ?_)
    refine AW_g hT cl_X0 hK 18 2 (pc' := 32) (lo' := [some (.ref 12), some (.int w1), some (.int w2), some (.int w3), some (.int (nI d4)), some (.int (nI i))]) (st' := [.int (nI d4), .ref 12]) (hp' := wd σ) rfl ?_
    refine AW_callV hT hK 20 [.int (nI d4)] [] (m_X0_isGroup l0 σ (nI d4)) cw_X0_isGroup lk_X0_67 vi_X0_isGroup rfl rfl rfl rfl rfl rfl (Nat.le_of_ble_eq_true rfl) (Nat.le_of_ble_eq_true rfl) (AW_k1 (fun v4 h3 => ?_))
    refine AW_if_eq hT hK 21 (tgt := 74) rfl rfl (fun c5 => ?_) (fun c5 => ?_)
    · refine AW_g hT cl_X0 hK 41 1 (pc' := 77) (lo' := [some (.ref 12), some (.int w1), some (.int w2), some (.int w3), some (.int (nI d4)), some (.int ((nI i) + 1))]) (st' := []) (hp' := wd σ) rfl ?_
      refine AW_goto hT hK 42 (tgt := 22) rfl rfl ?_
      refine AW_to (lo' := [some (.ref 12), some (.int w1), some (.int w2), some (.int w3), some (.int (nI d4)), some (.int (nI (i + 1)))]) (by rw [nI_1]) rfl rfl ?_
      subst h3; skip
      exact ih (i + 1) _ _ _ (by omega) (fun s' hs' => kx s' ((congrArg (az_it _ n (i + 1)) (by simp only [b_X0_joinGreatest_22, if_pos c5])).trans hs'))
    · refine AW_g hT cl_X0 hK 22 2 (pc' := 41) (lo' := [some (.ref 12), some (.int w1), some (.int w2), some (.int w3), some (.int (nI d4)), some (.int (nI i))]) (st' := [.int (nI i), .ref 12]) (hp' := wd σ) rfl ?_
      refine AW_callV hT hK 24 [.int (nI i)] [] (m_X0_isGroup l0 σ (nI i)) cw_X0_isGroup lk_X0_67 vi_X0_isGroup rfl rfl rfl rfl rfl rfl (Nat.le_of_ble_eq_true rfl) (Nat.le_of_ble_eq_true rfl) (AW_k1 (fun v7 h6 => ?_))
      refine AW_if_eq hT hK 25 (tgt := 74) rfl rfl (fun c8 => ?_) (fun c8 => ?_)
      · refine AW_g hT cl_X0 hK 41 1 (pc' := 77) (lo' := [some (.ref 12), some (.int w1), some (.int w2), some (.int w3), some (.int (nI d4)), some (.int ((nI i) + 1))]) (st' := []) (hp' := wd σ) rfl ?_
        refine AW_goto hT hK 42 (tgt := 22) rfl rfl ?_
        refine AW_to (lo' := [some (.ref 12), some (.int w1), some (.int w2), some (.int w3), some (.int (nI d4)), some (.int (nI (i + 1)))]) (by rw [nI_1]) rfl rfl ?_
        subst h6; subst h3; skip
        exact ih (i + 1) _ _ _ (by omega) (fun s' hs' => kx s' ((congrArg (az_it _ n (i + 1)) (by simp only [b_X0_joinGreatest_22, if_neg c5, if_pos c8])).trans hs'))
      · refine AW_g hT cl_X0 hK 26 3 (pc' := 52) (lo' := [some (.ref 12), some (.int w1), some (.int w2), some (.int w3), some (.int (nI d4)), some (.int (nI i))]) (st' := [.int (nI i), .int (nI d4), .ref 12]) (hp' := wd σ) rfl ?_
        refine AW_callV hT hK 29 [.int (nI d4), .int (nI i)] [] (m_X0_gainOfJoining l0 σ (nI d4) (nI i)) cw_X0_gainOfJoining lk_X0_96 vi_X0_gainOfJoining rfl rfl rfl rfl rfl rfl (Nat.le_of_ble_eq_true rfl) (Nat.le_of_ble_eq_true rfl) (AW_k1 (fun v10 h9 => ?_))
        refine AW_g hT cl_X0 hK 30 1 (pc' := 56) (lo' := [some (.ref 12), some (.int w1), some (.int w2), some (.int w3), some (.int (nI d4)), some (.int (nI i))]) (st' := [.int w1, .int v10]) (hp' := wd σ) rfl ?_
        refine AW_icmp_le hT hK 31 (tgt := 74) rfl rfl (fun c11 => ?_) (fun c11 => ?_)
        · refine AW_g hT cl_X0 hK 41 1 (pc' := 77) (lo' := [some (.ref 12), some (.int w1), some (.int w2), some (.int w3), some (.int (nI d4)), some (.int ((nI i) + 1))]) (st' := []) (hp' := wd σ) rfl ?_
          refine AW_goto hT hK 42 (tgt := 22) rfl rfl ?_
          refine AW_to (lo' := [some (.ref 12), some (.int w1), some (.int w2), some (.int w3), some (.int (nI d4)), some (.int (nI (i + 1)))]) (by rw [nI_1]) rfl rfl ?_
          subst h9; subst h6; subst h3; skip
          exact ih (i + 1) _ _ _ (by omega) (fun s' hs' => kx s' ((congrArg (az_it _ n (i + 1)) (by simp only [b_X0_joinGreatest_22, if_neg c5, if_neg c8, if_pos c11])).trans hs'))
        · refine AW_g hT cl_X0 hK 32 3 (pc' := 64) (lo' := [some (.ref 12), some (.int w1), some (.int w2), some (.int w3), some (.int (nI d4)), some (.int (nI i))]) (st' := [.int (nI i), .int (nI d4), .ref 12]) (hp' := wd σ) rfl ?_
          refine AW_callV hT hK 35 [.int (nI d4), .int (nI i)] [] (m_X0_gainOfJoining l0 σ (nI d4) (nI i)) cw_X0_gainOfJoining lk_X0_96 vi_X0_gainOfJoining rfl rfl rfl rfl rfl rfl (Nat.le_of_ble_eq_true rfl) (Nat.le_of_ble_eq_true rfl) (AW_k1 (fun v13 h12 => ?_))
          refine AW_g hT cl_X0 hK 36 6 (pc' := 77) (lo' := [some (.ref 12), some (.int v13), some (.int (nI d4)), some (.int (nI i)), some (.int (nI d4)), some (.int ((nI i) + 1))]) (st' := []) (hp' := wd σ) rfl ?_
          refine AW_goto hT hK 42 (tgt := 22) rfl rfl ?_
          refine AW_to (lo' := [some (.ref 12), some (.int v13), some (.int (nI d4)), some (.int (nI i)), some (.int (nI d4)), some (.int (nI (i + 1)))]) (by rw [nI_1]) rfl rfl ?_
          subst h12; subst h9; subst h6; subst h3; skip
          exact ih (i + 1) _ _ _ (by omega) (fun s' hs' => kx s' ((congrArg (az_it _ n (i + 1)) (by simp only [b_X0_joinGreatest_22, if_neg c5, if_neg c8, if_neg c11])).trans hs'))
def b_X0_joinGreatest_9 (σ : az_S) (i : Nat) (w1 : Int32) (w2 : Int32) (w3 : Int32) : Int32 × Int32 × Int32 :=
  let s15 := az_it (fun ι s => b_X0_joinGreatest_22 σ i ι s.1 s.2.1 s.2.2) (12 - (i + 1)) (i + 1) (w1, w2, w3)
  (s15.1, s15.2.1, s15.2.2)
set_option maxRecDepth 100000 in
set_option maxHeartbeats 4000000 in
theorem lp_X0_joinGreatest_9 {K : az_K} {l0 : Launch} (hT : az_Tb cX0_joinGreatest tb_X0_joinGreatest) (hK : az_OK K RX0 cX0_joinGreatest ({ frames := 3, cells := 0, slots := 0, locals := 72 } : Room) l0) (σ : az_S) :
    ∀ (n i : Nat) (w1 : Int32) (w2 : Int32) (w3 : Int32) (hi : i + n = 12) (kx : ∀ s' : Int32 × Int32 × Int32, az_it (fun ι s => b_X0_joinGreatest_9 σ ι s.1 s.2.1 s.2.2) n i (w1, w2, w3) = s' → AW K 0 0 86 [some (.ref 12), some (.int s'.1), some (.int s'.2.1), some (.int s'.2.2), none, none] [] (wd σ)), AW K 0 0 9 [some (.ref 12), some (.int w1), some (.int w2), some (.int w3), some (.int (nI i)), none] [] (wd σ) := by
  intro n
  induction n with
  | zero =>
    intro i w1 w2 w3 hi kx
    refine AW_g hT cl_X0 hK 8 2 (pc' := 13) (lo' := [some (.ref 12), some (.int w1), some (.int w2), some (.int w3), some (.int (nI i)), none]) (st' := [.int 12, .int (nI i)]) (hp' := wd σ) rfl ?_
    refine AW_icmp_ge hT hK 10 (tgt := 86) rfl rfl (fun c17 => ?_) (fun c17 => absurd (az_c0 hi) c17)
    refine AW_msk [true, true, true, true, false, false] (lo' := [some (.ref 12), some (.int w1), some (.int w2), some (.int w3), none, none]) rfl ?_
    exact kx (w1, w2, w3) rfl
  | succ n ih =>
    intro i w1 w2 w3 hi kx
    refine AW_g hT cl_X0 hK 8 2 (pc' := 13) (lo' := [some (.ref 12), some (.int w1), some (.int w2), some (.int w3), some (.int (nI i)), none]) (st' := [.int 12, .int (nI i)]) (hp' := wd σ) rfl ?_
    refine AW_icmp_ge hT hK 10 (tgt := 86) rfl rfl (fun c1 => absurd c1 (az_c1 hi)) (fun c1 => ?_)
    refine AW_g hT cl_X0 hK 11 4 (pc' := 22) (lo' := [some (.ref 12), some (.int w1), some (.int w2), some (.int w3), some (.int (nI i)), some (.int ((nI i) + 1))]) (st' := []) (hp' := wd σ) rfl ?_
    refine AW_to (lo' := [some (.ref 12), some (.int w1), some (.int w2), some (.int w3), some (.int (nI i)), some (.int (nI (i + 1)))]) (by rw [nI_1]) rfl rfl ?_
    refine lp_X0_joinGreatest_22 hT hK σ i (by omega) (12 - (i + 1)) (i + 1) w1 w2 w3 (by first | rfl | omega) (fun s15 h16 => ?_)
    refine AW_g hT cl_X0 hK 43 1 (pc' := 83) (lo' := [some (.ref 12), some (.int s15.1), some (.int s15.2.1), some (.int s15.2.2), some (.int ((nI i) + 1)), none]) (st' := []) (hp' := wd σ) rfl ?_
    refine AW_goto hT hK 44 (tgt := 9) rfl rfl ?_
    refine AW_to (lo' := [some (.ref 12), some (.int s15.1), some (.int s15.2.1), some (.int s15.2.2), some (.int (nI (i + 1))), none]) (by rw [nI_1]) rfl rfl ?_
    subst h16; skip
    exact ih (i + 1) _ _ _ (by omega) (fun s' hs' => kx s' ((congrArg (az_it _ n (i + 1)) (by simp only [b_X0_joinGreatest_9])).trans hs'))
def x_X0_joinGreatest (σ : az_S) : Int32 × az_S :=
  let s18 := az_it (fun ι s => b_X0_joinGreatest_9 σ ι s.1 s.2.1 s.2.2) 12 0 (0, (-1), (-1))
  if s18.1 ≤ 0 then
    (0, σ)
  else
    let τ23 := x_X0_join σ s18.2.1 s18.2.2
    (1, τ23)
set_option maxRecDepth 100000 in
set_option maxHeartbeats 4000000 in
theorem m_X0_joinGreatest (l0 : Launch) (σ : az_S) : AMet l0 yX0_joinGreatest cX0_joinGreatest 6 (some .boolean) ({ frames := 3, cells := 0, slots := 0, locals := 72 } : Room) false [.ref 12] (wd σ) (fun r h => r = some (.int (x_X0_joinGreatest σ).1) ∧ h = wd (x_X0_joinGreatest σ).2) := by
  refine AMet_of (by decide +kernel) (by simp [Value.category]) (Nat.le_of_ble_eq_true rfl) (fun K hK hct hG hE => ?_)
  have hT := tt_X0_joinGreatest
  refine AW_g hT cl_X0 hK 0 8 (pc' := 9) (lo' := [some (.ref 12), some (.int 0), some (.int (-1)), some (.int (-1)), some (.int 0), none]) (st' := []) (hp' := wd σ) rfl ?_
  refine AW_to (lo' := [some (.ref 12), some (.int 0), some (.int (-1)), some (.int (-1)), some (.int (nI 0)), none]) (rfl) rfl rfl ?_
  refine lp_X0_joinGreatest_9 hT hK σ 12 0 0 (-1) (-1) (by first | rfl | omega) (fun s18 h19 => ?_)
  refine AW_g hT cl_X0 hK 45 1 (pc' := 87) (lo' := [some (.ref 12), some (.int s18.1), some (.int s18.2.1), some (.int s18.2.2), none, none]) (st' := [.int s18.1]) (hp' := wd σ) rfl ?_
  refine AW_if_le hT hK 46 (tgt := 96) rfl rfl (fun c20 => ?_) (fun c20 => ?_)
  · refine AW_g hT cl_X0 hK 51 1 (pc' := 97) (lo' := [some (.ref 12), some (.int s18.1), some (.int s18.2.1), some (.int s18.2.2), none, none]) (st' := [.int s18.1]) (hp' := wd σ) rfl ?_
    refine AW_if_le hT hK 52 (tgt := 104) rfl rfl (fun _ => ?_) (fun c21 => absurd c20 c21)
    refine AW_g hT cl_X0 hK 55 1 (pc' := 105) (lo' := [some (.ref 12), some (.int s18.1), some (.int s18.2.1), some (.int s18.2.2), none, none]) (st' := [.int 0]) (hp' := wd σ) rfl ?_
    refine AW_iret hT hE 56 rfl rfl rfl (Nat.le_of_ble_eq_true rfl) (Nat.le_of_ble_eq_true rfl) ?_
    subst h19; exact ⟨by simp only [x_X0_joinGreatest, if_pos c20], by simp only [x_X0_joinGreatest, if_pos c20]⟩
  · refine AW_g hT cl_X0 hK 47 3 (pc' := 93) (lo' := [some (.ref 12), some (.int s18.1), some (.int s18.2.1), some (.int s18.2.2), none, none]) (st' := [.int s18.2.2, .int s18.2.1, .ref 12]) (hp' := wd σ) rfl ?_
    refine AW_callV hT hK 50 [.int s18.2.1, .int s18.2.2] [] (m_X0_join l0 σ s18.2.1 s18.2.2) cw_X0_join lk_X0_99 vi_X0_join rfl rfl rfl rfl rfl rfl (Nat.le_of_ble_eq_true rfl) (Nat.le_of_ble_eq_true rfl) (AW_kv (fun τ23 h22 => ?_))
    refine AW_g hT cl_X0 hK 51 1 (pc' := 97) (lo' := [some (.ref 12), some (.int s18.1), some (.int s18.2.1), some (.int s18.2.2), none, none]) (st' := [.int s18.1]) (hp' := wd (τ23)) rfl ?_
    refine AW_if_le hT hK 52 (tgt := 104) rfl rfl (fun c24 => absurd c24 c20) (fun _ => ?_)
    refine AW_g hT cl_X0 hK 53 1 (pc' := 101) (lo' := [some (.ref 12), some (.int s18.1), some (.int s18.2.1), some (.int s18.2.2), none, none]) (st' := [.int 1]) (hp' := wd (τ23)) rfl ?_
    refine AW_goto hT hK 54 (tgt := 105) rfl rfl ?_
    refine AW_iret hT hE 56 rfl rfl rfl (Nat.le_of_ble_eq_true rfl) (Nat.le_of_ble_eq_true rfl) ?_
    subst h22; subst h19; exact ⟨by simp only [x_X0_joinGreatest, if_neg c20], by simp only [x_X0_joinGreatest, if_neg c20]⟩
theorem nb_X0_joinGreatest (σ : az_S) : narrow .boolean (.int (x_X0_joinGreatest σ).1) = .int (x_X0_joinGreatest σ).1 := by
  unfold x_X0_joinGreatest
  (try dsimp only)
  (repeat' split) <;> first | rfl | (dsimp only; rfl)
def x_X4_setOneWay_21 (σ : az_S) (p0 : Int32) (p1 : Int32) (p2 : Int32) : az_S :=
  if p0 < 0 then
    σ
  else
    if 12 ≤ p0 then
      σ
    else
      if p1 < 0 then
        σ
      else
        if 12 ≤ p1 then
          σ
        else
          if ((p0 * 12) + p1) < 0 then
            σ
          else
            if 144 ≤ ((p0 * 12) + p1) then
              σ
            else
              (sG σ 22 (va_up (σ.2.1 22) ((p0 * 12) + p1).toNatClampNeg p2))
set_option maxRecDepth 100000 in
set_option maxHeartbeats 4000000 in
theorem m_X4_setOneWay_21 (l0 : Launch) (σ : az_S) (p0 : Int32) (p1 : Int32) (p2 : Int32) : AMet l0 yX4_setOneWay cX4_setOneWay 6 none ({ frames := 0, cells := 0, slots := 0, locals := 0 } : Room) false [.ref 21, .int p0, .int p1, .int p2] (wd σ) (fun r h => r = none ∧ h = wd (x_X4_setOneWay_21 σ p0 p1 p2)) := by
  refine AMet_of (by decide +kernel) (by simp [Value.category]) (Nat.le_of_ble_eq_true rfl) (fun K hK hct hG hE => ?_)
  have hT := tt_X4_setOneWay
  refine AW_g hT cl_X4 hK 0 7 (pc' := 9) (lo' := [some (.ref 21), some (.int p0), some (.int p1), some (.int p2), some (.int ((p0 * 12) + p1)), none]) (st' := [.int p0]) (hp' := wd σ) rfl ?_
  refine AW_if_lt hT hK 7 (tgt := 32) rfl rfl (fun c1 => ?_) (fun c1 => ?_)
  · refine AW_g hT cl_X4 hK 18 3 (pc' := 37) (lo' := [some (.ref 21), some (.int p0), some (.int p1), some (.int p2), some (.int ((p0 * 12) + p1)), some (.int 0)]) (st' := [.int 0]) (hp' := wd σ) rfl ?_
    refine AW_if_eq hT hK 21 (tgt := 63) rfl rfl (fun _ => ?_) (fun c2 => absurd (by decide) c2)
    refine AW_vret hT hE 34 rfl (Nat.le_of_ble_eq_true rfl) (Nat.le_of_ble_eq_true rfl) ?_
    exact ⟨rfl, congrArg wd (by simp only [x_X4_setOneWay_21, if_pos c1])⟩
  · refine AW_g hT cl_X4 hK 8 2 (pc' := 15) (lo' := [some (.ref 21), some (.int p0), some (.int p1), some (.int p2), some (.int ((p0 * 12) + p1)), none]) (st' := [.int 12, .int p0]) (hp' := wd σ) rfl ?_
    refine AW_icmp_ge hT hK 10 (tgt := 32) rfl rfl (fun c3 => ?_) (fun c3 => ?_)
    · refine AW_g hT cl_X4 hK 18 3 (pc' := 37) (lo' := [some (.ref 21), some (.int p0), some (.int p1), some (.int p2), some (.int ((p0 * 12) + p1)), some (.int 0)]) (st' := [.int 0]) (hp' := wd σ) rfl ?_
      refine AW_if_eq hT hK 21 (tgt := 63) rfl rfl (fun _ => ?_) (fun c4 => absurd (by decide) c4)
      refine AW_vret hT hE 34 rfl (Nat.le_of_ble_eq_true rfl) (Nat.le_of_ble_eq_true rfl) ?_
      exact ⟨rfl, congrArg wd (by simp only [x_X4_setOneWay_21, if_neg c1, if_pos c3])⟩
    · refine AW_g hT cl_X4 hK 11 1 (pc' := 19) (lo' := [some (.ref 21), some (.int p0), some (.int p1), some (.int p2), some (.int ((p0 * 12) + p1)), none]) (st' := [.int p1]) (hp' := wd σ) rfl ?_
      refine AW_if_lt hT hK 12 (tgt := 32) rfl rfl (fun c5 => ?_) (fun c5 => ?_)
      · refine AW_g hT cl_X4 hK 18 3 (pc' := 37) (lo' := [some (.ref 21), some (.int p0), some (.int p1), some (.int p2), some (.int ((p0 * 12) + p1)), some (.int 0)]) (st' := [.int 0]) (hp' := wd σ) rfl ?_
        refine AW_if_eq hT hK 21 (tgt := 63) rfl rfl (fun _ => ?_) (fun c6 => absurd (by decide) c6)
        refine AW_vret hT hE 34 rfl (Nat.le_of_ble_eq_true rfl) (Nat.le_of_ble_eq_true rfl) ?_
        exact ⟨rfl, congrArg wd (by simp only [x_X4_setOneWay_21, if_neg c1, if_neg c3, if_pos c5])⟩
      · refine AW_g hT cl_X4 hK 13 2 (pc' := 25) (lo' := [some (.ref 21), some (.int p0), some (.int p1), some (.int p2), some (.int ((p0 * 12) + p1)), none]) (st' := [.int 12, .int p1]) (hp' := wd σ) rfl ?_
        refine AW_icmp_ge hT hK 15 (tgt := 32) rfl rfl (fun c7 => ?_) (fun c7 => ?_)
        · refine AW_g hT cl_X4 hK 18 3 (pc' := 37) (lo' := [some (.ref 21), some (.int p0), some (.int p1), some (.int p2), some (.int ((p0 * 12) + p1)), some (.int 0)]) (st' := [.int 0]) (hp' := wd σ) rfl ?_
          refine AW_if_eq hT hK 21 (tgt := 63) rfl rfl (fun _ => ?_) (fun c8 => absurd (by decide) c8)
          refine AW_vret hT hE 34 rfl (Nat.le_of_ble_eq_true rfl) (Nat.le_of_ble_eq_true rfl) ?_
          exact ⟨rfl, congrArg wd (by simp only [x_X4_setOneWay_21, if_neg c1, if_neg c3, if_neg c5, if_pos c7])⟩
        · refine AW_g hT cl_X4 hK 16 1 (pc' := 29) (lo' := [some (.ref 21), some (.int p0), some (.int p1), some (.int p2), some (.int ((p0 * 12) + p1)), none]) (st' := [.int 1]) (hp' := wd σ) rfl ?_
          refine AW_goto hT hK 17 (tgt := 33) rfl rfl ?_
          refine AW_g hT cl_X4 hK 19 2 (pc' := 37) (lo' := [some (.ref 21), some (.int p0), some (.int p1), some (.int p2), some (.int ((p0 * 12) + p1)), some (.int 1)]) (st' := [.int 1]) (hp' := wd σ) rfl ?_
          refine AW_if_eq hT hK 21 (tgt := 63) rfl rfl (fun c9 => absurd c9 (by decide)) (fun _ => ?_)
          refine AW_g hT cl_X4 hK 22 1 (pc' := 42) (lo' := [some (.ref 21), some (.int p0), some (.int p1), some (.int p2), some (.int ((p0 * 12) + p1)), some (.int 1)]) (st' := [.int ((p0 * 12) + p1)]) (hp' := wd σ) rfl ?_
          refine AW_if_lt hT hK 23 (tgt := 63) rfl rfl (fun c10 => ?_) (fun c10 => ?_)
          · refine AW_vret hT hE 34 rfl (Nat.le_of_ble_eq_true rfl) (Nat.le_of_ble_eq_true rfl) ?_
            exact ⟨rfl, congrArg wd (by simp only [x_X4_setOneWay_21, if_neg c1, if_neg c3, if_neg c5, if_neg c7, if_pos c10])⟩
          · refine AW_g hT cl_X4 hK 24 4 (pc' := 52) (lo' := [some (.ref 21), some (.int p0), some (.int p1), some (.int p2), some (.int ((p0 * 12) + p1)), some (.int 1)]) (st' := [.int 144, .int ((p0 * 12) + p1)]) (hp' := wd σ) rfl ?_
            refine AW_icmp_ge hT hK 28 (tgt := 63) rfl rfl (fun c11 => ?_) (fun c11 => ?_)
            · refine AW_vret hT hE 34 rfl (Nat.le_of_ble_eq_true rfl) (Nat.le_of_ble_eq_true rfl) ?_
              exact ⟨rfl, congrArg wd (by simp only [x_X4_setOneWay_21, if_neg c1, if_neg c3, if_neg c5, if_neg c7, if_neg c10, if_pos c11])⟩
            · refine AW_g hT cl_X4 hK 29 4 (pc' := 62) (lo' := [some (.ref 21), some (.int p0), some (.int p1), some (.int p2), some (.int ((p0 * 12) + p1)), some (.int 1)]) (st' := [.int p2, .int ((p0 * 12) + p1), .ref 22]) (hp' := wd σ) rfl ?_
              refine AW_iastx hT hK 33 rfl (n := 144) (f := (σ.2.1 22)) rfl (az_in144 c10 c11) ?_
              refine AW_to (hp' := wd (sG σ 22 (va_up (σ.2.1 22) ((p0 * 12) + p1).toNatClampNeg p2))) rfl rfl rfl ?_
              refine AW_vret hT hE 34 rfl (Nat.le_of_ble_eq_true rfl) (Nat.le_of_ble_eq_true rfl) ?_
              exact ⟨rfl, congrArg wd (by simp only [x_X4_setOneWay_21, if_neg c1, if_neg c3, if_neg c5, if_neg c7, if_neg c10, if_neg c11])⟩
def x_X4_set_21 (σ : az_S) (p0 : Int32) (p1 : Int32) (p2 : Int32) : az_S :=
  let τ2 := x_X4_setOneWay_21 σ p0 p1 p2
  let τ4 := x_X4_setOneWay_21 (τ2) p1 p0 p2
  τ4
set_option maxRecDepth 100000 in
set_option maxHeartbeats 4000000 in
theorem m_X4_set_21 (l0 : Launch) (σ : az_S) (p0 : Int32) (p1 : Int32) (p2 : Int32) : AMet l0 yX4_set cX4_set 4 none ({ frames := 1, cells := 0, slots := 0, locals := 25 } : Room) false [.ref 21, .int p0, .int p1, .int p2] (wd σ) (fun r h => r = none ∧ h = wd (x_X4_set_21 σ p0 p1 p2)) := by
  refine AMet_of (by decide +kernel) (by simp [Value.category]) (Nat.le_of_ble_eq_true rfl) (fun K hK hct hG hE => ?_)
  have hT := tt_X4_set
  refine AW_g hT cl_X4 hK 0 4 (pc' := 4) (lo' := [some (.ref 21), some (.int p0), some (.int p1), some (.int p2)]) (st' := [.int p2, .int p1, .int p0, .ref 21]) (hp' := wd σ) rfl ?_
  refine AW_callV hT hK 4 [.int p0, .int p1, .int p2] [] (m_X4_setOneWay_21 l0 σ p0 p1 p2) cw_X4_setOneWay lk_X4_15 vi_X4_setOneWay rfl rfl rfl rfl rfl rfl (Nat.le_of_ble_eq_true rfl) (Nat.le_of_ble_eq_true rfl) (AW_kv (fun τ2 h1 => ?_))
  refine AW_g hT cl_X4 hK 5 4 (pc' := 11) (lo' := [some (.ref 21), some (.int p0), some (.int p1), some (.int p2)]) (st' := [.int p2, .int p0, .int p1, .ref 21]) (hp' := wd (τ2)) rfl ?_
  refine AW_callV hT hK 9 [.int p1, .int p0, .int p2] [] (m_X4_setOneWay_21 l0 (τ2) p1 p0 p2) cw_X4_setOneWay lk_X4_15 vi_X4_setOneWay rfl rfl rfl rfl rfl rfl (Nat.le_of_ble_eq_true rfl) (Nat.le_of_ble_eq_true rfl) (AW_kv (fun τ4 h3 => ?_))
  refine AW_vret hT hE 10 rfl (Nat.le_of_ble_eq_true rfl) (Nat.le_of_ble_eq_true rfl) ?_
  subst h3; subst h1; exact ⟨rfl, congrArg wd (by simp only [x_X4_set_21])⟩
def x_X4_set_23 (σ : az_S) (p0 : Int32) (p1 : Int32) (p2 : Int32) : az_S :=
  let τ2 := x_X4_setOneWay_23 σ p0 p1 p2
  let τ4 := x_X4_setOneWay_23 (τ2) p1 p0 p2
  τ4
set_option maxRecDepth 100000 in
set_option maxHeartbeats 4000000 in
theorem m_X4_set_23 (l0 : Launch) (σ : az_S) (p0 : Int32) (p1 : Int32) (p2 : Int32) : AMet l0 yX4_set cX4_set 4 none ({ frames := 1, cells := 0, slots := 0, locals := 25 } : Room) false [.ref 23, .int p0, .int p1, .int p2] (wd σ) (fun r h => r = none ∧ h = wd (x_X4_set_23 σ p0 p1 p2)) := by
  refine AMet_of (by decide +kernel) (by simp [Value.category]) (Nat.le_of_ble_eq_true rfl) (fun K hK hct hG hE => ?_)
  have hT := tt_X4_set
  refine AW_g hT cl_X4 hK 0 4 (pc' := 4) (lo' := [some (.ref 23), some (.int p0), some (.int p1), some (.int p2)]) (st' := [.int p2, .int p1, .int p0, .ref 23]) (hp' := wd σ) rfl ?_
  refine AW_callV hT hK 4 [.int p0, .int p1, .int p2] [] (m_X4_setOneWay_23 l0 σ p0 p1 p2) cw_X4_setOneWay lk_X4_15 vi_X4_setOneWay rfl rfl rfl rfl rfl rfl (Nat.le_of_ble_eq_true rfl) (Nat.le_of_ble_eq_true rfl) (AW_kv (fun τ2 h1 => ?_))
  refine AW_g hT cl_X4 hK 5 4 (pc' := 11) (lo' := [some (.ref 23), some (.int p0), some (.int p1), some (.int p2)]) (st' := [.int p2, .int p0, .int p1, .ref 23]) (hp' := wd (τ2)) rfl ?_
  refine AW_callV hT hK 9 [.int p1, .int p0, .int p2] [] (m_X4_setOneWay_23 l0 (τ2) p1 p0 p2) cw_X4_setOneWay lk_X4_15 vi_X4_setOneWay rfl rfl rfl rfl rfl rfl (Nat.le_of_ble_eq_true rfl) (Nat.le_of_ble_eq_true rfl) (AW_kv (fun τ4 h3 => ?_))
  refine AW_vret hT hE 10 rfl (Nat.le_of_ble_eq_true rfl) (Nat.le_of_ble_eq_true rfl) ?_
  subst h3; subst h1; exact ⟨rfl, congrArg wd (by simp only [x_X4_set_23])⟩
def x_X2_set_17 (σ : az_S) (p0 : Int32) (p1 : Int32) : az_S :=
  if p0 < 0 then
    σ
  else
    if 12 ≤ p0 then
      σ
    else
      (sG σ 18 (va_up (σ.2.1 18) p0.toNatClampNeg p1))
set_option maxRecDepth 100000 in
set_option maxHeartbeats 4000000 in
theorem m_X2_set_17 (l0 : Launch) (σ : az_S) (p0 : Int32) (p1 : Int32) : AMet l0 yX2_set cX2_set 3 none ({ frames := 0, cells := 0, slots := 0, locals := 0 } : Room) false [.ref 17, .int p0, .int p1] (wd σ) (fun r h => r = none ∧ h = wd (x_X2_set_17 σ p0 p1)) := by
  refine AMet_of (by decide +kernel) (by simp [Value.category]) (Nat.le_of_ble_eq_true rfl) (fun K hK hct hG hE => ?_)
  have hT := tt_X2_set
  refine AW_g hT cl_X2 hK 0 1 (pc' := 1) (lo' := [some (.ref 17), some (.int p0), some (.int p1)]) (st' := [.int p0]) (hp' := wd σ) rfl ?_
  refine AW_if_lt hT hK 1 (tgt := 20) rfl rfl (fun c1 => ?_) (fun c1 => ?_)
  · refine AW_vret hT hE 12 rfl (Nat.le_of_ble_eq_true rfl) (Nat.le_of_ble_eq_true rfl) ?_
    exact ⟨rfl, congrArg wd (by simp only [x_X2_set_17, if_pos c1])⟩
  · refine AW_g hT cl_X2 hK 2 4 (pc' := 10) (lo' := [some (.ref 17), some (.int p0), some (.int p1)]) (st' := [.int 12, .int p0]) (hp' := wd σ) rfl ?_
    refine AW_icmp_ge hT hK 6 (tgt := 20) rfl rfl (fun c2 => ?_) (fun c2 => ?_)
    · refine AW_vret hT hE 12 rfl (Nat.le_of_ble_eq_true rfl) (Nat.le_of_ble_eq_true rfl) ?_
      exact ⟨rfl, congrArg wd (by simp only [x_X2_set_17, if_neg c1, if_pos c2])⟩
    · refine AW_g hT cl_X2 hK 7 4 (pc' := 19) (lo' := [some (.ref 17), some (.int p0), some (.int p1)]) (st' := [.int p1, .int p0, .ref 18]) (hp' := wd σ) rfl ?_
      refine AW_iastx hT hK 11 rfl (n := 12) (f := (σ.2.1 18)) rfl (az_in12 c1 c2) ?_
      refine AW_to (hp' := wd (sG σ 18 (va_up (σ.2.1 18) p0.toNatClampNeg p1))) rfl rfl rfl ?_
      refine AW_vret hT hE 12 rfl (Nat.le_of_ble_eq_true rfl) (Nat.le_of_ble_eq_true rfl) ?_
      exact ⟨rfl, congrArg wd (by simp only [x_X2_set_17, if_neg c1, if_neg c2])⟩
def b_X0_partAll_50 (d2 : Nat) (i : Nat) (w3 : Int32) (σ : az_S) : Int32 × az_S :=
  if (nI d2) = (nI i) then
    let τ20 := x_X4_set_21 σ (nI d2) (nI i) 0
    let τ22 := x_X4_set_23 (τ20) (nI d2) (nI i) 0
    ((w3 + 0), (τ22))
  else
    let v14 := x_X3_weightOf σ (nI d2) (nI i)
    let τ16 := x_X4_set_21 σ (nI d2) (nI i) v14
    let τ18 := x_X4_set_23 (τ16) (nI d2) (nI i) v14
    ((w3 + v14), (τ18))
set_option maxRecDepth 100000 in
set_option maxHeartbeats 4000000 in
theorem lp_X0_partAll_50 {K : az_K} {l0 : Launch} (hT : az_Tb cX0_partAll tb_X0_partAll) (hK : az_OK K RX0 cX0_partAll ({ frames := 3, cells := 0, slots := 0, locals := 69 } : Room) l0) (d2 : Nat) (hd2 : d2 < 12) :
    ∀ (n i : Nat) (w3 : Int32) (σ : az_S) (hi : i + n = 12) (kx : ∀ s' : Int32 × az_S, az_it (fun ι s => b_X0_partAll_50 d2 ι s.1 s.2) n i (w3, σ) = s' → AW K 0 0 111 [some (.ref 12), some (.ref 1), some (.int (nI d2)), some (.int s'.1), none, none] [] (wd s'.2)), AW K 0 0 50 [some (.ref 12), some (.ref 1), some (.int (nI d2)), some (.int w3), some (.int (nI i)), none] [] (wd σ) := by
  intro n
  induction n with
  | zero =>
    intro i w3 σ hi kx
    refine AW_g hT cl_X0 hK 28 2 (pc' := 54) (lo' := [some (.ref 12), some (.ref 1), some (.int (nI d2)), some (.int w3), some (.int (nI i)), none]) (st' := [.int 12, .int (nI i)]) (hp' := wd σ) rfl ?_
    refine AW_icmp_ge hT hK 30 (tgt := 111) rfl rfl (fun c23 => ?_) (fun c23 => absurd (az_c0 hi) c23)
    refine AW_msk [true, true, true, true, false, false] (lo' := [some (.ref 12), some (.ref 1), some (.int (nI d2)), some (.int w3), none, none]) rfl ?_
    exact kx (w3, σ) rfl
  | succ n ih =>
    intro i w3 σ hi kx
    refine AW_g hT cl_X0 hK 28 2 (pc' := 54) (lo' := [some (.ref 12), some (.ref 1), some (.int (nI d2)), some (.int w3), some (.int (nI i)), none]) (st' := [.int 12, .int (nI i)]) (hp' := wd σ) rfl ?_
    refine AW_icmp_ge hT hK 30 (tgt := 111) rfl rfl (fun c11 => absurd c11 (az_c1 hi)) (fun c11 => ?_)
    refine AW_g hT cl_X0 hK 31 2 (pc' := 60) (lo' := [some (.ref 12), some (.ref 1), some (.int (nI d2)), some (.int w3), some (.int (nI i)), none]) (st' := [.int (nI i), .int (nI d2)]) (hp' := wd σ) rfl ?_
    refine AW_icmp_ne hT hK 33 (tgt := 67) rfl rfl (fun c12 => ?_) (fun c12 => ?_)
    · refine AW_g hT cl_X0 hK 36 3 (pc' := 71) (lo' := [some (.ref 12), some (.ref 1), some (.int (nI d2)), some (.int w3), some (.int (nI i)), none]) (st' := [.int (nI i), .int (nI d2), .ref 1]) (hp' := wd σ) rfl ?_
      refine AW_callV hT hK 39 [.int (nI d2), .int (nI i)] [] (m_X3_weightOf l0 σ (nI d2) (nI i)) cw_X3_weightOf lk_X0_90 vi_X3_weightOf rfl rfl rfl rfl rfl rfl (Nat.le_of_ble_eq_true rfl) (Nat.le_of_ble_eq_true rfl) (AW_k1 (fun v14 h13 => ?_))
      refine AW_g hT cl_X0 hK 40 6 (pc' := 85) (lo' := [some (.ref 12), some (.ref 1), some (.int (nI d2)), some (.int w3), some (.int (nI i)), some (.int v14)]) (st' := [.int v14, .int (nI i), .int (nI d2), .ref 21]) (hp' := wd σ) rfl ?_
      refine AW_callV hT hK 46 [.int (nI d2), .int (nI i), .int v14] [] (m_X4_set_21 l0 σ (nI d2) (nI i) v14) cw_X4_set lk_X0_93 vi_X4_set rfl rfl rfl rfl rfl rfl (Nat.le_of_ble_eq_true rfl) (Nat.le_of_ble_eq_true rfl) (AW_kv (fun τ16 h15 => ?_))
      refine AW_g hT cl_X0 hK 47 5 (pc' := 97) (lo' := [some (.ref 12), some (.ref 1), some (.int (nI d2)), some (.int w3), some (.int (nI i)), some (.int v14)]) (st' := [.int v14, .int (nI i), .int (nI d2), .ref 23]) (hp' := wd (τ16)) rfl ?_
      refine AW_callV hT hK 52 [.int (nI d2), .int (nI i), .int v14] [] (m_X4_set_23 l0 (τ16) (nI d2) (nI i) v14) cw_X4_set lk_X0_93 vi_X4_set rfl rfl rfl rfl rfl rfl (Nat.le_of_ble_eq_true rfl) (Nat.le_of_ble_eq_true rfl) (AW_kv (fun τ18 h17 => ?_))
      refine AW_g hT cl_X0 hK 53 5 (pc' := 108) (lo' := [some (.ref 12), some (.ref 1), some (.int (nI d2)), some (.int (w3 + v14)), some (.int ((nI i) + 1)), some (.int v14)]) (st' := []) (hp' := wd (τ18)) rfl ?_
      refine AW_goto hT hK 58 (tgt := 50) rfl rfl ?_
      refine AW_msk [true, true, true, true, true, false] (lo' := [some (.ref 12), some (.ref 1), some (.int (nI d2)), some (.int (w3 + v14)), some (.int ((nI i) + 1)), none]) rfl ?_
      refine AW_to (lo' := [some (.ref 12), some (.ref 1), some (.int (nI d2)), some (.int (w3 + v14)), some (.int (nI (i + 1))), none]) (by rw [nI_1]) rfl rfl ?_
      subst h17; subst h15; subst h13; skip
      exact ih (i + 1) _ _ (by omega) (fun s' hs' => kx s' ((congrArg (az_it _ n (i + 1)) (by simp only [b_X0_partAll_50, if_neg c12])).trans hs'))
    · refine AW_g hT cl_X0 hK 34 1 (pc' := 64) (lo' := [some (.ref 12), some (.ref 1), some (.int (nI d2)), some (.int w3), some (.int (nI i)), none]) (st' := [.int 0]) (hp' := wd σ) rfl ?_
      refine AW_goto hT hK 35 (tgt := 74) rfl rfl ?_
      refine AW_g hT cl_X0 hK 40 6 (pc' := 85) (lo' := [some (.ref 12), some (.ref 1), some (.int (nI d2)), some (.int w3), some (.int (nI i)), some (.int 0)]) (st' := [.int 0, .int (nI i), .int (nI d2), .ref 21]) (hp' := wd σ) rfl ?_
      refine AW_callV hT hK 46 [.int (nI d2), .int (nI i), .int 0] [] (m_X4_set_21 l0 σ (nI d2) (nI i) 0) cw_X4_set lk_X0_93 vi_X4_set rfl rfl rfl rfl rfl rfl (Nat.le_of_ble_eq_true rfl) (Nat.le_of_ble_eq_true rfl) (AW_kv (fun τ20 h19 => ?_))
      refine AW_g hT cl_X0 hK 47 5 (pc' := 97) (lo' := [some (.ref 12), some (.ref 1), some (.int (nI d2)), some (.int w3), some (.int (nI i)), some (.int 0)]) (st' := [.int 0, .int (nI i), .int (nI d2), .ref 23]) (hp' := wd (τ20)) rfl ?_
      refine AW_callV hT hK 52 [.int (nI d2), .int (nI i), .int 0] [] (m_X4_set_23 l0 (τ20) (nI d2) (nI i) 0) cw_X4_set lk_X0_93 vi_X4_set rfl rfl rfl rfl rfl rfl (Nat.le_of_ble_eq_true rfl) (Nat.le_of_ble_eq_true rfl) (AW_kv (fun τ22 h21 => ?_))
      refine AW_g hT cl_X0 hK 53 5 (pc' := 108) (lo' := [some (.ref 12), some (.ref 1), some (.int (nI d2)), some (.int (w3 + 0)), some (.int ((nI i) + 1)), some (.int 0)]) (st' := []) (hp' := wd (τ22)) rfl ?_
      refine AW_goto hT hK 58 (tgt := 50) rfl rfl ?_
      refine AW_msk [true, true, true, true, true, false] (lo' := [some (.ref 12), some (.ref 1), some (.int (nI d2)), some (.int (w3 + 0)), some (.int ((nI i) + 1)), none]) rfl ?_
      refine AW_to (lo' := [some (.ref 12), some (.ref 1), some (.int (nI d2)), some (.int (w3 + 0)), some (.int (nI (i + 1))), none]) (by rw [nI_1]) rfl rfl ?_
      subst h21; subst h19; skip
      exact ih (i + 1) _ _ (by omega) (fun s' hs' => kx s' ((congrArg (az_it _ n (i + 1)) (by simp only [b_X0_partAll_50, if_pos c12])).trans hs'))
def b_X0_partAll_18 (i : Nat) (σ : az_S) : az_S :=
  let v7 := x_X3_has σ (nI i)
  if v7 = 0 then
    let τ10 := x_X2_set_13 σ (nI i) (-1)
    let s24 := az_it (fun ι s => b_X0_partAll_50 i ι s.1 s.2) 12 0 (0, (τ10))
    let τ27 := x_X2_set_17 s24.2 (nI i) s24.1
    let τ29 := x_X2_set_19 (τ27) (nI i) s24.1
    (τ29)
  else
    let τ31 := x_X2_set_13 σ (nI i) (nI i)
    let s32 := az_it (fun ι s => b_X0_partAll_50 i ι s.1 s.2) 12 0 (0, (τ31))
    let τ35 := x_X2_set_17 s32.2 (nI i) s32.1
    let τ37 := x_X2_set_19 (τ35) (nI i) s32.1
    (τ37)
set_option maxRecDepth 100000 in
set_option maxHeartbeats 4000000 in
theorem lp_X0_partAll_18 {K : az_K} {l0 : Launch} (hT : az_Tb cX0_partAll tb_X0_partAll) (hK : az_OK K RX0 cX0_partAll ({ frames := 3, cells := 0, slots := 0, locals := 69 } : Room) l0) :
    ∀ (n i : Nat) (σ : az_S) (hi : i + n = 12) (kx : ∀ s' : az_S, az_it (fun ι s => b_X0_partAll_18 ι s) n i σ = s' → AW K 0 0 135 [some (.ref 12), some (.ref 1), none, none, none, none] [] (wd s')), AW K 0 0 18 [some (.ref 12), some (.ref 1), some (.int (nI i)), none, none, none] [] (wd σ) := by
  intro n
  induction n with
  | zero =>
    intro i σ hi kx
    refine AW_g hT cl_X0 hK 10 2 (pc' := 21) (lo' := [some (.ref 12), some (.ref 1), some (.int (nI i)), none, none, none]) (st' := [.int 12, .int (nI i)]) (hp' := wd σ) rfl ?_
    refine AW_icmp_ge hT hK 12 (tgt := 135) rfl rfl (fun c38 => ?_) (fun c38 => absurd (az_c0 hi) c38)
    refine AW_msk [true, true, false, false, false, false] (lo' := [some (.ref 12), some (.ref 1), none, none, none, none]) rfl ?_
    exact kx σ rfl
  | succ n ih =>
    intro i σ hi kx
    refine AW_g hT cl_X0 hK 10 2 (pc' := 21) (lo' := [some (.ref 12), some (.ref 1), some (.int (nI i)), none, none, none]) (st' := [.int 12, .int (nI i)]) (hp' := wd σ) rfl ?_
    refine AW_icmp_ge hT hK 12 (tgt := 135) rfl rfl (fun c5 => absurd c5 (az_c1 hi)) (fun c5 => ?_)
    refine AW_g hT cl_X0 hK 13 5 (pc' := 31) (lo' := [some (.ref 12), some (.ref 1), some (.int (nI i)), none, none, none]) (st' := [.int (nI i), .ref 1, .int (nI i), .ref 13]) (hp' := wd σ) rfl ?_
    refine AW_callV hT hK 18 [.int (nI i)] [.int (nI i), .ref 13] (m_X3_has l0 σ (nI i)) cw_X3_has lk_X0_87 vi_X3_has rfl rfl rfl rfl rfl rfl (Nat.le_of_ble_eq_true rfl) (Nat.le_of_ble_eq_true rfl) (AW_k1 (fun v7 h6 => ?_))
    refine AW_if_eq hT hK 19 (tgt := 41) rfl rfl (fun c8 => ?_) (fun c8 => ?_)
    · refine AW_g hT cl_X0 hK 22 1 (pc' := 42) (lo' := [some (.ref 12), some (.ref 1), some (.int (nI i)), none, none, none]) (st' := [.int (-1), .int (nI i), .ref 13]) (hp' := wd σ) rfl ?_
      refine AW_callV hT hK 23 [.int (nI i), .int (-1)] [] (m_X2_set_13 l0 σ (nI i) (-1)) cw_X2_set lk_X0_74 vi_X2_set rfl rfl rfl rfl rfl rfl (Nat.le_of_ble_eq_true rfl) (Nat.le_of_ble_eq_true rfl) (AW_kv (fun τ10 h9 => ?_))
      refine AW_g hT cl_X0 hK 24 4 (pc' := 50) (lo' := [some (.ref 12), some (.ref 1), some (.int (nI i)), some (.int 0), some (.int 0), none]) (st' := []) (hp' := wd (τ10)) rfl ?_
      refine AW_to (lo' := [some (.ref 12), some (.ref 1), some (.int (nI i)), some (.int 0), some (.int (nI 0)), none]) (rfl) rfl rfl ?_
      refine lp_X0_partAll_50 hT hK i (by omega) 12 0 0 (τ10) (by first | rfl | omega) (fun s24 h25 => ?_)
      refine AW_g hT cl_X0 hK 59 4 (pc' := 117) (lo' := [some (.ref 12), some (.ref 1), some (.int (nI i)), some (.int s24.1), none, none]) (st' := [.int s24.1, .int (nI i), .ref 17]) (hp' := wd s24.2) rfl ?_
      refine AW_callV hT hK 63 [.int (nI i), .int s24.1] [] (m_X2_set_17 l0 s24.2 (nI i) s24.1) cw_X2_set lk_X0_74 vi_X2_set rfl rfl rfl rfl rfl rfl (Nat.le_of_ble_eq_true rfl) (Nat.le_of_ble_eq_true rfl) (AW_kv (fun τ27 h26 => ?_))
      refine AW_g hT cl_X0 hK 64 4 (pc' := 126) (lo' := [some (.ref 12), some (.ref 1), some (.int (nI i)), some (.int s24.1), none, none]) (st' := [.int s24.1, .int (nI i), .ref 19]) (hp' := wd (τ27)) rfl ?_
      refine AW_callV hT hK 68 [.int (nI i), .int s24.1] [] (m_X2_set_19 l0 (τ27) (nI i) s24.1) cw_X2_set lk_X0_74 vi_X2_set rfl rfl rfl rfl rfl rfl (Nat.le_of_ble_eq_true rfl) (Nat.le_of_ble_eq_true rfl) (AW_kv (fun τ29 h28 => ?_))
      refine AW_g hT cl_X0 hK 69 1 (pc' := 132) (lo' := [some (.ref 12), some (.ref 1), some (.int ((nI i) + 1)), some (.int s24.1), none, none]) (st' := []) (hp' := wd (τ29)) rfl ?_
      refine AW_goto hT hK 70 (tgt := 18) rfl rfl ?_
      refine AW_msk [true, true, true, false, false, false] (lo' := [some (.ref 12), some (.ref 1), some (.int ((nI i) + 1)), none, none, none]) rfl ?_
      refine AW_to (lo' := [some (.ref 12), some (.ref 1), some (.int (nI (i + 1))), none, none, none]) (by rw [nI_1]) rfl rfl ?_
      subst h28; subst h26; subst h25; subst h9; subst h6; skip
      exact ih (i + 1) _ (by omega) (fun s' hs' => kx s' ((congrArg (az_it _ n (i + 1)) (by simp only [b_X0_partAll_18, if_pos c8])).trans hs'))
    · refine AW_g hT cl_X0 hK 20 1 (pc' := 38) (lo' := [some (.ref 12), some (.ref 1), some (.int (nI i)), none, none, none]) (st' := [.int (nI i), .int (nI i), .ref 13]) (hp' := wd σ) rfl ?_
      refine AW_goto hT hK 21 (tgt := 42) rfl rfl ?_
      refine AW_callV hT hK 23 [.int (nI i), .int (nI i)] [] (m_X2_set_13 l0 σ (nI i) (nI i)) cw_X2_set lk_X0_74 vi_X2_set rfl rfl rfl rfl rfl rfl (Nat.le_of_ble_eq_true rfl) (Nat.le_of_ble_eq_true rfl) (AW_kv (fun τ31 h30 => ?_))
      refine AW_g hT cl_X0 hK 24 4 (pc' := 50) (lo' := [some (.ref 12), some (.ref 1), some (.int (nI i)), some (.int 0), some (.int 0), none]) (st' := []) (hp' := wd (τ31)) rfl ?_
      refine AW_to (lo' := [some (.ref 12), some (.ref 1), some (.int (nI i)), some (.int 0), some (.int (nI 0)), none]) (rfl) rfl rfl ?_
      refine lp_X0_partAll_50 hT hK i (by omega) 12 0 0 (τ31) (by first | rfl | omega) (fun s32 h33 => ?_)
      refine AW_g hT cl_X0 hK 59 4 (pc' := 117) (lo' := [some (.ref 12), some (.ref 1), some (.int (nI i)), some (.int s32.1), none, none]) (st' := [.int s32.1, .int (nI i), .ref 17]) (hp' := wd s32.2) rfl ?_
      refine AW_callV hT hK 63 [.int (nI i), .int s32.1] [] (m_X2_set_17 l0 s32.2 (nI i) s32.1) cw_X2_set lk_X0_74 vi_X2_set rfl rfl rfl rfl rfl rfl (Nat.le_of_ble_eq_true rfl) (Nat.le_of_ble_eq_true rfl) (AW_kv (fun τ35 h34 => ?_))
      refine AW_g hT cl_X0 hK 64 4 (pc' := 126) (lo' := [some (.ref 12), some (.ref 1), some (.int (nI i)), some (.int s32.1), none, none]) (st' := [.int s32.1, .int (nI i), .ref 19]) (hp' := wd (τ35)) rfl ?_
      refine AW_callV hT hK 68 [.int (nI i), .int s32.1] [] (m_X2_set_19 l0 (τ35) (nI i) s32.1) cw_X2_set lk_X0_74 vi_X2_set rfl rfl rfl rfl rfl rfl (Nat.le_of_ble_eq_true rfl) (Nat.le_of_ble_eq_true rfl) (AW_kv (fun τ37 h36 => ?_))
      refine AW_g hT cl_X0 hK 69 1 (pc' := 132) (lo' := [some (.ref 12), some (.ref 1), some (.int ((nI i) + 1)), some (.int s32.1), none, none]) (st' := []) (hp' := wd (τ37)) rfl ?_
      refine AW_goto hT hK 70 (tgt := 18) rfl rfl ?_
      refine AW_msk [true, true, true, false, false, false] (lo' := [some (.ref 12), some (.ref 1), some (.int ((nI i) + 1)), none, none, none]) rfl ?_
      refine AW_to (lo' := [some (.ref 12), some (.ref 1), some (.int (nI (i + 1))), none, none, none]) (by rw [nI_1]) rfl rfl ?_
      subst h36; subst h34; subst h33; subst h30; subst h6; skip
      exact ih (i + 1) _ (by omega) (fun s' hs' => kx s' ((congrArg (az_it _ n (i + 1)) (by simp only [b_X0_partAll_18, if_neg c8])).trans hs'))
def x_X0_partAll (σ : az_S) : az_S :=
  let v2 := x_X3_weightsKept σ
  let v4 := x_X3_allThere (sF σ 4 v2)
  let s39 := az_it (fun ι s => b_X0_partAll_18 ι s) 12 0 (sF (sF σ 4 v2) 3 v4)
  s39
set_option maxRecDepth 100000 in
set_option maxHeartbeats 4000000 in
theorem m_X0_partAll (l0 : Launch) (σ : az_S) : AMet l0 yX0_partAll cX0_partAll 6 none ({ frames := 3, cells := 0, slots := 0, locals := 69 } : Room) false [.ref 12, .ref 1] (wd σ) (fun r h => r = none ∧ h = wd (x_X0_partAll σ)) := by
  refine AMet_of (by decide +kernel) (by simp [Value.category]) (Nat.le_of_ble_eq_true rfl) (fun K hK hct hG hE => ?_)
  have hT := tt_X0_partAll
  refine AW_g hT cl_X0 hK 0 2 (pc' := 2) (lo' := [some (.ref 12), some (.ref 1), none, none, none, none]) (st' := [.ref 1, .ref 12]) (hp' := wd σ) rfl ?_
  refine AW_callV hT hK 2 [] [.ref 12] (m_X3_weightsKept l0 σ) cw_X3_weightsKept lk_X0_78 vi_X3_weightsKept rfl rfl rfl rfl rfl rfl (Nat.le_of_ble_eq_true rfl) (Nat.le_of_ble_eq_true rfl) (AW_k1 (fun v2 h1 => ?_))
  refine AW_g hT cl_X0 hK 3 3 (pc' := 10) (lo' := [some (.ref 12), some (.ref 1), none, none, none, none]) (st' := [.ref 1, .ref 12]) (hp' := wd (sF σ 4 v2)) rfl ?_
  refine AW_callV hT hK 6 [] [.ref 12] (m_X3_allThere l0 (sF σ 4 v2)) cw_X3_allThere lk_X0_84 vi_X3_allThere rfl rfl rfl rfl rfl rfl (Nat.le_of_ble_eq_true rfl) (Nat.le_of_ble_eq_true rfl) (AW_k1 (fun v4 h3 => ?_))
  refine AW_g hT cl_X0 hK 7 3 (pc' := 18) (lo' := [some (.ref 12), some (.ref 1), some (.int 0), none, none, none]) (st' := []) (hp' := wd (sF (sF σ 4 v2) 3 v4)) rfl ?_
  refine AW_to (lo' := [some (.ref 12), some (.ref 1), some (.int (nI 0)), none, none, none]) (rfl) rfl rfl ?_
  refine lp_X0_partAll_18 hT hK 12 0 (sF (sF σ 4 v2) 3 v4) (by first | rfl | omega) (fun s39 h40 => ?_)
  refine AW_vret hT hE 71 rfl (Nat.le_of_ble_eq_true rfl) (Nat.le_of_ble_eq_true rfl) ?_
  subst h40; subst h3; subst h1; exact ⟨rfl, congrArg wd (by simp only [x_X0_partAll])⟩
def x_X2_set_15 (σ : az_S) (p0 : Int32) (p1 : Int32) : az_S :=
  if p0 < 0 then
    σ
  else
    if 12 ≤ p0 then
      σ
    else
      (sG σ 16 (va_up (σ.2.1 16) p0.toNatClampNeg p1))
set_option maxRecDepth 100000 in
set_option maxHeartbeats 4000000 in
theorem m_X2_set_15 (l0 : Launch) (σ : az_S) (p0 : Int32) (p1 : Int32) : AMet l0 yX2_set cX2_set 3 none ({ frames := 0, cells := 0, slots := 0, locals := 0 } : Room) false [.ref 15, .int p0, .int p1] (wd σ) (fun r h => r = none ∧ h = wd (x_X2_set_15 σ p0 p1)) := by
  refine AMet_of (by decide +kernel) (by simp [Value.category]) (Nat.le_of_ble_eq_true rfl) (fun K hK hct hG hE => ?_)
  have hT := tt_X2_set
  refine AW_g hT cl_X2 hK 0 1 (pc' := 1) (lo' := [some (.ref 15), some (.int p0), some (.int p1)]) (st' := [.int p0]) (hp' := wd σ) rfl ?_
  refine AW_if_lt hT hK 1 (tgt := 20) rfl rfl (fun c1 => ?_) (fun c1 => ?_)
  · refine AW_vret hT hE 12 rfl (Nat.le_of_ble_eq_true rfl) (Nat.le_of_ble_eq_true rfl) ?_
    exact ⟨rfl, congrArg wd (by simp only [x_X2_set_15, if_pos c1])⟩
  · refine AW_g hT cl_X2 hK 2 4 (pc' := 10) (lo' := [some (.ref 15), some (.int p0), some (.int p1)]) (st' := [.int 12, .int p0]) (hp' := wd σ) rfl ?_
    refine AW_icmp_ge hT hK 6 (tgt := 20) rfl rfl (fun c2 => ?_) (fun c2 => ?_)
    · refine AW_vret hT hE 12 rfl (Nat.le_of_ble_eq_true rfl) (Nat.le_of_ble_eq_true rfl) ?_
      exact ⟨rfl, congrArg wd (by simp only [x_X2_set_15, if_neg c1, if_pos c2])⟩
    · refine AW_g hT cl_X2 hK 7 4 (pc' := 19) (lo' := [some (.ref 15), some (.int p0), some (.int p1)]) (st' := [.int p1, .int p0, .ref 16]) (hp' := wd σ) rfl ?_
      refine AW_iastx hT hK 11 rfl (n := 12) (f := (σ.2.1 16)) rfl (az_in12 c1 c2) ?_
      refine AW_to (hp' := wd (sG σ 16 (va_up (σ.2.1 16) p0.toNatClampNeg p1))) rfl rfl rfl ?_
      refine AW_vret hT hE 12 rfl (Nat.le_of_ble_eq_true rfl) (Nat.le_of_ble_eq_true rfl) ?_
      exact ⟨rfl, congrArg wd (by simp only [x_X2_set_15, if_neg c1, if_neg c2])⟩
def b_X0_findAnew_9 (i : Nat) (w2 : Int32) (σ : az_S) : Int32 × az_S :=
  let q6 := x_X0_joinGreatest σ
  (q6.1, q6.2)
set_option maxRecDepth 100000 in
set_option maxHeartbeats 4000000 in
theorem lp_X0_findAnew_9 {K : az_K} {l0 : Launch} (hT : az_Tb cX0_findAnew tb_X0_findAnew) (hK : az_OK K RX0 cX0_findAnew ({ frames := 4, cells := 0, slots := 0, locals := 101 } : Room) l0) :
    ∀ (n i : Nat) (w2 : Int32) (σ : az_S) (hi : i + n = 12) (kx : ∀ s' : Int32 × az_S, az_ws (fun s : Int32 × az_S => decide (s.1 = 0)) (fun ι s => b_X0_findAnew_9 ι s.1 s.2) n i (w2, σ) = s' → AW K 0 0 30 [some (.ref 12), some (.ref 1), some (.int s'.1), none] [] (wd s'.2)), AW K 0 0 9 [some (.ref 12), some (.ref 1), some (.int w2), some (.int (nI i))] [] (wd σ) := by
  intro n
  induction n with
  | zero =>
    intro i w2 σ hi kx
    refine AW_g hT cl_X0 hK 7 1 (pc' := 10) (lo' := [some (.ref 12), some (.ref 1), some (.int w2), some (.int (nI i))]) (st' := [.int w2]) (hp' := wd σ) rfl ?_
    refine AW_if_eq hT hK 8 (tgt := 30) rfl rfl (fun c7 => ?_) (fun c7 => ?_)
    · refine AW_msk [true, true, true, false] (lo' := [some (.ref 12), some (.ref 1), some (.int w2), none]) rfl ?_
      exact kx (w2, σ) rfl
    refine AW_g hT cl_X0 hK 9 2 (pc' := 16) (lo' := [some (.ref 12), some (.ref 1), some (.int w2), some (.int (nI i))]) (st' := [.int 12, .int (nI i)]) (hp' := wd σ) rfl ?_
    refine AW_icmp_ge hT hK 11 (tgt := 30) rfl rfl (fun c8 => ?_) (fun c8 => absurd (az_c0 hi) c8)
    refine AW_msk [true, true, true, false] (lo' := [some (.ref 12), some (.ref 1), some (.int w2), none]) rfl ?_
    exact kx (w2, σ) rfl
  | succ n ih =>
    intro i w2 σ hi kx
    refine AW_g hT cl_X0 hK 7 1 (pc' := 10) (lo' := [some (.ref 12), some (.ref 1), some (.int w2), some (.int (nI i))]) (st' := [.int w2]) (hp' := wd σ) rfl ?_
    refine AW_if_eq hT hK 8 (tgt := 30) rfl rfl (fun c3 => ?_) (fun c3 => ?_)
    · refine AW_msk [true, true, true, false] (lo' := [some (.ref 12), some (.ref 1), some (.int w2), none]) rfl ?_
      exact kx (w2, σ) (az_ws_st (by simp only [c3, decide_true]))
    refine AW_g hT cl_X0 hK 9 2 (pc' := 16) (lo' := [some (.ref 12), some (.ref 1), some (.int w2), some (.int (nI i))]) (st' := [.int 12, .int (nI i)]) (hp' := wd σ) rfl ?_
    refine AW_icmp_ge hT hK 11 (tgt := 30) rfl rfl (fun c4 => absurd c4 (az_c1 hi)) (fun c4 => ?_)
    refine AW_g hT cl_X0 hK 12 1 (pc' := 20) (lo' := [some (.ref 12), some (.ref 1), some (.int w2), some (.int (nI i))]) (st' := [.ref 12]) (hp' := wd σ) rfl ?_
    refine AW_callV hT hK 13 [] [] (m_X0_joinGreatest l0 σ) cw_X0_joinGreatest lk_X0_63 vi_X0_joinGreatest rfl rfl rfl rfl rfl rfl (Nat.le_of_ble_eq_true rfl) (Nat.le_of_ble_eq_true rfl) (AW_kiw (fun q6 h5 => ?_))
    refine AW_g hT cl_X0 hK 14 2 (pc' := 27) (lo' := [some (.ref 12), some (.ref 1), some (.int q6.1), some (.int ((nI i) + 1))]) (st' := []) (hp' := wd q6.2) rfl ?_
    refine AW_goto hT hK 16 (tgt := 9) rfl rfl ?_
    refine AW_to (lo' := [some (.ref 12), some (.ref 1), some (.int q6.1), some (.int (nI (i + 1)))]) (by rw [nI_1]) rfl rfl ?_
    subst h5; skip
    exact ih (i + 1) _ _ (by omega) (fun s' hs' => kx s' ((az_ws_go (by simp only [c3, decide_false])).trans ((congrArg (az_ws (fun s : Int32 × az_S => decide (s.1 = 0)) _ n (i + 1)) (by simp only [b_X0_findAnew_9])).trans hs')))
def b_X0_findAnew_32 (d2 : Int32) (i : Nat) (σ : az_S) : az_S :=
  let v13 := x_X0_isGroup σ (nI i)
  if v13 = 0 then
    let τ16 := x_X2_set_15 σ (nI i) 0
    (τ16)
  else
    let v18 := x_X0_bestSplit σ (nI i)
    let τ20 := x_X2_set_15 σ (nI i) v18
    (τ20)
set_option maxRecDepth 100000 in
set_option maxHeartbeats 4000000 in
theorem lp_X0_findAnew_32 {K : az_K} {l0 : Launch} (hT : az_Tb cX0_findAnew tb_X0_findAnew) (hK : az_OK K RX0 cX0_findAnew ({ frames := 4, cells := 0, slots := 0, locals := 101 } : Room) l0) (d2 : Int32) :
    ∀ (n i : Nat) (σ : az_S) (hi : i + n = 12) (kx : ∀ s' : az_S, az_it (fun ι s => b_X0_findAnew_32 d2 ι s) n i σ = s' → AW K 0 0 69 [some (.ref 12), some (.ref 1), some (.int d2), none] [] (wd s')), AW K 0 0 32 [some (.ref 12), some (.ref 1), some (.int d2), some (.int (nI i))] [] (wd σ) := by
  intro n
  induction n with
  | zero =>
    intro i σ hi kx
    refine AW_g hT cl_X0 hK 19 2 (pc' := 35) (lo' := [some (.ref 12), some (.ref 1), some (.int d2), some (.int (nI i))]) (st' := [.int 12, .int (nI i)]) (hp' := wd σ) rfl ?_
    refine AW_icmp_ge hT hK 21 (tgt := 69) rfl rfl (fun c21 => ?_) (fun c21 => absurd (az_c0 hi) c21)
    refine AW_msk [true, true, true, false] (lo' := [some (.ref 12), some (.ref 1), some (.int d2), none]) rfl ?_
    exact kx σ rfl
  | succ n ih =>
    intro i σ hi kx
    refine AW_g hT cl_X0 hK 19 2 (pc' := 35) (lo' := [some (.ref 12), some (.ref 1), some (.int d2), some (.int (nI i))]) (st' := [.int 12, .int (nI i)]) (hp' := wd σ) rfl ?_
    refine AW_icmp_ge hT hK 21 (tgt := 69) rfl rfl (fun c11 => absurd c11 (az_c1 hi)) (fun c11 => ?_)
    refine AW_g hT cl_X0 hK 22 5 (pc' := 45) (lo' := [some (.ref 12), some (.ref 1), some (.int d2), some (.int (nI i))]) (st' := [.int (nI i), .ref 12, .int (nI i), .ref 15]) (hp' := wd σ) rfl ?_
    refine AW_callV hT hK 27 [.int (nI i)] [.int (nI i), .ref 15] (m_X0_isGroup l0 σ (nI i)) cw_X0_isGroup lk_X0_67 vi_X0_isGroup rfl rfl rfl rfl rfl rfl (Nat.le_of_ble_eq_true rfl) (Nat.le_of_ble_eq_true rfl) (AW_k1 (fun v13 h12 => ?_))
    refine AW_if_eq hT hK 28 (tgt := 59) rfl rfl (fun c14 => ?_) (fun c14 => ?_)
    · refine AW_g hT cl_X0 hK 33 1 (pc' := 60) (lo' := [some (.ref 12), some (.ref 1), some (.int d2), some (.int (nI i))]) (st' := [.int 0, .int (nI i), .ref 15]) (hp' := wd σ) rfl ?_
      refine AW_callV hT hK 34 [.int (nI i), .int 0] [] (m_X2_set_15 l0 σ (nI i) 0) cw_X2_set lk_X0_74 vi_X2_set rfl rfl rfl rfl rfl rfl (Nat.le_of_ble_eq_true rfl) (Nat.le_of_ble_eq_true rfl) (AW_kv (fun τ16 h15 => ?_))
      refine AW_g hT cl_X0 hK 35 1 (pc' := 66) (lo' := [some (.ref 12), some (.ref 1), some (.int d2), some (.int ((nI i) + 1))]) (st' := []) (hp' := wd (τ16)) rfl ?_
      refine AW_goto hT hK 36 (tgt := 32) rfl rfl ?_
      refine AW_to (lo' := [some (.ref 12), some (.ref 1), some (.int d2), some (.int (nI (i + 1)))]) (by rw [nI_1]) rfl rfl ?_
      subst h15; subst h12; skip
      exact ih (i + 1) _ (by omega) (fun s' hs' => kx s' ((congrArg (az_it _ n (i + 1)) (by simp only [b_X0_findAnew_32, if_pos c14])).trans hs'))
    · refine AW_g hT cl_X0 hK 29 2 (pc' := 53) (lo' := [some (.ref 12), some (.ref 1), some (.int d2), some (.int (nI i))]) (st' := [.int (nI i), .ref 12, .int (nI i), .ref 15]) (hp' := wd σ) rfl ?_
      refine AW_callV hT hK 31 [.int (nI i)] [.int (nI i), .ref 15] (m_X0_bestSplit l0 σ (nI i)) cw_X0_bestSplit lk_X0_71 vi_X0_bestSplit rfl rfl rfl rfl rfl rfl (Nat.le_of_ble_eq_true rfl) (Nat.le_of_ble_eq_true rfl) (AW_k1 (fun v18 h17 => ?_))
      refine AW_goto hT hK 32 (tgt := 60) rfl rfl ?_
      refine AW_callV hT hK 34 [.int (nI i), .int v18] [] (m_X2_set_15 l0 σ (nI i) v18) cw_X2_set lk_X0_74 vi_X2_set rfl rfl rfl rfl rfl rfl (Nat.le_of_ble_eq_true rfl) (Nat.le_of_ble_eq_true rfl) (AW_kv (fun τ20 h19 => ?_))
      refine AW_g hT cl_X0 hK 35 1 (pc' := 66) (lo' := [some (.ref 12), some (.ref 1), some (.int d2), some (.int ((nI i) + 1))]) (st' := []) (hp' := wd (τ20)) rfl ?_
      refine AW_goto hT hK 36 (tgt := 32) rfl rfl ?_
      refine AW_to (lo' := [some (.ref 12), some (.ref 1), some (.int d2), some (.int (nI (i + 1)))]) (by rw [nI_1]) rfl rfl ?_
      subst h19; subst h17; subst h12; skip
      exact ih (i + 1) _ (by omega) (fun s' hs' => kx s' ((congrArg (az_it _ n (i + 1)) (by simp only [b_X0_findAnew_32, if_neg c14])).trans hs'))
def x_X0_findAnew (σ : az_S) : az_S :=
  let τ2 := x_X0_partAll σ
  let s9 := az_ws (fun s : Int32 × az_S => decide (s.1 = 0)) (fun ι s => b_X0_findAnew_9 ι s.1 s.2) 12 0 (1, (τ2))
  let s22 := az_it (fun ι s => b_X0_findAnew_32 s9.1 ι s) 12 0 s9.2
  s22
set_option maxRecDepth 100000 in
set_option maxHeartbeats 4000000 in
theorem m_X0_findAnew (l0 : Launch) (σ : az_S) : AMet l0 yX0_findAnew cX0_findAnew 4 none ({ frames := 4, cells := 0, slots := 0, locals := 101 } : Room) false [.ref 12, .ref 1] (wd σ) (fun r h => r = none ∧ h = wd (x_X0_findAnew σ)) := by
  refine AMet_of (by decide +kernel) (by simp [Value.category]) (Nat.le_of_ble_eq_true rfl) (fun K hK hct hG hE => ?_)
  have hT := tt_X0_findAnew
  refine AW_g hT cl_X0 hK 0 2 (pc' := 2) (lo' := [some (.ref 12), some (.ref 1), none, none]) (st' := [.ref 1, .ref 12]) (hp' := wd σ) rfl ?_
  refine AW_callV hT hK 2 [.ref 1] [] (m_X0_partAll l0 σ) cw_X0_partAll lk_X0_59 vi_X0_partAll rfl rfl rfl rfl rfl rfl (Nat.le_of_ble_eq_true rfl) (Nat.le_of_ble_eq_true rfl) (AW_kv (fun τ2 h1 => ?_))
  refine AW_g hT cl_X0 hK 3 4 (pc' := 9) (lo' := [some (.ref 12), some (.ref 1), some (.int 1), some (.int 0)]) (st' := []) (hp' := wd (τ2)) rfl ?_
  refine AW_to (lo' := [some (.ref 12), some (.ref 1), some (.int 1), some (.int (nI 0))]) (rfl) rfl rfl ?_
  refine lp_X0_findAnew_9 hT hK 12 0 1 (τ2) (by first | rfl | omega) (fun s9 h10 => ?_)
  refine AW_g hT cl_X0 hK 17 2 (pc' := 32) (lo' := [some (.ref 12), some (.ref 1), some (.int s9.1), some (.int 0)]) (st' := []) (hp' := wd s9.2) rfl ?_
  refine AW_to (lo' := [some (.ref 12), some (.ref 1), some (.int s9.1), some (.int (nI 0))]) (rfl) rfl rfl ?_
  refine lp_X0_findAnew_32 hT hK s9.1 12 0 s9.2 (by first | rfl | omega) (fun s22 h23 => ?_)
  refine AW_vret hT hE 37 rfl (Nat.le_of_ble_eq_true rfl) (Nat.le_of_ble_eq_true rfl) ?_
  subst h23; subst h10; subst h1; exact ⟨rfl, congrArg wd (by simp only [x_X0_findAnew])⟩
end AZP
