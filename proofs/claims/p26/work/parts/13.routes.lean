section AZP
def x_X2_at_26 (σ : az_S) (p0 : Int32) : Int32 :=
  if p0 < 0 then
    0
  else
    if 12 ≤ p0 then
      0
    else
      ((σ.2.1 27) p0.toNatClampNeg)
set_option maxRecDepth 100000 in
set_option maxHeartbeats 4000000 in
theorem m_X2_at_26 (l0 : Launch) (σ : az_S) (p0 : Int32) : AMet l0 yX2_at cX2_at 2 (some .int) ({ frames := 0, cells := 0, slots := 0, locals := 0 } : Room) false [.ref 26, .int p0] (wd σ) (fun r h => r = some (.int (x_X2_at_26 σ p0)) ∧ h = wd σ) := by
  refine AMet_of (by decide +kernel) (by simp [Value.category]) (Nat.le_of_ble_eq_true rfl) (fun K hK hct hG hE => ?_)
  have hT := tt_X2_at
  refine AW_g hT cl_X2 hK 0 1 (pc' := 1) (lo' := [some (.ref 26), some (.int p0)]) (st' := [.int p0]) (hp' := wd σ) rfl ?_
  refine AW_if_lt hT hK 1 (tgt := 22) rfl rfl (fun c1 => ?_) (fun c1 => ?_)
  · refine AW_g hT cl_X2 hK 12 1 (pc' := 23) (lo' := [some (.ref 26), some (.int p0)]) (st' := [.int 0]) (hp' := wd σ) rfl ?_
    refine AW_iret hT hE 13 rfl rfl rfl (Nat.le_of_ble_eq_true rfl) (Nat.le_of_ble_eq_true rfl) ?_
    exact ⟨by simp only [x_X2_at_26, if_pos c1], rfl⟩
  · refine AW_g hT cl_X2 hK 2 4 (pc' := 10) (lo' := [some (.ref 26), some (.int p0)]) (st' := [.int 12, .int p0]) (hp' := wd σ) rfl ?_
    refine AW_icmp_ge hT hK 6 (tgt := 22) rfl rfl (fun c2 => ?_) (fun c2 => ?_)
    · refine AW_g hT cl_X2 hK 12 1 (pc' := 23) (lo' := [some (.ref 26), some (.int p0)]) (st' := [.int 0]) (hp' := wd σ) rfl ?_
      refine AW_iret hT hE 13 rfl rfl rfl (Nat.le_of_ble_eq_true rfl) (Nat.le_of_ble_eq_true rfl) ?_
      exact ⟨by simp only [x_X2_at_26, if_neg c1, if_pos c2], rfl⟩
    · refine AW_g hT cl_X2 hK 7 3 (pc' := 18) (lo' := [some (.ref 26), some (.int p0)]) (st' := [.int p0, .ref 27]) (hp' := wd σ) rfl ?_
      refine AW_ialdx hT hK 10 rfl (n := 12) (f := (σ.2.1 27)) rfl (az_in12 c1 c2) ?_
      refine AW_goto hT hK 11 (tgt := 23) rfl rfl ?_
      refine AW_iret hT hE 13 rfl rfl rfl (Nat.le_of_ble_eq_true rfl) (Nat.le_of_ble_eq_true rfl) ?_
      exact ⟨by simp only [x_X2_at_26, if_neg c1, if_neg c2], rfl⟩
def x_X2_at_28 (σ : az_S) (p0 : Int32) : Int32 :=
  if p0 < 0 then
    0
  else
    if 12 ≤ p0 then
      0
    else
      ((σ.2.1 29) p0.toNatClampNeg)
set_option maxRecDepth 100000 in
set_option maxHeartbeats 4000000 in
theorem m_X2_at_28 (l0 : Launch) (σ : az_S) (p0 : Int32) : AMet l0 yX2_at cX2_at 2 (some .int) ({ frames := 0, cells := 0, slots := 0, locals := 0 } : Room) false [.ref 28, .int p0] (wd σ) (fun r h => r = some (.int (x_X2_at_28 σ p0)) ∧ h = wd σ) := by
  refine AMet_of (by decide +kernel) (by simp [Value.category]) (Nat.le_of_ble_eq_true rfl) (fun K hK hct hG hE => ?_)
  have hT := tt_X2_at
  refine AW_g hT cl_X2 hK 0 1 (pc' := 1) (lo' := [some (.ref 28), some (.int p0)]) (st' := [.int p0]) (hp' := wd σ) rfl ?_
  refine AW_if_lt hT hK 1 (tgt := 22) rfl rfl (fun c1 => ?_) (fun c1 => ?_)
  · refine AW_g hT cl_X2 hK 12 1 (pc' := 23) (lo' := [some (.ref 28), some (.int p0)]) (st' := [.int 0]) (hp' := wd σ) rfl ?_
    refine AW_iret hT hE 13 rfl rfl rfl (Nat.le_of_ble_eq_true rfl) (Nat.le_of_ble_eq_true rfl) ?_
    exact ⟨by simp only [x_X2_at_28, if_pos c1], rfl⟩
  · refine AW_g hT cl_X2 hK 2 4 (pc' := 10) (lo' := [some (.ref 28), some (.int p0)]) (st' := [.int 12, .int p0]) (hp' := wd σ) rfl ?_
    refine AW_icmp_ge hT hK 6 (tgt := 22) rfl rfl (fun c2 => ?_) (fun c2 => ?_)
    · refine AW_g hT cl_X2 hK 12 1 (pc' := 23) (lo' := [some (.ref 28), some (.int p0)]) (st' := [.int 0]) (hp' := wd σ) rfl ?_
      refine AW_iret hT hE 13 rfl rfl rfl (Nat.le_of_ble_eq_true rfl) (Nat.le_of_ble_eq_true rfl) ?_
      exact ⟨by simp only [x_X2_at_28, if_neg c1, if_pos c2], rfl⟩
    · refine AW_g hT cl_X2 hK 7 3 (pc' := 18) (lo' := [some (.ref 28), some (.int p0)]) (st' := [.int p0, .ref 29]) (hp' := wd σ) rfl ?_
      refine AW_ialdx hT hK 10 rfl (n := 12) (f := (σ.2.1 29)) rfl (az_in12 c1 c2) ?_
      refine AW_goto hT hK 11 (tgt := 23) rfl rfl ?_
      refine AW_iret hT hE 13 rfl rfl rfl (Nat.le_of_ble_eq_true rfl) (Nat.le_of_ble_eq_true rfl) ?_
      exact ⟨by simp only [x_X2_at_28, if_neg c1, if_neg c2], rfl⟩
def x_X1_countOf (σ : az_S) (p0 : Int32) (p1 : Int32) : Int32 :=
  let v2 := x_X2_at_26 σ p1
  let v4 := x_X2_at_28 σ p0
  (v2 * v4)
set_option maxRecDepth 100000 in
set_option maxHeartbeats 4000000 in
theorem m_X1_countOf (l0 : Launch) (σ : az_S) (p0 : Int32) (p1 : Int32) : AMet l0 yX1_countOf cX1_countOf 3 (some .int) ({ frames := 1, cells := 0, slots := 0, locals := 21 } : Room) false [.ref 25, .int p0, .int p1] (wd σ) (fun r h => r = some (.int (x_X1_countOf σ p0 p1)) ∧ h = wd σ) := by
  refine AMet_of (by decide +kernel) (by simp [Value.category]) (Nat.le_of_ble_eq_true rfl) (fun K hK hct hG hE => ?_)
  have hT := tt_X1_countOf
  refine AW_g hT cl_X1 hK 0 3 (pc' := 5) (lo' := [some (.ref 25), some (.int p0), some (.int p1)]) (st' := [.int p1, .ref 26]) (hp' := wd σ) rfl ?_
  refine AW_callV hT hK 3 [.int p1] [] (m_X2_at_26 l0 σ p1) cw_X2_at lk_X1_40 vi_X2_at rfl rfl rfl rfl rfl rfl (Nat.le_of_ble_eq_true rfl) (Nat.le_of_ble_eq_true rfl) (AW_k1 (fun v2 h1 => ?_))
  refine AW_g hT cl_X1 hK 4 3 (pc' := 13) (lo' := [some (.ref 25), some (.int p0), some (.int p1)]) (st' := [.int p0, .ref 28, .int v2]) (hp' := wd σ) rfl ?_
  refine AW_callV hT hK 7 [.int p0] [.int v2] (m_X2_at_28 l0 σ p0) cw_X2_at lk_X1_40 vi_X2_at rfl rfl rfl rfl rfl rfl (Nat.le_of_ble_eq_true rfl) (Nat.le_of_ble_eq_true rfl) (AW_k1 (fun v4 h3 => ?_))
  refine AW_g hT cl_X1 hK 8 1 (pc' := 17) (lo' := [some (.ref 25), some (.int p0), some (.int p1)]) (st' := [.int (v2 * v4)]) (hp' := wd σ) rfl ?_
  refine AW_iret hT hE 9 rfl rfl rfl (Nat.le_of_ble_eq_true rfl) (Nat.le_of_ble_eq_true rfl) ?_
  subst h3; subst h1; exact ⟨by simp only [x_X1_countOf], rfl⟩
def x_X1_wholeWays (σ : az_S) : Int32 :=
  (σ.1 5)
set_option maxRecDepth 100000 in
set_option maxHeartbeats 4000000 in
theorem m_X1_wholeWays (l0 : Launch) (σ : az_S) : AMet l0 yX1_wholeWays cX1_wholeWays 1 (some .int) ({ frames := 0, cells := 0, slots := 0, locals := 0 } : Room) false [.ref 25] (wd σ) (fun r h => r = some (.int (x_X1_wholeWays σ)) ∧ h = wd σ) := by
  refine AMet_of (by decide +kernel) (by simp [Value.category]) (Nat.le_of_ble_eq_true rfl) (fun K hK hct hG hE => ?_)
  have hT := tt_X1_wholeWays
  refine AW_g hT cl_X1 hK 0 2 (pc' := 4) (lo' := [some (.ref 25)]) (st' := [.int (σ.1 5)]) (hp' := wd σ) rfl ?_
  refine AW_iret hT hE 2 rfl rfl rfl (Nat.le_of_ble_eq_true rfl) (Nat.le_of_ble_eq_true rfl) ?_
  exact ⟨by simp only [x_X1_wholeWays], rfl⟩
def x_X1_lengthOfMain (σ : az_S) : Int32 :=
  (σ.1 6)
set_option maxRecDepth 100000 in
set_option maxHeartbeats 4000000 in
theorem m_X1_lengthOfMain (l0 : Launch) (σ : az_S) : AMet l0 yX1_lengthOfMain cX1_lengthOfMain 1 (some .int) ({ frames := 0, cells := 0, slots := 0, locals := 0 } : Room) false [.ref 25] (wd σ) (fun r h => r = some (.int (x_X1_lengthOfMain σ)) ∧ h = wd σ) := by
  refine AMet_of (by decide +kernel) (by simp [Value.category]) (Nat.le_of_ble_eq_true rfl) (fun K hK hct hG hE => ?_)
  have hT := tt_X1_lengthOfMain
  refine AW_g hT cl_X1 hK 0 2 (pc' := 4) (lo' := [some (.ref 25)]) (st' := [.int (σ.1 6)]) (hp' := wd σ) rfl ?_
  refine AW_iret hT hE 2 rfl rfl rfl (Nat.le_of_ble_eq_true rfl) (Nat.le_of_ble_eq_true rfl) ?_
  exact ⟨by simp only [x_X1_lengthOfMain], rfl⟩
def x_X2_at_34 (σ : az_S) (p0 : Int32) : Int32 :=
  if p0 < 0 then
    0
  else
    if 12 ≤ p0 then
      0
    else
      ((σ.2.1 35) p0.toNatClampNeg)
set_option maxRecDepth 100000 in
set_option maxHeartbeats 4000000 in
theorem m_X2_at_34 (l0 : Launch) (σ : az_S) (p0 : Int32) : AMet l0 yX2_at cX2_at 2 (some .int) ({ frames := 0, cells := 0, slots := 0, locals := 0 } : Room) false [.ref 34, .int p0] (wd σ) (fun r h => r = some (.int (x_X2_at_34 σ p0)) ∧ h = wd σ) := by
  refine AMet_of (by decide +kernel) (by simp [Value.category]) (Nat.le_of_ble_eq_true rfl) (fun K hK hct hG hE => ?_)
  have hT := tt_X2_at
  refine AW_g hT cl_X2 hK 0 1 (pc' := 1) (lo' := [some (.ref 34), some (.int p0)]) (st' := [.int p0]) (hp' := wd σ) rfl ?_
  refine AW_if_lt hT hK 1 (tgt := 22) rfl rfl (fun c1 => ?_) (fun c1 => ?_)
  · refine AW_g hT cl_X2 hK 12 1 (pc' := 23) (lo' := [some (.ref 34), some (.int p0)]) (st' := [.int 0]) (hp' := wd σ) rfl ?_
    refine AW_iret hT hE 13 rfl rfl rfl (Nat.le_of_ble_eq_true rfl) (Nat.le_of_ble_eq_true rfl) ?_
    exact ⟨by simp only [x_X2_at_34, if_pos c1], rfl⟩
  · refine AW_g hT cl_X2 hK 2 4 (pc' := 10) (lo' := [some (.ref 34), some (.int p0)]) (st' := [.int 12, .int p0]) (hp' := wd σ) rfl ?_
    refine AW_icmp_ge hT hK 6 (tgt := 22) rfl rfl (fun c2 => ?_) (fun c2 => ?_)
    · refine AW_g hT cl_X2 hK 12 1 (pc' := 23) (lo' := [some (.ref 34), some (.int p0)]) (st' := [.int 0]) (hp' := wd σ) rfl ?_
      refine AW_iret hT hE 13 rfl rfl rfl (Nat.le_of_ble_eq_true rfl) (Nat.le_of_ble_eq_true rfl) ?_
      exact ⟨by simp only [x_X2_at_34, if_neg c1, if_pos c2], rfl⟩
    · refine AW_g hT cl_X2 hK 7 3 (pc' := 18) (lo' := [some (.ref 34), some (.int p0)]) (st' := [.int p0, .ref 35]) (hp' := wd σ) rfl ?_
      refine AW_ialdx hT hK 10 rfl (n := 12) (f := (σ.2.1 35)) rfl (az_in12 c1 c2) ?_
      refine AW_goto hT hK 11 (tgt := 23) rfl rfl ?_
      refine AW_iret hT hE 13 rfl rfl rfl (Nat.le_of_ble_eq_true rfl) (Nat.le_of_ble_eq_true rfl) ?_
      exact ⟨by simp only [x_X2_at_34, if_neg c1, if_neg c2], rfl⟩
def x_X1_paperOfMain (σ : az_S) (p0 : Int32) : Int32 :=
  let v2 := x_X2_at_34 σ p0
  v2
set_option maxRecDepth 100000 in
set_option maxHeartbeats 4000000 in
theorem m_X1_paperOfMain (l0 : Launch) (σ : az_S) (p0 : Int32) : AMet l0 yX1_paperOfMain cX1_paperOfMain 2 (some .int) ({ frames := 1, cells := 0, slots := 0, locals := 21 } : Room) false [.ref 25, .int p0] (wd σ) (fun r h => r = some (.int (x_X1_paperOfMain σ p0)) ∧ h = wd σ) := by
  refine AMet_of (by decide +kernel) (by simp [Value.category]) (Nat.le_of_ble_eq_true rfl) (fun K hK hct hG hE => ?_)
  have hT := tt_X1_paperOfMain
  refine AW_g hT cl_X1 hK 0 3 (pc' := 5) (lo' := [some (.ref 25), some (.int p0)]) (st' := [.int p0, .ref 34]) (hp' := wd σ) rfl ?_
  refine AW_callV hT hK 3 [.int p0] [] (m_X2_at_34 l0 σ p0) cw_X2_at lk_X1_40 vi_X2_at rfl rfl rfl rfl rfl rfl (Nat.le_of_ble_eq_true rfl) (Nat.le_of_ble_eq_true rfl) (AW_k1 (fun v2 h1 => ?_))
  refine AW_iret hT hE 4 rfl rfl rfl (Nat.le_of_ble_eq_true rfl) (Nat.le_of_ble_eq_true rfl) ?_
  subst h1; exact ⟨by simp only [x_X1_paperOfMain], rfl⟩
def x_X1_sumOfMain (σ : az_S) : Int32 :=
  (σ.1 7)
set_option maxRecDepth 100000 in
set_option maxHeartbeats 4000000 in
theorem m_X1_sumOfMain (l0 : Launch) (σ : az_S) : AMet l0 yX1_sumOfMain cX1_sumOfMain 1 (some .int) ({ frames := 0, cells := 0, slots := 0, locals := 0 } : Room) false [.ref 25] (wd σ) (fun r h => r = some (.int (x_X1_sumOfMain σ)) ∧ h = wd σ) := by
  refine AMet_of (by decide +kernel) (by simp [Value.category]) (Nat.le_of_ble_eq_true rfl) (fun K hK hct hG hE => ?_)
  have hT := tt_X1_sumOfMain
  refine AW_g hT cl_X1 hK 0 2 (pc' := 4) (lo' := [some (.ref 25)]) (st' := [.int (σ.1 7)]) (hp' := wd σ) rfl ?_
  refine AW_iret hT hE 2 rfl rfl rfl (Nat.le_of_ble_eq_true rfl) (Nat.le_of_ble_eq_true rfl) ?_
  exact ⟨by simp only [x_X1_sumOfMain], rfl⟩
def x_X2_set_34 (σ : az_S) (p0 : Int32) (p1 : Int32) : az_S :=
  if p0 < 0 then
    σ
  else
    if 12 ≤ p0 then
      σ
    else
      (sG σ 35 (va_up (σ.2.1 35) p0.toNatClampNeg p1))
set_option maxRecDepth 100000 in
set_option maxHeartbeats 4000000 in
theorem m_X2_set_34 (l0 : Launch) (σ : az_S) (p0 : Int32) (p1 : Int32) : AMet l0 yX2_set cX2_set 3 none ({ frames := 0, cells := 0, slots := 0, locals := 0 } : Room) false [.ref 34, .int p0, .int p1] (wd σ) (fun r h => r = none ∧ h = wd (x_X2_set_34 σ p0 p1)) := by
  refine AMet_of (by decide +kernel) (by simp [Value.category]) (Nat.le_of_ble_eq_true rfl) (fun K hK hct hG hE => ?_)
  have hT := tt_X2_set
  refine AW_g hT cl_X2 hK 0 1 (pc' := 1) (lo' := [some (.ref 34), some (.int p0), some (.int p1)]) (st' := [.int p0]) (hp' := wd σ) rfl ?_
  refine AW_if_lt hT hK 1 (tgt := 20) rfl rfl (fun c1 => ?_) (fun c1 => ?_)
  · refine AW_vret hT hE 12 rfl (Nat.le_of_ble_eq_true rfl) (Nat.le_of_ble_eq_true rfl) ?_
    exact ⟨rfl, congrArg wd (by simp only [x_X2_set_34, if_pos c1])⟩
  · refine AW_g hT cl_X2 hK 2 4 (pc' := 10) (lo' := [some (.ref 34), some (.int p0), some (.int p1)]) (st' := [.int 12, .int p0]) (hp' := wd σ) rfl ?_
    refine AW_icmp_ge hT hK 6 (tgt := 20) rfl rfl (fun c2 => ?_) (fun c2 => ?_)
    · refine AW_vret hT hE 12 rfl (Nat.le_of_ble_eq_true rfl) (Nat.le_of_ble_eq_true rfl) ?_
      exact ⟨rfl, congrArg wd (by simp only [x_X2_set_34, if_neg c1, if_pos c2])⟩
    · refine AW_g hT cl_X2 hK 7 4 (pc' := 19) (lo' := [some (.ref 34), some (.int p0), some (.int p1)]) (st' := [.int p1, .int p0, .ref 35]) (hp' := wd σ) rfl ?_
      refine AW_iastx hT hK 11 rfl (n := 12) (f := (σ.2.1 35)) rfl (az_in12 c1 c2) ?_
      refine AW_to (hp' := wd (sG σ 35 (va_up (σ.2.1 35) p0.toNatClampNeg p1))) rfl rfl rfl ?_
      refine AW_vret hT hE 12 rfl (Nat.le_of_ble_eq_true rfl) (Nat.le_of_ble_eq_true rfl) ?_
      exact ⟨rfl, congrArg wd (by simp only [x_X2_set_34, if_neg c1, if_neg c2])⟩
def x_X2_at_32 (σ : az_S) (p0 : Int32) : Int32 :=
  if p0 < 0 then
    0
  else
    if 12 ≤ p0 then
      0
    else
      ((σ.2.1 33) p0.toNatClampNeg)
set_option maxRecDepth 100000 in
set_option maxHeartbeats 4000000 in
theorem m_X2_at_32 (l0 : Launch) (σ : az_S) (p0 : Int32) : AMet l0 yX2_at cX2_at 2 (some .int) ({ frames := 0, cells := 0, slots := 0, locals := 0 } : Room) false [.ref 32, .int p0] (wd σ) (fun r h => r = some (.int (x_X2_at_32 σ p0)) ∧ h = wd σ) := by
  refine AMet_of (by decide +kernel) (by simp [Value.category]) (Nat.le_of_ble_eq_true rfl) (fun K hK hct hG hE => ?_)
  have hT := tt_X2_at
  refine AW_g hT cl_X2 hK 0 1 (pc' := 1) (lo' := [some (.ref 32), some (.int p0)]) (st' := [.int p0]) (hp' := wd σ) rfl ?_
  refine AW_if_lt hT hK 1 (tgt := 22) rfl rfl (fun c1 => ?_) (fun c1 => ?_)
  · refine AW_g hT cl_X2 hK 12 1 (pc' := 23) (lo' := [some (.ref 32), some (.int p0)]) (st' := [.int 0]) (hp' := wd σ) rfl ?_
    refine AW_iret hT hE 13 rfl rfl rfl (Nat.le_of_ble_eq_true rfl) (Nat.le_of_ble_eq_true rfl) ?_
    exact ⟨by simp only [x_X2_at_32, if_pos c1], rfl⟩
  · refine AW_g hT cl_X2 hK 2 4 (pc' := 10) (lo' := [some (.ref 32), some (.int p0)]) (st' := [.int 12, .int p0]) (hp' := wd σ) rfl ?_
    refine AW_icmp_ge hT hK 6 (tgt := 22) rfl rfl (fun c2 => ?_) (fun c2 => ?_)
    · refine AW_g hT cl_X2 hK 12 1 (pc' := 23) (lo' := [some (.ref 32), some (.int p0)]) (st' := [.int 0]) (hp' := wd σ) rfl ?_
      refine AW_iret hT hE 13 rfl rfl rfl (Nat.le_of_ble_eq_true rfl) (Nat.le_of_ble_eq_true rfl) ?_
      exact ⟨by simp only [x_X2_at_32, if_neg c1, if_pos c2], rfl⟩
    · refine AW_g hT cl_X2 hK 7 3 (pc' := 18) (lo' := [some (.ref 32), some (.int p0)]) (st' := [.int p0, .ref 33]) (hp' := wd σ) rfl ?_
      refine AW_ialdx hT hK 10 rfl (n := 12) (f := (σ.2.1 33)) rfl (az_in12 c1 c2) ?_
      refine AW_goto hT hK 11 (tgt := 23) rfl rfl ?_
      refine AW_iret hT hE 13 rfl rfl rfl (Nat.le_of_ble_eq_true rfl) (Nat.le_of_ble_eq_true rfl) ?_
      exact ⟨by simp only [x_X2_at_32, if_neg c1, if_neg c2], rfl⟩
def b_X1_follow_9 (d1 : Int32) (i : Nat) (w2 : Int32) (σ : az_S) : Int32 × az_S :=
  let τ4 := x_X2_set_34 σ (nI i) w2
  let u5 := ((τ4.1 6) + 1)
  let v8 := x_X2_at_32 (sF τ4 6 u5) w2
  (v8, (sF τ4 6 u5))
set_option maxRecDepth 100000 in
set_option maxHeartbeats 4000000 in
theorem lp_X1_follow_9 {K : az_K} {l0 : Launch} (hT : az_Tb cX1_follow tb_X1_follow) (hK : az_OK K RX1 cX1_follow ({ frames := 1, cells := 0, slots := 0, locals := 22 } : Room) l0) (d1 : Int32) :
    ∀ (n i : Nat) (w2 : Int32) (σ : az_S) (hi : i + n = 12) (kx : ∀ s' : Int32 × az_S, az_ws (fun s : Int32 × az_S => decide (s.1 = (-1))) (fun ι s => b_X1_follow_9 d1 ι s.1 s.2) n i (w2, σ) = s' → AW K 0 0 54 [some (.ref 25), some (.int d1), some (.int s'.1), none] [] (wd s'.2)), AW K 0 0 9 [some (.ref 25), some (.int d1), some (.int w2), some (.int (nI i))] [] (wd σ) := by
  intro n
  induction n with
  | zero =>
    intro i w2 σ hi kx
    refine AW_g hT cl_X1 hK 7 2 (pc' := 12) (lo' := [some (.ref 25), some (.int d1), some (.int w2), some (.int (nI i))]) (st' := [.int 12, .int (nI i)]) (hp' := wd σ) rfl ?_
    refine AW_icmp_ge hT hK 9 (tgt := 54) rfl rfl (fun c9 => ?_) (fun c9 => absurd (az_c0 hi) c9)
    refine AW_msk [true, true, true, false] (lo' := [some (.ref 25), some (.int d1), some (.int w2), none]) rfl ?_
    exact kx (w2, σ) rfl
  | succ n ih =>
    intro i w2 σ hi kx
    refine AW_g hT cl_X1 hK 7 2 (pc' := 12) (lo' := [some (.ref 25), some (.int d1), some (.int w2), some (.int (nI i))]) (st' := [.int 12, .int (nI i)]) (hp' := wd σ) rfl ?_
    refine AW_icmp_ge hT hK 9 (tgt := 54) rfl rfl (fun c1 => absurd c1 (az_c1 hi)) (fun c1 => ?_)
    refine AW_g hT cl_X1 hK 10 2 (pc' := 17) (lo' := [some (.ref 25), some (.int d1), some (.int w2), some (.int (nI i))]) (st' := [.int (-1), .int w2]) (hp' := wd σ) rfl ?_
    refine AW_icmp_eq hT hK 12 (tgt := 54) rfl rfl (fun c2 => ?_) (fun c2 => ?_)
    · refine AW_msk [true, true, true, false] (lo' := [some (.ref 25), some (.int d1), some (.int w2), none]) rfl ?_
      exact kx (w2, σ) (az_ws_st (by simp only [c2, decide_true]))
    refine AW_g hT cl_X1 hK 13 4 (pc' := 26) (lo' := [some (.ref 25), some (.int d1), some (.int w2), some (.int (nI i))]) (st' := [.int w2, .int (nI i), .ref 34]) (hp' := wd σ) rfl ?_
    refine AW_callV hT hK 17 [.int (nI i), .int w2] [] (m_X2_set_34 l0 σ (nI i) w2) cw_X2_set lk_X1_53 vi_X2_set rfl rfl rfl rfl rfl rfl (Nat.le_of_ble_eq_true rfl) (Nat.le_of_ble_eq_true rfl) (AW_kv (fun τ4 h3 => ?_))
    refine AW_g hT cl_X1 hK 18 5 (pc' := 36) (lo' := [some (.ref 25), some (.int d1), some (.int w2), some (.int (nI i))]) (st' := [.int ((τ4.1 6) + 1), .ref 25]) (hp' := wd (τ4)) rfl ?_
    refine AW_topi (fun u5 h6 => ?_)
    refine AW_g hT cl_X1 hK 23 4 (pc' := 44) (lo' := [some (.ref 25), some (.int d1), some (.int w2), some (.int (nI i))]) (st' := [.int w2, .ref 32]) (hp' := wd (sF τ4 6 u5)) rfl ?_
    refine AW_callV hT hK 27 [.int w2] [] (m_X2_at_32 l0 (sF τ4 6 u5) w2) cw_X2_at lk_X1_40 vi_X2_at rfl rfl rfl rfl rfl rfl (Nat.le_of_ble_eq_true rfl) (Nat.le_of_ble_eq_true rfl) (AW_k1 (fun v8 h7 => ?_))
    refine AW_g hT cl_X1 hK 28 2 (pc' := 51) (lo' := [some (.ref 25), some (.int d1), some (.int v8), some (.int ((nI i) + 1))]) (st' := []) (hp' := wd (sF τ4 6 u5)) rfl ?_
    refine AW_goto hT hK 30 (tgt := 9) rfl rfl ?_
    refine AW_to (lo' := [some (.ref 25), some (.int d1), some (.int v8), some (.int (nI (i + 1)))]) (by rw [nI_1]) rfl rfl ?_
    subst h7; subst h6; subst h3; skip
    exact ih (i + 1) _ _ (by omega) (fun s' hs' => kx s' ((az_ws_go (by simp only [c2, decide_false])).trans ((congrArg (az_ws (fun s : Int32 × az_S => decide (s.1 = (-1))) _ n (i + 1)) (by simp only [b_X1_follow_9])).trans hs')))
def x_X1_follow (σ : az_S) (p0 : Int32) : az_S :=
  let s10 := az_ws (fun s : Int32 × az_S => decide (s.1 = (-1))) (fun ι s => b_X1_follow_9 p0 ι s.1 s.2) 12 0 (p0, (sF σ 6 0))
  s10.2
set_option maxRecDepth 100000 in
set_option maxHeartbeats 4000000 in
theorem m_X1_follow (l0 : Launch) (σ : az_S) (p0 : Int32) : AMet l0 yX1_follow cX1_follow 4 none ({ frames := 1, cells := 0, slots := 0, locals := 22 } : Room) false [.ref 25, .int p0] (wd σ) (fun r h => r = none ∧ h = wd (x_X1_follow σ p0)) := by
  refine AMet_of (by decide +kernel) (by simp [Value.category]) (Nat.le_of_ble_eq_true rfl) (fun K hK hct hG hE => ?_)
  have hT := tt_X1_follow
  refine AW_g hT cl_X1 hK 0 7 (pc' := 9) (lo' := [some (.ref 25), some (.int p0), some (.int p0), some (.int 0)]) (st' := []) (hp' := wd (sF σ 6 0)) rfl ?_
  refine AW_to (lo' := [some (.ref 25), some (.int p0), some (.int p0), some (.int (nI 0))]) (rfl) rfl rfl ?_
  refine lp_X1_follow_9 hT hK p0 12 0 p0 (sF σ 6 0) (by first | rfl | omega) (fun s10 h11 => ?_)
  refine AW_vret hT hE 31 rfl (Nat.le_of_ble_eq_true rfl) (Nat.le_of_ble_eq_true rfl) ?_
  subst h11; exact ⟨rfl, congrArg wd (by simp only [x_X1_follow])⟩
def b_X1_sumOver_26_4 (σ : az_S) (d1 : Int32) (i : Nat) (w2 : Int32) : Int32 :=
  let v3 := x_X5_holds σ d1 (nI i)
  if v3 = 0 then
    w2
  else
    let v6 := x_X2_at_26 σ (nI i)
    (w2 + v6)
set_option maxRecDepth 100000 in
set_option maxHeartbeats 4000000 in
theorem lp_X1_sumOver_26_4 {K : az_K} {l0 : Launch} (hT : az_Tb cX1_sumOver tb_X1_sumOver) (hK : az_OK K RX1 cX1_sumOver ({ frames := 1, cells := 0, slots := 0, locals := 21 } : Room) l0) (σ : az_S) (d1 : Int32) :
    ∀ (n i : Nat) (w2 : Int32) (hi : i + n = 12) (kx : ∀ s' : Int32, az_it (fun ι s => b_X1_sumOver_26_4 σ d1 ι s) n i w2 = s' → AW K 0 0 32 [some (.ref 26), some (.int d1), some (.int s'), none] [] (wd σ)), AW K 0 0 4 [some (.ref 26), some (.int d1), some (.int w2), some (.int (nI i))] [] (wd σ) := by
  intro n
  induction n with
  | zero =>
    intro i w2 hi kx
    refine AW_g hT cl_X1 hK 4 2 (pc' := 7) (lo' := [some (.ref 26), some (.int d1), some (.int w2), some (.int (nI i))]) (st' := [.int 12, .int (nI i)]) (hp' := wd σ) rfl ?_
    refine AW_icmp_ge hT hK 6 (tgt := 32) rfl rfl (fun c7 => ?_) (fun c7 => absurd (az_c0 hi) c7)
    refine AW_msk [true, true, true, false] (lo' := [some (.ref 26), some (.int d1), some (.int w2), none]) rfl ?_
    exact kx w2 rfl
  | succ n ih =>
    intro i w2 hi kx
    refine AW_g hT cl_X1 hK 4 2 (pc' := 7) (lo' := [some (.ref 26), some (.int d1), some (.int w2), some (.int (nI i))]) (st' := [.int 12, .int (nI i)]) (hp' := wd σ) rfl ?_
    refine AW_icmp_ge hT hK 6 (tgt := 32) rfl rfl (fun c1 => absurd c1 (az_c1 hi)) (fun c1 => ?_)
    refine AW_g hT cl_X1 hK 7 2 (pc' := 12) (lo' := [some (.ref 26), some (.int d1), some (.int w2), some (.int (nI i))]) (st' := [.int (nI i), .int d1]) (hp' := wd σ) rfl ?_
    refine AW_callSN hT hK 9 [.int d1, .int (nI i)] [] (m_X5_holds l0 σ d1 (nI i)) cw_X5_holds lk_X1_68 sm_X5_holds rfl rfl rfl rfl (Nat.le_of_ble_eq_true rfl) (Nat.le_of_ble_eq_true rfl) (AW_k1 (fun v3 h2 => ?_))
    refine AW_if_eq hT hK 10 (tgt := 26) rfl rfl (fun c4 => ?_) (fun c4 => ?_)
    · refine AW_g hT cl_X1 hK 17 1 (pc' := 29) (lo' := [some (.ref 26), some (.int d1), some (.int w2), some (.int ((nI i) + 1))]) (st' := []) (hp' := wd σ) rfl ?_
      refine AW_goto hT hK 18 (tgt := 4) rfl rfl ?_
      refine AW_to (lo' := [some (.ref 26), some (.int d1), some (.int w2), some (.int (nI (i + 1)))]) (by rw [nI_1]) rfl rfl ?_
      subst h2; skip
      exact ih (i + 1) _ (by omega) (fun s' hs' => kx s' ((congrArg (az_it _ n (i + 1)) (by simp only [b_X1_sumOver_26_4, if_pos c4])).trans hs'))
    · refine AW_g hT cl_X1 hK 11 3 (pc' := 21) (lo' := [some (.ref 26), some (.int d1), some (.int w2), some (.int (nI i))]) (st' := [.int (nI i), .ref 26, .int w2]) (hp' := wd σ) rfl ?_
      refine AW_callV hT hK 14 [.int (nI i)] [.int w2] (m_X2_at_26 l0 σ (nI i)) cw_X2_at lk_X1_40 vi_X2_at rfl rfl rfl rfl rfl rfl (Nat.le_of_ble_eq_true rfl) (Nat.le_of_ble_eq_true rfl) (AW_k1 (fun v6 h5 => ?_))
      refine AW_g hT cl_X1 hK 15 3 (pc' := 29) (lo' := [some (.ref 26), some (.int d1), some (.int (w2 + v6)), some (.int ((nI i) + 1))]) (st' := []) (hp' := wd σ) rfl ?_
      refine AW_goto hT hK 18 (tgt := 4) rfl rfl ?_
      refine AW_to (lo' := [some (.ref 26), some (.int d1), some (.int (w2 + v6)), some (.int (nI (i + 1)))]) (by rw [nI_1]) rfl rfl ?_
      subst h5; subst h2; skip
      exact ih (i + 1) _ (by omega) (fun s' hs' => kx s' ((congrArg (az_it _ n (i + 1)) (by simp only [b_X1_sumOver_26_4, if_neg c4])).trans hs'))
def x_X1_sumOver_26 (σ : az_S) (p0 : Int32) : Int32 :=
  let s8 := az_it (fun ι s => b_X1_sumOver_26_4 σ p0 ι s) 12 0 0
  if p0 = 0 then
    1
  else
    s8
set_option maxRecDepth 100000 in
set_option maxHeartbeats 4000000 in
theorem m_X1_sumOver_26 (l0 : Launch) (σ : az_S) (p0 : Int32) : AMet l0 yX1_sumOver cX1_sumOver 4 (some .int) ({ frames := 1, cells := 0, slots := 0, locals := 21 } : Room) false [.ref 26, .int p0] (wd σ) (fun r h => r = some (.int (x_X1_sumOver_26 σ p0)) ∧ h = wd σ) := by
  refine AMet_of (by decide +kernel) (by simp [Value.category]) (Nat.le_of_ble_eq_true rfl) (fun K hK hct hG hE => ?_)
  have hT := tt_X1_sumOver
  refine AW_g hT cl_X1 hK 0 4 (pc' := 4) (lo' := [some (.ref 26), some (.int p0), some (.int 0), some (.int 0)]) (st' := []) (hp' := wd σ) rfl ?_
  refine AW_to (lo' := [some (.ref 26), some (.int p0), some (.int 0), some (.int (nI 0))]) (rfl) rfl rfl ?_
  refine lp_X1_sumOver_26_4 hT hK σ p0 12 0 0 (by first | rfl | omega) (fun s8 h9 => ?_)
  refine AW_g hT cl_X1 hK 19 1 (pc' := 33) (lo' := [some (.ref 26), some (.int p0), some (.int s8), none]) (st' := [.int p0]) (hp' := wd σ) rfl ?_
  refine AW_if_ne hT hK 20 (tgt := 40) rfl rfl (fun c10 => ?_) (fun c10 => ?_)
  · refine AW_g hT cl_X1 hK 23 1 (pc' := 41) (lo' := [some (.ref 26), some (.int p0), some (.int s8), none]) (st' := [.int s8]) (hp' := wd σ) rfl ?_
    refine AW_iret hT hE 24 rfl rfl rfl (Nat.le_of_ble_eq_true rfl) (Nat.le_of_ble_eq_true rfl) ?_
    subst h9; exact ⟨by simp only [x_X1_sumOver_26, if_neg c10], rfl⟩
  · refine AW_g hT cl_X1 hK 21 1 (pc' := 37) (lo' := [some (.ref 26), some (.int p0), some (.int s8), none]) (st' := [.int 1]) (hp' := wd σ) rfl ?_
    refine AW_goto hT hK 22 (tgt := 41) rfl rfl ?_
    refine AW_iret hT hE 24 rfl rfl rfl (Nat.le_of_ble_eq_true rfl) (Nat.le_of_ble_eq_true rfl) ?_
    subst h9; exact ⟨by simp only [x_X1_sumOver_26, if_pos c10], rfl⟩
def b_X1_sumOver_28_4 (σ : az_S) (d1 : Int32) (i : Nat) (w2 : Int32) : Int32 :=
  let v3 := x_X5_holds σ d1 (nI i)
  if v3 = 0 then
    w2
  else
    let v6 := x_X2_at_28 σ (nI i)
    (w2 + v6)
set_option maxRecDepth 100000 in
set_option maxHeartbeats 4000000 in
theorem lp_X1_sumOver_28_4 {K : az_K} {l0 : Launch} (hT : az_Tb cX1_sumOver tb_X1_sumOver) (hK : az_OK K RX1 cX1_sumOver ({ frames := 1, cells := 0, slots := 0, locals := 21 } : Room) l0) (σ : az_S) (d1 : Int32) :
    ∀ (n i : Nat) (w2 : Int32) (hi : i + n = 12) (kx : ∀ s' : Int32, az_it (fun ι s => b_X1_sumOver_28_4 σ d1 ι s) n i w2 = s' → AW K 0 0 32 [some (.ref 28), some (.int d1), some (.int s'), none] [] (wd σ)), AW K 0 0 4 [some (.ref 28), some (.int d1), some (.int w2), some (.int (nI i))] [] (wd σ) := by
  intro n
  induction n with
  | zero =>
    intro i w2 hi kx
    refine AW_g hT cl_X1 hK 4 2 (pc' := 7) (lo' := [some (.ref 28), some (.int d1), some (.int w2), some (.int (nI i))]) (st' := [.int 12, .int (nI i)]) (hp' := wd σ) rfl ?_
    refine AW_icmp_ge hT hK 6 (tgt := 32) rfl rfl (fun c7 => ?_) (fun c7 => absurd (az_c0 hi) c7)
    refine AW_msk [true, true, true, false] (lo' := [some (.ref 28), some (.int d1), some (.int w2), none]) rfl ?_
    exact kx w2 rfl
  | succ n ih =>
    intro i w2 hi kx
    refine AW_g hT cl_X1 hK 4 2 (pc' := 7) (lo' := [some (.ref 28), some (.int d1), some (.int w2), some (.int (nI i))]) (st' := [.int 12, .int (nI i)]) (hp' := wd σ) rfl ?_
    refine AW_icmp_ge hT hK 6 (tgt := 32) rfl rfl (fun c1 => absurd c1 (az_c1 hi)) (fun c1 => ?_)
    refine AW_g hT cl_X1 hK 7 2 (pc' := 12) (lo' := [some (.ref 28), some (.int d1), some (.int w2), some (.int (nI i))]) (st' := [.int (nI i), .int d1]) (hp' := wd σ) rfl ?_
    refine AW_callSN hT hK 9 [.int d1, .int (nI i)] [] (m_X5_holds l0 σ d1 (nI i)) cw_X5_holds lk_X1_68 sm_X5_holds rfl rfl rfl rfl (Nat.le_of_ble_eq_true rfl) (Nat.le_of_ble_eq_true rfl) (AW_k1 (fun v3 h2 => ?_))
    refine AW_if_eq hT hK 10 (tgt := 26) rfl rfl (fun c4 => ?_) (fun c4 => ?_)
    · refine AW_g hT cl_X1 hK 17 1 (pc' := 29) (lo' := [some (.ref 28), some (.int d1), some (.int w2), some (.int ((nI i) + 1))]) (st' := []) (hp' := wd σ) rfl ?_
      refine AW_goto hT hK 18 (tgt := 4) rfl rfl ?_
      refine AW_to (lo' := [some (.ref 28), some (.int d1), some (.int w2), some (.int (nI (i + 1)))]) (by rw [nI_1]) rfl rfl ?_
      subst h2; skip
      exact ih (i + 1) _ (by omega) (fun s' hs' => kx s' ((congrArg (az_it _ n (i + 1)) (by simp only [b_X1_sumOver_28_4, if_pos c4])).trans hs'))
    · refine AW_g hT cl_X1 hK 11 3 (pc' := 21) (lo' := [some (.ref 28), some (.int d1), some (.int w2), some (.int (nI i))]) (st' := [.int (nI i), .ref 28, .int w2]) (hp' := wd σ) rfl ?_
      refine AW_callV hT hK 14 [.int (nI i)] [.int w2] (m_X2_at_28 l0 σ (nI i)) cw_X2_at lk_X1_40 vi_X2_at rfl rfl rfl rfl rfl rfl (Nat.le_of_ble_eq_true rfl) (Nat.le_of_ble_eq_true rfl) (AW_k1 (fun v6 h5 => ?_))
      refine AW_g hT cl_X1 hK 15 3 (pc' := 29) (lo' := [some (.ref 28), some (.int d1), some (.int (w2 + v6)), some (.int ((nI i) + 1))]) (st' := []) (hp' := wd σ) rfl ?_
      refine AW_goto hT hK 18 (tgt := 4) rfl rfl ?_
      refine AW_to (lo' := [some (.ref 28), some (.int d1), some (.int (w2 + v6)), some (.int (nI (i + 1)))]) (by rw [nI_1]) rfl rfl ?_
      subst h5; subst h2; skip
      exact ih (i + 1) _ (by omega) (fun s' hs' => kx s' ((congrArg (az_it _ n (i + 1)) (by simp only [b_X1_sumOver_28_4, if_neg c4])).trans hs'))
def x_X1_sumOver_28 (σ : az_S) (p0 : Int32) : Int32 :=
  let s8 := az_it (fun ι s => b_X1_sumOver_28_4 σ p0 ι s) 12 0 0
  if p0 = 0 then
    1
  else
    s8
set_option maxRecDepth 100000 in
set_option maxHeartbeats 4000000 in
theorem m_X1_sumOver_28 (l0 : Launch) (σ : az_S) (p0 : Int32) : AMet l0 yX1_sumOver cX1_sumOver 4 (some .int) ({ frames := 1, cells := 0, slots := 0, locals := 21 } : Room) false [.ref 28, .int p0] (wd σ) (fun r h => r = some (.int (x_X1_sumOver_28 σ p0)) ∧ h = wd σ) := by
  refine AMet_of (by decide +kernel) (by simp [Value.category]) (Nat.le_of_ble_eq_true rfl) (fun K hK hct hG hE => ?_)
  have hT := tt_X1_sumOver
  refine AW_g hT cl_X1 hK 0 4 (pc' := 4) (lo' := [some (.ref 28), some (.int p0), some (.int 0), some (.int 0)]) (st' := []) (hp' := wd σ) rfl ?_
  refine AW_to (lo' := [some (.ref 28), some (.int p0), some (.int 0), some (.int (nI 0))]) (rfl) rfl rfl ?_
  refine lp_X1_sumOver_28_4 hT hK σ p0 12 0 0 (by first | rfl | omega) (fun s8 h9 => ?_)
  refine AW_g hT cl_X1 hK 19 1 (pc' := 33) (lo' := [some (.ref 28), some (.int p0), some (.int s8), none]) (st' := [.int p0]) (hp' := wd σ) rfl ?_
  refine AW_if_ne hT hK 20 (tgt := 40) rfl rfl (fun c10 => ?_) (fun c10 => ?_)
  · refine AW_g hT cl_X1 hK 23 1 (pc' := 41) (lo' := [some (.ref 28), some (.int p0), some (.int s8), none]) (st' := [.int s8]) (hp' := wd σ) rfl ?_
    refine AW_iret hT hE 24 rfl rfl rfl (Nat.le_of_ble_eq_true rfl) (Nat.le_of_ble_eq_true rfl) ?_
    subst h9; exact ⟨by simp only [x_X1_sumOver_28, if_neg c10], rfl⟩
  · refine AW_g hT cl_X1 hK 21 1 (pc' := 37) (lo' := [some (.ref 28), some (.int p0), some (.int s8), none]) (st' := [.int 1]) (hp' := wd σ) rfl ?_
    refine AW_goto hT hK 22 (tgt := 41) rfl rfl ?_
    refine AW_iret hT hE 24 rfl rfl rfl (Nat.le_of_ble_eq_true rfl) (Nat.le_of_ble_eq_true rfl) ?_
    subst h9; exact ⟨by simp only [x_X1_sumOver_28, if_pos c10], rfl⟩
def x_X2_at_30 (σ : az_S) (p0 : Int32) : Int32 :=
  if p0 < 0 then
    0
  else
    if 12 ≤ p0 then
      0
    else
      ((σ.2.1 31) p0.toNatClampNeg)
set_option maxRecDepth 100000 in
set_option maxHeartbeats 4000000 in
theorem m_X2_at_30 (l0 : Launch) (σ : az_S) (p0 : Int32) : AMet l0 yX2_at cX2_at 2 (some .int) ({ frames := 0, cells := 0, slots := 0, locals := 0 } : Room) false [.ref 30, .int p0] (wd σ) (fun r h => r = some (.int (x_X2_at_30 σ p0)) ∧ h = wd σ) := by
  refine AMet_of (by decide +kernel) (by simp [Value.category]) (Nat.le_of_ble_eq_true rfl) (fun K hK hct hG hE => ?_)
  have hT := tt_X2_at
  refine AW_g hT cl_X2 hK 0 1 (pc' := 1) (lo' := [some (.ref 30), some (.int p0)]) (st' := [.int p0]) (hp' := wd σ) rfl ?_
  refine AW_if_lt hT hK 1 (tgt := 22) rfl rfl (fun c1 => ?_) (fun c1 => ?_)
  · refine AW_g hT cl_X2 hK 12 1 (pc' := 23) (lo' := [some (.ref 30), some (.int p0)]) (st' := [.int 0]) (hp' := wd σ) rfl ?_
    refine AW_iret hT hE 13 rfl rfl rfl (Nat.le_of_ble_eq_true rfl) (Nat.le_of_ble_eq_true rfl) ?_
    exact ⟨by simp only [x_X2_at_30, if_pos c1], rfl⟩
  · refine AW_g hT cl_X2 hK 2 4 (pc' := 10) (lo' := [some (.ref 30), some (.int p0)]) (st' := [.int 12, .int p0]) (hp' := wd σ) rfl ?_
    refine AW_icmp_ge hT hK 6 (tgt := 22) rfl rfl (fun c2 => ?_) (fun c2 => ?_)
    · refine AW_g hT cl_X2 hK 12 1 (pc' := 23) (lo' := [some (.ref 30), some (.int p0)]) (st' := [.int 0]) (hp' := wd σ) rfl ?_
      refine AW_iret hT hE 13 rfl rfl rfl (Nat.le_of_ble_eq_true rfl) (Nat.le_of_ble_eq_true rfl) ?_
      exact ⟨by simp only [x_X2_at_30, if_neg c1, if_pos c2], rfl⟩
    · refine AW_g hT cl_X2 hK 7 3 (pc' := 18) (lo' := [some (.ref 30), some (.int p0)]) (st' := [.int p0, .ref 31]) (hp' := wd σ) rfl ?_
      refine AW_ialdx hT hK 10 rfl (n := 12) (f := (σ.2.1 31)) rfl (az_in12 c1 c2) ?_
      refine AW_goto hT hK 11 (tgt := 23) rfl rfl ?_
      refine AW_iret hT hE 13 rfl rfl rfl (Nat.le_of_ble_eq_true rfl) (Nat.le_of_ble_eq_true rfl) ?_
      exact ⟨by simp only [x_X2_at_30, if_neg c1, if_neg c2], rfl⟩
def x_X2_set_32 (σ : az_S) (p0 : Int32) (p1 : Int32) : az_S :=
  if p0 < 0 then
    σ
  else
    if 12 ≤ p0 then
      σ
    else
      (sG σ 33 (va_up (σ.2.1 33) p0.toNatClampNeg p1))
set_option maxRecDepth 100000 in
set_option maxHeartbeats 4000000 in
theorem m_X2_set_32 (l0 : Launch) (σ : az_S) (p0 : Int32) (p1 : Int32) : AMet l0 yX2_set cX2_set 3 none ({ frames := 0, cells := 0, slots := 0, locals := 0 } : Room) false [.ref 32, .int p0, .int p1] (wd σ) (fun r h => r = none ∧ h = wd (x_X2_set_32 σ p0 p1)) := by
  refine AMet_of (by decide +kernel) (by simp [Value.category]) (Nat.le_of_ble_eq_true rfl) (fun K hK hct hG hE => ?_)
  have hT := tt_X2_set
  refine AW_g hT cl_X2 hK 0 1 (pc' := 1) (lo' := [some (.ref 32), some (.int p0), some (.int p1)]) (st' := [.int p0]) (hp' := wd σ) rfl ?_
  refine AW_if_lt hT hK 1 (tgt := 20) rfl rfl (fun c1 => ?_) (fun c1 => ?_)
  · refine AW_vret hT hE 12 rfl (Nat.le_of_ble_eq_true rfl) (Nat.le_of_ble_eq_true rfl) ?_
    exact ⟨rfl, congrArg wd (by simp only [x_X2_set_32, if_pos c1])⟩
  · refine AW_g hT cl_X2 hK 2 4 (pc' := 10) (lo' := [some (.ref 32), some (.int p0), some (.int p1)]) (st' := [.int 12, .int p0]) (hp' := wd σ) rfl ?_
    refine AW_icmp_ge hT hK 6 (tgt := 20) rfl rfl (fun c2 => ?_) (fun c2 => ?_)
    · refine AW_vret hT hE 12 rfl (Nat.le_of_ble_eq_true rfl) (Nat.le_of_ble_eq_true rfl) ?_
      exact ⟨rfl, congrArg wd (by simp only [x_X2_set_32, if_neg c1, if_pos c2])⟩
    · refine AW_g hT cl_X2 hK 7 4 (pc' := 19) (lo' := [some (.ref 32), some (.int p0), some (.int p1)]) (st' := [.int p1, .int p0, .ref 33]) (hp' := wd σ) rfl ?_
      refine AW_iastx hT hK 11 rfl (n := 12) (f := (σ.2.1 33)) rfl (az_in12 c1 c2) ?_
      refine AW_to (hp' := wd (sG σ 33 (va_up (σ.2.1 33) p0.toNatClampNeg p1))) rfl rfl rfl ?_
      refine AW_vret hT hE 12 rfl (Nat.le_of_ble_eq_true rfl) (Nat.le_of_ble_eq_true rfl) ?_
      exact ⟨rfl, congrArg wd (by simp only [x_X2_set_32, if_neg c1, if_neg c2])⟩
def x_X2_set_30 (σ : az_S) (p0 : Int32) (p1 : Int32) : az_S :=
  if p0 < 0 then
    σ
  else
    if 12 ≤ p0 then
      σ
    else
      (sG σ 31 (va_up (σ.2.1 31) p0.toNatClampNeg p1))
set_option maxRecDepth 100000 in
set_option maxHeartbeats 4000000 in
theorem m_X2_set_30 (l0 : Launch) (σ : az_S) (p0 : Int32) (p1 : Int32) : AMet l0 yX2_set cX2_set 3 none ({ frames := 0, cells := 0, slots := 0, locals := 0 } : Room) false [.ref 30, .int p0, .int p1] (wd σ) (fun r h => r = none ∧ h = wd (x_X2_set_30 σ p0 p1)) := by
  refine AMet_of (by decide +kernel) (by simp [Value.category]) (Nat.le_of_ble_eq_true rfl) (fun K hK hct hG hE => ?_)
  have hT := tt_X2_set
  refine AW_g hT cl_X2 hK 0 1 (pc' := 1) (lo' := [some (.ref 30), some (.int p0), some (.int p1)]) (st' := [.int p0]) (hp' := wd σ) rfl ?_
  refine AW_if_lt hT hK 1 (tgt := 20) rfl rfl (fun c1 => ?_) (fun c1 => ?_)
  · refine AW_vret hT hE 12 rfl (Nat.le_of_ble_eq_true rfl) (Nat.le_of_ble_eq_true rfl) ?_
    exact ⟨rfl, congrArg wd (by simp only [x_X2_set_30, if_pos c1])⟩
  · refine AW_g hT cl_X2 hK 2 4 (pc' := 10) (lo' := [some (.ref 30), some (.int p0), some (.int p1)]) (st' := [.int 12, .int p0]) (hp' := wd σ) rfl ?_
    refine AW_icmp_ge hT hK 6 (tgt := 20) rfl rfl (fun c2 => ?_) (fun c2 => ?_)
    · refine AW_vret hT hE 12 rfl (Nat.le_of_ble_eq_true rfl) (Nat.le_of_ble_eq_true rfl) ?_
      exact ⟨rfl, congrArg wd (by simp only [x_X2_set_30, if_neg c1, if_pos c2])⟩
    · refine AW_g hT cl_X2 hK 7 4 (pc' := 19) (lo' := [some (.ref 30), some (.int p0), some (.int p1)]) (st' := [.int p1, .int p0, .ref 31]) (hp' := wd σ) rfl ?_
      refine AW_iastx hT hK 11 rfl (n := 12) (f := (σ.2.1 31)) rfl (az_in12 c1 c2) ?_
      refine AW_to (hp' := wd (sG σ 31 (va_up (σ.2.1 31) p0.toNatClampNeg p1))) rfl rfl rfl ?_
      refine AW_vret hT hE 12 rfl (Nat.le_of_ble_eq_true rfl) (Nat.le_of_ble_eq_true rfl) ?_
      exact ⟨rfl, congrArg wd (by simp only [x_X2_set_30, if_neg c1, if_neg c2])⟩
def b_X1_findNext_8 (σ : az_S) (d2 : Int32) (i : Nat) (w3 : Int32) (w4 : Int32) : Int32 × Int32 :=
  let v3 := x_X3_cites σ (nI i) d2
  if v3 = 0 then
    (w3, w4)
  else
    let v6 := x_X1_countOf σ (nI i) d2
    let v8 := x_X2_at_30 σ (nI i)
    if w3 = (-1) then
      ((nI i), (v6 + v8))
    else
      if (v6 + v8) ≤ w4 then
        (w3, w4)
      else
        ((nI i), (v6 + v8))
set_option maxRecDepth 100000 in
set_option maxHeartbeats 4000000 in
theorem lp_X1_findNext_8 {K : az_K} {l0 : Launch} (hT : az_Tb cX1_findNext tb_X1_findNext) (hK : az_OK K RX1 cX1_findNext ({ frames := 2, cells := 0, slots := 0, locals := 43 } : Room) l0) (σ : az_S) (d2 : Int32) :
    ∀ (n i : Nat) (w3 : Int32) (w4 : Int32) (hi : i + n = 12) (kx : ∀ s' : Int32 × Int32, az_it (fun ι s => b_X1_findNext_8 σ d2 ι s.1 s.2) n i (w3, w4) = s' → AW K 0 0 69 [some (.ref 25), some (.ref 1), some (.int d2), some (.int s'.1), some (.int s'.2), none, none] [] (wd σ)), AW K 0 0 8 [some (.ref 25), some (.ref 1), some (.int d2), some (.int w3), some (.int w4), some (.int (nI i)), none] [] (wd σ) := by
  intro n
  induction n with
  | zero =>
    intro i w3 w4 hi kx
    refine AW_g hT cl_X1 hK 6 2 (pc' := 12) (lo' := [some (.ref 25), some (.ref 1), some (.int d2), some (.int w3), some (.int w4), some (.int (nI i)), none]) (st' := [.int 12, .int (nI i)]) (hp' := wd σ) rfl ?_
    refine AW_icmp_ge hT hK 8 (tgt := 69) rfl rfl (fun c11 => ?_) (fun c11 => absurd (az_c0 hi) c11)
    refine AW_msk [true, true, true, true, true, false, false] (lo' := [some (.ref 25), some (.ref 1), some (.int d2), some (.int w3), some (.int w4), none, none]) rfl ?_
    exact kx (w3, w4) rfl
  | succ n ih =>
    intro i w3 w4 hi kx
    refine AW_g hT cl_X1 hK 6 2 (pc' := 12) (lo' := [some (.ref 25), some (.ref 1), some (.int d2), some (.int w3), some (.int w4), some (.int (nI i)), none]) (st' := [.int 12, .int (nI i)]) (hp' := wd σ) rfl ?_
    refine AW_icmp_ge hT hK 8 (tgt := 69) rfl rfl (fun c1 => absurd c1 (az_c1 hi)) (fun c1 => ?_)
    refine AW_g hT cl_X1 hK 9 3 (pc' := 19) (lo' := [some (.ref 25), some (.ref 1), some (.int d2), some (.int w3), some (.int w4), some (.int (nI i)), none]) (st' := [.int d2, .int (nI i), .ref 1]) (hp' := wd σ) rfl ?_
    refine AW_callV hT hK 12 [.int (nI i), .int d2] [] (m_X3_cites l0 σ (nI i) d2) cw_X3_cites lk_X1_72 vi_X3_cites rfl rfl rfl rfl rfl rfl (Nat.le_of_ble_eq_true rfl) (Nat.le_of_ble_eq_true rfl) (AW_k1 (fun v3 h2 => ?_))
    refine AW_if_eq hT hK 13 (tgt := 63) rfl rfl (fun c4 => ?_) (fun c4 => ?_)
    · refine AW_g hT cl_X1 hK 34 1 (pc' := 66) (lo' := [some (.ref 25), some (.ref 1), some (.int d2), some (.int w3), some (.int w4), some (.int ((nI i) + 1)), none]) (st' := []) (hp' := wd σ) rfl ?_
      refine AW_goto hT hK 35 (tgt := 8) rfl rfl ?_
      refine AW_to (lo' := [some (.ref 25), some (.ref 1), some (.int d2), some (.int w3), some (.int w4), some (.int (nI (i + 1))), none]) (by rw [nI_1]) rfl rfl ?_
      subst h2; skip
      exact ih (i + 1) _ _ (by omega) (fun s' hs' => kx s' ((congrArg (az_it _ n (i + 1)) (by simp only [b_X1_findNext_8, if_pos c4])).trans hs'))
    · refine AW_g hT cl_X1 hK 14 3 (pc' := 29) (lo' := [some (.ref 25), some (.ref 1), some (.int d2), some (.int w3), some (.int w4), some (.int (nI i)), none]) (st' := [.int d2, .int (nI i), .ref 25]) (hp' := wd σ) rfl ?_
      refine AW_callV hT hK 17 [.int (nI i), .int d2] [] (m_X1_countOf l0 σ (nI i) d2) cw_X1_countOf lk_X1_75 vi_X1_countOf rfl rfl rfl rfl rfl rfl (Nat.le_of_ble_eq_true rfl) (Nat.le_of_ble_eq_true rfl) (AW_k1 (fun v6 h5 => ?_))
      refine AW_g hT cl_X1 hK 18 3 (pc' := 38) (lo' := [some (.ref 25), some (.ref 1), some (.int d2), some (.int w3), some (.int w4), some (.int (nI i)), none]) (st' := [.int (nI i), .ref 30, .int v6]) (hp' := wd σ) rfl ?_
      refine AW_callV hT hK 21 [.int (nI i)] [.int v6] (m_X2_at_30 l0 σ (nI i)) cw_X2_at lk_X1_40 vi_X2_at rfl rfl rfl rfl rfl rfl (Nat.le_of_ble_eq_true rfl) (Nat.le_of_ble_eq_true rfl) (AW_k1 (fun v8 h7 => ?_))
      refine AW_g hT cl_X1 hK 22 4 (pc' := 46) (lo' := [some (.ref 25), some (.ref 1), some (.int d2), some (.int w3), some (.int w4), some (.int (nI i)), some (.int (v6 + v8))]) (st' := [.int (-1), .int w3]) (hp' := wd σ) rfl ?_
      refine AW_icmp_eq hT hK 26 (tgt := 56) rfl rfl (fun c9 => ?_) (fun c9 => ?_)
      · refine AW_g hT cl_X1 hK 30 5 (pc' := 66) (lo' := [some (.ref 25), some (.ref 1), some (.int d2), some (.int (nI i)), some (.int (v6 + v8)), some (.int ((nI i) + 1)), some (.int (v6 + v8))]) (st' := []) (hp' := wd σ) rfl ?_
        refine AW_goto hT hK 35 (tgt := 8) rfl rfl ?_
        refine AW_msk [true, true, true, true, true, true, false] (lo' := [some (.ref 25), some (.ref 1), some (.int d2), some (.int (nI i)), some (.int (v6 + v8)), some (.int ((nI i) + 1)), none]) rfl ?_
        refine AW_to (lo' := [some (.ref 25), some (.ref 1), some (.int d2), some (.int (nI i)), some (.int (v6 + v8)), some (.int (nI (i + 1))), none]) (by rw [nI_1]) rfl rfl ?_
        subst h7; subst h5; subst h2; skip
        exact ih (i + 1) _ _ (by omega) (fun s' hs' => kx s' ((congrArg (az_it _ n (i + 1)) (by simp only [b_X1_findNext_8, if_neg c4, if_pos c9])).trans hs'))
      · refine AW_g hT cl_X1 hK 27 2 (pc' := 53) (lo' := [some (.ref 25), some (.ref 1), some (.int d2), some (.int w3), some (.int w4), some (.int (nI i)), some (.int (v6 + v8))]) (st' := [.int w4, .int (v6 + v8)]) (hp' := wd σ) rfl ?_
        refine AW_icmp_le hT hK 29 (tgt := 63) rfl rfl (fun c10 => ?_) (fun c10 => ?_)
        · refine AW_g hT cl_X1 hK 34 1 (pc' := 66) (lo' := [some (.ref 25), some (.ref 1), some (.int d2), some (.int w3), some (.int w4), some (.int ((nI i) + 1)), some (.int (v6 + v8))]) (st' := []) (hp' := wd σ) rfl ?_
          refine AW_goto hT hK 35 (tgt := 8) rfl rfl ?_
          refine AW_msk [true, true, true, true, true, true, false] (lo' := [some (.ref 25), some (.ref 1), some (.int d2), some (.int w3), some (.int w4), some (.int ((nI i) + 1)), none]) rfl ?_
          refine AW_to (lo' := [some (.ref 25), some (.ref 1), some (.int d2), some (.int w3), some (.int w4), some (.int (nI (i + 1))), none]) (by rw [nI_1]) rfl rfl ?_
          subst h7; subst h5; subst h2; skip
          exact ih (i + 1) _ _ (by omega) (fun s' hs' => kx s' ((congrArg (az_it _ n (i + 1)) (by simp only [b_X1_findNext_8, if_neg c4, if_neg c9, if_pos c10])).trans hs'))
        · refine AW_g hT cl_X1 hK 30 5 (pc' := 66) (lo' := [some (.ref 25), some (.ref 1), some (.int d2), some (.int (nI i)), some (.int (v6 + v8)), some (.int ((nI i) + 1)), some (.int (v6 + v8))]) (st' := []) (hp' := wd σ) rfl ?_
          refine AW_goto hT hK 35 (tgt := 8) rfl rfl ?_
          refine AW_msk [true, true, true, true, true, true, false] (lo' := [some (.ref 25), some (.ref 1), some (.int d2), some (.int (nI i)), some (.int (v6 + v8)), some (.int ((nI i) + 1)), none]) rfl ?_
          refine AW_to (lo' := [some (.ref 25), some (.ref 1), some (.int d2), some (.int (nI i)), some (.int (v6 + v8)), some (.int (nI (i + 1))), none]) (by rw [nI_1]) rfl rfl ?_
          subst h7; subst h5; subst h2; skip
          exact ih (i + 1) _ _ (by omega) (fun s' hs' => kx s' ((congrArg (az_it _ n (i + 1)) (by simp only [b_X1_findNext_8, if_neg c4, if_neg c9, if_neg c10])).trans hs'))
def x_X1_findNext (σ : az_S) (p0 : Int32) : az_S :=
  let s12 := az_it (fun ι s => b_X1_findNext_8 σ p0 ι s.1 s.2) 12 0 ((-1), 0)
  let τ15 := x_X2_set_32 σ p0 s12.1
  let τ17 := x_X2_set_30 (τ15) p0 s12.2
  τ17
set_option maxRecDepth 100000 in
set_option maxHeartbeats 4000000 in
theorem m_X1_findNext (l0 : Launch) (σ : az_S) (p0 : Int32) : AMet l0 yX1_findNext cX1_findNext 7 none ({ frames := 2, cells := 0, slots := 0, locals := 43 } : Room) false [.ref 25, .ref 1, .int p0] (wd σ) (fun r h => r = none ∧ h = wd (x_X1_findNext σ p0)) := by
  refine AMet_of (by decide +kernel) (by simp [Value.category]) (Nat.le_of_ble_eq_true rfl) (fun K hK hct hG hE => ?_)
  have hT := tt_X1_findNext
  refine AW_g hT cl_X1 hK 0 6 (pc' := 8) (lo' := [some (.ref 25), some (.ref 1), some (.int p0), some (.int (-1)), some (.int 0), some (.int 0), none]) (st' := []) (hp' := wd σ) rfl ?_
  refine AW_to (lo' := [some (.ref 25), some (.ref 1), some (.int p0), some (.int (-1)), some (.int 0), some (.int (nI 0)), none]) (rfl) rfl rfl ?_
  refine lp_X1_findNext_8 hT hK σ p0 12 0 (-1) 0 (by first | rfl | omega) (fun s12 h13 => ?_)
  refine AW_g hT cl_X1 hK 36 4 (pc' := 75) (lo' := [some (.ref 25), some (.ref 1), some (.int p0), some (.int s12.1), some (.int s12.2), none, none]) (st' := [.int s12.1, .int p0, .ref 32]) (hp' := wd σ) rfl ?_
  refine AW_callV hT hK 40 [.int p0, .int s12.1] [] (m_X2_set_32 l0 σ p0 s12.1) cw_X2_set lk_X1_53 vi_X2_set rfl rfl rfl rfl rfl rfl (Nat.le_of_ble_eq_true rfl) (Nat.le_of_ble_eq_true rfl) (AW_kv (fun τ15 h14 => ?_))
  refine AW_g hT cl_X1 hK 41 4 (pc' := 85) (lo' := [some (.ref 25), some (.ref 1), some (.int p0), some (.int s12.1), some (.int s12.2), none, none]) (st' := [.int s12.2, .int p0, .ref 30]) (hp' := wd (τ15)) rfl ?_
  refine AW_callV hT hK 45 [.int p0, .int s12.2] [] (m_X2_set_30 l0 (τ15) p0 s12.2) cw_X2_set lk_X1_53 vi_X2_set rfl rfl rfl rfl rfl rfl (Nat.le_of_ble_eq_true rfl) (Nat.le_of_ble_eq_true rfl) (AW_kv (fun τ17 h16 => ?_))
  refine AW_vret hT hE 46 rfl (Nat.le_of_ble_eq_true rfl) (Nat.le_of_ble_eq_true rfl) ?_
  subst h16; subst h14; subst h13; exact ⟨rfl, congrArg wd (by simp only [x_X1_findNext])⟩
def b_X1_findMain_14 (i : Nat) (w2 : Int32) (σ : az_S) : Int32 × az_S :=
  let v3 := x_X3_has σ (nI i)
  if v3 = 0 then
    (w2, σ)
  else
    let v6 := x_X3_referredBy σ (nI i)
    if v6 = 0 then
      let v9 := x_X2_at_28 σ (nI i)
      let u10 := ((σ.1 5) + v9)
      if w2 = (-1) then
        let v14 := x_X2_at_30 (sF σ 5 u10) (nI i)
        ((nI i), (sF (sF σ 5 u10) 7 v14))
      else
        let v16 := x_X2_at_30 (sF σ 5 u10) (nI i)
        if v16 ≤ ((sF σ 5 u10).1 7) then
          (w2, (sF σ 5 u10))
        else
          let v19 := x_X2_at_30 (sF σ 5 u10) (nI i)
          ((nI i), (sF (sF σ 5 u10) 7 v19))
    else
      (w2, σ)
set_option maxRecDepth 100000 in
set_option maxHeartbeats 4000000 in
theorem lp_X1_findMain_14 {K : az_K} {l0 : Launch} (hT : az_Tb cX1_findMain tb_X1_findMain) (hK : az_OK K RX1 cX1_findMain ({ frames := 2, cells := 0, slots := 0, locals := 45 } : Room) l0) :
    ∀ (n i : Nat) (w2 : Int32) (σ : az_S) (hi : i + n = 12) (kx : ∀ s' : Int32 × az_S, az_it (fun ι s => b_X1_findMain_14 ι s.1 s.2) n i (w2, σ) = s' → AW K 0 0 93 [some (.ref 25), some (.ref 1), some (.int s'.1), none] [] (wd s'.2)), AW K 0 0 14 [some (.ref 25), some (.ref 1), some (.int w2), some (.int (nI i))] [] (wd σ) := by
  intro n
  induction n with
  | zero =>
    intro i w2 σ hi kx
    refine AW_g hT cl_X1 hK 10 2 (pc' := 17) (lo' := [some (.ref 25), some (.ref 1), some (.int w2), some (.int (nI i))]) (st' := [.int 12, .int (nI i)]) (hp' := wd σ) rfl ?_
    refine AW_icmp_ge hT hK 12 (tgt := 93) rfl rfl (fun c20 => ?_) (fun c20 => absurd (az_c0 hi) c20)
    refine AW_msk [true, true, true, false] (lo' := [some (.ref 25), some (.ref 1), some (.int w2), none]) rfl ?_
    exact kx (w2, σ) rfl
  | succ n ih =>
    intro i w2 σ hi kx
    refine AW_g hT cl_X1 hK 10 2 (pc' := 17) (lo' := [some (.ref 25), some (.ref 1), some (.int w2), some (.int (nI i))]) (st' := [.int 12, .int (nI i)]) (hp' := wd σ) rfl ?_
    refine AW_icmp_ge hT hK 12 (tgt := 93) rfl rfl (fun c1 => absurd c1 (az_c1 hi)) (fun c1 => ?_)
    refine AW_g hT cl_X1 hK 13 2 (pc' := 22) (lo' := [some (.ref 25), some (.ref 1), some (.int w2), some (.int (nI i))]) (st' := [.int (nI i), .ref 1]) (hp' := wd σ) rfl ?_
    refine AW_callV hT hK 15 [.int (nI i)] [] (m_X3_has l0 σ (nI i)) cw_X3_has lk_X1_79 vi_X3_has rfl rfl rfl rfl rfl rfl (Nat.le_of_ble_eq_true rfl) (Nat.le_of_ble_eq_true rfl) (AW_k1 (fun v3 h2 => ?_))
    refine AW_if_eq hT hK 16 (tgt := 87) rfl rfl (fun c4 => ?_) (fun c4 => ?_)
    · refine AW_g hT cl_X1 hK 48 1 (pc' := 90) (lo' := [some (.ref 25), some (.ref 1), some (.int w2), some (.int ((nI i) + 1))]) (st' := []) (hp' := wd σ) rfl ?_
      refine AW_goto hT hK 49 (tgt := 14) rfl rfl ?_
      refine AW_to (lo' := [some (.ref 25), some (.ref 1), some (.int w2), some (.int (nI (i + 1)))]) (by rw [nI_1]) rfl rfl ?_
      subst h2; skip
      exact ih (i + 1) _ _ (by omega) (fun s' hs' => kx s' ((congrArg (az_it _ n (i + 1)) (by simp only [b_X1_findMain_14, if_pos c4])).trans hs'))
    · refine AW_g hT cl_X1 hK 17 2 (pc' := 30) (lo' := [some (.ref 25), some (.ref 1), some (.int w2), some (.int (nI i))]) (st' := [.int (nI i), .ref 1]) (hp' := wd σ) rfl ?_
      refine AW_callV hT hK 19 [.int (nI i)] [] (m_X3_referredBy l0 σ (nI i)) cw_X3_referredBy lk_X1_44 vi_X3_referredBy rfl rfl rfl rfl rfl rfl (Nat.le_of_ble_eq_true rfl) (Nat.le_of_ble_eq_true rfl) (AW_k1 (fun v6 h5 => ?_))
      refine AW_if_ne hT hK 20 (tgt := 87) rfl rfl (fun c7 => ?_) (fun c7 => ?_)
      · refine AW_g hT cl_X1 hK 48 1 (pc' := 90) (lo' := [some (.ref 25), some (.ref 1), some (.int w2), some (.int ((nI i) + 1))]) (st' := []) (hp' := wd σ) rfl ?_
        refine AW_goto hT hK 49 (tgt := 14) rfl rfl ?_
        refine AW_to (lo' := [some (.ref 25), some (.ref 1), some (.int w2), some (.int (nI (i + 1)))]) (by rw [nI_1]) rfl rfl ?_
        subst h5; subst h2; skip
        exact ih (i + 1) _ _ (by omega) (fun s' hs' => kx s' ((congrArg (az_it _ n (i + 1)) (by simp only [b_X1_findMain_14, if_neg c4, if_neg c7])).trans hs'))
      · refine AW_g hT cl_X1 hK 21 6 (pc' := 46) (lo' := [some (.ref 25), some (.ref 1), some (.int w2), some (.int (nI i))]) (st' := [.int (nI i), .ref 28, .int (σ.1 5), .ref 25]) (hp' := wd σ) rfl ?_
        refine AW_callV hT hK 27 [.int (nI i)] [.int (σ.1 5), .ref 25] (m_X2_at_28 l0 σ (nI i)) cw_X2_at lk_X1_40 vi_X2_at rfl rfl rfl rfl rfl rfl (Nat.le_of_ble_eq_true rfl) (Nat.le_of_ble_eq_true rfl) (AW_k1 (fun v9 h8 => ?_))
        refine AW_g hT cl_X1 hK 28 1 (pc' := 50) (lo' := [some (.ref 25), some (.ref 1), some (.int w2), some (.int (nI i))]) (st' := [.int ((σ.1 5) + v9), .ref 25]) (hp' := wd σ) rfl ?_
        refine AW_topi (fun u10 h11 => ?_)
        refine AW_g hT cl_X1 hK 29 3 (pc' := 55) (lo' := [some (.ref 25), some (.ref 1), some (.int w2), some (.int (nI i))]) (st' := [.int (-1), .int w2]) (hp' := wd (sF σ 5 u10)) rfl ?_
        refine AW_icmp_eq hT hK 32 (tgt := 73) rfl rfl (fun c12 => ?_) (fun c12 => ?_)
        · refine AW_g hT cl_X1 hK 40 6 (pc' := 81) (lo' := [some (.ref 25), some (.ref 1), some (.int (nI i)), some (.int (nI i))]) (st' := [.int (nI i), .ref 30, .ref 25]) (hp' := wd (sF σ 5 u10)) rfl ?_
          refine AW_callV hT hK 46 [.int (nI i)] [.ref 25] (m_X2_at_30 l0 (sF σ 5 u10) (nI i)) cw_X2_at lk_X1_40 vi_X2_at rfl rfl rfl rfl rfl rfl (Nat.le_of_ble_eq_true rfl) (Nat.le_of_ble_eq_true rfl) (AW_k1 (fun v14 h13 => ?_))
          refine AW_g hT cl_X1 hK 47 2 (pc' := 90) (lo' := [some (.ref 25), some (.ref 1), some (.int (nI i)), some (.int ((nI i) + 1))]) (st' := []) (hp' := wd (sF (sF σ 5 u10) 7 v14)) rfl ?_
          refine AW_goto hT hK 49 (tgt := 14) rfl rfl ?_
          refine AW_to (lo' := [some (.ref 25), some (.ref 1), some (.int (nI i)), some (.int (nI (i + 1)))]) (by rw [nI_1]) rfl rfl ?_
          subst h13; subst h11; subst h8; subst h5; subst h2; skip
          exact ih (i + 1) _ _ (by omega) (fun s' hs' => kx s' ((congrArg (az_it _ n (i + 1)) (by simp only [b_X1_findMain_14, if_neg c4, if_pos c7, if_pos c12])).trans hs'))
        · refine AW_g hT cl_X1 hK 33 3 (pc' := 63) (lo' := [some (.ref 25), some (.ref 1), some (.int w2), some (.int (nI i))]) (st' := [.int (nI i), .ref 30]) (hp' := wd (sF σ 5 u10)) rfl ?_
          refine AW_callV hT hK 36 [.int (nI i)] [] (m_X2_at_30 l0 (sF σ 5 u10) (nI i)) cw_X2_at lk_X1_40 vi_X2_at rfl rfl rfl rfl rfl rfl (Nat.le_of_ble_eq_true rfl) (Nat.le_of_ble_eq_true rfl) (AW_k1 (fun v16 h15 => ?_))
          refine AW_g hT cl_X1 hK 37 2 (pc' := 70) (lo' := [some (.ref 25), some (.ref 1), some (.int w2), some (.int (nI i))]) (st' := [.int ((sF σ 5 u10).1 7), .int v16]) (hp' := wd (sF σ 5 u10)) rfl ?_
          refine AW_icmp_le hT hK 39 (tgt := 87) rfl rfl (fun c17 => ?_) (fun c17 => ?_)
          · refine AW_g hT cl_X1 hK 48 1 (pc' := 90) (lo' := [some (.ref 25), some (.ref 1), some (.int w2), some (.int ((nI i) + 1))]) (st' := []) (hp' := wd (sF σ 5 u10)) rfl ?_
            refine AW_goto hT hK 49 (tgt := 14) rfl rfl ?_
            refine AW_to (lo' := [some (.ref 25), some (.ref 1), some (.int w2), some (.int (nI (i + 1)))]) (by rw [nI_1]) rfl rfl ?_
            subst h15; subst h11; subst h8; subst h5; subst h2; skip
            exact ih (i + 1) _ _ (by omega) (fun s' hs' => kx s' ((congrArg (az_it _ n (i + 1)) (by simp only [b_X1_findMain_14, if_neg c4, if_pos c7, if_neg c12, if_pos c17])).trans hs'))
          · refine AW_g hT cl_X1 hK 40 6 (pc' := 81) (lo' := [some (.ref 25), some (.ref 1), some (.int (nI i)), some (.int (nI i))]) (st' := [.int (nI i), .ref 30, .ref 25]) (hp' := wd (sF σ 5 u10)) rfl ?_
            refine AW_callV hT hK 46 [.int (nI i)] [.ref 25] (m_X2_at_30 l0 (sF σ 5 u10) (nI i)) cw_X2_at lk_X1_40 vi_X2_at rfl rfl rfl rfl rfl rfl (Nat.le_of_ble_eq_true rfl) (Nat.le_of_ble_eq_true rfl) (AW_k1 (fun v19 h18 => ?_))
            refine AW_g hT cl_X1 hK 47 2 (pc' := 90) (lo' := [some (.ref 25), some (.ref 1), some (.int (nI i)), some (.int ((nI i) + 1))]) (st' := []) (hp' := wd (sF (sF σ 5 u10) 7 v19)) rfl ?_
            refine AW_goto hT hK 49 (tgt := 14) rfl rfl ?_
            refine AW_to (lo' := [some (.ref 25), some (.ref 1), some (.int (nI i)), some (.int (nI (i + 1)))]) (by rw [nI_1]) rfl rfl ?_
            subst h18; subst h15; subst h11; subst h8; subst h5; subst h2; skip
            exact ih (i + 1) _ _ (by omega) (fun s' hs' => kx s' ((congrArg (az_it _ n (i + 1)) (by simp only [b_X1_findMain_14, if_neg c4, if_pos c7, if_neg c12, if_neg c17])).trans hs'))
def x_X1_findMain (σ : az_S) : az_S :=
  let s21 := az_it (fun ι s => b_X1_findMain_14 ι s.1 s.2) 12 0 ((-1), (sF (sF σ 7 0) 5 0))
  let τ24 := x_X1_follow s21.2 s21.1
  τ24
set_option maxRecDepth 100000 in
set_option maxHeartbeats 4000000 in
theorem m_X1_findMain (l0 : Launch) (σ : az_S) : AMet l0 yX1_findMain cX1_findMain 4 none ({ frames := 2, cells := 0, slots := 0, locals := 45 } : Room) false [.ref 25, .ref 1] (wd σ) (fun r h => r = none ∧ h = wd (x_X1_findMain σ)) := by
  refine AMet_of (by decide +kernel) (by simp [Value.category]) (Nat.le_of_ble_eq_true rfl) (fun K hK hct hG hE => ?_)
  have hT := tt_X1_findMain
  refine AW_g hT cl_X1 hK 0 10 (pc' := 14) (lo' := [some (.ref 25), some (.ref 1), some (.int (-1)), some (.int 0)]) (st' := []) (hp' := wd (sF (sF σ 7 0) 5 0)) rfl ?_
  refine AW_to (lo' := [some (.ref 25), some (.ref 1), some (.int (-1)), some (.int (nI 0))]) (rfl) rfl rfl ?_
  refine lp_X1_findMain_14 hT hK 12 0 (-1) (sF (sF σ 7 0) 5 0) (by first | rfl | omega) (fun s21 h22 => ?_)
  refine AW_g hT cl_X1 hK 50 2 (pc' := 95) (lo' := [some (.ref 25), some (.ref 1), some (.int s21.1), none]) (st' := [.int s21.1, .ref 25]) (hp' := wd s21.2) rfl ?_
  refine AW_callV hT hK 52 [.int s21.1] [] (m_X1_follow l0 s21.2 s21.1) cw_X1_follow lk_X1_83 vi_X1_follow rfl rfl rfl rfl rfl rfl (Nat.le_of_ble_eq_true rfl) (Nat.le_of_ble_eq_true rfl) (AW_kv (fun τ24 h23 => ?_))
  refine AW_vret hT hE 53 rfl (Nat.le_of_ble_eq_true rfl) (Nat.le_of_ble_eq_true rfl) ?_
  subst h23; subst h22; exact ⟨rfl, congrArg wd (by simp only [x_X1_findMain])⟩
def x_X2_set_26 (σ : az_S) (p0 : Int32) (p1 : Int32) : az_S :=
  if p0 < 0 then
    σ
  else
    if 12 ≤ p0 then
      σ
    else
      (sG σ 27 (va_up (σ.2.1 27) p0.toNatClampNeg p1))
set_option maxRecDepth 100000 in
set_option maxHeartbeats 4000000 in
theorem m_X2_set_26 (l0 : Launch) (σ : az_S) (p0 : Int32) (p1 : Int32) : AMet l0 yX2_set cX2_set 3 none ({ frames := 0, cells := 0, slots := 0, locals := 0 } : Room) false [.ref 26, .int p0, .int p1] (wd σ) (fun r h => r = none ∧ h = wd (x_X2_set_26 σ p0 p1)) := by
  refine AMet_of (by decide +kernel) (by simp [Value.category]) (Nat.le_of_ble_eq_true rfl) (fun K hK hct hG hE => ?_)
  have hT := tt_X2_set
  refine AW_g hT cl_X2 hK 0 1 (pc' := 1) (lo' := [some (.ref 26), some (.int p0), some (.int p1)]) (st' := [.int p0]) (hp' := wd σ) rfl ?_
  refine AW_if_lt hT hK 1 (tgt := 20) rfl rfl (fun c1 => ?_) (fun c1 => ?_)
  · refine AW_vret hT hE 12 rfl (Nat.le_of_ble_eq_true rfl) (Nat.le_of_ble_eq_true rfl) ?_
    exact ⟨rfl, congrArg wd (by simp only [x_X2_set_26, if_pos c1])⟩
  · refine AW_g hT cl_X2 hK 2 4 (pc' := 10) (lo' := [some (.ref 26), some (.int p0), some (.int p1)]) (st' := [.int 12, .int p0]) (hp' := wd σ) rfl ?_
    refine AW_icmp_ge hT hK 6 (tgt := 20) rfl rfl (fun c2 => ?_) (fun c2 => ?_)
    · refine AW_vret hT hE 12 rfl (Nat.le_of_ble_eq_true rfl) (Nat.le_of_ble_eq_true rfl) ?_
      exact ⟨rfl, congrArg wd (by simp only [x_X2_set_26, if_neg c1, if_pos c2])⟩
    · refine AW_g hT cl_X2 hK 7 4 (pc' := 19) (lo' := [some (.ref 26), some (.int p0), some (.int p1)]) (st' := [.int p1, .int p0, .ref 27]) (hp' := wd σ) rfl ?_
      refine AW_iastx hT hK 11 rfl (n := 12) (f := (σ.2.1 27)) rfl (az_in12 c1 c2) ?_
      refine AW_to (hp' := wd (sG σ 27 (va_up (σ.2.1 27) p0.toNatClampNeg p1))) rfl rfl rfl ?_
      refine AW_vret hT hE 12 rfl (Nat.le_of_ble_eq_true rfl) (Nat.le_of_ble_eq_true rfl) ?_
      exact ⟨rfl, congrArg wd (by simp only [x_X2_set_26, if_neg c1, if_neg c2])⟩
def x_X2_set_28 (σ : az_S) (p0 : Int32) (p1 : Int32) : az_S :=
  if p0 < 0 then
    σ
  else
    if 12 ≤ p0 then
      σ
    else
      (sG σ 29 (va_up (σ.2.1 29) p0.toNatClampNeg p1))
set_option maxRecDepth 100000 in
set_option maxHeartbeats 4000000 in
theorem m_X2_set_28 (l0 : Launch) (σ : az_S) (p0 : Int32) (p1 : Int32) : AMet l0 yX2_set cX2_set 3 none ({ frames := 0, cells := 0, slots := 0, locals := 0 } : Room) false [.ref 28, .int p0, .int p1] (wd σ) (fun r h => r = none ∧ h = wd (x_X2_set_28 σ p0 p1)) := by
  refine AMet_of (by decide +kernel) (by simp [Value.category]) (Nat.le_of_ble_eq_true rfl) (fun K hK hct hG hE => ?_)
  have hT := tt_X2_set
  refine AW_g hT cl_X2 hK 0 1 (pc' := 1) (lo' := [some (.ref 28), some (.int p0), some (.int p1)]) (st' := [.int p0]) (hp' := wd σ) rfl ?_
  refine AW_if_lt hT hK 1 (tgt := 20) rfl rfl (fun c1 => ?_) (fun c1 => ?_)
  · refine AW_vret hT hE 12 rfl (Nat.le_of_ble_eq_true rfl) (Nat.le_of_ble_eq_true rfl) ?_
    exact ⟨rfl, congrArg wd (by simp only [x_X2_set_28, if_pos c1])⟩
  · refine AW_g hT cl_X2 hK 2 4 (pc' := 10) (lo' := [some (.ref 28), some (.int p0), some (.int p1)]) (st' := [.int 12, .int p0]) (hp' := wd σ) rfl ?_
    refine AW_icmp_ge hT hK 6 (tgt := 20) rfl rfl (fun c2 => ?_) (fun c2 => ?_)
    · refine AW_vret hT hE 12 rfl (Nat.le_of_ble_eq_true rfl) (Nat.le_of_ble_eq_true rfl) ?_
      exact ⟨rfl, congrArg wd (by simp only [x_X2_set_28, if_neg c1, if_pos c2])⟩
    · refine AW_g hT cl_X2 hK 7 4 (pc' := 19) (lo' := [some (.ref 28), some (.int p0), some (.int p1)]) (st' := [.int p1, .int p0, .ref 29]) (hp' := wd σ) rfl ?_
      refine AW_iastx hT hK 11 rfl (n := 12) (f := (σ.2.1 29)) rfl (az_in12 c1 c2) ?_
      refine AW_to (hp' := wd (sG σ 29 (va_up (σ.2.1 29) p0.toNatClampNeg p1))) rfl rfl rfl ?_
      refine AW_vret hT hE 12 rfl (Nat.le_of_ble_eq_true rfl) (Nat.le_of_ble_eq_true rfl) ?_
      exact ⟨rfl, congrArg wd (by simp only [x_X2_set_28, if_neg c1, if_neg c2])⟩
def b_X1_findAnew_2 (i : Nat) (σ : az_S) : az_S :=
  let v3 := x_X3_referredBy σ (nI i)
  let v5 := x_X1_sumOver_26 σ v3
  let τ7 := x_X2_set_26 σ (nI i) v5
  (τ7)
set_option maxRecDepth 100000 in
set_option maxHeartbeats 4000000 in
theorem lp_X1_findAnew_2 {K : az_K} {l0 : Launch} (hT : az_Tb cX1_findAnew tb_X1_findAnew) (hK : az_OK K RX1 cX1_findAnew ({ frames := 3, cells := 0, slots := 0, locals := 69 } : Room) l0) :
    ∀ (n i : Nat) (σ : az_S) (hi : i + n = 12) (kx : ∀ s' : az_S, az_it (fun ι s => b_X1_findAnew_2 ι s) n i σ = s' → AW K 0 0 34 [some (.ref 25), some (.ref 1), none] [] (wd s')), AW K 0 0 2 [some (.ref 25), some (.ref 1), some (.int (nI i))] [] (wd σ) := by
  intro n
  induction n with
  | zero =>
    intro i σ hi kx
    refine AW_g hT cl_X1 hK 2 2 (pc' := 5) (lo' := [some (.ref 25), some (.ref 1), some (.int (nI i))]) (st' := [.int 12, .int (nI i)]) (hp' := wd σ) rfl ?_
    refine AW_icmp_ge hT hK 4 (tgt := 34) rfl rfl (fun c8 => ?_) (fun c8 => absurd (az_c0 hi) c8)
    refine AW_msk [true, true, false] (lo' := [some (.ref 25), some (.ref 1), none]) rfl ?_
    exact kx σ rfl
  | succ n ih =>
    intro i σ hi kx
    refine AW_g hT cl_X1 hK 2 2 (pc' := 5) (lo' := [some (.ref 25), some (.ref 1), some (.int (nI i))]) (st' := [.int 12, .int (nI i)]) (hp' := wd σ) rfl ?_
    refine AW_icmp_ge hT hK 4 (tgt := 34) rfl rfl (fun c1 => absurd c1 (az_c1 hi)) (fun c1 => ?_)
    refine AW_g hT cl_X1 hK 5 7 (pc' := 19) (lo' := [some (.ref 25), some (.ref 1), some (.int (nI i))]) (st' := [.int (nI i), .ref 1, .ref 26, .int (nI i), .ref 26]) (hp' := wd σ) rfl ?_
    refine AW_callV hT hK 12 [.int (nI i)] [.ref 26, .int (nI i), .ref 26] (m_X3_referredBy l0 σ (nI i)) cw_X3_referredBy lk_X1_44 vi_X3_referredBy rfl rfl rfl rfl rfl rfl (Nat.le_of_ble_eq_true rfl) (Nat.le_of_ble_eq_true rfl) (AW_k1 (fun v3 h2 => ?_))
    refine AW_callS hT hK 13 [.ref 26, .int v3] [.int (nI i), .ref 26] (m_X1_sumOver_26 l0 σ v3) cw_X1_sumOver lk_X1_49 sm_X1_sumOver rfl rfl rfl rfl (Nat.le_of_ble_eq_true rfl) (Nat.le_of_ble_eq_true rfl) (AW_k1 (fun v5 h4 => ?_))
    refine AW_callV hT hK 14 [.int (nI i), .int v5] [] (m_X2_set_26 l0 σ (nI i) v5) cw_X2_set lk_X1_53 vi_X2_set rfl rfl rfl rfl rfl rfl (Nat.le_of_ble_eq_true rfl) (Nat.le_of_ble_eq_true rfl) (AW_kv (fun τ7 h6 => ?_))
    refine AW_g hT cl_X1 hK 15 1 (pc' := 31) (lo' := [some (.ref 25), some (.ref 1), some (.int ((nI i) + 1))]) (st' := []) (hp' := wd (τ7)) rfl ?_
    refine AW_goto hT hK 16 (tgt := 2) rfl rfl ?_
    refine AW_to (lo' := [some (.ref 25), some (.ref 1), some (.int (nI (i + 1)))]) (by rw [nI_1]) rfl rfl ?_
    subst h6; subst h4; subst h2; skip
    exact ih (i + 1) _ (by omega) (fun s' hs' => kx s' ((congrArg (az_it _ n (i + 1)) (by simp only [b_X1_findAnew_2])).trans hs'))
def b_X1_findAnew_37 (n : Nat) (σ : az_S) : az_S :=
  let v13 := x_X3_citersOf σ (nI n)
  let v15 := x_X1_sumOver_28 σ v13
  let τ17 := x_X2_set_28 σ (nI n) v15
  let τ19 := x_X1_findNext (τ17) (nI n)
  (τ19)
set_option maxRecDepth 100000 in
set_option maxHeartbeats 4000000 in
theorem lp_X1_findAnew_37 {K : az_K} {l0 : Launch} (hT : az_Tb cX1_findAnew tb_X1_findAnew) (hK : az_OK K RX1 cX1_findAnew ({ frames := 3, cells := 0, slots := 0, locals := 69 } : Room) l0) :
    ∀ (n : Nat) (σ : az_S) (hi : n ≤ 12) (kx : ∀ s' : az_S, az_dn (fun ι s => b_X1_findAnew_37 ι s) n σ = s' → AW K 0 0 73 [some (.ref 25), some (.ref 1), none] [] (wd s')), AW K 0 0 37 [some (.ref 25), some (.ref 1), some (.int (nI n - 1))] [] (wd σ) := by
  intro n
  induction n with
  | zero =>
    intro σ hi kx
    refine AW_g hT cl_X1 hK 19 1 (pc' := 38) (lo' := [some (.ref 25), some (.ref 1), some (.int (nI 0 - 1))]) (st' := [.int (nI 0 - 1)]) (hp' := wd σ) rfl ?_
    refine AW_if_lt hT hK 20 (tgt := 73) rfl rfl (fun c20 => ?_) (fun c20 => absurd (az_cd0) c20)
    refine AW_msk [true, true, false] (lo' := [some (.ref 25), some (.ref 1), none]) rfl ?_
    exact kx σ rfl
  | succ n ih =>
    intro σ hi kx
    refine AW_to (lo' := [some (.ref 25), some (.ref 1), some (.int (nI n))]) (by rw [az_dn1]) rfl rfl ?_
    refine AW_g hT cl_X1 hK 19 1 (pc' := 38) (lo' := [some (.ref 25), some (.ref 1), some (.int (nI n))]) (st' := [.int (nI n)]) (hp' := wd σ) rfl ?_
    refine AW_if_lt hT hK 20 (tgt := 73) rfl rfl (fun c11 => absurd c11 (az_cd1 hi)) (fun c11 => ?_)
    refine AW_g hT cl_X1 hK 21 7 (pc' := 52) (lo' := [some (.ref 25), some (.ref 1), some (.int (nI n))]) (st' := [.int (nI n), .ref 1, .ref 28, .int (nI n), .ref 28]) (hp' := wd σ) rfl ?_
    refine AW_callV hT hK 28 [.int (nI n)] [.ref 28, .int (nI n), .ref 28] (m_X3_citersOf l0 σ (nI n)) cw_X3_citersOf lk_X1_57 vi_X3_citersOf rfl rfl rfl rfl rfl rfl (Nat.le_of_ble_eq_true rfl) (Nat.le_of_ble_eq_true rfl) (AW_k1 (fun v13 h12 => ?_))
    refine AW_callS hT hK 29 [.ref 28, .int v13] [.int (nI n), .ref 28] (m_X1_sumOver_28 l0 σ v13) cw_X1_sumOver lk_X1_49 sm_X1_sumOver rfl rfl rfl rfl (Nat.le_of_ble_eq_true rfl) (Nat.le_of_ble_eq_true rfl) (AW_k1 (fun v15 h14 => ?_))
    refine AW_callV hT hK 30 [.int (nI n), .int v15] [] (m_X2_set_28 l0 σ (nI n) v15) cw_X2_set lk_X1_53 vi_X2_set rfl rfl rfl rfl rfl rfl (Nat.le_of_ble_eq_true rfl) (Nat.le_of_ble_eq_true rfl) (AW_kv (fun τ17 h16 => ?_))
    refine AW_g hT cl_X1 hK 31 3 (pc' := 64) (lo' := [some (.ref 25), some (.ref 1), some (.int (nI n))]) (st' := [.int (nI n), .ref 1, .ref 25]) (hp' := wd (τ17)) rfl ?_
    refine AW_callV hT hK 34 [.ref 1, .int (nI n)] [] (m_X1_findNext l0 (τ17) (nI n)) cw_X1_findNext lk_X1_60 vi_X1_findNext rfl rfl rfl rfl rfl rfl (Nat.le_of_ble_eq_true rfl) (Nat.le_of_ble_eq_true rfl) (AW_kv (fun τ19 h18 => ?_))
    refine AW_g hT cl_X1 hK 35 1 (pc' := 70) (lo' := [some (.ref 25), some (.ref 1), some (.int ((nI n) + (-1)))]) (st' := []) (hp' := wd (τ19)) rfl ?_
    refine AW_goto hT hK 36 (tgt := 37) rfl rfl ?_
    refine AW_to (lo' := [some (.ref 25), some (.ref 1), some (.int (nI n - 1))]) (by rw [az_dn2]) rfl rfl ?_
    subst h18; subst h16; subst h14; subst h12; skip
    exact ih _ (by omega) (fun s' hs' => kx s' ((congrArg (az_dn _ n) (by simp only [b_X1_findAnew_37])).trans hs'))
def x_X1_findAnew (σ : az_S) : az_S :=
  let s9 := az_it (fun ι s => b_X1_findAnew_2 ι s) 12 0 σ
  let s21 := az_dn (fun ι s => b_X1_findAnew_37 ι s) 12 s9
  let τ24 := x_X1_findMain s21
  τ24
set_option maxRecDepth 100000 in
set_option maxHeartbeats 4000000 in
theorem m_X1_findAnew (l0 : Launch) (σ : az_S) : AMet l0 yX1_findAnew cX1_findAnew 3 none ({ frames := 3, cells := 0, slots := 0, locals := 69 } : Room) false [.ref 25, .ref 1] (wd σ) (fun r h => r = none ∧ h = wd (x_X1_findAnew σ)) := by
  refine AMet_of (by decide +kernel) (by simp [Value.category]) (Nat.le_of_ble_eq_true rfl) (fun K hK hct hG hE => ?_)
  have hT := tt_X1_findAnew
  refine AW_g hT cl_X1 hK 0 2 (pc' := 2) (lo' := [some (.ref 25), some (.ref 1), some (.int 0)]) (st' := []) (hp' := wd σ) rfl ?_
  refine AW_to (lo' := [some (.ref 25), some (.ref 1), some (.int (nI 0))]) (rfl) rfl rfl ?_
  refine lp_X1_findAnew_2 hT hK 12 0 σ (by first | rfl | omega) (fun s9 h10 => ?_)
  refine AW_g hT cl_X1 hK 17 2 (pc' := 37) (lo' := [some (.ref 25), some (.ref 1), some (.int 11)]) (st' := []) (hp' := wd s9) rfl ?_
  refine AW_to (lo' := [some (.ref 25), some (.ref 1), some (.int (nI 12 - 1))]) (rfl) rfl rfl ?_
  refine lp_X1_findAnew_37 hT hK 12 s9 (Nat.le_of_ble_eq_true rfl) (fun s21 h22 => ?_)
  refine AW_g hT cl_X1 hK 37 2 (pc' := 75) (lo' := [some (.ref 25), some (.ref 1), none]) (st' := [.ref 1, .ref 25]) (hp' := wd s21) rfl ?_
  refine AW_callV hT hK 39 [.ref 1] [] (m_X1_findMain l0 s21) cw_X1_findMain lk_X1_64 vi_X1_findMain rfl rfl rfl rfl rfl rfl (Nat.le_of_ble_eq_true rfl) (Nat.le_of_ble_eq_true rfl) (AW_kv (fun τ24 h23 => ?_))
  refine AW_vret hT hE 40 rfl (Nat.le_of_ble_eq_true rfl) (Nat.le_of_ble_eq_true rfl) ?_
  subst h23; subst h22; subst h10; exact ⟨rfl, congrArg wd (by simp only [x_X1_findAnew])⟩
end AZP
