section AZP
def x_X3_has (σ : az_S) (p0 : Int32) : Int32 :=
  let v2 := x_X5_holds σ (σ.1 2) p0
  v2
set_option maxRecDepth 100000 in
set_option maxHeartbeats 4000000 in
theorem m_X3_has (l0 : Launch) (σ : az_S) (p0 : Int32) : AMet l0 yX3_has cX3_has 2 (some .boolean) ({ frames := 1, cells := 0, slots := 0, locals := 21 } : Room) false [.ref 1, .int p0] (wd σ) (fun r h => r = some (.int (x_X3_has σ p0)) ∧ h = wd σ) := by
  refine AMet_of (by decide +kernel) (by simp [Value.category]) (Nat.le_of_ble_eq_true rfl) (fun K hK hct hG hE => ?_)
  have hT := tt_X3_has
  refine AW_g hT cl_X3 hK 0 3 (pc' := 5) (lo' := [some (.ref 1), some (.int p0)]) (st' := [.int p0, .int (σ.1 2)]) (hp' := wd σ) rfl ?_
  refine AW_callSN hT hK 3 [.int (σ.1 2), .int p0] [] (m_X5_holds l0 σ (σ.1 2) p0) cw_X5_holds lk_X3_44 sm_X5_holds rfl rfl rfl rfl (Nat.le_of_ble_eq_true rfl) (Nat.le_of_ble_eq_true rfl) (AW_k1 (fun v2 h1 => ?_))
  refine AW_iret hT hE 4 rfl rfl (by rw [← h1]; exact nb_X5_holds _ _ _) (Nat.le_of_ble_eq_true rfl) (Nat.le_of_ble_eq_true rfl) ?_
  subst h1; exact ⟨by simp only [x_X3_has], rfl⟩
theorem nb_X3_has (σ : az_S) (p0 : Int32) : narrow .boolean (.int (x_X3_has σ p0)) = .int (x_X3_has σ p0) := by
  unfold x_X3_has
  exact nb_X5_holds _ _ _
def x_X3_hasAll (σ : az_S) (p0 : Int32) : Int32 :=
  if (p0 &&& ((σ.1 2) ^^^ (-1))) = 0 then
    1
  else
    0
set_option maxRecDepth 100000 in
set_option maxHeartbeats 4000000 in
theorem m_X3_hasAll (l0 : Launch) (σ : az_S) (p0 : Int32) : AMet l0 yX3_hasAll cX3_hasAll 2 (some .boolean) ({ frames := 0, cells := 0, slots := 0, locals := 0 } : Room) false [.ref 1, .int p0] (wd σ) (fun r h => r = some (.int (x_X3_hasAll σ p0)) ∧ h = wd σ) := by
  refine AMet_of (by decide +kernel) (by simp [Value.category]) (Nat.le_of_ble_eq_true rfl) (fun K hK hct hG hE => ?_)
  have hT := tt_X3_hasAll
  refine AW_g hT cl_X3 hK 0 6 (pc' := 8) (lo' := [some (.ref 1), some (.int p0)]) (st' := [.int (p0 &&& ((σ.1 2) ^^^ (-1)))]) (hp' := wd σ) rfl ?_
  refine AW_if_ne hT hK 6 (tgt := 15) rfl rfl (fun c1 => ?_) (fun c1 => ?_)
  · refine AW_g hT cl_X3 hK 9 1 (pc' := 16) (lo' := [some (.ref 1), some (.int p0)]) (st' := [.int 0]) (hp' := wd σ) rfl ?_
    refine AW_iret hT hE 10 rfl rfl rfl (Nat.le_of_ble_eq_true rfl) (Nat.le_of_ble_eq_true rfl) ?_
    exact ⟨by simp only [x_X3_hasAll, if_neg c1], rfl⟩
  · refine AW_g hT cl_X3 hK 7 1 (pc' := 12) (lo' := [some (.ref 1), some (.int p0)]) (st' := [.int 1]) (hp' := wd σ) rfl ?_
    refine AW_goto hT hK 8 (tgt := 16) rfl rfl ?_
    refine AW_iret hT hE 10 rfl rfl rfl (Nat.le_of_ble_eq_true rfl) (Nat.le_of_ble_eq_true rfl) ?_
    exact ⟨by simp only [x_X3_hasAll, if_pos c1], rfl⟩
theorem nb_X3_hasAll (σ : az_S) (p0 : Int32) : narrow .boolean (.int (x_X3_hasAll σ p0)) = .int (x_X3_hasAll σ p0) := by
  unfold x_X3_hasAll
  (try dsimp only)
  (repeat' split) <;> first | rfl | (dsimp only; rfl)
def x_X3_allThere (σ : az_S) : Int32 :=
  (σ.1 2)
set_option maxRecDepth 100000 in
set_option maxHeartbeats 4000000 in
theorem m_X3_allThere (l0 : Launch) (σ : az_S) : AMet l0 yX3_allThere cX3_allThere 1 (some .int) ({ frames := 0, cells := 0, slots := 0, locals := 0 } : Room) false [.ref 1] (wd σ) (fun r h => r = some (.int (x_X3_allThere σ)) ∧ h = wd σ) := by
  refine AMet_of (by decide +kernel) (by simp [Value.category]) (Nat.le_of_ble_eq_true rfl) (fun K hK hct hG hE => ?_)
  have hT := tt_X3_allThere
  refine AW_g hT cl_X3 hK 0 2 (pc' := 4) (lo' := [some (.ref 1)]) (st' := [.int (σ.1 2)]) (hp' := wd σ) rfl ?_
  refine AW_iret hT hE 2 rfl rfl rfl (Nat.le_of_ble_eq_true rfl) (Nat.le_of_ble_eq_true rfl) ?_
  exact ⟨by simp only [x_X3_allThere], rfl⟩
def x_X3_isFull (σ : az_S) : Int32 :=
  if (σ.1 0) < 12 then
    0
  else
    1
set_option maxRecDepth 100000 in
set_option maxHeartbeats 4000000 in
theorem m_X3_isFull (l0 : Launch) (σ : az_S) : AMet l0 yX3_isFull cX3_isFull 1 (some .boolean) ({ frames := 0, cells := 0, slots := 0, locals := 0 } : Room) false [.ref 1] (wd σ) (fun r h => r = some (.int (x_X3_isFull σ)) ∧ h = wd σ) := by
  refine AMet_of (by decide +kernel) (by simp [Value.category]) (Nat.le_of_ble_eq_true rfl) (fun K hK hct hG hE => ?_)
  have hT := tt_X3_isFull
  refine AW_g hT cl_X3 hK 0 3 (pc' := 6) (lo' := [some (.ref 1)]) (st' := [.int 12, .int (σ.1 0)]) (hp' := wd σ) rfl ?_
  refine AW_icmp_lt hT hK 3 (tgt := 13) rfl rfl (fun c1 => ?_) (fun c1 => ?_)
  · refine AW_g hT cl_X3 hK 6 1 (pc' := 14) (lo' := [some (.ref 1)]) (st' := [.int 0]) (hp' := wd σ) rfl ?_
    refine AW_iret hT hE 7 rfl rfl rfl (Nat.le_of_ble_eq_true rfl) (Nat.le_of_ble_eq_true rfl) ?_
    exact ⟨by simp only [x_X3_isFull, if_pos c1], rfl⟩
  · refine AW_g hT cl_X3 hK 4 1 (pc' := 10) (lo' := [some (.ref 1)]) (st' := [.int 1]) (hp' := wd σ) rfl ?_
    refine AW_goto hT hK 5 (tgt := 14) rfl rfl ?_
    refine AW_iret hT hE 7 rfl rfl rfl (Nat.le_of_ble_eq_true rfl) (Nat.le_of_ble_eq_true rfl) ?_
    exact ⟨by simp only [x_X3_isFull, if_neg c1], rfl⟩
theorem nb_X3_isFull (σ : az_S) : narrow .boolean (.int (x_X3_isFull σ)) = .int (x_X3_isFull σ) := by
  unfold x_X3_isFull
  (try dsimp only)
  (repeat' split) <;> first | rfl | (dsimp only; rfl)
def x_X3_takesYear (σ : az_S) (p0 : Int32) : Int32 :=
  if p0 < (σ.1 1) then
    0
  else
    if 99 < p0 then
      0
    else
      1
set_option maxRecDepth 100000 in
set_option maxHeartbeats 4000000 in
theorem m_X3_takesYear (l0 : Launch) (σ : az_S) (p0 : Int32) : AMet l0 yX3_takesYear cX3_takesYear 2 (some .boolean) ({ frames := 0, cells := 0, slots := 0, locals := 0 } : Room) false [.ref 1, .int p0] (wd σ) (fun r h => r = some (.int (x_X3_takesYear σ p0)) ∧ h = wd σ) := by
  refine AMet_of (by decide +kernel) (by simp [Value.category]) (Nat.le_of_ble_eq_true rfl) (fun K hK hct hG hE => ?_)
  have hT := tt_X3_takesYear
  refine AW_g hT cl_X3 hK 0 3 (pc' := 5) (lo' := [some (.ref 1), some (.int p0)]) (st' := [.int (σ.1 1), .int p0]) (hp' := wd σ) rfl ?_
  refine AW_icmp_lt hT hK 3 (tgt := 18) rfl rfl (fun c1 => ?_) (fun c1 => ?_)
  · refine AW_g hT cl_X3 hK 9 1 (pc' := 19) (lo' := [some (.ref 1), some (.int p0)]) (st' := [.int 0]) (hp' := wd σ) rfl ?_
    refine AW_iret hT hE 10 rfl rfl rfl (Nat.le_of_ble_eq_true rfl) (Nat.le_of_ble_eq_true rfl) ?_
    exact ⟨by simp only [x_X3_takesYear, if_pos c1], rfl⟩
  · refine AW_g hT cl_X3 hK 4 2 (pc' := 11) (lo' := [some (.ref 1), some (.int p0)]) (st' := [.int 99, .int p0]) (hp' := wd σ) rfl ?_
    refine AW_icmp_gt hT hK 6 (tgt := 18) rfl rfl (fun c2 => ?_) (fun c2 => ?_)
    · refine AW_g hT cl_X3 hK 9 1 (pc' := 19) (lo' := [some (.ref 1), some (.int p0)]) (st' := [.int 0]) (hp' := wd σ) rfl ?_
      refine AW_iret hT hE 10 rfl rfl rfl (Nat.le_of_ble_eq_true rfl) (Nat.le_of_ble_eq_true rfl) ?_
      exact ⟨by simp only [x_X3_takesYear, if_neg c1, if_pos c2], rfl⟩
    · refine AW_g hT cl_X3 hK 7 1 (pc' := 15) (lo' := [some (.ref 1), some (.int p0)]) (st' := [.int 1]) (hp' := wd σ) rfl ?_
      refine AW_goto hT hK 8 (tgt := 19) rfl rfl ?_
      refine AW_iret hT hE 10 rfl rfl rfl (Nat.le_of_ble_eq_true rfl) (Nat.le_of_ble_eq_true rfl) ?_
      exact ⟨by simp only [x_X3_takesYear, if_neg c1, if_neg c2], rfl⟩
theorem nb_X3_takesYear (σ : az_S) (p0 : Int32) : narrow .boolean (.int (x_X3_takesYear σ p0)) = .int (x_X3_takesYear σ p0) := by
  unfold x_X3_takesYear
  (try dsimp only)
  (repeat' split) <;> first | rfl | (dsimp only; rfl)
def x_X3_referredBy (σ : az_S) (p0 : Int32) : Int32 :=
  let v2 := x_X2_at_4 σ p0
  v2
set_option maxRecDepth 100000 in
set_option maxHeartbeats 4000000 in
theorem m_X3_referredBy (l0 : Launch) (σ : az_S) (p0 : Int32) : AMet l0 yX3_referredBy cX3_referredBy 2 (some .int) ({ frames := 1, cells := 0, slots := 0, locals := 21 } : Room) false [.ref 1, .int p0] (wd σ) (fun r h => r = some (.int (x_X3_referredBy σ p0)) ∧ h = wd σ) := by
  refine AMet_of (by decide +kernel) (by simp [Value.category]) (Nat.le_of_ble_eq_true rfl) (fun K hK hct hG hE => ?_)
  have hT := tt_X3_referredBy
  refine AW_g hT cl_X3 hK 0 3 (pc' := 5) (lo' := [some (.ref 1), some (.int p0)]) (st' := [.int p0, .ref 4]) (hp' := wd σ) rfl ?_
  refine AW_callV hT hK 3 [.int p0] [] (m_X2_at_4 l0 σ p0) cw_X2_at lk_X3_48 vi_X2_at rfl rfl rfl rfl rfl rfl (Nat.le_of_ble_eq_true rfl) (Nat.le_of_ble_eq_true rfl) (AW_k1 (fun v2 h1 => ?_))
  refine AW_iret hT hE 4 rfl rfl rfl (Nat.le_of_ble_eq_true rfl) (Nat.le_of_ble_eq_true rfl) ?_
  subst h1; exact ⟨by simp only [x_X3_referredBy], rfl⟩
def x_X2_at_6 (σ : az_S) (p0 : Int32) : Int32 :=
  if p0 < 0 then
    0
  else
    if 12 ≤ p0 then
      0
    else
      ((σ.2.1 7) p0.toNatClampNeg)
set_option maxRecDepth 100000 in
set_option maxHeartbeats 4000000 in
theorem m_X2_at_6 (l0 : Launch) (σ : az_S) (p0 : Int32) : AMet l0 yX2_at cX2_at 2 (some .int) ({ frames := 0, cells := 0, slots := 0, locals := 0 } : Room) false [.ref 6, .int p0] (wd σ) (fun r h => r = some (.int (x_X2_at_6 σ p0)) ∧ h = wd σ) := by
  refine AMet_of (by decide +kernel) (by simp [Value.category]) (Nat.le_of_ble_eq_true rfl) (fun K hK hct hG hE => ?_)
  have hT := tt_X2_at
  refine AW_g hT cl_X2 hK 0 1 (pc' := 1) (lo' := [some (.ref 6), some (.int p0)]) (st' := [.int p0]) (hp' := wd σ) rfl ?_
  refine AW_if_lt hT hK 1 (tgt := 22) rfl rfl (fun c1 => ?_) (fun c1 => ?_)
  · refine AW_g hT cl_X2 hK 12 1 (pc' := 23) (lo' := [some (.ref 6), some (.int p0)]) (st' := [.int 0]) (hp' := wd σ) rfl ?_
    refine AW_iret hT hE 13 rfl rfl rfl (Nat.le_of_ble_eq_true rfl) (Nat.le_of_ble_eq_true rfl) ?_
    exact ⟨by simp only [x_X2_at_6, if_pos c1], rfl⟩
  · refine AW_g hT cl_X2 hK 2 4 (pc' := 10) (lo' := [some (.ref 6), some (.int p0)]) (st' := [.int 12, .int p0]) (hp' := wd σ) rfl ?_
    refine AW_icmp_ge hT hK 6 (tgt := 22) rfl rfl (fun c2 => ?_) (fun c2 => ?_)
    · refine AW_g hT cl_X2 hK 12 1 (pc' := 23) (lo' := [some (.ref 6), some (.int p0)]) (st' := [.int 0]) (hp' := wd σ) rfl ?_
      refine AW_iret hT hE 13 rfl rfl rfl (Nat.le_of_ble_eq_true rfl) (Nat.le_of_ble_eq_true rfl) ?_
      exact ⟨by simp only [x_X2_at_6, if_neg c1, if_pos c2], rfl⟩
    · refine AW_g hT cl_X2 hK 7 3 (pc' := 18) (lo' := [some (.ref 6), some (.int p0)]) (st' := [.int p0, .ref 7]) (hp' := wd σ) rfl ?_
      refine AW_ialdx hT hK 10 rfl (n := 12) (f := (σ.2.1 7)) rfl (az_in12 c1 c2) ?_
      refine AW_goto hT hK 11 (tgt := 23) rfl rfl ?_
      refine AW_iret hT hE 13 rfl rfl rfl (Nat.le_of_ble_eq_true rfl) (Nat.le_of_ble_eq_true rfl) ?_
      exact ⟨by simp only [x_X2_at_6, if_neg c1, if_neg c2], rfl⟩
def x_X3_citersOf (σ : az_S) (p0 : Int32) : Int32 :=
  let v2 := x_X2_at_6 σ p0
  v2
set_option maxRecDepth 100000 in
set_option maxHeartbeats 4000000 in
theorem m_X3_citersOf (l0 : Launch) (σ : az_S) (p0 : Int32) : AMet l0 yX3_citersOf cX3_citersOf 2 (some .int) ({ frames := 1, cells := 0, slots := 0, locals := 21 } : Room) false [.ref 1, .int p0] (wd σ) (fun r h => r = some (.int (x_X3_citersOf σ p0)) ∧ h = wd σ) := by
  refine AMet_of (by decide +kernel) (by simp [Value.category]) (Nat.le_of_ble_eq_true rfl) (fun K hK hct hG hE => ?_)
  have hT := tt_X3_citersOf
  refine AW_g hT cl_X3 hK 0 3 (pc' := 5) (lo' := [some (.ref 1), some (.int p0)]) (st' := [.int p0, .ref 6]) (hp' := wd σ) rfl ?_
  refine AW_callV hT hK 3 [.int p0] [] (m_X2_at_6 l0 σ p0) cw_X2_at lk_X3_48 vi_X2_at rfl rfl rfl rfl rfl rfl (Nat.le_of_ble_eq_true rfl) (Nat.le_of_ble_eq_true rfl) (AW_k1 (fun v2 h1 => ?_))
  refine AW_iret hT hE 4 rfl rfl rfl (Nat.le_of_ble_eq_true rfl) (Nat.le_of_ble_eq_true rfl) ?_
  subst h1; exact ⟨by simp only [x_X3_citersOf], rfl⟩
def x_X3_cites (σ : az_S) (p0 : Int32) (p1 : Int32) : Int32 :=
  let v2 := x_X2_at_4 σ p0
  let v4 := x_X5_holds σ v2 p1
  v4
set_option maxRecDepth 100000 in
set_option maxHeartbeats 4000000 in
theorem m_X3_cites (l0 : Launch) (σ : az_S) (p0 : Int32) (p1 : Int32) : AMet l0 yX3_cites cX3_cites 3 (some .boolean) ({ frames := 1, cells := 0, slots := 0, locals := 21 } : Room) false [.ref 1, .int p0, .int p1] (wd σ) (fun r h => r = some (.int (x_X3_cites σ p0 p1)) ∧ h = wd σ) := by
  refine AMet_of (by decide +kernel) (by simp [Value.category]) (Nat.le_of_ble_eq_true rfl) (fun K hK hct hG hE => ?_)
  have hT := tt_X3_cites
  refine AW_g hT cl_X3 hK 0 3 (pc' := 5) (lo' := [some (.ref 1), some (.int p0), some (.int p1)]) (st' := [.int p0, .ref 4]) (hp' := wd σ) rfl ?_
  refine AW_callV hT hK 3 [.int p0] [] (m_X2_at_4 l0 σ p0) cw_X2_at lk_X3_48 vi_X2_at rfl rfl rfl rfl rfl rfl (Nat.le_of_ble_eq_true rfl) (Nat.le_of_ble_eq_true rfl) (AW_k1 (fun v2 h1 => ?_))
  refine AW_g hT cl_X3 hK 4 1 (pc' := 9) (lo' := [some (.ref 1), some (.int p0), some (.int p1)]) (st' := [.int p1, .int v2]) (hp' := wd σ) rfl ?_
  refine AW_callSN hT hK 5 [.int v2, .int p1] [] (m_X5_holds l0 σ v2 p1) cw_X5_holds lk_X3_44 sm_X5_holds rfl rfl rfl rfl (Nat.le_of_ble_eq_true rfl) (Nat.le_of_ble_eq_true rfl) (AW_k1 (fun v4 h3 => ?_))
  refine AW_iret hT hE 6 rfl rfl (by rw [← h3]; exact nb_X5_holds _ _ _) (Nat.le_of_ble_eq_true rfl) (Nat.le_of_ble_eq_true rfl) ?_
  subst h3; subst h1; exact ⟨by simp only [x_X3_cites], rfl⟩
theorem nb_X3_cites (σ : az_S) (p0 : Int32) (p1 : Int32) : narrow .boolean (.int (x_X3_cites σ p0 p1)) = .int (x_X3_cites σ p0 p1) := by
  unfold x_X3_cites
  exact nb_X5_holds _ _ _
def x_X4_at_10 (σ : az_S) (p0 : Int32) (p1 : Int32) : Int32 :=
  if p0 < 0 then
    0
  else
    if 12 ≤ p0 then
      0
    else
      if p1 < 0 then
        0
      else
        if 12 ≤ p1 then
          0
        else
          if ((p0 * 12) + p1) < 0 then
            0
          else
            if 144 ≤ ((p0 * 12) + p1) then
              0
            else
              ((σ.2.1 11) ((p0 * 12) + p1).toNatClampNeg)
set_option maxRecDepth 100000 in
set_option maxHeartbeats 4000000 in
theorem m_X4_at_10 (l0 : Launch) (σ : az_S) (p0 : Int32) (p1 : Int32) : AMet l0 yX4_at cX4_at 5 (some .int) ({ frames := 0, cells := 0, slots := 0, locals := 0 } : Room) false [.ref 10, .int p0, .int p1] (wd σ) (fun r h => r = some (.int (x_X4_at_10 σ p0 p1)) ∧ h = wd σ) := by
  refine AMet_of (by decide +kernel) (by simp [Value.category]) (Nat.le_of_ble_eq_true rfl) (fun K hK hct hG hE => ?_)
  have hT := tt_X4_at
  refine AW_g hT cl_X4 hK 0 7 (pc' := 8) (lo' := [some (.ref 10), some (.int p0), some (.int p1), some (.int ((p0 * 12) + p1)), none]) (st' := [.int p0]) (hp' := wd σ) rfl ?_
  refine AW_if_lt hT hK 7 (tgt := 31) rfl rfl (fun c1 => ?_) (fun c1 => ?_)
  · refine AW_g hT cl_X4 hK 18 3 (pc' := 36) (lo' := [some (.ref 10), some (.int p0), some (.int p1), some (.int ((p0 * 12) + p1)), some (.int 0)]) (st' := [.int 0]) (hp' := wd σ) rfl ?_
    refine AW_if_eq hT hK 21 (tgt := 61) rfl rfl (fun _ => ?_) (fun c2 => absurd (by decide) c2)
    refine AW_g hT cl_X4 hK 34 1 (pc' := 62) (lo' := [some (.ref 10), some (.int p0), some (.int p1), some (.int ((p0 * 12) + p1)), some (.int 0)]) (st' := [.int 0]) (hp' := wd σ) rfl ?_
    refine AW_iret hT hE 35 rfl rfl rfl (Nat.le_of_ble_eq_true rfl) (Nat.le_of_ble_eq_true rfl) ?_
    exact ⟨by simp only [x_X4_at_10, if_pos c1], rfl⟩
  · refine AW_g hT cl_X4 hK 8 2 (pc' := 14) (lo' := [some (.ref 10), some (.int p0), some (.int p1), some (.int ((p0 * 12) + p1)), none]) (st' := [.int 12, .int p0]) (hp' := wd σ) rfl ?_
    refine AW_icmp_ge hT hK 10 (tgt := 31) rfl rfl (fun c3 => ?_) (fun c3 => ?_)
    · refine AW_g hT cl_X4 hK 18 3 (pc' := 36) (lo' := [some (.ref 10), some (.int p0), some (.int p1), some (.int ((p0 * 12) + p1)), some (.int 0)]) (st' := [.int 0]) (hp' := wd σ) rfl ?_
      refine AW_if_eq hT hK 21 (tgt := 61) rfl rfl (fun _ => ?_) (fun c4 => absurd (by decide) c4)
      refine AW_g hT cl_X4 hK 34 1 (pc' := 62) (lo' := [some (.ref 10), some (.int p0), some (.int p1), some (.int ((p0 * 12) + p1)), some (.int 0)]) (st' := [.int 0]) (hp' := wd σ) rfl ?_
      refine AW_iret hT hE 35 rfl rfl rfl (Nat.le_of_ble_eq_true rfl) (Nat.le_of_ble_eq_true rfl) ?_
      exact ⟨by simp only [x_X4_at_10, if_neg c1, if_pos c3], rfl⟩
    · refine AW_g hT cl_X4 hK 11 1 (pc' := 18) (lo' := [some (.ref 10), some (.int p0), some (.int p1), some (.int ((p0 * 12) + p1)), none]) (st' := [.int p1]) (hp' := wd σ) rfl ?_
      refine AW_if_lt hT hK 12 (tgt := 31) rfl rfl (fun c5 => ?_) (fun c5 => ?_)
      · refine AW_g hT cl_X4 hK 18 3 (pc' := 36) (lo' := [some (.ref 10), some (.int p0), some (.int p1), some (.int ((p0 * 12) + p1)), some (.int 0)]) (st' := [.int 0]) (hp' := wd σ) rfl ?_
        refine AW_if_eq hT hK 21 (tgt := 61) rfl rfl (fun _ => ?_) (fun c6 => absurd (by decide) c6)
        refine AW_g hT cl_X4 hK 34 1 (pc' := 62) (lo' := [some (.ref 10), some (.int p0), some (.int p1), some (.int ((p0 * 12) + p1)), some (.int 0)]) (st' := [.int 0]) (hp' := wd σ) rfl ?_
        refine AW_iret hT hE 35 rfl rfl rfl (Nat.le_of_ble_eq_true rfl) (Nat.le_of_ble_eq_true rfl) ?_
        exact ⟨by simp only [x_X4_at_10, if_neg c1, if_neg c3, if_pos c5], rfl⟩
      · refine AW_g hT cl_X4 hK 13 2 (pc' := 24) (lo' := [some (.ref 10), some (.int p0), some (.int p1), some (.int ((p0 * 12) + p1)), none]) (st' := [.int 12, .int p1]) (hp' := wd σ) rfl ?_
        refine AW_icmp_ge hT hK 15 (tgt := 31) rfl rfl (fun c7 => ?_) (fun c7 => ?_)
        · refine AW_g hT cl_X4 hK 18 3 (pc' := 36) (lo' := [some (.ref 10), some (.int p0), some (.int p1), some (.int ((p0 * 12) + p1)), some (.int 0)]) (st' := [.int 0]) (hp' := wd σ) rfl ?_
          refine AW_if_eq hT hK 21 (tgt := 61) rfl rfl (fun _ => ?_) (fun c8 => absurd (by decide) c8)
          refine AW_g hT cl_X4 hK 34 1 (pc' := 62) (lo' := [some (.ref 10), some (.int p0), some (.int p1), some (.int ((p0 * 12) + p1)), some (.int 0)]) (st' := [.int 0]) (hp' := wd σ) rfl ?_
          refine AW_iret hT hE 35 rfl rfl rfl (Nat.le_of_ble_eq_true rfl) (Nat.le_of_ble_eq_true rfl) ?_
          exact ⟨by simp only [x_X4_at_10, if_neg c1, if_neg c3, if_neg c5, if_pos c7], rfl⟩
        · refine AW_g hT cl_X4 hK 16 1 (pc' := 28) (lo' := [some (.ref 10), some (.int p0), some (.int p1), some (.int ((p0 * 12) + p1)), none]) (st' := [.int 1]) (hp' := wd σ) rfl ?_
          refine AW_goto hT hK 17 (tgt := 32) rfl rfl ?_
          refine AW_g hT cl_X4 hK 19 2 (pc' := 36) (lo' := [some (.ref 10), some (.int p0), some (.int p1), some (.int ((p0 * 12) + p1)), some (.int 1)]) (st' := [.int 1]) (hp' := wd σ) rfl ?_
          refine AW_if_eq hT hK 21 (tgt := 61) rfl rfl (fun c9 => absurd c9 (by decide)) (fun _ => ?_)
          refine AW_g hT cl_X4 hK 22 1 (pc' := 40) (lo' := [some (.ref 10), some (.int p0), some (.int p1), some (.int ((p0 * 12) + p1)), some (.int 1)]) (st' := [.int ((p0 * 12) + p1)]) (hp' := wd σ) rfl ?_
          refine AW_if_lt hT hK 23 (tgt := 61) rfl rfl (fun c10 => ?_) (fun c10 => ?_)
          · refine AW_g hT cl_X4 hK 34 1 (pc' := 62) (lo' := [some (.ref 10), some (.int p0), some (.int p1), some (.int ((p0 * 12) + p1)), some (.int 1)]) (st' := [.int 0]) (hp' := wd σ) rfl ?_
            refine AW_iret hT hE 35 rfl rfl rfl (Nat.le_of_ble_eq_true rfl) (Nat.le_of_ble_eq_true rfl) ?_
            exact ⟨by simp only [x_X4_at_10, if_neg c1, if_neg c3, if_neg c5, if_neg c7, if_pos c10], rfl⟩
          · refine AW_g hT cl_X4 hK 24 4 (pc' := 49) (lo' := [some (.ref 10), some (.int p0), some (.int p1), some (.int ((p0 * 12) + p1)), some (.int 1)]) (st' := [.int 144, .int ((p0 * 12) + p1)]) (hp' := wd σ) rfl ?_
            refine AW_icmp_ge hT hK 28 (tgt := 61) rfl rfl (fun c11 => ?_) (fun c11 => ?_)
            · refine AW_g hT cl_X4 hK 34 1 (pc' := 62) (lo' := [some (.ref 10), some (.int p0), some (.int p1), some (.int ((p0 * 12) + p1)), some (.int 1)]) (st' := [.int 0]) (hp' := wd σ) rfl ?_
              refine AW_iret hT hE 35 rfl rfl rfl (Nat.le_of_ble_eq_true rfl) (Nat.le_of_ble_eq_true rfl) ?_
              exact ⟨by simp only [x_X4_at_10, if_neg c1, if_neg c3, if_neg c5, if_neg c7, if_neg c10, if_pos c11], rfl⟩
            · refine AW_g hT cl_X4 hK 29 3 (pc' := 57) (lo' := [some (.ref 10), some (.int p0), some (.int p1), some (.int ((p0 * 12) + p1)), some (.int 1)]) (st' := [.int ((p0 * 12) + p1), .ref 11]) (hp' := wd σ) rfl ?_
              refine AW_ialdx hT hK 32 rfl (n := 144) (f := (σ.2.1 11)) rfl (az_in144 c10 c11) ?_
              refine AW_goto hT hK 33 (tgt := 62) rfl rfl ?_
              refine AW_iret hT hE 35 rfl rfl rfl (Nat.le_of_ble_eq_true rfl) (Nat.le_of_ble_eq_true rfl) ?_
              exact ⟨by simp only [x_X4_at_10, if_neg c1, if_neg c3, if_neg c5, if_neg c7, if_neg c10, if_neg c11], rfl⟩
def x_X4_setOneWay_10 (σ : az_S) (p0 : Int32) (p1 : Int32) (p2 : Int32) : az_S :=
  if p0 < 0 then
    σ
  else
    if 12 ≤ p0 then
      σ
    else
      if p1 < 0 then
        σ
      else
        if 12 ≤ p1 then
          σ
        else
          if ((p0 * 12) + p1) < 0 then
            σ
          else
            if 144 ≤ ((p0 * 12) + p1) then
              σ
            else
              (sG σ 11 (va_up (σ.2.1 11) ((p0 * 12) + p1).toNatClampNeg p2))
set_option maxRecDepth 100000 in
set_option maxHeartbeats 4000000 in
theorem m_X4_setOneWay_10 (l0 : Launch) (σ : az_S) (p0 : Int32) (p1 : Int32) (p2 : Int32) : AMet l0 yX4_setOneWay cX4_setOneWay 6 none ({ frames := 0, cells := 0, slots := 0, locals := 0 } : Room) false [.ref 10, .int p0, .int p1, .int p2] (wd σ) (fun r h => r = none ∧ h = wd (x_X4_setOneWay_10 σ p0 p1 p2)) := by
  refine AMet_of (by decide +kernel) (by simp [Value.category]) (Nat.le_of_ble_eq_true rfl) (fun K hK hct hG hE => ?_)
  have hT := tt_X4_setOneWay
  refine AW_g hT cl_X4 hK 0 7 (pc' := 9) (lo' := [some (.ref 10), some (.int p0), some (.int p1), some (.int p2), some (.int ((p0 * 12) + p1)), none]) (st' := [.int p0]) (hp' := wd σ) rfl ?_
  refine AW_if_lt hT hK 7 (tgt := 32) rfl rfl (fun c1 => ?_) (fun c1 => ?_)
  · refine AW_g hT cl_X4 hK 18 3 (pc' := 37) (lo' := [some (.ref 10), some (.int p0), some (.int p1), some (.int p2), some (.int ((p0 * 12) + p1)), some (.int 0)]) (st' := [.int 0]) (hp' := wd σ) rfl ?_
    refine AW_if_eq hT hK 21 (tgt := 63) rfl rfl (fun _ => ?_) (fun c2 => absurd (by decide) c2)
    refine AW_vret hT hE 34 rfl (Nat.le_of_ble_eq_true rfl) (Nat.le_of_ble_eq_true rfl) ?_
    exact ⟨rfl, congrArg wd (by simp only [x_X4_setOneWay_10, if_pos c1])⟩
  · refine AW_g hT cl_X4 hK 8 2 (pc' := 15) (lo' := [some (.ref 10), some (.int p0), some (.int p1), some (.int p2), some (.int ((p0 * 12) + p1)), none]) (st' := [.int 12, .int p0]) (hp' := wd σ) rfl ?_
    refine AW_icmp_ge hT hK 10 (tgt := 32) rfl rfl (fun c3 => ?_) (fun c3 => ?_)
    · refine AW_g hT cl_X4 hK 18 3 (pc' := 37) (lo' := [some (.ref 10), some (.int p0), some (.int p1), some (.int p2), some (.int ((p0 * 12) + p1)), some (.int 0)]) (st' := [.int 0]) (hp' := wd σ) rfl ?_
      refine AW_if_eq hT hK 21 (tgt := 63) rfl rfl (fun _ => ?_) (fun c4 => absurd (by decide) c4)
      refine AW_vret hT hE 34 rfl (Nat.le_of_ble_eq_true rfl) (Nat.le_of_ble_eq_true rfl) ?_
      exact ⟨rfl, congrArg wd (by simp only [x_X4_setOneWay_10, if_neg c1, if_pos c3])⟩
    · refine AW_g hT cl_X4 hK 11 1 (pc' := 19) (lo' := [some (.ref 10), some (.int p0), some (.int p1), some (.int p2), some (.int ((p0 * 12) + p1)), none]) (st' := [.int p1]) (hp' := wd σ) rfl ?_
      refine AW_if_lt hT hK 12 (tgt := 32) rfl rfl (fun c5 => ?_) (fun c5 => ?_)
      · refine AW_g hT cl_X4 hK 18 3 (pc' := 37) (lo' := [some (.ref 10), some (.int p0), some (.int p1), some (.int p2), some (.int ((p0 * 12) + p1)), some (.int 0)]) (st' := [.int 0]) (hp' := wd σ) rfl ?_
        refine AW_if_eq hT hK 21 (tgt := 63) rfl rfl (fun _ => ?_) (fun c6 => absurd (by decide) c6)
        refine AW_vret hT hE 34 rfl (Nat.le_of_ble_eq_true rfl) (Nat.le_of_ble_eq_true rfl) ?_
        exact ⟨rfl, congrArg wd (by simp only [x_X4_setOneWay_10, if_neg c1, if_neg c3, if_pos c5])⟩
      · refine AW_g hT cl_X4 hK 13 2 (pc' := 25) (lo' := [some (.ref 10), some (.int p0), some (.int p1), some (.int p2), some (.int ((p0 * 12) + p1)), none]) (st' := [.int 12, .int p1]) (hp' := wd σ) rfl ?_
        refine AW_icmp_ge hT hK 15 (tgt := 32) rfl rfl (fun c7 => ?_) (fun c7 => ?_)
        · refine AW_g hT cl_X4 hK 18 3 (pc' := 37) (lo' := [some (.ref 10), some (.int p0), some (.int p1), some (.int p2), some (.int ((p0 * 12) + p1)), some (.int 0)]) (st' := [.int 0]) (hp' := wd σ) rfl ?_
          refine AW_if_eq hT hK 21 (tgt := 63) rfl rfl (fun _ => ?_) (fun c8 => absurd (by decide) c8)
          refine AW_vret hT hE 34 rfl (Nat.le_of_ble_eq_true rfl) (Nat.le_of_ble_eq_true rfl) ?_
          exact ⟨rfl, congrArg wd (by simp only [x_X4_setOneWay_10, if_neg c1, if_neg c3, if_neg c5, if_pos c7])⟩
        · refine AW_g hT cl_X4 hK 16 1 (pc' := 29) (lo' := [some (.ref 10), some (.int p0), some (.int p1), some (.int p2), some (.int ((p0 * 12) + p1)), none]) (st' := [.int 1]) (hp' := wd σ) rfl ?_
          refine AW_goto hT hK 17 (tgt := 33) rfl rfl ?_
          refine AW_g hT cl_X4 hK 19 2 (pc' := 37) (lo' := [some (.ref 10), some (.int p0), some (.int p1), some (.int p2), some (.int ((p0 * 12) + p1)), some (.int 1)]) (st' := [.int 1]) (hp' := wd σ) rfl ?_
          refine AW_if_eq hT hK 21 (tgt := 63) rfl rfl (fun c9 => absurd c9 (by decide)) (fun _ => ?_)
          refine AW_g hT cl_X4 hK 22 1 (pc' := 42) (lo' := [some (.ref 10), some (.int p0), some (.int p1), some (.int p2), some (.int ((p0 * 12) + p1)), some (.int 1)]) (st' := [.int ((p0 * 12) + p1)]) (hp' := wd σ) rfl ?_
          refine AW_if_lt hT hK 23 (tgt := 63) rfl rfl (fun c10 => ?_) (fun c10 => ?_)
          · refine AW_vret hT hE 34 rfl (Nat.le_of_ble_eq_true rfl) (Nat.le_of_ble_eq_true rfl) ?_
            exact ⟨rfl, congrArg wd (by simp only [x_X4_setOneWay_10, if_neg c1, if_neg c3, if_neg c5, if_neg c7, if_pos c10])⟩
          · refine AW_g hT cl_X4 hK 24 4 (pc' := 52) (lo' := [some (.ref 10), some (.int p0), some (.int p1), some (.int p2), some (.int ((p0 * 12) + p1)), some (.int 1)]) (st' := [.int 144, .int ((p0 * 12) + p1)]) (hp' := wd σ) rfl ?_
            refine AW_icmp_ge hT hK 28 (tgt := 63) rfl rfl (fun c11 => ?_) (fun c11 => ?_)
            · refine AW_vret hT hE 34 rfl (Nat.le_of_ble_eq_true rfl) (Nat.le_of_ble_eq_true rfl) ?_
              exact ⟨rfl, congrArg wd (by simp only [x_X4_setOneWay_10, if_neg c1, if_neg c3, if_neg c5, if_neg c7, if_neg c10, if_pos c11])⟩
            · refine AW_g hT cl_X4 hK 29 4 (pc' := 62) (lo' := [some (.ref 10), some (.int p0), some (.int p1), some (.int p2), some (.int ((p0 * 12) + p1)), some (.int 1)]) (st' := [.int p2, .int ((p0 * 12) + p1), .ref 11]) (hp' := wd σ) rfl ?_
              refine AW_iastx hT hK 33 rfl (n := 144) (f := (σ.2.1 11)) rfl (az_in144 c10 c11) ?_
              refine AW_to (hp' := wd (sG σ 11 (va_up (σ.2.1 11) ((p0 * 12) + p1).toNatClampNeg p2))) rfl rfl rfl ?_
              refine AW_vret hT hE 34 rfl (Nat.le_of_ble_eq_true rfl) (Nat.le_of_ble_eq_true rfl) ?_
              exact ⟨rfl, congrArg wd (by simp only [x_X4_setOneWay_10, if_neg c1, if_neg c3, if_neg c5, if_neg c7, if_neg c10, if_neg c11])⟩
def x_X4_add_10 (σ : az_S) (p0 : Int32) (p1 : Int32) (p2 : Int32) : az_S :=
  let v2 := x_X4_at_10 σ p0 p1
  let τ4 := x_X4_setOneWay_10 σ p0 p1 (v2 + p2)
  let τ6 := x_X4_setOneWay_10 (τ4) p1 p0 (v2 + p2)
  τ6
set_option maxRecDepth 100000 in
set_option maxHeartbeats 4000000 in
theorem m_X4_add_10 (l0 : Launch) (σ : az_S) (p0 : Int32) (p1 : Int32) (p2 : Int32) : AMet l0 yX4_add cX4_add 5 none ({ frames := 1, cells := 0, slots := 0, locals := 25 } : Room) false [.ref 10, .int p0, .int p1, .int p2] (wd σ) (fun r h => r = none ∧ h = wd (x_X4_add_10 σ p0 p1 p2)) := by
  refine AMet_of (by decide +kernel) (by simp [Value.category]) (Nat.le_of_ble_eq_true rfl) (fun K hK hct hG hE => ?_)
  have hT := tt_X4_add
  refine AW_g hT cl_X4 hK 0 3 (pc' := 3) (lo' := [some (.ref 10), some (.int p0), some (.int p1), some (.int p2), none]) (st' := [.int p1, .int p0, .ref 10]) (hp' := wd σ) rfl ?_
  refine AW_callV hT hK 3 [.int p0, .int p1] [] (m_X4_at_10 l0 σ p0 p1) cw_X4_at lk_X4_19 vi_X4_at rfl rfl rfl rfl rfl rfl (Nat.le_of_ble_eq_true rfl) (Nat.le_of_ble_eq_true rfl) (AW_k1 (fun v2 h1 => ?_))
  refine AW_g hT cl_X4 hK 4 7 (pc' := 15) (lo' := [some (.ref 10), some (.int p0), some (.int p1), some (.int p2), some (.int (v2 + p2))]) (st' := [.int (v2 + p2), .int p1, .int p0, .ref 10]) (hp' := wd σ) rfl ?_
  refine AW_callV hT hK 11 [.int p0, .int p1, .int (v2 + p2)] [] (m_X4_setOneWay_10 l0 σ p0 p1 (v2 + p2)) cw_X4_setOneWay lk_X4_15 vi_X4_setOneWay rfl rfl rfl rfl rfl rfl (Nat.le_of_ble_eq_true rfl) (Nat.le_of_ble_eq_true rfl) (AW_kv (fun τ4 h3 => ?_))
  refine AW_g hT cl_X4 hK 12 4 (pc' := 23) (lo' := [some (.ref 10), some (.int p0), some (.int p1), some (.int p2), some (.int (v2 + p2))]) (st' := [.int (v2 + p2), .int p0, .int p1, .ref 10]) (hp' := wd (τ4)) rfl ?_
  refine AW_callV hT hK 16 [.int p1, .int p0, .int (v2 + p2)] [] (m_X4_setOneWay_10 l0 (τ4) p1 p0 (v2 + p2)) cw_X4_setOneWay lk_X4_15 vi_X4_setOneWay rfl rfl rfl rfl rfl rfl (Nat.le_of_ble_eq_true rfl) (Nat.le_of_ble_eq_true rfl) (AW_kv (fun τ6 h5 => ?_))
  refine AW_vret hT hE 17 rfl (Nat.le_of_ble_eq_true rfl) (Nat.le_of_ble_eq_true rfl) ?_
  subst h5; subst h3; subst h1; exact ⟨rfl, congrArg wd (by simp only [x_X4_add_10])⟩
def b_X3_countCiting_23 (d1 : Int32) (d2 : Int32) (d3 : Int32) (i : Nat) (σ : az_S) : az_S :=
  let v7 := x_X3_cites σ (nI i) d2
  if v7 = 0 then
    let v10 := x_X3_cites σ d1 (nI i)
    if v10 = 0 then
      σ
    else
      let τ13 := x_X4_add_10 σ d2 (nI i) d3
      (τ13)
  else
    let τ15 := x_X4_add_8 σ d1 (nI i) d3
    let v17 := x_X3_cites (τ15) d1 (nI i)
    if v17 = 0 then
      (τ15)
    else
      let τ20 := x_X4_add_10 (τ15) d2 (nI i) d3
      (τ20)
set_option maxRecDepth 100000 in
set_option maxHeartbeats 4000000 in
theorem lp_X3_countCiting_23 {K : az_K} {l0 : Launch} (hT : az_Tb cX3_countCiting tb_X3_countCiting) (hK : az_OK K RX3 cX3_countCiting ({ frames := 2, cells := 0, slots := 0, locals := 49 } : Room) l0) (d1 : Int32) (d2 : Int32) (d3 : Int32) :
    ∀ (n i : Nat) (σ : az_S) (hi : i + n = 12) (kx : ∀ s' : az_S, az_it (fun ι s => b_X3_countCiting_23 d1 d2 d3 ι s) n i σ = s' → AW K 0 0 78 [some (.ref 1), some (.int d1), some (.int d2), some (.int d3), none] [] (wd s')), AW K 0 0 23 [some (.ref 1), some (.int d1), some (.int d2), some (.int d3), some (.int (nI i))] [] (wd σ) := by
  intro n
  induction n with
  | zero =>
    intro i σ hi kx
    refine AW_g hT cl_X3 hK 14 2 (pc' := 27) (lo' := [some (.ref 1), some (.int d1), some (.int d2), some (.int d3), some (.int (nI i))]) (st' := [.int 12, .int (nI i)]) (hp' := wd σ) rfl ?_
    refine AW_icmp_ge hT hK 16 (tgt := 78) rfl rfl (fun c21 => ?_) (fun c21 => absurd (az_c0 hi) c21)
    refine AW_msk [true, true, true, true, false] (lo' := [some (.ref 1), some (.int d1), some (.int d2), some (.int d3), none]) rfl ?_
    exact kx σ rfl
  | succ n ih =>
    intro i σ hi kx
    refine AW_g hT cl_X3 hK 14 2 (pc' := 27) (lo' := [some (.ref 1), some (.int d1), some (.int d2), some (.int d3), some (.int (nI i))]) (st' := [.int 12, .int (nI i)]) (hp' := wd σ) rfl ?_
    refine AW_icmp_ge hT hK 16 (tgt := 78) rfl rfl (fun c5 => absurd c5 (az_c1 hi)) (fun c5 => ?_)
    refine AW_g hT cl_X3 hK 17 3 (pc' := 34) (lo' := [some (.ref 1), some (.int d1), some (.int d2), some (.int d3), some (.int (nI i))]) (st' := [.int d2, .int (nI i), .ref 1]) (hp' := wd σ) rfl ?_
    refine AW_callV hT hK 20 [.int (nI i), .int d2] [] (m_X3_cites l0 σ (nI i) d2) cw_X3_cites lk_X3_62 vi_X3_cites rfl rfl rfl rfl rfl rfl (Nat.le_of_ble_eq_true rfl) (Nat.le_of_ble_eq_true rfl) (AW_k1 (fun v7 h6 => ?_))
    refine AW_if_eq hT hK 21 (tgt := 51) rfl rfl (fun c8 => ?_) (fun c8 => ?_)
    · refine AW_g hT cl_X3 hK 28 3 (pc' := 55) (lo' := [some (.ref 1), some (.int d1), some (.int d2), some (.int d3), some (.int (nI i))]) (st' := [.int (nI i), .int d1, .ref 1]) (hp' := wd σ) rfl ?_
      refine AW_callV hT hK 31 [.int d1, .int (nI i)] [] (m_X3_cites l0 σ d1 (nI i)) cw_X3_cites lk_X3_62 vi_X3_cites rfl rfl rfl rfl rfl rfl (Nat.le_of_ble_eq_true rfl) (Nat.le_of_ble_eq_true rfl) (AW_k1 (fun v10 h9 => ?_))
      refine AW_if_eq hT hK 32 (tgt := 72) rfl rfl (fun c11 => ?_) (fun c11 => ?_)
      · refine AW_g hT cl_X3 hK 39 1 (pc' := 75) (lo' := [some (.ref 1), some (.int d1), some (.int d2), some (.int d3), some (.int ((nI i) + 1))]) (st' := []) (hp' := wd σ) rfl ?_
        refine AW_goto hT hK 40 (tgt := 23) rfl rfl ?_
        refine AW_to (lo' := [some (.ref 1), some (.int d1), some (.int d2), some (.int d3), some (.int (nI (i + 1)))]) (by rw [nI_1]) rfl rfl ?_
        subst h9; subst h6; skip
        exact ih (i + 1) _ (by omega) (fun s' hs' => kx s' ((congrArg (az_it _ n (i + 1)) (by simp only [b_X3_countCiting_23, if_pos c8, if_pos c11])).trans hs'))
      · refine AW_g hT cl_X3 hK 33 5 (pc' := 69) (lo' := [some (.ref 1), some (.int d1), some (.int d2), some (.int d3), some (.int (nI i))]) (st' := [.int d3, .int (nI i), .int d2, .ref 10]) (hp' := wd σ) rfl ?_
        refine AW_callV hT hK 38 [.int d2, .int (nI i), .int d3] [] (m_X4_add_10 l0 σ d2 (nI i) d3) cw_X4_add lk_X3_72 vi_X4_add rfl rfl rfl rfl rfl rfl (Nat.le_of_ble_eq_true rfl) (Nat.le_of_ble_eq_true rfl) (AW_kv (fun τ13 h12 => ?_))
        refine AW_g hT cl_X3 hK 39 1 (pc' := 75) (lo' := [some (.ref 1), some (.int d1), some (.int d2), some (.int d3), some (.int ((nI i) + 1))]) (st' := []) (hp' := wd (τ13)) rfl ?_
        refine AW_goto hT hK 40 (tgt := 23) rfl rfl ?_
        refine AW_to (lo' := [some (.ref 1), some (.int d1), some (.int d2), some (.int d3), some (.int (nI (i + 1)))]) (by rw [nI_1]) rfl rfl ?_
        subst h12; subst h9; subst h6; skip
        exact ih (i + 1) _ (by omega) (fun s' hs' => kx s' ((congrArg (az_it _ n (i + 1)) (by simp only [b_X3_countCiting_23, if_pos c8, if_neg c11])).trans hs'))
    · refine AW_g hT cl_X3 hK 22 5 (pc' := 48) (lo' := [some (.ref 1), some (.int d1), some (.int d2), some (.int d3), some (.int (nI i))]) (st' := [.int d3, .int (nI i), .int d1, .ref 8]) (hp' := wd σ) rfl ?_
      refine AW_callV hT hK 27 [.int d1, .int (nI i), .int d3] [] (m_X4_add_8 l0 σ d1 (nI i) d3) cw_X4_add lk_X3_72 vi_X4_add rfl rfl rfl rfl rfl rfl (Nat.le_of_ble_eq_true rfl) (Nat.le_of_ble_eq_true rfl) (AW_kv (fun τ15 h14 => ?_))
      refine AW_g hT cl_X3 hK 28 3 (pc' := 55) (lo' := [some (.ref 1), some (.int d1), some (.int d2), some (.int d3), some (.int (nI i))]) (st' := [.int (nI i), .int d1, .ref 1]) (hp' := wd (τ15)) rfl ?_
      refine AW_callV hT hK 31 [.int d1, .int (nI i)] [] (m_X3_cites l0 (τ15) d1 (nI i)) cw_X3_cites lk_X3_62 vi_X3_cites rfl rfl rfl rfl rfl rfl (Nat.le_of_ble_eq_true rfl) (Nat.le_of_ble_eq_true rfl) (AW_k1 (fun v17 h16 => ?_))
      refine AW_if_eq hT hK 32 (tgt := 72) rfl rfl (fun c18 => ?_) (fun c18 => ?_)
      · refine AW_g hT cl_X3 hK 39 1 (pc' := 75) (lo' := [some (.ref 1), some (.int d1), some (.int d2), some (.int d3), some (.int ((nI i) + 1))]) (st' := []) (hp' := wd (τ15)) rfl ?_
        refine AW_goto hT hK 40 (tgt := 23) rfl rfl ?_
        refine AW_to (lo' := [some (.ref 1), some (.int d1), some (.int d2), some (.int d3), some (.int (nI (i + 1)))]) (by rw [nI_1]) rfl rfl ?_
        subst h16; subst h14; subst h6; skip
        exact ih (i + 1) _ (by omega) (fun s' hs' => kx s' ((congrArg (az_it _ n (i + 1)) (by simp only [b_X3_countCiting_23, if_neg c8, if_pos c18])).trans hs'))
      · refine AW_g hT cl_X3 hK 33 5 (pc' := 69) (lo' := [some (.ref 1), some (.int d1), some (.int d2), some (.int d3), some (.int (nI i))]) (st' := [.int d3, .int (nI i), .int d2, .ref 10]) (hp' := wd (τ15)) rfl ?_
        refine AW_callV hT hK 38 [.int d2, .int (nI i), .int d3] [] (m_X4_add_10 l0 (τ15) d2 (nI i) d3) cw_X4_add lk_X3_72 vi_X4_add rfl rfl rfl rfl rfl rfl (Nat.le_of_ble_eq_true rfl) (Nat.le_of_ble_eq_true rfl) (AW_kv (fun τ20 h19 => ?_))
        refine AW_g hT cl_X3 hK 39 1 (pc' := 75) (lo' := [some (.ref 1), some (.int d1), some (.int d2), some (.int d3), some (.int ((nI i) + 1))]) (st' := []) (hp' := wd (τ20)) rfl ?_
        refine AW_goto hT hK 40 (tgt := 23) rfl rfl ?_
        refine AW_to (lo' := [some (.ref 1), some (.int d1), some (.int d2), some (.int d3), some (.int (nI (i + 1)))]) (by rw [nI_1]) rfl rfl ?_
        subst h19; subst h16; subst h14; subst h6; skip
        exact ih (i + 1) _ (by omega) (fun s' hs' => kx s' ((congrArg (az_it _ n (i + 1)) (by simp only [b_X3_countCiting_23, if_neg c8, if_neg c18])).trans hs'))
def x_X3_countCiting (σ : az_S) (p0 : Int32) (p1 : Int32) (p2 : Int32) : az_S :=
  let τ2 := x_X4_add_8 σ p0 p0 p2
  let τ4 := x_X4_add_10 (τ2) p1 p1 p2
  let s22 := az_it (fun ι s => b_X3_countCiting_23 p0 p1 p2 ι s) 12 0 (τ4)
  s22
set_option maxRecDepth 100000 in
set_option maxHeartbeats 4000000 in
theorem m_X3_countCiting (l0 : Launch) (σ : az_S) (p0 : Int32) (p1 : Int32) (p2 : Int32) : AMet l0 yX3_countCiting cX3_countCiting 5 none ({ frames := 2, cells := 0, slots := 0, locals := 49 } : Room) false [.ref 1, .int p0, .int p1, .int p2] (wd σ) (fun r h => r = none ∧ h = wd (x_X3_countCiting σ p0 p1 p2)) := by
  refine AMet_of (by decide +kernel) (by simp [Value.category]) (Nat.le_of_ble_eq_true rfl) (fun K hK hct hG hE => ?_)
  have hT := tt_X3_countCiting
  refine AW_g hT cl_X3 hK 0 5 (pc' := 7) (lo' := [some (.ref 1), some (.int p0), some (.int p1), some (.int p2), none]) (st' := [.int p2, .int p0, .int p0, .ref 8]) (hp' := wd σ) rfl ?_
  refine AW_callV hT hK 5 [.int p0, .int p0, .int p2] [] (m_X4_add_8 l0 σ p0 p0 p2) cw_X4_add lk_X3_72 vi_X4_add rfl rfl rfl rfl rfl rfl (Nat.le_of_ble_eq_true rfl) (Nat.le_of_ble_eq_true rfl) (AW_kv (fun τ2 h1 => ?_))
  refine AW_g hT cl_X3 hK 6 5 (pc' := 17) (lo' := [some (.ref 1), some (.int p0), some (.int p1), some (.int p2), none]) (st' := [.int p2, .int p1, .int p1, .ref 10]) (hp' := wd (τ2)) rfl ?_
  refine AW_callV hT hK 11 [.int p1, .int p1, .int p2] [] (m_X4_add_10 l0 (τ2) p1 p1 p2) cw_X4_add lk_X3_72 vi_X4_add rfl rfl rfl rfl rfl rfl (Nat.le_of_ble_eq_true rfl) (Nat.le_of_ble_eq_true rfl) (AW_kv (fun τ4 h3 => ?_))
  refine AW_g hT cl_X3 hK 12 2 (pc' := 23) (lo' := [some (.ref 1), some (.int p0), some (.int p1), some (.int p2), some (.int 0)]) (st' := []) (hp' := wd (τ4)) rfl ?_
  refine AW_to (lo' := [some (.ref 1), some (.int p0), some (.int p1), some (.int p2), some (.int (nI 0))]) (rfl) rfl rfl ?_
  refine lp_X3_countCiting_23 hT hK p0 p1 p2 12 0 (τ4) (by first | rfl | omega) (fun s22 h23 => ?_)
  refine AW_vret hT hE 41 rfl (Nat.le_of_ble_eq_true rfl) (Nat.le_of_ble_eq_true rfl) ?_
  subst h23; subst h3; subst h1; exact ⟨rfl, congrArg wd (by simp only [x_X3_countCiting])⟩
def x_X2_set_6 (σ : az_S) (p0 : Int32) (p1 : Int32) : az_S :=
  if p0 < 0 then
    σ
  else
    if 12 ≤ p0 then
      σ
    else
      (sG σ 7 (va_up (σ.2.1 7) p0.toNatClampNeg p1))
set_option maxRecDepth 100000 in
set_option maxHeartbeats 4000000 in
theorem m_X2_set_6 (l0 : Launch) (σ : az_S) (p0 : Int32) (p1 : Int32) : AMet l0 yX2_set cX2_set 3 none ({ frames := 0, cells := 0, slots := 0, locals := 0 } : Room) false [.ref 6, .int p0, .int p1] (wd σ) (fun r h => r = none ∧ h = wd (x_X2_set_6 σ p0 p1)) := by
  refine AMet_of (by decide +kernel) (by simp [Value.category]) (Nat.le_of_ble_eq_true rfl) (fun K hK hct hG hE => ?_)
  have hT := tt_X2_set
  refine AW_g hT cl_X2 hK 0 1 (pc' := 1) (lo' := [some (.ref 6), some (.int p0), some (.int p1)]) (st' := [.int p0]) (hp' := wd σ) rfl ?_
  refine AW_if_lt hT hK 1 (tgt := 20) rfl rfl (fun c1 => ?_) (fun c1 => ?_)
  · refine AW_vret hT hE 12 rfl (Nat.le_of_ble_eq_true rfl) (Nat.le_of_ble_eq_true rfl) ?_
    exact ⟨rfl, congrArg wd (by simp only [x_X2_set_6, if_pos c1])⟩
  · refine AW_g hT cl_X2 hK 2 4 (pc' := 10) (lo' := [some (.ref 6), some (.int p0), some (.int p1)]) (st' := [.int 12, .int p0]) (hp' := wd σ) rfl ?_
    refine AW_icmp_ge hT hK 6 (tgt := 20) rfl rfl (fun c2 => ?_) (fun c2 => ?_)
    · refine AW_vret hT hE 12 rfl (Nat.le_of_ble_eq_true rfl) (Nat.le_of_ble_eq_true rfl) ?_
      exact ⟨rfl, congrArg wd (by simp only [x_X2_set_6, if_neg c1, if_pos c2])⟩
    · refine AW_g hT cl_X2 hK 7 4 (pc' := 19) (lo' := [some (.ref 6), some (.int p0), some (.int p1)]) (st' := [.int p1, .int p0, .ref 7]) (hp' := wd σ) rfl ?_
      refine AW_iastx hT hK 11 rfl (n := 12) (f := (σ.2.1 7)) rfl (az_in12 c1 c2) ?_
      refine AW_to (hp' := wd (sG σ 7 (va_up (σ.2.1 7) p0.toNatClampNeg p1))) rfl rfl rfl ?_
      refine AW_vret hT hE 12 rfl (Nat.le_of_ble_eq_true rfl) (Nat.le_of_ble_eq_true rfl) ?_
      exact ⟨rfl, congrArg wd (by simp only [x_X2_set_6, if_neg c1, if_neg c2])⟩
def x_X3_addCiting (σ : az_S) (p0 : Int32) (p1 : Int32) : az_S :=
  let τ2 := x_X3_countCiting σ p0 p1 1
  let v4 := x_X2_at_4 (τ2) p0
  let v6 := x_X5_setOf (τ2) p1
  let τ8 := x_X2_set_4 (τ2) p0 (v4 ||| v6)
  let v10 := x_X2_at_6 (τ8) p1
  let v12 := x_X5_setOf (τ8) p0
  let τ14 := x_X2_set_6 (τ8) p1 (v10 ||| v12)
  τ14
set_option maxRecDepth 100000 in
set_option maxHeartbeats 4000000 in
theorem m_X3_addCiting (l0 : Launch) (σ : az_S) (p0 : Int32) (p1 : Int32) : AMet l0 yX3_addCiting cX3_addCiting 3 none ({ frames := 3, cells := 0, slots := 0, locals := 73 } : Room) false [.ref 1, .int p0, .int p1] (wd σ) (fun r h => r = none ∧ h = wd (x_X3_addCiting σ p0 p1)) := by
  refine AMet_of (by decide +kernel) (by simp [Value.category]) (Nat.le_of_ble_eq_true rfl) (fun K hK hct hG hE => ?_)
  have hT := tt_X3_addCiting
  refine AW_g hT cl_X3 hK 0 4 (pc' := 4) (lo' := [some (.ref 1), some (.int p0), some (.int p1)]) (st' := [.int 1, .int p1, .int p0, .ref 1]) (hp' := wd σ) rfl ?_
  refine AW_callV hT hK 4 [.int p0, .int p1, .int 1] [] (m_X3_countCiting l0 σ p0 p1 1) cw_X3_countCiting lk_X3_68 vi_X3_countCiting rfl rfl rfl rfl rfl rfl (Nat.le_of_ble_eq_true rfl) (Nat.le_of_ble_eq_true rfl) (AW_kv (fun τ2 h1 => ?_))
  refine AW_g hT cl_X3 hK 5 6 (pc' := 17) (lo' := [some (.ref 1), some (.int p0), some (.int p1)]) (st' := [.int p0, .ref 4, .int p0, .ref 4]) (hp' := wd (τ2)) rfl ?_
  refine AW_callV hT hK 11 [.int p0] [.int p0, .ref 4] (m_X2_at_4 l0 (τ2) p0) cw_X2_at lk_X3_48 vi_X2_at rfl rfl rfl rfl rfl rfl (Nat.le_of_ble_eq_true rfl) (Nat.le_of_ble_eq_true rfl) (AW_k1 (fun v4 h3 => ?_))
  refine AW_g hT cl_X3 hK 12 1 (pc' := 21) (lo' := [some (.ref 1), some (.int p0), some (.int p1)]) (st' := [.int p1, .int v4, .int p0, .ref 4]) (hp' := wd (τ2)) rfl ?_
  refine AW_callSN hT hK 13 [.int p1] [.int v4, .int p0, .ref 4] (m_X5_setOf l0 (τ2) p1) cw_X5_setOf lk_X3_56 sm_X5_setOf rfl rfl rfl rfl (Nat.le_of_ble_eq_true rfl) (Nat.le_of_ble_eq_true rfl) (AW_k1 (fun v6 h5 => ?_))
  refine AW_g hT cl_X3 hK 14 1 (pc' := 25) (lo' := [some (.ref 1), some (.int p0), some (.int p1)]) (st' := [.int (v4 ||| v6), .int p0, .ref 4]) (hp' := wd (τ2)) rfl ?_
  refine AW_callV hT hK 15 [.int p0, .int (v4 ||| v6)] [] (m_X2_set_4 l0 (τ2) p0 (v4 ||| v6)) cw_X2_set lk_X3_52 vi_X2_set rfl rfl rfl rfl rfl rfl (Nat.le_of_ble_eq_true rfl) (Nat.le_of_ble_eq_true rfl) (AW_kv (fun τ8 h7 => ?_))
  refine AW_g hT cl_X3 hK 16 6 (pc' := 38) (lo' := [some (.ref 1), some (.int p0), some (.int p1)]) (st' := [.int p1, .ref 6, .int p1, .ref 6]) (hp' := wd (τ8)) rfl ?_
  refine AW_callV hT hK 22 [.int p1] [.int p1, .ref 6] (m_X2_at_6 l0 (τ8) p1) cw_X2_at lk_X3_48 vi_X2_at rfl rfl rfl rfl rfl rfl (Nat.le_of_ble_eq_true rfl) (Nat.le_of_ble_eq_true rfl) (AW_k1 (fun v10 h9 => ?_))
  refine AW_g hT cl_X3 hK 23 1 (pc' := 42) (lo' := [some (.ref 1), some (.int p0), some (.int p1)]) (st' := [.int p0, .int v10, .int p1, .ref 6]) (hp' := wd (τ8)) rfl ?_
  refine AW_callSN hT hK 24 [.int p0] [.int v10, .int p1, .ref 6] (m_X5_setOf l0 (τ8) p0) cw_X5_setOf lk_X3_56 sm_X5_setOf rfl rfl rfl rfl (Nat.le_of_ble_eq_true rfl) (Nat.le_of_ble_eq_true rfl) (AW_k1 (fun v12 h11 => ?_))
  refine AW_g hT cl_X3 hK 25 1 (pc' := 46) (lo' := [some (.ref 1), some (.int p0), some (.int p1)]) (st' := [.int (v10 ||| v12), .int p1, .ref 6]) (hp' := wd (τ8)) rfl ?_
  refine AW_callV hT hK 26 [.int p1, .int (v10 ||| v12)] [] (m_X2_set_6 l0 (τ8) p1 (v10 ||| v12)) cw_X2_set lk_X3_52 vi_X2_set rfl rfl rfl rfl rfl rfl (Nat.le_of_ble_eq_true rfl) (Nat.le_of_ble_eq_true rfl) (AW_kv (fun τ14 h13 => ?_))
  refine AW_vret hT hE 27 rfl (Nat.le_of_ble_eq_true rfl) (Nat.le_of_ble_eq_true rfl) ?_
  subst h13; subst h11; subst h9; subst h7; subst h5; subst h3; subst h1; exact ⟨rfl, congrArg wd (by simp only [x_X3_addCiting])⟩
def x_X3_dropCiting (σ : az_S) (p0 : Int32) (p1 : Int32) : az_S :=
  let v2 := x_X2_at_4 σ p0
  let v4 := x_X5_setOf σ p1
  let τ6 := x_X2_set_4 σ p0 (v2 &&& (v4 ^^^ (-1)))
  let v8 := x_X2_at_6 (τ6) p1
  let v10 := x_X5_setOf (τ6) p0
  let τ12 := x_X2_set_6 (τ6) p1 (v8 &&& (v10 ^^^ (-1)))
  let τ14 := x_X3_countCiting (τ12) p0 p1 (-1)
  τ14
set_option maxRecDepth 100000 in
set_option maxHeartbeats 4000000 in
theorem m_X3_dropCiting (l0 : Launch) (σ : az_S) (p0 : Int32) (p1 : Int32) : AMet l0 yX3_dropCiting cX3_dropCiting 3 none ({ frames := 3, cells := 0, slots := 0, locals := 73 } : Room) false [.ref 1, .int p0, .int p1] (wd σ) (fun r h => r = none ∧ h = wd (x_X3_dropCiting σ p0 p1)) := by
  refine AMet_of (by decide +kernel) (by simp [Value.category]) (Nat.le_of_ble_eq_true rfl) (fun K hK hct hG hE => ?_)
  have hT := tt_X3_dropCiting
  refine AW_g hT cl_X3 hK 0 6 (pc' := 10) (lo' := [some (.ref 1), some (.int p0), some (.int p1)]) (st' := [.int p0, .ref 4, .int p0, .ref 4]) (hp' := wd σ) rfl ?_
  refine AW_callV hT hK 6 [.int p0] [.int p0, .ref 4] (m_X2_at_4 l0 σ p0) cw_X2_at lk_X3_48 vi_X2_at rfl rfl rfl rfl rfl rfl (Nat.le_of_ble_eq_true rfl) (Nat.le_of_ble_eq_true rfl) (AW_k1 (fun v2 h1 => ?_))
  refine AW_g hT cl_X3 hK 7 1 (pc' := 14) (lo' := [some (.ref 1), some (.int p0), some (.int p1)]) (st' := [.int p1, .int v2, .int p0, .ref 4]) (hp' := wd σ) rfl ?_
  refine AW_callSN hT hK 8 [.int p1] [.int v2, .int p0, .ref 4] (m_X5_setOf l0 σ p1) cw_X5_setOf lk_X3_56 sm_X5_setOf rfl rfl rfl rfl (Nat.le_of_ble_eq_true rfl) (Nat.le_of_ble_eq_true rfl) (AW_k1 (fun v4 h3 => ?_))
  refine AW_g hT cl_X3 hK 9 3 (pc' := 20) (lo' := [some (.ref 1), some (.int p0), some (.int p1)]) (st' := [.int (v2 &&& (v4 ^^^ (-1))), .int p0, .ref 4]) (hp' := wd σ) rfl ?_
  refine AW_callV hT hK 12 [.int p0, .int (v2 &&& (v4 ^^^ (-1)))] [] (m_X2_set_4 l0 σ p0 (v2 &&& (v4 ^^^ (-1)))) cw_X2_set lk_X3_52 vi_X2_set rfl rfl rfl rfl rfl rfl (Nat.le_of_ble_eq_true rfl) (Nat.le_of_ble_eq_true rfl) (AW_kv (fun τ6 h5 => ?_))
  refine AW_g hT cl_X3 hK 13 6 (pc' := 33) (lo' := [some (.ref 1), some (.int p0), some (.int p1)]) (st' := [.int p1, .ref 6, .int p1, .ref 6]) (hp' := wd (τ6)) rfl ?_
  refine AW_callV hT hK 19 [.int p1] [.int p1, .ref 6] (m_X2_at_6 l0 (τ6) p1) cw_X2_at lk_X3_48 vi_X2_at rfl rfl rfl rfl rfl rfl (Nat.le_of_ble_eq_true rfl) (Nat.le_of_ble_eq_true rfl) (AW_k1 (fun v8 h7 => ?_))
  refine AW_g hT cl_X3 hK 20 1 (pc' := 37) (lo' := [some (.ref 1), some (.int p0), some (.int p1)]) (st' := [.int p0, .int v8, .int p1, .ref 6]) (hp' := wd (τ6)) rfl ?_
  refine AW_callSN hT hK 21 [.int p0] [.int v8, .int p1, .ref 6] (m_X5_setOf l0 (τ6) p0) cw_X5_setOf lk_X3_56 sm_X5_setOf rfl rfl rfl rfl (Nat.le_of_ble_eq_true rfl) (Nat.le_of_ble_eq_true rfl) (AW_k1 (fun v10 h9 => ?_))
  refine AW_g hT cl_X3 hK 22 3 (pc' := 43) (lo' := [some (.ref 1), some (.int p0), some (.int p1)]) (st' := [.int (v8 &&& (v10 ^^^ (-1))), .int p1, .ref 6]) (hp' := wd (τ6)) rfl ?_
  refine AW_callV hT hK 25 [.int p1, .int (v8 &&& (v10 ^^^ (-1)))] [] (m_X2_set_6 l0 (τ6) p1 (v8 &&& (v10 ^^^ (-1)))) cw_X2_set lk_X3_52 vi_X2_set rfl rfl rfl rfl rfl rfl (Nat.le_of_ble_eq_true rfl) (Nat.le_of_ble_eq_true rfl) (AW_kv (fun τ12 h11 => ?_))
  refine AW_g hT cl_X3 hK 26 4 (pc' := 50) (lo' := [some (.ref 1), some (.int p0), some (.int p1)]) (st' := [.int (-1), .int p1, .int p0, .ref 1]) (hp' := wd (τ12)) rfl ?_
  refine AW_callV hT hK 30 [.int p0, .int p1, .int (-1)] [] (m_X3_countCiting l0 (τ12) p0 p1 (-1)) cw_X3_countCiting lk_X3_68 vi_X3_countCiting rfl rfl rfl rfl rfl rfl (Nat.le_of_ble_eq_true rfl) (Nat.le_of_ble_eq_true rfl) (AW_kv (fun τ14 h13 => ?_))
  refine AW_vret hT hE 31 rfl (Nat.le_of_ble_eq_true rfl) (Nat.le_of_ble_eq_true rfl) ?_
  subst h13; subst h11; subst h9; subst h7; subst h5; subst h3; subst h1; exact ⟨rfl, congrArg wd (by simp only [x_X3_dropCiting])⟩
def x_X2_set_2 (σ : az_S) (p0 : Int32) (p1 : Int32) : az_S :=
  if p0 < 0 then
    σ
  else
    if 12 ≤ p0 then
      σ
    else
      (sG σ 3 (va_up (σ.2.1 3) p0.toNatClampNeg p1))
set_option maxRecDepth 100000 in
set_option maxHeartbeats 4000000 in
theorem m_X2_set_2 (l0 : Launch) (σ : az_S) (p0 : Int32) (p1 : Int32) : AMet l0 yX2_set cX2_set 3 none ({ frames := 0, cells := 0, slots := 0, locals := 0 } : Room) false [.ref 2, .int p0, .int p1] (wd σ) (fun r h => r = none ∧ h = wd (x_X2_set_2 σ p0 p1)) := by
  refine AMet_of (by decide +kernel) (by simp [Value.category]) (Nat.le_of_ble_eq_true rfl) (fun K hK hct hG hE => ?_)
  have hT := tt_X2_set
  refine AW_g hT cl_X2 hK 0 1 (pc' := 1) (lo' := [some (.ref 2), some (.int p0), some (.int p1)]) (st' := [.int p0]) (hp' := wd σ) rfl ?_
  refine AW_if_lt hT hK 1 (tgt := 20) rfl rfl (fun c1 => ?_) (fun c1 => ?_)
  · refine AW_vret hT hE 12 rfl (Nat.le_of_ble_eq_true rfl) (Nat.le_of_ble_eq_true rfl) ?_
    exact ⟨rfl, congrArg wd (by simp only [x_X2_set_2, if_pos c1])⟩
  · refine AW_g hT cl_X2 hK 2 4 (pc' := 10) (lo' := [some (.ref 2), some (.int p0), some (.int p1)]) (st' := [.int 12, .int p0]) (hp' := wd σ) rfl ?_
    refine AW_icmp_ge hT hK 6 (tgt := 20) rfl rfl (fun c2 => ?_) (fun c2 => ?_)
    · refine AW_vret hT hE 12 rfl (Nat.le_of_ble_eq_true rfl) (Nat.le_of_ble_eq_true rfl) ?_
      exact ⟨rfl, congrArg wd (by simp only [x_X2_set_2, if_neg c1, if_pos c2])⟩
    · refine AW_g hT cl_X2 hK 7 4 (pc' := 19) (lo' := [some (.ref 2), some (.int p0), some (.int p1)]) (st' := [.int p1, .int p0, .ref 3]) (hp' := wd σ) rfl ?_
      refine AW_iastx hT hK 11 rfl (n := 12) (f := (σ.2.1 3)) rfl (az_in12 c1 c2) ?_
      refine AW_to (hp' := wd (sG σ 3 (va_up (σ.2.1 3) p0.toNatClampNeg p1))) rfl rfl rfl ?_
      refine AW_vret hT hE 12 rfl (Nat.le_of_ble_eq_true rfl) (Nat.le_of_ble_eq_true rfl) ?_
      exact ⟨rfl, congrArg wd (by simp only [x_X2_set_2, if_neg c1, if_neg c2])⟩
def b_X3_put_45 (d1 : Int32) (d2 : Int32) (d3 : Int32) (i : Nat) (σ : az_S) : az_S :=
  let v11 := x_X5_holds σ d2 (nI i)
  if v11 = 0 then
    σ
  else
    let τ14 := x_X3_addCiting σ d3 (nI i)
    (τ14)
set_option maxRecDepth 100000 in
set_option maxHeartbeats 4000000 in
theorem lp_X3_put_45 {K : az_K} {l0 : Launch} (hT : az_Tb cX3_put tb_X3_put) (hK : az_OK K RX3 cX3_put ({ frames := 4, cells := 0, slots := 0, locals := 95 } : Room) l0) (d1 : Int32) (d2 : Int32) (d3 : Int32) :
    ∀ (n i : Nat) (σ : az_S) (hi : i + n = 12) (kx : ∀ s' : az_S, az_it (fun ι s => b_X3_put_45 d1 d2 d3 ι s) n i σ = s' → AW K 0 0 74 [some (.ref 1), some (.int d1), some (.int d2), some (.int d3), none] [] (wd s')), AW K 0 0 45 [some (.ref 1), some (.int d1), some (.int d2), some (.int d3), some (.int (nI i))] [] (wd σ) := by
  intro n
  induction n with
  | zero =>
    intro i σ hi kx
    refine AW_g hT cl_X3 hK 26 2 (pc' := 49) (lo' := [some (.ref 1), some (.int d1), some (.int d2), some (.int d3), some (.int (nI i))]) (st' := [.int 12, .int (nI i)]) (hp' := wd σ) rfl ?_
    refine AW_icmp_ge hT hK 28 (tgt := 74) rfl rfl (fun c15 => ?_) (fun c15 => absurd (az_c0 hi) c15)
    refine AW_msk [true, true, true, true, false] (lo' := [some (.ref 1), some (.int d1), some (.int d2), some (.int d3), none]) rfl ?_
    exact kx σ rfl
  | succ n ih =>
    intro i σ hi kx
    refine AW_g hT cl_X3 hK 26 2 (pc' := 49) (lo' := [some (.ref 1), some (.int d1), some (.int d2), some (.int d3), some (.int (nI i))]) (st' := [.int 12, .int (nI i)]) (hp' := wd σ) rfl ?_
    refine AW_icmp_ge hT hK 28 (tgt := 74) rfl rfl (fun c9 => absurd c9 (az_c1 hi)) (fun c9 => ?_)
    refine AW_g hT cl_X3 hK 29 2 (pc' := 55) (lo' := [some (.ref 1), some (.int d1), some (.int d2), some (.int d3), some (.int (nI i))]) (st' := [.int (nI i), .int d2]) (hp' := wd σ) rfl ?_
    refine AW_callSN hT hK 31 [.int d2, .int (nI i)] [] (m_X5_holds l0 σ d2 (nI i)) cw_X5_holds lk_X3_44 sm_X5_holds rfl rfl rfl rfl (Nat.le_of_ble_eq_true rfl) (Nat.le_of_ble_eq_true rfl) (AW_k1 (fun v11 h10 => ?_))
    refine AW_if_eq hT hK 32 (tgt := 68) rfl rfl (fun c12 => ?_) (fun c12 => ?_)
    · refine AW_g hT cl_X3 hK 37 1 (pc' := 71) (lo' := [some (.ref 1), some (.int d1), some (.int d2), some (.int d3), some (.int ((nI i) + 1))]) (st' := []) (hp' := wd σ) rfl ?_
      refine AW_goto hT hK 38 (tgt := 45) rfl rfl ?_
      refine AW_to (lo' := [some (.ref 1), some (.int d1), some (.int d2), some (.int d3), some (.int (nI (i + 1)))]) (by rw [nI_1]) rfl rfl ?_
      subst h10; skip
      exact ih (i + 1) _ (by omega) (fun s' hs' => kx s' ((congrArg (az_it _ n (i + 1)) (by simp only [b_X3_put_45, if_pos c12])).trans hs'))
    · refine AW_g hT cl_X3 hK 33 3 (pc' := 65) (lo' := [some (.ref 1), some (.int d1), some (.int d2), some (.int d3), some (.int (nI i))]) (st' := [.int (nI i), .int d3, .ref 1]) (hp' := wd σ) rfl ?_
      refine AW_callV hT hK 36 [.int d3, .int (nI i)] [] (m_X3_addCiting l0 σ d3 (nI i)) cw_X3_addCiting lk_X3_59 vi_X3_addCiting rfl rfl rfl rfl rfl rfl (Nat.le_of_ble_eq_true rfl) (Nat.le_of_ble_eq_true rfl) (AW_kv (fun τ14 h13 => ?_))
      refine AW_g hT cl_X3 hK 37 1 (pc' := 71) (lo' := [some (.ref 1), some (.int d1), some (.int d2), some (.int d3), some (.int ((nI i) + 1))]) (st' := []) (hp' := wd (τ14)) rfl ?_
      refine AW_goto hT hK 38 (tgt := 45) rfl rfl ?_
      refine AW_to (lo' := [some (.ref 1), some (.int d1), some (.int d2), some (.int d3), some (.int (nI (i + 1)))]) (by rw [nI_1]) rfl rfl ?_
      subst h13; subst h10; skip
      exact ih (i + 1) _ (by omega) (fun s' hs' => kx s' ((congrArg (az_it _ n (i + 1)) (by simp only [b_X3_put_45, if_neg c12])).trans hs'))
def x_X3_put (σ : az_S) (p0 : Int32) (p1 : Int32) : Int32 × az_S :=
  let u1 := ((σ.1 0) + 1)
  let τ4 := x_X2_set_2 (sF (sF σ 0 u1) 1 p0) (σ.1 0) p0
  let v6 := x_X5_setOf (τ4) (σ.1 0)
  let u7 := ((τ4.1 2) ||| v6)
  let s16 := az_it (fun ι s => b_X3_put_45 p0 p1 (σ.1 0) ι s) 12 0 (sF τ4 2 u7)
  ((σ.1 0), s16)
set_option maxRecDepth 100000 in
set_option maxHeartbeats 4000000 in
theorem m_X3_put (l0 : Launch) (σ : az_S) (p0 : Int32) (p1 : Int32) : AMet l0 yX3_put cX3_put 5 (some .int) ({ frames := 4, cells := 0, slots := 0, locals := 95 } : Room) false [.ref 1, .int p0, .int p1] (wd σ) (fun r h => r = some (.int (x_X3_put σ p0 p1).1) ∧ h = wd (x_X3_put σ p0 p1).2) := by
  refine AMet_of (by decide +kernel) (by simp [Value.category]) (Nat.le_of_ble_eq_true rfl) (fun K hK hct hG hE => ?_)
  have hT := tt_X3_put
  refine AW_g hT cl_X3 hK 0 8 (pc' := 12) (lo' := [some (.ref 1), some (.int p0), some (.int p1), some (.int (σ.1 0)), none]) (st' := [.int ((σ.1 0) + 1), .ref 1]) (hp' := wd σ) rfl ?_
  refine AW_topi (fun u1 h2 => ?_)
  refine AW_g hT cl_X3 hK 8 8 (pc' := 26) (lo' := [some (.ref 1), some (.int p0), some (.int p1), some (.int (σ.1 0)), none]) (st' := [.int p0, .int (σ.1 0), .ref 2]) (hp' := wd (sF (sF σ 0 u1) 1 p0)) rfl ?_
  refine AW_callV hT hK 16 [.int (σ.1 0), .int p0] [] (m_X2_set_2 l0 (sF (sF σ 0 u1) 1 p0) (σ.1 0) p0) cw_X2_set lk_X3_52 vi_X2_set rfl rfl rfl rfl rfl rfl (Nat.le_of_ble_eq_true rfl) (Nat.le_of_ble_eq_true rfl) (AW_kv (fun τ4 h3 => ?_))
  refine AW_g hT cl_X3 hK 17 4 (pc' := 35) (lo' := [some (.ref 1), some (.int p0), some (.int p1), some (.int (σ.1 0)), none]) (st' := [.int (σ.1 0), .int (τ4.1 2), .ref 1]) (hp' := wd (τ4)) rfl ?_
  refine AW_callSN hT hK 21 [.int (σ.1 0)] [.int (τ4.1 2), .ref 1] (m_X5_setOf l0 (τ4) (σ.1 0)) cw_X5_setOf lk_X3_56 sm_X5_setOf rfl rfl rfl rfl (Nat.le_of_ble_eq_true rfl) (Nat.le_of_ble_eq_true rfl) (AW_k1 (fun v6 h5 => ?_))
  refine AW_g hT cl_X3 hK 22 1 (pc' := 39) (lo' := [some (.ref 1), some (.int p0), some (.int p1), some (.int (σ.1 0)), none]) (st' := [.int ((τ4.1 2) ||| v6), .ref 1]) (hp' := wd (τ4)) rfl ?_
  refine AW_topi (fun u7 h8 => ?_)
  refine AW_g hT cl_X3 hK 23 3 (pc' := 45) (lo' := [some (.ref 1), some (.int p0), some (.int p1), some (.int (σ.1 0)), some (.int 0)]) (st' := []) (hp' := wd (sF τ4 2 u7)) rfl ?_
  refine AW_to (lo' := [some (.ref 1), some (.int p0), some (.int p1), some (.int (σ.1 0)), some (.int (nI 0))]) (rfl) rfl rfl ?_
  refine lp_X3_put_45 hT hK p0 p1 (σ.1 0) 12 0 (sF τ4 2 u7) (by first | rfl | omega) (fun s16 h17 => ?_)
  refine AW_g hT cl_X3 hK 39 1 (pc' := 75) (lo' := [some (.ref 1), some (.int p0), some (.int p1), some (.int (σ.1 0)), none]) (st' := [.int (σ.1 0)]) (hp' := wd s16) rfl ?_
  refine AW_iret hT hE 40 rfl rfl rfl (Nat.le_of_ble_eq_true rfl) (Nat.le_of_ble_eq_true rfl) ?_
  subst h17; subst h8; subst h5; subst h3; subst h2; exact ⟨by simp only [x_X3_put], by simp only [x_X3_put]⟩
def b_X3_take_2 (d1 : Int32) (i : Nat) (σ : az_S) : az_S :=
  let v3 := x_X3_cites σ d1 (nI i)
  if v3 = 0 then
    let v6 := x_X3_cites σ (nI i) d1
    if v6 = 0 then
      σ
    else
      let τ9 := x_X3_dropCiting σ (nI i) d1
      (τ9)
  else
    let τ11 := x_X3_dropCiting σ d1 (nI i)
    let v13 := x_X3_cites (τ11) (nI i) d1
    if v13 = 0 then
      (τ11)
    else
      let τ16 := x_X3_dropCiting (τ11) (nI i) d1
      (τ16)
set_option maxRecDepth 100000 in
set_option maxHeartbeats 4000000 in
theorem lp_X3_take_2 {K : az_K} {l0 : Launch} (hT : az_Tb cX3_take tb_X3_take) (hK : az_OK K RX3 cX3_take ({ frames := 4, cells := 0, slots := 0, locals := 95 } : Room) l0) (d1 : Int32) :
    ∀ (n i : Nat) (σ : az_S) (hi : i + n = 12) (kx : ∀ s' : az_S, az_it (fun ι s => b_X3_take_2 d1 ι s) n i σ = s' → AW K 0 0 44 [some (.ref 1), some (.int d1), none] [] (wd s')), AW K 0 0 2 [some (.ref 1), some (.int d1), some (.int (nI i))] [] (wd σ) := by
  intro n
  induction n with
  | zero =>
    intro i σ hi kx
    refine AW_g hT cl_X3 hK 2 2 (pc' := 5) (lo' := [some (.ref 1), some (.int d1), some (.int (nI i))]) (st' := [.int 12, .int (nI i)]) (hp' := wd σ) rfl ?_
    refine AW_icmp_ge hT hK 4 (tgt := 44) rfl rfl (fun c17 => ?_) (fun c17 => absurd (az_c0 hi) c17)
    refine AW_msk [true, true, false] (lo' := [some (.ref 1), some (.int d1), none]) rfl ?_
    exact kx σ rfl
  | succ n ih =>
    intro i σ hi kx
    refine AW_g hT cl_X3 hK 2 2 (pc' := 5) (lo' := [some (.ref 1), some (.int d1), some (.int (nI i))]) (st' := [.int 12, .int (nI i)]) (hp' := wd σ) rfl ?_
    refine AW_icmp_ge hT hK 4 (tgt := 44) rfl rfl (fun c1 => absurd c1 (az_c1 hi)) (fun c1 => ?_)
    refine AW_g hT cl_X3 hK 5 3 (pc' := 11) (lo' := [some (.ref 1), some (.int d1), some (.int (nI i))]) (st' := [.int (nI i), .int d1, .ref 1]) (hp' := wd σ) rfl ?_
    refine AW_callV hT hK 8 [.int d1, .int (nI i)] [] (m_X3_cites l0 σ d1 (nI i)) cw_X3_cites lk_X3_62 vi_X3_cites rfl rfl rfl rfl rfl rfl (Nat.le_of_ble_eq_true rfl) (Nat.le_of_ble_eq_true rfl) (AW_k1 (fun v3 h2 => ?_))
    refine AW_if_eq hT hK 9 (tgt := 23) rfl rfl (fun c4 => ?_) (fun c4 => ?_)
    · refine AW_g hT cl_X3 hK 14 3 (pc' := 26) (lo' := [some (.ref 1), some (.int d1), some (.int (nI i))]) (st' := [.int d1, .int (nI i), .ref 1]) (hp' := wd σ) rfl ?_
      refine AW_callV hT hK 17 [.int (nI i), .int d1] [] (m_X3_cites l0 σ (nI i) d1) cw_X3_cites lk_X3_62 vi_X3_cites rfl rfl rfl rfl rfl rfl (Nat.le_of_ble_eq_true rfl) (Nat.le_of_ble_eq_true rfl) (AW_k1 (fun v6 h5 => ?_))
      refine AW_if_eq hT hK 18 (tgt := 38) rfl rfl (fun c7 => ?_) (fun c7 => ?_)
      · refine AW_g hT cl_X3 hK 23 1 (pc' := 41) (lo' := [some (.ref 1), some (.int d1), some (.int ((nI i) + 1))]) (st' := []) (hp' := wd σ) rfl ?_
        refine AW_goto hT hK 24 (tgt := 2) rfl rfl ?_
        refine AW_to (lo' := [some (.ref 1), some (.int d1), some (.int (nI (i + 1)))]) (by rw [nI_1]) rfl rfl ?_
        subst h5; subst h2; skip
        exact ih (i + 1) _ (by omega) (fun s' hs' => kx s' ((congrArg (az_it _ n (i + 1)) (by simp only [b_X3_take_2, if_pos c4, if_pos c7])).trans hs'))
      · refine AW_g hT cl_X3 hK 19 3 (pc' := 35) (lo' := [some (.ref 1), some (.int d1), some (.int (nI i))]) (st' := [.int d1, .int (nI i), .ref 1]) (hp' := wd σ) rfl ?_
        refine AW_callV hT hK 22 [.int (nI i), .int d1] [] (m_X3_dropCiting l0 σ (nI i) d1) cw_X3_dropCiting lk_X3_65 vi_X3_dropCiting rfl rfl rfl rfl rfl rfl (Nat.le_of_ble_eq_true rfl) (Nat.le_of_ble_eq_true rfl) (AW_kv (fun τ9 h8 => ?_))
        refine AW_g hT cl_X3 hK 23 1 (pc' := 41) (lo' := [some (.ref 1), some (.int d1), some (.int ((nI i) + 1))]) (st' := []) (hp' := wd (τ9)) rfl ?_
        refine AW_goto hT hK 24 (tgt := 2) rfl rfl ?_
        refine AW_to (lo' := [some (.ref 1), some (.int d1), some (.int (nI (i + 1)))]) (by rw [nI_1]) rfl rfl ?_
        subst h8; subst h5; subst h2; skip
        exact ih (i + 1) _ (by omega) (fun s' hs' => kx s' ((congrArg (az_it _ n (i + 1)) (by simp only [b_X3_take_2, if_pos c4, if_neg c7])).trans hs'))
    · refine AW_g hT cl_X3 hK 10 3 (pc' := 20) (lo' := [some (.ref 1), some (.int d1), some (.int (nI i))]) (st' := [.int (nI i), .int d1, .ref 1]) (hp' := wd σ) rfl ?_
      refine AW_callV hT hK 13 [.int d1, .int (nI i)] [] (m_X3_dropCiting l0 σ d1 (nI i)) cw_X3_dropCiting lk_X3_65 vi_X3_dropCiting rfl rfl rfl rfl rfl rfl (Nat.le_of_ble_eq_true rfl) (Nat.le_of_ble_eq_true rfl) (AW_kv (fun τ11 h10 => ?_))
      refine AW_g hT cl_X3 hK 14 3 (pc' := 26) (lo' := [some (.ref 1), some (.int d1), some (.int (nI i))]) (st' := [.int d1, .int (nI i), .ref 1]) (hp' := wd (τ11)) rfl ?_
      refine AW_callV hT hK 17 [.int (nI i), .int d1] [] (m_X3_cites l0 (τ11) (nI i) d1) cw_X3_cites lk_X3_62 vi_X3_cites rfl rfl rfl rfl rfl rfl (Nat.le_of_ble_eq_true rfl) (Nat.le_of_ble_eq_true rfl) (AW_k1 (fun v13 h12 => ?_))
      refine AW_if_eq hT hK 18 (tgt := 38) rfl rfl (fun c14 => ?_) (fun c14 => ?_)
      · refine AW_g hT cl_X3 hK 23 1 (pc' := 41) (lo' := [some (.ref 1), some (.int d1), some (.int ((nI i) + 1))]) (st' := []) (hp' := wd (τ11)) rfl ?_
        refine AW_goto hT hK 24 (tgt := 2) rfl rfl ?_
        refine AW_to (lo' := [some (.ref 1), some (.int d1), some (.int (nI (i + 1)))]) (by rw [nI_1]) rfl rfl ?_
        subst h12; subst h10; subst h2; skip
        exact ih (i + 1) _ (by omega) (fun s' hs' => kx s' ((congrArg (az_it _ n (i + 1)) (by simp only [b_X3_take_2, if_neg c4, if_pos c14])).trans hs'))
      · refine AW_g hT cl_X3 hK 19 3 (pc' := 35) (lo' := [some (.ref 1), some (.int d1), some (.int (nI i))]) (st' := [.int d1, .int (nI i), .ref 1]) (hp' := wd (τ11)) rfl ?_
        refine AW_callV hT hK 22 [.int (nI i), .int d1] [] (m_X3_dropCiting l0 (τ11) (nI i) d1) cw_X3_dropCiting lk_X3_65 vi_X3_dropCiting rfl rfl rfl rfl rfl rfl (Nat.le_of_ble_eq_true rfl) (Nat.le_of_ble_eq_true rfl) (AW_kv (fun τ16 h15 => ?_))
        refine AW_g hT cl_X3 hK 23 1 (pc' := 41) (lo' := [some (.ref 1), some (.int d1), some (.int ((nI i) + 1))]) (st' := []) (hp' := wd (τ16)) rfl ?_
        refine AW_goto hT hK 24 (tgt := 2) rfl rfl ?_
        refine AW_to (lo' := [some (.ref 1), some (.int d1), some (.int (nI (i + 1)))]) (by rw [nI_1]) rfl rfl ?_
        subst h15; subst h12; subst h10; subst h2; skip
        exact ih (i + 1) _ (by omega) (fun s' hs' => kx s' ((congrArg (az_it _ n (i + 1)) (by simp only [b_X3_take_2, if_neg c4, if_neg c14])).trans hs'))
def x_X3_take (σ : az_S) (p0 : Int32) : az_S :=
  let s18 := az_it (fun ι s => b_X3_take_2 p0 ι s) 12 0 σ
  let v21 := x_X5_setOf s18 p0
  let u22 := ((s18.1 2) &&& (v21 ^^^ (-1)))
  (sF s18 2 u22)
set_option maxRecDepth 100000 in
set_option maxHeartbeats 4000000 in
theorem m_X3_take (l0 : Launch) (σ : az_S) (p0 : Int32) : AMet l0 yX3_take cX3_take 3 none ({ frames := 4, cells := 0, slots := 0, locals := 95 } : Room) false [.ref 1, .int p0] (wd σ) (fun r h => r = none ∧ h = wd (x_X3_take σ p0)) := by
  refine AMet_of (by decide +kernel) (by simp [Value.category]) (Nat.le_of_ble_eq_true rfl) (fun K hK hct hG hE => ?_)
  have hT := tt_X3_take
  refine AW_g hT cl_X3 hK 0 2 (pc' := 2) (lo' := [some (.ref 1), some (.int p0), some (.int 0)]) (st' := []) (hp' := wd σ) rfl ?_
  refine AW_to (lo' := [some (.ref 1), some (.int p0), some (.int (nI 0))]) (rfl) rfl rfl ?_
  refine lp_X3_take_2 hT hK p0 12 0 σ (by first | rfl | omega) (fun s18 h19 => ?_)
  refine AW_g hT cl_X3 hK 25 4 (pc' := 50) (lo' := [some (.ref 1), some (.int p0), none]) (st' := [.int p0, .int (s18.1 2), .ref 1]) (hp' := wd s18) rfl ?_
  refine AW_callSN hT hK 29 [.int p0] [.int (s18.1 2), .ref 1] (m_X5_setOf l0 s18 p0) cw_X5_setOf lk_X3_56 sm_X5_setOf rfl rfl rfl rfl (Nat.le_of_ble_eq_true rfl) (Nat.le_of_ble_eq_true rfl) (AW_k1 (fun v21 h20 => ?_))
  refine AW_g hT cl_X3 hK 30 3 (pc' := 56) (lo' := [some (.ref 1), some (.int p0), none]) (st' := [.int ((s18.1 2) &&& (v21 ^^^ (-1))), .ref 1]) (hp' := wd s18) rfl ?_
  refine AW_topi (fun u22 h23 => ?_)
  refine AW_g hT cl_X3 hK 33 1 (pc' := 59) (lo' := [some (.ref 1), some (.int p0), none]) (st' := []) (hp' := wd (sF s18 2 u22)) rfl ?_
  refine AW_vret hT hE 34 rfl (Nat.le_of_ble_eq_true rfl) (Nat.le_of_ble_eq_true rfl) ?_
  subst h23; subst h20; subst h19; exact ⟨rfl, congrArg wd (by simp only [x_X3_take])⟩
def x_X3_sharedOf (σ : az_S) (p0 : Int32) (p1 : Int32) : Int32 :=
  let v2 := x_X4_at_8 σ p0 p1
  v2
set_option maxRecDepth 100000 in
set_option maxHeartbeats 4000000 in
theorem m_X3_sharedOf (l0 : Launch) (σ : az_S) (p0 : Int32) (p1 : Int32) : AMet l0 yX3_sharedOf cX3_sharedOf 3 (some .int) ({ frames := 1, cells := 0, slots := 0, locals := 24 } : Room) false [.ref 1, .int p0, .int p1] (wd σ) (fun r h => r = some (.int (x_X3_sharedOf σ p0 p1)) ∧ h = wd σ) := by
  refine AMet_of (by decide +kernel) (by simp [Value.category]) (Nat.le_of_ble_eq_true rfl) (fun K hK hct hG hE => ?_)
  have hT := tt_X3_sharedOf
  refine AW_g hT cl_X3 hK 0 4 (pc' := 6) (lo' := [some (.ref 1), some (.int p0), some (.int p1)]) (st' := [.int p1, .int p0, .ref 8]) (hp' := wd σ) rfl ?_
  refine AW_callV hT hK 4 [.int p0, .int p1] [] (m_X4_at_8 l0 σ p0 p1) cw_X4_at lk_X3_75 vi_X4_at rfl rfl rfl rfl rfl rfl (Nat.le_of_ble_eq_true rfl) (Nat.le_of_ble_eq_true rfl) (AW_k1 (fun v2 h1 => ?_))
  refine AW_iret hT hE 5 rfl rfl rfl (Nat.le_of_ble_eq_true rfl) (Nat.le_of_ble_eq_true rfl) ?_
  subst h1; exact ⟨by simp only [x_X3_sharedOf], rfl⟩
def x_X3_jointOf (σ : az_S) (p0 : Int32) (p1 : Int32) : Int32 :=
  let v2 := x_X4_at_10 σ p0 p1
  v2
set_option maxRecDepth 100000 in
set_option maxHeartbeats 4000000 in
theorem m_X3_jointOf (l0 : Launch) (σ : az_S) (p0 : Int32) (p1 : Int32) : AMet l0 yX3_jointOf cX3_jointOf 3 (some .int) ({ frames := 1, cells := 0, slots := 0, locals := 24 } : Room) false [.ref 1, .int p0, .int p1] (wd σ) (fun r h => r = some (.int (x_X3_jointOf σ p0 p1)) ∧ h = wd σ) := by
  refine AMet_of (by decide +kernel) (by simp [Value.category]) (Nat.le_of_ble_eq_true rfl) (fun K hK hct hG hE => ?_)
  have hT := tt_X3_jointOf
  refine AW_g hT cl_X3 hK 0 4 (pc' := 6) (lo' := [some (.ref 1), some (.int p0), some (.int p1)]) (st' := [.int p1, .int p0, .ref 10]) (hp' := wd σ) rfl ?_
  refine AW_callV hT hK 4 [.int p0, .int p1] [] (m_X4_at_10 l0 σ p0 p1) cw_X4_at lk_X3_75 vi_X4_at rfl rfl rfl rfl rfl rfl (Nat.le_of_ble_eq_true rfl) (Nat.le_of_ble_eq_true rfl) (AW_k1 (fun v2 h1 => ?_))
  refine AW_iret hT hE 5 rfl rfl rfl (Nat.le_of_ble_eq_true rfl) (Nat.le_of_ble_eq_true rfl) ?_
  subst h1; exact ⟨by simp only [x_X3_jointOf], rfl⟩
def x_X3_weightOf (σ : az_S) (p0 : Int32) (p1 : Int32) : Int32 :=
  let v2 := x_X4_at_8 σ p0 p1
  let v4 := x_X4_at_10 σ p0 p1
  (v2 + v4)
set_option maxRecDepth 100000 in
set_option maxHeartbeats 4000000 in
theorem m_X3_weightOf (l0 : Launch) (σ : az_S) (p0 : Int32) (p1 : Int32) : AMet l0 yX3_weightOf cX3_weightOf 3 (some .int) ({ frames := 1, cells := 0, slots := 0, locals := 24 } : Room) false [.ref 1, .int p0, .int p1] (wd σ) (fun r h => r = some (.int (x_X3_weightOf σ p0 p1)) ∧ h = wd σ) := by
  refine AMet_of (by decide +kernel) (by simp [Value.category]) (Nat.le_of_ble_eq_true rfl) (fun K hK hct hG hE => ?_)
  have hT := tt_X3_weightOf
  refine AW_g hT cl_X3 hK 0 4 (pc' := 6) (lo' := [some (.ref 1), some (.int p0), some (.int p1)]) (st' := [.int p1, .int p0, .ref 8]) (hp' := wd σ) rfl ?_
  refine AW_callV hT hK 4 [.int p0, .int p1] [] (m_X4_at_8 l0 σ p0 p1) cw_X4_at lk_X3_75 vi_X4_at rfl rfl rfl rfl rfl rfl (Nat.le_of_ble_eq_true rfl) (Nat.le_of_ble_eq_true rfl) (AW_k1 (fun v2 h1 => ?_))
  refine AW_g hT cl_X3 hK 5 4 (pc' := 15) (lo' := [some (.ref 1), some (.int p0), some (.int p1)]) (st' := [.int p1, .int p0, .ref 10, .int v2]) (hp' := wd σ) rfl ?_
  refine AW_callV hT hK 9 [.int p0, .int p1] [.int v2] (m_X4_at_10 l0 σ p0 p1) cw_X4_at lk_X3_75 vi_X4_at rfl rfl rfl rfl rfl rfl (Nat.le_of_ble_eq_true rfl) (Nat.le_of_ble_eq_true rfl) (AW_k1 (fun v4 h3 => ?_))
  refine AW_g hT cl_X3 hK 10 1 (pc' := 19) (lo' := [some (.ref 1), some (.int p0), some (.int p1)]) (st' := [.int (v2 + v4)]) (hp' := wd σ) rfl ?_
  refine AW_iret hT hE 11 rfl rfl rfl (Nat.le_of_ble_eq_true rfl) (Nat.le_of_ble_eq_true rfl) ?_
  subst h3; subst h1; exact ⟨by simp only [x_X3_weightOf], rfl⟩
def b_X3_weightsKept_14 (σ : az_S) (d2 : Nat) (i : Nat) (w1 : Int32) : Int32 :=
  let v4 := x_X3_weightOf σ (nI d2) (nI i)
  (w1 + v4)
set_option maxRecDepth 100000 in
set_option maxHeartbeats 4000000 in
theorem lp_X3_weightsKept_14 {K : az_K} {l0 : Launch} (hT : az_Tb cX3_weightsKept tb_X3_weightsKept) (hK : az_OK K RX3 cX3_weightsKept ({ frames := 2, cells := 0, slots := 0, locals := 46 } : Room) l0) (σ : az_S) (d2 : Nat) (hd2 : d2 < 12) :
    ∀ (n i : Nat) (w1 : Int32) (hi : i + n = 12) (kx : ∀ s' : Int32, az_it (fun ι s => b_X3_weightsKept_14 σ d2 ι s) n i w1 = s' → AW K 0 0 35 [some (.ref 1), some (.int s'), some (.int (nI d2)), none] [] (wd σ)), AW K 0 0 14 [some (.ref 1), some (.int w1), some (.int (nI d2)), some (.int (nI i))] [] (wd σ) := by
  intro n
  induction n with
  | zero =>
    intro i w1 hi kx
    refine AW_g hT cl_X3 hK 11 2 (pc' := 17) (lo' := [some (.ref 1), some (.int w1), some (.int (nI d2)), some (.int (nI i))]) (st' := [.int 12, .int (nI i)]) (hp' := wd σ) rfl ?_
    refine AW_icmp_ge hT hK 13 (tgt := 35) rfl rfl (fun c5 => ?_) (fun c5 => absurd (az_c0 hi) c5)
    refine AW_msk [true, true, true, false] (lo' := [some (.ref 1), some (.int w1), some (.int (nI d2)), none]) rfl ?_
    exact kx w1 rfl
  | succ n ih =>
    intro i w1 hi kx
    refine AW_g hT cl_X3 hK 11 2 (pc' := 17) (lo' := [some (.ref 1), some (.int w1), some (.int (nI d2)), some (.int (nI i))]) (st' := [.int 12, .int (nI i)]) (hp' := wd σ) rfl ?_
    refine AW_icmp_ge hT hK 13 (tgt := 35) rfl rfl (fun c2 => absurd c2 (az_c1 hi)) (fun c2 => ?_)
    refine AW_g hT cl_X3 hK 14 4 (pc' := 24) (lo' := [some (.ref 1), some (.int w1), some (.int (nI d2)), some (.int (nI i))]) (st' := [.int (nI i), .int (nI d2), .ref 1, .int w1]) (hp' := wd σ) rfl ?_
    refine AW_callV hT hK 18 [.int (nI d2), .int (nI i)] [.int w1] (m_X3_weightOf l0 σ (nI d2) (nI i)) cw_X3_weightOf lk_X3_78 vi_X3_weightOf rfl rfl rfl rfl rfl rfl (Nat.le_of_ble_eq_true rfl) (Nat.le_of_ble_eq_true rfl) (AW_k1 (fun v4 h3 => ?_))
    refine AW_g hT cl_X3 hK 19 3 (pc' := 32) (lo' := [some (.ref 1), some (.int (w1 + v4)), some (.int (nI d2)), some (.int ((nI i) + 1))]) (st' := []) (hp' := wd σ) rfl ?_
    refine AW_goto hT hK 22 (tgt := 14) rfl rfl ?_
    refine AW_to (lo' := [some (.ref 1), some (.int (w1 + v4)), some (.int (nI d2)), some (.int (nI (i + 1)))]) (by rw [nI_1]) rfl rfl ?_
    subst h3; skip
    exact ih (i + 1) _ (by omega) (fun s' hs' => kx s' ((congrArg (az_it _ n (i + 1)) (by simp only [b_X3_weightsKept_14])).trans hs'))
def b_X3_weightsKept_4 (σ : az_S) (i : Nat) (w1 : Int32) : Int32 :=
  let s6 := az_it (fun ι s => b_X3_weightsKept_14 σ i ι s) (12 - (i + 1)) (i + 1) w1
  s6
set_option maxRecDepth 100000 in
set_option maxHeartbeats 4000000 in
theorem lp_X3_weightsKept_4 {K : az_K} {l0 : Launch} (hT : az_Tb cX3_weightsKept tb_X3_weightsKept) (hK : az_OK K RX3 cX3_weightsKept ({ frames := 2, cells := 0, slots := 0, locals := 46 } : Room) l0) (σ : az_S) :
    ∀ (n i : Nat) (w1 : Int32) (hi : i + n = 12) (kx : ∀ s' : Int32, az_it (fun ι s => b_X3_weightsKept_4 σ ι s) n i w1 = s' → AW K 0 0 41 [some (.ref 1), some (.int s'), none, none] [] (wd σ)), AW K 0 0 4 [some (.ref 1), some (.int w1), some (.int (nI i)), none] [] (wd σ) := by
  intro n
  induction n with
  | zero =>
    intro i w1 hi kx
    refine AW_g hT cl_X3 hK 4 2 (pc' := 7) (lo' := [some (.ref 1), some (.int w1), some (.int (nI i)), none]) (st' := [.int 12, .int (nI i)]) (hp' := wd σ) rfl ?_
    refine AW_icmp_ge hT hK 6 (tgt := 41) rfl rfl (fun c8 => ?_) (fun c8 => absurd (az_c0 hi) c8)
    refine AW_msk [true, true, false, false] (lo' := [some (.ref 1), some (.int w1), none, none]) rfl ?_
    exact kx w1 rfl
  | succ n ih =>
    intro i w1 hi kx
    refine AW_g hT cl_X3 hK 4 2 (pc' := 7) (lo' := [some (.ref 1), some (.int w1), some (.int (nI i)), none]) (st' := [.int 12, .int (nI i)]) (hp' := wd σ) rfl ?_
    refine AW_icmp_ge hT hK 6 (tgt := 41) rfl rfl (fun c1 => absurd c1 (az_c1 hi)) (fun c1 => ?_)
    refine AW_g hT cl_X3 hK 7 4 (pc' := 14) (lo' := [some (.ref 1), some (.int w1), some (.int (nI i)), some (.int ((nI i) + 1))]) (st' := []) (hp' := wd σ) rfl ?_
    refine AW_to (lo' := [some (.ref 1), some (.int w1), some (.int (nI i)), some (.int (nI (i + 1)))]) (by rw [nI_1]) rfl rfl ?_
    refine lp_X3_weightsKept_14 hT hK σ i (by omega) (12 - (i + 1)) (i + 1) w1 (by first | rfl | omega) (fun s6 h7 => ?_)
    refine AW_g hT cl_X3 hK 23 1 (pc' := 38) (lo' := [some (.ref 1), some (.int s6), some (.int ((nI i) + 1)), none]) (st' := []) (hp' := wd σ) rfl ?_
    refine AW_goto hT hK 24 (tgt := 4) rfl rfl ?_
    refine AW_to (lo' := [some (.ref 1), some (.int s6), some (.int (nI (i + 1))), none]) (by rw [nI_1]) rfl rfl ?_
    subst h7; skip
    exact ih (i + 1) _ (by omega) (fun s' hs' => kx s' ((congrArg (az_it _ n (i + 1)) (by simp only [b_X3_weightsKept_4])).trans hs'))
def x_X3_weightsKept (σ : az_S) : Int32 :=
  let s9 := az_it (fun ι s => b_X3_weightsKept_4 σ ι s) 12 0 0
  s9
set_option maxRecDepth 100000 in
set_option maxHeartbeats 4000000 in
theorem m_X3_weightsKept (l0 : Launch) (σ : az_S) : AMet l0 yX3_weightsKept cX3_weightsKept 4 (some .int) ({ frames := 2, cells := 0, slots := 0, locals := 46 } : Room) false [.ref 1] (wd σ) (fun r h => r = some (.int (x_X3_weightsKept σ)) ∧ h = wd σ) := by
  refine AMet_of (by decide +kernel) (by simp [Value.category]) (Nat.le_of_ble_eq_true rfl) (fun K hK hct hG hE => ?_)
  have hT := tt_X3_weightsKept
  refine AW_g hT cl_X3 hK 0 4 (pc' := 4) (lo' := [some (.ref 1), some (.int 0), some (.int 0), none]) (st' := []) (hp' := wd σ) rfl ?_
  refine AW_to (lo' := [some (.ref 1), some (.int 0), some (.int (nI 0)), none]) (rfl) rfl rfl ?_
  refine lp_X3_weightsKept_4 hT hK σ 12 0 0 (by first | rfl | omega) (fun s9 h10 => ?_)
  refine AW_g hT cl_X3 hK 25 1 (pc' := 42) (lo' := [some (.ref 1), some (.int s9), none, none]) (st' := [.int s9]) (hp' := wd σ) rfl ?_
  refine AW_iret hT hE 26 rfl rfl rfl (Nat.le_of_ble_eq_true rfl) (Nat.le_of_ble_eq_true rfl) ?_
  subst h10; exact ⟨by simp only [x_X3_weightsKept], rfl⟩
def b_X3_referringToBoth_5 (σ : az_S) (d1 : Int32) (d2 : Int32) (i : Nat) (w3 : Int32) : Int32 :=
  let v3 := x_X3_cites σ (nI i) d1
  if v3 = 0 then
    w3
  else
    let v6 := x_X3_cites σ (nI i) d2
    if v6 = 0 then
      w3
    else
      (w3 + 1)
set_option maxRecDepth 100000 in
set_option maxHeartbeats 4000000 in
theorem lp_X3_referringToBoth_5 {K : az_K} {l0 : Launch} (hT : az_Tb cX3_referringToBoth tb_X3_referringToBoth) (hK : az_OK K RX3 cX3_referringToBoth ({ frames := 2, cells := 0, slots := 0, locals := 43 } : Room) l0) (σ : az_S) (d1 : Int32) (d2 : Int32) :
    ∀ (n i : Nat) (w3 : Int32) (hi : i + n = 12) (kx : ∀ s' : Int32, az_it (fun ι s => b_X3_referringToBoth_5 σ d1 d2 ι s) n i w3 = s' → AW K 0 0 41 [some (.ref 1), some (.int d1), some (.int d2), some (.int s'), none] [] (wd σ)), AW K 0 0 5 [some (.ref 1), some (.int d1), some (.int d2), some (.int w3), some (.int (nI i))] [] (wd σ) := by
  intro n
  induction n with
  | zero =>
    intro i w3 hi kx
    refine AW_g hT cl_X3 hK 4 2 (pc' := 9) (lo' := [some (.ref 1), some (.int d1), some (.int d2), some (.int w3), some (.int (nI i))]) (st' := [.int 12, .int (nI i)]) (hp' := wd σ) rfl ?_
    refine AW_icmp_ge hT hK 6 (tgt := 41) rfl rfl (fun c8 => ?_) (fun c8 => absurd (az_c0 hi) c8)
    refine AW_msk [true, true, true, true, false] (lo' := [some (.ref 1), some (.int d1), some (.int d2), some (.int w3), none]) rfl ?_
    exact kx w3 rfl
  | succ n ih =>
    intro i w3 hi kx
    refine AW_g hT cl_X3 hK 4 2 (pc' := 9) (lo' := [some (.ref 1), some (.int d1), some (.int d2), some (.int w3), some (.int (nI i))]) (st' := [.int 12, .int (nI i)]) (hp' := wd σ) rfl ?_
    refine AW_icmp_ge hT hK 6 (tgt := 41) rfl rfl (fun c1 => absurd c1 (az_c1 hi)) (fun c1 => ?_)
    refine AW_g hT cl_X3 hK 7 3 (pc' := 16) (lo' := [some (.ref 1), some (.int d1), some (.int d2), some (.int w3), some (.int (nI i))]) (st' := [.int d1, .int (nI i), .ref 1]) (hp' := wd σ) rfl ?_
    refine AW_callV hT hK 10 [.int (nI i), .int d1] [] (m_X3_cites l0 σ (nI i) d1) cw_X3_cites lk_X3_62 vi_X3_cites rfl rfl rfl rfl rfl rfl (Nat.le_of_ble_eq_true rfl) (Nat.le_of_ble_eq_true rfl) (AW_k1 (fun v3 h2 => ?_))
    refine AW_if_eq hT hK 11 (tgt := 35) rfl rfl (fun c4 => ?_) (fun c4 => ?_)
    · refine AW_g hT cl_X3 hK 18 1 (pc' := 38) (lo' := [some (.ref 1), some (.int d1), some (.int d2), some (.int w3), some (.int ((nI i) + 1))]) (st' := []) (hp' := wd σ) rfl ?_
      refine AW_goto hT hK 19 (tgt := 5) rfl rfl ?_
      refine AW_to (lo' := [some (.ref 1), some (.int d1), some (.int d2), some (.int w3), some (.int (nI (i + 1)))]) (by rw [nI_1]) rfl rfl ?_
      subst h2; skip
      exact ih (i + 1) _ (by omega) (fun s' hs' => kx s' ((congrArg (az_it _ n (i + 1)) (by simp only [b_X3_referringToBoth_5, if_pos c4])).trans hs'))
    · refine AW_g hT cl_X3 hK 12 3 (pc' := 26) (lo' := [some (.ref 1), some (.int d1), some (.int d2), some (.int w3), some (.int (nI i))]) (st' := [.int d2, .int (nI i), .ref 1]) (hp' := wd σ) rfl ?_
      refine AW_callV hT hK 15 [.int (nI i), .int d2] [] (m_X3_cites l0 σ (nI i) d2) cw_X3_cites lk_X3_62 vi_X3_cites rfl rfl rfl rfl rfl rfl (Nat.le_of_ble_eq_true rfl) (Nat.le_of_ble_eq_true rfl) (AW_k1 (fun v6 h5 => ?_))
      refine AW_if_eq hT hK 16 (tgt := 35) rfl rfl (fun c7 => ?_) (fun c7 => ?_)
      · refine AW_g hT cl_X3 hK 18 1 (pc' := 38) (lo' := [some (.ref 1), some (.int d1), some (.int d2), some (.int w3), some (.int ((nI i) + 1))]) (st' := []) (hp' := wd σ) rfl ?_
        refine AW_goto hT hK 19 (tgt := 5) rfl rfl ?_
        refine AW_to (lo' := [some (.ref 1), some (.int d1), some (.int d2), some (.int w3), some (.int (nI (i + 1)))]) (by rw [nI_1]) rfl rfl ?_
        subst h5; subst h2; skip
        exact ih (i + 1) _ (by omega) (fun s' hs' => kx s' ((congrArg (az_it _ n (i + 1)) (by simp only [b_X3_referringToBoth_5, if_neg c4, if_pos c7])).trans hs'))
      · refine AW_g hT cl_X3 hK 17 2 (pc' := 38) (lo' := [some (.ref 1), some (.int d1), some (.int d2), some (.int (w3 + 1)), some (.int ((nI i) + 1))]) (st' := []) (hp' := wd σ) rfl ?_
        refine AW_goto hT hK 19 (tgt := 5) rfl rfl ?_
        refine AW_to (lo' := [some (.ref 1), some (.int d1), some (.int d2), some (.int (w3 + 1)), some (.int (nI (i + 1)))]) (by rw [nI_1]) rfl rfl ?_
        subst h5; subst h2; skip
        exact ih (i + 1) _ (by omega) (fun s' hs' => kx s' ((congrArg (az_it _ n (i + 1)) (by simp only [b_X3_referringToBoth_5, if_neg c4, if_neg c7])).trans hs'))
def x_X3_referringToBoth (σ : az_S) (p0 : Int32) (p1 : Int32) : Int32 :=
  let s9 := az_it (fun ι s => b_X3_referringToBoth_5 σ p0 p1 ι s) 12 0 0
  s9
set_option maxRecDepth 100000 in
set_option maxHeartbeats 4000000 in
theorem m_X3_referringToBoth (l0 : Launch) (σ : az_S) (p0 : Int32) (p1 : Int32) : AMet l0 yX3_referringToBoth cX3_referringToBoth 5 (some .int) ({ frames := 2, cells := 0, slots := 0, locals := 43 } : Room) false [.ref 1, .int p0, .int p1] (wd σ) (fun r h => r = some (.int (x_X3_referringToBoth σ p0 p1)) ∧ h = wd σ) := by
  refine AMet_of (by decide +kernel) (by simp [Value.category]) (Nat.le_of_ble_eq_true rfl) (fun K hK hct hG hE => ?_)
  have hT := tt_X3_referringToBoth
  refine AW_g hT cl_X3 hK 0 4 (pc' := 5) (lo' := [some (.ref 1), some (.int p0), some (.int p1), some (.int 0), some (.int 0)]) (st' := []) (hp' := wd σ) rfl ?_
  refine AW_to (lo' := [some (.ref 1), some (.int p0), some (.int p1), some (.int 0), some (.int (nI 0))]) (rfl) rfl rfl ?_
  refine lp_X3_referringToBoth_5 hT hK σ p0 p1 12 0 0 (by first | rfl | omega) (fun s9 h10 => ?_)
  refine AW_g hT cl_X3 hK 20 1 (pc' := 42) (lo' := [some (.ref 1), some (.int p0), some (.int p1), some (.int s9), none]) (st' := [.int s9]) (hp' := wd σ) rfl ?_
  refine AW_iret hT hE 21 rfl rfl rfl (Nat.le_of_ble_eq_true rfl) (Nat.le_of_ble_eq_true rfl) ?_
  subst h10; exact ⟨by simp only [x_X3_referringToBoth], rfl⟩
def b_X3_weightsFromReferences_14 (σ : az_S) (d2 : Nat) (i : Nat) (w1 : Int32) : Int32 :=
  let v4 := x_X3_has σ (nI d2)
  if v4 = 0 then
    w1
  else
    let v7 := x_X3_has σ (nI i)
    if v7 = 0 then
      w1
    else
      let v10 := x_X2_at_4 σ (nI d2)
      let v12 := x_X2_at_4 σ (nI i)
      let v14 := x_J6_bitCount_0f7a4 σ (v10 &&& v12)
      let v16 := x_X3_referringToBoth σ (nI d2) (nI i)
      ((w1 + v14) + v16)
set_option maxRecDepth 100000 in
set_option maxHeartbeats 4000000 in
theorem lp_X3_weightsFromReferences_14 {K : az_K} {l0 : Launch} (hT : az_Tb cX3_weightsFromReferences tb_X3_weightsFromReferences) (hK : az_OK K RX3 cX3_weightsFromReferences ({ frames := 3, cells := 0, slots := 0, locals := 67 } : Room) l0) (σ : az_S) (d2 : Nat) (hd2 : d2 < 12) :
    ∀ (n i : Nat) (w1 : Int32) (hi : i + n = 12) (kx : ∀ s' : Int32, az_it (fun ι s => b_X3_weightsFromReferences_14 σ d2 ι s) n i w1 = s' → AW K 0 0 74 [some (.ref 1), some (.int s'), some (.int (nI d2)), none] [] (wd σ)), AW K 0 0 14 [some (.ref 1), some (.int w1), some (.int (nI d2)), some (.int (nI i))] [] (wd σ) := by
  intro n
  induction n with
  | zero =>
    intro i w1 hi kx
    refine AW_g hT cl_X3 hK 11 2 (pc' := 17) (lo' := [some (.ref 1), some (.int w1), some (.int (nI d2)), some (.int (nI i))]) (st' := [.int 12, .int (nI i)]) (hp' := wd σ) rfl ?_
    refine AW_icmp_ge hT hK 13 (tgt := 74) rfl rfl (fun c17 => ?_) (fun c17 => absurd (az_c0 hi) c17)
    refine AW_msk [true, true, true, false] (lo' := [some (.ref 1), some (.int w1), some (.int (nI d2)), none]) rfl ?_
    exact kx w1 rfl
  | succ n ih =>
    intro i w1 hi kx
    refine AW_g hT cl_X3 hK 11 2 (pc' := 17) (lo' := [some (.ref 1), some (.int w1), some (.int (nI d2)), some (.int (nI i))]) (st' := [.int 12, .int (nI i)]) (hp' := wd σ) rfl ?_
    refine AW_icmp_ge hT hK 13 (tgt := 74) rfl rfl (fun c2 => absurd c2 (az_c1 hi)) (fun c2 => ?_)
    refine AW_g hT cl_X3 hK 14 2 (pc' := 22) (lo' := [some (.ref 1), some (.int w1), some (.int (nI d2)), some (.int (nI i))]) (st' := [.int (nI d2), .ref 1]) (hp' := wd σ) rfl ?_
    refine AW_callV hT hK 16 [.int (nI d2)] [] (m_X3_has l0 σ (nI d2)) cw_X3_has lk_X3_81 vi_X3_has rfl rfl rfl rfl rfl rfl (Nat.le_of_ble_eq_true rfl) (Nat.le_of_ble_eq_true rfl) (AW_k1 (fun v4 h3 => ?_))
    refine AW_if_eq hT hK 17 (tgt := 68) rfl rfl (fun c5 => ?_) (fun c5 => ?_)
    · refine AW_g hT cl_X3 hK 42 1 (pc' := 71) (lo' := [some (.ref 1), some (.int w1), some (.int (nI d2)), some (.int ((nI i) + 1))]) (st' := []) (hp' := wd σ) rfl ?_
      refine AW_goto hT hK 43 (tgt := 14) rfl rfl ?_
      refine AW_to (lo' := [some (.ref 1), some (.int w1), some (.int (nI d2)), some (.int (nI (i + 1)))]) (by rw [nI_1]) rfl rfl ?_
      subst h3; skip
      exact ih (i + 1) _ (by omega) (fun s' hs' => kx s' ((congrArg (az_it _ n (i + 1)) (by simp only [b_X3_weightsFromReferences_14, if_pos c5])).trans hs'))
    · refine AW_g hT cl_X3 hK 18 2 (pc' := 30) (lo' := [some (.ref 1), some (.int w1), some (.int (nI d2)), some (.int (nI i))]) (st' := [.int (nI i), .ref 1]) (hp' := wd σ) rfl ?_
      refine AW_callV hT hK 20 [.int (nI i)] [] (m_X3_has l0 σ (nI i)) cw_X3_has lk_X3_81 vi_X3_has rfl rfl rfl rfl rfl rfl (Nat.le_of_ble_eq_true rfl) (Nat.le_of_ble_eq_true rfl) (AW_k1 (fun v7 h6 => ?_))
      refine AW_if_eq hT hK 21 (tgt := 68) rfl rfl (fun c8 => ?_) (fun c8 => ?_)
      · refine AW_g hT cl_X3 hK 42 1 (pc' := 71) (lo' := [some (.ref 1), some (.int w1), some (.int (nI d2)), some (.int ((nI i) + 1))]) (st' := []) (hp' := wd σ) rfl ?_
        refine AW_goto hT hK 43 (tgt := 14) rfl rfl ?_
        refine AW_to (lo' := [some (.ref 1), some (.int w1), some (.int (nI d2)), some (.int (nI (i + 1)))]) (by rw [nI_1]) rfl rfl ?_
        subst h6; subst h3; skip
        exact ih (i + 1) _ (by omega) (fun s' hs' => kx s' ((congrArg (az_it _ n (i + 1)) (by simp only [b_X3_weightsFromReferences_14, if_neg c5, if_pos c8])).trans hs'))
      · refine AW_g hT cl_X3 hK 22 4 (pc' := 42) (lo' := [some (.ref 1), some (.int w1), some (.int (nI d2)), some (.int (nI i))]) (st' := [.int (nI d2), .ref 4, .int w1]) (hp' := wd σ) rfl ?_
        refine AW_callV hT hK 26 [.int (nI d2)] [.int w1] (m_X2_at_4 l0 σ (nI d2)) cw_X2_at lk_X3_48 vi_X2_at rfl rfl rfl rfl rfl rfl (Nat.le_of_ble_eq_true rfl) (Nat.le_of_ble_eq_true rfl) (AW_k1 (fun v10 h9 => ?_))
        refine AW_g hT cl_X3 hK 27 3 (pc' := 50) (lo' := [some (.ref 1), some (.int w1), some (.int (nI d2)), some (.int (nI i))]) (st' := [.int (nI i), .ref 4, .int v10, .int w1]) (hp' := wd σ) rfl ?_
        refine AW_callV hT hK 30 [.int (nI i)] [.int v10, .int w1] (m_X2_at_4 l0 σ (nI i)) cw_X2_at lk_X3_48 vi_X2_at rfl rfl rfl rfl rfl rfl (Nat.le_of_ble_eq_true rfl) (Nat.le_of_ble_eq_true rfl) (AW_k1 (fun v12 h11 => ?_))
        refine AW_g hT cl_X3 hK 31 1 (pc' := 54) (lo' := [some (.ref 1), some (.int w1), some (.int (nI d2)), some (.int (nI i))]) (st' := [.int (v10 &&& v12), .int w1]) (hp' := wd σ) rfl ?_
        refine AW_callS hT hK 32 [.int (v10 &&& v12)] [.int w1] (m_J6_bitCount_0f7a4 l0 σ (v10 &&& v12)) cw_J6_bitCount_0f7a4 lk_X3_85 sm_J6_bitCount_0f7a4 rfl rfl rfl rfl (Nat.le_of_ble_eq_true rfl) (Nat.le_of_ble_eq_true rfl) (AW_k1 (fun v14 h13 => ?_))
        refine AW_g hT cl_X3 hK 33 6 (pc' := 63) (lo' := [some (.ref 1), some (.int (w1 + v14)), some (.int (nI d2)), some (.int (nI i))]) (st' := [.int (nI i), .int (nI d2), .ref 1, .int (w1 + v14)]) (hp' := wd σ) rfl ?_
        refine AW_callV hT hK 39 [.int (nI d2), .int (nI i)] [.int (w1 + v14)] (m_X3_referringToBoth l0 σ (nI d2) (nI i)) cw_X3_referringToBoth lk_X3_90 vi_X3_referringToBoth rfl rfl rfl rfl rfl rfl (Nat.le_of_ble_eq_true rfl) (Nat.le_of_ble_eq_true rfl) (AW_k1 (fun v16 h15 => ?_))
        refine AW_g hT cl_X3 hK 40 3 (pc' := 71) (lo' := [some (.ref 1), some (.int ((w1 + v14) + v16)), some (.int (nI d2)), some (.int ((nI i) + 1))]) (st' := []) (hp' := wd σ) rfl ?_
        refine AW_goto hT hK 43 (tgt := 14) rfl rfl ?_
        refine AW_to (lo' := [some (.ref 1), some (.int ((w1 + v14) + v16)), some (.int (nI d2)), some (.int (nI (i + 1)))]) (by rw [nI_1]) rfl rfl ?_
        subst h15; subst h13; subst h11; subst h9; subst h6; subst h3; skip
        exact ih (i + 1) _ (by omega) (fun s' hs' => kx s' ((congrArg (az_it _ n (i + 1)) (by simp only [b_X3_weightsFromReferences_14, if_neg c5, if_neg c8])).trans hs'))
def b_X3_weightsFromReferences_4 (σ : az_S) (i : Nat) (w1 : Int32) : Int32 :=
  let s18 := az_it (fun ι s => b_X3_weightsFromReferences_14 σ i ι s) (12 - (i + 1)) (i + 1) w1
  s18
set_option maxRecDepth 100000 in
set_option maxHeartbeats 4000000 in
theorem lp_X3_weightsFromReferences_4 {K : az_K} {l0 : Launch} (hT : az_Tb cX3_weightsFromReferences tb_X3_weightsFromReferences) (hK : az_OK K RX3 cX3_weightsFromReferences ({ frames := 3, cells := 0, slots := 0, locals := 67 } : Room) l0) (σ : az_S) :
    ∀ (n i : Nat) (w1 : Int32) (hi : i + n = 12) (kx : ∀ s' : Int32, az_it (fun ι s => b_X3_weightsFromReferences_4 σ ι s) n i w1 = s' → AW K 0 0 80 [some (.ref 1), some (.int s'), none, none] [] (wd σ)), AW K 0 0 4 [some (.ref 1), some (.int w1), some (.int (nI i)), none] [] (wd σ) := by
  intro n
  induction n with
  | zero =>
    intro i w1 hi kx
    refine AW_g hT cl_X3 hK 4 2 (pc' := 7) (lo' := [some (.ref 1), some (.int w1), some (.int (nI i)), none]) (st' := [.int 12, .int (nI i)]) (hp' := wd σ) rfl ?_
    refine AW_icmp_ge hT hK 6 (tgt := 80) rfl rfl (fun c20 => ?_) (fun c20 => absurd (az_c0 hi) c20)
    refine AW_msk [true, true, false, false] (lo' := [some (.ref 1), some (.int w1), none, none]) rfl ?_
    exact kx w1 rfl
  | succ n ih =>
    intro i w1 hi kx
    refine AW_g hT cl_X3 hK 4 2 (pc' := 7) (lo' := [some (.ref 1), some (.int w1), some (.int (nI i)), none]) (st' := [.int 12, .int (nI i)]) (hp' := wd σ) rfl ?_
    refine AW_icmp_ge hT hK 6 (tgt := 80) rfl rfl (fun c1 => absurd c1 (az_c1 hi)) (fun c1 => ?_)
    refine AW_g hT cl_X3 hK 7 4 (pc' := 14) (lo' := [some (.ref 1), some (.int w1), some (.int (nI i)), some (.int ((nI i) + 1))]) (st' := []) (hp' := wd σ) rfl ?_
    refine AW_to (lo' := [some (.ref 1), some (.int w1), some (.int (nI i)), some (.int (nI (i + 1)))]) (by rw [nI_1]) rfl rfl ?_
    refine lp_X3_weightsFromReferences_14 hT hK σ i (by omega) (12 - (i + 1)) (i + 1) w1 (by first | rfl | omega) (fun s18 h19 => ?_)
    refine AW_g hT cl_X3 hK 44 1 (pc' := 77) (lo' := [some (.ref 1), some (.int s18), some (.int ((nI i) + 1)), none]) (st' := []) (hp' := wd σ) rfl ?_
    refine AW_goto hT hK 45 (tgt := 4) rfl rfl ?_
    refine AW_to (lo' := [some (.ref 1), some (.int s18), some (.int (nI (i + 1))), none]) (by rw [nI_1]) rfl rfl ?_
    subst h19; skip
    exact ih (i + 1) _ (by omega) (fun s' hs' => kx s' ((congrArg (az_it _ n (i + 1)) (by simp only [b_X3_weightsFromReferences_4])).trans hs'))
def x_X3_weightsFromReferences (σ : az_S) : Int32 :=
  let s21 := az_it (fun ι s => b_X3_weightsFromReferences_4 σ ι s) 12 0 0
  s21
set_option maxRecDepth 100000 in
set_option maxHeartbeats 4000000 in
theorem m_X3_weightsFromReferences (l0 : Launch) (σ : az_S) : AMet l0 yX3_weightsFromReferences cX3_weightsFromReferences 4 (some .int) ({ frames := 3, cells := 0, slots := 0, locals := 67 } : Room) false [.ref 1] (wd σ) (fun r h => r = some (.int (x_X3_weightsFromReferences σ)) ∧ h = wd σ) := by
  refine AMet_of (by decide +kernel) (by simp [Value.category]) (Nat.le_of_ble_eq_true rfl) (fun K hK hct hG hE => ?_)
  have hT := tt_X3_weightsFromReferences
  refine AW_g hT cl_X3 hK 0 4 (pc' := 4) (lo' := [some (.ref 1), some (.int 0), some (.int 0), none]) (st' := []) (hp' := wd σ) rfl ?_
  refine AW_to (lo' := [some (.ref 1), some (.int 0), some (.int (nI 0)), none]) (rfl) rfl rfl ?_
  refine lp_X3_weightsFromReferences_4 hT hK σ 12 0 0 (by first | rfl | omega) (fun s21 h22 => ?_)
  refine AW_g hT cl_X3 hK 46 1 (pc' := 81) (lo' := [some (.ref 1), some (.int s21), none, none]) (st' := [.int s21]) (hp' := wd σ) rfl ?_
  refine AW_iret hT hE 47 rfl rfl rfl (Nat.le_of_ble_eq_true rfl) (Nat.le_of_ble_eq_true rfl) ?_
  subst h22; exact ⟨by simp only [x_X3_weightsFromReferences], rfl⟩
def x_X2_at_2 (σ : az_S) (p0 : Int32) : Int32 :=
  if p0 < 0 then
    0
  else
    if 12 ≤ p0 then
      0
    else
      ((σ.2.1 3) p0.toNatClampNeg)
set_option maxRecDepth 100000 in
set_option maxHeartbeats 4000000 in
theorem m_X2_at_2 (l0 : Launch) (σ : az_S) (p0 : Int32) : AMet l0 yX2_at cX2_at 2 (some .int) ({ frames := 0, cells := 0, slots := 0, locals := 0 } : Room) false [.ref 2, .int p0] (wd σ) (fun r h => r = some (.int (x_X2_at_2 σ p0)) ∧ h = wd σ) := by
  refine AMet_of (by decide +kernel) (by simp [Value.category]) (Nat.le_of_ble_eq_true rfl) (fun K hK hct hG hE => ?_)
  have hT := tt_X2_at
  refine AW_g hT cl_X2 hK 0 1 (pc' := 1) (lo' := [some (.ref 2), some (.int p0)]) (st' := [.int p0]) (hp' := wd σ) rfl ?_
  refine AW_if_lt hT hK 1 (tgt := 22) rfl rfl (fun c1 => ?_) (fun c1 => ?_)
  · refine AW_g hT cl_X2 hK 12 1 (pc' := 23) (lo' := [some (.ref 2), some (.int p0)]) (st' := [.int 0]) (hp' := wd σ) rfl ?_
    refine AW_iret hT hE 13 rfl rfl rfl (Nat.le_of_ble_eq_true rfl) (Nat.le_of_ble_eq_true rfl) ?_
    exact ⟨by simp only [x_X2_at_2, if_pos c1], rfl⟩
  · refine AW_g hT cl_X2 hK 2 4 (pc' := 10) (lo' := [some (.ref 2), some (.int p0)]) (st' := [.int 12, .int p0]) (hp' := wd σ) rfl ?_
    refine AW_icmp_ge hT hK 6 (tgt := 22) rfl rfl (fun c2 => ?_) (fun c2 => ?_)
    · refine AW_g hT cl_X2 hK 12 1 (pc' := 23) (lo' := [some (.ref 2), some (.int p0)]) (st' := [.int 0]) (hp' := wd σ) rfl ?_
      refine AW_iret hT hE 13 rfl rfl rfl (Nat.le_of_ble_eq_true rfl) (Nat.le_of_ble_eq_true rfl) ?_
      exact ⟨by simp only [x_X2_at_2, if_neg c1, if_pos c2], rfl⟩
    · refine AW_g hT cl_X2 hK 7 3 (pc' := 18) (lo' := [some (.ref 2), some (.int p0)]) (st' := [.int p0, .ref 3]) (hp' := wd σ) rfl ?_
      refine AW_ialdx hT hK 10 rfl (n := 12) (f := (σ.2.1 3)) rfl (az_in12 c1 c2) ?_
      refine AW_goto hT hK 11 (tgt := 23) rfl rfl ?_
      refine AW_iret hT hE 13 rfl rfl rfl (Nat.le_of_ble_eq_true rfl) (Nat.le_of_ble_eq_true rfl) ?_
      exact ⟨by simp only [x_X2_at_2, if_neg c1, if_neg c2], rfl⟩
def b_X3_citersOfYear_5 (σ : az_S) (d1 : Int32) (d2 : Int32) (i : Nat) (w3 : Int32) : Int32 :=
  let v3 := x_X3_cites σ (nI i) d1
  if v3 = 0 then
    w3
  else
    let v6 := x_X2_at_2 σ (nI i)
    if v6 = d2 then
      (w3 + 1)
    else
      w3
set_option maxRecDepth 100000 in
set_option maxHeartbeats 4000000 in
theorem lp_X3_citersOfYear_5 {K : az_K} {l0 : Launch} (hT : az_Tb cX3_citersOfYear tb_X3_citersOfYear) (hK : az_OK K RX3 cX3_citersOfYear ({ frames := 2, cells := 0, slots := 0, locals := 43 } : Room) l0) (σ : az_S) (d1 : Int32) (d2 : Int32) :
    ∀ (n i : Nat) (w3 : Int32) (hi : i + n = 12) (kx : ∀ s' : Int32, az_it (fun ι s => b_X3_citersOfYear_5 σ d1 d2 ι s) n i w3 = s' → AW K 0 0 44 [some (.ref 1), some (.int d1), some (.int d2), some (.int s'), none] [] (wd σ)), AW K 0 0 5 [some (.ref 1), some (.int d1), some (.int d2), some (.int w3), some (.int (nI i))] [] (wd σ) := by
  intro n
  induction n with
  | zero =>
    intro i w3 hi kx
    refine AW_g hT cl_X3 hK 4 2 (pc' := 9) (lo' := [some (.ref 1), some (.int d1), some (.int d2), some (.int w3), some (.int (nI i))]) (st' := [.int 12, .int (nI i)]) (hp' := wd σ) rfl ?_
    refine AW_icmp_ge hT hK 6 (tgt := 44) rfl rfl (fun c8 => ?_) (fun c8 => absurd (az_c0 hi) c8)
    refine AW_msk [true, true, true, true, false] (lo' := [some (.ref 1), some (.int d1), some (.int d2), some (.int w3), none]) rfl ?_
    exact kx w3 rfl
  | succ n ih =>
    intro i w3 hi kx
    refine AW_g hT cl_X3 hK 4 2 (pc' := 9) (lo' := [some (.ref 1), some (.int d1), some (.int d2), some (.int w3), some (.int (nI i))]) (st' := [.int 12, .int (nI i)]) (hp' := wd σ) rfl ?_
    refine AW_icmp_ge hT hK 6 (tgt := 44) rfl rfl (fun c1 => absurd c1 (az_c1 hi)) (fun c1 => ?_)
    refine AW_g hT cl_X3 hK 7 3 (pc' := 16) (lo' := [some (.ref 1), some (.int d1), some (.int d2), some (.int w3), some (.int (nI i))]) (st' := [.int d1, .int (nI i), .ref 1]) (hp' := wd σ) rfl ?_
    refine AW_callV hT hK 10 [.int (nI i), .int d1] [] (m_X3_cites l0 σ (nI i) d1) cw_X3_cites lk_X3_62 vi_X3_cites rfl rfl rfl rfl rfl rfl (Nat.le_of_ble_eq_true rfl) (Nat.le_of_ble_eq_true rfl) (AW_k1 (fun v3 h2 => ?_))
    refine AW_if_eq hT hK 11 (tgt := 38) rfl rfl (fun c4 => ?_) (fun c4 => ?_)
    · refine AW_g hT cl_X3 hK 19 1 (pc' := 41) (lo' := [some (.ref 1), some (.int d1), some (.int d2), some (.int w3), some (.int ((nI i) + 1))]) (st' := []) (hp' := wd σ) rfl ?_
      refine AW_goto hT hK 20 (tgt := 5) rfl rfl ?_
      refine AW_to (lo' := [some (.ref 1), some (.int d1), some (.int d2), some (.int w3), some (.int (nI (i + 1)))]) (by rw [nI_1]) rfl rfl ?_
      subst h2; skip
      exact ih (i + 1) _ (by omega) (fun s' hs' => kx s' ((congrArg (az_it _ n (i + 1)) (by simp only [b_X3_citersOfYear_5, if_pos c4])).trans hs'))
    · refine AW_g hT cl_X3 hK 12 3 (pc' := 28) (lo' := [some (.ref 1), some (.int d1), some (.int d2), some (.int w3), some (.int (nI i))]) (st' := [.int (nI i), .ref 2]) (hp' := wd σ) rfl ?_
      refine AW_callV hT hK 15 [.int (nI i)] [] (m_X2_at_2 l0 σ (nI i)) cw_X2_at lk_X3_48 vi_X2_at rfl rfl rfl rfl rfl rfl (Nat.le_of_ble_eq_true rfl) (Nat.le_of_ble_eq_true rfl) (AW_k1 (fun v6 h5 => ?_))
      refine AW_g hT cl_X3 hK 16 1 (pc' := 32) (lo' := [some (.ref 1), some (.int d1), some (.int d2), some (.int w3), some (.int (nI i))]) (st' := [.int d2, .int v6]) (hp' := wd σ) rfl ?_
      refine AW_icmp_ne hT hK 17 (tgt := 38) rfl rfl (fun c7 => ?_) (fun c7 => ?_)
      · refine AW_g hT cl_X3 hK 19 1 (pc' := 41) (lo' := [some (.ref 1), some (.int d1), some (.int d2), some (.int w3), some (.int ((nI i) + 1))]) (st' := []) (hp' := wd σ) rfl ?_
        refine AW_goto hT hK 20 (tgt := 5) rfl rfl ?_
        refine AW_to (lo' := [some (.ref 1), some (.int d1), some (.int d2), some (.int w3), some (.int (nI (i + 1)))]) (by rw [nI_1]) rfl rfl ?_
        subst h5; subst h2; skip
        exact ih (i + 1) _ (by omega) (fun s' hs' => kx s' ((congrArg (az_it _ n (i + 1)) (by simp only [b_X3_citersOfYear_5, if_neg c4, if_neg c7])).trans hs'))
      · refine AW_g hT cl_X3 hK 18 2 (pc' := 41) (lo' := [some (.ref 1), some (.int d1), some (.int d2), some (.int (w3 + 1)), some (.int ((nI i) + 1))]) (st' := []) (hp' := wd σ) rfl ?_
        refine AW_goto hT hK 20 (tgt := 5) rfl rfl ?_
        refine AW_to (lo' := [some (.ref 1), some (.int d1), some (.int d2), some (.int (w3 + 1)), some (.int (nI (i + 1)))]) (by rw [nI_1]) rfl rfl ?_
        subst h5; subst h2; skip
        exact ih (i + 1) _ (by omega) (fun s' hs' => kx s' ((congrArg (az_it _ n (i + 1)) (by simp only [b_X3_citersOfYear_5, if_neg c4, if_pos c7])).trans hs'))
def x_X3_citersOfYear (σ : az_S) (p0 : Int32) (p1 : Int32) : Int32 :=
  let s9 := az_it (fun ι s => b_X3_citersOfYear_5 σ p0 p1 ι s) 12 0 0
  s9
set_option maxRecDepth 100000 in
set_option maxHeartbeats 4000000 in
theorem m_X3_citersOfYear (l0 : Launch) (σ : az_S) (p0 : Int32) (p1 : Int32) : AMet l0 yX3_citersOfYear cX3_citersOfYear 5 (some .int) ({ frames := 2, cells := 0, slots := 0, locals := 43 } : Room) false [.ref 1, .int p0, .int p1] (wd σ) (fun r h => r = some (.int (x_X3_citersOfYear σ p0 p1)) ∧ h = wd σ) := by
  refine AMet_of (by decide +kernel) (by simp [Value.category]) (Nat.le_of_ble_eq_true rfl) (fun K hK hct hG hE => ?_)
  have hT := tt_X3_citersOfYear
  refine AW_g hT cl_X3 hK 0 4 (pc' := 5) (lo' := [some (.ref 1), some (.int p0), some (.int p1), some (.int 0), some (.int 0)]) (st' := []) (hp' := wd σ) rfl ?_
  refine AW_to (lo' := [some (.ref 1), some (.int p0), some (.int p1), some (.int 0), some (.int (nI 0))]) (rfl) rfl rfl ?_
  refine lp_X3_citersOfYear_5 hT hK σ p0 p1 12 0 0 (by first | rfl | omega) (fun s9 h10 => ?_)
  refine AW_g hT cl_X3 hK 21 1 (pc' := 45) (lo' := [some (.ref 1), some (.int p0), some (.int p1), some (.int s9), none]) (st' := [.int s9]) (hp' := wd σ) rfl ?_
  refine AW_iret hT hE 22 rfl rfl rfl (Nat.le_of_ble_eq_true rfl) (Nat.le_of_ble_eq_true rfl) ?_
  subst h10; exact ⟨by simp only [x_X3_citersOfYear], rfl⟩
def x_X3_riseOf (σ : az_S) (p0 : Int32) (p1 : Int32) : Int32 :=
  let v2 := x_X3_citersOfYear σ p0 p1
  let v4 := x_X3_citersOfYear σ p0 (p1 - 1)
  (v2 - v4)
set_option maxRecDepth 100000 in
set_option maxHeartbeats 4000000 in
theorem m_X3_riseOf (l0 : Launch) (σ : az_S) (p0 : Int32) (p1 : Int32) : AMet l0 yX3_riseOf cX3_riseOf 3 (some .int) ({ frames := 3, cells := 0, slots := 0, locals := 67 } : Room) false [.ref 1, .int p0, .int p1] (wd σ) (fun r h => r = some (.int (x_X3_riseOf σ p0 p1)) ∧ h = wd σ) := by
  refine AMet_of (by decide +kernel) (by simp [Value.category]) (Nat.le_of_ble_eq_true rfl) (fun K hK hct hG hE => ?_)
  have hT := tt_X3_riseOf
  refine AW_g hT cl_X3 hK 0 3 (pc' := 3) (lo' := [some (.ref 1), some (.int p0), some (.int p1)]) (st' := [.int p1, .int p0, .ref 1]) (hp' := wd σ) rfl ?_
  refine AW_callV hT hK 3 [.int p0, .int p1] [] (m_X3_citersOfYear l0 σ p0 p1) cw_X3_citersOfYear lk_X3_93 vi_X3_citersOfYear rfl rfl rfl rfl rfl rfl (Nat.le_of_ble_eq_true rfl) (Nat.le_of_ble_eq_true rfl) (AW_k1 (fun v2 h1 => ?_))
  refine AW_g hT cl_X3 hK 4 5 (pc' := 11) (lo' := [some (.ref 1), some (.int p0), some (.int p1)]) (st' := [.int (p1 - 1), .int p0, .ref 1, .int v2]) (hp' := wd σ) rfl ?_
  refine AW_callV hT hK 9 [.int p0, .int (p1 - 1)] [.int v2] (m_X3_citersOfYear l0 σ p0 (p1 - 1)) cw_X3_citersOfYear lk_X3_93 vi_X3_citersOfYear rfl rfl rfl rfl rfl rfl (Nat.le_of_ble_eq_true rfl) (Nat.le_of_ble_eq_true rfl) (AW_k1 (fun v4 h3 => ?_))
  refine AW_g hT cl_X3 hK 10 1 (pc' := 15) (lo' := [some (.ref 1), some (.int p0), some (.int p1)]) (st' := [.int (v2 - v4)]) (hp' := wd σ) rfl ?_
  refine AW_iret hT hE 11 rfl rfl rfl (Nat.le_of_ble_eq_true rfl) (Nat.le_of_ble_eq_true rfl) ?_
  subst h3; subst h1; exact ⟨by simp only [x_X3_riseOf], rfl⟩
end AZP
