section AZP
def x_X6_thrown (σ : az_S) : Int32 :=
  (σ.1 9)
set_option maxRecDepth 100000 in
set_option maxHeartbeats 4000000 in
theorem m_X6_thrown (l0 : Launch) (σ : az_S) (hw : az_wf σ) : AMet l0 yX6_thrown cX6_thrown 1 (some .int) ({ frames := 0, cells := 0, slots := 0, locals := 0 } : Room) false [.ref 36] (wd σ) (fun r h => r = some (.int (x_X6_thrown σ)) ∧ h = wd σ) := by
  refine AMet_of (by decide +kernel) (by simp [Value.category]) (Nat.le_of_ble_eq_true rfl) (fun K hK hct hG hE => ?_)
  have hT := tt_X6_thrown
  have hw2 := hw.2
  refine AW_g hT cl_X6 hK 0 2 (pc' := 4) (lo' := [some (.ref 36)]) (st' := [.int (σ.1 9)]) (hp' := wd σ) rfl ?_
  refine AW_iret hT hE 2 rfl rfl rfl (Nat.le_of_ble_eq_true rfl) (Nat.le_of_ble_eq_true rfl) ?_
  exact ⟨by simp only [x_X6_thrown], rfl⟩
def x_X6_goes (σ : az_S) (p0 : Int32) : Int32 × az_S :=
  if p0 = 0 then
    (1, (sF σ 9 p0))
  else
    (0, (sF σ 9 p0))
set_option maxRecDepth 100000 in
set_option maxHeartbeats 4000000 in
theorem m_X6_goes (l0 : Launch) (σ : az_S) (p0 : Int32) (hw : az_wf σ) : AMet l0 yX6_goes cX6_goes 2 (some .boolean) ({ frames := 0, cells := 0, slots := 0, locals := 0 } : Room) false [.ref 36, .int p0] (wd σ) (fun r h => r = some (.int (x_X6_goes σ p0).1) ∧ h = wd (x_X6_goes σ p0).2) := by
  refine AMet_of (by decide +kernel) (by simp [Value.category]) (Nat.le_of_ble_eq_true rfl) (fun K hK hct hG hE => ?_)
  have hT := tt_X6_goes
  have hw2 := hw.2
  refine AW_g hT cl_X6 hK 0 4 (pc' := 6) (lo' := [some (.ref 36), some (.int p0)]) (st' := [.int p0]) (hp' := wd (sF σ 9 p0)) rfl ?_
  refine AW_if_ne hT hK 4 (tgt := 13) rfl rfl (fun c1 => ?_) (fun c1 => ?_)
  · refine AW_g hT cl_X6 hK 7 1 (pc' := 14) (lo' := [some (.ref 36), some (.int p0)]) (st' := [.int 0]) (hp' := wd (sF σ 9 p0)) rfl ?_
    refine AW_iret hT hE 8 rfl rfl rfl (Nat.le_of_ble_eq_true rfl) (Nat.le_of_ble_eq_true rfl) ?_
    exact ⟨by simp only [x_X6_goes, if_neg c1], by simp only [x_X6_goes, if_neg c1]⟩
  · refine AW_g hT cl_X6 hK 5 1 (pc' := 10) (lo' := [some (.ref 36), some (.int p0)]) (st' := [.int 1]) (hp' := wd (sF σ 9 p0)) rfl ?_
    refine AW_goto hT hK 6 (tgt := 14) rfl rfl ?_
    refine AW_iret hT hE 8 rfl rfl rfl (Nat.le_of_ble_eq_true rfl) (Nat.le_of_ble_eq_true rfl) ?_
    exact ⟨by simp only [x_X6_goes, if_pos c1], by simp only [x_X6_goes, if_pos c1]⟩
theorem nb_X6_goes (σ : az_S) (p0 : Int32) : narrow .boolean (.int (x_X6_goes σ p0).1) = .int (x_X6_goes σ p0).1 := by
  unfold x_X6_goes
  (try dsimp only)
  (repeat' split) <;> first | rfl | (dsimp only; rfl)
theorem kp_X6_goes (σ : az_S) (p0 : Int32) : (x_X6_goes σ p0).2.1 8 = σ.1 8 := by
  unfold x_X6_goes
  (try dsimp only)
  (repeat' split) <;> first | (simp [az_k8F, az_k8G, az_k8L]; done) | rfl
theorem goes_0 (σ : az_S) : x_X6_goes σ 0 = (1, sF σ 9 0) := by simp [x_X6_goes]
theorem goes_1 (σ : az_S) : x_X6_goes σ 1 = (0, sF σ 9 1) := by simp [x_X6_goes]
theorem goes_2 (σ : az_S) : x_X6_goes σ 2 = (0, sF σ 9 2) := by simp [x_X6_goes]
def x_X6_isIn (σ : az_S) (p0 : Int32) (p1 : Int32) (p2 : Int32) : Int32 :=
  if p0 < p1 then
    0
  else
    if p2 < p0 then
      0
    else
      1
set_option maxRecDepth 100000 in
set_option maxHeartbeats 4000000 in
theorem m_X6_isIn (l0 : Launch) (σ : az_S) (p0 : Int32) (p1 : Int32) (p2 : Int32) (hw : az_wf σ) : AMet l0 yX6_isIn cX6_isIn 3 (some .boolean) ({ frames := 0, cells := 0, slots := 0, locals := 0 } : Room) false [.int p0, .int p1, .int p2] (wd σ) (fun r h => r = some (.int (x_X6_isIn σ p0 p1 p2)) ∧ h = wd σ) := by
  refine AMet_of (by decide +kernel) (by simp [Value.category]) (Nat.le_of_ble_eq_true rfl) (fun K hK hct hG hE => ?_)
  have hT := tt_X6_isIn
  have hw2 := hw.2
  refine AW_g hT cl_X6 hK 0 2 (pc' := 2) (lo' := [some (.int p0), some (.int p1), some (.int p2)]) (st' := [.int p1, .int p0]) (hp' := wd σ) rfl ?_
  refine AW_icmp_lt hT hK 2 (tgt := 14) rfl rfl (fun c1 => ?_) (fun c1 => ?_)
  · refine AW_g hT cl_X6 hK 8 1 (pc' := 15) (lo' := [some (.int p0), some (.int p1), some (.int p2)]) (st' := [.int 0]) (hp' := wd σ) rfl ?_
    refine AW_iret hT hE 9 rfl rfl rfl (Nat.le_of_ble_eq_true rfl) (Nat.le_of_ble_eq_true rfl) ?_
    exact ⟨by simp only [x_X6_isIn, if_pos c1], rfl⟩
  · refine AW_g hT cl_X6 hK 3 2 (pc' := 7) (lo' := [some (.int p0), some (.int p1), some (.int p2)]) (st' := [.int p2, .int p0]) (hp' := wd σ) rfl ?_
    refine AW_icmp_gt hT hK 5 (tgt := 14) rfl rfl (fun c2 => ?_) (fun c2 => ?_)
    · refine AW_g hT cl_X6 hK 8 1 (pc' := 15) (lo' := [some (.int p0), some (.int p1), some (.int p2)]) (st' := [.int 0]) (hp' := wd σ) rfl ?_
      refine AW_iret hT hE 9 rfl rfl rfl (Nat.le_of_ble_eq_true rfl) (Nat.le_of_ble_eq_true rfl) ?_
      exact ⟨by simp only [x_X6_isIn, if_neg c1, if_pos c2], rfl⟩
    · refine AW_g hT cl_X6 hK 6 1 (pc' := 11) (lo' := [some (.int p0), some (.int p1), some (.int p2)]) (st' := [.int 1]) (hp' := wd σ) rfl ?_
      refine AW_goto hT hK 7 (tgt := 15) rfl rfl ?_
      refine AW_iret hT hE 9 rfl rfl rfl (Nat.le_of_ble_eq_true rfl) (Nat.le_of_ble_eq_true rfl) ?_
      exact ⟨by simp only [x_X6_isIn, if_neg c1, if_neg c2], rfl⟩
theorem nb_X6_isIn (σ : az_S) (p0 : Int32) (p1 : Int32) (p2 : Int32) : narrow .boolean (.int (x_X6_isIn σ p0 p1 p2)) = .int (x_X6_isIn σ p0 p1 p2) := by
  unfold x_X6_isIn
  (try dsimp only)
  (repeat' split) <;> first | rfl | (dsimp only; rfl)
theorem ob_isPaper {σ : az_S} {p v : Int32} (hw : az_wf σ) (h : x_X6_isIn σ p 0 (σ.1 8 - 1) = v) (c : ¬ v = 0) : vp_in p 12 := by
  subst h
  unfold x_X6_isIn at c
  split at c
  · exact absurd rfl c
  · split at c
    · exact absurd rfl c
    · exact az_ob_p hw ‹_› ‹_›
theorem ob_isField {σ : az_S} {p v : Int32} (h : x_X6_isIn σ p 0 11 = v) (c : ¬ v = 0) : vp_in p 12 := by
  subst h
  unfold x_X6_isIn at c
  split at c
  · exact absurd rfl c
  · split at c
    · exact absurd rfl c
    · rename_i h1 h2
      rw [vp_in_iff]
      rw [Int32.lt_iff_toInt_lt] at h1 h2
      have e1 : (0 : Int32).toInt = 0 := rfl
      have e2 : (11 : Int32).toInt = 11 := rfl
      omega
def x_X6_isPaper (σ : az_S) (p0 : Int32) : Int32 :=
  let v2 := x_X6_isIn σ p0 0 ((σ.1 8) - 1)
  if v2 = 0 then
    0
  else
    if ((σ.2.1 37) p0.toNatClampNeg) = 0 then
      0
    else
      1
set_option maxRecDepth 100000 in
set_option maxHeartbeats 4000000 in
theorem m_X6_isPaper (l0 : Launch) (σ : az_S) (p0 : Int32) (hw : az_wf σ) : AMet l0 yX6_isPaper cX6_isPaper 2 (some .boolean) ({ frames := 1, cells := 0, slots := 0, locals := 22 } : Room) false [.ref 36, .int p0] (wd σ) (fun r h => r = some (.int (x_X6_isPaper σ p0)) ∧ h = wd σ) := by
  refine AMet_of (by decide +kernel) (by simp [Value.category]) (Nat.le_of_ble_eq_true rfl) (fun K hK hct hG hE => ?_)
  have hT := tt_X6_isPaper
  have hw2 := hw.2
  refine AW_g hT cl_X6 hK 0 6 (pc' := 8) (lo' := [some (.ref 36), some (.int p0)]) (st' := [.int ((σ.1 8) - 1), .int 0, .int p0]) (hp' := wd σ) rfl ?_
  refine AW_callS hT hK 6 [.int p0, .int 0, .int ((σ.1 8) - 1)] [] (m_X6_isIn l0 σ p0 0 ((σ.1 8) - 1) (hw)) cw_X6_isIn lk_X6_43 sm_X6_isIn rfl rfl rfl rfl (Nat.le_of_ble_eq_true rfl) (Nat.le_of_ble_eq_true rfl) (AW_k1 (fun v2 h1 => ?_))
  refine AW_if_eq hT hK 7 (tgt := 27) rfl rfl (fun c3 => ?_) (fun c3 => ?_)
  · refine AW_g hT cl_X6 hK 15 1 (pc' := 28) (lo' := [some (.ref 36), some (.int p0)]) (st' := [.int 0]) (hp' := wd σ) rfl ?_
    refine AW_iret hT hE 16 rfl rfl rfl (Nat.le_of_ble_eq_true rfl) (Nat.le_of_ble_eq_true rfl) ?_
    subst h1; exact ⟨by simp only [x_X6_isPaper, if_pos c3], rfl⟩
  · refine AW_g hT cl_X6 hK 8 3 (pc' := 19) (lo' := [some (.ref 36), some (.int p0)]) (st' := [.int p0, .ref 37]) (hp' := wd σ) rfl ?_
    refine AW_zaldx hT hK 11 rfl (n := 12) (f := (σ.2.1 37)) rfl (ob_isPaper hw h1 c3) ?_
    refine AW_if_eq hT hK 12 (tgt := 27) rfl rfl (fun c4 => ?_) (fun c4 => ?_)
    · refine AW_g hT cl_X6 hK 15 1 (pc' := 28) (lo' := [some (.ref 36), some (.int p0)]) (st' := [.int 0]) (hp' := wd σ) rfl ?_
      refine AW_iret hT hE 16 rfl rfl rfl (Nat.le_of_ble_eq_true rfl) (Nat.le_of_ble_eq_true rfl) ?_
      subst h1; exact ⟨by simp only [x_X6_isPaper, if_neg c3, if_pos c4], rfl⟩
    · refine AW_g hT cl_X6 hK 13 1 (pc' := 24) (lo' := [some (.ref 36), some (.int p0)]) (st' := [.int 1]) (hp' := wd σ) rfl ?_
      refine AW_goto hT hK 14 (tgt := 28) rfl rfl ?_
      refine AW_iret hT hE 16 rfl rfl rfl (Nat.le_of_ble_eq_true rfl) (Nat.le_of_ble_eq_true rfl) ?_
      subst h1; exact ⟨by simp only [x_X6_isPaper, if_neg c3, if_neg c4], rfl⟩
theorem nb_X6_isPaper (σ : az_S) (p0 : Int32) : narrow .boolean (.int (x_X6_isPaper σ p0)) = .int (x_X6_isPaper σ p0) := by
  unfold x_X6_isPaper
  (try dsimp only)
  (repeat' split) <;> first | rfl | (dsimp only; rfl)
theorem ob_paper {σ : az_S} {p : Int32} (hw : az_wf σ) (c : ¬ x_X6_isPaper σ p = 0) : vp_in p 12 := by
  unfold x_X6_isPaper at c
  dsimp only at c
  split at c
  · exact absurd rfl c
  · exact ob_isPaper hw rfl ‹_›
theorem ob_paper2 {σ : az_S} {p v : Int32} (hw : az_wf σ) (h : x_X6_isPaper σ p = v) (c : ¬ v = 0) : vp_in p 12 := by
  subst h
  exact ob_paper hw c
def x_X6_asks (σ : az_S) (p0 : Int32) : Int32 × az_S :=
  let v2 := x_X6_isPaper σ p0
  if v2 = 0 then
    (0, (sF σ 9 1))
  else
    (1, (sF σ 9 0))
set_option maxRecDepth 100000 in
set_option maxHeartbeats 4000000 in
theorem m_X6_asks (l0 : Launch) (σ : az_S) (p0 : Int32) (hw : az_wf σ) : AMet l0 yX6_asks cX6_asks 2 (some .boolean) ({ frames := 2, cells := 0, slots := 0, locals := 43 } : Room) false [.ref 36, .int p0] (wd σ) (fun r h => r = some (.int (x_X6_asks σ p0).1) ∧ h = wd (x_X6_asks σ p0).2) := by
  refine AMet_of (by decide +kernel) (by simp [Value.category]) (Nat.le_of_ble_eq_true rfl) (fun K hK hct hG hE => ?_)
  have hT := tt_X6_asks
  have hw2 := hw.2
  refine AW_g hT cl_X6 hK 0 3 (pc' := 3) (lo' := [some (.ref 36), some (.int p0)]) (st' := [.int p0, .ref 36, .ref 36]) (hp' := wd σ) rfl ?_
  refine AW_callV hT hK 3 [.int p0] [.ref 36] (m_X6_isPaper l0 σ p0 (hw)) cw_X6_isPaper lk_X6_47 vi_X6_isPaper rfl rfl rfl rfl rfl rfl (Nat.le_of_ble_eq_true rfl) (Nat.le_of_ble_eq_true rfl) (AW_k1 (fun v2 h1 => ?_))
  refine AW_if_eq hT hK 4 (tgt := 13) rfl rfl (fun c3 => ?_) (fun c3 => ?_)
  · refine AW_g hT cl_X6 hK 7 1 (pc' := 14) (lo' := [some (.ref 36), some (.int p0)]) (st' := [.int 1, .ref 36]) (hp' := wd σ) rfl ?_
    refine AW_callV hT hK 8 [.int 1] [] (m_X6_goes l0 σ 1 (hw)) cw_X6_goes lk_X6_51 vi_X6_goes rfl rfl rfl rfl rfl rfl (Nat.le_of_ble_eq_true rfl) (Nat.le_of_ble_eq_true rfl) (AW_kiw2 (goes_1 σ) ?_)
    refine AW_iret hT hE 9 rfl rfl rfl (Nat.le_of_ble_eq_true rfl) (Nat.le_of_ble_eq_true rfl) ?_
    subst h1; exact ⟨by simp only [x_X6_asks, if_pos c3], by simp only [x_X6_asks, if_pos c3]⟩
  · refine AW_g hT cl_X6 hK 5 1 (pc' := 10) (lo' := [some (.ref 36), some (.int p0)]) (st' := [.int 0, .ref 36]) (hp' := wd σ) rfl ?_
    refine AW_goto hT hK 6 (tgt := 14) rfl rfl ?_
    refine AW_callV hT hK 8 [.int 0] [] (m_X6_goes l0 σ 0 (hw)) cw_X6_goes lk_X6_51 vi_X6_goes rfl rfl rfl rfl rfl rfl (Nat.le_of_ble_eq_true rfl) (Nat.le_of_ble_eq_true rfl) (AW_kiw2 (goes_0 σ) ?_)
    refine AW_iret hT hE 9 rfl rfl rfl (Nat.le_of_ble_eq_true rfl) (Nat.le_of_ble_eq_true rfl) ?_
    subst h1; exact ⟨by simp only [x_X6_asks, if_neg c3], by simp only [x_X6_asks, if_neg c3]⟩
theorem nb_X6_asks (σ : az_S) (p0 : Int32) : narrow .boolean (.int (x_X6_asks σ p0).1) = .int (x_X6_asks σ p0).1 := by
  unfold x_X6_asks
  (try dsimp only)
  (repeat' split) <;> first | rfl | (dsimp only; rfl)
theorem kp_X6_asks (σ : az_S) (p0 : Int32) : (x_X6_asks σ p0).2.1 8 = σ.1 8 := by
  unfold x_X6_asks
  (try dsimp only)
  (repeat' split) <;> first | (simp [az_k8F, az_k8G, az_k8L]; done) | rfl
theorem ob_asks {σ : az_S} {p : Int32} {q : Int32 × az_S} (hw : az_wf σ) (h : x_X6_asks σ p = q) (c : ¬ q.1 = 0) : vp_in p 12 := by
  subst h
  unfold x_X6_asks at c
  dsimp only at c
  split at c
  · exact absurd rfl c
  · exact ob_paper hw ‹_›
def x_X6_asksTwo (σ : az_S) (p0 : Int32) (p1 : Int32) : Int32 × az_S :=
  let v2 := x_X6_isPaper σ p0
  if v2 = 0 then
    (0, (sF σ 9 1))
  else
    let v6 := x_X6_isPaper σ p1
    if v6 = 0 then
      (0, (sF σ 9 1))
    else
      (1, (sF σ 9 0))
set_option maxRecDepth 100000 in
set_option maxHeartbeats 4000000 in
theorem m_X6_asksTwo (l0 : Launch) (σ : az_S) (p0 : Int32) (p1 : Int32) (hw : az_wf σ) : AMet l0 yX6_asksTwo cX6_asksTwo 3 (some .boolean) ({ frames := 2, cells := 0, slots := 0, locals := 43 } : Room) false [.ref 36, .int p0, .int p1] (wd σ) (fun r h => r = some (.int (x_X6_asksTwo σ p0 p1).1) ∧ h = wd (x_X6_asksTwo σ p0 p1).2) := by
  refine AMet_of (by decide +kernel) (by simp [Value.category]) (Nat.le_of_ble_eq_true rfl) (fun K hK hct hG hE => ?_)
  have hT := tt_X6_asksTwo
  have hw2 := hw.2
  refine AW_g hT cl_X6 hK 0 3 (pc' := 3) (lo' := [some (.ref 36), some (.int p0), some (.int p1)]) (st' := [.int p0, .ref 36, .ref 36]) (hp' := wd σ) rfl ?_
  refine AW_callV hT hK 3 [.int p0] [.ref 36] (m_X6_isPaper l0 σ p0 (hw)) cw_X6_isPaper lk_X6_47 vi_X6_isPaper rfl rfl rfl rfl rfl rfl (Nat.le_of_ble_eq_true rfl) (Nat.le_of_ble_eq_true rfl) (AW_k1 (fun v2 h1 => ?_))
  refine AW_if_eq hT hK 4 (tgt := 21) rfl rfl (fun c3 => ?_) (fun c3 => ?_)
  · refine AW_g hT cl_X6 hK 11 1 (pc' := 22) (lo' := [some (.ref 36), some (.int p0), some (.int p1)]) (st' := [.int 1, .ref 36]) (hp' := wd σ) rfl ?_
    refine AW_callV hT hK 12 [.int 1] [] (m_X6_goes l0 σ 1 (hw)) cw_X6_goes lk_X6_51 vi_X6_goes rfl rfl rfl rfl rfl rfl (Nat.le_of_ble_eq_true rfl) (Nat.le_of_ble_eq_true rfl) (AW_kiw2 (goes_1 σ) ?_)
    refine AW_iret hT hE 13 rfl rfl rfl (Nat.le_of_ble_eq_true rfl) (Nat.le_of_ble_eq_true rfl) ?_
    subst h1; exact ⟨by simp only [x_X6_asksTwo, if_pos c3], by simp only [x_X6_asksTwo, if_pos c3]⟩
  · refine AW_g hT cl_X6 hK 5 2 (pc' := 11) (lo' := [some (.ref 36), some (.int p0), some (.int p1)]) (st' := [.int p1, .ref 36, .ref 36]) (hp' := wd σ) rfl ?_
    refine AW_callV hT hK 7 [.int p1] [.ref 36] (m_X6_isPaper l0 σ p1 (hw)) cw_X6_isPaper lk_X6_47 vi_X6_isPaper rfl rfl rfl rfl rfl rfl (Nat.le_of_ble_eq_true rfl) (Nat.le_of_ble_eq_true rfl) (AW_k1 (fun v6 h5 => ?_))
    refine AW_if_eq hT hK 8 (tgt := 21) rfl rfl (fun c7 => ?_) (fun c7 => ?_)
    · refine AW_g hT cl_X6 hK 11 1 (pc' := 22) (lo' := [some (.ref 36), some (.int p0), some (.int p1)]) (st' := [.int 1, .ref 36]) (hp' := wd σ) rfl ?_
      refine AW_callV hT hK 12 [.int 1] [] (m_X6_goes l0 σ 1 (hw)) cw_X6_goes lk_X6_51 vi_X6_goes rfl rfl rfl rfl rfl rfl (Nat.le_of_ble_eq_true rfl) (Nat.le_of_ble_eq_true rfl) (AW_kiw2 (goes_1 σ) ?_)
      refine AW_iret hT hE 13 rfl rfl rfl (Nat.le_of_ble_eq_true rfl) (Nat.le_of_ble_eq_true rfl) ?_
      subst h5; subst h1; exact ⟨by simp only [x_X6_asksTwo, if_neg c3, if_pos c7], by simp only [x_X6_asksTwo, if_neg c3, if_pos c7]⟩
    · refine AW_g hT cl_X6 hK 9 1 (pc' := 18) (lo' := [some (.ref 36), some (.int p0), some (.int p1)]) (st' := [.int 0, .ref 36]) (hp' := wd σ) rfl ?_
      refine AW_goto hT hK 10 (tgt := 22) rfl rfl ?_
      refine AW_callV hT hK 12 [.int 0] [] (m_X6_goes l0 σ 0 (hw)) cw_X6_goes lk_X6_51 vi_X6_goes rfl rfl rfl rfl rfl rfl (Nat.le_of_ble_eq_true rfl) (Nat.le_of_ble_eq_true rfl) (AW_kiw2 (goes_0 σ) ?_)
      refine AW_iret hT hE 13 rfl rfl rfl (Nat.le_of_ble_eq_true rfl) (Nat.le_of_ble_eq_true rfl) ?_
      subst h5; subst h1; exact ⟨by simp only [x_X6_asksTwo, if_neg c3, if_neg c7], by simp only [x_X6_asksTwo, if_neg c3, if_neg c7]⟩
theorem nb_X6_asksTwo (σ : az_S) (p0 : Int32) (p1 : Int32) : narrow .boolean (.int (x_X6_asksTwo σ p0 p1).1) = .int (x_X6_asksTwo σ p0 p1).1 := by
  unfold x_X6_asksTwo
  (try dsimp only)
  (repeat' split) <;> first | rfl | (dsimp only; rfl)
theorem kp_X6_asksTwo (σ : az_S) (p0 : Int32) (p1 : Int32) : (x_X6_asksTwo σ p0 p1).2.1 8 = σ.1 8 := by
  unfold x_X6_asksTwo
  (try dsimp only)
  (repeat' split) <;> first | (simp [az_k8F, az_k8G, az_k8L]; done) | rfl
theorem ob_asks2 {σ : az_S} {p p2 : Int32} {q : Int32 × az_S} (hw : az_wf σ) (h : x_X6_asksTwo σ p p2 = q) (c : ¬ q.1 = 0) : vp_in p 12 ∧ vp_in p2 12 := by
  subst h
  unfold x_X6_asksTwo at c
  dsimp only at c
  split at c
  · exact absurd rfl c
  · split at c
    · exact absurd rfl c
    · exact ⟨ob_paper hw ‹_›, ob_paper hw ‹_›⟩
def b_X6_count_4 (σ : az_S) (d0 : Int32) (i : Nat) (w1 : Int32) : Int32 :=
  (w1 + ((d0 >>> ((nI i) &&& 31)) &&& 1))
set_option maxRecDepth 100000 in
set_option maxHeartbeats 4000000 in
theorem lp_X6_count_4 {K : az_K} {l0 : Launch} (hT : az_Tb cX6_count tb_X6_count) (hK : az_OK K RX6 cX6_count ({ frames := 0, cells := 0, slots := 0, locals := 0 } : Room) l0) (σ : az_S) (d0 : Int32) (hw : az_wf σ) :
    ∀ (n i : Nat) (w1 : Int32) (hi : i + n = 12) (kx : ∀ s' : Int32, az_it (fun ι s => b_X6_count_4 σ d0 ι s) n i w1 = s' → AW K 0 0 24 [some (.int d0), some (.int s'), none] [] (wd σ)), AW K 0 0 4 [some (.int d0), some (.int w1), some (.int (nI i))] [] (wd σ) := by
  intro n
  induction n with
  | zero =>
    intro i w1 hi kx
    have hw2 := hw.2
    refine AW_g hT cl_X6 hK 4 2 (pc' := 7) (lo' := [some (.int d0), some (.int w1), some (.int (nI i))]) (st' := [.int 12, .int (nI i)]) (hp' := wd σ) rfl ?_
    refine AW_icmp_ge hT hK 6 (tgt := 24) rfl rfl (fun c2 => ?_) (fun c2 => absurd (az_c0 hi) c2)
    refine AW_msk [true, true, false] (lo' := [some (.int d0), some (.int w1), none]) rfl ?_
    exact kx w1 rfl
  | succ n ih =>
    intro i w1 hi kx
    have hw2 := hw.2
    refine AW_g hT cl_X6 hK 4 2 (pc' := 7) (lo' := [some (.int d0), some (.int w1), some (.int (nI i))]) (st' := [.int 12, .int (nI i)]) (hp' := wd σ) rfl ?_
    refine AW_icmp_ge hT hK 6 (tgt := 24) rfl rfl (fun c1 => absurd c1 (az_c1 hi)) (fun c1 => ?_)
    refine AW_g hT cl_X6 hK 7 9 (pc' := 21) (lo' := [some (.int d0), some (.int (w1 + ((d0 >>> ((nI i) &&& 31)) &&& 1))), some (.int ((nI i) + 1))]) (st' := []) (hp' := wd σ) rfl ?_
    refine AW_goto hT hK 16 (tgt := 4) rfl rfl ?_
    refine AW_to (lo' := [some (.int d0), some (.int (w1 + ((d0 >>> ((nI i) &&& 31)) &&& 1))), some (.int (nI (i + 1)))]) (by rw [nI_1]) rfl rfl ?_
    exact ih (i + 1) _ (by omega) (fun s' hs' => kx s' ((congrArg (az_it _ n (i + 1)) (by simp only [b_X6_count_4])).trans hs'))
def x_X6_count (σ : az_S) (p0 : Int32) : Int32 :=
  let s3 := az_it (fun ι s => b_X6_count_4 σ p0 ι s) 12 0 0
  s3
set_option maxRecDepth 100000 in
set_option maxHeartbeats 4000000 in
theorem m_X6_count (l0 : Launch) (σ : az_S) (p0 : Int32) (hw : az_wf σ) : AMet l0 yX6_count cX6_count 3 (some .int) ({ frames := 0, cells := 0, slots := 0, locals := 0 } : Room) false [.int p0] (wd σ) (fun r h => r = some (.int (x_X6_count σ p0)) ∧ h = wd σ) := by
  refine AMet_of (by decide +kernel) (by simp [Value.category]) (Nat.le_of_ble_eq_true rfl) (fun K hK hct hG hE => ?_)
  have hT := tt_X6_count
  have hw2 := hw.2
  refine AW_g hT cl_X6 hK 0 4 (pc' := 4) (lo' := [some (.int p0), some (.int 0), some (.int 0)]) (st' := []) (hp' := wd σ) rfl ?_
  refine AW_to (lo' := [some (.int p0), some (.int 0), some (.int (nI 0))]) (rfl) rfl rfl ?_
  refine lp_X6_count_4 hT hK σ p0 hw 12 0 0 (by first | rfl | omega) (fun s3 h4 => ?_)
  refine AW_g hT cl_X6 hK 17 1 (pc' := 25) (lo' := [some (.int p0), some (.int s3), none]) (st' := [.int s3]) (hp' := wd σ) rfl ?_
  refine AW_iret hT hE 18 rfl rfl rfl (Nat.le_of_ble_eq_true rfl) (Nat.le_of_ble_eq_true rfl) ?_
  subst h4; exact ⟨by simp only [x_X6_count], rfl⟩
def b_X6_all_4 (σ : az_S) (i : Nat) (w1 : Int32) : Int32 :=
  if ((σ.2.1 37) i) = 0 then
    (w1 ||| 0)
  else
    (w1 ||| (1 <<< ((nI i) &&& 31)))
set_option maxRecDepth 100000 in
set_option maxHeartbeats 4000000 in
theorem lp_X6_all_4 {K : az_K} {l0 : Launch} (hT : az_Tb cX6_all tb_X6_all) (hK : az_OK K RX6 cX6_all ({ frames := 0, cells := 0, slots := 0, locals := 0 } : Room) l0) (σ : az_S) (hw : az_wf σ) :
    ∀ (n i : Nat) (w1 : Int32) (hi : i + n = nn σ) (kx : ∀ s' : Int32, az_it (fun ι s => b_X6_all_4 σ ι s) n i w1 = s' → AW K 0 0 37 [some (.ref 36), some (.int s'), none] [] (wd σ)), AW K 0 0 4 [some (.ref 36), some (.int w1), some (.int (nI i))] [] (wd σ) := by
  intro n
  induction n with
  | zero =>
    intro i w1 hi kx
    have hw2 := hw.2
    refine AW_g hT cl_X6 hK 4 3 (pc' := 9) (lo' := [some (.ref 36), some (.int w1), some (.int (nI i))]) (st' := [.int (σ.1 8), .int (nI i)]) (hp' := wd σ) rfl ?_
    refine AW_icmp_ge hT hK 7 (tgt := 37) rfl rfl (fun c3 => ?_) (fun c3 => absurd (az_cn0 hw hi) c3)
    refine AW_msk [true, true, false] (lo' := [some (.ref 36), some (.int w1), none]) rfl ?_
    exact kx w1 rfl
  | succ n ih =>
    intro i w1 hi kx
    have hw2 := hw.2
    refine AW_g hT cl_X6 hK 4 3 (pc' := 9) (lo' := [some (.ref 36), some (.int w1), some (.int (nI i))]) (st' := [.int (σ.1 8), .int (nI i)]) (hp' := wd σ) rfl ?_
    refine AW_icmp_ge hT hK 7 (tgt := 37) rfl rfl (fun c1 => absurd c1 (az_cn1 hw hi)) (fun c1 => ?_)
    refine AW_g hT cl_X6 hK 8 4 (pc' := 18) (lo' := [some (.ref 36), some (.int w1), some (.int (nI i))]) (st' := [.int (nI i), .ref 37, .int w1]) (hp' := wd σ) rfl ?_
    refine AW_zald hT hK 12 i rfl (n := 12) (f := (σ.2.1 37)) rfl rfl (by omega) (by decide) ?_
    refine AW_if_eq hT hK 13 (tgt := 28) rfl rfl (fun c2 => ?_) (fun c2 => ?_)
    · refine AW_g hT cl_X6 hK 18 4 (pc' := 34) (lo' := [some (.ref 36), some (.int (w1 ||| 0)), some (.int ((nI i) + 1))]) (st' := []) (hp' := wd σ) rfl ?_
      refine AW_goto hT hK 22 (tgt := 4) rfl rfl ?_
      refine AW_to (lo' := [some (.ref 36), some (.int (w1 ||| 0)), some (.int (nI (i + 1)))]) (by rw [nI_1]) rfl rfl ?_
      exact ih (i + 1) _ (by omega) (fun s' hs' => kx s' ((congrArg (az_it _ n (i + 1)) (by simp only [b_X6_all_4, if_pos c2])).trans hs'))
    · refine AW_g hT cl_X6 hK 14 3 (pc' := 25) (lo' := [some (.ref 36), some (.int w1), some (.int (nI i))]) (st' := [.int (1 <<< ((nI i) &&& 31)), .int w1]) (hp' := wd σ) rfl ?_
      refine AW_goto hT hK 17 (tgt := 29) rfl rfl ?_
      refine AW_g hT cl_X6 hK 19 3 (pc' := 34) (lo' := [some (.ref 36), some (.int (w1 ||| (1 <<< ((nI i) &&& 31)))), some (.int ((nI i) + 1))]) (st' := []) (hp' := wd σ) rfl ?_
      refine AW_goto hT hK 22 (tgt := 4) rfl rfl ?_
      refine AW_to (lo' := [some (.ref 36), some (.int (w1 ||| (1 <<< ((nI i) &&& 31)))), some (.int (nI (i + 1)))]) (by rw [nI_1]) rfl rfl ?_
      exact ih (i + 1) _ (by omega) (fun s' hs' => kx s' ((congrArg (az_it _ n (i + 1)) (by simp only [b_X6_all_4, if_neg c2])).trans hs'))
def x_X6_all (σ : az_S) : Int32 :=
  let s4 := az_it (fun ι s => b_X6_all_4 σ ι s) (nn σ) 0 0
  s4
set_option maxRecDepth 100000 in
set_option maxHeartbeats 4000000 in
theorem m_X6_all (l0 : Launch) (σ : az_S) (hw : az_wf σ) : AMet l0 yX6_all cX6_all 3 (some .int) ({ frames := 0, cells := 0, slots := 0, locals := 0 } : Room) false [.ref 36] (wd σ) (fun r h => r = some (.int (x_X6_all σ)) ∧ h = wd σ) := by
  refine AMet_of (by decide +kernel) (by simp [Value.category]) (Nat.le_of_ble_eq_true rfl) (fun K hK hct hG hE => ?_)
  have hT := tt_X6_all
  have hw2 := hw.2
  refine AW_g hT cl_X6 hK 0 4 (pc' := 4) (lo' := [some (.ref 36), some (.int 0), some (.int 0)]) (st' := []) (hp' := wd σ) rfl ?_
  refine AW_to (lo' := [some (.ref 36), some (.int 0), some (.int (nI 0))]) (rfl) rfl rfl ?_
  refine lp_X6_all_4 hT hK σ hw (nn σ) 0 0 (by have h9 : nn σ = nn σ := rfl; omega) (fun s4 h5 => ?_)
  refine AW_g hT cl_X6 hK 23 1 (pc' := 38) (lo' := [some (.ref 36), some (.int s4), none]) (st' := [.int s4]) (hp' := wd σ) rfl ?_
  refine AW_iret hT hE 24 rfl rfl rfl (Nat.le_of_ble_eq_true rfl) (Nat.le_of_ble_eq_true rfl) ?_
  subst h5; exact ⟨by simp only [x_X6_all], rfl⟩
def x_X6_come (σ : az_S) (p0 : Int32) (p1 : Int32) : Int32 × az_S :=
  if (σ.1 8) = 0 then
    let v23 := x_X6_isIn σ p0 0 99
    if v23 = 0 then
      (0, (sF σ 9 1))
    else
      let v29 := x_X6_all σ
      if (p1 &&& (v29 ^^^ (-1))) = 0 then
        if (σ.1 8) = 12 then
          (0, (sF σ 9 2))
        else
          let u38 := (((sG (sG (sG (sF σ 9 0) 38 (va_up ((sF σ 9 0).2.1 38) ((sF σ 9 0).1 8).toNatClampNeg p0)) 39 (va_up ((sG (sF σ 9 0) 38 (va_up ((sF σ 9 0).2.1 38) ((sF σ 9 0).1 8).toNatClampNeg p0)).2.1 39) ((sG (sF σ 9 0) 38 (va_up ((sF σ 9 0).2.1 38) ((sF σ 9 0).1 8).toNatClampNeg p0)).1 8).toNatClampNeg p1)) 37 (va_up ((sG (sG (sF σ 9 0) 38 (va_up ((sF σ 9 0).2.1 38) ((sF σ 9 0).1 8).toNatClampNeg p0)) 39 (va_up ((sG (sF σ 9 0) 38 (va_up ((sF σ 9 0).2.1 38) ((sF σ 9 0).1 8).toNatClampNeg p0)).2.1 39) ((sG (sF σ 9 0) 38 (va_up ((sF σ 9 0).2.1 38) ((sF σ 9 0).1 8).toNatClampNeg p0)).1 8).toNatClampNeg p1)).2.1 37) ((sG (sG (sF σ 9 0) 38 (va_up ((sF σ 9 0).2.1 38) ((sF σ 9 0).1 8).toNatClampNeg p0)) 39 (va_up ((sG (sF σ 9 0) 38 (va_up ((sF σ 9 0).2.1 38) ((sF σ 9 0).1 8).toNatClampNeg p0)).2.1 39) ((sG (sF σ 9 0) 38 (va_up ((sF σ 9 0).2.1 38) ((sF σ 9 0).1 8).toNatClampNeg p0)).1 8).toNatClampNeg p1)).1 8).toNatClampNeg 1)).1 8) + 1)
          ((((sF (sG (sG (sG (sF σ 9 0) 38 (va_up ((sF σ 9 0).2.1 38) ((sF σ 9 0).1 8).toNatClampNeg p0)) 39 (va_up ((sG (sF σ 9 0) 38 (va_up ((sF σ 9 0).2.1 38) ((sF σ 9 0).1 8).toNatClampNeg p0)).2.1 39) ((sG (sF σ 9 0) 38 (va_up ((sF σ 9 0).2.1 38) ((sF σ 9 0).1 8).toNatClampNeg p0)).1 8).toNatClampNeg p1)) 37 (va_up ((sG (sG (sF σ 9 0) 38 (va_up ((sF σ 9 0).2.1 38) ((sF σ 9 0).1 8).toNatClampNeg p0)) 39 (va_up ((sG (sF σ 9 0) 38 (va_up ((sF σ 9 0).2.1 38) ((sF σ 9 0).1 8).toNatClampNeg p0)).2.1 39) ((sG (sF σ 9 0) 38 (va_up ((sF σ 9 0).2.1 38) ((sF σ 9 0).1 8).toNatClampNeg p0)).1 8).toNatClampNeg p1)).2.1 37) ((sG (sG (sF σ 9 0) 38 (va_up ((sF σ 9 0).2.1 38) ((sF σ 9 0).1 8).toNatClampNeg p0)) 39 (va_up ((sG (sF σ 9 0) 38 (va_up ((sF σ 9 0).2.1 38) ((sF σ 9 0).1 8).toNatClampNeg p0)).2.1 39) ((sG (sF σ 9 0) 38 (va_up ((sF σ 9 0).2.1 38) ((sF σ 9 0).1 8).toNatClampNeg p0)).1 8).toNatClampNeg p1)).1 8).toNatClampNeg 1)) 8 u38).1 8) - 1), (sF (sG (sG (sG (sF σ 9 0) 38 (va_up ((sF σ 9 0).2.1 38) ((sF σ 9 0).1 8).toNatClampNeg p0)) 39 (va_up ((sG (sF σ 9 0) 38 (va_up ((sF σ 9 0).2.1 38) ((sF σ 9 0).1 8).toNatClampNeg p0)).2.1 39) ((sG (sF σ 9 0) 38 (va_up ((sF σ 9 0).2.1 38) ((sF σ 9 0).1 8).toNatClampNeg p0)).1 8).toNatClampNeg p1)) 37 (va_up ((sG (sG (sF σ 9 0) 38 (va_up ((sF σ 9 0).2.1 38) ((sF σ 9 0).1 8).toNatClampNeg p0)) 39 (va_up ((sG (sF σ 9 0) 38 (va_up ((sF σ 9 0).2.1 38) ((sF σ 9 0).1 8).toNatClampNeg p0)).2.1 39) ((sG (sF σ 9 0) 38 (va_up ((sF σ 9 0).2.1 38) ((sF σ 9 0).1 8).toNatClampNeg p0)).1 8).toNatClampNeg p1)).2.1 37) ((sG (sG (sF σ 9 0) 38 (va_up ((sF σ 9 0).2.1 38) ((sF σ 9 0).1 8).toNatClampNeg p0)) 39 (va_up ((sG (sF σ 9 0) 38 (va_up ((sF σ 9 0).2.1 38) ((sF σ 9 0).1 8).toNatClampNeg p0)).2.1 39) ((sG (sF σ 9 0) 38 (va_up ((sF σ 9 0).2.1 38) ((sF σ 9 0).1 8).toNatClampNeg p0)).1 8).toNatClampNeg p1)).1 8).toNatClampNeg 1)) 8 u38))
      else
        (0, (sF σ 9 1))
  else
    let v3 := x_X6_isIn σ p0 ((σ.2.1 38) ((σ.1 8) - 1).toNatClampNeg) 99
    if v3 = 0 then
      (0, (sF σ 9 1))
    else
      let v9 := x_X6_all σ
      if (p1 &&& (v9 ^^^ (-1))) = 0 then
        if (σ.1 8) = 12 then
          (0, (sF σ 9 2))
        else
          let u18 := (((sG (sG (sG (sF σ 9 0) 38 (va_up ((sF σ 9 0).2.1 38) ((sF σ 9 0).1 8).toNatClampNeg p0)) 39 (va_up ((sG (sF σ 9 0) 38 (va_up ((sF σ 9 0).2.1 38) ((sF σ 9 0).1 8).toNatClampNeg p0)).2.1 39) ((sG (sF σ 9 0) 38 (va_up ((sF σ 9 0).2.1 38) ((sF σ 9 0).1 8).toNatClampNeg p0)).1 8).toNatClampNeg p1)) 37 (va_up ((sG (sG (sF σ 9 0) 38 (va_up ((sF σ 9 0).2.1 38) ((sF σ 9 0).1 8).toNatClampNeg p0)) 39 (va_up ((sG (sF σ 9 0) 38 (va_up ((sF σ 9 0).2.1 38) ((sF σ 9 0).1 8).toNatClampNeg p0)).2.1 39) ((sG (sF σ 9 0) 38 (va_up ((sF σ 9 0).2.1 38) ((sF σ 9 0).1 8).toNatClampNeg p0)).1 8).toNatClampNeg p1)).2.1 37) ((sG (sG (sF σ 9 0) 38 (va_up ((sF σ 9 0).2.1 38) ((sF σ 9 0).1 8).toNatClampNeg p0)) 39 (va_up ((sG (sF σ 9 0) 38 (va_up ((sF σ 9 0).2.1 38) ((sF σ 9 0).1 8).toNatClampNeg p0)).2.1 39) ((sG (sF σ 9 0) 38 (va_up ((sF σ 9 0).2.1 38) ((sF σ 9 0).1 8).toNatClampNeg p0)).1 8).toNatClampNeg p1)).1 8).toNatClampNeg 1)).1 8) + 1)
          ((((sF (sG (sG (sG (sF σ 9 0) 38 (va_up ((sF σ 9 0).2.1 38) ((sF σ 9 0).1 8).toNatClampNeg p0)) 39 (va_up ((sG (sF σ 9 0) 38 (va_up ((sF σ 9 0).2.1 38) ((sF σ 9 0).1 8).toNatClampNeg p0)).2.1 39) ((sG (sF σ 9 0) 38 (va_up ((sF σ 9 0).2.1 38) ((sF σ 9 0).1 8).toNatClampNeg p0)).1 8).toNatClampNeg p1)) 37 (va_up ((sG (sG (sF σ 9 0) 38 (va_up ((sF σ 9 0).2.1 38) ((sF σ 9 0).1 8).toNatClampNeg p0)) 39 (va_up ((sG (sF σ 9 0) 38 (va_up ((sF σ 9 0).2.1 38) ((sF σ 9 0).1 8).toNatClampNeg p0)).2.1 39) ((sG (sF σ 9 0) 38 (va_up ((sF σ 9 0).2.1 38) ((sF σ 9 0).1 8).toNatClampNeg p0)).1 8).toNatClampNeg p1)).2.1 37) ((sG (sG (sF σ 9 0) 38 (va_up ((sF σ 9 0).2.1 38) ((sF σ 9 0).1 8).toNatClampNeg p0)) 39 (va_up ((sG (sF σ 9 0) 38 (va_up ((sF σ 9 0).2.1 38) ((sF σ 9 0).1 8).toNatClampNeg p0)).2.1 39) ((sG (sF σ 9 0) 38 (va_up ((sF σ 9 0).2.1 38) ((sF σ 9 0).1 8).toNatClampNeg p0)).1 8).toNatClampNeg p1)).1 8).toNatClampNeg 1)) 8 u18).1 8) - 1), (sF (sG (sG (sG (sF σ 9 0) 38 (va_up ((sF σ 9 0).2.1 38) ((sF σ 9 0).1 8).toNatClampNeg p0)) 39 (va_up ((sG (sF σ 9 0) 38 (va_up ((sF σ 9 0).2.1 38) ((sF σ 9 0).1 8).toNatClampNeg p0)).2.1 39) ((sG (sF σ 9 0) 38 (va_up ((sF σ 9 0).2.1 38) ((sF σ 9 0).1 8).toNatClampNeg p0)).1 8).toNatClampNeg p1)) 37 (va_up ((sG (sG (sF σ 9 0) 38 (va_up ((sF σ 9 0).2.1 38) ((sF σ 9 0).1 8).toNatClampNeg p0)) 39 (va_up ((sG (sF σ 9 0) 38 (va_up ((sF σ 9 0).2.1 38) ((sF σ 9 0).1 8).toNatClampNeg p0)).2.1 39) ((sG (sF σ 9 0) 38 (va_up ((sF σ 9 0).2.1 38) ((sF σ 9 0).1 8).toNatClampNeg p0)).1 8).toNatClampNeg p1)).2.1 37) ((sG (sG (sF σ 9 0) 38 (va_up ((sF σ 9 0).2.1 38) ((sF σ 9 0).1 8).toNatClampNeg p0)) 39 (va_up ((sG (sF σ 9 0) 38 (va_up ((sF σ 9 0).2.1 38) ((sF σ 9 0).1 8).toNatClampNeg p0)).2.1 39) ((sG (sF σ 9 0) 38 (va_up ((sF σ 9 0).2.1 38) ((sF σ 9 0).1 8).toNatClampNeg p0)).1 8).toNatClampNeg p1)).1 8).toNatClampNeg 1)) 8 u18))
      else
        (0, (sF σ 9 1))
set_option maxRecDepth 100000 in
set_option maxHeartbeats 4000000 in
theorem m_X6_come (l0 : Launch) (σ : az_S) (p0 : Int32) (p1 : Int32) (hw : az_wf σ) : AMet l0 yX6_come cX6_come 5 (some .int) ({ frames := 1, cells := 0, slots := 0, locals := 22 } : Room) false [.ref 36, .int p0, .int p1] (wd σ) (fun r h => r = some (.int (x_X6_come σ p0 p1).1) ∧ h = wd (x_X6_come σ p0 p1).2) := by
  refine AMet_of (by decide +kernel) (by simp [Value.category]) (Nat.le_of_ble_eq_true rfl) (fun K hK hct hG hE => ?_)
  have hT := tt_X6_come
  have hw2 := hw.2
  refine AW_g hT cl_X6 hK 0 2 (pc' := 4) (lo' := [some (.ref 36), some (.int p0), some (.int p1), none, none]) (st' := [.int (σ.1 8)]) (hp' := wd σ) rfl ?_
  refine AW_if_ne hT hK 2 (tgt := 11) rfl rfl (fun c1 => ?_) (fun c1 => ?_)
  · refine AW_g hT cl_X6 hK 5 6 (pc' := 21) (lo' := [some (.ref 36), some (.int p0), some (.int p1), none, none]) (st' := [.int ((σ.1 8) - 1), .ref 38]) (hp' := wd σ) rfl ?_
    refine AW_ialdx hT hK 11 rfl (n := 12) (f := (σ.2.1 38)) rfl (az_ob_c1 hw c1) ?_
    refine AW_g hT cl_X6 hK 12 4 (pc' := 27) (lo' := [some (.ref 36), some (.int p0), some (.int p1), some (.int ((σ.2.1 38) ((σ.1 8) - 1).toNatClampNeg)), none]) (st' := [.int 99, .int ((σ.2.1 38) ((σ.1 8) - 1).toNatClampNeg), .int p0]) (hp' := wd σ) rfl ?_
    refine AW_callS hT hK 16 [.int p0, .int ((σ.2.1 38) ((σ.1 8) - 1).toNatClampNeg), .int 99] [] (m_X6_isIn l0 σ p0 ((σ.2.1 38) ((σ.1 8) - 1).toNatClampNeg) 99 (hw)) cw_X6_isIn lk_X6_43 sm_X6_isIn rfl rfl rfl rfl (Nat.le_of_ble_eq_true rfl) (Nat.le_of_ble_eq_true rfl) (AW_k1 (fun v3 h2 => ?_))
    refine AW_if_eq hT hK 17 (tgt := 48) rfl rfl (fun c4 => ?_) (fun c4 => ?_)
    · refine AW_g hT cl_X6 hK 27 4 (pc' := 54) (lo' := [some (.ref 36), some (.int p0), some (.int p1), some (.int ((σ.2.1 38) ((σ.1 8) - 1).toNatClampNeg)), some (.int 0)]) (st' := [.int 0, .ref 36]) (hp' := wd σ) rfl ?_
      refine AW_if_ne hT hK 31 (tgt := 61) rfl rfl (fun c5 => absurd (by decide) c5) (fun _ => ?_)
      refine AW_g hT cl_X6 hK 32 1 (pc' := 58) (lo' := [some (.ref 36), some (.int p0), some (.int p1), some (.int ((σ.2.1 38) ((σ.1 8) - 1).toNatClampNeg)), some (.int 0)]) (st' := [.int 1, .ref 36]) (hp' := wd σ) rfl ?_
      refine AW_goto hT hK 33 (tgt := 75) rfl rfl ?_
      refine AW_callV hT hK 41 [.int 1] [] (m_X6_goes l0 σ 1 (hw)) cw_X6_goes lk_X6_51 vi_X6_goes rfl rfl rfl rfl rfl rfl (Nat.le_of_ble_eq_true rfl) (Nat.le_of_ble_eq_true rfl) (AW_kiw2 (goes_1 σ) ?_)
      refine AW_if_ne hT hK 42 (tgt := 83) rfl rfl (fun c7 => absurd (by decide) c7) (fun _ => ?_)
      refine AW_g hT cl_X6 hK 43 1 (pc' := 82) (lo' := [some (.ref 36), some (.int p0), some (.int p1), some (.int ((σ.2.1 38) ((σ.1 8) - 1).toNatClampNeg)), some (.int 0)]) (st' := [.int 0]) (hp' := wd (sF σ 9 1)) rfl ?_
      refine AW_iret hT hE 44 rfl rfl rfl (Nat.le_of_ble_eq_true rfl) (Nat.le_of_ble_eq_true rfl) ?_
      subst h2; exact ⟨by simp only [x_X6_come, if_neg c1, if_pos c4], by simp only [x_X6_come, if_neg c1, if_pos c4]⟩
    · refine AW_g hT cl_X6 hK 18 2 (pc' := 35) (lo' := [some (.ref 36), some (.int p0), some (.int p1), some (.int ((σ.2.1 38) ((σ.1 8) - 1).toNatClampNeg)), none]) (st' := [.ref 36, .int p1]) (hp' := wd σ) rfl ?_
      refine AW_callV hT hK 20 [] [.int p1] (m_X6_all l0 σ (hw)) cw_X6_all lk_X6_54 vi_X6_all rfl rfl rfl rfl rfl rfl (Nat.le_of_ble_eq_true rfl) (Nat.le_of_ble_eq_true rfl) (AW_k1 (fun v9 h8 => ?_))
      refine AW_g hT cl_X6 hK 21 3 (pc' := 41) (lo' := [some (.ref 36), some (.int p0), some (.int p1), some (.int ((σ.2.1 38) ((σ.1 8) - 1).toNatClampNeg)), none]) (st' := [.int (p1 &&& (v9 ^^^ (-1)))]) (hp' := wd σ) rfl ?_
      refine AW_if_ne hT hK 24 (tgt := 48) rfl rfl (fun c10 => ?_) (fun c10 => ?_)
      · refine AW_g hT cl_X6 hK 27 4 (pc' := 54) (lo' := [some (.ref 36), some (.int p0), some (.int p1), some (.int ((σ.2.1 38) ((σ.1 8) - 1).toNatClampNeg)), some (.int 0)]) (st' := [.int 0, .ref 36]) (hp' := wd σ) rfl ?_
        refine AW_if_ne hT hK 31 (tgt := 61) rfl rfl (fun c11 => absurd (by decide) c11) (fun _ => ?_)
        refine AW_g hT cl_X6 hK 32 1 (pc' := 58) (lo' := [some (.ref 36), some (.int p0), some (.int p1), some (.int ((σ.2.1 38) ((σ.1 8) - 1).toNatClampNeg)), some (.int 0)]) (st' := [.int 1, .ref 36]) (hp' := wd σ) rfl ?_
        refine AW_goto hT hK 33 (tgt := 75) rfl rfl ?_
        refine AW_callV hT hK 41 [.int 1] [] (m_X6_goes l0 σ 1 (hw)) cw_X6_goes lk_X6_51 vi_X6_goes rfl rfl rfl rfl rfl rfl (Nat.le_of_ble_eq_true rfl) (Nat.le_of_ble_eq_true rfl) (AW_kiw2 (goes_1 σ) ?_)
        refine AW_if_ne hT hK 42 (tgt := 83) rfl rfl (fun c13 => absurd (by decide) c13) (fun _ => ?_)
        refine AW_g hT cl_X6 hK 43 1 (pc' := 82) (lo' := [some (.ref 36), some (.int p0), some (.int p1), some (.int ((σ.2.1 38) ((σ.1 8) - 1).toNatClampNeg)), some (.int 0)]) (st' := [.int 0]) (hp' := wd (sF σ 9 1)) rfl ?_
        refine AW_iret hT hE 44 rfl rfl rfl (Nat.le_of_ble_eq_true rfl) (Nat.le_of_ble_eq_true rfl) ?_
        subst h8; subst h2; exact ⟨by simp only [x_X6_come, if_neg c1, if_neg c4, if_neg c10], by simp only [x_X6_come, if_neg c1, if_neg c4, if_neg c10]⟩
      · refine AW_g hT cl_X6 hK 25 1 (pc' := 45) (lo' := [some (.ref 36), some (.int p0), some (.int p1), some (.int ((σ.2.1 38) ((σ.1 8) - 1).toNatClampNeg)), none]) (st' := [.int 1]) (hp' := wd σ) rfl ?_
        refine AW_goto hT hK 26 (tgt := 49) rfl rfl ?_
        refine AW_g hT cl_X6 hK 28 3 (pc' := 54) (lo' := [some (.ref 36), some (.int p0), some (.int p1), some (.int ((σ.2.1 38) ((σ.1 8) - 1).toNatClampNeg)), some (.int 1)]) (st' := [.int 1, .ref 36]) (hp' := wd σ) rfl ?_
        refine AW_if_ne hT hK 31 (tgt := 61) rfl rfl (fun _ => ?_) (fun c14 => absurd c14 (by decide))
        refine AW_g hT cl_X6 hK 34 3 (pc' := 67) (lo' := [some (.ref 36), some (.int p0), some (.int p1), some (.int ((σ.2.1 38) ((σ.1 8) - 1).toNatClampNeg)), some (.int 1)]) (st' := [.int 12, .int (σ.1 8), .ref 36]) (hp' := wd σ) rfl ?_
        refine AW_icmp_ne hT hK 37 (tgt := 74) rfl rfl (fun c15 => ?_) (fun c15 => ?_)
        · refine AW_g hT cl_X6 hK 40 1 (pc' := 75) (lo' := [some (.ref 36), some (.int p0), some (.int p1), some (.int ((σ.2.1 38) ((σ.1 8) - 1).toNatClampNeg)), some (.int 1)]) (st' := [.int 0, .ref 36]) (hp' := wd σ) rfl ?_
          refine AW_callV hT hK 41 [.int 0] [] (m_X6_goes l0 σ 0 (hw)) cw_X6_goes lk_X6_51 vi_X6_goes rfl rfl rfl rfl rfl rfl (Nat.le_of_ble_eq_true rfl) (Nat.le_of_ble_eq_true rfl) (AW_kiw2 (goes_0 σ) ?_)
          refine AW_if_ne hT hK 42 (tgt := 83) rfl rfl (fun _ => ?_) (fun c17 => absurd c17 (by decide))
          refine AW_g hT cl_X6 hK 45 5 (pc' := 92) (lo' := [some (.ref 36), some (.int p0), some (.int p1), some (.int ((σ.2.1 38) ((σ.1 8) - 1).toNatClampNeg)), some (.int 1)]) (st' := [.int p0, .int ((sF σ 9 0).1 8), .ref 38]) (hp' := wd (sF σ 9 0)) rfl ?_
          refine AW_iastvx hT hK 50 rfl (n := 12) (f := ((sF σ 9 0).2.1 38)) rfl (az_ob_c2 hw c15) ?_
          refine AW_to (hp' := wd (sG (sF σ 9 0) 38 (va_up ((sF σ 9 0).2.1 38) ((sF σ 9 0).1 8).toNatClampNeg p0))) rfl rfl (wd_38 _ _) ?_
          refine AW_g hT cl_X6 hK 51 5 (pc' := 102) (lo' := [some (.ref 36), some (.int p0), some (.int p1), some (.int ((σ.2.1 38) ((σ.1 8) - 1).toNatClampNeg)), some (.int 1)]) (st' := [.int p1, .int ((sG (sF σ 9 0) 38 (va_up ((sF σ 9 0).2.1 38) ((sF σ 9 0).1 8).toNatClampNeg p0)).1 8), .ref 39]) (hp' := wd (sG (sF σ 9 0) 38 (va_up ((sF σ 9 0).2.1 38) ((sF σ 9 0).1 8).toNatClampNeg p0))) rfl ?_
          refine AW_iastvx hT hK 56 rfl (n := 12) (f := ((sG (sF σ 9 0) 38 (va_up ((sF σ 9 0).2.1 38) ((sF σ 9 0).1 8).toNatClampNeg p0)).2.1 39)) rfl (az_ob_c2 hw c15) ?_
          refine AW_to (hp' := wd (sG (sG (sF σ 9 0) 38 (va_up ((sF σ 9 0).2.1 38) ((sF σ 9 0).1 8).toNatClampNeg p0)) 39 (va_up ((sG (sF σ 9 0) 38 (va_up ((sF σ 9 0).2.1 38) ((sF σ 9 0).1 8).toNatClampNeg p0)).2.1 39) ((sG (sF σ 9 0) 38 (va_up ((sF σ 9 0).2.1 38) ((sF σ 9 0).1 8).toNatClampNeg p0)).1 8).toNatClampNeg p1))) rfl rfl (wd_39 _ _) ?_
          refine AW_g hT cl_X6 hK 57 5 (pc' := 112) (lo' := [some (.ref 36), some (.int p0), some (.int p1), some (.int ((σ.2.1 38) ((σ.1 8) - 1).toNatClampNeg)), some (.int 1)]) (st' := [.int 1, .int ((sG (sG (sF σ 9 0) 38 (va_up ((sF σ 9 0).2.1 38) ((sF σ 9 0).1 8).toNatClampNeg p0)) 39 (va_up ((sG (sF σ 9 0) 38 (va_up ((sF σ 9 0).2.1 38) ((sF σ 9 0).1 8).toNatClampNeg p0)).2.1 39) ((sG (sF σ 9 0) 38 (va_up ((sF σ 9 0).2.1 38) ((sF σ 9 0).1 8).toNatClampNeg p0)).1 8).toNatClampNeg p1)).1 8), .ref 37]) (hp' := wd (sG (sG (sF σ 9 0) 38 (va_up ((sF σ 9 0).2.1 38) ((sF σ 9 0).1 8).toNatClampNeg p0)) 39 (va_up ((sG (sF σ 9 0) 38 (va_up ((sF σ 9 0).2.1 38) ((sF σ 9 0).1 8).toNatClampNeg p0)).2.1 39) ((sG (sF σ 9 0) 38 (va_up ((sF σ 9 0).2.1 38) ((sF σ 9 0).1 8).toNatClampNeg p0)).1 8).toNatClampNeg p1))) rfl ?_
          refine AW_zastvx hT hK 62 rfl (n := 12) (f := ((sG (sG (sF σ 9 0) 38 (va_up ((sF σ 9 0).2.1 38) ((sF σ 9 0).1 8).toNatClampNeg p0)) 39 (va_up ((sG (sF σ 9 0) 38 (va_up ((sF σ 9 0).2.1 38) ((sF σ 9 0).1 8).toNatClampNeg p0)).2.1 39) ((sG (sF σ 9 0) 38 (va_up ((sF σ 9 0).2.1 38) ((sF σ 9 0).1 8).toNatClampNeg p0)).1 8).toNatClampNeg p1)).2.1 37)) rfl (az_ob_c2 hw c15) rfl ?_
          refine AW_to (hp' := wd (sG (sG (sG (sF σ 9 0) 38 (va_up ((sF σ 9 0).2.1 38) ((sF σ 9 0).1 8).toNatClampNeg p0)) 39 (va_up ((sG (sF σ 9 0) 38 (va_up ((sF σ 9 0).2.1 38) ((sF σ 9 0).1 8).toNatClampNeg p0)).2.1 39) ((sG (sF σ 9 0) 38 (va_up ((sF σ 9 0).2.1 38) ((sF σ 9 0).1 8).toNatClampNeg p0)).1 8).toNatClampNeg p1)) 37 (va_up ((sG (sG (sF σ 9 0) 38 (va_up ((sF σ 9 0).2.1 38) ((sF σ 9 0).1 8).toNatClampNeg p0)) 39 (va_up ((sG (sF σ 9 0) 38 (va_up ((sF σ 9 0).2.1 38) ((sF σ 9 0).1 8).toNatClampNeg p0)).2.1 39) ((sG (sF σ 9 0) 38 (va_up ((sF σ 9 0).2.1 38) ((sF σ 9 0).1 8).toNatClampNeg p0)).1 8).toNatClampNeg p1)).2.1 37) ((sG (sG (sF σ 9 0) 38 (va_up ((sF σ 9 0).2.1 38) ((sF σ 9 0).1 8).toNatClampNeg p0)) 39 (va_up ((sG (sF σ 9 0) 38 (va_up ((sF σ 9 0).2.1 38) ((sF σ 9 0).1 8).toNatClampNeg p0)).2.1 39) ((sG (sF σ 9 0) 38 (va_up ((sF σ 9 0).2.1 38) ((sF σ 9 0).1 8).toNatClampNeg p0)).1 8).toNatClampNeg p1)).1 8).toNatClampNeg 1))) rfl rfl (wd_37 _ _) ?_
          refine AW_g hT cl_X6 hK 63 5 (pc' := 120) (lo' := [some (.ref 36), some (.int p0), some (.int p1), some (.int ((σ.2.1 38) ((σ.1 8) - 1).toNatClampNeg)), some (.int 1)]) (st' := [.int (((sG (sG (sG (sF σ 9 0) 38 (va_up ((sF σ 9 0).2.1 38) ((sF σ 9 0).1 8).toNatClampNeg p0)) 39 (va_up ((sG (sF σ 9 0) 38 (va_up ((sF σ 9 0).2.1 38) ((sF σ 9 0).1 8).toNatClampNeg p0)).2.1 39) ((sG (sF σ 9 0) 38 (va_up ((sF σ 9 0).2.1 38) ((sF σ 9 0).1 8).toNatClampNeg p0)).1 8).toNatClampNeg p1)) 37 (va_up ((sG (sG (sF σ 9 0) 38 (va_up ((sF σ 9 0).2.1 38) ((sF σ 9 0).1 8).toNatClampNeg p0)) 39 (va_up ((sG (sF σ 9 0) 38 (va_up ((sF σ 9 0).2.1 38) ((sF σ 9 0).1 8).toNatClampNeg p0)).2.1 39) ((sG (sF σ 9 0) 38 (va_up ((sF σ 9 0).2.1 38) ((sF σ 9 0).1 8).toNatClampNeg p0)).1 8).toNatClampNeg p1)).2.1 37) ((sG (sG (sF σ 9 0) 38 (va_up ((sF σ 9 0).2.1 38) ((sF σ 9 0).1 8).toNatClampNeg p0)) 39 (va_up ((sG (sF σ 9 0) 38 (va_up ((sF σ 9 0).2.1 38) ((sF σ 9 0).1 8).toNatClampNeg p0)).2.1 39) ((sG (sF σ 9 0) 38 (va_up ((sF σ 9 0).2.1 38) ((sF σ 9 0).1 8).toNatClampNeg p0)).1 8).toNatClampNeg p1)).1 8).toNatClampNeg 1)).1 8) + 1), .ref 36]) (hp' := wd (sG (sG (sG (sF σ 9 0) 38 (va_up ((sF σ 9 0).2.1 38) ((sF σ 9 0).1 8).toNatClampNeg p0)) 39 (va_up ((sG (sF σ 9 0) 38 (va_up ((sF σ 9 0).2.1 38) ((sF σ 9 0).1 8).toNatClampNeg p0)).2.1 39) ((sG (sF σ 9 0) 38 (va_up ((sF σ 9 0).2.1 38) ((sF σ 9 0).1 8).toNatClampNeg p0)).1 8).toNatClampNeg p1)) 37 (va_up ((sG (sG (sF σ 9 0) 38 (va_up ((sF σ 9 0).2.1 38) ((sF σ 9 0).1 8).toNatClampNeg p0)) 39 (va_up ((sG (sF σ 9 0) 38 (va_up ((sF σ 9 0).2.1 38) ((sF σ 9 0).1 8).toNatClampNeg p0)).2.1 39) ((sG (sF σ 9 0) 38 (va_up ((sF σ 9 0).2.1 38) ((sF σ 9 0).1 8).toNatClampNeg p0)).1 8).toNatClampNeg p1)).2.1 37) ((sG (sG (sF σ 9 0) 38 (va_up ((sF σ 9 0).2.1 38) ((sF σ 9 0).1 8).toNatClampNeg p0)) 39 (va_up ((sG (sF σ 9 0) 38 (va_up ((sF σ 9 0).2.1 38) ((sF σ 9 0).1 8).toNatClampNeg p0)).2.1 39) ((sG (sF σ 9 0) 38 (va_up ((sF σ 9 0).2.1 38) ((sF σ 9 0).1 8).toNatClampNeg p0)).1 8).toNatClampNeg p1)).1 8).toNatClampNeg 1))) rfl ?_
          refine AW_topi (fun u18 h19 => ?_)
          refine AW_g hT cl_X6 hK 68 5 (pc' := 129) (lo' := [some (.ref 36), some (.int p0), some (.int p1), some (.int ((σ.2.1 38) ((σ.1 8) - 1).toNatClampNeg)), some (.int 1)]) (st' := [.int (((sF (sG (sG (sG (sF σ 9 0) 38 (va_up ((sF σ 9 0).2.1 38) ((sF σ 9 0).1 8).toNatClampNeg p0)) 39 (va_up ((sG (sF σ 9 0) 38 (va_up ((sF σ 9 0).2.1 38) ((sF σ 9 0).1 8).toNatClampNeg p0)).2.1 39) ((sG (sF σ 9 0) 38 (va_up ((sF σ 9 0).2.1 38) ((sF σ 9 0).1 8).toNatClampNeg p0)).1 8).toNatClampNeg p1)) 37 (va_up ((sG (sG (sF σ 9 0) 38 (va_up ((sF σ 9 0).2.1 38) ((sF σ 9 0).1 8).toNatClampNeg p0)) 39 (va_up ((sG (sF σ 9 0) 38 (va_up ((sF σ 9 0).2.1 38) ((sF σ 9 0).1 8).toNatClampNeg p0)).2.1 39) ((sG (sF σ 9 0) 38 (va_up ((sF σ 9 0).2.1 38) ((sF σ 9 0).1 8).toNatClampNeg p0)).1 8).toNatClampNeg p1)).2.1 37) ((sG (sG (sF σ 9 0) 38 (va_up ((sF σ 9 0).2.1 38) ((sF σ 9 0).1 8).toNatClampNeg p0)) 39 (va_up ((sG (sF σ 9 0) 38 (va_up ((sF σ 9 0).2.1 38) ((sF σ 9 0).1 8).toNatClampNeg p0)).2.1 39) ((sG (sF σ 9 0) 38 (va_up ((sF σ 9 0).2.1 38) ((sF σ 9 0).1 8).toNatClampNeg p0)).1 8).toNatClampNeg p1)).1 8).toNatClampNeg 1)) 8 u18).1 8) - 1)]) (hp' := wd (sF (sG (sG (sG (sF σ 9 0) 38 (va_up ((sF σ 9 0).2.1 38) ((sF σ 9 0).1 8).toNatClampNeg p0)) 39 (va_up ((sG (sF σ 9 0) 38 (va_up ((sF σ 9 0).2.1 38) ((sF σ 9 0).1 8).toNatClampNeg p0)).2.1 39) ((sG (sF σ 9 0) 38 (va_up ((sF σ 9 0).2.1 38) ((sF σ 9 0).1 8).toNatClampNeg p0)).1 8).toNatClampNeg p1)) 37 (va_up ((sG (sG (sF σ 9 0) 38 (va_up ((sF σ 9 0).2.1 38) ((sF σ 9 0).1 8).toNatClampNeg p0)) 39 (va_up ((sG (sF σ 9 0) 38 (va_up ((sF σ 9 0).2.1 38) ((sF σ 9 0).1 8).toNatClampNeg p0)).2.1 39) ((sG (sF σ 9 0) 38 (va_up ((sF σ 9 0).2.1 38) ((sF σ 9 0).1 8).toNatClampNeg p0)).1 8).toNatClampNeg p1)).2.1 37) ((sG (sG (sF σ 9 0) 38 (va_up ((sF σ 9 0).2.1 38) ((sF σ 9 0).1 8).toNatClampNeg p0)) 39 (va_up ((sG (sF σ 9 0) 38 (va_up ((sF σ 9 0).2.1 38) ((sF σ 9 0).1 8).toNatClampNeg p0)).2.1 39) ((sG (sF σ 9 0) 38 (va_up ((sF σ 9 0).2.1 38) ((sF σ 9 0).1 8).toNatClampNeg p0)).1 8).toNatClampNeg p1)).1 8).toNatClampNeg 1)) 8 u18)) rfl ?_
          refine AW_iret hT hE 73 rfl rfl rfl (Nat.le_of_ble_eq_true rfl) (Nat.le_of_ble_eq_true rfl) ?_
          subst h19; subst h8; subst h2; exact ⟨by simp only [x_X6_come, if_neg c1, if_neg c4, if_pos c10, if_neg c15], by simp only [x_X6_come, if_neg c1, if_neg c4, if_pos c10, if_neg c15]⟩
        · refine AW_g hT cl_X6 hK 38 1 (pc' := 71) (lo' := [some (.ref 36), some (.int p0), some (.int p1), some (.int ((σ.2.1 38) ((σ.1 8) - 1).toNatClampNeg)), some (.int 1)]) (st' := [.int 2, .ref 36]) (hp' := wd σ) rfl ?_
          refine AW_goto hT hK 39 (tgt := 75) rfl rfl ?_
          refine AW_callV hT hK 41 [.int 2] [] (m_X6_goes l0 σ 2 (hw)) cw_X6_goes lk_X6_51 vi_X6_goes rfl rfl rfl rfl rfl rfl (Nat.le_of_ble_eq_true rfl) (Nat.le_of_ble_eq_true rfl) (AW_kiw2 (goes_2 σ) ?_)
          refine AW_if_ne hT hK 42 (tgt := 83) rfl rfl (fun c21 => absurd (by decide) c21) (fun _ => ?_)
          refine AW_g hT cl_X6 hK 43 1 (pc' := 82) (lo' := [some (.ref 36), some (.int p0), some (.int p1), some (.int ((σ.2.1 38) ((σ.1 8) - 1).toNatClampNeg)), some (.int 1)]) (st' := [.int 0]) (hp' := wd (sF σ 9 2)) rfl ?_
          refine AW_iret hT hE 44 rfl rfl rfl (Nat.le_of_ble_eq_true rfl) (Nat.le_of_ble_eq_true rfl) ?_
          subst h8; subst h2; exact ⟨by simp only [x_X6_come, if_neg c1, if_neg c4, if_pos c10, if_pos c15], by simp only [x_X6_come, if_neg c1, if_neg c4, if_pos c10, if_pos c15]⟩
  · refine AW_g hT cl_X6 hK 3 1 (pc' := 8) (lo' := [some (.ref 36), some (.int p0), some (.int p1), none, none]) (st' := [.int 0]) (hp' := wd σ) rfl ?_
    refine AW_goto hT hK 4 (tgt := 22) rfl rfl ?_
    refine AW_g hT cl_X6 hK 12 4 (pc' := 27) (lo' := [some (.ref 36), some (.int p0), some (.int p1), some (.int 0), none]) (st' := [.int 99, .int 0, .int p0]) (hp' := wd σ) rfl ?_
    refine AW_callS hT hK 16 [.int p0, .int 0, .int 99] [] (m_X6_isIn l0 σ p0 0 99 (hw)) cw_X6_isIn lk_X6_43 sm_X6_isIn rfl rfl rfl rfl (Nat.le_of_ble_eq_true rfl) (Nat.le_of_ble_eq_true rfl) (AW_k1 (fun v23 h22 => ?_))
    refine AW_if_eq hT hK 17 (tgt := 48) rfl rfl (fun c24 => ?_) (fun c24 => ?_)
    · refine AW_g hT cl_X6 hK 27 4 (pc' := 54) (lo' := [some (.ref 36), some (.int p0), some (.int p1), some (.int 0), some (.int 0)]) (st' := [.int 0, .ref 36]) (hp' := wd σ) rfl ?_
      refine AW_if_ne hT hK 31 (tgt := 61) rfl rfl (fun c25 => absurd (by decide) c25) (fun _ => ?_)
      refine AW_g hT cl_X6 hK 32 1 (pc' := 58) (lo' := [some (.ref 36), some (.int p0), some (.int p1), some (.int 0), some (.int 0)]) (st' := [.int 1, .ref 36]) (hp' := wd σ) rfl ?_
      refine AW_goto hT hK 33 (tgt := 75) rfl rfl ?_
      refine AW_callV hT hK 41 [.int 1] [] (m_X6_goes l0 σ 1 (hw)) cw_X6_goes lk_X6_51 vi_X6_goes rfl rfl rfl rfl rfl rfl (Nat.le_of_ble_eq_true rfl) (Nat.le_of_ble_eq_true rfl) (AW_kiw2 (goes_1 σ) ?_)
      refine AW_if_ne hT hK 42 (tgt := 83) rfl rfl (fun c27 => absurd (by decide) c27) (fun _ => ?_)
      refine AW_g hT cl_X6 hK 43 1 (pc' := 82) (lo' := [some (.ref 36), some (.int p0), some (.int p1), some (.int 0), some (.int 0)]) (st' := [.int 0]) (hp' := wd (sF σ 9 1)) rfl ?_
      refine AW_iret hT hE 44 rfl rfl rfl (Nat.le_of_ble_eq_true rfl) (Nat.le_of_ble_eq_true rfl) ?_
      subst h22; exact ⟨by simp only [x_X6_come, if_pos c1, if_pos c24], by simp only [x_X6_come, if_pos c1, if_pos c24]⟩
    · refine AW_g hT cl_X6 hK 18 2 (pc' := 35) (lo' := [some (.ref 36), some (.int p0), some (.int p1), some (.int 0), none]) (st' := [.ref 36, .int p1]) (hp' := wd σ) rfl ?_
      refine AW_callV hT hK 20 [] [.int p1] (m_X6_all l0 σ (hw)) cw_X6_all lk_X6_54 vi_X6_all rfl rfl rfl rfl rfl rfl (Nat.le_of_ble_eq_true rfl) (Nat.le_of_ble_eq_true rfl) (AW_k1 (fun v29 h28 => ?_))
      refine AW_g hT cl_X6 hK 21 3 (pc' := 41) (lo' := [some (.ref 36), some (.int p0), some (.int p1), some (.int 0), none]) (st' := [.int (p1 &&& (v29 ^^^ (-1)))]) (hp' := wd σ) rfl ?_
      refine AW_if_ne hT hK 24 (tgt := 48) rfl rfl (fun c30 => ?_) (fun c30 => ?_)
      · refine AW_g hT cl_X6 hK 27 4 (pc' := 54) (lo' := [some (.ref 36), some (.int p0), some (.int p1), some (.int 0), some (.int 0)]) (st' := [.int 0, .ref 36]) (hp' := wd σ) rfl ?_
        refine AW_if_ne hT hK 31 (tgt := 61) rfl rfl (fun c31 => absurd (by decide) c31) (fun _ => ?_)
        refine AW_g hT cl_X6 hK 32 1 (pc' := 58) (lo' := [some (.ref 36), some (.int p0), some (.int p1), some (.int 0), some (.int 0)]) (st' := [.int 1, .ref 36]) (hp' := wd σ) rfl ?_
        refine AW_goto hT hK 33 (tgt := 75) rfl rfl ?_
        refine AW_callV hT hK 41 [.int 1] [] (m_X6_goes l0 σ 1 (hw)) cw_X6_goes lk_X6_51 vi_X6_goes rfl rfl rfl rfl rfl rfl (Nat.le_of_ble_eq_true rfl) (Nat.le_of_ble_eq_true rfl) (AW_kiw2 (goes_1 σ) ?_)
        refine AW_if_ne hT hK 42 (tgt := 83) rfl rfl (fun c33 => absurd (by decide) c33) (fun _ => ?_)
        refine AW_g hT cl_X6 hK 43 1 (pc' := 82) (lo' := [some (.ref 36), some (.int p0), some (.int p1), some (.int 0), some (.int 0)]) (st' := [.int 0]) (hp' := wd (sF σ 9 1)) rfl ?_
        refine AW_iret hT hE 44 rfl rfl rfl (Nat.le_of_ble_eq_true rfl) (Nat.le_of_ble_eq_true rfl) ?_
        subst h28; subst h22; exact ⟨by simp only [x_X6_come, if_pos c1, if_neg c24, if_neg c30], by simp only [x_X6_come, if_pos c1, if_neg c24, if_neg c30]⟩
      · refine AW_g hT cl_X6 hK 25 1 (pc' := 45) (lo' := [some (.ref 36), some (.int p0), some (.int p1), some (.int 0), none]) (st' := [.int 1]) (hp' := wd σ) rfl ?_
        refine AW_goto hT hK 26 (tgt := 49) rfl rfl ?_
        refine AW_g hT cl_X6 hK 28 3 (pc' := 54) (lo' := [some (.ref 36), some (.int p0), some (.int p1), some (.int 0), some (.int 1)]) (st' := [.int 1, .ref 36]) (hp' := wd σ) rfl ?_
        refine AW_if_ne hT hK 31 (tgt := 61) rfl rfl (fun _ => ?_) (fun c34 => absurd c34 (by decide))
        refine AW_g hT cl_X6 hK 34 3 (pc' := 67) (lo' := [some (.ref 36), some (.int p0), some (.int p1), some (.int 0), some (.int 1)]) (st' := [.int 12, .int (σ.1 8), .ref 36]) (hp' := wd σ) rfl ?_
        refine AW_icmp_ne hT hK 37 (tgt := 74) rfl rfl (fun c35 => ?_) (fun c35 => ?_)
        · refine AW_g hT cl_X6 hK 40 1 (pc' := 75) (lo' := [some (.ref 36), some (.int p0), some (.int p1), some (.int 0), some (.int 1)]) (st' := [.int 0, .ref 36]) (hp' := wd σ) rfl ?_
          refine AW_callV hT hK 41 [.int 0] [] (m_X6_goes l0 σ 0 (hw)) cw_X6_goes lk_X6_51 vi_X6_goes rfl rfl rfl rfl rfl rfl (Nat.le_of_ble_eq_true rfl) (Nat.le_of_ble_eq_true rfl) (AW_kiw2 (goes_0 σ) ?_)
          refine AW_if_ne hT hK 42 (tgt := 83) rfl rfl (fun _ => ?_) (fun c37 => absurd c37 (by decide))
          refine AW_g hT cl_X6 hK 45 5 (pc' := 92) (lo' := [some (.ref 36), some (.int p0), some (.int p1), some (.int 0), some (.int 1)]) (st' := [.int p0, .int ((sF σ 9 0).1 8), .ref 38]) (hp' := wd (sF σ 9 0)) rfl ?_
          refine AW_iastvx hT hK 50 rfl (n := 12) (f := ((sF σ 9 0).2.1 38)) rfl (az_ob_c2 hw c35) ?_
          refine AW_to (hp' := wd (sG (sF σ 9 0) 38 (va_up ((sF σ 9 0).2.1 38) ((sF σ 9 0).1 8).toNatClampNeg p0))) rfl rfl (wd_38 _ _) ?_
          refine AW_g hT cl_X6 hK 51 5 (pc' := 102) (lo' := [some (.ref 36), some (.int p0), some (.int p1), some (.int 0), some (.int 1)]) (st' := [.int p1, .int ((sG (sF σ 9 0) 38 (va_up ((sF σ 9 0).2.1 38) ((sF σ 9 0).1 8).toNatClampNeg p0)).1 8), .ref 39]) (hp' := wd (sG (sF σ 9 0) 38 (va_up ((sF σ 9 0).2.1 38) ((sF σ 9 0).1 8).toNatClampNeg p0))) rfl ?_
          refine AW_iastvx hT hK 56 rfl (n := 12) (f := ((sG (sF σ 9 0) 38 (va_up ((sF σ 9 0).2.1 38) ((sF σ 9 0).1 8).toNatClampNeg p0)).2.1 39)) rfl (az_ob_c2 hw c35) ?_
          refine AW_to (hp' := wd (sG (sG (sF σ 9 0) 38 (va_up ((sF σ 9 0).2.1 38) ((sF σ 9 0).1 8).toNatClampNeg p0)) 39 (va_up ((sG (sF σ 9 0) 38 (va_up ((sF σ 9 0).2.1 38) ((sF σ 9 0).1 8).toNatClampNeg p0)).2.1 39) ((sG (sF σ 9 0) 38 (va_up ((sF σ 9 0).2.1 38) ((sF σ 9 0).1 8).toNatClampNeg p0)).1 8).toNatClampNeg p1))) rfl rfl (wd_39 _ _) ?_
          refine AW_g hT cl_X6 hK 57 5 (pc' := 112) (lo' := [some (.ref 36), some (.int p0), some (.int p1), some (.int 0), some (.int 1)]) (st' := [.int 1, .int ((sG (sG (sF σ 9 0) 38 (va_up ((sF σ 9 0).2.1 38) ((sF σ 9 0).1 8).toNatClampNeg p0)) 39 (va_up ((sG (sF σ 9 0) 38 (va_up ((sF σ 9 0).2.1 38) ((sF σ 9 0).1 8).toNatClampNeg p0)).2.1 39) ((sG (sF σ 9 0) 38 (va_up ((sF σ 9 0).2.1 38) ((sF σ 9 0).1 8).toNatClampNeg p0)).1 8).toNatClampNeg p1)).1 8), .ref 37]) (hp' := wd (sG (sG (sF σ 9 0) 38 (va_up ((sF σ 9 0).2.1 38) ((sF σ 9 0).1 8).toNatClampNeg p0)) 39 (va_up ((sG (sF σ 9 0) 38 (va_up ((sF σ 9 0).2.1 38) ((sF σ 9 0).1 8).toNatClampNeg p0)).2.1 39) ((sG (sF σ 9 0) 38 (va_up ((sF σ 9 0).2.1 38) ((sF σ 9 0).1 8).toNatClampNeg p0)).1 8).toNatClampNeg p1))) rfl ?_
          refine AW_zastvx hT hK 62 rfl (n := 12) (f := ((sG (sG (sF σ 9 0) 38 (va_up ((sF σ 9 0).2.1 38) ((sF σ 9 0).1 8).toNatClampNeg p0)) 39 (va_up ((sG (sF σ 9 0) 38 (va_up ((sF σ 9 0).2.1 38) ((sF σ 9 0).1 8).toNatClampNeg p0)).2.1 39) ((sG (sF σ 9 0) 38 (va_up ((sF σ 9 0).2.1 38) ((sF σ 9 0).1 8).toNatClampNeg p0)).1 8).toNatClampNeg p1)).2.1 37)) rfl (az_ob_c2 hw c35) rfl ?_
          refine AW_to (hp' := wd (sG (sG (sG (sF σ 9 0) 38 (va_up ((sF σ 9 0).2.1 38) ((sF σ 9 0).1 8).toNatClampNeg p0)) 39 (va_up ((sG (sF σ 9 0) 38 (va_up ((sF σ 9 0).2.1 38) ((sF σ 9 0).1 8).toNatClampNeg p0)).2.1 39) ((sG (sF σ 9 0) 38 (va_up ((sF σ 9 0).2.1 38) ((sF σ 9 0).1 8).toNatClampNeg p0)).1 8).toNatClampNeg p1)) 37 (va_up ((sG (sG (sF σ 9 0) 38 (va_up ((sF σ 9 0).2.1 38) ((sF σ 9 0).1 8).toNatClampNeg p0)) 39 (va_up ((sG (sF σ 9 0) 38 (va_up ((sF σ 9 0).2.1 38) ((sF σ 9 0).1 8).toNatClampNeg p0)).2.1 39) ((sG (sF σ 9 0) 38 (va_up ((sF σ 9 0).2.1 38) ((sF σ 9 0).1 8).toNatClampNeg p0)).1 8).toNatClampNeg p1)).2.1 37) ((sG (sG (sF σ 9 0) 38 (va_up ((sF σ 9 0).2.1 38) ((sF σ 9 0).1 8).toNatClampNeg p0)) 39 (va_up ((sG (sF σ 9 0) 38 (va_up ((sF σ 9 0).2.1 38) ((sF σ 9 0).1 8).toNatClampNeg p0)).2.1 39) ((sG (sF σ 9 0) 38 (va_up ((sF σ 9 0).2.1 38) ((sF σ 9 0).1 8).toNatClampNeg p0)).1 8).toNatClampNeg p1)).1 8).toNatClampNeg 1))) rfl rfl (wd_37 _ _) ?_
          refine AW_g hT cl_X6 hK 63 5 (pc' := 120) (lo' := [some (.ref 36), some (.int p0), some (.int p1), some (.int 0), some (.int 1)]) (st' := [.int (((sG (sG (sG (sF σ 9 0) 38 (va_up ((sF σ 9 0).2.1 38) ((sF σ 9 0).1 8).toNatClampNeg p0)) 39 (va_up ((sG (sF σ 9 0) 38 (va_up ((sF σ 9 0).2.1 38) ((sF σ 9 0).1 8).toNatClampNeg p0)).2.1 39) ((sG (sF σ 9 0) 38 (va_up ((sF σ 9 0).2.1 38) ((sF σ 9 0).1 8).toNatClampNeg p0)).1 8).toNatClampNeg p1)) 37 (va_up ((sG (sG (sF σ 9 0) 38 (va_up ((sF σ 9 0).2.1 38) ((sF σ 9 0).1 8).toNatClampNeg p0)) 39 (va_up ((sG (sF σ 9 0) 38 (va_up ((sF σ 9 0).2.1 38) ((sF σ 9 0).1 8).toNatClampNeg p0)).2.1 39) ((sG (sF σ 9 0) 38 (va_up ((sF σ 9 0).2.1 38) ((sF σ 9 0).1 8).toNatClampNeg p0)).1 8).toNatClampNeg p1)).2.1 37) ((sG (sG (sF σ 9 0) 38 (va_up ((sF σ 9 0).2.1 38) ((sF σ 9 0).1 8).toNatClampNeg p0)) 39 (va_up ((sG (sF σ 9 0) 38 (va_up ((sF σ 9 0).2.1 38) ((sF σ 9 0).1 8).toNatClampNeg p0)).2.1 39) ((sG (sF σ 9 0) 38 (va_up ((sF σ 9 0).2.1 38) ((sF σ 9 0).1 8).toNatClampNeg p0)).1 8).toNatClampNeg p1)).1 8).toNatClampNeg 1)).1 8) + 1), .ref 36]) (hp' := wd (sG (sG (sG (sF σ 9 0) 38 (va_up ((sF σ 9 0).2.1 38) ((sF σ 9 0).1 8).toNatClampNeg p0)) 39 (va_up ((sG (sF σ 9 0) 38 (va_up ((sF σ 9 0).2.1 38) ((sF σ 9 0).1 8).toNatClampNeg p0)).2.1 39) ((sG (sF σ 9 0) 38 (va_up ((sF σ 9 0).2.1 38) ((sF σ 9 0).1 8).toNatClampNeg p0)).1 8).toNatClampNeg p1)) 37 (va_up ((sG (sG (sF σ 9 0) 38 (va_up ((sF σ 9 0).2.1 38) ((sF σ 9 0).1 8).toNatClampNeg p0)) 39 (va_up ((sG (sF σ 9 0) 38 (va_up ((sF σ 9 0).2.1 38) ((sF σ 9 0).1 8).toNatClampNeg p0)).2.1 39) ((sG (sF σ 9 0) 38 (va_up ((sF σ 9 0).2.1 38) ((sF σ 9 0).1 8).toNatClampNeg p0)).1 8).toNatClampNeg p1)).2.1 37) ((sG (sG (sF σ 9 0) 38 (va_up ((sF σ 9 0).2.1 38) ((sF σ 9 0).1 8).toNatClampNeg p0)) 39 (va_up ((sG (sF σ 9 0) 38 (va_up ((sF σ 9 0).2.1 38) ((sF σ 9 0).1 8).toNatClampNeg p0)).2.1 39) ((sG (sF σ 9 0) 38 (va_up ((sF σ 9 0).2.1 38) ((sF σ 9 0).1 8).toNatClampNeg p0)).1 8).toNatClampNeg p1)).1 8).toNatClampNeg 1))) rfl ?_
          refine AW_topi (fun u38 h39 => ?_)
          refine AW_g hT cl_X6 hK 68 5 (pc' := 129) (lo' := [some (.ref 36), some (.int p0), some (.int p1), some (.int 0), some (.int 1)]) (st' := [.int (((sF (sG (sG (sG (sF σ 9 0) 38 (va_up ((sF σ 9 0).2.1 38) ((sF σ 9 0).1 8).toNatClampNeg p0)) 39 (va_up ((sG (sF σ 9 0) 38 (va_up ((sF σ 9 0).2.1 38) ((sF σ 9 0).1 8).toNatClampNeg p0)).2.1 39) ((sG (sF σ 9 0) 38 (va_up ((sF σ 9 0).2.1 38) ((sF σ 9 0).1 8).toNatClampNeg p0)).1 8).toNatClampNeg p1)) 37 (va_up ((sG (sG (sF σ 9 0) 38 (va_up ((sF σ 9 0).2.1 38) ((sF σ 9 0).1 8).toNatClampNeg p0)) 39 (va_up ((sG (sF σ 9 0) 38 (va_up ((sF σ 9 0).2.1 38) ((sF σ 9 0).1 8).toNatClampNeg p0)).2.1 39) ((sG (sF σ 9 0) 38 (va_up ((sF σ 9 0).2.1 38) ((sF σ 9 0).1 8).toNatClampNeg p0)).1 8).toNatClampNeg p1)).2.1 37) ((sG (sG (sF σ 9 0) 38 (va_up ((sF σ 9 0).2.1 38) ((sF σ 9 0).1 8).toNatClampNeg p0)) 39 (va_up ((sG (sF σ 9 0) 38 (va_up ((sF σ 9 0).2.1 38) ((sF σ 9 0).1 8).toNatClampNeg p0)).2.1 39) ((sG (sF σ 9 0) 38 (va_up ((sF σ 9 0).2.1 38) ((sF σ 9 0).1 8).toNatClampNeg p0)).1 8).toNatClampNeg p1)).1 8).toNatClampNeg 1)) 8 u38).1 8) - 1)]) (hp' := wd (sF (sG (sG (sG (sF σ 9 0) 38 (va_up ((sF σ 9 0).2.1 38) ((sF σ 9 0).1 8).toNatClampNeg p0)) 39 (va_up ((sG (sF σ 9 0) 38 (va_up ((sF σ 9 0).2.1 38) ((sF σ 9 0).1 8).toNatClampNeg p0)).2.1 39) ((sG (sF σ 9 0) 38 (va_up ((sF σ 9 0).2.1 38) ((sF σ 9 0).1 8).toNatClampNeg p0)).1 8).toNatClampNeg p1)) 37 (va_up ((sG (sG (sF σ 9 0) 38 (va_up ((sF σ 9 0).2.1 38) ((sF σ 9 0).1 8).toNatClampNeg p0)) 39 (va_up ((sG (sF σ 9 0) 38 (va_up ((sF σ 9 0).2.1 38) ((sF σ 9 0).1 8).toNatClampNeg p0)).2.1 39) ((sG (sF σ 9 0) 38 (va_up ((sF σ 9 0).2.1 38) ((sF σ 9 0).1 8).toNatClampNeg p0)).1 8).toNatClampNeg p1)).2.1 37) ((sG (sG (sF σ 9 0) 38 (va_up ((sF σ 9 0).2.1 38) ((sF σ 9 0).1 8).toNatClampNeg p0)) 39 (va_up ((sG (sF σ 9 0) 38 (va_up ((sF σ 9 0).2.1 38) ((sF σ 9 0).1 8).toNatClampNeg p0)).2.1 39) ((sG (sF σ 9 0) 38 (va_up ((sF σ 9 0).2.1 38) ((sF σ 9 0).1 8).toNatClampNeg p0)).1 8).toNatClampNeg p1)).1 8).toNatClampNeg 1)) 8 u38)) rfl ?_
          refine AW_iret hT hE 73 rfl rfl rfl (Nat.le_of_ble_eq_true rfl) (Nat.le_of_ble_eq_true rfl) ?_
          subst h39; subst h28; subst h22; exact ⟨by simp only [x_X6_come, if_pos c1, if_neg c24, if_pos c30, if_neg c35], by simp only [x_X6_come, if_pos c1, if_neg c24, if_pos c30, if_neg c35]⟩
        · refine AW_g hT cl_X6 hK 38 1 (pc' := 71) (lo' := [some (.ref 36), some (.int p0), some (.int p1), some (.int 0), some (.int 1)]) (st' := [.int 2, .ref 36]) (hp' := wd σ) rfl ?_
          refine AW_goto hT hK 39 (tgt := 75) rfl rfl ?_
          refine AW_callV hT hK 41 [.int 2] [] (m_X6_goes l0 σ 2 (hw)) cw_X6_goes lk_X6_51 vi_X6_goes rfl rfl rfl rfl rfl rfl (Nat.le_of_ble_eq_true rfl) (Nat.le_of_ble_eq_true rfl) (AW_kiw2 (goes_2 σ) ?_)
          refine AW_if_ne hT hK 42 (tgt := 83) rfl rfl (fun c41 => absurd (by decide) c41) (fun _ => ?_)
          refine AW_g hT cl_X6 hK 43 1 (pc' := 82) (lo' := [some (.ref 36), some (.int p0), some (.int p1), some (.int 0), some (.int 1)]) (st' := [.int 0]) (hp' := wd (sF σ 9 2)) rfl ?_
          refine AW_iret hT hE 44 rfl rfl rfl (Nat.le_of_ble_eq_true rfl) (Nat.le_of_ble_eq_true rfl) ?_
          subst h28; subst h22; exact ⟨by simp only [x_X6_come, if_pos c1, if_neg c24, if_pos c30, if_pos c35], by simp only [x_X6_come, if_pos c1, if_neg c24, if_pos c30, if_pos c35]⟩
def b_X6_citers_4 (σ : az_S) (d1 : Int32) (i : Nat) (w2 : Int32) : Int32 :=
  if ((σ.2.1 37) i) = 0 then
    (w2 ||| 0)
  else
    if ((((σ.2.1 39) i) >>> (d1 &&& 31)) &&& 1) = 1 then
      (w2 ||| (1 <<< ((nI i) &&& 31)))
    else
      (w2 ||| 0)
set_option maxRecDepth 100000 in
set_option maxHeartbeats 4000000 in
theorem lp_X6_citers_4 {K : az_K} {l0 : Launch} (hT : az_Tb cX6_citers tb_X6_citers) (hK : az_OK K RX6 cX6_citers ({ frames := 0, cells := 0, slots := 0, locals := 0 } : Room) l0) (σ : az_S) (d1 : Int32) (hw : az_wf σ) :
    ∀ (n i : Nat) (w2 : Int32) (hi : i + n = nn σ) (kx : ∀ s' : Int32, az_it (fun ι s => b_X6_citers_4 σ d1 ι s) n i w2 = s' → AW K 0 0 51 [some (.ref 36), some (.int d1), some (.int s'), none] [] (wd σ)), AW K 0 0 4 [some (.ref 36), some (.int d1), some (.int w2), some (.int (nI i))] [] (wd σ) := by
  intro n
  induction n with
  | zero =>
    intro i w2 hi kx
    have hw2 := hw.2
    refine AW_g hT cl_X6 hK 4 3 (pc' := 9) (lo' := [some (.ref 36), some (.int d1), some (.int w2), some (.int (nI i))]) (st' := [.int (σ.1 8), .int (nI i)]) (hp' := wd σ) rfl ?_
    refine AW_icmp_ge hT hK 7 (tgt := 51) rfl rfl (fun c4 => ?_) (fun c4 => absurd (az_cn0 hw hi) c4)
    refine AW_msk [true, true, true, false] (lo' := [some (.ref 36), some (.int d1), some (.int w2), none]) rfl ?_
    exact kx w2 rfl
  | succ n ih =>
    intro i w2 hi kx
    have hw2 := hw.2
    refine AW_g hT cl_X6 hK 4 3 (pc' := 9) (lo' := [some (.ref 36), some (.int d1), some (.int w2), some (.int (nI i))]) (st' := [.int (σ.1 8), .int (nI i)]) (hp' := wd σ) rfl ?_
    refine AW_icmp_ge hT hK 7 (tgt := 51) rfl rfl (fun c1 => absurd c1 (az_cn1 hw hi)) (fun c1 => ?_)
    refine AW_g hT cl_X6 hK 8 4 (pc' := 18) (lo' := [some (.ref 36), some (.int d1), some (.int w2), some (.int (nI i))]) (st' := [.int (nI i), .ref 37, .int w2]) (hp' := wd σ) rfl ?_
    refine AW_zald hT hK 12 i rfl (n := 12) (f := (σ.2.1 37)) rfl rfl (by omega) (by decide) ?_
    refine AW_if_eq hT hK 13 (tgt := 42) rfl rfl (fun c2 => ?_) (fun c2 => ?_)
    · refine AW_g hT cl_X6 hK 28 4 (pc' := 48) (lo' := [some (.ref 36), some (.int d1), some (.int (w2 ||| 0)), some (.int ((nI i) + 1))]) (st' := []) (hp' := wd σ) rfl ?_
      refine AW_goto hT hK 32 (tgt := 4) rfl rfl ?_
      refine AW_to (lo' := [some (.ref 36), some (.int d1), some (.int (w2 ||| 0)), some (.int (nI (i + 1)))]) (by rw [nI_1]) rfl rfl ?_
      exact ih (i + 1) _ (by omega) (fun s' hs' => kx s' ((congrArg (az_it _ n (i + 1)) (by simp only [b_X6_citers_4, if_pos c2])).trans hs'))
    · refine AW_g hT cl_X6 hK 14 3 (pc' := 27) (lo' := [some (.ref 36), some (.int d1), some (.int w2), some (.int (nI i))]) (st' := [.int (nI i), .ref 39, .int w2]) (hp' := wd σ) rfl ?_
      refine AW_iald hT hK 17 i rfl (n := 12) (f := (σ.2.1 39)) rfl rfl (by omega) (by decide) ?_
      refine AW_g hT cl_X6 hK 18 5 (pc' := 33) (lo' := [some (.ref 36), some (.int d1), some (.int w2), some (.int (nI i))]) (st' := [.int 1, .int ((((σ.2.1 39) i) >>> (d1 &&& 31)) &&& 1), .int w2]) (hp' := wd σ) rfl ?_
      refine AW_icmp_ne hT hK 23 (tgt := 42) rfl rfl (fun c3 => ?_) (fun c3 => ?_)
      · refine AW_g hT cl_X6 hK 28 4 (pc' := 48) (lo' := [some (.ref 36), some (.int d1), some (.int (w2 ||| 0)), some (.int ((nI i) + 1))]) (st' := []) (hp' := wd σ) rfl ?_
        refine AW_goto hT hK 32 (tgt := 4) rfl rfl ?_
        refine AW_to (lo' := [some (.ref 36), some (.int d1), some (.int (w2 ||| 0)), some (.int (nI (i + 1)))]) (by rw [nI_1]) rfl rfl ?_
        exact ih (i + 1) _ (by omega) (fun s' hs' => kx s' ((congrArg (az_it _ n (i + 1)) (by simp only [b_X6_citers_4, if_neg c2, if_neg c3])).trans hs'))
      · refine AW_g hT cl_X6 hK 24 3 (pc' := 39) (lo' := [some (.ref 36), some (.int d1), some (.int w2), some (.int (nI i))]) (st' := [.int (1 <<< ((nI i) &&& 31)), .int w2]) (hp' := wd σ) rfl ?_
        refine AW_goto hT hK 27 (tgt := 43) rfl rfl ?_
        refine AW_g hT cl_X6 hK 29 3 (pc' := 48) (lo' := [some (.ref 36), some (.int d1), some (.int (w2 ||| (1 <<< ((nI i) &&& 31)))), some (.int ((nI i) + 1))]) (st' := []) (hp' := wd σ) rfl ?_
        refine AW_goto hT hK 32 (tgt := 4) rfl rfl ?_
        refine AW_to (lo' := [some (.ref 36), some (.int d1), some (.int (w2 ||| (1 <<< ((nI i) &&& 31)))), some (.int (nI (i + 1)))]) (by rw [nI_1]) rfl rfl ?_
        exact ih (i + 1) _ (by omega) (fun s' hs' => kx s' ((congrArg (az_it _ n (i + 1)) (by simp only [b_X6_citers_4, if_neg c2, if_pos c3])).trans hs'))
def x_X6_citers (σ : az_S) (p0 : Int32) : Int32 :=
  let s5 := az_it (fun ι s => b_X6_citers_4 σ p0 ι s) (nn σ) 0 0
  s5
set_option maxRecDepth 100000 in
set_option maxHeartbeats 4000000 in
theorem m_X6_citers (l0 : Launch) (σ : az_S) (p0 : Int32) (hw : az_wf σ) : AMet l0 yX6_citers cX6_citers 4 (some .int) ({ frames := 0, cells := 0, slots := 0, locals := 0 } : Room) false [.ref 36, .int p0] (wd σ) (fun r h => r = some (.int (x_X6_citers σ p0)) ∧ h = wd σ) := by
  refine AMet_of (by decide +kernel) (by simp [Value.category]) (Nat.le_of_ble_eq_true rfl) (fun K hK hct hG hE => ?_)
  have hT := tt_X6_citers
  have hw2 := hw.2
  refine AW_g hT cl_X6 hK 0 4 (pc' := 4) (lo' := [some (.ref 36), some (.int p0), some (.int 0), some (.int 0)]) (st' := []) (hp' := wd σ) rfl ?_
  refine AW_to (lo' := [some (.ref 36), some (.int p0), some (.int 0), some (.int (nI 0))]) (rfl) rfl rfl ?_
  refine lp_X6_citers_4 hT hK σ p0 hw (nn σ) 0 0 (by have h9 : nn σ = nn σ := rfl; omega) (fun s5 h6 => ?_)
  refine AW_g hT cl_X6 hK 33 1 (pc' := 52) (lo' := [some (.ref 36), some (.int p0), some (.int s5), none]) (st' := [.int s5]) (hp' := wd σ) rfl ?_
  refine AW_iret hT hE 34 rfl rfl rfl (Nat.le_of_ble_eq_true rfl) (Nat.le_of_ble_eq_true rfl) ?_
  subst h6; exact ⟨by simp only [x_X6_citers], rfl⟩
def b_X6_withdraw_35 (d1 : Int32) (d2 : Int32) (i : Nat) (σ : az_S) : az_S :=
  let u11 := (((σ.2.1 39) i) &&& ((1 <<< (d1 &&& 31)) ^^^ (-1)))
  (sG σ 39 (va_up (σ.2.1 39) i u11))
theorem kb_X6_withdraw_35 (d1 : Int32) (d2 : Int32) (i : Nat) (σ : az_S) : (b_X6_withdraw_35 d1 d2 i σ).1 8 = σ.1 8 := by
  unfold b_X6_withdraw_35
  (try dsimp only)
  (repeat' split) <;> first | (simp [az_k8F, az_k8G, az_k8L]; done) | rfl
theorem kp_X6_withdraw_35 (d1 : Int32) (d2 : Int32) (n i : Nat) (s : az_S) : (az_it (fun ι s => b_X6_withdraw_35 d1 d2 ι s) n i s).1 8 = s.1 8 := az_it_keep (fun s => s.1 8) (fun i s => kb_X6_withdraw_35 d1 d2 i s) n i s
set_option maxRecDepth 100000 in
set_option maxHeartbeats 4000000 in
theorem lp_X6_withdraw_35 {K : az_K} {l0 : Launch} (hT : az_Tb cX6_withdraw tb_X6_withdraw) (hK : az_OK K RX6 cX6_withdraw ({ frames := 3, cells := 0, slots := 0, locals := 64 } : Room) l0) (d1 : Int32) (d2 : Int32) :
    ∀ (n i : Nat) (σ : az_S) (hi : i + n = nn σ) (hw : az_wf σ) (kx : ∀ s' : az_S, az_it (fun ι s => b_X6_withdraw_35 d1 d2 ι s) n i σ = s' → AW K 0 0 63 [some (.ref 36), some (.int d1), some (.int d2), none] [] (wd s')), AW K 0 0 35 [some (.ref 36), some (.int d1), some (.int d2), some (.int (nI i))] [] (wd σ) := by
  intro n
  induction n with
  | zero =>
    intro i σ hi hw kx
    have hw2 := hw.2
    refine AW_g hT cl_X6 hK 23 3 (pc' := 40) (lo' := [some (.ref 36), some (.int d1), some (.int d2), some (.int (nI i))]) (st' := [.int (σ.1 8), .int (nI i)]) (hp' := wd σ) rfl ?_
    refine AW_icmp_ge hT hK 26 (tgt := 63) rfl rfl (fun c13 => ?_) (fun c13 => absurd (az_cn0 hw hi) c13)
    refine AW_msk [true, true, true, false] (lo' := [some (.ref 36), some (.int d1), some (.int d2), none]) rfl ?_
    exact kx σ rfl
  | succ n ih =>
    intro i σ hi hw kx
    have hw2 := hw.2
    refine AW_g hT cl_X6 hK 23 3 (pc' := 40) (lo' := [some (.ref 36), some (.int d1), some (.int d2), some (.int (nI i))]) (st' := [.int (σ.1 8), .int (nI i)]) (hp' := wd σ) rfl ?_
    refine AW_icmp_ge hT hK 26 (tgt := 63) rfl rfl (fun c10 => absurd c10 (az_cn1 hw hi)) (fun c10 => ?_)
    refine AW_g hT cl_X6 hK 27 4 (pc' := 49) (lo' := [some (.ref 36), some (.int d1), some (.int d2), some (.int (nI i))]) (st' := [.int (nI i), .ref 39, .int (nI i), .ref 39]) (hp' := wd σ) rfl ?_
    refine AW_iald hT hK 31 i rfl (n := 12) (f := (σ.2.1 39)) rfl rfl (by omega) (by decide) ?_
    refine AW_g hT cl_X6 hK 32 6 (pc' := 56) (lo' := [some (.ref 36), some (.int d1), some (.int d2), some (.int (nI i))]) (st' := [.int (((σ.2.1 39) i) &&& ((1 <<< (d1 &&& 31)) ^^^ (-1))), .int (nI i), .ref 39]) (hp' := wd σ) rfl ?_
    refine AW_topi (fun u11 h12 => ?_)
    refine AW_iastv hT hK 38 i rfl (n := 12) (f := (σ.2.1 39)) rfl rfl (by omega) (by decide) ?_
    refine AW_to (hp' := wd (sG σ 39 (va_up (σ.2.1 39) i u11))) rfl rfl (wd_39 _ _) ?_
    refine AW_g hT cl_X6 hK 39 1 (pc' := 60) (lo' := [some (.ref 36), some (.int d1), some (.int d2), some (.int ((nI i) + 1))]) (st' := []) (hp' := wd (sG σ 39 (va_up (σ.2.1 39) i u11))) rfl ?_
    refine AW_goto hT hK 40 (tgt := 35) rfl rfl ?_
    refine AW_to (lo' := [some (.ref 36), some (.int d1), some (.int d2), some (.int (nI (i + 1)))]) (by rw [nI_1]) rfl rfl ?_
    have h9 : nn (sG σ 39 (va_up (σ.2.1 39) i u11)) = nn σ := rfl
    subst h12; skip
    exact ih (i + 1) _ (by omega) hw (fun s' hs' => kx s' ((congrArg (az_it _ n (i + 1)) (by simp only [b_X6_withdraw_35])).trans hs'))
def x_X6_withdraw (σ : az_S) (p0 : Int32) : Int32 × az_S :=
  let q2 := x_X6_asks σ p0
  if q2.1 = 0 then
    (0, q2.2)
  else
    let v7 := x_X6_citers q2.2 p0
    let v9 := x_X6_count q2.2 v7
    let s14 := az_it (fun ι s => b_X6_withdraw_35 p0 v9 ι s) (nn σ) 0 (sG (sG q2.2 37 (va_up (q2.2.2.1 37) p0.toNatClampNeg 0)) 39 (va_up ((sG q2.2 37 (va_up (q2.2.2.1 37) p0.toNatClampNeg 0)).2.1 39) p0.toNatClampNeg 0))
    (v9, s14)
set_option maxRecDepth 100000 in
set_option maxHeartbeats 4000000 in
theorem m_X6_withdraw (l0 : Launch) (σ : az_S) (p0 : Int32) (hw : az_wf σ) : AMet l0 yX6_withdraw cX6_withdraw 4 (some .int) ({ frames := 3, cells := 0, slots := 0, locals := 64 } : Room) false [.ref 36, .int p0] (wd σ) (fun r h => r = some (.int (x_X6_withdraw σ p0).1) ∧ h = wd (x_X6_withdraw σ p0).2) := by
  refine AMet_of (by decide +kernel) (by simp [Value.category]) (Nat.le_of_ble_eq_true rfl) (fun K hK hct hG hE => ?_)
  have hT := tt_X6_withdraw
  have hw2 := hw.2
  refine AW_g hT cl_X6 hK 0 2 (pc' := 2) (lo' := [some (.ref 36), some (.int p0), none, none]) (st' := [.int p0, .ref 36]) (hp' := wd σ) rfl ?_
  refine AW_callV hT hK 2 [.int p0] [] (m_X6_asks l0 σ p0 (hw)) cw_X6_asks lk_X6_58 vi_X6_asks rfl rfl rfl rfl rfl rfl (Nat.le_of_ble_eq_true rfl) (Nat.le_of_ble_eq_true rfl) (AW_kiw (fun q2 h1 => ?_))
  have hn4 : nn q2.2 = nn σ := by rw [← h1]; exact (az_nn_of (kp_X6_asks _ _)).trans rfl
  have hw3 : az_wf q2.2 := by rw [← h1]; exact az_wf_of (kp_X6_asks _ _) hw
  refine AW_if_ne hT hK 3 (tgt := 10) rfl rfl (fun c5 => ?_) (fun c5 => ?_)
  · refine AW_g hT cl_X6 hK 6 2 (pc' := 12) (lo' := [some (.ref 36), some (.int p0), none, none]) (st' := [.int p0, .ref 36]) (hp' := wd q2.2) rfl ?_
    refine AW_callV hT hK 8 [.int p0] [] (m_X6_citers l0 q2.2 p0 (hw3)) cw_X6_citers lk_X6_61 vi_X6_citers rfl rfl rfl rfl rfl rfl (Nat.le_of_ble_eq_true rfl) (Nat.le_of_ble_eq_true rfl) (AW_k1 (fun v7 h6 => ?_))
    refine AW_callS hT hK 9 [.int v7] [] (m_X6_count l0 q2.2 v7 (hw3)) cw_X6_count lk_X6_65 sm_X6_count rfl rfl rfl rfl (Nat.le_of_ble_eq_true rfl) (Nat.le_of_ble_eq_true rfl) (AW_k1 (fun v9 h8 => ?_))
    refine AW_g hT cl_X6 hK 10 5 (pc' := 25) (lo' := [some (.ref 36), some (.int p0), some (.int v9), none]) (st' := [.int 0, .int p0, .ref 37]) (hp' := wd q2.2) rfl ?_
    refine AW_zastvx hT hK 15 rfl (n := 12) (f := (q2.2.2.1 37)) rfl (ob_asks hw h1 c5) rfl ?_
    refine AW_to (hp' := wd (sG q2.2 37 (va_up (q2.2.2.1 37) p0.toNatClampNeg 0))) rfl rfl (wd_37 _ _) ?_
    refine AW_g hT cl_X6 hK 16 4 (pc' := 32) (lo' := [some (.ref 36), some (.int p0), some (.int v9), none]) (st' := [.int 0, .int p0, .ref 39]) (hp' := wd (sG q2.2 37 (va_up (q2.2.2.1 37) p0.toNatClampNeg 0))) rfl ?_
    refine AW_iastvx hT hK 20 rfl (n := 12) (f := ((sG q2.2 37 (va_up (q2.2.2.1 37) p0.toNatClampNeg 0)).2.1 39)) rfl (ob_asks hw h1 c5) ?_
    refine AW_to (hp' := wd (sG (sG q2.2 37 (va_up (q2.2.2.1 37) p0.toNatClampNeg 0)) 39 (va_up ((sG q2.2 37 (va_up (q2.2.2.1 37) p0.toNatClampNeg 0)).2.1 39) p0.toNatClampNeg 0))) rfl rfl (wd_39 _ _) ?_
    refine AW_g hT cl_X6 hK 21 2 (pc' := 35) (lo' := [some (.ref 36), some (.int p0), some (.int v9), some (.int 0)]) (st' := []) (hp' := wd (sG (sG q2.2 37 (va_up (q2.2.2.1 37) p0.toNatClampNeg 0)) 39 (va_up ((sG q2.2 37 (va_up (q2.2.2.1 37) p0.toNatClampNeg 0)).2.1 39) p0.toNatClampNeg 0))) rfl ?_
    refine AW_to (lo' := [some (.ref 36), some (.int p0), some (.int v9), some (.int (nI 0))]) (rfl) rfl rfl ?_
    refine lp_X6_withdraw_35 hT hK p0 v9 (nn σ) 0 (sG (sG q2.2 37 (va_up (q2.2.2.1 37) p0.toNatClampNeg 0)) 39 (va_up ((sG q2.2 37 (va_up (q2.2.2.1 37) p0.toNatClampNeg 0)).2.1 39) p0.toNatClampNeg 0)) (by have h9 : nn (sG (sG q2.2 37 (va_up (q2.2.2.1 37) p0.toNatClampNeg 0)) 39 (va_up ((sG q2.2 37 (va_up (q2.2.2.1 37) p0.toNatClampNeg 0)).2.1 39) p0.toNatClampNeg 0)) = nn σ := hn4; omega) hw3 (fun s14 h15 => ?_)
    have hn17 : nn s14 = nn σ := by rw [← h15]; exact (az_nn_of (kp_X6_withdraw_35 _ _ _ _ _)).trans hn4
    have hw16 : az_wf s14 := by rw [← h15]; exact az_wf_of (kp_X6_withdraw_35 _ _ _ _ _) hw3
    refine AW_g hT cl_X6 hK 41 1 (pc' := 64) (lo' := [some (.ref 36), some (.int p0), some (.int v9), none]) (st' := [.int v9]) (hp' := wd s14) rfl ?_
    refine AW_iret hT hE 42 rfl rfl rfl (Nat.le_of_ble_eq_true rfl) (Nat.le_of_ble_eq_true rfl) ?_
    subst h15; subst h8; subst h6; subst h1; exact ⟨by simp only [x_X6_withdraw, if_neg c5], by simp only [x_X6_withdraw, if_neg c5]⟩
  · refine AW_g hT cl_X6 hK 4 1 (pc' := 9) (lo' := [some (.ref 36), some (.int p0), none, none]) (st' := [.int 0]) (hp' := wd q2.2) rfl ?_
    refine AW_iret hT hE 5 rfl rfl rfl (Nat.le_of_ble_eq_true rfl) (Nat.le_of_ble_eq_true rfl) ?_
    subst h1; exact ⟨by simp only [x_X6_withdraw, if_pos c5], by simp only [x_X6_withdraw, if_pos c5]⟩
theorem kp_X6_withdraw (σ : az_S) (p0 : Int32) : (x_X6_withdraw σ p0).2.1 8 = σ.1 8 := by
  unfold x_X6_withdraw
  (try dsimp only)
  (repeat' split) <;> first | (simp [az_k8F, az_k8G, az_k8L, kp_X6_asks, kp_X6_withdraw_35]; done) | rfl
def x_X6_papers (σ : az_S) : Int32 × az_S :=
  let v2 := x_X6_all (sF σ 9 0)
  let v4 := x_X6_count (sF σ 9 0) v2
  (v4, (sF σ 9 0))
set_option maxRecDepth 100000 in
set_option maxHeartbeats 4000000 in
theorem m_X6_papers (l0 : Launch) (σ : az_S) (hw : az_wf σ) : AMet l0 yX6_papers cX6_papers 1 (some .int) ({ frames := 1, cells := 0, slots := 0, locals := 22 } : Room) false [.ref 36] (wd σ) (fun r h => r = some (.int (x_X6_papers σ).1) ∧ h = wd (x_X6_papers σ).2) := by
  refine AMet_of (by decide +kernel) (by simp [Value.category]) (Nat.le_of_ble_eq_true rfl) (fun K hK hct hG hE => ?_)
  have hT := tt_X6_papers
  have hw2 := hw.2
  refine AW_g hT cl_X6 hK 0 4 (pc' := 6) (lo' := [some (.ref 36)]) (st' := [.ref 36]) (hp' := wd (sF σ 9 0)) rfl ?_
  refine AW_callV hT hK 4 [] [] (m_X6_all l0 (sF σ 9 0) (hw)) cw_X6_all lk_X6_54 vi_X6_all rfl rfl rfl rfl rfl rfl (Nat.le_of_ble_eq_true rfl) (Nat.le_of_ble_eq_true rfl) (AW_k1 (fun v2 h1 => ?_))
  refine AW_callS hT hK 5 [.int v2] [] (m_X6_count l0 (sF σ 9 0) v2 (hw)) cw_X6_count lk_X6_65 sm_X6_count rfl rfl rfl rfl (Nat.le_of_ble_eq_true rfl) (Nat.le_of_ble_eq_true rfl) (AW_k1 (fun v4 h3 => ?_))
  refine AW_iret hT hE 6 rfl rfl rfl (Nat.le_of_ble_eq_true rfl) (Nat.le_of_ble_eq_true rfl) ?_
  subst h3; subst h1; exact ⟨by simp only [x_X6_papers], by simp only [x_X6_papers]⟩
theorem kp_X6_papers (σ : az_S) : (x_X6_papers σ).2.1 8 = σ.1 8 := by
  unfold x_X6_papers
  (try dsimp only)
  (repeat' split) <;> first | (simp [az_k8F, az_k8G, az_k8L]; done) | rfl
def x_X6_references (σ : az_S) (p0 : Int32) : Int32 × az_S :=
  let q2 := x_X6_asks σ p0
  if q2.1 = 0 then
    (0, q2.2)
  else
    (((q2.2.2.1 39) p0.toNatClampNeg), q2.2)
set_option maxRecDepth 100000 in
set_option maxHeartbeats 4000000 in
theorem m_X6_references (l0 : Launch) (σ : az_S) (p0 : Int32) (hw : az_wf σ) : AMet l0 yX6_references cX6_references 2 (some .int) ({ frames := 3, cells := 0, slots := 0, locals := 64 } : Room) false [.ref 36, .int p0] (wd σ) (fun r h => r = some (.int (x_X6_references σ p0).1) ∧ h = wd (x_X6_references σ p0).2) := by
  refine AMet_of (by decide +kernel) (by simp [Value.category]) (Nat.le_of_ble_eq_true rfl) (fun K hK hct hG hE => ?_)
  have hT := tt_X6_references
  have hw2 := hw.2
  refine AW_g hT cl_X6 hK 0 2 (pc' := 2) (lo' := [some (.ref 36), some (.int p0)]) (st' := [.int p0, .ref 36]) (hp' := wd σ) rfl ?_
  refine AW_callV hT hK 2 [.int p0] [] (m_X6_asks l0 σ p0 (hw)) cw_X6_asks lk_X6_58 vi_X6_asks rfl rfl rfl rfl rfl rfl (Nat.le_of_ble_eq_true rfl) (Nat.le_of_ble_eq_true rfl) (AW_kiw (fun q2 h1 => ?_))
  have hn4 : nn q2.2 = nn σ := by rw [← h1]; exact (az_nn_of (kp_X6_asks _ _)).trans rfl
  have hw3 : az_wf q2.2 := by rw [← h1]; exact az_wf_of (kp_X6_asks _ _) hw
  refine AW_if_eq hT hK 3 (tgt := 17) rfl rfl (fun c5 => ?_) (fun c5 => ?_)
  · refine AW_g hT cl_X6 hK 9 1 (pc' := 18) (lo' := [some (.ref 36), some (.int p0)]) (st' := [.int 0]) (hp' := wd q2.2) rfl ?_
    refine AW_iret hT hE 10 rfl rfl rfl (Nat.le_of_ble_eq_true rfl) (Nat.le_of_ble_eq_true rfl) ?_
    subst h1; exact ⟨by simp only [x_X6_references, if_pos c5], by simp only [x_X6_references, if_pos c5]⟩
  · refine AW_g hT cl_X6 hK 4 3 (pc' := 13) (lo' := [some (.ref 36), some (.int p0)]) (st' := [.int p0, .ref 39]) (hp' := wd q2.2) rfl ?_
    refine AW_ialdx hT hK 7 rfl (n := 12) (f := (q2.2.2.1 39)) rfl (ob_asks hw h1 c5) ?_
    refine AW_goto hT hK 8 (tgt := 18) rfl rfl ?_
    refine AW_iret hT hE 10 rfl rfl rfl (Nat.le_of_ble_eq_true rfl) (Nat.le_of_ble_eq_true rfl) ?_
    subst h1; exact ⟨by simp only [x_X6_references, if_neg c5], by simp only [x_X6_references, if_neg c5]⟩
theorem kp_X6_references (σ : az_S) (p0 : Int32) : (x_X6_references σ p0).2.1 8 = σ.1 8 := by
  unfold x_X6_references
  (try dsimp only)
  (repeat' split) <;> first | (simp [az_k8F, az_k8G, az_k8L, kp_X6_asks]; done) | rfl
def x_X6_citing (σ : az_S) (p0 : Int32) : Int32 × az_S :=
  let q2 := x_X6_asks σ p0
  if q2.1 = 0 then
    (0, q2.2)
  else
    let v7 := x_X6_citers q2.2 p0
    (v7, q2.2)
set_option maxRecDepth 100000 in
set_option maxHeartbeats 4000000 in
theorem m_X6_citing (l0 : Launch) (σ : az_S) (p0 : Int32) (hw : az_wf σ) : AMet l0 yX6_citing cX6_citing 2 (some .int) ({ frames := 3, cells := 0, slots := 0, locals := 64 } : Room) false [.ref 36, .int p0] (wd σ) (fun r h => r = some (.int (x_X6_citing σ p0).1) ∧ h = wd (x_X6_citing σ p0).2) := by
  refine AMet_of (by decide +kernel) (by simp [Value.category]) (Nat.le_of_ble_eq_true rfl) (fun K hK hct hG hE => ?_)
  have hT := tt_X6_citing
  have hw2 := hw.2
  refine AW_g hT cl_X6 hK 0 2 (pc' := 2) (lo' := [some (.ref 36), some (.int p0)]) (st' := [.int p0, .ref 36]) (hp' := wd σ) rfl ?_
  refine AW_callV hT hK 2 [.int p0] [] (m_X6_asks l0 σ p0 (hw)) cw_X6_asks lk_X6_58 vi_X6_asks rfl rfl rfl rfl rfl rfl (Nat.le_of_ble_eq_true rfl) (Nat.le_of_ble_eq_true rfl) (AW_kiw (fun q2 h1 => ?_))
  have hn4 : nn q2.2 = nn σ := by rw [← h1]; exact (az_nn_of (kp_X6_asks _ _)).trans rfl
  have hw3 : az_wf q2.2 := by rw [← h1]; exact az_wf_of (kp_X6_asks _ _) hw
  refine AW_if_eq hT hK 3 (tgt := 16) rfl rfl (fun c5 => ?_) (fun c5 => ?_)
  · refine AW_g hT cl_X6 hK 8 1 (pc' := 17) (lo' := [some (.ref 36), some (.int p0)]) (st' := [.int 0]) (hp' := wd q2.2) rfl ?_
    refine AW_iret hT hE 9 rfl rfl rfl (Nat.le_of_ble_eq_true rfl) (Nat.le_of_ble_eq_true rfl) ?_
    subst h1; exact ⟨by simp only [x_X6_citing, if_pos c5], by simp only [x_X6_citing, if_pos c5]⟩
  · refine AW_g hT cl_X6 hK 4 2 (pc' := 10) (lo' := [some (.ref 36), some (.int p0)]) (st' := [.int p0, .ref 36]) (hp' := wd q2.2) rfl ?_
    refine AW_callV hT hK 6 [.int p0] [] (m_X6_citers l0 q2.2 p0 (hw3)) cw_X6_citers lk_X6_61 vi_X6_citers rfl rfl rfl rfl rfl rfl (Nat.le_of_ble_eq_true rfl) (Nat.le_of_ble_eq_true rfl) (AW_k1 (fun v7 h6 => ?_))
    refine AW_goto hT hK 7 (tgt := 17) rfl rfl ?_
    refine AW_iret hT hE 9 rfl rfl rfl (Nat.le_of_ble_eq_true rfl) (Nat.le_of_ble_eq_true rfl) ?_
    subst h6; subst h1; exact ⟨by simp only [x_X6_citing, if_neg c5], by simp only [x_X6_citing, if_neg c5]⟩
theorem kp_X6_citing (σ : az_S) (p0 : Int32) : (x_X6_citing σ p0).2.1 8 = σ.1 8 := by
  unfold x_X6_citing
  (try dsimp only)
  (repeat' split) <;> first | (simp [az_k8F, az_k8G, az_k8L, kp_X6_asks]; done) | rfl
end AZP
