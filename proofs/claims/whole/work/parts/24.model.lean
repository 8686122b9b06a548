section AZP
def x_X6_likeness (σ : az_S) (p0 : Int32) (p1 : Int32) (p2 : Int32) : Int32 :=
  let v2 := x_X6_count σ (((σ.2.1 39) p0.toNatClampNeg) &&& ((σ.2.1 39) p1.toNatClampNeg))
  let v4 := x_X6_count σ ((σ.2.1 39) p0.toNatClampNeg)
  let v6 := x_X6_count σ ((σ.2.1 39) p1.toNatClampNeg)
  if (v4 * v6) = 0 then
    if p2 = 0 then
      1
    else
      0
  else
    let v9 := x_X6_divisor σ (v4 * v6) (v2 * v2)
    if p2 = 0 then
      ((v4 * v6) / v9)
    else
      ((v2 * v2) / v9)
set_option maxRecDepth 100000 in
set_option maxHeartbeats 4000000 in
theorem m_X6_likeness (l0 : Launch) (σ : az_S) (p0 : Int32) (p1 : Int32) (p2 : Int32) (hp : vp_in p0 12) (hq : vp_in p1 12) (hw : az_wf σ) : AMet l0 yX6_likeness cX6_likeness 7 (some .int) ({ frames := 1, cells := 0, slots := 0, locals := 24 } : Room) false [.ref 36, .int p0, .int p1, .int p2] (wd σ) (fun r h => r = some (.int (x_X6_likeness σ p0 p1 p2)) ∧ h = wd σ) := by
  refine AMet_of (by decide +kernel) (by simp [Value.category]) (Nat.le_of_ble_eq_true rfl) (fun K hK hct hG hE => ?_)
  have hT := tt_X6_likeness
  have hw2 := hw.2
  refine AW_g hT cl_X6 hK 0 3 (pc' := 5) (lo' := [some (.ref 36), some (.int p0), some (.int p1), some (.int p2), none, none, none]) (st' := [.int p0, .ref 39]) (hp' := wd σ) rfl ?_
  refine AW_ialdx hT hK 3 rfl (n := 12) (f := (σ.2.1 39)) rfl (hp) ?_
  refine AW_g hT cl_X6 hK 4 3 (pc' := 11) (lo' := [some (.ref 36), some (.int p0), some (.int p1), some (.int p2), none, none, none]) (st' := [.int p1, .ref 39, .int ((σ.2.1 39) p0.toNatClampNeg)]) (hp' := wd σ) rfl ?_
  refine AW_ialdx hT hK 7 rfl (n := 12) (f := (σ.2.1 39)) rfl (hq) ?_
  refine AW_g hT cl_X6 hK 8 1 (pc' := 13) (lo' := [some (.ref 36), some (.int p0), some (.int p1), some (.int p2), none, none, none]) (st' := [.int (((σ.2.1 39) p0.toNatClampNeg) &&& ((σ.2.1 39) p1.toNatClampNeg))]) (hp' := wd σ) rfl ?_
  refine AW_callS hT hK 9 [.int (((σ.2.1 39) p0.toNatClampNeg) &&& ((σ.2.1 39) p1.toNatClampNeg))] [] (m_X6_count l0 σ (((σ.2.1 39) p0.toNatClampNeg) &&& ((σ.2.1 39) p1.toNatClampNeg)) (hw)) cw_X6_count lk_X6_65 sm_X6_count rfl rfl rfl rfl (Nat.le_of_ble_eq_true rfl) (Nat.le_of_ble_eq_true rfl) (AW_k1 (fun v2 h1 => ?_))
  refine AW_g hT cl_X6 hK 10 4 (pc' := 23) (lo' := [some (.ref 36), some (.int p0), some (.int p1), some (.int p2), some (.int v2), none, none]) (st' := [.int p0, .ref 39]) (hp' := wd σ) rfl ?_
  refine AW_ialdx hT hK 14 rfl (n := 12) (f := (σ.2.1 39)) rfl (hp) ?_
  refine AW_callS hT hK 15 [.int ((σ.2.1 39) p0.toNatClampNeg)] [] (m_X6_count l0 σ ((σ.2.1 39) p0.toNatClampNeg) (hw)) cw_X6_count lk_X6_65 sm_X6_count rfl rfl rfl rfl (Nat.le_of_ble_eq_true rfl) (Nat.le_of_ble_eq_true rfl) (AW_k1 (fun v4 h3 => ?_))
  refine AW_g hT cl_X6 hK 16 3 (pc' := 32) (lo' := [some (.ref 36), some (.int p0), some (.int p1), some (.int p2), some (.int v2), none, none]) (st' := [.int p1, .ref 39, .int v4]) (hp' := wd σ) rfl ?_
  refine AW_ialdx hT hK 19 rfl (n := 12) (f := (σ.2.1 39)) rfl (hq) ?_
  refine AW_callS hT hK 20 [.int ((σ.2.1 39) p1.toNatClampNeg)] [.int v4] (m_X6_count l0 σ ((σ.2.1 39) p1.toNatClampNeg) (hw)) cw_X6_count lk_X6_65 sm_X6_count rfl rfl rfl rfl (Nat.le_of_ble_eq_true rfl) (Nat.le_of_ble_eq_true rfl) (AW_k1 (fun v6 h5 => ?_))
  refine AW_g hT cl_X6 hK 21 3 (pc' := 41) (lo' := [some (.ref 36), some (.int p0), some (.int p1), some (.int p2), some (.int v2), some (.int (v4 * v6)), none]) (st' := [.int (v4 * v6)]) (hp' := wd σ) rfl ?_
  refine AW_if_ne hT hK 24 (tgt := 54) rfl rfl (fun c7 => ?_) (fun c7 => ?_)
  · refine AW_g hT cl_X6 hK 31 4 (pc' := 61) (lo' := [some (.ref 36), some (.int p0), some (.int p1), some (.int p2), some (.int v2), some (.int (v4 * v6)), none]) (st' := [.int (v2 * v2), .int (v4 * v6)]) (hp' := wd σ) rfl ?_
    refine AW_callS hT hK 35 [.int (v4 * v6), .int (v2 * v2)] [] (m_X6_divisor l0 σ (v4 * v6) (v2 * v2) (ob_mul (ob_count h3) (ob_count h5)) (ob_mul (ob_count h1) (ob_count h1)) (hw)) cw_X6_divisor lk_X6_81 sm_X6_divisor rfl rfl rfl rfl (Nat.le_of_ble_eq_true rfl) (Nat.le_of_ble_eq_true rfl) (AW_k1 (fun v9 h8 => ?_))
    refine AW_g hT cl_X6 hK 36 2 (pc' := 67) (lo' := [some (.ref 36), some (.int p0), some (.int p1), some (.int p2), some (.int v2), some (.int (v4 * v6)), some (.int v9)]) (st' := [.int p2]) (hp' := wd σ) rfl ?_
    refine AW_if_eq hT hK 38 (tgt := 78) rfl rfl (fun c10 => ?_) (fun c10 => ?_)
    · refine AW_g hT cl_X6 hK 43 2 (pc' := 82) (lo' := [some (.ref 36), some (.int p0), some (.int p1), some (.int p2), some (.int v2), some (.int (v4 * v6)), some (.int v9)]) (st' := [.int v9, .int (v4 * v6)]) (hp' := wd σ) rfl ?_
      refine AW_idiv hT hK 45 rfl (ob_gcd h8 (ob_mul (ob_count h3) (ob_count h5)) c7) ?_
      refine AW_iret hT hE 46 rfl rfl rfl (Nat.le_of_ble_eq_true rfl) (Nat.le_of_ble_eq_true rfl) ?_
      subst h8; subst h5; subst h3; subst h1; exact ⟨by simp only [x_X6_likeness, if_neg c7, if_pos c10], rfl⟩
    · refine AW_g hT cl_X6 hK 39 3 (pc' := 75) (lo' := [some (.ref 36), some (.int p0), some (.int p1), some (.int p2), some (.int v2), some (.int (v4 * v6)), some (.int v9)]) (st' := [.int (v2 * v2)]) (hp' := wd σ) rfl ?_
      refine AW_goto hT hK 42 (tgt := 80) rfl rfl ?_
      refine AW_g hT cl_X6 hK 44 1 (pc' := 82) (lo' := [some (.ref 36), some (.int p0), some (.int p1), some (.int p2), some (.int v2), some (.int (v4 * v6)), some (.int v9)]) (st' := [.int v9, .int (v2 * v2)]) (hp' := wd σ) rfl ?_
      refine AW_idiv hT hK 45 rfl (ob_gcd h8 (ob_mul (ob_count h3) (ob_count h5)) c7) ?_
      refine AW_iret hT hE 46 rfl rfl rfl (Nat.le_of_ble_eq_true rfl) (Nat.le_of_ble_eq_true rfl) ?_
      subst h8; subst h5; subst h3; subst h1; exact ⟨by simp only [x_X6_likeness, if_neg c7, if_neg c10], rfl⟩
  · refine AW_g hT cl_X6 hK 25 1 (pc' := 45) (lo' := [some (.ref 36), some (.int p0), some (.int p1), some (.int p2), some (.int v2), some (.int (v4 * v6)), none]) (st' := [.int p2]) (hp' := wd σ) rfl ?_
    refine AW_if_eq hT hK 26 (tgt := 52) rfl rfl (fun c11 => ?_) (fun c11 => ?_)
    · refine AW_g hT cl_X6 hK 29 1 (pc' := 53) (lo' := [some (.ref 36), some (.int p0), some (.int p1), some (.int p2), some (.int v2), some (.int (v4 * v6)), none]) (st' := [.int 1]) (hp' := wd σ) rfl ?_
      refine AW_iret hT hE 30 rfl rfl rfl (Nat.le_of_ble_eq_true rfl) (Nat.le_of_ble_eq_true rfl) ?_
      subst h5; subst h3; subst h1; exact ⟨by simp only [x_X6_likeness, if_pos c7, if_pos c11], rfl⟩
    · refine AW_g hT cl_X6 hK 27 1 (pc' := 49) (lo' := [some (.ref 36), some (.int p0), some (.int p1), some (.int p2), some (.int v2), some (.int (v4 * v6)), none]) (st' := [.int 0]) (hp' := wd σ) rfl ?_
      refine AW_goto hT hK 28 (tgt := 53) rfl rfl ?_
      refine AW_iret hT hE 30 rfl rfl rfl (Nat.le_of_ble_eq_true rfl) (Nat.le_of_ble_eq_true rfl) ?_
      subst h5; subst h3; subst h1; exact ⟨by simp only [x_X6_likeness, if_pos c7, if_neg c11], rfl⟩
def x_X6_likenessNumerator (σ : az_S) (p0 : Int32) (p1 : Int32) : Int32 × az_S :=
  let q2 := x_X6_asksTwo σ p0 p1
  if q2.1 = 0 then
    (0, q2.2)
  else
    let v7 := x_X6_likeness q2.2 p0 p1 1
    (v7, q2.2)
set_option maxRecDepth 100000 in
set_option maxHeartbeats 4000000 in
theorem m_X6_likenessNumerator (l0 : Launch) (σ : az_S) (p0 : Int32) (p1 : Int32) (hw : az_wf σ) : AMet l0 yX6_likenessNumerator cX6_likenessNumerator 3 (some .int) ({ frames := 3, cells := 0, slots := 0, locals := 65 } : Room) false [.ref 36, .int p0, .int p1] (wd σ) (fun r h => r = some (.int (x_X6_likenessNumerator σ p0 p1).1) ∧ h = wd (x_X6_likenessNumerator σ p0 p1).2) := by
  refine AMet_of (by decide +kernel) (by simp [Value.category]) (Nat.le_of_ble_eq_true rfl) (fun K hK hct hG hE => ?_)
  have hT := tt_X6_likenessNumerator
  have hw2 := hw.2
  refine AW_g hT cl_X6 hK 0 3 (pc' := 3) (lo' := [some (.ref 36), some (.int p0), some (.int p1)]) (st' := [.int p1, .int p0, .ref 36]) (hp' := wd σ) rfl ?_
  refine AW_callV hT hK 3 [.int p0, .int p1] [] (m_X6_asksTwo l0 σ p0 p1 (hw)) cw_X6_asksTwo lk_X6_68 vi_X6_asksTwo rfl rfl rfl rfl rfl rfl (Nat.le_of_ble_eq_true rfl) (Nat.le_of_ble_eq_true rfl) (AW_kiw (fun q2 h1 => ?_))
  have hn4 : nn q2.2 = nn σ := by rw [← h1]; exact (az_nn_of (kp_X6_asksTwo _ _ _)).trans rfl
  have hw3 : az_wf q2.2 := by rw [← h1]; exact az_wf_of (kp_X6_asksTwo _ _ _) hw
  refine AW_if_eq hT hK 4 (tgt := 19) rfl rfl (fun c5 => ?_) (fun c5 => ?_)
  · refine AW_g hT cl_X6 hK 11 1 (pc' := 20) (lo' := [some (.ref 36), some (.int p0), some (.int p1)]) (st' := [.int 0]) (hp' := wd q2.2) rfl ?_
    refine AW_iret hT hE 12 rfl rfl rfl (Nat.le_of_ble_eq_true rfl) (Nat.le_of_ble_eq_true rfl) ?_
    subst h1; exact ⟨by simp only [x_X6_likenessNumerator, if_pos c5], by simp only [x_X6_likenessNumerator, if_pos c5]⟩
  · refine AW_g hT cl_X6 hK 5 4 (pc' := 13) (lo' := [some (.ref 36), some (.int p0), some (.int p1)]) (st' := [.int 1, .int p1, .int p0, .ref 36]) (hp' := wd q2.2) rfl ?_
    refine AW_callV hT hK 9 [.int p0, .int p1, .int 1] [] (m_X6_likeness l0 q2.2 p0 p1 1 ((ob_asks2 hw h1 c5).1) ((ob_asks2 hw h1 c5).2) (hw3)) cw_X6_likeness lk_X6_84 vi_X6_likeness rfl rfl rfl rfl rfl rfl (Nat.le_of_ble_eq_true rfl) (Nat.le_of_ble_eq_true rfl) (AW_k1 (fun v7 h6 => ?_))
    refine AW_goto hT hK 10 (tgt := 20) rfl rfl ?_
    refine AW_iret hT hE 12 rfl rfl rfl (Nat.le_of_ble_eq_true rfl) (Nat.le_of_ble_eq_true rfl) ?_
    subst h6; subst h1; exact ⟨by simp only [x_X6_likenessNumerator, if_neg c5], by simp only [x_X6_likenessNumerator, if_neg c5]⟩
theorem kp_X6_likenessNumerator (σ : az_S) (p0 : Int32) (p1 : Int32) : (x_X6_likenessNumerator σ p0 p1).2.1 8 = σ.1 8 := by
  unfold x_X6_likenessNumerator
  (try dsimp only)
  (repeat' split) <;> first | (simp [az_k8F, az_k8G, az_k8L, kp_X6_asksTwo]; done) | rfl
def x_X6_likenessDenominator (σ : az_S) (p0 : Int32) (p1 : Int32) : Int32 × az_S :=
  let q2 := x_X6_asksTwo σ p0 p1
  if q2.1 = 0 then
    (0, q2.2)
  else
    let v7 := x_X6_likeness q2.2 p0 p1 0
    (v7, q2.2)
set_option maxRecDepth 100000 in
set_option maxHeartbeats 4000000 in
theorem m_X6_likenessDenominator (l0 : Launch) (σ : az_S) (p0 : Int32) (p1 : Int32) (hw : az_wf σ) : AMet l0 yX6_likenessDenominator cX6_likenessDenominator 3 (some .int) ({ frames := 3, cells := 0, slots := 0, locals := 65 } : Room) false [.ref 36, .int p0, .int p1] (wd σ) (fun r h => r = some (.int (x_X6_likenessDenominator σ p0 p1).1) ∧ h = wd (x_X6_likenessDenominator σ p0 p1).2) := by
  refine AMet_of (by decide +kernel) (by simp [Value.category]) (Nat.le_of_ble_eq_true rfl) (fun K hK hct hG hE => ?_)
  have hT := tt_X6_likenessDenominator
  have hw2 := hw.2
  refine AW_g hT cl_X6 hK 0 3 (pc' := 3) (lo' := [some (.ref 36), some (.int p0), some (.int p1)]) (st' := [.int p1, .int p0, .ref 36]) (hp' := wd σ) rfl ?_
  refine AW_callV hT hK 3 [.int p0, .int p1] [] (m_X6_asksTwo l0 σ p0 p1 (hw)) cw_X6_asksTwo lk_X6_68 vi_X6_asksTwo rfl rfl rfl rfl rfl rfl (Nat.le_of_ble_eq_true rfl) (Nat.le_of_ble_eq_true rfl) (AW_kiw (fun q2 h1 => ?_))
  have hn4 : nn q2.2 = nn σ := by rw [← h1]; exact (az_nn_of (kp_X6_asksTwo _ _ _)).trans rfl
  have hw3 : az_wf q2.2 := by rw [← h1]; exact az_wf_of (kp_X6_asksTwo _ _ _) hw
  refine AW_if_eq hT hK 4 (tgt := 19) rfl rfl (fun c5 => ?_) (fun c5 => ?_)
  · refine AW_g hT cl_X6 hK 11 1 (pc' := 20) (lo' := [some (.ref 36), some (.int p0), some (.int p1)]) (st' := [.int 0]) (hp' := wd q2.2) rfl ?_
    refine AW_iret hT hE 12 rfl rfl rfl (Nat.le_of_ble_eq_true rfl) (Nat.le_of_ble_eq_true rfl) ?_
    subst h1; exact ⟨by simp only [x_X6_likenessDenominator, if_pos c5], by simp only [x_X6_likenessDenominator, if_pos c5]⟩
  · refine AW_g hT cl_X6 hK 5 4 (pc' := 13) (lo' := [some (.ref 36), some (.int p0), some (.int p1)]) (st' := [.int 0, .int p1, .int p0, .ref 36]) (hp' := wd q2.2) rfl ?_
    refine AW_callV hT hK 9 [.int p0, .int p1, .int 0] [] (m_X6_likeness l0 q2.2 p0 p1 0 ((ob_asks2 hw h1 c5).1) ((ob_asks2 hw h1 c5).2) (hw3)) cw_X6_likeness lk_X6_84 vi_X6_likeness rfl rfl rfl rfl rfl rfl (Nat.le_of_ble_eq_true rfl) (Nat.le_of_ble_eq_true rfl) (AW_k1 (fun v7 h6 => ?_))
    refine AW_goto hT hK 10 (tgt := 20) rfl rfl ?_
    refine AW_iret hT hE 12 rfl rfl rfl (Nat.le_of_ble_eq_true rfl) (Nat.le_of_ble_eq_true rfl) ?_
    subst h6; subst h1; exact ⟨by simp only [x_X6_likenessDenominator, if_neg c5], by simp only [x_X6_likenessDenominator, if_neg c5]⟩
theorem kp_X6_likenessDenominator (σ : az_S) (p0 : Int32) (p1 : Int32) : (x_X6_likenessDenominator σ p0 p1).2.1 8 = σ.1 8 := by
  unfold x_X6_likenessDenominator
  (try dsimp only)
  (repeat' split) <;> first | (simp [az_k8F, az_k8G, az_k8L, kp_X6_asksTwo]; done) | rfl
end AZP
