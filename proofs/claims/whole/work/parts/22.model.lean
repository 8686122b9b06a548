section AZP
def x_X6_shared (σ : az_S) (p0 : Int32) (p1 : Int32) : Int32 × az_S :=
  let q2 := x_X6_asksTwo σ p0 p1
  if q2.1 = 0 then
    (0, q2.2)
  else
    let v7 := x_X6_count q2.2 (((q2.2.2.1 39) p0.toNatClampNeg) &&& ((q2.2.2.1 39) p1.toNatClampNeg))
    (v7, q2.2)
set_option maxRecDepth 100000 in
set_option maxHeartbeats 4000000 in
theorem m_X6_shared (l0 : Launch) (σ : az_S) (p0 : Int32) (p1 : Int32) (hw : az_wf σ) : AMet l0 yX6_shared cX6_shared 3 (some .int) ({ frames := 3, cells := 0, slots := 0, locals := 65 } : Room) false [.ref 36, .int p0, .int p1] (wd σ) (fun r h => r = some (.int (x_X6_shared σ p0 p1).1) ∧ h = wd (x_X6_shared σ p0 p1).2) := by
  refine AMet_of (by decide +kernel) (by simp [Value.category]) (Nat.le_of_ble_eq_true rfl) (fun K hK hct hG hE => ?_)
  have hT := tt_X6_shared
  have hw2 := hw.2
  refine AW_g hT cl_X6 hK 0 3 (pc' := 3) (lo' := [some (.ref 36), some (.int p0), some (.int p1)]) (st' := [.int p1, .int p0, .ref 36]) (hp' := wd σ) rfl ?_
  refine AW_callV hT hK 3 [.int p0, .int p1] [] (m_X6_asksTwo l0 σ p0 p1 (hw)) cw_X6_asksTwo lk_X6_68 vi_X6_asksTwo rfl rfl rfl rfl rfl rfl (Nat.le_of_ble_eq_true rfl) (Nat.le_of_ble_eq_true rfl) (AW_kiw (fun q2 h1 => ?_))
  have hn4 : nn q2.2 = nn σ := by rw [← h1]; exact (az_nn_of (kp_X6_asksTwo _ _ _)).trans rfl
  have hw3 : az_wf q2.2 := by rw [← h1]; exact az_wf_of (kp_X6_asksTwo _ _ _) hw
  refine AW_if_eq hT hK 4 (tgt := 28) rfl rfl (fun c5 => ?_) (fun c5 => ?_)
  · refine AW_g hT cl_X6 hK 16 1 (pc' := 29) (lo' := [some (.ref 36), some (.int p0), some (.int p1)]) (st' := [.int 0]) (hp' := wd q2.2) rfl ?_
    refine AW_iret hT hE 17 rfl rfl rfl (Nat.le_of_ble_eq_true rfl) (Nat.le_of_ble_eq_true rfl) ?_
    subst h1; exact ⟨by simp only [x_X6_shared, if_pos c5], by simp only [x_X6_shared, if_pos c5]⟩
  · refine AW_g hT cl_X6 hK 5 3 (pc' := 14) (lo' := [some (.ref 36), some (.int p0), some (.int p1)]) (st' := [.int p0, .ref 39]) (hp' := wd q2.2) rfl ?_
    refine AW_ialdx hT hK 8 rfl (n := 12) (f := (q2.2.2.1 39)) rfl ((ob_asks2 hw h1 c5).1) ?_
    refine AW_g hT cl_X6 hK 9 3 (pc' := 20) (lo' := [some (.ref 36), some (.int p0), some (.int p1)]) (st' := [.int p1, .ref 39, .int ((q2.2.2.1 39) p0.toNatClampNeg)]) (hp' := wd q2.2) rfl ?_
    refine AW_ialdx hT hK 12 rfl (n := 12) (f := (q2.2.2.1 39)) rfl ((ob_asks2 hw h1 c5).2) ?_
    refine AW_g hT cl_X6 hK 13 1 (pc' := 22) (lo' := [some (.ref 36), some (.int p0), some (.int p1)]) (st' := [.int (((q2.2.2.1 39) p0.toNatClampNeg) &&& ((q2.2.2.1 39) p1.toNatClampNeg))]) (hp' := wd q2.2) rfl ?_
    refine AW_callS hT hK 14 [.int (((q2.2.2.1 39) p0.toNatClampNeg) &&& ((q2.2.2.1 39) p1.toNatClampNeg))] [] (m_X6_count l0 q2.2 (((q2.2.2.1 39) p0.toNatClampNeg) &&& ((q2.2.2.1 39) p1.toNatClampNeg)) (hw3)) cw_X6_count lk_X6_65 sm_X6_count rfl rfl rfl rfl (Nat.le_of_ble_eq_true rfl) (Nat.le_of_ble_eq_true rfl) (AW_k1 (fun v7 h6 => ?_))
    refine AW_goto hT hK 15 (tgt := 29) rfl rfl ?_
    refine AW_iret hT hE 17 rfl rfl rfl (Nat.le_of_ble_eq_true rfl) (Nat.le_of_ble_eq_true rfl) ?_
    subst h6; subst h1; exact ⟨by simp only [x_X6_shared, if_neg c5], by simp only [x_X6_shared, if_neg c5]⟩
theorem kp_X6_shared (σ : az_S) (p0 : Int32) (p1 : Int32) : (x_X6_shared σ p0 p1).2.1 8 = σ.1 8 := by
  unfold x_X6_shared
  (try dsimp only)
  (repeat' split) <;> first | (simp [az_k8F, az_k8G, az_k8L, kp_X6_asksTwo]; done) | rfl
def x_X6_joint (σ : az_S) (p0 : Int32) (p1 : Int32) : Int32 × az_S :=
  let q2 := x_X6_asksTwo σ p0 p1
  if q2.1 = 0 then
    (0, q2.2)
  else
    let v7 := x_X6_citers q2.2 p0
    let v9 := x_X6_citers q2.2 p1
    let v11 := x_X6_count q2.2 (v7 &&& v9)
    (v11, q2.2)
set_option maxRecDepth 100000 in
set_option maxHeartbeats 4000000 in
theorem m_X6_joint (l0 : Launch) (σ : az_S) (p0 : Int32) (p1 : Int32) (hw : az_wf σ) : AMet l0 yX6_joint cX6_joint 3 (some .int) ({ frames := 3, cells := 0, slots := 0, locals := 65 } : Room) false [.ref 36, .int p0, .int p1] (wd σ) (fun r h => r = some (.int (x_X6_joint σ p0 p1).1) ∧ h = wd (x_X6_joint σ p0 p1).2) := by
  refine AMet_of (by decide +kernel) (by simp [Value.category]) (Nat.le_of_ble_eq_true rfl) (fun K hK hct hG hE => ?_)
  have hT := tt_X6_joint
  have hw2 := hw.2
  refine AW_g hT cl_X6 hK 0 3 (pc' := 3) (lo' := [some (.ref 36), some (.int p0), some (.int p1)]) (st' := [.int p1, .int p0, .ref 36]) (hp' := wd σ) rfl ?_
  refine AW_callV hT hK 3 [.int p0, .int p1] [] (m_X6_asksTwo l0 σ p0 p1 (hw)) cw_X6_asksTwo lk_X6_68 vi_X6_asksTwo rfl rfl rfl rfl rfl rfl (Nat.le_of_ble_eq_true rfl) (Nat.le_of_ble_eq_true rfl) (AW_kiw (fun q2 h1 => ?_))
  have hn4 : nn q2.2 = nn σ := by rw [← h1]; exact (az_nn_of (kp_X6_asksTwo _ _ _)).trans rfl
  have hw3 : az_wf q2.2 := by rw [← h1]; exact az_wf_of (kp_X6_asksTwo _ _ _) hw
  refine AW_if_eq hT hK 4 (tgt := 26) rfl rfl (fun c5 => ?_) (fun c5 => ?_)
  · refine AW_g hT cl_X6 hK 14 1 (pc' := 27) (lo' := [some (.ref 36), some (.int p0), some (.int p1)]) (st' := [.int 0]) (hp' := wd q2.2) rfl ?_
    refine AW_iret hT hE 15 rfl rfl rfl (Nat.le_of_ble_eq_true rfl) (Nat.le_of_ble_eq_true rfl) ?_
    subst h1; exact ⟨by simp only [x_X6_joint, if_pos c5], by simp only [x_X6_joint, if_pos c5]⟩
  · refine AW_g hT cl_X6 hK 5 2 (pc' := 11) (lo' := [some (.ref 36), some (.int p0), some (.int p1)]) (st' := [.int p0, .ref 36]) (hp' := wd q2.2) rfl ?_
    refine AW_callV hT hK 7 [.int p0] [] (m_X6_citers l0 q2.2 p0 (hw3)) cw_X6_citers lk_X6_61 vi_X6_citers rfl rfl rfl rfl rfl rfl (Nat.le_of_ble_eq_true rfl) (Nat.le_of_ble_eq_true rfl) (AW_k1 (fun v7 h6 => ?_))
    refine AW_g hT cl_X6 hK 8 2 (pc' := 16) (lo' := [some (.ref 36), some (.int p0), some (.int p1)]) (st' := [.int p1, .ref 36, .int v7]) (hp' := wd q2.2) rfl ?_
    refine AW_callV hT hK 10 [.int p1] [.int v7] (m_X6_citers l0 q2.2 p1 (hw3)) cw_X6_citers lk_X6_61 vi_X6_citers rfl rfl rfl rfl rfl rfl (Nat.le_of_ble_eq_true rfl) (Nat.le_of_ble_eq_true rfl) (AW_k1 (fun v9 h8 => ?_))
    refine AW_g hT cl_X6 hK 11 1 (pc' := 20) (lo' := [some (.ref 36), some (.int p0), some (.int p1)]) (st' := [.int (v7 &&& v9)]) (hp' := wd q2.2) rfl ?_
    refine AW_callS hT hK 12 [.int (v7 &&& v9)] [] (m_X6_count l0 q2.2 (v7 &&& v9) (hw3)) cw_X6_count lk_X6_65 sm_X6_count rfl rfl rfl rfl (Nat.le_of_ble_eq_true rfl) (Nat.le_of_ble_eq_true rfl) (AW_k1 (fun v11 h10 => ?_))
    refine AW_goto hT hK 13 (tgt := 27) rfl rfl ?_
    refine AW_iret hT hE 15 rfl rfl rfl (Nat.le_of_ble_eq_true rfl) (Nat.le_of_ble_eq_true rfl) ?_
    subst h10; subst h8; subst h6; subst h1; exact ⟨by simp only [x_X6_joint, if_neg c5], by simp only [x_X6_joint, if_neg c5]⟩
theorem kp_X6_joint (σ : az_S) (p0 : Int32) (p1 : Int32) : (x_X6_joint σ p0 p1).2.1 8 = σ.1 8 := by
  unfold x_X6_joint
  (try dsimp only)
  (repeat' split) <;> first | (simp [az_k8F, az_k8G, az_k8L, kp_X6_asksTwo]; done) | rfl
def b_X6_laysWeights_2 (i : Nat) (σ : az_S) : az_S :=
  if (nI (i / 12)) = (nI (i % 12)) then
    (sG σ 40 (va_up (σ.2.1 40) i 0))
  else
    let v5 := x_X6_isPaper σ (nI (i / 12))
    if v5 = 0 then
      (sG σ 40 (va_up (σ.2.1 40) i 0))
    else
      let v9 := x_X6_isPaper σ (nI (i % 12))
      if v9 = 0 then
        (sG σ 40 (va_up (σ.2.1 40) i 0))
      else
        let v14 := x_X6_count σ (((σ.2.1 39) (i / 12)) &&& ((σ.2.1 39) (i % 12)))
        let v16 := x_X6_citers σ (nI (i / 12))
        let v18 := x_X6_citers σ (nI (i % 12))
        let v20 := x_X6_count σ (v16 &&& v18)
        let u21 := (v14 + v20)
        (sG σ 40 (va_up (σ.2.1 40) i u21))
theorem kb_X6_laysWeights_2 (i : Nat) (σ : az_S) : (b_X6_laysWeights_2 i σ).1 8 = σ.1 8 := by
  unfold b_X6_laysWeights_2
  (try dsimp only)
  (repeat' split) <;> first | (simp [az_k8F, az_k8G, az_k8L]; done) | rfl
theorem kp_X6_laysWeights_2  (n i : Nat) (s : az_S) : (az_it (fun ι s => b_X6_laysWeights_2 ι s) n i s).1 8 = s.1 8 := az_it_keep (fun s => s.1 8) (fun i s => kb_X6_laysWeights_2 i s) n i s
set_option maxRecDepth 100000 in
set_option maxHeartbeats 4000000 in
theorem lp_X6_laysWeights_2 {K : az_K} {l0 : Launch} (hT : az_Tb cX6_laysWeights tb_X6_laysWeights) (hK : az_OK K RX6 cX6_laysWeights ({ frames := 2, cells := 0, slots := 0, locals := 43 } : Room) l0) :
    ∀ (n i : Nat) (σ : az_S) (hi : i + n = 144) (hw : az_wf σ) (kx : ∀ s' : az_S, az_it (fun ι s => b_X6_laysWeights_2 ι s) n i σ = s' → AW K 0 0 99 [some (.ref 36), none, none, none, none] [] (wd s')), AW K 0 0 2 [some (.ref 36), some (.int (nI i)), none, none, none] [] (wd σ) := by
  intro n
  induction n with
  | zero =>
    intro i σ hi hw kx
    have hw2 := hw.2
    refine AW_g hT cl_X6 hK 2 2 (pc' := 6) (lo' := [some (.ref 36), some (.int (nI i)), none, none, none]) (st' := [.int 144, .int (nI i)]) (hp' := wd σ) rfl ?_
    refine AW_icmp_ge hT hK 4 (tgt := 99) rfl rfl (fun c23 => ?_) (fun c23 => absurd (az_c0 hi) c23)
    refine AW_msk [true, false, false, false, false] (lo' := [some (.ref 36), none, none, none, none]) rfl ?_
    exact kx σ rfl
  | succ n ih =>
    intro i σ hi hw kx
    have hw2 := hw.2
    refine AW_g hT cl_X6 hK 2 2 (pc' := 6) (lo' := [some (.ref 36), some (.int (nI i)), none, none, none]) (st' := [.int 144, .int (nI i)]) (hp' := wd σ) rfl ?_
    refine AW_icmp_ge hT hK 4 (tgt := 99) rfl rfl (fun c1 => absurd c1 (az_c1 hi)) (fun c1 => ?_)
    refine AW_g hT cl_X6 hK 5 2 (pc' := 12) (lo' := [some (.ref 36), some (.int (nI i)), none, none, none]) (st' := [.int 12, .int (nI i)]) (hp' := wd σ) rfl ?_
    refine AW_idivN hT hK 7 i 12 rfl rfl rfl (by omega) (by decide) (by decide) ?_
    refine AW_g hT cl_X6 hK 8 3 (pc' := 17) (lo' := [some (.ref 36), some (.int (nI i)), some (.int (nI (i / 12))), none, none]) (st' := [.int 12, .int (nI i)]) (hp' := wd σ) rfl ?_
    refine AW_iremN hT hK 11 i 12 rfl rfl rfl (by omega) (by decide) (by decide) ?_
    refine AW_g hT cl_X6 hK 12 3 (pc' := 21) (lo' := [some (.ref 36), some (.int (nI i)), some (.int (nI (i / 12))), some (.int (nI (i % 12))), none]) (st' := [.int (nI (i % 12)), .int (nI (i / 12))]) (hp' := wd σ) rfl ?_
    refine AW_icmp_eq hT hK 15 (tgt := 44) rfl rfl (fun c2 => ?_) (fun c2 => ?_)
    · refine AW_g hT cl_X6 hK 26 6 (pc' := 54) (lo' := [some (.ref 36), some (.int (nI i)), some (.int (nI (i / 12))), some (.int (nI (i % 12))), some (.int 0)]) (st' := [.int 0, .int (nI i), .ref 40]) (hp' := wd σ) rfl ?_
      refine AW_if_eq hT hK 32 (tgt := 91) rfl rfl (fun _ => ?_) (fun c3 => absurd (by decide) c3)
      refine AW_g hT cl_X6 hK 53 1 (pc' := 92) (lo' := [some (.ref 36), some (.int (nI i)), some (.int (nI (i / 12))), some (.int (nI (i % 12))), some (.int 0)]) (st' := [.int 0, .int (nI i), .ref 40]) (hp' := wd σ) rfl ?_
      refine AW_iastv hT hK 54 i rfl (n := 144) (f := (σ.2.1 40)) rfl rfl (by omega) (by decide) ?_
      refine AW_to (hp' := wd (sG σ 40 (va_up (σ.2.1 40) i 0))) rfl rfl (wd_40 _ _) ?_
      refine AW_g hT cl_X6 hK 55 1 (pc' := 96) (lo' := [some (.ref 36), some (.int ((nI i) + 1)), some (.int (nI (i / 12))), some (.int (nI (i % 12))), some (.int 0)]) (st' := []) (hp' := wd (sG σ 40 (va_up (σ.2.1 40) i 0))) rfl ?_
      refine AW_goto hT hK 56 (tgt := 2) rfl rfl ?_
      refine AW_msk [true, true, false, false, false] (lo' := [some (.ref 36), some (.int ((nI i) + 1)), none, none, none]) rfl ?_
      refine AW_to (lo' := [some (.ref 36), some (.int (nI (i + 1))), none, none, none]) (by rw [nI_1]) rfl rfl ?_
      exact ih (i + 1) _ (by omega) hw (fun s' hs' => kx s' ((congrArg (az_it _ n (i + 1)) (by simp only [b_X6_laysWeights_2, if_pos c2])).trans hs'))
    · refine AW_g hT cl_X6 hK 16 2 (pc' := 26) (lo' := [some (.ref 36), some (.int (nI i)), some (.int (nI (i / 12))), some (.int (nI (i % 12))), none]) (st' := [.int (nI (i / 12)), .ref 36]) (hp' := wd σ) rfl ?_
      refine AW_callV hT hK 18 [.int (nI (i / 12))] [] (m_X6_isPaper l0 σ (nI (i / 12)) (hw)) cw_X6_isPaper lk_X6_47 vi_X6_isPaper rfl rfl rfl rfl rfl rfl (Nat.le_of_ble_eq_true rfl) (Nat.le_of_ble_eq_true rfl) (AW_k1 (fun v5 h4 => ?_))
      refine AW_if_eq hT hK 19 (tgt := 44) rfl rfl (fun c6 => ?_) (fun c6 => ?_)
      · refine AW_g hT cl_X6 hK 26 6 (pc' := 54) (lo' := [some (.ref 36), some (.int (nI i)), some (.int (nI (i / 12))), some (.int (nI (i % 12))), some (.int 0)]) (st' := [.int 0, .int (nI i), .ref 40]) (hp' := wd σ) rfl ?_
        refine AW_if_eq hT hK 32 (tgt := 91) rfl rfl (fun _ => ?_) (fun c7 => absurd (by decide) c7)
        refine AW_g hT cl_X6 hK 53 1 (pc' := 92) (lo' := [some (.ref 36), some (.int (nI i)), some (.int (nI (i / 12))), some (.int (nI (i % 12))), some (.int 0)]) (st' := [.int 0, .int (nI i), .ref 40]) (hp' := wd σ) rfl ?_
        refine AW_iastv hT hK 54 i rfl (n := 144) (f := (σ.2.1 40)) rfl rfl (by omega) (by decide) ?_
        refine AW_to (hp' := wd (sG σ 40 (va_up (σ.2.1 40) i 0))) rfl rfl (wd_40 _ _) ?_
        refine AW_g hT cl_X6 hK 55 1 (pc' := 96) (lo' := [some (.ref 36), some (.int ((nI i) + 1)), some (.int (nI (i / 12))), some (.int (nI (i % 12))), some (.int 0)]) (st' := []) (hp' := wd (sG σ 40 (va_up (σ.2.1 40) i 0))) rfl ?_
        refine AW_goto hT hK 56 (tgt := 2) rfl rfl ?_
        refine AW_msk [true, true, false, false, false] (lo' := [some (.ref 36), some (.int ((nI i) + 1)), none, none, none]) rfl ?_
        refine AW_to (lo' := [some (.ref 36), some (.int (nI (i + 1))), none, none, none]) (by rw [nI_1]) rfl rfl ?_
        subst h4; skip
        exact ih (i + 1) _ (by omega) hw (fun s' hs' => kx s' ((congrArg (az_it _ n (i + 1)) (by simp only [b_X6_laysWeights_2, if_neg c2, if_pos c6])).trans hs'))
      · refine AW_g hT cl_X6 hK 20 2 (pc' := 34) (lo' := [some (.ref 36), some (.int (nI i)), some (.int (nI (i / 12))), some (.int (nI (i % 12))), none]) (st' := [.int (nI (i % 12)), .ref 36]) (hp' := wd σ) rfl ?_
        refine AW_callV hT hK 22 [.int (nI (i % 12))] [] (m_X6_isPaper l0 σ (nI (i % 12)) (hw)) cw_X6_isPaper lk_X6_47 vi_X6_isPaper rfl rfl rfl rfl rfl rfl (Nat.le_of_ble_eq_true rfl) (Nat.le_of_ble_eq_true rfl) (AW_k1 (fun v9 h8 => ?_))
        refine AW_if_eq hT hK 23 (tgt := 44) rfl rfl (fun c10 => ?_) (fun c10 => ?_)
        · refine AW_g hT cl_X6 hK 26 6 (pc' := 54) (lo' := [some (.ref 36), some (.int (nI i)), some (.int (nI (i / 12))), some (.int (nI (i % 12))), some (.int 0)]) (st' := [.int 0, .int (nI i), .ref 40]) (hp' := wd σ) rfl ?_
          refine AW_if_eq hT hK 32 (tgt := 91) rfl rfl (fun _ => ?_) (fun c11 => absurd (by decide) c11)
          refine AW_g hT cl_X6 hK 53 1 (pc' := 92) (lo' := [some (.ref 36), some (.int (nI i)), some (.int (nI (i / 12))), some (.int (nI (i % 12))), some (.int 0)]) (st' := [.int 0, .int (nI i), .ref 40]) (hp' := wd σ) rfl ?_
          refine AW_iastv hT hK 54 i rfl (n := 144) (f := (σ.2.1 40)) rfl rfl (by omega) (by decide) ?_
          refine AW_to (hp' := wd (sG σ 40 (va_up (σ.2.1 40) i 0))) rfl rfl (wd_40 _ _) ?_
          refine AW_g hT cl_X6 hK 55 1 (pc' := 96) (lo' := [some (.ref 36), some (.int ((nI i) + 1)), some (.int (nI (i / 12))), some (.int (nI (i % 12))), some (.int 0)]) (st' := []) (hp' := wd (sG σ 40 (va_up (σ.2.1 40) i 0))) rfl ?_
          refine AW_goto hT hK 56 (tgt := 2) rfl rfl ?_
          refine AW_msk [true, true, false, false, false] (lo' := [some (.ref 36), some (.int ((nI i) + 1)), none, none, none]) rfl ?_
          refine AW_to (lo' := [some (.ref 36), some (.int (nI (i + 1))), none, none, none]) (by rw [nI_1]) rfl rfl ?_
          subst h8; subst h4; skip
          exact ih (i + 1) _ (by omega) hw (fun s' hs' => kx s' ((congrArg (az_it _ n (i + 1)) (by simp only [b_X6_laysWeights_2, if_neg c2, if_neg c6, if_pos c10])).trans hs'))
        · refine AW_g hT cl_X6 hK 24 1 (pc' := 41) (lo' := [some (.ref 36), some (.int (nI i)), some (.int (nI (i / 12))), some (.int (nI (i % 12))), none]) (st' := [.int 1]) (hp' := wd σ) rfl ?_
          refine AW_goto hT hK 25 (tgt := 45) rfl rfl ?_
          refine AW_g hT cl_X6 hK 27 5 (pc' := 54) (lo' := [some (.ref 36), some (.int (nI i)), some (.int (nI (i / 12))), some (.int (nI (i % 12))), some (.int 1)]) (st' := [.int 1, .int (nI i), .ref 40]) (hp' := wd σ) rfl ?_
          refine AW_if_eq hT hK 32 (tgt := 91) rfl rfl (fun c12 => absurd c12 (by decide)) (fun _ => ?_)
          refine AW_g hT cl_X6 hK 33 3 (pc' := 62) (lo' := [some (.ref 36), some (.int (nI i)), some (.int (nI (i / 12))), some (.int (nI (i % 12))), some (.int 1)]) (st' := [.int (nI (i / 12)), .ref 39, .int (nI i), .ref 40]) (hp' := wd σ) rfl ?_
          refine AW_iald hT hK 36 (i / 12) rfl (n := 12) (f := (σ.2.1 39)) rfl rfl (by omega) (by decide) ?_
          refine AW_g hT cl_X6 hK 37 3 (pc' := 68) (lo' := [some (.ref 36), some (.int (nI i)), some (.int (nI (i / 12))), some (.int (nI (i % 12))), some (.int 1)]) (st' := [.int (nI (i % 12)), .ref 39, .int ((σ.2.1 39) (i / 12)), .int (nI i), .ref 40]) (hp' := wd σ) rfl ?_
          refine AW_iald hT hK 40 (i % 12) rfl (n := 12) (f := (σ.2.1 39)) rfl rfl (by omega) (by decide) ?_
          refine AW_g hT cl_X6 hK 41 1 (pc' := 70) (lo' := [some (.ref 36), some (.int (nI i)), some (.int (nI (i / 12))), some (.int (nI (i % 12))), some (.int 1)]) (st' := [.int (((σ.2.1 39) (i / 12)) &&& ((σ.2.1 39) (i % 12))), .int (nI i), .ref 40]) (hp' := wd σ) rfl ?_
          refine AW_callS hT hK 42 [.int (((σ.2.1 39) (i / 12)) &&& ((σ.2.1 39) (i % 12)))] [.int (nI i), .ref 40] (m_X6_count l0 σ (((σ.2.1 39) (i / 12)) &&& ((σ.2.1 39) (i % 12))) (hw)) cw_X6_count lk_X6_65 sm_X6_count rfl rfl rfl rfl (Nat.le_of_ble_eq_true rfl) (Nat.le_of_ble_eq_true rfl) (AW_k1 (fun v14 h13 => ?_))
          refine AW_g hT cl_X6 hK 43 2 (pc' := 75) (lo' := [some (.ref 36), some (.int (nI i)), some (.int (nI (i / 12))), some (.int (nI (i % 12))), some (.int 1)]) (st' := [.int (nI (i / 12)), .ref 36, .int v14, .int (nI i), .ref 40]) (hp' := wd σ) rfl ?_
          refine AW_callV hT hK 45 [.int (nI (i / 12))] [.int v14, .int (nI i), .ref 40] (m_X6_citers l0 σ (nI (i / 12)) (hw)) cw_X6_citers lk_X6_61 vi_X6_citers rfl rfl rfl rfl rfl rfl (Nat.le_of_ble_eq_true rfl) (Nat.le_of_ble_eq_true rfl) (AW_k1 (fun v16 h15 => ?_))
          refine AW_g hT cl_X6 hK 46 2 (pc' := 80) (lo' := [some (.ref 36), some (.int (nI i)), some (.int (nI (i / 12))), some (.int (nI (i % 12))), some (.int 1)]) (st' := [.int (nI (i % 12)), .ref 36, .int v16, .int v14, .int (nI i), .ref 40]) (hp' := wd σ) rfl ?_
          refine AW_callV hT hK 48 [.int (nI (i % 12))] [.int v16, .int v14, .int (nI i), .ref 40] (m_X6_citers l0 σ (nI (i % 12)) (hw)) cw_X6_citers lk_X6_61 vi_X6_citers rfl rfl rfl rfl rfl rfl (Nat.le_of_ble_eq_true rfl) (Nat.le_of_ble_eq_true rfl) (AW_k1 (fun v18 h17 => ?_))
          refine AW_g hT cl_X6 hK 49 1 (pc' := 84) (lo' := [some (.ref 36), some (.int (nI i)), some (.int (nI (i / 12))), some (.int (nI (i % 12))), some (.int 1)]) (st' := [.int (v16 &&& v18), .int v14, .int (nI i), .ref 40]) (hp' := wd σ) rfl ?_
          refine AW_callS hT hK 50 [.int (v16 &&& v18)] [.int v14, .int (nI i), .ref 40] (m_X6_count l0 σ (v16 &&& v18) (hw)) cw_X6_count lk_X6_65 sm_X6_count rfl rfl rfl rfl (Nat.le_of_ble_eq_true rfl) (Nat.le_of_ble_eq_true rfl) (AW_k1 (fun v20 h19 => ?_))
          refine AW_g hT cl_X6 hK 51 1 (pc' := 88) (lo' := [some (.ref 36), some (.int (nI i)), some (.int (nI (i / 12))), some (.int (nI (i % 12))), some (.int 1)]) (st' := [.int (v14 + v20), .int (nI i), .ref 40]) (hp' := wd σ) rfl ?_
          refine AW_goto hT hK 52 (tgt := 92) rfl rfl ?_
          refine AW_topi (fun u21 h22 => ?_)
          refine AW_iastv hT hK 54 i rfl (n := 144) (f := (σ.2.1 40)) rfl rfl (by omega) (by decide) ?_
          refine AW_to (hp' := wd (sG σ 40 (va_up (σ.2.1 40) i u21))) rfl rfl (wd_40 _ _) ?_
          refine AW_g hT cl_X6 hK 55 1 (pc' := 96) (lo' := [some (.ref 36), some (.int ((nI i) + 1)), some (.int (nI (i / 12))), some (.int (nI (i % 12))), some (.int 1)]) (st' := []) (hp' := wd (sG σ 40 (va_up (σ.2.1 40) i u21))) rfl ?_
          refine AW_goto hT hK 56 (tgt := 2) rfl rfl ?_
          refine AW_msk [true, true, false, false, false] (lo' := [some (.ref 36), some (.int ((nI i) + 1)), none, none, none]) rfl ?_
          refine AW_to (lo' := [some (.ref 36), some (.int (nI (i + 1))), none, none, none]) (by rw [nI_1]) rfl rfl ?_
          subst h22; subst h19; subst h17; subst h15; subst h13; subst h8; subst h4; skip
          exact ih (i + 1) _ (by omega) hw (fun s' hs' => kx s' ((congrArg (az_it _ n (i + 1)) (by simp only [b_X6_laysWeights_2, if_neg c2, if_neg c6, if_neg c10])).trans hs'))
def x_X6_laysWeights (σ : az_S) : az_S :=
  let s24 := az_it (fun ι s => b_X6_laysWeights_2 ι s) 144 0 σ
  s24
set_option maxRecDepth 100000 in
set_option maxHeartbeats 4000000 in
theorem m_X6_laysWeights (l0 : Launch) (σ : az_S) (hw : az_wf σ) : AMet l0 yX6_laysWeights cX6_laysWeights 5 none ({ frames := 2, cells := 0, slots := 0, locals := 43 } : Room) false [.ref 36] (wd σ) (fun r h => r = none ∧ h = wd (x_X6_laysWeights σ)) := by
  refine AMet_of (by decide +kernel) (by simp [Value.category]) (Nat.le_of_ble_eq_true rfl) (fun K hK hct hG hE => ?_)
  have hT := tt_X6_laysWeights
  have hw2 := hw.2
  refine AW_g hT cl_X6 hK 0 2 (pc' := 2) (lo' := [some (.ref 36), some (.int 0), none, none, none]) (st' := []) (hp' := wd σ) rfl ?_
  refine AW_to (lo' := [some (.ref 36), some (.int (nI 0)), none, none, none]) (rfl) rfl rfl ?_
  refine lp_X6_laysWeights_2 hT hK 144 0 σ (by first | rfl | omega) hw (fun s24 h25 => ?_)
  have hn27 : nn s24 = nn σ := by rw [← h25]; exact (az_nn_of (kp_X6_laysWeights_2 _ _ _)).trans rfl
  have hw26 : az_wf s24 := by rw [← h25]; exact az_wf_of (kp_X6_laysWeights_2 _ _ _) hw
  refine AW_vret hT hE 57 rfl (Nat.le_of_ble_eq_true rfl) (Nat.le_of_ble_eq_true rfl) ?_
  subst h25; exact ⟨rfl, congrArg wd (by simp only [x_X6_laysWeights])⟩
theorem kp_X6_laysWeights (σ : az_S) : (x_X6_laysWeights σ).1 8 = σ.1 8 := by
  unfold x_X6_laysWeights
  (try dsimp only)
  (repeat' split) <;> first | (simp [az_k8F, az_k8G, az_k8L, kp_X6_laysWeights_2]; done) | rfl
def b_X6_weights_5 (σ : az_S) (d1 : Int32) (d2 : Int32) (i : Nat) (w3 : Int32) : Int32 :=
  if ((d1 >>> ((nI (i / 12)) &&& 31)) &&& 1) = 1 then
    if ((d2 >>> ((nI (i % 12)) &&& 31)) &&& 1) = 1 then
      (w3 + ((σ.2.1 40) i))
    else
      (w3 + 0)
  else
    (w3 + 0)
set_option maxRecDepth 100000 in
set_option maxHeartbeats 4000000 in
theorem lp_X6_weights_5 {K : az_K} {l0 : Launch} (hT : az_Tb cX6_weights tb_X6_weights) (hK : az_OK K RX6 cX6_weights ({ frames := 0, cells := 0, slots := 0, locals := 0 } : Room) l0) (σ : az_S) (d1 : Int32) (d2 : Int32) (hw : az_wf σ) :
    ∀ (n i : Nat) (w3 : Int32) (hi : i + n = 144) (kx : ∀ s' : Int32, az_it (fun ι s => b_X6_weights_5 σ d1 d2 ι s) n i w3 = s' → AW K 0 0 71 [some (.ref 36), some (.int d1), some (.int d2), some (.int s'), none, none] [] (wd σ)), AW K 0 0 5 [some (.ref 36), some (.int d1), some (.int d2), some (.int w3), some (.int (nI i)), none] [] (wd σ) := by
  intro n
  induction n with
  | zero =>
    intro i w3 hi kx
    have hw2 := hw.2
    refine AW_g hT cl_X6 hK 4 2 (pc' := 10) (lo' := [some (.ref 36), some (.int d1), some (.int d2), some (.int w3), some (.int (nI i)), none]) (st' := [.int 144, .int (nI i)]) (hp' := wd σ) rfl ?_
    refine AW_icmp_ge hT hK 6 (tgt := 71) rfl rfl (fun c7 => ?_) (fun c7 => absurd (az_c0 hi) c7)
    refine AW_msk [true, true, true, true, false, false] (lo' := [some (.ref 36), some (.int d1), some (.int d2), some (.int w3), none, none]) rfl ?_
    exact kx w3 rfl
  | succ n ih =>
    intro i w3 hi kx
    have hw2 := hw.2
    refine AW_g hT cl_X6 hK 4 2 (pc' := 10) (lo' := [some (.ref 36), some (.int d1), some (.int d2), some (.int w3), some (.int (nI i)), none]) (st' := [.int 144, .int (nI i)]) (hp' := wd σ) rfl ?_
    refine AW_icmp_ge hT hK 6 (tgt := 71) rfl rfl (fun c1 => absurd c1 (az_c1 hi)) (fun c1 => ?_)
    refine AW_g hT cl_X6 hK 7 3 (pc' := 18) (lo' := [some (.ref 36), some (.int d1), some (.int d2), some (.int w3), some (.int (nI i)), none]) (st' := [.int 12, .int (nI i), .int d1]) (hp' := wd σ) rfl ?_
    refine AW_idivN hT hK 10 i 12 rfl rfl rfl (by omega) (by decide) (by decide) ?_
    refine AW_g hT cl_X6 hK 11 4 (pc' := 23) (lo' := [some (.ref 36), some (.int d1), some (.int d2), some (.int w3), some (.int (nI i)), none]) (st' := [.int 1, .int ((d1 >>> ((nI (i / 12)) &&& 31)) &&& 1)]) (hp' := wd σ) rfl ?_
    refine AW_icmp_ne hT hK 15 (tgt := 43) rfl rfl (fun c2 => ?_) (fun c2 => ?_)
    · refine AW_g hT cl_X6 hK 27 4 (pc' := 49) (lo' := [some (.ref 36), some (.int d1), some (.int d2), some (.int w3), some (.int (nI i)), some (.int 0)]) (st' := [.int 0, .int w3]) (hp' := wd σ) rfl ?_
      refine AW_if_eq hT hK 31 (tgt := 62) rfl rfl (fun _ => ?_) (fun c3 => absurd (by decide) c3)
      refine AW_g hT cl_X6 hK 37 4 (pc' := 68) (lo' := [some (.ref 36), some (.int d1), some (.int d2), some (.int (w3 + 0)), some (.int ((nI i) + 1)), some (.int 0)]) (st' := []) (hp' := wd σ) rfl ?_
      refine AW_goto hT hK 41 (tgt := 5) rfl rfl ?_
      refine AW_msk [true, true, true, true, true, false] (lo' := [some (.ref 36), some (.int d1), some (.int d2), some (.int (w3 + 0)), some (.int ((nI i) + 1)), none]) rfl ?_
      refine AW_to (lo' := [some (.ref 36), some (.int d1), some (.int d2), some (.int (w3 + 0)), some (.int (nI (i + 1))), none]) (by rw [nI_1]) rfl rfl ?_
      exact ih (i + 1) _ (by omega) (fun s' hs' => kx s' ((congrArg (az_it _ n (i + 1)) (by simp only [b_X6_weights_5, if_neg c2])).trans hs'))
    · refine AW_g hT cl_X6 hK 16 3 (pc' := 31) (lo' := [some (.ref 36), some (.int d1), some (.int d2), some (.int w3), some (.int (nI i)), none]) (st' := [.int 12, .int (nI i), .int d2]) (hp' := wd σ) rfl ?_
      refine AW_iremN hT hK 19 i 12 rfl rfl rfl (by omega) (by decide) (by decide) ?_
      refine AW_g hT cl_X6 hK 20 4 (pc' := 36) (lo' := [some (.ref 36), some (.int d1), some (.int d2), some (.int w3), some (.int (nI i)), none]) (st' := [.int 1, .int ((d2 >>> ((nI (i % 12)) &&& 31)) &&& 1)]) (hp' := wd σ) rfl ?_
      refine AW_icmp_ne hT hK 24 (tgt := 43) rfl rfl (fun c4 => ?_) (fun c4 => ?_)
      · refine AW_g hT cl_X6 hK 27 4 (pc' := 49) (lo' := [some (.ref 36), some (.int d1), some (.int d2), some (.int w3), some (.int (nI i)), some (.int 0)]) (st' := [.int 0, .int w3]) (hp' := wd σ) rfl ?_
        refine AW_if_eq hT hK 31 (tgt := 62) rfl rfl (fun _ => ?_) (fun c5 => absurd (by decide) c5)
        refine AW_g hT cl_X6 hK 37 4 (pc' := 68) (lo' := [some (.ref 36), some (.int d1), some (.int d2), some (.int (w3 + 0)), some (.int ((nI i) + 1)), some (.int 0)]) (st' := []) (hp' := wd σ) rfl ?_
        refine AW_goto hT hK 41 (tgt := 5) rfl rfl ?_
        refine AW_msk [true, true, true, true, true, false] (lo' := [some (.ref 36), some (.int d1), some (.int d2), some (.int (w3 + 0)), some (.int ((nI i) + 1)), none]) rfl ?_
        refine AW_to (lo' := [some (.ref 36), some (.int d1), some (.int d2), some (.int (w3 + 0)), some (.int (nI (i + 1))), none]) (by rw [nI_1]) rfl rfl ?_
        exact ih (i + 1) _ (by omega) (fun s' hs' => kx s' ((congrArg (az_it _ n (i + 1)) (by simp only [b_X6_weights_5, if_pos c2, if_neg c4])).trans hs'))
      · refine AW_g hT cl_X6 hK 25 1 (pc' := 40) (lo' := [some (.ref 36), some (.int d1), some (.int d2), some (.int w3), some (.int (nI i)), none]) (st' := [.int 1]) (hp' := wd σ) rfl ?_
        refine AW_goto hT hK 26 (tgt := 44) rfl rfl ?_
        refine AW_g hT cl_X6 hK 28 3 (pc' := 49) (lo' := [some (.ref 36), some (.int d1), some (.int d2), some (.int w3), some (.int (nI i)), some (.int 1)]) (st' := [.int 1, .int w3]) (hp' := wd σ) rfl ?_
        refine AW_if_eq hT hK 31 (tgt := 62) rfl rfl (fun c6 => absurd c6 (by decide)) (fun _ => ?_)
        refine AW_g hT cl_X6 hK 32 3 (pc' := 58) (lo' := [some (.ref 36), some (.int d1), some (.int d2), some (.int w3), some (.int (nI i)), some (.int 1)]) (st' := [.int (nI i), .ref 40, .int w3]) (hp' := wd σ) rfl ?_
        refine AW_iald hT hK 35 i rfl (n := 144) (f := (σ.2.1 40)) rfl rfl (by omega) (by decide) ?_
        refine AW_goto hT hK 36 (tgt := 63) rfl rfl ?_
        refine AW_g hT cl_X6 hK 38 3 (pc' := 68) (lo' := [some (.ref 36), some (.int d1), some (.int d2), some (.int (w3 + ((σ.2.1 40) i))), some (.int ((nI i) + 1)), some (.int 1)]) (st' := []) (hp' := wd σ) rfl ?_
        refine AW_goto hT hK 41 (tgt := 5) rfl rfl ?_
        refine AW_msk [true, true, true, true, true, false] (lo' := [some (.ref 36), some (.int d1), some (.int d2), some (.int (w3 + ((σ.2.1 40) i))), some (.int ((nI i) + 1)), none]) rfl ?_
        refine AW_to (lo' := [some (.ref 36), some (.int d1), some (.int d2), some (.int (w3 + ((σ.2.1 40) i))), some (.int (nI (i + 1))), none]) (by rw [nI_1]) rfl rfl ?_
        exact ih (i + 1) _ (by omega) (fun s' hs' => kx s' ((congrArg (az_it _ n (i + 1)) (by simp only [b_X6_weights_5, if_pos c2, if_pos c4])).trans hs'))
def x_X6_weights (σ : az_S) (p0 : Int32) (p1 : Int32) : Int32 :=
  let s8 := az_it (fun ι s => b_X6_weights_5 σ p0 p1 ι s) 144 0 0
  s8
set_option maxRecDepth 100000 in
set_option maxHeartbeats 4000000 in
theorem m_X6_weights (l0 : Launch) (σ : az_S) (p0 : Int32) (p1 : Int32) (hw : az_wf σ) : AMet l0 yX6_weights cX6_weights 6 (some .int) ({ frames := 0, cells := 0, slots := 0, locals := 0 } : Room) false [.ref 36, .int p0, .int p1] (wd σ) (fun r h => r = some (.int (x_X6_weights σ p0 p1)) ∧ h = wd σ) := by
  refine AMet_of (by decide +kernel) (by simp [Value.category]) (Nat.le_of_ble_eq_true rfl) (fun K hK hct hG hE => ?_)
  have hT := tt_X6_weights
  have hw2 := hw.2
  refine AW_g hT cl_X6 hK 0 4 (pc' := 5) (lo' := [some (.ref 36), some (.int p0), some (.int p1), some (.int 0), some (.int 0), none]) (st' := []) (hp' := wd σ) rfl ?_
  refine AW_to (lo' := [some (.ref 36), some (.int p0), some (.int p1), some (.int 0), some (.int (nI 0)), none]) (rfl) rfl rfl ?_
  refine lp_X6_weights_5 hT hK σ p0 p1 hw 144 0 0 (by first | rfl | omega) (fun s8 h9 => ?_)
  refine AW_g hT cl_X6 hK 42 1 (pc' := 72) (lo' := [some (.ref 36), some (.int p0), some (.int p1), some (.int s8), none, none]) (st' := [.int s8]) (hp' := wd σ) rfl ?_
  refine AW_iret hT hE 43 rfl rfl rfl (Nat.le_of_ble_eq_true rfl) (Nat.le_of_ble_eq_true rfl) ?_
  subst h9; exact ⟨by simp only [x_X6_weights], rfl⟩
def x_X6_totalNow (σ : az_S) : Int32 × az_S :=
  let τ2 := x_X6_laysWeights σ
  let v6 := x_X6_all (τ2)
  let v8 := x_X6_all (τ2)
  let v10 := x_X6_weights (τ2) v6 v8
  ((v10 / 2), τ2)
set_option maxRecDepth 100000 in
set_option maxHeartbeats 4000000 in
theorem m_X6_totalNow (l0 : Launch) (σ : az_S) (hw : az_wf σ) : AMet l0 yX6_totalNow cX6_totalNow 1 (some .int) ({ frames := 3, cells := 0, slots := 0, locals := 67 } : Room) false [.ref 36] (wd σ) (fun r h => r = some (.int (x_X6_totalNow σ).1) ∧ h = wd (x_X6_totalNow σ).2) := by
  refine AMet_of (by decide +kernel) (by simp [Value.category]) (Nat.le_of_ble_eq_true rfl) (fun K hK hct hG hE => ?_)
  have hT := tt_X6_totalNow
  have hw2 := hw.2
  refine AW_g hT cl_X6 hK 0 1 (pc' := 1) (lo' := [some (.ref 36)]) (st' := [.ref 36]) (hp' := wd σ) rfl ?_
  refine AW_callV hT hK 1 [] [] (m_X6_laysWeights l0 σ (hw)) cw_X6_laysWeights lk_X6_72 vi_X6_laysWeights rfl rfl rfl rfl rfl rfl (Nat.le_of_ble_eq_true rfl) (Nat.le_of_ble_eq_true rfl) (AW_kv (fun τ2 h1 => ?_))
  have hn4 : nn τ2 = nn σ := by rw [← h1]; exact (az_nn_of (kp_X6_laysWeights _)).trans rfl
  have hw3 : az_wf τ2 := by rw [← h1]; exact az_wf_of (kp_X6_laysWeights _) hw
  refine AW_g hT cl_X6 hK 2 2 (pc' := 6) (lo' := [some (.ref 36)]) (st' := [.ref 36, .ref 36]) (hp' := wd (τ2)) rfl ?_
  refine AW_callV hT hK 4 [] [.ref 36] (m_X6_all l0 (τ2) (hw3)) cw_X6_all lk_X6_54 vi_X6_all rfl rfl rfl rfl rfl rfl (Nat.le_of_ble_eq_true rfl) (Nat.le_of_ble_eq_true rfl) (AW_k1 (fun v6 h5 => ?_))
  refine AW_g hT cl_X6 hK 5 1 (pc' := 10) (lo' := [some (.ref 36)]) (st' := [.ref 36, .int v6, .ref 36]) (hp' := wd (τ2)) rfl ?_
  refine AW_callV hT hK 6 [] [.int v6, .ref 36] (m_X6_all l0 (τ2) (hw3)) cw_X6_all lk_X6_54 vi_X6_all rfl rfl rfl rfl rfl rfl (Nat.le_of_ble_eq_true rfl) (Nat.le_of_ble_eq_true rfl) (AW_k1 (fun v8 h7 => ?_))
  refine AW_callV hT hK 7 [.int v6, .int v8] [] (m_X6_weights l0 (τ2) v6 v8 (hw3)) cw_X6_weights lk_X6_75 vi_X6_weights rfl rfl rfl rfl rfl rfl (Nat.le_of_ble_eq_true rfl) (Nat.le_of_ble_eq_true rfl) (AW_k1 (fun v10 h9 => ?_))
  refine AW_g hT cl_X6 hK 8 1 (pc' := 17) (lo' := [some (.ref 36)]) (st' := [.int 2, .int v10]) (hp' := wd (τ2)) rfl ?_
  refine AW_idiv hT hK 9 rfl (by decide) ?_
  refine AW_iret hT hE 10 rfl rfl rfl (Nat.le_of_ble_eq_true rfl) (Nat.le_of_ble_eq_true rfl) ?_
  subst h9; subst h7; subst h5; subst h1; exact ⟨by simp only [x_X6_totalNow], by simp only [x_X6_totalNow]⟩
theorem kp_X6_totalNow (σ : az_S) : (x_X6_totalNow σ).2.1 8 = σ.1 8 := by
  unfold x_X6_totalNow
  (try dsimp only)
  (repeat' split) <;> first | (simp [az_k8F, az_k8G, az_k8L, kp_X6_laysWeights]; done) | rfl
def x_X6_totalAnew (σ : az_S) : Int32 × az_S :=
  let q2 := x_X6_totalNow (sF σ 9 0)
  (q2.1, q2.2)
set_option maxRecDepth 100000 in
set_option maxHeartbeats 4000000 in
theorem m_X6_totalAnew (l0 : Launch) (σ : az_S) (hw : az_wf σ) : AMet l0 yX6_totalAnew cX6_totalAnew 1 (some .int) ({ frames := 4, cells := 0, slots := 0, locals := 87 } : Room) false [.ref 36] (wd σ) (fun r h => r = some (.int (x_X6_totalAnew σ).1) ∧ h = wd (x_X6_totalAnew σ).2) := by
  refine AMet_of (by decide +kernel) (by simp [Value.category]) (Nat.le_of_ble_eq_true rfl) (fun K hK hct hG hE => ?_)
  have hT := tt_X6_totalAnew
  have hw2 := hw.2
  refine AW_g hT cl_X6 hK 0 4 (pc' := 6) (lo' := [some (.ref 36)]) (st' := [.ref 36]) (hp' := wd (sF σ 9 0)) rfl ?_
  refine AW_callV hT hK 4 [] [] (m_X6_totalNow l0 (sF σ 9 0) (hw)) cw_X6_totalNow lk_X6_78 vi_X6_totalNow rfl rfl rfl rfl rfl rfl (Nat.le_of_ble_eq_true rfl) (Nat.le_of_ble_eq_true rfl) (AW_kiw (fun q2 h1 => ?_))
  have hn4 : nn q2.2 = nn σ := by rw [← h1]; exact (az_nn_of (kp_X6_totalNow _)).trans rfl
  have hw3 : az_wf q2.2 := by rw [← h1]; exact az_wf_of (kp_X6_totalNow _) hw
  refine AW_iret hT hE 5 rfl rfl rfl (Nat.le_of_ble_eq_true rfl) (Nat.le_of_ble_eq_true rfl) ?_
  subst h1; exact ⟨by simp only [x_X6_totalAnew], by simp only [x_X6_totalAnew]⟩
theorem kp_X6_totalAnew (σ : az_S) : (x_X6_totalAnew σ).2.1 8 = σ.1 8 := by
  unfold x_X6_totalAnew
  (try dsimp only)
  (repeat' split) <;> first | (simp [az_k8F, az_k8G, az_k8L, kp_X6_totalNow]; done) | rfl
def x_X6_total (σ : az_S) : Int32 × az_S :=
  let q2 := x_X6_totalNow (sF σ 9 0)
  (q2.1, q2.2)
set_option maxRecDepth 100000 in
set_option maxHeartbeats 4000000 in
theorem m_X6_total (l0 : Launch) (σ : az_S) (hw : az_wf σ) : AMet l0 yX6_total cX6_total 1 (some .int) ({ frames := 4, cells := 0, slots := 0, locals := 87 } : Room) false [.ref 36] (wd σ) (fun r h => r = some (.int (x_X6_total σ).1) ∧ h = wd (x_X6_total σ).2) := by
  refine AMet_of (by decide +kernel) (by simp [Value.category]) (Nat.le_of_ble_eq_true rfl) (fun K hK hct hG hE => ?_)
  have hT := tt_X6_total
  have hw2 := hw.2
  refine AW_g hT cl_X6 hK 0 4 (pc' := 6) (lo' := [some (.ref 36)]) (st' := [.ref 36]) (hp' := wd (sF σ 9 0)) rfl ?_
  refine AW_callV hT hK 4 [] [] (m_X6_totalNow l0 (sF σ 9 0) (hw)) cw_X6_totalNow lk_X6_78 vi_X6_totalNow rfl rfl rfl rfl rfl rfl (Nat.le_of_ble_eq_true rfl) (Nat.le_of_ble_eq_true rfl) (AW_kiw (fun q2 h1 => ?_))
  have hn4 : nn q2.2 = nn σ := by rw [← h1]; exact (az_nn_of (kp_X6_totalNow _)).trans rfl
  have hw3 : az_wf q2.2 := by rw [← h1]; exact az_wf_of (kp_X6_totalNow _) hw
  refine AW_iret hT hE 5 rfl rfl rfl (Nat.le_of_ble_eq_true rfl) (Nat.le_of_ble_eq_true rfl) ?_
  subst h1; exact ⟨by simp only [x_X6_total], by simp only [x_X6_total]⟩
theorem kp_X6_total (σ : az_S) : (x_X6_total σ).2.1 8 = σ.1 8 := by
  unfold x_X6_total
  (try dsimp only)
  (repeat' split) <;> first | (simp [az_k8F, az_k8G, az_k8L, kp_X6_totalNow]; done) | rfl
def x_X6_gains (σ : az_S) (p0 : Int32) (p1 : Int32) (p2 : Int32) : Int32 :=
  let v2 := x_X6_weights σ p0 p1
  let v4 := x_X6_all σ
  let v6 := x_X6_weights σ p0 v4
  let v8 := x_X6_all σ
  let v10 := x_X6_weights σ p1 v8
  (((2 * p2) * v2) - (v6 * v10))
set_option maxRecDepth 100000 in
set_option maxHeartbeats 4000000 in
theorem m_X6_gains (l0 : Launch) (σ : az_S) (p0 : Int32) (p1 : Int32) (p2 : Int32) (hw : az_wf σ) : AMet l0 yX6_gains cX6_gains 4 (some .int) ({ frames := 1, cells := 0, slots := 0, locals := 25 } : Room) false [.ref 36, .int p0, .int p1, .int p2] (wd σ) (fun r h => r = some (.int (x_X6_gains σ p0 p1 p2)) ∧ h = wd σ) := by
  refine AMet_of (by decide +kernel) (by simp [Value.category]) (Nat.le_of_ble_eq_true rfl) (fun K hK hct hG hE => ?_)
  have hT := tt_X6_gains
  have hw2 := hw.2
  refine AW_g hT cl_X6 hK 0 6 (pc' := 6) (lo' := [some (.ref 36), some (.int p0), some (.int p1), some (.int p2)]) (st' := [.int p1, .int p0, .ref 36, .int (2 * p2)]) (hp' := wd σ) rfl ?_
  refine AW_callV hT hK 6 [.int p0, .int p1] [.int (2 * p2)] (m_X6_weights l0 σ p0 p1 (hw)) cw_X6_weights lk_X6_75 vi_X6_weights rfl rfl rfl rfl rfl rfl (Nat.le_of_ble_eq_true rfl) (Nat.le_of_ble_eq_true rfl) (AW_k1 (fun v2 h1 => ?_))
  refine AW_g hT cl_X6 hK 7 4 (pc' := 13) (lo' := [some (.ref 36), some (.int p0), some (.int p1), some (.int p2)]) (st' := [.ref 36, .int p0, .ref 36, .int ((2 * p2) * v2)]) (hp' := wd σ) rfl ?_
  refine AW_callV hT hK 11 [] [.int p0, .ref 36, .int ((2 * p2) * v2)] (m_X6_all l0 σ (hw)) cw_X6_all lk_X6_54 vi_X6_all rfl rfl rfl rfl rfl rfl (Nat.le_of_ble_eq_true rfl) (Nat.le_of_ble_eq_true rfl) (AW_k1 (fun v4 h3 => ?_))
  refine AW_callV hT hK 12 [.int p0, .int v4] [.int ((2 * p2) * v2)] (m_X6_weights l0 σ p0 v4 (hw)) cw_X6_weights lk_X6_75 vi_X6_weights rfl rfl rfl rfl rfl rfl (Nat.le_of_ble_eq_true rfl) (Nat.le_of_ble_eq_true rfl) (AW_k1 (fun v6 h5 => ?_))
  refine AW_g hT cl_X6 hK 13 3 (pc' := 22) (lo' := [some (.ref 36), some (.int p0), some (.int p1), some (.int p2)]) (st' := [.ref 36, .int p1, .ref 36, .int v6, .int ((2 * p2) * v2)]) (hp' := wd σ) rfl ?_
  refine AW_callV hT hK 16 [] [.int p1, .ref 36, .int v6, .int ((2 * p2) * v2)] (m_X6_all l0 σ (hw)) cw_X6_all lk_X6_54 vi_X6_all rfl rfl rfl rfl rfl rfl (Nat.le_of_ble_eq_true rfl) (Nat.le_of_ble_eq_true rfl) (AW_k1 (fun v8 h7 => ?_))
  refine AW_callV hT hK 17 [.int p1, .int v8] [.int v6, .int ((2 * p2) * v2)] (m_X6_weights l0 σ p1 v8 (hw)) cw_X6_weights lk_X6_75 vi_X6_weights rfl rfl rfl rfl rfl rfl (Nat.le_of_ble_eq_true rfl) (Nat.le_of_ble_eq_true rfl) (AW_k1 (fun v10 h9 => ?_))
  refine AW_g hT cl_X6 hK 18 2 (pc' := 30) (lo' := [some (.ref 36), some (.int p0), some (.int p1), some (.int p2)]) (st' := [.int (((2 * p2) * v2) - (v6 * v10))]) (hp' := wd σ) rfl ?_
  refine AW_iret hT hE 20 rfl rfl rfl (Nat.le_of_ble_eq_true rfl) (Nat.le_of_ble_eq_true rfl) ?_
  subst h9; subst h7; subst h5; subst h3; subst h1; exact ⟨by simp only [x_X6_gains], rfl⟩
def b_X6_rises_5 (σ : az_S) (d1 : Int32) (d2 : Int32) (i : Nat) (w3 : Int32) : Int32 :=
  if ((σ.2.1 37) i) = 0 then
    (w3 + 0)
  else
    if ((((σ.2.1 39) i) >>> (d1 &&& 31)) &&& 1) = 1 then
      if ((σ.2.1 38) i) = d2 then
        (w3 + 1)
      else
        if ((σ.2.1 38) i) = (d2 - 1) then
          (w3 + (-1))
        else
          (w3 + 0)
    else
      (w3 + 0)
set_option maxRecDepth 100000 in
set_option maxHeartbeats 4000000 in
theorem lp_X6_rises_5 {K : az_K} {l0 : Launch} (hT : az_Tb cX6_rises tb_X6_rises) (hK : az_OK K RX6 cX6_rises ({ frames := 0, cells := 0, slots := 0, locals := 0 } : Room) l0) (σ : az_S) (d1 : Int32) (d2 : Int32) (hw : az_wf σ) :
    ∀ (n i : Nat) (w3 : Int32) (hi : i + n = nn σ) (kx : ∀ s' : Int32, az_it (fun ι s => b_X6_rises_5 σ d1 d2 ι s) n i w3 = s' → AW K 0 0 98 [some (.ref 36), some (.int d1), some (.int d2), some (.int s'), none, none] [] (wd σ)), AW K 0 0 5 [some (.ref 36), some (.int d1), some (.int d2), some (.int w3), some (.int (nI i)), none] [] (wd σ) := by
  intro n
  induction n with
  | zero =>
    intro i w3 hi kx
    have hw2 := hw.2
    refine AW_g hT cl_X6 hK 4 3 (pc' := 11) (lo' := [some (.ref 36), some (.int d1), some (.int d2), some (.int w3), some (.int (nI i)), none]) (st' := [.int (σ.1 8), .int (nI i)]) (hp' := wd σ) rfl ?_
    refine AW_icmp_ge hT hK 7 (tgt := 98) rfl rfl (fun c12 => ?_) (fun c12 => absurd (az_cn0 hw hi) c12)
    refine AW_msk [true, true, true, true, false, false] (lo' := [some (.ref 36), some (.int d1), some (.int d2), some (.int w3), none, none]) rfl ?_
    exact kx w3 rfl
  | succ n ih =>
    intro i w3 hi kx
    have hw2 := hw.2
    refine AW_g hT cl_X6 hK 4 3 (pc' := 11) (lo' := [some (.ref 36), some (.int d1), some (.int d2), some (.int w3), some (.int (nI i)), none]) (st' := [.int (σ.1 8), .int (nI i)]) (hp' := wd σ) rfl ?_
    refine AW_icmp_ge hT hK 7 (tgt := 98) rfl rfl (fun c1 => absurd c1 (az_cn1 hw hi)) (fun c1 => ?_)
    refine AW_g hT cl_X6 hK 8 3 (pc' := 20) (lo' := [some (.ref 36), some (.int d1), some (.int d2), some (.int w3), some (.int (nI i)), none]) (st' := [.int (nI i), .ref 37]) (hp' := wd σ) rfl ?_
    refine AW_zald hT hK 11 i rfl (n := 12) (f := (σ.2.1 37)) rfl rfl (by omega) (by decide) ?_
    refine AW_if_eq hT hK 12 (tgt := 43) rfl rfl (fun c2 => ?_) (fun c2 => ?_)
    · refine AW_g hT cl_X6 hK 25 4 (pc' := 49) (lo' := [some (.ref 36), some (.int d1), some (.int d2), some (.int w3), some (.int (nI i)), some (.int 0)]) (st' := [.int 0, .int w3]) (hp' := wd σ) rfl ?_
      refine AW_if_eq hT hK 29 (tgt := 67) rfl rfl (fun _ => ?_) (fun c3 => absurd (by decide) c3)
      refine AW_g hT cl_X6 hK 38 1 (pc' := 69) (lo' := [some (.ref 36), some (.int d1), some (.int d2), some (.int w3), some (.int (nI i)), some (.int 0)]) (st' := [.int 0, .int w3]) (hp' := wd σ) rfl ?_
      refine AW_if_eq hT hK 39 (tgt := 89) rfl rfl (fun _ => ?_) (fun c4 => absurd (by decide) c4)
      refine AW_g hT cl_X6 hK 50 4 (pc' := 95) (lo' := [some (.ref 36), some (.int d1), some (.int d2), some (.int (w3 + 0)), some (.int ((nI i) + 1)), some (.int 0)]) (st' := []) (hp' := wd σ) rfl ?_
      refine AW_goto hT hK 54 (tgt := 5) rfl rfl ?_
      refine AW_msk [true, true, true, true, true, false] (lo' := [some (.ref 36), some (.int d1), some (.int d2), some (.int (w3 + 0)), some (.int ((nI i) + 1)), none]) rfl ?_
      refine AW_to (lo' := [some (.ref 36), some (.int d1), some (.int d2), some (.int (w3 + 0)), some (.int (nI (i + 1))), none]) (by rw [nI_1]) rfl rfl ?_
      exact ih (i + 1) _ (by omega) (fun s' hs' => kx s' ((congrArg (az_it _ n (i + 1)) (by simp only [b_X6_rises_5, if_pos c2])).trans hs'))
    · refine AW_g hT cl_X6 hK 13 3 (pc' := 30) (lo' := [some (.ref 36), some (.int d1), some (.int d2), some (.int w3), some (.int (nI i)), none]) (st' := [.int (nI i), .ref 39]) (hp' := wd σ) rfl ?_
      refine AW_iald hT hK 16 i rfl (n := 12) (f := (σ.2.1 39)) rfl rfl (by omega) (by decide) ?_
      refine AW_g hT cl_X6 hK 17 5 (pc' := 36) (lo' := [some (.ref 36), some (.int d1), some (.int d2), some (.int w3), some (.int (nI i)), none]) (st' := [.int 1, .int ((((σ.2.1 39) i) >>> (d1 &&& 31)) &&& 1)]) (hp' := wd σ) rfl ?_
      refine AW_icmp_ne hT hK 22 (tgt := 43) rfl rfl (fun c5 => ?_) (fun c5 => ?_)
      · refine AW_g hT cl_X6 hK 25 4 (pc' := 49) (lo' := [some (.ref 36), some (.int d1), some (.int d2), some (.int w3), some (.int (nI i)), some (.int 0)]) (st' := [.int 0, .int w3]) (hp' := wd σ) rfl ?_
        refine AW_if_eq hT hK 29 (tgt := 67) rfl rfl (fun _ => ?_) (fun c6 => absurd (by decide) c6)
        refine AW_g hT cl_X6 hK 38 1 (pc' := 69) (lo' := [some (.ref 36), some (.int d1), some (.int d2), some (.int w3), some (.int (nI i)), some (.int 0)]) (st' := [.int 0, .int w3]) (hp' := wd σ) rfl ?_
        refine AW_if_eq hT hK 39 (tgt := 89) rfl rfl (fun _ => ?_) (fun c7 => absurd (by decide) c7)
        refine AW_g hT cl_X6 hK 50 4 (pc' := 95) (lo' := [some (.ref 36), some (.int d1), some (.int d2), some (.int (w3 + 0)), some (.int ((nI i) + 1)), some (.int 0)]) (st' := []) (hp' := wd σ) rfl ?_
        refine AW_goto hT hK 54 (tgt := 5) rfl rfl ?_
        refine AW_msk [true, true, true, true, true, false] (lo' := [some (.ref 36), some (.int d1), some (.int d2), some (.int (w3 + 0)), some (.int ((nI i) + 1)), none]) rfl ?_
        refine AW_to (lo' := [some (.ref 36), some (.int d1), some (.int d2), some (.int (w3 + 0)), some (.int (nI (i + 1))), none]) (by rw [nI_1]) rfl rfl ?_
        exact ih (i + 1) _ (by omega) (fun s' hs' => kx s' ((congrArg (az_it _ n (i + 1)) (by simp only [b_X6_rises_5, if_neg c2, if_neg c5])).trans hs'))
      · refine AW_g hT cl_X6 hK 23 1 (pc' := 40) (lo' := [some (.ref 36), some (.int d1), some (.int d2), some (.int w3), some (.int (nI i)), none]) (st' := [.int 1]) (hp' := wd σ) rfl ?_
        refine AW_goto hT hK 24 (tgt := 44) rfl rfl ?_
        refine AW_g hT cl_X6 hK 26 3 (pc' := 49) (lo' := [some (.ref 36), some (.int d1), some (.int d2), some (.int w3), some (.int (nI i)), some (.int 1)]) (st' := [.int 1, .int w3]) (hp' := wd σ) rfl ?_
        refine AW_if_eq hT hK 29 (tgt := 67) rfl rfl (fun c8 => absurd c8 (by decide)) (fun _ => ?_)
        refine AW_g hT cl_X6 hK 30 3 (pc' := 58) (lo' := [some (.ref 36), some (.int d1), some (.int d2), some (.int w3), some (.int (nI i)), some (.int 1)]) (st' := [.int (nI i), .ref 38, .int w3]) (hp' := wd σ) rfl ?_
        refine AW_iald hT hK 33 i rfl (n := 12) (f := (σ.2.1 38)) rfl rfl (by omega) (by decide) ?_
        refine AW_g hT cl_X6 hK 34 1 (pc' := 60) (lo' := [some (.ref 36), some (.int d1), some (.int d2), some (.int w3), some (.int (nI i)), some (.int 1)]) (st' := [.int d2, .int ((σ.2.1 38) i), .int w3]) (hp' := wd σ) rfl ?_
        refine AW_icmp_ne hT hK 35 (tgt := 67) rfl rfl (fun c9 => ?_) (fun c9 => ?_)
        · refine AW_g hT cl_X6 hK 38 1 (pc' := 69) (lo' := [some (.ref 36), some (.int d1), some (.int d2), some (.int w3), some (.int (nI i)), some (.int 1)]) (st' := [.int 1, .int w3]) (hp' := wd σ) rfl ?_
          refine AW_if_eq hT hK 39 (tgt := 89) rfl rfl (fun c10 => absurd c10 (by decide)) (fun _ => ?_)
          refine AW_g hT cl_X6 hK 40 3 (pc' := 78) (lo' := [some (.ref 36), some (.int d1), some (.int d2), some (.int w3), some (.int (nI i)), some (.int 1)]) (st' := [.int (nI i), .ref 38, .int w3]) (hp' := wd σ) rfl ?_
          refine AW_iald hT hK 43 i rfl (n := 12) (f := (σ.2.1 38)) rfl rfl (by omega) (by decide) ?_
          refine AW_g hT cl_X6 hK 44 3 (pc' := 82) (lo' := [some (.ref 36), some (.int d1), some (.int d2), some (.int w3), some (.int (nI i)), some (.int 1)]) (st' := [.int (d2 - 1), .int ((σ.2.1 38) i), .int w3]) (hp' := wd σ) rfl ?_
          refine AW_icmp_ne hT hK 47 (tgt := 89) rfl rfl (fun c11 => ?_) (fun c11 => ?_)
          · refine AW_g hT cl_X6 hK 50 4 (pc' := 95) (lo' := [some (.ref 36), some (.int d1), some (.int d2), some (.int (w3 + 0)), some (.int ((nI i) + 1)), some (.int 1)]) (st' := []) (hp' := wd σ) rfl ?_
            refine AW_goto hT hK 54 (tgt := 5) rfl rfl ?_
            refine AW_msk [true, true, true, true, true, false] (lo' := [some (.ref 36), some (.int d1), some (.int d2), some (.int (w3 + 0)), some (.int ((nI i) + 1)), none]) rfl ?_
            refine AW_to (lo' := [some (.ref 36), some (.int d1), some (.int d2), some (.int (w3 + 0)), some (.int (nI (i + 1))), none]) (by rw [nI_1]) rfl rfl ?_
            exact ih (i + 1) _ (by omega) (fun s' hs' => kx s' ((congrArg (az_it _ n (i + 1)) (by simp only [b_X6_rises_5, if_neg c2, if_pos c5, if_neg c9, if_neg c11])).trans hs'))
          · refine AW_g hT cl_X6 hK 48 1 (pc' := 86) (lo' := [some (.ref 36), some (.int d1), some (.int d2), some (.int w3), some (.int (nI i)), some (.int 1)]) (st' := [.int (-1), .int w3]) (hp' := wd σ) rfl ?_
            refine AW_goto hT hK 49 (tgt := 90) rfl rfl ?_
            refine AW_g hT cl_X6 hK 51 3 (pc' := 95) (lo' := [some (.ref 36), some (.int d1), some (.int d2), some (.int (w3 + (-1))), some (.int ((nI i) + 1)), some (.int 1)]) (st' := []) (hp' := wd σ) rfl ?_
            refine AW_goto hT hK 54 (tgt := 5) rfl rfl ?_
            refine AW_msk [true, true, true, true, true, false] (lo' := [some (.ref 36), some (.int d1), some (.int d2), some (.int (w3 + (-1))), some (.int ((nI i) + 1)), none]) rfl ?_
            refine AW_to (lo' := [some (.ref 36), some (.int d1), some (.int d2), some (.int (w3 + (-1))), some (.int (nI (i + 1))), none]) (by rw [nI_1]) rfl rfl ?_
            exact ih (i + 1) _ (by omega) (fun s' hs' => kx s' ((congrArg (az_it _ n (i + 1)) (by simp only [b_X6_rises_5, if_neg c2, if_pos c5, if_neg c9, if_pos c11])).trans hs'))
        · refine AW_g hT cl_X6 hK 36 1 (pc' := 64) (lo' := [some (.ref 36), some (.int d1), some (.int d2), some (.int w3), some (.int (nI i)), some (.int 1)]) (st' := [.int 1, .int w3]) (hp' := wd σ) rfl ?_
          refine AW_goto hT hK 37 (tgt := 90) rfl rfl ?_
          refine AW_g hT cl_X6 hK 51 3 (pc' := 95) (lo' := [some (.ref 36), some (.int d1), some (.int d2), some (.int (w3 + 1)), some (.int ((nI i) + 1)), some (.int 1)]) (st' := []) (hp' := wd σ) rfl ?_
          refine AW_goto hT hK 54 (tgt := 5) rfl rfl ?_
          refine AW_msk [true, true, true, true, true, false] (lo' := [some (.ref 36), some (.int d1), some (.int d2), some (.int (w3 + 1)), some (.int ((nI i) + 1)), none]) rfl ?_
          refine AW_to (lo' := [some (.ref 36), some (.int d1), some (.int d2), some (.int (w3 + 1)), some (.int (nI (i + 1))), none]) (by rw [nI_1]) rfl rfl ?_
          exact ih (i + 1) _ (by omega) (fun s' hs' => kx s' ((congrArg (az_it _ n (i + 1)) (by simp only [b_X6_rises_5, if_neg c2, if_pos c5, if_pos c9])).trans hs'))
def x_X6_rises (σ : az_S) (p0 : Int32) (p1 : Int32) : Int32 :=
  let s13 := az_it (fun ι s => b_X6_rises_5 σ p0 p1 ι s) (nn σ) 0 0
  s13
set_option maxRecDepth 100000 in
set_option maxHeartbeats 4000000 in
theorem m_X6_rises (l0 : Launch) (σ : az_S) (p0 : Int32) (p1 : Int32) (hw : az_wf σ) : AMet l0 yX6_rises cX6_rises 6 (some .int) ({ frames := 0, cells := 0, slots := 0, locals := 0 } : Room) false [.ref 36, .int p0, .int p1] (wd σ) (fun r h => r = some (.int (x_X6_rises σ p0 p1)) ∧ h = wd σ) := by
  refine AMet_of (by decide +kernel) (by simp [Value.category]) (Nat.le_of_ble_eq_true rfl) (fun K hK hct hG hE => ?_)
  have hT := tt_X6_rises
  have hw2 := hw.2
  refine AW_g hT cl_X6 hK 0 4 (pc' := 5) (lo' := [some (.ref 36), some (.int p0), some (.int p1), some (.int 0), some (.int 0), none]) (st' := []) (hp' := wd σ) rfl ?_
  refine AW_to (lo' := [some (.ref 36), some (.int p0), some (.int p1), some (.int 0), some (.int (nI 0)), none]) (rfl) rfl rfl ?_
  refine lp_X6_rises_5 hT hK σ p0 p1 hw (nn σ) 0 0 (by have h9 : nn σ = nn σ := rfl; omega) (fun s13 h14 => ?_)
  refine AW_g hT cl_X6 hK 55 1 (pc' := 99) (lo' := [some (.ref 36), some (.int p0), some (.int p1), some (.int s13), none, none]) (st' := [.int s13]) (hp' := wd σ) rfl ?_
  refine AW_iret hT hE 56 rfl rfl rfl (Nat.le_of_ble_eq_true rfl) (Nat.le_of_ble_eq_true rfl) ?_
  subst h14; exact ⟨by simp only [x_X6_rises], rfl⟩
def x_X6_rise (σ : az_S) (p0 : Int32) (p1 : Int32) : Int32 × az_S :=
  let v2 := x_X6_isPaper σ p0
  if v2 = 0 then
    (0, (sF σ 9 1))
  else
    let v5 := x_X6_isIn σ p1 0 99
    if v5 = 0 then
      (0, (sF σ 9 2))
    else
      let v12 := x_X6_rises (sF σ 9 0) p0 p1
      (v12, (sF σ 9 0))
set_option maxRecDepth 100000 in
set_option maxHeartbeats 4000000 in
theorem m_X6_rise (l0 : Launch) (σ : az_S) (p0 : Int32) (p1 : Int32) (hw : az_wf σ) : AMet l0 yX6_rise cX6_rise 3 (some .int) ({ frames := 2, cells := 0, slots := 0, locals := 43 } : Room) false [.ref 36, .int p0, .int p1] (wd σ) (fun r h => r = some (.int (x_X6_rise σ p0 p1).1) ∧ h = wd (x_X6_rise σ p0 p1).2) := by
  refine AMet_of (by decide +kernel) (by simp [Value.category]) (Nat.le_of_ble_eq_true rfl) (fun K hK hct hG hE => ?_)
  have hT := tt_X6_rise
  have hw2 := hw.2
  refine AW_g hT cl_X6 hK 0 3 (pc' := 3) (lo' := [some (.ref 36), some (.int p0), some (.int p1)]) (st' := [.int p0, .ref 36, .ref 36]) (hp' := wd σ) rfl ?_
  refine AW_callV hT hK 3 [.int p0] [.ref 36] (m_X6_isPaper l0 σ p0 (hw)) cw_X6_isPaper lk_X6_47 vi_X6_isPaper rfl rfl rfl rfl rfl rfl (Nat.le_of_ble_eq_true rfl) (Nat.le_of_ble_eq_true rfl) (AW_k1 (fun v2 h1 => ?_))
  refine AW_if_ne hT hK 4 (tgt := 13) rfl rfl (fun c3 => ?_) (fun c3 => ?_)
  · refine AW_g hT cl_X6 hK 7 3 (pc' := 17) (lo' := [some (.ref 36), some (.int p0), some (.int p1)]) (st' := [.int 99, .int 0, .int p1, .ref 36]) (hp' := wd σ) rfl ?_
    refine AW_callS hT hK 10 [.int p1, .int 0, .int 99] [.ref 36] (m_X6_isIn l0 σ p1 0 99 (hw)) cw_X6_isIn lk_X6_43 sm_X6_isIn rfl rfl rfl rfl (Nat.le_of_ble_eq_true rfl) (Nat.le_of_ble_eq_true rfl) (AW_k1 (fun v5 h4 => ?_))
    refine AW_if_eq hT hK 11 (tgt := 27) rfl rfl (fun c6 => ?_) (fun c6 => ?_)
    · refine AW_g hT cl_X6 hK 14 1 (pc' := 28) (lo' := [some (.ref 36), some (.int p0), some (.int p1)]) (st' := [.int 2, .ref 36]) (hp' := wd σ) rfl ?_
      refine AW_callV hT hK 15 [.int 2] [] (m_X6_goes l0 σ 2 (hw)) cw_X6_goes lk_X6_51 vi_X6_goes rfl rfl rfl rfl rfl rfl (Nat.le_of_ble_eq_true rfl) (Nat.le_of_ble_eq_true rfl) (AW_kiw2 (goes_2 σ) ?_)
      refine AW_if_eq hT hK 16 (tgt := 43) rfl rfl (fun _ => ?_) (fun c8 => absurd (by decide) c8)
      refine AW_g hT cl_X6 hK 22 1 (pc' := 44) (lo' := [some (.ref 36), some (.int p0), some (.int p1)]) (st' := [.int 0]) (hp' := wd (sF σ 9 2)) rfl ?_
      refine AW_iret hT hE 23 rfl rfl rfl (Nat.le_of_ble_eq_true rfl) (Nat.le_of_ble_eq_true rfl) ?_
      subst h4; subst h1; exact ⟨by simp only [x_X6_rise, if_neg c3, if_pos c6], by simp only [x_X6_rise, if_neg c3, if_pos c6]⟩
    · refine AW_g hT cl_X6 hK 12 1 (pc' := 24) (lo' := [some (.ref 36), some (.int p0), some (.int p1)]) (st' := [.int 0, .ref 36]) (hp' := wd σ) rfl ?_
      refine AW_goto hT hK 13 (tgt := 28) rfl rfl ?_
      refine AW_callV hT hK 15 [.int 0] [] (m_X6_goes l0 σ 0 (hw)) cw_X6_goes lk_X6_51 vi_X6_goes rfl rfl rfl rfl rfl rfl (Nat.le_of_ble_eq_true rfl) (Nat.le_of_ble_eq_true rfl) (AW_kiw2 (goes_0 σ) ?_)
      refine AW_if_eq hT hK 16 (tgt := 43) rfl rfl (fun c10 => absurd c10 (by decide)) (fun _ => ?_)
      refine AW_g hT cl_X6 hK 17 3 (pc' := 37) (lo' := [some (.ref 36), some (.int p0), some (.int p1)]) (st' := [.int p1, .int p0, .ref 36]) (hp' := wd (sF σ 9 0)) rfl ?_
      refine AW_callV hT hK 20 [.int p0, .int p1] [] (m_X6_rises l0 (sF σ 9 0) p0 p1 (hw)) cw_X6_rises lk_X6_110 vi_X6_rises rfl rfl rfl rfl rfl rfl (Nat.le_of_ble_eq_true rfl) (Nat.le_of_ble_eq_true rfl) (AW_k1 (fun v12 h11 => ?_))
      refine AW_goto hT hK 21 (tgt := 44) rfl rfl ?_
      refine AW_iret hT hE 23 rfl rfl rfl (Nat.le_of_ble_eq_true rfl) (Nat.le_of_ble_eq_true rfl) ?_
      subst h11; subst h4; subst h1; exact ⟨by simp only [x_X6_rise, if_neg c3, if_neg c6], by simp only [x_X6_rise, if_neg c3, if_neg c6]⟩
  · refine AW_g hT cl_X6 hK 5 1 (pc' := 10) (lo' := [some (.ref 36), some (.int p0), some (.int p1)]) (st' := [.int 1, .ref 36]) (hp' := wd σ) rfl ?_
    refine AW_goto hT hK 6 (tgt := 28) rfl rfl ?_
    refine AW_callV hT hK 15 [.int 1] [] (m_X6_goes l0 σ 1 (hw)) cw_X6_goes lk_X6_51 vi_X6_goes rfl rfl rfl rfl rfl rfl (Nat.le_of_ble_eq_true rfl) (Nat.le_of_ble_eq_true rfl) (AW_kiw2 (goes_1 σ) ?_)
    refine AW_if_eq hT hK 16 (tgt := 43) rfl rfl (fun _ => ?_) (fun c14 => absurd (by decide) c14)
    refine AW_g hT cl_X6 hK 22 1 (pc' := 44) (lo' := [some (.ref 36), some (.int p0), some (.int p1)]) (st' := [.int 0]) (hp' := wd (sF σ 9 1)) rfl ?_
    refine AW_iret hT hE 23 rfl rfl rfl (Nat.le_of_ble_eq_true rfl) (Nat.le_of_ble_eq_true rfl) ?_
    subst h1; exact ⟨by simp only [x_X6_rise, if_pos c3], by simp only [x_X6_rise, if_pos c3]⟩
theorem kp_X6_rise (σ : az_S) (p0 : Int32) (p1 : Int32) : (x_X6_rise σ p0 p1).2.1 8 = σ.1 8 := by
  unfold x_X6_rise
  (try dsimp only)
  (repeat' split) <;> first | (simp [az_k8F, az_k8G, az_k8L]; done) | rfl
def b_X6_riser_33 (σ : az_S) (d1 : Int32) (n : Nat) (w2 : Int32) : Int32 :=
  if ((σ.2.1 37) n) = 0 then
    w2
  else
    if w2 = (-1) then
      (nI n)
    else
      let v14 := x_X6_rises σ (nI n) d1
      let v16 := x_X6_rises σ w2 d1
      if v14 < v16 then
        w2
      else
        (nI n)
set_option maxRecDepth 100000 in
set_option maxHeartbeats 4000000 in
theorem lp_X6_riser_33 {K : az_K} {l0 : Launch} (hT : az_Tb cX6_riser tb_X6_riser) (hK : az_OK K RX6 cX6_riser ({ frames := 1, cells := 0, slots := 0, locals := 25 } : Room) l0) (σ : az_S) (d1 : Int32) (hw : az_wf σ) :
    ∀ (n : Nat) (w2 : Int32) (hi : n ≤ nn σ) (kx : ∀ s' : Int32, az_dn (fun ι s => b_X6_riser_33 σ d1 ι s) n w2 = s' → AW K 0 0 90 [some (.ref 36), some (.int d1), some (.int s'), none, none] [] (wd σ)), AW K 0 0 33 [some (.ref 36), some (.int d1), some (.int w2), some (.int (nI n - 1)), none] [] (wd σ) := by
  intro n
  induction n with
  | zero =>
    intro w2 hi kx
    have hw2 := hw.2
    refine AW_g hT cl_X6 hK 20 1 (pc' := 34) (lo' := [some (.ref 36), some (.int d1), some (.int w2), some (.int (nI 0 - 1)), none]) (st' := [.int (nI 0 - 1)]) (hp' := wd σ) rfl ?_
    refine AW_if_lt hT hK 21 (tgt := 90) rfl rfl (fun c20 => ?_) (fun c20 => absurd (az_cd0) c20)
    refine AW_msk [true, true, true, false, false] (lo' := [some (.ref 36), some (.int d1), some (.int w2), none, none]) rfl ?_
    exact kx w2 rfl
  | succ n ih =>
    intro w2 hi kx
    have hw2 := hw.2
    refine AW_to (lo' := [some (.ref 36), some (.int d1), some (.int w2), some (.int (nI n)), none]) (by rw [az_dn1]) rfl rfl ?_
    refine AW_g hT cl_X6 hK 20 1 (pc' := 34) (lo' := [some (.ref 36), some (.int d1), some (.int w2), some (.int (nI n)), none]) (st' := [.int (nI n)]) (hp' := wd σ) rfl ?_
    refine AW_if_lt hT hK 21 (tgt := 90) rfl rfl (fun c8 => absurd c8 (az_cd1 (Nat.le_trans hi hw.2))) (fun c8 => ?_)
    refine AW_g hT cl_X6 hK 22 3 (pc' := 42) (lo' := [some (.ref 36), some (.int d1), some (.int w2), some (.int (nI n)), none]) (st' := [.int (nI n), .ref 37]) (hp' := wd σ) rfl ?_
    refine AW_zald hT hK 25 n rfl (n := 12) (f := (σ.2.1 37)) rfl rfl (by omega) (by decide) ?_
    refine AW_if_eq hT hK 26 (tgt := 70) rfl rfl (fun c9 => ?_) (fun c9 => ?_)
    · refine AW_g hT cl_X6 hK 41 3 (pc' := 75) (lo' := [some (.ref 36), some (.int d1), some (.int w2), some (.int (nI n)), some (.int 0)]) (st' := [.int 0]) (hp' := wd σ) rfl ?_
      refine AW_if_eq hT hK 44 (tgt := 82) rfl rfl (fun _ => ?_) (fun c10 => absurd (by decide) c10)
      refine AW_g hT cl_X6 hK 47 3 (pc' := 87) (lo' := [some (.ref 36), some (.int d1), some (.int w2), some (.int ((nI n) + (-1))), some (.int 0)]) (st' := []) (hp' := wd σ) rfl ?_
      refine AW_goto hT hK 50 (tgt := 33) rfl rfl ?_
      refine AW_msk [true, true, true, true, false] (lo' := [some (.ref 36), some (.int d1), some (.int w2), some (.int ((nI n) + (-1))), none]) rfl ?_
      refine AW_to (lo' := [some (.ref 36), some (.int d1), some (.int w2), some (.int (nI n - 1)), none]) (by rw [az_dn2]) rfl rfl ?_
      exact ih _ (by omega) (fun s' hs' => kx s' ((congrArg (az_dn _ n) (by simp only [b_X6_riser_33, if_pos c9])).trans hs'))
    · refine AW_g hT cl_X6 hK 27 2 (pc' := 48) (lo' := [some (.ref 36), some (.int d1), some (.int w2), some (.int (nI n)), none]) (st' := [.int (-1), .int w2]) (hp' := wd σ) rfl ?_
      refine AW_icmp_eq hT hK 29 (tgt := 66) rfl rfl (fun c11 => ?_) (fun c11 => ?_)
      · refine AW_g hT cl_X6 hK 39 1 (pc' := 67) (lo' := [some (.ref 36), some (.int d1), some (.int w2), some (.int (nI n)), none]) (st' := [.int 1]) (hp' := wd σ) rfl ?_
        refine AW_goto hT hK 40 (tgt := 71) rfl rfl ?_
        refine AW_g hT cl_X6 hK 42 2 (pc' := 75) (lo' := [some (.ref 36), some (.int d1), some (.int w2), some (.int (nI n)), some (.int 1)]) (st' := [.int 1]) (hp' := wd σ) rfl ?_
        refine AW_if_eq hT hK 44 (tgt := 82) rfl rfl (fun c12 => absurd c12 (by decide)) (fun _ => ?_)
        refine AW_g hT cl_X6 hK 45 1 (pc' := 79) (lo' := [some (.ref 36), some (.int d1), some (.int w2), some (.int (nI n)), some (.int 1)]) (st' := [.int (nI n)]) (hp' := wd σ) rfl ?_
        refine AW_goto hT hK 46 (tgt := 83) rfl rfl ?_
        refine AW_g hT cl_X6 hK 48 2 (pc' := 87) (lo' := [some (.ref 36), some (.int d1), some (.int (nI n)), some (.int ((nI n) + (-1))), some (.int 1)]) (st' := []) (hp' := wd σ) rfl ?_
        refine AW_goto hT hK 50 (tgt := 33) rfl rfl ?_
        refine AW_msk [true, true, true, true, false] (lo' := [some (.ref 36), some (.int d1), some (.int (nI n)), some (.int ((nI n) + (-1))), none]) rfl ?_
        refine AW_to (lo' := [some (.ref 36), some (.int d1), some (.int (nI n)), some (.int (nI n - 1)), none]) (by rw [az_dn2]) rfl rfl ?_
        exact ih _ (by omega) (fun s' hs' => kx s' ((congrArg (az_dn _ n) (by simp only [b_X6_riser_33, if_neg c9, if_pos c11])).trans hs'))
      · refine AW_g hT cl_X6 hK 30 3 (pc' := 54) (lo' := [some (.ref 36), some (.int d1), some (.int w2), some (.int (nI n)), none]) (st' := [.int d1, .int (nI n), .ref 36]) (hp' := wd σ) rfl ?_
        refine AW_callV hT hK 33 [.int (nI n), .int d1] [] (m_X6_rises l0 σ (nI n) d1 (hw)) cw_X6_rises lk_X6_110 vi_X6_rises rfl rfl rfl rfl rfl rfl (Nat.le_of_ble_eq_true rfl) (Nat.le_of_ble_eq_true rfl) (AW_k1 (fun v14 h13 => ?_))
        refine AW_g hT cl_X6 hK 34 3 (pc' := 60) (lo' := [some (.ref 36), some (.int d1), some (.int w2), some (.int (nI n)), none]) (st' := [.int d1, .int w2, .ref 36, .int v14]) (hp' := wd σ) rfl ?_
        refine AW_callV hT hK 37 [.int w2, .int d1] [.int v14] (m_X6_rises l0 σ w2 d1 (hw)) cw_X6_rises lk_X6_110 vi_X6_rises rfl rfl rfl rfl rfl rfl (Nat.le_of_ble_eq_true rfl) (Nat.le_of_ble_eq_true rfl) (AW_k1 (fun v16 h15 => ?_))
        refine AW_icmp_lt hT hK 38 (tgt := 70) rfl rfl (fun c17 => ?_) (fun c17 => ?_)
        · refine AW_g hT cl_X6 hK 41 3 (pc' := 75) (lo' := [some (.ref 36), some (.int d1), some (.int w2), some (.int (nI n)), some (.int 0)]) (st' := [.int 0]) (hp' := wd σ) rfl ?_
          refine AW_if_eq hT hK 44 (tgt := 82) rfl rfl (fun _ => ?_) (fun c18 => absurd (by decide) c18)
          refine AW_g hT cl_X6 hK 47 3 (pc' := 87) (lo' := [some (.ref 36), some (.int d1), some (.int w2), some (.int ((nI n) + (-1))), some (.int 0)]) (st' := []) (hp' := wd σ) rfl ?_
          refine AW_goto hT hK 50 (tgt := 33) rfl rfl ?_
          refine AW_msk [true, true, true, true, false] (lo' := [some (.ref 36), some (.int d1), some (.int w2), some (.int ((nI n) + (-1))), none]) rfl ?_
          refine AW_to (lo' := [some (.ref 36), some (.int d1), some (.int w2), some (.int (nI n - 1)), none]) (by rw [az_dn2]) rfl rfl ?_
          subst h15; subst h13; skip
          exact ih _ (by omega) (fun s' hs' => kx s' ((congrArg (az_dn _ n) (by simp only [b_X6_riser_33, if_neg c9, if_neg c11, if_pos c17])).trans hs'))
        · refine AW_g hT cl_X6 hK 39 1 (pc' := 67) (lo' := [some (.ref 36), some (.int d1), some (.int w2), some (.int (nI n)), none]) (st' := [.int 1]) (hp' := wd σ) rfl ?_
          refine AW_goto hT hK 40 (tgt := 71) rfl rfl ?_
          refine AW_g hT cl_X6 hK 42 2 (pc' := 75) (lo' := [some (.ref 36), some (.int d1), some (.int w2), some (.int (nI n)), some (.int 1)]) (st' := [.int 1]) (hp' := wd σ) rfl ?_
          refine AW_if_eq hT hK 44 (tgt := 82) rfl rfl (fun c19 => absurd c19 (by decide)) (fun _ => ?_)
          refine AW_g hT cl_X6 hK 45 1 (pc' := 79) (lo' := [some (.ref 36), some (.int d1), some (.int w2), some (.int (nI n)), some (.int 1)]) (st' := [.int (nI n)]) (hp' := wd σ) rfl ?_
          refine AW_goto hT hK 46 (tgt := 83) rfl rfl ?_
          refine AW_g hT cl_X6 hK 48 2 (pc' := 87) (lo' := [some (.ref 36), some (.int d1), some (.int (nI n)), some (.int ((nI n) + (-1))), some (.int 1)]) (st' := []) (hp' := wd σ) rfl ?_
          refine AW_goto hT hK 50 (tgt := 33) rfl rfl ?_
          refine AW_msk [true, true, true, true, false] (lo' := [some (.ref 36), some (.int d1), some (.int (nI n)), some (.int ((nI n) + (-1))), none]) rfl ?_
          refine AW_to (lo' := [some (.ref 36), some (.int d1), some (.int (nI n)), some (.int (nI n - 1)), none]) (by rw [az_dn2]) rfl rfl ?_
          subst h15; subst h13; skip
          exact ih _ (by omega) (fun s' hs' => kx s' ((congrArg (az_dn _ n) (by simp only [b_X6_riser_33, if_neg c9, if_neg c11, if_neg c17])).trans hs'))
def x_X6_riser (σ : az_S) (p0 : Int32) : Int32 × az_S :=
  let v2 := x_X6_isIn σ p0 0 99
  if v2 = 0 then
    (0, (sF σ 9 1))
  else
    let s21 := az_dn (fun ι s => b_X6_riser_33 (sF σ 9 0) p0 ι s) (nn σ) (-1)
    (s21, (sF σ 9 0))
set_option maxRecDepth 100000 in
set_option maxHeartbeats 4000000 in
theorem m_X6_riser (l0 : Launch) (σ : az_S) (p0 : Int32) (hw : az_wf σ) : AMet l0 yX6_riser cX6_riser 5 (some .int) ({ frames := 1, cells := 0, slots := 0, locals := 25 } : Room) false [.ref 36, .int p0] (wd σ) (fun r h => r = some (.int (x_X6_riser σ p0).1) ∧ h = wd (x_X6_riser σ p0).2) := by
  refine AMet_of (by decide +kernel) (by simp [Value.category]) (Nat.le_of_ble_eq_true rfl) (fun K hK hct hG hE => ?_)
  have hT := tt_X6_riser
  have hw2 := hw.2
  refine AW_g hT cl_X6 hK 0 4 (pc' := 5) (lo' := [some (.ref 36), some (.int p0), none, none, none]) (st' := [.int 99, .int 0, .int p0, .ref 36]) (hp' := wd σ) rfl ?_
  refine AW_callS hT hK 4 [.int p0, .int 0, .int 99] [.ref 36] (m_X6_isIn l0 σ p0 0 99 (hw)) cw_X6_isIn lk_X6_43 sm_X6_isIn rfl rfl rfl rfl (Nat.le_of_ble_eq_true rfl) (Nat.le_of_ble_eq_true rfl) (AW_k1 (fun v2 h1 => ?_))
  refine AW_if_eq hT hK 5 (tgt := 15) rfl rfl (fun c3 => ?_) (fun c3 => ?_)
  · refine AW_g hT cl_X6 hK 8 1 (pc' := 16) (lo' := [some (.ref 36), some (.int p0), none, none, none]) (st' := [.int 1, .ref 36]) (hp' := wd σ) rfl ?_
    refine AW_callV hT hK 9 [.int 1] [] (m_X6_goes l0 σ 1 (hw)) cw_X6_goes lk_X6_51 vi_X6_goes rfl rfl rfl rfl rfl rfl (Nat.le_of_ble_eq_true rfl) (Nat.le_of_ble_eq_true rfl) (AW_kiw2 (goes_1 σ) ?_)
    refine AW_if_ne hT hK 10 (tgt := 24) rfl rfl (fun c5 => absurd (by decide) c5) (fun _ => ?_)
    refine AW_g hT cl_X6 hK 11 1 (pc' := 23) (lo' := [some (.ref 36), some (.int p0), none, none, none]) (st' := [.int 0]) (hp' := wd (sF σ 9 1)) rfl ?_
    refine AW_iret hT hE 12 rfl rfl rfl (Nat.le_of_ble_eq_true rfl) (Nat.le_of_ble_eq_true rfl) ?_
    subst h1; exact ⟨by simp only [x_X6_riser, if_pos c3], by simp only [x_X6_riser, if_pos c3]⟩
  · refine AW_g hT cl_X6 hK 6 1 (pc' := 12) (lo' := [some (.ref 36), some (.int p0), none, none, none]) (st' := [.int 0, .ref 36]) (hp' := wd σ) rfl ?_
    refine AW_goto hT hK 7 (tgt := 16) rfl rfl ?_
    refine AW_callV hT hK 9 [.int 0] [] (m_X6_goes l0 σ 0 (hw)) cw_X6_goes lk_X6_51 vi_X6_goes rfl rfl rfl rfl rfl rfl (Nat.le_of_ble_eq_true rfl) (Nat.le_of_ble_eq_true rfl) (AW_kiw2 (goes_0 σ) ?_)
    refine AW_if_ne hT hK 10 (tgt := 24) rfl rfl (fun _ => ?_) (fun c7 => absurd c7 (by decide))
    refine AW_g hT cl_X6 hK 13 7 (pc' := 33) (lo' := [some (.ref 36), some (.int p0), some (.int (-1)), some (.int (((sF σ 9 0).1 8) - 1)), none]) (st' := []) (hp' := wd (sF σ 9 0)) rfl ?_
    refine AW_to (lo' := [some (.ref 36), some (.int p0), some (.int (-1)), some (.int (nI (nn σ) - 1)), none]) (by rw [show (sF σ 9 0).1 8 = nI (nn σ) from (hw).1.trans (congrArg nI (rfl))]) rfl rfl ?_
    refine lp_X6_riser_33 hT hK (sF σ 9 0) p0 hw (nn σ) (-1) (by have h9 : nn (sF σ 9 0) = nn σ := rfl; omega) (fun s21 h22 => ?_)
    refine AW_g hT cl_X6 hK 51 1 (pc' := 91) (lo' := [some (.ref 36), some (.int p0), some (.int s21), none, none]) (st' := [.int s21]) (hp' := wd (sF σ 9 0)) rfl ?_
    refine AW_iret hT hE 52 rfl rfl rfl (Nat.le_of_ble_eq_true rfl) (Nat.le_of_ble_eq_true rfl) ?_
    subst h22; subst h1; exact ⟨by simp only [x_X6_riser, if_neg c3], by simp only [x_X6_riser, if_neg c3]⟩
theorem kp_X6_riser (σ : az_S) (p0 : Int32) : (x_X6_riser σ p0).2.1 8 = σ.1 8 := by
  unfold x_X6_riser
  (try dsimp only)
  (repeat' split) <;> first | (simp [az_k8F, az_k8G, az_k8L]; done) | rfl
def b_X6_heir_17 (σ : az_S) (d1 : Int32) (i : Nat) (w2 : Int32) (w3 : Int32) : Int32 × Int32 :=
  if ((((σ.2.1 39) i) >>> (d1 &&& 31)) &&& 1) = 1 then
    let v12 := x_X6_count σ (((σ.2.1 39) i) &&& ((σ.2.1 39) d1.toNatClampNeg))
    if v12 ≤ w3 then
      (w2, w3)
    else
      ((nI i), v12)
  else
    if (-1) ≤ w3 then
      (w2, w3)
    else
      ((nI i), (-1))
set_option maxRecDepth 100000 in
set_option maxHeartbeats 4000000 in
theorem lp_X6_heir_17 {K : az_K} {l0 : Launch} (hT : az_Tb cX6_heir tb_X6_heir) (hK : az_OK K RX6 cX6_heir ({ frames := 3, cells := 0, slots := 0, locals := 64 } : Room) l0) (σ : az_S) (d1 : Int32) (hp : vp_in d1 12) (hw : az_wf σ) :
    ∀ (n i : Nat) (w2 : Int32) (w3 : Int32) (hi : i + n = nn σ) (kx : ∀ s' : Int32 × Int32, az_it (fun ι s => b_X6_heir_17 σ d1 ι s.1 s.2) n i (w2, w3) = s' → AW K 0 0 96 [some (.ref 36), some (.int d1), some (.int s'.1), some (.int s'.2), none, none] [] (wd σ)), AW K 0 0 17 [some (.ref 36), some (.int d1), some (.int w2), some (.int w3), some (.int (nI i)), none] [] (wd σ) := by
  intro n
  induction n with
  | zero =>
    intro i w2 w3 hi kx
    have hw2 := hw.2
    refine AW_g hT cl_X6 hK 12 3 (pc' := 23) (lo' := [some (.ref 36), some (.int d1), some (.int w2), some (.int w3), some (.int (nI i)), none]) (st' := [.int (σ.1 8), .int (nI i)]) (hp' := wd σ) rfl ?_
    refine AW_icmp_ge hT hK 15 (tgt := 96) rfl rfl (fun c16 => ?_) (fun c16 => absurd (az_cn0 hw hi) c16)
    refine AW_msk [true, true, true, true, false, false] (lo' := [some (.ref 36), some (.int d1), some (.int w2), some (.int w3), none, none]) rfl ?_
    exact kx (w2, w3) rfl
  | succ n ih =>
    intro i w2 w3 hi kx
    have hw2 := hw.2
    refine AW_g hT cl_X6 hK 12 3 (pc' := 23) (lo' := [some (.ref 36), some (.int d1), some (.int w2), some (.int w3), some (.int (nI i)), none]) (st' := [.int (σ.1 8), .int (nI i)]) (hp' := wd σ) rfl ?_
    refine AW_icmp_ge hT hK 15 (tgt := 96) rfl rfl (fun c6 => absurd c6 (az_cn1 hw hi)) (fun c6 => ?_)
    refine AW_g hT cl_X6 hK 16 3 (pc' := 32) (lo' := [some (.ref 36), some (.int d1), some (.int w2), some (.int w3), some (.int (nI i)), none]) (st' := [.int (nI i), .ref 39]) (hp' := wd σ) rfl ?_
    refine AW_iald hT hK 19 i rfl (n := 12) (f := (σ.2.1 39)) rfl rfl (by omega) (by decide) ?_
    refine AW_g hT cl_X6 hK 20 5 (pc' := 38) (lo' := [some (.ref 36), some (.int d1), some (.int w2), some (.int w3), some (.int (nI i)), none]) (st' := [.int 1, .int ((((σ.2.1 39) i) >>> (d1 &&& 31)) &&& 1)]) (hp' := wd σ) rfl ?_
    refine AW_icmp_ne hT hK 25 (tgt := 61) rfl rfl (fun c7 => ?_) (fun c7 => ?_)
    · refine AW_g hT cl_X6 hK 37 4 (pc' := 67) (lo' := [some (.ref 36), some (.int d1), some (.int w2), some (.int w3), some (.int (nI i)), some (.int (-1))]) (st' := [.int w3, .int (-1)]) (hp' := wd σ) rfl ?_
      refine AW_icmp_le hT hK 41 (tgt := 75) rfl rfl (fun c8 => ?_) (fun c8 => ?_)
      · refine AW_g hT cl_X6 hK 44 4 (pc' := 80) (lo' := [some (.ref 36), some (.int d1), some (.int w2), some (.int w3), some (.int (nI i)), some (.int (-1))]) (st' := [.int w3, .int (-1)]) (hp' := wd σ) rfl ?_
        refine AW_icmp_le hT hK 48 (tgt := 88) rfl rfl (fun _ => ?_) (fun c9 => absurd c8 c9)
        refine AW_g hT cl_X6 hK 51 3 (pc' := 93) (lo' := [some (.ref 36), some (.int d1), some (.int w2), some (.int w3), some (.int ((nI i) + 1)), some (.int (-1))]) (st' := []) (hp' := wd σ) rfl ?_
        refine AW_goto hT hK 54 (tgt := 17) rfl rfl ?_
        refine AW_msk [true, true, true, true, true, false] (lo' := [some (.ref 36), some (.int d1), some (.int w2), some (.int w3), some (.int ((nI i) + 1)), none]) rfl ?_
        refine AW_to (lo' := [some (.ref 36), some (.int d1), some (.int w2), some (.int w3), some (.int (nI (i + 1))), none]) (by rw [nI_1]) rfl rfl ?_
        exact ih (i + 1) _ _ (by omega) (fun s' hs' => kx s' ((congrArg (az_it _ n (i + 1)) (by simp only [b_X6_heir_17, if_neg c7, if_pos c8])).trans hs'))
      · refine AW_g hT cl_X6 hK 42 1 (pc' := 72) (lo' := [some (.ref 36), some (.int d1), some (.int w2), some (.int w3), some (.int (nI i)), some (.int (-1))]) (st' := [.int (nI i)]) (hp' := wd σ) rfl ?_
        refine AW_goto hT hK 43 (tgt := 76) rfl rfl ?_
        refine AW_g hT cl_X6 hK 45 3 (pc' := 80) (lo' := [some (.ref 36), some (.int d1), some (.int (nI i)), some (.int w3), some (.int (nI i)), some (.int (-1))]) (st' := [.int w3, .int (-1)]) (hp' := wd σ) rfl ?_
        refine AW_icmp_le hT hK 48 (tgt := 88) rfl rfl (fun c10 => absurd c10 c8) (fun _ => ?_)
        refine AW_g hT cl_X6 hK 49 1 (pc' := 85) (lo' := [some (.ref 36), some (.int d1), some (.int (nI i)), some (.int w3), some (.int (nI i)), some (.int (-1))]) (st' := [.int (-1)]) (hp' := wd σ) rfl ?_
        refine AW_goto hT hK 50 (tgt := 89) rfl rfl ?_
        refine AW_g hT cl_X6 hK 52 2 (pc' := 93) (lo' := [some (.ref 36), some (.int d1), some (.int (nI i)), some (.int (-1)), some (.int ((nI i) + 1)), some (.int (-1))]) (st' := []) (hp' := wd σ) rfl ?_
        refine AW_goto hT hK 54 (tgt := 17) rfl rfl ?_
        refine AW_msk [true, true, true, true, true, false] (lo' := [some (.ref 36), some (.int d1), some (.int (nI i)), some (.int (-1)), some (.int ((nI i) + 1)), none]) rfl ?_
        refine AW_to (lo' := [some (.ref 36), some (.int d1), some (.int (nI i)), some (.int (-1)), some (.int (nI (i + 1))), none]) (by rw [nI_1]) rfl rfl ?_
        exact ih (i + 1) _ _ (by omega) (fun s' hs' => kx s' ((congrArg (az_it _ n (i + 1)) (by simp only [b_X6_heir_17, if_neg c7, if_neg c8])).trans hs'))
    · refine AW_g hT cl_X6 hK 26 3 (pc' := 47) (lo' := [some (.ref 36), some (.int d1), some (.int w2), some (.int w3), some (.int (nI i)), none]) (st' := [.int (nI i), .ref 39]) (hp' := wd σ) rfl ?_
      refine AW_iald hT hK 29 i rfl (n := 12) (f := (σ.2.1 39)) rfl rfl (by omega) (by decide) ?_
      refine AW_g hT cl_X6 hK 30 3 (pc' := 53) (lo' := [some (.ref 36), some (.int d1), some (.int w2), some (.int w3), some (.int (nI i)), none]) (st' := [.int d1, .ref 39, .int ((σ.2.1 39) i)]) (hp' := wd σ) rfl ?_
      refine AW_ialdx hT hK 33 rfl (n := 12) (f := (σ.2.1 39)) rfl (hp) ?_
      refine AW_g hT cl_X6 hK 34 1 (pc' := 55) (lo' := [some (.ref 36), some (.int d1), some (.int w2), some (.int w3), some (.int (nI i)), none]) (st' := [.int (((σ.2.1 39) i) &&& ((σ.2.1 39) d1.toNatClampNeg))]) (hp' := wd σ) rfl ?_
      refine AW_callS hT hK 35 [.int (((σ.2.1 39) i) &&& ((σ.2.1 39) d1.toNatClampNeg))] [] (m_X6_count l0 σ (((σ.2.1 39) i) &&& ((σ.2.1 39) d1.toNatClampNeg)) (hw)) cw_X6_count lk_X6_65 sm_X6_count rfl rfl rfl rfl (Nat.le_of_ble_eq_true rfl) (Nat.le_of_ble_eq_true rfl) (AW_k1 (fun v12 h11 => ?_))
      refine AW_goto hT hK 36 (tgt := 62) rfl rfl ?_
      refine AW_g hT cl_X6 hK 38 3 (pc' := 67) (lo' := [some (.ref 36), some (.int d1), some (.int w2), some (.int w3), some (.int (nI i)), some (.int v12)]) (st' := [.int w3, .int v12]) (hp' := wd σ) rfl ?_
      refine AW_icmp_le hT hK 41 (tgt := 75) rfl rfl (fun c13 => ?_) (fun c13 => ?_)
      · refine AW_g hT cl_X6 hK 44 4 (pc' := 80) (lo' := [some (.ref 36), some (.int d1), some (.int w2), some (.int w3), some (.int (nI i)), some (.int v12)]) (st' := [.int w3, .int v12]) (hp' := wd σ) rfl ?_
        refine AW_icmp_le hT hK 48 (tgt := 88) rfl rfl (fun _ => ?_) (fun c14 => absurd c13 c14)
        refine AW_g hT cl_X6 hK 51 3 (pc' := 93) (lo' := [some (.ref 36), some (.int d1), some (.int w2), some (.int w3), some (.int ((nI i) + 1)), some (.int v12)]) (st' := []) (hp' := wd σ) rfl ?_
        refine AW_goto hT hK 54 (tgt := 17) rfl rfl ?_
        refine AW_msk [true, true, true, true, true, false] (lo' := [some (.ref 36), some (.int d1), some (.int w2), some (.int w3), some (.int ((nI i) + 1)), none]) rfl ?_
        refine AW_to (lo' := [some (.ref 36), some (.int d1), some (.int w2), some (.int w3), some (.int (nI (i + 1))), none]) (by rw [nI_1]) rfl rfl ?_
        subst h11; skip
        exact ih (i + 1) _ _ (by omega) (fun s' hs' => kx s' ((congrArg (az_it _ n (i + 1)) (by simp only [b_X6_heir_17, if_pos c7, if_pos c13])).trans hs'))
      · refine AW_g hT cl_X6 hK 42 1 (pc' := 72) (lo' := [some (.ref 36), some (.int d1), some (.int w2), some (.int w3), some (.int (nI i)), some (.int v12)]) (st' := [.int (nI i)]) (hp' := wd σ) rfl ?_
        refine AW_goto hT hK 43 (tgt := 76) rfl rfl ?_
        refine AW_g hT cl_X6 hK 45 3 (pc' := 80) (lo' := [some (.ref 36), some (.int d1), some (.int (nI i)), some (.int w3), some (.int (nI i)), some (.int v12)]) (st' := [.int w3, .int v12]) (hp' := wd σ) rfl ?_
        refine AW_icmp_le hT hK 48 (tgt := 88) rfl rfl (fun c15 => absurd c15 c13) (fun _ => ?_)
        refine AW_g hT cl_X6 hK 49 1 (pc' := 85) (lo' := [some (.ref 36), some (.int d1), some (.int (nI i)), some (.int w3), some (.int (nI i)), some (.int v12)]) (st' := [.int v12]) (hp' := wd σ) rfl ?_
        refine AW_goto hT hK 50 (tgt := 89) rfl rfl ?_
        refine AW_g hT cl_X6 hK 52 2 (pc' := 93) (lo' := [some (.ref 36), some (.int d1), some (.int (nI i)), some (.int v12), some (.int ((nI i) + 1)), some (.int v12)]) (st' := []) (hp' := wd σ) rfl ?_
        refine AW_goto hT hK 54 (tgt := 17) rfl rfl ?_
        refine AW_msk [true, true, true, true, true, false] (lo' := [some (.ref 36), some (.int d1), some (.int (nI i)), some (.int v12), some (.int ((nI i) + 1)), none]) rfl ?_
        refine AW_to (lo' := [some (.ref 36), some (.int d1), some (.int (nI i)), some (.int v12), some (.int (nI (i + 1))), none]) (by rw [nI_1]) rfl rfl ?_
        subst h11; skip
        exact ih (i + 1) _ _ (by omega) (fun s' hs' => kx s' ((congrArg (az_it _ n (i + 1)) (by simp only [b_X6_heir_17, if_pos c7, if_neg c13])).trans hs'))
def x_X6_heir (σ : az_S) (p0 : Int32) : Int32 × az_S :=
  let q2 := x_X6_asks σ p0
  if q2.1 = 0 then
    (0, q2.2)
  else
    let s17 := az_it (fun ι s => b_X6_heir_17 q2.2 p0 ι s.1 s.2) (nn σ) 0 ((-1), (-1))
    (s17.1, q2.2)
set_option maxRecDepth 100000 in
set_option maxHeartbeats 4000000 in
theorem m_X6_heir (l0 : Launch) (σ : az_S) (p0 : Int32) (hw : az_wf σ) : AMet l0 yX6_heir cX6_heir 6 (some .int) ({ frames := 3, cells := 0, slots := 0, locals := 64 } : Room) false [.ref 36, .int p0] (wd σ) (fun r h => r = some (.int (x_X6_heir σ p0).1) ∧ h = wd (x_X6_heir σ p0).2) := by
  refine AMet_of (by decide +kernel) (by simp [Value.category]) (Nat.le_of_ble_eq_true rfl) (fun K hK hct hG hE => ?_)
  have hT := tt_X6_heir
  have hw2 := hw.2
  refine AW_g hT cl_X6 hK 0 2 (pc' := 2) (lo' := [some (.ref 36), some (.int p0), none, none, none, none]) (st' := [.int p0, .ref 36]) (hp' := wd σ) rfl ?_
  refine AW_callV hT hK 2 [.int p0] [] (m_X6_asks l0 σ p0 (hw)) cw_X6_asks lk_X6_58 vi_X6_asks rfl rfl rfl rfl rfl rfl (Nat.le_of_ble_eq_true rfl) (Nat.le_of_ble_eq_true rfl) (AW_kiw (fun q2 h1 => ?_))
  have hn4 : nn q2.2 = nn σ := by rw [← h1]; exact (az_nn_of (kp_X6_asks _ _)).trans rfl
  have hw3 : az_wf q2.2 := by rw [← h1]; exact az_wf_of (kp_X6_asks _ _) hw
  refine AW_if_ne hT hK 3 (tgt := 10) rfl rfl (fun c5 => ?_) (fun c5 => ?_)
  · refine AW_g hT cl_X6 hK 6 6 (pc' := 17) (lo' := [some (.ref 36), some (.int p0), some (.int (-1)), some (.int (-1)), some (.int 0), none]) (st' := []) (hp' := wd q2.2) rfl ?_
    refine AW_to (lo' := [some (.ref 36), some (.int p0), some (.int (-1)), some (.int (-1)), some (.int (nI 0)), none]) (rfl) rfl rfl ?_
    refine lp_X6_heir_17 hT hK q2.2 p0 (ob_asks hw h1 c5) hw3 (nn σ) 0 (-1) (-1) (by have h9 : nn q2.2 = nn σ := hn4; omega) (fun s17 h18 => ?_)
    refine AW_g hT cl_X6 hK 55 1 (pc' := 97) (lo' := [some (.ref 36), some (.int p0), some (.int s17.1), some (.int s17.2), none, none]) (st' := [.int s17.1]) (hp' := wd q2.2) rfl ?_
    refine AW_iret hT hE 56 rfl rfl rfl (Nat.le_of_ble_eq_true rfl) (Nat.le_of_ble_eq_true rfl) ?_
    subst h18; subst h1; exact ⟨by simp only [x_X6_heir, if_neg c5], by simp only [x_X6_heir, if_neg c5]⟩
  · refine AW_g hT cl_X6 hK 4 1 (pc' := 9) (lo' := [some (.ref 36), some (.int p0), none, none, none, none]) (st' := [.int 0]) (hp' := wd q2.2) rfl ?_
    refine AW_iret hT hE 5 rfl rfl rfl (Nat.le_of_ble_eq_true rfl) (Nat.le_of_ble_eq_true rfl) ?_
    subst h1; exact ⟨by simp only [x_X6_heir, if_pos c5], by simp only [x_X6_heir, if_pos c5]⟩
theorem kp_X6_heir (σ : az_S) (p0 : Int32) : (x_X6_heir σ p0).2.1 8 = σ.1 8 := by
  unfold x_X6_heir
  (try dsimp only)
  (repeat' split) <;> first | (simp [az_k8F, az_k8G, az_k8L, kp_X6_asks]; done) | rfl
def x_X6_isField (σ : az_S) (p0 : Int32) : Int32 :=
  let v2 := x_X6_isIn σ p0 0 11
  if v2 = 0 then
    0
  else
    if ((σ.2.1 41) p0.toNatClampNeg) = 0 then
      0
    else
      1
set_option maxRecDepth 100000 in
set_option maxHeartbeats 4000000 in
theorem m_X6_isField (l0 : Launch) (σ : az_S) (p0 : Int32) (hw : az_wf σ) : AMet l0 yX6_isField cX6_isField 2 (some .boolean) ({ frames := 1, cells := 0, slots := 0, locals := 22 } : Room) false [.ref 36, .int p0] (wd σ) (fun r h => r = some (.int (x_X6_isField σ p0)) ∧ h = wd σ) := by
  refine AMet_of (by decide +kernel) (by simp [Value.category]) (Nat.le_of_ble_eq_true rfl) (fun K hK hct hG hE => ?_)
  have hT := tt_X6_isField
  have hw2 := hw.2
  refine AW_g hT cl_X6 hK 0 3 (pc' := 4) (lo' := [some (.ref 36), some (.int p0)]) (st' := [.int 11, .int 0, .int p0]) (hp' := wd σ) rfl ?_
  refine AW_callS hT hK 3 [.int p0, .int 0, .int 11] [] (m_X6_isIn l0 σ p0 0 11 (hw)) cw_X6_isIn lk_X6_43 sm_X6_isIn rfl rfl rfl rfl (Nat.le_of_ble_eq_true rfl) (Nat.le_of_ble_eq_true rfl) (AW_k1 (fun v2 h1 => ?_))
  refine AW_if_eq hT hK 4 (tgt := 23) rfl rfl (fun c3 => ?_) (fun c3 => ?_)
  · refine AW_g hT cl_X6 hK 12 1 (pc' := 24) (lo' := [some (.ref 36), some (.int p0)]) (st' := [.int 0]) (hp' := wd σ) rfl ?_
    refine AW_iret hT hE 13 rfl rfl rfl (Nat.le_of_ble_eq_true rfl) (Nat.le_of_ble_eq_true rfl) ?_
    subst h1; exact ⟨by simp only [x_X6_isField, if_pos c3], rfl⟩
  · refine AW_g hT cl_X6 hK 5 3 (pc' := 15) (lo' := [some (.ref 36), some (.int p0)]) (st' := [.int p0, .ref 41]) (hp' := wd σ) rfl ?_
    refine AW_ialdx hT hK 8 rfl (n := 12) (f := (σ.2.1 41)) rfl (ob_isField h1 c3) ?_
    refine AW_if_eq hT hK 9 (tgt := 23) rfl rfl (fun c4 => ?_) (fun c4 => ?_)
    · refine AW_g hT cl_X6 hK 12 1 (pc' := 24) (lo' := [some (.ref 36), some (.int p0)]) (st' := [.int 0]) (hp' := wd σ) rfl ?_
      refine AW_iret hT hE 13 rfl rfl rfl (Nat.le_of_ble_eq_true rfl) (Nat.le_of_ble_eq_true rfl) ?_
      subst h1; exact ⟨by simp only [x_X6_isField, if_neg c3, if_pos c4], rfl⟩
    · refine AW_g hT cl_X6 hK 10 1 (pc' := 20) (lo' := [some (.ref 36), some (.int p0)]) (st' := [.int 1]) (hp' := wd σ) rfl ?_
      refine AW_goto hT hK 11 (tgt := 24) rfl rfl ?_
      refine AW_iret hT hE 13 rfl rfl rfl (Nat.le_of_ble_eq_true rfl) (Nat.le_of_ble_eq_true rfl) ?_
      subst h1; exact ⟨by simp only [x_X6_isField, if_neg c3, if_neg c4], rfl⟩
theorem nb_X6_isField (σ : az_S) (p0 : Int32) : narrow .boolean (.int (x_X6_isField σ p0)) = .int (x_X6_isField σ p0) := by
  unfold x_X6_isField
  (try dsimp only)
  (repeat' split) <;> first | rfl | (dsimp only; rfl)
theorem ob_field {σ : az_S} {p v : Int32} (h : x_X6_isField σ p = v) (c : ¬ v = 0) : vp_in p 12 := by
  subst h
  unfold x_X6_isField at c
  dsimp only at c
  split at c
  · exact absurd rfl c
  · exact ob_isField rfl ‹_›
def b_X6_laysWays_32 (d1 : Nat) (i : Nat) (σ : az_S) : az_S :=
  if ((((σ.2.1 39) d1) >>> ((nI i) &&& 31)) &&& 1) = 1 then
    let u7 := (((σ.2.1 42) d1) + ((σ.2.1 42) i))
    (sG σ 42 (va_up (σ.2.1 42) d1 u7))
  else
    let u5 := (((σ.2.1 42) d1) + 0)
    (sG σ 42 (va_up (σ.2.1 42) d1 u5))
theorem kb_X6_laysWays_32 (d1 : Nat) (i : Nat) (σ : az_S) : (b_X6_laysWays_32 d1 i σ).1 8 = σ.1 8 := by
  unfold b_X6_laysWays_32
  (try dsimp only)
  (repeat' split) <;> first | (simp [az_k8F, az_k8G, az_k8L]; done) | rfl
theorem kp_X6_laysWays_32 (d1 : Nat) (n i : Nat) (s : az_S) : (az_it (fun ι s => b_X6_laysWays_32 d1 ι s) n i s).1 8 = s.1 8 := az_it_keep (fun s => s.1 8) (fun i s => kb_X6_laysWays_32 d1 i s) n i s
set_option maxRecDepth 100000 in
set_option maxHeartbeats 4000000 in
theorem lp_X6_laysWays_32 {K : az_K} {l0 : Launch} (hT : az_Tb cX6_laysWays tb_X6_laysWays) (hK : az_OK K RX6 cX6_laysWays ({ frames := 1, cells := 0, slots := 0, locals := 23 } : Room) l0) (d1 : Nat) (hd1 : d1 < 12) :
    ∀ (n i : Nat) (σ : az_S) (hi : i + n = d1) (hw : az_wf σ) (kx : ∀ s' : az_S, az_it (fun ι s => b_X6_laysWays_32 d1 ι s) n i σ = s' → AW K 0 0 76 [some (.ref 36), some (.int (nI d1)), none, none, none] [] (wd s')), AW K 0 0 32 [some (.ref 36), some (.int (nI d1)), some (.int (nI i)), none, none] [] (wd σ) := by
  intro n
  induction n with
  | zero =>
    intro i σ hi hw kx
    have hw2 := hw.2
    refine AW_g hT cl_X6 hK 20 2 (pc' := 34) (lo' := [some (.ref 36), some (.int (nI d1)), some (.int (nI i)), none, none]) (st' := [.int (nI d1), .int (nI i)]) (hp' := wd σ) rfl ?_
    refine AW_icmp_ge hT hK 22 (tgt := 76) rfl rfl (fun c9 => ?_) (fun c9 => absurd (az_c0 hi) c9)
    refine AW_msk [true, true, false, false, false] (lo' := [some (.ref 36), some (.int (nI d1)), none, none, none]) rfl ?_
    exact kx σ rfl
  | succ n ih =>
    intro i σ hi hw kx
    have hw2 := hw.2
    refine AW_g hT cl_X6 hK 20 2 (pc' := 34) (lo' := [some (.ref 36), some (.int (nI d1)), some (.int (nI i)), none, none]) (st' := [.int (nI d1), .int (nI i)]) (hp' := wd σ) rfl ?_
    refine AW_icmp_ge hT hK 22 (tgt := 76) rfl rfl (fun c3 => absurd c3 (az_c1 hi (by omega))) (fun c3 => ?_)
    refine AW_g hT cl_X6 hK 23 4 (pc' := 43) (lo' := [some (.ref 36), some (.int (nI d1)), some (.int (nI i)), none, none]) (st' := [.int (nI d1), .ref 42, .int (nI d1), .ref 42]) (hp' := wd σ) rfl ?_
    refine AW_iald hT hK 27 d1 rfl (n := 12) (f := (σ.2.1 42)) rfl rfl (by omega) (by decide) ?_
    refine AW_g hT cl_X6 hK 28 3 (pc' := 49) (lo' := [some (.ref 36), some (.int (nI d1)), some (.int (nI i)), none, none]) (st' := [.int (nI d1), .ref 39, .int ((σ.2.1 42) d1), .int (nI d1), .ref 42]) (hp' := wd σ) rfl ?_
    refine AW_iald hT hK 31 d1 rfl (n := 12) (f := (σ.2.1 39)) rfl rfl (by omega) (by decide) ?_
    refine AW_g hT cl_X6 hK 32 5 (pc' := 55) (lo' := [some (.ref 36), some (.int (nI d1)), some (.int (nI i)), none, none]) (st' := [.int 1, .int ((((σ.2.1 39) d1) >>> ((nI i) &&& 31)) &&& 1), .int ((σ.2.1 42) d1), .int (nI d1), .ref 42]) (hp' := wd σ) rfl ?_
    refine AW_icmp_ne hT hK 37 (tgt := 67) rfl rfl (fun c4 => ?_) (fun c4 => ?_)
    · refine AW_g hT cl_X6 hK 43 2 (pc' := 69) (lo' := [some (.ref 36), some (.int (nI d1)), some (.int (nI i)), none, none]) (st' := [.int (((σ.2.1 42) d1) + 0), .int (nI d1), .ref 42]) (hp' := wd σ) rfl ?_
      refine AW_topi (fun u5 h6 => ?_)
      refine AW_iastv hT hK 45 d1 rfl (n := 12) (f := (σ.2.1 42)) rfl rfl (by omega) (by decide) ?_
      refine AW_to (hp' := wd (sG σ 42 (va_up (σ.2.1 42) d1 u5))) rfl rfl (wd_42 _ _) ?_
      refine AW_g hT cl_X6 hK 46 1 (pc' := 73) (lo' := [some (.ref 36), some (.int (nI d1)), some (.int ((nI i) + 1)), none, none]) (st' := []) (hp' := wd (sG σ 42 (va_up (σ.2.1 42) d1 u5))) rfl ?_
      refine AW_goto hT hK 47 (tgt := 32) rfl rfl ?_
      refine AW_to (lo' := [some (.ref 36), some (.int (nI d1)), some (.int (nI (i + 1))), none, none]) (by rw [nI_1]) rfl rfl ?_
      subst h6; skip
      exact ih (i + 1) _ (by omega) hw (fun s' hs' => kx s' ((congrArg (az_it _ n (i + 1)) (by simp only [b_X6_laysWays_32, if_neg c4])).trans hs'))
    · refine AW_g hT cl_X6 hK 38 3 (pc' := 63) (lo' := [some (.ref 36), some (.int (nI d1)), some (.int (nI i)), none, none]) (st' := [.int (nI i), .ref 42, .int ((σ.2.1 42) d1), .int (nI d1), .ref 42]) (hp' := wd σ) rfl ?_
      refine AW_iald hT hK 41 i rfl (n := 12) (f := (σ.2.1 42)) rfl rfl (by omega) (by decide) ?_
      refine AW_goto hT hK 42 (tgt := 68) rfl rfl ?_
      refine AW_g hT cl_X6 hK 44 1 (pc' := 69) (lo' := [some (.ref 36), some (.int (nI d1)), some (.int (nI i)), none, none]) (st' := [.int (((σ.2.1 42) d1) + ((σ.2.1 42) i)), .int (nI d1), .ref 42]) (hp' := wd σ) rfl ?_
      refine AW_topi (fun u7 h8 => ?_)
      refine AW_iastv hT hK 45 d1 rfl (n := 12) (f := (σ.2.1 42)) rfl rfl (by omega) (by decide) ?_
      refine AW_to (hp' := wd (sG σ 42 (va_up (σ.2.1 42) d1 u7))) rfl rfl (wd_42 _ _) ?_
      refine AW_g hT cl_X6 hK 46 1 (pc' := 73) (lo' := [some (.ref 36), some (.int (nI d1)), some (.int ((nI i) + 1)), none, none]) (st' := []) (hp' := wd (sG σ 42 (va_up (σ.2.1 42) d1 u7))) rfl ?_
      refine AW_goto hT hK 47 (tgt := 32) rfl rfl ?_
      refine AW_to (lo' := [some (.ref 36), some (.int (nI d1)), some (.int (nI (i + 1))), none, none]) (by rw [nI_1]) rfl rfl ?_
      subst h8; skip
      exact ih (i + 1) _ (by omega) hw (fun s' hs' => kx s' ((congrArg (az_it _ n (i + 1)) (by simp only [b_X6_laysWays_32, if_pos c4])).trans hs'))
def b_X6_laysWays_2 (i : Nat) (σ : az_S) : az_S :=
  if ((σ.2.1 39) i) = 0 then
    let s14 := az_it (fun ι s => b_X6_laysWays_32 i ι s) i 0 (sG σ 42 (va_up (σ.2.1 42) i 1))
    s14
  else
    let s10 := az_it (fun ι s => b_X6_laysWays_32 i ι s) i 0 (sG σ 42 (va_up (σ.2.1 42) i 0))
    s10
theorem kb_X6_laysWays_2 (i : Nat) (σ : az_S) : (b_X6_laysWays_2 i σ).1 8 = σ.1 8 := by
  unfold b_X6_laysWays_2
  (try dsimp only)
  (repeat' split) <;> first | (simp [az_k8F, az_k8G, az_k8L, kp_X6_laysWays_32]; done) | rfl
theorem kp_X6_laysWays_2  (n i : Nat) (s : az_S) : (az_it (fun ι s => b_X6_laysWays_2 ι s) n i s).1 8 = s.1 8 := az_it_keep (fun s => s.1 8) (fun i s => kb_X6_laysWays_2 i s) n i s
set_option maxRecDepth 100000 in
set_option maxHeartbeats 4000000 in
theorem lp_X6_laysWays_2 {K : az_K} {l0 : Launch} (hT : az_Tb cX6_laysWays tb_X6_laysWays) (hK : az_OK K RX6 cX6_laysWays ({ frames := 1, cells := 0, slots := 0, locals := 23 } : Room) l0) :
    ∀ (n i : Nat) (σ : az_S) (hi : i + n = nn σ) (hw : az_wf σ) (kx : ∀ s' : az_S, az_it (fun ι s => b_X6_laysWays_2 ι s) n i σ = s' → AW K 0 0 82 [some (.ref 36), none, none, none, none] [] (wd s')), AW K 0 0 2 [some (.ref 36), some (.int (nI i)), none, none, none] [] (wd σ) := by
  intro n
  induction n with
  | zero =>
    intro i σ hi hw kx
    have hw2 := hw.2
    refine AW_g hT cl_X6 hK 2 3 (pc' := 7) (lo' := [some (.ref 36), some (.int (nI i)), none, none, none]) (st' := [.int (σ.1 8), .int (nI i)]) (hp' := wd σ) rfl ?_
    refine AW_icmp_ge hT hK 5 (tgt := 82) rfl rfl (fun c18 => ?_) (fun c18 => absurd (az_cn0 hw hi) c18)
    refine AW_msk [true, false, false, false, false] (lo' := [some (.ref 36), none, none, none, none]) rfl ?_
    exact kx σ rfl
  | succ n ih =>
    intro i σ hi hw kx
    have hw2 := hw.2
    refine AW_g hT cl_X6 hK 2 3 (pc' := 7) (lo' := [some (.ref 36), some (.int (nI i)), none, none, none]) (st' := [.int (σ.1 8), .int (nI i)]) (hp' := wd σ) rfl ?_
    refine AW_icmp_ge hT hK 5 (tgt := 82) rfl rfl (fun c1 => absurd c1 (az_cn1 hw hi)) (fun c1 => ?_)
    refine AW_g hT cl_X6 hK 6 6 (pc' := 20) (lo' := [some (.ref 36), some (.int (nI i)), none, none, none]) (st' := [.int (nI i), .ref 39, .int (nI i), .ref 42]) (hp' := wd σ) rfl ?_
    refine AW_iald hT hK 12 i rfl (n := 12) (f := (σ.2.1 39)) rfl rfl (by omega) (by decide) ?_
    refine AW_if_ne hT hK 13 (tgt := 28) rfl rfl (fun c2 => ?_) (fun c2 => ?_)
    · refine AW_g hT cl_X6 hK 16 1 (pc' := 29) (lo' := [some (.ref 36), some (.int (nI i)), none, none, none]) (st' := [.int 0, .int (nI i), .ref 42]) (hp' := wd σ) rfl ?_
      refine AW_iastv hT hK 17 i rfl (n := 12) (f := (σ.2.1 42)) rfl rfl (by omega) (by decide) ?_
      refine AW_to (hp' := wd (sG σ 42 (va_up (σ.2.1 42) i 0))) rfl rfl (wd_42 _ _) ?_
      refine AW_g hT cl_X6 hK 18 2 (pc' := 32) (lo' := [some (.ref 36), some (.int (nI i)), some (.int 0), none, none]) (st' := []) (hp' := wd (sG σ 42 (va_up (σ.2.1 42) i 0))) rfl ?_
      refine AW_to (lo' := [some (.ref 36), some (.int (nI i)), some (.int (nI 0)), none, none]) (rfl) rfl rfl ?_
      refine lp_X6_laysWays_32 hT hK i (by omega) i 0 (sG σ 42 (va_up (σ.2.1 42) i 0)) (by first | rfl | omega) hw (fun s10 h11 => ?_)
      have hn13 : nn s10 = nn σ := by rw [← h11]; exact (az_nn_of (kp_X6_laysWays_32 _ _ _ _)).trans rfl
      have hw12 : az_wf s10 := by rw [← h11]; exact az_wf_of (kp_X6_laysWays_32 _ _ _ _) hw
      refine AW_g hT cl_X6 hK 48 1 (pc' := 79) (lo' := [some (.ref 36), some (.int ((nI i) + 1)), none, none, none]) (st' := []) (hp' := wd s10) rfl ?_
      refine AW_goto hT hK 49 (tgt := 2) rfl rfl ?_
      refine AW_to (lo' := [some (.ref 36), some (.int (nI (i + 1))), none, none, none]) (by rw [nI_1]) rfl rfl ?_
      have h9 : nn s10 = nn σ := hn13
      subst h11; skip
      exact ih (i + 1) _ (by omega) hw12 (fun s' hs' => kx s' ((congrArg (az_it _ n (i + 1)) (by simp only [b_X6_laysWays_2, if_neg c2])).trans hs'))
    · refine AW_g hT cl_X6 hK 14 1 (pc' := 25) (lo' := [some (.ref 36), some (.int (nI i)), none, none, none]) (st' := [.int 1, .int (nI i), .ref 42]) (hp' := wd σ) rfl ?_
      refine AW_goto hT hK 15 (tgt := 29) rfl rfl ?_
      refine AW_iastv hT hK 17 i rfl (n := 12) (f := (σ.2.1 42)) rfl rfl (by omega) (by decide) ?_
      refine AW_to (hp' := wd (sG σ 42 (va_up (σ.2.1 42) i 1))) rfl rfl (wd_42 _ _) ?_
      refine AW_g hT cl_X6 hK 18 2 (pc' := 32) (lo' := [some (.ref 36), some (.int (nI i)), some (.int 0), none, none]) (st' := []) (hp' := wd (sG σ 42 (va_up (σ.2.1 42) i 1))) rfl ?_
      refine AW_to (lo' := [some (.ref 36), some (.int (nI i)), some (.int (nI 0)), none, none]) (rfl) rfl rfl ?_
      refine lp_X6_laysWays_32 hT hK i (by omega) i 0 (sG σ 42 (va_up (σ.2.1 42) i 1)) (by first | rfl | omega) hw (fun s14 h15 => ?_)
      have hn17 : nn s14 = nn σ := by rw [← h15]; exact (az_nn_of (kp_X6_laysWays_32 _ _ _ _)).trans rfl
      have hw16 : az_wf s14 := by rw [← h15]; exact az_wf_of (kp_X6_laysWays_32 _ _ _ _) hw
      refine AW_g hT cl_X6 hK 48 1 (pc' := 79) (lo' := [some (.ref 36), some (.int ((nI i) + 1)), none, none, none]) (st' := []) (hp' := wd s14) rfl ?_
      refine AW_goto hT hK 49 (tgt := 2) rfl rfl ?_
      refine AW_to (lo' := [some (.ref 36), some (.int (nI (i + 1))), none, none, none]) (by rw [nI_1]) rfl rfl ?_
      have h9 : nn s14 = nn σ := hn17
      subst h15; skip
      exact ih (i + 1) _ (by omega) hw16 (fun s' hs' => kx s' ((congrArg (az_it _ n (i + 1)) (by simp only [b_X6_laysWays_2, if_pos c2])).trans hs'))
def b_X6_laysWays_123 (d1 : Nat) (i : Nat) (σ : az_S) : az_S :=
  if ((((σ.2.1 39) i) >>> ((nI d1) &&& 31)) &&& 1) = 1 then
    let u31 := (((σ.2.1 43) d1) + ((σ.2.1 43) i))
    (sG σ 43 (va_up (σ.2.1 43) d1 u31))
  else
    let u29 := (((σ.2.1 43) d1) + 0)
    (sG σ 43 (va_up (σ.2.1 43) d1 u29))
theorem kb_X6_laysWays_123 (d1 : Nat) (i : Nat) (σ : az_S) : (b_X6_laysWays_123 d1 i σ).1 8 = σ.1 8 := by
  unfold b_X6_laysWays_123
  (try dsimp only)
  (repeat' split) <;> first | (simp [az_k8F, az_k8G, az_k8L]; done) | rfl
theorem kp_X6_laysWays_123 (d1 : Nat) (n i : Nat) (s : az_S) : (az_it (fun ι s => b_X6_laysWays_123 d1 ι s) n i s).1 8 = s.1 8 := az_it_keep (fun s => s.1 8) (fun i s => kb_X6_laysWays_123 d1 i s) n i s
set_option maxRecDepth 100000 in
set_option maxHeartbeats 4000000 in
theorem lp_X6_laysWays_123 {K : az_K} {l0 : Launch} (hT : az_Tb cX6_laysWays tb_X6_laysWays) (hK : az_OK K RX6 cX6_laysWays ({ frames := 1, cells := 0, slots := 0, locals := 23 } : Room) l0) (d1 : Nat) (hd1 : d1 < 12) :
    ∀ (n i : Nat) (σ : az_S) (hi : i + n = nn σ) (hw : az_wf σ) (kx : ∀ s' : az_S, az_it (fun ι s => b_X6_laysWays_123 d1 ι s) n i σ = s' → AW K 0 0 170 [some (.ref 36), some (.int (nI d1)), none, none, none] [] (wd s')), AW K 0 0 123 [some (.ref 36), some (.int (nI d1)), some (.int (nI i)), none, none] [] (wd σ) := by
  intro n
  induction n with
  | zero =>
    intro i σ hi hw kx
    have hw2 := hw.2
    refine AW_g hT cl_X6 hK 77 3 (pc' := 128) (lo' := [some (.ref 36), some (.int (nI d1)), some (.int (nI i)), none, none]) (st' := [.int (σ.1 8), .int (nI i)]) (hp' := wd σ) rfl ?_
    refine AW_icmp_ge hT hK 80 (tgt := 170) rfl rfl (fun c33 => ?_) (fun c33 => absurd (az_cn0 hw hi) c33)
    refine AW_msk [true, true, false, false, false] (lo' := [some (.ref 36), some (.int (nI d1)), none, none, none]) rfl ?_
    exact kx σ rfl
  | succ n ih =>
    intro i σ hi hw kx
    have hw2 := hw.2
    refine AW_g hT cl_X6 hK 77 3 (pc' := 128) (lo' := [some (.ref 36), some (.int (nI d1)), some (.int (nI i)), none, none]) (st' := [.int (σ.1 8), .int (nI i)]) (hp' := wd σ) rfl ?_
    refine AW_icmp_ge hT hK 80 (tgt := 170) rfl rfl (fun c27 => absurd c27 (az_cn1 hw hi)) (fun c27 => ?_)
    refine AW_g hT cl_X6 hK 81 4 (pc' := 137) (lo' := [some (.ref 36), some (.int (nI d1)), some (.int (nI i)), none, none]) (st' := [.int (nI d1), .ref 43, .int (nI d1), .ref 43]) (hp' := wd σ) rfl ?_
    refine AW_iald hT hK 85 d1 rfl (n := 12) (f := (σ.2.1 43)) rfl rfl (by omega) (by decide) ?_
    refine AW_g hT cl_X6 hK 86 3 (pc' := 143) (lo' := [some (.ref 36), some (.int (nI d1)), some (.int (nI i)), none, none]) (st' := [.int (nI i), .ref 39, .int ((σ.2.1 43) d1), .int (nI d1), .ref 43]) (hp' := wd σ) rfl ?_
    refine AW_iald hT hK 89 i rfl (n := 12) (f := (σ.2.1 39)) rfl rfl (by omega) (by decide) ?_
    refine AW_g hT cl_X6 hK 90 5 (pc' := 149) (lo' := [some (.ref 36), some (.int (nI d1)), some (.int (nI i)), none, none]) (st' := [.int 1, .int ((((σ.2.1 39) i) >>> ((nI d1) &&& 31)) &&& 1), .int ((σ.2.1 43) d1), .int (nI d1), .ref 43]) (hp' := wd σ) rfl ?_
    refine AW_icmp_ne hT hK 95 (tgt := 161) rfl rfl (fun c28 => ?_) (fun c28 => ?_)
    · refine AW_g hT cl_X6 hK 101 2 (pc' := 163) (lo' := [some (.ref 36), some (.int (nI d1)), some (.int (nI i)), none, none]) (st' := [.int (((σ.2.1 43) d1) + 0), .int (nI d1), .ref 43]) (hp' := wd σ) rfl ?_
      refine AW_topi (fun u29 h30 => ?_)
      refine AW_iastv hT hK 103 d1 rfl (n := 12) (f := (σ.2.1 43)) rfl rfl (by omega) (by decide) ?_
      refine AW_to (hp' := wd (sG σ 43 (va_up (σ.2.1 43) d1 u29))) rfl rfl (wd_43 _ _) ?_
      refine AW_g hT cl_X6 hK 104 1 (pc' := 167) (lo' := [some (.ref 36), some (.int (nI d1)), some (.int ((nI i) + 1)), none, none]) (st' := []) (hp' := wd (sG σ 43 (va_up (σ.2.1 43) d1 u29))) rfl ?_
      refine AW_goto hT hK 105 (tgt := 123) rfl rfl ?_
      refine AW_to (lo' := [some (.ref 36), some (.int (nI d1)), some (.int (nI (i + 1))), none, none]) (by rw [nI_1]) rfl rfl ?_
      have h9 : nn (sG σ 43 (va_up (σ.2.1 43) d1 u29)) = nn σ := rfl
      subst h30; skip
      exact ih (i + 1) _ (by omega) hw (fun s' hs' => kx s' ((congrArg (az_it _ n (i + 1)) (by simp only [b_X6_laysWays_123, if_neg c28])).trans hs'))
    · refine AW_g hT cl_X6 hK 96 3 (pc' := 157) (lo' := [some (.ref 36), some (.int (nI d1)), some (.int (nI i)), none, none]) (st' := [.int (nI i), .ref 43, .int ((σ.2.1 43) d1), .int (nI d1), .ref 43]) (hp' := wd σ) rfl ?_
      refine AW_iald hT hK 99 i rfl (n := 12) (f := (σ.2.1 43)) rfl rfl (by omega) (by decide) ?_
      refine AW_goto hT hK 100 (tgt := 162) rfl rfl ?_
      refine AW_g hT cl_X6 hK 102 1 (pc' := 163) (lo' := [some (.ref 36), some (.int (nI d1)), some (.int (nI i)), none, none]) (st' := [.int (((σ.2.1 43) d1) + ((σ.2.1 43) i)), .int (nI d1), .ref 43]) (hp' := wd σ) rfl ?_
      refine AW_topi (fun u31 h32 => ?_)
      refine AW_iastv hT hK 103 d1 rfl (n := 12) (f := (σ.2.1 43)) rfl rfl (by omega) (by decide) ?_
      refine AW_to (hp' := wd (sG σ 43 (va_up (σ.2.1 43) d1 u31))) rfl rfl (wd_43 _ _) ?_
      refine AW_g hT cl_X6 hK 104 1 (pc' := 167) (lo' := [some (.ref 36), some (.int (nI d1)), some (.int ((nI i) + 1)), none, none]) (st' := []) (hp' := wd (sG σ 43 (va_up (σ.2.1 43) d1 u31))) rfl ?_
      refine AW_goto hT hK 105 (tgt := 123) rfl rfl ?_
      refine AW_to (lo' := [some (.ref 36), some (.int (nI d1)), some (.int (nI (i + 1))), none, none]) (by rw [nI_1]) rfl rfl ?_
      have h9 : nn (sG σ 43 (va_up (σ.2.1 43) d1 u31)) = nn σ := rfl
      subst h32; skip
      exact ih (i + 1) _ (by omega) hw (fun s' hs' => kx s' ((congrArg (az_it _ n (i + 1)) (by simp only [b_X6_laysWays_123, if_pos c28])).trans hs'))
def b_X6_laysWays_174 (d1 : Nat) (i : Nat) (σ : az_S) : az_S :=
  if ((((σ.2.1 39) i) >>> ((nI d1) &&& 31)) &&& 1) = 1 then
    if (lg_cmp (((((σ.2.1 42) d1).toInt64) * (((σ.2.1 43) i).toInt64)) + ((σ.2.2 44) i)) ((σ.2.2 44) d1)) ≤ 0 then
      let u44 := ((σ.2.2 44) d1)
      (sL σ 44 (va_up (σ.2.2 44) d1 u44))
    else
      let u46 := (((((σ.2.1 42) d1).toInt64) * (((σ.2.1 43) i).toInt64)) + ((σ.2.2 44) i))
      (sL σ 44 (va_up (σ.2.2 44) d1 u46))
  else
    if (lg_cmp 0 ((σ.2.2 44) d1)) ≤ 0 then
      let u41 := ((σ.2.2 44) d1)
      (sL σ 44 (va_up (σ.2.2 44) d1 u41))
    else
      (sL σ 44 (va_up (σ.2.2 44) d1 0))
theorem kb_X6_laysWays_174 (d1 : Nat) (i : Nat) (σ : az_S) : (b_X6_laysWays_174 d1 i σ).1 8 = σ.1 8 := by
  unfold b_X6_laysWays_174
  (try dsimp only)
  (repeat' split) <;> first | (simp [az_k8F, az_k8G, az_k8L]; done) | rfl
theorem kp_X6_laysWays_174 (d1 : Nat) (n i : Nat) (s : az_S) : (az_it (fun ι s => b_X6_laysWays_174 d1 ι s) n i s).1 8 = s.1 8 := az_it_keep (fun s => s.1 8) (fun i s => kb_X6_laysWays_174 d1 i s) n i s
set_option maxRecDepth 100000 in
set_option maxHeartbeats 4000000 in
theorem lp_X6_laysWays_174 {K : az_K} {l0 : Launch} (hT : az_Tb cX6_laysWays tb_X6_laysWays) (hK : az_OK K RX6 cX6_laysWays ({ frames := 1, cells := 0, slots := 0, locals := 23 } : Room) l0) (d1 : Nat) (hd1 : d1 < 12) :
    ∀ (n i : Nat) (σ : az_S) (hi : i + n = nn σ) (hw : az_wf σ) (kx : ∀ s' : az_S, az_it (fun ι s => b_X6_laysWays_174 d1 ι s) n i σ = s' → AW K 0 0 256 [some (.ref 36), some (.int (nI d1)), none, none, none] [] (wd s')), AW K 0 0 174 [some (.ref 36), some (.int (nI d1)), some (.int (nI i)), none, none] [] (wd σ) := by
  intro n
  induction n with
  | zero =>
    intro i σ hi hw kx
    have hw2 := hw.2
    refine AW_g hT cl_X6 hK 110 3 (pc' := 179) (lo' := [some (.ref 36), some (.int (nI d1)), some (.int (nI i)), none, none]) (st' := [.int (σ.1 8), .int (nI i)]) (hp' := wd σ) rfl ?_
    refine AW_icmp_ge hT hK 113 (tgt := 256) rfl rfl (fun c48 => ?_) (fun c48 => absurd (az_cn0 hw hi) c48)
    refine AW_msk [true, true, false, false, false] (lo' := [some (.ref 36), some (.int (nI d1)), none, none, none]) rfl ?_
    exact kx σ rfl
  | succ n ih =>
    intro i σ hi hw kx
    have hw2 := hw.2
    refine AW_g hT cl_X6 hK 110 3 (pc' := 179) (lo' := [some (.ref 36), some (.int (nI d1)), some (.int (nI i)), none, none]) (st' := [.int (σ.1 8), .int (nI i)]) (hp' := wd σ) rfl ?_
    refine AW_icmp_ge hT hK 113 (tgt := 256) rfl rfl (fun c38 => absurd c38 (az_cn1 hw hi)) (fun c38 => ?_)
    refine AW_g hT cl_X6 hK 114 3 (pc' := 187) (lo' := [some (.ref 36), some (.int (nI d1)), some (.int (nI i)), none, none]) (st' := [.int (nI i), .ref 39]) (hp' := wd σ) rfl ?_
    refine AW_iald hT hK 117 i rfl (n := 12) (f := (σ.2.1 39)) rfl rfl (by omega) (by decide) ?_
    refine AW_g hT cl_X6 hK 118 5 (pc' := 193) (lo' := [some (.ref 36), some (.int (nI d1)), some (.int (nI i)), none, none]) (st' := [.int 1, .int ((((σ.2.1 39) i) >>> ((nI d1) &&& 31)) &&& 1)]) (hp' := wd σ) rfl ?_
    refine AW_icmp_ne hT hK 123 (tgt := 221) rfl rfl (fun c39 => ?_) (fun c39 => ?_)
    · refine AW_g hT cl_X6 hK 141 9 (pc' := 234) (lo' := [some (.ref 36), some (.int (nI d1)), some (.int (nI i)), some (.long 0), none]) (st' := [.int (nI d1), .ref 44, .long 0, .int (nI d1), .ref 44]) (hp' := wd σ) rfl ?_
      refine AW_lald hT hK 150 d1 rfl (n := 12) (f := (σ.2.2 44)) rfl rfl (by omega) (by decide) ?_
      refine AW_g hT cl_X6 hK 151 1 (pc' := 236) (lo' := [some (.ref 36), some (.int (nI d1)), some (.int (nI i)), some (.long 0), none]) (st' := [.int (lg_cmp 0 ((σ.2.2 44) d1)), .int (nI d1), .ref 44]) (hp' := wd σ) rfl ?_
      refine AW_if_le hT hK 152 (tgt := 243) rfl rfl (fun c40 => ?_) (fun c40 => ?_)
      · refine AW_g hT cl_X6 hK 155 3 (pc' := 248) (lo' := [some (.ref 36), some (.int (nI d1)), some (.int (nI i)), some (.long 0), none]) (st' := [.int (nI d1), .ref 44, .int (nI d1), .ref 44]) (hp' := wd σ) rfl ?_
        refine AW_lald hT hK 158 d1 rfl (n := 12) (f := (σ.2.2 44)) rfl rfl (by omega) (by decide) ?_
        refine AW_topl (fun u41 h42 => ?_)
        refine AW_lastv hT hK 159 d1 rfl (n := 12) (f := (σ.2.2 44)) rfl rfl (by omega) (by decide) ?_
        refine AW_to (hp' := wd (sL σ 44 (va_up (σ.2.2 44) d1 u41))) rfl rfl (wd_44 _ _) ?_
        refine AW_g hT cl_X6 hK 160 1 (pc' := 253) (lo' := [some (.ref 36), some (.int (nI d1)), some (.int ((nI i) + 1)), some (.long 0), none]) (st' := []) (hp' := wd (sL σ 44 (va_up (σ.2.2 44) d1 u41))) rfl ?_
        refine AW_goto hT hK 161 (tgt := 174) rfl rfl ?_
        refine AW_msk [true, true, true, false, false] (lo' := [some (.ref 36), some (.int (nI d1)), some (.int ((nI i) + 1)), none, none]) rfl ?_
        refine AW_to (lo' := [some (.ref 36), some (.int (nI d1)), some (.int (nI (i + 1))), none, none]) (by rw [nI_1]) rfl rfl ?_
        have h9 : nn (sL σ 44 (va_up (σ.2.2 44) d1 u41)) = nn σ := rfl
        subst h42; skip
        exact ih (i + 1) _ (by omega) hw (fun s' hs' => kx s' ((congrArg (az_it _ n (i + 1)) (by simp only [b_X6_laysWays_174, if_neg c39, if_pos c40])).trans hs'))
      · refine AW_g hT cl_X6 hK 153 1 (pc' := 240) (lo' := [some (.ref 36), some (.int (nI d1)), some (.int (nI i)), some (.long 0), none]) (st' := [.long 0, .int (nI d1), .ref 44]) (hp' := wd σ) rfl ?_
        refine AW_goto hT hK 154 (tgt := 249) rfl rfl ?_
        refine AW_lastv hT hK 159 d1 rfl (n := 12) (f := (σ.2.2 44)) rfl rfl (by omega) (by decide) ?_
        refine AW_to (hp' := wd (sL σ 44 (va_up (σ.2.2 44) d1 0))) rfl rfl (wd_44 _ _) ?_
        refine AW_g hT cl_X6 hK 160 1 (pc' := 253) (lo' := [some (.ref 36), some (.int (nI d1)), some (.int ((nI i) + 1)), some (.long 0), none]) (st' := []) (hp' := wd (sL σ 44 (va_up (σ.2.2 44) d1 0))) rfl ?_
        refine AW_goto hT hK 161 (tgt := 174) rfl rfl ?_
        refine AW_msk [true, true, true, false, false] (lo' := [some (.ref 36), some (.int (nI d1)), some (.int ((nI i) + 1)), none, none]) rfl ?_
        refine AW_to (lo' := [some (.ref 36), some (.int (nI d1)), some (.int (nI (i + 1))), none, none]) (by rw [nI_1]) rfl rfl ?_
        have h9 : nn (sL σ 44 (va_up (σ.2.2 44) d1 0)) = nn σ := rfl
        exact ih (i + 1) _ (by omega) hw (fun s' hs' => kx s' ((congrArg (az_it _ n (i + 1)) (by simp only [b_X6_laysWays_174, if_neg c39, if_neg c40])).trans hs'))
    · refine AW_g hT cl_X6 hK 124 3 (pc' := 201) (lo' := [some (.ref 36), some (.int (nI d1)), some (.int (nI i)), none, none]) (st' := [.int (nI d1), .ref 42]) (hp' := wd σ) rfl ?_
      refine AW_iald hT hK 127 d1 rfl (n := 12) (f := (σ.2.1 42)) rfl rfl (by omega) (by decide) ?_
      refine AW_g hT cl_X6 hK 128 4 (pc' := 208) (lo' := [some (.ref 36), some (.int (nI d1)), some (.int (nI i)), none, none]) (st' := [.int (nI i), .ref 43, .long (((σ.2.1 42) d1).toInt64)]) (hp' := wd σ) rfl ?_
      refine AW_iald hT hK 132 i rfl (n := 12) (f := (σ.2.1 43)) rfl rfl (by omega) (by decide) ?_
      refine AW_g hT cl_X6 hK 133 5 (pc' := 216) (lo' := [some (.ref 36), some (.int (nI d1)), some (.int (nI i)), none, none]) (st' := [.int (nI i), .ref 44, .long ((((σ.2.1 42) d1).toInt64) * (((σ.2.1 43) i).toInt64))]) (hp' := wd σ) rfl ?_
      refine AW_lald hT hK 138 i rfl (n := 12) (f := (σ.2.2 44)) rfl rfl (by omega) (by decide) ?_
      refine AW_g hT cl_X6 hK 139 1 (pc' := 218) (lo' := [some (.ref 36), some (.int (nI d1)), some (.int (nI i)), none, none]) (st' := [.long (((((σ.2.1 42) d1).toInt64) * (((σ.2.1 43) i).toInt64)) + ((σ.2.2 44) i))]) (hp' := wd σ) rfl ?_
      refine AW_goto hT hK 140 (tgt := 222) rfl rfl ?_
      refine AW_g hT cl_X6 hK 142 8 (pc' := 234) (lo' := [some (.ref 36), some (.int (nI d1)), some (.int (nI i)), some (.long (((((σ.2.1 42) d1).toInt64) * (((σ.2.1 43) i).toInt64)) + ((σ.2.2 44) i))), none]) (st' := [.int (nI d1), .ref 44, .long (((((σ.2.1 42) d1).toInt64) * (((σ.2.1 43) i).toInt64)) + ((σ.2.2 44) i)), .int (nI d1), .ref 44]) (hp' := wd σ) rfl ?_
      refine AW_lald hT hK 150 d1 rfl (n := 12) (f := (σ.2.2 44)) rfl rfl (by omega) (by decide) ?_
      refine AW_g hT cl_X6 hK 151 1 (pc' := 236) (lo' := [some (.ref 36), some (.int (nI d1)), some (.int (nI i)), some (.long (((((σ.2.1 42) d1).toInt64) * (((σ.2.1 43) i).toInt64)) + ((σ.2.2 44) i))), none]) (st' := [.int (lg_cmp (((((σ.2.1 42) d1).toInt64) * (((σ.2.1 43) i).toInt64)) + ((σ.2.2 44) i)) ((σ.2.2 44) d1)), .int (nI d1), .ref 44]) (hp' := wd σ) rfl ?_
      refine AW_if_le hT hK 152 (tgt := 243) rfl rfl (fun c43 => ?_) (fun c43 => ?_)
      · refine AW_g hT cl_X6 hK 155 3 (pc' := 248) (lo' := [some (.ref 36), some (.int (nI d1)), some (.int (nI i)), some (.long (((((σ.2.1 42) d1).toInt64) * (((σ.2.1 43) i).toInt64)) + ((σ.2.2 44) i))), none]) (st' := [.int (nI d1), .ref 44, .int (nI d1), .ref 44]) (hp' := wd σ) rfl ?_
        refine AW_lald hT hK 158 d1 rfl (n := 12) (f := (σ.2.2 44)) rfl rfl (by omega) (by decide) ?_
        refine AW_topl (fun u44 h45 => ?_)
        refine AW_lastv hT hK 159 d1 rfl (n := 12) (f := (σ.2.2 44)) rfl rfl (by omega) (by decide) ?_
        refine AW_to (hp' := wd (sL σ 44 (va_up (σ.2.2 44) d1 u44))) rfl rfl (wd_44 _ _) ?_
        refine AW_g hT cl_X6 hK 160 1 (pc' := 253) (lo' := [some (.ref 36), some (.int (nI d1)), some (.int ((nI i) + 1)), some (.long (((((σ.2.1 42) d1).toInt64) * (((σ.2.1 43) i).toInt64)) + ((σ.2.2 44) i))), none]) (st' := []) (hp' := wd (sL σ 44 (va_up (σ.2.2 44) d1 u44))) rfl ?_
        refine AW_goto hT hK 161 (tgt := 174) rfl rfl ?_
        refine AW_msk [true, true, true, false, false] (lo' := [some (.ref 36), some (.int (nI d1)), some (.int ((nI i) + 1)), none, none]) rfl ?_
        refine AW_to (lo' := [some (.ref 36), some (.int (nI d1)), some (.int (nI (i + 1))), none, none]) (by rw [nI_1]) rfl rfl ?_
        have h9 : nn (sL σ 44 (va_up (σ.2.2 44) d1 u44)) = nn σ := rfl
        subst h45; skip
        exact ih (i + 1) _ (by omega) hw (fun s' hs' => kx s' ((congrArg (az_it _ n (i + 1)) (by simp only [b_X6_laysWays_174, if_pos c39, if_pos c43])).trans hs'))
      · refine AW_g hT cl_X6 hK 153 1 (pc' := 240) (lo' := [some (.ref 36), some (.int (nI d1)), some (.int (nI i)), some (.long (((((σ.2.1 42) d1).toInt64) * (((σ.2.1 43) i).toInt64)) + ((σ.2.2 44) i))), none]) (st' := [.long (((((σ.2.1 42) d1).toInt64) * (((σ.2.1 43) i).toInt64)) + ((σ.2.2 44) i)), .int (nI d1), .ref 44]) (hp' := wd σ) rfl ?_
        refine AW_goto hT hK 154 (tgt := 249) rfl rfl ?_
        refine AW_topl (fun u46 h47 => ?_)
        refine AW_lastv hT hK 159 d1 rfl (n := 12) (f := (σ.2.2 44)) rfl rfl (by omega) (by decide) ?_
        refine AW_to (hp' := wd (sL σ 44 (va_up (σ.2.2 44) d1 u46))) rfl rfl (wd_44 _ _) ?_
        refine AW_g hT cl_X6 hK 160 1 (pc' := 253) (lo' := [some (.ref 36), some (.int (nI d1)), some (.int ((nI i) + 1)), some (.long (((((σ.2.1 42) d1).toInt64) * (((σ.2.1 43) i).toInt64)) + ((σ.2.2 44) i))), none]) (st' := []) (hp' := wd (sL σ 44 (va_up (σ.2.2 44) d1 u46))) rfl ?_
        refine AW_goto hT hK 161 (tgt := 174) rfl rfl ?_
        refine AW_msk [true, true, true, false, false] (lo' := [some (.ref 36), some (.int (nI d1)), some (.int ((nI i) + 1)), none, none]) rfl ?_
        refine AW_to (lo' := [some (.ref 36), some (.int (nI d1)), some (.int (nI (i + 1))), none, none]) (by rw [nI_1]) rfl rfl ?_
        have h9 : nn (sL σ 44 (va_up (σ.2.2 44) d1 u46)) = nn σ := rfl
        subst h47; skip
        exact ih (i + 1) _ (by omega) hw (fun s' hs' => kx s' ((congrArg (az_it _ n (i + 1)) (by simp only [b_X6_laysWays_174, if_pos c39, if_neg c43])).trans hs'))
def b_X6_laysWays_89 (n : Nat) (σ : az_S) : az_S :=
  let v25 := x_X6_citers σ (nI n)
  if v25 = 0 then
    let s53 := az_it (fun ι s => b_X6_laysWays_123 n ι s) (nn σ - (n + 1)) (n + 1) (sL (sG σ 43 (va_up (σ.2.1 43) n 1)) 44 (va_up ((sG σ 43 (va_up (σ.2.1 43) n 1)).2.2 44) n 0))
    let s57 := az_it (fun ι s => b_X6_laysWays_174 n ι s) (nn σ - (n + 1)) (n + 1) s53
    s57
  else
    let s34 := az_it (fun ι s => b_X6_laysWays_123 n ι s) (nn σ - (n + 1)) (n + 1) (sL (sG σ 43 (va_up (σ.2.1 43) n 0)) 44 (va_up ((sG σ 43 (va_up (σ.2.1 43) n 0)).2.2 44) n 0))
    let s49 := az_it (fun ι s => b_X6_laysWays_174 n ι s) (nn σ - (n + 1)) (n + 1) s34
    s49
theorem kb_X6_laysWays_89 (n : Nat) (σ : az_S) : (b_X6_laysWays_89 n σ).1 8 = σ.1 8 := by
  unfold b_X6_laysWays_89
  (try dsimp only)
  (repeat' split) <;> first | (simp [az_k8F, az_k8G, az_k8L, kp_X6_laysWays_123, kp_X6_laysWays_174]; done) | rfl
theorem kp_X6_laysWays_89  (n : Nat) (s : az_S) : (az_dn (fun ι s => b_X6_laysWays_89 ι s) n s).1 8 = s.1 8 := az_dn_keep (fun s => s.1 8) (fun i s => kb_X6_laysWays_89 i s) n s
set_option maxRecDepth 100000 in
set_option maxHeartbeats 4000000 in
theorem lp_X6_laysWays_89 {K : az_K} {l0 : Launch} (hT : az_Tb cX6_laysWays tb_X6_laysWays) (hK : az_OK K RX6 cX6_laysWays ({ frames := 1, cells := 0, slots := 0, locals := 23 } : Room) l0) :
    ∀ (n : Nat) (σ : az_S) (hi : n ≤ nn σ) (hw : az_wf σ) (kx : ∀ s' : az_S, az_dn (fun ι s => b_X6_laysWays_89 ι s) n σ = s' → AW K 0 0 262 [some (.ref 36), none, none, none, none] [] (wd s')), AW K 0 0 89 [some (.ref 36), some (.int (nI n - 1)), none, none, none] [] (wd σ) := by
  intro n
  induction n with
  | zero =>
    intro σ hi hw kx
    have hw2 := hw.2
    refine AW_g hT cl_X6 hK 55 1 (pc' := 90) (lo' := [some (.ref 36), some (.int (nI 0 - 1)), none, none, none]) (st' := [.int (nI 0 - 1)]) (hp' := wd σ) rfl ?_
    refine AW_if_lt hT hK 56 (tgt := 262) rfl rfl (fun c61 => ?_) (fun c61 => absurd (az_cd0) c61)
    refine AW_msk [true, false, false, false, false] (lo' := [some (.ref 36), none, none, none, none]) rfl ?_
    exact kx σ rfl
  | succ n ih =>
    intro σ hi hw kx
    have hw2 := hw.2
    refine AW_to (lo' := [some (.ref 36), some (.int (nI n)), none, none, none]) (by rw [az_dn1]) rfl rfl ?_
    refine AW_g hT cl_X6 hK 55 1 (pc' := 90) (lo' := [some (.ref 36), some (.int (nI n)), none, none, none]) (st' := [.int (nI n)]) (hp' := wd σ) rfl ?_
    refine AW_if_lt hT hK 56 (tgt := 262) rfl rfl (fun c23 => absurd c23 (az_cd1 (Nat.le_trans hi hw.2))) (fun c23 => ?_)
    refine AW_g hT cl_X6 hK 57 5 (pc' := 100) (lo' := [some (.ref 36), some (.int (nI n)), none, none, none]) (st' := [.int (nI n), .ref 36, .int (nI n), .ref 43]) (hp' := wd σ) rfl ?_
    refine AW_callV hT hK 62 [.int (nI n)] [.int (nI n), .ref 43] (m_X6_citers l0 σ (nI n) (hw)) cw_X6_citers lk_X6_61 vi_X6_citers rfl rfl rfl rfl rfl rfl (Nat.le_of_ble_eq_true rfl) (Nat.le_of_ble_eq_true rfl) (AW_k1 (fun v25 h24 => ?_))
    refine AW_if_ne hT hK 63 (tgt := 110) rfl rfl (fun c26 => ?_) (fun c26 => ?_)
    · refine AW_g hT cl_X6 hK 66 1 (pc' := 111) (lo' := [some (.ref 36), some (.int (nI n)), none, none, none]) (st' := [.int 0, .int (nI n), .ref 43]) (hp' := wd σ) rfl ?_
      refine AW_iastv hT hK 67 n rfl (n := 12) (f := (σ.2.1 43)) rfl rfl (by omega) (by decide) ?_
      refine AW_to (hp' := wd (sG σ 43 (va_up (σ.2.1 43) n 0))) rfl rfl (wd_43 _ _) ?_
      refine AW_g hT cl_X6 hK 68 4 (pc' := 118) (lo' := [some (.ref 36), some (.int (nI n)), none, none, none]) (st' := [.long 0, .int (nI n), .ref 44]) (hp' := wd (sG σ 43 (va_up (σ.2.1 43) n 0))) rfl ?_
      refine AW_lastv hT hK 72 n rfl (n := 12) (f := ((sG σ 43 (va_up (σ.2.1 43) n 0)).2.2 44)) rfl rfl (by omega) (by decide) ?_
      refine AW_to (hp' := wd (sL (sG σ 43 (va_up (σ.2.1 43) n 0)) 44 (va_up ((sG σ 43 (va_up (σ.2.1 43) n 0)).2.2 44) n 0))) rfl rfl (wd_44 _ _) ?_
      refine AW_g hT cl_X6 hK 73 4 (pc' := 123) (lo' := [some (.ref 36), some (.int (nI n)), some (.int ((nI n) + 1)), none, none]) (st' := []) (hp' := wd (sL (sG σ 43 (va_up (σ.2.1 43) n 0)) 44 (va_up ((sG σ 43 (va_up (σ.2.1 43) n 0)).2.2 44) n 0))) rfl ?_
      refine AW_to (lo' := [some (.ref 36), some (.int (nI n)), some (.int (nI (n + 1))), none, none]) (by rw [nI_1]) rfl rfl ?_
      refine lp_X6_laysWays_123 hT hK n (by omega) (nn σ - (n + 1)) (n + 1) (sL (sG σ 43 (va_up (σ.2.1 43) n 0)) 44 (va_up ((sG σ 43 (va_up (σ.2.1 43) n 0)).2.2 44) n 0)) (by have h9 : nn (sL (sG σ 43 (va_up (σ.2.1 43) n 0)) 44 (va_up ((sG σ 43 (va_up (σ.2.1 43) n 0)).2.2 44) n 0)) = nn σ := rfl; omega) hw (fun s34 h35 => ?_)
      have hn37 : nn s34 = nn σ := by rw [← h35]; exact (az_nn_of (kp_X6_laysWays_123 _ _ _ _)).trans rfl
      have hw36 : az_wf s34 := by rw [← h35]; exact az_wf_of (kp_X6_laysWays_123 _ _ _ _) hw
      refine AW_g hT cl_X6 hK 106 4 (pc' := 174) (lo' := [some (.ref 36), some (.int (nI n)), some (.int ((nI n) + 1)), none, none]) (st' := []) (hp' := wd s34) rfl ?_
      refine AW_to (lo' := [some (.ref 36), some (.int (nI n)), some (.int (nI (n + 1))), none, none]) (by rw [nI_1]) rfl rfl ?_
      refine lp_X6_laysWays_174 hT hK n (by omega) (nn σ - (n + 1)) (n + 1) s34 (by have h9 : nn s34 = nn σ := hn37; omega) hw36 (fun s49 h50 => ?_)
      have hn52 : nn s49 = nn σ := by rw [← h50]; exact (az_nn_of (kp_X6_laysWays_174 _ _ _ _)).trans hn37
      have hw51 : az_wf s49 := by rw [← h50]; exact az_wf_of (kp_X6_laysWays_174 _ _ _ _) hw36
      refine AW_g hT cl_X6 hK 162 1 (pc' := 259) (lo' := [some (.ref 36), some (.int ((nI n) + (-1))), none, none, none]) (st' := []) (hp' := wd s49) rfl ?_
      refine AW_goto hT hK 163 (tgt := 89) rfl rfl ?_
      refine AW_to (lo' := [some (.ref 36), some (.int (nI n - 1)), none, none, none]) (by rw [az_dn2]) rfl rfl ?_
      have h9 : nn s49 = nn σ := hn52
      subst h50; subst h35; subst h24; skip
      exact ih _ (by omega) hw51 (fun s' hs' => kx s' ((congrArg (az_dn _ n) (by simp only [b_X6_laysWays_89, if_neg c26])).trans hs'))
    · refine AW_g hT cl_X6 hK 64 1 (pc' := 107) (lo' := [some (.ref 36), some (.int (nI n)), none, none, none]) (st' := [.int 1, .int (nI n), .ref 43]) (hp' := wd σ) rfl ?_
      refine AW_goto hT hK 65 (tgt := 111) rfl rfl ?_
      refine AW_iastv hT hK 67 n rfl (n := 12) (f := (σ.2.1 43)) rfl rfl (by omega) (by decide) ?_
      refine AW_to (hp' := wd (sG σ 43 (va_up (σ.2.1 43) n 1))) rfl rfl (wd_43 _ _) ?_
      refine AW_g hT cl_X6 hK 68 4 (pc' := 118) (lo' := [some (.ref 36), some (.int (nI n)), none, none, none]) (st' := [.long 0, .int (nI n), .ref 44]) (hp' := wd (sG σ 43 (va_up (σ.2.1 43) n 1))) rfl ?_
      refine AW_lastv hT hK 72 n rfl (n := 12) (f := ((sG σ 43 (va_up (σ.2.1 43) n 1)).2.2 44)) rfl rfl (by omega) (by decide) ?_
      refine AW_to (hp' := wd (sL (sG σ 43 (va_up (σ.2.1 43) n 1)) 44 (va_up ((sG σ 43 (va_up (σ.2.1 43) n 1)).2.2 44) n 0))) rfl rfl (wd_44 _ _) ?_
      refine AW_g hT cl_X6 hK 73 4 (pc' := 123) (lo' := [some (.ref 36), some (.int (nI n)), some (.int ((nI n) + 1)), none, none]) (st' := []) (hp' := wd (sL (sG σ 43 (va_up (σ.2.1 43) n 1)) 44 (va_up ((sG σ 43 (va_up (σ.2.1 43) n 1)).2.2 44) n 0))) rfl ?_
      refine AW_to (lo' := [some (.ref 36), some (.int (nI n)), some (.int (nI (n + 1))), none, none]) (by rw [nI_1]) rfl rfl ?_
      refine lp_X6_laysWays_123 hT hK n (by omega) (nn σ - (n + 1)) (n + 1) (sL (sG σ 43 (va_up (σ.2.1 43) n 1)) 44 (va_up ((sG σ 43 (va_up (σ.2.1 43) n 1)).2.2 44) n 0)) (by have h9 : nn (sL (sG σ 43 (va_up (σ.2.1 43) n 1)) 44 (va_up ((sG σ 43 (va_up (σ.2.1 43) n 1)).2.2 44) n 0)) = nn σ := rfl; omega) hw (fun s53 h54 => ?_)
      have hn56 : nn s53 = nn σ := by rw [← h54]; exact (az_nn_of (kp_X6_laysWays_123 _ _ _ _)).trans rfl
      have hw55 : az_wf s53 := by rw [← h54]; exact az_wf_of (kp_X6_laysWays_123 _ _ _ _) hw
      refine AW_g hT cl_X6 hK 106 4 (pc' := 174) (lo' := [some (.ref 36), some (.int (nI n)), some (.int ((nI n) + 1)), none, none]) (st' := []) (hp' := wd s53) rfl ?_
      refine AW_to (lo' := [some (.ref 36), some (.int (nI n)), some (.int (nI (n + 1))), none, none]) (by rw [nI_1]) rfl rfl ?_
      refine lp_X6_laysWays_174 hT hK n (by omega) (nn σ - (n + 1)) (n + 1) s53 (by have h9 : nn s53 = nn σ := hn56; omega) hw55 (fun s57 h58 => ?_)
      have hn60 : nn s57 = nn σ := by rw [← h58]; exact (az_nn_of (kp_X6_laysWays_174 _ _ _ _)).trans hn56
      have hw59 : az_wf s57 := by rw [← h58]; exact az_wf_of (kp_X6_laysWays_174 _ _ _ _) hw55
      refine AW_g hT cl_X6 hK 162 1 (pc' := 259) (lo' := [some (.ref 36), some (.int ((nI n) + (-1))), none, none, none]) (st' := []) (hp' := wd s57) rfl ?_
      refine AW_goto hT hK 163 (tgt := 89) rfl rfl ?_
      refine AW_to (lo' := [some (.ref 36), some (.int (nI n - 1)), none, none, none]) (by rw [az_dn2]) rfl rfl ?_
      have h9 : nn s57 = nn σ := hn60
      subst h58; subst h54; subst h24; skip
      exact ih _ (by omega) hw59 (fun s' hs' => kx s' ((congrArg (az_dn _ n) (by simp only [b_X6_laysWays_89, if_pos c26])).trans hs'))
def x_X6_laysWays (σ : az_S) : az_S :=
  let s19 := az_it (fun ι s => b_X6_laysWays_2 ι s) (nn σ) 0 σ
  let s62 := az_dn (fun ι s => b_X6_laysWays_89 ι s) (nn σ) s19
  s62
set_option maxRecDepth 100000 in
set_option maxHeartbeats 4000000 in
theorem m_X6_laysWays (l0 : Launch) (σ : az_S) (hw : az_wf σ) : AMet l0 yX6_laysWays cX6_laysWays 5 none ({ frames := 1, cells := 0, slots := 0, locals := 23 } : Room) false [.ref 36] (wd σ) (fun r h => r = none ∧ h = wd (x_X6_laysWays σ)) := by
  refine AMet_of (by decide +kernel) (by simp [Value.category]) (Nat.le_of_ble_eq_true rfl) (fun K hK hct hG hE => ?_)
  have hT := tt_X6_laysWays
  have hw2 := hw.2
  refine AW_g hT cl_X6 hK 0 2 (pc' := 2) (lo' := [some (.ref 36), some (.int 0), none, none, none]) (st' := []) (hp' := wd σ) rfl ?_
  refine AW_to (lo' := [some (.ref 36), some (.int (nI 0)), none, none, none]) (rfl) rfl rfl ?_
  refine lp_X6_laysWays_2 hT hK (nn σ) 0 σ (by have h9 : nn σ = nn σ := rfl; omega) hw (fun s19 h20 => ?_)
  have hn22 : nn s19 = nn σ := by rw [← h20]; exact (az_nn_of (kp_X6_laysWays_2 _ _ _)).trans rfl
  have hw21 : az_wf s19 := by rw [← h20]; exact az_wf_of (kp_X6_laysWays_2 _ _ _) hw
  refine AW_g hT cl_X6 hK 50 5 (pc' := 89) (lo' := [some (.ref 36), some (.int ((s19.1 8) - 1)), none, none, none]) (st' := []) (hp' := wd s19) rfl ?_
  refine AW_to (lo' := [some (.ref 36), some (.int (nI (nn σ) - 1)), none, none, none]) (by rw [show s19.1 8 = nI (nn σ) from (hw21).1.trans (congrArg nI (hn22))]) rfl rfl ?_
  refine lp_X6_laysWays_89 hT hK (nn σ) s19 (by have h9 : nn s19 = nn σ := hn22; omega) hw21 (fun s62 h63 => ?_)
  have hn65 : nn s62 = nn σ := by rw [← h63]; exact (az_nn_of (kp_X6_laysWays_89 _ _)).trans hn22
  have hw64 : az_wf s62 := by rw [← h63]; exact az_wf_of (kp_X6_laysWays_89 _ _) hw21
  refine AW_vret hT hE 164 rfl (Nat.le_of_ble_eq_true rfl) (Nat.le_of_ble_eq_true rfl) ?_
  subst h63; subst h20; exact ⟨rfl, congrArg wd (by simp only [x_X6_laysWays])⟩
theorem kp_X6_laysWays (σ : az_S) : (x_X6_laysWays σ).1 8 = σ.1 8 := by
  unfold x_X6_laysWays
  (try dsimp only)
  (repeat' split) <;> first | (simp [az_k8F, az_k8G, az_k8L, kp_X6_laysWays_2, kp_X6_laysWays_89]; done) | rfl
def x_X6_count_ (σ : az_S) (p0 : Int32) (p1 : Int32) : Int32 × az_S :=
  let v2 := x_X6_isPaper σ p0
  if v2 = 0 then
    let τ5 := x_X6_laysWays σ
    (0, (sF τ5 9 1))
  else
    let v12 := x_X6_isPaper σ p1
    if v12 = 0 then
      let τ15 := x_X6_laysWays σ
      (0, (sF τ15 9 1))
    else
      if ((((σ.2.1 39) p0.toNatClampNeg) >>> (p1 &&& 31)) &&& 1) = 1 then
        let τ30 := x_X6_laysWays σ
        (((((sF τ30 9 0).2.1 42) p1.toNatClampNeg) * (((sF τ30 9 0).2.1 43) p0.toNatClampNeg)), (sF τ30 9 0))
      else
        let τ23 := x_X6_laysWays σ
        (0, (sF τ23 9 1))
set_option maxRecDepth 100000 in
set_option maxHeartbeats 4000000 in
theorem m_X6_count_ (l0 : Launch) (σ : az_S) (p0 : Int32) (p1 : Int32) (hw : az_wf σ) : AMet l0 yX6_count_ cX6_count_ 4 (some .int) ({ frames := 2, cells := 0, slots := 0, locals := 47 } : Room) false [.ref 36, .int p0, .int p1] (wd σ) (fun r h => r = some (.int (x_X6_count_ σ p0 p1).1) ∧ h = wd (x_X6_count_ σ p0 p1).2) := by
  refine AMet_of (by decide +kernel) (by simp [Value.category]) (Nat.le_of_ble_eq_true rfl) (fun K hK hct hG hE => ?_)
  have hT := tt_X6_count_
  have hw2 := hw.2
  refine AW_g hT cl_X6 hK 0 2 (pc' := 2) (lo' := [some (.ref 36), some (.int p0), some (.int p1), none]) (st' := [.int p0, .ref 36]) (hp' := wd σ) rfl ?_
  refine AW_callV hT hK 2 [.int p0] [] (m_X6_isPaper l0 σ p0 (hw)) cw_X6_isPaper lk_X6_47 vi_X6_isPaper rfl rfl rfl rfl rfl rfl (Nat.le_of_ble_eq_true rfl) (Nat.le_of_ble_eq_true rfl) (AW_k1 (fun v2 h1 => ?_))
  refine AW_if_eq hT hK 3 (tgt := 34) rfl rfl (fun c3 => ?_) (fun c3 => ?_)
  · refine AW_g hT cl_X6 hK 20 3 (pc' := 37) (lo' := [some (.ref 36), some (.int p0), some (.int p1), some (.int 0)]) (st' := [.ref 36]) (hp' := wd σ) rfl ?_
    refine AW_callV hT hK 23 [] [] (m_X6_laysWays l0 σ (hw)) cw_X6_laysWays lk_X6_98 vi_X6_laysWays rfl rfl rfl rfl rfl rfl (Nat.le_of_ble_eq_true rfl) (Nat.le_of_ble_eq_true rfl) (AW_kv (fun τ5 h4 => ?_))
    have hn7 : nn τ5 = nn σ := by rw [← h4]; exact (az_nn_of (kp_X6_laysWays _)).trans rfl
    have hw6 : az_wf τ5 := by rw [← h4]; exact az_wf_of (kp_X6_laysWays _) hw
    refine AW_g hT cl_X6 hK 24 2 (pc' := 42) (lo' := [some (.ref 36), some (.int p0), some (.int p1), some (.int 0)]) (st' := [.int 0, .ref 36]) (hp' := wd (τ5)) rfl ?_
    refine AW_if_eq hT hK 26 (tgt := 49) rfl rfl (fun _ => ?_) (fun c8 => absurd (by decide) c8)
    refine AW_g hT cl_X6 hK 29 1 (pc' := 50) (lo' := [some (.ref 36), some (.int p0), some (.int p1), some (.int 0)]) (st' := [.int 1, .ref 36]) (hp' := wd (τ5)) rfl ?_
    refine AW_callV hT hK 30 [.int 1] [] (m_X6_goes l0 (τ5) 1 (hw6)) cw_X6_goes lk_X6_51 vi_X6_goes rfl rfl rfl rfl rfl rfl (Nat.le_of_ble_eq_true rfl) (Nat.le_of_ble_eq_true rfl) (AW_kiw2 (goes_1 (τ5)) ?_)
    refine AW_if_eq hT hK 31 (tgt := 72) rfl rfl (fun _ => ?_) (fun c10 => absurd (by decide) c10)
    refine AW_g hT cl_X6 hK 42 1 (pc' := 73) (lo' := [some (.ref 36), some (.int p0), some (.int p1), some (.int 0)]) (st' := [.int 0]) (hp' := wd (sF τ5 9 1)) rfl ?_
    refine AW_iret hT hE 43 rfl rfl rfl (Nat.le_of_ble_eq_true rfl) (Nat.le_of_ble_eq_true rfl) ?_
    subst h4; subst h1; exact ⟨by simp only [x_X6_count_, if_pos c3], by simp only [x_X6_count_, if_pos c3]⟩
  · refine AW_g hT cl_X6 hK 4 2 (pc' := 10) (lo' := [some (.ref 36), some (.int p0), some (.int p1), none]) (st' := [.int p1, .ref 36]) (hp' := wd σ) rfl ?_
    refine AW_callV hT hK 6 [.int p1] [] (m_X6_isPaper l0 σ p1 (hw)) cw_X6_isPaper lk_X6_47 vi_X6_isPaper rfl rfl rfl rfl rfl rfl (Nat.le_of_ble_eq_true rfl) (Nat.le_of_ble_eq_true rfl) (AW_k1 (fun v12 h11 => ?_))
    refine AW_if_eq hT hK 7 (tgt := 34) rfl rfl (fun c13 => ?_) (fun c13 => ?_)
    · refine AW_g hT cl_X6 hK 20 3 (pc' := 37) (lo' := [some (.ref 36), some (.int p0), some (.int p1), some (.int 0)]) (st' := [.ref 36]) (hp' := wd σ) rfl ?_
      refine AW_callV hT hK 23 [] [] (m_X6_laysWays l0 σ (hw)) cw_X6_laysWays lk_X6_98 vi_X6_laysWays rfl rfl rfl rfl rfl rfl (Nat.le_of_ble_eq_true rfl) (Nat.le_of_ble_eq_true rfl) (AW_kv (fun τ15 h14 => ?_))
      have hn17 : nn τ15 = nn σ := by rw [← h14]; exact (az_nn_of (kp_X6_laysWays _)).trans rfl
      have hw16 : az_wf τ15 := by rw [← h14]; exact az_wf_of (kp_X6_laysWays _) hw
      refine AW_g hT cl_X6 hK 24 2 (pc' := 42) (lo' := [some (.ref 36), some (.int p0), some (.int p1), some (.int 0)]) (st' := [.int 0, .ref 36]) (hp' := wd (τ15)) rfl ?_
      refine AW_if_eq hT hK 26 (tgt := 49) rfl rfl (fun _ => ?_) (fun c18 => absurd (by decide) c18)
      refine AW_g hT cl_X6 hK 29 1 (pc' := 50) (lo' := [some (.ref 36), some (.int p0), some (.int p1), some (.int 0)]) (st' := [.int 1, .ref 36]) (hp' := wd (τ15)) rfl ?_
      refine AW_callV hT hK 30 [.int 1] [] (m_X6_goes l0 (τ15) 1 (hw16)) cw_X6_goes lk_X6_51 vi_X6_goes rfl rfl rfl rfl rfl rfl (Nat.le_of_ble_eq_true rfl) (Nat.le_of_ble_eq_true rfl) (AW_kiw2 (goes_1 (τ15)) ?_)
      refine AW_if_eq hT hK 31 (tgt := 72) rfl rfl (fun _ => ?_) (fun c20 => absurd (by decide) c20)
      refine AW_g hT cl_X6 hK 42 1 (pc' := 73) (lo' := [some (.ref 36), some (.int p0), some (.int p1), some (.int 0)]) (st' := [.int 0]) (hp' := wd (sF τ15 9 1)) rfl ?_
      refine AW_iret hT hE 43 rfl rfl rfl (Nat.le_of_ble_eq_true rfl) (Nat.le_of_ble_eq_true rfl) ?_
      subst h14; subst h11; subst h1; exact ⟨by simp only [x_X6_count_, if_neg c3, if_pos c13], by simp only [x_X6_count_, if_neg c3, if_pos c13]⟩
    · refine AW_g hT cl_X6 hK 8 3 (pc' := 21) (lo' := [some (.ref 36), some (.int p0), some (.int p1), none]) (st' := [.int p0, .ref 39]) (hp' := wd σ) rfl ?_
      refine AW_ialdx hT hK 11 rfl (n := 12) (f := (σ.2.1 39)) rfl (ob_paper2 hw h1 c3) ?_
      refine AW_g hT cl_X6 hK 12 5 (pc' := 27) (lo' := [some (.ref 36), some (.int p0), some (.int p1), none]) (st' := [.int 1, .int ((((σ.2.1 39) p0.toNatClampNeg) >>> (p1 &&& 31)) &&& 1)]) (hp' := wd σ) rfl ?_
      refine AW_icmp_ne hT hK 17 (tgt := 34) rfl rfl (fun c21 => ?_) (fun c21 => ?_)
      · refine AW_g hT cl_X6 hK 20 3 (pc' := 37) (lo' := [some (.ref 36), some (.int p0), some (.int p1), some (.int 0)]) (st' := [.ref 36]) (hp' := wd σ) rfl ?_
        refine AW_callV hT hK 23 [] [] (m_X6_laysWays l0 σ (hw)) cw_X6_laysWays lk_X6_98 vi_X6_laysWays rfl rfl rfl rfl rfl rfl (Nat.le_of_ble_eq_true rfl) (Nat.le_of_ble_eq_true rfl) (AW_kv (fun τ23 h22 => ?_))
        have hn25 : nn τ23 = nn σ := by rw [← h22]; exact (az_nn_of (kp_X6_laysWays _)).trans rfl
        have hw24 : az_wf τ23 := by rw [← h22]; exact az_wf_of (kp_X6_laysWays _) hw
        refine AW_g hT cl_X6 hK 24 2 (pc' := 42) (lo' := [some (.ref 36), some (.int p0), some (.int p1), some (.int 0)]) (st' := [.int 0, .ref 36]) (hp' := wd (τ23)) rfl ?_
        refine AW_if_eq hT hK 26 (tgt := 49) rfl rfl (fun _ => ?_) (fun c26 => absurd (by decide) c26)
        refine AW_g hT cl_X6 hK 29 1 (pc' := 50) (lo' := [some (.ref 36), some (.int p0), some (.int p1), some (.int 0)]) (st' := [.int 1, .ref 36]) (hp' := wd (τ23)) rfl ?_
        refine AW_callV hT hK 30 [.int 1] [] (m_X6_goes l0 (τ23) 1 (hw24)) cw_X6_goes lk_X6_51 vi_X6_goes rfl rfl rfl rfl rfl rfl (Nat.le_of_ble_eq_true rfl) (Nat.le_of_ble_eq_true rfl) (AW_kiw2 (goes_1 (τ23)) ?_)
        refine AW_if_eq hT hK 31 (tgt := 72) rfl rfl (fun _ => ?_) (fun c28 => absurd (by decide) c28)
        refine AW_g hT cl_X6 hK 42 1 (pc' := 73) (lo' := [some (.ref 36), some (.int p0), some (.int p1), some (.int 0)]) (st' := [.int 0]) (hp' := wd (sF τ23 9 1)) rfl ?_
        refine AW_iret hT hE 43 rfl rfl rfl (Nat.le_of_ble_eq_true rfl) (Nat.le_of_ble_eq_true rfl) ?_
        subst h22; subst h11; subst h1; exact ⟨by simp only [x_X6_count_, if_neg c3, if_neg c13, if_neg c21], by simp only [x_X6_count_, if_neg c3, if_neg c13, if_neg c21]⟩
      · refine AW_g hT cl_X6 hK 18 1 (pc' := 31) (lo' := [some (.ref 36), some (.int p0), some (.int p1), none]) (st' := [.int 1]) (hp' := wd σ) rfl ?_
        refine AW_goto hT hK 19 (tgt := 35) rfl rfl ?_
        refine AW_g hT cl_X6 hK 21 2 (pc' := 37) (lo' := [some (.ref 36), some (.int p0), some (.int p1), some (.int 1)]) (st' := [.ref 36]) (hp' := wd σ) rfl ?_
        refine AW_callV hT hK 23 [] [] (m_X6_laysWays l0 σ (hw)) cw_X6_laysWays lk_X6_98 vi_X6_laysWays rfl rfl rfl rfl rfl rfl (Nat.le_of_ble_eq_true rfl) (Nat.le_of_ble_eq_true rfl) (AW_kv (fun τ30 h29 => ?_))
        have hn32 : nn τ30 = nn σ := by rw [← h29]; exact (az_nn_of (kp_X6_laysWays _)).trans rfl
        have hw31 : az_wf τ30 := by rw [← h29]; exact az_wf_of (kp_X6_laysWays _) hw
        refine AW_g hT cl_X6 hK 24 2 (pc' := 42) (lo' := [some (.ref 36), some (.int p0), some (.int p1), some (.int 1)]) (st' := [.int 1, .ref 36]) (hp' := wd (τ30)) rfl ?_
        refine AW_if_eq hT hK 26 (tgt := 49) rfl rfl (fun c33 => absurd c33 (by decide)) (fun _ => ?_)
        refine AW_g hT cl_X6 hK 27 1 (pc' := 46) (lo' := [some (.ref 36), some (.int p0), some (.int p1), some (.int 1)]) (st' := [.int 0, .ref 36]) (hp' := wd (τ30)) rfl ?_
        refine AW_goto hT hK 28 (tgt := 50) rfl rfl ?_
        refine AW_callV hT hK 30 [.int 0] [] (m_X6_goes l0 (τ30) 0 (hw31)) cw_X6_goes lk_X6_51 vi_X6_goes rfl rfl rfl rfl rfl rfl (Nat.le_of_ble_eq_true rfl) (Nat.le_of_ble_eq_true rfl) (AW_kiw2 (goes_0 (τ30)) ?_)
        refine AW_if_eq hT hK 31 (tgt := 72) rfl rfl (fun c35 => absurd c35 (by decide)) (fun _ => ?_)
        refine AW_g hT cl_X6 hK 32 3 (pc' := 61) (lo' := [some (.ref 36), some (.int p0), some (.int p1), some (.int 1)]) (st' := [.int p1, .ref 42]) (hp' := wd (sF τ30 9 0)) rfl ?_
        refine AW_ialdx hT hK 35 rfl (n := 12) (f := ((sF τ30 9 0).2.1 42)) rfl (ob_paper2 hw h11 c13) ?_
        refine AW_g hT cl_X6 hK 36 3 (pc' := 67) (lo' := [some (.ref 36), some (.int p0), some (.int p1), some (.int 1)]) (st' := [.int p0, .ref 43, .int (((sF τ30 9 0).2.1 42) p1.toNatClampNeg)]) (hp' := wd (sF τ30 9 0)) rfl ?_
        refine AW_ialdx hT hK 39 rfl (n := 12) (f := ((sF τ30 9 0).2.1 43)) rfl (ob_paper2 hw h1 c3) ?_
        refine AW_g hT cl_X6 hK 40 1 (pc' := 69) (lo' := [some (.ref 36), some (.int p0), some (.int p1), some (.int 1)]) (st' := [.int ((((sF τ30 9 0).2.1 42) p1.toNatClampNeg) * (((sF τ30 9 0).2.1 43) p0.toNatClampNeg))]) (hp' := wd (sF τ30 9 0)) rfl ?_
        refine AW_goto hT hK 41 (tgt := 73) rfl rfl ?_
        refine AW_iret hT hE 43 rfl rfl rfl (Nat.le_of_ble_eq_true rfl) (Nat.le_of_ble_eq_true rfl) ?_
        subst h29; subst h11; subst h1; exact ⟨by simp only [x_X6_count_, if_neg c3, if_neg c13, if_pos c21], by simp only [x_X6_count_, if_neg c3, if_neg c13, if_pos c21]⟩
theorem kp_X6_count_ (σ : az_S) (p0 : Int32) (p1 : Int32) : (x_X6_count_ σ p0 p1).2.1 8 = σ.1 8 := by
  unfold x_X6_count_
  (try dsimp only)
  (repeat' split) <;> first | (simp [az_k8F, az_k8G, az_k8L, kp_X6_laysWays]; done) | rfl
def b_X6_ways_13 (σ : az_S) (i : Nat) (w1 : Int32) : Int32 :=
  if ((σ.2.1 37) i) = 0 then
    (w1 + 0)
  else
    let v8 := x_X6_citers σ (nI i)
    if v8 = 0 then
      (w1 + ((σ.2.1 42) i))
    else
      (w1 + 0)
set_option maxRecDepth 100000 in
set_option maxHeartbeats 4000000 in
theorem lp_X6_ways_13 {K : az_K} {l0 : Launch} (hT : az_Tb cX6_ways tb_X6_ways) (hK : az_OK K RX6 cX6_ways ({ frames := 2, cells := 0, slots := 0, locals := 47 } : Room) l0) (σ : az_S) (hw : az_wf σ) :
    ∀ (n i : Nat) (w1 : Int32) (hi : i + n = nn σ) (kx : ∀ s' : Int32, az_it (fun ι s => b_X6_ways_13 σ ι s) n i w1 = s' → AW K 0 0 57 [some (.ref 36), some (.int s'), none] [] (wd σ)), AW K 0 0 13 [some (.ref 36), some (.int w1), some (.int (nI i))] [] (wd σ) := by
  intro n
  induction n with
  | zero =>
    intro i w1 hi kx
    have hw2 := hw.2
    refine AW_g hT cl_X6 hK 9 3 (pc' := 18) (lo' := [some (.ref 36), some (.int w1), some (.int (nI i))]) (st' := [.int (σ.1 8), .int (nI i)]) (hp' := wd σ) rfl ?_
    refine AW_icmp_ge hT hK 12 (tgt := 57) rfl rfl (fun c10 => ?_) (fun c10 => absurd (az_cn0 hw hi) c10)
    refine AW_msk [true, true, false] (lo' := [some (.ref 36), some (.int w1), none]) rfl ?_
    exact kx w1 rfl
  | succ n ih =>
    intro i w1 hi kx
    have hw2 := hw.2
    refine AW_g hT cl_X6 hK 9 3 (pc' := 18) (lo' := [some (.ref 36), some (.int w1), some (.int (nI i))]) (st' := [.int (σ.1 8), .int (nI i)]) (hp' := wd σ) rfl ?_
    refine AW_icmp_ge hT hK 12 (tgt := 57) rfl rfl (fun c5 => absurd c5 (az_cn1 hw hi)) (fun c5 => ?_)
    refine AW_g hT cl_X6 hK 13 4 (pc' := 27) (lo' := [some (.ref 36), some (.int w1), some (.int (nI i))]) (st' := [.int (nI i), .ref 37, .int w1]) (hp' := wd σ) rfl ?_
    refine AW_zald hT hK 17 i rfl (n := 12) (f := (σ.2.1 37)) rfl rfl (by omega) (by decide) ?_
    refine AW_if_eq hT hK 18 (tgt := 48) rfl rfl (fun c6 => ?_) (fun c6 => ?_)
    · refine AW_g hT cl_X6 hK 28 4 (pc' := 54) (lo' := [some (.ref 36), some (.int (w1 + 0)), some (.int ((nI i) + 1))]) (st' := []) (hp' := wd σ) rfl ?_
      refine AW_goto hT hK 32 (tgt := 13) rfl rfl ?_
      refine AW_to (lo' := [some (.ref 36), some (.int (w1 + 0)), some (.int (nI (i + 1)))]) (by rw [nI_1]) rfl rfl ?_
      exact ih (i + 1) _ (by omega) (fun s' hs' => kx s' ((congrArg (az_it _ n (i + 1)) (by simp only [b_X6_ways_13, if_pos c6])).trans hs'))
    · refine AW_g hT cl_X6 hK 19 2 (pc' := 33) (lo' := [some (.ref 36), some (.int w1), some (.int (nI i))]) (st' := [.int (nI i), .ref 36, .int w1]) (hp' := wd σ) rfl ?_
      refine AW_callV hT hK 21 [.int (nI i)] [.int w1] (m_X6_citers l0 σ (nI i) (hw)) cw_X6_citers lk_X6_61 vi_X6_citers rfl rfl rfl rfl rfl rfl (Nat.le_of_ble_eq_true rfl) (Nat.le_of_ble_eq_true rfl) (AW_k1 (fun v8 h7 => ?_))
      refine AW_if_ne hT hK 22 (tgt := 48) rfl rfl (fun c9 => ?_) (fun c9 => ?_)
      · refine AW_g hT cl_X6 hK 28 4 (pc' := 54) (lo' := [some (.ref 36), some (.int (w1 + 0)), some (.int ((nI i) + 1))]) (st' := []) (hp' := wd σ) rfl ?_
        refine AW_goto hT hK 32 (tgt := 13) rfl rfl ?_
        refine AW_to (lo' := [some (.ref 36), some (.int (w1 + 0)), some (.int (nI (i + 1)))]) (by rw [nI_1]) rfl rfl ?_
        subst h7; skip
        exact ih (i + 1) _ (by omega) (fun s' hs' => kx s' ((congrArg (az_it _ n (i + 1)) (by simp only [b_X6_ways_13, if_neg c6, if_neg c9])).trans hs'))
      · refine AW_g hT cl_X6 hK 23 3 (pc' := 44) (lo' := [some (.ref 36), some (.int w1), some (.int (nI i))]) (st' := [.int (nI i), .ref 42, .int w1]) (hp' := wd σ) rfl ?_
        refine AW_iald hT hK 26 i rfl (n := 12) (f := (σ.2.1 42)) rfl rfl (by omega) (by decide) ?_
        refine AW_goto hT hK 27 (tgt := 49) rfl rfl ?_
        refine AW_g hT cl_X6 hK 29 3 (pc' := 54) (lo' := [some (.ref 36), some (.int (w1 + ((σ.2.1 42) i))), some (.int ((nI i) + 1))]) (st' := []) (hp' := wd σ) rfl ?_
        refine AW_goto hT hK 32 (tgt := 13) rfl rfl ?_
        refine AW_to (lo' := [some (.ref 36), some (.int (w1 + ((σ.2.1 42) i))), some (.int (nI (i + 1)))]) (by rw [nI_1]) rfl rfl ?_
        subst h7; skip
        exact ih (i + 1) _ (by omega) (fun s' hs' => kx s' ((congrArg (az_it _ n (i + 1)) (by simp only [b_X6_ways_13, if_neg c6, if_pos c9])).trans hs'))
def x_X6_ways (σ : az_S) : Int32 × az_S :=
  let τ2 := x_X6_laysWays (sF σ 9 0)
  let s11 := az_it (fun ι s => b_X6_ways_13 (τ2) ι s) (nn σ) 0 0
  (s11, τ2)
set_option maxRecDepth 100000 in
set_option maxHeartbeats 4000000 in
theorem m_X6_ways (l0 : Launch) (σ : az_S) (hw : az_wf σ) : AMet l0 yX6_ways cX6_ways 3 (some .int) ({ frames := 2, cells := 0, slots := 0, locals := 47 } : Room) false [.ref 36] (wd σ) (fun r h => r = some (.int (x_X6_ways σ).1) ∧ h = wd (x_X6_ways σ).2) := by
  refine AMet_of (by decide +kernel) (by simp [Value.category]) (Nat.le_of_ble_eq_true rfl) (fun K hK hct hG hE => ?_)
  have hT := tt_X6_ways
  have hw2 := hw.2
  refine AW_g hT cl_X6 hK 0 4 (pc' := 6) (lo' := [some (.ref 36), none, none]) (st' := [.ref 36]) (hp' := wd (sF σ 9 0)) rfl ?_
  refine AW_callV hT hK 4 [] [] (m_X6_laysWays l0 (sF σ 9 0) (hw)) cw_X6_laysWays lk_X6_98 vi_X6_laysWays rfl rfl rfl rfl rfl rfl (Nat.le_of_ble_eq_true rfl) (Nat.le_of_ble_eq_true rfl) (AW_kv (fun τ2 h1 => ?_))
  have hn4 : nn τ2 = nn σ := by rw [← h1]; exact (az_nn_of (kp_X6_laysWays _)).trans rfl
  have hw3 : az_wf τ2 := by rw [← h1]; exact az_wf_of (kp_X6_laysWays _) hw
  refine AW_g hT cl_X6 hK 5 4 (pc' := 13) (lo' := [some (.ref 36), some (.int 0), some (.int 0)]) (st' := []) (hp' := wd (τ2)) rfl ?_
  refine AW_to (lo' := [some (.ref 36), some (.int 0), some (.int (nI 0))]) (rfl) rfl rfl ?_
  refine lp_X6_ways_13 hT hK (τ2) hw3 (nn σ) 0 0 (by have h9 : nn (τ2) = nn σ := hn4; omega) (fun s11 h12 => ?_)
  refine AW_g hT cl_X6 hK 33 1 (pc' := 58) (lo' := [some (.ref 36), some (.int s11), none]) (st' := [.int s11]) (hp' := wd (τ2)) rfl ?_
  refine AW_iret hT hE 34 rfl rfl rfl (Nat.le_of_ble_eq_true rfl) (Nat.le_of_ble_eq_true rfl) ?_
  subst h12; subst h1; exact ⟨by simp only [x_X6_ways], by simp only [x_X6_ways]⟩
theorem kp_X6_ways (σ : az_S) : (x_X6_ways σ).2.1 8 = σ.1 8 := by
  unfold x_X6_ways
  (try dsimp only)
  (repeat' split) <;> first | (simp [az_k8F, az_k8G, az_k8L, kp_X6_laysWays]; done) | rfl
def b_X6_first_13 (σ : az_S) (n : Nat) (w1 : Int32) : Int32 :=
  if ((σ.2.1 37) n) = 0 then
    w1
  else
    if ((σ.2.1 39) n) = 0 then
      if w1 = (-1) then
        (nI n)
      else
        if (lg_cmp ((σ.2.2 44) n) ((σ.2.2 44) w1.toNatClampNeg)) < 0 then
          w1
        else
          (nI n)
    else
      w1
set_option maxRecDepth 100000 in
set_option maxHeartbeats 4000000 in
theorem lp_X6_first_13 {K : az_K} {l0 : Launch} (hT : az_Tb cX6_first tb_X6_first) (hK : az_OK K RX6 cX6_first ({ frames := 2, cells := 0, slots := 0, locals := 47 } : Room) l0) (σ : az_S) (hw : az_wf σ) :
    ∀ (n : Nat) (w1 : Int32) (hi : n ≤ nn σ) (hI : w1 = (-1) ∨ vp_in w1 12) (kx : ∀ s' : Int32, az_dn (fun ι s => b_X6_first_13 σ ι s) n w1 = s' → AW K 0 0 78 [some (.ref 36), some (.int s'), none, none] [] (wd σ)), AW K 0 0 13 [some (.ref 36), some (.int w1), some (.int (nI n - 1)), none] [] (wd σ) := by
  intro n
  induction n with
  | zero =>
    intro w1 hi hI kx
    have hw2 := hw.2
    refine AW_g hT cl_X6 hK 9 1 (pc' := 14) (lo' := [some (.ref 36), some (.int w1), some (.int (nI 0 - 1)), none]) (st' := [.int (nI 0 - 1)]) (hp' := wd σ) rfl ?_
    refine AW_if_lt hT hK 10 (tgt := 78) rfl rfl (fun c15 => ?_) (fun c15 => absurd (az_cd0) c15)
    refine AW_msk [true, true, false, false] (lo' := [some (.ref 36), some (.int w1), none, none]) rfl ?_
    exact kx w1 rfl
  | succ n ih =>
    intro w1 hi hI kx
    have hw2 := hw.2
    refine AW_to (lo' := [some (.ref 36), some (.int w1), some (.int (nI n)), none]) (by rw [az_dn1]) rfl rfl ?_
    refine AW_g hT cl_X6 hK 9 1 (pc' := 14) (lo' := [some (.ref 36), some (.int w1), some (.int (nI n)), none]) (st' := [.int (nI n)]) (hp' := wd σ) rfl ?_
    refine AW_if_lt hT hK 10 (tgt := 78) rfl rfl (fun c5 => absurd c5 (az_cd1 (Nat.le_trans hi hw.2))) (fun c5 => ?_)
    refine AW_g hT cl_X6 hK 11 3 (pc' := 22) (lo' := [some (.ref 36), some (.int w1), some (.int (nI n)), none]) (st' := [.int (nI n), .ref 37]) (hp' := wd σ) rfl ?_
    refine AW_zald hT hK 14 n rfl (n := 12) (f := (σ.2.1 37)) rfl rfl (by omega) (by decide) ?_
    refine AW_if_eq hT hK 15 (tgt := 60) rfl rfl (fun c6 => ?_) (fun c6 => ?_)
    · refine AW_g hT cl_X6 hK 36 3 (pc' := 63) (lo' := [some (.ref 36), some (.int w1), some (.int (nI n)), some (.int 0)]) (st' := [.int 0]) (hp' := wd σ) rfl ?_
      refine AW_if_eq hT hK 39 (tgt := 70) rfl rfl (fun _ => ?_) (fun c7 => absurd (by decide) c7)
      refine AW_g hT cl_X6 hK 42 3 (pc' := 75) (lo' := [some (.ref 36), some (.int w1), some (.int ((nI n) + (-1))), some (.int 0)]) (st' := []) (hp' := wd σ) rfl ?_
      refine AW_goto hT hK 45 (tgt := 13) rfl rfl ?_
      refine AW_msk [true, true, true, false] (lo' := [some (.ref 36), some (.int w1), some (.int ((nI n) + (-1))), none]) rfl ?_
      refine AW_to (lo' := [some (.ref 36), some (.int w1), some (.int (nI n - 1)), none]) (by rw [az_dn2]) rfl rfl ?_
      exact ih _ (by omega) (by first | exact hI | exact Or.inr (vp_in_nI (by omega) (by decide))) (fun s' hs' => kx s' ((congrArg (az_dn _ n) (by simp only [b_X6_first_13, if_pos c6])).trans hs'))
    · refine AW_g hT cl_X6 hK 16 3 (pc' := 31) (lo' := [some (.ref 36), some (.int w1), some (.int (nI n)), none]) (st' := [.int (nI n), .ref 39]) (hp' := wd σ) rfl ?_
      refine AW_iald hT hK 19 n rfl (n := 12) (f := (σ.2.1 39)) rfl rfl (by omega) (by decide) ?_
      refine AW_if_ne hT hK 20 (tgt := 60) rfl rfl (fun c8 => ?_) (fun c8 => ?_)
      · refine AW_g hT cl_X6 hK 36 3 (pc' := 63) (lo' := [some (.ref 36), some (.int w1), some (.int (nI n)), some (.int 0)]) (st' := [.int 0]) (hp' := wd σ) rfl ?_
        refine AW_if_eq hT hK 39 (tgt := 70) rfl rfl (fun _ => ?_) (fun c9 => absurd (by decide) c9)
        refine AW_g hT cl_X6 hK 42 3 (pc' := 75) (lo' := [some (.ref 36), some (.int w1), some (.int ((nI n) + (-1))), some (.int 0)]) (st' := []) (hp' := wd σ) rfl ?_
        refine AW_goto hT hK 45 (tgt := 13) rfl rfl ?_
        refine AW_msk [true, true, true, false] (lo' := [some (.ref 36), some (.int w1), some (.int ((nI n) + (-1))), none]) rfl ?_
        refine AW_to (lo' := [some (.ref 36), some (.int w1), some (.int (nI n - 1)), none]) (by rw [az_dn2]) rfl rfl ?_
        exact ih _ (by omega) (by first | exact hI | exact Or.inr (vp_in_nI (by omega) (by decide))) (fun s' hs' => kx s' ((congrArg (az_dn _ n) (by simp only [b_X6_first_13, if_neg c6, if_neg c8])).trans hs'))
      · refine AW_g hT cl_X6 hK 21 2 (pc' := 37) (lo' := [some (.ref 36), some (.int w1), some (.int (nI n)), none]) (st' := [.int (-1), .int w1]) (hp' := wd σ) rfl ?_
        refine AW_icmp_eq hT hK 23 (tgt := 56) rfl rfl (fun c10 => ?_) (fun c10 => ?_)
        · refine AW_g hT cl_X6 hK 34 1 (pc' := 57) (lo' := [some (.ref 36), some (.int w1), some (.int (nI n)), none]) (st' := [.int 1]) (hp' := wd σ) rfl ?_
          refine AW_goto hT hK 35 (tgt := 61) rfl rfl ?_
          refine AW_g hT cl_X6 hK 37 2 (pc' := 63) (lo' := [some (.ref 36), some (.int w1), some (.int (nI n)), some (.int 1)]) (st' := [.int 1]) (hp' := wd σ) rfl ?_
          refine AW_if_eq hT hK 39 (tgt := 70) rfl rfl (fun c11 => absurd c11 (by decide)) (fun _ => ?_)
          refine AW_g hT cl_X6 hK 40 1 (pc' := 67) (lo' := [some (.ref 36), some (.int w1), some (.int (nI n)), some (.int 1)]) (st' := [.int (nI n)]) (hp' := wd σ) rfl ?_
          refine AW_goto hT hK 41 (tgt := 71) rfl rfl ?_
          refine AW_g hT cl_X6 hK 43 2 (pc' := 75) (lo' := [some (.ref 36), some (.int (nI n)), some (.int ((nI n) + (-1))), some (.int 1)]) (st' := []) (hp' := wd σ) rfl ?_
          refine AW_goto hT hK 45 (tgt := 13) rfl rfl ?_
          refine AW_msk [true, true, true, false] (lo' := [some (.ref 36), some (.int (nI n)), some (.int ((nI n) + (-1))), none]) rfl ?_
          refine AW_to (lo' := [some (.ref 36), some (.int (nI n)), some (.int (nI n - 1)), none]) (by rw [az_dn2]) rfl rfl ?_
          exact ih _ (by omega) (by first | exact hI | exact Or.inr (vp_in_nI (by omega) (by decide))) (fun s' hs' => kx s' ((congrArg (az_dn _ n) (by simp only [b_X6_first_13, if_neg c6, if_pos c8, if_pos c10])).trans hs'))
        · refine AW_g hT cl_X6 hK 24 3 (pc' := 45) (lo' := [some (.ref 36), some (.int w1), some (.int (nI n)), none]) (st' := [.int (nI n), .ref 44]) (hp' := wd σ) rfl ?_
          refine AW_lald hT hK 27 n rfl (n := 12) (f := (σ.2.2 44)) rfl rfl (by omega) (by decide) ?_
          refine AW_g hT cl_X6 hK 28 3 (pc' := 51) (lo' := [some (.ref 36), some (.int w1), some (.int (nI n)), none]) (st' := [.int w1, .ref 44, .long ((σ.2.2 44) n)]) (hp' := wd σ) rfl ?_
          refine AW_laldx hT hK 31 rfl (n := 12) (f := (σ.2.2 44)) rfl (hI.resolve_left c10) ?_
          refine AW_g hT cl_X6 hK 32 1 (pc' := 53) (lo' := [some (.ref 36), some (.int w1), some (.int (nI n)), none]) (st' := [.int (lg_cmp ((σ.2.2 44) n) ((σ.2.2 44) w1.toNatClampNeg))]) (hp' := wd σ) rfl ?_
          refine AW_if_lt hT hK 33 (tgt := 60) rfl rfl (fun c12 => ?_) (fun c12 => ?_)
          · refine AW_g hT cl_X6 hK 36 3 (pc' := 63) (lo' := [some (.ref 36), some (.int w1), some (.int (nI n)), some (.int 0)]) (st' := [.int 0]) (hp' := wd σ) rfl ?_
            refine AW_if_eq hT hK 39 (tgt := 70) rfl rfl (fun _ => ?_) (fun c13 => absurd (by decide) c13)
            refine AW_g hT cl_X6 hK 42 3 (pc' := 75) (lo' := [some (.ref 36), some (.int w1), some (.int ((nI n) + (-1))), some (.int 0)]) (st' := []) (hp' := wd σ) rfl ?_
            refine AW_goto hT hK 45 (tgt := 13) rfl rfl ?_
            refine AW_msk [true, true, true, false] (lo' := [some (.ref 36), some (.int w1), some (.int ((nI n) + (-1))), none]) rfl ?_
            refine AW_to (lo' := [some (.ref 36), some (.int w1), some (.int (nI n - 1)), none]) (by rw [az_dn2]) rfl rfl ?_
            exact ih _ (by omega) (by first | exact hI | exact Or.inr (vp_in_nI (by omega) (by decide))) (fun s' hs' => kx s' ((congrArg (az_dn _ n) (by simp only [b_X6_first_13, if_neg c6, if_pos c8, if_neg c10, if_pos c12])).trans hs'))
          · refine AW_g hT cl_X6 hK 34 1 (pc' := 57) (lo' := [some (.ref 36), some (.int w1), some (.int (nI n)), none]) (st' := [.int 1]) (hp' := wd σ) rfl ?_
            refine AW_goto hT hK 35 (tgt := 61) rfl rfl ?_
            refine AW_g hT cl_X6 hK 37 2 (pc' := 63) (lo' := [some (.ref 36), some (.int w1), some (.int (nI n)), some (.int 1)]) (st' := [.int 1]) (hp' := wd σ) rfl ?_
            refine AW_if_eq hT hK 39 (tgt := 70) rfl rfl (fun c14 => absurd c14 (by decide)) (fun _ => ?_)
            refine AW_g hT cl_X6 hK 40 1 (pc' := 67) (lo' := [some (.ref 36), some (.int w1), some (.int (nI n)), some (.int 1)]) (st' := [.int (nI n)]) (hp' := wd σ) rfl ?_
            refine AW_goto hT hK 41 (tgt := 71) rfl rfl ?_
            refine AW_g hT cl_X6 hK 43 2 (pc' := 75) (lo' := [some (.ref 36), some (.int (nI n)), some (.int ((nI n) + (-1))), some (.int 1)]) (st' := []) (hp' := wd σ) rfl ?_
            refine AW_goto hT hK 45 (tgt := 13) rfl rfl ?_
            refine AW_msk [true, true, true, false] (lo' := [some (.ref 36), some (.int (nI n)), some (.int ((nI n) + (-1))), none]) rfl ?_
            refine AW_to (lo' := [some (.ref 36), some (.int (nI n)), some (.int (nI n - 1)), none]) (by rw [az_dn2]) rfl rfl ?_
            exact ih _ (by omega) (by first | exact hI | exact Or.inr (vp_in_nI (by omega) (by decide))) (fun s' hs' => kx s' ((congrArg (az_dn _ n) (by simp only [b_X6_first_13, if_neg c6, if_pos c8, if_neg c10, if_neg c12])).trans hs'))
def x_X6_first (σ : az_S) : Int32 × az_S :=
  let τ2 := x_X6_laysWays σ
  let s16 := az_dn (fun ι s => b_X6_first_13 (τ2) ι s) (nn σ) (-1)
  (s16, τ2)
set_option maxRecDepth 100000 in
set_option maxHeartbeats 4000000 in
theorem m_X6_first (l0 : Launch) (σ : az_S) (hw : az_wf σ) : AMet l0 yX6_first cX6_first 4 (some .int) ({ frames := 2, cells := 0, slots := 0, locals := 47 } : Room) false [.ref 36] (wd σ) (fun r h => r = some (.int (x_X6_first σ).1) ∧ h = wd (x_X6_first σ).2) := by
  refine AMet_of (by decide +kernel) (by simp [Value.category]) (Nat.le_of_ble_eq_true rfl) (fun K hK hct hG hE => ?_)
  have hT := tt_X6_first
  have hw2 := hw.2
  refine AW_g hT cl_X6 hK 0 3 (pc' := 3) (lo' := [some (.ref 36), some (.int (-1)), none, none]) (st' := [.ref 36]) (hp' := wd σ) rfl ?_
  refine AW_callV hT hK 3 [] [] (m_X6_laysWays l0 σ (hw)) cw_X6_laysWays lk_X6_98 vi_X6_laysWays rfl rfl rfl rfl rfl rfl (Nat.le_of_ble_eq_true rfl) (Nat.le_of_ble_eq_true rfl) (AW_kv (fun τ2 h1 => ?_))
  have hn4 : nn τ2 = nn σ := by rw [← h1]; exact (az_nn_of (kp_X6_laysWays _)).trans rfl
  have hw3 : az_wf τ2 := by rw [← h1]; exact az_wf_of (kp_X6_laysWays _) hw
  refine AW_g hT cl_X6 hK 4 5 (pc' := 13) (lo' := [some (.ref 36), some (.int (-1)), some (.int ((τ2.1 8) - 1)), none]) (st' := []) (hp' := wd (τ2)) rfl ?_
  refine AW_to (lo' := [some (.ref 36), some (.int (-1)), some (.int (nI (nn σ) - 1)), none]) (by rw [show τ2.1 8 = nI (nn σ) from (hw3).1.trans (congrArg nI (hn4))]) rfl rfl ?_
  refine lp_X6_first_13 hT hK (τ2) hw3 (nn σ) (-1) (by have h9 : nn (τ2) = nn σ := hn4; omega) (Or.inl rfl) (fun s16 h17 => ?_)
  refine AW_g hT cl_X6 hK 46 1 (pc' := 79) (lo' := [some (.ref 36), some (.int s16), none, none]) (st' := [.int s16]) (hp' := wd (τ2)) rfl ?_
  refine AW_iret hT hE 47 rfl rfl rfl (Nat.le_of_ble_eq_true rfl) (Nat.le_of_ble_eq_true rfl) ?_
  subst h17; subst h1; exact ⟨by simp only [x_X6_first], by simp only [x_X6_first]⟩
theorem kp_X6_first (σ : az_S) : (x_X6_first σ).2.1 8 = σ.1 8 := by
  unfold x_X6_first
  (try dsimp only)
  (repeat' split) <;> first | (simp [az_k8F, az_k8G, az_k8L, kp_X6_laysWays]; done) | rfl
theorem ob_first {σ : az_S} {q : Int32 × az_S} (hw : az_wf σ) (h : x_X6_first σ = q) : q.1 = (-1) ∨ vp_in q.1 (nn σ) := by
  subst h
  unfold x_X6_first
  dsimp only
  refine az_dn_inv (fun s => s = (-1) ∨ vp_in s (nn σ)) (nn σ) (fun n s hn hs => ?_) (nn σ) (-1) (Nat.le_refl _) (Or.inl rfl)
  unfold b_X6_first_13
  have h1 : nI n = (-1) ∨ vp_in (nI n) (nn σ) := Or.inr (vp_in_nI hn (by have := hw.2; omega))
  (repeat' split) <;> first | exact hs | exact h1
def x_X6_mainSum (σ : az_S) : Int64 × az_S :=
  let q2 := x_X6_first (sF σ 9 0)
  if q2.1 = (-1) then
    (0, q2.2)
  else
    (((q2.2.2.2 44) q2.1.toNatClampNeg), q2.2)
set_option maxRecDepth 100000 in
set_option maxHeartbeats 4000000 in
theorem m_X6_mainSum (l0 : Launch) (σ : az_S) (hw : az_wf σ) : AMet l0 yX6_mainSum cX6_mainSum 2 (some .long) ({ frames := 3, cells := 0, slots := 0, locals := 70 } : Room) false [.ref 36] (wd σ) (fun r h => r = some (.long (x_X6_mainSum σ).1) ∧ h = wd (x_X6_mainSum σ).2) := by
  refine AMet_of (by decide +kernel) (by simp [Value.category]) (Nat.le_of_ble_eq_true rfl) (fun K hK hct hG hE => ?_)
  have hT := tt_X6_mainSum
  have hw2 := hw.2
  refine AW_g hT cl_X6 hK 0 4 (pc' := 6) (lo' := [some (.ref 36), none]) (st' := [.ref 36]) (hp' := wd (sF σ 9 0)) rfl ?_
  refine AW_callV hT hK 4 [] [] (m_X6_first l0 (sF σ 9 0) (hw)) cw_X6_first lk_X6_101 vi_X6_first rfl rfl rfl rfl rfl rfl (Nat.le_of_ble_eq_true rfl) (Nat.le_of_ble_eq_true rfl) (AW_kiw (fun q2 h1 => ?_))
  have hn4 : nn q2.2 = nn σ := by rw [← h1]; exact (az_nn_of (kp_X6_first _)).trans rfl
  have hw3 : az_wf q2.2 := by rw [← h1]; exact az_wf_of (kp_X6_first _) hw
  refine AW_g hT cl_X6 hK 5 3 (pc' := 12) (lo' := [some (.ref 36), some (.int q2.1)]) (st' := [.int (-1), .int q2.1]) (hp' := wd q2.2) rfl ?_
  refine AW_icmp_ne hT hK 8 (tgt := 19) rfl rfl (fun c5 => ?_) (fun c5 => ?_)
  · refine AW_g hT cl_X6 hK 11 3 (pc' := 24) (lo' := [some (.ref 36), some (.int q2.1)]) (st' := [.int q2.1, .ref 44]) (hp' := wd q2.2) rfl ?_
    refine AW_laldx hT hK 14 rfl (n := 12) (f := (q2.2.2.2 44)) rfl ((az_vp ((ob_first (az_wf_of (τ := sF σ 9 0) rfl hw) h1).resolve_left c5) (by have h9 : nn (sF σ 9 0) = nn σ := rfl; omega)).2.2) ?_
    refine AW_lret hT hE 15 rfl (Nat.le_of_ble_eq_true rfl) (Nat.le_of_ble_eq_true rfl) ?_
    subst h1; exact ⟨by simp only [x_X6_mainSum, if_neg c5], by simp only [x_X6_mainSum, if_neg c5]⟩
  · refine AW_g hT cl_X6 hK 9 1 (pc' := 16) (lo' := [some (.ref 36), some (.int q2.1)]) (st' := [.long 0]) (hp' := wd q2.2) rfl ?_
    refine AW_goto hT hK 10 (tgt := 25) rfl rfl ?_
    refine AW_lret hT hE 15 rfl (Nat.le_of_ble_eq_true rfl) (Nat.le_of_ble_eq_true rfl) ?_
    subst h1; exact ⟨by simp only [x_X6_mainSum, if_pos c5], by simp only [x_X6_mainSum, if_pos c5]⟩
theorem kp_X6_mainSum (σ : az_S) : (x_X6_mainSum σ).2.1 8 = σ.1 8 := by
  unfold x_X6_mainSum
  (try dsimp only)
  (repeat' split) <;> first | (simp [az_k8F, az_k8G, az_k8L, kp_X6_first]; done) | rfl
end AZP
