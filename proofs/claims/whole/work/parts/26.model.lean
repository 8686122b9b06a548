section AZP
def b_X6_fieldOf_18 (σ : az_S) (d1 : Int32) (i : Nat) (w2 : Int32) : Int32 :=
  if ((((σ.2.1 41) i) >>> (d1 &&& 31)) &&& 1) = 1 then
    (nI i)
  else
    w2
set_option maxRecDepth 100000 in
set_option maxHeartbeats 4000000 in
theorem lp_X6_fieldOf_18 {K : az_K} {l0 : Launch} (hT : az_Tb cX6_fieldOf tb_X6_fieldOf) (hK : az_OK K RX6 cX6_fieldOf ({ frames := 5, cells := 0, slots := 0, locals := 115 } : Room) l0) (σ : az_S) (d1 : Int32) (hw : az_wf σ) :
    ∀ (n i : Nat) (w2 : Int32) (hi : i + n = 12) (kx : ∀ s' : Int32, az_it (fun ι s => b_X6_fieldOf_18 σ d1 ι s) n i w2 = s' → AW K 0 0 50 [some (.ref 36), some (.int d1), some (.int s'), none] [] (wd σ)), AW K 0 0 18 [some (.ref 36), some (.int d1), some (.int w2), some (.int (nI i))] [] (wd σ) := by
  intro n
  induction n with
  | zero =>
    intro i w2 hi kx
    have hw2 := hw.2
    refine AW_g hT cl_X6 hK 12 2 (pc' := 21) (lo' := [some (.ref 36), some (.int d1), some (.int w2), some (.int (nI i))]) (st' := [.int 12, .int (nI i)]) (hp' := wd σ) rfl ?_
    refine AW_icmp_ge hT hK 14 (tgt := 50) rfl rfl (fun c12 => ?_) (fun c12 => absurd (az_c0 hi) c12)
    refine AW_msk [true, true, true, false] (lo' := [some (.ref 36), some (.int d1), some (.int w2), none]) rfl ?_
    exact kx w2 rfl
  | succ n ih =>
    intro i w2 hi kx
    have hw2 := hw.2
    refine AW_g hT cl_X6 hK 12 2 (pc' := 21) (lo' := [some (.ref 36), some (.int d1), some (.int w2), some (.int (nI i))]) (st' := [.int 12, .int (nI i)]) (hp' := wd σ) rfl ?_
    refine AW_icmp_ge hT hK 14 (tgt := 50) rfl rfl (fun c10 => absurd c10 (az_c1 hi)) (fun c10 => ?_)
    refine AW_g hT cl_X6 hK 15 3 (pc' := 29) (lo' := [some (.ref 36), some (.int d1), some (.int w2), some (.int (nI i))]) (st' := [.int (nI i), .ref 41]) (hp' := wd σ) rfl ?_
    refine AW_iald hT hK 18 i rfl (n := 12) (f := (σ.2.1 41)) rfl rfl (by omega) (by decide) ?_
    refine AW_g hT cl_X6 hK 19 5 (pc' := 35) (lo' := [some (.ref 36), some (.int d1), some (.int w2), some (.int (nI i))]) (st' := [.int 1, .int ((((σ.2.1 41) i) >>> (d1 &&& 31)) &&& 1)]) (hp' := wd σ) rfl ?_
    refine AW_icmp_ne hT hK 24 (tgt := 42) rfl rfl (fun c11 => ?_) (fun c11 => ?_)
    · refine AW_g hT cl_X6 hK 27 3 (pc' := 47) (lo' := [some (.ref 36), some (.int d1), some (.int w2), some (.int ((nI i) + 1))]) (st' := []) (hp' := wd σ) rfl ?_
      refine AW_goto hT hK 30 (tgt := 18) rfl rfl ?_
      refine AW_to (lo' := [some (.ref 36), some (.int d1), some (.int w2), some (.int (nI (i + 1)))]) (by rw [nI_1]) rfl rfl ?_
      exact ih (i + 1) _ (by omega) (fun s' hs' => kx s' ((congrArg (az_it _ n (i + 1)) (by simp only [b_X6_fieldOf_18, if_neg c11])).trans hs'))
    · refine AW_g hT cl_X6 hK 25 1 (pc' := 39) (lo' := [some (.ref 36), some (.int d1), some (.int w2), some (.int (nI i))]) (st' := [.int (nI i)]) (hp' := wd σ) rfl ?_
      refine AW_goto hT hK 26 (tgt := 43) rfl rfl ?_
      refine AW_g hT cl_X6 hK 28 2 (pc' := 47) (lo' := [some (.ref 36), some (.int d1), some (.int (nI i)), some (.int ((nI i) + 1))]) (st' := []) (hp' := wd σ) rfl ?_
      refine AW_goto hT hK 30 (tgt := 18) rfl rfl ?_
      refine AW_to (lo' := [some (.ref 36), some (.int d1), some (.int (nI i)), some (.int (nI (i + 1)))]) (by rw [nI_1]) rfl rfl ?_
      exact ih (i + 1) _ (by omega) (fun s' hs' => kx s' ((congrArg (az_it _ n (i + 1)) (by simp only [b_X6_fieldOf_18, if_pos c11])).trans hs'))
def x_X6_fieldOf (σ : az_S) (p0 : Int32) : Int32 × az_S :=
  let q2 := x_X6_asks σ p0
  if q2.1 = 0 then
    (0, q2.2)
  else
    let τ7 := x_X6_laysFields q2.2
    let s13 := az_it (fun ι s => b_X6_fieldOf_18 (τ7) p0 ι s) 12 0 (-1)
    (s13, τ7)
set_option maxRecDepth 100000 in
set_option maxHeartbeats 4000000 in
theorem m_X6_fieldOf (l0 : Launch) (σ : az_S) (p0 : Int32) (hw : az_wf σ) : AMet l0 yX6_fieldOf cX6_fieldOf 4 (some .int) ({ frames := 5, cells := 0, slots := 0, locals := 115 } : Room) false [.ref 36, .int p0] (wd σ) (fun r h => r = some (.int (x_X6_fieldOf σ p0).1) ∧ h = wd (x_X6_fieldOf σ p0).2) := by
  refine AMet_of (by decide +kernel) (by simp [Value.category]) (Nat.le_of_ble_eq_true rfl) (fun K hK hct hG hE => ?_)
  have hT := tt_X6_fieldOf
  have hw2 := hw.2
  refine AW_g hT cl_X6 hK 0 2 (pc' := 2) (lo' := [some (.ref 36), some (.int p0), none, none]) (st' := [.int p0, .ref 36]) (hp' := wd σ) rfl ?_
  refine AW_callV hT hK 2 [.int p0] [] (m_X6_asks l0 σ p0 (hw)) cw_X6_asks lk_X6_58 vi_X6_asks rfl rfl rfl rfl rfl rfl (Nat.le_of_ble_eq_true rfl) (Nat.le_of_ble_eq_true rfl) (AW_kiw (fun q2 h1 => ?_))
  have hn4 : nn q2.2 = nn σ := by rw [← h1]; exact (az_nn_of (kp_X6_asks _ _)).trans rfl
  have hw3 : az_wf q2.2 := by rw [← h1]; exact az_wf_of (kp_X6_asks _ _) hw
  refine AW_if_ne hT hK 3 (tgt := 10) rfl rfl (fun c5 => ?_) (fun c5 => ?_)
  · refine AW_g hT cl_X6 hK 6 1 (pc' := 11) (lo' := [some (.ref 36), some (.int p0), none, none]) (st' := [.ref 36]) (hp' := wd q2.2) rfl ?_
    refine AW_callV hT hK 7 [] [] (m_X6_laysFields l0 q2.2 (hw3)) cw_X6_laysFields lk_X6_92 vi_X6_laysFields rfl rfl rfl rfl rfl rfl (Nat.le_of_ble_eq_true rfl) (Nat.le_of_ble_eq_true rfl) (AW_kv (fun τ7 h6 => ?_))
    have hn9 : nn τ7 = nn σ := by rw [← h6]; exact (az_nn_of (kp_X6_laysFields _)).trans hn4
    have hw8 : az_wf τ7 := by rw [← h6]; exact az_wf_of (kp_X6_laysFields _) hw3
    refine AW_g hT cl_X6 hK 8 4 (pc' := 18) (lo' := [some (.ref 36), some (.int p0), some (.int (-1)), some (.int 0)]) (st' := []) (hp' := wd (τ7)) rfl ?_
    refine AW_to (lo' := [some (.ref 36), some (.int p0), some (.int (-1)), some (.int (nI 0))]) (rfl) rfl rfl ?_
    refine lp_X6_fieldOf_18 hT hK (τ7) p0 hw8 12 0 (-1) (by first | rfl | omega) (fun s13 h14 => ?_)
    refine AW_g hT cl_X6 hK 31 1 (pc' := 51) (lo' := [some (.ref 36), some (.int p0), some (.int s13), none]) (st' := [.int s13]) (hp' := wd (τ7)) rfl ?_
    refine AW_iret hT hE 32 rfl rfl rfl (Nat.le_of_ble_eq_true rfl) (Nat.le_of_ble_eq_true rfl) ?_
    subst h14; subst h6; subst h1; exact ⟨by simp only [x_X6_fieldOf, if_neg c5], by simp only [x_X6_fieldOf, if_neg c5]⟩
  · refine AW_g hT cl_X6 hK 4 1 (pc' := 9) (lo' := [some (.ref 36), some (.int p0), none, none]) (st' := [.int 0]) (hp' := wd q2.2) rfl ?_
    refine AW_iret hT hE 5 rfl rfl rfl (Nat.le_of_ble_eq_true rfl) (Nat.le_of_ble_eq_true rfl) ?_
    subst h1; exact ⟨by simp only [x_X6_fieldOf, if_pos c5], by simp only [x_X6_fieldOf, if_pos c5]⟩
theorem kp_X6_fieldOf (σ : az_S) (p0 : Int32) : (x_X6_fieldOf σ p0).2.1 8 = σ.1 8 := by
  unfold x_X6_fieldOf
  (try dsimp only)
  (repeat' split) <;> first | (simp [az_k8F, az_k8G, az_k8L, kp_X6_asks, kp_X6_laysFields]; done) | rfl
def b_X6_fields_13 (σ : az_S) (i : Nat) (w1 : Int32) : Int32 :=
  if ((σ.2.1 41) i) = 0 then
    (w1 + 0)
  else
    (w1 + 1)
set_option maxRecDepth 100000 in
set_option maxHeartbeats 4000000 in
theorem lp_X6_fields_13 {K : az_K} {l0 : Launch} (hT : az_Tb cX6_fields tb_X6_fields) (hK : az_OK K RX6 cX6_fields ({ frames := 5, cells := 0, slots := 0, locals := 115 } : Room) l0) (σ : az_S) (hw : az_wf σ) :
    ∀ (n i : Nat) (w1 : Int32) (hi : i + n = 12) (kx : ∀ s' : Int32, az_it (fun ι s => b_X6_fields_13 σ ι s) n i w1 = s' → AW K 0 0 42 [some (.ref 36), some (.int s'), none] [] (wd σ)), AW K 0 0 13 [some (.ref 36), some (.int w1), some (.int (nI i))] [] (wd σ) := by
  intro n
  induction n with
  | zero =>
    intro i w1 hi kx
    have hw2 := hw.2
    refine AW_g hT cl_X6 hK 9 2 (pc' := 16) (lo' := [some (.ref 36), some (.int w1), some (.int (nI i))]) (st' := [.int 12, .int (nI i)]) (hp' := wd σ) rfl ?_
    refine AW_icmp_ge hT hK 11 (tgt := 42) rfl rfl (fun c7 => ?_) (fun c7 => absurd (az_c0 hi) c7)
    refine AW_msk [true, true, false] (lo' := [some (.ref 36), some (.int w1), none]) rfl ?_
    exact kx w1 rfl
  | succ n ih =>
    intro i w1 hi kx
    have hw2 := hw.2
    refine AW_g hT cl_X6 hK 9 2 (pc' := 16) (lo' := [some (.ref 36), some (.int w1), some (.int (nI i))]) (st' := [.int 12, .int (nI i)]) (hp' := wd σ) rfl ?_
    refine AW_icmp_ge hT hK 11 (tgt := 42) rfl rfl (fun c5 => absurd c5 (az_c1 hi)) (fun c5 => ?_)
    refine AW_g hT cl_X6 hK 12 4 (pc' := 25) (lo' := [some (.ref 36), some (.int w1), some (.int (nI i))]) (st' := [.int (nI i), .ref 41, .int w1]) (hp' := wd σ) rfl ?_
    refine AW_iald hT hK 16 i rfl (n := 12) (f := (σ.2.1 41)) rfl rfl (by omega) (by decide) ?_
    refine AW_if_ne hT hK 17 (tgt := 33) rfl rfl (fun c6 => ?_) (fun c6 => ?_)
    · refine AW_g hT cl_X6 hK 20 4 (pc' := 39) (lo' := [some (.ref 36), some (.int (w1 + 1)), some (.int ((nI i) + 1))]) (st' := []) (hp' := wd σ) rfl ?_
      refine AW_goto hT hK 24 (tgt := 13) rfl rfl ?_
      refine AW_to (lo' := [some (.ref 36), some (.int (w1 + 1)), some (.int (nI (i + 1)))]) (by rw [nI_1]) rfl rfl ?_
      exact ih (i + 1) _ (by omega) (fun s' hs' => kx s' ((congrArg (az_it _ n (i + 1)) (by simp only [b_X6_fields_13, if_neg c6])).trans hs'))
    · refine AW_g hT cl_X6 hK 18 1 (pc' := 30) (lo' := [some (.ref 36), some (.int w1), some (.int (nI i))]) (st' := [.int 0, .int w1]) (hp' := wd σ) rfl ?_
      refine AW_goto hT hK 19 (tgt := 34) rfl rfl ?_
      refine AW_g hT cl_X6 hK 21 3 (pc' := 39) (lo' := [some (.ref 36), some (.int (w1 + 0)), some (.int ((nI i) + 1))]) (st' := []) (hp' := wd σ) rfl ?_
      refine AW_goto hT hK 24 (tgt := 13) rfl rfl ?_
      refine AW_to (lo' := [some (.ref 36), some (.int (w1 + 0)), some (.int (nI (i + 1)))]) (by rw [nI_1]) rfl rfl ?_
      exact ih (i + 1) _ (by omega) (fun s' hs' => kx s' ((congrArg (az_it _ n (i + 1)) (by simp only [b_X6_fields_13, if_pos c6])).trans hs'))
def x_X6_fields (σ : az_S) : Int32 × az_S :=
  let τ2 := x_X6_laysFields (sF σ 9 0)
  let s8 := az_it (fun ι s => b_X6_fields_13 (τ2) ι s) 12 0 0
  (s8, τ2)
set_option maxRecDepth 100000 in
set_option maxHeartbeats 4000000 in
theorem m_X6_fields (l0 : Launch) (σ : az_S) (hw : az_wf σ) : AMet l0 yX6_fields cX6_fields 3 (some .int) ({ frames := 5, cells := 0, slots := 0, locals := 115 } : Room) false [.ref 36] (wd σ) (fun r h => r = some (.int (x_X6_fields σ).1) ∧ h = wd (x_X6_fields σ).2) := by
  refine AMet_of (by decide +kernel) (by simp [Value.category]) (Nat.le_of_ble_eq_true rfl) (fun K hK hct hG hE => ?_)
  have hT := tt_X6_fields
  have hw2 := hw.2
  refine AW_g hT cl_X6 hK 0 4 (pc' := 6) (lo' := [some (.ref 36), none, none]) (st' := [.ref 36]) (hp' := wd (sF σ 9 0)) rfl ?_
  refine AW_callV hT hK 4 [] [] (m_X6_laysFields l0 (sF σ 9 0) (hw)) cw_X6_laysFields lk_X6_92 vi_X6_laysFields rfl rfl rfl rfl rfl rfl (Nat.le_of_ble_eq_true rfl) (Nat.le_of_ble_eq_true rfl) (AW_kv (fun τ2 h1 => ?_))
  have hn4 : nn τ2 = nn σ := by rw [← h1]; exact (az_nn_of (kp_X6_laysFields _)).trans rfl
  have hw3 : az_wf τ2 := by rw [← h1]; exact az_wf_of (kp_X6_laysFields _) hw
  refine AW_g hT cl_X6 hK 5 4 (pc' := 13) (lo' := [some (.ref 36), some (.int 0), some (.int 0)]) (st' := []) (hp' := wd (τ2)) rfl ?_
  refine AW_to (lo' := [some (.ref 36), some (.int 0), some (.int (nI 0))]) (rfl) rfl rfl ?_
  refine lp_X6_fields_13 hT hK (τ2) hw3 12 0 0 (by first | rfl | omega) (fun s8 h9 => ?_)
  refine AW_g hT cl_X6 hK 25 1 (pc' := 43) (lo' := [some (.ref 36), some (.int s8), none]) (st' := [.int s8]) (hp' := wd (τ2)) rfl ?_
  refine AW_iret hT hE 26 rfl rfl rfl (Nat.le_of_ble_eq_true rfl) (Nat.le_of_ble_eq_true rfl) ?_
  subst h9; subst h1; exact ⟨by simp only [x_X6_fields], by simp only [x_X6_fields]⟩
theorem kp_X6_fields (σ : az_S) : (x_X6_fields σ).2.1 8 = σ.1 8 := by
  unfold x_X6_fields
  (try dsimp only)
  (repeat' split) <;> first | (simp [az_k8F, az_k8G, az_k8L, kp_X6_laysFields]; done) | rfl
def x_X6_gain (σ : az_S) (p0 : Int32) (p1 : Int32) : Int32 × az_S :=
  let τ2 := x_X6_laysFields σ
  let v6 := x_X6_isField (τ2) p0
  if v6 = 0 then
    (0, (sF τ2 9 1))
  else
    let v11 := x_X6_isField (τ2) p1
    if v11 = 0 then
      (0, (sF τ2 9 1))
    else
      if p0 = p1 then
        (0, (sF τ2 9 2))
      else
        let q17 := x_X6_totalNow (sF τ2 9 0)
        let v21 := x_X6_gains q17.2 (((sF τ2 9 0).2.1 41) p0.toNatClampNeg) (((sF τ2 9 0).2.1 41) p1.toNatClampNeg) q17.1
        (v21, q17.2)
set_option maxRecDepth 100000 in
set_option maxHeartbeats 4000000 in
theorem m_X6_gain (l0 : Launch) (σ : az_S) (p0 : Int32) (p1 : Int32) (hw : az_wf σ) : AMet l0 yX6_gain cX6_gain 3 (some .int) ({ frames := 5, cells := 0, slots := 0, locals := 115 } : Room) false [.ref 36, .int p0, .int p1] (wd σ) (fun r h => r = some (.int (x_X6_gain σ p0 p1).1) ∧ h = wd (x_X6_gain σ p0 p1).2) := by
  refine AMet_of (by decide +kernel) (by simp [Value.category]) (Nat.le_of_ble_eq_true rfl) (fun K hK hct hG hE => ?_)
  have hT := tt_X6_gain
  have hw2 := hw.2
  refine AW_g hT cl_X6 hK 0 1 (pc' := 1) (lo' := [some (.ref 36), some (.int p0), some (.int p1)]) (st' := [.ref 36]) (hp' := wd σ) rfl ?_
  refine AW_callV hT hK 1 [] [] (m_X6_laysFields l0 σ (hw)) cw_X6_laysFields lk_X6_92 vi_X6_laysFields rfl rfl rfl rfl rfl rfl (Nat.le_of_ble_eq_true rfl) (Nat.le_of_ble_eq_true rfl) (AW_kv (fun τ2 h1 => ?_))
  have hn4 : nn τ2 = nn σ := by rw [← h1]; exact (az_nn_of (kp_X6_laysFields _)).trans rfl
  have hw3 : az_wf τ2 := by rw [← h1]; exact az_wf_of (kp_X6_laysFields _) hw
  refine AW_g hT cl_X6 hK 2 3 (pc' := 7) (lo' := [some (.ref 36), some (.int p0), some (.int p1)]) (st' := [.int p0, .ref 36, .ref 36]) (hp' := wd (τ2)) rfl ?_
  refine AW_callV hT hK 5 [.int p0] [.ref 36] (m_X6_isField l0 (τ2) p0 (hw3)) cw_X6_isField lk_X6_95 vi_X6_isField rfl rfl rfl rfl rfl rfl (Nat.le_of_ble_eq_true rfl) (Nat.le_of_ble_eq_true rfl) (AW_k1 (fun v6 h5 => ?_))
  refine AW_if_eq hT hK 6 (tgt := 21) rfl rfl (fun c7 => ?_) (fun c7 => ?_)
  · refine AW_g hT cl_X6 hK 11 1 (pc' := 22) (lo' := [some (.ref 36), some (.int p0), some (.int p1)]) (st' := [.int 1, .ref 36]) (hp' := wd (τ2)) rfl ?_
    refine AW_goto hT hK 12 (tgt := 35) rfl rfl ?_
    refine AW_callV hT hK 19 [.int 1] [] (m_X6_goes l0 (τ2) 1 (hw3)) cw_X6_goes lk_X6_51 vi_X6_goes rfl rfl rfl rfl rfl rfl (Nat.le_of_ble_eq_true rfl) (Nat.le_of_ble_eq_true rfl) (AW_kiw2 (goes_1 (τ2)) ?_)
    refine AW_if_eq hT hK 20 (tgt := 64) rfl rfl (fun _ => ?_) (fun c9 => absurd (by decide) c9)
    refine AW_g hT cl_X6 hK 34 1 (pc' := 65) (lo' := [some (.ref 36), some (.int p0), some (.int p1)]) (st' := [.int 0]) (hp' := wd (sF τ2 9 1)) rfl ?_
    refine AW_iret hT hE 35 rfl rfl rfl (Nat.le_of_ble_eq_true rfl) (Nat.le_of_ble_eq_true rfl) ?_
    subst h5; subst h1; exact ⟨by simp only [x_X6_gain, if_pos c7], by simp only [x_X6_gain, if_pos c7]⟩
  · refine AW_g hT cl_X6 hK 7 2 (pc' := 15) (lo' := [some (.ref 36), some (.int p0), some (.int p1)]) (st' := [.int p1, .ref 36, .ref 36]) (hp' := wd (τ2)) rfl ?_
    refine AW_callV hT hK 9 [.int p1] [.ref 36] (m_X6_isField l0 (τ2) p1 (hw3)) cw_X6_isField lk_X6_95 vi_X6_isField rfl rfl rfl rfl rfl rfl (Nat.le_of_ble_eq_true rfl) (Nat.le_of_ble_eq_true rfl) (AW_k1 (fun v11 h10 => ?_))
    refine AW_if_ne hT hK 10 (tgt := 25) rfl rfl (fun c12 => ?_) (fun c12 => ?_)
    · refine AW_g hT cl_X6 hK 13 2 (pc' := 27) (lo' := [some (.ref 36), some (.int p0), some (.int p1)]) (st' := [.int p1, .int p0, .ref 36]) (hp' := wd (τ2)) rfl ?_
      refine AW_icmp_ne hT hK 15 (tgt := 34) rfl rfl (fun c13 => ?_) (fun c13 => ?_)
      · refine AW_g hT cl_X6 hK 18 1 (pc' := 35) (lo' := [some (.ref 36), some (.int p0), some (.int p1)]) (st' := [.int 0, .ref 36]) (hp' := wd (τ2)) rfl ?_
        refine AW_callV hT hK 19 [.int 0] [] (m_X6_goes l0 (τ2) 0 (hw3)) cw_X6_goes lk_X6_51 vi_X6_goes rfl rfl rfl rfl rfl rfl (Nat.le_of_ble_eq_true rfl) (Nat.le_of_ble_eq_true rfl) (AW_kiw2 (goes_0 (τ2)) ?_)
        refine AW_if_eq hT hK 20 (tgt := 64) rfl rfl (fun c15 => absurd c15 (by decide)) (fun _ => ?_)
        refine AW_g hT cl_X6 hK 21 4 (pc' := 47) (lo' := [some (.ref 36), some (.int p0), some (.int p1)]) (st' := [.int p0, .ref 41, .ref 36]) (hp' := wd (sF τ2 9 0)) rfl ?_
        refine AW_ialdx hT hK 25 rfl (n := 12) (f := ((sF τ2 9 0).2.1 41)) rfl (ob_field h5 c7) ?_
        refine AW_g hT cl_X6 hK 26 3 (pc' := 53) (lo' := [some (.ref 36), some (.int p0), some (.int p1)]) (st' := [.int p1, .ref 41, .int (((sF τ2 9 0).2.1 41) p0.toNatClampNeg), .ref 36]) (hp' := wd (sF τ2 9 0)) rfl ?_
        refine AW_ialdx hT hK 29 rfl (n := 12) (f := ((sF τ2 9 0).2.1 41)) rfl (ob_field h10 c12) ?_
        refine AW_g hT cl_X6 hK 30 1 (pc' := 55) (lo' := [some (.ref 36), some (.int p0), some (.int p1)]) (st' := [.ref 36, .int (((sF τ2 9 0).2.1 41) p1.toNatClampNeg), .int (((sF τ2 9 0).2.1 41) p0.toNatClampNeg), .ref 36]) (hp' := wd (sF τ2 9 0)) rfl ?_
        refine AW_callV hT hK 31 [] [.int (((sF τ2 9 0).2.1 41) p1.toNatClampNeg), .int (((sF τ2 9 0).2.1 41) p0.toNatClampNeg), .ref 36] (m_X6_totalNow l0 (sF τ2 9 0) (hw3)) cw_X6_totalNow lk_X6_78 vi_X6_totalNow rfl rfl rfl rfl rfl rfl (Nat.le_of_ble_eq_true rfl) (Nat.le_of_ble_eq_true rfl) (AW_kiw (fun q17 h16 => ?_))
        have hn19 : nn q17.2 = nn σ := by rw [← h16]; exact (az_nn_of (kp_X6_totalNow _)).trans hn4
        have hw18 : az_wf q17.2 := by rw [← h16]; exact az_wf_of (kp_X6_totalNow _) hw3
        refine AW_callV hT hK 32 [.int (((sF τ2 9 0).2.1 41) p0.toNatClampNeg), .int (((sF τ2 9 0).2.1 41) p1.toNatClampNeg), .int q17.1] [] (m_X6_gains l0 q17.2 (((sF τ2 9 0).2.1 41) p0.toNatClampNeg) (((sF τ2 9 0).2.1 41) p1.toNatClampNeg) q17.1 (hw18)) cw_X6_gains lk_X6_88 vi_X6_gains rfl rfl rfl rfl rfl rfl (Nat.le_of_ble_eq_true rfl) (Nat.le_of_ble_eq_true rfl) (AW_k1 (fun v21 h20 => ?_))
        refine AW_goto hT hK 33 (tgt := 65) rfl rfl ?_
        refine AW_iret hT hE 35 rfl rfl rfl (Nat.le_of_ble_eq_true rfl) (Nat.le_of_ble_eq_true rfl) ?_
        subst h20; subst h16; subst h10; subst h5; subst h1; exact ⟨by simp only [x_X6_gain, if_neg c7, if_neg c12, if_neg c13], by simp only [x_X6_gain, if_neg c7, if_neg c12, if_neg c13]⟩
      · refine AW_g hT cl_X6 hK 16 1 (pc' := 31) (lo' := [some (.ref 36), some (.int p0), some (.int p1)]) (st' := [.int 2, .ref 36]) (hp' := wd (τ2)) rfl ?_
        refine AW_goto hT hK 17 (tgt := 35) rfl rfl ?_
        refine AW_callV hT hK 19 [.int 2] [] (m_X6_goes l0 (τ2) 2 (hw3)) cw_X6_goes lk_X6_51 vi_X6_goes rfl rfl rfl rfl rfl rfl (Nat.le_of_ble_eq_true rfl) (Nat.le_of_ble_eq_true rfl) (AW_kiw2 (goes_2 (τ2)) ?_)
        refine AW_if_eq hT hK 20 (tgt := 64) rfl rfl (fun _ => ?_) (fun c23 => absurd (by decide) c23)
        refine AW_g hT cl_X6 hK 34 1 (pc' := 65) (lo' := [some (.ref 36), some (.int p0), some (.int p1)]) (st' := [.int 0]) (hp' := wd (sF τ2 9 2)) rfl ?_
        refine AW_iret hT hE 35 rfl rfl rfl (Nat.le_of_ble_eq_true rfl) (Nat.le_of_ble_eq_true rfl) ?_
        subst h10; subst h5; subst h1; exact ⟨by simp only [x_X6_gain, if_neg c7, if_neg c12, if_pos c13], by simp only [x_X6_gain, if_neg c7, if_neg c12, if_pos c13]⟩
    · refine AW_g hT cl_X6 hK 11 1 (pc' := 22) (lo' := [some (.ref 36), some (.int p0), some (.int p1)]) (st' := [.int 1, .ref 36]) (hp' := wd (τ2)) rfl ?_
      refine AW_goto hT hK 12 (tgt := 35) rfl rfl ?_
      refine AW_callV hT hK 19 [.int 1] [] (m_X6_goes l0 (τ2) 1 (hw3)) cw_X6_goes lk_X6_51 vi_X6_goes rfl rfl rfl rfl rfl rfl (Nat.le_of_ble_eq_true rfl) (Nat.le_of_ble_eq_true rfl) (AW_kiw2 (goes_1 (τ2)) ?_)
      refine AW_if_eq hT hK 20 (tgt := 64) rfl rfl (fun _ => ?_) (fun c25 => absurd (by decide) c25)
      refine AW_g hT cl_X6 hK 34 1 (pc' := 65) (lo' := [some (.ref 36), some (.int p0), some (.int p1)]) (st' := [.int 0]) (hp' := wd (sF τ2 9 1)) rfl ?_
      refine AW_iret hT hE 35 rfl rfl rfl (Nat.le_of_ble_eq_true rfl) (Nat.le_of_ble_eq_true rfl) ?_
      subst h10; subst h5; subst h1; exact ⟨by simp only [x_X6_gain, if_neg c7, if_pos c12], by simp only [x_X6_gain, if_neg c7, if_pos c12]⟩
theorem kp_X6_gain (σ : az_S) (p0 : Int32) (p1 : Int32) : (x_X6_gain σ p0 p1).2.1 8 = σ.1 8 := by
  unfold x_X6_gain
  (try dsimp only)
  (repeat' split) <;> first | (simp [az_k8F, az_k8G, az_k8L, kp_X6_laysFields, kp_X6_totalNow]; done) | rfl
def b_X6_split_49 (σ : az_S) (d1 : Int32) (d2 : Int32) (d3 : Int32) (pp : Nat) (i : Nat) (w4 : Int32) (w5 : Int32) : Int32 × Int32 :=
  if ((nI i) &&& (d3 ^^^ (-1))) = 0 then
    if (((nI i) >>> (d1 &&& 31)) &&& 1) = 1 then
      let v29 := x_X6_gains σ (nI i) (d3 &&& ((nI i) ^^^ (-1))) d2
      if w5 ≤ v29 then
        (w4, w5)
      else
        ((nI i), v29)
    else
      if w5 ≤ 0 then
        (w4, w5)
      else
        ((nI i), 0)
  else
    if w5 ≤ 0 then
      (w4, w5)
    else
      ((nI i), 0)
set_option maxRecDepth 100000 in
set_option maxHeartbeats 4000000 in
theorem lp_X6_split_49 {K : az_K} {l0 : Launch} (hT : az_Tb cX6_split tb_X6_split) (hK : az_OK K RX6 cX6_split ({ frames := 5, cells := 0, slots := 0, locals := 115 } : Room) l0) (σ : az_S) (d1 : Int32) (d2 : Int32) (d3 : Int32) (pp : Nat) (hpp : pp < 2 ^ 31) (hw : az_wf σ) :
    ∀ (n i : Nat) (w4 : Int32) (w5 : Int32) (hi : i + n = (max pp d3.toNatClampNeg)) (hpi : pp ≤ i) (kx : ∀ s' : Int32 × Int32, az_it (fun ι s => b_X6_split_49 σ d1 d2 d3 pp ι s.1 s.2) n i (w4, w5) = s' → AW K 0 0 143 [some (.ref 36), some (.int d1), some (.int d2), some (.int d3), some (.int s'.1), some (.int s'.2), none, none, none] [] (wd σ)), AW K 0 0 49 [some (.ref 36), some (.int d1), some (.int d2), some (.int d3), some (.int w4), some (.int w5), some (.int (nI i)), none, none] [] (wd σ) := by
  intro n
  induction n with
  | zero =>
    intro i w4 w5 hi hpi kx
    have hw2 := hw.2
    refine AW_g hT cl_X6 hK 30 2 (pc' := 52) (lo' := [some (.ref 36), some (.int d1), some (.int d2), some (.int d3), some (.int w4), some (.int w5), some (.int (nI i)), none, none]) (st' := [.int d3, .int (nI i)]) (hp' := wd σ) rfl ?_
    refine AW_icmp_ge hT hK 32 (tgt := 143) rfl rfl (fun c33 => ?_) (fun c33 => absurd (az_m0 hpp hi) c33)
    refine AW_msk [true, true, true, true, true, true, false, false, false] (lo' := [some (.ref 36), some (.int d1), some (.int d2), some (.int d3), some (.int w4), some (.int w5), none, none, none]) rfl ?_
    exact kx (w4, w5) rfl
  | succ n ih =>
    intro i w4 w5 hi hpi kx
    have hw2 := hw.2
    refine AW_g hT cl_X6 hK 30 2 (pc' := 52) (lo' := [some (.ref 36), some (.int d1), some (.int d2), some (.int d3), some (.int w4), some (.int w5), some (.int (nI i)), none, none]) (st' := [.int d3, .int (nI i)]) (hp' := wd σ) rfl ?_
    refine AW_icmp_ge hT hK 32 (tgt := 143) rfl rfl (fun c16 => absurd c16 (az_m1 hpi hi)) (fun c16 => ?_)
    refine AW_g hT cl_X6 hK 33 5 (pc' := 61) (lo' := [some (.ref 36), some (.int d1), some (.int d2), some (.int d3), some (.int w4), some (.int w5), some (.int (nI i)), none, none]) (st' := [.int ((nI i) &&& (d3 ^^^ (-1)))]) (hp' := wd σ) rfl ?_
    refine AW_if_ne hT hK 38 (tgt := 78) rfl rfl (fun c17 => ?_) (fun c17 => ?_)
    · refine AW_g hT cl_X6 hK 48 3 (pc' := 83) (lo' := [some (.ref 36), some (.int d1), some (.int d2), some (.int d3), some (.int w4), some (.int w5), some (.int (nI i)), some (.int 0), none]) (st' := [.int 0]) (hp' := wd σ) rfl ?_
      refine AW_if_eq hT hK 51 (tgt := 102) rfl rfl (fun _ => ?_) (fun c18 => absurd (by decide) c18)
      refine AW_g hT cl_X6 hK 62 4 (pc' := 109) (lo' := [some (.ref 36), some (.int d1), some (.int d2), some (.int d3), some (.int w4), some (.int w5), some (.int (nI i)), some (.int 0), some (.int 0)]) (st' := [.int w5, .int 0]) (hp' := wd σ) rfl ?_
      refine AW_icmp_ge hT hK 66 (tgt := 117) rfl rfl (fun c19 => ?_) (fun c19 => ?_)
      · refine AW_g hT cl_X6 hK 69 4 (pc' := 125) (lo' := [some (.ref 36), some (.int d1), some (.int d2), some (.int d3), some (.int w4), some (.int w5), some (.int (nI i)), some (.int 0), some (.int 0)]) (st' := [.int w5, .int 0]) (hp' := wd σ) rfl ?_
        refine AW_icmp_ge hT hK 73 (tgt := 133) rfl rfl (fun _ => ?_) (fun c20 => absurd c19 c20)
        refine AW_g hT cl_X6 hK 76 3 (pc' := 140) (lo' := [some (.ref 36), some (.int d1), some (.int d2), some (.int d3), some (.int w4), some (.int w5), some (.int ((nI i) + 1)), some (.int 0), some (.int 0)]) (st' := []) (hp' := wd σ) rfl ?_
        refine AW_goto hT hK 79 (tgt := 49) rfl rfl ?_
        refine AW_msk [true, true, true, true, true, true, true, false, false] (lo' := [some (.ref 36), some (.int d1), some (.int d2), some (.int d3), some (.int w4), some (.int w5), some (.int ((nI i) + 1)), none, none]) rfl ?_
        refine AW_to (lo' := [some (.ref 36), some (.int d1), some (.int d2), some (.int d3), some (.int w4), some (.int w5), some (.int (nI (i + 1))), none, none]) (by rw [nI_1]) rfl rfl ?_
        exact ih (i + 1) _ _ (by omega) (by omega) (fun s' hs' => kx s' ((congrArg (az_it _ n (i + 1)) (by simp only [b_X6_split_49, if_neg c17, if_pos c19])).trans hs'))
      · refine AW_g hT cl_X6 hK 67 1 (pc' := 114) (lo' := [some (.ref 36), some (.int d1), some (.int d2), some (.int d3), some (.int w4), some (.int w5), some (.int (nI i)), some (.int 0), some (.int 0)]) (st' := [.int (nI i)]) (hp' := wd σ) rfl ?_
        refine AW_goto hT hK 68 (tgt := 119) rfl rfl ?_
        refine AW_g hT cl_X6 hK 70 3 (pc' := 125) (lo' := [some (.ref 36), some (.int d1), some (.int d2), some (.int d3), some (.int (nI i)), some (.int w5), some (.int (nI i)), some (.int 0), some (.int 0)]) (st' := [.int w5, .int 0]) (hp' := wd σ) rfl ?_
        refine AW_icmp_ge hT hK 73 (tgt := 133) rfl rfl (fun c21 => absurd c21 c19) (fun _ => ?_)
        refine AW_g hT cl_X6 hK 74 1 (pc' := 130) (lo' := [some (.ref 36), some (.int d1), some (.int d2), some (.int d3), some (.int (nI i)), some (.int w5), some (.int (nI i)), some (.int 0), some (.int 0)]) (st' := [.int 0]) (hp' := wd σ) rfl ?_
        refine AW_goto hT hK 75 (tgt := 135) rfl rfl ?_
        refine AW_g hT cl_X6 hK 77 2 (pc' := 140) (lo' := [some (.ref 36), some (.int d1), some (.int d2), some (.int d3), some (.int (nI i)), some (.int 0), some (.int ((nI i) + 1)), some (.int 0), some (.int 0)]) (st' := []) (hp' := wd σ) rfl ?_
        refine AW_goto hT hK 79 (tgt := 49) rfl rfl ?_
        refine AW_msk [true, true, true, true, true, true, true, false, false] (lo' := [some (.ref 36), some (.int d1), some (.int d2), some (.int d3), some (.int (nI i)), some (.int 0), some (.int ((nI i) + 1)), none, none]) rfl ?_
        refine AW_to (lo' := [some (.ref 36), some (.int d1), some (.int d2), some (.int d3), some (.int (nI i)), some (.int 0), some (.int (nI (i + 1))), none, none]) (by rw [nI_1]) rfl rfl ?_
        exact ih (i + 1) _ _ (by omega) (by omega) (fun s' hs' => kx s' ((congrArg (az_it _ n (i + 1)) (by simp only [b_X6_split_49, if_neg c17, if_neg c19])).trans hs'))
    · refine AW_g hT cl_X6 hK 39 6 (pc' := 71) (lo' := [some (.ref 36), some (.int d1), some (.int d2), some (.int d3), some (.int w4), some (.int w5), some (.int (nI i)), none, none]) (st' := [.int 1, .int (((nI i) >>> (d1 &&& 31)) &&& 1)]) (hp' := wd σ) rfl ?_
      refine AW_icmp_ne hT hK 45 (tgt := 78) rfl rfl (fun c22 => ?_) (fun c22 => ?_)
      · refine AW_g hT cl_X6 hK 48 3 (pc' := 83) (lo' := [some (.ref 36), some (.int d1), some (.int d2), some (.int d3), some (.int w4), some (.int w5), some (.int (nI i)), some (.int 0), none]) (st' := [.int 0]) (hp' := wd σ) rfl ?_
        refine AW_if_eq hT hK 51 (tgt := 102) rfl rfl (fun _ => ?_) (fun c23 => absurd (by decide) c23)
        refine AW_g hT cl_X6 hK 62 4 (pc' := 109) (lo' := [some (.ref 36), some (.int d1), some (.int d2), some (.int d3), some (.int w4), some (.int w5), some (.int (nI i)), some (.int 0), some (.int 0)]) (st' := [.int w5, .int 0]) (hp' := wd σ) rfl ?_
        refine AW_icmp_ge hT hK 66 (tgt := 117) rfl rfl (fun c24 => ?_) (fun c24 => ?_)
        · refine AW_g hT cl_X6 hK 69 4 (pc' := 125) (lo' := [some (.ref 36), some (.int d1), some (.int d2), some (.int d3), some (.int w4), some (.int w5), some (.int (nI i)), some (.int 0), some (.int 0)]) (st' := [.int w5, .int 0]) (hp' := wd σ) rfl ?_
          refine AW_icmp_ge hT hK 73 (tgt := 133) rfl rfl (fun _ => ?_) (fun c25 => absurd c24 c25)
          refine AW_g hT cl_X6 hK 76 3 (pc' := 140) (lo' := [some (.ref 36), some (.int d1), some (.int d2), some (.int d3), some (.int w4), some (.int w5), some (.int ((nI i) + 1)), some (.int 0), some (.int 0)]) (st' := []) (hp' := wd σ) rfl ?_
          refine AW_goto hT hK 79 (tgt := 49) rfl rfl ?_
          refine AW_msk [true, true, true, true, true, true, true, false, false] (lo' := [some (.ref 36), some (.int d1), some (.int d2), some (.int d3), some (.int w4), some (.int w5), some (.int ((nI i) + 1)), none, none]) rfl ?_
          refine AW_to (lo' := [some (.ref 36), some (.int d1), some (.int d2), some (.int d3), some (.int w4), some (.int w5), some (.int (nI (i + 1))), none, none]) (by rw [nI_1]) rfl rfl ?_
          exact ih (i + 1) _ _ (by omega) (by omega) (fun s' hs' => kx s' ((congrArg (az_it _ n (i + 1)) (by simp only [b_X6_split_49, if_pos c17, if_neg c22, if_pos c24])).trans hs'))
        · refine AW_g hT cl_X6 hK 67 1 (pc' := 114) (lo' := [some (.ref 36), some (.int d1), some (.int d2), some (.int d3), some (.int w4), some (.int w5), some (.int (nI i)), some (.int 0), some (.int 0)]) (st' := [.int (nI i)]) (hp' := wd σ) rfl ?_
          refine AW_goto hT hK 68 (tgt := 119) rfl rfl ?_
          refine AW_g hT cl_X6 hK 70 3 (pc' := 125) (lo' := [some (.ref 36), some (.int d1), some (.int d2), some (.int d3), some (.int (nI i)), some (.int w5), some (.int (nI i)), some (.int 0), some (.int 0)]) (st' := [.int w5, .int 0]) (hp' := wd σ) rfl ?_
          refine AW_icmp_ge hT hK 73 (tgt := 133) rfl rfl (fun c26 => absurd c26 c24) (fun _ => ?_)
          refine AW_g hT cl_X6 hK 74 1 (pc' := 130) (lo' := [some (.ref 36), some (.int d1), some (.int d2), some (.int d3), some (.int (nI i)), some (.int w5), some (.int (nI i)), some (.int 0), some (.int 0)]) (st' := [.int 0]) (hp' := wd σ) rfl ?_
          refine AW_goto hT hK 75 (tgt := 135) rfl rfl ?_
          refine AW_g hT cl_X6 hK 77 2 (pc' := 140) (lo' := [some (.ref 36), some (.int d1), some (.int d2), some (.int d3), some (.int (nI i)), some (.int 0), some (.int ((nI i) + 1)), some (.int 0), some (.int 0)]) (st' := []) (hp' := wd σ) rfl ?_
          refine AW_goto hT hK 79 (tgt := 49) rfl rfl ?_
          refine AW_msk [true, true, true, true, true, true, true, false, false] (lo' := [some (.ref 36), some (.int d1), some (.int d2), some (.int d3), some (.int (nI i)), some (.int 0), some (.int ((nI i) + 1)), none, none]) rfl ?_
          refine AW_to (lo' := [some (.ref 36), some (.int d1), some (.int d2), some (.int d3), some (.int (nI i)), some (.int 0), some (.int (nI (i + 1))), none, none]) (by rw [nI_1]) rfl rfl ?_
          exact ih (i + 1) _ _ (by omega) (by omega) (fun s' hs' => kx s' ((congrArg (az_it _ n (i + 1)) (by simp only [b_X6_split_49, if_pos c17, if_neg c22, if_neg c24])).trans hs'))
      · refine AW_g hT cl_X6 hK 46 1 (pc' := 75) (lo' := [some (.ref 36), some (.int d1), some (.int d2), some (.int d3), some (.int w4), some (.int w5), some (.int (nI i)), none, none]) (st' := [.int 1]) (hp' := wd σ) rfl ?_
        refine AW_goto hT hK 47 (tgt := 79) rfl rfl ?_
        refine AW_g hT cl_X6 hK 49 2 (pc' := 83) (lo' := [some (.ref 36), some (.int d1), some (.int d2), some (.int d3), some (.int w4), some (.int w5), some (.int (nI i)), some (.int 1), none]) (st' := [.int 1]) (hp' := wd σ) rfl ?_
        refine AW_if_eq hT hK 51 (tgt := 102) rfl rfl (fun c27 => absurd c27 (by decide)) (fun _ => ?_)
        refine AW_g hT cl_X6 hK 52 8 (pc' := 96) (lo' := [some (.ref 36), some (.int d1), some (.int d2), some (.int d3), some (.int w4), some (.int w5), some (.int (nI i)), some (.int 1), none]) (st' := [.int d2, .int (d3 &&& ((nI i) ^^^ (-1))), .int (nI i), .ref 36]) (hp' := wd σ) rfl ?_
        refine AW_callV hT hK 60 [.int (nI i), .int (d3 &&& ((nI i) ^^^ (-1))), .int d2] [] (m_X6_gains l0 σ (nI i) (d3 &&& ((nI i) ^^^ (-1))) d2 (hw)) cw_X6_gains lk_X6_88 vi_X6_gains rfl rfl rfl rfl rfl rfl (Nat.le_of_ble_eq_true rfl) (Nat.le_of_ble_eq_true rfl) (AW_k1 (fun v29 h28 => ?_))
        refine AW_goto hT hK 61 (tgt := 103) rfl rfl ?_
        refine AW_g hT cl_X6 hK 63 3 (pc' := 109) (lo' := [some (.ref 36), some (.int d1), some (.int d2), some (.int d3), some (.int w4), some (.int w5), some (.int (nI i)), some (.int 1), some (.int v29)]) (st' := [.int w5, .int v29]) (hp' := wd σ) rfl ?_
        refine AW_icmp_ge hT hK 66 (tgt := 117) rfl rfl (fun c30 => ?_) (fun c30 => ?_)
        · refine AW_g hT cl_X6 hK 69 4 (pc' := 125) (lo' := [some (.ref 36), some (.int d1), some (.int d2), some (.int d3), some (.int w4), some (.int w5), some (.int (nI i)), some (.int 1), some (.int v29)]) (st' := [.int w5, .int v29]) (hp' := wd σ) rfl ?_
          refine AW_icmp_ge hT hK 73 (tgt := 133) rfl rfl (fun _ => ?_) (fun c31 => absurd c30 c31)
          refine AW_g hT cl_X6 hK 76 3 (pc' := 140) (lo' := [some (.ref 36), some (.int d1), some (.int d2), some (.int d3), some (.int w4), some (.int w5), some (.int ((nI i) + 1)), some (.int 1), some (.int v29)]) (st' := []) (hp' := wd σ) rfl ?_
          refine AW_goto hT hK 79 (tgt := 49) rfl rfl ?_
          refine AW_msk [true, true, true, true, true, true, true, false, false] (lo' := [some (.ref 36), some (.int d1), some (.int d2), some (.int d3), some (.int w4), some (.int w5), some (.int ((nI i) + 1)), none, none]) rfl ?_
          refine AW_to (lo' := [some (.ref 36), some (.int d1), some (.int d2), some (.int d3), some (.int w4), some (.int w5), some (.int (nI (i + 1))), none, none]) (by rw [nI_1]) rfl rfl ?_
          subst h28; skip
          exact ih (i + 1) _ _ (by omega) (by omega) (fun s' hs' => kx s' ((congrArg (az_it _ n (i + 1)) (by simp only [b_X6_split_49, if_pos c17, if_pos c22, if_pos c30])).trans hs'))
        · refine AW_g hT cl_X6 hK 67 1 (pc' := 114) (lo' := [some (.ref 36), some (.int d1), some (.int d2), some (.int d3), some (.int w4), some (.int w5), some (.int (nI i)), some (.int 1), some (.int v29)]) (st' := [.int (nI i)]) (hp' := wd σ) rfl ?_
          refine AW_goto hT hK 68 (tgt := 119) rfl rfl ?_
          refine AW_g hT cl_X6 hK 70 3 (pc' := 125) (lo' := [some (.ref 36), some (.int d1), some (.int d2), some (.int d3), some (.int (nI i)), some (.int w5), some (.int (nI i)), some (.int 1), some (.int v29)]) (st' := [.int w5, .int v29]) (hp' := wd σ) rfl ?_
          refine AW_icmp_ge hT hK 73 (tgt := 133) rfl rfl (fun c32 => absurd c32 c30) (fun _ => ?_)
          refine AW_g hT cl_X6 hK 74 1 (pc' := 130) (lo' := [some (.ref 36), some (.int d1), some (.int d2), some (.int d3), some (.int (nI i)), some (.int w5), some (.int (nI i)), some (.int 1), some (.int v29)]) (st' := [.int v29]) (hp' := wd σ) rfl ?_
          refine AW_goto hT hK 75 (tgt := 135) rfl rfl ?_
          refine AW_g hT cl_X6 hK 77 2 (pc' := 140) (lo' := [some (.ref 36), some (.int d1), some (.int d2), some (.int d3), some (.int (nI i)), some (.int v29), some (.int ((nI i) + 1)), some (.int 1), some (.int v29)]) (st' := []) (hp' := wd σ) rfl ?_
          refine AW_goto hT hK 79 (tgt := 49) rfl rfl ?_
          refine AW_msk [true, true, true, true, true, true, true, false, false] (lo' := [some (.ref 36), some (.int d1), some (.int d2), some (.int d3), some (.int (nI i)), some (.int v29), some (.int ((nI i) + 1)), none, none]) rfl ?_
          refine AW_to (lo' := [some (.ref 36), some (.int d1), some (.int d2), some (.int d3), some (.int (nI i)), some (.int v29), some (.int (nI (i + 1))), none, none]) (by rw [nI_1]) rfl rfl ?_
          subst h28; skip
          exact ih (i + 1) _ _ (by omega) (by omega) (fun s' hs' => kx s' ((congrArg (az_it _ n (i + 1)) (by simp only [b_X6_split_49, if_pos c17, if_pos c22, if_neg c30])).trans hs'))
def x_X6_split (σ : az_S) (p0 : Int32) : Int32 × az_S :=
  let τ2 := x_X6_laysFields σ
  let v6 := x_X6_isField (τ2) p0
  if v6 = 0 then
    (0, (sF τ2 9 1))
  else
    let q13 := x_X6_totalNow (sF τ2 9 0)
    let s34 := az_it (fun ι s => b_X6_split_49 q13.2 p0 q13.1 ((q13.2.2.1 41) p0.toNatClampNeg) ((1 <<< (p0 &&& 31) : Int32).toNatClampNeg) ι s.1 s.2) ((max (1 <<< (p0 &&& 31) : Int32).toNatClampNeg ((q13.2.2.1 41) p0.toNatClampNeg).toNatClampNeg) - (1 <<< (p0 &&& 31) : Int32).toNatClampNeg) ((1 <<< (p0 &&& 31) : Int32).toNatClampNeg) (0, 0)
    (s34.1, q13.2)
set_option maxRecDepth 100000 in
set_option maxHeartbeats 4000000 in
theorem m_X6_split (l0 : Launch) (σ : az_S) (p0 : Int32) (hw : az_wf σ) : AMet l0 yX6_split cX6_split 9 (some .int) ({ frames := 5, cells := 0, slots := 0, locals := 115 } : Room) false [.ref 36, .int p0] (wd σ) (fun r h => r = some (.int (x_X6_split σ p0).1) ∧ h = wd (x_X6_split σ p0).2) := by
  refine AMet_of (by decide +kernel) (by simp [Value.category]) (Nat.le_of_ble_eq_true rfl) (fun K hK hct hG hE => ?_)
  have hT := tt_X6_split
  have hw2 := hw.2
  refine AW_g hT cl_X6 hK 0 1 (pc' := 1) (lo' := [some (.ref 36), some (.int p0), none, none, none, none, none, none, none]) (st' := [.ref 36]) (hp' := wd σ) rfl ?_
  refine AW_callV hT hK 1 [] [] (m_X6_laysFields l0 σ (hw)) cw_X6_laysFields lk_X6_92 vi_X6_laysFields rfl rfl rfl rfl rfl rfl (Nat.le_of_ble_eq_true rfl) (Nat.le_of_ble_eq_true rfl) (AW_kv (fun τ2 h1 => ?_))
  have hn4 : nn τ2 = nn σ := by rw [← h1]; exact (az_nn_of (kp_X6_laysFields _)).trans rfl
  have hw3 : az_wf τ2 := by rw [← h1]; exact az_wf_of (kp_X6_laysFields _) hw
  refine AW_g hT cl_X6 hK 2 3 (pc' := 7) (lo' := [some (.ref 36), some (.int p0), none, none, none, none, none, none, none]) (st' := [.int p0, .ref 36, .ref 36]) (hp' := wd (τ2)) rfl ?_
  refine AW_callV hT hK 5 [.int p0] [.ref 36] (m_X6_isField l0 (τ2) p0 (hw3)) cw_X6_isField lk_X6_95 vi_X6_isField rfl rfl rfl rfl rfl rfl (Nat.le_of_ble_eq_true rfl) (Nat.le_of_ble_eq_true rfl) (AW_k1 (fun v6 h5 => ?_))
  refine AW_if_eq hT hK 6 (tgt := 17) rfl rfl (fun c7 => ?_) (fun c7 => ?_)
  · refine AW_g hT cl_X6 hK 9 1 (pc' := 18) (lo' := [some (.ref 36), some (.int p0), none, none, none, none, none, none, none]) (st' := [.int 1, .ref 36]) (hp' := wd (τ2)) rfl ?_
    refine AW_callV hT hK 10 [.int 1] [] (m_X6_goes l0 (τ2) 1 (hw3)) cw_X6_goes lk_X6_51 vi_X6_goes rfl rfl rfl rfl rfl rfl (Nat.le_of_ble_eq_true rfl) (Nat.le_of_ble_eq_true rfl) (AW_kiw2 (goes_1 (τ2)) ?_)
    refine AW_if_ne hT hK 11 (tgt := 26) rfl rfl (fun c9 => absurd (by decide) c9) (fun _ => ?_)
    refine AW_g hT cl_X6 hK 12 1 (pc' := 25) (lo' := [some (.ref 36), some (.int p0), none, none, none, none, none, none, none]) (st' := [.int 0]) (hp' := wd (sF τ2 9 1)) rfl ?_
    refine AW_iret hT hE 13 rfl rfl rfl (Nat.le_of_ble_eq_true rfl) (Nat.le_of_ble_eq_true rfl) ?_
    subst h5; subst h1; exact ⟨by simp only [x_X6_split, if_pos c7], by simp only [x_X6_split, if_pos c7]⟩
  · refine AW_g hT cl_X6 hK 7 1 (pc' := 14) (lo' := [some (.ref 36), some (.int p0), none, none, none, none, none, none, none]) (st' := [.int 0, .ref 36]) (hp' := wd (τ2)) rfl ?_
    refine AW_goto hT hK 8 (tgt := 18) rfl rfl ?_
    refine AW_callV hT hK 10 [.int 0] [] (m_X6_goes l0 (τ2) 0 (hw3)) cw_X6_goes lk_X6_51 vi_X6_goes rfl rfl rfl rfl rfl rfl (Nat.le_of_ble_eq_true rfl) (Nat.le_of_ble_eq_true rfl) (AW_kiw2 (goes_0 (τ2)) ?_)
    refine AW_if_ne hT hK 11 (tgt := 26) rfl rfl (fun _ => ?_) (fun c11 => absurd c11 (by decide))
    refine AW_g hT cl_X6 hK 14 1 (pc' := 27) (lo' := [some (.ref 36), some (.int p0), none, none, none, none, none, none, none]) (st' := [.ref 36]) (hp' := wd (sF τ2 9 0)) rfl ?_
    refine AW_callV hT hK 15 [] [] (m_X6_totalNow l0 (sF τ2 9 0) (hw3)) cw_X6_totalNow lk_X6_78 vi_X6_totalNow rfl rfl rfl rfl rfl rfl (Nat.le_of_ble_eq_true rfl) (Nat.le_of_ble_eq_true rfl) (AW_kiw (fun q13 h12 => ?_))
    have hn15 : nn q13.2 = nn σ := by rw [← h12]; exact (az_nn_of (kp_X6_totalNow _)).trans hn4
    have hw14 : az_wf q13.2 := by rw [← h12]; exact az_wf_of (kp_X6_totalNow _) hw3
    refine AW_g hT cl_X6 hK 16 4 (pc' := 36) (lo' := [some (.ref 36), some (.int p0), some (.int q13.1), none, none, none, none, none, none]) (st' := [.int p0, .ref 41]) (hp' := wd q13.2) rfl ?_
    refine AW_ialdx hT hK 20 rfl (n := 12) (f := (q13.2.2.1 41)) rfl (ob_field h5 c7) ?_
    refine AW_g hT cl_X6 hK 21 9 (pc' := 49) (lo' := [some (.ref 36), some (.int p0), some (.int q13.1), some (.int ((q13.2.2.1 41) p0.toNatClampNeg)), some (.int 0), some (.int 0), some (.int (1 <<< (p0 &&& 31))), none, none]) (st' := []) (hp' := wd q13.2) rfl ?_
    refine AW_to (lo' := [some (.ref 36), some (.int p0), some (.int q13.1), some (.int ((q13.2.2.1 41) p0.toNatClampNeg)), some (.int 0), some (.int 0), some (.int (nI ((1 <<< (p0 &&& 31) : Int32).toNatClampNeg))), none, none]) (by rw [← (az_sh (ob_field h5 c7)).1]) rfl rfl ?_
    refine lp_X6_split_49 hT hK q13.2 p0 q13.1 ((q13.2.2.1 41) p0.toNatClampNeg) ((1 <<< (p0 &&& 31) : Int32).toNatClampNeg) ((az_sh (ob_field h5 c7)).2) hw14 ((max (1 <<< (p0 &&& 31) : Int32).toNatClampNeg ((q13.2.2.1 41) p0.toNatClampNeg).toNatClampNeg) - (1 <<< (p0 &&& 31) : Int32).toNatClampNeg) ((1 <<< (p0 &&& 31) : Int32).toNatClampNeg) 0 0 (by first | rfl | omega) (Nat.le_refl _) (fun s34 h35 => ?_)
    refine AW_g hT cl_X6 hK 80 1 (pc' := 145) (lo' := [some (.ref 36), some (.int p0), some (.int q13.1), some (.int ((q13.2.2.1 41) p0.toNatClampNeg)), some (.int s34.1), some (.int s34.2), none, none, none]) (st' := [.int s34.1]) (hp' := wd q13.2) rfl ?_
    refine AW_iret hT hE 81 rfl rfl rfl (Nat.le_of_ble_eq_true rfl) (Nat.le_of_ble_eq_true rfl) ?_
    subst h35; subst h12; subst h5; subst h1; exact ⟨by simp only [x_X6_split, if_neg c7], by simp only [x_X6_split, if_neg c7]⟩
theorem kp_X6_split (σ : az_S) (p0 : Int32) : (x_X6_split σ p0).2.1 8 = σ.1 8 := by
  unfold x_X6_split
  (try dsimp only)
  (repeat' split) <;> first | (simp [az_k8F, az_k8G, az_k8L, kp_X6_laysFields, kp_X6_totalNow]; done) | rfl
end AZP
