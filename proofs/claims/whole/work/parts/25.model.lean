section AZP
def b_X6_laysFields_7 (d1 : Int32) (i : Nat) (σ : az_S) : az_S :=
  if (σ.1 8) ≤ (nI i) then
    (sG σ 41 (va_up (σ.2.1 41) i 0))
  else
    if ((σ.2.1 37) i) = 0 then
      (sG σ 41 (va_up (σ.2.1 41) i 0))
    else
      let u8 := (1 <<< ((nI i) &&& 31))
      (sG σ 41 (va_up (σ.2.1 41) i u8))
theorem kb_X6_laysFields_7 (d1 : Int32) (i : Nat) (σ : az_S) : (b_X6_laysFields_7 d1 i σ).1 8 = σ.1 8 := by
  unfold b_X6_laysFields_7
  (try dsimp only)
  (repeat' split) <;> first | (simp [az_k8F, az_k8G, az_k8L]; done) | rfl
theorem kp_X6_laysFields_7 (d1 : Int32) (n i : Nat) (s : az_S) : (az_it (fun ι s => b_X6_laysFields_7 d1 ι s) n i s).1 8 = s.1 8 := az_it_keep (fun s => s.1 8) (fun i s => kb_X6_laysFields_7 d1 i s) n i s
set_option maxRecDepth 100000 in
set_option maxHeartbeats 4000000 in
theorem lp_X6_laysFields_7 {K : az_K} {l0 : Launch} (hT : az_Tb cX6_laysFields tb_X6_laysFields) (hK : az_OK K RX6 cX6_laysFields ({ frames := 4, cells := 0, slots := 0, locals := 87 } : Room) l0) (d1 : Int32) :
    ∀ (n i : Nat) (σ : az_S) (hi : i + n = 12) (hw : az_wf σ) (kx : ∀ s' : az_S, az_it (fun ι s => b_X6_laysFields_7 d1 ι s) n i σ = s' → AW K 0 0 49 [some (.ref 36), some (.int d1), none, none, none, none, none, none, none] [] (wd s')), AW K 0 0 7 [some (.ref 36), some (.int d1), some (.int (nI i)), none, none, none, none, none, none] [] (wd σ) := by
  intro n
  induction n with
  | zero =>
    intro i σ hi hw kx
    have hw2 := hw.2
    refine AW_g hT cl_X6 hK 5 2 (pc' := 10) (lo' := [some (.ref 36), some (.int d1), some (.int (nI i)), none, none, none, none, none, none]) (st' := [.int 12, .int (nI i)]) (hp' := wd σ) rfl ?_
    refine AW_icmp_ge hT hK 7 (tgt := 49) rfl rfl (fun c10 => ?_) (fun c10 => absurd (az_c0 hi) c10)
    refine AW_msk [true, true, false, false, false, false, false, false, false] (lo' := [some (.ref 36), some (.int d1), none, none, none, none, none, none, none]) rfl ?_
    exact kx σ rfl
  | succ n ih =>
    intro i σ hi hw kx
    have hw2 := hw.2
    refine AW_g hT cl_X6 hK 5 2 (pc' := 10) (lo' := [some (.ref 36), some (.int d1), some (.int (nI i)), none, none, none, none, none, none]) (st' := [.int 12, .int (nI i)]) (hp' := wd σ) rfl ?_
    refine AW_icmp_ge hT hK 7 (tgt := 49) rfl rfl (fun c5 => absurd c5 (az_c1 hi)) (fun c5 => ?_)
    refine AW_g hT cl_X6 hK 8 6 (pc' := 23) (lo' := [some (.ref 36), some (.int d1), some (.int (nI i)), none, none, none, none, none, none]) (st' := [.int (σ.1 8), .int (nI i), .int (nI i), .ref 41]) (hp' := wd σ) rfl ?_
    refine AW_icmp_ge hT hK 14 (tgt := 41) rfl rfl (fun c6 => ?_) (fun c6 => ?_)
    · refine AW_g hT cl_X6 hK 24 1 (pc' := 42) (lo' := [some (.ref 36), some (.int d1), some (.int (nI i)), none, none, none, none, none, none]) (st' := [.int 0, .int (nI i), .ref 41]) (hp' := wd σ) rfl ?_
      refine AW_iastv hT hK 25 i rfl (n := 12) (f := (σ.2.1 41)) rfl rfl (by omega) (by decide) ?_
      refine AW_to (hp' := wd (sG σ 41 (va_up (σ.2.1 41) i 0))) rfl rfl (wd_41 _ _) ?_
      refine AW_g hT cl_X6 hK 26 1 (pc' := 46) (lo' := [some (.ref 36), some (.int d1), some (.int ((nI i) + 1)), none, none, none, none, none, none]) (st' := []) (hp' := wd (sG σ 41 (va_up (σ.2.1 41) i 0))) rfl ?_
      refine AW_goto hT hK 27 (tgt := 7) rfl rfl ?_
      refine AW_to (lo' := [some (.ref 36), some (.int d1), some (.int (nI (i + 1))), none, none, none, none, none, none]) (by rw [nI_1]) rfl rfl ?_
      exact ih (i + 1) _ (by omega) hw (fun s' hs' => kx s' ((congrArg (az_it _ n (i + 1)) (by simp only [b_X6_laysFields_7, if_pos c6])).trans hs'))
    · refine AW_g hT cl_X6 hK 15 3 (pc' := 31) (lo' := [some (.ref 36), some (.int d1), some (.int (nI i)), none, none, none, none, none, none]) (st' := [.int (nI i), .ref 37, .int (nI i), .ref 41]) (hp' := wd σ) rfl ?_
      refine AW_zald hT hK 18 i rfl (n := 12) (f := (σ.2.1 37)) rfl rfl (by omega) (by decide) ?_
      refine AW_if_eq hT hK 19 (tgt := 41) rfl rfl (fun c7 => ?_) (fun c7 => ?_)
      · refine AW_g hT cl_X6 hK 24 1 (pc' := 42) (lo' := [some (.ref 36), some (.int d1), some (.int (nI i)), none, none, none, none, none, none]) (st' := [.int 0, .int (nI i), .ref 41]) (hp' := wd σ) rfl ?_
        refine AW_iastv hT hK 25 i rfl (n := 12) (f := (σ.2.1 41)) rfl rfl (by omega) (by decide) ?_
        refine AW_to (hp' := wd (sG σ 41 (va_up (σ.2.1 41) i 0))) rfl rfl (wd_41 _ _) ?_
        refine AW_g hT cl_X6 hK 26 1 (pc' := 46) (lo' := [some (.ref 36), some (.int d1), some (.int ((nI i) + 1)), none, none, none, none, none, none]) (st' := []) (hp' := wd (sG σ 41 (va_up (σ.2.1 41) i 0))) rfl ?_
        refine AW_goto hT hK 27 (tgt := 7) rfl rfl ?_
        refine AW_to (lo' := [some (.ref 36), some (.int d1), some (.int (nI (i + 1))), none, none, none, none, none, none]) (by rw [nI_1]) rfl rfl ?_
        exact ih (i + 1) _ (by omega) hw (fun s' hs' => kx s' ((congrArg (az_it _ n (i + 1)) (by simp only [b_X6_laysFields_7, if_neg c6, if_pos c7])).trans hs'))
      · refine AW_g hT cl_X6 hK 20 3 (pc' := 38) (lo' := [some (.ref 36), some (.int d1), some (.int (nI i)), none, none, none, none, none, none]) (st' := [.int (1 <<< ((nI i) &&& 31)), .int (nI i), .ref 41]) (hp' := wd σ) rfl ?_
        refine AW_goto hT hK 23 (tgt := 42) rfl rfl ?_
        refine AW_topi (fun u8 h9 => ?_)
        refine AW_iastv hT hK 25 i rfl (n := 12) (f := (σ.2.1 41)) rfl rfl (by omega) (by decide) ?_
        refine AW_to (hp' := wd (sG σ 41 (va_up (σ.2.1 41) i u8))) rfl rfl (wd_41 _ _) ?_
        refine AW_g hT cl_X6 hK 26 1 (pc' := 46) (lo' := [some (.ref 36), some (.int d1), some (.int ((nI i) + 1)), none, none, none, none, none, none]) (st' := []) (hp' := wd (sG σ 41 (va_up (σ.2.1 41) i u8))) rfl ?_
        refine AW_goto hT hK 27 (tgt := 7) rfl rfl ?_
        refine AW_to (lo' := [some (.ref 36), some (.int d1), some (.int (nI (i + 1))), none, none, none, none, none, none]) (by rw [nI_1]) rfl rfl ?_
        subst h9; skip
        exact ih (i + 1) _ (by omega) hw (fun s' hs' => kx s' ((congrArg (az_it _ n (i + 1)) (by simp only [b_X6_laysFields_7, if_neg c6, if_neg c7])).trans hs'))
def b_X6_laysFields_63 (σ : az_S) (d1 : Int32) (d2 : Int32) (i : Nat) (w3 : Int32) (w4 : Int32) : Int32 × Int32 :=
  if (nI (i % 12)) ≤ (nI (i / 12)) then
    if 0 ≤ w4 then
      (w3, w4)
    else
      ((nI i), 0)
  else
    if ((σ.2.1 41) (i / 12)) = 0 then
      if 0 ≤ w4 then
        (w3, w4)
      else
        ((nI i), 0)
    else
      if ((σ.2.1 41) (i % 12)) = 0 then
        if 0 ≤ w4 then
          (w3, w4)
        else
          ((nI i), 0)
      else
        let v30 := x_X6_gains σ ((σ.2.1 41) (i / 12)) ((σ.2.1 41) (i % 12)) d1
        if v30 ≤ w4 then
          (w3, w4)
        else
          ((nI i), v30)
set_option maxRecDepth 100000 in
set_option maxHeartbeats 4000000 in
theorem lp_X6_laysFields_63 {K : az_K} {l0 : Launch} (hT : az_Tb cX6_laysFields tb_X6_laysFields) (hK : az_OK K RX6 cX6_laysFields ({ frames := 4, cells := 0, slots := 0, locals := 87 } : Room) l0) (σ : az_S) (d1 : Int32) (d2 : Int32) (hw : az_wf σ) :
    ∀ (n i : Nat) (w3 : Int32) (w4 : Int32) (hi : i + n = 144) (kx : ∀ s' : Int32 × Int32, az_it (fun ι s => b_X6_laysFields_63 σ d1 d2 ι s.1 s.2) n i (w3, w4) = s' → AW K 0 0 173 [some (.ref 36), some (.int d1), some (.int d2), some (.int s'.1), some (.int s'.2), none, none, none, none] [] (wd σ)), AW K 0 0 63 [some (.ref 36), some (.int d1), some (.int d2), some (.int w3), some (.int w4), some (.int (nI i)), none, none, none] [] (wd σ) := by
  intro n
  induction n with
  | zero =>
    intro i w3 w4 hi kx
    have hw2 := hw.2
    refine AW_g hT cl_X6 hK 38 2 (pc' := 68) (lo' := [some (.ref 36), some (.int d1), some (.int d2), some (.int w3), some (.int w4), some (.int (nI i)), none, none, none]) (st' := [.int 144, .int (nI i)]) (hp' := wd σ) rfl ?_
    refine AW_icmp_ge hT hK 40 (tgt := 173) rfl rfl (fun c34 => ?_) (fun c34 => absurd (az_c0 hi) c34)
    refine AW_msk [true, true, true, true, true, false, false, false, false] (lo' := [some (.ref 36), some (.int d1), some (.int d2), some (.int w3), some (.int w4), none, none, none, none]) rfl ?_
    exact kx (w3, w4) rfl
  | succ n ih =>
    intro i w3 w4 hi kx
    have hw2 := hw.2
    refine AW_g hT cl_X6 hK 38 2 (pc' := 68) (lo' := [some (.ref 36), some (.int d1), some (.int d2), some (.int w3), some (.int w4), some (.int (nI i)), none, none, none]) (st' := [.int 144, .int (nI i)]) (hp' := wd σ) rfl ?_
    refine AW_icmp_ge hT hK 40 (tgt := 173) rfl rfl (fun c16 => absurd c16 (az_c1 hi)) (fun c16 => ?_)
    refine AW_g hT cl_X6 hK 41 2 (pc' := 75) (lo' := [some (.ref 36), some (.int d1), some (.int d2), some (.int w3), some (.int w4), some (.int (nI i)), none, none, none]) (st' := [.int 12, .int (nI i)]) (hp' := wd σ) rfl ?_
    refine AW_idivN hT hK 43 i 12 rfl rfl rfl (by omega) (by decide) (by decide) ?_
    refine AW_g hT cl_X6 hK 44 3 (pc' := 82) (lo' := [some (.ref 36), some (.int d1), some (.int d2), some (.int w3), some (.int w4), some (.int (nI i)), some (.int (nI (i / 12))), none, none]) (st' := [.int 12, .int (nI i)]) (hp' := wd σ) rfl ?_
    refine AW_iremN hT hK 47 i 12 rfl rfl rfl (by omega) (by decide) (by decide) ?_
    refine AW_g hT cl_X6 hK 48 3 (pc' := 89) (lo' := [some (.ref 36), some (.int d1), some (.int d2), some (.int w3), some (.int w4), some (.int (nI i)), some (.int (nI (i / 12))), some (.int (nI (i % 12))), none]) (st' := [.int (nI (i % 12)), .int (nI (i / 12))]) (hp' := wd σ) rfl ?_
    refine AW_icmp_ge hT hK 51 (tgt := 134) rfl rfl (fun c17 => ?_) (fun c17 => ?_)
    · refine AW_g hT cl_X6 hK 74 4 (pc' := 141) (lo' := [some (.ref 36), some (.int d1), some (.int d2), some (.int w3), some (.int w4), some (.int (nI i)), some (.int (nI (i / 12))), some (.int (nI (i % 12))), some (.int 0)]) (st' := [.int w4, .int 0]) (hp' := wd σ) rfl ?_
      refine AW_icmp_le hT hK 78 (tgt := 149) rfl rfl (fun c18 => ?_) (fun c18 => ?_)
      · refine AW_g hT cl_X6 hK 81 4 (pc' := 155) (lo' := [some (.ref 36), some (.int d1), some (.int d2), some (.int w3), some (.int w4), some (.int (nI i)), some (.int (nI (i / 12))), some (.int (nI (i % 12))), some (.int 0)]) (st' := [.int w4, .int 0]) (hp' := wd σ) rfl ?_
        refine AW_icmp_le hT hK 85 (tgt := 163) rfl rfl (fun _ => ?_) (fun c19 => absurd c18 c19)
        refine AW_g hT cl_X6 hK 88 3 (pc' := 170) (lo' := [some (.ref 36), some (.int d1), some (.int d2), some (.int w3), some (.int w4), some (.int ((nI i) + 1)), some (.int (nI (i / 12))), some (.int (nI (i % 12))), some (.int 0)]) (st' := []) (hp' := wd σ) rfl ?_
        refine AW_goto hT hK 91 (tgt := 63) rfl rfl ?_
        refine AW_msk [true, true, true, true, true, true, false, false, false] (lo' := [some (.ref 36), some (.int d1), some (.int d2), some (.int w3), some (.int w4), some (.int ((nI i) + 1)), none, none, none]) rfl ?_
        refine AW_to (lo' := [some (.ref 36), some (.int d1), some (.int d2), some (.int w3), some (.int w4), some (.int (nI (i + 1))), none, none, none]) (by rw [nI_1]) rfl rfl ?_
        exact ih (i + 1) _ _ (by omega) (fun s' hs' => kx s' ((congrArg (az_it _ n (i + 1)) (by simp only [b_X6_laysFields_63, if_pos c17, if_pos c18])).trans hs'))
      · refine AW_g hT cl_X6 hK 79 1 (pc' := 146) (lo' := [some (.ref 36), some (.int d1), some (.int d2), some (.int w3), some (.int w4), some (.int (nI i)), some (.int (nI (i / 12))), some (.int (nI (i % 12))), some (.int 0)]) (st' := [.int (nI i)]) (hp' := wd σ) rfl ?_
        refine AW_goto hT hK 80 (tgt := 150) rfl rfl ?_
        refine AW_g hT cl_X6 hK 82 3 (pc' := 155) (lo' := [some (.ref 36), some (.int d1), some (.int d2), some (.int (nI i)), some (.int w4), some (.int (nI i)), some (.int (nI (i / 12))), some (.int (nI (i % 12))), some (.int 0)]) (st' := [.int w4, .int 0]) (hp' := wd σ) rfl ?_
        refine AW_icmp_le hT hK 85 (tgt := 163) rfl rfl (fun c20 => absurd c20 c18) (fun _ => ?_)
        refine AW_g hT cl_X6 hK 86 1 (pc' := 160) (lo' := [some (.ref 36), some (.int d1), some (.int d2), some (.int (nI i)), some (.int w4), some (.int (nI i)), some (.int (nI (i / 12))), some (.int (nI (i % 12))), some (.int 0)]) (st' := [.int 0]) (hp' := wd σ) rfl ?_
        refine AW_goto hT hK 87 (tgt := 165) rfl rfl ?_
        refine AW_g hT cl_X6 hK 89 2 (pc' := 170) (lo' := [some (.ref 36), some (.int d1), some (.int d2), some (.int (nI i)), some (.int 0), some (.int ((nI i) + 1)), some (.int (nI (i / 12))), some (.int (nI (i % 12))), some (.int 0)]) (st' := []) (hp' := wd σ) rfl ?_
        refine AW_goto hT hK 91 (tgt := 63) rfl rfl ?_
        refine AW_msk [true, true, true, true, true, true, false, false, false] (lo' := [some (.ref 36), some (.int d1), some (.int d2), some (.int (nI i)), some (.int 0), some (.int ((nI i) + 1)), none, none, none]) rfl ?_
        refine AW_to (lo' := [some (.ref 36), some (.int d1), some (.int d2), some (.int (nI i)), some (.int 0), some (.int (nI (i + 1))), none, none, none]) (by rw [nI_1]) rfl rfl ?_
        exact ih (i + 1) _ _ (by omega) (fun s' hs' => kx s' ((congrArg (az_it _ n (i + 1)) (by simp only [b_X6_laysFields_63, if_pos c17, if_neg c18])).trans hs'))
    · refine AW_g hT cl_X6 hK 52 3 (pc' := 98) (lo' := [some (.ref 36), some (.int d1), some (.int d2), some (.int w3), some (.int w4), some (.int (nI i)), some (.int (nI (i / 12))), some (.int (nI (i % 12))), none]) (st' := [.int (nI (i / 12)), .ref 41]) (hp' := wd σ) rfl ?_
      refine AW_iald hT hK 55 (i / 12) rfl (n := 12) (f := (σ.2.1 41)) rfl rfl (by omega) (by decide) ?_
      refine AW_if_eq hT hK 56 (tgt := 134) rfl rfl (fun c21 => ?_) (fun c21 => ?_)
      · refine AW_g hT cl_X6 hK 74 4 (pc' := 141) (lo' := [some (.ref 36), some (.int d1), some (.int d2), some (.int w3), some (.int w4), some (.int (nI i)), some (.int (nI (i / 12))), some (.int (nI (i % 12))), some (.int 0)]) (st' := [.int w4, .int 0]) (hp' := wd σ) rfl ?_
        refine AW_icmp_le hT hK 78 (tgt := 149) rfl rfl (fun c22 => ?_) (fun c22 => ?_)
        · refine AW_g hT cl_X6 hK 81 4 (pc' := 155) (lo' := [some (.ref 36), some (.int d1), some (.int d2), some (.int w3), some (.int w4), some (.int (nI i)), some (.int (nI (i / 12))), some (.int (nI (i % 12))), some (.int 0)]) (st' := [.int w4, .int 0]) (hp' := wd σ) rfl ?_
          refine AW_icmp_le hT hK 85 (tgt := 163) rfl rfl (fun _ => ?_) (fun c23 => absurd c22 c23)
          refine AW_g hT cl_X6 hK 88 3 (pc' := 170) (lo' := [some (.ref 36), some (.int d1), some (.int d2), some (.int w3), some (.int w4), some (.int ((nI i) + 1)), some (.int (nI (i / 12))), some (.int (nI (i % 12))), some (.int 0)]) (st' := []) (hp' := wd σ) rfl ?_
          refine AW_goto hT hK 91 (tgt := 63) rfl rfl ?_
          refine AW_msk [true, true, true, true, true, true, false, false, false] (lo' := [some (.ref 36), some (.int d1), some (.int d2), some (.int w3), some (.int w4), some (.int ((nI i) + 1)), none, none, none]) rfl ?_
          refine AW_to (lo' := [some (.ref 36), some (.int d1), some (.int d2), some (.int w3), some (.int w4), some (.int (nI (i + 1))), none, none, none]) (by rw [nI_1]) rfl rfl ?_
          exact ih (i + 1) _ _ (by omega) (fun s' hs' => kx s' ((congrArg (az_it _ n (i + 1)) (by simp only [b_X6_laysFields_63, if_neg c17, if_pos c21, if_pos c22])).trans hs'))
        · refine AW_g hT cl_X6 hK 79 1 (pc' := 146) (lo' := [some (.ref 36), some (.int d1), some (.int d2), some (.int w3), some (.int w4), some (.int (nI i)), some (.int (nI (i / 12))), some (.int (nI (i % 12))), some (.int 0)]) (st' := [.int (nI i)]) (hp' := wd σ) rfl ?_
          refine AW_goto hT hK 80 (tgt := 150) rfl rfl ?_
          refine AW_g hT cl_X6 hK 82 3 (pc' := 155) (lo' := [some (.ref 36), some (.int d1), some (.int d2), some (.int (nI i)), some (.int w4), some (.int (nI i)), some (.int (nI (i / 12))), some (.int (nI (i % 12))), some (.int 0)]) (st' := [.int w4, .int 0]) (hp' := wd σ) rfl ?_
          refine AW_icmp_le hT hK 85 (tgt := 163) rfl rfl (fun c24 => absurd c24 c22) (fun _ => ?_)
          refine AW_g hT cl_X6 hK 86 1 (pc' := 160) (lo' := [some (.ref 36), some (.int d1), some (.int d2), some (.int (nI i)), some (.int w4), some (.int (nI i)), some (.int (nI (i / 12))), some (.int (nI (i % 12))), some (.int 0)]) (st' := [.int 0]) (hp' := wd σ) rfl ?_
          refine AW_goto hT hK 87 (tgt := 165) rfl rfl ?_
          refine AW_g hT cl_X6 hK 89 2 (pc' := 170) (lo' := [some (.ref 36), some (.int d1), some (.int d2), some (.int (nI i)), some (.int 0), some (.int ((nI i) + 1)), some (.int (nI (i / 12))), some (.int (nI (i % 12))), some (.int 0)]) (st' := []) (hp' := wd σ) rfl ?_
          refine AW_goto hT hK 91 (tgt := 63) rfl rfl ?_
          refine AW_msk [true, true, true, true, true, true, false, false, false] (lo' := [some (.ref 36), some (.int d1), some (.int d2), some (.int (nI i)), some (.int 0), some (.int ((nI i) + 1)), none, none, none]) rfl ?_
          refine AW_to (lo' := [some (.ref 36), some (.int d1), some (.int d2), some (.int (nI i)), some (.int 0), some (.int (nI (i + 1))), none, none, none]) (by rw [nI_1]) rfl rfl ?_
          exact ih (i + 1) _ _ (by omega) (fun s' hs' => kx s' ((congrArg (az_it _ n (i + 1)) (by simp only [b_X6_laysFields_63, if_neg c17, if_pos c21, if_neg c22])).trans hs'))
      · refine AW_g hT cl_X6 hK 57 3 (pc' := 108) (lo' := [some (.ref 36), some (.int d1), some (.int d2), some (.int w3), some (.int w4), some (.int (nI i)), some (.int (nI (i / 12))), some (.int (nI (i % 12))), none]) (st' := [.int (nI (i % 12)), .ref 41]) (hp' := wd σ) rfl ?_
        refine AW_iald hT hK 60 (i % 12) rfl (n := 12) (f := (σ.2.1 41)) rfl rfl (by omega) (by decide) ?_
        refine AW_if_eq hT hK 61 (tgt := 134) rfl rfl (fun c25 => ?_) (fun c25 => ?_)
        · refine AW_g hT cl_X6 hK 74 4 (pc' := 141) (lo' := [some (.ref 36), some (.int d1), some (.int d2), some (.int w3), some (.int w4), some (.int (nI i)), some (.int (nI (i / 12))), some (.int (nI (i % 12))), some (.int 0)]) (st' := [.int w4, .int 0]) (hp' := wd σ) rfl ?_
          refine AW_icmp_le hT hK 78 (tgt := 149) rfl rfl (fun c26 => ?_) (fun c26 => ?_)
          · refine AW_g hT cl_X6 hK 81 4 (pc' := 155) (lo' := [some (.ref 36), some (.int d1), some (.int d2), some (.int w3), some (.int w4), some (.int (nI i)), some (.int (nI (i / 12))), some (.int (nI (i % 12))), some (.int 0)]) (st' := [.int w4, .int 0]) (hp' := wd σ) rfl ?_
            refine AW_icmp_le hT hK 85 (tgt := 163) rfl rfl (fun _ => ?_) (fun c27 => absurd c26 c27)
            refine AW_g hT cl_X6 hK 88 3 (pc' := 170) (lo' := [some (.ref 36), some (.int d1), some (.int d2), some (.int w3), some (.int w4), some (.int ((nI i) + 1)), some (.int (nI (i / 12))), some (.int (nI (i % 12))), some (.int 0)]) (st' := []) (hp' := wd σ) rfl ?_
            refine AW_goto hT hK 91 (tgt := 63) rfl rfl ?_
            refine AW_msk [true, true, true, true, true, true, false, false, false] (lo' := [some (.ref 36), some (.int d1), some (.int d2), some (.int w3), some (.int w4), some (.int ((nI i) + 1)), none, none, none]) rfl ?_
            refine AW_to (lo' := [some (.ref 36), some (.int d1), some (.int d2), some (.int w3), some (.int w4), some (.int (nI (i + 1))), none, none, none]) (by rw [nI_1]) rfl rfl ?_
            exact ih (i + 1) _ _ (by omega) (fun s' hs' => kx s' ((congrArg (az_it _ n (i + 1)) (by simp only [b_X6_laysFields_63, if_neg c17, if_neg c21, if_pos c25, if_pos c26])).trans hs'))
          · refine AW_g hT cl_X6 hK 79 1 (pc' := 146) (lo' := [some (.ref 36), some (.int d1), some (.int d2), some (.int w3), some (.int w4), some (.int (nI i)), some (.int (nI (i / 12))), some (.int (nI (i % 12))), some (.int 0)]) (st' := [.int (nI i)]) (hp' := wd σ) rfl ?_
            refine AW_goto hT hK 80 (tgt := 150) rfl rfl ?_
            refine AW_g hT cl_X6 hK 82 3 (pc' := 155) (lo' := [some (.ref 36), some (.int d1), some (.int d2), some (.int (nI i)), some (.int w4), some (.int (nI i)), some (.int (nI (i / 12))), some (.int (nI (i % 12))), some (.int 0)]) (st' := [.int w4, .int 0]) (hp' := wd σ) rfl ?_
            refine AW_icmp_le hT hK 85 (tgt := 163) rfl rfl (fun c28 => absurd c28 c26) (fun _ => ?_)
            refine AW_g hT cl_X6 hK 86 1 (pc' := 160) (lo' := [some (.ref 36), some (.int d1), some (.int d2), some (.int (nI i)), some (.int w4), some (.int (nI i)), some (.int (nI (i / 12))), some (.int (nI (i % 12))), some (.int 0)]) (st' := [.int 0]) (hp' := wd σ) rfl ?_
            refine AW_goto hT hK 87 (tgt := 165) rfl rfl ?_
            refine AW_g hT cl_X6 hK 89 2 (pc' := 170) (lo' := [some (.ref 36), some (.int d1), some (.int d2), some (.int (nI i)), some (.int 0), some (.int ((nI i) + 1)), some (.int (nI (i / 12))), some (.int (nI (i % 12))), some (.int 0)]) (st' := []) (hp' := wd σ) rfl ?_
            refine AW_goto hT hK 91 (tgt := 63) rfl rfl ?_
            refine AW_msk [true, true, true, true, true, true, false, false, false] (lo' := [some (.ref 36), some (.int d1), some (.int d2), some (.int (nI i)), some (.int 0), some (.int ((nI i) + 1)), none, none, none]) rfl ?_
            refine AW_to (lo' := [some (.ref 36), some (.int d1), some (.int d2), some (.int (nI i)), some (.int 0), some (.int (nI (i + 1))), none, none, none]) (by rw [nI_1]) rfl rfl ?_
            exact ih (i + 1) _ _ (by omega) (fun s' hs' => kx s' ((congrArg (az_it _ n (i + 1)) (by simp only [b_X6_laysFields_63, if_neg c17, if_neg c21, if_pos c25, if_neg c26])).trans hs'))
        · refine AW_g hT cl_X6 hK 62 4 (pc' := 119) (lo' := [some (.ref 36), some (.int d1), some (.int d2), some (.int w3), some (.int w4), some (.int (nI i)), some (.int (nI (i / 12))), some (.int (nI (i % 12))), none]) (st' := [.int (nI (i / 12)), .ref 41, .ref 36]) (hp' := wd σ) rfl ?_
          refine AW_iald hT hK 66 (i / 12) rfl (n := 12) (f := (σ.2.1 41)) rfl rfl (by omega) (by decide) ?_
          refine AW_g hT cl_X6 hK 67 3 (pc' := 126) (lo' := [some (.ref 36), some (.int d1), some (.int d2), some (.int w3), some (.int w4), some (.int (nI i)), some (.int (nI (i / 12))), some (.int (nI (i % 12))), none]) (st' := [.int (nI (i % 12)), .ref 41, .int ((σ.2.1 41) (i / 12)), .ref 36]) (hp' := wd σ) rfl ?_
          refine AW_iald hT hK 70 (i % 12) rfl (n := 12) (f := (σ.2.1 41)) rfl rfl (by omega) (by decide) ?_
          refine AW_g hT cl_X6 hK 71 1 (pc' := 128) (lo' := [some (.ref 36), some (.int d1), some (.int d2), some (.int w3), some (.int w4), some (.int (nI i)), some (.int (nI (i / 12))), some (.int (nI (i % 12))), none]) (st' := [.int d1, .int ((σ.2.1 41) (i % 12)), .int ((σ.2.1 41) (i / 12)), .ref 36]) (hp' := wd σ) rfl ?_
          refine AW_callV hT hK 72 [.int ((σ.2.1 41) (i / 12)), .int ((σ.2.1 41) (i % 12)), .int d1] [] (m_X6_gains l0 σ ((σ.2.1 41) (i / 12)) ((σ.2.1 41) (i % 12)) d1 (hw)) cw_X6_gains lk_X6_88 vi_X6_gains rfl rfl rfl rfl rfl rfl (Nat.le_of_ble_eq_true rfl) (Nat.le_of_ble_eq_true rfl) (AW_k1 (fun v30 h29 => ?_))
          refine AW_goto hT hK 73 (tgt := 135) rfl rfl ?_
          refine AW_g hT cl_X6 hK 75 3 (pc' := 141) (lo' := [some (.ref 36), some (.int d1), some (.int d2), some (.int w3), some (.int w4), some (.int (nI i)), some (.int (nI (i / 12))), some (.int (nI (i % 12))), some (.int v30)]) (st' := [.int w4, .int v30]) (hp' := wd σ) rfl ?_
          refine AW_icmp_le hT hK 78 (tgt := 149) rfl rfl (fun c31 => ?_) (fun c31 => ?_)
          · refine AW_g hT cl_X6 hK 81 4 (pc' := 155) (lo' := [some (.ref 36), some (.int d1), some (.int d2), some (.int w3), some (.int w4), some (.int (nI i)), some (.int (nI (i / 12))), some (.int (nI (i % 12))), some (.int v30)]) (st' := [.int w4, .int v30]) (hp' := wd σ) rfl ?_
            refine AW_icmp_le hT hK 85 (tgt := 163) rfl rfl (fun _ => ?_) (fun c32 => absurd c31 c32)
            refine AW_g hT cl_X6 hK 88 3 (pc' := 170) (lo' := [some (.ref 36), some (.int d1), some (.int d2), some (.int w3), some (.int w4), some (.int ((nI i) + 1)), some (.int (nI (i / 12))), some (.int (nI (i % 12))), some (.int v30)]) (st' := []) (hp' := wd σ) rfl ?_
            refine AW_goto hT hK 91 (tgt := 63) rfl rfl ?_
            refine AW_msk [true, true, true, true, true, true, false, false, false] (lo' := [some (.ref 36), some (.int d1), some (.int d2), some (.int w3), some (.int w4), some (.int ((nI i) + 1)), none, none, none]) rfl ?_
            refine AW_to (lo' := [some (.ref 36), some (.int d1), some (.int d2), some (.int w3), some (.int w4), some (.int (nI (i + 1))), none, none, none]) (by rw [nI_1]) rfl rfl ?_
            subst h29; skip
            exact ih (i + 1) _ _ (by omega) (fun s' hs' => kx s' ((congrArg (az_it _ n (i + 1)) (by simp only [b_X6_laysFields_63, if_neg c17, if_neg c21, if_neg c25, if_pos c31])).trans hs'))
          · refine AW_g hT cl_X6 hK 79 1 (pc' := 146) (lo' := [some (.ref 36), some (.int d1), some (.int d2), some (.int w3), some (.int w4), some (.int (nI i)), some (.int (nI (i / 12))), some (.int (nI (i % 12))), some (.int v30)]) (st' := [.int (nI i)]) (hp' := wd σ) rfl ?_
            refine AW_goto hT hK 80 (tgt := 150) rfl rfl ?_
            refine AW_g hT cl_X6 hK 82 3 (pc' := 155) (lo' := [some (.ref 36), some (.int d1), some (.int d2), some (.int (nI i)), some (.int w4), some (.int (nI i)), some (.int (nI (i / 12))), some (.int (nI (i % 12))), some (.int v30)]) (st' := [.int w4, .int v30]) (hp' := wd σ) rfl ?_
            refine AW_icmp_le hT hK 85 (tgt := 163) rfl rfl (fun c33 => absurd c33 c31) (fun _ => ?_)
            refine AW_g hT cl_X6 hK 86 1 (pc' := 160) (lo' := [some (.ref 36), some (.int d1), some (.int d2), some (.int (nI i)), some (.int w4), some (.int (nI i)), some (.int (nI (i / 12))), some (.int (nI (i % 12))), some (.int v30)]) (st' := [.int v30]) (hp' := wd σ) rfl ?_
            refine AW_goto hT hK 87 (tgt := 165) rfl rfl ?_
            refine AW_g hT cl_X6 hK 89 2 (pc' := 170) (lo' := [some (.ref 36), some (.int d1), some (.int d2), some (.int (nI i)), some (.int v30), some (.int ((nI i) + 1)), some (.int (nI (i / 12))), some (.int (nI (i % 12))), some (.int v30)]) (st' := []) (hp' := wd σ) rfl ?_
            refine AW_goto hT hK 91 (tgt := 63) rfl rfl ?_
            refine AW_msk [true, true, true, true, true, true, false, false, false] (lo' := [some (.ref 36), some (.int d1), some (.int d2), some (.int (nI i)), some (.int v30), some (.int ((nI i) + 1)), none, none, none]) rfl ?_
            refine AW_to (lo' := [some (.ref 36), some (.int d1), some (.int d2), some (.int (nI i)), some (.int v30), some (.int (nI (i + 1))), none, none, none]) (by rw [nI_1]) rfl rfl ?_
            subst h29; skip
            exact ih (i + 1) _ _ (by omega) (fun s' hs' => kx s' ((congrArg (az_it _ n (i + 1)) (by simp only [b_X6_laysFields_63, if_neg c17, if_neg c21, if_neg c25, if_neg c31])).trans hs'))
theorem ob_found0 (σ : az_S) (d1 d2 : Int32) : (fun s : Int32 × Int32 => 0 ≤ s.2 ∧ (s.1 = (-1) ∨ ∃ k : Nat, k < 144 ∧ s.1 = nI k ∧ k / 12 < k % 12 ∧ ¬ (σ.2.1 41) (k / 12) = 0 ∧ ¬ (σ.2.1 41) (k % 12) = 0)) (az_it (fun ι s => b_X6_laysFields_63 σ d1 d2 ι s.1 s.2) 144 0 ((-1), 0)) := by
  refine az_it_inv (fun s : Int32 × Int32 => 0 ≤ s.2 ∧ (s.1 = (-1) ∨ ∃ k : Nat, k < 144 ∧ s.1 = nI k ∧ k / 12 < k % 12 ∧ ¬ (σ.2.1 41) (k / 12) = 0 ∧ ¬ (σ.2.1 41) (k % 12) = 0)) 144 (fun i s hi hs => ?_) 144 0 _ (by decide) ⟨by decide, Or.inl rfl⟩
  obtain ⟨h0, h1⟩ := hs
  unfold b_X6_laysFields_63
  split
  · skip
    exact ⟨h0, h1⟩
  · split
    · skip
      exact ⟨h0, h1⟩
    · split
      · skip
        exact ⟨h0, h1⟩
      · dsimp only
        split
        · exact ⟨h0, h1⟩
        · rename_i c1 c2 c3 c4
          refine ⟨?_, Or.inr ⟨i, hi, rfl, ?_, c2, c3⟩⟩
          · rw [Int32.le_iff_toInt_le] at h0 c4 ⊢
            dsimp only
            omega
          · rcases Nat.lt_or_ge (i / 12) (i % 12) with q | q
            · exact q
            · exact absurd (nI_le q (by omega)) c1
theorem ob_found {σ : az_S} {d1 d2 : Int32} {s : Int32 × Int32} (h : az_it (fun ι s => b_X6_laysFields_63 σ d1 d2 ι s.1 s.2) 144 0 ((-1), 0) = s) (c : ¬ s.1 = (-1)) :
    vp_in (s.1 / 12) 12 ∧ vp_in (s.1 - s.1 / 12 * 12) 12 ∧ (s.1 / 12).toNatClampNeg ≠ (s.1 - s.1 / 12 * 12).toNatClampNeg ∧ (s.1 - s.1 / 12 * 12).toNatClampNeg < 12 ∧ ¬ (σ.2.1 41) (s.1 / 12).toNatClampNeg = 0 ∧ ¬ (σ.2.1 41) (s.1 - s.1 / 12 * 12).toNatClampNeg = 0 := by
  obtain ⟨-, h2⟩ := ob_found0 σ d1 d2
  rw [h] at h2
  obtain ⟨k, hk, e, h3, h4, h5⟩ := h2.resolve_left c
  have e1 : s.1 / 12 = nI (k / 12) := by
    rw [e]
    exact pk_div (d := 12) (by omega) (by decide) (by decide)
  have e2 : s.1 - s.1 / 12 * 12 = nI (k % 12) := by
    rw [e]
    exact pk_rem (d := 12) (by omega) (by decide) (by decide)
  rw [e2, e1, nI_clamp (by omega), nI_clamp (by omega)]
  exact ⟨vp_in_nI (by omega) (by decide), vp_in_nI (by omega) (by decide), by omega, by omega, h4, h5⟩
theorem ob_less {σ : az_S} {d1 d2 X : Int32} {n : Nat} (c : ¬ (az_it (fun ι s => b_X6_laysFields_63 σ d1 d2 ι s.1 s.2) 144 0 ((-1), 0)).1 = (-1)) (hM : cfn (σ.2.1 41) 12 < n + 1) :
    cfn ((sG (sG σ 41 (va_up (σ.2.1 41) ((az_it (fun ι s => b_X6_laysFields_63 σ d1 d2 ι s.1 s.2) 144 0 ((-1), 0)).1 / 12).toNatClampNeg X)) 41 (va_up ((sG σ 41 (va_up (σ.2.1 41) ((az_it (fun ι s => b_X6_laysFields_63 σ d1 d2 ι s.1 s.2) 144 0 ((-1), 0)).1 / 12).toNatClampNeg X)).2.1 41) ((az_it (fun ι s => b_X6_laysFields_63 σ d1 d2 ι s.1 s.2) 144 0 ((-1), 0)).1 - (az_it (fun ι s => b_X6_laysFields_63 σ d1 d2 ι s.1 s.2) 144 0 ((-1), 0)).1 / 12 * 12).toNatClampNeg 0)).2.1 41) 12 < n := by
  obtain ⟨-, -, hne, hb, ha, hf⟩ := ob_found rfl c
  generalize az_it (fun ι s => b_X6_laysFields_63 σ d1 d2 ι s.1 s.2) 144 0 ((-1), 0) = s at *
  generalize (s.1 / 12).toNatClampNeg = a at *
  generalize (s.1 - s.1 / 12 * 12).toNatClampNeg = b at *
  have h9 := cfn_lt (f := σ.2.1 41) (g := va_up (va_up (σ.2.1 41) a X) b 0) (fun j hj => ?_) hf (by unfold va_up; rw [if_pos rfl]) 12 hb
  · exact Nat.lt_of_lt_of_le h9 (Nat.le_of_lt_succ hM)
  · unfold va_up
    by_cases h1 : j = b
    · rw [if_pos h1]
    · rw [if_neg h1]
      by_cases h2 : j = a
      · rw [h2] at hj
        exact absurd hj ha
      · rw [if_neg h2]
        exact hj
def b_X6_laysFields_51 (d1 : Int32) (i : Nat) (w2 : Int32) (σ : az_S) : Int32 × az_S :=
  let s35 := az_it (fun ι s => b_X6_laysFields_63 σ d1 w2 ι s.1 s.2) 144 0 ((-1), 0)
  if s35.1 = (-1) then
    (0, σ)
  else
    let u40 := (((σ.2.1 41) (s35.1 / 12).toNatClampNeg) ||| ((σ.2.1 41) (s35.1 - s35.1 / 12 * 12).toNatClampNeg))
    (1, (sG (sG σ 41 (va_up (σ.2.1 41) (s35.1 / 12).toNatClampNeg u40)) 41 (va_up ((sG σ 41 (va_up (σ.2.1 41) (s35.1 / 12).toNatClampNeg u40)).2.1 41) (s35.1 - s35.1 / 12 * 12).toNatClampNeg 0)))
theorem kb_X6_laysFields_51 (d1 : Int32) (i : Nat) (w2 : Int32) (σ : az_S) : (b_X6_laysFields_51 d1 i w2 σ).2.1 8 = σ.1 8 := by
  unfold b_X6_laysFields_51
  (try dsimp only)
  (repeat' split) <;> first | (simp [az_k8F, az_k8G, az_k8L]; done) | rfl
theorem kp_X6_laysFields_51 (d1 : Int32) (n i : Nat) (s : Int32 × az_S) : (az_ws (fun s : Int32 × az_S => decide (s.1 = 0)) (fun ι s => b_X6_laysFields_51 d1 ι s.1 s.2) n i s).2.1 8 = s.2.1 8 := az_ws_keep (fun s => s.2.1 8) (fun i s => kb_X6_laysFields_51 d1 i s.1 s.2) n i s
set_option maxRecDepth 100000 in
set_option maxHeartbeats 4000000 in
theorem lp_X6_laysFields_51 {K : az_K} {l0 : Launch} (hT : az_Tb cX6_laysFields tb_X6_laysFields) (hK : az_OK K RX6 cX6_laysFields ({ frames := 4, cells := 0, slots := 0, locals := 87 } : Room) l0) (d1 : Int32) :
    ∀ (n i : Nat) (w2 : Int32) (σ : az_S) (hw : az_wf σ) (hM : w2 = 0 ∨ cfn (σ.2.1 41) 12 < n) (kx : ∀ s' : Int32 × az_S, az_ws (fun s : Int32 × az_S => decide (s.1 = 0)) (fun ι s => b_X6_laysFields_51 d1 ι s.1 s.2) n i (w2, σ) = s' → AW K 0 0 222 [some (.ref 36), some (.int d1), some (.int s'.1), none, none, none, none, none, none] [] (wd s'.2)), AW K 0 0 51 [some (.ref 36), some (.int d1), some (.int w2), none, none, none, none, none, none] [] (wd σ) := by
  intro n
  induction n with
  | zero =>
    intro i w2 σ hw hM kx
    have hw2 := hw.2
    refine AW_g hT cl_X6 hK 30 1 (pc' := 52) (lo' := [some (.ref 36), some (.int d1), some (.int w2), none, none, none, none, none, none]) (st' := [.int w2]) (hp' := wd σ) rfl ?_
    refine AW_if_eq hT hK 31 (tgt := 222) rfl rfl (fun c42 => ?_) (fun c42 => ?_)
    · refine AW_msk [true, true, true, false, false, false, false, false, false] (lo' := [some (.ref 36), some (.int d1), some (.int w2), none, none, none, none, none, none]) rfl ?_
      exact kx (w2, σ) rfl
    · exact absurd (hM.resolve_left c42) (Nat.not_lt_zero _)
  | succ n ih =>
    intro i w2 σ hw hM kx
    have hw2 := hw.2
    refine AW_g hT cl_X6 hK 30 1 (pc' := 52) (lo' := [some (.ref 36), some (.int d1), some (.int w2), none, none, none, none, none, none]) (st' := [.int w2]) (hp' := wd σ) rfl ?_
    refine AW_if_eq hT hK 31 (tgt := 222) rfl rfl (fun c15 => ?_) (fun c15 => ?_)
    · refine AW_msk [true, true, true, false, false, false, false, false, false] (lo' := [some (.ref 36), some (.int d1), some (.int w2), none, none, none, none, none, none]) rfl ?_
      exact kx (w2, σ) (az_ws_st (by simp only [c15, decide_true]))
    refine AW_g hT cl_X6 hK 32 6 (pc' := 63) (lo' := [some (.ref 36), some (.int d1), some (.int w2), some (.int (-1)), some (.int 0), some (.int 0), none, none, none]) (st' := []) (hp' := wd σ) rfl ?_
    refine AW_to (lo' := [some (.ref 36), some (.int d1), some (.int w2), some (.int (-1)), some (.int 0), some (.int (nI 0)), none, none, none]) (rfl) rfl rfl ?_
    refine lp_X6_laysFields_63 hT hK σ d1 w2 hw 144 0 (-1) 0 (by first | rfl | omega) (fun s35 h36 => ?_)
    refine AW_g hT cl_X6 hK 92 2 (pc' := 175) (lo' := [some (.ref 36), some (.int d1), some (.int w2), some (.int s35.1), some (.int s35.2), none, none, none, none]) (st' := [.int (-1), .int s35.1]) (hp' := wd σ) rfl ?_
    refine AW_icmp_eq hT hK 94 (tgt := 182) rfl rfl (fun c37 => ?_) (fun c37 => ?_)
    · refine AW_g hT cl_X6 hK 97 3 (pc' := 185) (lo' := [some (.ref 36), some (.int d1), some (.int 0), some (.int s35.1), some (.int s35.2), none, none, none, none]) (st' := [.int 0]) (hp' := wd σ) rfl ?_
      refine AW_if_eq hT hK 100 (tgt := 219) rfl rfl (fun _ => ?_) (fun c38 => absurd (by decide) c38)
      refine AW_goto hT hK 123 (tgt := 51) rfl rfl ?_
      refine AW_msk [true, true, true, false, false, false, false, false, false] (lo' := [some (.ref 36), some (.int d1), some (.int 0), none, none, none, none, none, none]) rfl ?_
      refine AW_to (lo' := [some (.ref 36), some (.int d1), some (.int 0), none, none, none, none, none, none]) (rfl) rfl rfl ?_
      subst h36; skip
      exact ih (i + 1) _ _  hw (by first | exact Or.inl rfl | exact Or.inr (ob_less c37 (hM.resolve_left c15))) (fun s' hs' => kx s' ((az_ws_go (by simp only [c15, decide_false])).trans ((congrArg (az_ws (fun s : Int32 × az_S => decide (s.1 = 0)) _ n (i + 1)) (by simp only [b_X6_laysFields_51, if_pos c37])).trans hs')))
    · refine AW_g hT cl_X6 hK 95 1 (pc' := 179) (lo' := [some (.ref 36), some (.int d1), some (.int w2), some (.int s35.1), some (.int s35.2), none, none, none, none]) (st' := [.int 1]) (hp' := wd σ) rfl ?_
      refine AW_goto hT hK 96 (tgt := 183) rfl rfl ?_
      refine AW_g hT cl_X6 hK 98 2 (pc' := 185) (lo' := [some (.ref 36), some (.int d1), some (.int 1), some (.int s35.1), some (.int s35.2), none, none, none, none]) (st' := [.int 1]) (hp' := wd σ) rfl ?_
      refine AW_if_eq hT hK 100 (tgt := 219) rfl rfl (fun c39 => absurd c39 (by decide)) (fun _ => ?_)
      refine AW_g hT cl_X6 hK 101 4 (pc' := 195) (lo' := [some (.ref 36), some (.int d1), some (.int 1), some (.int s35.1), some (.int s35.2), none, none, none, none]) (st' := [.int 12, .int s35.1, .ref 41]) (hp' := wd σ) rfl ?_
      refine AW_idiv hT hK 105 rfl (by decide) ?_
      refine AW_g hT cl_X6 hK 106 1 (pc' := 197) (lo' := [some (.ref 36), some (.int d1), some (.int 1), some (.int s35.1), some (.int s35.2), none, none, none, none]) (st' := [.int (s35.1 / 12), .ref 41, .int (s35.1 / 12), .ref 41]) (hp' := wd σ) rfl ?_
      refine AW_ialdx hT hK 107 rfl (n := 12) (f := (σ.2.1 41)) rfl ((ob_found h36 c37).1) ?_
      refine AW_g hT cl_X6 hK 108 4 (pc' := 205) (lo' := [some (.ref 36), some (.int d1), some (.int 1), some (.int s35.1), some (.int s35.2), none, none, none, none]) (st' := [.int 12, .int s35.1, .ref 41, .int ((σ.2.1 41) (s35.1 / 12).toNatClampNeg), .int (s35.1 / 12), .ref 41]) (hp' := wd σ) rfl ?_
      refine AW_irem hT hK 112 rfl (by decide) ?_
      refine AW_ialdx hT hK 113 rfl (n := 12) (f := (σ.2.1 41)) rfl ((ob_found h36 c37).2.1) ?_
      refine AW_g hT cl_X6 hK 114 1 (pc' := 208) (lo' := [some (.ref 36), some (.int d1), some (.int 1), some (.int s35.1), some (.int s35.2), none, none, none, none]) (st' := [.int (((σ.2.1 41) (s35.1 / 12).toNatClampNeg) ||| ((σ.2.1 41) (s35.1 - s35.1 / 12 * 12).toNatClampNeg)), .int (s35.1 / 12), .ref 41]) (hp' := wd σ) rfl ?_
      refine AW_topi (fun u40 h41 => ?_)
      refine AW_iastvx hT hK 115 rfl (n := 12) (f := (σ.2.1 41)) rfl ((ob_found h36 c37).1) ?_
      refine AW_to (hp' := wd (sG σ 41 (va_up (σ.2.1 41) (s35.1 / 12).toNatClampNeg u40))) rfl rfl (wd_41 _ _) ?_
      refine AW_g hT cl_X6 hK 116 4 (pc' := 216) (lo' := [some (.ref 36), some (.int d1), some (.int 1), some (.int s35.1), some (.int s35.2), none, none, none, none]) (st' := [.int 12, .int s35.1, .ref 41]) (hp' := wd (sG σ 41 (va_up (σ.2.1 41) (s35.1 / 12).toNatClampNeg u40))) rfl ?_
      refine AW_irem hT hK 120 rfl (by decide) ?_
      refine AW_g hT cl_X6 hK 121 1 (pc' := 218) (lo' := [some (.ref 36), some (.int d1), some (.int 1), some (.int s35.1), some (.int s35.2), none, none, none, none]) (st' := [.int 0, .int (s35.1 - s35.1 / 12 * 12), .ref 41]) (hp' := wd (sG σ 41 (va_up (σ.2.1 41) (s35.1 / 12).toNatClampNeg u40))) rfl ?_
      refine AW_iastvx hT hK 122 rfl (n := 12) (f := ((sG σ 41 (va_up (σ.2.1 41) (s35.1 / 12).toNatClampNeg u40)).2.1 41)) rfl ((ob_found h36 c37).2.1) ?_
      refine AW_to (hp' := wd (sG (sG σ 41 (va_up (σ.2.1 41) (s35.1 / 12).toNatClampNeg u40)) 41 (va_up ((sG σ 41 (va_up (σ.2.1 41) (s35.1 / 12).toNatClampNeg u40)).2.1 41) (s35.1 - s35.1 / 12 * 12).toNatClampNeg 0))) rfl rfl (wd_41 _ _) ?_
      refine AW_goto hT hK 123 (tgt := 51) rfl rfl ?_
      refine AW_msk [true, true, true, false, false, false, false, false, false] (lo' := [some (.ref 36), some (.int d1), some (.int 1), none, none, none, none, none, none]) rfl ?_
      refine AW_to (lo' := [some (.ref 36), some (.int d1), some (.int 1), none, none, none, none, none, none]) (rfl) rfl rfl ?_
      subst h41; subst h36; skip
      exact ih (i + 1) _ _  hw (by first | exact Or.inl rfl | exact Or.inr (ob_less c37 (hM.resolve_left c15))) (fun s' hs' => kx s' ((az_ws_go (by simp only [c15, decide_false])).trans ((congrArg (az_ws (fun s : Int32 × az_S => decide (s.1 = 0)) _ n (i + 1)) (by simp only [b_X6_laysFields_51, if_neg c37])).trans hs')))
def x_X6_laysFields (σ : az_S) : az_S :=
  let q2 := x_X6_totalNow σ
  let s11 := az_it (fun ι s => b_X6_laysFields_7 q2.1 ι s) 12 0 q2.2
  let s43 := az_ws (fun s : Int32 × az_S => decide (s.1 = 0)) (fun ι s => b_X6_laysFields_51 q2.1 ι s.1 s.2) 13 0 (1, s11)
  s43.2
set_option maxRecDepth 100000 in
set_option maxHeartbeats 4000000 in
theorem m_X6_laysFields (l0 : Launch) (σ : az_S) (hw : az_wf σ) : AMet l0 yX6_laysFields cX6_laysFields 9 none ({ frames := 4, cells := 0, slots := 0, locals := 87 } : Room) false [.ref 36] (wd σ) (fun r h => r = none ∧ h = wd (x_X6_laysFields σ)) := by
  refine AMet_of (by decide +kernel) (by simp [Value.category]) (Nat.le_of_ble_eq_true rfl) (fun K hK hct hG hE => ?_)
  have hT := tt_X6_laysFields
  have hw2 := hw.2
  refine AW_g hT cl_X6 hK 0 1 (pc' := 1) (lo' := [some (.ref 36), none, none, none, none, none, none, none, none]) (st' := [.ref 36]) (hp' := wd σ) rfl ?_
  refine AW_callV hT hK 1 [] [] (m_X6_totalNow l0 σ (hw)) cw_X6_totalNow lk_X6_78 vi_X6_totalNow rfl rfl rfl rfl rfl rfl (Nat.le_of_ble_eq_true rfl) (Nat.le_of_ble_eq_true rfl) (AW_kiw (fun q2 h1 => ?_))
  have hn4 : nn q2.2 = nn σ := by rw [← h1]; exact (az_nn_of (kp_X6_totalNow _)).trans rfl
  have hw3 : az_wf q2.2 := by rw [← h1]; exact az_wf_of (kp_X6_totalNow _) hw
  refine AW_g hT cl_X6 hK 2 3 (pc' := 7) (lo' := [some (.ref 36), some (.int q2.1), some (.int 0), none, none, none, none, none, none]) (st' := []) (hp' := wd q2.2) rfl ?_
  refine AW_to (lo' := [some (.ref 36), some (.int q2.1), some (.int (nI 0)), none, none, none, none, none, none]) (rfl) rfl rfl ?_
  refine lp_X6_laysFields_7 hT hK q2.1 12 0 q2.2 (by first | rfl | omega) hw3 (fun s11 h12 => ?_)
  have hn14 : nn s11 = nn σ := by rw [← h12]; exact (az_nn_of (kp_X6_laysFields_7 _ _ _ _)).trans hn4
  have hw13 : az_wf s11 := by rw [← h12]; exact az_wf_of (kp_X6_laysFields_7 _ _ _ _) hw3
  refine AW_g hT cl_X6 hK 28 2 (pc' := 51) (lo' := [some (.ref 36), some (.int q2.1), some (.int 1), none, none, none, none, none, none]) (st' := []) (hp' := wd s11) rfl ?_
  refine AW_to (lo' := [some (.ref 36), some (.int q2.1), some (.int 1), none, none, none, none, none, none]) (rfl) rfl rfl ?_
  refine lp_X6_laysFields_51 hT hK q2.1 13 0 1 s11  hw13 (Or.inr (Nat.lt_of_le_of_lt (cfn_all _ 12) (by decide))) (fun s43 h44 => ?_)
  have hn46 : nn s43.2 = nn σ := by rw [← h44]; exact (az_nn_of (kp_X6_laysFields_51 _ _ _ _)).trans hn14
  have hw45 : az_wf s43.2 := by rw [← h44]; exact az_wf_of (kp_X6_laysFields_51 _ _ _ _) hw13
  refine AW_vret hT hE 124 rfl (Nat.le_of_ble_eq_true rfl) (Nat.le_of_ble_eq_true rfl) ?_
  subst h44; subst h12; subst h1; exact ⟨rfl, congrArg wd (by simp only [x_X6_laysFields])⟩
theorem kp_X6_laysFields (σ : az_S) : (x_X6_laysFields σ).1 8 = σ.1 8 := by
  unfold x_X6_laysFields
  (try dsimp only)
  (repeat' split) <;> first | (simp [az_k8F, az_k8G, az_k8L, kp_X6_laysFields_51, kp_X6_laysFields_7, kp_X6_totalNow]; done) | rfl
end AZP
