section AZP
def b_X6_next_9 (σ : az_S) (d1 : Int32) (pp : Nat) (n : Nat) (w2 : Int32) : Int32 :=
  if ((((σ.2.1 39) (pp + n + 1)) >>> (d1 &&& 31)) &&& 1) = 1 then
    if (lg_cmp (((((σ.2.1 42) d1.toNatClampNeg).toInt64) * (((σ.2.1 43) (pp + n + 1)).toInt64)) + ((σ.2.2 44) (pp + n + 1))) ((σ.2.2 44) d1.toNatClampNeg)) = 0 then
      (nI (pp + n + 1))
    else
      w2
  else
    w2
set_option maxRecDepth 100000 in
set_option maxHeartbeats 4000000 in
theorem lp_X6_next_9 {K : az_K} {l0 : Launch} (hT : az_Tb cX6_next tb_X6_next) (hK : az_OK K RX6 cX6_next ({ frames := 0, cells := 0, slots := 0, locals := 0 } : Room) l0) (σ : az_S) (d1 : Int32) (pp : Nat) (hpp : d1 = nI pp) (hq : vp_in d1 12) (hw : az_wf σ) :
    ∀ (n : Nat) (w2 : Int32) (hi : pp + n + 1 ≤ nn σ) (kx : ∀ s' : Int32, az_dn (fun ι s => b_X6_next_9 σ d1 pp ι s) n w2 = s' → AW K 0 0 84 [some (.ref 36), some (.int d1), some (.int s'), none, none] [] (wd σ)), AW K 0 0 9 [some (.ref 36), some (.int d1), some (.int w2), some (.int (nI (pp + n))), none] [] (wd σ) := by
  intro n
  induction n with
  | zero =>
    intro w2 hi kx
    have hw2 := hw.2
    refine AW_g hT cl_X6 hK 7 2 (pc' := 11) (lo' := [some (.ref 36), some (.int d1), some (.int w2), some (.int (nI (pp + 0))), none]) (st' := [.int d1, .int (nI (pp + 0))]) (hp' := wd σ) rfl ?_
    refine AW_icmp_le hT hK 9 (tgt := 84) rfl rfl (fun c7 => ?_) (fun c7 => absurd (az_o0 hpp) c7)
    refine AW_msk [true, true, true, false, false] (lo' := [some (.ref 36), some (.int d1), some (.int w2), none, none]) rfl ?_
    exact kx w2 rfl
  | succ n ih =>
    intro w2 hi kx
    have hw2 := hw.2
    refine AW_to (lo' := [some (.ref 36), some (.int d1), some (.int w2), some (.int (nI (pp + n + 1))), none]) (rfl) rfl rfl ?_
    refine AW_g hT cl_X6 hK 7 2 (pc' := 11) (lo' := [some (.ref 36), some (.int d1), some (.int w2), some (.int (nI (pp + n + 1))), none]) (st' := [.int d1, .int (nI (pp + n + 1))]) (hp' := wd σ) rfl ?_
    refine AW_icmp_le hT hK 9 (tgt := 84) rfl rfl (fun c1 => absurd c1 (az_o1 hpp (by omega))) (fun c1 => ?_)
    refine AW_g hT cl_X6 hK 10 3 (pc' := 19) (lo' := [some (.ref 36), some (.int d1), some (.int w2), some (.int (nI (pp + n + 1))), none]) (st' := [.int (nI (pp + n + 1)), .ref 39]) (hp' := wd σ) rfl ?_
    refine AW_iald hT hK 13 (pp + n + 1) rfl (n := 12) (f := (σ.2.1 39)) rfl rfl (by omega) (by decide) ?_
    refine AW_g hT cl_X6 hK 14 5 (pc' := 25) (lo' := [some (.ref 36), some (.int d1), some (.int w2), some (.int (nI (pp + n + 1))), none]) (st' := [.int 1, .int ((((σ.2.1 39) (pp + n + 1)) >>> (d1 &&& 31)) &&& 1)]) (hp' := wd σ) rfl ?_
    refine AW_icmp_ne hT hK 19 (tgt := 64) rfl rfl (fun c2 => ?_) (fun c2 => ?_)
    · refine AW_g hT cl_X6 hK 44 3 (pc' := 69) (lo' := [some (.ref 36), some (.int d1), some (.int w2), some (.int (nI (pp + n + 1))), some (.int 0)]) (st' := [.int 0]) (hp' := wd σ) rfl ?_
      refine AW_if_eq hT hK 47 (tgt := 76) rfl rfl (fun _ => ?_) (fun c3 => absurd (by decide) c3)
      refine AW_g hT cl_X6 hK 50 3 (pc' := 81) (lo' := [some (.ref 36), some (.int d1), some (.int w2), some (.int ((nI (pp + n + 1)) + (-1))), some (.int 0)]) (st' := []) (hp' := wd σ) rfl ?_
      refine AW_goto hT hK 53 (tgt := 9) rfl rfl ?_
      refine AW_msk [true, true, true, true, false] (lo' := [some (.ref 36), some (.int d1), some (.int w2), some (.int ((nI (pp + n + 1)) + (-1))), none]) rfl ?_
      refine AW_to (lo' := [some (.ref 36), some (.int d1), some (.int w2), some (.int (nI (pp + n))), none]) (by rw [pk_m1]) rfl rfl ?_
      exact ih _ (by omega) (fun s' hs' => kx s' ((congrArg (az_dn _ n) (by simp only [b_X6_next_9, if_neg c2])).trans hs'))
    · refine AW_g hT cl_X6 hK 20 3 (pc' := 33) (lo' := [some (.ref 36), some (.int d1), some (.int w2), some (.int (nI (pp + n + 1))), none]) (st' := [.int d1, .ref 42]) (hp' := wd σ) rfl ?_
      refine AW_ialdx hT hK 23 rfl (n := 12) (f := (σ.2.1 42)) rfl (hq) ?_
      refine AW_g hT cl_X6 hK 24 4 (pc' := 40) (lo' := [some (.ref 36), some (.int d1), some (.int w2), some (.int (nI (pp + n + 1))), none]) (st' := [.int (nI (pp + n + 1)), .ref 43, .long (((σ.2.1 42) d1.toNatClampNeg).toInt64)]) (hp' := wd σ) rfl ?_
      refine AW_iald hT hK 28 (pp + n + 1) rfl (n := 12) (f := (σ.2.1 43)) rfl rfl (by omega) (by decide) ?_
      refine AW_g hT cl_X6 hK 29 5 (pc' := 48) (lo' := [some (.ref 36), some (.int d1), some (.int w2), some (.int (nI (pp + n + 1))), none]) (st' := [.int (nI (pp + n + 1)), .ref 44, .long ((((σ.2.1 42) d1.toNatClampNeg).toInt64) * (((σ.2.1 43) (pp + n + 1)).toInt64))]) (hp' := wd σ) rfl ?_
      refine AW_lald hT hK 34 (pp + n + 1) rfl (n := 12) (f := (σ.2.2 44)) rfl rfl (by omega) (by decide) ?_
      refine AW_g hT cl_X6 hK 35 4 (pc' := 55) (lo' := [some (.ref 36), some (.int d1), some (.int w2), some (.int (nI (pp + n + 1))), none]) (st' := [.int d1, .ref 44, .long (((((σ.2.1 42) d1.toNatClampNeg).toInt64) * (((σ.2.1 43) (pp + n + 1)).toInt64)) + ((σ.2.2 44) (pp + n + 1)))]) (hp' := wd σ) rfl ?_
      refine AW_laldx hT hK 39 rfl (n := 12) (f := (σ.2.2 44)) rfl (hq) ?_
      refine AW_g hT cl_X6 hK 40 1 (pc' := 57) (lo' := [some (.ref 36), some (.int d1), some (.int w2), some (.int (nI (pp + n + 1))), none]) (st' := [.int (lg_cmp (((((σ.2.1 42) d1.toNatClampNeg).toInt64) * (((σ.2.1 43) (pp + n + 1)).toInt64)) + ((σ.2.2 44) (pp + n + 1))) ((σ.2.2 44) d1.toNatClampNeg))]) (hp' := wd σ) rfl ?_
      refine AW_if_ne hT hK 41 (tgt := 64) rfl rfl (fun c4 => ?_) (fun c4 => ?_)
      · refine AW_g hT cl_X6 hK 44 3 (pc' := 69) (lo' := [some (.ref 36), some (.int d1), some (.int w2), some (.int (nI (pp + n + 1))), some (.int 0)]) (st' := [.int 0]) (hp' := wd σ) rfl ?_
        refine AW_if_eq hT hK 47 (tgt := 76) rfl rfl (fun _ => ?_) (fun c5 => absurd (by decide) c5)
        refine AW_g hT cl_X6 hK 50 3 (pc' := 81) (lo' := [some (.ref 36), some (.int d1), some (.int w2), some (.int ((nI (pp + n + 1)) + (-1))), some (.int 0)]) (st' := []) (hp' := wd σ) rfl ?_
        refine AW_goto hT hK 53 (tgt := 9) rfl rfl ?_
        refine AW_msk [true, true, true, true, false] (lo' := [some (.ref 36), some (.int d1), some (.int w2), some (.int ((nI (pp + n + 1)) + (-1))), none]) rfl ?_
        refine AW_to (lo' := [some (.ref 36), some (.int d1), some (.int w2), some (.int (nI (pp + n))), none]) (by rw [pk_m1]) rfl rfl ?_
        exact ih _ (by omega) (fun s' hs' => kx s' ((congrArg (az_dn _ n) (by simp only [b_X6_next_9, if_pos c2, if_neg c4])).trans hs'))
      · refine AW_g hT cl_X6 hK 42 1 (pc' := 61) (lo' := [some (.ref 36), some (.int d1), some (.int w2), some (.int (nI (pp + n + 1))), none]) (st' := [.int 1]) (hp' := wd σ) rfl ?_
        refine AW_goto hT hK 43 (tgt := 65) rfl rfl ?_
        refine AW_g hT cl_X6 hK 45 2 (pc' := 69) (lo' := [some (.ref 36), some (.int d1), some (.int w2), some (.int (nI (pp + n + 1))), some (.int 1)]) (st' := [.int 1]) (hp' := wd σ) rfl ?_
        refine AW_if_eq hT hK 47 (tgt := 76) rfl rfl (fun c6 => absurd c6 (by decide)) (fun _ => ?_)
        refine AW_g hT cl_X6 hK 48 1 (pc' := 73) (lo' := [some (.ref 36), some (.int d1), some (.int w2), some (.int (nI (pp + n + 1))), some (.int 1)]) (st' := [.int (nI (pp + n + 1))]) (hp' := wd σ) rfl ?_
        refine AW_goto hT hK 49 (tgt := 77) rfl rfl ?_
        refine AW_g hT cl_X6 hK 51 2 (pc' := 81) (lo' := [some (.ref 36), some (.int d1), some (.int (nI (pp + n + 1))), some (.int ((nI (pp + n + 1)) + (-1))), some (.int 1)]) (st' := []) (hp' := wd σ) rfl ?_
        refine AW_goto hT hK 53 (tgt := 9) rfl rfl ?_
        refine AW_msk [true, true, true, true, false] (lo' := [some (.ref 36), some (.int d1), some (.int (nI (pp + n + 1))), some (.int ((nI (pp + n + 1)) + (-1))), none]) rfl ?_
        refine AW_to (lo' := [some (.ref 36), some (.int d1), some (.int (nI (pp + n + 1))), some (.int (nI (pp + n))), none]) (by rw [pk_m1]) rfl rfl ?_
        exact ih _ (by omega) (fun s' hs' => kx s' ((congrArg (az_dn _ n) (by simp only [b_X6_next_9, if_pos c2, if_pos c4])).trans hs'))
def x_X6_next (σ : az_S) (p0 : Int32) : Int32 :=
  let s8 := az_dn (fun ι s => b_X6_next_9 σ p0 p0.toNatClampNeg ι s) (nn σ - 1 - p0.toNatClampNeg) (-1)
  s8
set_option maxRecDepth 100000 in
set_option maxHeartbeats 4000000 in
theorem m_X6_next (l0 : Launch) (σ : az_S) (p0 : Int32) (hp : vp_in p0 (nn σ)) (hw : az_wf σ) : AMet l0 yX6_next cX6_next 5 (some .int) ({ frames := 0, cells := 0, slots := 0, locals := 0 } : Room) false [.ref 36, .int p0] (wd σ) (fun r h => r = some (.int (x_X6_next σ p0)) ∧ h = wd σ) := by
  refine AMet_of (by decide +kernel) (by simp [Value.category]) (Nat.le_of_ble_eq_true rfl) (fun K hK hct hG hE => ?_)
  have hT := tt_X6_next
  have hw2 := hw.2
  have hp2 := (az_vp hp hw.2).2.1
  refine AW_g hT cl_X6 hK 0 7 (pc' := 9) (lo' := [some (.ref 36), some (.int p0), some (.int (-1)), some (.int ((σ.1 8) - 1)), none]) (st' := []) (hp' := wd σ) rfl ?_
  refine AW_to (lo' := [some (.ref 36), some (.int p0), some (.int (-1)), some (.int (nI (p0.toNatClampNeg + (nn σ - 1 - p0.toNatClampNeg)))), none]) (by rw [show σ.1 8 = nI (nn σ) from (hw).1.trans (congrArg nI (rfl)), az_off (by omega)]) rfl rfl ?_
  refine lp_X6_next_9 hT hK σ p0 p0.toNatClampNeg ((az_vp hp hw.2).1) ((az_vp hp hw.2).2.2) hw (nn σ - 1 - p0.toNatClampNeg) (-1) (by have h9 : nn σ = nn σ := rfl; omega) (fun s8 h9 => ?_)
  refine AW_g hT cl_X6 hK 54 1 (pc' := 85) (lo' := [some (.ref 36), some (.int p0), some (.int s8), none, none]) (st' := [.int s8]) (hp' := wd σ) rfl ?_
  refine AW_iret hT hE 55 rfl rfl rfl (Nat.le_of_ble_eq_true rfl) (Nat.le_of_ble_eq_true rfl) ?_
  subst h9; exact ⟨by simp only [x_X6_next], rfl⟩
end AZP
