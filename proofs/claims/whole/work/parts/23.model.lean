section AZP
/-- divisor: the greatest common one -/
def x_X6_divisor (_ : az_S) (p0 p1 : Int32) : Int32 := nI (Nat.gcd p0.toNatClampNeg p1.toNatClampNeg)
set_option maxRecDepth 100000 in
set_option maxHeartbeats 4000000 in
theorem lp_divisor {K : az_K} {l0 : Launch} (hT : az_Tb cX6_divisor tb_X6_divisor) (hK : az_OK K RX6 cX6_divisor ({ frames := 0, cells := 0, slots := 0, locals := 0 } : Room) l0) (σ : az_S) (p0 p1 : Int32) :
    ∀ (n y x : Nat) (hy : y ≤ n) (hx2 : x < 2 ^ 31) (hy2 : y < 2 ^ 31) (kx : AW K 0 0 21 [some (.int p0), some (.int p1), some (.int (nI (Nat.gcd x y))), none, none] [] (wd σ)), AW K 0 0 4 [some (.int p0), some (.int p1), some (.int (nI x)), some (.int (nI y)), none] [] (wd σ) := by
  have hex : ∀ x : Nat, AW K 0 0 21 [some (.int p0), some (.int p1), some (.int (nI (Nat.gcd x 0))), none, none] [] (wd σ) → AW K 0 0 4 [some (.int p0), some (.int p1), some (.int (nI x)), some (.int (nI 0)), none] [] (wd σ) := by
    intro x kx
    refine AW_g hT cl_X6 hK 4 1 (pc' := 5) (lo' := [some (.int p0), some (.int p1), some (.int (nI x)), some (.int (nI 0)), none]) (st' := [.int (nI 0)]) (hp' := wd σ) rfl ?_
    refine AW_if_le hT hK 5 (tgt := 21) rfl rfl (fun c => ?_) (fun c => absurd (by decide) c)
    refine AW_msk [true, true, true, false, false] (lo' := [some (.int p0), some (.int p1), some (.int (nI x)), none, none]) rfl ?_
    rw [Nat.gcd_zero_right] at kx
    exact kx
  intro n
  induction n with
  | zero =>
    intro y x hy hx2 hy2 kx
    have : y = 0 := by omega
    subst this
    exact hex x kx
  | succ n ih =>
    intro y x hy hx2 hy2 kx
    by_cases h0 : y = 0
    · subst h0
      exact hex x kx
    · refine AW_g hT cl_X6 hK 4 1 (pc' := 5) (lo' := [some (.int p0), some (.int p1), some (.int (nI x)), some (.int (nI y)), none]) (st' := [.int (nI y)]) (hp' := wd σ) rfl ?_
      refine AW_if_le hT hK 5 (tgt := 21) rfl rfl (fun c => absurd c (nI_nle (by omega) hy2)) (fun c => ?_)
      refine AW_g hT cl_X6 hK 6 2 (pc' := 10) (lo' := [some (.int p0), some (.int p1), some (.int (nI x)), some (.int (nI y)), none]) (st' := [.int (nI y), .int (nI x)]) (hp' := wd σ) rfl ?_
      refine AW_iremN hT hK 8 x y rfl rfl rfl hx2 (by omega) hy2 ?_
      refine AW_g hT cl_X6 hK 9 5 (pc' := 18) (lo' := [some (.int p0), some (.int p1), some (.int (nI y)), some (.int (nI (x % y))), some (.int (nI (x % y)))]) (st' := []) (hp' := wd σ) rfl ?_
      refine AW_goto hT hK 14 (tgt := 4) rfl rfl ?_
      refine AW_msk [true, true, true, true, false] (lo' := [some (.int p0), some (.int p1), some (.int (nI y)), some (.int (nI (x % y))), none]) rfl ?_
      have hm : x % y < y := Nat.mod_lt _ (by omega)
      refine ih (x % y) y (by omega) hy2 (by omega) ?_
      have e : Nat.gcd y (x % y) = Nat.gcd x y := by
        rw [Nat.gcd_comm y (x % y), ← Nat.gcd_rec, Nat.gcd_comm]
      rw [e]
      exact kx
theorem m_X6_divisor (l0 : Launch) (σ : az_S) (p0 p1 : Int32) (ha : p0 = nI p0.toNatClampNeg ∧ p0.toNatClampNeg < 2 ^ 31) (hb : p1 = nI p1.toNatClampNeg ∧ p1.toNatClampNeg < 2 ^ 31) (_ : az_wf σ) : AMet l0 yX6_divisor cX6_divisor 5 (some .int) ({ frames := 0, cells := 0, slots := 0, locals := 0 } : Room) false [.int p0, .int p1] (wd σ) (fun r h => r = some (.int (x_X6_divisor σ p0 p1)) ∧ h = wd σ) := by
  refine AMet_of (by decide +kernel) (by simp [Value.category]) (Nat.le_of_ble_eq_true rfl) (fun K hK hct hG hE => ?_)
  have hT := tt_X6_divisor
  refine AW_g hT cl_X6 hK 0 4 (pc' := 4) (lo' := [some (.int p0), some (.int p1), some (.int p0), some (.int p1), none]) (st' := []) (hp' := wd σ) rfl ?_
  refine AW_to (lo' := [some (.int p0), some (.int p1), some (.int (nI p0.toNatClampNeg)), some (.int (nI p1.toNatClampNeg)), none]) (by rw [← ha.1, ← hb.1]) rfl rfl ?_
  refine lp_divisor hT hK σ p0 p1 _ _ _ (Nat.le_refl _) ha.2 hb.2 ?_
  refine AW_g hT cl_X6 hK 15 1 (pc' := 22) (lo' := [some (.int p0), some (.int p1), some (.int (nI (Nat.gcd p0.toNatClampNeg p1.toNatClampNeg))), none, none]) (st' := [.int (nI (Nat.gcd p0.toNatClampNeg p1.toNatClampNeg))]) (hp' := wd σ) rfl ?_
  exact AW_iret hT hE 16 rfl rfl rfl (Nat.le_of_ble_eq_true rfl) (Nat.le_of_ble_eq_true rfl) ⟨rfl, rfl⟩
theorem ob_bit1 (x : Int32) : ∃ j : Nat, j < 2 ∧ x &&& 1 = nI j := pk_andE x (m := 1) 1 (by decide)
theorem ob_count {σ : az_S} {s v : Int32} (h : x_X6_count σ s = v) : ∃ k : Nat, k ≤ 12 ∧ v = nI k := by
  subst h
  unfold x_X6_count
  dsimp only
  refine az_it_invi (fun i v => ∃ k : Nat, k ≤ i ∧ v = nI k) 12 (fun i v hi hv => ?_) 12 0 0 rfl ⟨0, Nat.le_refl _, rfl⟩
  obtain ⟨k, hk, rfl⟩ := hv
  unfold b_X6_count_4
  obtain ⟨j, hj, e⟩ := ob_bit1 (s >>> (nI i &&& 31))
  rw [e, nI_add]
  exact ⟨k + j, by omega, rfl⟩
theorem ob_mul {a b : Int32} (ha : ∃ k : Nat, k ≤ 12 ∧ a = nI k) (hb : ∃ k : Nat, k ≤ 12 ∧ b = nI k) : a * b = nI (a * b).toNatClampNeg ∧ (a * b).toNatClampNeg < 2 ^ 31 := by
  obtain ⟨x, hx, rfl⟩ := ha
  obtain ⟨y, hy, rfl⟩ := hb
  have h : x * y ≤ 12 * 12 := Nat.mul_le_mul hx hy
  rw [pk_mul, nI_clamp (by omega)]
  exact ⟨rfl, by omega⟩
theorem ob_gcd {σ : az_S} {a b v : Int32} (h : x_X6_divisor σ a b = v) (ha : a = nI a.toNatClampNeg ∧ a.toNatClampNeg < 2 ^ 31) (c : ¬ a = 0) : ¬ v = 0 := by
  subst h
  have h0 : 0 < a.toNatClampNeg := by
    rcases Nat.eq_zero_or_pos a.toNatClampNeg with q | q
    · rw [q] at ha
      exact absurd ha.1 c
    · exact q
  have h1 := Nat.gcd_le_left b.toNatClampNeg h0
  have h2 := Nat.gcd_pos_of_pos_left b.toNatClampNeg h0
  exact nI_ne0 h2 (by omega)
def b_X6_next_9 (σ : az_S) (d1 : Int32) (pp : Nat) (n : Nat) (w2 : Int32) : Int32 :=
  if ((((σ.2.1 39) (pp + n + 1)) >>> (d1 &&& 31)) &&& 1) = 1 then
    if (lg_cmp (((((σ.2.1 42) d1.toNatClampNeg).toInt64) * (((σ.2.1 43) (pp + n + 1)).toInt64)) + ((σ.2.2 44) (pp + n + 1))) ((σ.2.2 44) d1.toNatClampNeg)) = 0 then
      (nI (pp + n + 1))
    else
      w2
  else
    w2
set_option maxRecDepth 100000 in
set_option maxHeartbeats 4000000 in
theorem lp_X6_next_9 {K : az_K} {l0 : Launch} (hT : az_Tb cX6_next tb_X6_next) (hK : az_OK K RX6 cX6_next ({ frames := 0, cells := 0, slots := 0, locals := 0 } : Room) l0) (σ : az_S) (d1 : Int32) (pp : Nat) (hpp : d1 = nI pp) (hq : vp_in d1 12) (hw : az_wf σ) :
    ∀ (n : Nat) (w2 : Int32) (hi : pp + n + 1 ≤ nn σ) (kx : ∀ s' : Int32, az_dn (fun ι s => b_X6_next_9 σ d1 pp ι s) n w2 = s' → AW K 0 0 84 [some (.ref 36), some (.int d1), some (.int s'), none, none] [] (wd σ)), AW K 0 0 9 [some (.ref 36), some (.int d1), some (.int w2), some (.int (nI (pp + n))), none] [] (wd σ) := by
  intro n
  induction n with
  | zero =>
    intro w2 hi kx
    have hw2 := hw.2
    refine AW_g hT cl_X6 hK 7 2 (pc' := 11) (lo' := [some (.ref 36), some (.int d1), some (.int w2), some (.int (nI (pp + 0))), none]) (st' := [.int d1, .int (nI (pp + 0))]) (hp' := wd σ) rfl ?_
    refine AW_icmp_le hT hK 9 (tgt := 84) rfl rfl (fun c7 => ?_) (fun c7 => absurd (az_o0 hpp) c7)
    refine AW_msk [true, true, true, false, false] (lo' := [some (.ref 36), some (.int d1), some (.int w2), none, none]) rfl ?_
    exact kx w2 rfl
  | succ n ih =>
    intro w2 hi kx
    have hw2 := hw.2
    refine AW_to (lo' := [some (.ref 36), some (.int d1), some (.int w2), some (.int (nI (pp + n + 1))), none]) (rfl) rfl rfl ?_
    refine AW_g hT cl_X6 hK 7 2 (pc' := 11) (lo' := [some (.ref 36), some (.int d1), some (.int w2), some (.int (nI (pp + n + 1))), none]) (st' := [.int d1, .int (nI (pp + n + 1))]) (hp' := wd σ) rfl ?_
    refine AW_icmp_le hT hK 9 (tgt := 84) rfl rfl (fun c1 => absurd c1 (az_o1 hpp (by omega))) (fun c1 => ?_)
    refine AW_g hT cl_X6 hK 10 3 (pc' := 19) (lo' := [some (.ref 36), some (.int d1), some (.int w2), some (.int (nI (pp + n + 1))), none]) (st' := [.int (nI (pp + n + 1)), .ref 39]) (hp' := wd σ) rfl ?_
    refine AW_iald hT hK 13 (pp + n + 1) rfl (n := 12) (f := (σ.2.1 39)) rfl rfl (by omega) (by decide) ?_
    refine AW_g hT cl_X6 hK 14 5 (pc' := 25) (lo' := [some (.ref 36), some (.int d1), some (.int w2), some (.int (nI (pp + n + 1))), none]) (st' := [.int 1, .int ((((σ.2.1 39) (pp + n + 1)) >>> (d1 &&& 31)) &&& 1)]) (hp' := wd σ) rfl ?_
    refine AW_icmp_ne hT hK 19 (tgt := 64) rfl rfl (fun c2 => ?_) (fun c2 => ?_)
    · refine AW_g hT cl_X6 hK 44 3 (pc' := 69) (lo' := [some (.ref 36), some (.int d1), some (.int w2), some (.int (nI (pp + n + 1))), some (.int 0)]) (st' := [.int 0]) (hp' := wd σ) rfl ?_
      refine AW_if_eq hT hK 47 (tgt := 76) rfl rfl (fun _ => ?_) (fun c3 => absurd (by decide) c3)
      refine AW_g hT cl_X6 hK 50 3 (pc' := 81) (lo' := [some (.ref 36), some (.int d1), some (.int w2), some (.int ((nI (pp + n + 1)) + (-1))), some (.int 0)]) (st' := []) (hp' := wd σ) rfl ?_
      refine AW_goto hT hK 53 (tgt := 9) rfl rfl ?_
      refine AW_msk [true, true, true, true, false] (lo' := [some (.ref 36), some (.int d1), some (.int w2), some (.int ((nI (pp + n + 1)) + (-1))), none]) rfl ?_
      refine AW_to (lo' := [some (.ref 36), some (.int d1), some (.int w2), some (.int (nI (pp + n))), none]) (by rw [pk_m1]) rfl rfl ?_
      exact ih _ (by omega) (fun s' hs' => kx s' ((congrArg (az_dn _ n) (by simp only [b_X6_next_9, if_neg c2])).trans hs'))
    · refine AW_g hT cl_X6 hK 20 3 (pc' := 33) (lo' := [some (.ref 36), some (.int d1), some (.int w2), some (.int (nI (pp + n + 1))), none]) (st' := [.int d1, .ref 42]) (hp' := wd σ) rfl ?_
      refine AW_ialdx hT hK 23 rfl (n := 12) (f := (σ.2.1 42)) rfl (hq) ?_
      refine AW_g hT cl_X6 hK 24 4 (pc' := 40) (lo' := [some (.ref 36), some (.int d1), some (.int w2), some (.int (nI (pp + n + 1))), none]) (st' := [.int (nI (pp + n + 1)), .ref 43, .long (((σ.2.1 42) d1.toNatClampNeg).toInt64)]) (hp' := wd σ) rfl ?_
      refine AW_iald hT hK 28 (pp + n + 1) rfl (n := 12) (f := (σ.2.1 43)) rfl rfl (by omega) (by decide) ?_
      refine AW_g hT cl_X6 hK 29 5 (pc' := 48) (lo' := [some (.ref 36), some (.int d1), some (.int w2), some (.int (nI (pp + n + 1))), none]) (st' := [.int (nI (pp + n + 1)), .ref 44, .long ((((σ.2.1 42) d1.toNatClampNeg).toInt64) * (((σ.2.1 43) (pp + n + 1)).toInt64))]) (hp' := wd σ) rfl ?_
      refine AW_lald hT hK 34 (pp + n + 1) rfl (n := 12) (f := (σ.2.2 44)) rfl rfl (by omega) (by decide) ?_
      refine AW_g hT cl_X6 hK 35 4 (pc' := 55) (lo' := [some (.ref 36), some (.int d1), some (.int w2), some (.int (nI (pp + n + 1))), none]) (st' := [.int d1, .ref 44, .long (((((σ.2.1 42) d1.toNatClampNeg).toInt64) * (((σ.2.1 43) (pp + n + 1)).toInt64)) + ((σ.2.2 44) (pp + n + 1)))]) (hp' := wd σ) rfl ?_
      refine AW_laldx hT hK 39 rfl (n := 12) (f := (σ.2.2 44)) rfl (hq) ?_
      refine AW_g hT cl_X6 hK 40 1 (pc' := 57) (lo' := [some (.ref 36), some (.int d1), some (.int w2), some (.int (nI (pp + n + 1))), none]) (st' := [.int (lg_cmp (((((σ.2.1 42) d1.toNatClampNeg).toInt64) * (((σ.2.1 43) (pp + n + 1)).toInt64)) + ((σ.2.2 44) (pp + n + 1))) ((σ.2.2 44) d1.toNatClampNeg))]) (hp' := wd σ) rfl ?_
      refine AW_if_ne hT hK 41 (tgt := 64) rfl rfl (fun c4 => ?_) (fun c4 => ?_)
      · refine AW_g hT cl_X6 hK 44 3 (pc' := 69) (lo' := [some (.ref 36), some (.int d1), some (.int w2), some (.int (nI (pp + n + 1))), some (.int 0)]) (st' := [.int 0]) (hp' := wd σ) rfl ?_
        refine AW_if_eq hT hK 47 (tgt := 76) rfl rfl (fun _ => ?_) (fun c5 => absurd (by decide) c5)
        refine AW_g hT cl_X6 hK 50 3 (pc' := 81) (lo' := [some (.ref 36), some (.int d1), some (.int w2), some (.int ((nI (pp + n + 1)) + (-1))), some (.int 0)]) (st' := []) (hp' := wd σ) rfl ?_
        refine AW_goto hT hK 53 (tgt := 9) rfl rfl ?_
        refine AW_msk [true, true, true, true, false] (lo' := [some (.ref 36), some (.int d1), some (.int w2), some (.int ((nI (pp + n + 1)) + (-1))), none]) rfl ?_
        refine AW_to (lo' := [some (.ref 36), some (.int d1), some (.int w2), some (.int (nI (pp + n))), none]) (by rw [pk_m1]) rfl rfl ?_
        exact ih _ (by omega) (fun s' hs' => kx s' ((congrArg (az_dn _ n) (by simp only [b_X6_next_9, if_pos c2, if_neg c4])).trans hs'))
      · refine AW_g hT cl_X6 hK 42 1 (pc' := 61) (lo' := [some (.ref 36), some (.int d1), some (.int w2), some (.int (nI (pp + n + 1))), none]) (st' := [.int 1]) (hp' := wd σ) rfl ?_
        refine AW_goto hT hK 43 (tgt := 65) rfl rfl ?_
        refine AW_g hT cl_X6 hK 45 2 (pc' := 69) (lo' := [some (.ref 36), some (.int d1), some (.int w2), some (.int (nI (pp + n + 1))), some (.int 1)]) (st' := [.int 1]) (hp' := wd σ) rfl ?_
        refine AW_if_eq hT hK 47 (tgt := 76) rfl rfl (fun c6 => absurd c6 (by decide)) (fun _ => ?_)
        refine AW_g hT cl_X6 hK 48 1 (pc' := 73) (lo' := [some (.ref 36), some (.int d1), some (.int w2), some (.int (nI (pp + n + 1))), some (.int 1)]) (st' := [.int (nI (pp + n + 1))]) (hp' := wd σ) rfl ?_
        refine AW_goto hT hK 49 (tgt := 77) rfl rfl ?_
        refine AW_g hT cl_X6 hK 51 2 (pc' := 81) (lo' := [some (.ref 36), some (.int d1), some (.int (nI (pp + n + 1))), some (.int ((nI (pp + n + 1)) + (-1))), some (.int 1)]) (st' := []) (hp' := wd σ) rfl ?_
        refine AW_goto hT hK 53 (tgt := 9) rfl rfl ?_
        refine AW_msk [true, true, true, true, false] (lo' := [some (.ref 36), some (.int d1), some (.int (nI (pp + n + 1))), some (.int ((nI (pp + n + 1)) + (-1))), none]) rfl ?_
        refine AW_to (lo' := [some (.ref 36), some (.int d1), some (.int (nI (pp + n + 1))), some (.int (nI (pp + n))), none]) (by rw [pk_m1]) rfl rfl ?_
        exact ih _ (by omega) (fun s' hs' => kx s' ((congrArg (az_dn _ n) (by simp only [b_X6_next_9, if_pos c2, if_pos c4])).trans hs'))
def x_X6_next (σ : az_S) (p0 : Int32) : Int32 :=
  let s8 := az_dn (fun ι s => b_X6_next_9 σ p0 p0.toNatClampNeg ι s) (nn σ - 1 - p0.toNatClampNeg) (-1)
  s8
set_option maxRecDepth 100000 in
set_option maxHeartbeats 4000000 in
theorem m_X6_next (l0 : Launch) (σ : az_S) (p0 : Int32) (hp : vp_in p0 (nn σ)) (hw : az_wf σ) : AMet l0 yX6_next cX6_next 5 (some .int) ({ frames := 0, cells := 0, slots := 0, locals := 0 } : Room) false [.ref 36, .int p0] (wd σ) (fun r h => r = some (.int (x_X6_next σ p0)) ∧ h = wd σ) := by
  refine AMet_of (by decide +kernel) (by simp [Value.category]) (Nat.le_of_ble_eq_true rfl) (fun K hK hct hG hE => ?_)
  have hT := tt_X6_next
  have hw2 := hw.2
  have hp2 := (az_vp hp hw.2).2.1
  refine AW_g hT cl_X6 hK 0 7 (pc' := 9) (lo' := [some (.ref 36), some (.int p0), some (.int (-1)), some (.int ((σ.1 8) - 1)), none]) (st' := []) (hp' := wd σ) rfl ?_
  refine AW_to (lo' := [some (.ref 36), some (.int p0), some (.int (-1)), some (.int (nI (p0.toNatClampNeg + (nn σ - 1 - p0.toNatClampNeg)))), none]) (by rw [show σ.1 8 = nI (nn σ) from (hw).1.trans (congrArg nI (rfl)), az_off (by omega)]) rfl rfl ?_
  refine lp_X6_next_9 hT hK σ p0 p0.toNatClampNeg ((az_vp hp hw.2).1) ((az_vp hp hw.2).2.2) hw (nn σ - 1 - p0.toNatClampNeg) (-1) (by have h9 : nn σ = nn σ := rfl; omega) (fun s8 h9 => ?_)
  refine AW_g hT cl_X6 hK 54 1 (pc' := 85) (lo' := [some (.ref 36), some (.int p0), some (.int s8), none, none]) (st' := [.int s8]) (hp' := wd σ) rfl ?_
  refine AW_iret hT hE 55 rfl rfl rfl (Nat.le_of_ble_eq_true rfl) (Nat.le_of_ble_eq_true rfl) ?_
  subst h9; exact ⟨by simp only [x_X6_next], rfl⟩
end AZP
