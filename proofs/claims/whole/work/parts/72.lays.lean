/-! fields: the model's -/
section AZC4
variable {σ : az_S} {n : Nat} {T : Nat → Bool} {Y : Nat → Int32} {R : Nat → Nat → Bool} {F : Nat → Nat → Bool}
def JM (τ : az_S) (n : Nat) (T : Nat → Bool) (Y : Nat → Int32) (R F : Nat → Nat → Bool) : Prop := RM τ n T Y R ∧ Lw τ R ∧ RF τ F ∧ Pt T F
theorem Lw.of {σ τ : az_S} (h : Lw σ R) (e : τ.2.1 40 = σ.2.1 40) : Lw τ R := fun k hk => by rw [e]; exact h k hk
theorem start6 (h : RM σ n T Y R) (hA : Ab n T R) (d : Int32) : ∀ m, m ≤ 12 → ∃ g, az_it (fun ι s => b_X6_laysFields_7 d ι s) m 0 σ = sG σ 41 g ∧ ∀ i, i < m → ∀ p, Bt (g i) p = fF0 T i p := by
  intro m
  induction m with
  | zero => intro _; exact ⟨σ.2.1 41, (sG_self σ 41).symm, fun i hi => by omega⟩
  | succ m ih =>
    intro hm
    obtain ⟨g, e, hg⟩ := ih (by omega)
    have hm12 : m < 12 := by omega
    have hn := hA.1
    have hbd : b_X6_laysFields_7 d m (sG σ 41 g) = if σ.1 8 ≤ nI m then sG (sG σ 41 g) 41 (va_up g m 0) else if σ.2.1 37 m = 0 then sG (sG σ 41 g) 41 (va_up g m 0) else sG (sG σ 41 g) 41 (va_up g m (bit m)) := rfl
    have key : ∃ v, b_X6_laysFields_7 d m (sG σ 41 g) = sG (sG σ 41 g) 41 (va_up g m v) ∧ ∀ p, Bt v p = fF0 T m p := by
      rw [hbd, h.1]
      have z : T m = false → ∀ p, Bt 0 p = fF0 T m p := fun ht p => by
        rw [Bt_zero]
        unfold fF0
        by_cases e : p = m
        · subst e; rw [ht]; simp
        · have : (p == m) = false := by simp [e]
          rw [this]; rfl
      by_cases h1 : nI n ≤ nI m
      · rw [if_pos h1]
        refine ⟨0, rfl, z ?_⟩
        cases ht : T m with
        | false => rfl
        | true =>
          have := hA.2.1 m ht
          have := (nI_leI (by omega) (by omega)).mp h1
          omega
      · rw [if_neg h1]
        by_cases h2 : σ.2.1 37 m = 0
        · rw [if_pos h2]
          exact ⟨0, rfl, z ((h.2.1 m hm12).mp h2)⟩
        · rw [if_neg h2]
          refine ⟨bit m, rfl, fun p => ?_⟩
          rw [dec_bit hm12]
          unfold fF0
          have ht : T m = true := by
            cases ht : T m with
            | true => rfl
            | false => exact absurd ((h.2.1 m hm12).mpr ht) h2
          by_cases e : p = m
          · subst e; rw [ht]; simp
          · have : (p == m) = false := by simp [e]
            rw [this]; rfl
    obtain ⟨v, k1, k2⟩ := key
    refine ⟨va_up g m v, ?_, fun i hi p => ?_⟩
    · rw [az_it_snoc, e, Nat.zero_add]
      show b_X6_laysFields_7 d m (sG σ 41 g) = _
      rw [k1, sG_sG]
    · rw [va_up_if]
      by_cases e : i = m
      · rw [if_pos e, e]; exact k2 p
      · rw [if_neg e]; exact hg i (by omega) p
theorem enc6_no {s : Int32 × Nat} (h : s.2 = 0) : (enc6 s).1 = -1 := if_pos h
theorem enc6_yes {s : Int32 × Nat} (h : ¬ s.2 = 0) : (enc6 s).1 = nI (s.2 - 1) := if_neg h
theorem step6 (hA : Ab n T R) {τ : az_S} (h : JM τ n T Y R F) (i : Nat) (w : Int32) : ∃ υ, b_X6_laysFields_51 (nI (tot R)) i w τ = ((stF T R F).1, υ) ∧ JM υ n T Y R (stF T R F).2 ∧ Kp τ υ := by
  obtain ⟨hM, hL, hF, hPt⟩ := h
  have e : b_X6_laysFields_51 (nI (tot R)) i w τ = if (enc6 (seek T R F)).1 = -1 then (0, τ) else
      (1, sG (sG τ 41 (va_up (τ.2.1 41) ((enc6 (seek T R F)).1 / 12).toNatClampNeg (τ.2.1 41 ((enc6 (seek T R F)).1 / 12).toNatClampNeg ||| τ.2.1 41 ((enc6 (seek T R F)).1 - (enc6 (seek T R F)).1 / 12 * 12).toNatClampNeg))) 41
        (va_up (va_up (τ.2.1 41) ((enc6 (seek T R F)).1 / 12).toNatClampNeg (τ.2.1 41 ((enc6 (seek T R F)).1 / 12).toNatClampNeg ||| τ.2.1 41 ((enc6 (seek T R F)).1 - (enc6 (seek T R F)).1 / 12 * 12).toNatClampNeg)) ((enc6 (seek T R F)).1 - (enc6 (seek T R F)).1 / 12 * 12).toNatClampNeg 0)) := by
    rw [← seek6_is hM hA hL hF hPt w]
    rfl
  rw [e]
  unfold stF
  rcases seek_last T R F with ⟨h1, h2⟩ | ⟨h1, h2, lo, hi, h3, h4, h5, h6, h7, h8, h9⟩
  · have : (enc6 (seek T R F)).1 = -1 := enc6_no h1
    rw [if_pos this, if_pos h1]
    exact ⟨τ, rfl, ⟨hM, hL, hF, hPt⟩, Kp.rfl⟩
  · have e1 : (enc6 (seek T R F)).1 = nI ((seek T R F).2 - 1) := enc6_yes h2
    have hne : ¬ (enc6 (seek T R F)).1 = -1 := fun z => by
      rw [e1] at z
      have := congrArg Int32.toInt z
      rw [nI_toInt (by omega), show (-1 : Int32).toInt = -1 from by decide] at this
      omega
    have e12 : (12 : Int32) = nI 12 := rfl
    have hl : lo < 12 := by omega
    rw [if_neg hne, if_neg h2, e1, e12, pk_rem (by omega) (by decide) (by decide), pk_div (by omega) (by decide) (by decide), h7, h8, p12g hl, p12g h4, sG_sG]
    refine ⟨_, rfl, ⟨(Kp.g τ _ (by decide)).RM hM, hL.of rfl, fun i hi' p => ?_, Pt_join hPt h3 h5⟩, Kp.g τ _ (by decide)⟩
    show Bt (va_up (va_up (τ.2.1 41) lo (τ.2.1 41 lo ||| τ.2.1 41 hi)) hi 0 i) p = jF F lo hi i p
    rw [va_up_if, va_up_if]
    unfold jF
    by_cases a : i = hi
    · have : ¬ i = lo := by omega
      rw [if_pos a, if_neg this, if_pos a, Bt_zero]
    · rw [if_neg a]
      by_cases b : i = lo
      · rw [if_pos b, if_pos b, Bt_or, hF lo hl p, hF hi h4 p]
      · rw [if_neg b, if_neg b, if_neg a]
        exact hF i hi' p
theorem rounds6 (hA : Ab n T R) : ∀ (m i : Nat) (f : Int32) (σ : az_S) (F : Nat → Nat → Bool), JM σ n T Y R F → ∃ τ, az_ws (fun s : Int32 × az_S => decide (s.1 = 0)) (fun ι s => b_X6_laysFields_51 (nI (tot R)) ι s.1 s.2) m i (f, σ) = ((wsF T R m (f, F)).1, τ) ∧ JM τ n T Y R (wsF T R m (f, F)).2 ∧ Kp σ τ := by
  intro m
  induction m with
  | zero => intro i f σ F h; exact ⟨σ, rfl, h, Kp.rfl⟩
  | succ m ih =>
    intro i f σ F h
    by_cases h0 : f = 0
    · have e1 : (fun s : Int32 × az_S => decide (s.1 = 0)) (f, σ) = true := by simp [h0]
      have e2 : (fun s : Int32 × (Nat → Nat → Bool) => decide (s.1 = 0)) (f, F) = true := by simp [h0]
      have e3 : wsF T R (m + 1) (f, F) = (f, F) := az_ws_st (st := fun s : Int32 × (Nat → Nat → Bool) => decide (s.1 = 0)) e2
      rw [az_ws_st (st := fun s : Int32 × az_S => decide (s.1 = 0)) e1, e3]
      exact ⟨σ, rfl, h, Kp.rfl⟩
    · have e1 : (fun s : Int32 × az_S => decide (s.1 = 0)) (f, σ) = false := by simp [h0]
      have e2 : (fun s : Int32 × (Nat → Nat → Bool) => decide (s.1 = 0)) (f, F) = false := by simp [h0]
      obtain ⟨τ, a, b, c⟩ := step6 hA h i f
      have e3 : wsF T R (m + 1) (f, F) = wsF T R m (stF T R F) := by
        unfold wsF
        rw [az_ws_go (st := fun s : Int32 × (Nat → Nat → Bool) => decide (s.1 = 0)) (n := m) e2]
        exact az_ws_ix m (0 + 1) 0 (stF T R F)
      rw [az_ws_go (st := fun s : Int32 × az_S => decide (s.1 = 0)) (n := m) e1, e3]
      generalize stF T R F = q at a b ⊢
      obtain ⟨q1, q2⟩ := q
      show ∃ υ, az_ws (fun s : Int32 × az_S => decide (s.1 = 0)) (fun ι s => b_X6_laysFields_51 (nI (tot R)) ι s.1 s.2) m (i + 1) (b_X6_laysFields_51 (nI (tot R)) i f σ) = _ ∧ _
      rw [a]
      obtain ⟨υ, a2, b2, c2⟩ := ih (i + 1) q1 τ q2 b
      exact ⟨υ, a2, b2, c.trans c2⟩
theorem wsF_more {m : Nat} {s : Int32 × (Nat → Nat → Bool)} (h : (wsF T R m s).1 = 0) : wsF T R (m + 1) s = wsF T R m s := by
  unfold wsF at h ⊢
  rw [az_ws_snoc, if_pos (by rw [h]; rfl)]
theorem fields_is (h : RM σ n T Y R) (hA : Ab n T R) : JM (x_X6_laysFields σ) n T Y R (fixF T R) ∧ Kp σ (x_X6_laysFields σ) := by
  obtain ⟨g, e, hL⟩ := totalNow_is h hA
  have hM : RM (sG σ 40 g) n T Y R := (Kp.g σ g (by decide)).RM h
  obtain ⟨g2, e2, hg2⟩ := start6 hM hA (nI (tot R)) 12 (Nat.le_refl _)
  have hJ : JM (sG (sG σ 40 g) 41 g2) n T Y R (fF0 T) := ⟨(Kp.g _ g2 (by decide)).RM hM, hL.of rfl, fun i hi p => hg2 i hi p, Pt0 T⟩
  obtain ⟨τ, a, b, c⟩ := rounds6 hA 13 0 1 _ _ hJ
  have e3 : x_X6_laysFields σ = τ := by
    have : x_X6_laysFields σ = (az_ws (fun s : Int32 × az_S => decide (s.1 = 0)) (fun ι s => b_X6_laysFields_51 (x_X6_totalNow σ).1 ι s.1 s.2) 13 0 (1, az_it (fun ι s => b_X6_laysFields_7 (x_X6_totalNow σ).1 ι s) 12 0 (x_X6_totalNow σ).2)).2 := rfl
    rw [this, e]
    show (az_ws (fun s : Int32 × az_S => decide (s.1 = 0)) (fun ι s => b_X6_laysFields_51 (nI (tot R)) ι s.1 s.2) 13 0 (1, az_it (fun ι s => b_X6_laysFields_7 (nI (tot R)) ι s) 12 0 (sG σ 40 g))).2 = τ
    rw [e2, a]
  rw [wsF_more (ws_done T R)] at b
  rw [e3]
  exact ⟨b, ((Kp.g σ g (by decide)).trans (Kp.g _ g2 (by decide))).trans c⟩
theorem grouped (h : RC σ n T Y R) (hA : Ab n T R) : ∃ f τ, az_ws (fun s : Int32 × az_S => decide (s.1 = 0)) (fun ι s => b_X0_findAnew_9 ι s.1 s.2) 12 0 (1, x_X0_partAll σ) = (f, τ) ∧ JJ τ n T Y R (fixF T R) ∧ Kc σ τ := by
  obtain ⟨a, b, c, d⟩ := partAll_is h hA
  obtain ⟨τ, a2, b2, c2⟩ := rounds5 12 0 1 _ _ ⟨b, c, a, Pt0 T⟩
  exact ⟨_, τ, a2, b2, d.trans c2⟩
end AZC4
