/-! questions without a paper, with a year, about fields and ways -/
section AZD6
variable {σ : az_S} {n : Nat} {T : Nat → Bool} {Y : Nat → Int32} {R : Nat → Nat → Bool}
theorem sm_papers_ok : sm_papers INV := by
  intro σ hI
  obtain ⟨n, T, Y, R, hA, hM, hC, hG, hW⟩ := id hI
  rw [s5_papers hC hA, s6_papers hM hA]
  exact ⟨rfl, hI.kp (Kp.f _ _)⟩
theorem sm_totalAnew_ok : sm_totalAnew INV := by
  intro σ hI
  obtain ⟨n, T, Y, R, hA, hM, hC, hG, hW⟩ := id hI
  obtain ⟨g, e, _⟩ := totalNow_is ((Kp.f σ 0).RM hM) hA
  have e6 : x_X6_totalAnew σ = (nI (tot R), sG (sF σ 9 0) 40 g) := by
    show ((x_X6_totalNow (sF σ 9 0)).1, (x_X6_totalNow (sF σ 9 0)).2) = _
    rw [e]
  rw [e6]
  exact ⟨s5_anew hC hA, hI.kp ((Kp.f _ _).trans (Kp.g _ _ (by decide)))⟩
theorem sm_total_ok : sm_total INV := by
  intro σ hI
  obtain ⟨n, T, Y, R, hA, hM, hC, hG, hW⟩ := id hI
  obtain ⟨g, e, _⟩ := totalNow_is ((Kp.f σ 0).RM hM) hA
  have e6 : x_X6_total σ = (nI (tot R), sG (sF σ 9 0) 40 g) := by
    show ((x_X6_totalNow (sF σ 9 0)).1, (x_X6_totalNow (sF σ 9 0)).2) = _
    rw [e]
  rw [e6]
  exact ⟨s5_kept hC, hI.kp ((Kp.f _ _).trans (Kp.g _ _ (by decide)))⟩
theorem sm_fields_ok : sm_fields INV := by
  intro σ hI
  obtain ⟨n, T, Y, R, hA, hM, hC, hG, hW⟩ := id hI
  have hfi := fields_is ((Kp.f σ 0).RM hM) hA
  have e6 : x_X6_fields σ = (az_it (fun ι s => b_X6_fields_13 (x_X6_laysFields (sF σ 9 0)) ι s) 12 0 0, x_X6_laysFields (sF σ 9 0)) := rfl
  have hsame := fields_same hG.1 hfi.1.2.2.1 (fixF_Pt T R) hA
  have hK := (Kp.f σ 0).trans hfi.2
  rw [e6]
  generalize x_X6_laysFields (sF σ 9 0) = τ at hsame hK ⊢
  exact ⟨hsame, hI.kp hK⟩
theorem sm_ways_ok : sm_ways INV := by
  intro σ hI
  obtain ⟨n, T, Y, R, hA, hM, hC, hG, hW⟩ := id hI
  rw [ways6 hM hA]
  have hK := (Kp.f σ 0).trans (laysWays_is ((Kp.f σ 0).RM hM) hA).1
  exact ⟨hW.2.2.1, hI.kp hK⟩
/-- the main way that the class holds, and the model's first paper of it -/
theorem first_same (hW : RW σ T R) {τ : az_S} (hM : RM τ n T Y R) (hA : Ab n T R) : ∃ (f : Nat → Int32) (w : Int32) (len : Nat), x_X6_first τ = (w, x_X6_laysWays τ) ∧ (∀ p, p < 12 → NX R p (f p)) ∧ FS T R w ∧ len ≤ 12 ∧ (∀ k, k < len → ¬ chN f w k = -1 ∧ σ.2.1 35 k = chN f w k) ∧ chN f w len = -1 ∧ σ.1 6 = nI len ∧ ((w = -1 ∧ σ.1 7 = 0) ∨ ∃ p, p < 12 ∧ w = nI p ∧ σ.1 7 = nI (sm R p)) := by
  obtain ⟨_, _, _, f, w, len, h1, h2, h3, h4, h5, h6, h7⟩ := hW
  obtain ⟨w', e, hw'⟩ := first_is hM hA
  have := FS_one hw' h2
  subst this
  exact ⟨f, w', len, e, h1, h2, h3, h4, h5, h6, h7⟩
theorem length_same (hW : RW σ T R) {τ : az_S} (hM : RM τ n T Y R) (hA : Ab n T R) : x_X6_length τ = (σ.1 6, x_X6_laysWays τ) := by
  obtain ⟨f, w, len, e, h1, h2, h3, h4, h5, h6, _⟩ := first_same hW hM hA
  obtain ⟨hK, hL⟩ := laysWays_is hM hA
  unfold x_X6_length
  rw [e]
  dsimp only
  rw [h6]
  have := len_is (hK.RM hM) hA hL h1 h2 h3 (fun k hk => (h4 k hk).1) h5 12 0 rfl (Nat.zero_le _)
  have e0 : ln_go (x_X6_laysWays τ) 12 0 w = nI len := this
  rw [e0]
theorem sm_mainLength_ok : sm_mainLength INV := by
  intro σ hI
  obtain ⟨n, T, Y, R, hA, hM, hC, hG, hW⟩ := id hI
  have hM0 : RM (sF σ 9 0) n T Y R := (Kp.f σ 0).RM hM
  have e : x_X6_mainLength σ = ((x_X6_length (sF σ 9 0)).1, (x_X6_length (sF σ 9 0)).2) := rfl
  rw [e, length_same hW hM0 hA]
  exact ⟨rfl, hI.kp ((Kp.f σ 0).trans (laysWays_is hM0 hA).1)⟩
theorem sm_mainSum_ok : sm_mainSum INV := by
  intro σ hI
  obtain ⟨n, T, Y, R, hA, hM, hC, hG, hW⟩ := id hI
  have hM0 : RM (sF σ 9 0) n T Y R := (Kp.f σ 0).RM hM
  obtain ⟨f, w, len, e, h1, h2, h3, h4, h5, h6, h7⟩ := first_same hW hM0 hA
  obtain ⟨hK, hL⟩ := laysWays_is hM0 hA
  have e6 : x_X6_mainSum σ = if (x_X6_first (sF σ 9 0)).1 = -1 then (0, (x_X6_first (sF σ 9 0)).2) else ((x_X6_first (sF σ 9 0)).2.2.2 44 (x_X6_first (sF σ 9 0)).1.toNatClampNeg, (x_X6_first (sF σ 9 0)).2) := rfl
  have hI2 : INV (x_X6_laysWays (sF σ 9 0)) := hI.kp ((Kp.f σ 0).trans hK)
  rw [e6, e]
  dsimp only
  show (σ.1 7).toInt64 = _ ∧ _
  rcases h7 with ⟨h7, h8⟩ | ⟨p, hp, h7, h8⟩
  · rw [if_pos h7, h8]
    exact ⟨rfl, hI2⟩
  · have hs := sm_small hA hp
    have hpn : p < n := by
      rcases h2 with ⟨_, z⟩ | ⟨k, hk, z⟩
      · rw [h7] at z; exact absurd z (nI_ne (by omega))
      · rw [h7] at z
        have hk12 := hk.2.1
        have : p = k := (nI_eq (by omega) (by omega)).mp z
        have hsr := hk.2.2.1
        unfold src at hsr
        rw [Bool.and_eq_true] at hsr
        rw [this]
        exact hA.2.1 k hsr.1
    rw [h7, if_neg (nI_ne (by omega)), p12g hp, h8, nI_l (by omega)]
    exact ⟨((hL.2 p (Nat.zero_le _) hpn).2).symm, hI2⟩
/-! years -/
theorem year_cases (y : Int32) : (x_X5_requireYear σ y = .inr () ∧ ∀ τ, x_X6_isIn τ y 0 99 = 1) ∨ (x_X5_requireYear σ y = .inl az_IAE ∧ ∀ τ, x_X6_isIn τ y 0 99 = 0) := by
  have e5 : x_X5_requireYear σ y = if y < 0 then .inl az_IAE else if y ≤ 99 then .inr () else .inl az_IAE := rfl
  have e6 : ∀ τ, x_X6_isIn τ y 0 99 = if y < 0 then 0 else if 99 < y then 0 else 1 := fun _ => rfl
  rw [e5]
  by_cases h1 : y < 0
  · rw [if_pos h1]
    exact Or.inr ⟨rfl, fun τ => by rw [e6, if_pos h1]⟩
  · rw [if_neg h1]
    by_cases h2 : y ≤ 99
    · rw [if_pos h2]
      exact Or.inl ⟨rfl, fun τ => by rw [e6, if_neg h1, if_neg (Int32.not_lt.mpr h2)]⟩
    · rw [if_neg h2]
      exact Or.inr ⟨rfl, fun τ => by rw [e6, if_neg h1, if_pos (Int32.not_le.mp h2)]⟩
theorem NSE_IAE : ¬ az_NSE = az_IAE := by decide
theorem IAE_ISE : ¬ az_IAE = az_ISE := by decide
theorem sm_rise_ok : sm_rise INV := by
  intro σ a b hI
  obtain ⟨n, T, Y, R, hA, hM, hC, hG, hW⟩ := id hI
  have e6 : ∀ τ, x_X6_rise τ a b = if x_X6_isPaper τ a = 0 then (0, sF τ 9 1) else if x_X6_isIn τ b 0 99 = 0 then (0, sF τ 9 2) else (x_X6_rises (sF τ 9 0) a b, sF τ 9 0) := fun _ => rfl
  rcases paper_cases hC hM hA a with ⟨i, hi, rfl, hT, h5, h6⟩ | ⟨h5, h6⟩
  · rcases year_cases (σ := σ) b with ⟨g5, g6⟩ | ⟨g5, g6⟩
    · have e5 : x_X5_rise σ (nI i) b = .inr (x_X3_riseOf σ (nI i) b) := by
        unfold x_X5_rise
        rw [h5]; dsimp only
        rw [g5]
      rw [e5]
      refine ⟨fun h => (by cases h), fun h => (by cases h), fun rv g h => ?_⟩
      rw [← Sum.inr.inj h, e6, if_neg (by rw [show x_X6_isPaper (sL σ 45 g) (nI i) = 1 from h6]; decide), if_neg (by rw [g6]; decide)]
      refine okR hI ?_ rfl (Kp.f _ _)
      rw [s5_riseOf hC hi]
      exact s6_rises ((Kp.f (sL σ 45 g) 0).RM hM) hA hi b
    · have e5 : x_X5_rise σ (nI i) b = .inl az_IAE := by
        unfold x_X5_rise
        rw [h5]; dsimp only
        rw [g5]
      rw [e5, e6, if_neg (by rw [h6]; decide), if_pos (g6 _)]
      exact ⟨fun h => absurd (Sum.inl.inj h).symm NSE_IAE, fun _ => okE hI rfl (Kp.f _ _), fun rv g h => (by cases h)⟩
  · have e5 : x_X5_rise σ a b = .inl az_NSE := by
      unfold x_X5_rise
      rw [h5]
    rw [e5, e6, if_pos h6]
    exact ⟨fun _ => okE hI rfl (Kp.f _ _), fun h => absurd (Sum.inl.inj h) NSE_IAE, fun rv g h => (by cases h)⟩
theorem sm_riser_ok : sm_riser INV := by
  intro σ a hI
  obtain ⟨n, T, Y, R, hA, hM, hC, hG, hW⟩ := id hI
  have e6 : ∀ τ, x_X6_riser τ a = if x_X6_isIn τ a 0 99 = 0 then (0, sF τ 9 1) else (az_dn (fun ι s => b_X6_riser_33 (sF τ 9 0) a ι s) (nn τ) (-1), sF τ 9 0) := fun _ => rfl
  rcases year_cases (σ := σ) a with ⟨g5, g6⟩ | ⟨g5, g6⟩
  · have e5 : x_X5_riser σ a = .inr (az_it (fun ι s => b_X5_riser_11 σ a ι s.1 s.2) 12 0 ((-1), 0)).1 := by
      unfold x_X5_riser
      rw [g5]
    rw [e5]
    refine ⟨fun h => (by cases h), fun rv g h => ?_⟩
    rw [← Sum.inr.inj h, e6, if_neg (by rw [g6]; decide)]
    exact okR hI (riser_same hC ((Kp.f (sL σ 45 g) 0).RM hM) hA a).symm rfl (Kp.f _ _)
  · have e5 : x_X5_riser σ a = .inl az_IAE := by
      unfold x_X5_riser
      rw [g5]
    rw [e5, e6, if_pos (g6 _)]
    exact ⟨fun _ => okE hI rfl (Kp.f _ _), fun rv g h => (by cases h)⟩
/-! fields -/
theorem sm_gain_ok : sm_gain INV := by
  intro σ a b hI
  obtain ⟨n, T, Y, R, hA, hM, hC, hG, hW⟩ := id hI
  have e6 : ∀ τ, x_X6_gain τ a b = if x_X6_isField (x_X6_laysFields τ) a = 0 then ((0 : Int32), sF (x_X6_laysFields τ) 9 1) else if x_X6_isField (x_X6_laysFields τ) b = 0 then (0, sF (x_X6_laysFields τ) 9 1) else if a = b then (0, sF (x_X6_laysFields τ) 9 2) else
      (x_X6_gains (x_X6_totalNow (sF (x_X6_laysFields τ) 9 0)).2 ((sF (x_X6_laysFields τ) 9 0).2.1 41 a.toNatClampNeg) ((sF (x_X6_laysFields τ) 9 0).2.1 41 b.toNatClampNeg) (x_X6_totalNow (sF (x_X6_laysFields τ) 9 0)).1, (x_X6_totalNow (sF (x_X6_laysFields τ) 9 0)).2) := fun _ => rfl
  have hfi := fields_is hM hA
  have hfs : ∀ g, RF (x_X6_laysFields (sL σ 45 g)) (fixF T R) := fun g => (fields_is (σ := sL σ 45 g) hM hA).1.2.2.1
  have hF := hfi.1.2.2.1
  rcases field_cases hG.1 hF (fixF_Pt T R) a with ⟨i, hi, rfl, hf, h5, h6⟩ | ⟨h5, h6⟩
  · rcases field_cases hG.1 hF (fixF_Pt T R) b with ⟨j, hj, rfl, hf2, g5, g6⟩ | ⟨g5, g6⟩
    · by_cases hij : i = j
      · subst hij
        have e5 : x_X5_gain σ (nI i) (nI i) = .inl az_IAE := by
          unfold x_X5_gain
          rw [h5]; dsimp only
          rw [if_pos rfl]
        rw [e5, e6, if_neg (by rw [h6]; decide), if_neg (by rw [h6]; decide), if_pos rfl]
        exact ⟨fun h => absurd (Sum.inl.inj h).symm NSE_IAE, fun _ => okE hI rfl (hfi.2.trans (Kp.f _ _)), fun rv g h => (by cases h)⟩
      · have hne : ¬ nI i = nI j := fun z => hij ((nI_eq (by omega) (by omega)).mp z)
        have e5 : x_X5_gain σ (nI i) (nI j) = .inr (x_X0_gainOfJoining σ (nI i) (nI j)) := by
          unfold x_X5_gain
          rw [h5]; dsimp only
          rw [g5]; dsimp only
          rw [if_neg hne]
        rw [e5]
        refine ⟨fun h => (by cases h), fun h => (by cases h), fun rv g h => ?_⟩
        have hfg := fields_is (σ := sL σ 45 g) hM hA
        have i1 : x_X6_isField (x_X6_laysFields (sL σ 45 g)) (nI i) = 1 := by rw [isField_at (hfs g) (fixF_Pt T R) hi, hf]; rfl
        have i2 : x_X6_isField (x_X6_laysFields (sL σ 45 g)) (nI j) = 1 := by rw [isField_at (hfs g) (fixF_Pt T R) hj, hf2]; rfl
        rw [← Sum.inr.inj h, e6, if_neg (by rw [i1]; decide), if_neg (by rw [i2]; decide), if_neg hne, gain5_is hG.1 hG.2.1 hi hj hij hf hf2]
        have hMf : RM (sF (x_X6_laysFields (sL σ 45 g)) 9 0) n T Y R := (Kp.f _ 0).RM (hfg.2.RM (σ := sL σ 45 g) hM)
        obtain ⟨g2, et, hL⟩ := totalNow_is hMf hA
        rw [et]
        have hK : Kp (sL σ 45 g) (sG (sF (x_X6_laysFields (sL σ 45 g)) 9 0) 40 g2) := (hfg.2.trans (Kp.f _ _)).trans (Kp.g _ _ (by decide))
        have hR := hfs g
        generalize x_X6_laysFields (sL σ 45 g) = τ at hMf hL hK hR ⊢
        refine okR hI ?_ rfl hK
        show x_X6_gains (sG (sF τ 9 0) 40 g2) (τ.2.1 41 (nI i).toNatClampNeg) (τ.2.1 41 (nI j).toNatClampNeg) (nI (tot R)) = _
        rw [gains_is ((Kp.g _ g2 (by decide)).RM hMf) hA hL, p12g hi, p12g hj]
        exact gA_congr (fun p _ => hR i hi p) (fun p _ => hR j hj p)
    · have e5 : x_X5_gain σ (nI i) b = .inl az_NSE := by
        unfold x_X5_gain
        rw [h5]; dsimp only
        rw [g5]
      rw [e5, e6, if_neg (by rw [h6]; decide), if_pos g6]
      exact ⟨fun _ => okE hI rfl (hfi.2.trans (Kp.f _ _)), fun h => absurd (Sum.inl.inj h) NSE_IAE, fun rv g h => (by cases h)⟩
  · have e5 : x_X5_gain σ a b = .inl az_NSE := by
      unfold x_X5_gain
      rw [h5]
    rw [e5, e6, if_pos h6]
    exact ⟨fun _ => okE hI rfl (hfi.2.trans (Kp.f _ _)), fun h => absurd (Sum.inl.inj h) NSE_IAE, fun rv g h => (by cases h)⟩
theorem sm_split_ok : sm_split INV := by
  intro σ a hI
  obtain ⟨n, T, Y, R, hA, hM, hC, hG, hW⟩ := id hI
  have e6 : ∀ τ, x_X6_split τ a = if x_X6_isField (x_X6_laysFields τ) a = 0 then ((0 : Int32), sF (x_X6_laysFields τ) 9 1) else
      ((az_it (fun ι s => b_X6_split_49 (x_X6_totalNow (sF (x_X6_laysFields τ) 9 0)).2 a (x_X6_totalNow (sF (x_X6_laysFields τ) 9 0)).1 ((x_X6_totalNow (sF (x_X6_laysFields τ) 9 0)).2.2.1 41 a.toNatClampNeg) ((1 <<< (a &&& 31) : Int32).toNatClampNeg) ι s.1 s.2) ((max (1 <<< (a &&& 31) : Int32).toNatClampNeg ((x_X6_totalNow (sF (x_X6_laysFields τ) 9 0)).2.2.1 41 a.toNatClampNeg).toNatClampNeg) - (1 <<< (a &&& 31) : Int32).toNatClampNeg) ((1 <<< (a &&& 31) : Int32).toNatClampNeg) ((0 : Int32), (0 : Int32))).1,
        (x_X6_totalNow (sF (x_X6_laysFields τ) 9 0)).2) := fun _ => rfl
  have hfi := fields_is hM hA
  have hF := hfi.1.2.2.1
  rcases field_cases hG.1 hF (fixF_Pt T R) a with ⟨i, hi, rfl, hf, h5, h6⟩ | ⟨h5, h6⟩
  · have e5 : x_X5_split σ (nI i) = .inr (x_X0_splitOf σ (nI i)) := by
      unfold x_X5_split
      rw [h5]
    rw [e5]
    refine ⟨fun h => (by cases h), fun rv g h => ?_⟩
    have hfg := fields_is (σ := sL σ 45 g) hM hA
    have hR : RF (x_X6_laysFields (sL σ 45 g)) (fixF T R) := hfg.1.2.2.1
    have i1 : x_X6_isField (x_X6_laysFields (sL σ 45 g)) (nI i) = 1 := by rw [isField_at hR (fixF_Pt T R) hi, hf]; rfl
    have hMf : RM (sF (x_X6_laysFields (sL σ 45 g)) 9 0) n T Y R := (Kp.f _ 0).RM (hfg.2.RM (σ := sL σ 45 g) hM)
    obtain ⟨g2, et, hL⟩ := totalNow_is hMf hA
    rw [← Sum.inr.inj h, e6, if_neg (by rw [i1]; decide), et]
    have hK : Kp (sL σ 45 g) (sG (sF (x_X6_laysFields (sL σ 45 g)) 9 0) 40 g2) := (hfg.2.trans (Kp.f _ _)).trans (Kp.g _ _ (by decide))
    generalize x_X6_laysFields (sL σ 45 g) = τ at hMf hL hK hR ⊢
    refine okR hI ?_ rfl hK
    have hMg : RM (sG (sF τ 9 0) 40 g2) n T Y R := (Kp.g _ g2 (by decide)).RM hMf
    dsimp only
    rw [p12g hi]
    have ha : ∀ p, Bt ((sG (sF τ 9 0) 40 g2).2.1 41 i) p = fixF T R i p := fun p => hR i hi p
    obtain ⟨O, hO, _, hOb⟩ := others_nat (fixF_Pt T R) hA ha hi
    rw [best6 hMg hA hL (fixF_Pt T R) hi hf hO hOb ha]
    show _ = x_X2_at_15 σ (nI i)
    rw [at_r15 σ hi]
    exact (hG.2.2 i hi hf O hO hOb).symm
  · have e5 : x_X5_split σ a = .inl az_NSE := by
      unfold x_X5_split
      rw [h5]
    rw [e5, e6, if_pos h6]
    exact ⟨fun _ => okE hI rfl (hfi.2.trans (Kp.f _ _)), fun rv g h => (by cases h)⟩
/-! ways -/
theorem sm_count_ok : sm_count INV := by
  intro σ a b hI
  obtain ⟨n, T, Y, R, hA, hM, hC, hG, hW⟩ := id hI
  have e6 : ∀ τ, x_X6_count_ τ a b = if x_X6_isPaper τ a = 0 then (0, sF (x_X6_laysWays τ) 9 1) else if x_X6_isPaper τ b = 0 then (0, sF (x_X6_laysWays τ) 9 1) else if ((τ.2.1 39 a.toNatClampNeg >>> (b &&& 31)) &&& 1) = 1 then ((x_X6_laysWays τ).2.1 42 b.toNatClampNeg * (x_X6_laysWays τ).2.1 43 a.toNatClampNeg, sF (x_X6_laysWays τ) 9 0) else (0, sF (x_X6_laysWays τ) 9 1) := fun _ => rfl
  have hlw := laysWays_is hM hA
  have hEb : ∀ c, (sF (x_X6_laysWays σ) 9 c).1 9 = c ∧ INV (sF (x_X6_laysWays σ) 9 c) := fun c => ⟨sF_at _ 9 c, hI.kp (hlw.1.trans (Kp.f _ _))⟩
  rcases two_cases hC hM hA a b with ⟨i, j, hi, hj, rfl, rfl, hT, hT2, h5, g5, h6, g6⟩ | ⟨h5, h6⟩
  · cases hr : R i j with
    | true =>
      have e5 : x_X5_count σ (nI i) (nI j) = .inr (x_X1_countOf σ (nI i) (nI j)) := by
        unfold x_X5_count
        rw [h5]; dsimp only
        rw [g5]; dsimp only
        rw [cites_at σ hi hj, hC.2.2.2.2.1 i hi j, hr, if_neg (by decide)]
      rw [e5]
      refine ⟨fun h => (by cases h), fun rv g h => ?_⟩
      have hlg := laysWays_is (σ := sL σ 45 g) hM hA
      rw [← Sum.inr.inj h, e6, if_neg (by rw [show x_X6_isPaper (sL σ 45 g) (nI i) = 1 from h6]; decide), if_neg (by rw [show x_X6_isPaper (sL σ 45 g) (nI j) = 1 from g6]; decide), p12g hi, p12g hj, shr1 _ hj, show Bt ((sL σ 45 g).2.1 39 i) j = R i j from hM.2.2.2 i hi j, hr, if_pos (by decide)]
      refine okR hI ?_ (sF_at _ 9 0) (hlg.1.trans (Kp.f _ _))
      show (x_X6_laysWays (sL σ 45 g)).2.1 42 j * (x_X6_laysWays (sL σ 45 g)).2.1 43 i = x_X2_at_26 σ (nI j) * x_X2_at_28 σ (nI i)
      rw [at_r26 σ hj, at_r28 σ hi, hW.1 j hj hT2, hW.2.1 i hi hT, hlg.2.1 j (hA.2.1 j hT2), (hlg.2.2 i (Nat.zero_le _) (hA.2.1 i hT)).1]
    | false =>
      have e5 : x_X5_count σ (nI i) (nI j) = .inl az_NSE := by
        unfold x_X5_count
        rw [h5]; dsimp only
        rw [g5]; dsimp only
        rw [cites_at σ hi hj, hC.2.2.2.2.1 i hi j, hr, if_pos (by decide)]
      rw [e5, e6, if_neg (by rw [h6]; decide), if_neg (by rw [g6]; decide), p12g hi, shr1 _ hj, hM.2.2.2 i hi j, hr, if_neg (by decide)]
      exact ⟨fun _ => hEb 1, fun rv g h => (by cases h)⟩
  · have e5 : x_X5_count σ a b = .inl az_NSE := by
      unfold x_X5_count
      rcases h5 with h5 | ⟨h5, g5⟩
      · rw [h5]
      · rw [h5]; dsimp only
        rw [g5]
    have e7 : x_X6_count_ σ a b = (0, sF (x_X6_laysWays σ) 9 1) := by
      rw [e6]
      rcases h6 with h6 | ⟨h6, g6⟩
      · rw [if_pos h6]
      · rw [if_neg (by rw [h6]; decide), if_pos g6]
    rw [e5, e7]
    exact ⟨fun _ => hEb 1, fun rv g h => (by cases h)⟩
end AZD6
