/-! places of the main way; papers come and are withdrawn; all together -/
section AZD7
variable {σ : az_S} {n : Nat} {T : Nat → Bool} {Y : Nat → Int32} {R : Nat → Nat → Bool}
theorem in_len {len : Nat} (hl : len ≤ 12) (τ : az_S) (a : Int32) : (∃ j, j < len ∧ a = nI j ∧ x_X6_isIn τ a 0 (nI len - 1) = 1) ∨ ((a < 0 ∨ ¬ a < nI len) ∧ x_X6_isIn τ a 0 (nI len - 1) = 0) := by
  have e6 : x_X6_isIn τ a 0 (nI len - 1) = if a < 0 then 0 else if nI len - 1 < a then 0 else 1 := rfl
  rw [e6]
  by_cases h0 : a < 0
  · rw [if_pos h0]; exact Or.inr ⟨Or.inl h0, rfl⟩
  · rw [if_neg h0]
    obtain ⟨k, hk, rfl⟩ := nI_of h0
    by_cases hkl : k < len
    · have e : nI len - 1 = nI (len - 1) := by rw [show len = (len - 1) + 1 by omega]; exact nI_pred _
      rw [e, if_neg (nI_nlt (by omega) (by omega))]
      exact Or.inl ⟨k, hkl, rfl, rfl⟩
    · refine Or.inr ⟨Or.inr (nI_nlt (by omega) hk), ?_⟩
      rw [if_pos]
      by_cases h1 : len = 0
      · rw [h1, Int32.lt_iff_toInt_lt, nI_toInt hk, show (nI 0 - 1 : Int32).toInt = -1 from by decide]
        omega
      · have e : nI len - 1 = nI (len - 1) := by rw [show len = (len - 1) + 1 by omega]; exact nI_pred _
        rw [e]
        exact nI_lt (by omega) hk
theorem place_is (hW : RW σ T R) {τ : az_S} (hM : RM τ n T Y R) (hA : Ab n T R) (a : Int32) : mAt_ok τ a ∧
    ((∃ j, j < 12 ∧ a = nI j ∧ nI j < σ.1 6 ∧ ∃ υ, x_X6_mainAt τ a = (σ.2.1 35 j, υ) ∧ Kp τ υ ∧ υ.1 9 = 0) ∨ ((a < 0 ∨ ¬ a < σ.1 6) ∧ ∃ υ, x_X6_mainAt τ a = (0, υ) ∧ Kp τ υ ∧ υ.1 9 = 1)) := by
  obtain ⟨hK, hL⟩ := laysWays_is hM hA
  have hM1 : RM (sF (x_X6_laysWays τ) 9 0) n T Y R := (Kp.f _ 0).RM (hK.RM hM)
  obtain ⟨f, w, len, e, h1, h2, h3, h4, h5, h6, h7⟩ := first_same hW hM1 hA
  obtain ⟨hK2, hL2⟩ := laysWays_is hM1 hA
  have hM2 := hK2.RM hM1
  have hlen := length_same hW hM hA
  have e6 : x_X6_mainAt τ a = if x_X6_isIn (x_X6_length τ).2 a 0 ((x_X6_length τ).1 - 1) = 0 then ((0 : Int32), sF (x_X6_length τ).2 9 1) else (az_it (fun ι s => b_X6_mainAt_35 (x_X6_first (sF (x_X6_length τ).2 9 0)).2 a ι s) a.toNatClampNeg 0 (x_X6_first (sF (x_X6_length τ).2 9 0)).1, (x_X6_first (sF (x_X6_length τ).2 9 0)).2) := rfl
  have emo : mAt_ok τ a = (¬ x_X6_isIn (x_X6_length τ).2 a 0 ((x_X6_length τ).1 - 1) = 0 → ∀ k : Nat, k < a.toNatClampNeg → vp_in (ch (x_X6_first (sF (x_X6_length τ).2 9 0)).2 (x_X6_first (sF (x_X6_length τ).2 9 0)).1 k) (nn (x_X6_first (sF (x_X6_length τ).2 9 0)).2)) := rfl
  rw [emo, e6, hlen]
  dsimp only
  rw [e, h6]
  dsimp only
  have h9 : (x_X6_laysWays (sF (x_X6_laysWays τ) 9 0)).1 9 = 0 := by rw [wy1]; exact sF_at _ 9 0
  have hKK : Kp τ (x_X6_laysWays (sF (x_X6_laysWays τ) 9 0)) := (hK.trans (Kp.f _ _)).trans hK2
  have hKE : Kp τ (sF (x_X6_laysWays τ) 9 1) := hK.trans (Kp.f _ _)
  have hE9 : (sF (x_X6_laysWays τ) 9 1).1 9 = 1 := sF_at _ 9 1
  generalize x_X6_laysWays (sF (x_X6_laysWays τ) 9 0) = υ at hL2 hM2 h9 hKK ⊢
  generalize sF (x_X6_laysWays τ) 9 1 = υ1 at hKE hE9 ⊢
  generalize x_X6_laysWays τ = υ2
  have hch := ch_is hM2 hA hL2 h1 h2 (fun k hk => (h4 k hk).1)
  rcases in_len h3 υ2 a with ⟨j, hj, rfl, hin⟩ | ⟨hout, hin⟩
  · rw [hin, nI_clamp (by omega)]
    refine ⟨fun _ k hk => ?_, Or.inl ⟨j, by omega, rfl, nI_lt hj (by omega), υ, ?_, hKK, h9⟩⟩
    · rw [hch k (by omega), hM2.nn hA.1]
      obtain ⟨_, p, hp, e9⟩ := chain_step hM2 hA hL2 h1 h2 (h4 k (by omega)).1
      rw [e9]
      have := hA.1
      exact vp_in_nI hp (by omega)
    · rw [if_neg (by decide), at_is, hch j (by omega), (h4 j hj).2]
  · rw [hin]
    refine ⟨fun z => absurd rfl z, Or.inr ⟨hout, υ1, by rw [if_pos rfl], hKE, hE9⟩⟩
theorem sm_mainAt_ok : sm_mainAt INV := by
  intro σ a hI
  obtain ⟨n, T, Y, R, hA, hM, hC, hG, hW⟩ := id hI
  have e5 : x_X5_mainAt σ a = if a < 0 then .inl az_IOB else if a < σ.1 6 then .inr (x_X2_at_34 σ a) else .inl az_IOB := rfl
  obtain ⟨hmo, hp⟩ := place_is hW hM hA a
  refine ⟨fun h => ?_, fun rv g h => ?_⟩
  · rcases hp with ⟨j, hj, rfl, hlt, _⟩ | ⟨_, υ, e6, hK, h9⟩
    · rw [e5, if_neg (p12a hj), if_pos hlt] at h
      cases h
    · rw [e6]
      exact ⟨hmo, h9, hI.kp hK⟩
  · obtain ⟨hmo2, hp2⟩ := place_is (τ := sL σ 45 g) hW hM hA a
    rcases hp2 with ⟨j, hj, rfl, hlt, υ, e6, hK, h9⟩ | ⟨hout, _⟩
    · rw [e5, if_neg (p12a hj), if_pos hlt] at h
      have hv := Sum.inr.inj h
      rw [at_r34 σ hj] at hv
      rw [e6]
      obtain ⟨q1, q2⟩ := okR (q := (σ.2.1 35 j, υ)) hI hv h9 hK
      exact ⟨q1, hmo2, q2⟩
    · exfalso
      rw [e5] at h
      by_cases h0 : a < 0
      · rw [if_pos h0] at h; cases h
      · rw [if_neg h0, if_neg (hout.resolve_left h0)] at h; cases h
/-! all maps made anew -/
theorem anew_is (h : RC σ n T Y R) (hA : Ab n T R) : RC (x_X5_mapAnew σ) n T Y R ∧ RG (x_X5_mapAnew σ) T R ∧ RW (x_X5_mapAnew σ) T R ∧ Kc σ (x_X5_mapAnew σ) := by
  obtain ⟨a, b, c⟩ := group_is h hA
  obtain ⟨d, e, f, g⟩ := routes_is a hA
  have e0 : x_X5_mapAnew σ = x_X1_findAnew (x_X0_findAnew σ) := rfl
  rw [e0]
  exact ⟨a.up (fun k hk => f k (by omega)) (fun k hk => g k (by omega)), b.of (f 3 (by decide)) (f 4 (by decide)) (fun k h1 h2 => g k (by omega)), d, c.trans e⟩
theorem INV.from {τ : az_S} {k : Nat} (hA : Ab n T R) (hM : RM τ n T Y R) (hC : RC σ n T Y R) (hG : RG σ T R) (hW : RW σ T R) (h1 : ∀ k, k ≤ 7 → τ.1 k = σ.1 k) (h2 : ∀ k, k ≤ 36 → τ.2.1 k = σ.2.1 k) : INV τ :=
  ⟨n, T, Y, R, hA, hM, hC.up (fun k hk => h1 k (by omega)) (fun k hk => h2 k (by omega)), hG.of (h1 3 (by decide)) (h1 4 (by decide)) (fun k q1 q2 => h2 k (by omega)), hW.of (fun k q1 q2 => h1 k (by omega)) (fun k q1 q2 => h2 k (by omega))⟩
theorem sm_withdraw_ok : sm_withdraw INV := by
  intro σ a hI
  obtain ⟨n, T, Y, R, hA, hM, hC, hG, hW⟩ := id hI
  rcases paper_cases hC hM hA a with ⟨i, hi, rfl, hT, h5, h6⟩ | ⟨h5, h6⟩
  · have e5 : x_X5_withdraw σ (nI i) = .inr (x_J6_bitCount_0f7a4 σ (x_X3_citersOf σ (nI i)), x_X5_mapAnew (x_X3_take σ (nI i))) := by unfold x_X5_withdraw; rw [h5]
    rw [e5]
    refine ⟨fun h => (by cases h), fun rv g h => ?_⟩
    rw [← Sum.inr.inj h]
    obtain ⟨t1, t2⟩ := take_is hC hA hi
    obtain ⟨m1, m2, m3, m4⟩ := anew_is t1 (hA.go i)
    have hK := t2.trans m4
    dsimp only
    generalize x_X5_mapAnew (x_X3_take σ (nI i)) = τ at m1 m2 m3 hK ⊢
    have hMτ : RM (sL τ 45 g) n T Y R := hK.RM hM
    obtain ⟨υ, e6, u1, u2, u3, u4, u5⟩ := xgo_is hMτ hA hi hT
    rw [e6]
    refine ⟨hMτ.wf hA.1, u5, ?_, ?_, ?_⟩
    · show nI (cnt (fun k => R k i) 12) = x_J6_bitCount_0f7a4 σ (x_X2_at_6 σ (nI i))
      rw [at_r6 σ hi, bitCount_cnt σ (citers_M12 hC hA hi), cnt_congr (fun k _ => hC.2.2.2.2.2.1 i hi k)]
    · show υ.2.2 45 = g
      rw [u4]; exact sL_45 τ g
    · exact INV.from (k := 0) (σ := sL τ 45 g) (hA.go i) u1 m1 m2 m3 (fun k hk => u2 k (by omega)) u3
  · have e5 : x_X5_withdraw σ a = .inl az_NSE := by unfold x_X5_withdraw; rw [h5]
    have e6 : x_X6_withdraw σ a = (0, sF σ 9 1) := by
      unfold x_X6_withdraw
      rw [asks_no h6]
      rfl
    rw [e5, e6]
    exact ⟨fun _ => okE hI rfl (Kp.f _ _), fun rv g h => (by cases h)⟩
theorem least_is (hM : RM σ n T Y R) (hn : n ≤ 12) : (if σ.1 8 = 0 then 0 else σ.2.1 38 (σ.1 8 - 1).toNatClampNeg) = if n = 0 then 0 else Y (n - 1) := by
  rw [hM.1]
  have hz : nI n = 0 ↔ n = 0 := nI_eq (b := 0) (by omega) (by omega)
  by_cases h0 : n = 0
  · rw [if_pos (hz.mpr h0), if_pos h0]
  · have e : nI n - 1 = nI (n - 1) := by
      have := nI_pred (n - 1)
      rw [show n - 1 + 1 = n by omega] at this
      exact this
    rw [if_neg (fun z => h0 (hz.mp z)), if_neg h0, e, nI_clamp (by omega)]
    exact hM.2.2.1 (n - 1) (by omega)
theorem sm_come_ok : sm_come INV := by
  intro σ a b hI
  obtain ⟨n, T, Y, R, hA, hM, hC, hG, hW⟩ := id hI
  have hn := hA.1
  have e5 : x_X5_come σ a b = if x_X3_takesYear σ a = 0 then .inl az_IAE else if x_X3_hasAll σ b = 0 then .inl az_IAE else if x_X3_isFull σ = 0 then .inr ((x_X3_put σ a b).1, x_X5_mapAnew (x_X3_put σ a b).2) else .inl az_ISE := rfl
  have eY : ∀ τ, x_X3_takesYear σ a = x_X6_isIn τ a (if n = 0 then 0 else Y (n - 1)) 99 := fun τ => by
    have : x_X3_takesYear σ a = if a < σ.1 1 then 0 else if 99 < a then 0 else 1 := rfl
    rw [this, hC.2.1]
    rfl
  have eA : ∀ τ, RM τ n T Y R → (x_X3_hasAll σ b = 0 ↔ ¬ (b &&& (x_X6_all τ ^^^ (-1))) = 0) := fun τ hMτ => by
    have h1 : x_X3_hasAll σ b = if (b &&& (σ.1 2 ^^^ (-1))) = 0 then 1 else 0 := rfl
    have h2 : x_X6_all τ = σ.1 2 := set_eq (all_bits hMτ hA) hC.2.2.1
    rw [h1, h2]
    by_cases h : (b &&& (σ.1 2 ^^^ (-1))) = 0
    · rw [if_pos h]
      exact ⟨fun z => absurd z (by decide), fun z => absurd h z⟩
    · rw [if_neg h]
      exact ⟨fun _ => h, fun _ => rfl⟩
  have eF : x_X3_isFull σ = 0 ↔ n < 12 := by
    have h1 : x_X3_isFull σ = if σ.1 0 < 12 then 0 else 1 := rfl
    rw [h1, hC.1]
    by_cases h : n < 12
    · rw [if_pos (show nI n < 12 from nI_lt (b := 12) h (by decide))]
      exact ⟨fun _ => h, fun _ => rfl⟩
    · rw [if_neg (show ¬ nI n < 12 from nI_nlt (b := 12) (by omega) (by omega))]
      exact ⟨fun z => absurd z (by decide), fun z => absurd z h⟩
  have e8 : ∀ τ, RM τ n T Y R → (τ.1 8 = 12 ↔ n = 12) := fun τ hMτ => by
    rw [hMτ.1]
    exact nI_eq (b := 12) (by omega) (by decide)
  have key : ∀ τ, RM τ n T Y R → x_X6_come τ a b = if x_X3_takesYear σ a = 0 then (0, sF τ 9 1) else if x_X3_hasAll σ b = 0 then (0, sF τ 9 1) else if n = 12 then (0, sF τ 9 2) else (τ.1 8 + 1 - 1, comeD τ a b) := fun τ hMτ => by
    rw [xcome_is, least_is hMτ hn, ← eY τ]
    by_cases h1 : x_X3_takesYear σ a = 0
    · rw [if_pos h1, if_pos h1]
    · rw [if_neg h1, if_neg h1]
      by_cases h2 : x_X3_hasAll σ b = 0
      · rw [if_neg ((eA τ hMτ).mp h2), if_pos h2]
      · have : (b &&& (x_X6_all τ ^^^ (-1))) = 0 := by
          by_cases z : (b &&& (x_X6_all τ ^^^ (-1))) = 0
          · exact z
          · exact absurd ((eA τ hMτ).mpr z) h2
        rw [if_pos this, if_neg h2]
        by_cases h3 : n = 12
        · rw [if_pos ((e8 τ hMτ).mpr h3), if_pos h3]
        · rw [if_neg (fun z => h3 ((e8 τ hMτ).mp z)), if_neg h3]
  refine ⟨fun h => ?_, fun h => ?_, fun rv g h => ?_⟩
  · rw [key σ hM]
    rw [e5] at h
    by_cases h1 : x_X3_takesYear σ a = 0
    · rw [if_pos h1]; exact okE hI rfl (Kp.f _ _)
    · rw [if_neg h1] at h ⊢
      by_cases h2 : x_X3_hasAll σ b = 0
      · rw [if_pos h2]; exact okE hI rfl (Kp.f _ _)
      · rw [if_neg h2] at h
        by_cases h3 : x_X3_isFull σ = 0
        · rw [if_pos h3] at h; cases h
        · rw [if_neg h3] at h
          exact absurd (Sum.inl.inj h).symm IAE_ISE
  · rw [key σ hM]
    rw [e5] at h
    by_cases h1 : x_X3_takesYear σ a = 0
    · rw [if_pos h1] at h; exact absurd (Sum.inl.inj h) IAE_ISE
    · rw [if_neg h1] at h ⊢
      by_cases h2 : x_X3_hasAll σ b = 0
      · rw [if_pos h2] at h; exact absurd (Sum.inl.inj h) IAE_ISE
      · rw [if_neg h2] at h ⊢
        by_cases h3 : x_X3_isFull σ = 0
        · rw [if_pos h3] at h; cases h
        · have : n = 12 := by
            have : ¬ n < 12 := fun z => h3 (eF.mpr z)
            omega
          rw [if_pos this]
          exact okE hI rfl (Kp.f _ _)
  · rw [e5] at h
    by_cases h1 : x_X3_takesYear σ a = 0
    · rw [if_pos h1] at h; cases h
    · rw [if_neg h1] at h
      by_cases h2 : x_X3_hasAll σ b = 0
      · rw [if_pos h2] at h; cases h
      · rw [if_neg h2] at h
        by_cases h3 : x_X3_isFull σ = 0
        · rw [if_pos h3] at h
          have hn12 := eF.mp h3
          have hrf : ∀ j, Bt b j = true → T j = true := fun j hj => by
            have hz : (b &&& (x_X6_all σ ^^^ (-1))) = 0 := by
              by_cases z : (b &&& (x_X6_all σ ^^^ (-1))) = 0
              · exact z
              · exact absurd ((eA σ hM).mpr z) h2
            have h9 : Bt (b &&& (x_X6_all σ ^^^ (-1))) j = false := by rw [hz, Bt_zero]
            rw [Bt_and, hj, Bt_not, all_bits hM hA j] at h9
            have hj32 : j < 32 := by
              by_cases z : j < 32
              · exact z
              · rw [Bt_big (by omega)] at hj; cases hj
            cases ht : T j with
            | true => rfl
            | false => rw [ht] at h9; simp [hj32] at h9
          obtain ⟨p1, p2, p3⟩ := put_is hC hA hn12 (y := a) hrf
          have hA2 := hA.come hn12 hrf
          obtain ⟨m1, m2, m3, m4⟩ := anew_is p2 hA2
          have hK := p3.trans m4
          rw [← Sum.inr.inj h]
          dsimp only
          rw [p1]
          generalize x_X5_mapAnew (x_X3_put σ a b).2 = τ at m1 m2 m3 hK ⊢
          have hMτ : RM (sL τ 45 g) n T Y R := hK.RM hM
          rw [key (sL τ 45 g) hMτ, if_neg h1, if_neg h2, if_neg (by omega)]
          obtain ⟨c1, c2, c3, c4⟩ := comeD_Kp (sL τ 45 g) a b
          refine ⟨hMτ.wf hn, c4, ?_, ?_, ?_⟩
          · show (sL τ 45 g).1 8 + 1 - 1 = nI n
            rw [hMτ.1, nI_1]
            exact nI_pred n
          · show (comeD (sL τ 45 g) a b).2.2 45 = g
            rw [c3]; exact sL_45 τ g
          · exact INV.from (k := 0) (σ := sL τ 45 g) hA2 (comeD_is hMτ hA hn12) m1 m2 m3 c1 c2
        · rw [if_neg h3] at h; cases h
theorem law_sim_ok : law_sim INV := ⟨fun σ h => h.wf, sm_come_ok, sm_withdraw_ok, sm_papers_ok, sm_references_ok, sm_citing_ok, sm_shared_ok, sm_joint_ok, sm_totalAnew_ok, sm_total_ok, sm_likenessNumerator_ok, sm_likenessDenominator_ok, sm_fieldOf_ok, sm_fields_ok, sm_gain_ok, sm_split_ok, sm_count_ok, sm_ways_ok, sm_mainLength_ok, sm_mainAt_ok, sm_mainSum_ok, sm_rise_ok, sm_riser_ok, sm_heir_ok⟩
end AZD7
