/-! the tie between class and model; each call keeps it, and both answer alike -/
section AZD5
variable {σ : az_S} {n : Nat} {T : Nat → Bool} {Y : Nat → Int32} {R : Nat → Nat → Bool}
def INV (σ : az_S) : Prop := ∃ n T Y R, Ab n T R ∧ RM σ n T Y R ∧ RC σ n T Y R ∧ RG σ T R ∧ RW σ T R
theorem INV.kp {σ τ : az_S} (k : Kp σ τ) (h : INV σ) : INV τ := by
  obtain ⟨n, T, Y, R, hA, hM, hC, hG, hW⟩ := h
  exact ⟨n, T, Y, R, hA, k.RM hM, k.RC hC, hG.of (k.1 3 (by decide)) (k.1 4 (by decide)) (fun j h1 h2 => k.2.1 j (by omega)), hW.of (fun j h1 h2 => k.1 j (by omega)) (fun j h1 h2 => k.2.1 j (by omega))⟩
theorem INV.l {σ : az_S} (h : INV σ) (g : Nat → Int64) : INV (sL σ 45 g) := h
theorem INV.wf {σ : az_S} (h : INV σ) : az_wf σ := by
  obtain ⟨n, T, Y, R, hA, hM, _⟩ := h
  exact hM.wf hA.1
theorem sL_45 (σ : az_S) (g : Nat → Int64) : (sL σ 45 g).2.2 45 = g := by
  show va_up σ.2.2 45 g 45 = g
  exact va_up_self _ _ _
theorem okR {σ : az_S} {g : Nat → Int64} {q : Int32 × az_S} {v : Int32} (hI : INV σ) (h1 : q.1 = v) (h9 : q.2.1 9 = 0) (hK : Kp (sL σ 45 g) q.2) : az_wf (sL σ 45 g) ∧ q.2.1 9 = 0 ∧ q.1 = v ∧ q.2.2.2 45 = g ∧ INV q.2 :=
  ⟨hI.wf, h9, h1, hK.2.2.trans (sL_45 σ g), (hI.l g).kp hK⟩
theorem okE {σ : az_S} {q : Int32 × az_S} {c : Int32} (hI : INV σ) (h9 : q.2.1 9 = c) (hK : Kp σ q.2) : q.2.1 9 = c ∧ INV q.2 := ⟨h9, hI.kp hK⟩
/-! what the model lays leaves its word of the latest throw -/
theorem lw1 (σ : az_S) : (x_X6_laysWeights σ).1 = σ.1 := az_it_keep (fun s : az_S => s.1) (b := fun ι s => b_X6_laysWeights_2 ι s) (fun i s => by
  show (b_X6_laysWeights_2 i s).1 = s.1
  unfold b_X6_laysWeights_2
  dsimp only
  (repeat' split) <;> rfl) 144 0 σ
theorem tn1 (σ : az_S) : (x_X6_totalNow σ).2.1 = σ.1 := lw1 σ
theorem lf1 (σ : az_S) : (x_X6_laysFields σ).1 = σ.1 := by
  have e : x_X6_laysFields σ = (az_ws (fun s : Int32 × az_S => decide (s.1 = 0)) (fun ι s => b_X6_laysFields_51 (x_X6_totalNow σ).1 ι s.1 s.2) 13 0 (1, az_it (fun ι s => b_X6_laysFields_7 (x_X6_totalNow σ).1 ι s) 12 0 (x_X6_totalNow σ).2)).2 := rfl
  rw [e]
  generalize (x_X6_totalNow σ).1 = d
  have h1 := az_ws_keep (fun s : Int32 × az_S => s.2.1) (st := fun s : Int32 × az_S => decide (s.1 = 0)) (b := fun ι s => b_X6_laysFields_51 d ι s.1 s.2) (fun i s => by
    show (b_X6_laysFields_51 d i s.1 s.2).2.1 = s.2.1
    unfold b_X6_laysFields_51
    dsimp only
    split <;> rfl) 13 0 (1, az_it (fun ι s => b_X6_laysFields_7 d ι s) 12 0 (x_X6_totalNow σ).2)
  have h2 := az_it_keep (fun s : az_S => s.1) (b := fun ι s => b_X6_laysFields_7 d ι s) (fun i s => by
    show (b_X6_laysFields_7 d i s).1 = s.1
    unfold b_X6_laysFields_7
    dsimp only
    (repeat' split) <;> rfl) 12 0 (x_X6_totalNow σ).2
  exact h1.trans (h2.trans (tn1 σ))
theorem lays9 (σ : az_S) : (x_X6_laysFields (sF σ 9 0)).1 9 = 0 := by
  rw [lf1]
  exact sF_at σ 9 0
theorem wy1 (σ : az_S) : (x_X6_laysWays σ).1 = σ.1 := by
  have e : x_X6_laysWays σ = az_dn (fun ι s => b_X6_laysWays_89 ι s) (nn σ) (az_it (fun ι s => b_X6_laysWays_2 ι s) (nn σ) 0 σ) := rfl
  rw [e]
  have k32 : ∀ d n i (s : az_S), (az_it (fun ι s => b_X6_laysWays_32 d ι s) n i s).1 = s.1 := fun d => az_it_keep (fun s : az_S => s.1) (fun i s => by
    show (b_X6_laysWays_32 d i s).1 = s.1
    unfold b_X6_laysWays_32
    dsimp only
    split <;> rfl)
  have k123 : ∀ d n i (s : az_S), (az_it (fun ι s => b_X6_laysWays_123 d ι s) n i s).1 = s.1 := fun d => az_it_keep (fun s : az_S => s.1) (fun i s => by
    show (b_X6_laysWays_123 d i s).1 = s.1
    unfold b_X6_laysWays_123
    dsimp only
    split <;> rfl)
  have k174 : ∀ d n i (s : az_S), (az_it (fun ι s => b_X6_laysWays_174 d ι s) n i s).1 = s.1 := fun d => az_it_keep (fun s : az_S => s.1) (fun i s => by
    show (b_X6_laysWays_174 d i s).1 = s.1
    unfold b_X6_laysWays_174
    dsimp only
    (repeat' split) <;> rfl)
  have h1 := az_it_keep (fun s : az_S => s.1) (b := fun ι s => b_X6_laysWays_2 ι s) (fun i s => by
    show (b_X6_laysWays_2 i s).1 = s.1
    unfold b_X6_laysWays_2
    dsimp only
    split
    · rw [k32]; rfl
    · rw [k32]; rfl) (nn σ) 0 σ
  have h2 := az_dn_keep (fun s : az_S => s.1) (b := fun ι s => b_X6_laysWays_89 ι s) (fun i s => by
    show (b_X6_laysWays_89 i s).1 = s.1
    unfold b_X6_laysWays_89
    dsimp only
    split
    · rw [k174, k123]; rfl
    · rw [k174, k123]; rfl) (nn σ) (az_it (fun ι s => b_X6_laysWays_2 ι s) (nn σ) 0 σ)
  exact h2.trans h1
theorem INV0 : INV az_s0 := by
  have hA : Ab 0 (fun _ => false) (fun _ _ => false) := ⟨by decide, fun i h => (by cases h), fun i j h => (by cases h)⟩
  have hF : ∀ i p, fixF (fun _ => false) (fun _ _ => false) i p = false := fun i p => by
    cases h : fixF (fun _ => false) (fun _ _ => false) i p with
    | false => rfl
    | true => have := ((fixF_Pt _ _).1 i p h).2.2; cases this
  have hc : ∀ a b, tS (fun _ _ => false) a b = 0 := fun a b => cnt_no (fun _ => rfl) 12
  have hj : ∀ a b, tJ (fun _ _ => false) a b = 0 := fun a b => cnt_no (fun _ => rfl) 12
  have hw : ∀ a b, wW (fun _ _ => false) a b = 0 := fun a b => by
    unfold wW
    rw [hc, hj]
    split <;> rfl
  refine ⟨0, fun _ => false, fun _ => 0, fun _ _ => false, hA, ⟨rfl, fun i _ => ⟨fun _ => rfl, fun _ => rfl⟩, fun _ _ => rfl, fun _ _ j => Bt_zero j⟩, ⟨rfl, rfl, fun j => Bt_zero j, fun _ _ => rfl, fun _ _ j => Bt_zero j, fun _ _ j => Bt_zero j, fun a b _ _ => ?_, fun a b _ _ => ?_⟩, ⟨⟨fun i => ?_, fun i p _ h => ?_, fun p _ _ i _ h => ?_, fun i _ h => ?_, fun i j _ _ _ h => ?_⟩, ⟨?_, fun a b _ _ => ?_, fun a _ => ?_⟩, fun f _ h => ?_⟩, ⟨fun p _ h => (by cases h), fun p _ h => (by cases h), ?_, fun _ => -1, -1, 0, fun p _ => Or.inl ⟨fun _ _ => rfl, rfl⟩, Or.inl ⟨fun _ _ => rfl, rfl⟩, by decide, fun k hk => (by omega), rfl, rfl, Or.inl ⟨rfl, rfl⟩⟩⟩
  · rw [hc]; rfl
  · rw [hj]; rfl
  · rw [hF]; exact Bt_zero i
  · rw [hF] at h; cases h
  · rw [hF] at h; cases h
  · rw [hF] at h; cases h
  · rw [hF] at h; cases h
  · show (0 : Int32) = nI (tot (fun _ _ => false))
    have : tot (fun _ _ => false) = 0 := sN_zero (fun a _ => sN_zero (fun k _ => hw _ _))
    rw [this]; rfl
  · rw [hw]; rfl
  · have : stR (fun _ _ => false) a = 0 := sN_zero (fun k _ => hw _ _)
    rw [this]; rfl
  · rw [hF] at h; cases h
  · have : sN (fun i => if src (fun _ => false) (fun _ _ => false) i = true then wa (fun _ _ => false) i else 0) 12 = 0 := sN_zero (fun i _ => rfl)
    rw [this]; rfl
/-! one paper asked for -/
theorem sm_references_ok : sm_references INV := by
  intro σ a hI
  obtain ⟨n, T, Y, R, hA, hM, hC, hG, hW⟩ := id hI
  rcases paper_cases hC hM hA a with ⟨i, hi, rfl, hT, h5, h6⟩ | ⟨h5, h6⟩
  · have e5 : x_X5_references σ (nI i) = .inr (x_X3_referredBy σ (nI i)) := by unfold x_X5_references; rw [h5]
    rw [e5]
    refine ⟨fun h => (by cases h), fun rv g h => ?_⟩
    rw [← Sum.inr.inj h]
    have e6 : x_X6_references (sL σ 45 g) (nI i) = ((sL σ 45 g).2.1 39 (nI i).toNatClampNeg, sF (sL σ 45 g) 9 0) := by
      unfold x_X6_references
      rw [asks_yes (σ := sL σ 45 g) h6]
      rfl
    rw [e6]
    refine okR hI ?_ rfl (Kp.f _ _)
    show σ.2.1 39 (nI i).toNatClampNeg = _
    rw [p12g hi]
    exact set_eq (hM.2.2.2 i hi) (s5_referredBy hC hi)
  · have e5 : x_X5_references σ a = .inl az_NSE := by unfold x_X5_references; rw [h5]
    have e6 : x_X6_references σ a = (0, sF σ 9 1) := by
      unfold x_X6_references
      rw [asks_no h6]
      rfl
    rw [e5, e6]
    exact ⟨fun _ => okE hI rfl (Kp.f _ _), fun rv g h => (by cases h)⟩
theorem sm_citing_ok : sm_citing INV := by
  intro σ a hI
  obtain ⟨n, T, Y, R, hA, hM, hC, hG, hW⟩ := id hI
  rcases paper_cases hC hM hA a with ⟨i, hi, rfl, hT, h5, h6⟩ | ⟨h5, h6⟩
  · have e5 : x_X5_citing σ (nI i) = .inr (x_X3_citersOf σ (nI i)) := by unfold x_X5_citing; rw [h5]
    rw [e5]
    refine ⟨fun h => (by cases h), fun rv g h => ?_⟩
    rw [← Sum.inr.inj h]
    have e6 : x_X6_citing (sL σ 45 g) (nI i) = (x_X6_citers (sF (sL σ 45 g) 9 0) (nI i), sF (sL σ 45 g) 9 0) := by
      unfold x_X6_citing
      rw [asks_yes (σ := sL σ 45 g) h6]
      rfl
    rw [e6]
    refine okR hI ?_ rfl (Kp.f _ _)
    exact set_eq (citers_bits ((Kp.f (sL σ 45 g) 0).RM hM) hA hi) (s5_citersOf hC hi)
  · have e5 : x_X5_citing σ a = .inl az_NSE := by unfold x_X5_citing; rw [h5]
    have e6 : x_X6_citing σ a = (0, sF σ 9 1) := by
      unfold x_X6_citing
      rw [asks_no h6]
      rfl
    rw [e5, e6]
    exact ⟨fun _ => okE hI rfl (Kp.f _ _), fun rv g h => (by cases h)⟩
theorem sm_fieldOf_ok : sm_fieldOf INV := by
  intro σ a hI
  obtain ⟨n, T, Y, R, hA, hM, hC, hG, hW⟩ := id hI
  rcases paper_cases hC hM hA a with ⟨i, hi, rfl, hT, h5, h6⟩ | ⟨h5, h6⟩
  · have e5 : x_X5_fieldOf σ (nI i) = .inr (x_X0_groupOf σ (nI i)) := by unfold x_X5_fieldOf; rw [h5]
    rw [e5]
    refine ⟨fun h => (by cases h), fun rv g h => ?_⟩
    rw [← Sum.inr.inj h]
    have e6 : x_X6_fieldOf (sL σ 45 g) (nI i) = (az_it (fun ι s => b_X6_fieldOf_18 (x_X6_laysFields (sF (sL σ 45 g) 9 0)) (nI i) ι s) 12 0 (-1), x_X6_laysFields (sF (sL σ 45 g) 9 0)) := by
      unfold x_X6_fieldOf
      rw [asks_yes (σ := sL σ 45 g) h6]
      rfl
    have hfi := fields_is ((Kp.f (sL σ 45 g) 0).RM hM) hA
    have h9 : (x_X6_laysFields (sF (sL σ 45 g) 9 0)).1 9 = 0 := lays9 _
    have hsame := fieldOf_same hG.1 hfi.1.2.2.1 (fixF_Pt T R) hi hT
    have hK := (Kp.f (sL σ 45 g) 0).trans hfi.2
    rw [e6]
    generalize x_X6_laysFields (sF (sL σ 45 g) 9 0) = τ at h9 hsame hK ⊢
    exact okR hI hsame.symm h9 hK
  · have e5 : x_X5_fieldOf σ a = .inl az_NSE := by unfold x_X5_fieldOf; rw [h5]
    have e6 : x_X6_fieldOf σ a = (0, sF σ 9 1) := by
      unfold x_X6_fieldOf
      rw [asks_no h6]
      rfl
    rw [e5, e6]
    exact ⟨fun _ => okE hI rfl (Kp.f _ _), fun rv g h => (by cases h)⟩
theorem sm_heir_ok : sm_heir INV := by
  intro σ a hI
  obtain ⟨n, T, Y, R, hA, hM, hC, hG, hW⟩ := id hI
  rcases paper_cases hC hM hA a with ⟨i, hi, rfl, hT, h5, h6⟩ | ⟨h5, h6⟩
  · have e5 : x_X5_heir σ (nI i) = .inr (az_it (fun ι s => b_X5_heir_12 σ (nI i) ι s.1 s.2) 12 0 ((-1), 0)).1 := by unfold x_X5_heir; rw [h5]
    rw [e5]
    refine ⟨fun h => (by cases h), fun rv g h => ?_⟩
    rw [← Sum.inr.inj h]
    have e6 : x_X6_heir (sL σ 45 g) (nI i) = ((az_it (fun ι s => b_X6_heir_17 (sF (sL σ 45 g) 9 0) (nI i) ι s.1 s.2) (nn (sF (sL σ 45 g) 9 0)) 0 ((-1), (-1))).1, sF (sL σ 45 g) 9 0) := by
      unfold x_X6_heir
      rw [asks_yes (σ := sL σ 45 g) h6]
      rfl
    rw [e6]
    exact okR hI (heir_same hC ((Kp.f (sL σ 45 g) 0).RM hM) hA hi).symm rfl (Kp.f _ _)
  · have e5 : x_X5_heir σ a = .inl az_NSE := by unfold x_X5_heir; rw [h5]
    have e6 : x_X6_heir σ a = (0, sF σ 9 1) := by
      unfold x_X6_heir
      rw [asks_no h6]
      rfl
    rw [e5, e6]
    exact ⟨fun _ => okE hI rfl (Kp.f _ _), fun rv g h => (by cases h)⟩
/-! two papers asked for -/
theorem two_cases (hC : RC σ n T Y R) (hM : RM σ n T Y R) (hA : Ab n T R) (a b : Int32) : (∃ i j, i < 12 ∧ j < 12 ∧ a = nI i ∧ b = nI j ∧ T i = true ∧ T j = true ∧ x_X5_requirePaper σ a = .inr () ∧ x_X5_requirePaper σ b = .inr () ∧ x_X6_isPaper σ a = 1 ∧ x_X6_isPaper σ b = 1) ∨ ((x_X5_requirePaper σ a = .inl az_NSE ∨ (x_X5_requirePaper σ a = .inr () ∧ x_X5_requirePaper σ b = .inl az_NSE)) ∧ (x_X6_isPaper σ a = 0 ∨ (x_X6_isPaper σ a = 1 ∧ x_X6_isPaper σ b = 0))) := by
  rcases paper_cases hC hM hA a with ⟨i, hi, ha, hT, h5, h6⟩ | ⟨h5, h6⟩
  · rcases paper_cases hC hM hA b with ⟨j, hj, hb, hT2, g5, g6⟩ | ⟨g5, g6⟩
    · exact Or.inl ⟨i, j, hi, hj, ha, hb, hT, hT2, h5, g5, h6, g6⟩
    · exact Or.inr ⟨Or.inr ⟨h5, g5⟩, Or.inr ⟨h6, g6⟩⟩
  · exact Or.inr ⟨Or.inl h5, Or.inl h6⟩
theorem two_no {p q : Int32} (h : x_X6_isPaper σ p = 0 ∨ (x_X6_isPaper σ p = 1 ∧ x_X6_isPaper σ q = 0)) : x_X6_asksTwo σ p q = (0, sF σ 9 1) := asksTwo_no (h.elim Or.inl (fun z => Or.inr z.2))
theorem sm_shared_ok : sm_shared INV := by
  intro σ a b hI
  obtain ⟨n, T, Y, R, hA, hM, hC, hG, hW⟩ := id hI
  rcases two_cases hC hM hA a b with ⟨i, j, hi, hj, rfl, rfl, hT, hT2, h5, g5, h6, g6⟩ | ⟨h5, h6⟩
  · have e5 : x_X5_shared σ (nI i) (nI j) = .inr (x_X3_sharedOf σ (nI i) (nI j)) := by
      unfold x_X5_shared
      rw [h5]; dsimp only
      rw [g5]
    rw [e5]
    refine ⟨fun h => (by cases h), fun rv g h => ?_⟩
    rw [← Sum.inr.inj h]
    have e6 : x_X6_shared (sL σ 45 g) (nI i) (nI j) = (x_X6_count (sF (sL σ 45 g) 9 0) (σ.2.1 39 (nI i).toNatClampNeg &&& σ.2.1 39 (nI j).toNatClampNeg), sF (sL σ 45 g) 9 0) := by
      unfold x_X6_shared
      rw [asksTwo_yes (σ := sL σ 45 g) h6 g6]
      rfl
    rw [e6]
    refine okR hI ?_ rfl (Kp.f _ _)
    show x_X6_count (sF (sL σ 45 g) 9 0) (σ.2.1 39 (nI i).toNatClampNeg &&& σ.2.1 39 (nI j).toNatClampNeg) = _
    rw [p12g hi, p12g hj, s5_sharedOf hC hi hj]
    exact s6_shared ((Kp.f (sL σ 45 g) 0).RM hM) hi hj
  · have e5 : x_X5_shared σ a b = .inl az_NSE := by
      unfold x_X5_shared
      rcases h5 with h5 | ⟨h5, g5⟩
      · rw [h5]
      · rw [h5]; dsimp only
        rw [g5]
    have e6 : x_X6_shared σ a b = (0, sF σ 9 1) := by
      unfold x_X6_shared
      rw [two_no h6]
      rfl
    rw [e5, e6]
    exact ⟨fun _ => okE hI rfl (Kp.f _ _), fun rv g h => (by cases h)⟩
theorem sm_joint_ok : sm_joint INV := by
  intro σ a b hI
  obtain ⟨n, T, Y, R, hA, hM, hC, hG, hW⟩ := id hI
  rcases two_cases hC hM hA a b with ⟨i, j, hi, hj, rfl, rfl, hT, hT2, h5, g5, h6, g6⟩ | ⟨h5, h6⟩
  · have e5 : x_X5_joint σ (nI i) (nI j) = .inr (x_X3_jointOf σ (nI i) (nI j)) := by
      unfold x_X5_joint
      rw [h5]; dsimp only
      rw [g5]
    rw [e5]
    refine ⟨fun h => (by cases h), fun rv g h => ?_⟩
    rw [← Sum.inr.inj h]
    have e6 : x_X6_joint (sL σ 45 g) (nI i) (nI j) = (x_X6_count (sF (sL σ 45 g) 9 0) (x_X6_citers (sF (sL σ 45 g) 9 0) (nI i) &&& x_X6_citers (sF (sL σ 45 g) 9 0) (nI j)), sF (sL σ 45 g) 9 0) := by
      unfold x_X6_joint
      rw [asksTwo_yes (σ := sL σ 45 g) h6 g6]
      rfl
    rw [e6]
    refine okR hI ?_ rfl (Kp.f _ _)
    rw [s5_jointOf hC hi hj]
    exact s6_joint ((Kp.f (sL σ 45 g) 0).RM hM) hA hi hj
  · have e5 : x_X5_joint σ a b = .inl az_NSE := by
      unfold x_X5_joint
      rcases h5 with h5 | ⟨h5, g5⟩
      · rw [h5]
      · rw [h5]; dsimp only
        rw [g5]
    have e6 : x_X6_joint σ a b = (0, sF σ 9 1) := by
      unfold x_X6_joint
      rw [two_no h6]
      rfl
    rw [e5, e6]
    exact ⟨fun _ => okE hI rfl (Kp.f _ _), fun rv g h => (by cases h)⟩
theorem like_num (hC : RC σ n T Y R) (hA : Ab n T R) {i j : Nat} (hi : i < 12) (hj : j < 12) : x_X5_lowestTerm σ (x_X3_sharedOf σ (nI i) (nI j) * x_X3_sharedOf σ (nI i) (nI j)) (x_X3_sharedOf σ (nI i) (nI j) * x_X3_sharedOf σ (nI i) (nI j)) (x_X5_referencePairs σ (nI i) (nI j)) = if kR R i * kR R j = 0 then 0 else nI (tS R i j * tS R i j / Nat.gcd (tS R i j * tS R i j) (kR R i * kR R j)) := by
  rw [s5_sharedOf hC hi hj, pairs_is hC hA hi hj, nI_mul]
  have h1 := kR_le R i
  have h2 := kR_le R j
  have h3 := tS_le R i j
  have h4 : tS R i j ≤ 12 := by omega
  have hK : kR R i * kR R j ≤ 144 := Nat.mul_le_mul h1 h2
  have hU : tS R i j * tS R i j ≤ 144 := Nat.mul_le_mul h4 h4
  by_cases h0 : kR R i * kR R j = 0
  · rw [if_pos h0, h0]
    have ht : tS R i j = 0 := by
      rcases Nat.mul_eq_zero.mp h0 with z | z <;> omega
    rw [ht]
    rfl
  · rw [if_neg h0, lowest_is σ (by omega) hK (by omega) (by omega)]
theorem like_den (hC : RC σ n T Y R) (hA : Ab n T R) {i j : Nat} (hi : i < 12) (hj : j < 12) : (if x_X5_referencePairs σ (nI i) (nI j) = 0 then (1 : Int32) else x_X5_lowestTerm σ (x_X5_referencePairs σ (nI i) (nI j)) (x_X3_sharedOf σ (nI i) (nI j) * x_X3_sharedOf σ (nI i) (nI j)) (x_X5_referencePairs σ (nI i) (nI j))) = if kR R i * kR R j = 0 then 1 else nI (kR R i * kR R j / Nat.gcd (tS R i j * tS R i j) (kR R i * kR R j)) := by
  rw [s5_sharedOf hC hi hj, pairs_is hC hA hi hj, nI_mul]
  have h1 := kR_le R i
  have h2 := kR_le R j
  have h3 := tS_le R i j
  have h4 : tS R i j ≤ 12 := by omega
  have hK : kR R i * kR R j ≤ 144 := Nat.mul_le_mul h1 h2
  have hU : tS R i j * tS R i j ≤ 144 := Nat.mul_le_mul h4 h4
  have hz : nI (kR R i * kR R j) = 0 ↔ kR R i * kR R j = 0 := nI_eq (b := 0) (by omega) (by omega)
  by_cases h0 : kR R i * kR R j = 0
  · rw [if_pos (hz.mpr h0), if_pos h0]
  · rw [if_neg (fun z => h0 (hz.mp z)), if_neg h0, lowest_is σ (by omega) hK (by omega) (by omega)]
theorem sm_likenessNumerator_ok : sm_likenessNumerator INV := by
  intro σ a b hI
  obtain ⟨n, T, Y, R, hA, hM, hC, hG, hW⟩ := id hI
  rcases two_cases hC hM hA a b with ⟨i, j, hi, hj, rfl, rfl, hT, hT2, h5, g5, h6, g6⟩ | ⟨h5, h6⟩
  · have e5 : x_X5_likenessNumerator σ (nI i) (nI j) = .inr (x_X5_lowestTerm σ (x_X3_sharedOf σ (nI i) (nI j) * x_X3_sharedOf σ (nI i) (nI j)) (x_X3_sharedOf σ (nI i) (nI j) * x_X3_sharedOf σ (nI i) (nI j)) (x_X5_referencePairs σ (nI i) (nI j))) := by
      unfold x_X5_likenessNumerator
      rw [h5]; dsimp only
      rw [g5]
    rw [e5]
    refine ⟨fun h => (by cases h), fun rv g h => ?_⟩
    rw [← Sum.inr.inj h]
    have e6 : x_X6_likenessNumerator (sL σ 45 g) (nI i) (nI j) = (x_X6_likeness (sF (sL σ 45 g) 9 0) (nI i) (nI j) 1, sF (sL σ 45 g) 9 0) := by
      unfold x_X6_likenessNumerator
      rw [asksTwo_yes (σ := sL σ 45 g) h6 g6]
      rfl
    rw [e6]
    refine okR hI ?_ rfl (Kp.f _ _)
    rw [like_num hC hA hi hj, s6_likeness ((Kp.f (sL σ 45 g) 0).RM hM) hi hj 1, if_neg (by decide : ¬ (1 : Int32) = 0), if_neg (by decide : ¬ (1 : Int32) = 0)]
  · have e5 : x_X5_likenessNumerator σ a b = .inl az_NSE := by
      unfold x_X5_likenessNumerator
      rcases h5 with h5 | ⟨h5, g5⟩
      · rw [h5]
      · rw [h5]; dsimp only
        rw [g5]
    have e6 : x_X6_likenessNumerator σ a b = (0, sF σ 9 1) := by
      unfold x_X6_likenessNumerator
      rw [two_no h6]
      rfl
    rw [e5, e6]
    exact ⟨fun _ => okE hI rfl (Kp.f _ _), fun rv g h => (by cases h)⟩
theorem sm_likenessDenominator_ok : sm_likenessDenominator INV := by
  intro σ a b hI
  obtain ⟨n, T, Y, R, hA, hM, hC, hG, hW⟩ := id hI
  rcases two_cases hC hM hA a b with ⟨i, j, hi, hj, rfl, rfl, hT, hT2, h5, g5, h6, g6⟩ | ⟨h5, h6⟩
  · have e5 : x_X5_likenessDenominator σ (nI i) (nI j) = .inr (if x_X5_referencePairs σ (nI i) (nI j) = 0 then (1 : Int32) else x_X5_lowestTerm σ (x_X5_referencePairs σ (nI i) (nI j)) (x_X3_sharedOf σ (nI i) (nI j) * x_X3_sharedOf σ (nI i) (nI j)) (x_X5_referencePairs σ (nI i) (nI j))) := by
      unfold x_X5_likenessDenominator
      rw [h5]; dsimp only
      rw [g5]; dsimp only
      split <;> rfl
    rw [e5]
    refine ⟨fun h => (by cases h), fun rv g h => ?_⟩
    rw [← Sum.inr.inj h]
    have e6 : x_X6_likenessDenominator (sL σ 45 g) (nI i) (nI j) = (x_X6_likeness (sF (sL σ 45 g) 9 0) (nI i) (nI j) 0, sF (sL σ 45 g) 9 0) := by
      unfold x_X6_likenessDenominator
      rw [asksTwo_yes (σ := sL σ 45 g) h6 g6]
      rfl
    rw [e6]
    refine okR hI ?_ rfl (Kp.f _ _)
    rw [like_den hC hA hi hj, s6_likeness ((Kp.f (sL σ 45 g) 0).RM hM) hi hj 0, if_pos rfl, if_pos rfl]
  · have e5 : x_X5_likenessDenominator σ a b = .inl az_NSE := by
      unfold x_X5_likenessDenominator
      rcases h5 with h5 | ⟨h5, g5⟩
      · rw [h5]
      · rw [h5]; dsimp only
        rw [g5]
    have e6 : x_X6_likenessDenominator σ a b = (0, sF σ 9 1) := by
      unfold x_X6_likenessDenominator
      rw [two_no h6]
      rfl
    rw [e5, e6]
    exact ⟨fun _ => okE hI rfl (Kp.f _ _), fun rv g h => (by cases h)⟩
end AZD5
