/-! fields: their start -/
section AZC1
variable {σ : az_S} {n : Nat} {T : Nat → Bool} {Y : Nat → Int32} {R : Nat → Nat → Bool}
theorem wS_sym (R : Nat → Nat → Bool) (P Q : Nat → Bool) : wS R P Q = wS R Q P := by
  unfold wS
  rw [sN_comm]
  apply sN_congr
  intro a ha
  apply sN_congr
  intro b hb
  rw [wW_sym R b a, Bool.and_comm]
theorem wS_or (R : Nat → Nat → Bool) {P P' : Nat → Bool} (Q : Nat → Bool) (h : ∀ i, i < 12 → (P i && P' i) = false) : wS R (fun i => P i || P' i) Q = wS R P Q + wS R P' Q := by
  unfold wS
  rw [← sN_add]
  apply sN_congr
  intro a ha
  rw [← sN_add]
  apply sN_congr
  intro b hb
  have := h a ha
  show (if ((P a || P' a) && Q b) = true then wW R a b else 0) = (if (P a && Q b) = true then wW R a b else 0) + (if (P' a && Q b) = true then wW R a b else 0)
  revert this
  cases P a <;> cases P' a <;> cases Q b <;> simp
theorem sN_pick {f : Nat → Nat} {i : Nat} : ∀ {m : Nat}, sN (fun a => if (a == i) = true then f a else 0) m = if i < m then f i else 0
  | 0 => rfl
  | m + 1 => by
    unfold sN
    rw [sN_pick (m := m)]
    by_cases e : m = i
    · subst e
      have h1 : ¬ m < m := by omega
      have h2 : m < m + 1 := by omega
      simp [h1, h2]
    · have e2 : (m == i) = false := by simp [e]
      rw [e2]
      by_cases h : i < m
      · have : i < m + 1 := by omega
        simp [h, this]
      · have : ¬ i < m + 1 := by omega
        simp [h, this]
/-- the fields at first -/
def fF0 (T : Nat → Bool) : Nat → Nat → Bool := fun i p => p == i && T p
def stR (R : Nat → Nat → Bool) (a : Nat) : Nat := sN (wW R a) 12
theorem wS_one (hA : Ab n T R) {i : Nat} (hi : i < 12) (hT : T i = true) (Q : Nat → Bool) : wS R (fF0 T i) Q = sN (fun b => if Q b = true then wW R i b else 0) 12 := by
  unfold wS
  have e : ∀ a, a < 12 → sN (fun b => if (fF0 T i a && Q b) = true then wW R a b else 0) 12 = if (a == i) = true then sN (fun b => if Q b = true then wW R i b else 0) 12 else 0 := by
    intro a ha
    unfold fF0
    by_cases e : a = i
    · subst e
      rw [beq_self_eq_true, hT, if_pos rfl]
      rfl
    · have e2 : (a == i) = false := by simp [e]
      rw [e2, if_neg (by decide)]
      exact sN_zero (fun _ _ => rfl)
  rw [sN_congr e, sN_pick, if_pos hi]
theorem wS_oneT (hA : Ab n T R) {i : Nat} (hi : i < 12) (hT : T i = true) : wS R (fF0 T i) T = stR R i := by
  rw [wS_one hA hi hT]
  apply sN_congr
  intro b hb
  cases h2 : T b with
  | false => rw [wW_sym, wW_off hA h2]; rfl
  | true => rfl
theorem wS_two (hA : Ab n T R) {i j : Nat} (hi : i < 12) (hj : j < 12) (hT : T i = true) (hT2 : T j = true) : wS R (fF0 T i) (fF0 T j) = wW R i j := by
  rw [wS_one hA hi hT]
  have e : ∀ b, b < 12 → (if fF0 T j b = true then wW R i b else 0) = if (b == j) = true then wW R i b else 0 := by
    intro b hb
    unfold fF0
    by_cases e : b = j
    · subst e; rw [beq_self_eq_true, hT2]; rfl
    · have e2 : (b == j) = false := by simp [e]
      rw [e2]; rfl
  rw [sN_congr e, sN_pick, if_pos hj]
/-- what the grouping holds: F are the fields -/
def RJ (σ : az_S) (T : Nat → Bool) (R : Nat → Nat → Bool) (F : Nat → Nat → Bool) : Prop :=
  (∀ i, Bt (σ.1 3) i = F i i) ∧ (∀ i p, p < 12 → F i p = true → σ.2.1 14 p = nI i) ∧ (∀ p, p < 12 → T p = false → ∀ i, i < 12 → F i i = true → ¬ σ.2.1 14 p = nI i) ∧
  (∀ i, i < 12 → F i i = true → σ.2.1 20 i = nI (wS R (F i) T)) ∧ (∀ i j, i < 12 → j < 12 → i ≠ j → F i i = true → F j j = true → σ.2.1 24 (i * 12 + j) = nI (wS R (F i) (F j)))
def RP (σ : az_S) (R : Nat → Nat → Bool) : Prop :=
  σ.1 4 = nI (tot R) ∧ (∀ a b, a < 12 → b < 12 → σ.2.1 22 (a * 12 + b) = nI (wW R a b)) ∧ (∀ a, a < 12 → σ.2.1 18 a = nI (stR R a))
def Pt (T : Nat → Bool) (F : Nat → Nat → Bool) : Prop :=
  (∀ i p, F i p = true → F i i = true ∧ i ≤ p ∧ T p = true) ∧ (∀ i j p, F i p = true → F j p = true → i = j) ∧ (∀ p, T p = true → ∃ i, F i p = true)
theorem Pt0 (T : Nat → Bool) : Pt T (fF0 T) := by
  refine ⟨fun i p h => ?_, fun i j p h h2 => ?_, fun p h => ⟨p, ?_⟩⟩
  · unfold fF0 at h ⊢
    rw [Bool.and_eq_true, beq_iff_eq] at h
    obtain ⟨rfl, h⟩ := h
    exact ⟨by rw [h]; simp, Nat.le_refl _, h⟩
  · unfold fF0 at h h2
    rw [Bool.and_eq_true, beq_iff_eq] at h h2
    rw [← h.1, ← h2.1]
  · unfold fF0
    rw [h]; simp
theorem Fr.RC {ks : List Nat} {σ τ : az_S} (k : Fr ks σ τ) (hk : ∀ j, j ∈ ks → 12 ≤ j) {n : Nat} {T : Nat → Bool} {Y : Nat → Int32} {R : Nat → Nat → Bool} (h : RC σ n T Y R) : RC τ n T Y R := by
  obtain ⟨h1, h2, h3, h4, h5⟩ := h
  have z : ∀ j, j < 12 → τ.2.1 j = σ.2.1 j := fun j hj => k.2.1 j (fun z => by have := hk j z; omega)
  refine ⟨by rw [k.1]; exact h1, by rw [k.1]; exact h2, by rw [k.1]; exact h3, by rw [z 3 (by decide)]; exact h4, h5.of (z 5 (by decide)) (z 7 (by decide)) (z 9 (by decide)) (z 11 (by decide))⟩
/-- entries that are right already -/
def Gd (R : Nat → Nat → Bool) (g : Nat → Int32) (D : Nat → Nat → Prop) : Prop := ∀ a b, a < 12 → b < 12 → D a b → g (a * 12 + b) = nI (wW R a b)
theorem Gd.set {R : Nat → Nat → Bool} {g : Nat → Int32} {D : Nat → Nat → Prop} (h : Gd R g D) {i j : Nat} (hi : i < 12) (hj : j < 12) : Gd R (tset g i j (nI (wW R i j))) (fun a b => D a b ∨ (a = i ∧ b = j)) := by
  intro a b ha hb hd
  rw [tset_at g _ hi hj ha hb]
  by_cases e : (a = i ∧ b = j) ∨ (a = j ∧ b = i)
  · rw [if_pos e]
    rcases e with ⟨rfl, rfl⟩ | ⟨rfl, rfl⟩
    · rfl
    · rw [wW_sym]
  · rw [if_neg e]
    rcases hd with hd | hd
    · exact h a b ha hb hd
    · exact absurd (Or.inl hd) e
theorem part_in (h : RC σ n T Y R) {i : Nat} (hi : i < 12) {D : Nat → Nat → Prop} (h22 : Gd R (σ.2.1 22) D) (h24 : Gd R (σ.2.1 24) D) : ∀ m, m ≤ 12 → ∃ τ, az_it (fun ι s => b_X0_partAll_50 i ι s.1 s.2) m 0 ((0 : Int32), σ) = (nI (sN (wW R i) m), τ) ∧ Fr [22, 24] σ τ ∧
    Gd R (τ.2.1 22) (fun a b => D a b ∨ (a = i ∧ b < m)) ∧ Gd R (τ.2.1 24) (fun a b => D a b ∨ (a = i ∧ b < m)) := by
  intro m
  induction m with
  | zero =>
    intro _
    exact ⟨σ, rfl, Fr.rfl, fun a b ha hb hd => h22 a b ha hb (hd.resolve_right (by omega)), fun a b ha hb hd => h24 a b ha hb (hd.resolve_right (by omega))⟩
  | succ m ih =>
    intro hm
    obtain ⟨τ, e, hF, g22, g24⟩ := ih (by omega)
    have hC : RC τ n T Y R := hF.RC (by decide) h
    have hw : b_X0_partAll_50 i m (nI (sN (wW R i) m)) τ = (nI (sN (wW R i) m) + nI (wW R i m), x_X4_set_23 (x_X4_set_21 τ (nI i) (nI m) (nI (wW R i m))) (nI i) (nI m) (nI (wW R i m))) := by
      have hbd : b_X0_partAll_50 i m (nI (sN (wW R i) m)) τ = if nI i = nI m then (nI (sN (wW R i) m) + 0, x_X4_set_23 (x_X4_set_21 τ (nI i) (nI m) 0) (nI i) (nI m) 0) else (nI (sN (wW R i) m) + x_X3_weightOf τ (nI i) (nI m), x_X4_set_23 (x_X4_set_21 τ (nI i) (nI m) (x_X3_weightOf τ (nI i) (nI m))) (nI i) (nI m) (x_X3_weightOf τ (nI i) (nI m))) := rfl
      rw [hbd]
      by_cases e : i = m
      · subst e
        rw [if_pos rfl, wW_diag]
        rfl
      · rw [if_neg (fun z => e ((nI_eq (by omega) (by omega)).mp z)), s5_weightOf hC hi (by omega)]
        unfold wW
        rw [if_neg e]
    have hm12 : m < 12 := by omega
    rw [az_it_snoc, e, Nat.zero_add]
    show ∃ υ, b_X0_partAll_50 i m (nI (sN (wW R i) m)) τ = _ ∧ _
    rw [hw, set_t21 τ _ hi hm12, set_t23 _ _ hi hm12, nI_add]
    refine ⟨_, rfl, (hF.trans (Fr.up _ (by decide))).trans (Fr.up _ (by decide)), ?_, ?_⟩
    · intro a b ha hb hd
      show tset (τ.2.1 22) i m (nI (wW R i m)) (a * 12 + b) = _
      exact (g22.set hi hm12) a b ha hb (by rcases hd with hd | ⟨h1, h2⟩; exact Or.inl (Or.inl hd); by_cases e : b = m; exact Or.inr ⟨h1, e⟩; exact Or.inl (Or.inr ⟨h1, by omega⟩))
    · intro a b ha hb hd
      show tset (τ.2.1 24) i m (nI (wW R i m)) (a * 12 + b) = _
      exact (g24.set hi hm12) a b ha hb (by rcases hd with hd | ⟨h1, h2⟩; exact Or.inl (Or.inl hd); by_cases e : b = m; exact Or.inr ⟨h1, e⟩; exact Or.inl (Or.inr ⟨h1, by omega⟩))
theorem part_out (h : RC σ n T Y R) : ∀ m, m ≤ 12 → ∃ τ, az_it (fun ι s => b_X0_partAll_18 ι s) m 0 σ = τ ∧ Fr [14, 18, 20, 22, 24] σ τ ∧ (∀ a, a < m → τ.2.1 14 a = if T a = true then nI a else -1) ∧ (∀ a, a < m → τ.2.1 18 a = nI (stR R a)) ∧ (∀ a, a < m → τ.2.1 20 a = nI (stR R a)) ∧
    Gd R (τ.2.1 22) (fun a _ => a < m) ∧ Gd R (τ.2.1 24) (fun a _ => a < m) := by
  intro m
  induction m with
  | zero => intro _; exact ⟨σ, rfl, Fr.rfl, fun a ha => by omega, fun a ha => by omega, fun a ha => by omega, fun a b _ _ hd => absurd hd (Nat.not_lt_zero _), fun a b _ _ hd => absurd hd (Nat.not_lt_zero _)⟩
  | succ m ih =>
    intro hm
    obtain ⟨τ, e, hF, k14, k18, k20, g22, g24⟩ := ih (by omega)
    have hm12 : m < 12 := by omega
    have hC : RC τ n T Y R := hF.RC (by decide) h
    have hstep : ∀ v : Int32, ∃ υ, x_X2_set_19 (x_X2_set_17 (az_it (fun ι s => b_X0_partAll_50 m ι s.1 s.2) 12 0 ((0 : Int32), x_X2_set_13 τ (nI m) v)).2 (nI m) (az_it (fun ι s => b_X0_partAll_50 m ι s.1 s.2) 12 0 ((0 : Int32), x_X2_set_13 τ (nI m) v)).1) (nI m) (az_it (fun ι s => b_X0_partAll_50 m ι s.1 s.2) 12 0 ((0 : Int32), x_X2_set_13 τ (nI m) v)).1 = υ ∧
        Fr [14, 18, 20, 22, 24] τ υ ∧ υ.2.1 14 = va_up (τ.2.1 14) m v ∧ υ.2.1 18 = va_up (τ.2.1 18) m (nI (stR R m)) ∧ υ.2.1 20 = va_up (τ.2.1 20) m (nI (stR R m)) ∧ Gd R (υ.2.1 22) (fun a _ => a < m + 1) ∧ Gd R (υ.2.1 24) (fun a _ => a < m + 1) := by
      intro v
      rw [set_r13 τ v hm12]
      have hC1 : RC (sG τ 14 (va_up (τ.2.1 14) m v)) n T Y R := (Fr.up (ks := [14]) _ (by decide)).RC (by decide) hC
      obtain ⟨υ, e1, hF1, u22, u24⟩ := part_in hC1 hm12 (D := fun a _ => a < m) g22 g24 12 (Nat.le_refl _)
      rw [e1]
      dsimp only
      rw [set_r17 υ _ hm12, set_r19 _ _ hm12]
      have hz : ∀ k, k ≠ 22 → k ≠ 24 → υ.2.1 k = (sG τ 14 (va_up (τ.2.1 14) m v)).2.1 k := fun k h1 h2 => hF1.2.1 k (by simp; omega)
      refine ⟨_, rfl, ?_, ?_, ?_, ?_, ?_, ?_⟩
      · exact (((Fr.up (σ := τ) (k := 14) _ (by decide)).trans (hF1.mono (by decide))).trans (Fr.up _ (by decide))).trans (Fr.up _ (by decide))
      · show υ.2.1 14 = _
        rw [hz 14 (by decide) (by decide)]; rfl
      · show va_up (υ.2.1 18) m _ = _
        rw [hz 18 (by decide) (by decide)]; rfl
      · show va_up (υ.2.1 20) m _ = _
        rw [hz 20 (by decide) (by decide)]; rfl
      · intro a b ha hb hd
        exact u22 a b ha hb (by by_cases e : a = m; exact Or.inr ⟨e, hb⟩; exact Or.inl (by omega))
      · intro a b ha hb hd
        exact u24 a b ha hb (by by_cases e : a = m; exact Or.inr ⟨e, hb⟩; exact Or.inl (by omega))
    obtain ⟨υ, e1, hF1, q14, q18, q20, q22, q24⟩ := hstep (if T m = true then nI m else -1)
    refine ⟨υ, ?_, hF.trans hF1, fun a ha => ?_, fun a ha => ?_, fun a ha => ?_, q22, q24⟩
    · rw [az_it_snoc, e, Nat.zero_add, ← e1]
      have hbd : b_X0_partAll_18 m τ = if x_X3_has τ (nI m) = 0 then x_X2_set_19 (x_X2_set_17 (az_it (fun ι s => b_X0_partAll_50 m ι s.1 s.2) 12 0 ((0 : Int32), x_X2_set_13 τ (nI m) (-1))).2 (nI m) (az_it (fun ι s => b_X0_partAll_50 m ι s.1 s.2) 12 0 ((0 : Int32), x_X2_set_13 τ (nI m) (-1))).1) (nI m) (az_it (fun ι s => b_X0_partAll_50 m ι s.1 s.2) 12 0 ((0 : Int32), x_X2_set_13 τ (nI m) (-1))).1
        else x_X2_set_19 (x_X2_set_17 (az_it (fun ι s => b_X0_partAll_50 m ι s.1 s.2) 12 0 ((0 : Int32), x_X2_set_13 τ (nI m) (nI m))).2 (nI m) (az_it (fun ι s => b_X0_partAll_50 m ι s.1 s.2) 12 0 ((0 : Int32), x_X2_set_13 τ (nI m) (nI m))).1) (nI m) (az_it (fun ι s => b_X0_partAll_50 m ι s.1 s.2) 12 0 ((0 : Int32), x_X2_set_13 τ (nI m) (nI m))).1 := rfl
      show b_X0_partAll_18 m τ = _
      rw [hbd, has_is hC hm12]
      cases T m <;> rfl
    · rw [q14, va_up_if]
      by_cases e : a = m
      · rw [if_pos e, e]
      · rw [if_neg e]; exact k14 a (by omega)
    · rw [q18, va_up_if]
      by_cases e : a = m
      · rw [if_pos e, e]
      · rw [if_neg e]; exact k18 a (by omega)
    · rw [q20, va_up_if]
      by_cases e : a = m
      · rw [if_pos e, e]
      · rw [if_neg e]; exact k20 a (by omega)
/-- changes of scalars 3..7 and of rows 14.. leave the shelf -/
theorem RC.up {σ τ : az_S} (h : RC σ n T Y R) (h1 : ∀ k, k ≤ 2 → τ.1 k = σ.1 k) (h2 : ∀ k, k ≤ 11 → τ.2.1 k = σ.2.1 k) : RC τ n T Y R := by
  obtain ⟨a1, a2, a3, a4, a5⟩ := h
  exact ⟨by rw [h1 0 (by decide)]; exact a1, by rw [h1 1 (by decide)]; exact a2, by rw [h1 2 (by decide)]; exact a3, by rw [h2 3 (by decide)]; exact a4, a5.of (h2 5 (by decide)) (h2 7 (by decide)) (h2 9 (by decide)) (h2 11 (by decide))⟩
theorem partAll_is (h : RC σ n T Y R) (hA : Ab n T R) : RC (x_X0_partAll σ) n T Y R ∧ RJ (x_X0_partAll σ) T R (fF0 T) ∧ RP (x_X0_partAll σ) R ∧ Kc σ (x_X0_partAll σ) := by
  have e : x_X0_partAll σ = az_it (fun ι s => b_X0_partAll_18 ι s) 12 0 (sF (sF σ 4 (nI (tot R))) 3 (σ.1 2)) := by
    unfold x_X0_partAll
    show az_it (fun ι s => b_X0_partAll_18 ι s) 12 0 (sF (sF σ 4 (x_X3_weightsKept σ)) 3 (σ.1 2)) = _
    rw [s5_kept h]
  have h0 : RC (sF (sF σ 4 (nI (tot R))) 3 (σ.1 2)) n T Y R := h.up (fun k hk => by rw [sF_ne _ _ (by omega), sF_ne _ _ (by omega)]) (fun _ _ => rfl)
  obtain ⟨τ, e1, hF, k14, k18, k20, g22, g24⟩ := part_out h0 12 (Nat.le_refl _)
  rw [e, e1]
  have hT12 : ∀ i, T i = true → i < 12 := fun i hi => by have := hA.2.1 i hi; have := hA.1; omega
  have hFi : ∀ i, fF0 T i i = T i := fun i => by unfold fF0; simp
  refine ⟨hF.RC (by decide) h0, ⟨?_, ?_, ?_, ?_, ?_⟩, ⟨?_, ?_, k18⟩, (((Kc.f σ _ (by decide)).trans (Kc.f _ _ (by decide))).trans (hF.Kc (by decide)))⟩
  · intro i
    rw [hF.1, hFi]
    exact h.2.2.1 i
  · intro i p hp hFp
    unfold fF0 at hFp
    rw [Bool.and_eq_true, beq_iff_eq] at hFp
    rw [k14 p hp, hFp.2, if_pos rfl, hFp.1]
  · intro p hp hTp i hi _ z
    rw [k14 p hp, hTp] at z
    have z : (-1 : Int32) = nI i := z
    have := congrArg Int32.toInt z
    rw [nI_toInt (by omega), show (-1 : Int32).toInt = -1 from by decide] at this
    omega
  · intro i hi hFi2
    rw [hFi] at hFi2
    rw [k20 i hi, wS_oneT hA hi hFi2]
  · intro i j hi hj hij h1 h2
    rw [hFi] at h1 h2
    rw [g24 i j hi hj hi, wS_two hA hi hj h1 h2]
  · rw [hF.1]; rfl
  · intro a b ha hb
    exact g22 a b ha hb ha
end AZC1
