/-! what the class's grouping answers, and the model -/
section AZC7
variable {σ : az_S} {n : Nat} {T : Nat → Bool} {Y : Nat → Int32} {R : Nat → Nat → Bool} {F : Nat → Nat → Bool}
def RSp (σ : az_S) (T : Nat → Bool) (R : Nat → Nat → Bool) (F : Nat → Nat → Bool) (m : Nat) : Prop := ∀ f, f < m → F f f = true → ∀ O, O < 4096 → (∀ p, O.testBit p = (F f p && !(p == f))) → σ.2.1 16 f = bestS T R F f O
def RG (σ : az_S) (T : Nat → Bool) (R : Nat → Nat → Bool) : Prop := RJ σ T R (fixF T R) ∧ RP σ R ∧ RSp σ T R (fixF T R) 12
theorem RJ.of {σ τ : az_S} (h : RJ σ T R F) (h1 : τ.1 3 = σ.1 3) (h2 : ∀ k, 14 ≤ k → k ≤ 24 → k ≠ 16 → τ.2.1 k = σ.2.1 k) : RJ τ T R F := by
  obtain ⟨a, b, c, d, e⟩ := h
  exact ⟨by rw [h1]; exact a, by rw [h2 14 (by decide) (by decide) (by decide)]; exact b, by rw [h2 14 (by decide) (by decide) (by decide)]; exact c, by rw [h2 20 (by decide) (by decide) (by decide)]; exact d, by rw [h2 24 (by decide) (by decide) (by decide)]; exact e⟩
theorem RP.of {σ τ : az_S} (h : RP σ R) (h1 : τ.1 4 = σ.1 4) (h2 : ∀ k, 14 ≤ k → k ≤ 24 → k ≠ 16 → τ.2.1 k = σ.2.1 k) : RP τ R := by
  obtain ⟨a, b, c⟩ := h
  exact ⟨by rw [h1]; exact a, by rw [h2 22 (by decide) (by decide) (by decide)]; exact b, by rw [h2 18 (by decide) (by decide) (by decide)]; exact c⟩
theorem RG.of {σ τ : az_S} (h : RG σ T R) (h1 : τ.1 3 = σ.1 3) (h2 : τ.1 4 = σ.1 4) (h3 : ∀ k, 14 ≤ k → k ≤ 24 → τ.2.1 k = σ.2.1 k) : RG τ T R := by
  obtain ⟨a, b, c⟩ := h
  refine ⟨a.of h1 (fun k q1 q2 _ => h3 k q1 q2), b.of h2 (fun k q1 q2 _ => h3 k q1 q2), ?_⟩
  unfold RSp
  rw [h3 16 (by decide) (by decide)]
  exact c
theorem group_is (h : RC σ n T Y R) (hA : Ab n T R) : RC (x_X0_findAnew σ) n T Y R ∧ RG (x_X0_findAnew σ) T R ∧ Kc σ (x_X0_findAnew σ) := by
  obtain ⟨f0, τ, e, ⟨hJ, hP, hC, hPt⟩, hK⟩ := grouped h hA
  have e0 : x_X0_findAnew σ = az_it (fun ι s => b_X0_findAnew_32 (az_ws (fun s : Int32 × az_S => decide (s.1 = 0)) (fun ι s => b_X0_findAnew_9 ι s.1 s.2) 12 0 (1, x_X0_partAll σ)).1 ι s) 12 0 (az_ws (fun s : Int32 × az_S => decide (s.1 = 0)) (fun ι s => b_X0_findAnew_9 ι s.1 s.2) 12 0 (1, x_X0_partAll σ)).2 := rfl
  rw [e0, e]
  have k : ∀ m, m ≤ 12 → ∃ g, az_it (fun ι s => b_X0_findAnew_32 f0 ι s) m 0 τ = sG τ 16 g ∧ RSp (sG τ 16 g) T R (fixF T R) m := by
    intro m
    induction m with
    | zero => intro _; exact ⟨τ.2.1 16, (sG_self τ 16).symm, fun f hf => by omega⟩
    | succ m ih =>
      intro hm
      obtain ⟨g, eg, hg⟩ := ih (by omega)
      have hm12 : m < 12 := by omega
      have hJ1 : RJ (sG τ 16 g) T R (fixF T R) := hJ.of rfl (fun k _ _ hk => sG_ne τ g hk)
      have hP1 : RP (sG τ 16 g) R := hP.of rfl (fun k _ _ hk => sG_ne τ g hk)
      have hbd : b_X0_findAnew_32 f0 m (sG τ 16 g) = if x_X0_isGroup (sG τ 16 g) (nI m) = 0 then x_X2_set_15 (sG τ 16 g) (nI m) 0 else x_X2_set_15 (sG τ 16 g) (nI m) (x_X0_bestSplit (sG τ 16 g) (nI m)) := rfl
      rw [az_it_snoc, eg, Nat.zero_add]
      show ∃ g', b_X0_findAnew_32 f0 m (sG τ 16 g) = _ ∧ _
      rw [hbd, isGroup_is hJ1 hm12, set_r15 _ _ hm12, set_r15 _ _ hm12, sG_at, sG_sG, sG_sG]
      cases hf : fixF T R m m with
      | false =>
        rw [if_pos (by decide)]
        refine ⟨_, rfl, fun f hf1 hf2 O hO hOb => ?_⟩
        have : f ≠ m := fun z => by rw [z, hf] at hf2; cases hf2
        show va_up g m 0 f = _
        rw [va_up_if, if_neg this]
        exact hg f (by omega) hf2 O hO hOb
      | true =>
        rw [if_neg (by decide)]
        refine ⟨_, rfl, fun f hf1 hf2 O hO hOb => ?_⟩
        show va_up g m _ f = _
        rw [va_up_if]
        by_cases e : f = m
        · subst e
          rw [if_pos rfl, best5 hJ1 hP1 hPt hA hm12 hf2 hO hOb]
        · rw [if_neg e]
          exact hg f (by omega) hf2 O hO hOb
  obtain ⟨g, eg, hg⟩ := k 12 (Nat.le_refl _)
  dsimp only
  rw [eg]
  exact ⟨hC.up (fun _ _ => rfl) (fun k hk => sG_ne τ g (by omega)), ⟨hJ.of rfl (fun k _ _ hk => sG_ne τ g hk), hP.of rfl (fun k _ _ hk => sG_ne τ g hk), hg⟩, hK.trans (Kc.g τ g (by decide))⟩
/-! the model's answers about fields -/
theorem isField_at {τ : az_S} (hF : RF τ F) (hPt : Pt T F) {p : Nat} (hp : p < 12) : x_X6_isField τ (nI p) = if F p p = true then 1 else 0 := by
  have e : x_X6_isField τ (nI p) = if (if nI p < 0 then (0 : Int32) else if (11 : Int32) < nI p then 0 else 1) = 0 then 0 else if τ.2.1 41 (nI p).toNatClampNeg = 0 then 0 else 1 := rfl
  rw [e, if_neg (p12a hp), if_neg (show ¬ (11 : Int32) < nI p from nI_nlt (a := 11) (by omega) (by decide)), if_neg (by decide), p12g hp]
  cases h : F p p with
  | false => rw [if_pos ((hF.zero hPt hp).mpr h)]; rfl
  | true => rw [if_neg (fun z => by rw [(hF.zero hPt hp).mp z] at h; cases h)]; rfl
theorem isField_out (τ : az_S) {p : Int32} (hp : p < 0 ∨ (12 : Int32) ≤ p) : x_X6_isField τ p = 0 := by
  have e : x_X6_isField τ p = if (if p < 0 then (0 : Int32) else if (11 : Int32) < p then 0 else 1) = 0 then 0 else if τ.2.1 41 p.toNatClampNeg = 0 then 0 else 1 := rfl
  rw [e]
  rcases hp with hp | hp
  · rw [if_pos hp, if_pos rfl]
  · have : (11 : Int32) < p := by
      have e1 : (12 : Int32).toInt = 12 := by decide
      have e2 : (11 : Int32).toInt = 11 := by decide
      rw [Int32.le_iff_toInt_le] at hp
      rw [Int32.lt_iff_toInt_lt]
      omega
    by_cases h0 : p < 0
    · rw [if_pos h0, if_pos rfl]
    · rw [if_neg h0, if_pos this, if_pos rfl]
theorem field_cases {τ : az_S} (hJ : RJ σ T R F) (hF : RF τ F) (hPt : Pt T F) (p : Int32) : (∃ i, i < 12 ∧ p = nI i ∧ F i i = true ∧ x_X5_requireField σ p = .inr () ∧ x_X6_isField τ p = 1) ∨ (x_X5_requireField σ p = .inl az_NSE ∧ x_X6_isField τ p = 0) := by
  rcases p12 p with ⟨i, hi, rfl⟩ | hp
  · have e : x_X5_requireField σ (nI i) = if (if F i i = true then 1 else 0 : Int32) = 0 then .inl az_NSE else .inr () := by
      unfold x_X5_requireField
      show (if x_X0_isGroup σ (nI i) = 0 then _ else _) = _
      rw [isGroup_is hJ hi]
    rw [e, isField_at hF hPt hi]
    cases ht : F i i with
    | true => exact Or.inl ⟨i, hi, rfl, ht, rfl, rfl⟩
    | false => exact Or.inr ⟨rfl, rfl⟩
  · refine Or.inr ⟨?_, isField_out τ hp⟩
    unfold x_X5_requireField
    show (if x_X5_holds σ (σ.1 3) p = 0 then _ else _) = _
    rw [holds_out σ _ hp]
    rfl
theorem fieldOf_same {τ : az_S} (hJ : RJ σ T R F) (hF : RF τ F) (hPt : Pt T F) {p : Nat} (hp : p < 12) (hT : T p = true) : x_X0_groupOf σ (nI p) = az_it (fun ι s => b_X6_fieldOf_18 τ (nI p) ι s) 12 0 (-1) := by
  obtain ⟨i, hi⟩ := hPt.2.2 p hT
  have hi12 := own_lt hPt hp hi
  have k : ∀ m, m ≤ 12 → az_it (fun ι s => b_X6_fieldOf_18 τ (nI p) ι s) m 0 (-1) = if i < m then nI i else -1 := by
    intro m
    induction m with
    | zero => intro _; rfl
    | succ m ih =>
      intro hm
      rw [az_it_snoc, ih (by omega), Nat.zero_add]
      have hb : ∀ w, b_X6_fieldOf_18 τ (nI p) m w = if ((τ.2.1 41 m >>> (nI p &&& 31)) &&& 1) = 1 then nI m else w := fun _ => rfl
      show b_X6_fieldOf_18 τ (nI p) m _ = _
      rw [hb, shr1 _ hp, hF m (by omega) p]
      cases hf : F m p with
      | true =>
        have := hPt.2.1 i m p hi hf
        subst this
        rw [if_pos (by decide), if_pos (by omega)]
      | false =>
        rw [if_neg (by decide)]
        have : i ≠ m := fun z => by rw [← z, hi] at hf; cases hf
        by_cases h : i < m
        · rw [if_pos h, if_pos (by omega)]
        · rw [if_neg h, if_neg (by omega)]
  show x_X2_at_13 σ (nI p) = _
  rw [at_r13 σ hp, hJ.2.1 i p hp hi, k 12 (Nat.le_refl _), if_pos hi12]
theorem fields_same {τ : az_S} (hJ : RJ σ T R F) (hF : RF τ F) (hPt : Pt T F) (hA : Ab n T R) : x_X5_fields σ = az_it (fun ι s => b_X6_fields_13 τ ι s) 12 0 0 := by
  have h12 : M12 (σ.1 3) := fun i hi => by
    rw [hJ.1 i]
    cases hf : F i i with
    | false => rfl
    | true => have := hA.2.1 i (hPt.1 i i hf).2.2; have := hA.1; omega
  have e : x_X5_fields σ = nI (cnt (fun i => F i i) 12) := by
    show x_J6_bitCount_0f7a4 σ (σ.1 3) = _
    rw [bitCount_cnt σ h12, cnt_congr (fun i _ => hJ.1 i)]
  rw [e, cnt_sN]
  symm
  refine az_sum0 12 (fun i w hi => ?_)
  show (if τ.2.1 41 i = 0 then w + 0 else w + 1) = _
  cases hf : F i i with
  | false => rw [if_pos ((hF.zero hPt hi).mpr hf)]; rfl
  | true => rw [if_neg (fun z => by rw [(hF.zero hPt hi).mp z] at hf; cases hf)]; rfl
end AZC7
