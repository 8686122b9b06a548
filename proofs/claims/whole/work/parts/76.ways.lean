/-! ways: how many lead to a paper, how many lead on from it, the greatest sum from it on -/
section AZC8
variable {σ : az_S} {n : Nat} {T : Nat → Bool} {Y : Nat → Int32} {R : Nat → Nat → Bool}
def wbF (R : Nat → Nat → Bool) : Nat → Nat → Nat
  | 0, _ => 0
  | k + 1, p => if cnt (R p) 12 = 0 then 1 else sN (fun q => if R p q = true then wbF R k q else 0) 12
theorem wbF_succ (R : Nat → Nat → Bool) (k p : Nat) : wbF R (k + 1) p = if cnt (R p) 12 = 0 then 1 else sN (fun q => if R p q = true then wbF R k q else 0) 12 := rfl
def wb (R : Nat → Nat → Bool) (p : Nat) : Nat := wbF R 12 p
def waF (R : Nat → Nat → Bool) : Nat → Nat → Nat
  | 0, _ => 0
  | k + 1, p => if cnt (fun c => R c p) 12 = 0 then 1 else sN (fun c => if R c p = true then waF R k c else 0) 12
theorem waF_succ (R : Nat → Nat → Bool) (k p : Nat) : waF R (k + 1) p = if cnt (fun c => R c p) 12 = 0 then 1 else sN (fun c => if R c p = true then waF R k c else 0) 12 := rfl
def wa (R : Nat → Nat → Bool) (p : Nat) : Nat := waF R 12 p
def xN (f : Nat → Nat) : Nat → Nat
  | 0 => 0
  | n + 1 => max (xN f n) (f n)
theorem xN_congr {f g : Nat → Nat} : ∀ {n : Nat}, (∀ i, i < n → f i = g i) → xN f n = xN g n
  | 0, _ => rfl
  | n + 1, h => by
    unfold xN
    rw [xN_congr (fun i hi => h i (by omega)), h n (by omega)]
theorem xN_le {f : Nat → Nat} {c : Nat} : ∀ {n : Nat}, (∀ i, i < n → f i ≤ c) → xN f n ≤ c
  | 0, _ => Nat.zero_le _
  | n + 1, h => by
    unfold xN
    exact Nat.max_le.mpr ⟨xN_le (fun i hi => h i (by omega)), h n (by omega)⟩
theorem le_xN {f : Nat → Nat} : ∀ {n i : Nat}, i < n → f i ≤ xN f n
  | 0, i, h => by omega
  | n + 1, i, h => by
    unfold xN
    by_cases e : i = n
    · subst e; exact Nat.le_max_right _ _
    · exact Nat.le_trans (le_xN (show i < n by omega)) (Nat.le_max_left _ _)
def smF (R : Nat → Nat → Bool) : Nat → Nat → Nat
  | 0, _ => 0
  | k + 1, p => xN (fun c => if R c p = true then wb R p * wa R c + smF R k c else 0) 12
theorem smF_succ (R : Nat → Nat → Bool) (k p : Nat) : smF R (k + 1) p = xN (fun c => if R c p = true then wb R p * wa R c + smF R k c else 0) 12 := rfl
def sm (R : Nat → Nat → Bool) (p : Nat) : Nat := smF R 12 p
theorem if_bool_congr {b : Bool} {x y : Nat} (h : b = true → x = y) : (if b = true then x else 0) = if b = true then y else 0 := by
  cases b with
  | false => rfl
  | true => rw [h rfl]
theorem wbF_st (hA : Ab n T R) : ∀ (k l p : Nat), p < k → p < l → wbF R k p = wbF R l p
  | 0, _, _, h, _ => by omega
  | _ + 1, 0, _, _, h => by omega
  | k + 1, l + 1, p, h, h2 => by
    unfold wbF
    split
    · rfl
    · apply sN_congr
      intro q _
      exact if_bool_congr (fun hr => by
        have := (hA.2.2 p q hr).1
        exact wbF_st hA k l q (by omega) (by omega))
theorem R12 (hA : Ab n T R) {p q : Nat} (h : R p q = true) : p < 12 ∧ q < p := by
  obtain ⟨a, b, c⟩ := hA.2.2 p q h
  have := hA.2.1 p b
  have := hA.1
  exact ⟨by omega, a⟩
theorem wb_is (hA : Ab n T R) {p : Nat} (hp : p < 12) : wb R p = if cnt (R p) 12 = 0 then 1 else sN (fun q => if R p q = true then wb R q else 0) 12 := by
  have e : wb R p = wbF R (11 + 1) p := rfl
  rw [e, wbF_succ]
  split
  · rfl
  · apply sN_congr
    intro q _
    exact if_bool_congr (fun hr => by
      have := (R12 hA hr).2
      exact wbF_st hA 11 12 q (by omega) (by omega))
theorem waF_st (hA : Ab n T R) : ∀ (k l p : Nat), 12 ≤ k + p → 12 ≤ l + p → p < 12 → waF R k p = waF R l p
  | 0, _, _, h, _, hp => by omega
  | _ + 1, 0, _, _, h, hp => by omega
  | k + 1, l + 1, p, h, h2, hp => by
    unfold waF
    split
    · rfl
    · apply sN_congr
      intro c _
      exact if_bool_congr (fun hr => by
        have := R12 hA hr
        exact waF_st hA k l c (by omega) (by omega) this.1)
theorem wa_is (hA : Ab n T R) (p : Nat) : wa R p = if cnt (fun c => R c p) 12 = 0 then 1 else sN (fun c => if R c p = true then wa R c else 0) 12 := by
  have e : wa R p = waF R (11 + 1) p := rfl
  rw [e, waF_succ]
  split
  · rfl
  · apply sN_congr
    intro c _
    exact if_bool_congr (fun hr => by
      have := R12 hA hr
      exact waF_st hA 11 12 c (by omega) (by omega) this.1)
theorem smF_st (hA : Ab n T R) : ∀ (k l p : Nat), 12 ≤ k + p → 12 ≤ l + p → p < 12 → smF R k p = smF R l p
  | 0, _, _, h, _, hp => by omega
  | _ + 1, 0, _, _, h, hp => by omega
  | k + 1, l + 1, p, h, h2, hp => by
    unfold smF
    apply xN_congr
    intro c _
    cases hr : R c p with
    | false => rfl
    | true =>
      have := R12 hA hr
      rw [if_pos rfl, if_pos rfl, smF_st hA k l c (by omega) (by omega) this.1]
theorem sm_is (hA : Ab n T R) (p : Nat) : sm R p = xN (fun c => if R c p = true then wb R p * wa R c + sm R c else 0) 12 := by
  have e : sm R p = smF R (11 + 1) p := rfl
  rw [e, smF_succ]
  apply xN_congr
  intro c _
  exact if_bool_congr (fun hr => by
    have := R12 hA hr
    exact congrArg (wb R p * wa R c + ·) (smF_st hA 11 12 c (by omega) (by omega) this.1))
theorem sN_mono {f g : Nat → Nat} : ∀ {m : Nat}, (∀ i, i < m → f i ≤ g i) → sN f m ≤ sN g m
  | 0, _ => Nat.le_refl _
  | m + 1, h => by
    unfold sN
    have := sN_mono (m := m) (fun i hi => h i (by omega))
    have := h m (by omega)
    omega
theorem geo_b : ∀ p, p < 12 → sN (fun q => if q < p then 2 ^ q else 0) 12 + 1 ≤ 2 ^ p := by decide +kernel
theorem geo_a : ∀ p, p < 12 → sN (fun c => if p < c then 2 ^ (11 - c) else 0) 12 + 1 ≤ 2 ^ (11 - p) := by decide +kernel
theorem wb_le (hA : Ab n T R) : ∀ p, p < 12 → 1 ≤ wb R p ∧ wb R p ≤ 2 ^ p := by
  intro p
  induction p using Nat.strongRecOn with
  | ind p ih =>
    intro hp
    rw [wb_is hA hp]
    have h2 : 0 < 2 ^ p := Nat.pow_pos (by decide)
    split
    · exact ⟨Nat.le_refl _, h2⟩
    · rename_i h0
      refine ⟨?_, ?_⟩
      · have h3 : cnt (R p) 12 ≤ sN (fun q => if R p q = true then wb R q else 0) 12 := by
          rw [cnt_sN]
          apply sN_mono
          intro q hq
          cases hr : R p q with
          | false => exact Nat.zero_le _
          | true =>
            rw [if_pos rfl, if_pos rfl]
            exact (ih q (R12 hA hr).2 hq).1
        omega
      · have h3 : sN (fun q => if R p q = true then wb R q else 0) 12 ≤ sN (fun q => if q < p then 2 ^ q else 0) 12 := by
          apply sN_mono
          intro q hq
          cases hr : R p q with
          | false => exact Nat.zero_le _
          | true =>
            have := (R12 hA hr).2
            rw [if_pos rfl, if_pos this]
            exact (ih q this hq).2
        have := geo_b p hp
        omega
theorem wa_le (hA : Ab n T R) : ∀ k p, p < 12 → 11 - p = k → 1 ≤ wa R p ∧ wa R p ≤ 2 ^ (11 - p) := by
  intro k
  induction k using Nat.strongRecOn with
  | ind k ih =>
    intro p hp hk
    rw [wa_is hA p]
    have h2 : 0 < 2 ^ (11 - p) := Nat.pow_pos (by decide)
    split
    · exact ⟨Nat.le_refl _, h2⟩
    · rename_i h0
      refine ⟨?_, ?_⟩
      · have h3 : cnt (fun c => R c p) 12 ≤ sN (fun c => if R c p = true then wa R c else 0) 12 := by
          rw [cnt_sN]
          apply sN_mono
          intro c hc
          cases hr : R c p with
          | false => exact Nat.zero_le _
          | true =>
            have := R12 hA hr
            rw [if_pos rfl, if_pos rfl]
            exact (ih (11 - c) (by omega) c hc rfl).1
        omega
      · have h3 : sN (fun c => if R c p = true then wa R c else 0) 12 ≤ sN (fun c => if p < c then 2 ^ (11 - c) else 0) 12 := by
          apply sN_mono
          intro c hc
          cases hr : R c p with
          | false => exact Nat.zero_le _
          | true =>
            have := R12 hA hr
            rw [if_pos rfl, if_pos this.2]
            exact (ih (11 - c) (by omega) c hc rfl).2
        have := geo_a p hp
        omega
theorem wb_2048 (hA : Ab n T R) {p : Nat} (hp : p < 12) : 1 ≤ wb R p ∧ wb R p ≤ 2048 := by
  obtain ⟨a, b⟩ := wb_le hA p hp
  have : 2 ^ p ≤ 2 ^ 11 := Nat.pow_le_pow_right (by decide) (by omega)
  exact ⟨a, by omega⟩
theorem wa_2048 (hA : Ab n T R) {p : Nat} (hp : p < 12) : 1 ≤ wa R p ∧ wa R p ≤ 2048 := by
  obtain ⟨a, b⟩ := wa_le hA _ p hp rfl
  have : 2 ^ (11 - p) ≤ 2 ^ 11 := Nat.pow_le_pow_right (by decide) (by omega)
  exact ⟨a, by omega⟩
theorem edge_le (hA : Ab n T R) {p c : Nat} (hp : p < 12) (hc : c < 12) : 1 ≤ wb R p * wa R c ∧ wb R p * wa R c ≤ 4194304 := by
  obtain ⟨a, b⟩ := wb_2048 hA hp
  obtain ⟨d, e⟩ := wa_2048 hA hc
  exact ⟨Nat.mul_pos a d, Nat.mul_le_mul b e⟩
theorem sm_le (hA : Ab n T R) : ∀ k p, p < 12 → 11 - p = k → sm R p ≤ k * 4194304 := by
  intro k
  induction k using Nat.strongRecOn with
  | ind k ih =>
    intro p hp hk
    rw [sm_is hA p]
    apply xN_le
    intro c hc
    cases hr : R c p with
    | false => exact Nat.zero_le _
    | true =>
      have := R12 hA hr
      rw [if_pos rfl]
      have h1 := (edge_le hA hp hc).2
      have h2 := ih (11 - c) (by omega) c hc rfl
      have h3 : (11 - c) * 4194304 + 4194304 ≤ k * 4194304 := by
        have : 11 - c + 1 ≤ k := by omega
        calc (11 - c) * 4194304 + 4194304 = (11 - c + 1) * 4194304 := by rw [Nat.succ_mul]
          _ ≤ k * 4194304 := Nat.mul_le_mul_right _ this
      omega
theorem sm_small (hA : Ab n T R) {p : Nat} (hp : p < 12) : sm R p ≤ 46137344 := by
  have := sm_le hA _ p hp rfl
  have : (11 - p) * 4194304 ≤ 11 * 4194304 := Nat.mul_le_mul_right _ (by omega)
  omega
def eN (R : Nat → Nat → Bool) (p c : Nat) : Nat := wb R p * wa R c + sm R c
theorem eN_small (hA : Ab n T R) {p c : Nat} (hp : p < 12) (hc : c < 12) : 1 ≤ eN R p c ∧ eN R p c < 2 ^ 26 := by
  unfold eN
  have h1 := edge_le hA hp hc
  have h2 := sm_small hA hc
  omega
/-- the ways counted from both ends -/
theorem ways_two (hA : Ab n T R) : sN (fun i => if (T i && decide (cnt (R i) 12 = 0)) = true then wa R i else 0) 12 = sN (fun i => if (T i && decide (cnt (fun c => R c i) 12 = 0)) = true then wb R i else 0) 12 := by
  have e1 : sN (fun c => sN (fun p => if R c p = true then wb R p * wa R c else 0) 12) 12 = sN (fun c => if (T c && !decide (cnt (R c) 12 = 0)) = true then wb R c * wa R c else 0) 12 := by
    apply sN_congr
    intro c hc
    have hm : sN (fun p => if R c p = true then wb R p * wa R c else 0) 12 = sN (fun p => if R c p = true then wb R p else 0) 12 * wa R c := by
      have : ∀ m, sN (fun p => if R c p = true then wb R p * wa R c else 0) m = sN (fun p => if R c p = true then wb R p else 0) m * wa R c := by
        intro m
        induction m with
        | zero => exact (Nat.zero_mul _).symm
        | succ m ih =>
          unfold sN
          rw [ih, Nat.add_mul]
          congr 1
          cases R c m <;> simp
      exact this 12
    rw [hm]
    by_cases h0 : cnt (R c) 12 = 0
    · have hz : ∀ p, p < 12 → R c p = false := by
        intro p hp
        cases hr : R c p with
        | false => rfl
        | true =>
          have h9 := cnt_mono (P := fun i => i == p) (Q := R c) (fun i hi => by
            have hi : (i == p) = true := hi
            rw [beq_iff_eq] at hi
            rw [hi]; exact hr) 12
          have e2 : cnt (fun i => i == p) 12 = 1 := by rw [cnt_sN, sN_pick (f := fun _ => 1), if_pos hp]
          omega
      have hs : sN (fun p => if R c p = true then wb R p else 0) 12 = 0 := sN_zero (fun p hp => by rw [hz p hp]; rfl)
      rw [hs]
      simp [h0]
    · have hT : T c = true := by
        cases hT : T c with
        | true => rfl
        | false =>
          exfalso
          apply h0
          apply cnt_no
          intro p
          cases hr : R c p with
          | false => rfl
          | true => rw [(hA.2.2 c p hr).2.1] at hT; cases hT
      have hw := wb_is hA hc
      rw [if_neg h0] at hw
      rw [← hw, hT]
      simp [h0]
  have e2 : sN (fun c => sN (fun p => if R c p = true then wb R p * wa R c else 0) 12) 12 = sN (fun p => if (T p && !decide (cnt (fun c => R c p) 12 = 0)) = true then wb R p * wa R p else 0) 12 := by
    rw [sN_comm]
    apply sN_congr
    intro p hp
    have hm : sN (fun c => if R c p = true then wb R p * wa R c else 0) 12 = wb R p * sN (fun c => if R c p = true then wa R c else 0) 12 := by
      have : ∀ m, sN (fun c => if R c p = true then wb R p * wa R c else 0) m = wb R p * sN (fun c => if R c p = true then wa R c else 0) m := by
        intro m
        induction m with
        | zero => exact (Nat.mul_zero _).symm
        | succ m ih =>
          unfold sN
          rw [ih, Nat.mul_add]
          congr 1
          cases R m p <;> simp
      exact this 12
    rw [hm]
    by_cases h0 : cnt (fun c => R c p) 12 = 0
    · have hz : ∀ c, c < 12 → R c p = false := by
        intro c hc
        cases hr : R c p with
        | false => rfl
        | true =>
          have h9 := cnt_mono (P := fun i => i == c) (Q := fun c => R c p) (fun i hi => by
            have hi : (i == c) = true := hi
            rw [beq_iff_eq] at hi
            rw [hi]; exact hr) 12
          have e2 : cnt (fun i => i == c) 12 = 1 := by rw [cnt_sN, sN_pick (f := fun _ => 1), if_pos hc]
          omega
      have hs : sN (fun c => if R c p = true then wa R c else 0) 12 = 0 := sN_zero (fun c hc => by rw [hz c hc]; rfl)
      rw [hs]
      simp [h0]
    · have hT : T p = true := by
        cases hT : T p with
        | true => rfl
        | false =>
          exfalso
          apply h0
          apply cnt_no
          intro c
          cases hr : R c p with
          | false => rfl
          | true => rw [(hA.2.2 c p hr).2.2] at hT; cases hT
      have hw := wa_is hA p
      rw [if_neg h0] at hw
      rw [← hw, hT]
      simp [h0]
  have k1 : sN (fun i => if (T i && decide (cnt (R i) 12 = 0)) = true then wa R i else 0) 12 + sN (fun c => if (T c && !decide (cnt (R c) 12 = 0)) = true then wb R c * wa R c else 0) 12 = sN (fun i => if T i = true then wb R i * wa R i else 0) 12 := by
    rw [← sN_add]
    apply sN_congr
    intro i hi
    cases T i with
    | false => rfl
    | true =>
      by_cases h0 : cnt (R i) 12 = 0
      · have hw := wb_is hA hi
        rw [if_pos h0] at hw
        simp [h0, hw]
      · simp [h0]
  have k2 : sN (fun i => if (T i && decide (cnt (fun c => R c i) 12 = 0)) = true then wb R i else 0) 12 + sN (fun p => if (T p && !decide (cnt (fun c => R c p) 12 = 0)) = true then wb R p * wa R p else 0) 12 = sN (fun i => if T i = true then wb R i * wa R i else 0) 12 := by
    rw [← sN_add]
    apply sN_congr
    intro i hi
    cases T i with
    | false => rfl
    | true =>
      by_cases h0 : cnt (fun c => R c i) 12 = 0
      · have hw := wa_is hA i
        rw [if_pos h0] at hw
        simp [h0, hw]
      · simp [h0]
  rw [e1] at e2
  omega
end AZC8
