/-! the literature itself: n papers have come, T of them are there, Y are their years, R who refers to whom; class and model both hold it -/
section AZB5
def Ab (n : Nat) (T : Nat → Bool) (R : Nat → Nat → Bool) : Prop := n ≤ 12 ∧ (∀ i, T i = true → i < n) ∧ (∀ i j, R i j = true → j < i ∧ T i = true ∧ T j = true)
def RM (σ : az_S) (n : Nat) (T : Nat → Bool) (Y : Nat → Int32) (R : Nat → Nat → Bool) : Prop :=
  σ.1 8 = nI n ∧ (∀ i, i < 12 → (σ.2.1 37 i = 0 ↔ T i = false)) ∧ (∀ i, i < 12 → σ.2.1 38 i = Y i) ∧ (∀ i, i < 12 → ∀ j, Bt (σ.2.1 39 i) j = R i j)
def RC (σ : az_S) (n : Nat) (T : Nat → Bool) (Y : Nat → Int32) (R : Nat → Nat → Bool) : Prop :=
  σ.1 0 = nI n ∧ σ.1 1 = (if n = 0 then 0 else Y (n - 1)) ∧ (∀ j, Bt (σ.1 2) j = T j) ∧ (∀ i, i < 12 → σ.2.1 3 i = Y i) ∧ Sh σ R
/-- what the model's own work leaves alone -/
def Kp (σ τ : az_S) : Prop := (∀ k, k ≤ 8 → τ.1 k = σ.1 k) ∧ (∀ k, k ≤ 39 → τ.2.1 k = σ.2.1 k) ∧ τ.2.2 45 = σ.2.2 45
theorem Kp.rfl {σ : az_S} : Kp σ σ := ⟨fun _ _ => _root_.rfl, fun _ _ => _root_.rfl, _root_.rfl⟩
theorem Kp.trans {σ τ υ : az_S} (h : Kp σ τ) (h2 : Kp τ υ) : Kp σ υ := ⟨fun k hk => (h2.1 k hk).trans (h.1 k hk), fun k hk => (h2.2.1 k hk).trans (h.2.1 k hk), h2.2.2.trans h.2.2⟩
theorem Kp.f (σ : az_S) (v : Int32) : Kp σ (sF σ 9 v) := ⟨fun k hk => sF_ne σ v (by omega), fun _ _ => _root_.rfl, _root_.rfl⟩
theorem Kp.g (σ : az_S) {k : Nat} (g : Nat → Int32) (h : 40 ≤ k) : Kp σ (sG σ k g) := ⟨fun _ _ => _root_.rfl, fun j hj => sG_ne σ g (by omega), _root_.rfl⟩
theorem Kp.l (σ : az_S) (g : Nat → Int64) : Kp σ (sL σ 44 g) := ⟨fun _ _ => _root_.rfl, fun _ _ => _root_.rfl, show va_up σ.2.2 44 g 45 = σ.2.2 45 from va_up_ne _ _ (by decide)⟩
theorem Kp.it {b : Nat → az_S → az_S} (h : ∀ i s, Kp s (b i s)) : ∀ (n i : Nat) (s : az_S), Kp s (az_it b n i s)
  | 0, _, _ => Kp.rfl
  | n + 1, i, s => (h i s).trans (Kp.it h n (i + 1) (b i s))
theorem Kp.dn {b : Nat → az_S → az_S} (h : ∀ i s, Kp s (b i s)) : ∀ (n : Nat) (s : az_S), Kp s (az_dn b n s)
  | 0, _ => Kp.rfl
  | n + 1, s => (h n s).trans (Kp.dn h n (b n s))
theorem Kp.RM {σ τ : az_S} (k : Kp σ τ) {n : Nat} {T : Nat → Bool} {Y : Nat → Int32} {R : Nat → Nat → Bool} (h : RM σ n T Y R) : RM τ n T Y R := by
  obtain ⟨h1, h2, h3, h4⟩ := h
  refine ⟨(k.1 8 (by decide)).trans h1, fun i hi => ?_, fun i hi => ?_, fun i hi => ?_⟩
  · rw [k.2.1 37 (by decide)]; exact h2 i hi
  · rw [k.2.1 38 (by decide)]; exact h3 i hi
  · rw [k.2.1 39 (by decide)]; exact h4 i hi
theorem Kp.RC {σ τ : az_S} (k : Kp σ τ) {n : Nat} {T : Nat → Bool} {Y : Nat → Int32} {R : Nat → Nat → Bool} (h : RC σ n T Y R) : RC τ n T Y R := by
  obtain ⟨h1, h2, h3, h4, h5, h6, h7, h8⟩ := h
  refine ⟨(k.1 0 (by decide)).trans h1, (k.1 1 (by decide)).trans h2, ?_, ?_, ?_, ?_, ?_, ?_⟩
  · rw [k.1 2 (by decide)]; exact h3
  · rw [k.2.1 3 (by decide)]; exact h4
  · rw [k.2.1 5 (by decide)]; exact h5
  · rw [k.2.1 7 (by decide)]; exact h6
  · rw [k.2.1 9 (by decide)]; exact h7
  · rw [k.2.1 11 (by decide)]; exact h8
theorem RM.nn {σ : az_S} {n : Nat} {T : Nat → Bool} {Y : Nat → Int32} {R : Nat → Nat → Bool} (h : RM σ n T Y R) (hn : n ≤ 12) : nn σ = n := by
  show (σ.1 8).toNatClampNeg = n
  rw [h.1]
  exact nI_clamp (by omega)
theorem RM.wf {σ : az_S} {n : Nat} {T : Nat → Bool} {Y : Nat → Int32} {R : Nat → Nat → Bool} (h : RM σ n T Y R) (hn : n ≤ 12) : az_wf σ := by
  unfold az_wf
  rw [h.nn hn]
  exact ⟨h.1, hn⟩
theorem lt_succ_dec (x m : Nat) : decide (x < m + 1) = (decide (x < m) || x == m) := by
  by_cases h1 : x < m
  · have : x < m + 1 := by omega
    simp [h1, this]
  · by_cases h2 : x = m
    · subst h2; simp
    · have : ¬ x < m + 1 := by omega
      simp [h1, h2, this]
theorem dec_bit {i j : Nat} (hi : i < 12) : Bt (bit i) j = (j == i) := by rw [Bt_bit hi, beq_dec]
variable {σ : az_S} {n : Nat} {T : Nat → Bool} {Y : Nat → Int32} {R : Nat → Nat → Bool}
theorem all_bits (h : RM σ n T Y R) (hA : Ab n T R) (j : Nat) : Bt (x_X6_all σ) j = T j := by
  unfold x_X6_all
  show Bt (az_it (fun ι s => b_X6_all_4 σ ι s) (nn σ) 0 0) j = _
  rw [h.nn hA.1]
  have k : ∀ m, m ≤ n → Bt (az_it (fun ι s => b_X6_all_4 σ ι s) m 0 0) j = (decide (j < m) && T j) := by
    intro m
    induction m with
    | zero => intro _; simp [az_it, Bt_zero]
    | succ m ih =>
      intro hm
      have hn := hA.1
      rw [az_it_snoc, Nat.zero_add, lt_succ_dec]
      show Bt (b_X6_all_4 σ m _) j = _
      have hb : ∀ w, b_X6_all_4 σ m w = if σ.2.1 37 m = 0 then w ||| 0 else w ||| bit m := fun _ => rfl
      rw [hb]
      by_cases e : σ.2.1 37 m = 0
      · rw [if_pos e, Bt_or, ih (by omega), Bt_zero]
        by_cases e2 : j = m
        · subst e2; rw [(h.2.1 j (by omega)).mp e]; simp
        · have e3 : (j == m) = false := by simp [e2]
          simp [e3]
      · rw [if_neg e, Bt_or, ih (by omega)]
        rw [dec_bit (by omega)]
        have ht : T m = true := by
          cases ht : T m with
          | true => rfl
          | false => exact absurd ((h.2.1 m (by omega)).mpr ht) e
        by_cases e2 : j = m
        · subst e2; simp [ht]
        · have e3 : (j == m) = false := by simp [e2]
          simp [e3]
  rw [k n (Nat.le_refl _)]
  cases ht : T j with
  | false => simp
  | true => simp [hA.2.1 j ht]
theorem citers_bits (h : RM σ n T Y R) (hA : Ab n T R) {p : Nat} (hp : p < 12) (j : Nat) : Bt (x_X6_citers σ (nI p)) j = R j p := by
  unfold x_X6_citers
  show Bt (az_it (fun ι s => b_X6_citers_4 σ (nI p) ι s) (nn σ) 0 0) j = _
  rw [h.nn hA.1]
  have k : ∀ m, m ≤ n → Bt (az_it (fun ι s => b_X6_citers_4 σ (nI p) ι s) m 0 0) j = (decide (j < m) && R j p) := by
    intro m
    induction m with
    | zero => intro _; simp [az_it, Bt_zero]
    | succ m ih =>
      intro hm
      have hn := hA.1
      rw [az_it_snoc, Nat.zero_add, lt_succ_dec]
      show Bt (b_X6_citers_4 σ (nI p) m _) j = _
      have hb : ∀ w, b_X6_citers_4 σ (nI p) m w = if σ.2.1 37 m = 0 then w ||| 0 else if ((σ.2.1 39 m >>> (nI p &&& 31)) &&& 1) = 1 then w ||| bit m else w ||| 0 := fun _ => rfl
      rw [hb, shr1 _ hp, h.2.2.2 m (by omega) p]
      by_cases e : σ.2.1 37 m = 0
      · rw [if_pos e, Bt_or, ih (by omega), Bt_zero]
        by_cases e2 : j = m
        · subst e2
          have ht := (h.2.1 j (by omega)).mp e
          have : R j p = false := by
            cases hr : R j p with
            | false => rfl
            | true => rw [(hA.2.2 j p hr).2.1] at ht; cases ht
          rw [this]; simp
        · have e3 : (j == m) = false := by simp [e2]
          simp [e3]
      · rw [if_neg e]
        cases hr : R m p with
        | false =>
          rw [if_neg (by decide), Bt_or, ih (by omega), Bt_zero]
          by_cases e2 : j = m
          · subst e2; simp [hr]
          · have e3 : (j == m) = false := by simp [e2]
            simp [e3]
        | true =>
          rw [if_pos (by decide), Bt_or, ih (by omega)]
          rw [dec_bit (by omega)]
          by_cases e2 : j = m
          · subst e2; simp [hr]
          · have e3 : (j == m) = false := by simp [e2]
            simp [e3]
  rw [k n (Nat.le_refl _)]
  cases hr : R j p with
  | false => simp
  | true => simp [hA.2.1 j (hA.2.2 j p hr).2.1]
theorem isPaper_at (h : RM σ n T Y R) (hA : Ab n T R) {p : Nat} (hp : p < 12) : x_X6_isPaper σ (nI p) = if T p = true then 1 else 0 := by
  have hn := hA.1
  unfold x_X6_isPaper x_X6_isIn
  rw [h.1]
  show (if (if nI p < 0 then (0 : Int32) else if nI n - 1 < nI p then 0 else 1) = 0 then (0 : Int32) else if σ.2.1 37 (nI p).toNatClampNeg = 0 then 0 else 1) = _
  rw [if_neg (p12a hp), p12g hp]
  by_cases hpn : p < n
  · have e : nI n - 1 = nI (n - 1) := by rw [show n = (n - 1) + 1 by omega]; exact nI_pred _
    rw [e, if_neg (nI_nlt (by omega) (by omega)), if_neg (by decide)]
    cases ht : T p with
    | false => rw [if_pos ((h.2.1 p hp).mpr ht)]; rfl
    | true => rw [if_neg (fun z => by rw [(h.2.1 p hp).mp z] at ht; cases ht)]; rfl
  · have ht : T p = false := by
      cases ht : T p with
      | false => rfl
      | true => exact absurd (hA.2.1 p ht) hpn
    rw [ht, if_pos (show (if nI n - 1 < nI p then (0 : Int32) else 1) = 0 from ?_)]
    · rfl
    · rw [if_pos]
      by_cases h0 : n = 0
      · subst h0
        rw [Int32.lt_iff_toInt_lt, nI_toInt (by omega), show (nI 0 - 1 : Int32).toInt = -1 from by decide]
        omega
      · have e : nI n - 1 = nI (n - 1) := by rw [show n = (n - 1) + 1 by omega]; exact nI_pred _
        rw [e]
        exact nI_lt (by omega) (by omega)
theorem isPaper_out (h : RM σ n T Y R) (hA : Ab n T R) {p : Int32} (hp : p < 0 ∨ (12 : Int32) ≤ p) : x_X6_isPaper σ p = 0 := by
  have hn := hA.1
  unfold x_X6_isPaper x_X6_isIn
  rw [h.1]
  show (if (if p < 0 then (0 : Int32) else if nI n - 1 < p then 0 else 1) = 0 then (0 : Int32) else if σ.2.1 37 p.toNatClampNeg = 0 then 0 else 1) = _
  rcases hp with hp | hp
  · rw [if_pos hp, if_pos rfl]
  · have : nI n - 1 < p := by
      have h12 : (12 : Int32).toInt = 12 := by decide
      rw [Int32.le_iff_toInt_le, h12] at hp
      rw [Int32.lt_iff_toInt_lt]
      by_cases h0 : n = 0
      · subst h0
        rw [show (nI 0 - 1 : Int32).toInt = -1 from by decide]
        omega
      · have e : nI n - 1 = nI (n - 1) := by rw [show n = (n - 1) + 1 by omega]; exact nI_pred _
        rw [e, nI_toInt (by omega)]
        omega
    rw [if_pos this]
    by_cases h0 : p < 0
    · rw [if_pos h0, if_pos rfl]
    · rw [if_neg h0, if_pos rfl]
theorem has_is (h : RC σ n T Y R) {p : Nat} (hp : p < 12) : x_X3_has σ (nI p) = if T p = true then 1 else 0 := by rw [has_at σ hp, h.2.2.1 p]
theorem holds_out (σ : az_S) (m : Int32) {p : Int32} (hp : p < 0 ∨ (12 : Int32) ≤ p) : x_X5_holds σ m p = 0 := by
  unfold x_X5_holds
  rcases hp with hp | hp
  · rw [if_pos hp]
  · by_cases h0 : p < 0
    · rw [if_pos h0]
    · rw [if_neg h0, if_pos hp]
/-- a paper that is there: class and model agree on it -/
theorem paper_cases (hC : RC σ n T Y R) (hM : RM σ n T Y R) (hA : Ab n T R) (p : Int32) : (∃ i, i < 12 ∧ p = nI i ∧ T i = true ∧ x_X5_requirePaper σ p = .inr () ∧ x_X6_isPaper σ p = 1) ∨ (x_X5_requirePaper σ p = .inl az_NSE ∧ x_X6_isPaper σ p = 0) := by
  rcases p12 p with ⟨i, hi, rfl⟩ | hp
  · have e : x_X5_requirePaper σ (nI i) = if (if T i = true then 1 else 0 : Int32) = 0 then .inl az_NSE else .inr () := by
      unfold x_X5_requirePaper
      show (if x_X3_has σ (nI i) = 0 then _ else _) = _
      rw [has_is hC hi]
    rw [e, isPaper_at hM hA hi]
    cases ht : T i with
    | true => exact Or.inl ⟨i, hi, rfl, ht, rfl, rfl⟩
    | false => exact Or.inr ⟨rfl, rfl⟩
  · refine Or.inr ⟨?_, isPaper_out hM hA hp⟩
    unfold x_X5_requirePaper
    show (if x_X5_holds σ (σ.1 2) p = 0 then _ else _) = _
    rw [holds_out σ _ hp]
    rfl
theorem asks_yes {p : Int32} (h : x_X6_isPaper σ p = 1) : x_X6_asks σ p = (1, sF σ 9 0) := by
  unfold x_X6_asks
  show (if x_X6_isPaper σ p = 0 then _ else _) = _
  rw [h]
  rfl
theorem asks_no {p : Int32} (h : x_X6_isPaper σ p = 0) : x_X6_asks σ p = (0, sF σ 9 1) := by
  unfold x_X6_asks
  show (if x_X6_isPaper σ p = 0 then _ else _) = _
  rw [h]
  rfl
theorem asksTwo_yes {p q : Int32} (h : x_X6_isPaper σ p = 1) (h2 : x_X6_isPaper σ q = 1) : x_X6_asksTwo σ p q = (1, sF σ 9 0) := by
  unfold x_X6_asksTwo
  show (if x_X6_isPaper σ p = 0 then _ else if x_X6_isPaper σ q = 0 then _ else _) = _
  rw [h, h2]
  rfl
theorem asksTwo_no {p q : Int32} (h : x_X6_isPaper σ p = 0 ∨ x_X6_isPaper σ q = 0) : x_X6_asksTwo σ p q = (0, sF σ 9 1) := by
  unfold x_X6_asksTwo
  show (if x_X6_isPaper σ p = 0 then _ else if x_X6_isPaper σ q = 0 then _ else _) = _
  by_cases h1 : x_X6_isPaper σ p = 0
  · rw [if_pos h1]
  · rw [if_neg h1, if_pos (h.resolve_left h1)]
end AZB5
