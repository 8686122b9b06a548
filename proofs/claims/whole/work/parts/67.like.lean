/-! risers, heirs, likeness -/
section AZB8
variable {σ : az_S} {n : Nat} {T : Nat → Bool} {Y : Nat → Int32} {R : Nat → Nat → Bool}
theorem az_it_two {S : Type} {b b' : Nat → S → S} (P : S → Prop) {N : Nat} (h : ∀ i s, i < N → P s → b i s = b' i s ∧ P (b' i s)) {s : S} (h0 : P s) : ∀ m, m ≤ N → az_it b m 0 s = az_it b' m 0 s ∧ P (az_it b' m 0 s) := by
  intro m
  induction m with
  | zero => intro _; exact ⟨rfl, h0⟩
  | succ m ih =>
    intro hm
    obtain ⟨i1, i2⟩ := ih (by omega)
    rw [az_it_snoc, az_it_snoc, i1, Nat.zero_add]
    exact h m _ (by omega) i2
def rise (R : Nat → Nat → Bool) (Y : Nat → Int32) (y : Int32) (p : Nat) : Int32 := nI (cy R Y p y) - nI (cy R Y p (y - 1))
theorem riser_same (hC : RC σ n T Y R) {τ : az_S} (hM : RM τ n T Y R) (hA : Ab n T R) (y : Int32) :
    (az_it (fun ι s => b_X5_riser_11 σ y ι s.1 s.2) 12 0 ((-1), 0)).1 = az_dn (fun ι s => b_X6_riser_33 τ y ι s) (nn τ) (-1) := by
  have hn := hA.1
  have h1 := up_max (C := T) (v := rise R Y y) (b := fun ι s => b_X5_riser_11 σ y ι s.1 s.2) (z := 0) (fun i s hi => by
    show (if x_X3_has σ (nI i) = 0 then (s.1, s.2) else if s.1 = -1 then (nI i, x_X3_riseOf σ (nI i) y) else if x_X3_riseOf σ (nI i) y ≤ s.2 then (s.1, s.2) else (nI i, x_X3_riseOf σ (nI i) y)) = _
    rw [has_is hC hi, s5_riseOf hC hi]
    cases T i <;> rfl) 12 (Nat.le_refl _)
  have hb : ∀ i w, b_X6_riser_33 τ y i w = if τ.2.1 37 i = 0 then w else if w = -1 then nI i else if x_X6_rises τ (nI i) y < x_X6_rises τ w y then w else nI i := fun _ _ => rfl
  have h2 := dn_max (C := T) (v := fun i => (rise R Y y i).toInt) (N := n) hn (b := fun ι s => b_X6_riser_33 τ y ι s) (fun i w hi hc => by
      show b_X6_riser_33 τ y i w = w
      rw [hb, if_pos ((hM.2.1 i (by omega)).mpr hc)]) (fun i hi hc => by
      show b_X6_riser_33 τ y i (-1) = nI i
      rw [hb, if_neg (fun z => by rw [(hM.2.1 i (by omega)).mp z] at hc; cases hc), if_pos rfl]) (fun i k hi hk hc => by
      show b_X6_riser_33 τ y i (nI k) = _
      have hk1 : ¬ (nI k : Int32) = -1 := fun z => by
        have := congrArg Int32.toInt z
        rw [nI_toInt (by omega), show (-1 : Int32).toInt = -1 from by decide] at this
        omega
      rw [hb, if_neg (fun z => by rw [(hM.2.1 i (by omega)).mp z] at hc; cases hc), if_neg hk1, s6_rises hM hA (by omega), s6_rises hM hA (by omega)]
      show (if rise R Y y i < rise R Y y k then _ else _) = _
      by_cases e : rise R Y y i < rise R Y y k
      · rw [if_pos e, if_pos (Int32.lt_iff_toInt_lt.mp e)]
      · rw [if_neg e, if_neg (fun z => e (Int32.lt_iff_toInt_lt.mpr z))]) n (-1) (Nat.le_refl _) (Or.inl ⟨fun i h1 h2 => by omega, rfl⟩)
  rw [hM.nn hn]
  rcases h1 with ⟨a1, a2⟩ | ⟨k, ka, a2⟩
  · rw [a2]
    rcases h2 with ⟨b1, b2⟩ | ⟨j, jb, b2⟩
    · exact b2.symm
    · have := a1 j (by have := jb.2.1; omega)
      rw [jb.2.2.1] at this; cases this
  · rw [a2]
    rcases h2 with ⟨b1, b2⟩ | ⟨j, jb, b2⟩
    · have := b1 k (hA.2.1 k ka.2.2.1)
      rw [ka.2.2.1] at this; cases this
    · have : FA T (fun i => (rise R Y y i).toInt) 0 n k := ⟨ka.1, hA.2.1 k ka.2.2.1, ka.2.2.1, fun i h1 h2 h3 => ka.2.2.2.1 i h1 (by omega) h3, ka.2.2.2.2⟩
      rw [b2, FA_one this jb]
def heirB (R : Nat → Nat → Bool) (p i : Nat) (s : Int32 × Int32) : Int32 × Int32 := if R i p = true then (if s.1 = -1 then (nI i, nI (tS R p i)) else if nI (tS R p i) ≤ s.2 then s else (nI i, nI (tS R p i))) else s
theorem heir_step {R : Nat → Nat → Bool} {p i : Nat} {s q : Int32 × Int32} (hb : q = if (if R i p = true then 1 else 0 : Int32) = 1 then (if nI (tS R p i) ≤ s.2 then (s.1, s.2) else (nI i, nI (tS R p i))) else if -1 ≤ s.2 then (s.1, s.2) else (nI i, -1)) (hv : (0 : Int32) ≤ nI (tS R p i)) (hv1 : ¬ nI (tS R p i) ≤ (-1 : Int32)) (hni : ¬ (nI i : Int32) = -1) (hP : s = (-1, -1) ∨ (0 ≤ s.2 ∧ ¬ s.1 = -1)) : q = heirB R p i s ∧ (heirB R p i s = (-1, -1) ∨ (0 ≤ (heirB R p i s).2 ∧ ¬ (heirB R p i s).1 = -1)) := by
  obtain ⟨s1, s2⟩ := s
  have hm1 : (-1 : Int32) ≤ s2 := by
    rcases hP with h | ⟨h, -⟩
    · cases h; exact Int32.le_refl _
    · rw [Int32.le_iff_toInt_le] at h ⊢
      have e1 : (-1 : Int32).toInt = -1 := by decide
      have e2 : (0 : Int32).toInt = 0 := by decide
      have : (0 : Int32).toInt ≤ s2.toInt := h
      omega
  rw [hb]
  unfold heirB
  generalize nI (tS R p i) = w at hv hv1 ⊢
  cases hr : R i p with
  | false =>
    rw [if_neg (by decide : ¬ (if false = true then 1 else 0 : Int32) = 1), if_pos hm1, if_neg (by decide : ¬ false = true)]
    exact ⟨rfl, hP⟩
  | true =>
    rw [if_pos (by decide : (if true = true then 1 else 0 : Int32) = 1), if_pos (rfl : true = true)]
    dsimp only
    by_cases h1 : s1 = -1
    · rw [if_pos h1]
      have h2 : s2 = -1 := by
        rcases hP with h | ⟨-, h⟩
        · cases h; rfl
        · exact absurd h1 h
      rw [h2, if_neg hv1]
      exact ⟨rfl, Or.inr ⟨hv, hni⟩⟩
    · rw [if_neg h1]
      have h2 : 0 ≤ s2 := by
        rcases hP with h | ⟨h, -⟩
        · cases h; exact absurd rfl h1
        · exact h
      by_cases e : w ≤ s2
      · rw [if_pos e]; exact ⟨rfl, Or.inr ⟨h2, h1⟩⟩
      · rw [if_neg e]; exact ⟨rfl, Or.inr ⟨hv, hni⟩⟩
theorem heir_same (hC : RC σ n T Y R) {τ : az_S} (hM : RM τ n T Y R) (hA : Ab n T R) {p : Nat} (hp : p < 12) :
    (az_it (fun ι s => b_X5_heir_12 σ (nI p) ι s.1 s.2) 12 0 ((-1), 0)).1 = (az_it (fun ι s => b_X6_heir_17 τ (nI p) ι s.1 s.2) (nn τ) 0 ((-1), (-1))).1 := by
  have hn := hA.1
  have h1 := up_max (C := fun i => R i p) (v := fun i => nI (tS R p i)) (b := fun ι s => b_X5_heir_12 σ (nI p) ι s.1 s.2) (z := 0) (fun i s hi => by
    show (if x_X3_cites σ (nI i) (nI p) = 0 then (s.1, s.2) else if s.1 = -1 then (nI i, x_X3_sharedOf σ (nI p) (nI i)) else if x_X3_sharedOf σ (nI p) (nI i) ≤ s.2 then (s.1, s.2) else (nI i, x_X3_sharedOf σ (nI p) (nI i))) = _
    rw [cites_at σ hi hp, hC.2.2.2.2.1 i hi, s5_sharedOf hC hp hi]
    cases R i p <;> rfl) 12 (Nat.le_refl _)
  have hpos : ∀ i, (0 : Int32) ≤ nI (tS R p i) := fun i => nI_pos' (by have := cnt_le (fun k => R p k && R i k) 12; unfold tS; omega)
  have h2 := az_it_two (b := fun ι s => b_X6_heir_17 τ (nI p) ι s.1 s.2) (b' := heirB R p) (fun s : Int32 × Int32 => s = (-1, -1) ∨ (0 ≤ s.2 ∧ ¬ s.1 = -1)) (N := n) (fun i s hi hP => by
    have hb : b_X6_heir_17 τ (nI p) i s.1 s.2 = if ((τ.2.1 39 i >>> (nI p &&& 31)) &&& 1) = 1 then (if x_X6_count τ (τ.2.1 39 i &&& τ.2.1 39 (nI p).toNatClampNeg) ≤ s.2 then (s.1, s.2) else (nI i, x_X6_count τ (τ.2.1 39 i &&& τ.2.1 39 (nI p).toNatClampNeg))) else if -1 ≤ s.2 then (s.1, s.2) else (nI i, -1) := rfl
    rw [shr1 _ hp, hM.2.2.2 i (by omega), p12g hp, s6_shared hM (by omega) hp, tS_sym R i p] at hb
    have hni : ¬ (nI i : Int32) = -1 := fun z => by
      have := congrArg Int32.toInt z
      rw [nI_toInt (by omega), show (-1 : Int32).toInt = -1 from by decide] at this
      omega
    have hv := hpos i
    have hv1 : ¬ nI (tS R p i) ≤ (-1 : Int32) := fun z => by
      rw [Int32.le_iff_toInt_le] at z hv
      have e1 : (-1 : Int32).toInt = -1 := by decide
      have e2 : (0 : Int32).toInt = 0 := by decide
      omega
    exact heir_step hb hv hv1 hni hP) (s := (-1, -1)) (Or.inl rfl) n (Nat.le_refl _)
  have h3 := up_max (C := fun i => R i p) (v := fun i => nI (tS R p i)) (b := heirB R p) (z := -1) (fun i s hi => rfl) n hn
  rw [hM.nn hn, h2.1]
  have hRn : ∀ i, R i p = true → i < n := fun i h => hA.2.1 i (hA.2.2 i p h).2.1
  rcases h1 with ⟨a1, a2⟩ | ⟨k, ka, a2⟩
  · rw [a2]
    rcases h3 with ⟨b1, b2⟩ | ⟨j, jb, b2⟩
    · rw [b2]
    · have := a1 j (by have := jb.2.1; omega)
      have h9 := jb.2.2.1
      simp only [] at h9 this
      rw [h9] at this; cases this
  · rw [a2]
    have hk : R k p = true := ka.2.2.1
    rcases h3 with ⟨b1, b2⟩ | ⟨j, jb, b2⟩
    · have : R k p = false := b1 k (hRn k hk)
      rw [hk] at this; cases this
    · have : FA (fun i => R i p) (fun i => (nI (tS R p i)).toInt) 0 n k := ⟨ka.1, hRn k hk, ka.2.2.1, fun i h1 h2 h3 => ka.2.2.2.1 i h1 (by omega) h3, ka.2.2.2.2⟩
      rw [b2, FA_one this jb]
/-! likeness -/
theorem nI_mul (a b : Nat) : nI a * nI b = nI (a * b) := (Int32.ofNat_mul a b).symm
theorem lt_go_is {t U K : Nat} (hK : 0 < K) (hK2 : K ≤ 144) (hU : U < 1000) (ht : t < 1000) : ∀ m, m ≤ K → Nat.gcd U K ≤ m → lt_go (nI t) (nI U) (nI K) m = nI (t / Nat.gcd U K) := by
  have hg : 0 < Nat.gcd U K := Nat.gcd_pos_of_pos_right _ hK
  intro m
  induction m with
  | zero => intro _ h; omega
  | succ m ih =>
    intro hm hgm
    unfold lt_go
    have hd : 0 < m + 1 := by omega
    rw [pk_rem (by omega) hd (by omega), pk_rem (by omega) hd (by omega)]
    have e1 : nI (m + 1) ≤ 1 ↔ m + 1 ≤ 1 := nI_leI (b := 1) (by omega) (by omega)
    have e2 : ∀ a, a < 1000 → (nI a = 0 ↔ a = 0) := fun a ha => nI_eq (b := 0) (by omega) (by omega)
    by_cases hm1 : m + 1 ≤ 1
    · rw [if_pos (e1.mpr hm1)]
      have : Nat.gcd U K = 1 := by omega
      rw [this, Nat.div_one]
    · rw [if_neg (fun z => hm1 (e1.mp z))]
      have hUm := Nat.mod_lt U hd
      have hKm := Nat.mod_lt K hd
      by_cases hc : U % (m + 1) = 0 ∧ K % (m + 1) = 0
      · rw [if_pos ((e2 _ (by omega)).mpr hc.1), if_pos ((e2 _ (by omega)).mpr hc.2)]
        have : Nat.gcd U K = m + 1 := by
          have h1 : m + 1 ∣ Nat.gcd U K := Nat.dvd_gcd (Nat.dvd_of_mod_eq_zero hc.1) (Nat.dvd_of_mod_eq_zero hc.2)
          have := Nat.le_of_dvd hg h1
          omega
        rw [this, pk_div (by omega) hd (by omega)]
      · have hne : Nat.gcd U K ≠ m + 1 := fun z => hc (by
          rw [← z]
          exact ⟨Nat.mod_eq_zero_of_dvd (Nat.gcd_dvd_left U K), Nat.mod_eq_zero_of_dvd (Nat.gcd_dvd_right U K)⟩)
        have ih' := ih (by omega) (by omega)
        by_cases h1 : U % (m + 1) = 0
        · have h2 : ¬ K % (m + 1) = 0 := fun z => hc ⟨h1, z⟩
          rw [if_pos ((e2 _ (by omega)).mpr h1), if_neg (fun z => h2 ((e2 _ (by omega)).mp z))]
          exact ih'
        · rw [if_neg (fun z => h1 ((e2 _ (by omega)).mp z))]
          exact ih'
theorem lowest_is (σ : az_S) {t U K : Nat} (hK : 0 < K) (hK2 : K ≤ 144) (hU : U < 1000) (ht : t < 1000) : x_X5_lowestTerm σ (nI t) (nI U) (nI K) = nI (t / Nat.gcd U K) := by
  unfold x_X5_lowestTerm
  by_cases h : nI K ≤ 1
  · rw [if_pos h]
    have : K ≤ 1 := (nI_leI (b := 1) (by omega) (by omega)).mp h
    have : K = 1 := by omega
    rw [this, Nat.gcd_one_right, Nat.div_one]
  · rw [if_neg h, nI_clamp (by omega)]
    exact lt_go_is hK hK2 hU ht K (Nat.le_refl _) (Nat.gcd_le_right _ hK)
theorem cnt_mono {P Q : Nat → Bool} (h : ∀ i, P i = true → Q i = true) : ∀ m, cnt P m ≤ cnt Q m
  | 0 => Nat.le_refl _
  | m + 1 => by
    have := cnt_mono h m
    unfold cnt
    cases hp : P m with
    | false => simp; omega
    | true => rw [h m hp]; simp; omega
def kR (R : Nat → Nat → Bool) (a : Nat) : Nat := cnt (R a) 12
theorem tS_le (R : Nat → Nat → Bool) (a b : Nat) : tS R a b ≤ kR R a ∧ tS R a b ≤ kR R b :=
  ⟨cnt_mono (fun i h => by rw [Bool.and_eq_true] at h; exact h.1) 12, cnt_mono (fun i h => by rw [Bool.and_eq_true] at h; exact h.2) 12⟩
theorem pairs_is (hC : RC σ n T Y R) (hA : Ab n T R) {a b : Nat} (ha : a < 12) (hb : b < 12) : x_X5_referencePairs σ (nI a) (nI b) = nI (kR R a * kR R b) := by
  have e : ∀ i, i < 12 → x_J6_bitCount_0f7a4 σ (x_X3_referredBy σ (nI i)) = nI (kR R i) := fun i hi => by
    show x_J6_bitCount_0f7a4 σ (x_X2_at_4 σ (nI i)) = _
    rw [at_r4 σ hi, bitCount_cnt σ (refs_M12 hC hA hi), cnt_congr (fun j _ => hC.2.2.2.2.1 i hi j)]
    rfl
  show x_J6_bitCount_0f7a4 σ (x_X3_referredBy σ (nI a)) * x_J6_bitCount_0f7a4 σ (x_X3_referredBy σ (nI b)) = _
  rw [e a ha, e b hb, nI_mul]
theorem kR_le (R : Nat → Nat → Bool) (a : Nat) : kR R a ≤ 12 := cnt_le _ _
theorem s6_likeness {τ : az_S} (hM : RM τ n T Y R) {a b : Nat} (ha : a < 12) (hb : b < 12) (fl : Int32) : x_X6_likeness τ (nI a) (nI b) fl = if kR R a * kR R b = 0 then (if fl = 0 then 1 else 0) else if fl = 0 then nI (kR R a * kR R b / Nat.gcd (tS R a b * tS R a b) (kR R a * kR R b)) else nI (tS R a b * tS R a b / Nat.gcd (tS R a b * tS R a b) (kR R a * kR R b)) := by
  have ek : ∀ i, i < 12 → x_X6_count τ (τ.2.1 39 i) = nI (kR R i) := fun i hi => by
    rw [xcount_cnt, cnt_congr (fun j _ => hM.2.2.2 i hi j)]
    rfl
  have h1 := kR_le R a
  have h2 := kR_le R b
  have h3 := tS_le R a b
  have hK : kR R a * kR R b ≤ 144 := Nat.mul_le_mul h1 h2
  have h4 : tS R a b ≤ 12 := by omega
  have hU : tS R a b * tS R a b ≤ 144 := Nat.mul_le_mul h4 h4
  unfold x_X6_likeness
  show (if x_X6_count τ (τ.2.1 39 (nI a).toNatClampNeg) * x_X6_count τ (τ.2.1 39 (nI b).toNatClampNeg) = 0 then (if fl = 0 then (1 : Int32) else 0)
    else if fl = 0 then (x_X6_count τ (τ.2.1 39 (nI a).toNatClampNeg) * x_X6_count τ (τ.2.1 39 (nI b).toNatClampNeg)) / x_X6_divisor τ (x_X6_count τ (τ.2.1 39 (nI a).toNatClampNeg) * x_X6_count τ (τ.2.1 39 (nI b).toNatClampNeg)) (x_X6_count τ (τ.2.1 39 (nI a).toNatClampNeg &&& τ.2.1 39 (nI b).toNatClampNeg) * x_X6_count τ (τ.2.1 39 (nI a).toNatClampNeg &&& τ.2.1 39 (nI b).toNatClampNeg))
    else (x_X6_count τ (τ.2.1 39 (nI a).toNatClampNeg &&& τ.2.1 39 (nI b).toNatClampNeg) * x_X6_count τ (τ.2.1 39 (nI a).toNatClampNeg &&& τ.2.1 39 (nI b).toNatClampNeg)) / x_X6_divisor τ (x_X6_count τ (τ.2.1 39 (nI a).toNatClampNeg) * x_X6_count τ (τ.2.1 39 (nI b).toNatClampNeg)) (x_X6_count τ (τ.2.1 39 (nI a).toNatClampNeg &&& τ.2.1 39 (nI b).toNatClampNeg) * x_X6_count τ (τ.2.1 39 (nI a).toNatClampNeg &&& τ.2.1 39 (nI b).toNatClampNeg))) = _
  rw [p12g ha, p12g hb, ek a ha, ek b hb, s6_shared hM ha hb, nI_mul, nI_mul]
  have hz : nI (kR R a * kR R b) = 0 ↔ kR R a * kR R b = 0 := nI_eq (b := 0) (by omega) (by omega)
  by_cases h0 : kR R a * kR R b = 0
  · rw [if_pos (hz.mpr h0), if_pos h0]
  · rw [if_neg (fun z => h0 (hz.mp z)), if_neg h0]
    have hd : x_X6_divisor τ (nI (kR R a * kR R b)) (nI (tS R a b * tS R a b)) = nI (Nat.gcd (tS R a b * tS R a b) (kR R a * kR R b)) := by
      unfold x_X6_divisor
      rw [nI_clamp (by omega), nI_clamp (by omega), Nat.gcd_comm]
    have hg : 0 < Nat.gcd (tS R a b * tS R a b) (kR R a * kR R b) := Nat.gcd_pos_of_pos_right _ (by omega)
    have hg2 : Nat.gcd (tS R a b * tS R a b) (kR R a * kR R b) ≤ kR R a * kR R b := Nat.gcd_le_right _ (by omega)
    rw [hd, pk_div (by omega) hg (by omega), pk_div (by omega) hg (by omega)]
end AZB8
