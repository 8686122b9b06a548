/-! answers that read the literature as it stands -/
section AZB7
variable {σ : az_S} {n : Nat} {T : Nat → Bool} {Y : Nat → Int32} {R : Nat → Nat → Bool}
theorem cnt_ext {P : Nat → Bool} {n : Nat} (h : ∀ i, n ≤ i → P i = false) : ∀ {N : Nat}, n ≤ N → cnt P N = cnt P n
  | 0, h0 => by rw [show n = 0 by omega]
  | N + 1, h0 => by
    by_cases e : n = N + 1
    · rw [e]
    · have hN : n ≤ N := by omega
      show cnt P N + (if P N = true then 1 else 0) = _
      rw [cnt_ext h hN, h N hN]
      rfl
theorem there_M12 (h : RC σ n T Y R) (hA : Ab n T R) : M12 (σ.1 2) := fun i hi => by
  rw [h.2.2.1 i]
  cases ht : T i with
  | false => rfl
  | true => have := hA.2.1 i ht; have := hA.1; omega
theorem refs_M12 (h : RC σ n T Y R) (hA : Ab n T R) {i : Nat} (hi : i < 12) : M12 (σ.2.1 5 i) := fun j hj => by
  rw [h.2.2.2.2.1 i hi j]
  cases hr : R i j with
  | false => rfl
  | true => have := (hA.2.2 i j hr).1; omega
theorem citers_M12 (h : RC σ n T Y R) (hA : Ab n T R) {j : Nat} (hj : j < 12) : M12 (σ.2.1 7 j) := fun i hi => by
  rw [h.2.2.2.2.2.1 j hj i]
  cases hr : R i j with
  | false => rfl
  | true => have := hA.2.1 i (hA.2.2 i j hr).2.1; have := hA.1; omega
theorem s5_papers (h : RC σ n T Y R) (hA : Ab n T R) : x_X5_papers σ = nI (cnt T 12) := by
  show x_J6_bitCount_0f7a4 σ (σ.1 2) = _
  rw [bitCount_cnt σ (there_M12 h hA), cnt_congr (fun i _ => h.2.2.1 i)]
theorem s6_papers (h : RM σ n T Y R) (hA : Ab n T R) : x_X6_papers σ = (nI (cnt T 12), sF σ 9 0) := by
  show (x_X6_count (sF σ 9 0) (x_X6_all (sF σ 9 0)), sF σ 9 0) = _
  rw [xcount_cnt, cnt_congr (fun i _ => all_bits ((Kp.f σ 0).RM h) hA i)]
/-- the one of several answers: their numbers as sets -/
theorem set_eq {a b : Int32} {P : Nat → Bool} (ha : ∀ j, Bt a j = P j) (hb : ∀ j, Bt b j = P j) : a = b := Bt_ext fun i _ => (ha i).trans (hb i).symm
theorem s5_referredBy (h : RC σ n T Y R) {i : Nat} (hi : i < 12) (j : Nat) : Bt (x_X3_referredBy σ (nI i)) j = R i j := by
  show Bt (x_X2_at_4 σ (nI i)) j = _
  rw [at_r4 σ hi]
  exact h.2.2.2.2.1 i hi j
theorem s5_citersOf (h : RC σ n T Y R) {i : Nat} (hi : i < 12) (j : Nat) : Bt (x_X3_citersOf σ (nI i)) j = R j i := by
  show Bt (x_X2_at_6 σ (nI i)) j = _
  rw [at_r6 σ hi]
  exact h.2.2.2.2.2.1 i hi j
theorem s5_sharedOf (h : RC σ n T Y R) {a b : Nat} (ha : a < 12) (hb : b < 12) : x_X3_sharedOf σ (nI a) (nI b) = nI (tS R a b) := by
  show x_X4_at_8 σ (nI a) (nI b) = _
  rw [at_t8 σ ha hb]
  exact h.2.2.2.2.2.2.1 a b ha hb
theorem s5_jointOf (h : RC σ n T Y R) {a b : Nat} (ha : a < 12) (hb : b < 12) : x_X3_jointOf σ (nI a) (nI b) = nI (tJ R a b) := by
  show x_X4_at_10 σ (nI a) (nI b) = _
  rw [at_t10 σ ha hb]
  exact h.2.2.2.2.2.2.2 a b ha hb
theorem s6_shared (h : RM σ n T Y R) {a b : Nat} (ha : a < 12) (hb : b < 12) : x_X6_count σ (σ.2.1 39 a &&& σ.2.1 39 b) = nI (tS R a b) := by
  rw [xcount_cnt]
  congr 1
  apply cnt_congr
  intro i _
  rw [Bt_and, h.2.2.2 a ha, h.2.2.2 b hb]
theorem s6_joint (h : RM σ n T Y R) (hA : Ab n T R) {a b : Nat} (ha : a < 12) (hb : b < 12) : x_X6_count σ (x_X6_citers σ (nI a) &&& x_X6_citers σ (nI b)) = nI (tJ R a b) := by
  rw [xcount_cnt]
  congr 1
  apply cnt_congr
  intro i _
  rw [Bt_and, citers_bits h hA ha, citers_bits h hA hb]
/-! rises -/
def cy (R : Nat → Nat → Bool) (Y : Nat → Int32) (p : Nat) (y : Int32) : Nat := cnt (fun i => R i p && decide (Y i = y)) 12
theorem s5_citersOfYear (h : RC σ n T Y R) {p : Nat} (hp : p < 12) (y : Int32) : x_X3_citersOfYear σ (nI p) y = nI (cy R Y p y) := by
  unfold x_X3_citersOfYear
  show az_it (fun ι s => b_X3_citersOfYear_5 σ (nI p) y ι s) 12 0 0 = _
  have k : ∀ m, m ≤ 12 → az_it (fun ι s => b_X3_citersOfYear_5 σ (nI p) y ι s) m 0 0 = nI (cnt (fun i => R i p && decide (Y i = y)) m) := by
    intro m
    induction m with
    | zero => intro _; rfl
    | succ m ih =>
      intro hm
      rw [az_it_snoc, Nat.zero_add, ih (by omega)]
      have hb : ∀ w, b_X3_citersOfYear_5 σ (nI p) y m w = if x_X3_cites σ (nI m) (nI p) = 0 then w else if x_X2_at_2 σ (nI m) = y then w + 1 else w := fun _ => rfl
      show b_X3_citersOfYear_5 σ (nI p) y m _ = _
      rw [hb, cites_at σ (by omega) hp, h.2.2.2.2.1 m (by omega), at_r2 σ (by omega), h.2.2.2.1 m (by omega)]
      show _ = nI (cnt _ m + if (R m p && decide (Y m = y)) = true then 1 else 0)
      cases hr : R m p
      · rfl
      · by_cases e : Y m = y
        · rw [if_pos e, ← nI_add]; simp [e]; rfl
        · rw [if_neg e]; simp [e]
  exact k 12 (Nat.le_refl _)
theorem s5_riseOf (h : RC σ n T Y R) {p : Nat} (hp : p < 12) (y : Int32) : x_X3_riseOf σ (nI p) y = nI (cy R Y p y) - nI (cy R Y p (y - 1)) := by
  show x_X3_citersOfYear σ (nI p) y - x_X3_citersOfYear σ (nI p) (y - 1) = _
  rw [s5_citersOfYear h hp, s5_citersOfYear h hp]
theorem ne_pred (y : Int32) : ¬ y = y - 1 := by
  intro h
  have : y - y = y - 1 - y := congrArg (· - y) h
  have e : y - 1 - y = -1 := by grind
  rw [Int32.sub_self, e] at this
  revert this
  decide
theorem s6_rises (h : RM σ n T Y R) (hA : Ab n T R) {p : Nat} (hp : p < 12) (y : Int32) : x_X6_rises σ (nI p) y = nI (cy R Y p y) - nI (cy R Y p (y - 1)) := by
  unfold x_X6_rises
  show az_it (fun ι s => b_X6_rises_5 σ (nI p) y ι s) (nn σ) 0 0 = _
  rw [h.nn hA.1]
  have k : ∀ m, m ≤ n → az_it (fun ι s => b_X6_rises_5 σ (nI p) y ι s) m 0 0 = nI (cnt (fun i => R i p && decide (Y i = y)) m) - nI (cnt (fun i => R i p && decide (Y i = y - 1)) m) := by
    intro m
    induction m with
    | zero => intro _; show (0 : Int32) = nI 0 - nI 0; decide
    | succ m ih =>
      intro hm
      have hn := hA.1
      rw [az_it_snoc, Nat.zero_add, ih (by omega)]
      have hb : ∀ w, b_X6_rises_5 σ (nI p) y m w = if σ.2.1 37 m = 0 then w + 0 else if ((σ.2.1 39 m >>> (nI p &&& 31)) &&& 1) = 1 then (if σ.2.1 38 m = y then w + 1 else if σ.2.1 38 m = y - 1 then w + (-1) else w + 0) else w + 0 := fun _ => rfl
      show b_X6_rises_5 σ (nI p) y m _ = _
      rw [hb, shr1 _ hp, h.2.2.2 m (by omega), h.2.2.1 m (by omega)]
      show _ = nI (cnt _ m + if (R m p && decide (Y m = y)) = true then 1 else 0) - nI (cnt _ m + if (R m p && decide (Y m = y - 1)) = true then 1 else 0)
      generalize cnt (fun i => R i p && decide (Y i = y)) m = A
      generalize cnt (fun i => R i p && decide (Y i = y - 1)) m = B
      cases hr : R m p
      · simp
      · have ht : ¬ σ.2.1 37 m = 0 := fun z => by
          have := (h.2.1 m (by omega)).mp z
          rw [(hA.2.2 m p hr).2.1] at this; cases this
        rw [if_neg ht, if_pos (by decide)]
        by_cases e : Y m = y
        · have e2 : ¬ Y m = y - 1 := by rw [e]; exact ne_pred y
          rw [if_pos e]
          simp only [e, decide_true, Bool.and_self, if_true, ne_pred y, decide_false, Bool.and_false, Bool.false_eq_true, if_false, Nat.add_zero]
          rw [← nI_1]; grind
        · rw [if_neg e]
          by_cases e2 : Y m = y - 1
          · rw [if_pos e2]
            simp only [e2, decide_true, Bool.and_self, if_true, fun z : y - 1 = y => ne_pred y z.symm, decide_false, Bool.and_false, Bool.false_eq_true, if_false, Nat.add_zero]
            rw [← nI_1]; grind
          · rw [if_neg e2]
            simp [e, e2]
  rw [k n (Nat.le_refl _)]
  have hx : ∀ z : Int32, cnt (fun i => R i p && decide (Y i = z)) n = cy R Y p z := fun z => (cnt_ext (fun i hi => by
    cases hr : R i p with
    | false => rfl
    | true => have := hA.2.1 i (hA.2.2 i p hr).2.1; omega) hA.1).symm
  rw [hx, hx]
/-! the first of the greatest -/
def FA (C : Nat → Bool) (v : Nat → Int) (l N b : Nat) : Prop := l ≤ b ∧ b < N ∧ C b = true ∧ (∀ i, l ≤ i → i < N → C i = true → v i ≤ v b) ∧ (∀ i, l ≤ i → i < b → C i = true → v i < v b)
theorem FA_one {C : Nat → Bool} {v : Nat → Int} {l N a b : Nat} (ha : FA C v l N a) (hb : FA C v l N b) : a = b := by
  obtain ⟨a0, a1, a2, a3, a4⟩ := ha
  obtain ⟨b0, b1, b2, b3, b4⟩ := hb
  have h1 := a3 b b0 b1 b2
  have h2 := b3 a a0 a1 a2
  by_cases e : a < b
  · have := b4 a a0 e a2; omega
  · by_cases e2 : b < a
    · have := a4 b b0 e2 b2; omega
    · omega
theorem up_max {C : Nat → Bool} {v : Nat → Int32} {b : Nat → Int32 × Int32 → Int32 × Int32} {z : Int32} (hb : ∀ i s, i < 12 → b i s = if C i = true then (if s.1 = -1 then (nI i, v i) else if v i ≤ s.2 then s else (nI i, v i)) else s) : ∀ m, m ≤ 12 →
    ((∀ i, i < m → C i = false) ∧ az_it b m 0 (-1, z) = (-1, z)) ∨ ∃ k, FA C (fun i => (v i).toInt) 0 m k ∧ az_it b m 0 (-1, z) = (nI k, v k) := by
  intro m
  induction m with
  | zero => intro _; exact Or.inl ⟨fun i hi => by omega, rfl⟩
  | succ m ih =>
    intro hm
    rw [az_it_snoc, Nat.zero_add, hb m _ (by omega)]
    rcases ih (by omega) with ⟨h1, h2⟩ | ⟨k, ⟨k0, k1, k2, k3, k4⟩, h2⟩
    · rw [h2]
      cases hc : C m with
      | false =>
        refine Or.inl ⟨fun i hi => ?_, rfl⟩
        by_cases e : i = m
        · rw [e]; exact hc
        · exact h1 i (by omega)
      | true =>
        refine Or.inr ⟨m, ⟨Nat.zero_le _, Nat.lt_succ_self _, hc, fun i _ hi hci => ?_, fun i _ hi hci => ?_⟩, rfl⟩
        · by_cases e : i = m
          · subst e; exact Int.le_refl _
          · rw [h1 i (by omega)] at hci; cases hci
        · rw [h1 i hi] at hci; cases hci
    · rw [h2]
      have hk1 : ¬ (nI k : Int32) = -1 := fun z => by
        have := congrArg Int32.toInt z
        rw [nI_toInt (by omega), show (-1 : Int32).toInt = -1 from by decide] at this
        omega
      cases hc : C m with
      | false =>
        refine Or.inr ⟨k, ⟨k0, by omega, k2, fun i _ hi hci => ?_, k4⟩, rfl⟩
        by_cases e : i = m
        · rw [e, hc] at hci; cases hci
        · exact k3 i (Nat.zero_le _) (by omega) hci
      | true =>
        rw [if_pos rfl]
        dsimp only
        rw [if_neg hk1]
        by_cases hle : v m ≤ v k
        · rw [if_pos hle]
          rw [Int32.le_iff_toInt_le] at hle
          refine Or.inr ⟨k, ⟨k0, by omega, k2, fun i _ hi hci => ?_, k4⟩, rfl⟩
          by_cases e : i = m
          · rw [e]; exact hle
          · exact k3 i (Nat.zero_le _) (by omega) hci
        · rw [if_neg hle]
          rw [Int32.le_iff_toInt_le] at hle
          refine Or.inr ⟨m, ⟨Nat.zero_le _, Nat.lt_succ_self _, hc, fun i _ hi hci => ?_, fun i _ hi hci => ?_⟩, rfl⟩
          · by_cases e : i = m
            · subst e; exact Int.le_refl _
            · have := k3 i (Nat.zero_le _) (by omega) hci
              show (v i).toInt ≤ (v m).toInt
              have : (v i).toInt ≤ (v k).toInt := this
              omega
          · have : (v i).toInt ≤ (v k).toInt := k3 i (Nat.zero_le _) hi hci
            show (v i).toInt < (v m).toInt
            omega
/-- downwards, with the last word to the lower one -/
theorem dn_max {C : Nat → Bool} {v : Nat → Int} {N : Nat} (hN : N ≤ 12) {b : Nat → Int32 → Int32} (hb1 : ∀ i w, i < N → C i = false → b i w = w) (hb2 : ∀ i, i < N → C i = true → b i (-1) = nI i) (hb3 : ∀ i k, i < N → k < N → C i = true → b i (nI k) = if v i < v k then nI k else nI i) : ∀ m w, m ≤ N →
    (((∀ i, m ≤ i → i < N → C i = false) ∧ w = -1) ∨ ∃ k, FA C v m N k ∧ w = nI k) →
    (((∀ i, i < N → C i = false) ∧ az_dn b m w = -1) ∨ ∃ k, FA C v 0 N k ∧ az_dn b m w = nI k) := by
  intro m
  induction m with
  | zero =>
    intro w _ h
    rcases h with ⟨h1, h2⟩ | h
    · exact Or.inl ⟨fun i hi => h1 i (Nat.zero_le _) hi, h2⟩
    · exact Or.inr h
  | succ m ih =>
    intro w hm h
    show _ ∧ az_dn b m (b m w) = -1 ∨ ∃ k, _ ∧ az_dn b m (b m w) = nI k
    refine ih (b m w) (by omega) ?_
    cases hc : C m with
    | false =>
      rw [hb1 m w (by omega) hc]
      rcases h with ⟨h1, h2⟩ | ⟨k, ⟨k0, k1, k2, k3, k4⟩, h2⟩
      · refine Or.inl ⟨fun i hi hi2 => ?_, h2⟩
        by_cases e : i = m
        · rw [e]; exact hc
        · exact h1 i (by omega) hi2
      · refine Or.inr ⟨k, ⟨by omega, k1, k2, fun i hi hi2 hci => ?_, fun i hi hi2 hci => ?_⟩, h2⟩
        · by_cases e : i = m
          · rw [e, hc] at hci; cases hci
          · exact k3 i (by omega) hi2 hci
        · by_cases e : i = m
          · rw [e, hc] at hci; cases hci
          · exact k4 i (by omega) hi2 hci
    | true =>
      rcases h with ⟨h1, h2⟩ | ⟨k, ⟨k0, k1, k2, k3, k4⟩, h2⟩
      · rw [h2, hb2 m (by omega) hc]
        refine Or.inr ⟨m, ⟨Nat.le_refl _, by omega, hc, fun i hi hi2 hci => ?_, fun i hi hi2 hci => by omega⟩, rfl⟩
        by_cases e : i = m
        · rw [e]; exact Int.le_refl _
        · rw [h1 i (by omega) hi2] at hci; cases hci
      · rw [h2, hb3 m k (by omega) k1 hc]
        by_cases e : v m < v k
        · rw [if_pos e]
          refine Or.inr ⟨k, ⟨by omega, k1, k2, fun i hi hi2 hci => ?_, fun i hi hi2 hci => ?_⟩, rfl⟩
          · by_cases e2 : i = m
            · rw [e2]; omega
            · exact k3 i (by omega) hi2 hci
          · by_cases e2 : i = m
            · rw [e2]; exact e
            · exact k4 i (by omega) hi2 hci
        · rw [if_neg e]
          refine Or.inr ⟨m, ⟨Nat.le_refl _, by omega, hc, fun i hi hi2 hci => ?_, fun i hi hi2 hci => by omega⟩, rfl⟩
          by_cases e2 : i = m
          · rw [e2]; exact Int.le_refl _
          · have := k3 i (by omega) hi2 hci
            omega
end AZB7
