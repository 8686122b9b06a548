/-! the main way, by the model: first, next, length, places -/
section AZD4
variable {σ : az_S} {n : Nat} {T : Nat → Bool} {Y : Nat → Int32} {R : Nat → Nat → Bool}
theorem NX_one {p : Nat} {a b : Int32} (ha : NX R p a) (hb : NX R p b) : a = b := by
  rcases ha with ⟨h1, h2⟩ | ⟨k, hk, h2⟩ <;> rcases hb with ⟨g1, g2⟩ | ⟨j, hj, g2⟩
  · rw [h2, g2]
  · have h9 : R j p = true := hj.2.2.1
    rw [h1 j hj.2.1] at h9; cases h9
  · have h9 : R k p = true := hk.2.2.1
    rw [g1 k hk.2.1] at h9; cases h9
  · rw [h2, g2, FA_one hk hj]
theorem FS_one {a b : Int32} (ha : FS T R a) (hb : FS T R b) : a = b := by
  rcases ha with ⟨h1, h2⟩ | ⟨k, hk, h2⟩ <;> rcases hb with ⟨g1, g2⟩ | ⟨j, hj, g2⟩
  · rw [h2, g2]
  · have h9 := hj.2.2.1
    rw [h1 j hj.2.1] at h9; cases h9
  · have h9 := hk.2.2.1
    rw [g1 k hk.2.1] at h9; cases h9
  · rw [h2, g2, FA_one hk hj]
theorem FA_wide {C : Nat → Bool} {v : Nat → Int} {n k : Nat} (hn : n ≤ 12) (hC : ∀ i, C i = true → i < n) (h : FA C v 0 n k) : FA C v 0 12 k := by
  obtain ⟨a, b, c, d, e⟩ := h
  exact ⟨a, by omega, c, fun i h1 h2 h3 => d i h1 (hC i h3) h3, e⟩
theorem T_of {τ : az_S} (hM : RM τ n T Y R) {i : Nat} (hi : i < 12) : (τ.2.1 37 i = 0 ∧ T i = false) ∨ (¬ τ.2.1 37 i = 0 ∧ T i = true) := by
  cases h : T i with
  | false => exact Or.inl ⟨(hM.2.1 i hi).mpr h, rfl⟩
  | true => exact Or.inr ⟨fun z => (by rw [(hM.2.1 i hi).mp z] at h; cases h), rfl⟩
theorem first_is (hM : RM σ n T Y R) (hA : Ab n T R) : ∃ w, x_X6_first σ = (w, x_X6_laysWays σ) ∧ FS T R w := by
  obtain ⟨hK, h42, hW⟩ := laysWays_is hM hA
  have hM1 : RM (x_X6_laysWays σ) n T Y R := hK.RM hM
  have hn := hA.1
  refine ⟨_, rfl, ?_⟩
  generalize x_X6_laysWays σ = τ at hM1 hW
  show FS T R (az_dn (fun ι s => b_X6_first_13 τ ι s) (nn σ) (-1))
  have hb : ∀ i w, b_X6_first_13 τ i w = if τ.2.1 37 i = 0 then w else if τ.2.1 39 i = 0 then (if w = -1 then nI i else if lg_cmp (τ.2.2 44 i) (τ.2.2 44 w.toNatClampNeg) < 0 then w else nI i) else w := fun _ _ => rfl
  have e0 : ∀ i, i < 12 → (τ.2.1 39 i = 0 ↔ cnt (R i) 12 = 0) := fun i hi => zero_cnt (fun j => hM1.2.2.2 i hi j) (fun j hj => by have := R12 hA hj; omega)
  have hsT : ∀ i, src T R i = true → T i = true ∧ cnt (R i) 12 = 0 := fun i h => by
    unfold src at h
    rw [Bool.and_eq_true, decide_eq_true_eq] at h
    exact h
  have h2 := dn_max (C := src T R) (v := fun i => (sm R i : Int)) (N := n) hn (b := fun ι s => b_X6_first_13 τ ι s) (fun i w hi hc => by
      show b_X6_first_13 τ i w = w
      rw [hb]
      rcases T_of hM1 (show i < 12 by omega) with ⟨h1, _⟩ | ⟨h1, h3⟩
      · rw [if_pos h1]
      · rw [if_neg h1, if_neg (fun z => by
          unfold src at hc
          rw [h3] at hc
          simp [(e0 i (by omega)).mp z] at hc)]) (fun i hi hc => by
      show b_X6_first_13 τ i (-1) = nI i
      obtain ⟨h3, h4⟩ := hsT i hc
      rcases T_of hM1 (show i < 12 by omega) with ⟨_, h1⟩ | ⟨h1, _⟩
      · rw [h1] at h3; cases h3
      · rw [hb, if_neg h1, if_pos ((e0 i (by omega)).mpr h4), if_pos rfl]) (fun i k hi hk hc => by
      show b_X6_first_13 τ i (nI k) = if (sm R i : Int) < (sm R k : Int) then nI k else nI i
      obtain ⟨h3, h4⟩ := hsT i hc
      have s1 := sm_small hA (show i < 12 by omega)
      have s2 := sm_small hA (show k < 12 by omega)
      rcases T_of hM1 (show i < 12 by omega) with ⟨_, h1⟩ | ⟨h1, _⟩
      · rw [h1] at h3; cases h3
      · rw [hb, if_neg h1, if_pos ((e0 i (by omega)).mpr h4), if_neg (nI_ne (by omega)), p12g (show k < 12 by omega), (hW i (Nat.zero_le _) hi).2, (hW k (Nat.zero_le _) hk).2]
        by_cases e : sm R i < sm R k
        · rw [if_pos ((cmp_lt (by omega) (by omega)).mpr e), if_pos (by omega)]
        · rw [if_neg (fun z => e ((cmp_lt (by omega) (by omega)).mp z)), if_neg (by omega)]) n (-1) (Nat.le_refl _) (Or.inl ⟨fun i h1 h2 => by omega, rfl⟩)
  rw [hM.nn hn]
  rcases h2 with ⟨a, b⟩ | ⟨k, hk, b⟩
  · rw [b]
    refine Or.inl ⟨fun i hi => ?_, rfl⟩
    by_cases e : i < n
    · exact a i e
    · cases hs : src T R i with
      | false => rfl
      | true => exact absurd (hA.2.1 i (hsT i hs).1) e
  · rw [b]
    exact Or.inr ⟨k, FA_wide hn (fun i hi => hA.2.1 i (hsT i hi).1) hk, rfl⟩
theorem dn_skip {b : Nat → Int32 → Int32} {w : Int32} : ∀ {m : Nat}, (∀ i, i < m → b i w = w) → az_dn b m w = w
  | 0, _ => rfl
  | m + 1, h => by
    show az_dn b m (b m w) = w
    rw [h m (by omega)]
    exact dn_skip (fun i hi => h i (by omega))
theorem dn_hit {b : Nat → Int32 → Int32} {v : Int32} {j : Nat} (h1 : ∀ w, b j w = v) (h2 : ∀ i, i < j → b i v = v) : ∀ (m : Nat) (w : Int32), j < m → az_dn b m w = v
  | 0, _, h => by omega
  | m + 1, w, h => by
    show az_dn b m (b m w) = v
    by_cases e : m = j
    · subst e
      rw [h1 w]
      exact dn_skip h2
    · exact dn_hit h1 h2 m (b m w) (by omega)
theorem next_is {τ : az_S} (hM : RM τ n T Y R) (hA : Ab n T R) (hL : LW τ n R) {p : Nat} (hp : p < n) : NX R p (x_X6_next τ (nI p)) := by
  have hn := hA.1
  have hp12 : p < 12 := by omega
  have e : x_X6_next τ (nI p) = az_dn (fun ι s => b_X6_next_9 τ (nI p) p ι s) (n - 1 - p) (-1) := by
    have : x_X6_next τ (nI p) = az_dn (fun ι s => b_X6_next_9 τ (nI p) (nI p).toNatClampNeg ι s) (nn τ - 1 - (nI p).toNatClampNeg) (-1) := rfl
    rw [this, hM.nn hn, p12g hp12]
  have hb : ∀ i w, p + i + 1 < n → b_X6_next_9 τ (nI p) p i w = if R (p + i + 1) p = true ∧ eN R p (p + i + 1) = sm R p then nI (p + i + 1) else w := by
    intro i w hi
    have hbd : b_X6_next_9 τ (nI p) p i w = if ((τ.2.1 39 (p + i + 1) >>> (nI p &&& 31)) &&& 1) = 1 then (if lg_cmp (((τ.2.1 42 (nI p).toNatClampNeg).toInt64 * (τ.2.1 43 (p + i + 1)).toInt64) + τ.2.2 44 (p + i + 1)) (τ.2.2 44 (nI p).toNatClampNeg) = 0 then nI (p + i + 1) else w) else w := rfl
    have w1 := wb_2048 hA hp12
    have w2 := wa_2048 hA (show p + i + 1 < 12 by omega)
    have hes := (eN_small hA hp12 (show p + i + 1 < 12 by omega)).2
    have hs := sm_small hA hp12
    rw [hbd, shr1 _ hp12, hM.2.2.2 _ (by omega) p, p12g hp12, hL.1 p hp, (hL.2 _ (Nat.zero_le _) hi).1, (hL.2 _ (Nat.zero_le _) hi).2, (hL.2 p (Nat.zero_le _) hp).2, nI_l (by omega), nI_l (by omega), lN_mul, lN_add]
    unfold eN at hes ⊢
    cases hr : R (p + i + 1) p with
    | false => rw [if_neg (by decide), if_neg (fun z => by cases z.1)]
    | true =>
      rw [if_pos (by decide)]
      by_cases e : wb R p * wa R (p + i + 1) + sm R (p + i + 1) = sm R p
      · rw [if_pos ((cmp_eq (by omega) (by omega)).mpr e), if_pos ⟨rfl, e⟩]
      · rw [if_neg (fun z => e ((cmp_eq (by omega) (by omega)).mp z)), if_neg (fun z => e z.2)]
  rw [e]
  by_cases hex : ∃ c, c < 12 ∧ R c p = true
  · have hmax := up_max (C := fun c => R c p) (v := fun c => nI (eN R p c)) (b := fun i s => if R i p = true then (if s.1 = -1 then (nI i, nI (eN R p i)) else if nI (eN R p i) ≤ s.2 then s else (nI i, nI (eN R p i))) else s) (z := 0) (fun i s hi => rfl) 12 (Nat.le_refl _)
    rcases hmax with ⟨a1, _⟩ | ⟨k, ka, _⟩
    · obtain ⟨c, hc, hr⟩ := hex
      have h9 : R c p = false := a1 c hc
      rw [h9] at hr; cases hr
    · have ka := FA_nat (fun i hi => by have := (eN_small hA hp12 hi).2; omega) ka
      have hs := sm_FA hA ka
      obtain ⟨_, k1, k2, k3, k4⟩ := ka
      have k2' : R k p = true := k2
      obtain ⟨g1, g2⟩ := Rn hA k2'
      have hj : az_dn (fun ι s => b_X6_next_9 τ (nI p) p ι s) (n - 1 - p) (-1) = nI k := by
        refine dn_hit (j := k - p - 1) (fun w => ?_) (fun i hi => ?_) _ _ (by omega)
        · show b_X6_next_9 τ (nI p) p (k - p - 1) w = nI k
          rw [hb _ w (by omega), show p + (k - p - 1) + 1 = k by omega, if_pos ⟨k2', hs.symm⟩]
        · show b_X6_next_9 τ (nI p) p i (nI k) = nI k
          rw [hb i _ (by omega), if_neg]
          rintro ⟨z1, z2⟩
          have : (eN R p (p + i + 1) : Int) < (eN R p k : Int) := k4 (p + i + 1) (Nat.zero_le _) (by omega) z1
          omega
      rw [hj]
      exact Or.inr ⟨k, ⟨Nat.zero_le _, k1, k2, k3, k4⟩, rfl⟩
  · have hno : ∀ c, c < 12 → R c p = false := fun c hc => by
      cases hr : R c p with
      | false => rfl
      | true => exact absurd ⟨c, hc, hr⟩ hex
    rw [dn_skip (fun i hi => by
      show b_X6_next_9 τ (nI p) p i (-1) = -1
      rw [hb i _ (by omega), if_neg (fun z => by rw [hno _ (by omega)] at z; cases z.1)])]
    exact Or.inl ⟨hno, rfl⟩
theorem ch_succ (τ : az_S) : ∀ (k : Nat) (p : Int32), ch τ p (k + 1) = x_X6_next τ (ch τ p k)
  | 0, p => rfl
  | k + 1, p => by
    show ch τ (x_X6_next τ p) (k + 1) = x_X6_next τ (ch τ (x_X6_next τ p) k)
    exact ch_succ τ k (x_X6_next τ p)
/-- step by step the model goes along the chain -/
theorem chain_step {τ : az_S} (hM : RM τ n T Y R) (hA : Ab n T R) (hL : LW τ n R) {f : Nat → Int32} (hf : ∀ p, p < 12 → NX R p (f p)) {w : Int32} (hw : FS T R w) {k : Nat} (hk : ¬ chN f w k = -1) : x_X6_next τ (chN f w k) = chN f w (k + 1) ∧ ∃ p, p < n ∧ chN f w k = nI p := by
  rcases ch_up hA hf hw k with h | ⟨p, h1, h2, h3, h4⟩
  · exact absurd h hk
  · have hpn := hA.2.1 p h3
    refine ⟨?_, p, hpn, h4⟩
    have : chN f w (k + 1) = f p := by
      show (if chN f w k = -1 then -1 else f (chN f w k).toNatClampNeg) = _
      rw [if_neg hk, h4, p12g h1]
    rw [this, h4]
    exact NX_one (next_is hM hA hL hpn) (hf p h1)
theorem len_is {τ : az_S} (hM : RM τ n T Y R) (hA : Ab n T R) (hL : LW τ n R) {f : Nat → Int32} (hf : ∀ p, p < 12 → NX R p (f p)) {w : Int32} (hw : FS T R w) {len : Nat} (hlen : len ≤ 12) (h1 : ∀ k, k < len → ¬ chN f w k = -1) (h2 : chN f w len = -1) : ∀ j k, k + j = 12 → k ≤ len → ln_go τ j (nI k) (chN f w k) = nI len := by
  intro j
  induction j with
  | zero =>
    intro k hk hkl
    have : k = len := by omega
    rw [this]; rfl
  | succ j ih =>
    intro k hk hkl
    show (if chN f w k = -1 then nI k else ln_go τ j (nI k + 1) (x_X6_next τ (chN f w k))) = _
    by_cases e : chN f w k = -1
    · rw [if_pos e]
      by_cases e2 : k = len
      · rw [e2]
      · exact absurd e (h1 k (by omega))
    · rw [if_neg e, (chain_step hM hA hL hf hw e).1, nI_1]
      have : k ≠ len := fun z => e (z ▸ h2)
      exact ih (k + 1) (by omega) (by omega)
theorem ch_is {τ : az_S} (hM : RM τ n T Y R) (hA : Ab n T R) (hL : LW τ n R) {f : Nat → Int32} (hf : ∀ p, p < 12 → NX R p (f p)) {w : Int32} (hw : FS T R w) {len : Nat} (h1 : ∀ k, k < len → ¬ chN f w k = -1) : ∀ k, k ≤ len → ch τ w k = chN f w k := by
  intro k
  induction k with
  | zero => intro _; rfl
  | succ k ih =>
    intro hk
    rw [ch_succ, ih (by omega)]
    exact (chain_step hM hA hL hf hw (h1 k (by omega))).1
theorem at_is {τ : az_S} : ∀ (m i : Nat) (p d : Int32), az_it (fun ι s => b_X6_mainAt_35 τ d ι s) m i p = ch τ p m
  | 0, _, _, _ => rfl
  | m + 1, i, p, d => at_is m (i + 1) (x_X6_next τ p) d
theorem ways6 (hM : RM σ n T Y R) (hA : Ab n T R) : x_X6_ways σ = (nI (sN (fun i => if src T R i = true then wa R i else 0) 12), x_X6_laysWays (sF σ 9 0)) := by
  have hM0 : RM (sF σ 9 0) n T Y R := (Kp.f σ 0).RM hM
  obtain ⟨hK, h42, hW⟩ := laysWays_is hM0 hA
  have hM1 := hK.RM hM0
  have hn := hA.1
  have e : x_X6_ways σ = (az_it (fun ι s => b_X6_ways_13 (x_X6_laysWays (sF σ 9 0)) ι s) (nn σ) 0 0, x_X6_laysWays (sF σ 9 0)) := rfl
  rw [e]
  generalize x_X6_laysWays (sF σ 9 0) = τ at hK h42 hW hM1
  have e1 : sN (fun i => if src T R i = true then wa R i else 0) 12 = sN (fun i => if (T i && decide (cnt (fun c => R c i) 12 = 0)) = true then wb R i else 0) 12 := ways_two hA
  have e2 : sN (fun i => if (T i && decide (cnt (fun c => R c i) 12 = 0)) = true then wb R i else 0) 12 = sN (fun i => if (T i && decide (cnt (fun c => R c i) 12 = 0)) = true then wb R i else 0) n := by
    rw [show (12 : Nat) = n + (12 - n) by omega, sN_split, sN_zero (n := 12 - n) (fun i hi => by
      show (if (T (n + i) && _) = true then _ else 0) = 0
      have : T (n + i) = false := by
        cases ht : T (n + i) with
        | false => rfl
        | true => have := hA.2.1 _ ht; omega
      rw [this]; rfl)]
    rfl
  rw [e1, e2, hM.nn hn]
  congr 1
  refine az_sum0 n (fun i w hi => ?_)
  have hbd : b_X6_ways_13 τ i w = if τ.2.1 37 i = 0 then w + 0 else if x_X6_citers τ (nI i) = 0 then w + τ.2.1 42 i else w + 0 := rfl
  have e0 : x_X6_citers τ (nI i) = 0 ↔ cnt (fun c => R c i) 12 = 0 := zero_cnt (fun j => citers_bits hM1 hA (by omega) j) (fun j hj => (R12 hA hj).1)
  show b_X6_ways_13 τ i w = _
  rw [hbd, h42 i hi]
  rcases T_of hM1 (show i < 12 by omega) with ⟨h1, h2⟩ | ⟨h1, h2⟩
  · rw [if_pos h1, h2]; rfl
  · rw [if_neg h1, h2]
    by_cases h0 : cnt (fun c => R c i) 12 = 0
    · rw [if_pos (e0.mpr h0)]; simp [h0]
    · rw [if_neg (fun z => h0 (e0.mp z))]; simp [h0]; rfl
end AZD4
