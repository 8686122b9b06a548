/-! the sets within a set, one after another -/
section AZC5
theorem and_dbl (x z : Nat) {p q : Nat} (hp : p < 2) (hq : q < 2) : (2 * x + p) &&& (2 * z + q) = 2 * (x &&& z) + (p &&& q) := by
  apply Nat.eq_of_testBit_eq
  intro i
  rw [Nat.testBit_and]
  have hpq : (p &&& q) < 2 := by
    rcases (show p = 0 ∨ p = 1 by omega) with rfl | rfl <;> rcases (show q = 0 ∨ q = 1 by omega) with rfl | rfl <;> decide
  cases i with
  | zero =>
    rw [Nat.testBit_zero, Nat.testBit_zero, Nat.testBit_zero, show (2 * x + p) % 2 = p by omega, show (2 * z + q) % 2 = q by omega, show (2 * (x &&& z) + (p &&& q)) % 2 = (p &&& q) by omega]
    rcases (show p = 0 ∨ p = 1 by omega) with rfl | rfl <;> rcases (show q = 0 ∨ q = 1 by omega) with rfl | rfl <;> decide
  | succ i =>
    rw [Nat.testBit_succ, Nat.testBit_succ, Nat.testBit_succ, show (2 * x + p) / 2 = x by omega, show (2 * z + q) / 2 = z by omega, show (2 * (x &&& z) + (p &&& q)) / 2 = (x &&& z) by omega, Nat.testBit_and]
def sb (s O : Nat) : Prop := ∀ i, s.testBit i = true → O.testBit i = true
theorem sb_half {s O : Nat} (h : sb s O) : sb (s / 2) (O / 2) := fun i hi => by
  rw [← Nat.testBit_succ] at hi ⊢
  exact h _ hi
theorem sb_low {s O : Nat} (h : sb s O) (h0 : O % 2 = 0) : s % 2 = 0 := by
  rcases (show s % 2 = 0 ∨ s % 2 = 1 by omega) with e | e
  · exact e
  · have := h 0 (by rw [Nat.testBit_zero, e]; rfl)
    rw [Nat.testBit_zero, h0] at this
    cases this
theorem sb_le : ∀ (w : Nat) {s O : Nat}, s < 2 ^ w → sb s O → s ≤ O
  | 0, s, O, hs, _ => by simp at hs; omega
  | w + 1, s, O, hs, h => by
    have h1 := sb_le w (s := s / 2) (O := O / 2) (by rw [Nat.pow_succ] at hs; omega) (sb_half h)
    rcases (show O % 2 = 0 ∨ O % 2 = 1 by omega) with e | e
    · have := sb_low h e; omega
    · omega
theorem compl_and : ∀ (v : Nat) {a o : Nat}, o < 2 ^ v → a < 2 ^ v → sb a o → (a + (2 ^ v - 1 - o)) &&& o = a
  | 0, a, o, ho, ha, _ => by
    simp at ho ha
    subst ho ha
    decide
  | v + 1, a, o, ho, ha, h => by
    have hv : 0 < 2 ^ v := Nat.pow_pos (by decide)
    rw [Nat.pow_succ] at ho ha ⊢
    have ih := compl_and v (a := a / 2) (o := o / 2) (by omega) (by omega) (sb_half h)
    have hle := sb_le (v + 1) (by rw [Nat.pow_succ]; exact ha) h
    rcases (show o % 2 = 0 ∨ o % 2 = 1 by omega) with e | e
    · have ea := sb_low h e
      rw [show a + (2 ^ v * 2 - 1 - o) = 2 * (a / 2 + (2 ^ v - 1 - o / 2)) + 1 by omega]
      conv => lhs; rhs; rw [show o = 2 * (o / 2) + 0 by omega]
      rw [and_dbl _ _ (by decide) (by decide), ih]
      show 2 * (a / 2) + 0 = a
      omega
    · rcases (show a % 2 = 0 ∨ a % 2 = 1 by omega) with ea | ea
      · rw [show a + (2 ^ v * 2 - 1 - o) = 2 * (a / 2 + (2 ^ v - 1 - o / 2)) + 0 by omega]
        conv => lhs; rhs; rw [show o = 2 * (o / 2) + 1 by omega]
        rw [and_dbl _ _ (by decide) (by decide), ih]
        show 2 * (a / 2) + 0 = a
        omega
      · rw [show a + (2 ^ v * 2 - 1 - o) = 2 * (a / 2 + (2 ^ v - 1 - o / 2)) + 1 by omega]
        conv => lhs; rhs; rw [show o = 2 * (o / 2) + 1 by omega]
        rw [and_dbl _ _ (by decide) (by decide), ih]
        show 2 * (a / 2) + 1 = a
        omega
theorem cnt_front (P : Nat → Bool) : ∀ n, cnt P (n + 1) = (if P 0 = true then 1 else 0) + cnt (fun i => P (i + 1)) n
  | 0 => by simp [cnt]
  | n + 1 => by
    show cnt P (n + 1) + (if P (n + 1) = true then 1 else 0) = (if P 0 = true then 1 else 0) + (cnt (fun i => P (i + 1)) n + (if P (n + 1) = true then 1 else 0))
    rw [cnt_front P n]
    omega
def pc (w O : Nat) : Nat := cnt (fun i => O.testBit i) w
theorem pc_succ (w O : Nat) : pc (w + 1) O = O % 2 + pc w (O / 2) := by
  unfold pc
  rw [cnt_front]
  congr 1
  · show (if O.testBit 0 = true then 1 else 0) = _
    rw [Nat.testBit_zero]
    rcases (show O % 2 = 0 ∨ O % 2 = 1 by omega) with e | e <;> rw [e] <;> rfl
  · exact cnt_congr fun i _ => Nat.testBit_succ O i
/-- the k-th set within O -/
def pd : Nat → Nat → Nat → Nat
  | 0, _, _ => 0
  | w + 1, O, k => if O % 2 = 0 then 2 * pd w (O / 2) k else 2 * pd w (O / 2) (k / 2) + k % 2
theorem pd_0 : ∀ (w O : Nat), pd w O 0 = 0
  | 0, _ => rfl
  | w + 1, O => by
    unfold pd
    split
    · rw [pd_0 w]
    · rw [show 0 / 2 = 0 from rfl, pd_0 w]
theorem pd_last : ∀ (w : Nat) {O : Nat}, O < 2 ^ w → pd w O (2 ^ pc w O - 1) = O
  | 0, O, h => by simp at h; subst h; rfl
  | w + 1, O, h => by
    have hlt : O / 2 < 2 ^ w := by rw [Nat.pow_succ] at h; omega
    have ih := pd_last w hlt
    unfold pd
    rw [pc_succ]
    rcases (show O % 2 = 0 ∨ O % 2 = 1 by omega) with e | e
    · rw [if_pos e, e, Nat.zero_add, ih]; omega
    · have hp : 0 < 2 ^ pc w (O / 2) := Nat.pow_pos (by decide)
      rw [if_neg (by omega), e, Nat.add_comm 1, Nat.pow_succ, show (2 ^ pc w (O / 2) * 2 - 1) / 2 = 2 ^ pc w (O / 2) - 1 by omega, ih]
      omega
theorem pd_sb : ∀ (w O k : Nat), sb (pd w O k) O
  | 0, O, k => fun i hi => by
    have : (0 : Nat).testBit i = true := hi
    simp at this
  | w + 1, O, k => fun i hi => by
    unfold pd at hi
    rcases (show O % 2 = 0 ∨ O % 2 = 1 by omega) with e | e
    · rw [if_pos e] at hi
      cases i with
      | zero => rw [Nat.testBit_zero] at hi; simp at hi
      | succ i =>
        rw [Nat.testBit_succ, show 2 * pd w (O / 2) k / 2 = pd w (O / 2) k by omega] at hi
        rw [Nat.testBit_succ]
        exact pd_sb w (O / 2) k i hi
    · rw [if_neg (by omega)] at hi
      cases i with
      | zero => rw [Nat.testBit_zero, e]; rfl
      | succ i =>
        rw [Nat.testBit_succ, show (2 * pd w (O / 2) (k / 2) + k % 2) / 2 = pd w (O / 2) (k / 2) by omega] at hi
        rw [Nat.testBit_succ]
        exact pd_sb w (O / 2) (k / 2) i hi
theorem pd_lt : ∀ (w O k : Nat), pd w O k < 2 ^ w
  | 0, _, _ => by show 0 < 1; decide
  | w + 1, O, k => by
    unfold pd
    rw [Nat.pow_succ]
    split
    · have := pd_lt w (O / 2) k; omega
    · have := pd_lt w (O / 2) (k / 2); omega
theorem pd_mono : ∀ (w : Nat) {O k l : Nat}, O < 2 ^ w → k < l → l < 2 ^ pc w O → pd w O k < pd w O l
  | 0, O, k, l, _, hk, hl => by
    have : pc 0 O = 0 := rfl
    rw [this] at hl
    omega
  | w + 1, O, k, l, h, hk, hl => by
    have hlt : O / 2 < 2 ^ w := by rw [Nat.pow_succ] at h; omega
    rw [pc_succ] at hl
    unfold pd
    rcases (show O % 2 = 0 ∨ O % 2 = 1 by omega) with e | e
    · rw [e, Nat.zero_add] at hl
      rw [if_pos e, if_pos e]
      have := pd_mono w hlt hk hl
      omega
    · rw [e, Nat.add_comm 1, Nat.pow_succ] at hl
      rw [if_neg (by omega), if_neg (by omega)]
      by_cases h2 : k / 2 < l / 2
      · have := pd_mono w hlt h2 (by omega)
        omega
      · have : k / 2 = l / 2 := by omega
        rw [this]
        omega
theorem pd_onto : ∀ (w : Nat) {O s : Nat}, O < 2 ^ w → s < 2 ^ w → sb s O → ∃ k, k < 2 ^ pc w O ∧ pd w O k = s
  | 0, O, s, h, hs, _ => by
    simp at h hs
    subst h hs
    exact ⟨0, by decide, rfl⟩
  | w + 1, O, s, h, hs, hsb => by
    rw [Nat.pow_succ] at h hs
    obtain ⟨k, hk, e⟩ := pd_onto w (O := O / 2) (s := s / 2) (by omega) (by omega) (sb_half hsb)
    rcases (show O % 2 = 0 ∨ O % 2 = 1 by omega) with e0 | e0
    · have := sb_low hsb e0
      refine ⟨k, by rw [pc_succ, e0, Nat.zero_add]; exact hk, ?_⟩
      unfold pd
      rw [if_pos e0, e]
      omega
    · refine ⟨2 * k + s % 2, by rw [pc_succ, e0, Nat.add_comm 1, Nat.pow_succ]; omega, ?_⟩
      unfold pd
      rw [if_neg (by omega), show (2 * k + s % 2) / 2 = k by omega, e]
      omega
theorem pd_next : ∀ (w c : Nat) {O k : Nat}, O < 2 ^ w → k + 1 < 2 ^ pc w O → (pd w O k + (2 ^ (w + c) - O)) &&& O = pd w O (k + 1)
  | 0, c, O, k, _, hk => by
    have : pc 0 O = 0 := rfl
    rw [this] at hk
    simp at hk
  | w + 1, c, O, k, h, hk => by
    rw [pc_succ] at hk
    have hW : 2 ^ w ≤ 2 ^ (w + c) := Nat.pow_le_pow_right (by decide) (by omega)
    have hlt : O / 2 < 2 ^ w := by rw [Nat.pow_succ] at h; omega
    rw [show w + 1 + c = (w + c) + 1 by omega, Nat.pow_succ]
    unfold pd
    rcases (show O % 2 = 0 ∨ O % 2 = 1 by omega) with e | e
    · rw [e, Nat.zero_add] at hk
      have ih := pd_next w c hlt hk
      rw [if_pos e, if_pos e, ← ih, show 2 * pd w (O / 2) k + (2 ^ (w + c) * 2 - O) = 2 * (pd w (O / 2) k + (2 ^ (w + c) - O / 2)) + 0 by omega]
      conv => lhs; rhs; rw [show O = 2 * (O / 2) + 0 by omega]
      rw [and_dbl _ _ (by decide) (by decide)]
      rfl
    · rw [e, Nat.add_comm 1, Nat.pow_succ] at hk
      rw [if_neg (by omega), if_neg (by omega)]
      rcases (show k % 2 = 0 ∨ k % 2 = 1 by omega) with ek | ek
      · have hl := pd_lt w (O / 2) (k / 2)
        have hc := compl_and (w + c) (a := pd w (O / 2) (k / 2)) (o := O / 2) (by omega) (by omega) (pd_sb w _ _)
        rw [show (k + 1) / 2 = k / 2 by omega, show (k + 1) % 2 = 1 by omega, ek, Nat.add_zero, show 2 * pd w (O / 2) (k / 2) + (2 ^ (w + c) * 2 - O) = 2 * (pd w (O / 2) (k / 2) + (2 ^ (w + c) - 1 - O / 2)) + 1 by omega]
        conv => lhs; rhs; rw [show O = 2 * (O / 2) + 1 by omega]
        rw [and_dbl _ _ (by decide) (by decide), hc]
        rfl
      · have ih := pd_next w c (O := O / 2) (k := k / 2) hlt (by omega)
        rw [show (k + 1) / 2 = k / 2 + 1 by omega, show (k + 1) % 2 = 0 by omega, ek, ← ih, show 2 * pd w (O / 2) (k / 2) + 1 + (2 ^ (w + c) * 2 - O) = 2 * (pd w (O / 2) (k / 2) + (2 ^ (w + c) - O / 2)) + 0 by omega]
        conv => lhs; rhs; rw [show O = 2 * (O / 2) + 1 by omega]
        rw [and_dbl _ _ (by decide) (by decide)]
        rfl
/-- going through all numbers below, where only the sets within O count, is going through those -/
theorem walk_sets {S : Type} {g : Nat → S → S} {w O : Nat} (hO : O < 2 ^ w) (i : Nat) (hg : ∀ s x, s < O → ¬ sb s O → g (i + s) x = x) (x : S) : ∀ K, K < 2 ^ pc w O → az_it g (pd w O K) i x = az_it (fun k => g (i + pd w O k)) K 0 x := by
  intro K
  induction K with
  | zero => intro _; rw [pd_0]; rfl
  | succ K ih =>
    intro hK
    have hlt : pd w O K < pd w O (K + 1) := pd_mono w hO (Nat.lt_succ_self K) hK
    have hle : pd w O (K + 1) ≤ O := sb_le w (pd_lt w O _) (pd_sb w O _)
    have e1 : pd w O (K + 1) = pd w O K + (1 + (pd w O (K + 1) - pd w O K - 1)) := by omega
    rw [e1, az_it_app, az_it_app, ih (by omega), az_it_snoc (fun k => g (i + pd w O k)) K 0 x, Nat.zero_add]
    show az_it g _ (i + pd w O K + 1) (g (i + pd w O K) (az_it (fun k => g (i + pd w O k)) K 0 x)) = g (i + pd w O K) (az_it (fun k => g (i + pd w O k)) K 0 x)
    refine az_it_skip _ (fun j hj => ?_)
    rw [show i + pd w O K + 1 + j = i + (pd w O K + 1 + j) by omega]
    refine hg _ _ (by omega) (fun hs => ?_)
    obtain ⟨l, hl, el⟩ := pd_onto w hO (s := pd w O K + 1 + j) (by have := pd_lt w O (K + 1); omega) hs
    by_cases a : l ≤ K
    · by_cases b : l = K
      · rw [b] at el; omega
      · have := pd_mono w hO (show l < K by omega) (by omega)
        omega
    · by_cases b : l = K + 1
      · rw [b] at el; omega
      · have := pd_mono w hO (show K + 1 < l by omega) hl
        omega
end AZC5
