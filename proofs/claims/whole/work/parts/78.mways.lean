/-! ways: the model's -/
section AZD1
variable {σ : az_S} {n : Nat} {T : Nat → Bool} {Y : Nat → Int32} {R : Nat → Nat → Bool}
theorem cmp_le {a b : Nat} (ha : a < 2 ^ 31) (hb : b < 2 ^ 31) : lg_cmp (lN a) (lN b) ≤ 0 ↔ a ≤ b := by
  unfold lg_cmp
  have h1 : lN a > lN b ↔ b < a := lN_lt hb ha
  by_cases h : b < a
  · rw [if_pos (h1.mpr h)]
    constructor
    · intro z; exact absurd z (by decide)
    · intro z; omega
  · rw [if_neg (fun z => h (h1.mp z))]
    have : a ≤ b := by omega
    constructor
    · intro _; exact this
    · intro _
      split <;> decide
theorem cmp_eq {a b : Nat} (ha : a < 2 ^ 31) (hb : b < 2 ^ 31) : lg_cmp (lN a) (lN b) = 0 ↔ a = b := by
  unfold lg_cmp
  have h1 : lN a > lN b ↔ b < a := lN_lt hb ha
  have h2 : lN a = lN b ↔ a = b := lN_eq ha hb
  by_cases h : b < a
  · rw [if_pos (h1.mpr h)]
    constructor
    · intro z; exact absurd z (by decide)
    · intro z; omega
  · rw [if_neg (fun z => h (h1.mp z))]
    by_cases e : a = b
    · rw [if_pos (h2.mpr e)]; exact ⟨fun _ => e, fun _ => rfl⟩
    · rw [if_neg (fun z => e (h2.mp z))]
      exact ⟨fun z => absurd z (by decide), fun z => absurd z e⟩
theorem cmp_lt {a b : Nat} (ha : a < 2 ^ 31) (hb : b < 2 ^ 31) : lg_cmp (lN a) (lN b) < 0 ↔ a < b := by
  unfold lg_cmp
  have h1 : lN a > lN b ↔ b < a := lN_lt hb ha
  have h2 : lN a = lN b ↔ a = b := lN_eq ha hb
  by_cases h : b < a
  · rw [if_pos (h1.mpr h)]
    constructor
    · intro z; exact absurd z (by decide)
    · intro z; omega
  · rw [if_neg (fun z => h (h1.mp z))]
    by_cases e : a = b
    · rw [if_pos (h2.mpr e)]
      exact ⟨fun z => absurd z (by decide), fun z => by omega⟩
    · rw [if_neg (fun z => e (h2.mp z))]
      exact ⟨fun _ => by omega, fun _ => by decide⟩
theorem sN_mid {f : Nat → Nat} {p n : Nat} (hp : p < n) (hn : n ≤ 12) (h : ∀ c, f c ≠ 0 → p < c ∧ c < n) : sN f 12 = sN (fun k => f (p + 1 + k)) (n - (p + 1)) := by
  have e : (12 : Nat) = (p + 1) + ((n - (p + 1)) + (12 - n)) := by omega
  rw [e, sN_split f (p + 1), sN_split (fun k => f (p + 1 + k)) (n - (p + 1)), sN_zero (n := p + 1) (fun i hi => by
    by_cases z : f i = 0
    · exact z
    · have := h i z; omega), sN_zero (n := 12 - n) (fun i hi => by
    show f (p + 1 + (n - (p + 1) + i)) = 0
    by_cases z : f (p + 1 + (n - (p + 1) + i)) = 0
    · exact z
    · have := h _ z; omega)]
  omega
theorem xN_split (f : Nat → Nat) (a : Nat) : ∀ b, xN f (a + b) = max (xN f a) (xN (fun k => f (a + k)) b)
  | 0 => by show xN f a = max (xN f a) 0; exact (Nat.max_eq_left (Nat.zero_le _)).symm
  | b + 1 => by
    show max (xN f (a + b)) (f (a + b)) = max _ (max (xN (fun k => f (a + k)) b) (f (a + b)))
    rw [xN_split f a b, Nat.max_assoc]
theorem xN_zero {f : Nat → Nat} {m : Nat} (h : ∀ i, i < m → f i = 0) : xN f m = 0 := by
  have := xN_le (f := f) (c := 0) (n := m) (fun i hi => by rw [h i hi]; exact Nat.le_refl _)
  omega
theorem xN_mid {f : Nat → Nat} {p n : Nat} (hp : p < n) (hn : n ≤ 12) (h : ∀ c, f c ≠ 0 → p < c ∧ c < n) : xN f 12 = xN (fun k => f (p + 1 + k)) (n - (p + 1)) := by
  have e : (12 : Nat) = (p + 1) + ((n - (p + 1)) + (12 - n)) := by omega
  rw [e, xN_split f (p + 1), xN_split (fun k => f (p + 1 + k)) (n - (p + 1)), xN_zero (m := p + 1) (fun i hi => by
    by_cases z : f i = 0
    · exact z
    · have := h i z; omega), xN_zero (m := 12 - n) (fun i hi => by
    show f (p + 1 + (n - (p + 1) + i)) = 0
    by_cases z : f (p + 1 + (n - (p + 1) + i)) = 0
    · exact z
    · have := h _ z; omega), Nat.max_eq_right (Nat.zero_le _), Nat.max_eq_left (Nat.zero_le _)]
theorem Rn (hA : Ab n T R) {c p : Nat} (h : R c p = true) : p < c ∧ c < n := ⟨(hA.2.2 c p h).1, hA.2.1 c (hA.2.2 c p h).2.1⟩
theorem in42 (hM : RM σ n T Y R) {p : Nat} (hp : p < 12) {g : Nat → Int32} (hg : ∀ q, q < p → g q = nI (wb R q)) (v : Nat) : ∀ m, m ≤ p → az_it (fun ι s => b_X6_laysWays_32 p ι s) m 0 (sG σ 42 (va_up g p (nI v))) = sG σ 42 (va_up g p (nI (v + sN (fun q => if R p q = true then wb R q else 0) m))) := by
  intro m
  induction m with
  | zero => intro _; rfl
  | succ m ih =>
    intro hm
    rw [az_it_snoc, ih (by omega), Nat.zero_add]
    generalize hu : v + sN (fun q => if R p q = true then wb R q else 0) m = u
    have hbd : b_X6_laysWays_32 p m (sG σ 42 (va_up g p (nI u))) = if ((σ.2.1 39 p >>> (nI m &&& 31)) &&& 1) = 1 then sG (sG σ 42 (va_up g p (nI u))) 42 (va_up (va_up g p (nI u)) p (va_up g p (nI u) p + va_up g p (nI u) m)) else sG (sG σ 42 (va_up g p (nI u))) 42 (va_up (va_up g p (nI u)) p (va_up g p (nI u) p + 0)) := rfl
    show b_X6_laysWays_32 p m (sG σ 42 (va_up g p (nI u))) = sG σ 42 (va_up g p (nI (v + (sN (fun q => if R p q = true then wb R q else 0) m + if R p m = true then wb R m else 0))))
    have hcol : ∀ x : Int32, va_up (va_up g p (nI u)) p x = va_up g p x := fun x => by
      funext j
      rw [va_up_if, va_up_if, va_up_if]
      by_cases e : j = p
      · rw [if_pos e, if_pos e]
      · rw [if_neg e, if_neg e, if_neg e]
    rw [hbd, shr1 _ (by omega), hM.2.2.2 p hp m, va_up_self, va_up_ne g (nI u) (show m ≠ p by omega), hg m (by omega), sG_sG, sG_sG, hcol, hcol, ← Nat.add_assoc, hu]
    cases R p m with
    | true => rw [if_pos (by decide), nI_add]; rfl
    | false => rw [if_neg (by decide), Int32.add_zero]; rfl
theorem lay42 (hM : RM σ n T Y R) (hA : Ab n T R) : ∀ m, m ≤ n → ∃ g, az_it (fun ι s => b_X6_laysWays_2 ι s) m 0 σ = sG σ 42 g ∧ ∀ q, q < m → g q = nI (wb R q) := by
  intro m
  induction m with
  | zero => intro _; exact ⟨σ.2.1 42, (sG_self σ 42).symm, fun q hq => by omega⟩
  | succ m ih =>
    intro hm
    obtain ⟨g, e, hg⟩ := ih (by omega)
    have hn := hA.1
    have hm12 : m < 12 := by omega
    refine ⟨va_up g m (nI (wb R m)), ?_, fun q hq => ?_⟩
    · rw [az_it_snoc, e, Nat.zero_add]
      have hbd : b_X6_laysWays_2 m (sG σ 42 g) = if σ.2.1 39 m = 0 then az_it (fun ι s => b_X6_laysWays_32 m ι s) m 0 (sG (sG σ 42 g) 42 (va_up g m (nI 1))) else az_it (fun ι s => b_X6_laysWays_32 m ι s) m 0 (sG (sG σ 42 g) 42 (va_up g m (nI 0))) := rfl
      show b_X6_laysWays_2 m (sG σ 42 g) = _
      rw [hbd, sG_sG, sG_sG, in42 hM hm12 hg 1 m (Nat.le_refl _), in42 hM hm12 hg 0 m (Nat.le_refl _)]
      have e0 : σ.2.1 39 m = 0 ↔ cnt (R m) 12 = 0 := zero_cnt (fun i => hM.2.2.2 m hm12 i) (fun i hi => by have := R12 hA hi; omega)
      have es : sN (fun q => if R m q = true then wb R q else 0) 12 = sN (fun q => if R m q = true then wb R q else 0) m := by
        rw [show (12 : Nat) = m + (12 - m) by omega, sN_split, sN_zero (n := 12 - m) (fun i hi => by
          show (if R m (m + i) = true then _ else 0) = 0
          cases hr : R m (m + i) with
          | false => rfl
          | true => have := (R12 hA hr).2; omega)]
        rfl
      rw [wb_is hA hm12, ← es]
      by_cases h0 : cnt (R m) 12 = 0
      · have hz : sN (fun q => if R m q = true then wb R q else 0) 12 = 0 := sN_zero (fun q hq => by
          cases hr : R m q with
          | false => rfl
          | true =>
            have h9 := cnt_mono (P := fun j => j == q) (Q := R m) (fun j hj => by
              have hj : (j == q) = true := hj
              rw [beq_iff_eq] at hj
              rw [hj]; exact hr) 12
            have e2 : cnt (fun j => j == q) 12 = 1 := by rw [cnt_sN, sN_pick (f := fun _ => 1), if_pos hq]
            omega)
        rw [if_pos (e0.mpr h0), if_pos h0, hz]
      · rw [if_neg (fun z => h0 (e0.mp z)), if_neg h0, Nat.zero_add]
    · rw [va_up_if]
      by_cases e2 : q = m
      · rw [if_pos e2, e2]
      · rw [if_neg e2]; exact hg q (by omega)
theorem sL_sL (σ : az_S) (k : Nat) (g h : Nat → Int64) : sL (sL σ k g) k h = sL σ k h := by
  unfold sL
  have : va_up (va_up σ.2.2 k g) k h = va_up σ.2.2 k h := by
    funext j
    unfold va_up
    by_cases e : j = k <;> simp [e]
  show (σ.1, σ.2.1, va_up (va_up σ.2.2 k g) k h) = _
  rw [this]
theorem va_up_up {α : Type} (g : Nat → α) (p : Nat) (x y : α) : va_up (va_up g p x) p y = va_up g p y := by
  funext j
  rw [va_up_if, va_up_if, va_up_if]
  by_cases e : j = p
  · rw [if_pos e, if_pos e]
  · rw [if_neg e, if_neg e, if_neg e]
theorem in43 (hM : RM σ n T Y R) (hA : Ab n T R) {p : Nat} (hp : p < n) {g : Nat → Int32} (hg : ∀ q, p < q → q < n → g q = nI (wa R q)) (L : Nat → Int64) (v : Nat) : ∀ m, m ≤ n - (p + 1) → az_it (fun ι s => b_X6_laysWays_123 p ι s) m (p + 1) (sL (sG σ 43 (va_up g p (nI v))) 44 L) = sL (sG σ 43 (va_up g p (nI (v + sN (fun k => if R (p + 1 + k) p = true then wa R (p + 1 + k) else 0) m)))) 44 L := by
  intro m
  induction m with
  | zero => intro _; rfl
  | succ m ih =>
    intro hm
    have hn := hA.1
    rw [az_it_snoc, ih (by omega)]
    generalize hu : v + sN (fun k => if R (p + 1 + k) p = true then wa R (p + 1 + k) else 0) m = u
    have hq : p + 1 + m < n := by omega
    show b_X6_laysWays_123 p (p + 1 + m) (sL (sG σ 43 (va_up g p (nI u))) 44 L) = sL (sG σ 43 (va_up g p (nI (v + (sN (fun k => if R (p + 1 + k) p = true then wa R (p + 1 + k) else 0) m + if R (p + 1 + m) p = true then wa R (p + 1 + m) else 0))))) 44 L
    rw [← Nat.add_assoc, hu]
    generalize hc : p + 1 + m = c at hq
    have hbd : b_X6_laysWays_123 p c (sL (sG σ 43 (va_up g p (nI u))) 44 L) = if ((σ.2.1 39 c >>> (nI p &&& 31)) &&& 1) = 1 then sG (sL (sG σ 43 (va_up g p (nI u))) 44 L) 43 (va_up (va_up g p (nI u)) p (va_up g p (nI u) p + va_up g p (nI u) c)) else sG (sL (sG σ 43 (va_up g p (nI u))) 44 L) 43 (va_up (va_up g p (nI u)) p (va_up g p (nI u) p + 0)) := rfl
    have hswap : ∀ h : Nat → Int32, sG (sL (sG σ 43 (va_up g p (nI u))) 44 L) 43 h = sL (sG σ 43 h) 44 L := fun h => by
      show sL (sG (sG σ 43 (va_up g p (nI u))) 43 h) 44 L = _
      rw [sG_sG]
    rw [hbd, shr1 _ (by omega), hM.2.2.2 c (by omega) p, va_up_self, va_up_ne g (nI u) (show c ≠ p by omega), hg c (by omega) hq, hswap, hswap, va_up_up, va_up_up]
    cases R c p with
    | true => rw [if_pos (by decide), nI_add]; rfl
    | false => rw [if_neg (by decide), Int32.add_zero]; rfl
theorem in44 {τ : az_S} (hM : RM τ n T Y R) (hA : Ab n T R) {p : Nat} (hp : p < n) (h42 : ∀ q, q < n → τ.2.1 42 q = nI (wb R q)) (h43 : ∀ q, p < q → q < n → τ.2.1 43 q = nI (wa R q)) {L : Nat → Int64} (hL : ∀ q, p < q → q < n → L q = lN (sm R q)) : ∀ m, m ≤ n - (p + 1) → az_it (fun ι s => b_X6_laysWays_174 p ι s) m (p + 1) (sL τ 44 (va_up L p (lN 0))) = sL τ 44 (va_up L p (lN (xN (fun k => if R (p + 1 + k) p = true then wb R p * wa R (p + 1 + k) + sm R (p + 1 + k) else 0) m))) := by
  intro m
  induction m with
  | zero => intro _; rfl
  | succ m ih =>
    intro hm
    have hn := hA.1
    rw [az_it_snoc, ih (by omega)]
    have hxs : xN (fun k => if R (p + 1 + k) p = true then wb R p * wa R (p + 1 + k) + sm R (p + 1 + k) else 0) m < 2 ^ 26 := by
      have := xN_le (f := fun k => if R (p + 1 + k) p = true then wb R p * wa R (p + 1 + k) + sm R (p + 1 + k) else 0) (c := 2 ^ 26 - 1) (n := m) (fun i hi => by
        cases hr : R (p + 1 + i) p with
        | false => rw [if_neg (by decide)]; exact Nat.zero_le _
        | true =>
          have := (eN_small hA (show p < 12 by omega) (R12 hA hr).1).2
          unfold eN at this
          rw [if_pos rfl]
          omega)
      omega
    show b_X6_laysWays_174 p (p + 1 + m) (sL τ 44 (va_up L p (lN (xN (fun k => if R (p + 1 + k) p = true then wb R p * wa R (p + 1 + k) + sm R (p + 1 + k) else 0) m)))) = sL τ 44 (va_up L p (lN (max (xN (fun k => if R (p + 1 + k) p = true then wb R p * wa R (p + 1 + k) + sm R (p + 1 + k) else 0) m) (if R (p + 1 + m) p = true then wb R p * wa R (p + 1 + m) + sm R (p + 1 + m) else 0))))
    generalize xN (fun k => if R (p + 1 + k) p = true then wb R p * wa R (p + 1 + k) + sm R (p + 1 + k) else 0) m = u at hxs
    have hq : p + 1 + m < n := by omega
    have hpc : p < p + 1 + m := by omega
    generalize p + 1 + m = c at hq hpc
    have hbd : b_X6_laysWays_174 p c (sL τ 44 (va_up L p (lN u))) = if ((τ.2.1 39 c >>> (nI p &&& 31)) &&& 1) = 1 then
        (if lg_cmp (((τ.2.1 42 p).toInt64 * (τ.2.1 43 c).toInt64) + va_up L p (lN u) c) (va_up L p (lN u) p) ≤ 0 then sL (sL τ 44 (va_up L p (lN u))) 44 (va_up (va_up L p (lN u)) p (va_up L p (lN u) p)) else sL (sL τ 44 (va_up L p (lN u))) 44 (va_up (va_up L p (lN u)) p (((τ.2.1 42 p).toInt64 * (τ.2.1 43 c).toInt64) + va_up L p (lN u) c)))
        else (if lg_cmp 0 (va_up L p (lN u) p) ≤ 0 then sL (sL τ 44 (va_up L p (lN u))) 44 (va_up (va_up L p (lN u)) p (va_up L p (lN u) p)) else sL (sL τ 44 (va_up L p (lN u))) 44 (va_up (va_up L p (lN u)) p 0)) := rfl
    have hw1 := wb_2048 hA (show p < 12 by omega)
    have hw2 := wa_2048 hA (show c < 12 by omega)
    have hsum : ((τ.2.1 42 p).toInt64 * (τ.2.1 43 c).toInt64) + va_up L p (lN u) c = lN (wb R p * wa R c + sm R c) := by
      rw [h42 p hp, h43 c hpc hq, va_up_ne L (lN u) (show c ≠ p by omega), hL c hpc hq, nI_l (by omega), nI_l (by omega), lN_mul, lN_add]
    have hes := (eN_small hA (show p < 12 by omega) (show c < 12 by omega)).2
    unfold eN at hes
    rw [hbd, shr1 _ (by omega), hM.2.2.2 c (by omega) p, hsum, va_up_self, sL_sL, sL_sL, sL_sL, va_up_up, va_up_up, va_up_up]
    cases R c p with
    | true =>
      rw [if_pos (by decide), if_pos rfl]
      by_cases h : wb R p * wa R c + sm R c ≤ u
      · rw [if_pos ((cmp_le (by omega) (by omega)).mpr h), Nat.max_eq_left h]
      · rw [if_neg (fun z => h ((cmp_le (by omega) (by omega)).mp z)), Nat.max_eq_right (by omega)]
    | false =>
      rw [if_neg (by decide : ¬ (if false = true then 1 else 0 : Int32) = 1), if_neg (by decide : ¬ false = true), if_pos (show lg_cmp 0 (lN u) ≤ 0 from (cmp_le (a := 0) (by omega) (by omega)).mpr (Nat.zero_le _)), Nat.max_eq_left (Nat.zero_le _)]
def WM (τ : az_S) (n : Nat) (R : Nat → Nat → Bool) (m : Nat) : Prop := ∀ q, m ≤ q → q < n → τ.2.1 43 q = nI (wa R q) ∧ τ.2.2 44 q = lN (sm R q)
theorem lay43 (hA : Ab n T R) : ∀ (m : Nat) (τ : az_S), m ≤ n → RM τ n T Y R → (∀ q, q < n → τ.2.1 42 q = nI (wb R q)) → WM τ n R m → ∃ υ, az_dn (fun ι s => b_X6_laysWays_89 ι s) m τ = υ ∧ Kp τ υ ∧ υ.2.1 42 = τ.2.1 42 ∧ WM υ n R 0 := by
  intro m
  induction m with
  | zero => intro τ _ _ _ h; exact ⟨τ, rfl, Kp.rfl, rfl, h⟩
  | succ m ih =>
    intro τ hm hM h42 hW
    have hn := hA.1
    have hm12 : m < 12 := by omega
    have hmn : m < n := by omega
    have hstep : ∀ v : Nat, az_it (fun ι s => b_X6_laysWays_174 m ι s) (nn τ - (m + 1)) (m + 1) (az_it (fun ι s => b_X6_laysWays_123 m ι s) (nn τ - (m + 1)) (m + 1) (sL (sG τ 43 (va_up (τ.2.1 43) m (nI v))) 44 (va_up (τ.2.2 44) m (lN 0)))) =
        sL (sG τ 43 (va_up (τ.2.1 43) m (nI (v + sN (fun c => if R c m = true then wa R c else 0) 12)))) 44 (va_up (τ.2.2 44) m (lN (sm R m))) := by
      intro v
      rw [hM.nn hn, in43 hM hA hmn (fun q h1 h2 => (hW q h1 h2).1) _ v _ (Nat.le_refl _)]
      have hM2 : RM (sG τ 43 (va_up (τ.2.1 43) m (nI (v + sN (fun k => if R (m + 1 + k) m = true then wa R (m + 1 + k) else 0) (n - (m + 1)))))) n T Y R := (Kp.g τ _ (by decide)).RM hM
      rw [in44 hM2 hA hmn h42 (fun q h1 h2 => by
        rw [sG_at, va_up_ne _ _ (show q ≠ m by omega)]
        exact (hW q h1 h2).1) (fun q h1 h2 => (hW q h1 h2).2) _ (Nat.le_refl _)]
      rw [sm_is hA m, sN_mid (f := fun c => if R c m = true then wa R c else 0) hmn hn (fun c hc => by
        cases hr : R c m with
        | true => exact Rn hA hr
        | false => rw [hr] at hc; exact absurd rfl hc), xN_mid (f := fun c => if R c m = true then wb R m * wa R c + sm R c else 0) hmn hn (fun c hc => by
        cases hr : R c m with
        | true => exact Rn hA hr
        | false => rw [hr] at hc; exact absurd rfl hc)]
    have e9 : b_X6_laysWays_89 m τ = sL (sG τ 43 (va_up (τ.2.1 43) m (nI (wa R m)))) 44 (va_up (τ.2.2 44) m (lN (sm R m))) := by
      have hbd : b_X6_laysWays_89 m τ = if x_X6_citers τ (nI m) = 0 then az_it (fun ι s => b_X6_laysWays_174 m ι s) (nn τ - (m + 1)) (m + 1) (az_it (fun ι s => b_X6_laysWays_123 m ι s) (nn τ - (m + 1)) (m + 1) (sL (sG τ 43 (va_up (τ.2.1 43) m (nI 1))) 44 (va_up (τ.2.2 44) m (lN 0))))
          else az_it (fun ι s => b_X6_laysWays_174 m ι s) (nn τ - (m + 1)) (m + 1) (az_it (fun ι s => b_X6_laysWays_123 m ι s) (nn τ - (m + 1)) (m + 1) (sL (sG τ 43 (va_up (τ.2.1 43) m (nI 0))) 44 (va_up (τ.2.2 44) m (lN 0)))) := rfl
      have e0 : x_X6_citers τ (nI m) = 0 ↔ cnt (fun c => R c m) 12 = 0 := zero_cnt (fun i => citers_bits hM hA hm12 i) (fun i hi => (R12 hA hi).1)
      rw [hbd, hstep 1, hstep 0, wa_is hA m]
      by_cases h0 : cnt (fun c => R c m) 12 = 0
      · have hz : sN (fun c => if R c m = true then wa R c else 0) 12 = 0 := sN_zero (fun c hc => by
          cases hr : R c m with
          | false => rfl
          | true =>
            have h9 := cnt_mono (P := fun j => j == c) (Q := fun c => R c m) (fun j hj => by
              have hj : (j == c) = true := hj
              rw [beq_iff_eq] at hj
              rw [hj]; exact hr) 12
            have e2 : cnt (fun j => j == c) 12 = 1 := by rw [cnt_sN, sN_pick (f := fun _ => 1), if_pos hc]
            omega)
        rw [if_pos (e0.mpr h0), if_pos h0, hz]
      · rw [if_neg (fun z => h0 (e0.mp z)), if_neg h0, Nat.zero_add]
    have hK : Kp τ (b_X6_laysWays_89 m τ) := by rw [e9]; exact (Kp.g τ _ (by decide)).trans (Kp.l _ _)
    have k42 : (b_X6_laysWays_89 m τ).2.1 42 = τ.2.1 42 := by rw [e9]; rfl
    obtain ⟨υ, a, b, c, d⟩ := ih (b_X6_laysWays_89 m τ) (by omega) (hK.RM hM) (fun q hq => by rw [k42]; exact h42 q hq) (fun q h1 h2 => by
      rw [e9]
      show va_up (τ.2.1 43) m (nI (wa R m)) q = _ ∧ va_up (τ.2.2 44) m (lN (sm R m)) q = _
      rw [va_up_if, va_up_if]
      by_cases e : q = m
      · rw [if_pos e, if_pos e, e]; exact ⟨rfl, rfl⟩
      · rw [if_neg e, if_neg e]; exact hW q (by omega) h2)
    exact ⟨υ, a, hK.trans b, c.trans k42, d⟩
/-- the model's ways, laid -/
def LW (τ : az_S) (n : Nat) (R : Nat → Nat → Bool) : Prop := (∀ q, q < n → τ.2.1 42 q = nI (wb R q)) ∧ WM τ n R 0
theorem laysWays_is (hM : RM σ n T Y R) (hA : Ab n T R) : Kp σ (x_X6_laysWays σ) ∧ LW (x_X6_laysWays σ) n R := by
  obtain ⟨g, e, hg⟩ := lay42 hM hA n (Nat.le_refl _)
  have hM1 : RM (sG σ 42 g) n T Y R := (Kp.g σ g (by decide)).RM hM
  obtain ⟨υ, a, b, c, d⟩ := lay43 hA n (sG σ 42 g) (Nat.le_refl _) hM1 (fun q hq => hg q hq) (fun q h1 h2 => by omega)
  have e0 : x_X6_laysWays σ = υ := by
    have : x_X6_laysWays σ = az_dn (fun ι s => b_X6_laysWays_89 ι s) (nn σ) (az_it (fun ι s => b_X6_laysWays_2 ι s) (nn σ) 0 σ) := rfl
    rw [this, hM.nn hA.1, e, a]
  rw [e0]
  exact ⟨(Kp.g σ g (by decide)).trans b, fun q hq => by rw [c]; exact hg q hq, d⟩
end AZD1
