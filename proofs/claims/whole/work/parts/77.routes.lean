/-! ways: what the class's routes hold -/
section AZC9
variable {σ : az_S} {n : Nat} {T : Nat → Bool} {Y : Nat → Int32} {R : Nat → Nat → Bool}
theorem sF_sF (σ : az_S) (k : Nat) (v w : Int32) : sF (sF σ k v) k w = sF σ k w := by
  unfold sF
  have : va_up (va_up σ.1 k v) k w = va_up σ.1 k w := by
    funext j
    unfold va_up
    by_cases e : j = k <;> simp [e]
  show (va_up (va_up σ.1 k v) k w, σ.2.1, σ.2.2) = _
  rw [this]
theorem sF_comm (σ : az_S) {k j : Nat} (hkj : k ≠ j) (v w : Int32) : sF (sF σ k v) j w = sF (sF σ j w) k v := by
  unfold sF
  have : va_up (va_up σ.1 k v) j w = va_up (va_up σ.1 j w) k v := by
    funext i
    unfold va_up
    by_cases e : i = j
    · subst e
      have : ¬ i = k := fun z => hkj z.symm
      simp [this]
    · simp [e]
  show (va_up (va_up σ.1 k v) j w, σ.2.1, σ.2.2) = (va_up (va_up σ.1 j w) k v, σ.2.1, σ.2.2)
  rw [this]
theorem zero_cnt {a : Int32} {P : Nat → Bool} (h : ∀ i, Bt a i = P i) (h12 : ∀ i, P i = true → i < 12) : a = 0 ↔ cnt P 12 = 0 := by
  constructor
  · intro z
    apply cnt_no
    intro i
    rw [← h i, z, Bt_zero]
  · intro z
    apply Bt_ext
    intro i _
    rw [h i, Bt_zero]
    cases hp : P i with
    | false => rfl
    | true =>
      have h9 := cnt_mono (P := fun j => j == i) (Q := P) (fun j hj => by
        have hj : (j == i) = true := hj
        rw [beq_iff_eq] at hj
        rw [hj]; exact hp) 12
      have e2 : cnt (fun j => j == i) 12 = 1 := by rw [cnt_sN, sN_pick (f := fun _ => 1), if_pos (h12 i hp)]
      omega
theorem sum26 {a : Int32} {P : Nat → Bool} {f : Nat → Nat} (h : ∀ i, Bt a i = P i) (h12 : ∀ i, P i = true → i < 12) (hf : ∀ i, i < 12 → P i = true → σ.2.1 27 i = nI (f i)) : x_X1_sumOver_26 σ a = nI (if cnt P 12 = 0 then 1 else sN (fun i => if P i = true then f i else 0) 12) := by
  have e : x_X1_sumOver_26 σ a = if a = 0 then 1 else az_it (fun ι s => b_X1_sumOver_26_4 σ a ι s) 12 0 0 := rfl
  rw [e]
  by_cases h0 : cnt P 12 = 0
  · rw [if_pos ((zero_cnt h h12).mpr h0), if_pos h0]; rfl
  · rw [if_neg (fun z => h0 ((zero_cnt h h12).mp z)), if_neg h0]
    refine az_sum0 12 (fun i w hi => ?_)
    show (if x_X5_holds σ a (nI i) = 0 then w else w + x_X2_at_26 σ (nI i)) = _
    rw [holds_at σ a hi, at_r26 σ hi, h i]
    cases hp : P i with
    | false => exact (Int32.add_zero w).symm
    | true => rw [if_neg (by decide), hf i hi hp]; rfl
theorem sum28 {a : Int32} {P : Nat → Bool} {f : Nat → Nat} (h : ∀ i, Bt a i = P i) (h12 : ∀ i, P i = true → i < 12) (hf : ∀ i, i < 12 → P i = true → σ.2.1 29 i = nI (f i)) : x_X1_sumOver_28 σ a = nI (if cnt P 12 = 0 then 1 else sN (fun i => if P i = true then f i else 0) 12) := by
  have e : x_X1_sumOver_28 σ a = if a = 0 then 1 else az_it (fun ι s => b_X1_sumOver_28_4 σ a ι s) 12 0 0 := rfl
  rw [e]
  by_cases h0 : cnt P 12 = 0
  · rw [if_pos ((zero_cnt h h12).mpr h0), if_pos h0]; rfl
  · rw [if_neg (fun z => h0 ((zero_cnt h h12).mp z)), if_neg h0]
    refine az_sum0 12 (fun i w hi => ?_)
    show (if x_X5_holds σ a (nI i) = 0 then w else w + x_X2_at_28 σ (nI i)) = _
    rw [holds_at σ a hi, at_r28 σ hi, h i]
    cases hp : P i with
    | false => exact (Int32.add_zero w).symm
    | true => rw [if_neg (by decide), hf i hi hp]; rfl
theorem loop26 (h : RC σ n T Y R) (hA : Ab n T R) : ∀ m, m ≤ 12 → ∃ g, az_it (fun ι s => b_X1_findAnew_2 ι s) m 0 σ = sG σ 27 g ∧ ∀ p, p < m → g p = nI (wb R p) := by
  intro m
  induction m with
  | zero => intro _; exact ⟨σ.2.1 27, (sG_self σ 27).symm, fun p hp => by omega⟩
  | succ m ih =>
    intro hm
    obtain ⟨g, e, hg⟩ := ih (by omega)
    have hm12 : m < 12 := by omega
    have hC : RC (sG σ 27 g) n T Y R := h.up (fun _ _ => rfl) (fun k hk => sG_ne σ g (by omega))
    refine ⟨va_up g m (nI (wb R m)), ?_, fun p hp => ?_⟩
    · rw [az_it_snoc, e, Nat.zero_add]
      have hbd : b_X1_findAnew_2 m (sG σ 27 g) = x_X2_set_26 (sG σ 27 g) (nI m) (x_X1_sumOver_26 (sG σ 27 g) (x_X3_referredBy (sG σ 27 g) (nI m))) := rfl
      show b_X1_findAnew_2 m (sG σ 27 g) = _
      rw [hbd, sum26 (P := R m) (f := wb R) (fun i => s5_referredBy hC hm12 i) (fun i hi => by have := R12 hA hi; omega) (fun i hi hr => by
        rw [sG_at]
        exact hg i (R12 hA hr).2), set_r26 _ _ hm12, sG_at, sG_sG, ← wb_is hA hm12]
    · rw [va_up_if]
      by_cases e2 : p = m
      · rw [if_pos e2, e2]
      · rw [if_neg e2]; exact hg p (by omega)
/-- the next paper of the main way behind p -/
def NX (R : Nat → Nat → Bool) (p : Nat) (w : Int32) : Prop := ((∀ c, c < 12 → R c p = false) ∧ w = -1) ∨ ∃ k, FA (fun c => R c p) (fun c => (eN R p c : Int)) 0 12 k ∧ w = nI k
def src (T : Nat → Bool) (R : Nat → Nat → Bool) (i : Nat) : Bool := T i && decide (cnt (R i) 12 = 0)
/-- the first paper of the main way -/
def FS (T : Nat → Bool) (R : Nat → Nat → Bool) (w : Int32) : Prop := ((∀ i, i < 12 → src T R i = false) ∧ w = -1) ∨ ∃ k, FA (src T R) (fun i => (sm R i : Int)) 0 12 k ∧ w = nI k
theorem FA_nat {C : Nat → Bool} {v : Nat → Nat} {l N k : Nat} (hv : ∀ i, i < N → v i < 2 ^ 31) (h : FA C (fun i => (nI (v i)).toInt) l N k) : FA C (fun i => (v i : Int)) l N k := by
  obtain ⟨a, b, c, d, e⟩ := h
  refine ⟨a, b, c, fun i h1 h2 h3 => ?_, fun i h1 h2 h3 => ?_⟩
  · have := d i h1 h2 h3
    dsimp only at this ⊢
    rw [nI_toInt (hv i h2), nI_toInt (hv k b)] at this
    exact this
  · have := e i h1 h2 h3
    dsimp only at this ⊢
    rw [nI_toInt (hv i (by omega)), nI_toInt (hv k b)] at this
    exact this
theorem sm_FA (hA : Ab n T R) {p k : Nat} (h : FA (fun c => R c p) (fun c => (eN R p c : Int)) 0 12 k) : sm R p = eN R p k := by
  obtain ⟨a, b, c, d, e⟩ := h
  rw [sm_is hA p]
  apply Nat.le_antisymm
  · apply xN_le
    intro i hi
    cases hr : R i p with
    | false => exact Nat.zero_le _
    | true =>
      have : (eN R p i : Int) ≤ (eN R p k : Int) := d i (Nat.zero_le _) hi hr
      rw [if_pos rfl]
      have : eN R p i ≤ eN R p k := by omega
      exact this
  · have := le_xN (f := fun c => if R c p = true then wb R p * wa R c + sm R c else 0) b
    have hc : R k p = true := c
    rw [if_pos hc] at this
    exact this
theorem sm_none (hA : Ab n T R) {p : Nat} (h : ∀ c, c < 12 → R c p = false) : sm R p = 0 := by
  rw [sm_is hA p]
  have := xN_le (f := fun c => if R c p = true then wb R p * wa R c + sm R c else 0) (c := 0) (n := 12) (fun i hi => by rw [h i hi]; exact Nat.le_refl _)
  omega
def dnOK (τ : az_S) (R : Nat → Nat → Bool) (m : Nat) : Prop := ∀ q, m ≤ q → q < 12 → τ.2.1 29 q = nI (wa R q) ∧ τ.2.1 31 q = nI (sm R q) ∧ NX R q (τ.2.1 33 q)
theorem loop28 (hA : Ab n T R) : ∀ (m : Nat) (τ : az_S), m ≤ 12 → RC τ n T Y R → (∀ p, p < 12 → τ.2.1 27 p = nI (wb R p)) → dnOK τ R m → ∃ υ, az_dn (fun ι s => b_X1_findAnew_37 ι s) m τ = υ ∧ Fr [29, 31, 33] τ υ ∧ dnOK υ R 0 := by
  intro m
  induction m with
  | zero => intro τ _ _ _ h; exact ⟨τ, rfl, Fr.rfl, h⟩
  | succ m ih =>
    intro τ hm hC h27 hd
    have hm12 : m < 12 := by omega
    have hbd : b_X1_findAnew_37 m τ = x_X1_findNext (x_X2_set_28 τ (nI m) (x_X1_sumOver_28 τ (x_X3_citersOf τ (nI m)))) (nI m) := rfl
    have e28 : x_X2_set_28 τ (nI m) (x_X1_sumOver_28 τ (x_X3_citersOf τ (nI m))) = sG τ 29 (va_up (τ.2.1 29) m (nI (wa R m))) := by
      rw [sum28 (P := fun c => R c m) (f := wa R) (fun i => s5_citersOf hC hm12 i) (fun i hi => (R12 hA hi).1) (fun i hi hr => (hd i (by have := R12 hA hr; omega) hi).1), set_r28 _ _ hm12, ← wa_is hA m]
    generalize hτ1 : sG τ 29 (va_up (τ.2.1 29) m (nI (wa R m))) = τ1 at e28
    have f27 : τ1.2.1 27 = τ.2.1 27 := by rw [← hτ1]; rfl
    have f31 : τ1.2.1 31 = τ.2.1 31 := by rw [← hτ1]; rfl
    have f33 : τ1.2.1 33 = τ.2.1 33 := by rw [← hτ1]; rfl
    have f29 : τ1.2.1 29 = va_up (τ.2.1 29) m (nI (wa R m)) := by rw [← hτ1]; rfl
    have hF1 : Fr [29, 31, 33] τ τ1 := by rw [← hτ1]; exact Fr.up _ (by decide)
    have hC1 : RC τ1 n T Y R := hF1.RC (by decide) hC
    have h29 : ∀ q, m ≤ q → q < 12 → τ1.2.1 29 q = nI (wa R q) := by
      intro q h1 h2
      rw [f29, va_up_if]
      by_cases e : q = m
      · rw [if_pos e, e]
      · rw [if_neg e]; exact (hd q (by omega) h2).1
    have hmax := up_max (C := fun c => R c m) (v := fun c => nI (eN R m c)) (b := fun ι s => b_X1_findNext_8 τ1 (nI m) ι s.1 s.2) (z := 0) (fun i s hi => by
      have hb : b_X1_findNext_8 τ1 (nI m) i s.1 s.2 = if x_X3_cites τ1 (nI i) (nI m) = 0 then (s.1, s.2) else if s.1 = -1 then (nI i, x_X1_countOf τ1 (nI i) (nI m) + x_X2_at_30 τ1 (nI i)) else if x_X1_countOf τ1 (nI i) (nI m) + x_X2_at_30 τ1 (nI i) ≤ s.2 then (s.1, s.2) else (nI i, x_X1_countOf τ1 (nI i) (nI m) + x_X2_at_30 τ1 (nI i)) := rfl
      show b_X1_findNext_8 τ1 (nI m) i s.1 s.2 = _
      rw [hb, cites_at τ1 hi hm12, hC1.2.2.2.2.1 i hi m]
      cases hr : R i m with
      | false => rfl
      | true =>
        have hlt := (R12 hA hr).2
        have hv : x_X1_countOf τ1 (nI i) (nI m) + x_X2_at_30 τ1 (nI i) = nI (eN R m i) := by
          show x_X2_at_26 τ1 (nI m) * x_X2_at_28 τ1 (nI i) + x_X2_at_30 τ1 (nI i) = _
          rw [at_r26 τ1 hm12, at_r28 τ1 hi, at_r30 τ1 hi, f27, h27 m hm12, h29 i (by omega) hi, f31, (hd i (by omega) hi).2.1, nI_mul, nI_add]
          rfl
        rw [if_neg (by decide), hv]
        rfl) 12 (Nat.le_refl _)
    have hnext : ∃ w, az_it (fun ι s => b_X1_findNext_8 τ1 (nI m) ι s.1 s.2) 12 0 ((-1 : Int32), (0 : Int32)) = (w, nI (sm R m)) ∧ NX R m w := by
      rcases hmax with ⟨a1, a2⟩ | ⟨k, ka, a2⟩
      · exact ⟨-1, by rw [a2, sm_none hA a1]; rfl, Or.inl ⟨a1, rfl⟩⟩
      · have ka := FA_nat (fun i hi => by have := (eN_small hA hm12 hi).2; omega) ka
        exact ⟨nI k, by rw [a2, sm_FA hA ka], Or.inr ⟨k, ka, rfl⟩⟩
    obtain ⟨w, ew, hw⟩ := hnext
    have e9 : b_X1_findAnew_37 m τ = sG (sG τ1 33 (va_up (τ1.2.1 33) m w)) 31 (va_up (τ1.2.1 31) m (nI (sm R m))) := by
      rw [hbd, e28]
      have : x_X1_findNext τ1 (nI m) = x_X2_set_30 (x_X2_set_32 τ1 (nI m) (az_it (fun ι s => b_X1_findNext_8 τ1 (nI m) ι s.1 s.2) 12 0 ((-1 : Int32), (0 : Int32))).1) (nI m) (az_it (fun ι s => b_X1_findNext_8 τ1 (nI m) ι s.1 s.2) 12 0 ((-1 : Int32), (0 : Int32))).2 := rfl
      rw [this, ew]
      dsimp only
      rw [set_r32 _ _ hm12, set_r30 _ _ hm12]
      rfl
    have hF2 : Fr [29, 31, 33] τ (b_X1_findAnew_37 m τ) := by rw [e9]; exact (hF1.trans (Fr.up _ (by decide))).trans (Fr.up _ (by decide))
    obtain ⟨υ, k1, k2, k3⟩ := ih (b_X1_findAnew_37 m τ) (by omega) (hF2.RC (by decide) hC) (fun p hp => by rw [hF2.2.1 27 (by decide)]; exact h27 p hp) (fun q h1 h2 => by
      rw [e9]
      show τ1.2.1 29 q = _ ∧ va_up (τ1.2.1 31) m (nI (sm R m)) q = _ ∧ NX R q (va_up (τ1.2.1 33) m w q)
      rw [va_up_if, va_up_if, f31, f33]
      by_cases e : q = m
      · subst e
        rw [if_pos rfl, if_pos rfl]
        exact ⟨h29 q h1 h2, rfl, hw⟩
      · rw [if_neg e, if_neg e]
        exact ⟨h29 q h1 h2, (hd q (by omega) h2).2⟩)
    exact ⟨υ, k1, hF2.trans k2, k3⟩
def mainB (T : Nat → Bool) (R : Nat → Nat → Bool) (i : Nat) (s : Int32 × Int32) : Int32 × Int32 := if src T R i = true then (if s.1 = -1 then (nI i, nI (sm R i)) else if nI (sm R i) ≤ s.2 then s else (nI i, nI (sm R i))) else s
theorem loopM {τ : az_S} (hC : RC τ n T Y R) (hA : Ab n T R) (hd : dnOK τ R 0) : ∀ m, m ≤ 12 → az_it (fun ι s => b_X1_findMain_14 ι s.1 s.2) m 0 ((-1 : Int32), sF (sF τ 7 0) 5 0) = ((az_it (mainB T R) m 0 (-1, 0)).1, sF (sF τ 7 (az_it (mainB T R) m 0 (-1, 0)).2) 5 (nI (sN (fun i => if src T R i = true then wa R i else 0) m))) := by
  intro m
  induction m with
  | zero => intro _; rfl
  | succ m ih =>
    intro hm
    have hm12 : m < 12 := by omega
    rw [az_it_snoc, az_it_snoc, ih (by omega), Nat.zero_add]
    generalize az_it (mainB T R) m 0 (-1, 0) = s
    obtain ⟨w, g⟩ := s
    show b_X1_findMain_14 m w (sF (sF τ 7 g) 5 (nI (sN (fun i => if src T R i = true then wa R i else 0) m))) = _
    show _ = ((mainB T R m (w, g)).1, sF (sF τ 7 (mainB T R m (w, g)).2) 5 (nI (sN (fun i => if src T R i = true then wa R i else 0) m + if src T R m = true then wa R m else 0)))
    generalize sN (fun i => if src T R i = true then wa R i else 0) m = u
    have hbd : b_X1_findMain_14 m w (sF (sF τ 7 g) 5 (nI u)) = if x_X3_has τ (nI m) = 0 then (w, sF (sF τ 7 g) 5 (nI u)) else if x_X3_referredBy τ (nI m) = 0 then
        (if w = -1 then (nI m, sF (sF (sF (sF τ 7 g) 5 (nI u)) 5 (nI u + x_X2_at_28 τ (nI m))) 7 (x_X2_at_30 τ (nI m))) else if x_X2_at_30 τ (nI m) ≤ g then (w, sF (sF (sF τ 7 g) 5 (nI u)) 5 (nI u + x_X2_at_28 τ (nI m))) else (nI m, sF (sF (sF (sF τ 7 g) 5 (nI u)) 5 (nI u + x_X2_at_28 τ (nI m))) 7 (x_X2_at_30 τ (nI m)))) else (w, sF (sF τ 7 g) 5 (nI u)) := rfl
    obtain ⟨d1, d2, d3⟩ := hd m (Nat.zero_le _) hm12
    have e0 : x_X3_referredBy τ (nI m) = 0 ↔ cnt (R m) 12 = 0 := zero_cnt (fun i => s5_referredBy hC hm12 i) (fun i hi => by have := R12 hA hi; omega)
    have h7 : ∀ v x : Int32, sF (sF (sF τ 7 g) 5 x) 7 v = sF (sF τ 7 v) 5 x := fun v x => by rw [sF_comm _ (by decide : (5 : Nat) ≠ 7), sF_sF]
    rw [hbd, has_is hC hm12, at_r28 τ hm12, at_r30 τ hm12, d1, d2, sF_sF, h7, nI_add]
    unfold mainB src
    cases hT : T m with
    | false => rfl
    | true =>
      rw [if_neg (by decide)]
      by_cases h0 : cnt (R m) 12 = 0
      · rw [if_pos (e0.mpr h0)]
        have : (true && decide (cnt (R m) 12 = 0)) = true := by simp [h0]
        rw [this, if_pos rfl, if_pos rfl]
        dsimp only
        by_cases h1 : w = -1
        · rw [if_pos h1, if_pos h1]
        · rw [if_neg h1, if_neg h1]
          by_cases h2 : nI (sm R m) ≤ g
          · rw [if_pos h2, if_pos h2]
          · rw [if_neg h2, if_neg h2]
      · rw [if_neg (fun z => h0 (e0.mp z))]
        have : (true && decide (cnt (R m) 12 = 0)) = false := by simp [h0]
        rw [this]
        rfl
theorem az_ws_snoc' {S : Type} {st : S → Bool} {b : Nat → S → S} : ∀ (m i : Nat) (s : S), az_ws st b (m + 1) i s = if st (az_ws st b m i s) = true then az_ws st b m i s else b (i + m) (az_ws st b m i s)
  | 0, i, s => by
    show (match st s with | true => s | false => b i s) = if st s = true then s else b i s
    cases st s <;> rfl
  | m + 1, i, s => by
    cases h : st s with
    | true => rw [az_ws_st h, az_ws_st h, if_pos h]
    | false =>
      rw [az_ws_go (n := m + 1) h, az_ws_go (n := m) h, az_ws_snoc' m (i + 1) (b i s), show i + 1 + m = i + (m + 1) by omega]
/-- the main way, paper by paper -/
def chN (f : Nat → Int32) (w : Int32) : Nat → Int32
  | 0 => w
  | k + 1 => if chN f w k = -1 then -1 else f (chN f w k).toNatClampNeg
theorem nI_ne {k : Nat} (h : k < 2 ^ 31) : ¬ (nI k : Int32) = -1 := fun z => by
  have := congrArg Int32.toInt z
  rw [nI_toInt h, show (-1 : Int32).toInt = -1 from by decide] at this
  omega
theorem ch_up (hA : Ab n T R) {f : Nat → Int32} (hf : ∀ p, p < 12 → NX R p (f p)) {w : Int32} (hw : FS T R w) : ∀ k, chN f w k = -1 ∨ ∃ p, p < 12 ∧ k ≤ p ∧ T p = true ∧ chN f w k = nI p
  | 0 => by
    rcases hw with ⟨_, h⟩ | ⟨k, hk, h⟩
    · exact Or.inl h
    · have hs := hk.2.2.1
      unfold src at hs
      rw [Bool.and_eq_true] at hs
      exact Or.inr ⟨k, hk.2.1, Nat.zero_le _, hs.1, h⟩
  | k + 1 => by
    show (if chN f w k = -1 then -1 else f (chN f w k).toNatClampNeg) = -1 ∨ ∃ p, p < 12 ∧ k + 1 ≤ p ∧ T p = true ∧ (if chN f w k = -1 then -1 else f (chN f w k).toNatClampNeg) = nI p
    rcases ch_up hA hf hw k with h | ⟨p, h1, h2, h3, h4⟩
    · rw [if_pos h]; exact Or.inl rfl
    · rw [h4, if_neg (nI_ne (by omega)), p12g h1]
      rcases hf p h1 with ⟨_, h⟩ | ⟨c, hc, h⟩
      · exact Or.inl h
      · have hr : R c p = true := hc.2.2.1
        exact Or.inr ⟨c, hc.2.1, by have := (R12 hA hr).2; omega, (hA.2.2 c p hr).2.1, h⟩
theorem follow_is {τ : az_S} (hA : Ab n T R) (hf : ∀ p, p < 12 → NX R p (τ.2.1 33 p)) {w : Int32} (hw : FS T R w) : ∃ g len, x_X1_follow τ w = sG (sF τ 6 (nI len)) 35 g ∧ len ≤ 12 ∧ (∀ k, k < len → ¬ chN (τ.2.1 33) w k = -1 ∧ g k = chN (τ.2.1 33) w k) ∧ chN (τ.2.1 33) w len = -1 := by
  have key : ∀ m, m ≤ 12 → ∃ g l, az_ws (fun s : Int32 × az_S => decide (s.1 = (-1))) (fun ι s => b_X1_follow_9 w ι s.1 s.2) m 0 (w, sF τ 6 0) = (chN (τ.2.1 33) w l, sG (sF τ 6 (nI l)) 35 g) ∧ l ≤ m ∧ (∀ k, k < l → ¬ chN (τ.2.1 33) w k = -1 ∧ g k = chN (τ.2.1 33) w k) ∧ (l = m ∨ chN (τ.2.1 33) w l = -1) := by
    intro m
    induction m with
    | zero =>
      intro _
      refine ⟨τ.2.1 35, 0, ?_, Nat.le_refl _, fun k hk => by omega, Or.inl rfl⟩
      have : sG (sF τ 6 (nI 0)) 35 (τ.2.1 35) = sF τ 6 (nI 0) := sG_self (sF τ 6 (nI 0)) 35
      rw [this]
      rfl
    | succ m ih =>
      intro hm
      obtain ⟨g, l, e, hl, hk, hor⟩ := ih (by omega)
      rw [az_ws_snoc', e, Nat.zero_add]
      dsimp only
      by_cases hs : chN (τ.2.1 33) w l = -1
      · rw [if_pos (by simp [hs])]
        exact ⟨g, l, rfl, by omega, hk, Or.inr hs⟩
      · rw [if_neg (by simp [hs])]
        have hlm : l = m := hor.resolve_right hs
        subst hlm
        have hl12 : l < 12 := by omega
        rcases ch_up hA hf hw l with h | ⟨p, h1, h2, h3, h4⟩
        · exact absurd h hs
        · refine ⟨va_up g l (nI p), l + 1, ?_, Nat.le_refl _, fun k hk2 => ?_, Or.inl rfl⟩
          · have hbd : b_X1_follow_9 w l (nI p) (sG (sF τ 6 (nI l)) 35 g) = (x_X2_at_32 (sF (x_X2_set_34 (sG (sF τ 6 (nI l)) 35 g) (nI l) (nI p)) 6 ((x_X2_set_34 (sG (sF τ 6 (nI l)) 35 g) (nI l) (nI p)).1 6 + 1)) (nI p), sF (x_X2_set_34 (sG (sF τ 6 (nI l)) 35 g) (nI l) (nI p)) 6 ((x_X2_set_34 (sG (sF τ 6 (nI l)) 35 g) (nI l) (nI p)).1 6 + 1)) := rfl
            show b_X1_follow_9 w l (chN (τ.2.1 33) w l) (sG (sF τ 6 (nI l)) 35 g) = _
            rw [h4, hbd, set_r34 _ _ hl12, at_r32 _ h1, sG_at, sG_sG]
            have e1 : (sG (sF τ 6 (nI l)) 35 (va_up g l (nI p))).1 6 + 1 = nI (l + 1) := nI_1 l
            rw [e1]
            have e2 : sF (sG (sF τ 6 (nI l)) 35 (va_up g l (nI p))) 6 (nI (l + 1)) = sG (sF τ 6 (nI (l + 1))) 35 (va_up g l (nI p)) := by
              show sG (sF (sF τ 6 (nI l)) 6 (nI (l + 1))) 35 (va_up g l (nI p)) = _
              rw [sF_sF]
            rw [e2]
            show (τ.2.1 33 p, _) = (if chN (τ.2.1 33) w l = -1 then -1 else τ.2.1 33 (chN (τ.2.1 33) w l).toNatClampNeg, _)
            rw [if_neg hs, h4, p12g h1]
          · rw [va_up_if]
            by_cases ek : k = l
            · rw [if_pos ek, ek]; exact ⟨hs, h4.symm⟩
            · rw [if_neg ek]; exact hk k (by omega)
  obtain ⟨g, l, e, hl, hk, hor⟩ := key 12 (Nat.le_refl _)
  have hx : x_X1_follow τ w = (az_ws (fun s : Int32 × az_S => decide (s.1 = (-1))) (fun ι s => b_X1_follow_9 w ι s.1 s.2) 12 0 (w, sF τ 6 0)).2 := rfl
  refine ⟨g, l, by rw [hx, e], hl, hk, ?_⟩
  rcases hor with h | h
  · rcases ch_up hA hf hw l with h9 | ⟨p, h1, h2, _, _⟩
    · exact h9
    · omega
  · exact h
/-- what the routes hold -/
def RW (σ : az_S) (T : Nat → Bool) (R : Nat → Nat → Bool) : Prop :=
  (∀ p, p < 12 → T p = true → σ.2.1 27 p = nI (wb R p)) ∧ (∀ p, p < 12 → T p = true → σ.2.1 29 p = nI (wa R p)) ∧ σ.1 5 = nI (sN (fun i => if src T R i = true then wa R i else 0) 12) ∧
  ∃ (f : Nat → Int32) (w : Int32) (len : Nat), (∀ p, p < 12 → NX R p (f p)) ∧ FS T R w ∧ len ≤ 12 ∧ (∀ k, k < len → ¬ chN f w k = -1 ∧ σ.2.1 35 k = chN f w k) ∧ chN f w len = -1 ∧ σ.1 6 = nI len ∧
    ((w = -1 ∧ σ.1 7 = 0) ∨ ∃ p, p < 12 ∧ w = nI p ∧ σ.1 7 = nI (sm R p))
theorem RW.of {σ τ : az_S} (h : RW σ T R) (h1 : ∀ k, 5 ≤ k → k ≤ 7 → τ.1 k = σ.1 k) (h2 : ∀ k, 27 ≤ k → k ≤ 35 → τ.2.1 k = σ.2.1 k) : RW τ T R := by
  unfold RW
  rw [h1 5 (by decide) (by decide), h1 6 (by decide) (by decide), h1 7 (by decide) (by decide), h2 27 (by decide) (by decide), h2 29 (by decide) (by decide), h2 35 (by decide) (by decide)]
  exact h
theorem routes_is (h : RC σ n T Y R) (hA : Ab n T R) : RW (x_X1_findAnew σ) T R ∧ Kc σ (x_X1_findAnew σ) ∧ (∀ k, k ≤ 4 → (x_X1_findAnew σ).1 k = σ.1 k) ∧ (∀ k, k ≤ 26 → (x_X1_findAnew σ).2.1 k = σ.2.1 k) := by
  obtain ⟨g, e, hg⟩ := loop26 h hA 12 (Nat.le_refl _)
  have hC : RC (sG σ 27 g) n T Y R := h.up (fun _ _ => rfl) (fun k hk => sG_ne σ g (by omega))
  obtain ⟨υ, e2, hF, hd⟩ := loop28 hA 12 (sG σ 27 g) (Nat.le_refl _) hC (fun p hp => hg p hp) (fun q h1 h2 => by omega)
  have hC2 : RC υ n T Y R := hF.RC (by decide) hC
  have e3 := loopM hC2 hA hd 12 (Nat.le_refl _)
  have hm := up_max (C := src T R) (v := fun i => nI (sm R i)) (b := mainB T R) (z := 0) (fun i s hi => rfl) 12 (Nat.le_refl _)
  have hFS : FS T R (az_it (mainB T R) 12 0 (-1, 0)).1 ∧ (((az_it (mainB T R) 12 0 (-1, 0)).1 = -1 ∧ (az_it (mainB T R) 12 0 (-1, 0)).2 = 0) ∨ ∃ p, p < 12 ∧ (az_it (mainB T R) 12 0 (-1, 0)).1 = nI p ∧ (az_it (mainB T R) 12 0 (-1, 0)).2 = nI (sm R p)) := by
    rcases hm with ⟨a1, a2⟩ | ⟨k, ka, a2⟩
    · rw [a2]; exact ⟨Or.inl ⟨a1, rfl⟩, Or.inl ⟨rfl, rfl⟩⟩
    · rw [a2]
      have hb := ka.2.1
      exact ⟨Or.inr ⟨k, FA_nat (fun i hi => by have := sm_small hA hi; omega) ka, rfl⟩, Or.inr ⟨k, hb, rfl, rfl⟩⟩
  generalize az_it (mainB T R) 12 0 (-1, 0) = s at e3 hFS
  obtain ⟨w, gs⟩ := s
  obtain ⟨hw, hgs⟩ := hFS
  have e0 : x_X1_findAnew σ = x_X1_follow (sF (sF υ 7 gs) 5 (nI (sN (fun i => if src T R i = true then wa R i else 0) 12))) w := by
    have : x_X1_findAnew σ = x_X1_findMain (az_dn (fun ι s => b_X1_findAnew_37 ι s) 12 (az_it (fun ι s => b_X1_findAnew_2 ι s) 12 0 σ)) := rfl
    rw [this, e, e2]
    have : x_X1_findMain υ = x_X1_follow (az_it (fun ι s => b_X1_findMain_14 ι s.1 s.2) 12 0 ((-1 : Int32), sF (sF υ 7 0) 5 0)).2 (az_it (fun ι s => b_X1_findMain_14 ι s.1 s.2) 12 0 ((-1 : Int32), sF (sF υ 7 0) 5 0)).1 := rfl
    rw [this, e3]
  obtain ⟨g2, len, e4, hl, hk, hlast⟩ := follow_is (τ := sF (sF υ 7 gs) 5 (nI (sN (fun i => if src T R i = true then wa R i else 0) 12))) hA (fun p hp => (hd p (Nat.zero_le _) hp).2.2) hw
  rw [e0, e4]
  have z27 : υ.2.1 27 = g := by rw [hF.2.1 27 (by decide)]; rfl
  refine ⟨⟨fun p hp _ => ?_, fun p hp _ => (hd p (Nat.zero_le _) hp).1, rfl, υ.2.1 33, w, len, fun p hp => (hd p (Nat.zero_le _) hp).2.2, hw, hl, hk, hlast, rfl, hgs⟩, ?_, fun k hk => ?_, fun k hk => ?_⟩
  · show υ.2.1 27 p = _
    rw [z27]; exact hg p hp
  · exact (((((Kc.g σ g (by decide)).trans (hF.Kc (by decide))).trans (Kc.f _ _ (by decide))).trans (Kc.f _ _ (by decide))).trans (Kc.f _ _ (by decide))).trans (Kc.g _ _ (by decide))
  · show (sF (sF (sF υ 7 gs) 5 _) 6 (nI len)).1 k = _
    rw [sF_ne _ _ (by omega), sF_ne _ _ (by omega), sF_ne _ _ (by omega), hF.1]
    rfl
  · rw [sG_ne _ _ (by omega)]
    show υ.2.1 k = _
    rw [hF.2.1 k (by simp; omega)]
    exact sG_ne σ g (by omega)
end AZC9
