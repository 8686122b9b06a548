/-! rows and tables of the class, read and written at places that are papers -/
section AZB2
theorem sG_sG (σ : az_S) (k : Nat) (g h : Nat → Int32) : sG (sG σ k g) k h = sG σ k h := by
  unfold sG
  have : va_up (va_up σ.2.1 k g) k h = va_up σ.2.1 k h := by
    funext j
    unfold va_up
    by_cases e : j = k <;> simp [e]
  show (σ.1, va_up (va_up σ.2.1 k g) k h, σ.2.2) = _
  rw [this]
theorem sG_self (σ : az_S) (k : Nat) : sG σ k (σ.2.1 k) = σ := by
  unfold sG
  have : va_up σ.2.1 k (σ.2.1 k) = σ.2.1 := by
    funext j
    unfold va_up
    by_cases e : j = k
    · subst e; simp
    · simp [e]
  rw [this]
theorem sG_comm (σ : az_S) {k j : Nat} (hkj : k ≠ j) (g h : Nat → Int32) : sG (sG σ k g) j h = sG (sG σ j h) k g := by
  unfold sG
  have : va_up (va_up σ.2.1 k g) j h = va_up (va_up σ.2.1 j h) k g := by
    funext i
    unfold va_up
    by_cases e : i = j
    · subst e
      have : ¬ i = k := fun z => hkj z.symm
      simp [this]
    · simp [e]
  show (σ.1, va_up (va_up σ.2.1 k g) j h, σ.2.2) = (σ.1, va_up (va_up σ.2.1 j h) k g, σ.2.2)
  rw [this]
theorem sG_at (σ : az_S) (k : Nat) (g : Nat → Int32) : (sG σ k g).2.1 k = g := va_up_self _ _ _
theorem sG_ne (σ : az_S) {k j : Nat} (g : Nat → Int32) (h : j ≠ k) : (sG σ k g).2.1 j = σ.2.1 j := va_up_ne _ _ h
theorem sF_at (σ : az_S) (k : Nat) (v : Int32) : (sF σ k v).1 k = v := va_up_self _ _ _
theorem sF_ne (σ : az_S) {k j : Nat} (v : Int32) (h : j ≠ k) : (sF σ k v).1 j = σ.1 j := va_up_ne _ _ h
theorem p12a {i : Nat} (h : i < 12) : ¬ nI i < 0 := nI_pos (by omega)
theorem p12b {i : Nat} (h : i < 12) : ¬ (12 : Int32) ≤ nI i := by
  rw [show (12 : Int32) = nI 12 from rfl]
  exact nI_ge h (by decide)
theorem p12c {i j : Nat} : nI i * 12 + nI j = nI (i * 12 + j) := by
  rw [show (12 : Int32) = nI 12 from rfl]
  unfold nI
  rw [← Int32.ofNat_mul, ← Int32.ofNat_add]
theorem p12d {i j : Nat} (h : i < 12) (h2 : j < 12) : ¬ nI i * 12 + nI j < 0 := by
  rw [p12c]
  exact nI_pos (by omega)
theorem p12e {i j : Nat} (h : i < 12) (h2 : j < 12) : ¬ (144 : Int32) ≤ nI i * 12 + nI j := by
  rw [p12c, show (144 : Int32) = nI 144 from rfl]
  exact nI_ge (by omega) (by decide)
theorem p12f {i j : Nat} (h : i < 12) (h2 : j < 12) : (nI i * 12 + nI j).toNatClampNeg = i * 12 + j := by
  rw [p12c]
  exact nI_clamp (by omega)
theorem p12g {i : Nat} (h : i < 12) : (nI i).toNatClampNeg = i := nI_clamp (by omega)
/-- a place both ways round -/
def tset (f : Nat → Int32) (i j : Nat) (v : Int32) : Nat → Int32 := va_up (va_up f (i * 12 + j) v) (j * 12 + i) v
theorem tset_at (f : Nat → Int32) {i j a b : Nat} (v : Int32) (hi : i < 12) (hj : j < 12) (ha : a < 12) (hb : b < 12) : tset f i j v (a * 12 + b) = if (a = i ∧ b = j) ∨ (a = j ∧ b = i) then v else f (a * 12 + b) := by
  unfold tset va_up
  by_cases h1 : a * 12 + b = j * 12 + i
  · have : a = j ∧ b = i := by omega
    simp [this]
  · by_cases h2 : a * 12 + b = i * 12 + j
    · have : a = i ∧ b = j := by omega
      simp [this]
    · have h3 : ¬ ((a = i ∧ b = j) ∨ (a = j ∧ b = i)) := by omega
      rw [if_neg h1, if_neg h2, if_neg h3]
theorem at_r2 (σ : az_S) {i : Nat} (h : i < 12) : x_X2_at_2 σ (nI i) = σ.2.1 3 i := by
  unfold x_X2_at_2
  rw [if_neg (p12a h), if_neg (p12b h), p12g h]
theorem set_r2 (σ : az_S) {i : Nat} (v : Int32) (h : i < 12) : x_X2_set_2 σ (nI i) v = sG σ 3 (va_up (σ.2.1 3) i v) := by
  unfold x_X2_set_2
  rw [if_neg (p12a h), if_neg (p12b h), p12g h]
theorem at_r4 (σ : az_S) {i : Nat} (h : i < 12) : x_X2_at_4 σ (nI i) = σ.2.1 5 i := by
  unfold x_X2_at_4
  rw [if_neg (p12a h), if_neg (p12b h), p12g h]
theorem set_r4 (σ : az_S) {i : Nat} (v : Int32) (h : i < 12) : x_X2_set_4 σ (nI i) v = sG σ 5 (va_up (σ.2.1 5) i v) := by
  unfold x_X2_set_4
  rw [if_neg (p12a h), if_neg (p12b h), p12g h]
theorem at_r6 (σ : az_S) {i : Nat} (h : i < 12) : x_X2_at_6 σ (nI i) = σ.2.1 7 i := by
  unfold x_X2_at_6
  rw [if_neg (p12a h), if_neg (p12b h), p12g h]
theorem set_r6 (σ : az_S) {i : Nat} (v : Int32) (h : i < 12) : x_X2_set_6 σ (nI i) v = sG σ 7 (va_up (σ.2.1 7) i v) := by
  unfold x_X2_set_6
  rw [if_neg (p12a h), if_neg (p12b h), p12g h]
theorem at_r13 (σ : az_S) {i : Nat} (h : i < 12) : x_X2_at_13 σ (nI i) = σ.2.1 14 i := by
  unfold x_X2_at_13
  rw [if_neg (p12a h), if_neg (p12b h), p12g h]
theorem set_r13 (σ : az_S) {i : Nat} (v : Int32) (h : i < 12) : x_X2_set_13 σ (nI i) v = sG σ 14 (va_up (σ.2.1 14) i v) := by
  unfold x_X2_set_13
  rw [if_neg (p12a h), if_neg (p12b h), p12g h]
theorem at_r15 (σ : az_S) {i : Nat} (h : i < 12) : x_X2_at_15 σ (nI i) = σ.2.1 16 i := by
  unfold x_X2_at_15
  rw [if_neg (p12a h), if_neg (p12b h), p12g h]
theorem set_r15 (σ : az_S) {i : Nat} (v : Int32) (h : i < 12) : x_X2_set_15 σ (nI i) v = sG σ 16 (va_up (σ.2.1 16) i v) := by
  unfold x_X2_set_15
  rw [if_neg (p12a h), if_neg (p12b h), p12g h]
theorem at_r17 (σ : az_S) {i : Nat} (h : i < 12) : x_X2_at_17 σ (nI i) = σ.2.1 18 i := by
  unfold x_X2_at_17
  rw [if_neg (p12a h), if_neg (p12b h), p12g h]
theorem set_r17 (σ : az_S) {i : Nat} (v : Int32) (h : i < 12) : x_X2_set_17 σ (nI i) v = sG σ 18 (va_up (σ.2.1 18) i v) := by
  unfold x_X2_set_17
  rw [if_neg (p12a h), if_neg (p12b h), p12g h]
theorem at_r19 (σ : az_S) {i : Nat} (h : i < 12) : x_X2_at_19 σ (nI i) = σ.2.1 20 i := by
  unfold x_X2_at_19
  rw [if_neg (p12a h), if_neg (p12b h), p12g h]
theorem set_r19 (σ : az_S) {i : Nat} (v : Int32) (h : i < 12) : x_X2_set_19 σ (nI i) v = sG σ 20 (va_up (σ.2.1 20) i v) := by
  unfold x_X2_set_19
  rw [if_neg (p12a h), if_neg (p12b h), p12g h]
theorem at_r26 (σ : az_S) {i : Nat} (h : i < 12) : x_X2_at_26 σ (nI i) = σ.2.1 27 i := by
  unfold x_X2_at_26
  rw [if_neg (p12a h), if_neg (p12b h), p12g h]
theorem set_r26 (σ : az_S) {i : Nat} (v : Int32) (h : i < 12) : x_X2_set_26 σ (nI i) v = sG σ 27 (va_up (σ.2.1 27) i v) := by
  unfold x_X2_set_26
  rw [if_neg (p12a h), if_neg (p12b h), p12g h]
theorem at_r28 (σ : az_S) {i : Nat} (h : i < 12) : x_X2_at_28 σ (nI i) = σ.2.1 29 i := by
  unfold x_X2_at_28
  rw [if_neg (p12a h), if_neg (p12b h), p12g h]
theorem set_r28 (σ : az_S) {i : Nat} (v : Int32) (h : i < 12) : x_X2_set_28 σ (nI i) v = sG σ 29 (va_up (σ.2.1 29) i v) := by
  unfold x_X2_set_28
  rw [if_neg (p12a h), if_neg (p12b h), p12g h]
theorem at_r30 (σ : az_S) {i : Nat} (h : i < 12) : x_X2_at_30 σ (nI i) = σ.2.1 31 i := by
  unfold x_X2_at_30
  rw [if_neg (p12a h), if_neg (p12b h), p12g h]
theorem set_r30 (σ : az_S) {i : Nat} (v : Int32) (h : i < 12) : x_X2_set_30 σ (nI i) v = sG σ 31 (va_up (σ.2.1 31) i v) := by
  unfold x_X2_set_30
  rw [if_neg (p12a h), if_neg (p12b h), p12g h]
theorem at_r32 (σ : az_S) {i : Nat} (h : i < 12) : x_X2_at_32 σ (nI i) = σ.2.1 33 i := by
  unfold x_X2_at_32
  rw [if_neg (p12a h), if_neg (p12b h), p12g h]
theorem set_r32 (σ : az_S) {i : Nat} (v : Int32) (h : i < 12) : x_X2_set_32 σ (nI i) v = sG σ 33 (va_up (σ.2.1 33) i v) := by
  unfold x_X2_set_32
  rw [if_neg (p12a h), if_neg (p12b h), p12g h]
theorem at_r34 (σ : az_S) {i : Nat} (h : i < 12) : x_X2_at_34 σ (nI i) = σ.2.1 35 i := by
  unfold x_X2_at_34
  rw [if_neg (p12a h), if_neg (p12b h), p12g h]
theorem set_r34 (σ : az_S) {i : Nat} (v : Int32) (h : i < 12) : x_X2_set_34 σ (nI i) v = sG σ 35 (va_up (σ.2.1 35) i v) := by
  unfold x_X2_set_34
  rw [if_neg (p12a h), if_neg (p12b h), p12g h]
theorem at_t8 (σ : az_S) {i j : Nat} (h : i < 12) (h2 : j < 12) : x_X4_at_8 σ (nI i) (nI j) = σ.2.1 9 (i * 12 + j) := by
  unfold x_X4_at_8
  rw [if_neg (p12a h), if_neg (p12b h), if_neg (p12a h2), if_neg (p12b h2), if_neg (p12d h h2), if_neg (p12e h h2), p12f h h2]
theorem one_t8 (σ : az_S) {i j : Nat} (v : Int32) (h : i < 12) (h2 : j < 12) : x_X4_setOneWay_8 σ (nI i) (nI j) v = sG σ 9 (va_up (σ.2.1 9) (i * 12 + j) v) := by
  unfold x_X4_setOneWay_8
  rw [if_neg (p12a h), if_neg (p12b h), if_neg (p12a h2), if_neg (p12b h2), if_neg (p12d h h2), if_neg (p12e h h2), p12f h h2]
theorem add_t8 (σ : az_S) {i j : Nat} (v : Int32) (h : i < 12) (h2 : j < 12) : x_X4_add_8 σ (nI i) (nI j) v = sG σ 9 (tset (σ.2.1 9) i j (σ.2.1 9 (i * 12 + j) + v)) := by
  unfold x_X4_add_8
  show x_X4_setOneWay_8 (x_X4_setOneWay_8 σ (nI i) (nI j) (x_X4_at_8 σ (nI i) (nI j) + v)) (nI j) (nI i) (x_X4_at_8 σ (nI i) (nI j) + v) = _
  rw [at_t8 σ h h2, one_t8 σ _ h h2, one_t8 _ _ h2 h, sG_at, sG_sG]
  rfl
theorem at_t10 (σ : az_S) {i j : Nat} (h : i < 12) (h2 : j < 12) : x_X4_at_10 σ (nI i) (nI j) = σ.2.1 11 (i * 12 + j) := by
  unfold x_X4_at_10
  rw [if_neg (p12a h), if_neg (p12b h), if_neg (p12a h2), if_neg (p12b h2), if_neg (p12d h h2), if_neg (p12e h h2), p12f h h2]
theorem one_t10 (σ : az_S) {i j : Nat} (v : Int32) (h : i < 12) (h2 : j < 12) : x_X4_setOneWay_10 σ (nI i) (nI j) v = sG σ 11 (va_up (σ.2.1 11) (i * 12 + j) v) := by
  unfold x_X4_setOneWay_10
  rw [if_neg (p12a h), if_neg (p12b h), if_neg (p12a h2), if_neg (p12b h2), if_neg (p12d h h2), if_neg (p12e h h2), p12f h h2]
theorem add_t10 (σ : az_S) {i j : Nat} (v : Int32) (h : i < 12) (h2 : j < 12) : x_X4_add_10 σ (nI i) (nI j) v = sG σ 11 (tset (σ.2.1 11) i j (σ.2.1 11 (i * 12 + j) + v)) := by
  unfold x_X4_add_10
  show x_X4_setOneWay_10 (x_X4_setOneWay_10 σ (nI i) (nI j) (x_X4_at_10 σ (nI i) (nI j) + v)) (nI j) (nI i) (x_X4_at_10 σ (nI i) (nI j) + v) = _
  rw [at_t10 σ h h2, one_t10 σ _ h h2, one_t10 _ _ h2 h, sG_at, sG_sG]
  rfl
theorem at_t21 (σ : az_S) {i j : Nat} (h : i < 12) (h2 : j < 12) : x_X4_at_21 σ (nI i) (nI j) = σ.2.1 22 (i * 12 + j) := by
  unfold x_X4_at_21
  rw [if_neg (p12a h), if_neg (p12b h), if_neg (p12a h2), if_neg (p12b h2), if_neg (p12d h h2), if_neg (p12e h h2), p12f h h2]
theorem one_t21 (σ : az_S) {i j : Nat} (v : Int32) (h : i < 12) (h2 : j < 12) : x_X4_setOneWay_21 σ (nI i) (nI j) v = sG σ 22 (va_up (σ.2.1 22) (i * 12 + j) v) := by
  unfold x_X4_setOneWay_21
  rw [if_neg (p12a h), if_neg (p12b h), if_neg (p12a h2), if_neg (p12b h2), if_neg (p12d h h2), if_neg (p12e h h2), p12f h h2]
theorem set_t21 (σ : az_S) {i j : Nat} (v : Int32) (h : i < 12) (h2 : j < 12) : x_X4_set_21 σ (nI i) (nI j) v = sG σ 22 (tset (σ.2.1 22) i j v) := by
  unfold x_X4_set_21
  show x_X4_setOneWay_21 (x_X4_setOneWay_21 σ (nI i) (nI j) v) (nI j) (nI i) v = _
  rw [one_t21 σ _ h h2, one_t21 _ _ h2 h, sG_at, sG_sG]
  rfl
theorem at_t23 (σ : az_S) {i j : Nat} (h : i < 12) (h2 : j < 12) : x_X4_at_23 σ (nI i) (nI j) = σ.2.1 24 (i * 12 + j) := by
  unfold x_X4_at_23
  rw [if_neg (p12a h), if_neg (p12b h), if_neg (p12a h2), if_neg (p12b h2), if_neg (p12d h h2), if_neg (p12e h h2), p12f h h2]
theorem one_t23 (σ : az_S) {i j : Nat} (v : Int32) (h : i < 12) (h2 : j < 12) : x_X4_setOneWay_23 σ (nI i) (nI j) v = sG σ 24 (va_up (σ.2.1 24) (i * 12 + j) v) := by
  unfold x_X4_setOneWay_23
  rw [if_neg (p12a h), if_neg (p12b h), if_neg (p12a h2), if_neg (p12b h2), if_neg (p12d h h2), if_neg (p12e h h2), p12f h h2]
theorem add_t23 (σ : az_S) {i j : Nat} (v : Int32) (h : i < 12) (h2 : j < 12) : x_X4_add_23 σ (nI i) (nI j) v = sG σ 24 (tset (σ.2.1 24) i j (σ.2.1 24 (i * 12 + j) + v)) := by
  unfold x_X4_add_23
  show x_X4_setOneWay_23 (x_X4_setOneWay_23 σ (nI i) (nI j) (x_X4_at_23 σ (nI i) (nI j) + v)) (nI j) (nI i) (x_X4_at_23 σ (nI i) (nI j) + v) = _
  rw [at_t23 σ h h2, one_t23 σ _ h h2, one_t23 _ _ h2 h, sG_at, sG_sG]
  rfl
theorem set_t23 (σ : az_S) {i j : Nat} (v : Int32) (h : i < 12) (h2 : j < 12) : x_X4_set_23 σ (nI i) (nI j) v = sG σ 24 (tset (σ.2.1 24) i j v) := by
  unfold x_X4_set_23
  show x_X4_setOneWay_23 (x_X4_setOneWay_23 σ (nI i) (nI j) v) (nI j) (nI i) v = _
  rw [one_t23 σ _ h h2, one_t23 _ _ h2 h, sG_at, sG_sG]
  rfl
theorem cites_at (σ : az_S) {i j : Nat} (h : i < 12) (h2 : j < 12) : x_X3_cites σ (nI i) (nI j) = if Bt (σ.2.1 5 i) j = true then 1 else 0 := by
  show x_X5_holds σ (x_X2_at_4 σ (nI i)) (nI j) = _
  rw [at_r4 σ h, holds_at σ _ h2]
theorem has_at (σ : az_S) {i : Nat} (h : i < 12) : x_X3_has σ (nI i) = if Bt (σ.1 2) i = true then 1 else 0 := holds_at σ _ h
theorem b2i (b : Bool) : ((if b = true then 1 else 0 : Int32) = 0) = (b = false) := by cases b <;> simp
/-- any int is a paper's number, or below, or above -/
theorem p12 (p : Int32) : (∃ i, i < 12 ∧ p = nI i) ∨ p < 0 ∨ (12 : Int32) ≤ p := by
  by_cases h : p < 0
  · exact Or.inr (Or.inl h)
  · by_cases h2 : (12 : Int32) ≤ p
    · exact Or.inr (Or.inr h2)
    · obtain ⟨j, hj, rfl⟩ := vp_in_of (az_in12 h h2) (by decide)
      exact Or.inl ⟨j, hj, rfl⟩
end AZB2
