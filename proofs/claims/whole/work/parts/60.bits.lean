/-! bits of a set; how many it holds -/
section AZB1
def Bt (m : Int32) (i : Nat) : Bool := m.toBitVec.getLsbD i
theorem Bt_big {m : Int32} {i : Nat} (h : 32 ≤ i) : Bt m i = false := BitVec.getLsbD_of_ge _ _ h
theorem Bt_ext {a b : Int32} (h : ∀ i, i < 32 → Bt a i = Bt b i) : a = b := Int32.toBitVec_inj.mp (BitVec.eq_of_getLsbD_eq h)
theorem Bt_and (a b : Int32) (i : Nat) : Bt (a &&& b) i = (Bt a i && Bt b i) := by
  unfold Bt
  rw [Int32.toBitVec_and, BitVec.getLsbD_and]
theorem Bt_or (a b : Int32) (i : Nat) : Bt (a ||| b) i = (Bt a i || Bt b i) := by
  unfold Bt
  rw [Int32.toBitVec_or, BitVec.getLsbD_or]
theorem Bt_m1 (i : Nat) : Bt (-1) i = decide (i < 32) := by
  unfold Bt
  rw [show (-1 : Int32).toBitVec = BitVec.allOnes 32 from by decide, BitVec.getLsbD_allOnes]
theorem Bt_not (a : Int32) (i : Nat) : Bt (a ^^^ (-1)) i = (decide (i < 32) && !Bt a i) := by
  have h := Bt_m1 i
  by_cases hi : i < 32
  · unfold Bt at h ⊢
    rw [Int32.toBitVec_xor, BitVec.getLsbD_xor, h]
    cases a.toBitVec.getLsbD i <;> simp [hi]
  · rw [Bt_big (by omega)]
    simp [hi]
theorem Bt_zero (i : Nat) : Bt 0 i = false := by
  unfold Bt
  rw [show (0 : Int32).toBitVec = 0#32 from rfl, BitVec.getLsbD_zero]
theorem Bt_nI {k i : Nat} : Bt (nI k) i = (decide (i < 32) && k.testBit i) := by
  unfold Bt
  rw [show (nI k).toBitVec = BitVec.ofNat 32 k from rfl, BitVec.getLsbD_ofNat]
theorem in12 {i : Nat} (h : i < 12) : i = 0 ∨ i = 1 ∨ i = 2 ∨ i = 3 ∨ i = 4 ∨ i = 5 ∨ i = 6 ∨ i = 7 ∨ i = 8 ∨ i = 9 ∨ i = 10 ∨ i = 11 := by omega
def bit (i : Nat) : Int32 := 1 <<< (nI i &&& 31)
theorem bit_nI {i : Nat} (h : i < 12) : bit i = nI (2 ^ i) := by
  rcases in12 h with rfl | rfl | rfl | rfl | rfl | rfl | rfl | rfl | rfl | rfl | rfl | rfl <;> decide +kernel
theorem Bt_bit {i j : Nat} (h : i < 12) : Bt (bit i) j = decide (j = i) := by
  rw [bit_nI h, Bt_nI]
  rw [Nat.testBit_two_pow]
  by_cases e : i = j
  · subst e
    have : i < 32 := by omega
    simp [this]
  · have e2 : ¬ j = i := fun z => e z.symm
    simp [e, e2]
theorem shr_bv {i : Nat} (h : i < 12) : (nI i &&& 31 : Int32).toBitVec.smod 32 = BitVec.ofNat 32 i := by
  rcases in12 h with rfl | rfl | rfl | rfl | rfl | rfl | rfl | rfl | rfl | rfl | rfl | rfl <;> decide +kernel
theorem shr1 (m : Int32) {i : Nat} (h : i < 12) : (m >>> (nI i &&& 31)) &&& 1 = if Bt m i = true then 1 else 0 := by
  apply Bt_ext
  intro j hj
  rw [Bt_and]
  have h1 : Bt (m >>> (nI i &&& 31)) j = (if i + j < 32 then Bt m (i + j) else m.toBitVec.msb) := by
    unfold Bt
    rw [Int32.toBitVec_shiftRight, shr_bv h, BitVec.sshiftRight', BitVec.getLsbD_sshiftRight]
    have e1 : (BitVec.ofNat 32 i).toNat = i := by rw [BitVec.toNat_ofNat]; omega
    have e2 : (!decide (32 ≤ j)) = true := by simp; omega
    rw [e1, e2]
    rfl
  rw [h1]
  have h2 : Bt 1 j = decide (j = 0) := by
    rw [show (1 : Int32) = nI 1 from rfl, Bt_nI, show (1 : Nat) = 2 ^ 0 from rfl, Nat.testBit_two_pow]
    by_cases e : j = 0
    · subst e; rfl
    · have : ¬ 0 = j := fun z => e z.symm
      simp [e, this]
  rw [h2]
  by_cases e : j = 0
  · subst e
    have : i < 32 := by omega
    cases hb : Bt m i <;> simp [hb, this, Bt_zero, h2]
  · cases hb : Bt m i <;> simp [e, Bt_zero, h2]
theorem holds_at (σ : az_S) (m : Int32) {i : Nat} (h : i < 12) : x_X5_holds σ m (nI i) = if Bt m i = true then 1 else 0 := by
  unfold x_X5_holds
  rw [if_neg (nI_pos (by omega)), if_neg (by rw [show (12 : Int32) = nI 12 from rfl]; exact nI_ge h (by decide)), shr1 m h]
  cases Bt m i <;> rfl
theorem setOf_at (σ : az_S) {i : Nat} (h : i < 12) : x_X5_setOf σ (nI i) = bit i := by
  unfold x_X5_setOf
  rw [if_neg (nI_pos (by omega)), if_neg (by rw [show (12 : Int32) = nI 12 from rfl]; exact nI_ge h (by decide))]
  rfl
/-- a set of papers -/
def M12 (m : Int32) : Prop := ∀ i, 12 ≤ i → Bt m i = false
theorem M12_nat {m : Int32} (h : M12 m) : ∃ k, k < 4096 ∧ m = nI k := by
  refine ⟨m.toBitVec.toNat, ?_, ?_⟩
  · exact Nat.lt_pow_two_of_testBit (n := 12) _ (fun i hi => h i hi)
  · apply Int32.toBitVec_inj.mp
    show m.toBitVec = BitVec.ofNat 32 m.toBitVec.toNat
    rw [BitVec.ofNat_toNat, BitVec.setWidth_eq]
theorem cnt_le (P : Nat → Bool) : ∀ n, cnt P n ≤ n
  | 0 => Nat.le_refl _
  | n + 1 => by
    have := cnt_le P n
    unfold cnt
    split <;> omega
theorem cnt_congr {P Q : Nat → Bool} : ∀ {n : Nat}, (∀ i, i < n → P i = Q i) → cnt P n = cnt Q n
  | 0, _ => rfl
  | n + 1, h => by
    unfold cnt
    rw [cnt_congr (fun i hi => h i (by omega)), h n (by omega)]
theorem az_it_snoc {S : Type} (b : Nat → S → S) : ∀ (n i : Nat) (s : S), az_it b (n + 1) i s = b (i + n) (az_it b n i s)
  | 0, i, s => rfl
  | n + 1, i, s => by
    show az_it b (n + 1) (i + 1) (b i s) = _
    rw [az_it_snoc b n (i + 1) (b i s)]
    show b (i + 1 + n) _ = b (i + (n + 1)) _
    rw [show i + 1 + n = i + (n + 1) by omega]
    rfl
theorem xcount_cnt (σ : az_S) (m : Int32) : x_X6_count σ m = nI (cnt (Bt m) 12) := by
  unfold x_X6_count
  show az_it (fun ι s => b_X6_count_4 σ m ι s) 12 0 0 = _
  have h : ∀ n, n ≤ 12 → az_it (fun ι s => b_X6_count_4 σ m ι s) n 0 0 = nI (cnt (Bt m) n) := by
    intro n
    induction n with
    | zero => intro _; rfl
    | succ n ih =>
      intro hn
      rw [az_it_snoc, ih (by omega)]
      show nI (cnt (Bt m) n) + ((m >>> (nI (0 + n) &&& 31)) &&& 1) = nI (cnt (Bt m) n + _)
      rw [Nat.zero_add, shr1 m (by omega), ← nI_add]
      cases Bt m n <;> rfl
  exact h 12 (Nat.le_refl _)
theorem bitCount_cnt (σ : az_S) {m : Int32} (h : M12 m) : x_J6_bitCount_0f7a4 σ m = nI (cnt (Bt m) 12) := by
  obtain ⟨k, hk, rfl⟩ := M12_nat h
  show x_J6_bitCount_0f7a4 (fun _ => 0, fun _ _ => 0, fun _ _ => 0) (nI k) = _
  rw [bitCount_all k hk]
  congr 1
  apply cnt_congr
  intro i hi
  rw [Bt_nI]
  have : i < 32 := by omega
  simp [this]
end AZB1
