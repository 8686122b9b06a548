/-! the world of a running law: forty-six cells; its contents by numbers (σ.1), rows of ints (σ.2.1) and of longs (σ.2.2) -/
section AZW
abbrev az_S : Type := (Nat → Int32) × (Nat → Nat → Int32) × (Nat → Nat → Int64)
def sF (σ : az_S) (k : Nat) (v : Int32) : az_S := (va_up σ.1 k v, σ.2.1, σ.2.2)
def sG (σ : az_S) (k : Nat) (g : Nat → Int32) : az_S := (σ.1, va_up σ.2.1 k g, σ.2.2)
def sL (σ : az_S) (k : Nat) (g : Nat → Int64) : az_S := (σ.1, σ.2.1, va_up σ.2.2 k g)
def az_row (k : Nat) : az_E := .inr (2, [.ref k])
def az_tab (k : Nat) : az_E := .inr (4, [.ref k])
def az_ri (σ : az_S) (k : Nat) : az_E := .inl (0, 12, .inl (σ.2.1 k))
def az_ti (σ : az_S) (k : Nat) : az_E := .inl (0, 144, .inl (σ.2.1 k))
def wd (σ : az_S) : az_H := [
  .inr (5, [.ref 1, .ref 12, .ref 25]),
  .inr (3, [.ref 2, .ref 4, .ref 6, .ref 8, .ref 10, .int (σ.1 0), .int (σ.1 1), .int (σ.1 2)]),
  az_row 3, az_ri σ 3, az_row 5, az_ri σ 5, az_row 7, az_ri σ 7, az_tab 9, az_ti σ 9, az_tab 11, az_ti σ 11,
  .inr (0, [.ref 13, .ref 15, .ref 17, .ref 19, .ref 21, .ref 23, .int (σ.1 3), .int (σ.1 4)]),
  az_row 14, az_ri σ 14, az_row 16, az_ri σ 16, az_row 18, az_ri σ 18, az_row 20, az_ri σ 20, az_tab 22, az_ti σ 22, az_tab 24, az_ti σ 24,
  .inr (1, [.ref 26, .ref 28, .ref 30, .ref 32, .ref 34, .int (σ.1 5), .int (σ.1 6), .int (σ.1 7)]),
  az_row 27, az_ri σ 27, az_row 29, az_ri σ 29, az_row 31, az_ri σ 31, az_row 33, az_ri σ 33, az_row 35, az_ri σ 35,
  .inr (6, [.int (σ.1 8), .ref 37, .ref 38, .ref 39, .ref 40, .ref 41, .ref 42, .ref 43, .ref 44, .int (σ.1 9)]),
  .inl (2, 12, .inl (σ.2.1 37)), az_ri σ 38, az_ri σ 39, az_ti σ 40, az_ri σ 41, az_ri σ 42, az_ri σ 43, .inl (1, 12, .inr (.inl (σ.2.2 44))), .inl (1, 1, .inr (.inl (σ.2.2 45)))]
def p_at (f : Nat → Int32) (x : Int32) : Int32 := if x < 0 then 0 else if (12 : Int32) ≤ x then 0 else f x.toNatClampNeg
def p_set (f : Nat → Int32) (x v : Int32) : Nat → Int32 := if x < 0 then f else if (12 : Int32) ≤ x then f else va_up f x.toNatClampNeg v
theorem az_in12 {x : Int32} (h1 : ¬ x < 0) (h2 : ¬ (12 : Int32) ≤ x) : vp_in x 12 := by
  rw [vp_in_iff]
  rw [Int32.lt_iff_toInt_lt] at h1
  rw [Int32.le_iff_toInt_le] at h2
  have e1 : (0 : Int32).toInt = 0 := rfl
  have e2 : (12 : Int32).toInt = 12 := rfl
  omega
variable {K : az_K} {own : String} {cc : ByteArray} {R0 : Room} {l0 : Launch} {tb : List (Nat × Instr)} {cells slots pc : Nat} {lo : List (Option Value)} {st rest : List Value} {hp : az_H}
theorem AW_ialdx (hT : az_Tb cc tb) (hK : az_OK K own cc R0 l0) (i : Nat) {k n : Nat} {x : Int32} {f : Nat → Int32} (hi : tb[i]? = some (pc, .iaload)) (hk : hp[k]? = some (.inl (0, n, .inl f))) (hin : vp_in x n) (kk : AW K cells slots (pc + 1) lo (.int (f x.toNatClampNeg) :: rest) hp) : AW K cells slots pc lo (.int x :: .ref k :: rest) hp := by
  obtain ⟨p, l, e, R, s, m, args, below, meth, c, D, cA, A, Ag, Q, nL⟩ := K
  obtain ⟨hexec, hb, -, -, -, -, hKn, -⟩ := hK
  intro ad H locs ls hag hP hD hS hl
  exact va_iald hexec hb hKn hP _ 0 (az_w_at hk) rfl hin (hT.at hi) (kk ad H locs ls hag hP hD hS hl)
theorem tryq_at (l0 : Launch) (σ : az_S) (x : Int32) : AMet l0 yX2_at cX2_at 2 (some .int) ({ frames := 0, cells := 0, slots := 0, locals := 0 }) false [.ref 4, .int x] (wd σ) (fun r h => r = some (.int (p_at (σ.2.1 5) x)) ∧ h = wd σ) := by
  refine AMet_of (by decide +kernel) (by simp [Value.category]) (Nat.le_of_ble_eq_true rfl) (fun K hK hct hG hE => ?_)
  have hT := tt_X2_at
  refine AW_go hT cl_X2 hK (ctor := false) (fun h => by cases h) 0 1 (pc' := 1) (lo' := [some (.ref 4), some (.int x)]) (st' := [.int x]) (hp' := wd σ) rfl ?_
  refine AW_if_lt hT hK 1 (tgt := 22) rfl rfl (fun c1 => ?_) (fun c1 => ?_)
  · refine AW_go hT cl_X2 hK (ctor := false) (fun h => by cases h) 12 1 (pc' := 23) (lo' := [some (.ref 4), some (.int x)]) (st' := [.int 0]) (hp' := wd σ) rfl ?_
    refine AW_iret hT hE 13 rfl rfl rfl (Nat.zero_le _) (Nat.zero_le _) ⟨?_, rfl⟩
    unfold p_at
    rw [if_pos c1]
  · refine AW_go hT cl_X2 hK (ctor := false) (fun h => by cases h) 2 4 (pc' := 10) (lo' := [some (.ref 4), some (.int x)]) (st' := [.int 12, .int x]) (hp' := wd σ) rfl ?_
    refine AW_icmp_ge hT hK 6 (tgt := 22) rfl rfl (fun c2 => ?_) (fun c2 => ?_)
    · refine AW_go hT cl_X2 hK (ctor := false) (fun h => by cases h) 12 1 (pc' := 23) (lo' := [some (.ref 4), some (.int x)]) (st' := [.int 0]) (hp' := wd σ) rfl ?_
      refine AW_iret hT hE 13 rfl rfl rfl (Nat.zero_le _) (Nat.zero_le _) ⟨?_, rfl⟩
      unfold p_at
      rw [if_neg c1, if_pos c2]
    · refine AW_go hT cl_X2 hK (ctor := false) (fun h => by cases h) 7 3 (pc' := 18) (lo' := [some (.ref 4), some (.int x)]) (st' := [.int x, .ref 5]) (hp' := wd σ) rfl ?_
      refine AW_ialdx hT hK 10 rfl (n := 12) (f := σ.2.1 5) rfl (az_in12 c1 c2) ?_
      refine AW_goto hT hK 11 (tgt := 23) rfl rfl ?_
      refine AW_iret hT hE 13 rfl rfl rfl (Nat.zero_le _) (Nat.zero_le _) ⟨?_, rfl⟩
      unfold p_at
      rw [if_neg c1, if_neg c2]
theorem tryq_up (σ : az_S) (v : Int32) : (wd σ).set 1 (.inr (3, [.ref 2, .ref 4, .ref 6, .ref 8, .ref 10, .int (σ.1 0), .int (σ.1 1), .int v])) = wd (sF σ 2 v) := rfl
theorem tryq_up2 (σ : az_S) (v : Nat → Int32) : (wd σ).set 5 (.inl (0, 12, .inl v)) = wd (sG σ 5 v) := rfl
end AZW
