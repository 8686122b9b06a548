/-! the world of a running law: thirty-nine cells (36 r, 37 years, 38 m); its contents by numbers (σ.1), rows of ints (σ.2.1) and of longs (σ.2.2) -/
section AZW
abbrev az_S : Type := (Nat → Int32) × (Nat → Nat → Int32) × (Nat → Nat → Int64)
def sF (σ : az_S) (k : Nat) (v : Int32) : az_S := (va_up σ.1 k v, σ.2.1, σ.2.2)
def sG (σ : az_S) (k : Nat) (g : Nat → Int32) : az_S := (σ.1, va_up σ.2.1 k g, σ.2.2)
def sL (σ : az_S) (k : Nat) (g : Nat → Int64) : az_S := (σ.1, σ.2.1, va_up σ.2.2 k g)
def az_row (k : Nat) : az_E := .inr (2, [.ref k])
def az_tab (k : Nat) : az_E := .inr (4, [.ref k])
def az_ri (σ : az_S) (k : Nat) : az_E := .inl (0, 12, .inl (σ.2.1 k))
def az_ti (σ : az_S) (k : Nat) : az_E := .inl (0, 144, .inl (σ.2.1 k))
def wd (σ : az_S) : az_H := [
  .inr (5, [.ref 1, .ref 12, .ref 25]),
  .inr (3, [.ref 2, .ref 4, .ref 6, .ref 8, .ref 10, .int (σ.1 0), .int (σ.1 1), .int (σ.1 2)]),
  az_row 3, az_ri σ 3, az_row 5, az_ri σ 5, az_row 7, az_ri σ 7, az_tab 9, az_ti σ 9, az_tab 11, az_ti σ 11,
  .inr (0, [.ref 13, .ref 15, .ref 17, .ref 19, .ref 21, .ref 23, .int (σ.1 3), .int (σ.1 4)]),
  az_row 14, az_ri σ 14, az_row 16, az_ri σ 16, az_row 18, az_ri σ 18, az_row 20, az_ri σ 20, az_tab 22, az_ti σ 22, az_tab 24, az_ti σ 24,
  .inr (1, [.ref 26, .ref 28, .ref 30, .ref 32, .ref 34, .int (σ.1 5), .int (σ.1 6), .int (σ.1 7)]),
  az_row 27, az_ri σ 27, az_row 29, az_ri σ 29, az_row 31, az_ri σ 31, az_row 33, az_ri σ 33, az_row 35, az_ri σ 35,
  az_ri σ 36, az_ri σ 37, .inl (0, 1, .inl (σ.2.1 38))]
def p_at (f : Nat → Int32) (x : Int32) : Int32 := if x < 0 then 0 else if (12 : Int32) ≤ x then 0 else f x.toNatClampNeg
def p_set (f : Nat → Int32) (x v : Int32) : Nat → Int32 := if x < 0 then f else if (12 : Int32) ≤ x then f else va_up f x.toNatClampNeg v
theorem az_in12 {x : Int32} (h1 : ¬ x < 0) (h2 : ¬ (12 : Int32) ≤ x) : vp_in x 12 := by
  rw [vp_in_iff]
  rw [Int32.lt_iff_toInt_lt] at h1
  rw [Int32.le_iff_toInt_le] at h2
  have e1 : (0 : Int32).toInt = 0 := rfl
  have e2 : (12 : Int32).toInt = 12 := rfl
  omega
theorem az_in144 {x : Int32} (h1 : ¬ x < 0) (h2 : ¬ (144 : Int32) ≤ x) : vp_in x 144 := by
  rw [vp_in_iff]
  rw [Int32.lt_iff_toInt_lt] at h1
  rw [Int32.le_iff_toInt_le] at h2
  have e1 : (0 : Int32).toInt = 0 := rfl
  have e2 : (144 : Int32).toInt = 144 := rfl
  omega
variable {K : az_K} {own : String} {cc : ByteArray} {R0 : Room} {l0 : Launch} {tb : List (Nat × Instr)} {cells slots pc : Nat} {lo : List (Option Value)} {st rest : List Value} {hp : az_H}
theorem AW_ialdx (hT : az_Tb cc tb) (hK : az_OK K own cc R0 l0) (i : Nat) {k n : Nat} {x : Int32} {f : Nat → Int32} (hi : tb[i]? = some (pc, .iaload)) (hk : hp[k]? = some (.inl (0, n, .inl f))) (hin : vp_in x n) (kk : AW K cells slots (pc + 1) lo (.int (f x.toNatClampNeg) :: rest) hp) : AW K cells slots pc lo (.int x :: .ref k :: rest) hp := by
  obtain ⟨p, l, e, R, s, m, args, below, meth, c, D, cA, A, Ag, Q, nL⟩ := K
  obtain ⟨hexec, hb, -, -, -, -, hKn, -⟩ := hK
  intro ad H locs ls hag hP hD hS hl
  exact va_iald hexec hb hKn hP _ 0 (az_w_at hk) rfl hin (hT.at hi) (kk ad H locs ls hag hP hD hS hl)
theorem AW_iastx (hT : az_Tb cc tb) (hK : az_OK K own cc R0 l0) (i : Nat) {k n : Nat} {x v : Int32} {f : Nat → Int32} (hi : tb[i]? = some (pc, .iastore)) (hk : hp[k]? = some (.inl (0, n, .inl f))) (hin : vp_in x n) (kk : AW K cells slots (pc + 1) lo rest (hp.set k (.inl (0, n, .inl (upd f x.toNatClampNeg v))))) : AW K cells slots pc lo (.int v :: .int x :: .ref k :: rest) hp := by
  obtain ⟨p, l, e, R, s, m, args, below, meth, c, D, cA, A, Ag, Q, nL⟩ := K
  obtain ⟨hexec, hb, -, -, -, -, hKn, -⟩ := hK
  intro ad H locs ls hag hP hD hS hl
  refine va_iast hexec hb hKn hP hD hS _ 0 (az_w_at hk) rfl hin (hT.at hi) (fun H1 locs1 hP1 hD1 hS1 => ?_)
  exact kk ad H1 locs1 ls hag (by rw [az_w_set]; exact hP1) (by rw [az_w_set]; exact hD1) hS1 hl
theorem AW_idivN (hT : az_Tb cc tb) (hK : az_OK K own cc R0 l0) (i a b : Nat) {x y : Int32} (hi : tb[i]? = some (pc, .idiv)) (hx : x = nI a) (hy : y = nI b) (ha : a < 2 ^ 31) (h0 : 0 < b) (hb2 : b < 2 ^ 31) (kk : AW K cells slots (pc + 1) lo (.int (nI (a / b)) :: rest) hp) : AW K cells slots pc lo (.int y :: .int x :: rest) hp := by
  obtain ⟨p, l, e, R, s, m, args, below, meth, c, D, cA, A, Ag, Q, nL⟩ := K
  obtain ⟨hexec, hb, -, -, -, -, hKn, -⟩ := hK
  intro ad H locs ls hag hP hD hS hl
  subst hx hy
  exact lv_idiv hexec hb (hT.at hi) (nI_ne0 h0 hb2) (by rw [pk_div ha h0 hb2]; exact kk ad H locs ls hag hP hD hS hl)
theorem AW_iremN (hT : az_Tb cc tb) (hK : az_OK K own cc R0 l0) (i a b : Nat) {x y : Int32} (hi : tb[i]? = some (pc, .irem)) (hx : x = nI a) (hy : y = nI b) (ha : a < 2 ^ 31) (h0 : 0 < b) (hb2 : b < 2 ^ 31) (kk : AW K cells slots (pc + 1) lo (.int (nI (a % b)) :: rest) hp) : AW K cells slots pc lo (.int y :: .int x :: rest) hp := by
  obtain ⟨p, l, e, R, s, m, args, below, meth, c, D, cA, A, Ag, Q, nL⟩ := K
  obtain ⟨hexec, hb, -, -, -, -, hKn, -⟩ := hK
  intro ad H locs ls hag hP hD hS hl
  subst hx hy
  exact lv_irem hexec hb (hT.at hi) (nI_ne0 h0 hb2) (by rw [pk_rem ha h0 hb2]; exact kk ad H locs ls hag hP hD hS hl)
theorem AW_idiv (hT : az_Tb cc tb) (hK : az_OK K own cc R0 l0) (i : Nat) {x y : Int32} (hi : tb[i]? = some (pc, .idiv)) (h0 : ¬ y = 0) (kk : AW K cells slots (pc + 1) lo (.int (x / y) :: rest) hp) : AW K cells slots pc lo (.int y :: .int x :: rest) hp := by
  obtain ⟨p, l, e, R, s, m, args, below, meth, c, D, cA, A, Ag, Q, nL⟩ := K
  obtain ⟨hexec, hb, -, -, -, -, hKn, -⟩ := hK
  intro ad H locs ls hag hP hD hS hl
  exact lv_idiv hexec hb (hT.at hi) h0 (kk ad H locs ls hag hP hD hS hl)
theorem AW_irem (hT : az_Tb cc tb) (hK : az_OK K own cc R0 l0) (i : Nat) {x y : Int32} (hi : tb[i]? = some (pc, .irem)) (h0 : ¬ y = 0) (kk : AW K cells slots (pc + 1) lo (.int (x - x / y * y) :: rest) hp) : AW K cells slots pc lo (.int y :: .int x :: rest) hp := by
  obtain ⟨p, l, e, R, s, m, args, below, meth, c, D, cA, A, Ag, Q, nL⟩ := K
  obtain ⟨hexec, hb, -, -, -, -, hKn, -⟩ := hK
  intro ad H locs ls hag hP hD hS hl
  exact lv_irem hexec hb (hT.at hi) h0 (kk ad H locs ls hag hP hD hS hl)
theorem AW_g {ci N : Nat} {T : u_T} {ty : Nat → FieldType} {flt : List (Nat × Nat × Nat)} (hT : az_Tb cc tb) (hC : az_Cl own ci N T ty flt) (hK : az_OK K own cc R0 l0) (i n : Nat) {pc' : Nat} {lo' : List (Option Value)} {st' : List Value} {hp' : az_H}
    (hx : az_run ci N T ty false flt ((tb.drop i).take n) pc lo st hp = some (pc', lo', st', hp')) (k : AW K cells slots pc' lo' st' hp') : AW K cells slots pc lo st hp :=
  AW_go hT hC hK (fun h => by cases h) i n hx k
def az_msk : List Bool → List (Option Value) → List (Option Value)
  | true :: bs, v :: l => v :: az_msk bs l
  | false :: bs, _ :: l => none :: az_msk bs l
  | [], l => l
  | _, [] => []
theorem az_msk_len : ∀ (bs : List Bool) (l : List (Option Value)), (az_msk bs l).length = l.length
  | true :: bs, v :: l => by simp [az_msk, az_msk_len bs l]
  | false :: bs, v :: l => by simp [az_msk, az_msk_len bs l]
  | [], l => by simp [az_msk]
  | true :: _, [] => by simp [az_msk]
  | false :: _, [] => by simp [az_msk]
theorem az_msk_at : ∀ (bs : List Bool) (l : List (Option Value)) (i : Nat) (v : Value), (az_msk bs l)[i]? = some (some v) → l[i]? = some (some v)
  | true :: bs, w :: l, 0, v, h => by simpa [az_msk] using h
  | true :: bs, w :: l, i + 1, v, h => by
    have h : (az_msk bs l)[i]? = some (some v) := by simpa [az_msk] using h
    simpa using az_msk_at bs l i v h
  | false :: bs, w :: l, 0, v, h => by simp [az_msk] at h
  | false :: bs, w :: l, i + 1, v, h => by
    have h : (az_msk bs l)[i]? = some (some v) := by simpa [az_msk] using h
    simpa using az_msk_at bs l i v h
  | [], l, i, v, h => by simpa [az_msk] using h
  | true :: _, [], i, v, h => by simp [az_msk] at h
  | false :: _, [], i, v, h => by simp [az_msk] at h
theorem AW_msk (bs : List Bool) {lo' : List (Option Value)} (h : az_msk bs lo = lo') (k : AW K cells slots pc lo' st hp) : AW K cells slots pc lo st hp := by
  subst h
  exact AW_lo (az_msk_len bs lo) (az_msk_at bs lo) k
theorem AW_k1 {X : Int32} {hp1 : az_H} (k : ∀ v : Int32, X = v → AW K cells slots pc lo (.int v :: rest) hp1) : ∀ (r : Option Value) (hp' : az_H), (r = some (.int X) ∧ hp' = hp1) → AW K cells slots pc lo (r.toList ++ rest) hp' := by
  rintro r hp' ⟨rfl, rfl⟩
  exact k X rfl
theorem AW_kl {X : Int64} {hp1 : az_H} (k : ∀ v : Int64, X = v → AW K cells slots pc lo (.long v :: rest) hp1) : ∀ (r : Option Value) (hp' : az_H), (r = some (.long X) ∧ hp' = hp1) → AW K cells slots pc lo (r.toList ++ rest) hp' := by
  rintro r hp' ⟨rfl, rfl⟩
  exact k X rfl
theorem AW_topi {x : Int32} (k : ∀ u : Int32, x = u → AW K cells slots pc lo (.int u :: rest) hp) : AW K cells slots pc lo (.int x :: rest) hp := k x rfl
theorem AW_topl {x : Int64} (k : ∀ u : Int64, x = u → AW K cells slots pc lo (.long u :: rest) hp) : AW K cells slots pc lo (.long x :: rest) hp := k x rfl
theorem AW_kn {hp1 : az_H} (k : AW K cells slots pc lo rest hp1) : ∀ (r : Option Value) (hp' : az_H), (r = none ∧ hp' = hp1) → AW K cells slots pc lo (r.toList ++ rest) hp' := by
  rintro r hp' ⟨rfl, rfl⟩
  exact k
theorem AW_kv {X : az_S} (k : ∀ v : az_S, X = v → AW K cells slots pc lo rest (wd v)) : ∀ (r : Option Value) (hp' : az_H), (r = none ∧ hp' = wd X) → AW K cells slots pc lo (r.toList ++ rest) hp' := by
  rintro r hp' ⟨rfl, rfl⟩
  exact k X rfl
theorem AW_kiw {X : Int32 × az_S} (k : ∀ v : Int32 × az_S, X = v → AW K cells slots pc lo (.int v.1 :: rest) (wd v.2)) : ∀ (r : Option Value) (hp' : az_H), (r = some (.int X.1) ∧ hp' = wd X.2) → AW K cells slots pc lo (r.toList ++ rest) hp' := by
  rintro r hp' ⟨rfl, rfl⟩
  exact k X rfl
theorem AW_klw {X : Int64 × az_S} (k : ∀ v : Int64 × az_S, X = v → AW K cells slots pc lo (.long v.1 :: rest) (wd v.2)) : ∀ (r : Option Value) (hp' : az_H), (r = some (.long X.1) ∧ hp' = wd X.2) → AW K cells slots pc lo (r.toList ++ rest) hp' := by
  rintro r hp' ⟨rfl, rfl⟩
  exact k X rfl
/-- loops: n rounds from the i-th on; downwards; with a stop -/
def az_it {S : Type} (b : Nat → S → S) : Nat → Nat → S → S
  | 0, _, s => s
  | n + 1, i, s => az_it b n (i + 1) (b i s)
def az_dn {S : Type} (b : Nat → S → S) : Nat → S → S
  | 0, s => s
  | n + 1, s => az_dn b n (b n s)
def nn (σ : az_S) : Nat := (σ.1 8).toNatClampNeg
def az_wf (σ : az_S) : Prop := σ.1 8 = nI (nn σ) ∧ nn σ ≤ 12
def az_ws {S : Type} (st : S → Bool) (b : Nat → S → S) : Nat → Nat → S → S
  | 0, _, s => s
  | n + 1, i, s => match st s with
    | true => s
    | false => az_ws st b n (i + 1) (b i s)
theorem az_ws_st {S : Type} {st : S → Bool} {b : Nat → S → S} {n i : Nat} {s : S} (h : st s = true) : az_ws st b n i s = s := by
  cases n with
  | zero => rfl
  | succ n => unfold az_ws; rw [h]
theorem az_ws_go {S : Type} {st : S → Bool} {b : Nat → S → S} {n i : Nat} {s : S} (h : st s = false) : az_ws st b (n + 1) i s = az_ws st b n (i + 1) (b i s) := by
  conv => lhs; unfold az_ws
  rw [h]
theorem az_tc (W : Int32) : W < 0 ∧ W.toNatClampNeg = 0 ∨ 0 ≤ W ∧ W = nI W.toNatClampNeg ∧ W.toNatClampNeg < 2 ^ 31 := by
  by_cases h : W < 0
  · refine Or.inl ⟨h, ?_⟩
    rw [Int32.lt_iff_toInt_lt] at h
    have e1 : (0 : Int32).toInt = 0 := rfl
    show W.toInt.toNat = 0
    omega
  · obtain ⟨j, hj, rfl⟩ := nI_of h
    exact Or.inr ⟨nI_pos' hj, by rw [nI_clamp hj], by rw [nI_clamp hj]; exact hj⟩
theorem az_cv0 {W : Int32} {i : Nat} (hi : i + 0 = W.toNatClampNeg) : W ≤ nI i := by
  rcases az_tc W with ⟨h, h2⟩ | ⟨h, h2, h3⟩
  · have : i = 0 := hi.trans h2
    subst this
    rw [Int32.lt_iff_toInt_lt] at h
    rw [Int32.le_iff_toInt_le]
    have e1 : (0 : Int32).toInt = 0 := rfl
    have e2 : (nI 0).toInt = 0 := rfl
    omega
  · have : i = W.toNatClampNeg := hi
    rw [this, ← h2]
    exact Int32.le_refl _
theorem az_cv1 {W : Int32} {i n : Nat} (hi : i + (n + 1) = W.toNatClampNeg) : ¬ W ≤ nI i := by
  rcases az_tc W with ⟨h, h2⟩ | ⟨h, h2, h3⟩
  · omega
  · rw [h2]
    exact nI_ge (by omega) h3
theorem AW_ldcw (hT : az_Tb cc tb) (hK : az_OK K own cc R0 l0) (i : Nat) {idx : Nat} {v : Int32} (hi : tb[i]? = some (pc, .ldc_w idx)) (hw : Cond.constant own idx v ∈ lw_tbl) (kk : AW K cells slots (pc + 3) lo (.int v :: st) hp) : AW K cells slots pc lo st hp := by
  obtain ⟨p, l, e, R, s, m, args, below, meth, c, D, cA, A, Ag, Q, nL⟩ := K
  obtain ⟨hexec, hb, -, -, hown, hev, hKn, -⟩ := hK
  intro ad H locs ls hag hP hD hS hl
  exact lv_ldcw hexec hb hown (hev.1.use hw rfl args) (hT.at hi) (kk ad H locs ls hag hP hD hS hl)
theorem az_c0 {i E : Nat} (hi : i + 0 = E) : nI E ≤ nI i := by
  have : i = E := hi
  rw [this]
  exact Int32.le_refl _
theorem az_c1 {i n E : Nat} (hi : i + (n + 1) = E) (hE : E < 2 ^ 31 := by decide) : ¬ nI E ≤ nI i := nI_ge (by omega) hE
theorem az_cn0 {σ : az_S} {i : Nat} (hw : az_wf σ) (hi : i + 0 = nn σ) : σ.1 8 ≤ nI i := by
  have : i = nn σ := hi
  rw [hw.1, this]
  exact Int32.le_refl _
theorem az_cn1 {σ : az_S} {i n : Nat} (hw : az_wf σ) (hi : i + (n + 1) = nn σ) : ¬ σ.1 8 ≤ nI i := by
  rw [hw.1]
  exact nI_ge (by omega) (by have := hw.2; omega)
theorem az_cd0 : nI 0 - 1 < 0 := by decide
theorem az_cd1 {n : Nat} (hi : n + 1 ≤ 12) : ¬ nI n < 0 := nI_pos (by omega)
theorem az_dn1 (n : Nat) : nI (n + 1) - 1 = nI n := nI_pred n
theorem az_dn2 (n : Nat) : nI n + (-1) = nI n - 1 := by
  rw [Int32.sub_eq_add_neg]
end AZW
