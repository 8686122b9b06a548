/-! a paper comes, a paper is withdrawn: on the class's shelf, in the model -/
section AZB6
/-- what the class's own work leaves alone -/
def Kc (σ τ : az_S) : Prop := (∀ k, 8 ≤ k → τ.1 k = σ.1 k) ∧ (∀ k, 36 ≤ k → τ.2.1 k = σ.2.1 k) ∧ τ.2.2 = σ.2.2
theorem Kc.rfl {σ : az_S} : Kc σ σ := ⟨fun _ _ => _root_.rfl, fun _ _ => _root_.rfl, _root_.rfl⟩
theorem Kc.trans {σ τ υ : az_S} (h : Kc σ τ) (h2 : Kc τ υ) : Kc σ υ := ⟨fun k hk => (h2.1 k hk).trans (h.1 k hk), fun k hk => (h2.2.1 k hk).trans (h.2.1 k hk), h2.2.2.trans h.2.2⟩
theorem Kc.f (σ : az_S) {k : Nat} (v : Int32) (h : k < 8) : Kc σ (sF σ k v) := ⟨fun j hj => sF_ne σ v (by omega), fun _ _ => _root_.rfl, _root_.rfl⟩
theorem Kc.g (σ : az_S) {k : Nat} (g : Nat → Int32) (h : k < 36) : Kc σ (sG σ k g) := ⟨fun _ _ => _root_.rfl, fun j hj => sG_ne σ g (by omega), _root_.rfl⟩
theorem Fr.Kc {ks : List Nat} {σ τ : az_S} (h : Fr ks σ τ) (hk : ∀ k, k ∈ ks → k < 36) : Kc σ τ := ⟨fun k _ => by rw [h.1], fun k h2 => h.2.1 k (fun z => by have := hk k z; omega), h.2.2⟩
theorem Kc.RM {σ τ : az_S} (k : Kc σ τ) {n : Nat} {T : Nat → Bool} {Y : Nat → Int32} {R : Nat → Nat → Bool} (h : RM σ n T Y R) : RM τ n T Y R := by
  obtain ⟨h1, h2, h3, h4⟩ := h
  refine ⟨(k.1 8 (by decide)).trans h1, fun i hi => ?_, fun i hi => ?_, fun i hi => ?_⟩
  · rw [k.2.1 37 (by decide)]; exact h2 i hi
  · rw [k.2.1 38 (by decide)]; exact h3 i hi
  · rw [k.2.1 39 (by decide)]; exact h4 i hi
theorem Sh.of {σ τ : az_S} {R : Nat → Nat → Bool} (h : Sh σ R) (h5 : τ.2.1 5 = σ.2.1 5) (h7 : τ.2.1 7 = σ.2.1 7) (h9 : τ.2.1 9 = σ.2.1 9) (h11 : τ.2.1 11 = σ.2.1 11) : Sh τ R := by
  unfold Sh
  rw [h5, h7, h9, h11]
  exact h
def tCome (T : Nat → Bool) (n : Nat) : Nat → Bool := fun i => T i || i == n
def rCome (R : Nat → Nat → Bool) (n : Nat) (rf : Int32) : Nat → Nat → Bool := fun i j => R i j || (i == n && Bt rf j)
def tGo (T : Nat → Bool) (p : Nat) : Nat → Bool := fun i => T i && !(i == p)
def rGo (R : Nat → Nat → Bool) (p : Nat) : Nat → Nat → Bool := fun i j => R i j && (!(i == p) && !(j == p))
variable {σ : az_S} {n : Nat} {T : Nat → Bool} {Y : Nat → Int32} {R : Nat → Nat → Bool}
theorem Ab.come (hA : Ab n T R) (hn : n < 12) {rf : Int32} (hrf : ∀ j, Bt rf j = true → T j = true) : Ab (n + 1) (tCome T n) (rCome R n rf) := by
  obtain ⟨h1, h2, h3⟩ := hA
  refine ⟨hn, fun i hi => ?_, fun i j h => ?_⟩
  · unfold tCome at hi
    rw [Bool.or_eq_true, beq_iff_eq] at hi
    rcases hi with hi | hi
    · have := h2 i hi; omega
    · omega
  · unfold rCome at h
    unfold tCome
    rw [Bool.or_eq_true, Bool.and_eq_true, beq_iff_eq] at h
    rcases h with h | ⟨rfl, h⟩
    · obtain ⟨q1, q2, q3⟩ := h3 i j h
      simp [q1, q2, q3]
    · have hj := hrf j h
      have := h2 j hj
      simp [hj, this]
theorem Ab.go (hA : Ab n T R) (p : Nat) : Ab n (tGo T p) (rGo R p) := by
  obtain ⟨h1, h2, h3⟩ := hA
  refine ⟨h1, fun i hi => h2 i ?_, fun i j h => ?_⟩
  · unfold tGo at hi
    rw [Bool.and_eq_true] at hi
    exact hi.1
  · unfold rGo at h
    unfold tGo
    rw [Bool.and_eq_true, Bool.and_eq_true] at h
    obtain ⟨q1, q2, q3⟩ := h3 i j h.1
    exact ⟨q1, by rw [q2, h.2.1]; rfl, by rw [q3, h.2.2]; rfl⟩
theorem put_is (h : RC σ n T Y R) (hA : Ab n T R) (hn : n < 12) {y rf : Int32} (hrf : ∀ j, Bt rf j = true → T j = true) :
    (x_X3_put σ y rf).1 = nI n ∧ RC (x_X3_put σ y rf).2 (n + 1) (tCome T n) (va_up Y n y) (rCome R n rf) ∧ Kc σ (x_X3_put σ y rf).2 := by
  obtain ⟨h1, h2, h3, h4, h5⟩ := h
  have hRn : ∀ j, R n j = false := fun j => by
    cases hr : R n j with
    | false => rfl
    | true => exact absurd (hA.2.1 n (hA.2.2 n j hr).2.1) (Nat.lt_irrefl _)
  have e : x_X3_put σ y rf = (nI n, az_it (fun ι s => b_X3_put_45 y rf (nI n) ι s) 12 0 (sF (sG (sF (sF σ 0 (nI n + 1)) 1 y) 3 (va_up (σ.2.1 3) n y)) 2 (σ.1 2 ||| bit n))) := by
    unfold x_X3_put
    show (σ.1 0, az_it (fun ι s => b_X3_put_45 y rf (σ.1 0) ι s) 12 0 (sF (x_X2_set_2 (sF (sF σ 0 (σ.1 0 + 1)) 1 y) (σ.1 0) y) 2 ((x_X2_set_2 (sF (sF σ 0 (σ.1 0 + 1)) 1 y) (σ.1 0) y).1 2 ||| x_X5_setOf (x_X2_set_2 (sF (sF σ 0 (σ.1 0 + 1)) 1 y) (σ.1 0) y) (σ.1 0)))) = _
    rw [h1, set_r2 _ y hn, setOf_at _ hn]
    rfl
  rw [e]
  refine ⟨rfl, ?_⟩
  have hs : Sh (sF (sG (sF (sF σ 0 (nI n + 1)) 1 y) 3 (va_up (σ.2.1 3) n y)) 2 (σ.1 2 ||| bit n)) R := h5.of rfl rfl rfl rfl
  obtain ⟨k1, k2⟩ := put_loop hs hn y rf hRn 12 (Nat.le_refl _)
  have hK : Kc σ (sF (sG (sF (sF σ 0 (nI n + 1)) 1 y) 3 (va_up (σ.2.1 3) n y)) 2 (σ.1 2 ||| bit n)) := (((Kc.f _ _ (by decide)).trans (Kc.f _ _ (by decide))).trans (Kc.g _ _ (by decide))).trans (Kc.f _ _ (by decide))
  have hR : (fun i j => R i j || (i == n && (decide (j < 12) && Bt rf j))) = rCome R n rf := by
    funext i j
    unfold rCome
    cases hb : Bt rf j with
    | false => simp
    | true =>
      have := hA.2.1 j (hrf j hb)
      have : j < 12 := by omega
      simp [this]
  rw [hR] at k1
  refine ⟨⟨?_, ?_, ?_, ?_, k1⟩, hK.trans (k2.Kc (by decide))⟩
  · rw [k2.1]
    show nI n + 1 = _
    exact nI_1 n
  · rw [k2.1]
    show y = _
    rw [if_neg (by omega), Nat.add_sub_cancel, va_up_self]
  · intro j
    rw [k2.1]
    show Bt (σ.1 2 ||| bit n) j = _
    rw [Bt_or, h3 j, dec_bit hn]
    rfl
  · intro i hi
    rw [k2.2.1 3 (by decide)]
    show va_up (σ.2.1 3) n y i = va_up Y n y i
    rw [va_up_if, va_up_if, h4 i hi]
theorem take_is (h : RC σ n T Y R) (hA : Ab n T R) {p : Nat} (hp : p < 12) : RC (x_X3_take σ (nI p)) n (tGo T p) Y (rGo R p) ∧ Kc σ (x_X3_take σ (nI p)) := by
  obtain ⟨h1, h2, h3, h4, h5⟩ := h
  have e : x_X3_take σ (nI p) = sF (az_it (fun ι s => b_X3_take_2 (nI p) ι s) 12 0 σ) 2 ((az_it (fun ι s => b_X3_take_2 (nI p) ι s) 12 0 σ).1 2 &&& (bit p ^^^ (-1))) := by
    unfold x_X3_take
    show sF (az_it (fun ι s => b_X3_take_2 (nI p) ι s) 12 0 σ) 2 ((az_it (fun ι s => b_X3_take_2 (nI p) ι s) 12 0 σ).1 2 &&& (x_X5_setOf (az_it (fun ι s => b_X3_take_2 (nI p) ι s) 12 0 σ) (nI p) ^^^ (-1))) = _
    rw [setOf_at _ hp]
  obtain ⟨k1, k2⟩ := take_loop h5 hp 12 (Nat.le_refl _)
  rw [e]
  generalize az_it (fun ι s => b_X3_take_2 (nI p) ι s) 12 0 σ = τ at k1 k2 ⊢
  have hR : (fun i j => R i j && (!(i == p && decide (j < 12)) && !(j == p && decide (i < 12)))) = rGo R p := by
    funext i j
    unfold rGo
    cases hr : R i j with
    | false => rfl
    | true =>
      obtain ⟨q1, q2, q3⟩ := hA.2.2 i j hr
      have := hA.2.1 i q2
      have := hA.1
      have i1 : decide (i < 12) = true := by simp; omega
      have i2 : decide (j < 12) = true := by simp; omega
      rw [i1, i2, Bool.and_true, Bool.and_true]
  rw [hR] at k1
  refine ⟨⟨?_, ?_, ?_, ?_, k1.of rfl rfl rfl rfl⟩, (k2.Kc (by decide)).trans (Kc.f _ _ (by decide))⟩
  · show τ.1 0 = _
    rw [k2.1]; exact h1
  · show τ.1 1 = _
    rw [k2.1]; exact h2
  · intro j
    show Bt (τ.1 2 &&& (bit p ^^^ (-1))) j = _
    rw [k2.1, Bt_and, h3 j, Bt_not, dec_bit hp]
    unfold tGo
    cases ht : T j with
    | false => rfl
    | true =>
      have := hA.2.1 j ht
      have := hA.1
      have i1 : decide (j < 32) = true := by simp; omega
      rw [i1]; simp
  · intro i hi
    show τ.2.1 3 i = _
    rw [k2.2.1 3 (by decide)]; exact h4 i hi
def comeD (σ : az_S) (a b : Int32) : az_S := sF (sG (sG (sG (sF σ 9 0) 38 (va_up (σ.2.1 38) (σ.1 8).toNatClampNeg a)) 39 (va_up (σ.2.1 39) (σ.1 8).toNatClampNeg b)) 37 (va_up (σ.2.1 37) (σ.1 8).toNatClampNeg 1)) 8 (σ.1 8 + 1)
theorem xcome_is (σ : az_S) (a b : Int32) : x_X6_come σ a b = if x_X6_isIn σ a (if σ.1 8 = 0 then 0 else σ.2.1 38 (σ.1 8 - 1).toNatClampNeg) 99 = 0 then (0, sF σ 9 1) else if (b &&& (x_X6_all σ ^^^ (-1))) = 0 then (if σ.1 8 = 12 then (0, sF σ 9 2) else (σ.1 8 + 1 - 1, comeD σ a b)) else (0, sF σ 9 1) := by
  unfold x_X6_come
  by_cases h : σ.1 8 = 0
  · rw [if_pos h, if_pos h]
    rfl
  · rw [if_neg h, if_neg h]
    rfl
theorem comeD_is (h : RM σ n T Y R) (hA : Ab n T R) (hn : n < 12) {y rf : Int32} : RM (comeD σ y rf) (n + 1) (tCome T n) (va_up Y n y) (rCome R n rf) := by
  obtain ⟨h1, h2, h3, h4⟩ := h
  have e : (σ.1 8).toNatClampNeg = n := by rw [h1]; exact nI_clamp (by omega)
  unfold comeD
  rw [e]
  have hRn : ∀ j, R n j = false := fun j => by
    cases hr : R n j with
    | false => rfl
    | true => exact absurd (hA.2.1 n (hA.2.2 n j hr).2.1) (Nat.lt_irrefl _)
  refine ⟨?_, fun i hi => ?_, fun i hi => ?_, fun i hi j => ?_⟩
  · show σ.1 8 + 1 = _
    rw [h1]
    exact nI_1 n
  · show va_up (σ.2.1 37) n 1 i = 0 ↔ tCome T n i = false
    rw [va_up_if]
    unfold tCome
    by_cases e : i = n
    · subst e; simp
    · have e3 : (i == n) = false := by simp [e]
      rw [if_neg e, e3, Bool.or_false]
      exact h2 i hi
  · show va_up (σ.2.1 38) n y i = va_up Y n y i
    rw [va_up_if, va_up_if, h3 i hi]
  · show Bt (va_up (σ.2.1 39) n rf i) j = _
    rw [va_up_if]
    unfold rCome
    by_cases e : i = n
    · subst e
      rw [if_pos rfl, hRn]; simp
    · have e3 : (i == n) = false := by simp [e]
      rw [if_neg e, e3, h4 i hi]; simp
theorem comeD_Kp (σ : az_S) (a b : Int32) : (∀ k, k ≤ 7 → (comeD σ a b).1 k = σ.1 k) ∧ (∀ k, k ≤ 36 → (comeD σ a b).2.1 k = σ.2.1 k) ∧ (comeD σ a b).2.2 = σ.2.2 ∧ (comeD σ a b).1 9 = 0 := by
  refine ⟨fun k hk => ?_, fun k hk => ?_, rfl, rfl⟩
  · unfold comeD
    rw [sF_ne _ _ (by omega)]
    exact sF_ne σ 0 (by omega)
  · unfold comeD
    show (sG (sG (sG (sF σ 9 0) 38 _) 39 _) 37 _).2.1 k = _
    rw [sG_ne _ _ (by omega), sG_ne _ _ (by omega), sG_ne _ _ (by omega)]
    rfl
/-- the model's withdrawal, with the paper there -/
theorem xgo_loop {τ : az_S} (p : Nat) (hp : p < 12) (d2 : Int32) {Q : Nat → Nat → Bool} (h4 : ∀ i, i < 12 → ∀ j, Bt (τ.2.1 39 i) j = Q i j) : ∀ m, m ≤ 12 → ∃ g, az_it (fun ι s => b_X6_withdraw_35 (nI p) d2 ι s) m 0 τ = sG τ 39 g ∧ ∀ i, i < 12 → ∀ j, Bt (g i) j = (Q i j && !(decide (i < m) && j == p)) := by
  intro m
  induction m with
  | zero =>
    intro _
    exact ⟨τ.2.1 39, (sG_self τ 39).symm, fun i hi j => by rw [h4 i hi j]; simp⟩
  | succ m ih =>
    intro hm
    obtain ⟨g, e, hg⟩ := ih (by omega)
    refine ⟨va_up g m (g m &&& (bit p ^^^ (-1))), ?_, fun i hi j => ?_⟩
    · rw [az_it_snoc, e, Nat.zero_add]
      show sG (sG τ 39 g) 39 (va_up ((sG τ 39 g).2.1 39) m ((sG τ 39 g).2.1 39 m &&& (bit p ^^^ (-1)))) = _
      rw [sG_sG, sG_at]
    · rw [va_up_if, lt_succ_dec]
      by_cases e : i = m
      · subst e
        rw [if_pos rfl, Bt_and, hg i hi j, Bt_not, dec_bit hp]
        cases hq : Q i j with
        | false => rfl
        | true =>
          have : j < 32 := by
            by_cases z : j < 32
            · exact z
            · have := (h4 i hi j).trans hq
              rw [Bt_big (by omega)] at this; cases this
          simp [this]
      · have e3 : (i == m) = false := by simp [e]
        rw [if_neg e, hg i hi j, e3, Bool.or_false]
theorem xgo_is (h : RM σ n T Y R) (hA : Ab n T R) {p : Nat} (hp : p < 12) (hT : T p = true) : ∃ τ, x_X6_withdraw σ (nI p) = (nI (cnt (fun k => R k p) 12), τ) ∧ RM τ n (tGo T p) Y (rGo R p) ∧ (∀ k, k ≤ 8 → τ.1 k = σ.1 k) ∧ (∀ k, k ≤ 36 → τ.2.1 k = σ.2.1 k) ∧ τ.2.2 = σ.2.2 ∧ τ.1 9 = 0 := by
  have hi : x_X6_isPaper σ (nI p) = 1 := by rw [isPaper_at h hA hp, hT]; rfl
  have hM0 : RM (sF σ 9 0) n T Y R := (Kp.f σ 0).RM h
  have e : x_X6_withdraw σ (nI p) = (x_X6_count (sF σ 9 0) (x_X6_citers (sF σ 9 0) (nI p)), az_it (fun ι s => b_X6_withdraw_35 (nI p) (x_X6_count (sF σ 9 0) (x_X6_citers (sF σ 9 0) (nI p))) ι s) (nn σ) 0 (sG (sG (sF σ 9 0) 37 (va_up (σ.2.1 37) p 0)) 39 (va_up (σ.2.1 39) p 0))) := by
    unfold x_X6_withdraw
    rw [asks_yes hi]
    show (if (1 : Int32) = 0 then _ else _) = _
    rw [if_neg (by decide), p12g hp]
    rfl
  have hc : x_X6_count (sF σ 9 0) (x_X6_citers (sF σ 9 0) (nI p)) = nI (cnt (fun k => R k p) 12) := by
    rw [xcount_cnt, cnt_congr (fun k _ => citers_bits hM0 hA hp k)]
  obtain ⟨g, eg, hg⟩ := xgo_loop (τ := sG (sG (sF σ 9 0) 37 (va_up (σ.2.1 37) p 0)) 39 (va_up (σ.2.1 39) p 0)) p hp (x_X6_count (sF σ 9 0) (x_X6_citers (sF σ 9 0) (nI p))) (Q := fun i j => R i j && !(i == p)) (fun i hi j => by
    show Bt (va_up (σ.2.1 39) p 0 i) j = _
    rw [va_up_if]
    by_cases e : i = p
    · subst e
      rw [if_pos rfl, Bt_zero]; simp
    · have e3 : (i == p) = false := by simp [e]
      rw [if_neg e, h.2.2.2 i hi j, e3]; simp) n hA.1
  rw [e, h.nn hA.1, eg, hc, sG_sG]
  refine ⟨_, rfl, ⟨?_, fun i hi => ?_, fun i hi => ?_, fun i hi j => ?_⟩, fun k hk => ?_, fun k hk => ?_, rfl, rfl⟩
  · exact h.1
  · show va_up (σ.2.1 37) p 0 i = 0 ↔ tGo T p i = false
    rw [va_up_if]
    unfold tGo
    by_cases e : i = p
    · subst e; simp
    · have e3 : (i == p) = false := by simp [e]
      rw [if_neg e, e3, h.2.1 i hi]; simp
  · exact h.2.2.1 i hi
  · show Bt (g i) j = _
    rw [hg i hi j]
    unfold rGo
    cases hr : R i j with
    | false => rfl
    | true =>
      have := hA.2.1 i (hA.2.2 i j hr).2.1
      simp [this]
  · show (sF σ 9 0).1 k = _
    exact sF_ne σ 0 (by omega)
  · show (sG (sG (sF σ 9 0) 37 _) 39 g).2.1 k = _
    rw [sG_ne _ _ (by omega), sG_ne _ _ (by omega)]
    rfl
end AZB6
