/-! what the shelf keeps, as papers come and go -/
section AZB4
def Sh (σ : az_S) (R : Nat → Nat → Bool) : Prop :=
  (∀ i, i < 12 → ∀ j, Bt (σ.2.1 5 i) j = R i j) ∧ (∀ j, j < 12 → ∀ i, Bt (σ.2.1 7 j) i = R i j) ∧ (∀ a b, a < 12 → b < 12 → σ.2.1 9 (a * 12 + b) = nI (tS R a b)) ∧ (∀ a b, a < 12 → b < 12 → σ.2.1 11 (a * 12 + b) = nI (tJ R a b))
theorem tS_sym (R : Nat → Nat → Bool) (a b : Nat) : tS R a b = tS R b a := cnt_congr fun i _ => Bool.and_comm _ _
theorem tJ_sym (R : Nat → Nat → Bool) (a b : Nat) : tJ R a b = tJ R b a := cnt_congr fun i _ => Bool.and_comm _ _
theorem beq_dec (a b : Nat) : (a == b) = decide (a = b) := by
  by_cases h : a = b <;> simp [h]
theorem va_up_if {α : Type} (f : Nat → α) (k : Nat) (v : α) (j : Nat) : va_up f k v j = if j = k then v else f j := rfl
theorem Sh_add {σ : az_S} {R : Nat → Nat → Bool} (h : Sh σ R) {p c : Nat} (hp : p < 12) (hc : c < 12) (hr : R p c = false) : Sh (x_X3_addCiting σ (nI p) (nI c)) (rAdd R p c) ∧ Fr [5, 7, 9, 11] σ (x_X3_addCiting σ (nI p) (nI c)) := by
  obtain ⟨h1, h2, h3, h4⟩ := h
  have hrr : ∀ i j, i < 12 → rr σ i j = R i j := fun i j hi => h1 i hi j
  obtain ⟨g9, g11, e, k9, k11⟩ := cc_is σ hp hc 1 ((hrr p c hp).trans hr) (fun a b ha hb => by rw [h3 a b ha hb, h3 b a hb ha, tS_sym]) (fun a b ha hb => by rw [h4 a b ha hb, h4 b a hb ha, tJ_sym])
  have e2 : x_X3_addCiting σ (nI p) (nI c) = sG (sG (sG (sG σ 9 g9) 11 g11) 5 (va_up (σ.2.1 5) p (σ.2.1 5 p ||| bit c))) 7 (va_up (σ.2.1 7) c (σ.2.1 7 c ||| bit p)) := by
    unfold x_X3_addCiting
    show x_X2_set_6 (x_X2_set_4 (x_X3_countCiting σ (nI p) (nI c) 1) (nI p) (x_X2_at_4 (x_X3_countCiting σ (nI p) (nI c) 1) (nI p) ||| x_X5_setOf (x_X3_countCiting σ (nI p) (nI c) 1) (nI c))) (nI c)
      (x_X2_at_6 (x_X2_set_4 (x_X3_countCiting σ (nI p) (nI c) 1) (nI p) (x_X2_at_4 (x_X3_countCiting σ (nI p) (nI c) 1) (nI p) ||| x_X5_setOf (x_X3_countCiting σ (nI p) (nI c) 1) (nI c))) (nI c) |||
       x_X5_setOf (x_X2_set_4 (x_X3_countCiting σ (nI p) (nI c) 1) (nI p) (x_X2_at_4 (x_X3_countCiting σ (nI p) (nI c) 1) (nI p) ||| x_X5_setOf (x_X3_countCiting σ (nI p) (nI c) 1) (nI c))) (nI p)) = _
    rw [e, at_r4 _ hp, setOf_at _ hc, set_r4 _ _ hp, at_r6 _ hc, setOf_at _ hp, set_r6 _ _ hc]
    rfl
  rw [e2]
  refine ⟨⟨?_, ?_, ?_, ?_⟩, ?_⟩
  · intro i hi j
    show Bt (va_up (σ.2.1 5) p (σ.2.1 5 p ||| bit c) i) j = _
    rw [va_up_if]
    unfold rAdd
    by_cases e : i = p
    · subst e
      rw [if_pos rfl, Bt_or, h1 i hi j, Bt_bit hc]
      simp [beq_dec]
    · have : (i == p) = false := by simp [e]
      rw [if_neg e, h1 i hi j, this]
      simp
  · intro j hj i
    show Bt (va_up (σ.2.1 7) c (σ.2.1 7 c ||| bit p) j) i = _
    rw [va_up_if]
    unfold rAdd
    by_cases e : j = c
    · subst e
      rw [if_pos rfl, Bt_or, h2 j hj i, Bt_bit hp]
      simp [beq_dec]
    · have : (j == c) = false := by simp [e]
      rw [if_neg e, h2 j hj i, this]
      simp
  · intro a b ha hb
    show g9 (a * 12 + b) = _
    rw [k9 a b ha hb, h3 a b ha hb, tS_add hc hr, show dS (rr σ) p c a b = dS R p c a b from by unfold dS; rw [hrr b c hb, hrr a c ha], ← nI_add]
    split <;> rfl
  · intro a b ha hb
    show g11 (a * 12 + b) = _
    rw [k11 a b ha hb, h4 a b ha hb, tJ_add hp hr, show dJ (rr σ) p c a b = dJ R p c a b from by unfold dJ; rw [hrr p a hp, hrr p b hp], ← nI_add]
    split <;> rfl
  · exact (((Fr.up _ (by decide)).trans (Fr.up _ (by decide))).trans (Fr.up _ (by decide))).trans (Fr.up _ (by decide))
def rDel (R : Nat → Nat → Bool) (p c : Nat) : Nat → Nat → Bool := fun i j => R i j && !(i == p && j == c)
theorem rAdd_del {R : Nat → Nat → Bool} {p c : Nat} (h : R p c = true) : rAdd (rDel R p c) p c = R := by
  funext i j
  unfold rAdd rDel
  by_cases e : i = p ∧ j = c
  · obtain ⟨rfl, rfl⟩ := e
    simp [h]
  · have : (i == p && j == c) = false := by
      cases h1 : (i == p) <;> cases h2 : (j == c) <;> simp_all
    rw [this]; simp
theorem rDel_no {R : Nat → Nat → Bool} {p c : Nat} (h : R p c = false) : rDel R p c = R := by
  funext i j
  unfold rDel
  by_cases e : i = p ∧ j = c
  · obtain ⟨rfl, rfl⟩ := e
    simp [h]
  · have : (i == p && j == c) = false := by
      cases h1 : (i == p) <;> cases h2 : (j == c) <;> simp_all
    rw [this]; simp
theorem Sh_drop {σ : az_S} {R : Nat → Nat → Bool} (h : Sh σ R) {p c : Nat} (hp : p < 12) (hc : c < 12) (hr : R p c = true) : Sh (x_X3_dropCiting σ (nI p) (nI c)) (rDel R p c) ∧ Fr [5, 7, 9, 11] σ (x_X3_dropCiting σ (nI p) (nI c)) := by
  obtain ⟨h1, h2, h3, h4⟩ := h
  have hz : rDel R p c p c = false := by unfold rDel; simp
  have e2 : x_X3_dropCiting σ (nI p) (nI c) = x_X3_countCiting (sG (sG σ 5 (va_up (σ.2.1 5) p (σ.2.1 5 p &&& (bit c ^^^ (-1))))) 7 (va_up (σ.2.1 7) c (σ.2.1 7 c &&& (bit p ^^^ (-1))))) (nI p) (nI c) (-1) := by
    unfold x_X3_dropCiting
    show x_X3_countCiting (x_X2_set_6 (x_X2_set_4 σ (nI p) (x_X2_at_4 σ (nI p) &&& (x_X5_setOf σ (nI c) ^^^ (-1)))) (nI c)
      (x_X2_at_6 (x_X2_set_4 σ (nI p) (x_X2_at_4 σ (nI p) &&& (x_X5_setOf σ (nI c) ^^^ (-1)))) (nI c) &&& (x_X5_setOf (x_X2_set_4 σ (nI p) (x_X2_at_4 σ (nI p) &&& (x_X5_setOf σ (nI c) ^^^ (-1)))) (nI p) ^^^ (-1)))) (nI p) (nI c) (-1) = _
    rw [at_r4 _ hp, setOf_at _ hc, set_r4 _ _ hp, at_r6 _ hc, setOf_at _ hp, set_r6 _ _ hc]
    rfl
  have hb32 : ∀ (m : Int32) (j : Nat), Bt m j = true → j < 32 := fun m j h => by
    by_cases e : j < 32
    · exact e
    · rw [Bt_big (by omega)] at h; cases h
  generalize hσ1 : (sG (sG σ 5 (va_up (σ.2.1 5) p (σ.2.1 5 p &&& (bit c ^^^ (-1))))) 7 (va_up (σ.2.1 7) c (σ.2.1 7 c &&& (bit p ^^^ (-1))))) = σ1 at e2
  have q1 : ∀ i, i < 12 → ∀ j, Bt (σ1.2.1 5 i) j = rDel R p c i j := by
    intro i hi j
    rw [← hσ1]
    show Bt (va_up (σ.2.1 5) p (σ.2.1 5 p &&& (bit c ^^^ (-1))) i) j = _
    rw [va_up_if]
    unfold rDel
    by_cases e : i = p
    · subst e
      rw [if_pos rfl, Bt_and, h1 i hi j, Bt_not, Bt_bit hc]
      cases hq : R i j
      · rfl
      · have : j < 32 := hb32 _ j ((h1 i hi j).trans hq)
        simp [this, beq_dec]
    · have : (i == p) = false := by simp [e]
      rw [if_neg e, h1 i hi j, this]
      simp
  have q2 : ∀ j, j < 12 → ∀ i, Bt (σ1.2.1 7 j) i = rDel R p c i j := by
    intro j hj i
    rw [← hσ1]
    show Bt (va_up (σ.2.1 7) c (σ.2.1 7 c &&& (bit p ^^^ (-1))) j) i = _
    rw [va_up_if]
    unfold rDel
    by_cases e : j = c
    · subst e
      rw [if_pos rfl, Bt_and, h2 j hj i, Bt_not, Bt_bit hp]
      cases hq : R i j
      · rfl
      · have : i < 32 := hb32 _ i ((h2 j hj i).trans hq)
        simp [this, beq_dec]
    · have : (j == c) = false := by simp [e]
      rw [if_neg e, h2 j hj i, this]
      simp
  have q3 : σ1.2.1 9 = σ.2.1 9 := by rw [← hσ1]; rfl
  have q4 : σ1.2.1 11 = σ.2.1 11 := by rw [← hσ1]; rfl
  have qF : Fr [5, 7, 9, 11] σ σ1 := by rw [← hσ1]; exact (Fr.up _ (by decide)).trans (Fr.up _ (by decide))
  have hrr : ∀ i j, i < 12 → rr σ1 i j = rDel R p c i j := fun i j hi => q1 i hi j
  obtain ⟨g9, g11, e, k9, k11⟩ := cc_is σ1 hp hc (-1) ((hrr p c hp).trans hz) (fun a b ha hb => by rw [q3, h3 a b ha hb, h3 b a hb ha, tS_sym]) (fun a b ha hb => by rw [q4, h4 a b ha hb, h4 b a hb ha, tJ_sym])
  rw [e2, e]
  have hm1 : ∀ k : Nat, nI (k + 1) + (-1) = nI k := fun k => by
    rw [← Int32.sub_eq_add_neg]
    exact nI_pred k
  refine ⟨⟨q1, q2, ?_, ?_⟩, ?_⟩
  · intro a b ha hb
    show g9 (a * 12 + b) = _
    rw [k9 a b ha hb, q3, h3 a b ha hb, show tS R a b = tS (rAdd (rDel R p c) p c) a b by rw [rAdd_del hr], tS_add hc hz, show dS (rr σ1) p c a b = dS (rDel R p c) p c a b from by unfold dS; rw [hrr b c hb, hrr a c ha]]
    split
    · exact hm1 _
    · exact Int32.add_zero _
  · intro a b ha hb
    show g11 (a * 12 + b) = _
    rw [k11 a b ha hb, q4, h4 a b ha hb, show tJ R a b = tJ (rAdd (rDel R p c) p c) a b by rw [rAdd_del hr], tJ_add hp hz, show dJ (rr σ1) p c a b = dJ (rDel R p c) p c a b from by unfold dJ; rw [hrr p a hp, hrr p b hp]]
    split
    · exact hm1 _
    · exact Int32.add_zero _
  · exact (qF.trans (Fr.up _ (by decide))).trans (Fr.up _ (by decide))
/-- put: all citings of the new paper -/
theorem put_loop {σ : az_S} {R : Nat → Nat → Bool} (h : Sh σ R) {n : Nat} (hn : n < 12) (y rf : Int32) (hR : ∀ j, R n j = false) : ∀ m, m ≤ 12 →
    Sh (az_it (fun ι s => b_X3_put_45 y rf (nI n) ι s) m 0 σ) (fun i j => R i j || (i == n && (decide (j < m) && Bt rf j))) ∧ Fr [5, 7, 9, 11] σ (az_it (fun ι s => b_X3_put_45 y rf (nI n) ι s) m 0 σ) := by
  intro m
  induction m with
  | zero =>
    intro _
    have : (fun i j => R i j || (i == n && (decide (j < 0) && Bt rf j))) = R := by funext i j; simp
    rw [this]
    exact ⟨h, Fr.rfl⟩
  | succ m ih =>
    intro hm
    obtain ⟨i1, i2⟩ := ih (by omega)
    rw [az_it_snoc, Nat.zero_add]
    generalize az_it (fun ι s => b_X3_put_45 y rf (nI n) ι s) m 0 σ = τ at i1 i2 ⊢
    have e : b_X3_put_45 y rf (nI n) m τ = if Bt rf m = true then x_X3_addCiting τ (nI n) (nI m) else τ := by
      unfold b_X3_put_45
      show (if x_X5_holds τ rf (nI m) = 0 then τ else x_X3_addCiting τ (nI n) (nI m)) = _
      rw [holds_at τ rf (by omega : m < 12)]
      cases Bt rf m <;> rfl
    show Sh (b_X3_put_45 y rf (nI n) m τ) _ ∧ Fr _ σ (b_X3_put_45 y rf (nI n) m τ)
    rw [e]
    cases hb : Bt rf m with
    | false =>
      have : (fun i j => R i j || (i == n && (decide (j < m + 1) && Bt rf j))) = (fun i j => R i j || (i == n && (decide (j < m) && Bt rf j))) := by
        funext i j
        by_cases e : j = m
        · subst e; rw [hb]; simp
        · have : decide (j < m + 1) = decide (j < m) := by
            by_cases h1 : j < m
            · have : j < m + 1 := by omega
              simp [h1, this]
            · have : ¬ j < m + 1 := by omega
              simp [h1, this]
          rw [this]
      rw [this]
      exact ⟨i1, i2⟩
    | true =>
      have hz : (fun i j => R i j || (i == n && (decide (j < m) && Bt rf j))) n m = false := by simp [hR]
      have k := Sh_add i1 hn (by omega : m < 12) hz
      have : rAdd (fun i j => R i j || (i == n && (decide (j < m) && Bt rf j))) n m = (fun i j => R i j || (i == n && (decide (j < m + 1) && Bt rf j))) := by
        funext i j
        unfold rAdd
        by_cases e : j = m
        · subst e
          simp [hb]
        · have h1 : (j == m) = false := by simp [e]
          have : decide (j < m + 1) = decide (j < m) := by
            by_cases h1 : j < m
            · have : j < m + 1 := by omega
              simp [h1, this]
            · have : ¬ j < m + 1 := by omega
              simp [h1, this]
          rw [this, h1]
          simp
      rw [← this]
      exact ⟨k.1, i2.trans k.2⟩
/-- take: all citings of the paper, and all by which it is cited -/
theorem take_loop {σ : az_S} {R : Nat → Nat → Bool} (h : Sh σ R) {p : Nat} (hp : p < 12) : ∀ m, m ≤ 12 →
    Sh (az_it (fun ι s => b_X3_take_2 (nI p) ι s) m 0 σ) (fun i j => R i j && (!(i == p && decide (j < m)) && !(j == p && decide (i < m)))) ∧ Fr [5, 7, 9, 11] σ (az_it (fun ι s => b_X3_take_2 (nI p) ι s) m 0 σ) := by
  intro m
  induction m with
  | zero =>
    intro _
    have : (fun i j => R i j && (!(i == p && decide (j < 0)) && !(j == p && decide (i < 0)))) = R := by funext i j; simp
    rw [this]
    exact ⟨h, Fr.rfl⟩
  | succ m ih =>
    intro hm
    obtain ⟨i1, i2⟩ := ih (by omega)
    rw [az_it_snoc, Nat.zero_add]
    generalize az_it (fun ι s => b_X3_take_2 (nI p) ι s) m 0 σ = τ at i1 i2 ⊢
    generalize hQ : (fun i j => R i j && (!(i == p && decide (j < m)) && !(j == p && decide (i < m)))) = Q at i1
    have hm12 : m < 12 := by omega
    have e : b_X3_take_2 (nI p) m τ = (fun υ => if Bt (υ.2.1 5 m) p = true then x_X3_dropCiting υ (nI m) (nI p) else υ) (if Bt (τ.2.1 5 p) m = true then x_X3_dropCiting τ (nI p) (nI m) else τ) := by
      unfold b_X3_take_2
      show (if x_X3_cites τ (nI p) (nI m) = 0 then (if x_X3_cites τ (nI m) (nI p) = 0 then τ else x_X3_dropCiting τ (nI m) (nI p)) else (if x_X3_cites (x_X3_dropCiting τ (nI p) (nI m)) (nI m) (nI p) = 0 then x_X3_dropCiting τ (nI p) (nI m) else x_X3_dropCiting (x_X3_dropCiting τ (nI p) (nI m)) (nI m) (nI p))) = _
      rw [cites_at τ hp hm12, cites_at τ hm12 hp, cites_at (x_X3_dropCiting τ (nI p) (nI m)) hm12 hp]
      cases h1 : Bt (τ.2.1 5 p) m
      · cases h2 : Bt (τ.2.1 5 m) p <;> simp [h2]
      · cases h2 : Bt ((x_X3_dropCiting τ (nI p) (nI m)).2.1 5 m) p <;> simp [h2]
    show Sh (b_X3_take_2 (nI p) m τ) _ ∧ Fr _ σ (b_X3_take_2 (nI p) m τ)
    rw [e]
    have s1 : Sh (if Bt (τ.2.1 5 p) m = true then x_X3_dropCiting τ (nI p) (nI m) else τ) (rDel Q p m) ∧ Fr [5, 7, 9, 11] τ (if Bt (τ.2.1 5 p) m = true then x_X3_dropCiting τ (nI p) (nI m) else τ) := by
      rw [i1.1 p hp m]
      cases hb : Q p m
      · rw [rDel_no hb]; exact ⟨i1, Fr.rfl⟩
      · exact Sh_drop i1 hp hm12 hb
    generalize (if Bt (τ.2.1 5 p) m = true then x_X3_dropCiting τ (nI p) (nI m) else τ) = υ at s1
    have s2 : Sh (if Bt (υ.2.1 5 m) p = true then x_X3_dropCiting υ (nI m) (nI p) else υ) (rDel (rDel Q p m) m p) ∧ Fr [5, 7, 9, 11] υ (if Bt (υ.2.1 5 m) p = true then x_X3_dropCiting υ (nI m) (nI p) else υ) := by
      rw [s1.1.1 m hm12 p]
      cases hb : rDel Q p m m p
      · rw [rDel_no hb]; exact ⟨s1.1, Fr.rfl⟩
      · exact Sh_drop s1.1 hm12 hp hb
    have eR : rDel (rDel Q p m) m p = (fun i j => R i j && (!(i == p && decide (j < m + 1)) && !(j == p && decide (i < m + 1)))) := by
      rw [← hQ]
      funext i j
      unfold rDel
      have hl : ∀ x, decide (x < m + 1) = (decide (x < m) || x == m) := fun x => by
        by_cases h1 : x < m
        · have : x < m + 1 := by omega
          simp [h1, this]
        · by_cases h2 : x = m
          · subst h2; simp
          · have : ¬ x < m + 1 := by omega
            simp [h1, h2, this]
      dsimp only
      rw [hl i, hl j]
      cases R i j <;> cases (i == p) <;> cases (j == p) <;> cases (i == m) <;> cases (j == m) <;> cases decide (i < m) <;> cases decide (j < m) <;> rfl
    rw [← eR]
    exact ⟨s2.1, (i2.trans s1.2).trans s2.2⟩
end AZB4
