/-! fields: joined by the class, joined by the model, to the end -/
section AZC3
variable {σ : az_S} {n : Nat} {T : Nat → Bool} {Y : Nat → Int32} {R : Nat → Nat → Bool} {F : Nat → Nat → Bool}
theorem jstep (σ : az_S) (g14 g24 : Nat → Int32) {lo hi i : Nat} (hl : lo < 12) (hh : hi < 12) (hi' : i < 12) : b_X0_join_33 (nI lo) (nI hi) i (sG (sG σ 14 g14) 24 g24) =
    sG (sG σ 14 (if g14 i = nI hi then va_up g14 i (nI lo) else g14)) 24 (if (Bt (σ.1 3) i && !(i == lo)) = true then tset g24 lo i (g24 (lo * 12 + i) + g24 (hi * 12 + i)) else g24) := by
  have key : ∀ h14 : Nat → Int32, (if x_X0_isGroup (sG (sG σ 14 h14) 24 g24) (nI i) = 0 then sG (sG σ 14 h14) 24 g24 else if nI i = nI lo then sG (sG σ 14 h14) 24 g24 else x_X4_add_23 (sG (sG σ 14 h14) 24 g24) (nI lo) (nI i) (x_X4_at_23 (sG (sG σ 14 h14) 24 g24) (nI hi) (nI i))) =
      sG (sG σ 14 h14) 24 (if (Bt (σ.1 3) i && !(i == lo)) = true then tset g24 lo i (g24 (lo * 12 + i) + g24 (hi * 12 + i)) else g24) := by
    intro h14
    have e1 : x_X0_isGroup (sG (sG σ 14 h14) 24 g24) (nI i) = if Bt (σ.1 3) i = true then 1 else 0 := holds_at (sG (sG σ 14 h14) 24 g24) (σ.1 3) hi'
    rw [e1, at_t23 _ hh hi', add_t23 _ _ hl hi', sG_at, sG_sG]
    cases Bt (σ.1 3) i with
    | false => rfl
    | true =>
      rw [if_neg (by decide)]
      by_cases e : i = lo
      · subst e
        rw [if_pos rfl]
        simp
      · have e3 : (i == lo) = false := by simp [e]
        rw [if_neg (fun z => e ((nI_eq (by omega) (by omega)).mp z)), e3, if_pos (by decide)]
  have hbd : b_X0_join_33 (nI lo) (nI hi) i (sG (sG σ 14 g14) 24 g24) = if x_X2_at_13 (sG (sG σ 14 g14) 24 g24) (nI i) = nI hi then
      (if x_X0_isGroup (x_X2_set_13 (sG (sG σ 14 g14) 24 g24) (nI i) (nI lo)) (nI i) = 0 then x_X2_set_13 (sG (sG σ 14 g14) 24 g24) (nI i) (nI lo) else if nI i = nI lo then x_X2_set_13 (sG (sG σ 14 g14) 24 g24) (nI i) (nI lo) else x_X4_add_23 (x_X2_set_13 (sG (sG σ 14 g14) 24 g24) (nI i) (nI lo)) (nI lo) (nI i) (x_X4_at_23 (x_X2_set_13 (sG (sG σ 14 g14) 24 g24) (nI i) (nI lo)) (nI hi) (nI i)))
      else (if x_X0_isGroup (sG (sG σ 14 g14) 24 g24) (nI i) = 0 then sG (sG σ 14 g14) 24 g24 else if nI i = nI lo then sG (sG σ 14 g14) 24 g24 else x_X4_add_23 (sG (sG σ 14 g14) 24 g24) (nI lo) (nI i) (x_X4_at_23 (sG (sG σ 14 g14) 24 g24) (nI hi) (nI i))) := rfl
  have e14 : (sG (sG σ 14 g14) 24 g24).2.1 14 = g14 := rfl
  have eset : x_X2_set_13 (sG (sG σ 14 g14) 24 g24) (nI i) (nI lo) = sG (sG σ 14 (va_up g14 i (nI lo))) 24 g24 := by
    rw [set_r13 _ _ hi', e14, sG_comm _ (by decide : (24 : Nat) ≠ 14), sG_sG]
  rw [hbd, at_r13 _ hi', e14, eset, key, key]
  by_cases e : g14 i = nI hi
  · rw [if_pos e, if_pos e]
  · rw [if_neg e, if_neg e]
theorem jloop (σ : az_S) {lo hi : Nat} (hl : lo < 12) (hh : hi < 12) (hne : lo ≠ hi) (hG : Bt (σ.1 3) hi = false) : ∀ m, m ≤ 12 → ∃ g14 g24, az_it (fun ι s => b_X0_join_33 (nI lo) (nI hi) ι s) m 0 σ = sG (sG σ 14 g14) 24 g24 ∧
    (∀ p, p < 12 → g14 p = if p < m ∧ σ.2.1 14 p = nI hi then nI lo else σ.2.1 14 p) ∧
    (∀ a b, a < 12 → b < 12 → g24 (a * 12 + b) = if a = lo ∧ b < m ∧ (Bt (σ.1 3) b && !(b == lo)) = true then σ.2.1 24 (lo * 12 + b) + σ.2.1 24 (hi * 12 + b) else if b = lo ∧ a < m ∧ (Bt (σ.1 3) a && !(a == lo)) = true then σ.2.1 24 (lo * 12 + a) + σ.2.1 24 (hi * 12 + a) else σ.2.1 24 (a * 12 + b)) := by
  intro m
  induction m with
  | zero =>
    intro _
    refine ⟨σ.2.1 14, σ.2.1 24, ?_, fun p _ => ?_, fun a b _ _ => ?_⟩
    · rw [sG_self, sG_self]; rfl
    · rw [if_neg (by omega)]
    · rw [if_neg (by omega), if_neg (by omega)]
  | succ m ih =>
    intro hm
    obtain ⟨g14, g24, e, h14, h24⟩ := ih (by omega)
    have hm12 : m < 12 := by omega
    refine ⟨if g14 m = nI hi then va_up g14 m (nI lo) else g14, if (Bt (σ.1 3) m && !(m == lo)) = true then tset g24 lo m (g24 (lo * 12 + m) + g24 (hi * 12 + m)) else g24, ?_, fun p hp => ?_, fun a b ha hb => ?_⟩
    · rw [az_it_snoc, e, Nat.zero_add]
      exact jstep σ g14 g24 hl hh hm12
    · have hm14 : g14 m = σ.2.1 14 m := by rw [h14 m hm12, if_neg (by omega)]
      rw [hm14]
      by_cases hq : σ.2.1 14 m = nI hi
      · rw [if_pos hq, va_up_if]
        by_cases ep : p = m
        · subst ep
          rw [if_pos rfl, if_pos ⟨by omega, hq⟩]
        · rw [if_neg ep, h14 p hp]
          by_cases e2 : p < m ∧ σ.2.1 14 p = nI hi
          · rw [if_pos e2, if_pos ⟨by omega, e2.2⟩]
          · rw [if_neg e2, if_neg (fun z => e2 ⟨by omega, z.2⟩)]
      · rw [if_neg hq, h14 p hp]
        by_cases e2 : p < m ∧ σ.2.1 14 p = nI hi
        · rw [if_pos e2, if_pos ⟨by omega, e2.2⟩]
        · rw [if_neg e2, if_neg (fun z => e2 ⟨by have : p ≠ m := fun y => hq (by rw [← y]; exact z.2); omega, z.2⟩)]
    · have c0 : ∀ x, x ≠ m → ((x < m + 1) ↔ (x < m)) := fun x hx => by omega
      by_cases hq : (Bt (σ.1 3) m && !(m == lo)) = true
      · have hml : m ≠ lo := by
          rw [Bool.and_eq_true, Bool.not_eq_true', beq_eq_false_iff_ne] at hq
          exact hq.2
        have hmh : m ≠ hi := fun z => by rw [z, hG] at hq; cases hq
        have v1 : g24 (lo * 12 + m) = σ.2.1 24 (lo * 12 + m) := by rw [h24 lo m hl hm12, if_neg (by omega), if_neg (by omega)]
        have v2 : g24 (hi * 12 + m) = σ.2.1 24 (hi * 12 + m) := by rw [h24 hi m hh hm12, if_neg (by omega), if_neg (by omega)]
        rw [if_pos hq, tset_at g24 _ hl hm12 ha hb, v1, v2]
        by_cases e1 : a = lo ∧ b = m
        · obtain ⟨rfl, rfl⟩ := e1
          rw [if_pos (Or.inl ⟨rfl, rfl⟩), if_pos ⟨rfl, by omega, hq⟩]
        · by_cases e2 : a = m ∧ b = lo
          · obtain ⟨rfl, rfl⟩ := e2
            rw [if_pos (Or.inr ⟨rfl, rfl⟩), if_neg (by omega), if_pos ⟨rfl, by omega, hq⟩]
          · rw [if_neg (by omega), h24 a b ha hb]
            have k1 : (a = lo ∧ b < m + 1 ∧ (Bt (σ.1 3) b && !(b == lo)) = true) ↔ (a = lo ∧ b < m ∧ (Bt (σ.1 3) b && !(b == lo)) = true) := by
              constructor
              · rintro ⟨q1, q2, q3⟩; exact ⟨q1, by omega, q3⟩
              · rintro ⟨q1, q2, q3⟩; exact ⟨q1, by omega, q3⟩
            have k2 : (b = lo ∧ a < m + 1 ∧ (Bt (σ.1 3) a && !(a == lo)) = true) ↔ (b = lo ∧ a < m ∧ (Bt (σ.1 3) a && !(a == lo)) = true) := by
              constructor
              · rintro ⟨q1, q2, q3⟩; exact ⟨q1, by omega, q3⟩
              · rintro ⟨q1, q2, q3⟩; exact ⟨q1, by omega, q3⟩
            simp only [k1, k2]
      · rw [if_neg hq, h24 a b ha hb]
        have k1 : (a = lo ∧ b < m + 1 ∧ (Bt (σ.1 3) b && !(b == lo)) = true) ↔ (a = lo ∧ b < m ∧ (Bt (σ.1 3) b && !(b == lo)) = true) := by
          constructor
          · rintro ⟨q1, q2, q3⟩; exact ⟨q1, by have : b ≠ m := fun z => hq (z ▸ q3); omega, q3⟩
          · rintro ⟨q1, q2, q3⟩; exact ⟨q1, by omega, q3⟩
        have k2 : (b = lo ∧ a < m + 1 ∧ (Bt (σ.1 3) a && !(a == lo)) = true) ↔ (b = lo ∧ a < m ∧ (Bt (σ.1 3) a && !(a == lo)) = true) := by
          constructor
          · rintro ⟨q1, q2, q3⟩; exact ⟨q1, by have : a ≠ m := fun z => hq (z ▸ q3); omega, q3⟩
          · rintro ⟨q1, q2, q3⟩; exact ⟨q1, by omega, q3⟩
        simp only [k1, k2]
theorem own_lt (hPt : Pt T F) {i p : Nat} (hp : p < 12) (h : F i p = true) : i < 12 := by have := (hPt.1 i p h).2.1; omega
theorem join_is (h : RJ σ T R F) (hP : RP σ R) (hC : RC σ n T Y R) (hPt : Pt T F) {lo hi : Nat} (hlt : lo < hi) (hh : hi < 12) (h1 : F lo lo = true) (h2 : F hi hi = true) :
    RJ (x_X0_join σ (nI lo) (nI hi)) T R (jF F lo hi) ∧ RP (x_X0_join σ (nI lo) (nI hi)) R ∧ RC (x_X0_join σ (nI lo) (nI hi)) n T Y R ∧ Kc σ (x_X0_join σ (nI lo) (nI hi)) := by
  have hl : lo < 12 := by omega
  have hne : lo ≠ hi := by omega
  obtain ⟨q1, q2, q3, q4, q5⟩ := h
  have e : x_X0_join σ (nI lo) (nI hi) = az_it (fun ι s => b_X0_join_33 (nI lo) (nI hi) ι s) 12 0 (sG (sF σ 3 (σ.1 3 &&& (bit hi ^^^ (-1)))) 20 (va_up (σ.2.1 20) lo (σ.2.1 20 lo + σ.2.1 20 hi))) := by
    unfold x_X0_join
    show az_it (fun ι s => b_X0_join_33 (nI lo) (nI hi) ι s) 12 0 (x_X2_set_19 (sF σ 3 (σ.1 3 &&& (x_X5_setOf σ (nI hi) ^^^ (-1)))) (nI lo) (x_X2_at_19 (sF σ 3 (σ.1 3 &&& (x_X5_setOf σ (nI hi) ^^^ (-1)))) (nI lo) + x_X2_at_19 (sF σ 3 (σ.1 3 &&& (x_X5_setOf σ (nI hi) ^^^ (-1)))) (nI hi))) = _
    rw [setOf_at _ hh, at_r19 _ hl, at_r19 _ hh, set_r19 _ _ hl]
    rfl
  have hm3 : ∀ i, Bt (σ.1 3 &&& (bit hi ^^^ (-1))) i = (F i i && !(i == hi)) := by
    intro i
    rw [Bt_and, q1 i, Bt_not, dec_bit hh]
    cases hf : F i i with
    | false => rfl
    | true =>
      have : i < 32 := by
        by_cases z : i < 32
        · exact z
        · have := q1 i
          rw [Bt_big (by omega), hf] at this; cases this
      simp [this]
  generalize hσ1 : sG (sF σ 3 (σ.1 3 &&& (bit hi ^^^ (-1)))) 20 (va_up (σ.2.1 20) lo (σ.2.1 20 lo + σ.2.1 20 hi)) = σ1 at e
  have f3 : σ1.1 3 = σ.1 3 &&& (bit hi ^^^ (-1)) := by rw [← hσ1]; rfl
  have f14 : σ1.2.1 14 = σ.2.1 14 := by rw [← hσ1]; rfl
  have f24 : σ1.2.1 24 = σ.2.1 24 := by rw [← hσ1]; rfl
  have f20 : σ1.2.1 20 = va_up (σ.2.1 20) lo (σ.2.1 20 lo + σ.2.1 20 hi) := by rw [← hσ1]; rfl
  have fs : ∀ k, k ≠ 3 → σ1.1 k = σ.1 k := fun k hk => by rw [← hσ1]; exact sF_ne σ _ hk
  have fr : ∀ k, k ≠ 20 → σ1.2.1 k = σ.2.1 k := fun k hk => by rw [← hσ1]; exact sG_ne _ _ hk
  have fK : Kc σ σ1 := by rw [← hσ1]; exact (Kc.f σ _ (by decide)).trans (Kc.g _ _ (by decide))
  have hGb : ∀ b, Bt (σ1.1 3) b = (F b b && !(b == hi)) := fun b => by rw [f3]; exact hm3 b
  obtain ⟨g14, g24, eL, k14, k24⟩ := jloop σ1 hl hh hne (by rw [hGb]; simp) 12 (Nat.le_refl _)
  rw [e, eL]
  have hnn : ∀ i j, i < 12 → j < 12 → i ≠ j → ¬ nI i = nI j := fun i j hi' hj' hij z => hij ((nI_eq (by omega) (by omega)).mp z)
  have hdis : ∀ i, i < 12 → (F lo i && F hi i) = false := fun i _ => by
    cases a : F lo i with
    | false => rfl
    | true =>
      cases b : F hi i with
      | false => rfl
      | true => exact absurd (hPt.2.1 lo hi i a b) hne
  refine ⟨⟨?_, ?_, ?_, ?_, ?_⟩, ⟨?_, ?_, ?_⟩, ?_, ?_⟩
  · intro i
    show Bt (σ1.1 3) i = _
    rw [hGb, jF_own F hne h1]
  · intro i p hp hf
    show g14 p = _
    rw [k14 p hp, f14]
    by_cases ei : i = lo
    · subst ei
      rw [jF_lo] at hf
      have hf : (F i p || F hi p) = true := hf
      rw [Bool.or_eq_true] at hf
      rcases hf with hf | hf
      · rw [q2 i p hp hf, if_neg (fun z => hnn i hi hl hh hne z.2)]
      · rw [q2 hi p hp hf, if_pos ⟨hp, rfl⟩]
    · by_cases ei2 : i = hi
      · subst ei2; rw [jF_hi F hne] at hf; cases hf
      · rw [jF_ne F ei ei2] at hf
        rw [q2 i p hp hf, if_neg (fun z => hnn i hi (own_lt hPt hp hf) hh ei2 z.2)]
  · intro p hp hT i hi' hf z
    have z : g14 p = nI i := z
    rw [k14 p hp, f14, if_neg (fun y => q3 p hp hT hi hh h2 y.2)] at z
    rw [jF_own F hne h1, Bool.and_eq_true] at hf
    exact q3 p hp hT i hi' hf.1 z
  · intro i hi' hf
    show σ1.2.1 20 i = _
    rw [f20, va_up_if]
    by_cases ei : i = lo
    · subst ei
      rw [if_pos rfl, q4 i hi' h1, q4 hi hh h2, nI_add, jF_lo, wS_or R T hdis]
    · rw [if_neg ei]
      by_cases ei2 : i = hi
      · subst ei2; rw [jF_hi F hne] at hf; cases hf
      · rw [jF_ne F ei ei2] at hf ⊢
        exact q4 i hi' hf
  · intro i j hi' hj' hij hfi hfj
    show g24 (i * 12 + j) = _
    rw [k24 i j hi' hj', f24]
    have own : ∀ x, jF F lo hi x x = true → x ≠ lo → x ≠ hi ∧ F x x = true ∧ jF F lo hi x = F x := by
      intro x hx hxl
      have hxh : x ≠ hi := fun z => by rw [z, jF_hi F hne] at hx; cases hx
      rw [jF_ne F hxl hxh] at hx
      exact ⟨hxh, hx, jF_ne F hxl hxh⟩
    have hgood : ∀ x, x ≠ lo → x ≠ hi → F x x = true → (Bt (σ1.1 3) x && !(x == lo)) = true := by
      intro x a b c
      rw [hGb, c]
      simp [a, b]
    by_cases ei : i = lo
    · subst ei
      obtain ⟨a, b, c⟩ := own j hfj (fun z => hij z.symm)
      rw [if_pos ⟨rfl, hj', hgood j (fun z => hij z.symm) a b⟩, q5 i j hl hj' hij h1 b, q5 hi j hh hj' (fun z => a z.symm) h2 b, nI_add, c, jF_lo, wS_or R (F j) hdis]
    · obtain ⟨a, b, c⟩ := own i hfi ei
      rw [if_neg (fun z => ei z.1)]
      by_cases ej : j = lo
      · subst ej
        rw [if_pos ⟨rfl, hi', hgood i ei a b⟩, q5 j i hl hi' (fun z => ei z.symm) h1 b, q5 hi i hh hi' (fun z => a z.symm) h2 b, nI_add, c, jF_lo, wS_sym R (F i), wS_or R (F i) hdis]
      · rw [if_neg (fun z => ej z.1)]
        obtain ⟨a', b', c'⟩ := own j hfj ej
        rw [c, c']
        exact q5 i j hi' hj' hij b b'
  · show σ1.1 4 = _
    rw [fs 4 (by decide)]; exact hP.1
  · intro a b ha hb
    show σ1.2.1 22 (a * 12 + b) = _
    rw [fr 22 (by decide)]; exact hP.2.1 a b ha hb
  · intro a ha
    show σ1.2.1 18 a = _
    rw [fr 18 (by decide)]; exact hP.2.2 a ha
  · refine hC.up (fun k hk => ?_) (fun k hk => ?_)
    · show σ1.1 k = _
      exact fs k (by omega)
    · rw [sG_ne _ _ (by omega), sG_ne _ _ (by omega)]
      exact fr k (by omega)
  · exact (fK.trans (Kc.g _ _ (by decide))).trans (Kc.g _ _ (by decide))
/-- one round, in the abstract -/
def stF (T : Nat → Bool) (R F : Nat → Nat → Bool) : Int32 × (Nat → Nat → Bool) := if (seek T R F).2 = 0 then (0, F) else (1, jF F (((seek T R F).2 - 1) / 12) (((seek T R F).2 - 1) % 12))
theorem seek_last (T : Nat → Bool) (R F : Nat → Nat → Bool) : ((seek T R F).2 = 0 ∧ (seek T R F).1 = 0) ∨ (0 < (seek T R F).1 ∧ (seek T R F).2 ≠ 0 ∧ ∃ lo hi, lo < hi ∧ hi < 12 ∧ F lo lo = true ∧ F hi hi = true ∧ ((seek T R F).2 - 1) / 12 = lo ∧ ((seek T R F).2 - 1) % 12 = hi ∧ (seek T R F).2 - 1 < 144) := by
  rcases seek_ok T R F 144 with h | ⟨h1, h2, h3, h4, h5, h6⟩
  · exact Or.inl h
  · exact Or.inr ⟨h1, fun z => by have h2 : 0 < (seek T R F).2 := h2; omega, _, _, h4, Nat.mod_lt _ (by decide), h5, h6, rfl, rfl, h3⟩
def JJ (σ : az_S) (n : Nat) (T : Nat → Bool) (Y : Nat → Int32) (R F : Nat → Nat → Bool) : Prop := RJ σ T R F ∧ RP σ R ∧ RC σ n T Y R ∧ Pt T F
theorem step5 (h : JJ σ n T Y R F) : ∃ τ, x_X0_joinGreatest σ = ((stF T R F).1, τ) ∧ JJ τ n T Y R (stF T R F).2 ∧ Kc σ τ := by
  obtain ⟨hJ, hP, hC, hPt⟩ := h
  have e : x_X0_joinGreatest σ = if (enc5 (seek T R F)).1 ≤ 0 then (0, σ) else (1, x_X0_join σ (enc5 (seek T R F)).2.1 (enc5 (seek T R F)).2.2) := by
    rw [← seek5_is hJ hP]
    rfl
  rw [e]
  unfold stF
  rcases seek_last T R F with ⟨h1, h2⟩ | ⟨h1, h2, lo, hi, h3, h4, h5, h6, h7, h8, h9⟩
  · have : (enc5 (seek T R F)).1 ≤ 0 := by show (seek T R F).1 ≤ 0; rw [h2]; exact Int32.le_refl _
    rw [if_pos this, if_pos h1]
    exact ⟨σ, rfl, ⟨hJ, hP, hC, hPt⟩, Kc.rfl⟩
  · have : ¬ (enc5 (seek T R F)).1 ≤ 0 := fun z => by
      have z : (seek T R F).1 ≤ 0 := z
      exact absurd h1 (Int32.not_lt.mpr z)
    rw [if_neg this, if_neg h2]
    have e1 : (enc5 (seek T R F)).2.1 = nI lo := by
      show (if (seek T R F).2 = 0 then -1 else nI (((seek T R F).2 - 1) / 12)) = _
      rw [if_neg h2, h7]
    have e2 : (enc5 (seek T R F)).2.2 = nI hi := by
      show (if (seek T R F).2 = 0 then -1 else nI (((seek T R F).2 - 1) % 12)) = _
      rw [if_neg h2, h8]
    rw [e1, e2, h7, h8]
    obtain ⟨a, b, c, d⟩ := join_is hJ hP hC hPt h3 h4 h5 h6
    exact ⟨_, rfl, ⟨a, b, c, Pt_join hPt h3 h5⟩, d⟩
/-- rounds, in the abstract: the fields of the papers that are there -/
def wsF (T : Nat → Bool) (R : Nat → Nat → Bool) (m : Nat) (s : Int32 × (Nat → Nat → Bool)) : Int32 × (Nat → Nat → Bool) := az_ws (fun s => decide (s.1 = 0)) (fun _ s => stF T R s.2) m 0 s
theorem az_ws_ix {S : Type} {st : S → Bool} {f : S → S} : ∀ (m i j : Nat) (s : S), az_ws st (fun _ s => f s) m i s = az_ws st (fun _ s => f s) m j s
  | 0, _, _, _ => rfl
  | m + 1, i, j, s => by
    unfold az_ws
    cases st s with
    | true => rfl
    | false => exact az_ws_ix m _ _ _
theorem az_ws_snoc {S : Type} {st : S → Bool} {f : S → S} : ∀ (m i : Nat) (s : S), az_ws st (fun _ s => f s) (m + 1) i s = if st (az_ws st (fun _ s => f s) m i s) = true then az_ws st (fun _ s => f s) m i s else f (az_ws st (fun _ s => f s) m i s)
  | 0, i, s => by
    show (match st s with | true => s | false => f s) = if st s = true then s else f s
    cases st s <;> rfl
  | m + 1, i, s => by
    cases h : st s with
    | true =>
      rw [az_ws_st h, az_ws_st h, if_pos h]
    | false =>
      rw [az_ws_go (n := m + 1) h, az_ws_go (n := m) h]
      exact az_ws_snoc m (i + 1) (f s)
def fixF (T : Nat → Bool) (R : Nat → Nat → Bool) : Nat → Nat → Bool := (wsF T R 12 (1, fF0 T)).2
theorem ws_inv (T : Nat → Bool) (R : Nat → Nat → Bool) : ∀ m, Pt T (wsF T R m (1, fF0 T)).2 ∧ (¬ (wsF T R m (1, fF0 T)).1 = 0 → cF (wsF T R m (1, fF0 T)).2 + m ≤ 12 ∧ (0 < m → 1 ≤ cF (wsF T R m (1, fF0 T)).2)) := by
  intro m
  induction m with
  | zero =>
    refine ⟨Pt0 T, fun _ => ⟨?_, fun h => absurd h (Nat.lt_irrefl 0)⟩⟩
    show cF (fF0 T) ≤ 12
    exact cnt_le _ 12
  | succ m ih =>
    unfold wsF
    rw [az_ws_snoc]
    show Pt T (if decide ((wsF T R m (1, fF0 T)).1 = 0) = true then wsF T R m (1, fF0 T) else stF T R (wsF T R m (1, fF0 T)).2).2 ∧ _
    generalize hs : wsF T R m (1, fF0 T) = s at ih
    unfold wsF at hs
    rw [hs]
    by_cases h0 : s.1 = 0
    · have : decide (s.1 = 0) = true := by simp [h0]
      rw [if_pos this]
      exact ⟨ih.1, fun z => absurd h0 z⟩
    · have : ¬ decide (s.1 = 0) = true := by simp [h0]
      rw [if_neg this]
      unfold stF
      rcases seek_last T R s.2 with ⟨h1, h2⟩ | ⟨h1, h2, lo, hi, h3, h4, h5, h6, h7, h8, h9⟩
      · rw [if_pos h1]
        exact ⟨ih.1, fun z => absurd rfl z⟩
      · rw [if_neg h2, h7, h8]
        obtain ⟨c1, c2⟩ := cF_join h3 h4 h5 h6
        obtain ⟨i1, i2⟩ := ih.2 h0
        exact ⟨Pt_join ih.1 h3 h5, fun _ => ⟨by show cF (jF s.2 lo hi) + (m + 1) ≤ 12; omega, fun _ => c2⟩⟩
theorem ws_done (T : Nat → Bool) (R : Nat → Nat → Bool) : (wsF T R 12 (1, fF0 T)).1 = 0 := by
  by_cases h : (wsF T R 12 (1, fF0 T)).1 = 0
  · exact h
  · obtain ⟨a, b⟩ := (ws_inv T R 12).2 h
    have := b (by decide)
    omega
theorem fixF_Pt (T : Nat → Bool) (R : Nat → Nat → Bool) : Pt T (fixF T R) := (ws_inv T R 12).1
theorem rounds5 : ∀ (m i : Nat) (f : Int32) (σ : az_S) (F : Nat → Nat → Bool), JJ σ n T Y R F → ∃ τ, az_ws (fun s : Int32 × az_S => decide (s.1 = 0)) (fun ι s => b_X0_findAnew_9 ι s.1 s.2) m i (f, σ) = ((wsF T R m (f, F)).1, τ) ∧ JJ τ n T Y R (wsF T R m (f, F)).2 ∧ Kc σ τ := by
  intro m
  induction m with
  | zero => intro i f σ F h; exact ⟨σ, rfl, h, Kc.rfl⟩
  | succ m ih =>
    intro i f σ F h
    by_cases h0 : f = 0
    · have e1 : (fun s : Int32 × az_S => decide (s.1 = 0)) (f, σ) = true := by simp [h0]
      have e2 : (fun s : Int32 × (Nat → Nat → Bool) => decide (s.1 = 0)) (f, F) = true := by simp [h0]
      have e3 : wsF T R (m + 1) (f, F) = (f, F) := az_ws_st (st := fun s : Int32 × (Nat → Nat → Bool) => decide (s.1 = 0)) e2
      rw [az_ws_st (st := fun s : Int32 × az_S => decide (s.1 = 0)) e1, e3]
      exact ⟨σ, rfl, h, Kc.rfl⟩
    · have e1 : (fun s : Int32 × az_S => decide (s.1 = 0)) (f, σ) = false := by simp [h0]
      have e2 : (fun s : Int32 × (Nat → Nat → Bool) => decide (s.1 = 0)) (f, F) = false := by simp [h0]
      obtain ⟨τ, a, b, c⟩ := step5 h
      have e3 : wsF T R (m + 1) (f, F) = wsF T R m (stF T R F) := by
        unfold wsF
        rw [az_ws_go (st := fun s : Int32 × (Nat → Nat → Bool) => decide (s.1 = 0)) (n := m) e2]
        exact az_ws_ix m (0 + 1) 0 (stF T R F)
      rw [az_ws_go (st := fun s : Int32 × az_S => decide (s.1 = 0)) (n := m) e1, e3]
      generalize stF T R F = q at a b ⊢
      obtain ⟨q1, q2⟩ := q
      have e4 : b_X0_findAnew_9 i f σ = (q1, τ) := by
        show ((x_X0_joinGreatest σ).1, (x_X0_joinGreatest σ).2) = _
        rw [a]
      show ∃ υ, az_ws (fun s : Int32 × az_S => decide (s.1 = 0)) (fun ι s => b_X0_findAnew_9 ι s.1 s.2) m (i + 1) (b_X0_findAnew_9 i f σ) = _ ∧ _
      rw [e4]
      obtain ⟨υ, a2, b2, c2⟩ := ih (i + 1) q1 τ q2 b
      exact ⟨υ, a2, b2, c.trans c2⟩
end AZC3
