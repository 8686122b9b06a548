/-! the best split -/
section AZC6
variable {σ : az_S} {n : Nat} {T : Nat → Bool} {Y : Nat → Int32} {R : Nat → Nat → Bool} {F : Nat → Nat → Bool}
theorem wS_T (hA : Ab n T R) (P : Nat → Bool) : wS R P T = sN (fun a => if P a = true then stR R a else 0) 12 := by
  unfold wS
  apply sN_congr
  intro a ha
  cases hp : P a with
  | false => exact sN_zero (fun _ _ => rfl)
  | true =>
    unfold stR
    rw [if_pos rfl]
    apply sN_congr
    intro b hb
    cases h2 : T b with
    | false => rw [wW_sym, wW_off hA h2]; rfl
    | true => rfl
theorem strength_is (hP : RP σ R) (hA : Ab n T R) (s : Int32) : x_X0_strengthOf σ s = nI (wS R (Bt s) T) := by
  rw [wS_T hA]
  unfold x_X0_strengthOf
  show az_it (fun ι s9 => b_X0_strengthOf_4 σ s ι s9) 12 0 0 = _
  refine az_sum0 12 (fun a v ha => ?_)
  show (if x_X5_holds σ s (nI a) = 0 then v else v + x_X2_at_17 σ (nI a)) = _
  rw [holds_at σ s ha, at_r17 σ ha, hP.2.2 a ha]
  cases Bt s a
  · exact (Int32.add_zero v).symm
  · rfl
theorem parts_is (hP : RP σ R) (hA : Ab n T R) (p r : Int32) : x_X0_gainOfParts σ p r = gA T R (Bt p) (Bt r) := by
  have e1 : az_it (fun ι s => b_X0_gainOfParts_5 σ p r ι s) 12 0 0 = nI (wS R (Bt p) (Bt r)) := by
    unfold wS
    refine az_sum0 12 (fun a v ha => ?_)
    have e2 : x_X0_weightWithAll σ (nI a) r = nI (sN (fun b => if Bt r b = true then wW R a b else 0) 12) := by
      unfold x_X0_weightWithAll
      show az_it (fun ι s => b_X0_weightWithAll_5 σ (nI a) r ι s) 12 0 0 = _
      refine az_sum0 12 (fun b u hb => ?_)
      show (if x_X5_holds σ r (nI b) = 0 then u else u + x_X4_at_21 σ (nI a) (nI b)) = _
      rw [holds_at σ r hb, at_t21 σ ha hb, hP.2.1 a b ha hb]
      cases Bt r b
      · exact (Int32.add_zero u).symm
      · rfl
    show (if x_X5_holds σ p (nI a) = 0 then v else v + x_X0_weightWithAll σ (nI a) r) = _
    rw [holds_at σ p ha, e2]
    cases Bt p a
    · rw [if_pos (by decide)]
      have z : sN (fun b => if (false && Bt r b) = true then wW R a b else 0) 12 = 0 := sN_zero (fun _ _ => rfl)
      rw [z]
      exact (Int32.add_zero v).symm
    · rw [if_neg (by decide)]
      rfl
  have e0 : x_X0_gainOfParts σ p r = 2 * σ.1 4 * az_it (fun ι s => b_X0_gainOfParts_5 σ p r ι s) 12 0 0 - x_X0_strengthOf σ p * x_X0_strengthOf σ r := rfl
  rw [e0, e1, strength_is hP hA, strength_is hP hA, hP.1]
  rfl
theorem members_is (hJ : RJ σ T R F) (hPt : Pt T F) (hA : Ab n T R) {f : Nat} (hf : f < 12) (hFf : F f f = true) (p : Nat) : Bt (x_X0_membersOf σ (nI f)) p = F f p := by
  unfold x_X0_membersOf
  show Bt (az_it (fun ι s => b_X0_membersOf_4 σ (nI f) ι s) 12 0 0) p = _
  have k : ∀ m, m ≤ 12 → Bt (az_it (fun ι s => b_X0_membersOf_4 σ (nI f) ι s) m 0 0) p = (decide (p < m) && F f p) := by
    intro m
    induction m with
    | zero => intro _; simp [az_it, Bt_zero]
    | succ m ih =>
      intro hm
      have hm12 : m < 12 := by omega
      rw [az_it_snoc, Nat.zero_add, lt_succ_dec]
      have hb : ∀ w, b_X0_membersOf_4 σ (nI f) m w = if x_X2_at_13 σ (nI m) = nI f then w ||| x_X5_setOf σ (nI m) else w := fun _ => rfl
      show Bt (b_X0_membersOf_4 σ (nI f) m _) p = _
      rw [hb, at_r13 σ hm12, setOf_at σ hm12]
      have key : σ.2.1 14 m = nI f ↔ F f m = true := by
        constructor
        · intro z
          cases ht : T m with
          | false => exact absurd z (hJ.2.2.1 m hm12 ht f hf hFf)
          | true =>
            obtain ⟨j, hj⟩ := hPt.2.2 m ht
            rw [hJ.2.1 j m hm12 hj] at z
            have hj12 := own_lt hPt hm12 hj
            rw [(nI_eq (by omega) (by omega)).mp z] at hj
            exact hj
        · intro z
          exact hJ.2.1 f m hm12 z
      by_cases e : F f m = true
      · rw [if_pos (key.mpr e), Bt_or, ih (by omega), dec_bit hm12]
        by_cases e2 : p = m
        · subst e2; simp [e]
        · have e3 : (p == m) = false := by simp [e2]
          simp [e3]
      · rw [if_neg (fun z => e (key.mp z)), ih (by omega)]
        by_cases e2 : p = m
        · subst e2
          have e : F f p = false := by simpa using e
          simp [e]
        · have e3 : (p == m) = false := by simp [e2]
          simp [e3]
  rw [k 12 (Nat.le_refl _)]
  cases hp : F f p with
  | false => simp
  | true =>
    have := hA.2.1 p (hPt.1 f p hp).2.2
    have := hA.1
    have : p < 12 := by omega
    simp [this]
/-- the field f without its lowest paper, as a number -/
theorem others_nat (hPt : Pt T F) (hA : Ab n T R) {f : Nat} {a : Int32} (ha : ∀ p, Bt a p = F f p) (hf : f < 12) : ∃ O, O < 4096 ∧ a &&& (bit f ^^^ (-1)) = nI O ∧ ∀ p, O.testBit p = (F f p && !(p == f)) := by
  have hF12 : ∀ p, F f p = true → p < 12 := fun p hp => by
    have := hA.2.1 p (hPt.1 f p hp).2.2
    have := hA.1
    omega
  have hb : ∀ p, Bt (a &&& (bit f ^^^ (-1))) p = (F f p && !(p == f)) := fun p => by
    rw [Bt_and, ha p, Bt_not, dec_bit hf]
    cases hp : F f p with
    | false => rfl
    | true =>
      have := hF12 p hp
      have : p < 32 := by omega
      simp [this]
  obtain ⟨O, hO, e⟩ := M12_nat (m := a &&& (bit f ^^^ (-1))) (fun i hi => by
    rw [hb i]
    cases hp : F f i with
    | false => rfl
    | true => have := hF12 i hp; omega)
  refine ⟨O, hO, e, fun p => ?_⟩
  have h1 := hb p
  rw [e, Bt_nI] at h1
  by_cases hp : p < 32
  · rw [← h1]; simp [hp]
  · have h2 : O.testBit p = false := Nat.testBit_lt_two_pow (Nat.lt_of_lt_of_le hO (by
      show 2 ^ 12 ≤ 2 ^ p
      exact Nat.pow_le_pow_right (by decide) (by omega)))
    rw [h2, ← h1]; simp [hp]
theorem add_low {f s : Nat} (h : ∀ i, i ≤ f → s.testBit i = false) (i : Nat) : (2 ^ f + s).testBit i = (i == f || s.testBit i) := by
  have h0 : s % 2 ^ (f + 1) = 0 := by
    apply Nat.eq_of_testBit_eq
    intro j
    rw [Nat.testBit_mod_two_pow, Nat.zero_testBit]
    by_cases e : j < f + 1
    · rw [h j (by omega)]; simp
    · simp [e]
  have e1 : s = 2 ^ (f + 1) * (s / 2 ^ (f + 1)) := by
    have := Nat.div_add_mod s (2 ^ (f + 1))
    omega
  have e2 : 2 ^ f + s = s ||| 2 ^ f := by
    have := Nat.two_pow_add_eq_or_of_lt (i := f + 1) (b := 2 ^ f) (by rw [Nat.pow_succ]; have : 0 < 2 ^ f := Nat.pow_pos (by decide); omega) (s / 2 ^ (f + 1))
    rw [← e1] at this
    rw [← this]
    omega
  rw [e2, Nat.testBit_or, Nat.testBit_two_pow, Bool.or_comm, beq_dec]
  congr 1
  by_cases e : f = i
  · simp [e]
  · have : ¬ i = f := fun z => e z.symm
    simp [e, this]
theorem sub_low {f x : Nat} (hx : x.testBit f = true) (h : ∀ i, i < f → x.testBit i = false) (i : Nat) : (x - 2 ^ f).testBit i = true → x.testBit i = true ∧ f < i := by
  intro hi
  have h0 : x % 2 ^ (f + 1) = 2 ^ f := by
    apply Nat.eq_of_testBit_eq
    intro j
    rw [Nat.testBit_mod_two_pow, Nat.testBit_two_pow]
    by_cases e : j < f
    · rw [h j e]
      have : ¬ f = j := by omega
      simp [this]
    · by_cases e2 : j = f
      · subst e2; rw [hx]; simp
      · have e3 : ¬ j < f + 1 := by omega
        have : ¬ f = j := fun z => e2 z.symm
        simp [e3, this]
  have e1 : x - 2 ^ f = 2 ^ (f + 1) * (x / 2 ^ (f + 1)) := by
    have := Nat.div_add_mod x (2 ^ (f + 1))
    omega
  rw [e1, Nat.testBit_two_pow_mul, Bool.and_eq_true, decide_eq_true_eq, Nat.testBit_div_two_pow] at hi
  obtain ⟨a, b⟩ := hi
  rw [show i - (f + 1) + (f + 1) = i by omega] at b
  exact ⟨b, by omega⟩
/-- what a split is worth: the part with the lowest paper f and with the set s -/
def vS (T : Nat → Bool) (R : Nat → Nat → Bool) (F : Nat → Nat → Bool) (f s : Nat) : Int32 := gA T R (Bt (nI (2 ^ f + s))) (fun p => F f p && !Bt (nI (2 ^ f + s)) p)
def upS (T : Nat → Bool) (R : Nat → Nat → Bool) (F : Nat → Nat → Bool) (f s : Nat) (w : Int32 × Int32) : Int32 × Int32 := if w.2 ≤ vS T R F f s then w else (nI (2 ^ f + s), vS T R F f s)
theorem nI_and (a b : Nat) : nI a &&& nI b = nI (a &&& b) := Bt_ext fun i hi => by
  rw [Bt_and, Bt_nI, Bt_nI, Bt_nI, Nat.testBit_and]
  simp [hi]
theorem along_next {O k : Nat} (hO : O < 2 ^ 12) (hk : k + 1 < 2 ^ pc 12 O) : (nI (pd 12 O k) - nI O) &&& nI O = nI (pd 12 O (k + 1)) := by
  have e : nI (pd 12 O k) - nI O = nI (pd 12 O k + (2 ^ (12 + 20) - O)) := by
    have h1 : nI (pd 12 O k + (2 ^ (12 + 20) - O)) + nI O = nI (pd 12 O k) := by
      rw [nI_add, show pd 12 O k + (2 ^ (12 + 20) - O) + O = pd 12 O k + 2 ^ 32 by omega, ← nI_add, show nI (2 ^ 32) = 0 from by decide, Int32.add_zero]
    rw [← h1, Int32.add_sub_cancel]
  rw [e, nI_and, pd_next 12 20 hO hk]
theorem split5 (hJ : RJ σ T R F) (hP : RP σ R) (hPt : Pt T F) (hA : Ab n T R) {f O : Nat} (hf : f < 12) (hO : O < 4096) (hOb : ∀ p, O.testBit p = (F f p && !(p == f))) (d3 : Int32) : ∀ k, k < 2 ^ pc 12 O →
    az_it (fun ι s => b_X0_bestSplit_34 σ (nI f) (nI O) d3 ι s.1 s.2.1 s.2.2) k 0 ((0 : Int32), (0 : Int32), (0 : Int32)) = ((az_it (fun k w => upS T R F f (pd 12 O k) w) k 0 ((0 : Int32), (0 : Int32))).1, (az_it (fun k w => upS T R F f (pd 12 O k) w) k 0 ((0 : Int32), (0 : Int32))).2, nI (pd 12 O k)) := by
  intro k
  induction k with
  | zero => intro _; rw [pd_0]; rfl
  | succ k ih =>
    intro hk
    rw [az_it_snoc, az_it_snoc, ih (by omega), Nat.zero_add]
    generalize az_it (fun k w => upS T R F f (pd 12 O k) w) k 0 ((0 : Int32), (0 : Int32)) = w
    have hsb := pd_sb 12 O k
    have hnext := along_next (k := k) hO hk
    generalize pd 12 O k = s at hsb hnext ⊢
    have hs0 : ∀ i, i ≤ f → s.testBit i = false := fun i hi => by
      cases hb : s.testBit i with
      | false => rfl
      | true =>
        have := hsb i hb
        rw [hOb i, Bool.and_eq_true, Bool.not_eq_true', beq_eq_false_iff_ne] at this
        have := (hPt.1 f i this.1).2.1
        omega
    have hpart : bit f ||| nI s = nI (2 ^ f + s) := Bt_ext fun i hi => by
      rw [Bt_or, dec_bit hf, Bt_nI, Bt_nI, add_low hs0]
      simp [hi]
    have hbd : b_X0_bestSplit_34 σ (nI f) (nI O) d3 k w.1 w.2 (nI s) = if w.2 ≤ x_X0_gainOfParts σ (x_X5_setOf σ (nI f) ||| nI s) (nI O &&& (nI s ^^^ (-1))) then (w.1, w.2, (nI s - nI O) &&& nI O) else (x_X5_setOf σ (nI f) ||| nI s, x_X0_gainOfParts σ (x_X5_setOf σ (nI f) ||| nI s) (nI O &&& (nI s ^^^ (-1))), (nI s - nI O) &&& nI O) := rfl
    have hval : gA T R (Bt (nI (2 ^ f + s))) (Bt (nI O &&& (nI s ^^^ (-1)))) = vS T R F f s := by
      unfold vS
      refine gA_congr (fun i _ => rfl) (fun i hi => ?_)
      rw [Bt_and, Bt_not, Bt_nI, Bt_nI, Bt_nI, add_low hs0, hOb i]
      have : i < 32 := by omega
      simp only [this, decide_true, Bool.true_and]
      cases F f i <;> cases (i == f) <;> cases s.testBit i <;> rfl
    show b_X0_bestSplit_34 σ (nI f) (nI O) d3 k w.1 w.2 (nI s) = _
    rw [hbd, setOf_at σ hf, hpart, parts_is hP hA, hval, hnext]
    unfold upS
    by_cases h : w.2 ≤ vS T R F f s
    · rw [if_pos h, if_pos h]
    · rw [if_neg h, if_neg h]
def bestS (T : Nat → Bool) (R : Nat → Nat → Bool) (F : Nat → Nat → Bool) (f O : Nat) : Int32 := (az_it (fun k w => upS T R F f (pd 12 O k) w) (2 ^ pc 12 O - 1) 0 ((0 : Int32), (0 : Int32))).1
theorem best5 (hJ : RJ σ T R F) (hP : RP σ R) (hPt : Pt T F) (hA : Ab n T R) {f O : Nat} (hf : f < 12) (hFf : F f f = true) (hO : O < 4096) (hOb : ∀ p, O.testBit p = (F f p && !(p == f))) : x_X0_bestSplit σ (nI f) = bestS T R F f O := by
  obtain ⟨O', hO', e, hOb'⟩ := others_nat hPt hA (members_is hJ hPt hA hf hFf) hf
  have hOO : O' = O := Nat.eq_of_testBit_eq fun i => (hOb' i).trans (hOb i).symm
  subst hOO
  have hlow : O'.testBit f = false := by rw [hOb f]; simp
  have hm : pc 12 O' ≤ 11 := by
    unfold pc
    have := cnt_one (P := fun i => O'.testBit i) (Q := fun i => O'.testBit i || i == f) (c := f) (fun k hk => by
      have : (k == f) = false := by simp [hk]
      rw [this, Bool.or_false]) (fun h => by rw [h]; rfl) 12
    have h2 := cnt_le (fun i => O'.testBit i || i == f) 12
    rw [this] at h2
    simp [hf, hlow] at h2
    omega
  have hbc : x_J6_bitCount_0f7a4 σ (nI O') = nI (pc 12 O') := by
    rw [bitCount_cnt σ (m := nI O') (fun i hi => by
      rw [Bt_nI]
      have : O'.testBit i = false := Nat.testBit_lt_two_pow (Nat.lt_of_lt_of_le hO (by
        show 2 ^ 12 ≤ 2 ^ i
        exact Nat.pow_le_pow_right (by decide) hi))
      rw [this]; simp)]
    congr 1
    unfold pc
    apply cnt_congr
    intro i hi
    rw [Bt_nI]
    have : i < 32 := by omega
    simp [this]
  have hp : 0 < 2 ^ pc 12 O' := Nat.pow_pos (by decide)
  have hp2 : 2 ^ pc 12 O' ≤ 2 ^ 11 := Nat.pow_le_pow_right (by decide) hm
  have hcnt : ((1 <<< (nI (pc 12 O') &&& 31) : Int32) - 1).toNatClampNeg = 2 ^ pc 12 O' - 1 := by
    show (bit (pc 12 O') - 1).toNatClampNeg = _
    rw [bit_nI (by omega), show 2 ^ pc 12 O' = (2 ^ pc 12 O' - 1) + 1 by omega, nI_pred, Nat.add_sub_cancel]
    exact nI_clamp (by omega)
  have hx : x_X0_bestSplit σ (nI f) = (az_it (fun ι s => b_X0_bestSplit_34 σ (nI f) (x_X0_membersOf σ (nI f) &&& (x_X5_setOf σ (nI f) ^^^ (-1))) ((1 <<< (x_J6_bitCount_0f7a4 σ (x_X0_membersOf σ (nI f) &&& (x_X5_setOf σ (nI f) ^^^ (-1))) &&& 31)) - 1) ι s.1 s.2.1 s.2.2)
      (((1 <<< (x_J6_bitCount_0f7a4 σ (x_X0_membersOf σ (nI f) &&& (x_X5_setOf σ (nI f) ^^^ (-1))) &&& 31)) - 1).toNatClampNeg) 0 ((0 : Int32), (0 : Int32), (0 : Int32))).1 := rfl
  rw [hx, setOf_at σ hf, e, hbc, hcnt, split5 hJ hP hPt hA hf hO hOb _ _ (by omega)]
  rfl
theorem az_it_two' {S : Type} {b b' : Nat → S → S} (P : S → Prop) {N i : Nat} (h : ∀ k s, k < N → P s → b (i + k) s = b' (i + k) s ∧ P (b' (i + k) s)) {s : S} (h0 : P s) : ∀ m, m ≤ N → az_it b m i s = az_it b' m i s ∧ P (az_it b' m i s) := by
  intro m
  induction m with
  | zero => intro _; exact ⟨rfl, h0⟩
  | succ m ih =>
    intro hm
    obtain ⟨i1, i2⟩ := ih (by omega)
    rw [az_it_snoc, az_it_snoc, i1]
    exact h m _ (by omega) i2
def gS (T : Nat → Bool) (R : Nat → Nat → Bool) (F : Nat → Nat → Bool) (f : Nat) (a : Int32) (i : Nat) (w : Int32 × Int32) : Int32 × Int32 := if (nI i &&& (a ^^^ (-1))) = 0 ∧ Bt (nI i) f = true then upS T R F f (i - 2 ^ f) w else w
theorem gS_no {f i : Nat} {a : Int32} {w : Int32 × Int32} (h : ¬ ((nI i &&& (a ^^^ (-1))) = 0 ∧ Bt (nI i) f = true)) : gS T R F f a i w = w := if_neg h
theorem gS_yes {f s : Nat} {a : Int32} {w : Int32 × Int32} (h : (nI (2 ^ f + s) &&& (a ^^^ (-1))) = 0 ∧ Bt (nI (2 ^ f + s)) f = true) : gS T R F f a (2 ^ f + s) w = upS T R F f s w := by
  unfold gS
  rw [if_pos h, Nat.add_sub_cancel_left]
theorem split_step {f s : Nat} {a : Int32} {w q : Int32 × Int32} (hb : q = if (nI (2 ^ f + s) &&& (a ^^^ (-1))) = 0 then (if (if Bt (nI (2 ^ f + s)) f = true then 1 else 0 : Int32) = 1 then (if w.2 ≤ vS T R F f s then (w.1, w.2) else (nI (2 ^ f + s), vS T R F f s)) else if w.2 ≤ 0 then (w.1, w.2) else (nI (2 ^ f + s), 0)) else if w.2 ≤ 0 then (w.1, w.2) else (nI (2 ^ f + s), 0)) (hw : w.2 ≤ 0) : q = gS T R F f a (2 ^ f + s) w ∧ (gS T R F f a (2 ^ f + s) w).2 ≤ 0 := by
  obtain ⟨w1, w2⟩ := w
  have hw : w2 ≤ 0 := hw
  have hup : (upS T R F f s (w1, w2)).2 ≤ 0 := by
    unfold upS
    dsimp only
    by_cases h : w2 ≤ vS T R F f s
    · rw [if_pos h]; exact hw
    · rw [if_neg h]
      have h9 := Int32.not_le.mp h
      exact Int32.le_of_lt (Int32.lt_of_lt_of_le h9 hw)
  rw [hb]
  dsimp only
  rw [if_pos hw]
  by_cases c1 : (nI (2 ^ f + s) &&& (a ^^^ (-1))) = 0
  · rw [if_pos c1]
    cases c2 : Bt (nI (2 ^ f + s)) f with
    | false =>
      rw [if_neg (by decide), gS_no (fun z => by rw [c2] at z; cases z.2)]
      exact ⟨rfl, hw⟩
    | true =>
      rw [if_pos (by decide), gS_yes ⟨c1, c2⟩]
      exact ⟨rfl, hup⟩
  · rw [if_neg c1, gS_no (fun z => c1 z.1)]
    exact ⟨rfl, hw⟩
theorem best6 {τ : az_S} (hM : RM τ n T Y R) (hA : Ab n T R) (hL : Lw τ R) (hPt : Pt T F) {f O : Nat} (hf : f < 12) (hFf : F f f = true) (hO : O < 4096) (hOb : ∀ p, O.testBit p = (F f p && !(p == f))) {a : Int32} (ha : ∀ p, Bt a p = F f p) :
    (az_it (fun ι s => b_X6_split_49 τ (nI f) (nI (tot R)) a ((1 <<< (nI f &&& 31) : Int32).toNatClampNeg) ι s.1 s.2) ((max (1 <<< (nI f &&& 31) : Int32).toNatClampNeg a.toNatClampNeg) - (1 <<< (nI f &&& 31) : Int32).toNatClampNeg) ((1 <<< (nI f &&& 31) : Int32).toNatClampNeg) ((0 : Int32), (0 : Int32))).1 = bestS T R F f O := by
  have hO0 : ∀ i, i ≤ f → O.testBit i = false := fun i hi => by
    rw [hOb i]
    cases hF : F f i with
    | false => rfl
    | true =>
      have := (hPt.1 f i hF).2.1
      have : i = f := by omega
      simp [this]
  have hA12 : 2 ^ f + O < 4096 := Nat.lt_pow_two_of_testBit (n := 12) _ (fun i hi => by
    rw [add_low hO0]
    have h1 : (i == f) = false := by simp; omega
    have h2 : O.testBit i = false := Nat.testBit_lt_two_pow (Nat.lt_of_lt_of_le hO (by
        show 2 ^ 12 ≤ 2 ^ i
        exact Nat.pow_le_pow_right (by decide) hi))
    rw [h1, h2]; rfl)
  have e1 : ((1 <<< (nI f &&& 31) : Int32)).toNatClampNeg = 2 ^ f := by
    show (bit f).toNatClampNeg = _
    rw [bit_nI hf]
    exact nI_clamp (by omega)
  have ea : a = nI (2 ^ f + O) := Bt_ext fun i hi => by
    rw [ha i, Bt_nI, add_low hO0, hOb i]
    have : decide (i < 32) = true := by simp [hi]
    rw [this]
    by_cases e : i = f
    · subst e; rw [hFf]; simp
    · have e3 : (i == f) = false := by simp [e]
      rw [e3]; simp
  rw [e1]
  have ecnt : max (2 ^ f) a.toNatClampNeg - 2 ^ f = O := by
    rw [ea, nI_clamp (by omega)]
    omega
  rw [ecnt]
  have hin : ∀ s, s < O → ((nI (2 ^ f + s) &&& (a ^^^ (-1))) = 0 ∧ Bt (nI (2 ^ f + s)) f = true ↔ sb s O) := by
    intro s hs
    have hlt : 2 ^ f + s < 4096 := by omega
    have hbt : ∀ i, Bt (nI (2 ^ f + s)) i = (2 ^ f + s).testBit i := fun i => by
      rw [Bt_nI]
      by_cases hi : i < 32
      · simp [hi]
      · have : (2 ^ f + s).testBit i = false := Nat.testBit_lt_two_pow (Nat.lt_of_lt_of_le hlt (by
          show 2 ^ 12 ≤ 2 ^ i
          exact Nat.pow_le_pow_right (by decide) (by omega)))
        rw [this]; simp
    constructor
    · rintro ⟨h1, h2⟩
      have hsub : ∀ i, (2 ^ f + s).testBit i = true → F f i = true := fun i hi => by
        have h3 : Bt (nI (2 ^ f + s) &&& (a ^^^ (-1))) i = false := by rw [h1, Bt_zero]
        rw [Bt_and, Bt_not, hbt i, hi, ha i] at h3
        have : i < 32 := by
          by_cases z : i < 32
          · exact z
          · have := hbt i
            rw [Bt_big (by omega), hi] at this; cases this
        cases hF : F f i with
        | true => rfl
        | false => rw [hF] at h3; simp [this] at h3
      have hxf : (2 ^ f + s).testBit f = true := by rw [← hbt]; exact h2
      intro i hi
      have := sub_low hxf (fun j hj => by
        cases hb : (2 ^ f + s).testBit j with
        | false => rfl
        | true => have := (hPt.1 f j (hsub j hb)).2.1; omega) i (by rw [Nat.add_sub_cancel_left]; exact hi)
      rw [hOb i, hsub i this.1]
      have h9 : (i == f) = false := by simp; omega
      rw [h9]; rfl
    · intro hsb
      have hs0 : ∀ i, i ≤ f → s.testBit i = false := fun i hi => by
        cases hb : s.testBit i with
        | false => rfl
        | true => have := hsb i hb; rw [hO0 i hi] at this; cases this
      refine ⟨Bt_ext fun i hi => ?_, ?_⟩
      · rw [Bt_and, Bt_not, hbt, add_low hs0, ha i, Bt_zero]
        by_cases e : i = f
        · subst e; rw [hFf]; simp
        · have e3 : (i == f) = false := by simp [e]
          rw [e3, Bool.false_or]
          cases hb : s.testBit i with
          | false => rfl
          | true =>
            have := hsb i hb
            rw [hOb i, Bool.and_eq_true] at this
            rw [this.1]; simp
      · rw [hbt, add_low hs0]; simp
  have hval : ∀ s, x_X6_gains τ (nI (2 ^ f + s)) (a &&& (nI (2 ^ f + s) ^^^ (-1))) (nI (tot R)) = vS T R F f s := fun s => by
    rw [gains_is hM hA hL]
    unfold vS
    refine gA_congr (fun i _ => rfl) (fun i hi => ?_)
    rw [Bt_and, Bt_not, ha i]
    have : decide (i < 32) = true := by simp; omega
    rw [this, Bool.true_and]
  have h2 := az_it_two' (b := fun ι s => b_X6_split_49 τ (nI f) (nI (tot R)) a (2 ^ f) ι s.1 s.2) (b' := gS T R F f a) (fun w : Int32 × Int32 => w.2 ≤ 0) (N := O) (i := 2 ^ f) (fun s w hs hw => by
    have hbd : b_X6_split_49 τ (nI f) (nI (tot R)) a (2 ^ f) (2 ^ f + s) w.1 w.2 = if (nI (2 ^ f + s) &&& (a ^^^ (-1))) = 0 then (if ((nI (2 ^ f + s) >>> (nI f &&& 31)) &&& 1) = 1 then (if w.2 ≤ x_X6_gains τ (nI (2 ^ f + s)) (a &&& (nI (2 ^ f + s) ^^^ (-1))) (nI (tot R)) then (w.1, w.2) else (nI (2 ^ f + s), x_X6_gains τ (nI (2 ^ f + s)) (a &&& (nI (2 ^ f + s) ^^^ (-1))) (nI (tot R)))) else if w.2 ≤ 0 then (w.1, w.2) else (nI (2 ^ f + s), 0)) else if w.2 ≤ 0 then (w.1, w.2) else (nI (2 ^ f + s), 0) := rfl
    rw [shr1 _ hf, hval s] at hbd
    exact split_step hbd hw) (s := ((0 : Int32), (0 : Int32))) (Int32.le_refl _) O (Nat.le_refl _)
  rw [h2.1]
  have hO12 : O < 2 ^ 12 := hO
  have h3 := walk_sets (g := gS T R F f a) hO12 (2 ^ f) (fun s x hs hns => gS_no (fun z => hns ((hin s hs).mp z))) ((0 : Int32), (0 : Int32)) (2 ^ pc 12 O - 1) (by have : 0 < 2 ^ pc 12 O := Nat.pow_pos (by decide); omega)
  rw [pd_last 12 hO12] at h3
  rw [h3]
  unfold bestS
  have h4 := az_it_two (b := fun k w => gS T R F f a (2 ^ f + pd 12 O k) w) (b' := fun k w => upS T R F f (pd 12 O k) w) (fun _ => True) (N := 2 ^ pc 12 O - 1) (fun k w hk _ => by
    have hlt : pd 12 O k < O := by
      have := pd_mono 12 hO12 (show k < 2 ^ pc 12 O - 1 from hk) (by omega)
      rw [pd_last 12 hO12] at this
      exact this
    exact ⟨gS_yes ((hin _ hlt).mpr (pd_sb 12 O k)), trivial⟩) (s := ((0 : Int32), (0 : Int32))) trivial (2 ^ pc 12 O - 1) (Nat.le_refl _)
  rw [h4.1]
end AZC6
