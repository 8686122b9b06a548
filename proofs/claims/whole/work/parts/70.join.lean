/-! fields: the greatest gain sought, two fields joined -/
section AZC2
variable {σ : az_S} {n : Nat} {T : Nat → Bool} {Y : Nat → Int32} {R : Nat → Nat → Bool} {F : Nat → Nat → Bool}
theorem az_it_app {S : Type} (b : Nat → S → S) : ∀ (a c i : Nat) (s : S), az_it b (a + c) i s = az_it b c (i + a) (az_it b a i s)
  | a, 0, i, s => rfl
  | a, c + 1, i, s => by
    show az_it b (a + c + 1) i s = _
    rw [az_it_snoc, az_it_snoc, az_it_app b a c i s, Nat.add_assoc]
theorem az_it_skip {S : Type} {b : Nat → S → S} {s : S} {i : Nat} : ∀ m, (∀ k, k < m → b (i + k) s = s) → az_it b m i s = s
  | 0, _ => rfl
  | m + 1, h => by
    rw [az_it_snoc, az_it_skip m (fun k hk => h k (by omega))]
    exact h m (by omega)
theorem az_it_map {S U : Type} {b : Nat → U → U} {b' : Nat → S → S} (e : S → U) {i j : Nat} {s : S} : ∀ m, (∀ k s, k < m → b (i + k) (e s) = e (b' (j + k) s)) → az_it b m i (e s) = e (az_it b' m j s)
  | 0, _ => rfl
  | m + 1, h => by
    rw [az_it_snoc, az_it_snoc, az_it_map e m (fun k s hk => h k s (by omega))]
    exact h m _ (by omega)
def sA (T : Nat → Bool) (R F : Nat → Nat → Bool) (k : Nat) (s : Int32 × Nat) : Int32 × Nat :=
  if (decide (k / 12 < k % 12) && (F (k / 12) (k / 12) && F (k % 12) (k % 12))) = true then (if gA T R (F (k / 12)) (F (k % 12)) ≤ s.1 then s else (gA T R (F (k / 12)) (F (k % 12)), k + 1)) else s
def seek (T : Nat → Bool) (R F : Nat → Nat → Bool) : Int32 × Nat := az_it (sA T R F) 144 0 (0, 0)
def skOK (F : Nat → Nat → Bool) (m : Nat) (s : Int32 × Nat) : Prop := (s.2 = 0 ∧ s.1 = 0) ∨ (0 < s.1 ∧ 0 < s.2 ∧ s.2 - 1 < m ∧ (s.2 - 1) / 12 < (s.2 - 1) % 12 ∧ F ((s.2 - 1) / 12) ((s.2 - 1) / 12) = true ∧ F ((s.2 - 1) % 12) ((s.2 - 1) % 12) = true)
theorem skOK.pos {m : Nat} {s : Int32 × Nat} (h : skOK F m s) : 0 ≤ s.1 := by
  rcases h with ⟨-, h⟩ | ⟨h, -⟩
  · rw [h]; exact Int32.le_refl _
  · exact Int32.le_of_lt h
theorem seek_ok (T : Nat → Bool) (R F : Nat → Nat → Bool) : ∀ m, skOK F m (az_it (sA T R F) m 0 (0, 0)) := by
  intro m
  induction m with
  | zero => exact Or.inl ⟨rfl, rfl⟩
  | succ m ih =>
    rw [az_it_snoc, Nat.zero_add]
    generalize az_it (sA T R F) m 0 (0, 0) = s at ih
    have ih1 : skOK F (m + 1) s := by
      rcases ih with h | ⟨h1, h2, h3, h4⟩
      · exact Or.inl h
      · exact Or.inr ⟨h1, h2, by omega, h4⟩
    unfold sA
    by_cases hc : (decide (m / 12 < m % 12) && (F (m / 12) (m / 12) && F (m % 12) (m % 12))) = true
    · rw [if_pos hc]
      by_cases hg : gA T R (F (m / 12)) (F (m % 12)) ≤ s.1
      · rw [if_pos hg]; exact ih1
      · rw [if_neg hg]
        rw [Bool.and_eq_true, Bool.and_eq_true, decide_eq_true_eq] at hc
        refine Or.inr ⟨?_, Nat.succ_pos m, Nat.lt_succ_self m, hc.1, hc.2.1, hc.2.2⟩
        have := ih.pos
        have h9 := Int32.not_le.mp hg
        exact Int32.lt_of_le_of_lt this h9
    · rw [if_neg hc]; exact ih1
/-! the class seeks -/
theorem isGroup_is (h : RJ σ T R F) {i : Nat} (hi : i < 12) : x_X0_isGroup σ (nI i) = if F i i = true then 1 else 0 := by
  show x_X5_holds σ (σ.1 3) (nI i) = _
  rw [holds_at σ _ hi, h.1 i]
theorem gain5_is (h : RJ σ T R F) (hP : RP σ R) {i j : Nat} (hi : i < 12) (hj : j < 12) (hij : i ≠ j) (h1 : F i i = true) (h2 : F j j = true) : x_X0_gainOfJoining σ (nI i) (nI j) = gA T R (F i) (F j) := by
  show 2 * σ.1 4 * x_X4_at_23 σ (nI i) (nI j) - x_X2_at_19 σ (nI i) * x_X2_at_19 σ (nI j) = _
  rw [at_t23 σ hi hj, at_r19 σ hi, at_r19 σ hj, hP.1, h.2.2.2.1 i hi h1, h.2.2.2.1 j hj h2, h.2.2.2.2 i j hi hj hij h1 h2]
  rfl
def enc5 (s : Int32 × Nat) : Int32 × Int32 × Int32 := (s.1, if s.2 = 0 then -1 else nI ((s.2 - 1) / 12), if s.2 = 0 then -1 else nI ((s.2 - 1) % 12))
theorem seek5_in (h : RJ σ T R F) (hP : RP σ R) {i : Nat} (hi : i < 12) (s : Int32 × Nat) : az_it (fun ι s => b_X0_joinGreatest_22 σ i ι s.1 s.2.1 s.2.2) (12 - (i + 1)) (i + 1) (enc5 s) = enc5 (az_it (sA T R F) 12 (12 * i) s) := by
  have e : az_it (sA T R F) 12 (12 * i) s = az_it (sA T R F) (12 - (i + 1)) (12 * i + (i + 1)) s := by
    have e1 : az_it (sA T R F) 12 (12 * i) s = az_it (sA T R F) (i + 1 + (12 - (i + 1))) (12 * i) s := by rw [show i + 1 + (12 - (i + 1)) = 12 by omega]
    rw [e1, az_it_app, az_it_skip (i + 1) (fun k hk => by
      unfold sA
      have e1 : (12 * i + k) / 12 = i := by omega
      have e2 : (12 * i + k) % 12 = k := by omega
      have e3 : decide (i < k) = false := by simp; omega
      rw [e1, e2, e3, Bool.false_and, if_neg (by decide)])]
  rw [e]
  refine az_it_map enc5 _ (fun k s hk => ?_)
  have hj : i + 1 + k < 12 := by omega
  have e1 : (12 * i + (i + 1) + k) / 12 = i := by omega
  have e2 : (12 * i + (i + 1) + k) % 12 = i + 1 + k := by omega
  have hbd : b_X0_joinGreatest_22 σ i (i + 1 + k) (enc5 s).1 (enc5 s).2.1 (enc5 s).2.2 = if x_X0_isGroup σ (nI i) = 0 then enc5 s else if x_X0_isGroup σ (nI (i + 1 + k)) = 0 then enc5 s else if x_X0_gainOfJoining σ (nI i) (nI (i + 1 + k)) ≤ s.1 then enc5 s else (x_X0_gainOfJoining σ (nI i) (nI (i + 1 + k)), nI i, nI (i + 1 + k)) := rfl
  show b_X0_joinGreatest_22 σ i (i + 1 + k) (enc5 s).1 (enc5 s).2.1 (enc5 s).2.2 = _
  rw [hbd, isGroup_is h hi, isGroup_is h hj]
  unfold sA
  have e3 : decide (i < i + 1 + k) = true := by simp; omega
  rw [e1, e2, e3, Bool.true_and]
  cases h1 : F i i with
  | false => rfl
  | true =>
    cases h2 : F (i + 1 + k) (i + 1 + k) with
    | false => rfl
    | true =>
      rw [if_neg (by decide), if_neg (by decide), if_pos (by decide : (true && true) = true), gain5_is h hP hi hj (by omega) h1 h2]
      by_cases hg : gA T R (F i) (F (i + 1 + k)) ≤ s.1
      · rw [if_pos hg, if_pos hg]
      · rw [if_neg hg, if_neg hg]
        unfold enc5
        dsimp only
        rw [if_neg (by omega), if_neg (by omega), Nat.add_sub_cancel, e1, e2]
theorem seek5_is (h : RJ σ T R F) (hP : RP σ R) : az_it (fun ι s => b_X0_joinGreatest_9 σ ι s.1 s.2.1 s.2.2) 12 0 ((0 : Int32), (-1 : Int32), (-1 : Int32)) = enc5 (seek T R F) := by
  have k : ∀ m, m ≤ 12 → az_it (fun ι s => b_X0_joinGreatest_9 σ ι s.1 s.2.1 s.2.2) m 0 ((0 : Int32), (-1 : Int32), (-1 : Int32)) = enc5 (az_it (sA T R F) (12 * m) 0 (0, 0)) := by
    intro m
    induction m with
    | zero => intro _; rfl
    | succ m ih =>
      intro hm
      rw [az_it_snoc, ih (by omega), Nat.zero_add, Nat.mul_succ, az_it_app, Nat.zero_add]
      exact seek5_in h hP (by omega) _
  exact k 12 (Nat.le_refl _)
/-! the model seeks -/
def RF (τ : az_S) (F : Nat → Nat → Bool) : Prop := ∀ i, i < 12 → ∀ p, Bt (τ.2.1 41 i) p = F i p
theorem RF.zero {τ : az_S} (h : RF τ F) (hPt : Pt T F) {i : Nat} (hi : i < 12) : τ.2.1 41 i = 0 ↔ F i i = false := by
  constructor
  · intro z
    rw [← h i hi i, z, Bt_zero]
  · intro z
    apply Bt_ext
    intro p _
    rw [h i hi p, Bt_zero]
    cases hf : F i p with
    | false => rfl
    | true => rw [(hPt.1 i p hf).1] at z; cases z
def enc6 (s : Int32 × Nat) : Int32 × Int32 := (if s.2 = 0 then -1 else nI (s.2 - 1), s.1)
theorem seek6_is {τ : az_S} (hM : RM τ n T Y R) (hA : Ab n T R) (hL : Lw τ R) (hF : RF τ F) (hPt : Pt T F) (w2 : Int32) : az_it (fun ι s => b_X6_laysFields_63 τ (nI (tot R)) w2 ι s.1 s.2) 144 0 ((-1 : Int32), (0 : Int32)) = enc6 (seek T R F) := by
  have k : ∀ m, m ≤ 144 → az_it (fun ι s => b_X6_laysFields_63 τ (nI (tot R)) w2 ι s.1 s.2) m 0 ((-1 : Int32), (0 : Int32)) = enc6 (az_it (sA T R F) m 0 (0, 0)) := by
    intro m
    induction m with
    | zero => intro _; rfl
    | succ m ih =>
      intro hm
      have hok := seek_ok T R F m
      rw [az_it_snoc, az_it_snoc, ih (by omega), Nat.zero_add]
      generalize az_it (sA T R F) m 0 (0, 0) = s at hok
      have hpos := hok.pos
      have ha : m / 12 < 12 := by omega
      have hb : m % 12 < 12 := by omega
      have hbd : b_X6_laysFields_63 τ (nI (tot R)) w2 m (enc6 s).1 (enc6 s).2 = if nI (m % 12) ≤ nI (m / 12) then (if 0 ≤ s.1 then enc6 s else (nI m, 0)) else if τ.2.1 41 (m / 12) = 0 then (if 0 ≤ s.1 then enc6 s else (nI m, 0)) else if τ.2.1 41 (m % 12) = 0 then (if 0 ≤ s.1 then enc6 s else (nI m, 0)) else
          if x_X6_gains τ (τ.2.1 41 (m / 12)) (τ.2.1 41 (m % 12)) (nI (tot R)) ≤ s.1 then enc6 s else (nI m, x_X6_gains τ (τ.2.1 41 (m / 12)) (τ.2.1 41 (m % 12)) (nI (tot R))) := rfl
      show b_X6_laysFields_63 τ (nI (tot R)) w2 m (enc6 s).1 (enc6 s).2 = _
      rw [hbd, gains_is hM hA hL, gA_congr (fun i _ => hF _ ha i) (fun i _ => hF _ hb i), if_pos hpos]
      unfold sA
      by_cases hlt : m / 12 < m % 12
      · have e3 : decide (m / 12 < m % 12) = true := by simp [hlt]
        rw [if_neg (fun z => by have := (nI_leI (by omega) (by omega)).mp z; omega), e3, Bool.true_and]
        cases h1 : F (m / 12) (m / 12) with
        | false => rw [if_pos ((hF.zero hPt ha).mpr h1)]; rfl
        | true =>
          rw [if_neg (fun z => by rw [(hF.zero hPt ha).mp z] at h1; cases h1)]
          cases h2 : F (m % 12) (m % 12) with
          | false => rw [if_pos ((hF.zero hPt hb).mpr h2)]; rfl
          | true =>
            rw [if_neg (fun z => by rw [(hF.zero hPt hb).mp z] at h2; cases h2), if_pos (by decide : (true && true) = true)]
            by_cases hg : gA T R (F (m / 12)) (F (m % 12)) ≤ s.1
            · rw [if_pos hg, if_pos hg]
            · rw [if_neg hg, if_neg hg]
              unfold enc6
              dsimp only
              rw [if_neg (by omega), Nat.add_sub_cancel]
      · have e3 : decide (m / 12 < m % 12) = false := by simp; omega
        rw [if_pos ((nI_leI (by omega) (by omega)).mpr (by omega)), e3, Bool.false_and, if_neg (by decide)]
  exact k 144 (Nat.le_refl _)
/-! two fields are joined -/
def jF (F : Nat → Nat → Bool) (lo hi : Nat) : Nat → Nat → Bool := fun i p => if i = lo then F lo p || F hi p else if i = hi then false else F i p
theorem jF_lo (F : Nat → Nat → Bool) (lo hi : Nat) : jF F lo hi lo = fun p => F lo p || F hi p := by
  funext p
  unfold jF
  rw [if_pos rfl]
theorem jF_hi (F : Nat → Nat → Bool) {lo hi : Nat} (h : lo ≠ hi) : jF F lo hi hi = fun _ => false := by
  funext p
  unfold jF
  rw [if_neg (fun z => h z.symm), if_pos rfl]
theorem jF_ne (F : Nat → Nat → Bool) {lo hi i : Nat} (h : i ≠ lo) (h2 : i ≠ hi) : jF F lo hi i = F i := by
  funext p
  unfold jF
  rw [if_neg h, if_neg h2]
theorem jF_own (F : Nat → Nat → Bool) {lo hi : Nat} (h : lo ≠ hi) (h1 : F lo lo = true) (i : Nat) : jF F lo hi i i = (F i i && !(i == hi)) := by
  by_cases e : i = lo
  · subst e
    have e2 : (i == hi) = false := by simp [h]
    rw [jF_lo, e2]
    show (F i i || F hi i) = _
    rw [h1]; rfl
  · by_cases e2 : i = hi
    · subst e2
      rw [jF_hi F h]; simp
    · have e3 : (i == hi) = false := by simp [e2]
      rw [jF_ne F e e2, e3]; simp
theorem Pt_join (h : Pt T F) {lo hi : Nat} (hlt : lo < hi) (h1 : F lo lo = true) : Pt T (jF F lo hi) := by
  obtain ⟨q1, q2, q3⟩ := h
  have hne : lo ≠ hi := by omega
  refine ⟨fun i p hf => ?_, fun i j p hf hf2 => ?_, fun p ht => ?_⟩
  · by_cases e : i = lo
    · subst e
      rw [jF_lo] at hf
      have hf : (F i p || F hi p) = true := hf
      rw [Bool.or_eq_true] at hf
      refine ⟨by rw [jF_own F hne h1, h1]; simp [hne], ?_⟩
      rcases hf with hf | hf
      · exact (q1 i p hf).2
      · obtain ⟨-, b, c⟩ := q1 hi p hf
        exact ⟨by omega, c⟩
    · by_cases e2 : i = hi
      · subst e2; rw [jF_hi F hne] at hf; cases hf
      · rw [jF_ne F e e2] at hf
        obtain ⟨a, b⟩ := q1 i p hf
        refine ⟨?_, b⟩
        rw [jF_own F hne h1, a]; simp [e2]
  · have key : ∀ i, jF F lo hi i p = true → (F i p = true ∧ i ≠ hi) ∨ (i = lo ∧ F hi p = true) := by
      intro i hf
      by_cases e : i = lo
      · subst e
        rw [jF_lo] at hf
        have hf : (F i p || F hi p) = true := hf
        rw [Bool.or_eq_true] at hf
        rcases hf with hf | hf
        · exact Or.inl ⟨hf, hne⟩
        · exact Or.inr ⟨rfl, hf⟩
      · by_cases e2 : i = hi
        · subst e2; rw [jF_hi F hne] at hf; cases hf
        · rw [jF_ne F e e2] at hf
          exact Or.inl ⟨hf, e2⟩
    rcases key i hf with ⟨a, a2⟩ | ⟨a, a2⟩ <;> rcases key j hf2 with ⟨b, b2⟩ | ⟨b, b2⟩
    · exact q2 i j p a b
    · exact absurd (q2 i hi p a b2) a2
    · exact absurd (q2 j hi p b a2) b2
    · rw [a, b]
  · obtain ⟨i, hi'⟩ := q3 p ht
    by_cases e : i = hi
    · refine ⟨lo, ?_⟩
      rw [jF_lo]
      show (F lo p || F hi p) = true
      rw [← e, hi']; simp
    · by_cases e2 : i = lo
      · refine ⟨lo, ?_⟩
        rw [jF_lo]
        show (F lo p || F hi p) = true
        rw [← e2, hi']; rfl
      · exact ⟨i, by rw [jF_ne F e2 e]; exact hi'⟩
def cF (F : Nat → Nat → Bool) : Nat := cnt (fun i => F i i) 12
theorem cF_join {lo hi : Nat} (hlt : lo < hi) (hh : hi < 12) (h1 : F lo lo = true) (h2 : F hi hi = true) : cF F = cF (jF F lo hi) + 1 ∧ 1 ≤ cF (jF F lo hi) := by
  have hne : lo ≠ hi := by omega
  have e : cF F = cF (jF F lo hi) + 1 := by
    unfold cF
    rw [cnt_one (P := fun i => jF F lo hi i i) (Q := fun i => F i i) (c := hi) (fun k hk => by
      show F k k = jF F lo hi k k
      have e3 : (k == hi) = false := by simp [hk]
      rw [jF_own F hne h1, e3]; simp) (fun _ => h2)]
    show _ + (if hi < 12 ∧ (F hi hi && !(jF F lo hi hi hi)) = true then 1 else 0) = _
    rw [jF_hi F hne, h2]
    simp [hh]
  refine ⟨e, ?_⟩
  unfold cF
  have := cnt_mono (P := fun i => i == lo) (Q := fun i => jF F lo hi i i) (fun i hi' => by
    have hi' : (i == lo) = true := hi'
    rw [beq_iff_eq] at hi'
    subst hi'
    show jF F i hi i i = true
    rw [jF_own F hne h1, h1]; simp [hne]) 12
  have e2 : cnt (fun i => i == lo) 12 = 1 := by
    rw [cnt_sN, sN_pick (f := fun _ => 1), if_pos (by omega)]
  omega
end AZC2
