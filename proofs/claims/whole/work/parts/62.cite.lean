/-! citings come and go: the tables of shared references and of joint citings follow -/
section AZB3
def Fr (ks : List Nat) (σ τ : az_S) : Prop := τ.1 = σ.1 ∧ (∀ k, k ∉ ks → τ.2.1 k = σ.2.1 k) ∧ τ.2.2 = σ.2.2
theorem Fr.rfl {ks : List Nat} {σ : az_S} : Fr ks σ σ := ⟨_root_.rfl, fun _ _ => _root_.rfl, _root_.rfl⟩
theorem Fr.trans {ks : List Nat} {σ τ υ : az_S} (h : Fr ks σ τ) (h2 : Fr ks τ υ) : Fr ks σ υ := ⟨h2.1.trans h.1, fun k hk => (h2.2.1 k hk).trans (h.2.1 k hk), h2.2.2.trans h.2.2⟩
theorem Fr.up {ks : List Nat} {σ : az_S} {k : Nat} (g : Nat → Int32) (h : k ∈ ks) : Fr ks σ (sG σ k g) := ⟨_root_.rfl, fun j hj => sG_ne σ g (fun e => hj (e ▸ h)), _root_.rfl⟩
theorem Fr.mono {ks ls : List Nat} {σ τ : az_S} (h : Fr ks σ τ) (hs : ∀ k, k ∈ ks → k ∈ ls) : Fr ls σ τ := ⟨h.1, fun k hk => h.2.1 k (fun z => hk (hs k z)), h.2.2⟩
def tS (R : Nat → Nat → Bool) (a b : Nat) : Nat := cnt (fun k => R a k && R b k) 12
def tJ (R : Nat → Nat → Bool) (a b : Nat) : Nat := cnt (fun k => R k a && R k b) 12
def rAdd (R : Nat → Nat → Bool) (p c : Nat) : Nat → Nat → Bool := fun i j => R i j || (i == p && j == c)
def dS (R : Nat → Nat → Bool) (p c a b : Nat) : Bool := (a == p && b == p) || (a == p && R b c) || (b == p && R a c)
def dJ (R : Nat → Nat → Bool) (p c a b : Nat) : Bool := (a == c && b == c) || (a == c && R p b) || (b == c && R p a)
theorem cnt_one {P Q : Nat → Bool} {c : Nat} (h : ∀ k, k ≠ c → Q k = P k) (hP : P c = true → Q c = true) : ∀ n, cnt Q n = cnt P n + if c < n ∧ (Q c && !P c) = true then 1 else 0
  | 0 => by simp [cnt]
  | n + 1 => by
    unfold cnt
    rw [cnt_one h hP n]
    by_cases e : n = c
    · subst e
      have h1 : ¬ n < n := by omega
      have h2 : n < n + 1 := by omega
      cases hp : P n
      · cases hq : Q n <;> simp [hp, hq]
      · simp [hp, hP hp]
    · rw [h n e]
      by_cases hc : c < n
      · have : c < n + 1 := by omega
        simp only [hc, this, true_and]
        omega
      · have : ¬ c < n + 1 := by omega
        simp only [hc, this, false_and]
        simp
theorem tS_add {R : Nat → Nat → Bool} {p c : Nat} (hc : c < 12) (h : R p c = false) (a b : Nat) : tS (rAdd R p c) a b = tS R a b + if dS R p c a b = true then 1 else 0 := by
  unfold tS
  rw [cnt_one (P := fun k => R a k && R b k) (Q := fun k => rAdd R p c a k && rAdd R p c b k) (c := c)]
  · have : (((rAdd R p c a c && rAdd R p c b c) && !(R a c && R b c)) = dS R p c a b) := by
      unfold rAdd dS
      have ha : (a == p) = true → R a c = false := fun e => by rw [beq_iff_eq] at e; rw [e]; exact h
      have hb : (b == p) = true → R b c = false := fun e => by rw [beq_iff_eq] at e; rw [e]; exact h
      rw [beq_self_eq_true]
      revert ha hb
      cases (a == p) <;> cases (b == p) <;> cases R a c <;> cases R b c <;> simp
    show _ + (if c < 12 ∧ (((rAdd R p c a c && rAdd R p c b c) && !(R a c && R b c))) = true then 1 else 0) = _
    rw [this]
    simp [hc]
  · intro k hk
    have e : (k == c) = false := by simp [hk]
    show (rAdd R p c a k && rAdd R p c b k) = (R a k && R b k)
    unfold rAdd
    rw [e, Bool.and_false, Bool.and_false, Bool.or_false, Bool.or_false]
  · intro hP
    have hP : (R a c && R b c) = true := hP
    show (rAdd R p c a c && rAdd R p c b c) = true
    unfold rAdd
    rw [Bool.and_eq_true] at hP
    rw [hP.1, hP.2]
    rfl
theorem tJ_add {R : Nat → Nat → Bool} {p c : Nat} (hp : p < 12) (h : R p c = false) (a b : Nat) : tJ (rAdd R p c) a b = tJ R a b + if dJ R p c a b = true then 1 else 0 := by
  unfold tJ
  rw [cnt_one (P := fun k => R k a && R k b) (Q := fun k => rAdd R p c k a && rAdd R p c k b) (c := p)]
  · have : (((rAdd R p c p a && rAdd R p c p b) && !(R p a && R p b)) = dJ R p c a b) := by
      unfold rAdd dJ
      have ha : (a == c) = true → R p a = false := fun e => by rw [beq_iff_eq] at e; rw [e]; exact h
      have hb : (b == c) = true → R p b = false := fun e => by rw [beq_iff_eq] at e; rw [e]; exact h
      rw [beq_self_eq_true]
      revert ha hb
      cases (a == c) <;> cases (b == c) <;> cases R p a <;> cases R p b <;> simp
    show _ + (if p < 12 ∧ (((rAdd R p c p a && rAdd R p c p b) && !(R p a && R p b))) = true then 1 else 0) = _
    rw [this]
    simp [hp]
  · intro k hk
    have e : (k == p) = false := by simp [hk]
    show (rAdd R p c k a && rAdd R p c k b) = (R k a && R k b)
    unfold rAdd
    rw [e, Bool.false_and, Bool.false_and, Bool.or_false, Bool.or_false]
  · intro hP
    have hP : (R p a && R p b) = true := hP
    show (rAdd R p c p a && rAdd R p c p b) = true
    unfold rAdd
    rw [Bool.and_eq_true] at hP
    rw [hP.1, hP.2]
    rfl
def rr (σ : az_S) (i j : Nat) : Bool := Bt (σ.2.1 5 i) j
theorem cc_step (σ : az_S) (g9 g11 : Nat → Int32) {p c i : Nat} (hp : p < 12) (hc : c < 12) (hi : i < 12) (v : Int32) :
    b_X3_countCiting_23 (nI p) (nI c) v i (sG (sG σ 9 g9) 11 g11) = sG (sG σ 9 (if rr σ i c = true then tset g9 p i (g9 (p * 12 + i) + v) else g9)) 11 (if rr σ p i = true then tset g11 c i (g11 (c * 12 + i) + v) else g11) := by
  have e5 : (sG (sG σ 9 g9) 11 g11).2.1 5 = σ.2.1 5 := rfl
  have e9 : (sG (sG σ 9 g9) 11 g11).2.1 9 = g9 := rfl
  have e11 : (sG (sG σ 9 g9) 11 g11).2.1 11 = g11 := rfl
  have h9 : sG (sG (sG σ 9 g9) 11 g11) 9 (tset g9 p i (g9 (p * 12 + i) + v)) = sG (sG σ 9 (tset g9 p i (g9 (p * 12 + i) + v))) 11 g11 := by
    rw [sG_comm _ (by decide : (11 : Nat) ≠ 9), sG_sG]
  unfold b_X3_countCiting_23
  show (if x_X3_cites (sG (sG σ 9 g9) 11 g11) (nI i) (nI c) = 0 then
      (if x_X3_cites (sG (sG σ 9 g9) 11 g11) (nI p) (nI i) = 0 then sG (sG σ 9 g9) 11 g11 else x_X4_add_10 (sG (sG σ 9 g9) 11 g11) (nI c) (nI i) v)
    else (if x_X3_cites (x_X4_add_8 (sG (sG σ 9 g9) 11 g11) (nI p) (nI i) v) (nI p) (nI i) = 0 then x_X4_add_8 (sG (sG σ 9 g9) 11 g11) (nI p) (nI i) v else x_X4_add_10 (x_X4_add_8 (sG (sG σ 9 g9) 11 g11) (nI p) (nI i) v) (nI c) (nI i) v)) = _
  rw [add_t8 _ v hp hi, e9, h9, cites_at _ hi hc, cites_at _ hp hi, cites_at _ hp hi, add_t10 _ v hc hi, add_t10 _ v hc hi, sG_sG, sG_sG]
  show (if (if rr σ i c = true then 1 else 0 : Int32) = 0 then
      (if (if rr σ p i = true then 1 else 0 : Int32) = 0 then _ else _) else (if (if rr σ p i = true then 1 else 0 : Int32) = 0 then _ else _)) = _
  cases rr σ i c <;> cases rr σ p i <;> rfl
/-- one entry of the loop: what row p (and column p) gains at the others -/
theorem tset_loop {g f : Nat → Int32} {q : Nat → Bool} {p m : Nat} {v : Int32} (hp : p < 12) (hm : m < 12) (hq : q p = false) (hs : ∀ a b, a < 12 → b < 12 → f (a * 12 + b) = f (b * 12 + a))
    (h : ∀ a b, a < 12 → b < 12 → g (a * 12 + b) = f (a * 12 + b) + if ((a == p && q b && decide (b < m)) || (b == p && q a && decide (a < m))) = true then v else 0) {a b : Nat} (ha : a < 12) (hb : b < 12) :
    (if q m = true then tset g p m (g (p * 12 + m) + v) else g) (a * 12 + b) = f (a * 12 + b) + if ((a == p && q b && decide (b < m + 1)) || (b == p && q a && decide (a < m + 1))) = true then v else 0 := by
  have hlt : ∀ x, x ≠ m → (decide (x < m + 1)) = (decide (x < m)) := fun x hx => by
    by_cases h1 : x < m
    · have : x < m + 1 := by omega
      simp [h1, this]
    · have : ¬ x < m + 1 := by omega
      simp [h1, this]
  by_cases hqm : q m = true
  · have hmp : m ≠ p := fun e => by rw [e, hq] at hqm; cases hqm
    have hmp' : p ≠ m := fun e => hmp e.symm
    rw [if_pos hqm, tset_at g _ hp hm ha hb]
    by_cases e1 : a = p ∧ b = m
    · obtain ⟨rfl, rfl⟩ := e1
      rw [if_pos (Or.inl ⟨rfl, rfl⟩), h a b ha hb]
      simp [hqm, hmp, hq]
    · by_cases e2 : a = m ∧ b = p
      · obtain ⟨rfl, rfl⟩ := e2
        rw [if_pos (Or.inr ⟨rfl, rfl⟩), h b a hb ha, hs a b ha hb]
        simp [hqm, hmp, hq]
      · rw [if_neg (by omega), h a b ha hb]
        have k1 : (a == p && q b && decide (b < m + 1)) = (a == p && q b && decide (b < m)) := by
          by_cases e : b = m
          · have : (a == p) = false := by simp; exact fun z => e1 ⟨z, e⟩
            rw [this]; rfl
          · rw [hlt b e]
        have k2 : (b == p && q a && decide (a < m + 1)) = (b == p && q a && decide (a < m)) := by
          by_cases e : a = m
          · have : (b == p) = false := by simp; exact fun z => e2 ⟨e, z⟩
            rw [this]; rfl
          · rw [hlt a e]
        rw [k1, k2]
  · rw [if_neg hqm, h a b ha hb]
    have hqm : q m = false := by simpa using hqm
    have k1 : (a == p && q b && decide (b < m + 1)) = (a == p && q b && decide (b < m)) := by
      by_cases e : b = m
      · rw [e, hqm]; simp
      · rw [hlt b e]
    have k2 : (b == p && q a && decide (a < m + 1)) = (b == p && q a && decide (a < m)) := by
      by_cases e : a = m
      · rw [e, hqm]; simp
      · rw [hlt a e]
    rw [k1, k2]
theorem cc_loop (σ : az_S) (f9 f11 : Nat → Int32) {p c : Nat} (hp : p < 12) (hc : c < 12) (v : Int32) (hr : rr σ p c = false) (hs9 : ∀ a b, a < 12 → b < 12 → f9 (a * 12 + b) = f9 (b * 12 + a)) (hs11 : ∀ a b, a < 12 → b < 12 → f11 (a * 12 + b) = f11 (b * 12 + a)) :
    ∀ m, m ≤ 12 → ∃ g9 g11, az_it (fun ι s => b_X3_countCiting_23 (nI p) (nI c) v ι s) m 0 (sG (sG σ 9 f9) 11 f11) = sG (sG σ 9 g9) 11 g11 ∧
      (∀ a b, a < 12 → b < 12 → g9 (a * 12 + b) = f9 (a * 12 + b) + if ((a == p && rr σ b c && decide (b < m)) || (b == p && rr σ a c && decide (a < m))) = true then v else 0) ∧
      (∀ a b, a < 12 → b < 12 → g11 (a * 12 + b) = f11 (a * 12 + b) + if ((a == c && rr σ p b && decide (b < m)) || (b == c && rr σ p a && decide (a < m))) = true then v else 0) := by
  intro m
  induction m with
  | zero =>
    intro _
    exact ⟨f9, f11, rfl, fun a b _ _ => by simp, fun a b _ _ => by simp⟩
  | succ m ih =>
    intro hm
    obtain ⟨g9, g11, h1, h2, h3⟩ := ih (by omega)
    refine ⟨if rr σ m c = true then tset g9 p m (g9 (p * 12 + m) + v) else g9, if rr σ p m = true then tset g11 c m (g11 (c * 12 + m) + v) else g11, ?_, ?_, ?_⟩
    · rw [az_it_snoc, h1, Nat.zero_add, cc_step σ g9 g11 hp hc (by omega) v]
    · intro a b ha hb
      exact tset_loop (q := fun k => rr σ k c) hp (by omega) hr hs9 h2 ha hb
    · intro a b ha hb
      exact tset_loop (q := fun k => rr σ p k) hc (by omega) hr hs11 h3 ha hb
/-- both tables after countCiting -/
theorem cc_is (σ : az_S) {p c : Nat} (hp : p < 12) (hc : c < 12) (v : Int32) (hr : rr σ p c = false) (hs9 : ∀ a b, a < 12 → b < 12 → σ.2.1 9 (a * 12 + b) = σ.2.1 9 (b * 12 + a)) (hs11 : ∀ a b, a < 12 → b < 12 → σ.2.1 11 (a * 12 + b) = σ.2.1 11 (b * 12 + a)) :
    ∃ g9 g11, x_X3_countCiting σ (nI p) (nI c) v = sG (sG σ 9 g9) 11 g11 ∧
      (∀ a b, a < 12 → b < 12 → g9 (a * 12 + b) = σ.2.1 9 (a * 12 + b) + if dS (rr σ) p c a b = true then v else 0) ∧
      (∀ a b, a < 12 → b < 12 → g11 (a * 12 + b) = σ.2.1 11 (a * 12 + b) + if dJ (rr σ) p c a b = true then v else 0) := by
  have t9 : ∀ a b, a < 12 → b < 12 → tset (σ.2.1 9) p p (σ.2.1 9 (p * 12 + p) + v) (a * 12 + b) = σ.2.1 9 (a * 12 + b) + if (a == p && b == p) = true then v else 0 := by
    intro a b ha hb
    rw [tset_at _ _ hp hp ha hb]
    by_cases e : a = p ∧ b = p
    · obtain ⟨rfl, rfl⟩ := e
      simp
    · have : ¬ ((a == p && b == p) = true) := by simp; exact fun z1 z2 => e ⟨z1, z2⟩
      rw [if_neg this, if_neg (by omega)]
      simp
  have t11 : ∀ a b, a < 12 → b < 12 → tset (σ.2.1 11) c c (σ.2.1 11 (c * 12 + c) + v) (a * 12 + b) = σ.2.1 11 (a * 12 + b) + if (a == c && b == c) = true then v else 0 := by
    intro a b ha hb
    rw [tset_at _ _ hc hc ha hb]
    by_cases e : a = c ∧ b = c
    · obtain ⟨rfl, rfl⟩ := e
      simp
    · have : ¬ ((a == c && b == c) = true) := by simp; exact fun z1 z2 => e ⟨z1, z2⟩
      rw [if_neg this, if_neg (by omega)]
      simp
  obtain ⟨g9, g11, h1, h2, h3⟩ := cc_loop σ (tset (σ.2.1 9) p p (σ.2.1 9 (p * 12 + p) + v)) (tset (σ.2.1 11) c c (σ.2.1 11 (c * 12 + c) + v)) hp hc v hr (fun a b ha hb => by rw [t9 a b ha hb, t9 b a hb ha, hs9 a b ha hb, Bool.and_comm]) (fun a b ha hb => by rw [t11 a b ha hb, t11 b a hb ha, hs11 a b ha hb, Bool.and_comm]) 12 (Nat.le_refl _)
  refine ⟨g9, g11, ?_, fun a b ha hb => ?_, fun a b ha hb => ?_⟩
  · unfold x_X3_countCiting
    show az_it (fun ι s => b_X3_countCiting_23 (nI p) (nI c) v ι s) 12 0 (x_X4_add_10 (x_X4_add_8 σ (nI p) (nI p) v) (nI c) (nI c) v) = _
    rw [add_t8 σ v hp hp, add_t10 _ v hc hc]
    exact h1
  · rw [h2 a b ha hb, t9 a b ha hb, Int32.add_assoc]
    congr 1
    have z1 : decide (a < 12) = true := by simp [ha]
    have z2 : decide (b < 12) = true := by simp [hb]
    rw [z1, z2]
    unfold dS
    have ka : (a == p) = true → rr σ a c = false := fun e => by rw [beq_iff_eq] at e; rw [e]; exact hr
    have kb : (b == p) = true → rr σ b c = false := fun e => by rw [beq_iff_eq] at e; rw [e]; exact hr
    revert ka kb
    cases (a == p) <;> cases (b == p) <;> cases rr σ a c <;> cases rr σ b c <;> simp
  · rw [h3 a b ha hb, t11 a b ha hb, Int32.add_assoc]
    congr 1
    have z1 : decide (a < 12) = true := by simp [ha]
    have z2 : decide (b < 12) = true := by simp [hb]
    rw [z1, z2]
    unfold dJ
    have ka : (a == c) = true → rr σ p a = false := fun e => by rw [beq_iff_eq] at e; rw [e]; exact hr
    have kb : (b == c) = true → rr σ p b = false := fun e => by rw [beq_iff_eq] at e; rw [e]; exact hr
    revert ka kb
    cases (a == c) <;> cases (b == c) <;> cases rr σ p a <;> cases rr σ p b <;> simp
end AZB3
