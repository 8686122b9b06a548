/-! the model: what its walks need -/
section AZM
variable {K : az_K} {cells slots pc : Nat} {lo : List (Option Value)} {rest : List Value}
theorem AW_kiw2 {X : Int32 × az_S} {a : Int32} {b : az_S} (hX : X = (a, b)) (k : AW K cells slots pc lo (.int a :: rest) (wd b)) : ∀ (r : Option Value) (hp' : az_H), (r = some (.int X.1) ∧ hp' = wd X.2) → AW K cells slots pc lo (r.toList ++ rest) hp' := by
  rintro r hp' ⟨rfl, rfl⟩
  rw [hX]
  exact k
theorem az_nn_of {τ σ : az_S} (h : τ.1 8 = σ.1 8) : nn τ = nn σ := by
  unfold nn
  rw [h]
theorem az_wf_of {τ σ : az_S} (h : τ.1 8 = σ.1 8) (hw : az_wf σ) : az_wf τ := by
  unfold az_wf
  rw [az_nn_of h, h]
  exact hw
theorem az_it_keep {S T : Type} (f : S → T) {b : Nat → S → S} (h : ∀ i s, f (b i s) = f s) : ∀ (n i : Nat) (s : S), f (az_it b n i s) = f s
  | 0, _, _ => rfl
  | n + 1, i, s => (az_it_keep f h n (i + 1) (b i s)).trans (h i s)
theorem az_dn_keep {S T : Type} (f : S → T) {b : Nat → S → S} (h : ∀ i s, f (b i s) = f s) : ∀ (n : Nat) (s : S), f (az_dn b n s) = f s
  | 0, _ => rfl
  | n + 1, s => (az_dn_keep f h n (b n s)).trans (h n s)
theorem az_k8F (σ : az_S) (v : Int32) (k : Nat) : (sF σ k v).1 8 = if 8 = k then v else σ.1 8 := rfl
theorem az_k8G (σ : az_S) (k : Nat) (g : Nat → Int32) : (sG σ k g).1 8 = σ.1 8 := rfl
theorem az_k8L (σ : az_S) (k : Nat) (g : Nat → Int64) : (sL σ k g).1 8 = σ.1 8 := rfl
theorem az_ob_c1 {σ : az_S} (hw : az_wf σ) (h : ¬ σ.1 8 = 0) : vp_in (σ.1 8 - 1) 12 := by
  obtain ⟨h1, h2⟩ := hw
  rw [h1] at h ⊢
  rcases hn : nn σ with _ | k
  · rw [hn] at h
    exact absurd rfl h
  · rw [nI_pred]
    exact vp_in_nI (by omega) (by decide)
theorem az_ob_c2 {σ : az_S} (hw : az_wf σ) (h : ¬ σ.1 8 = 12) : vp_in (σ.1 8) 12 := by
  obtain ⟨h1, h2⟩ := hw
  rw [h1] at h ⊢
  refine vp_in_nI ?_ (by decide)
  rcases Nat.lt_or_ge (nn σ) 12 with q | q
  · exact q
  · have : nn σ = 12 := by omega
    rw [this] at h
    exact absurd rfl h
/-- from 0 ≤ x ≤ come - 1 -/
theorem az_ob_p {σ : az_S} {x : Int32} (hw : az_wf σ) (h1 : ¬ x < 0) (h2 : ¬ σ.1 8 - 1 < x) : vp_in x 12 := by
  obtain ⟨h3, h4⟩ := hw
  rw [h3] at h2
  rw [vp_in_iff]
  rw [Int32.lt_iff_toInt_lt] at h1 h2
  have e1 : (0 : Int32).toInt = 0 := rfl
  have e2 : (nI (nn σ) - 1).toInt = (nn σ : Int) - 1 := by
    have := pk_sub_toInt (a := nn σ) (b := 1) (by omega) (by decide)
    exact this
  omega
theorem az_dn_inv {S : Type} {b : Nat → S → S} (P : S → Prop) (N : Nat) (h : ∀ n s, n < N → P s → P (b n s)) : ∀ (n : Nat) (s : S), n ≤ N → P s → P (az_dn b n s)
  | 0, _, _, hs => hs
  | n + 1, s, hn, hs => az_dn_inv P N h n (b n s) (by omega) (h n s (by omega) hs)
theorem az_it_inv {S : Type} {b : Nat → S → S} (P : S → Prop) (N : Nat) (h : ∀ i s, i < N → P s → P (b i s)) : ∀ (n i : Nat) (s : S), i + n ≤ N → P s → P (az_it b n i s)
  | 0, _, _, _, hs => hs
  | n + 1, i, s, hn, hs => az_it_inv P N h n (i + 1) (b i s) (by omega) (h i s (by omega) hs)
/-- the same with the place told -/
theorem az_it_invi {S : Type} {b : Nat → S → S} (P : Nat → S → Prop) (N : Nat) (h : ∀ i s, i < N → P i s → P (i + 1) (b i s)) : ∀ (n i : Nat) (s : S), i + n = N → P i s → P N (az_it b n i s)
  | 0, i, s, hn, hs => by
    have : i = N := hn
    rw [← this]
    exact hs
  | n + 1, i, s, hn, hs => az_it_invi P N h n (i + 1) (b i s) (by omega) (h i s (by omega) hs)
theorem az_vp {x : Int32} {n : Nat} (h : vp_in x n) (hn : n ≤ 12) : x = nI x.toNatClampNeg ∧ x.toNatClampNeg < n ∧ vp_in x 12 := by
  obtain ⟨j, hj, rfl⟩ := vp_in_of h (by omega)
  rw [nI_clamp (by omega)]
  exact ⟨rfl, hj, vp_in_nI (by omega) (by decide)⟩
theorem az_o0 {d : Int32} {pp : Nat} (h : d = nI pp) : nI (pp + 0) ≤ d := by
  rw [h]
  exact Int32.le_refl _
theorem az_o1 {d : Int32} {pp n : Nat} (h : d = nI pp) (hb : pp + n + 1 < 2 ^ 31) : ¬ nI (pp + n + 1) ≤ d := by
  rw [h]
  exact nI_ge (by omega) hb
theorem az_off {n pp : Nat} (h : pp < n) : nI n - 1 = nI (pp + (n - 1 - pp)) := by
  rw [show n = (pp + (n - 1 - pp)) + 1 by omega, nI_pred]
  congr 1
  omega
theorem az_ws_keep {S T : Type} (f : S → T) {st : S → Bool} {b : Nat → S → S} (h : ∀ i s, f (b i s) = f s) : ∀ (n i : Nat) (s : S), f (az_ws st b n i s) = f s
  | 0, _, _ => rfl
  | n + 1, i, s => by
    unfold az_ws
    split
    · rfl
    · exact (az_ws_keep f h n (i + 1) (b i s)).trans (h i s)
/-- how many of the first k fields aren't empty -/
def cfn (f : Nat → Int32) : Nat → Nat
  | 0 => 0
  | k + 1 => cfn f k + if f k = 0 then 0 else 1
theorem cfn_le {f g : Nat → Int32} (h : ∀ j, f j = 0 → g j = 0) : ∀ k, cfn g k ≤ cfn f k
  | 0 => Nat.le_refl _
  | k + 1 => by
    unfold cfn
    have := cfn_le h k
    by_cases hf : f k = 0
    · rw [if_pos hf, if_pos (h k hf)]
      omega
    · rw [if_neg hf]
      split <;> omega
theorem cfn_lt {f g : Nat → Int32} (h : ∀ j, f j = 0 → g j = 0) {b : Nat} (hf : ¬ f b = 0) (hg : g b = 0) : ∀ k, b < k → cfn g k < cfn f k
  | 0, hb => by omega
  | k + 1, hb => by
    unfold cfn
    by_cases hbk : b = k
    · subst hbk
      have := cfn_le h b
      rw [if_neg hf, if_pos hg]
      omega
    · have := cfn_lt h hf hg k (by omega)
      by_cases hf2 : f k = 0
      · rw [if_pos hf2, if_pos (h k hf2)]
        omega
      · rw [if_neg hf2]
        split <;> omega
theorem cfn_all (f : Nat → Int32) : ∀ k, cfn f k ≤ k
  | 0 => Nat.le_refl _
  | k + 1 => by
    unfold cfn
    have := cfn_all f k
    split <;> omega
section
variable {own : String} {cc : ByteArray} {R0 : Room} {l0 : Launch} {tb : List (Nat × Instr)} {hp : az_H}
theorem AW_iastv (hT : az_Tb cc tb) (hK : az_OK K own cc R0 l0) (i j : Nat) {k n : Nat} {x v : Int32} {f : Nat → Int32} (hi : tb[i]? = some (pc, .iastore)) (hk : hp[k]? = some (.inl (0, n, .inl f))) (hx : x = nI j) (hj : j < n) (hn : n < 2 ^ 31) (kk : AW K cells slots (pc + 1) lo rest (hp.set k (.inl (0, n, .inl (va_up f j v))))) : AW K cells slots pc lo (.int v :: .int x :: .ref k :: rest) hp := AW_iast hT hK i j hi hk hx hj hn kk
theorem AW_lastv (hT : az_Tb cc tb) (hK : az_OK K own cc R0 l0) (i j : Nat) {k n : Nat} {x : Int32} {v : Int64} {f : Nat → Int64} (hi : tb[i]? = some (pc, .lastore)) (hk : hp[k]? = some (.inl (1, n, .inr (.inl f)))) (hx : x = nI j) (hj : j < n) (hn : n < 2 ^ 31) (kk : AW K cells slots (pc + 1) lo rest (hp.set k (.inl (1, n, .inr (.inl (va_up f j v)))))) : AW K cells slots pc lo (.long v :: .int x :: .ref k :: rest) hp := AW_last hT hK i j hi hk hx hj hn kk
theorem AW_iastvx (hT : az_Tb cc tb) (hK : az_OK K own cc R0 l0) (i : Nat) {k n : Nat} {x v : Int32} {f : Nat → Int32} (hi : tb[i]? = some (pc, .iastore)) (hk : hp[k]? = some (.inl (0, n, .inl f))) (hin : vp_in x n) (kk : AW K cells slots (pc + 1) lo rest (hp.set k (.inl (0, n, .inl (va_up f x.toNatClampNeg v))))) : AW K cells slots pc lo (.int v :: .int x :: .ref k :: rest) hp := AW_iastx hT hK i hi hk hin kk
theorem AW_zastvx (hT : az_Tb cc tb) (hK : az_OK K own cc R0 l0) (i : Nat) {k n : Nat} {x v : Int32} {f : Nat → Int32} (hi : tb[i]? = some (pc, .bastore)) (hk : hp[k]? = some (.inl (2, n, .inl f))) (hin : vp_in x n) (hv : vp_nar .boolean v = v) (kk : AW K cells slots (pc + 1) lo rest (hp.set k (.inl (2, n, .inl (va_up f x.toNatClampNeg v))))) : AW K cells slots pc lo (.int v :: .int x :: .ref k :: rest) hp := AW_zastx hT hK i hi hk hin (by rw [hv]; exact kk)
end
theorem wd_38 (σ : az_S) (f : Nat → Int32) : (wd σ).set 38 (.inl (0, 12, .inl f)) = wd (sG σ 38 f) := rfl
theorem wd_39 (σ : az_S) (f : Nat → Int32) : (wd σ).set 39 (.inl (0, 12, .inl f)) = wd (sG σ 39 f) := rfl
theorem wd_40 (σ : az_S) (f : Nat → Int32) : (wd σ).set 40 (.inl (0, 144, .inl f)) = wd (sG σ 40 f) := rfl
theorem wd_41 (σ : az_S) (f : Nat → Int32) : (wd σ).set 41 (.inl (0, 12, .inl f)) = wd (sG σ 41 f) := rfl
theorem wd_42 (σ : az_S) (f : Nat → Int32) : (wd σ).set 42 (.inl (0, 12, .inl f)) = wd (sG σ 42 f) := rfl
theorem wd_43 (σ : az_S) (f : Nat → Int32) : (wd σ).set 43 (.inl (0, 12, .inl f)) = wd (sG σ 43 f) := rfl
theorem wd_37 (σ : az_S) (f : Nat → Int32) : (wd σ).set 37 (.inl (2, 12, .inl f)) = wd (sG σ 37 f) := rfl
theorem wd_44 (σ : az_S) (f : Nat → Int64) : (wd σ).set 44 (.inl (1, 12, .inr (.inl f))) = wd (sL σ 44 f) := rfl
theorem az_m0 {d : Int32} {pp i : Nat} (hpp : pp < 2 ^ 31) (hi : i + 0 = max pp d.toNatClampNeg) : d ≤ nI i := by
  have hi : i = max pp d.toNatClampNeg := hi
  rcases az_tc d with ⟨h, h2⟩ | ⟨h, h2, h3⟩
  · have : i < 2 ^ 31 := by omega
    have e1 := nI_toInt this
    rw [Int32.lt_iff_toInt_lt] at h
    rw [Int32.le_iff_toInt_le]
    have e2 : (0 : Int32).toInt = 0 := rfl
    omega
  · rw [h2]
    exact nI_le (by omega) (by omega)
theorem az_m1 {d : Int32} {pp i n : Nat} (hpi : pp ≤ i) (hi : i + (n + 1) = max pp d.toNatClampNeg) : ¬ d ≤ nI i := by
  rcases az_tc d with ⟨h, h2⟩ | ⟨h, h2, h3⟩
  · omega
  · rw [h2]
    exact nI_ge (by omega) h3
theorem az_sh {x : Int32} (h : vp_in x 12) : (1 <<< (x &&& 31) : Int32) = nI (1 <<< (x &&& 31) : Int32).toNatClampNeg ∧ (1 <<< (x &&& 31) : Int32).toNatClampNeg < 2 ^ 31 := by
  obtain ⟨j, hj, rfl⟩ := vp_in_of h (by decide)
  have : ∀ j : Fin 12, ((1 <<< (nI j.val &&& 31) : Int32) = nI (1 <<< (nI j.val &&& 31) : Int32).toNatClampNeg ∧ (1 <<< (nI j.val &&& 31) : Int32).toNatClampNeg < 2 ^ 31) := by decide +kernel
  exact this ⟨j, hj⟩
end AZM
