section AZP
def x_X5_mapAnew (σ : az_S) : az_S :=
  let τ2 := x_X0_findAnew σ
  let τ4 := x_X1_findAnew (τ2)
  τ4
set_option maxRecDepth 100000 in
set_option maxHeartbeats 4000000 in
theorem m_X5_mapAnew (l0 : Launch) (σ : az_S) : AMet l0 yX5_mapAnew cX5_mapAnew 1 none ({ frames := 5, cells := 0, slots := 0, locals := 124 } : Room) false [.ref 0] (wd σ) (fun r h => r = none ∧ h = wd (x_X5_mapAnew σ)) := by
  refine AMet_of (by decide +kernel) (by simp [Value.category]) (Nat.le_of_ble_eq_true rfl) (fun K hK hct hG hE => ?_)
  have hT := tt_X5_mapAnew
  refine AW_g hT cl_X5 hK 0 4 (pc' := 8) (lo' := [some (.ref 0)]) (st' := [.ref 1, .ref 12]) (hp' := wd σ) rfl ?_
  refine AW_callV hT hK 4 [.ref 1] [] (m_X0_findAnew l0 σ) cw_X0_findAnew lk_X5_159 vi_X0_findAnew rfl rfl rfl rfl rfl rfl (Nat.le_of_ble_eq_true rfl) (Nat.le_of_ble_eq_true rfl) (AW_kv (fun τ2 h1 => ?_))
  refine AW_g hT cl_X5 hK 5 4 (pc' := 19) (lo' := [some (.ref 0)]) (st' := [.ref 1, .ref 25]) (hp' := wd (τ2)) rfl ?_
  refine AW_callV hT hK 9 [.ref 1] [] (m_X1_findAnew l0 (τ2)) cw_X1_findAnew lk_X5_163 vi_X1_findAnew rfl rfl rfl rfl rfl rfl (Nat.le_of_ble_eq_true rfl) (Nat.le_of_ble_eq_true rfl) (AW_kv (fun τ4 h3 => ?_))
  refine AW_vret hT hE 10 rfl (Nat.le_of_ble_eq_true rfl) (Nat.le_of_ble_eq_true rfl) ?_
  subst h3; subst h1; exact ⟨rfl, congrArg wd (by simp only [x_X5_mapAnew])⟩
def x_X5_papers (σ : az_S) : Int32 :=
  let v2 := x_X3_allThere σ
  let v4 := x_J6_bitCount_0f7a4 σ v2
  v4
set_option maxRecDepth 100000 in
set_option maxHeartbeats 4000000 in
theorem m_X5_papers (l0 : Launch) (σ : az_S) : AMet l0 yX5_papers cX5_papers 1 (some .int) ({ frames := 1, cells := 0, slots := 0, locals := 20 } : Room) false [.ref 0] (wd σ) (fun r h => r = some (.int (x_X5_papers σ)) ∧ h = wd σ) := by
  refine AMet_of (by decide +kernel) (by simp [Value.category]) (Nat.le_of_ble_eq_true rfl) (fun K hK hct hG hE => ?_)
  have hT := tt_X5_papers
  refine AW_g hT cl_X5 hK 0 2 (pc' := 4) (lo' := [some (.ref 0)]) (st' := [.ref 1]) (hp' := wd σ) rfl ?_
  refine AW_callV hT hK 2 [] [] (m_X3_allThere l0 σ) cw_X3_allThere lk_X5_78 vi_X3_allThere rfl rfl rfl rfl rfl rfl (Nat.le_of_ble_eq_true rfl) (Nat.le_of_ble_eq_true rfl) (AW_k1 (fun v2 h1 => ?_))
  refine AW_callS hT hK 3 [.int v2] [] (m_J6_bitCount_0f7a4 l0 σ v2) cw_J6_bitCount_0f7a4 lk_X5_70 sm_J6_bitCount_0f7a4 rfl rfl rfl rfl (Nat.le_of_ble_eq_true rfl) (Nat.le_of_ble_eq_true rfl) (AW_k1 (fun v4 h3 => ?_))
  refine AW_iret hT hE 4 rfl rfl rfl (Nat.le_of_ble_eq_true rfl) (Nat.le_of_ble_eq_true rfl) ?_
  subst h3; subst h1; exact ⟨by simp only [x_X5_papers], rfl⟩
def x_X5_totalAnew (σ : az_S) : Int32 :=
  let v2 := x_X3_weightsFromReferences σ
  v2
set_option maxRecDepth 100000 in
set_option maxHeartbeats 4000000 in
theorem m_X5_totalAnew (l0 : Launch) (σ : az_S) : AMet l0 yX5_totalAnew cX5_totalAnew 1 (some .int) ({ frames := 4, cells := 0, slots := 0, locals := 90 } : Room) false [.ref 0] (wd σ) (fun r h => r = some (.int (x_X5_totalAnew σ)) ∧ h = wd σ) := by
  refine AMet_of (by decide +kernel) (by simp [Value.category]) (Nat.le_of_ble_eq_true rfl) (fun K hK hct hG hE => ?_)
  have hT := tt_X5_totalAnew
  refine AW_g hT cl_X5 hK 0 2 (pc' := 4) (lo' := [some (.ref 0)]) (st' := [.ref 1]) (hp' := wd σ) rfl ?_
  refine AW_callV hT hK 2 [] [] (m_X3_weightsFromReferences l0 σ) cw_X3_weightsFromReferences lk_X5_91 vi_X3_weightsFromReferences rfl rfl rfl rfl rfl rfl (Nat.le_of_ble_eq_true rfl) (Nat.le_of_ble_eq_true rfl) (AW_k1 (fun v2 h1 => ?_))
  refine AW_iret hT hE 3 rfl rfl rfl (Nat.le_of_ble_eq_true rfl) (Nat.le_of_ble_eq_true rfl) ?_
  subst h1; exact ⟨by simp only [x_X5_totalAnew], rfl⟩
def x_X5_total (σ : az_S) : Int32 :=
  let v2 := x_X3_weightsKept σ
  v2
set_option maxRecDepth 100000 in
set_option maxHeartbeats 4000000 in
theorem m_X5_total (l0 : Launch) (σ : az_S) : AMet l0 yX5_total cX5_total 1 (some .int) ({ frames := 3, cells := 0, slots := 0, locals := 69 } : Room) false [.ref 0] (wd σ) (fun r h => r = some (.int (x_X5_total σ)) ∧ h = wd σ) := by
  refine AMet_of (by decide +kernel) (by simp [Value.category]) (Nat.le_of_ble_eq_true rfl) (fun K hK hct hG hE => ?_)
  have hT := tt_X5_total
  refine AW_g hT cl_X5 hK 0 2 (pc' := 4) (lo' := [some (.ref 0)]) (st' := [.ref 1]) (hp' := wd σ) rfl ?_
  refine AW_callV hT hK 2 [] [] (m_X3_weightsKept l0 σ) cw_X3_weightsKept lk_X5_94 vi_X3_weightsKept rfl rfl rfl rfl rfl rfl (Nat.le_of_ble_eq_true rfl) (Nat.le_of_ble_eq_true rfl) (AW_k1 (fun v2 h1 => ?_))
  refine AW_iret hT hE 3 rfl rfl rfl (Nat.le_of_ble_eq_true rfl) (Nat.le_of_ble_eq_true rfl) ?_
  subst h1; exact ⟨by simp only [x_X5_total], rfl⟩
def x_X5_fields (σ : az_S) : Int32 :=
  let v2 := x_X0_allGroups σ
  let v4 := x_J6_bitCount_0f7a4 σ v2
  v4
set_option maxRecDepth 100000 in
set_option maxHeartbeats 4000000 in
theorem m_X5_fields (l0 : Launch) (σ : az_S) : AMet l0 yX5_fields cX5_fields 1 (some .int) ({ frames := 1, cells := 0, slots := 0, locals := 20 } : Room) false [.ref 0] (wd σ) (fun r h => r = some (.int (x_X5_fields σ)) ∧ h = wd σ) := by
  refine AMet_of (by decide +kernel) (by simp [Value.category]) (Nat.le_of_ble_eq_true rfl) (fun K hK hct hG hE => ?_)
  have hT := tt_X5_fields
  refine AW_g hT cl_X5 hK 0 2 (pc' := 4) (lo' := [some (.ref 0)]) (st' := [.ref 12]) (hp' := wd σ) rfl ?_
  refine AW_callV hT hK 2 [] [] (m_X0_allGroups l0 σ) cw_X0_allGroups lk_X5_107 vi_X0_allGroups rfl rfl rfl rfl rfl rfl (Nat.le_of_ble_eq_true rfl) (Nat.le_of_ble_eq_true rfl) (AW_k1 (fun v2 h1 => ?_))
  refine AW_callS hT hK 3 [.int v2] [] (m_J6_bitCount_0f7a4 l0 σ v2) cw_J6_bitCount_0f7a4 lk_X5_70 sm_J6_bitCount_0f7a4 rfl rfl rfl rfl (Nat.le_of_ble_eq_true rfl) (Nat.le_of_ble_eq_true rfl) (AW_k1 (fun v4 h3 => ?_))
  refine AW_iret hT hE 4 rfl rfl rfl (Nat.le_of_ble_eq_true rfl) (Nat.le_of_ble_eq_true rfl) ?_
  subst h3; subst h1; exact ⟨by simp only [x_X5_fields], rfl⟩
def x_X5_ways (σ : az_S) : Int32 :=
  let v2 := x_X1_wholeWays σ
  v2
set_option maxRecDepth 100000 in
set_option maxHeartbeats 4000000 in
theorem m_X5_ways (l0 : Launch) (σ : az_S) : AMet l0 yX5_ways cX5_ways 1 (some .int) ({ frames := 1, cells := 0, slots := 0, locals := 20 } : Room) false [.ref 0] (wd σ) (fun r h => r = some (.int (x_X5_ways σ)) ∧ h = wd σ) := by
  refine AMet_of (by decide +kernel) (by simp [Value.category]) (Nat.le_of_ble_eq_true rfl) (fun K hK hct hG hE => ?_)
  have hT := tt_X5_ways
  refine AW_g hT cl_X5 hK 0 2 (pc' := 4) (lo' := [some (.ref 0)]) (st' := [.ref 25]) (hp' := wd σ) rfl ?_
  refine AW_callV hT hK 2 [] [] (m_X1_wholeWays l0 σ) cw_X1_wholeWays lk_X5_133 vi_X1_wholeWays rfl rfl rfl rfl rfl rfl (Nat.le_of_ble_eq_true rfl) (Nat.le_of_ble_eq_true rfl) (AW_k1 (fun v2 h1 => ?_))
  refine AW_iret hT hE 3 rfl rfl rfl (Nat.le_of_ble_eq_true rfl) (Nat.le_of_ble_eq_true rfl) ?_
  subst h1; exact ⟨by simp only [x_X5_ways], rfl⟩
def x_X5_mainLength (σ : az_S) : Int32 :=
  let v2 := x_X1_lengthOfMain σ
  v2
set_option maxRecDepth 100000 in
set_option maxHeartbeats 4000000 in
theorem m_X5_mainLength (l0 : Launch) (σ : az_S) : AMet l0 yX5_mainLength cX5_mainLength 1 (some .int) ({ frames := 1, cells := 0, slots := 0, locals := 20 } : Room) false [.ref 0] (wd σ) (fun r h => r = some (.int (x_X5_mainLength σ)) ∧ h = wd σ) := by
  refine AMet_of (by decide +kernel) (by simp [Value.category]) (Nat.le_of_ble_eq_true rfl) (fun K hK hct hG hE => ?_)
  have hT := tt_X5_mainLength
  refine AW_g hT cl_X5 hK 0 2 (pc' := 4) (lo' := [some (.ref 0)]) (st' := [.ref 25]) (hp' := wd σ) rfl ?_
  refine AW_callV hT hK 2 [] [] (m_X1_lengthOfMain l0 σ) cw_X1_lengthOfMain lk_X5_136 vi_X1_lengthOfMain rfl rfl rfl rfl rfl rfl (Nat.le_of_ble_eq_true rfl) (Nat.le_of_ble_eq_true rfl) (AW_k1 (fun v2 h1 => ?_))
  refine AW_iret hT hE 3 rfl rfl rfl (Nat.le_of_ble_eq_true rfl) (Nat.le_of_ble_eq_true rfl) ?_
  subst h1; exact ⟨by simp only [x_X5_mainLength], rfl⟩
def x_X5_mainSum (σ : az_S) : Int64 :=
  let v2 := x_X1_sumOfMain σ
  v2.toInt64
set_option maxRecDepth 100000 in
set_option maxHeartbeats 4000000 in
theorem m_X5_mainSum (l0 : Launch) (σ : az_S) : AMet l0 yX5_mainSum cX5_mainSum 1 (some .long) ({ frames := 1, cells := 0, slots := 0, locals := 20 } : Room) false [.ref 0] (wd σ) (fun r h => r = some (.long (x_X5_mainSum σ)) ∧ h = wd σ) := by
  refine AMet_of (by decide +kernel) (by simp [Value.category]) (Nat.le_of_ble_eq_true rfl) (fun K hK hct hG hE => ?_)
  have hT := tt_X5_mainSum
  refine AW_g hT cl_X5 hK 0 2 (pc' := 4) (lo' := [some (.ref 0)]) (st' := [.ref 25]) (hp' := wd σ) rfl ?_
  refine AW_callV hT hK 2 [] [] (m_X1_sumOfMain l0 σ) cw_X1_sumOfMain lk_X5_147 vi_X1_sumOfMain rfl rfl rfl rfl rfl rfl (Nat.le_of_ble_eq_true rfl) (Nat.le_of_ble_eq_true rfl) (AW_k1 (fun v2 h1 => ?_))
  refine AW_g hT cl_X5 hK 3 1 (pc' := 8) (lo' := [some (.ref 0)]) (st' := [.long v2.toInt64]) (hp' := wd σ) rfl ?_
  refine AW_lret hT hE 4 rfl (Nat.le_of_ble_eq_true rfl) (Nat.le_of_ble_eq_true rfl) ?_
  subst h1; exact ⟨by simp only [x_X5_mainSum], rfl⟩
def x_X5_referencePairs (σ : az_S) (p0 : Int32) (p1 : Int32) : Int32 :=
  let v2 := x_X3_referredBy σ p0
  let v4 := x_J6_bitCount_0f7a4 σ v2
  let v6 := x_X3_referredBy σ p1
  let v8 := x_J6_bitCount_0f7a4 σ v6
  (v4 * v8)
set_option maxRecDepth 100000 in
set_option maxHeartbeats 4000000 in
theorem m_X5_referencePairs (l0 : Launch) (σ : az_S) (p0 : Int32) (p1 : Int32) : AMet l0 yX5_referencePairs cX5_referencePairs 3 (some .int) ({ frames := 2, cells := 0, slots := 0, locals := 42 } : Room) false [.ref 0, .int p0, .int p1] (wd σ) (fun r h => r = some (.int (x_X5_referencePairs σ p0 p1)) ∧ h = wd σ) := by
  refine AMet_of (by decide +kernel) (by simp [Value.category]) (Nat.le_of_ble_eq_true rfl) (fun K hK hct hG hE => ?_)
  have hT := tt_X5_referencePairs
  refine AW_g hT cl_X5 hK 0 3 (pc' := 5) (lo' := [some (.ref 0), some (.int p0), some (.int p1)]) (st' := [.int p0, .ref 1]) (hp' := wd σ) rfl ?_
  refine AW_callV hT hK 3 [.int p0] [] (m_X3_referredBy l0 σ p0) cw_X3_referredBy lk_X5_82 vi_X3_referredBy rfl rfl rfl rfl rfl rfl (Nat.le_of_ble_eq_true rfl) (Nat.le_of_ble_eq_true rfl) (AW_k1 (fun v2 h1 => ?_))
  refine AW_callS hT hK 4 [.int v2] [] (m_J6_bitCount_0f7a4 l0 σ v2) cw_J6_bitCount_0f7a4 lk_X5_70 sm_J6_bitCount_0f7a4 rfl rfl rfl rfl (Nat.le_of_ble_eq_true rfl) (Nat.le_of_ble_eq_true rfl) (AW_k1 (fun v4 h3 => ?_))
  refine AW_g hT cl_X5 hK 5 3 (pc' := 16) (lo' := [some (.ref 0), some (.int p0), some (.int p1)]) (st' := [.int p1, .ref 1, .int v4]) (hp' := wd σ) rfl ?_
  refine AW_callV hT hK 8 [.int p1] [.int v4] (m_X3_referredBy l0 σ p1) cw_X3_referredBy lk_X5_82 vi_X3_referredBy rfl rfl rfl rfl rfl rfl (Nat.le_of_ble_eq_true rfl) (Nat.le_of_ble_eq_true rfl) (AW_k1 (fun v6 h5 => ?_))
  refine AW_callS hT hK 9 [.int v6] [.int v4] (m_J6_bitCount_0f7a4 l0 σ v6) cw_J6_bitCount_0f7a4 lk_X5_70 sm_J6_bitCount_0f7a4 rfl rfl rfl rfl (Nat.le_of_ble_eq_true rfl) (Nat.le_of_ble_eq_true rfl) (AW_k1 (fun v8 h7 => ?_))
  refine AW_g hT cl_X5 hK 10 1 (pc' := 23) (lo' := [some (.ref 0), some (.int p0), some (.int p1)]) (st' := [.int (v4 * v8)]) (hp' := wd σ) rfl ?_
  refine AW_iret hT hE 11 rfl rfl rfl (Nat.le_of_ble_eq_true rfl) (Nat.le_of_ble_eq_true rfl) ?_
  subst h7; subst h5; subst h3; subst h1; exact ⟨by simp only [x_X5_referencePairs], rfl⟩
/-- lowestTerm, from the divisor n downwards -/
def lt_go (t u w : Int32) : Nat → Int32
  | 0 => t
  | n + 1 => if nI (n + 1) ≤ 1 then t else if u - u / nI (n + 1) * nI (n + 1) = 0 then (if w - w / nI (n + 1) * nI (n + 1) = 0 then t / nI (n + 1) else lt_go t u w n) else lt_go t u w n
def x_X5_lowestTerm (σ : az_S) (p0 p1 p2 : Int32) : Int32 := if p2 ≤ 1 then p0 else lt_go p0 p1 p2 p2.toNatClampNeg
theorem lp_lowestTerm {K : az_K} {l0 : Launch} {Ψ : Option Value → az_H → Prop} (hT : az_Tb cX5_lowestTerm tb_X5_lowestTerm) (hK : az_OK K RX5 cX5_lowestTerm ({ frames := 0, cells := 0, slots := 0, locals := 0 } : Room) l0) (hE : az_End K cX5_lowestTerm (some .int) ({ frames := 0, cells := 0, slots := 0, locals := 0 } : Room) Ψ) (σ : az_S) (p0 p1 p2 : Int32) :
    ∀ (n : Nat) (hn : n < 2 ^ 31) (h : Ψ (some (.int (lt_go p0 p1 p2 n))) (wd σ)), AW K 0 0 2 [some (.int p0), some (.int p1), some (.int p2), some (.int (nI n))] [] (wd σ) := by
  intro n
  induction n with
  | zero =>
    intro hn h
    refine AW_g hT cl_X5 hK 2 2 (pc' := 4) (lo' := [some (.int p0), some (.int p1), some (.int p2), some (.int (nI 0))]) (st' := [.int 1, .int (nI 0)]) (hp' := wd σ) rfl ?_
    refine AW_icmp_le hT hK 4 (tgt := 29) rfl rfl (fun c => ?_) (fun c => absurd (by decide) c)
    refine AW_g hT cl_X5 hK 19 1 (pc' := 30) (lo' := [some (.int p0), some (.int p1), some (.int p2), some (.int (nI 0))]) (st' := [.int p0]) (hp' := wd σ) rfl ?_
    exact AW_iret hT hE 20 rfl rfl rfl (Nat.le_of_ble_eq_true rfl) (Nat.le_of_ble_eq_true rfl) h
  | succ n ih =>
    intro hn h
    have hne : ¬ nI (n + 1) = 0 := nI_ne0 (by omega) hn
    refine AW_g hT cl_X5 hK 2 2 (pc' := 4) (lo' := [some (.int p0), some (.int p1), some (.int p2), some (.int (nI (n + 1)))]) (st' := [.int 1, .int (nI (n + 1))]) (hp' := wd σ) rfl ?_
    refine AW_icmp_le hT hK 4 (tgt := 29) rfl rfl (fun c => ?_) (fun c => ?_)
    · refine AW_g hT cl_X5 hK 19 1 (pc' := 30) (lo' := [some (.int p0), some (.int p1), some (.int p2), some (.int (nI (n + 1)))]) (st' := [.int p0]) (hp' := wd σ) rfl ?_
      refine AW_iret hT hE 20 rfl rfl rfl (Nat.le_of_ble_eq_true rfl) (Nat.le_of_ble_eq_true rfl) ?_
      simp only [lt_go, if_pos c] at h
      exact h
    · have hb : ∀ (hh : Ψ (some (.int (lt_go p0 p1 p2 n))) (wd σ)), AW K 0 0 23 [some (.int p0), some (.int p1), some (.int p2), some (.int (nI (n + 1)))] [] (wd σ) := by
        intro hh
        refine AW_g hT cl_X5 hK 17 1 (pc' := 26) (lo' := [some (.int p0), some (.int p1), some (.int p2), some (.int (nI (n + 1) + (-1)))]) (st' := []) (hp' := wd σ) rfl ?_
        refine AW_goto hT hK 18 (tgt := 2) rfl rfl ?_
        refine AW_to (lo' := [some (.int p0), some (.int p1), some (.int p2), some (.int (nI n))]) (by rw [pk_m1]) rfl rfl ?_
        exact ih (by omega) hh
      refine AW_g hT cl_X5 hK 5 2 (pc' := 9) (lo' := [some (.int p0), some (.int p1), some (.int p2), some (.int (nI (n + 1)))]) (st' := [.int (nI (n + 1)), .int p1]) (hp' := wd σ) rfl ?_
      refine AW_irem hT hK 7 rfl hne ?_
      refine AW_if_ne hT hK 8 (tgt := 23) rfl rfl (fun c2 => hb ?_) (fun c2 => ?_)
      · simp only [lt_go, if_neg c, if_neg c2] at h
        exact h
      refine AW_g hT cl_X5 hK 9 2 (pc' := 15) (lo' := [some (.int p0), some (.int p1), some (.int p2), some (.int (nI (n + 1)))]) (st' := [.int (nI (n + 1)), .int p2]) (hp' := wd σ) rfl ?_
      refine AW_irem hT hK 11 rfl hne ?_
      refine AW_if_ne hT hK 12 (tgt := 23) rfl rfl (fun c3 => hb ?_) (fun c3 => ?_)
      · simp only [lt_go, if_neg c, if_pos c2, if_neg c3] at h
        exact h
      refine AW_g hT cl_X5 hK 13 2 (pc' := 21) (lo' := [some (.int p0), some (.int p1), some (.int p2), some (.int (nI (n + 1)))]) (st' := [.int (nI (n + 1)), .int p0]) (hp' := wd σ) rfl ?_
      refine AW_idiv hT hK 15 rfl hne ?_
      refine AW_iret hT hE 16 rfl rfl rfl (Nat.le_of_ble_eq_true rfl) (Nat.le_of_ble_eq_true rfl) ?_
      simp only [lt_go, if_neg c, if_pos c2, if_pos c3] at h
      exact h
theorem m_X5_lowestTerm (l0 : Launch) (σ : az_S) (p0 p1 p2 : Int32) : AMet l0 yX5_lowestTerm cX5_lowestTerm 4 (some .int) ({ frames := 0, cells := 0, slots := 0, locals := 0 } : Room) false [.int p0, .int p1, .int p2] (wd σ) (fun r h => r = some (.int (x_X5_lowestTerm σ p0 p1 p2)) ∧ h = wd σ) := by
  refine AMet_of (by decide +kernel) (by simp [Value.category]) (Nat.le_of_ble_eq_true rfl) (fun K hK hct hG hE => ?_)
  have hT := tt_X5_lowestTerm
  refine AW_g hT cl_X5 hK 0 2 (pc' := 2) (lo' := [some (.int p0), some (.int p1), some (.int p2), some (.int p2)]) (st' := []) (hp' := wd σ) rfl ?_
  by_cases c : p2 ≤ 1
  · refine AW_g hT cl_X5 hK 2 2 (pc' := 4) (lo' := [some (.int p0), some (.int p1), some (.int p2), some (.int p2)]) (st' := [.int 1, .int p2]) (hp' := wd σ) rfl ?_
    refine AW_icmp_le hT hK 4 (tgt := 29) rfl rfl (fun c => ?_) (fun c2 => absurd c c2)
    refine AW_g hT cl_X5 hK 19 1 (pc' := 30) (lo' := [some (.int p0), some (.int p1), some (.int p2), some (.int p2)]) (st' := [.int p0]) (hp' := wd σ) rfl ?_
    refine AW_iret hT hE 20 rfl rfl rfl (Nat.le_of_ble_eq_true rfl) (Nat.le_of_ble_eq_true rfl) ?_
    exact ⟨by simp only [x_X5_lowestTerm, if_pos c], rfl⟩
  · obtain ⟨h1, h2, h3⟩ : 0 ≤ p2 ∧ p2 = nI p2.toNatClampNeg ∧ p2.toNatClampNeg < 2 ^ 31 := by
      rcases az_tc p2 with ⟨h, -⟩ | h
      · exfalso
        apply c
        rw [Int32.lt_iff_toInt_lt] at h
        rw [Int32.le_iff_toInt_le]
        have e1 : (0 : Int32).toInt = 0 := rfl
        have e2 : (1 : Int32).toInt = 1 := rfl
        omega
      · exact h
    refine AW_to (lo' := [some (.int p0), some (.int p1), some (.int p2), some (.int (nI p2.toNatClampNeg))]) (by rw [← h2]) rfl rfl ?_
    exact lp_lowestTerm hT hK hE σ p0 p1 p2 _ h3 ⟨by simp only [x_X5_lowestTerm, if_neg c], rfl⟩
end AZP
