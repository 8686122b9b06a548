section AZH2
theorem cl_L : az_Cl RL 5 3 TX5 tyX5 [] := fun h => absurd rfl h
theorem hl_13 : Cond.classLink RL 13 az_IAE ∈ lw_tbl := List.mem_of_getElem? (i := 288) (by decide +kernel)
theorem hc_13 : Cond.castable az_IAE az_IAE ∈ lw_tbl := List.mem_of_getElem? (i := 300) (by decide +kernel)
theorem hl_15 : Cond.classLink RL 15 az_ISE ∈ lw_tbl := List.mem_of_getElem? (i := 289) (by decide +kernel)
theorem hc_15 : Cond.castable az_ISE az_ISE ∈ lw_tbl := List.mem_of_getElem? (i := 378) (by decide +kernel)
theorem hl_21 : Cond.classLink RL 21 az_NSE ∈ lw_tbl := List.mem_of_getElem? (i := 532) (by decide +kernel)
theorem hc_21 : Cond.castable az_NSE az_NSE ∈ lw_tbl := List.mem_of_getElem? (i := 544) (by decide +kernel)
theorem hl_56 : Cond.classLink RL 56 az_IOB ∈ lw_tbl := List.mem_of_getElem? (i := 675) (by decide +kernel)
theorem hc_56 : Cond.castable az_IOB az_IOB ∈ lw_tbl := List.mem_of_getElem? (i := 682) (by decide +kernel)
theorem hi_L : Cond.initialized RL ∈ lw_tbl := List.mem_of_getElem? (i := 41) (by decide +kernel)
theorem cy_L_references : az_CwW yL_references cL_references 4 (some .int) [(0, 9, 12, 21)] 3 := ⟨⟨hi_L, cx_L_references⟩, by decide +kernel, by decide +kernel, by decide +kernel⟩
theorem l_references (l0 : Launch) (σ : az_S) (p0 : Int32) (rv : Int32) (hr : x_X5_references σ p0 = .inr rv) : AMetW l0 yL_references cL_references 4 (some .int) [(0, 9, 12, 21)] ({ frames := 8, cells := 0, slots := 0, locals := 124 } : Room) [.ref 0, .int p0, .ref 45] (wd σ) (fun r h => r = some (.int 0) ∧ h = wd (sL σ 45 (vp_updL (σ.2.2 45) 0 rv.toInt64))) := by
  refine AMetW_of (by decide +kernel) (by simp [Value.category]) (Nat.le_of_ble_eq_true rfl) (fun K hK hTab hN hE => ?_)
  have hT := tt_L_references
  refine AW_g hT cl_L hK 0 4 (pc' := 4) (lo' := [some (.ref 0), some (.int p0), some (.ref 45), none]) (st' := [.int p0, .ref 0, .int 0, .ref 45]) (hp' := wd σ) rfl ?_
  refine AW_callV hT hK 4 [.int p0] [.int 0, .ref 45] (m_X5_references l0 σ p0 rv hr) cw_X5_references lk_L_23 vi_X5_references rfl rfl rfl rfl rfl rfl (Nat.le_of_ble_eq_true rfl) (Nat.le_of_ble_eq_true rfl) (AW_k1 (fun v1 h1 => ?_))
  refine AW_g hT cl_L hK 5 1 (pc' := 8) (lo' := [some (.ref 0), some (.int p0), some (.ref 45), none]) (st' := [.long v1.toInt64, .int 0, .ref 45]) (hp' := wd σ) rfl ?_
  refine AW_last hT hK 6 0 rfl rfl rfl (by decide) (by decide) ?_
  refine AW_goto hT hK 7 (tgt := 15) rfl rfl ?_
  refine AW_g hT cl_L hK 11 1 (pc' := 16) (lo' := [some (.ref 0), some (.int p0), some (.ref 45), none]) (st' := [.int 0]) (hp' := wd (sL σ 45 (vp_updL (σ.2.2 45) 0 v1.toInt64))) rfl ?_
  refine AW_iret hT hE 12 rfl rfl rfl (Nat.le_of_ble_eq_true rfl) (Nat.le_of_ble_eq_true rfl) ?_
  subst h1
  exact ⟨rfl, rfl⟩
theorem lx_references_1 (l0 : Launch) (hl0 : l0.stackTraces = false) (σ : az_S) (p0 : Int32) (hr : x_X5_references σ p0 = .inl az_NSE) : AMetW l0 yL_references cL_references 4 (some .int) [(0, 9, 12, 21)] ({ frames := 8, cells := 1, slots := 6, locals := 124 } : Room) [.ref 0, .int p0, .ref 45] (wd σ) (fun r h => r = some (.int 1) ∧ h = wd σ) := by
  refine AMetW_of (by decide +kernel) (by simp [Value.category]) (Nat.le_of_ble_eq_true rfl) (fun K hK hTab hN hE => ?_)
  have hT := tt_L_references
  refine AW_g hT cl_L hK 0 4 (pc' := 4) (lo' := [some (.ref 0), some (.int p0), some (.ref 45), none]) (st' := [.int p0, .ref 0, .int 0, .ref 45]) (hp' := wd σ) rfl ?_
  refine AW_callVX hT hK 4 [.int p0] [.int 0, .ref 45] (mx_X5_references l0 hl0 σ p0 az_NSE hr) cw_X5_references lk_L_23 vi_X5_references rfl rfl rfl rfl rfl rfl (Nat.le_of_ble_eq_true rfl) (Nat.le_of_ble_eq_true rfl) (fun _ _ hf => hf.elim) (fun E hEE => ?_)
  rw [hEE]
  refine AWX_catch hT hK hTab [] ⟨0, 9, 12, 21⟩ [] rfl (fun z hz => by cases hz) rfl (by decide) hl_21 hc_21 8 3 (ins := .astore_n 3) rfl (Or.inl ⟨3, rfl, rfl⟩) rfl ?_
  refine AW_g hT cl_L hK 9 1 (pc' := 14) (lo' := [some (.ref 0), some (.int p0), some (.ref 45), none]) (st' := [.int 1]) (hp' := wd σ) rfl ?_
  exact AW_iret hT hE 10 rfl rfl rfl (Nat.le_of_ble_eq_true rfl) (Nat.le_of_ble_eq_true rfl) ⟨rfl, rfl⟩
theorem cy_L_citing : az_CwW yL_citing cL_citing 4 (some .int) [(0, 9, 12, 21)] 3 := ⟨⟨hi_L, cx_L_citing⟩, by decide +kernel, by decide +kernel, by decide +kernel⟩
theorem l_citing (l0 : Launch) (σ : az_S) (p0 : Int32) (rv : Int32) (hr : x_X5_citing σ p0 = .inr rv) : AMetW l0 yL_citing cL_citing 4 (some .int) [(0, 9, 12, 21)] ({ frames := 8, cells := 0, slots := 0, locals := 124 } : Room) [.ref 0, .int p0, .ref 45] (wd σ) (fun r h => r = some (.int 0) ∧ h = wd (sL σ 45 (vp_updL (σ.2.2 45) 0 rv.toInt64))) := by
  refine AMetW_of (by decide +kernel) (by simp [Value.category]) (Nat.le_of_ble_eq_true rfl) (fun K hK hTab hN hE => ?_)
  have hT := tt_L_citing
  refine AW_g hT cl_L hK 0 4 (pc' := 4) (lo' := [some (.ref 0), some (.int p0), some (.ref 45), none]) (st' := [.int p0, .ref 0, .int 0, .ref 45]) (hp' := wd σ) rfl ?_
  refine AW_callV hT hK 4 [.int p0] [.int 0, .ref 45] (m_X5_citing l0 σ p0 rv hr) cw_X5_citing lk_L_26 vi_X5_citing rfl rfl rfl rfl rfl rfl (Nat.le_of_ble_eq_true rfl) (Nat.le_of_ble_eq_true rfl) (AW_k1 (fun v1 h1 => ?_))
  refine AW_g hT cl_L hK 5 1 (pc' := 8) (lo' := [some (.ref 0), some (.int p0), some (.ref 45), none]) (st' := [.long v1.toInt64, .int 0, .ref 45]) (hp' := wd σ) rfl ?_
  refine AW_last hT hK 6 0 rfl rfl rfl (by decide) (by decide) ?_
  refine AW_goto hT hK 7 (tgt := 15) rfl rfl ?_
  refine AW_g hT cl_L hK 11 1 (pc' := 16) (lo' := [some (.ref 0), some (.int p0), some (.ref 45), none]) (st' := [.int 0]) (hp' := wd (sL σ 45 (vp_updL (σ.2.2 45) 0 v1.toInt64))) rfl ?_
  refine AW_iret hT hE 12 rfl rfl rfl (Nat.le_of_ble_eq_true rfl) (Nat.le_of_ble_eq_true rfl) ?_
  subst h1
  exact ⟨rfl, rfl⟩
theorem lx_citing_1 (l0 : Launch) (hl0 : l0.stackTraces = false) (σ : az_S) (p0 : Int32) (hr : x_X5_citing σ p0 = .inl az_NSE) : AMetW l0 yL_citing cL_citing 4 (some .int) [(0, 9, 12, 21)] ({ frames := 8, cells := 1, slots := 6, locals := 124 } : Room) [.ref 0, .int p0, .ref 45] (wd σ) (fun r h => r = some (.int 1) ∧ h = wd σ) := by
  refine AMetW_of (by decide +kernel) (by simp [Value.category]) (Nat.le_of_ble_eq_true rfl) (fun K hK hTab hN hE => ?_)
  have hT := tt_L_citing
  refine AW_g hT cl_L hK 0 4 (pc' := 4) (lo' := [some (.ref 0), some (.int p0), some (.ref 45), none]) (st' := [.int p0, .ref 0, .int 0, .ref 45]) (hp' := wd σ) rfl ?_
  refine AW_callVX hT hK 4 [.int p0] [.int 0, .ref 45] (mx_X5_citing l0 hl0 σ p0 az_NSE hr) cw_X5_citing lk_L_26 vi_X5_citing rfl rfl rfl rfl rfl rfl (Nat.le_of_ble_eq_true rfl) (Nat.le_of_ble_eq_true rfl) (fun _ _ hf => hf.elim) (fun E hEE => ?_)
  rw [hEE]
  refine AWX_catch hT hK hTab [] ⟨0, 9, 12, 21⟩ [] rfl (fun z hz => by cases hz) rfl (by decide) hl_21 hc_21 8 3 (ins := .astore_n 3) rfl (Or.inl ⟨3, rfl, rfl⟩) rfl ?_
  refine AW_g hT cl_L hK 9 1 (pc' := 14) (lo' := [some (.ref 0), some (.int p0), some (.ref 45), none]) (st' := [.int 1]) (hp' := wd σ) rfl ?_
  exact AW_iret hT hE 10 rfl rfl rfl (Nat.le_of_ble_eq_true rfl) (Nat.le_of_ble_eq_true rfl) ⟨rfl, rfl⟩
theorem cy_L_shared : az_CwW yL_shared cL_shared 5 (some .int) [(0, 10, 13, 21)] 4 := ⟨⟨hi_L, cx_L_shared⟩, by decide +kernel, by decide +kernel, by decide +kernel⟩
theorem l_shared (l0 : Launch) (σ : az_S) (p0 : Int32) (p1 : Int32) (rv : Int32) (hr : x_X5_shared σ p0 p1 = .inr rv) : AMetW l0 yL_shared cL_shared 5 (some .int) [(0, 10, 13, 21)] ({ frames := 8, cells := 0, slots := 0, locals := 125 } : Room) [.ref 0, .int p0, .int p1, .ref 45] (wd σ) (fun r h => r = some (.int 0) ∧ h = wd (sL σ 45 (vp_updL (σ.2.2 45) 0 rv.toInt64))) := by
  refine AMetW_of (by decide +kernel) (by simp [Value.category]) (Nat.le_of_ble_eq_true rfl) (fun K hK hTab hN hE => ?_)
  have hT := tt_L_shared
  refine AW_g hT cl_L hK 0 5 (pc' := 5) (lo' := [some (.ref 0), some (.int p0), some (.int p1), some (.ref 45), none]) (st' := [.int p1, .int p0, .ref 0, .int 0, .ref 45]) (hp' := wd σ) rfl ?_
  refine AW_callV hT hK 5 [.int p0, .int p1] [.int 0, .ref 45] (m_X5_shared l0 σ p0 p1 rv hr) cw_X5_shared lk_L_29 vi_X5_shared rfl rfl rfl rfl rfl rfl (Nat.le_of_ble_eq_true rfl) (Nat.le_of_ble_eq_true rfl) (AW_k1 (fun v1 h1 => ?_))
  refine AW_g hT cl_L hK 6 1 (pc' := 9) (lo' := [some (.ref 0), some (.int p0), some (.int p1), some (.ref 45), none]) (st' := [.long v1.toInt64, .int 0, .ref 45]) (hp' := wd σ) rfl ?_
  refine AW_last hT hK 7 0 rfl rfl rfl (by decide) (by decide) ?_
  refine AW_goto hT hK 8 (tgt := 17) rfl rfl ?_
  refine AW_g hT cl_L hK 12 1 (pc' := 18) (lo' := [some (.ref 0), some (.int p0), some (.int p1), some (.ref 45), none]) (st' := [.int 0]) (hp' := wd (sL σ 45 (vp_updL (σ.2.2 45) 0 v1.toInt64))) rfl ?_
  refine AW_iret hT hE 13 rfl rfl rfl (Nat.le_of_ble_eq_true rfl) (Nat.le_of_ble_eq_true rfl) ?_
  subst h1
  exact ⟨rfl, rfl⟩
theorem lx_shared_1 (l0 : Launch) (hl0 : l0.stackTraces = false) (σ : az_S) (p0 : Int32) (p1 : Int32) (hr : x_X5_shared σ p0 p1 = .inl az_NSE) : AMetW l0 yL_shared cL_shared 5 (some .int) [(0, 10, 13, 21)] ({ frames := 8, cells := 1, slots := 6, locals := 125 } : Room) [.ref 0, .int p0, .int p1, .ref 45] (wd σ) (fun r h => r = some (.int 1) ∧ h = wd σ) := by
  refine AMetW_of (by decide +kernel) (by simp [Value.category]) (Nat.le_of_ble_eq_true rfl) (fun K hK hTab hN hE => ?_)
  have hT := tt_L_shared
  refine AW_g hT cl_L hK 0 5 (pc' := 5) (lo' := [some (.ref 0), some (.int p0), some (.int p1), some (.ref 45), none]) (st' := [.int p1, .int p0, .ref 0, .int 0, .ref 45]) (hp' := wd σ) rfl ?_
  refine AW_callVX hT hK 5 [.int p0, .int p1] [.int 0, .ref 45] (mx_X5_shared l0 hl0 σ p0 p1 az_NSE hr) cw_X5_shared lk_L_29 vi_X5_shared rfl rfl rfl rfl rfl rfl (Nat.le_of_ble_eq_true rfl) (Nat.le_of_ble_eq_true rfl) (fun _ _ hf => hf.elim) (fun E hEE => ?_)
  rw [hEE]
  refine AWX_catch hT hK hTab [] ⟨0, 10, 13, 21⟩ [] rfl (fun z hz => by cases hz) rfl (by decide) hl_21 hc_21 9 4 (ins := .astore 4) rfl (Or.inr rfl) rfl ?_
  refine AW_g hT cl_L hK 10 1 (pc' := 16) (lo' := [some (.ref 0), some (.int p0), some (.int p1), some (.ref 45), none]) (st' := [.int 1]) (hp' := wd σ) rfl ?_
  exact AW_iret hT hE 11 rfl rfl rfl (Nat.le_of_ble_eq_true rfl) (Nat.le_of_ble_eq_true rfl) ⟨rfl, rfl⟩
theorem cy_L_joint : az_CwW yL_joint cL_joint 5 (some .int) [(0, 10, 13, 21)] 4 := ⟨⟨hi_L, cx_L_joint⟩, by decide +kernel, by decide +kernel, by decide +kernel⟩
theorem l_joint (l0 : Launch) (σ : az_S) (p0 : Int32) (p1 : Int32) (rv : Int32) (hr : x_X5_joint σ p0 p1 = .inr rv) : AMetW l0 yL_joint cL_joint 5 (some .int) [(0, 10, 13, 21)] ({ frames := 8, cells := 0, slots := 0, locals := 125 } : Room) [.ref 0, .int p0, .int p1, .ref 45] (wd σ) (fun r h => r = some (.int 0) ∧ h = wd (sL σ 45 (vp_updL (σ.2.2 45) 0 rv.toInt64))) := by
  refine AMetW_of (by decide +kernel) (by simp [Value.category]) (Nat.le_of_ble_eq_true rfl) (fun K hK hTab hN hE => ?_)
  have hT := tt_L_joint
  refine AW_g hT cl_L hK 0 5 (pc' := 5) (lo' := [some (.ref 0), some (.int p0), some (.int p1), some (.ref 45), none]) (st' := [.int p1, .int p0, .ref 0, .int 0, .ref 45]) (hp' := wd σ) rfl ?_
  refine AW_callV hT hK 5 [.int p0, .int p1] [.int 0, .ref 45] (m_X5_joint l0 σ p0 p1 rv hr) cw_X5_joint lk_L_32 vi_X5_joint rfl rfl rfl rfl rfl rfl (Nat.le_of_ble_eq_true rfl) (Nat.le_of_ble_eq_true rfl) (AW_k1 (fun v1 h1 => ?_))
  refine AW_g hT cl_L hK 6 1 (pc' := 9) (lo' := [some (.ref 0), some (.int p0), some (.int p1), some (.ref 45), none]) (st' := [.long v1.toInt64, .int 0, .ref 45]) (hp' := wd σ) rfl ?_
  refine AW_last hT hK 7 0 rfl rfl rfl (by decide) (by decide) ?_
  refine AW_goto hT hK 8 (tgt := 17) rfl rfl ?_
  refine AW_g hT cl_L hK 12 1 (pc' := 18) (lo' := [some (.ref 0), some (.int p0), some (.int p1), some (.ref 45), none]) (st' := [.int 0]) (hp' := wd (sL σ 45 (vp_updL (σ.2.2 45) 0 v1.toInt64))) rfl ?_
  refine AW_iret hT hE 13 rfl rfl rfl (Nat.le_of_ble_eq_true rfl) (Nat.le_of_ble_eq_true rfl) ?_
  subst h1
  exact ⟨rfl, rfl⟩
theorem lx_joint_1 (l0 : Launch) (hl0 : l0.stackTraces = false) (σ : az_S) (p0 : Int32) (p1 : Int32) (hr : x_X5_joint σ p0 p1 = .inl az_NSE) : AMetW l0 yL_joint cL_joint 5 (some .int) [(0, 10, 13, 21)] ({ frames := 8, cells := 1, slots := 6, locals := 125 } : Room) [.ref 0, .int p0, .int p1, .ref 45] (wd σ) (fun r h => r = some (.int 1) ∧ h = wd σ) := by
  refine AMetW_of (by decide +kernel) (by simp [Value.category]) (Nat.le_of_ble_eq_true rfl) (fun K hK hTab hN hE => ?_)
  have hT := tt_L_joint
  refine AW_g hT cl_L hK 0 5 (pc' := 5) (lo' := [some (.ref 0), some (.int p0), some (.int p1), some (.ref 45), none]) (st' := [.int p1, .int p0, .ref 0, .int 0, .ref 45]) (hp' := wd σ) rfl ?_
  refine AW_callVX hT hK 5 [.int p0, .int p1] [.int 0, .ref 45] (mx_X5_joint l0 hl0 σ p0 p1 az_NSE hr) cw_X5_joint lk_L_32 vi_X5_joint rfl rfl rfl rfl rfl rfl (Nat.le_of_ble_eq_true rfl) (Nat.le_of_ble_eq_true rfl) (fun _ _ hf => hf.elim) (fun E hEE => ?_)
  rw [hEE]
  refine AWX_catch hT hK hTab [] ⟨0, 10, 13, 21⟩ [] rfl (fun z hz => by cases hz) rfl (by decide) hl_21 hc_21 9 4 (ins := .astore 4) rfl (Or.inr rfl) rfl ?_
  refine AW_g hT cl_L hK 10 1 (pc' := 16) (lo' := [some (.ref 0), some (.int p0), some (.int p1), some (.ref 45), none]) (st' := [.int 1]) (hp' := wd σ) rfl ?_
  exact AW_iret hT hE 11 rfl rfl rfl (Nat.le_of_ble_eq_true rfl) (Nat.le_of_ble_eq_true rfl) ⟨rfl, rfl⟩
theorem cy_L_likenessNumerator : az_CwW yL_likenessNumerator cL_likenessNumerator 5 (some .int) [(0, 10, 13, 21)] 4 := ⟨⟨hi_L, cx_L_likenessNumerator⟩, by decide +kernel, by decide +kernel, by decide +kernel⟩
theorem l_likenessNumerator (l0 : Launch) (σ : az_S) (p0 : Int32) (p1 : Int32) (rv : Int32) (hr : x_X5_likenessNumerator σ p0 p1 = .inr rv) : AMetW l0 yL_likenessNumerator cL_likenessNumerator 5 (some .int) [(0, 10, 13, 21)] ({ frames := 8, cells := 0, slots := 0, locals := 126 } : Room) [.ref 0, .int p0, .int p1, .ref 45] (wd σ) (fun r h => r = some (.int 0) ∧ h = wd (sL σ 45 (vp_updL (σ.2.2 45) 0 rv.toInt64))) := by
  refine AMetW_of (by decide +kernel) (by simp [Value.category]) (Nat.le_of_ble_eq_true rfl) (fun K hK hTab hN hE => ?_)
  have hT := tt_L_likenessNumerator
  refine AW_g hT cl_L hK 0 5 (pc' := 5) (lo' := [some (.ref 0), some (.int p0), some (.int p1), some (.ref 45), none]) (st' := [.int p1, .int p0, .ref 0, .int 0, .ref 45]) (hp' := wd σ) rfl ?_
  refine AW_callV hT hK 5 [.int p0, .int p1] [.int 0, .ref 45] (m_X5_likenessNumerator l0 σ p0 p1 rv hr) cw_X5_likenessNumerator lk_L_35 vi_X5_likenessNumerator rfl rfl rfl rfl rfl rfl (Nat.le_of_ble_eq_true rfl) (Nat.le_of_ble_eq_true rfl) (AW_k1 (fun v1 h1 => ?_))
  refine AW_g hT cl_L hK 6 1 (pc' := 9) (lo' := [some (.ref 0), some (.int p0), some (.int p1), some (.ref 45), none]) (st' := [.long v1.toInt64, .int 0, .ref 45]) (hp' := wd σ) rfl ?_
  refine AW_last hT hK 7 0 rfl rfl rfl (by decide) (by decide) ?_
  refine AW_goto hT hK 8 (tgt := 17) rfl rfl ?_
  refine AW_g hT cl_L hK 12 1 (pc' := 18) (lo' := [some (.ref 0), some (.int p0), some (.int p1), some (.ref 45), none]) (st' := [.int 0]) (hp' := wd (sL σ 45 (vp_updL (σ.2.2 45) 0 v1.toInt64))) rfl ?_
  refine AW_iret hT hE 13 rfl rfl rfl (Nat.le_of_ble_eq_true rfl) (Nat.le_of_ble_eq_true rfl) ?_
  subst h1
  exact ⟨rfl, rfl⟩
theorem lx_likenessNumerator_1 (l0 : Launch) (hl0 : l0.stackTraces = false) (σ : az_S) (p0 : Int32) (p1 : Int32) (hr : x_X5_likenessNumerator σ p0 p1 = .inl az_NSE) : AMetW l0 yL_likenessNumerator cL_likenessNumerator 5 (some .int) [(0, 10, 13, 21)] ({ frames := 8, cells := 1, slots := 6, locals := 126 } : Room) [.ref 0, .int p0, .int p1, .ref 45] (wd σ) (fun r h => r = some (.int 1) ∧ h = wd σ) := by
  refine AMetW_of (by decide +kernel) (by simp [Value.category]) (Nat.le_of_ble_eq_true rfl) (fun K hK hTab hN hE => ?_)
  have hT := tt_L_likenessNumerator
  refine AW_g hT cl_L hK 0 5 (pc' := 5) (lo' := [some (.ref 0), some (.int p0), some (.int p1), some (.ref 45), none]) (st' := [.int p1, .int p0, .ref 0, .int 0, .ref 45]) (hp' := wd σ) rfl ?_
  refine AW_callVX hT hK 5 [.int p0, .int p1] [.int 0, .ref 45] (mx_X5_likenessNumerator l0 hl0 σ p0 p1 az_NSE hr) cw_X5_likenessNumerator lk_L_35 vi_X5_likenessNumerator rfl rfl rfl rfl rfl rfl (Nat.le_of_ble_eq_true rfl) (Nat.le_of_ble_eq_true rfl) (fun _ _ hf => hf.elim) (fun E hEE => ?_)
  rw [hEE]
  refine AWX_catch hT hK hTab [] ⟨0, 10, 13, 21⟩ [] rfl (fun z hz => by cases hz) rfl (by decide) hl_21 hc_21 9 4 (ins := .astore 4) rfl (Or.inr rfl) rfl ?_
  refine AW_g hT cl_L hK 10 1 (pc' := 16) (lo' := [some (.ref 0), some (.int p0), some (.int p1), some (.ref 45), none]) (st' := [.int 1]) (hp' := wd σ) rfl ?_
  exact AW_iret hT hE 11 rfl rfl rfl (Nat.le_of_ble_eq_true rfl) (Nat.le_of_ble_eq_true rfl) ⟨rfl, rfl⟩
theorem cy_L_likenessDenominator : az_CwW yL_likenessDenominator cL_likenessDenominator 5 (some .int) [(0, 10, 13, 21)] 4 := ⟨⟨hi_L, cx_L_likenessDenominator⟩, by decide +kernel, by decide +kernel, by decide +kernel⟩
theorem l_likenessDenominator (l0 : Launch) (σ : az_S) (p0 : Int32) (p1 : Int32) (rv : Int32) (hr : x_X5_likenessDenominator σ p0 p1 = .inr rv) : AMetW l0 yL_likenessDenominator cL_likenessDenominator 5 (some .int) [(0, 10, 13, 21)] ({ frames := 8, cells := 0, slots := 0, locals := 127 } : Room) [.ref 0, .int p0, .int p1, .ref 45] (wd σ) (fun r h => r = some (.int 0) ∧ h = wd (sL σ 45 (vp_updL (σ.2.2 45) 0 rv.toInt64))) := by
  refine AMetW_of (by decide +kernel) (by simp [Value.category]) (Nat.le_of_ble_eq_true rfl) (fun K hK hTab hN hE => ?_)
  have hT := tt_L_likenessDenominator
  refine AW_g hT cl_L hK 0 5 (pc' := 5) (lo' := [some (.ref 0), some (.int p0), some (.int p1), some (.ref 45), none]) (st' := [.int p1, .int p0, .ref 0, .int 0, .ref 45]) (hp' := wd σ) rfl ?_
  refine AW_callV hT hK 5 [.int p0, .int p1] [.int 0, .ref 45] (m_X5_likenessDenominator l0 σ p0 p1 rv hr) cw_X5_likenessDenominator lk_L_38 vi_X5_likenessDenominator rfl rfl rfl rfl rfl rfl (Nat.le_of_ble_eq_true rfl) (Nat.le_of_ble_eq_true rfl) (AW_k1 (fun v1 h1 => ?_))
  refine AW_g hT cl_L hK 6 1 (pc' := 9) (lo' := [some (.ref 0), some (.int p0), some (.int p1), some (.ref 45), none]) (st' := [.long v1.toInt64, .int 0, .ref 45]) (hp' := wd σ) rfl ?_
  refine AW_last hT hK 7 0 rfl rfl rfl (by decide) (by decide) ?_
  refine AW_goto hT hK 8 (tgt := 17) rfl rfl ?_
  refine AW_g hT cl_L hK 12 1 (pc' := 18) (lo' := [some (.ref 0), some (.int p0), some (.int p1), some (.ref 45), none]) (st' := [.int 0]) (hp' := wd (sL σ 45 (vp_updL (σ.2.2 45) 0 v1.toInt64))) rfl ?_
  refine AW_iret hT hE 13 rfl rfl rfl (Nat.le_of_ble_eq_true rfl) (Nat.le_of_ble_eq_true rfl) ?_
  subst h1
  exact ⟨rfl, rfl⟩
theorem lx_likenessDenominator_1 (l0 : Launch) (hl0 : l0.stackTraces = false) (σ : az_S) (p0 : Int32) (p1 : Int32) (hr : x_X5_likenessDenominator σ p0 p1 = .inl az_NSE) : AMetW l0 yL_likenessDenominator cL_likenessDenominator 5 (some .int) [(0, 10, 13, 21)] ({ frames := 8, cells := 1, slots := 6, locals := 127 } : Room) [.ref 0, .int p0, .int p1, .ref 45] (wd σ) (fun r h => r = some (.int 1) ∧ h = wd σ) := by
  refine AMetW_of (by decide +kernel) (by simp [Value.category]) (Nat.le_of_ble_eq_true rfl) (fun K hK hTab hN hE => ?_)
  have hT := tt_L_likenessDenominator
  refine AW_g hT cl_L hK 0 5 (pc' := 5) (lo' := [some (.ref 0), some (.int p0), some (.int p1), some (.ref 45), none]) (st' := [.int p1, .int p0, .ref 0, .int 0, .ref 45]) (hp' := wd σ) rfl ?_
  refine AW_callVX hT hK 5 [.int p0, .int p1] [.int 0, .ref 45] (mx_X5_likenessDenominator l0 hl0 σ p0 p1 az_NSE hr) cw_X5_likenessDenominator lk_L_38 vi_X5_likenessDenominator rfl rfl rfl rfl rfl rfl (Nat.le_of_ble_eq_true rfl) (Nat.le_of_ble_eq_true rfl) (fun _ _ hf => hf.elim) (fun E hEE => ?_)
  rw [hEE]
  refine AWX_catch hT hK hTab [] ⟨0, 10, 13, 21⟩ [] rfl (fun z hz => by cases hz) rfl (by decide) hl_21 hc_21 9 4 (ins := .astore 4) rfl (Or.inr rfl) rfl ?_
  refine AW_g hT cl_L hK 10 1 (pc' := 16) (lo' := [some (.ref 0), some (.int p0), some (.int p1), some (.ref 45), none]) (st' := [.int 1]) (hp' := wd σ) rfl ?_
  exact AW_iret hT hE 11 rfl rfl rfl (Nat.le_of_ble_eq_true rfl) (Nat.le_of_ble_eq_true rfl) ⟨rfl, rfl⟩
theorem cy_L_fieldOf : az_CwW yL_fieldOf cL_fieldOf 4 (some .int) [(0, 9, 12, 21)] 3 := ⟨⟨hi_L, cx_L_fieldOf⟩, by decide +kernel, by decide +kernel, by decide +kernel⟩
theorem l_fieldOf (l0 : Launch) (σ : az_S) (p0 : Int32) (rv : Int32) (hr : x_X5_fieldOf σ p0 = .inr rv) : AMetW l0 yL_fieldOf cL_fieldOf 4 (some .int) [(0, 9, 12, 21)] ({ frames := 8, cells := 0, slots := 0, locals := 124 } : Room) [.ref 0, .int p0, .ref 45] (wd σ) (fun r h => r = some (.int 0) ∧ h = wd (sL σ 45 (vp_updL (σ.2.2 45) 0 rv.toInt64))) := by
  refine AMetW_of (by decide +kernel) (by simp [Value.category]) (Nat.le_of_ble_eq_true rfl) (fun K hK hTab hN hE => ?_)
  have hT := tt_L_fieldOf
  refine AW_g hT cl_L hK 0 4 (pc' := 4) (lo' := [some (.ref 0), some (.int p0), some (.ref 45), none]) (st' := [.int p0, .ref 0, .int 0, .ref 45]) (hp' := wd σ) rfl ?_
  refine AW_callV hT hK 4 [.int p0] [.int 0, .ref 45] (m_X5_fieldOf l0 σ p0 rv hr) cw_X5_fieldOf lk_L_41 vi_X5_fieldOf rfl rfl rfl rfl rfl rfl (Nat.le_of_ble_eq_true rfl) (Nat.le_of_ble_eq_true rfl) (AW_k1 (fun v1 h1 => ?_))
  refine AW_g hT cl_L hK 5 1 (pc' := 8) (lo' := [some (.ref 0), some (.int p0), some (.ref 45), none]) (st' := [.long v1.toInt64, .int 0, .ref 45]) (hp' := wd σ) rfl ?_
  refine AW_last hT hK 6 0 rfl rfl rfl (by decide) (by decide) ?_
  refine AW_goto hT hK 7 (tgt := 15) rfl rfl ?_
  refine AW_g hT cl_L hK 11 1 (pc' := 16) (lo' := [some (.ref 0), some (.int p0), some (.ref 45), none]) (st' := [.int 0]) (hp' := wd (sL σ 45 (vp_updL (σ.2.2 45) 0 v1.toInt64))) rfl ?_
  refine AW_iret hT hE 12 rfl rfl rfl (Nat.le_of_ble_eq_true rfl) (Nat.le_of_ble_eq_true rfl) ?_
  subst h1
  exact ⟨rfl, rfl⟩
theorem lx_fieldOf_1 (l0 : Launch) (hl0 : l0.stackTraces = false) (σ : az_S) (p0 : Int32) (hr : x_X5_fieldOf σ p0 = .inl az_NSE) : AMetW l0 yL_fieldOf cL_fieldOf 4 (some .int) [(0, 9, 12, 21)] ({ frames := 8, cells := 1, slots := 6, locals := 124 } : Room) [.ref 0, .int p0, .ref 45] (wd σ) (fun r h => r = some (.int 1) ∧ h = wd σ) := by
  refine AMetW_of (by decide +kernel) (by simp [Value.category]) (Nat.le_of_ble_eq_true rfl) (fun K hK hTab hN hE => ?_)
  have hT := tt_L_fieldOf
  refine AW_g hT cl_L hK 0 4 (pc' := 4) (lo' := [some (.ref 0), some (.int p0), some (.ref 45), none]) (st' := [.int p0, .ref 0, .int 0, .ref 45]) (hp' := wd σ) rfl ?_
  refine AW_callVX hT hK 4 [.int p0] [.int 0, .ref 45] (mx_X5_fieldOf l0 hl0 σ p0 az_NSE hr) cw_X5_fieldOf lk_L_41 vi_X5_fieldOf rfl rfl rfl rfl rfl rfl (Nat.le_of_ble_eq_true rfl) (Nat.le_of_ble_eq_true rfl) (fun _ _ hf => hf.elim) (fun E hEE => ?_)
  rw [hEE]
  refine AWX_catch hT hK hTab [] ⟨0, 9, 12, 21⟩ [] rfl (fun z hz => by cases hz) rfl (by decide) hl_21 hc_21 8 3 (ins := .astore_n 3) rfl (Or.inl ⟨3, rfl, rfl⟩) rfl ?_
  refine AW_g hT cl_L hK 9 1 (pc' := 14) (lo' := [some (.ref 0), some (.int p0), some (.ref 45), none]) (st' := [.int 1]) (hp' := wd σ) rfl ?_
  exact AW_iret hT hE 10 rfl rfl rfl (Nat.le_of_ble_eq_true rfl) (Nat.le_of_ble_eq_true rfl) ⟨rfl, rfl⟩
theorem cy_L_gain : az_CwW yL_gain cL_gain 5 (some .int) [(0, 10, 13, 21), (0, 10, 17, 13)] 4 := ⟨⟨hi_L, cx_L_gain⟩, by decide +kernel, by decide +kernel, by decide +kernel⟩
theorem l_gain (l0 : Launch) (σ : az_S) (p0 : Int32) (p1 : Int32) (rv : Int32) (hr : x_X5_gain σ p0 p1 = .inr rv) : AMetW l0 yL_gain cL_gain 5 (some .int) [(0, 10, 13, 21), (0, 10, 17, 13)] ({ frames := 8, cells := 0, slots := 0, locals := 125 } : Room) [.ref 0, .int p0, .int p1, .ref 45] (wd σ) (fun r h => r = some (.int 0) ∧ h = wd (sL σ 45 (vp_updL (σ.2.2 45) 0 rv.toInt64))) := by
  refine AMetW_of (by decide +kernel) (by simp [Value.category]) (Nat.le_of_ble_eq_true rfl) (fun K hK hTab hN hE => ?_)
  have hT := tt_L_gain
  refine AW_g hT cl_L hK 0 5 (pc' := 5) (lo' := [some (.ref 0), some (.int p0), some (.int p1), some (.ref 45), none]) (st' := [.int p1, .int p0, .ref 0, .int 0, .ref 45]) (hp' := wd σ) rfl ?_
  refine AW_callV hT hK 5 [.int p0, .int p1] [.int 0, .ref 45] (m_X5_gain l0 σ p0 p1 rv hr) cw_X5_gain lk_L_44 vi_X5_gain rfl rfl rfl rfl rfl rfl (Nat.le_of_ble_eq_true rfl) (Nat.le_of_ble_eq_true rfl) (AW_k1 (fun v1 h1 => ?_))
  refine AW_g hT cl_L hK 6 1 (pc' := 9) (lo' := [some (.ref 0), some (.int p0), some (.int p1), some (.ref 45), none]) (st' := [.long v1.toInt64, .int 0, .ref 45]) (hp' := wd σ) rfl ?_
  refine AW_last hT hK 7 0 rfl rfl rfl (by decide) (by decide) ?_
  refine AW_goto hT hK 8 (tgt := 21) rfl rfl ?_
  refine AW_g hT cl_L hK 15 1 (pc' := 22) (lo' := [some (.ref 0), some (.int p0), some (.int p1), some (.ref 45), none]) (st' := [.int 0]) (hp' := wd (sL σ 45 (vp_updL (σ.2.2 45) 0 v1.toInt64))) rfl ?_
  refine AW_iret hT hE 16 rfl rfl rfl (Nat.le_of_ble_eq_true rfl) (Nat.le_of_ble_eq_true rfl) ?_
  subst h1
  exact ⟨rfl, rfl⟩
theorem lx_gain_1 (l0 : Launch) (hl0 : l0.stackTraces = false) (σ : az_S) (p0 : Int32) (p1 : Int32) (hr : x_X5_gain σ p0 p1 = .inl az_NSE) : AMetW l0 yL_gain cL_gain 5 (some .int) [(0, 10, 13, 21), (0, 10, 17, 13)] ({ frames := 8, cells := 1, slots := 6, locals := 125 } : Room) [.ref 0, .int p0, .int p1, .ref 45] (wd σ) (fun r h => r = some (.int 1) ∧ h = wd σ) := by
  refine AMetW_of (by decide +kernel) (by simp [Value.category]) (Nat.le_of_ble_eq_true rfl) (fun K hK hTab hN hE => ?_)
  have hT := tt_L_gain
  refine AW_g hT cl_L hK 0 5 (pc' := 5) (lo' := [some (.ref 0), some (.int p0), some (.int p1), some (.ref 45), none]) (st' := [.int p1, .int p0, .ref 0, .int 0, .ref 45]) (hp' := wd σ) rfl ?_
  refine AW_callVX hT hK 5 [.int p0, .int p1] [.int 0, .ref 45] (mx_X5_gain l0 hl0 σ p0 p1 az_NSE hr) cw_X5_gain lk_L_44 vi_X5_gain rfl rfl rfl rfl rfl rfl (Nat.le_of_ble_eq_true rfl) (Nat.le_of_ble_eq_true rfl) (fun _ _ hf => hf.elim) (fun E hEE => ?_)
  rw [hEE]
  refine AWX_catch hT hK hTab [] ⟨0, 10, 13, 21⟩ [⟨0, 10, 17, 13⟩] rfl (fun z hz => by cases hz) rfl (by decide) hl_21 hc_21 9 4 (ins := .astore 4) rfl (Or.inr rfl) rfl ?_
  refine AW_g hT cl_L hK 10 1 (pc' := 16) (lo' := [some (.ref 0), some (.int p0), some (.int p1), some (.ref 45), none]) (st' := [.int 1]) (hp' := wd σ) rfl ?_
  exact AW_iret hT hE 11 rfl rfl rfl (Nat.le_of_ble_eq_true rfl) (Nat.le_of_ble_eq_true rfl) ⟨rfl, rfl⟩
theorem lx_gain_2 (l0 : Launch) (hl0 : l0.stackTraces = false) (σ : az_S) (p0 : Int32) (p1 : Int32) (hr : x_X5_gain σ p0 p1 = .inl az_IAE) : AMetW l0 yL_gain cL_gain 5 (some .int) [(0, 10, 13, 21), (0, 10, 17, 13)] ({ frames := 8, cells := 1, slots := 6, locals := 125 } : Room) [.ref 0, .int p0, .int p1, .ref 45] (wd σ) (fun r h => r = some (.int 2) ∧ h = wd σ) := by
  refine AMetW_of (by decide +kernel) (by simp [Value.category]) (Nat.le_of_ble_eq_true rfl) (fun K hK hTab hN hE => ?_)
  have hT := tt_L_gain
  refine AW_g hT cl_L hK 0 5 (pc' := 5) (lo' := [some (.ref 0), some (.int p0), some (.int p1), some (.ref 45), none]) (st' := [.int p1, .int p0, .ref 0, .int 0, .ref 45]) (hp' := wd σ) rfl ?_
  refine AW_callVX hT hK 5 [.int p0, .int p1] [.int 0, .ref 45] (mx_X5_gain l0 hl0 σ p0 p1 az_IAE hr) cw_X5_gain lk_L_44 vi_X5_gain rfl rfl rfl rfl rfl rfl (Nat.le_of_ble_eq_true rfl) (Nat.le_of_ble_eq_true rfl) (fun _ _ hf => hf.elim) (fun E hEE => ?_)
  rw [hEE]
  refine AWX_catch hT hK hTab [⟨0, 10, 13, 21⟩] ⟨0, 10, 17, 13⟩ [] rfl (fun z hz => by
    rw [List.mem_singleton.mp hz]
    exact ⟨by decide, az_NSE, hl_21, hN.2⟩) rfl (by decide) hl_13 hc_13 12 4 (ins := .astore 4) rfl (Or.inr rfl) rfl ?_
  refine AW_g hT cl_L hK 13 1 (pc' := 20) (lo' := [some (.ref 0), some (.int p0), some (.int p1), some (.ref 45), none]) (st' := [.int 2]) (hp' := wd σ) rfl ?_
  exact AW_iret hT hE 14 rfl rfl rfl (Nat.le_of_ble_eq_true rfl) (Nat.le_of_ble_eq_true rfl) ⟨rfl, rfl⟩
theorem cy_L_split : az_CwW yL_split cL_split 4 (some .int) [(0, 9, 12, 21)] 3 := ⟨⟨hi_L, cx_L_split⟩, by decide +kernel, by decide +kernel, by decide +kernel⟩
theorem l_split (l0 : Launch) (σ : az_S) (p0 : Int32) (rv : Int32) (hr : x_X5_split σ p0 = .inr rv) : AMetW l0 yL_split cL_split 4 (some .int) [(0, 9, 12, 21)] ({ frames := 8, cells := 0, slots := 0, locals := 124 } : Room) [.ref 0, .int p0, .ref 45] (wd σ) (fun r h => r = some (.int 0) ∧ h = wd (sL σ 45 (vp_updL (σ.2.2 45) 0 rv.toInt64))) := by
  refine AMetW_of (by decide +kernel) (by simp [Value.category]) (Nat.le_of_ble_eq_true rfl) (fun K hK hTab hN hE => ?_)
  have hT := tt_L_split
  refine AW_g hT cl_L hK 0 4 (pc' := 4) (lo' := [some (.ref 0), some (.int p0), some (.ref 45), none]) (st' := [.int p0, .ref 0, .int 0, .ref 45]) (hp' := wd σ) rfl ?_
  refine AW_callV hT hK 4 [.int p0] [.int 0, .ref 45] (m_X5_split l0 σ p0 rv hr) cw_X5_split lk_L_47 vi_X5_split rfl rfl rfl rfl rfl rfl (Nat.le_of_ble_eq_true rfl) (Nat.le_of_ble_eq_true rfl) (AW_k1 (fun v1 h1 => ?_))
  refine AW_g hT cl_L hK 5 1 (pc' := 8) (lo' := [some (.ref 0), some (.int p0), some (.ref 45), none]) (st' := [.long v1.toInt64, .int 0, .ref 45]) (hp' := wd σ) rfl ?_
  refine AW_last hT hK 6 0 rfl rfl rfl (by decide) (by decide) ?_
  refine AW_goto hT hK 7 (tgt := 15) rfl rfl ?_
  refine AW_g hT cl_L hK 11 1 (pc' := 16) (lo' := [some (.ref 0), some (.int p0), some (.ref 45), none]) (st' := [.int 0]) (hp' := wd (sL σ 45 (vp_updL (σ.2.2 45) 0 v1.toInt64))) rfl ?_
  refine AW_iret hT hE 12 rfl rfl rfl (Nat.le_of_ble_eq_true rfl) (Nat.le_of_ble_eq_true rfl) ?_
  subst h1
  exact ⟨rfl, rfl⟩
theorem lx_split_1 (l0 : Launch) (hl0 : l0.stackTraces = false) (σ : az_S) (p0 : Int32) (hr : x_X5_split σ p0 = .inl az_NSE) : AMetW l0 yL_split cL_split 4 (some .int) [(0, 9, 12, 21)] ({ frames := 8, cells := 1, slots := 6, locals := 124 } : Room) [.ref 0, .int p0, .ref 45] (wd σ) (fun r h => r = some (.int 1) ∧ h = wd σ) := by
  refine AMetW_of (by decide +kernel) (by simp [Value.category]) (Nat.le_of_ble_eq_true rfl) (fun K hK hTab hN hE => ?_)
  have hT := tt_L_split
  refine AW_g hT cl_L hK 0 4 (pc' := 4) (lo' := [some (.ref 0), some (.int p0), some (.ref 45), none]) (st' := [.int p0, .ref 0, .int 0, .ref 45]) (hp' := wd σ) rfl ?_
  refine AW_callVX hT hK 4 [.int p0] [.int 0, .ref 45] (mx_X5_split l0 hl0 σ p0 az_NSE hr) cw_X5_split lk_L_47 vi_X5_split rfl rfl rfl rfl rfl rfl (Nat.le_of_ble_eq_true rfl) (Nat.le_of_ble_eq_true rfl) (fun _ _ hf => hf.elim) (fun E hEE => ?_)
  rw [hEE]
  refine AWX_catch hT hK hTab [] ⟨0, 9, 12, 21⟩ [] rfl (fun z hz => by cases hz) rfl (by decide) hl_21 hc_21 8 3 (ins := .astore_n 3) rfl (Or.inl ⟨3, rfl, rfl⟩) rfl ?_
  refine AW_g hT cl_L hK 9 1 (pc' := 14) (lo' := [some (.ref 0), some (.int p0), some (.ref 45), none]) (st' := [.int 1]) (hp' := wd σ) rfl ?_
  exact AW_iret hT hE 10 rfl rfl rfl (Nat.le_of_ble_eq_true rfl) (Nat.le_of_ble_eq_true rfl) ⟨rfl, rfl⟩
theorem cy_L_count : az_CwW yL_count cL_count 5 (some .int) [(0, 10, 13, 21)] 4 := ⟨⟨hi_L, cx_L_count⟩, by decide +kernel, by decide +kernel, by decide +kernel⟩
theorem l_count (l0 : Launch) (σ : az_S) (p0 : Int32) (p1 : Int32) (rv : Int32) (hr : x_X5_count σ p0 p1 = .inr rv) : AMetW l0 yL_count cL_count 5 (some .int) [(0, 10, 13, 21)] ({ frames := 8, cells := 0, slots := 0, locals := 125 } : Room) [.ref 0, .int p0, .int p1, .ref 45] (wd σ) (fun r h => r = some (.int 0) ∧ h = wd (sL σ 45 (vp_updL (σ.2.2 45) 0 rv.toInt64))) := by
  refine AMetW_of (by decide +kernel) (by simp [Value.category]) (Nat.le_of_ble_eq_true rfl) (fun K hK hTab hN hE => ?_)
  have hT := tt_L_count
  refine AW_g hT cl_L hK 0 5 (pc' := 5) (lo' := [some (.ref 0), some (.int p0), some (.int p1), some (.ref 45), none]) (st' := [.int p1, .int p0, .ref 0, .int 0, .ref 45]) (hp' := wd σ) rfl ?_
  refine AW_callV hT hK 5 [.int p0, .int p1] [.int 0, .ref 45] (m_X5_count l0 σ p0 p1 rv hr) cw_X5_count lk_L_50 vi_X5_count rfl rfl rfl rfl rfl rfl (Nat.le_of_ble_eq_true rfl) (Nat.le_of_ble_eq_true rfl) (AW_k1 (fun v1 h1 => ?_))
  refine AW_g hT cl_L hK 6 1 (pc' := 9) (lo' := [some (.ref 0), some (.int p0), some (.int p1), some (.ref 45), none]) (st' := [.long v1.toInt64, .int 0, .ref 45]) (hp' := wd σ) rfl ?_
  refine AW_last hT hK 7 0 rfl rfl rfl (by decide) (by decide) ?_
  refine AW_goto hT hK 8 (tgt := 17) rfl rfl ?_
  refine AW_g hT cl_L hK 12 1 (pc' := 18) (lo' := [some (.ref 0), some (.int p0), some (.int p1), some (.ref 45), none]) (st' := [.int 0]) (hp' := wd (sL σ 45 (vp_updL (σ.2.2 45) 0 v1.toInt64))) rfl ?_
  refine AW_iret hT hE 13 rfl rfl rfl (Nat.le_of_ble_eq_true rfl) (Nat.le_of_ble_eq_true rfl) ?_
  subst h1
  exact ⟨rfl, rfl⟩
theorem lx_count_1 (l0 : Launch) (hl0 : l0.stackTraces = false) (σ : az_S) (p0 : Int32) (p1 : Int32) (hr : x_X5_count σ p0 p1 = .inl az_NSE) : AMetW l0 yL_count cL_count 5 (some .int) [(0, 10, 13, 21)] ({ frames := 8, cells := 1, slots := 6, locals := 125 } : Room) [.ref 0, .int p0, .int p1, .ref 45] (wd σ) (fun r h => r = some (.int 1) ∧ h = wd σ) := by
  refine AMetW_of (by decide +kernel) (by simp [Value.category]) (Nat.le_of_ble_eq_true rfl) (fun K hK hTab hN hE => ?_)
  have hT := tt_L_count
  refine AW_g hT cl_L hK 0 5 (pc' := 5) (lo' := [some (.ref 0), some (.int p0), some (.int p1), some (.ref 45), none]) (st' := [.int p1, .int p0, .ref 0, .int 0, .ref 45]) (hp' := wd σ) rfl ?_
  refine AW_callVX hT hK 5 [.int p0, .int p1] [.int 0, .ref 45] (mx_X5_count l0 hl0 σ p0 p1 az_NSE hr) cw_X5_count lk_L_50 vi_X5_count rfl rfl rfl rfl rfl rfl (Nat.le_of_ble_eq_true rfl) (Nat.le_of_ble_eq_true rfl) (fun _ _ hf => hf.elim) (fun E hEE => ?_)
  rw [hEE]
  refine AWX_catch hT hK hTab [] ⟨0, 10, 13, 21⟩ [] rfl (fun z hz => by cases hz) rfl (by decide) hl_21 hc_21 9 4 (ins := .astore 4) rfl (Or.inr rfl) rfl ?_
  refine AW_g hT cl_L hK 10 1 (pc' := 16) (lo' := [some (.ref 0), some (.int p0), some (.int p1), some (.ref 45), none]) (st' := [.int 1]) (hp' := wd σ) rfl ?_
  exact AW_iret hT hE 11 rfl rfl rfl (Nat.le_of_ble_eq_true rfl) (Nat.le_of_ble_eq_true rfl) ⟨rfl, rfl⟩
theorem cy_L_mainAt : az_CwW yL_mainAt cL_mainAt 4 (some .int) [(0, 9, 12, 56)] 3 := ⟨⟨hi_L, cx_L_mainAt⟩, by decide +kernel, by decide +kernel, by decide +kernel⟩
theorem l_mainAt (l0 : Launch) (σ : az_S) (p0 : Int32) (rv : Int32) (hr : x_X5_mainAt σ p0 = .inr rv) : AMetW l0 yL_mainAt cL_mainAt 4 (some .int) [(0, 9, 12, 56)] ({ frames := 7, cells := 0, slots := 0, locals := 103 } : Room) [.ref 0, .int p0, .ref 45] (wd σ) (fun r h => r = some (.int 0) ∧ h = wd (sL σ 45 (vp_updL (σ.2.2 45) 0 rv.toInt64))) := by
  refine AMetW_of (by decide +kernel) (by simp [Value.category]) (Nat.le_of_ble_eq_true rfl) (fun K hK hTab hN hE => ?_)
  have hT := tt_L_mainAt
  refine AW_g hT cl_L hK 0 4 (pc' := 4) (lo' := [some (.ref 0), some (.int p0), some (.ref 45), none]) (st' := [.int p0, .ref 0, .int 0, .ref 45]) (hp' := wd σ) rfl ?_
  refine AW_callV hT hK 4 [.int p0] [.int 0, .ref 45] (m_X5_mainAt l0 σ p0 rv hr) cw_X5_mainAt lk_L_53 vi_X5_mainAt rfl rfl rfl rfl rfl rfl (Nat.le_of_ble_eq_true rfl) (Nat.le_of_ble_eq_true rfl) (AW_k1 (fun v1 h1 => ?_))
  refine AW_g hT cl_L hK 5 1 (pc' := 8) (lo' := [some (.ref 0), some (.int p0), some (.ref 45), none]) (st' := [.long v1.toInt64, .int 0, .ref 45]) (hp' := wd σ) rfl ?_
  refine AW_last hT hK 6 0 rfl rfl rfl (by decide) (by decide) ?_
  refine AW_goto hT hK 7 (tgt := 15) rfl rfl ?_
  refine AW_g hT cl_L hK 11 1 (pc' := 16) (lo' := [some (.ref 0), some (.int p0), some (.ref 45), none]) (st' := [.int 0]) (hp' := wd (sL σ 45 (vp_updL (σ.2.2 45) 0 v1.toInt64))) rfl ?_
  refine AW_iret hT hE 12 rfl rfl rfl (Nat.le_of_ble_eq_true rfl) (Nat.le_of_ble_eq_true rfl) ?_
  subst h1
  exact ⟨rfl, rfl⟩
theorem lx_mainAt_1 (l0 : Launch) (hl0 : l0.stackTraces = false) (σ : az_S) (p0 : Int32) (hr : x_X5_mainAt σ p0 = .inl az_IOB) : AMetW l0 yL_mainAt cL_mainAt 4 (some .int) [(0, 9, 12, 56)] ({ frames := 7, cells := 1, slots := 6, locals := 103 } : Room) [.ref 0, .int p0, .ref 45] (wd σ) (fun r h => r = some (.int 1) ∧ h = wd σ) := by
  refine AMetW_of (by decide +kernel) (by simp [Value.category]) (Nat.le_of_ble_eq_true rfl) (fun K hK hTab hN hE => ?_)
  have hT := tt_L_mainAt
  refine AW_g hT cl_L hK 0 4 (pc' := 4) (lo' := [some (.ref 0), some (.int p0), some (.ref 45), none]) (st' := [.int p0, .ref 0, .int 0, .ref 45]) (hp' := wd σ) rfl ?_
  refine AW_callVX hT hK 4 [.int p0] [.int 0, .ref 45] (mx_X5_mainAt l0 hl0 σ p0 az_IOB hr) cw_X5_mainAt lk_L_53 vi_X5_mainAt rfl rfl rfl rfl rfl rfl (Nat.le_of_ble_eq_true rfl) (Nat.le_of_ble_eq_true rfl) (fun _ _ hf => hf.elim) (fun E hEE => ?_)
  rw [hEE]
  refine AWX_catch hT hK hTab [] ⟨0, 9, 12, 56⟩ [] rfl (fun z hz => by cases hz) rfl (by decide) hl_56 hc_56 8 3 (ins := .astore_n 3) rfl (Or.inl ⟨3, rfl, rfl⟩) rfl ?_
  refine AW_g hT cl_L hK 9 1 (pc' := 14) (lo' := [some (.ref 0), some (.int p0), some (.ref 45), none]) (st' := [.int 1]) (hp' := wd σ) rfl ?_
  exact AW_iret hT hE 10 rfl rfl rfl (Nat.le_of_ble_eq_true rfl) (Nat.le_of_ble_eq_true rfl) ⟨rfl, rfl⟩
theorem cy_L_rise : az_CwW yL_rise cL_rise 5 (some .int) [(0, 10, 13, 21), (0, 10, 17, 13)] 4 := ⟨⟨hi_L, cx_L_rise⟩, by decide +kernel, by decide +kernel, by decide +kernel⟩
theorem l_rise (l0 : Launch) (σ : az_S) (p0 : Int32) (p1 : Int32) (rv : Int32) (hr : x_X5_rise σ p0 p1 = .inr rv) : AMetW l0 yL_rise cL_rise 5 (some .int) [(0, 10, 13, 21), (0, 10, 17, 13)] ({ frames := 8, cells := 0, slots := 0, locals := 125 } : Room) [.ref 0, .int p0, .int p1, .ref 45] (wd σ) (fun r h => r = some (.int 0) ∧ h = wd (sL σ 45 (vp_updL (σ.2.2 45) 0 rv.toInt64))) := by
  refine AMetW_of (by decide +kernel) (by simp [Value.category]) (Nat.le_of_ble_eq_true rfl) (fun K hK hTab hN hE => ?_)
  have hT := tt_L_rise
  refine AW_g hT cl_L hK 0 5 (pc' := 5) (lo' := [some (.ref 0), some (.int p0), some (.int p1), some (.ref 45), none]) (st' := [.int p1, .int p0, .ref 0, .int 0, .ref 45]) (hp' := wd σ) rfl ?_
  refine AW_callV hT hK 5 [.int p0, .int p1] [.int 0, .ref 45] (m_X5_rise l0 σ p0 p1 rv hr) cw_X5_rise lk_L_58 vi_X5_rise rfl rfl rfl rfl rfl rfl (Nat.le_of_ble_eq_true rfl) (Nat.le_of_ble_eq_true rfl) (AW_k1 (fun v1 h1 => ?_))
  refine AW_g hT cl_L hK 6 1 (pc' := 9) (lo' := [some (.ref 0), some (.int p0), some (.int p1), some (.ref 45), none]) (st' := [.long v1.toInt64, .int 0, .ref 45]) (hp' := wd σ) rfl ?_
  refine AW_last hT hK 7 0 rfl rfl rfl (by decide) (by decide) ?_
  refine AW_goto hT hK 8 (tgt := 21) rfl rfl ?_
  refine AW_g hT cl_L hK 15 1 (pc' := 22) (lo' := [some (.ref 0), some (.int p0), some (.int p1), some (.ref 45), none]) (st' := [.int 0]) (hp' := wd (sL σ 45 (vp_updL (σ.2.2 45) 0 v1.toInt64))) rfl ?_
  refine AW_iret hT hE 16 rfl rfl rfl (Nat.le_of_ble_eq_true rfl) (Nat.le_of_ble_eq_true rfl) ?_
  subst h1
  exact ⟨rfl, rfl⟩
theorem lx_rise_1 (l0 : Launch) (hl0 : l0.stackTraces = false) (σ : az_S) (p0 : Int32) (p1 : Int32) (hr : x_X5_rise σ p0 p1 = .inl az_NSE) : AMetW l0 yL_rise cL_rise 5 (some .int) [(0, 10, 13, 21), (0, 10, 17, 13)] ({ frames := 8, cells := 1, slots := 6, locals := 125 } : Room) [.ref 0, .int p0, .int p1, .ref 45] (wd σ) (fun r h => r = some (.int 1) ∧ h = wd σ) := by
  refine AMetW_of (by decide +kernel) (by simp [Value.category]) (Nat.le_of_ble_eq_true rfl) (fun K hK hTab hN hE => ?_)
  have hT := tt_L_rise
  refine AW_g hT cl_L hK 0 5 (pc' := 5) (lo' := [some (.ref 0), some (.int p0), some (.int p1), some (.ref 45), none]) (st' := [.int p1, .int p0, .ref 0, .int 0, .ref 45]) (hp' := wd σ) rfl ?_
  refine AW_callVX hT hK 5 [.int p0, .int p1] [.int 0, .ref 45] (mx_X5_rise l0 hl0 σ p0 p1 az_NSE hr) cw_X5_rise lk_L_58 vi_X5_rise rfl rfl rfl rfl rfl rfl (Nat.le_of_ble_eq_true rfl) (Nat.le_of_ble_eq_true rfl) (fun _ _ hf => hf.elim) (fun E hEE => ?_)
  rw [hEE]
  refine AWX_catch hT hK hTab [] ⟨0, 10, 13, 21⟩ [⟨0, 10, 17, 13⟩] rfl (fun z hz => by cases hz) rfl (by decide) hl_21 hc_21 9 4 (ins := .astore 4) rfl (Or.inr rfl) rfl ?_
  refine AW_g hT cl_L hK 10 1 (pc' := 16) (lo' := [some (.ref 0), some (.int p0), some (.int p1), some (.ref 45), none]) (st' := [.int 1]) (hp' := wd σ) rfl ?_
  exact AW_iret hT hE 11 rfl rfl rfl (Nat.le_of_ble_eq_true rfl) (Nat.le_of_ble_eq_true rfl) ⟨rfl, rfl⟩
theorem lx_rise_2 (l0 : Launch) (hl0 : l0.stackTraces = false) (σ : az_S) (p0 : Int32) (p1 : Int32) (hr : x_X5_rise σ p0 p1 = .inl az_IAE) : AMetW l0 yL_rise cL_rise 5 (some .int) [(0, 10, 13, 21), (0, 10, 17, 13)] ({ frames := 8, cells := 1, slots := 6, locals := 125 } : Room) [.ref 0, .int p0, .int p1, .ref 45] (wd σ) (fun r h => r = some (.int 2) ∧ h = wd σ) := by
  refine AMetW_of (by decide +kernel) (by simp [Value.category]) (Nat.le_of_ble_eq_true rfl) (fun K hK hTab hN hE => ?_)
  have hT := tt_L_rise
  refine AW_g hT cl_L hK 0 5 (pc' := 5) (lo' := [some (.ref 0), some (.int p0), some (.int p1), some (.ref 45), none]) (st' := [.int p1, .int p0, .ref 0, .int 0, .ref 45]) (hp' := wd σ) rfl ?_
  refine AW_callVX hT hK 5 [.int p0, .int p1] [.int 0, .ref 45] (mx_X5_rise l0 hl0 σ p0 p1 az_IAE hr) cw_X5_rise lk_L_58 vi_X5_rise rfl rfl rfl rfl rfl rfl (Nat.le_of_ble_eq_true rfl) (Nat.le_of_ble_eq_true rfl) (fun _ _ hf => hf.elim) (fun E hEE => ?_)
  rw [hEE]
  refine AWX_catch hT hK hTab [⟨0, 10, 13, 21⟩] ⟨0, 10, 17, 13⟩ [] rfl (fun z hz => by
    rw [List.mem_singleton.mp hz]
    exact ⟨by decide, az_NSE, hl_21, hN.2⟩) rfl (by decide) hl_13 hc_13 12 4 (ins := .astore 4) rfl (Or.inr rfl) rfl ?_
  refine AW_g hT cl_L hK 13 1 (pc' := 20) (lo' := [some (.ref 0), some (.int p0), some (.int p1), some (.ref 45), none]) (st' := [.int 2]) (hp' := wd σ) rfl ?_
  exact AW_iret hT hE 14 rfl rfl rfl (Nat.le_of_ble_eq_true rfl) (Nat.le_of_ble_eq_true rfl) ⟨rfl, rfl⟩
theorem cy_L_riser : az_CwW yL_riser cL_riser 4 (some .int) [(0, 9, 12, 13)] 3 := ⟨⟨hi_L, cx_L_riser⟩, by decide +kernel, by decide +kernel, by decide +kernel⟩
theorem l_riser (l0 : Launch) (σ : az_S) (p0 : Int32) (rv : Int32) (hr : x_X5_riser σ p0 = .inr rv) : AMetW l0 yL_riser cL_riser 4 (some .int) [(0, 9, 12, 13)] ({ frames := 8, cells := 0, slots := 0, locals := 127 } : Room) [.ref 0, .int p0, .ref 45] (wd σ) (fun r h => r = some (.int 0) ∧ h = wd (sL σ 45 (vp_updL (σ.2.2 45) 0 rv.toInt64))) := by
  refine AMetW_of (by decide +kernel) (by simp [Value.category]) (Nat.le_of_ble_eq_true rfl) (fun K hK hTab hN hE => ?_)
  have hT := tt_L_riser
  refine AW_g hT cl_L hK 0 4 (pc' := 4) (lo' := [some (.ref 0), some (.int p0), some (.ref 45), none]) (st' := [.int p0, .ref 0, .int 0, .ref 45]) (hp' := wd σ) rfl ?_
  refine AW_callV hT hK 4 [.int p0] [.int 0, .ref 45] (m_X5_riser l0 σ p0 rv hr) cw_X5_riser lk_L_61 vi_X5_riser rfl rfl rfl rfl rfl rfl (Nat.le_of_ble_eq_true rfl) (Nat.le_of_ble_eq_true rfl) (AW_k1 (fun v1 h1 => ?_))
  refine AW_g hT cl_L hK 5 1 (pc' := 8) (lo' := [some (.ref 0), some (.int p0), some (.ref 45), none]) (st' := [.long v1.toInt64, .int 0, .ref 45]) (hp' := wd σ) rfl ?_
  refine AW_last hT hK 6 0 rfl rfl rfl (by decide) (by decide) ?_
  refine AW_goto hT hK 7 (tgt := 15) rfl rfl ?_
  refine AW_g hT cl_L hK 11 1 (pc' := 16) (lo' := [some (.ref 0), some (.int p0), some (.ref 45), none]) (st' := [.int 0]) (hp' := wd (sL σ 45 (vp_updL (σ.2.2 45) 0 v1.toInt64))) rfl ?_
  refine AW_iret hT hE 12 rfl rfl rfl (Nat.le_of_ble_eq_true rfl) (Nat.le_of_ble_eq_true rfl) ?_
  subst h1
  exact ⟨rfl, rfl⟩
theorem lx_riser_1 (l0 : Launch) (hl0 : l0.stackTraces = false) (σ : az_S) (p0 : Int32) (hr : x_X5_riser σ p0 = .inl az_IAE) : AMetW l0 yL_riser cL_riser 4 (some .int) [(0, 9, 12, 13)] ({ frames := 8, cells := 1, slots := 6, locals := 127 } : Room) [.ref 0, .int p0, .ref 45] (wd σ) (fun r h => r = some (.int 1) ∧ h = wd σ) := by
  refine AMetW_of (by decide +kernel) (by simp [Value.category]) (Nat.le_of_ble_eq_true rfl) (fun K hK hTab hN hE => ?_)
  have hT := tt_L_riser
  refine AW_g hT cl_L hK 0 4 (pc' := 4) (lo' := [some (.ref 0), some (.int p0), some (.ref 45), none]) (st' := [.int p0, .ref 0, .int 0, .ref 45]) (hp' := wd σ) rfl ?_
  refine AW_callVX hT hK 4 [.int p0] [.int 0, .ref 45] (mx_X5_riser l0 hl0 σ p0 az_IAE hr) cw_X5_riser lk_L_61 vi_X5_riser rfl rfl rfl rfl rfl rfl (Nat.le_of_ble_eq_true rfl) (Nat.le_of_ble_eq_true rfl) (fun _ _ hf => hf.elim) (fun E hEE => ?_)
  rw [hEE]
  refine AWX_catch hT hK hTab [] ⟨0, 9, 12, 13⟩ [] rfl (fun z hz => by cases hz) rfl (by decide) hl_13 hc_13 8 3 (ins := .astore_n 3) rfl (Or.inl ⟨3, rfl, rfl⟩) rfl ?_
  refine AW_g hT cl_L hK 9 1 (pc' := 14) (lo' := [some (.ref 0), some (.int p0), some (.ref 45), none]) (st' := [.int 1]) (hp' := wd σ) rfl ?_
  exact AW_iret hT hE 10 rfl rfl rfl (Nat.le_of_ble_eq_true rfl) (Nat.le_of_ble_eq_true rfl) ⟨rfl, rfl⟩
theorem cy_L_heir : az_CwW yL_heir cL_heir 4 (some .int) [(0, 9, 12, 21)] 3 := ⟨⟨hi_L, cx_L_heir⟩, by decide +kernel, by decide +kernel, by decide +kernel⟩
theorem l_heir (l0 : Launch) (σ : az_S) (p0 : Int32) (rv : Int32) (hr : x_X5_heir σ p0 = .inr rv) : AMetW l0 yL_heir cL_heir 4 (some .int) [(0, 9, 12, 21)] ({ frames := 8, cells := 0, slots := 0, locals := 128 } : Room) [.ref 0, .int p0, .ref 45] (wd σ) (fun r h => r = some (.int 0) ∧ h = wd (sL σ 45 (vp_updL (σ.2.2 45) 0 rv.toInt64))) := by
  refine AMetW_of (by decide +kernel) (by simp [Value.category]) (Nat.le_of_ble_eq_true rfl) (fun K hK hTab hN hE => ?_)
  have hT := tt_L_heir
  refine AW_g hT cl_L hK 0 4 (pc' := 4) (lo' := [some (.ref 0), some (.int p0), some (.ref 45), none]) (st' := [.int p0, .ref 0, .int 0, .ref 45]) (hp' := wd σ) rfl ?_
  refine AW_callV hT hK 4 [.int p0] [.int 0, .ref 45] (m_X5_heir l0 σ p0 rv hr) cw_X5_heir lk_L_64 vi_X5_heir rfl rfl rfl rfl rfl rfl (Nat.le_of_ble_eq_true rfl) (Nat.le_of_ble_eq_true rfl) (AW_k1 (fun v1 h1 => ?_))
  refine AW_g hT cl_L hK 5 1 (pc' := 8) (lo' := [some (.ref 0), some (.int p0), some (.ref 45), none]) (st' := [.long v1.toInt64, .int 0, .ref 45]) (hp' := wd σ) rfl ?_
  refine AW_last hT hK 6 0 rfl rfl rfl (by decide) (by decide) ?_
  refine AW_goto hT hK 7 (tgt := 15) rfl rfl ?_
  refine AW_g hT cl_L hK 11 1 (pc' := 16) (lo' := [some (.ref 0), some (.int p0), some (.ref 45), none]) (st' := [.int 0]) (hp' := wd (sL σ 45 (vp_updL (σ.2.2 45) 0 v1.toInt64))) rfl ?_
  refine AW_iret hT hE 12 rfl rfl rfl (Nat.le_of_ble_eq_true rfl) (Nat.le_of_ble_eq_true rfl) ?_
  subst h1
  exact ⟨rfl, rfl⟩
theorem lx_heir_1 (l0 : Launch) (hl0 : l0.stackTraces = false) (σ : az_S) (p0 : Int32) (hr : x_X5_heir σ p0 = .inl az_NSE) : AMetW l0 yL_heir cL_heir 4 (some .int) [(0, 9, 12, 21)] ({ frames := 8, cells := 1, slots := 6, locals := 128 } : Room) [.ref 0, .int p0, .ref 45] (wd σ) (fun r h => r = some (.int 1) ∧ h = wd σ) := by
  refine AMetW_of (by decide +kernel) (by simp [Value.category]) (Nat.le_of_ble_eq_true rfl) (fun K hK hTab hN hE => ?_)
  have hT := tt_L_heir
  refine AW_g hT cl_L hK 0 4 (pc' := 4) (lo' := [some (.ref 0), some (.int p0), some (.ref 45), none]) (st' := [.int p0, .ref 0, .int 0, .ref 45]) (hp' := wd σ) rfl ?_
  refine AW_callVX hT hK 4 [.int p0] [.int 0, .ref 45] (mx_X5_heir l0 hl0 σ p0 az_NSE hr) cw_X5_heir lk_L_64 vi_X5_heir rfl rfl rfl rfl rfl rfl (Nat.le_of_ble_eq_true rfl) (Nat.le_of_ble_eq_true rfl) (fun _ _ hf => hf.elim) (fun E hEE => ?_)
  rw [hEE]
  refine AWX_catch hT hK hTab [] ⟨0, 9, 12, 21⟩ [] rfl (fun z hz => by cases hz) rfl (by decide) hl_21 hc_21 8 3 (ins := .astore_n 3) rfl (Or.inl ⟨3, rfl, rfl⟩) rfl ?_
  refine AW_g hT cl_L hK 9 1 (pc' := 14) (lo' := [some (.ref 0), some (.int p0), some (.ref 45), none]) (st' := [.int 1]) (hp' := wd σ) rfl ?_
  exact AW_iret hT hE 10 rfl rfl rfl (Nat.le_of_ble_eq_true rfl) (Nat.le_of_ble_eq_true rfl) ⟨rfl, rfl⟩
theorem cy_L_come : az_CwW yL_come cL_come 5 (some .int) [(0, 10, 13, 13), (0, 10, 17, 15)] 4 := ⟨⟨hi_L, cx_L_come⟩, by decide +kernel, by decide +kernel, by decide +kernel⟩
theorem l_come (l0 : Launch) (σ : az_S) (p0 : Int32) (p1 : Int32) (rv : (Int32 × az_S)) (hr : x_X5_come σ p0 p1 = .inr rv) : AMetW l0 yL_come cL_come 5 (some .int) [(0, 10, 13, 13), (0, 10, 17, 15)] ({ frames := 7, cells := 0, slots := 0, locals := 167 } : Room) [.ref 0, .int p0, .int p1, .ref 45] (wd σ) (fun r h => r = some (.int 0) ∧ h = wd (sL rv.2 45 (vp_updL (rv.2.2.2 45) 0 rv.1.toInt64))) := by
  refine AMetW_of (by decide +kernel) (by simp [Value.category]) (Nat.le_of_ble_eq_true rfl) (fun K hK hTab hN hE => ?_)
  have hT := tt_L_come
  refine AW_g hT cl_L hK 0 5 (pc' := 5) (lo' := [some (.ref 0), some (.int p0), some (.int p1), some (.ref 45), none]) (st' := [.int p1, .int p0, .ref 0, .int 0, .ref 45]) (hp' := wd σ) rfl ?_
  refine AW_callV hT hK 5 [.int p0, .int p1] [.int 0, .ref 45] (m_X5_come l0 σ p0 p1 rv hr) cw_X5_come lk_L_7 vi_X5_come rfl rfl rfl rfl rfl rfl (Nat.le_of_ble_eq_true rfl) (Nat.le_of_ble_eq_true rfl) (AW_k1 (fun v1 h1 => ?_))
  refine AW_g hT cl_L hK 6 1 (pc' := 9) (lo' := [some (.ref 0), some (.int p0), some (.int p1), some (.ref 45), none]) (st' := [.long v1.toInt64, .int 0, .ref 45]) (hp' := wd rv.2) rfl ?_
  refine AW_last hT hK 7 0 rfl rfl rfl (by decide) (by decide) ?_
  refine AW_goto hT hK 8 (tgt := 21) rfl rfl ?_
  refine AW_g hT cl_L hK 15 1 (pc' := 22) (lo' := [some (.ref 0), some (.int p0), some (.int p1), some (.ref 45), none]) (st' := [.int 0]) (hp' := wd (sL rv.2 45 (vp_updL (rv.2.2.2 45) 0 v1.toInt64))) rfl ?_
  refine AW_iret hT hE 16 rfl rfl rfl (Nat.le_of_ble_eq_true rfl) (Nat.le_of_ble_eq_true rfl) ?_
  subst h1
  exact ⟨rfl, rfl⟩
theorem lx_come_1 (l0 : Launch) (hl0 : l0.stackTraces = false) (σ : az_S) (p0 : Int32) (p1 : Int32) (hr : x_X5_come σ p0 p1 = .inl az_IAE) : AMetW l0 yL_come cL_come 5 (some .int) [(0, 10, 13, 13), (0, 10, 17, 15)] ({ frames := 7, cells := 1, slots := 6, locals := 167 } : Room) [.ref 0, .int p0, .int p1, .ref 45] (wd σ) (fun r h => r = some (.int 1) ∧ h = wd σ) := by
  refine AMetW_of (by decide +kernel) (by simp [Value.category]) (Nat.le_of_ble_eq_true rfl) (fun K hK hTab hN hE => ?_)
  have hT := tt_L_come
  refine AW_g hT cl_L hK 0 5 (pc' := 5) (lo' := [some (.ref 0), some (.int p0), some (.int p1), some (.ref 45), none]) (st' := [.int p1, .int p0, .ref 0, .int 0, .ref 45]) (hp' := wd σ) rfl ?_
  refine AW_callVX hT hK 5 [.int p0, .int p1] [.int 0, .ref 45] (mx_X5_come l0 hl0 σ p0 p1 az_IAE hr) cw_X5_come lk_L_7 vi_X5_come rfl rfl rfl rfl rfl rfl (Nat.le_of_ble_eq_true rfl) (Nat.le_of_ble_eq_true rfl) (fun _ _ hf => hf.elim) (fun E hEE => ?_)
  rw [hEE]
  refine AWX_catch hT hK hTab [] ⟨0, 10, 13, 13⟩ [⟨0, 10, 17, 15⟩] rfl (fun z hz => by cases hz) rfl (by decide) hl_13 hc_13 9 4 (ins := .astore 4) rfl (Or.inr rfl) rfl ?_
  refine AW_g hT cl_L hK 10 1 (pc' := 16) (lo' := [some (.ref 0), some (.int p0), some (.int p1), some (.ref 45), none]) (st' := [.int 1]) (hp' := wd σ) rfl ?_
  exact AW_iret hT hE 11 rfl rfl rfl (Nat.le_of_ble_eq_true rfl) (Nat.le_of_ble_eq_true rfl) ⟨rfl, rfl⟩
theorem lx_come_2 (l0 : Launch) (hl0 : l0.stackTraces = false) (σ : az_S) (p0 : Int32) (p1 : Int32) (hr : x_X5_come σ p0 p1 = .inl az_ISE) : AMetW l0 yL_come cL_come 5 (some .int) [(0, 10, 13, 13), (0, 10, 17, 15)] ({ frames := 7, cells := 1, slots := 6, locals := 167 } : Room) [.ref 0, .int p0, .int p1, .ref 45] (wd σ) (fun r h => r = some (.int 2) ∧ h = wd σ) := by
  refine AMetW_of (by decide +kernel) (by simp [Value.category]) (Nat.le_of_ble_eq_true rfl) (fun K hK hTab hN hE => ?_)
  have hT := tt_L_come
  refine AW_g hT cl_L hK 0 5 (pc' := 5) (lo' := [some (.ref 0), some (.int p0), some (.int p1), some (.ref 45), none]) (st' := [.int p1, .int p0, .ref 0, .int 0, .ref 45]) (hp' := wd σ) rfl ?_
  refine AW_callVX hT hK 5 [.int p0, .int p1] [.int 0, .ref 45] (mx_X5_come l0 hl0 σ p0 p1 az_ISE hr) cw_X5_come lk_L_7 vi_X5_come rfl rfl rfl rfl rfl rfl (Nat.le_of_ble_eq_true rfl) (Nat.le_of_ble_eq_true rfl) (fun _ _ hf => hf.elim) (fun E hEE => ?_)
  rw [hEE]
  refine AWX_catch hT hK hTab [⟨0, 10, 13, 13⟩] ⟨0, 10, 17, 15⟩ [] rfl (fun z hz => by
    rw [List.mem_singleton.mp hz]
    exact ⟨by decide, az_IAE, hl_13, hN.1⟩) rfl (by decide) hl_15 hc_15 12 4 (ins := .astore 4) rfl (Or.inr rfl) rfl ?_
  refine AW_g hT cl_L hK 13 1 (pc' := 20) (lo' := [some (.ref 0), some (.int p0), some (.int p1), some (.ref 45), none]) (st' := [.int 2]) (hp' := wd σ) rfl ?_
  exact AW_iret hT hE 14 rfl rfl rfl (Nat.le_of_ble_eq_true rfl) (Nat.le_of_ble_eq_true rfl) ⟨rfl, rfl⟩
theorem cy_L_withdraw : az_CwW yL_withdraw cL_withdraw 4 (some .int) [(0, 9, 12, 21)] 3 := ⟨⟨hi_L, cx_L_withdraw⟩, by decide +kernel, by decide +kernel, by decide +kernel⟩
theorem l_withdraw (l0 : Launch) (σ : az_S) (p0 : Int32) (rv : (Int32 × az_S)) (hr : x_X5_withdraw σ p0 = .inr rv) : AMetW l0 yL_withdraw cL_withdraw 4 (some .int) [(0, 9, 12, 21)] ({ frames := 8, cells := 0, slots := 0, locals := 166 } : Room) [.ref 0, .int p0, .ref 45] (wd σ) (fun r h => r = some (.int 0) ∧ h = wd (sL rv.2 45 (vp_updL (rv.2.2.2 45) 0 rv.1.toInt64))) := by
  refine AMetW_of (by decide +kernel) (by simp [Value.category]) (Nat.le_of_ble_eq_true rfl) (fun K hK hTab hN hE => ?_)
  have hT := tt_L_withdraw
  refine AW_g hT cl_L hK 0 4 (pc' := 4) (lo' := [some (.ref 0), some (.int p0), some (.ref 45), none]) (st' := [.int p0, .ref 0, .int 0, .ref 45]) (hp' := wd σ) rfl ?_
  refine AW_callV hT hK 4 [.int p0] [.int 0, .ref 45] (m_X5_withdraw l0 σ p0 rv hr) cw_X5_withdraw lk_L_17 vi_X5_withdraw rfl rfl rfl rfl rfl rfl (Nat.le_of_ble_eq_true rfl) (Nat.le_of_ble_eq_true rfl) (AW_k1 (fun v1 h1 => ?_))
  refine AW_g hT cl_L hK 5 1 (pc' := 8) (lo' := [some (.ref 0), some (.int p0), some (.ref 45), none]) (st' := [.long v1.toInt64, .int 0, .ref 45]) (hp' := wd rv.2) rfl ?_
  refine AW_last hT hK 6 0 rfl rfl rfl (by decide) (by decide) ?_
  refine AW_goto hT hK 7 (tgt := 15) rfl rfl ?_
  refine AW_g hT cl_L hK 11 1 (pc' := 16) (lo' := [some (.ref 0), some (.int p0), some (.ref 45), none]) (st' := [.int 0]) (hp' := wd (sL rv.2 45 (vp_updL (rv.2.2.2 45) 0 v1.toInt64))) rfl ?_
  refine AW_iret hT hE 12 rfl rfl rfl (Nat.le_of_ble_eq_true rfl) (Nat.le_of_ble_eq_true rfl) ?_
  subst h1
  exact ⟨rfl, rfl⟩
theorem lx_withdraw_1 (l0 : Launch) (hl0 : l0.stackTraces = false) (σ : az_S) (p0 : Int32) (hr : x_X5_withdraw σ p0 = .inl az_NSE) : AMetW l0 yL_withdraw cL_withdraw 4 (some .int) [(0, 9, 12, 21)] ({ frames := 8, cells := 1, slots := 6, locals := 166 } : Room) [.ref 0, .int p0, .ref 45] (wd σ) (fun r h => r = some (.int 1) ∧ h = wd σ) := by
  refine AMetW_of (by decide +kernel) (by simp [Value.category]) (Nat.le_of_ble_eq_true rfl) (fun K hK hTab hN hE => ?_)
  have hT := tt_L_withdraw
  refine AW_g hT cl_L hK 0 4 (pc' := 4) (lo' := [some (.ref 0), some (.int p0), some (.ref 45), none]) (st' := [.int p0, .ref 0, .int 0, .ref 45]) (hp' := wd σ) rfl ?_
  refine AW_callVX hT hK 4 [.int p0] [.int 0, .ref 45] (mx_X5_withdraw l0 hl0 σ p0 az_NSE hr) cw_X5_withdraw lk_L_17 vi_X5_withdraw rfl rfl rfl rfl rfl rfl (Nat.le_of_ble_eq_true rfl) (Nat.le_of_ble_eq_true rfl) (fun _ _ hf => hf.elim) (fun E hEE => ?_)
  rw [hEE]
  refine AWX_catch hT hK hTab [] ⟨0, 9, 12, 21⟩ [] rfl (fun z hz => by cases hz) rfl (by decide) hl_21 hc_21 8 3 (ins := .astore_n 3) rfl (Or.inl ⟨3, rfl, rfl⟩) rfl ?_
  refine AW_g hT cl_L hK 9 1 (pc' := 14) (lo' := [some (.ref 0), some (.int p0), some (.ref 45), none]) (st' := [.int 1]) (hp' := wd σ) rfl ?_
  exact AW_iret hT hE 10 rfl rfl rfl (Nat.le_of_ble_eq_true rfl) (Nat.le_of_ble_eq_true rfl) ⟨rfl, rfl⟩
end AZH2
