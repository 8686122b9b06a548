section AZN8
def tc_total : List (Nat × Instr) := (tb_L_law_4.drop 36).take 12
theorem tcT_total : az_Tb cL_law tc_total := tt_L_law_4_36
theorem lc_total {K : az_K} {l0 : Launch} (hK : az_OK K RL code room_1 l0) {i : Nat} {σ : az_S} (hw : az_wf σ) (h : x_X5_total σ = (x_X6_total σ).1) {cells slots : Nat} (hc : cells ≤ 1079) (hs : slots ≤ 9248) (kk : AW K cells slots 1228 [some (.ref 46), some (.ref 0), some (.ref 36), some (.ref 45), some (.int (nI i)), none, none] [] (wd (x_X6_total σ).2)) : AW K cells slots 542 [some (.ref 46), some (.ref 0), some (.ref 36), some (.ref 45), some (.int (nI i)), none, none] [] (wd σ) := by
  have hT := tcT_total
  refine AW_g hT cl_L hK 3 1 (pc' := 543) (lo' := [some (.ref 46), some (.ref 0), some (.ref 36), some (.ref 45), some (.int (nI i)), none, none]) (st' := [.ref 0]) (hp' := wd σ) rfl ?_
  refine AW_callV hT hK 4 [] [] (m_X5_total l0 σ) cw_X5_total lk_L_105 vi_X5_total rfl rfl rfl rfl rfl rfl hc hs (AW_k1 (fun u hu => ?_))
  refine AW_g hT cl_L hK 5 1 (pc' := 547) (lo' := [some (.ref 46), some (.ref 0), some (.ref 36), some (.ref 45), some (.int (nI i)), none, none]) (st' := [.ref 36, .int u]) (hp' := wd σ) rfl ?_
  refine AW_callV hT hK 6 [] [.int u] (m_X6_total l0 σ hw) cw_X6_total lk_L_108 vi_X6_total rfl rfl rfl rfl rfl rfl hc hs (AW_kiw (fun q hq => ?_))
  rw [hq] at h kk
  exact AW_icmp_eq hT hK 7 (tgt := 1228) rfl rfl (fun _ => kk) (fun z => absurd (hu.symm.trans h) z)
end AZN8
