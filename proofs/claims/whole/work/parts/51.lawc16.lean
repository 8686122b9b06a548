section AZN16
def tc_ways : List (Nat × Instr) := (tb_L_law_9.drop 0).take 12
theorem tcT_ways : az_Tb cL_law tc_ways := tt_L_law_9_0
theorem lc_ways {K : az_K} {l0 : Launch} (hK : az_OK K RL code room_1 l0) {i : Nat} {σ : az_S} (hw : az_wf σ) (h : x_X5_ways σ = (x_X6_ways σ).1) {cells slots : Nat} (hc : cells ≤ 1079) (hs : slots ≤ 9248) (kk : AW K cells slots 1228 [some (.ref 46), some (.ref 0), some (.ref 36), some (.ref 45), some (.int (nI i)), none, none] [] (wd (x_X6_ways σ).2)) : AW K cells slots 952 [some (.ref 46), some (.ref 0), some (.ref 36), some (.ref 45), some (.int (nI i)), none, none] [] (wd σ) := by
  have hT := tcT_ways
  refine AW_g hT cl_L hK 3 1 (pc' := 953) (lo' := [some (.ref 46), some (.ref 0), some (.ref 36), some (.ref 45), some (.int (nI i)), none, none]) (st' := [.ref 0]) (hp' := wd σ) rfl ?_
  refine AW_callV hT hK 4 [] [] (m_X5_ways l0 σ) cw_X5_ways lk_L_131 vi_X5_ways rfl rfl rfl rfl rfl rfl hc hs (AW_k1 (fun u hu => ?_))
  refine AW_g hT cl_L hK 5 1 (pc' := 957) (lo' := [some (.ref 46), some (.ref 0), some (.ref 36), some (.ref 45), some (.int (nI i)), none, none]) (st' := [.ref 36, .int u]) (hp' := wd σ) rfl ?_
  refine AW_callV hT hK 6 [] [.int u] (m_X6_ways l0 σ hw) cw_X6_ways lk_L_134 vi_X6_ways rfl rfl rfl rfl rfl rfl hc hs (AW_kiw (fun q hq => ?_))
  rw [hq] at h kk
  exact AW_icmp_eq hT hK 7 (tgt := 1228) rfl rfl (fun _ => kk) (fun z => absurd (hu.symm.trans h) z)
end AZN16
