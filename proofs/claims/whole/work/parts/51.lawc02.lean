section AZN2
def tc_papers : List (Nat × Instr) := (tb_L_law_1.drop 36).take 12 ++ ((tb_L_law_1.drop 48).take 12)
theorem tcT_papers : az_Tb cL_law tc_papers := az_Tb.app tt_L_law_1_36 (tt_L_law_1_48)
theorem lc_papers {K : az_K} {l0 : Launch} (hK : az_OK K RL code room_1 l0) {i : Nat} {σ : az_S} (hw : az_wf σ) (h : x_X5_papers σ = (x_X6_papers σ).1) {cells slots : Nat} (hc : cells ≤ 1079) (hs : slots ≤ 9248) (kk : AW K cells slots 1228 [some (.ref 46), some (.ref 0), some (.ref 36), some (.ref 45), some (.int (nI i)), none, none] [] (wd (x_X6_papers σ).2)) : AW K cells slots 268 [some (.ref 46), some (.ref 0), some (.ref 36), some (.ref 45), some (.int (nI i)), none, none] [] (wd σ) := by
  have hT := tcT_papers
  refine AW_g hT cl_L hK 9 1 (pc' := 269) (lo' := [some (.ref 46), some (.ref 0), some (.ref 36), some (.ref 45), some (.int (nI i)), none, none]) (st' := [.ref 0]) (hp' := wd σ) rfl ?_
  refine AW_callV hT hK 10 [] [] (m_X5_papers l0 σ) cw_X5_papers lk_L_85 vi_X5_papers rfl rfl rfl rfl rfl rfl hc hs (AW_k1 (fun u hu => ?_))
  refine AW_g hT cl_L hK 11 1 (pc' := 273) (lo' := [some (.ref 46), some (.ref 0), some (.ref 36), some (.ref 45), some (.int (nI i)), none, none]) (st' := [.ref 36, .int u]) (hp' := wd σ) rfl ?_
  refine AW_callV hT hK 12 [] [.int u] (m_X6_papers l0 σ hw) cw_X6_papers lk_L_88 vi_X6_papers rfl rfl rfl rfl rfl rfl hc hs (AW_kiw (fun q hq => ?_))
  rw [hq] at h kk
  exact AW_icmp_eq hT hK 13 (tgt := 1228) rfl rfl (fun _ => kk) (fun z => absurd (hu.symm.trans h) z)
end AZN2
