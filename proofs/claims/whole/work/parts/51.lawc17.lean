section AZN17
def tc_mainLength : List (Nat × Instr) := (tb_L_law_9.drop 0).take 12 ++ ((tb_L_law_9.drop 12).take 12)
theorem tcT_mainLength : az_Tb cL_law tc_mainLength := az_Tb.app tt_L_law_9_0 (tt_L_law_9_12)
theorem lc_mainLength {K : az_K} {l0 : Launch} (hK : az_OK K RL code room_1 l0) {i : Nat} {σ : az_S} (hw : az_wf σ) (h : x_X5_mainLength σ = (x_X6_mainLength σ).1) {cells slots : Nat} (hc : cells ≤ 1079) (hs : slots ≤ 9248) (kk : AW K cells slots 1228 [some (.ref 46), some (.ref 0), some (.ref 36), some (.ref 45), some (.int (nI i)), none, none] [] (wd (x_X6_mainLength σ).2)) : AW K cells slots 965 [some (.ref 46), some (.ref 0), some (.ref 36), some (.ref 45), some (.int (nI i)), none, none] [] (wd σ) := by
  have hT := tcT_mainLength
  refine AW_g hT cl_L hK 10 1 (pc' := 966) (lo' := [some (.ref 46), some (.ref 0), some (.ref 36), some (.ref 45), some (.int (nI i)), none, none]) (st' := [.ref 0]) (hp' := wd σ) rfl ?_
  refine AW_callV hT hK 11 [] [] (m_X5_mainLength l0 σ) cw_X5_mainLength lk_L_135 vi_X5_mainLength rfl rfl rfl rfl rfl rfl hc hs (AW_k1 (fun u hu => ?_))
  refine AW_g hT cl_L hK 12 1 (pc' := 970) (lo' := [some (.ref 46), some (.ref 0), some (.ref 36), some (.ref 45), some (.int (nI i)), none, none]) (st' := [.ref 36, .int u]) (hp' := wd σ) rfl ?_
  refine AW_callV hT hK 13 [] [.int u] (m_X6_mainLength l0 σ hw) cw_X6_mainLength lk_L_138 vi_X6_mainLength rfl rfl rfl rfl rfl rfl hc hs (AW_kiw (fun q hq => ?_))
  rw [hq] at h kk
  exact AW_icmp_eq hT hK 14 (tgt := 1228) rfl rfl (fun _ => kk) (fun z => absurd (hu.symm.trans h) z)
end AZN17
