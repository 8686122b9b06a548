section AZN19
def tc_mainSum : List (Nat × Instr) := (tb_L_law_9.drop 48).take 12
theorem tcT_mainSum : az_Tb cL_law tc_mainSum := tt_L_law_9_48
theorem lc_mainSum {K : az_K} {l0 : Launch} (hK : az_OK K RL code room_1 l0) {i : Nat} {σ : az_S} (hw : az_wf σ) (h : x_X5_mainSum σ = (x_X6_mainSum σ).1) {cells slots : Nat} (hc : cells ≤ 1079) (hs : slots ≤ 9248) (kk : AW K cells slots 1228 [some (.ref 46), some (.ref 0), some (.ref 36), some (.ref 45), some (.int (nI i)), none, none] [] (wd (x_X6_mainSum σ).2)) : AW K cells slots 1034 [some (.ref 46), some (.ref 0), some (.ref 36), some (.ref 45), some (.int (nI i)), none, none] [] (wd σ) := by
  have hT := tcT_mainSum
  refine AW_g hT cl_L hK 4 1 (pc' := 1035) (lo' := [some (.ref 46), some (.ref 0), some (.ref 36), some (.ref 45), some (.int (nI i)), none, none]) (st' := [.ref 0]) (hp' := wd σ) rfl ?_
  refine AW_callV hT hK 5 [] [] (m_X5_mainSum l0 σ) cw_X5_mainSum lk_L_142 vi_X5_mainSum rfl rfl rfl rfl rfl rfl hc hs (AW_kl (fun u hu => ?_))
  refine AW_g hT cl_L hK 6 1 (pc' := 1039) (lo' := [some (.ref 46), some (.ref 0), some (.ref 36), some (.ref 45), some (.int (nI i)), none, none]) (st' := [.ref 36, .long u]) (hp' := wd σ) rfl ?_
  refine AW_callV hT hK 7 [] [.long u] (m_X6_mainSum l0 σ hw) cw_X6_mainSum lk_L_146 vi_X6_mainSum rfl rfl rfl rfl rfl rfl hc hs (AW_klw (fun q hq => ?_))
  rw [hq] at h kk
  refine AW_g hT cl_L hK 8 1 (pc' := 1043) (lo' := [some (.ref 46), some (.ref 0), some (.ref 36), some (.ref 45), some (.int (nI i)), none, none]) (st' := [.int (lg_cmp u q.1)]) (hp' := wd q.2) rfl ?_
  exact AW_if_eq hT hK 9 (tgt := 1228) rfl rfl (fun _ => kk) (fun z9 => absurd (by rw [hu.symm.trans h]; exact lg_cmp_self _) z9)
end AZN19
