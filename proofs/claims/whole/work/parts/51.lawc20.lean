section AZN20
def tc_rise : List (Nat × Instr) := (tb_L_law_10.drop 0).take 12 ++ ((tb_L_law_10.drop 12).take 12 ++ ((tb_L_law_10.drop 24).take 12 ++ ((tb_L_law_10.drop 36).take 12)))
theorem tcT_rise : az_Tb cL_law tc_rise := az_Tb.app tt_L_law_10_0 (az_Tb.app tt_L_law_10_12 (az_Tb.app tt_L_law_10_24 (tt_L_law_10_36)))
theorem lt_rise {K : az_K} {l0 : Launch} (hK : az_OK K RL code room_1 l0) {b L i : Nat} {xs : Nat → Int32} (hX : az_Scr K b L xs) {x1 x2 : Int32} (hin1 : vp_in (nI i + 1) L) (e1 : xs (nI i + 1).toNatClampNeg = x1) (hin2 : vp_in (nI i + 2) L) (e2 : xs (nI i + 2).toNatClampNeg = x2) {τ : az_S} {k : Int32} (hw : az_wf τ) (hth : (x_X6_rise τ x1 x2).2.1 9 = k) (h0 : k = 0 → (x_X6_rise τ x1 x2).2.2.2 45 0 = (x_X6_rise τ x1 x2).1.toInt64) (hw' : az_wf (x_X6_rise τ x1 x2).2) {cells slots : Nat} (hc : cells ≤ 1079) (hs : slots ≤ 9248)
    (kk : AW K cells slots 1228 [some (.ref 46), some (.ref 0), some (.ref 36), some (.ref 45), some (.int (nI i)), none, none] [] (wd (x_X6_rise τ x1 x2).2)) : AW K cells slots 1067 [some (.ref 46), some (.ref 0), some (.ref 36), some (.ref 45), some (.int (nI i)), some (.int k), none] [] (wd τ) := by
  have hT := tcT_rise
  refine AW_g hT cl_L hK 14 5 (pc' := 1073) (lo' := [some (.ref 46), some (.ref 0), some (.ref 36), some (.ref 45), some (.int (nI i)), some (.int k), none]) (st' := [.int (nI i + 1), .ref 46, .ref 36]) (hp' := wd τ) rfl ?_
  refine AW_sld hT hK hX 19 rfl hin1 e1 ?_
  refine AW_g hT cl_L hK 20 4 (pc' := 1079) (lo' := [some (.ref 46), some (.ref 0), some (.ref 36), some (.ref 45), some (.int (nI i)), some (.int k), none]) (st' := [.int (nI i + 2), .ref 46, .int x1, .ref 36]) (hp' := wd τ) rfl ?_
  refine AW_sld hT hK hX 24 rfl hin2 e2 ?_
  refine AW_callV hT hK 25 [.int x1, .int x2] [] (m_X6_rise l0 τ x1 x2 hw) cw_X6_rise lk_L_149 vi_X6_rise rfl rfl rfl rfl rfl rfl hc hs (AW_kiw (fun q hq => ?_))
  rw [hq] at hth h0 hw' kk
  refine AW_g hT cl_L hK 26 2 (pc' := 1086) (lo' := [some (.ref 46), some (.ref 0), some (.ref 36), some (.ref 45), some (.int (nI i)), some (.int k), some (.int q.1)]) (st' := [.ref 36]) (hp' := wd q.2) rfl ?_
  refine AW_callV hT hK 28 [] [] (m_X6_thrown l0 q.2 hw') cw_X6_thrown lk_L_77 vi_X6_thrown rfl rfl rfl rfl rfl rfl hc hs (AW_k1 (fun u hu => ?_))
  refine AW_g hT cl_L hK 29 1 (pc' := 1091) (lo' := [some (.ref 46), some (.ref 0), some (.ref 36), some (.ref 45), some (.int (nI i)), some (.int k), some (.int q.1)]) (st' := [.int k, .int u]) (hp' := wd q.2) rfl ?_
  refine AW_icmp_eq hT hK 30 (tgt := 1096) rfl rfl (fun _ => ?_) (fun z => absurd (hu.symm.trans hth) z)
  refine AW_g hT cl_L hK 33 1 (pc' := 1098) (lo' := [some (.ref 46), some (.ref 0), some (.ref 36), some (.ref 45), some (.int (nI i)), some (.int k), some (.int q.1)]) (st' := [.int k]) (hp' := wd q.2) rfl ?_
  refine AW_if_ne hT hK 34 (tgt := 1113) rfl rfl (fun _ => AW_goto hT hK 44 (tgt := 1228) rfl rfl (AW_msk [true, true, true, true, true, false, false] rfl kk)) (fun z => ?_)
  refine AW_g hT cl_L hK 35 2 (pc' := 1103) (lo' := [some (.ref 46), some (.ref 0), some (.ref 36), some (.ref 45), some (.int (nI i)), some (.int k), some (.int q.1)]) (st' := [.int 0, .ref 45]) (hp' := wd q.2) rfl ?_
  refine AW_lald hT hK 37 0 rfl rfl rfl (by decide) (by decide) ?_
  refine AW_g hT cl_L hK 38 3 (pc' := 1108) (lo' := [some (.ref 46), some (.ref 0), some (.ref 36), some (.ref 45), some (.int (nI i)), some (.int k), some (.int q.1)]) (st' := [.int (lg_cmp (q.2.2.2 45 0) q.1.toInt64)]) (hp' := wd q.2) rfl ?_
  exact AW_if_eq hT hK 41 (tgt := 1113) rfl rfl (fun _ => AW_goto hT hK 44 (tgt := 1228) rfl rfl (AW_msk [true, true, true, true, true, false, false] rfl kk)) (fun z9 => absurd (by rw [h0 z]; exact lg_cmp_self _) z9)
theorem lc_rise {K : az_K} {l0 : Launch} (hK : az_OK K RL code room_1 l0) (hl0 : l0.stackTraces = false) (hN : az_NcK K "java/lang/IllegalStateException" "java/lang/IllegalArgumentException" ∧ az_NcK K "java/lang/IllegalArgumentException" "java/util/NoSuchElementException") {b L i : Nat} {xs : Nat → Int32} (hX : az_Scr K b L xs) {x1 x2 : Int32} (hin1 : vp_in (nI i + 1) L) (e1 : xs (nI i + 1).toNatClampNeg = x1) (hin2 : vp_in (nI i + 2) L) (e2 : xs (nI i + 2).toNatClampNeg = x2) {σ : az_S} (hw : az_wf σ) {cells slots : Nat} (hc : cells + 1 ≤ 1079) (hs : slots + 6 ≤ 9248)
    (hE1 : x_X5_rise σ x1 x2 = .inl az_NSE → (x_X6_rise σ x1 x2).2.1 9 = 1 ∧ az_wf (x_X6_rise σ x1 x2).2 ∧ AW K (cells + 1) (slots + 6) 1228 [some (.ref 46), some (.ref 0), some (.ref 36), some (.ref 45), some (.int (nI i)), none, none] [] (wd (x_X6_rise σ x1 x2).2)) (hE2 : x_X5_rise σ x1 x2 = .inl az_IAE → (x_X6_rise σ x1 x2).2.1 9 = 2 ∧ az_wf (x_X6_rise σ x1 x2).2 ∧ AW K (cells + 1) (slots + 6) 1228 [some (.ref 46), some (.ref 0), some (.ref 36), some (.ref 45), some (.int (nI i)), none, none] [] (wd (x_X6_rise σ x1 x2).2))
    (hR : ∀ rv : Int32, x_X5_rise σ x1 x2 = .inr rv → az_wf (sL σ 45 (vp_updL (σ.2.2 45) 0 rv.toInt64)) ∧ (x_X6_rise (sL σ 45 (vp_updL (σ.2.2 45) 0 rv.toInt64)) x1 x2).2.1 9 = 0 ∧ (x_X6_rise (sL σ 45 (vp_updL (σ.2.2 45) 0 rv.toInt64)) x1 x2).2.2.2 45 0 = (x_X6_rise (sL σ 45 (vp_updL (σ.2.2 45) 0 rv.toInt64)) x1 x2).1.toInt64 ∧ az_wf (x_X6_rise (sL σ 45 (vp_updL (σ.2.2 45) 0 rv.toInt64)) x1 x2).2 ∧ AW K (cells + 1) (slots + 6) 1228 [some (.ref 46), some (.ref 0), some (.ref 36), some (.ref 45), some (.int (nI i)), none, none] [] (wd (x_X6_rise (sL σ 45 (vp_updL (σ.2.2 45) 0 rv.toInt64)) x1 x2).2)) : AW K cells slots 1048 [some (.ref 46), some (.ref 0), some (.ref 36), some (.ref 45), some (.int (nI i)), none, none] [] (wd σ) := by
  have hT := tcT_rise
  refine AW_g hT cl_L hK 0 5 (pc' := 1054) (lo' := [some (.ref 46), some (.ref 0), some (.ref 36), some (.ref 45), some (.int (nI i)), none, none]) (st' := [.int (nI i + 1), .ref 46, .ref 0]) (hp' := wd σ) rfl ?_
  refine AW_sld hT hK hX 5 rfl hin1 e1 ?_
  refine AW_g hT cl_L hK 6 4 (pc' := 1060) (lo' := [some (.ref 46), some (.ref 0), some (.ref 36), some (.ref 45), some (.int (nI i)), none, none]) (st' := [.int (nI i + 2), .ref 46, .int x1, .ref 0]) (hp' := wd σ) rfl ?_
  refine AW_sld hT hK hX 10 rfl hin2 e2 ?_
  refine AW_g hT cl_L hK 11 1 (pc' := 1062) (lo' := [some (.ref 46), some (.ref 0), some (.ref 36), some (.ref 45), some (.int (nI i)), none, none]) (st' := [.ref 45, .int x2, .int x1, .ref 0]) (hp' := wd σ) rfl ?_
  cases hx : x_X5_rise σ x1 x2 with
  | inl E =>
    rcases xe_rise hx with hz | hz
    · subst hz
      obtain ⟨q1, q2, q3⟩ := hE1 hx
      refine AW_callSW hT hK hN 12 [.ref 0, .int x1, .int x2, .ref 45] [] (lx_rise_1 l0 hl0 σ x1 x2 hx) cy_L_rise lk_L_147 sv_L_rise rfl rfl rfl rfl hc hs (AW_k1 (fun u hu => ?_))
      refine AW_g hT cl_L hK 13 1 (pc' := 1067) (lo' := [some (.ref 46), some (.ref 0), some (.ref 36), some (.ref 45), some (.int (nI i)), some (.int u), none]) (st' := []) (hp' := wd σ) rfl ?_
      subst hu
      exact lt_rise hK hX hin1 e1 hin2 e2 hw q1 (fun z => absurd z (by decide)) q2 hc hs q3
    · subst hz
      obtain ⟨q1, q2, q3⟩ := hE2 hx
      refine AW_callSW hT hK hN 12 [.ref 0, .int x1, .int x2, .ref 45] [] (lx_rise_2 l0 hl0 σ x1 x2 hx) cy_L_rise lk_L_147 sv_L_rise rfl rfl rfl rfl hc hs (AW_k1 (fun u hu => ?_))
      refine AW_g hT cl_L hK 13 1 (pc' := 1067) (lo' := [some (.ref 46), some (.ref 0), some (.ref 36), some (.ref 45), some (.int (nI i)), some (.int u), none]) (st' := []) (hp' := wd σ) rfl ?_
      subst hu
      exact lt_rise hK hX hin1 e1 hin2 e2 hw q1 (fun z => absurd z (by decide)) q2 hc hs q3
  | inr rv =>
    obtain ⟨q0, q1, q2, q3, q4⟩ := hR rv hx
    refine AW_callSW hT hK hN 12 [.ref 0, .int x1, .int x2, .ref 45] [] (l_rise l0 σ x1 x2 rv hx) cy_L_rise lk_L_147 sv_L_rise rfl rfl rfl rfl (Nat.le_of_succ_le hc) (Nat.le_trans (Nat.le_add_right _ 6) hs) (AW_k1 (fun u hu => ?_))
    refine AW_g hT cl_L hK 13 1 (pc' := 1067) (lo' := [some (.ref 46), some (.ref 0), some (.ref 36), some (.ref 45), some (.int (nI i)), some (.int u), none]) (st' := []) (hp' := wd (sL σ 45 (vp_updL (σ.2.2 45) 0 rv.toInt64))) rfl ?_
    subst hu
    refine AW_widen (Nat.le_add_right _ 1) (Nat.le_add_right _ 6) ?_
    exact lt_rise hK hX hin1 e1 hin2 e2 q0 q1 (fun _ => q2) q3 hc hs q4
end AZN20
