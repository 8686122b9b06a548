section AZN3
def tc_references : List (Nat × Instr) := (tb_L_law_1.drop 48).take 12 ++ ((tb_L_law_2.drop 0).take 12 ++ ((tb_L_law_2.drop 12).take 12 ++ ((tb_L_law_2.drop 24).take 12)))
theorem tcT_references : az_Tb cL_law tc_references := az_Tb.app tt_L_law_1_48 (az_Tb.app tt_L_law_2_0 (az_Tb.app tt_L_law_2_12 (tt_L_law_2_24)))
theorem lt_references {K : az_K} {l0 : Launch} (hK : az_OK K RL code room_1 l0) {b L i : Nat} {xs : Nat → Int32} (hX : az_Scr K b L xs) {x1 : Int32} (hin1 : vp_in (nI i + 1) L) (e1 : xs (nI i + 1).toNatClampNeg = x1) {τ : az_S} {k : Int32} (hw : az_wf τ) (hth : (x_X6_references τ x1).2.1 9 = k) (h0 : k = 0 → (x_X6_references τ x1).2.2.2 45 0 = (x_X6_references τ x1).1.toInt64) (hw' : az_wf (x_X6_references τ x1).2) {cells slots : Nat} (hc : cells ≤ 1079) (hs : slots ≤ 9248)
    (kk : AW K cells slots 1228 [some (.ref 46), some (.ref 0), some (.ref 36), some (.ref 45), some (.int (nI i)), none, none] [] (wd (x_X6_references τ x1).2)) : AW K cells slots 294 [some (.ref 46), some (.ref 0), some (.ref 36), some (.ref 45), some (.int (nI i)), some (.int k), none] [] (wd τ) := by
  have hT := tcT_references
  refine AW_g hT cl_L hK 13 5 (pc' := 300) (lo' := [some (.ref 46), some (.ref 0), some (.ref 36), some (.ref 45), some (.int (nI i)), some (.int k), none]) (st' := [.int (nI i + 1), .ref 46, .ref 36]) (hp' := wd τ) rfl ?_
  refine AW_sld hT hK hX 18 rfl hin1 e1 ?_
  refine AW_callV hT hK 19 [.int x1] [] (m_X6_references l0 τ x1 hw) cw_X6_references lk_L_91 vi_X6_references rfl rfl rfl rfl rfl rfl hc hs (AW_kiw (fun q hq => ?_))
  rw [hq] at hth h0 hw' kk
  refine AW_g hT cl_L hK 20 2 (pc' := 307) (lo' := [some (.ref 46), some (.ref 0), some (.ref 36), some (.ref 45), some (.int (nI i)), some (.int k), some (.int q.1)]) (st' := [.ref 36]) (hp' := wd q.2) rfl ?_
  refine AW_callV hT hK 22 [] [] (m_X6_thrown l0 q.2 hw') cw_X6_thrown lk_L_77 vi_X6_thrown rfl rfl rfl rfl rfl rfl hc hs (AW_k1 (fun u hu => ?_))
  refine AW_g hT cl_L hK 23 1 (pc' := 312) (lo' := [some (.ref 46), some (.ref 0), some (.ref 36), some (.ref 45), some (.int (nI i)), some (.int k), some (.int q.1)]) (st' := [.int k, .int u]) (hp' := wd q.2) rfl ?_
  refine AW_icmp_eq hT hK 24 (tgt := 317) rfl rfl (fun _ => ?_) (fun z => absurd (hu.symm.trans hth) z)
  refine AW_g hT cl_L hK 27 1 (pc' := 319) (lo' := [some (.ref 46), some (.ref 0), some (.ref 36), some (.ref 45), some (.int (nI i)), some (.int k), some (.int q.1)]) (st' := [.int k]) (hp' := wd q.2) rfl ?_
  refine AW_if_ne hT hK 28 (tgt := 334) rfl rfl (fun _ => AW_goto hT hK 38 (tgt := 1228) rfl rfl (AW_msk [true, true, true, true, true, false, false] rfl kk)) (fun z => ?_)
  refine AW_g hT cl_L hK 29 2 (pc' := 324) (lo' := [some (.ref 46), some (.ref 0), some (.ref 36), some (.ref 45), some (.int (nI i)), some (.int k), some (.int q.1)]) (st' := [.int 0, .ref 45]) (hp' := wd q.2) rfl ?_
  refine AW_lald hT hK 31 0 rfl rfl rfl (by decide) (by decide) ?_
  refine AW_g hT cl_L hK 32 3 (pc' := 329) (lo' := [some (.ref 46), some (.ref 0), some (.ref 36), some (.ref 45), some (.int (nI i)), some (.int k), some (.int q.1)]) (st' := [.int (lg_cmp (q.2.2.2 45 0) q.1.toInt64)]) (hp' := wd q.2) rfl ?_
  exact AW_if_eq hT hK 35 (tgt := 334) rfl rfl (fun _ => AW_goto hT hK 38 (tgt := 1228) rfl rfl (AW_msk [true, true, true, true, true, false, false] rfl kk)) (fun z9 => absurd (by rw [h0 z]; exact lg_cmp_self _) z9)
theorem lc_references {K : az_K} {l0 : Launch} (hK : az_OK K RL code room_1 l0) (hl0 : l0.stackTraces = false) (hN : az_NcK K "java/lang/IllegalStateException" "java/lang/IllegalArgumentException" ∧ az_NcK K "java/lang/IllegalArgumentException" "java/util/NoSuchElementException") {b L i : Nat} {xs : Nat → Int32} (hX : az_Scr K b L xs) {x1 : Int32} (hin1 : vp_in (nI i + 1) L) (e1 : xs (nI i + 1).toNatClampNeg = x1) {σ : az_S} (hw : az_wf σ) {cells slots : Nat} (hc : cells + 1 ≤ 1079) (hs : slots + 6 ≤ 9248)
    (hE1 : x_X5_references σ x1 = .inl az_NSE → (x_X6_references σ x1).2.1 9 = 1 ∧ az_wf (x_X6_references σ x1).2 ∧ AW K (cells + 1) (slots + 6) 1228 [some (.ref 46), some (.ref 0), some (.ref 36), some (.ref 45), some (.int (nI i)), none, none] [] (wd (x_X6_references σ x1).2))
    (hR : ∀ rv : Int32, x_X5_references σ x1 = .inr rv → az_wf (sL σ 45 (vp_updL (σ.2.2 45) 0 rv.toInt64)) ∧ (x_X6_references (sL σ 45 (vp_updL (σ.2.2 45) 0 rv.toInt64)) x1).2.1 9 = 0 ∧ (x_X6_references (sL σ 45 (vp_updL (σ.2.2 45) 0 rv.toInt64)) x1).2.2.2 45 0 = (x_X6_references (sL σ 45 (vp_updL (σ.2.2 45) 0 rv.toInt64)) x1).1.toInt64 ∧ az_wf (x_X6_references (sL σ 45 (vp_updL (σ.2.2 45) 0 rv.toInt64)) x1).2 ∧ AW K (cells + 1) (slots + 6) 1228 [some (.ref 46), some (.ref 0), some (.ref 36), some (.ref 45), some (.int (nI i)), none, none] [] (wd (x_X6_references (sL σ 45 (vp_updL (σ.2.2 45) 0 rv.toInt64)) x1).2)) : AW K cells slots 281 [some (.ref 46), some (.ref 0), some (.ref 36), some (.ref 45), some (.int (nI i)), none, none] [] (wd σ) := by
  have hT := tcT_references
  refine AW_g hT cl_L hK 4 5 (pc' := 287) (lo' := [some (.ref 46), some (.ref 0), some (.ref 36), some (.ref 45), some (.int (nI i)), none, none]) (st' := [.int (nI i + 1), .ref 46, .ref 0]) (hp' := wd σ) rfl ?_
  refine AW_sld hT hK hX 9 rfl hin1 e1 ?_
  refine AW_g hT cl_L hK 10 1 (pc' := 289) (lo' := [some (.ref 46), some (.ref 0), some (.ref 36), some (.ref 45), some (.int (nI i)), none, none]) (st' := [.ref 45, .int x1, .ref 0]) (hp' := wd σ) rfl ?_
  cases hx : x_X5_references σ x1 with
  | inl E =>
    have hz := xe_references hx
    subst hz
    obtain ⟨q1, q2, q3⟩ := hE1 hx
    refine AW_callSW hT hK hN 11 [.ref 0, .int x1, .ref 45] [] (lx_references_1 l0 hl0 σ x1 hx) cy_L_references lk_L_89 sv_L_references rfl rfl rfl rfl hc hs (AW_k1 (fun u hu => ?_))
    refine AW_g hT cl_L hK 12 1 (pc' := 294) (lo' := [some (.ref 46), some (.ref 0), some (.ref 36), some (.ref 45), some (.int (nI i)), some (.int u), none]) (st' := []) (hp' := wd σ) rfl ?_
    subst hu
    exact lt_references hK hX hin1 e1 hw q1 (fun z => absurd z (by decide)) q2 hc hs q3
  | inr rv =>
    obtain ⟨q0, q1, q2, q3, q4⟩ := hR rv hx
    refine AW_callSW hT hK hN 11 [.ref 0, .int x1, .ref 45] [] (l_references l0 σ x1 rv hx) cy_L_references lk_L_89 sv_L_references rfl rfl rfl rfl (Nat.le_of_succ_le hc) (Nat.le_trans (Nat.le_add_right _ 6) hs) (AW_k1 (fun u hu => ?_))
    refine AW_g hT cl_L hK 12 1 (pc' := 294) (lo' := [some (.ref 46), some (.ref 0), some (.ref 36), some (.ref 45), some (.int (nI i)), some (.int u), none]) (st' := []) (hp' := wd (sL σ 45 (vp_updL (σ.2.2 45) 0 rv.toInt64))) rfl ?_
    subst hu
    refine AW_widen (Nat.le_add_right _ 1) (Nat.le_add_right _ 6) ?_
    exact lt_references hK hX hin1 e1 q0 q1 (fun _ => q2) q3 hc hs q4
end AZN3
