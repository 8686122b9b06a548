section AZN9
def tc_likenessNumerator : List (Nat × Instr) := (tb_L_law_4.drop 36).take 12 ++ ((tb_L_law_4.drop 48).take 12 ++ ((tb_L_law_5.drop 0).take 12 ++ ((tb_L_law_5.drop 12).take 12 ++ ((tb_L_law_5.drop 24).take 12))))
theorem tcT_likenessNumerator : az_Tb cL_law tc_likenessNumerator := az_Tb.app tt_L_law_4_36 (az_Tb.app tt_L_law_4_48 (az_Tb.app tt_L_law_5_0 (az_Tb.app tt_L_law_5_12 (tt_L_law_5_24))))
theorem lt_likenessNumerator {K : az_K} {l0 : Launch} (hK : az_OK K RL code room_1 l0) {b L i : Nat} {xs : Nat → Int32} (hX : az_Scr K b L xs) {x1 x2 : Int32} (hin1 : vp_in (nI i + 1) L) (e1 : xs (nI i + 1).toNatClampNeg = x1) (hin2 : vp_in (nI i + 2) L) (e2 : xs (nI i + 2).toNatClampNeg = x2) {τ : az_S} {k : Int32} (hw : az_wf τ) (hth : (x_X6_likenessNumerator τ x1 x2).2.1 9 = k) (h0 : k = 0 → (x_X6_likenessNumerator τ x1 x2).2.2.2 45 0 = (x_X6_likenessNumerator τ x1 x2).1.toInt64) (hw' : az_wf (x_X6_likenessNumerator τ x1 x2).2) {cells slots : Nat} (hc : cells ≤ 1079) (hs : slots ≤ 9248)
    (kk : AW K cells slots 1228 [some (.ref 46), some (.ref 0), some (.ref 36), some (.ref 45), some (.int (nI i)), none, none] [] (wd (x_X6_likenessNumerator τ x1 x2).2)) : AW K cells slots 574 [some (.ref 46), some (.ref 0), some (.ref 36), some (.ref 45), some (.int (nI i)), some (.int k), none] [] (wd τ) := by
  have hT := tcT_likenessNumerator
  refine AW_g hT cl_L hK 24 5 (pc' := 580) (lo' := [some (.ref 46), some (.ref 0), some (.ref 36), some (.ref 45), some (.int (nI i)), some (.int k), none]) (st' := [.int (nI i + 1), .ref 46, .ref 36]) (hp' := wd τ) rfl ?_
  refine AW_sld hT hK hX 29 rfl hin1 e1 ?_
  refine AW_g hT cl_L hK 30 4 (pc' := 586) (lo' := [some (.ref 46), some (.ref 0), some (.ref 36), some (.ref 45), some (.int (nI i)), some (.int k), none]) (st' := [.int (nI i + 2), .ref 46, .int x1, .ref 36]) (hp' := wd τ) rfl ?_
  refine AW_sld hT hK hX 34 rfl hin2 e2 ?_
  refine AW_callV hT hK 35 [.int x1, .int x2] [] (m_X6_likenessNumerator l0 τ x1 x2 hw) cw_X6_likenessNumerator lk_L_111 vi_X6_likenessNumerator rfl rfl rfl rfl rfl rfl hc hs (AW_kiw (fun q hq => ?_))
  rw [hq] at hth h0 hw' kk
  refine AW_g hT cl_L hK 36 2 (pc' := 593) (lo' := [some (.ref 46), some (.ref 0), some (.ref 36), some (.ref 45), some (.int (nI i)), some (.int k), some (.int q.1)]) (st' := [.ref 36]) (hp' := wd q.2) rfl ?_
  refine AW_callV hT hK 38 [] [] (m_X6_thrown l0 q.2 hw') cw_X6_thrown lk_L_77 vi_X6_thrown rfl rfl rfl rfl rfl rfl hc hs (AW_k1 (fun u hu => ?_))
  refine AW_g hT cl_L hK 39 1 (pc' := 598) (lo' := [some (.ref 46), some (.ref 0), some (.ref 36), some (.ref 45), some (.int (nI i)), some (.int k), some (.int q.1)]) (st' := [.int k, .int u]) (hp' := wd q.2) rfl ?_
  refine AW_icmp_eq hT hK 40 (tgt := 603) rfl rfl (fun _ => ?_) (fun z => absurd (hu.symm.trans hth) z)
  refine AW_g hT cl_L hK 43 1 (pc' := 605) (lo' := [some (.ref 46), some (.ref 0), some (.ref 36), some (.ref 45), some (.int (nI i)), some (.int k), some (.int q.1)]) (st' := [.int k]) (hp' := wd q.2) rfl ?_
  refine AW_if_ne hT hK 44 (tgt := 620) rfl rfl (fun _ => AW_goto hT hK 54 (tgt := 1228) rfl rfl (AW_msk [true, true, true, true, true, false, false] rfl kk)) (fun z => ?_)
  refine AW_g hT cl_L hK 45 2 (pc' := 610) (lo' := [some (.ref 46), some (.ref 0), some (.ref 36), some (.ref 45), some (.int (nI i)), some (.int k), some (.int q.1)]) (st' := [.int 0, .ref 45]) (hp' := wd q.2) rfl ?_
  refine AW_lald hT hK 47 0 rfl rfl rfl (by decide) (by decide) ?_
  refine AW_g hT cl_L hK 48 3 (pc' := 615) (lo' := [some (.ref 46), some (.ref 0), some (.ref 36), some (.ref 45), some (.int (nI i)), some (.int k), some (.int q.1)]) (st' := [.int (lg_cmp (q.2.2.2 45 0) q.1.toInt64)]) (hp' := wd q.2) rfl ?_
  exact AW_if_eq hT hK 51 (tgt := 620) rfl rfl (fun _ => AW_goto hT hK 54 (tgt := 1228) rfl rfl (AW_msk [true, true, true, true, true, false, false] rfl kk)) (fun z9 => absurd (by rw [h0 z]; exact lg_cmp_self _) z9)
theorem lc_likenessNumerator {K : az_K} {l0 : Launch} (hK : az_OK K RL code room_1 l0) (hl0 : l0.stackTraces = false) (hN : az_NcK K "java/lang/IllegalStateException" "java/lang/IllegalArgumentException" ∧ az_NcK K "java/lang/IllegalArgumentException" "java/util/NoSuchElementException") {b L i : Nat} {xs : Nat → Int32} (hX : az_Scr K b L xs) {x1 x2 : Int32} (hin1 : vp_in (nI i + 1) L) (e1 : xs (nI i + 1).toNatClampNeg = x1) (hin2 : vp_in (nI i + 2) L) (e2 : xs (nI i + 2).toNatClampNeg = x2) {σ : az_S} (hw : az_wf σ) {cells slots : Nat} (hc : cells + 1 ≤ 1079) (hs : slots + 6 ≤ 9248)
    (hE1 : x_X5_likenessNumerator σ x1 x2 = .inl az_NSE → (x_X6_likenessNumerator σ x1 x2).2.1 9 = 1 ∧ az_wf (x_X6_likenessNumerator σ x1 x2).2 ∧ AW K (cells + 1) (slots + 6) 1228 [some (.ref 46), some (.ref 0), some (.ref 36), some (.ref 45), some (.int (nI i)), none, none] [] (wd (x_X6_likenessNumerator σ x1 x2).2))
    (hR : ∀ rv : Int32, x_X5_likenessNumerator σ x1 x2 = .inr rv → az_wf (sL σ 45 (vp_updL (σ.2.2 45) 0 rv.toInt64)) ∧ (x_X6_likenessNumerator (sL σ 45 (vp_updL (σ.2.2 45) 0 rv.toInt64)) x1 x2).2.1 9 = 0 ∧ (x_X6_likenessNumerator (sL σ 45 (vp_updL (σ.2.2 45) 0 rv.toInt64)) x1 x2).2.2.2 45 0 = (x_X6_likenessNumerator (sL σ 45 (vp_updL (σ.2.2 45) 0 rv.toInt64)) x1 x2).1.toInt64 ∧ az_wf (x_X6_likenessNumerator (sL σ 45 (vp_updL (σ.2.2 45) 0 rv.toInt64)) x1 x2).2 ∧ AW K (cells + 1) (slots + 6) 1228 [some (.ref 46), some (.ref 0), some (.ref 36), some (.ref 45), some (.int (nI i)), none, none] [] (wd (x_X6_likenessNumerator (sL σ 45 (vp_updL (σ.2.2 45) 0 rv.toInt64)) x1 x2).2)) : AW K cells slots 555 [some (.ref 46), some (.ref 0), some (.ref 36), some (.ref 45), some (.int (nI i)), none, none] [] (wd σ) := by
  have hT := tcT_likenessNumerator
  refine AW_g hT cl_L hK 10 5 (pc' := 561) (lo' := [some (.ref 46), some (.ref 0), some (.ref 36), some (.ref 45), some (.int (nI i)), none, none]) (st' := [.int (nI i + 1), .ref 46, .ref 0]) (hp' := wd σ) rfl ?_
  refine AW_sld hT hK hX 15 rfl hin1 e1 ?_
  refine AW_g hT cl_L hK 16 4 (pc' := 567) (lo' := [some (.ref 46), some (.ref 0), some (.ref 36), some (.ref 45), some (.int (nI i)), none, none]) (st' := [.int (nI i + 2), .ref 46, .int x1, .ref 0]) (hp' := wd σ) rfl ?_
  refine AW_sld hT hK hX 20 rfl hin2 e2 ?_
  refine AW_g hT cl_L hK 21 1 (pc' := 569) (lo' := [some (.ref 46), some (.ref 0), some (.ref 36), some (.ref 45), some (.int (nI i)), none, none]) (st' := [.ref 45, .int x2, .int x1, .ref 0]) (hp' := wd σ) rfl ?_
  cases hx : x_X5_likenessNumerator σ x1 x2 with
  | inl E =>
    have hz := xe_likenessNumerator hx
    subst hz
    obtain ⟨q1, q2, q3⟩ := hE1 hx
    refine AW_callSW hT hK hN 22 [.ref 0, .int x1, .int x2, .ref 45] [] (lx_likenessNumerator_1 l0 hl0 σ x1 x2 hx) cy_L_likenessNumerator lk_L_109 sv_L_likenessNumerator rfl rfl rfl rfl hc hs (AW_k1 (fun u hu => ?_))
    refine AW_g hT cl_L hK 23 1 (pc' := 574) (lo' := [some (.ref 46), some (.ref 0), some (.ref 36), some (.ref 45), some (.int (nI i)), some (.int u), none]) (st' := []) (hp' := wd σ) rfl ?_
    subst hu
    exact lt_likenessNumerator hK hX hin1 e1 hin2 e2 hw q1 (fun z => absurd z (by decide)) q2 hc hs q3
  | inr rv =>
    obtain ⟨q0, q1, q2, q3, q4⟩ := hR rv hx
    refine AW_callSW hT hK hN 22 [.ref 0, .int x1, .int x2, .ref 45] [] (l_likenessNumerator l0 σ x1 x2 rv hx) cy_L_likenessNumerator lk_L_109 sv_L_likenessNumerator rfl rfl rfl rfl (Nat.le_of_succ_le hc) (Nat.le_trans (Nat.le_add_right _ 6) hs) (AW_k1 (fun u hu => ?_))
    refine AW_g hT cl_L hK 23 1 (pc' := 574) (lo' := [some (.ref 46), some (.ref 0), some (.ref 36), some (.ref 45), some (.int (nI i)), some (.int u), none]) (st' := []) (hp' := wd (sL σ 45 (vp_updL (σ.2.2 45) 0 rv.toInt64))) rfl ?_
    subst hu
    refine AW_widen (Nat.le_add_right _ 1) (Nat.le_add_right _ 6) ?_
    exact lt_likenessNumerator hK hX hin1 e1 hin2 e2 q0 q1 (fun _ => q2) q3 hc hs q4
end AZN9
