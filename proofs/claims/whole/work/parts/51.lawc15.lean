section AZN15
def tc_count : List (Nat × Instr) := (tb_L_law_8.drop 12).take 12 ++ ((tb_L_law_8.drop 24).take 12 ++ ((tb_L_law_8.drop 36).take 12 ++ ((tb_L_law_8.drop 48).take 12 ++ ((tb_L_law_9.drop 0).take 12))))
theorem tcT_count : az_Tb cL_law tc_count := az_Tb.app tt_L_law_8_12 (az_Tb.app tt_L_law_8_24 (az_Tb.app tt_L_law_8_36 (az_Tb.app tt_L_law_8_48 (tt_L_law_9_0))))
theorem lt_count {K : az_K} {l0 : Launch} (hK : az_OK K RL code room_1 l0) {b L i : Nat} {xs : Nat → Int32} (hX : az_Scr K b L xs) {x1 x2 : Int32} (hin1 : vp_in (nI i + 1) L) (e1 : xs (nI i + 1).toNatClampNeg = x1) (hin2 : vp_in (nI i + 2) L) (e2 : xs (nI i + 2).toNatClampNeg = x2) {τ : az_S} {k : Int32} (hw : az_wf τ) (hth : (x_X6_count_ τ x1 x2).2.1 9 = k) (h0 : k = 0 → (x_X6_count_ τ x1 x2).2.2.2 45 0 = (x_X6_count_ τ x1 x2).1.toInt64) (hw' : az_wf (x_X6_count_ τ x1 x2).2) {cells slots : Nat} (hc : cells ≤ 1079) (hs : slots ≤ 9248)
    (kk : AW K cells slots 1228 [some (.ref 46), some (.ref 0), some (.ref 36), some (.ref 45), some (.int (nI i)), none, none] [] (wd (x_X6_count_ τ x1 x2).2)) : AW K cells slots 903 [some (.ref 46), some (.ref 0), some (.ref 36), some (.ref 45), some (.int (nI i)), some (.int k), none] [] (wd τ) := by
  have hT := tcT_count
  refine AW_g hT cl_L hK 20 5 (pc' := 909) (lo' := [some (.ref 46), some (.ref 0), some (.ref 36), some (.ref 45), some (.int (nI i)), some (.int k), none]) (st' := [.int (nI i + 1), .ref 46, .ref 36]) (hp' := wd τ) rfl ?_
  refine AW_sld hT hK hX 25 rfl hin1 e1 ?_
  refine AW_g hT cl_L hK 26 4 (pc' := 915) (lo' := [some (.ref 46), some (.ref 0), some (.ref 36), some (.ref 45), some (.int (nI i)), some (.int k), none]) (st' := [.int (nI i + 2), .ref 46, .int x1, .ref 36]) (hp' := wd τ) rfl ?_
  refine AW_sld hT hK hX 30 rfl hin2 e2 ?_
  refine AW_callV hT hK 31 [.int x1, .int x2] [] (m_X6_count_ l0 τ x1 x2 hw) cw_X6_count_ lk_L_130 vi_X6_count_ rfl rfl rfl rfl rfl rfl hc hs (AW_kiw (fun q hq => ?_))
  rw [hq] at hth h0 hw' kk
  refine AW_g hT cl_L hK 32 2 (pc' := 922) (lo' := [some (.ref 46), some (.ref 0), some (.ref 36), some (.ref 45), some (.int (nI i)), some (.int k), some (.int q.1)]) (st' := [.ref 36]) (hp' := wd q.2) rfl ?_
  refine AW_callV hT hK 34 [] [] (m_X6_thrown l0 q.2 hw') cw_X6_thrown lk_L_77 vi_X6_thrown rfl rfl rfl rfl rfl rfl hc hs (AW_k1 (fun u hu => ?_))
  refine AW_g hT cl_L hK 35 1 (pc' := 927) (lo' := [some (.ref 46), some (.ref 0), some (.ref 36), some (.ref 45), some (.int (nI i)), some (.int k), some (.int q.1)]) (st' := [.int k, .int u]) (hp' := wd q.2) rfl ?_
  refine AW_icmp_eq hT hK 36 (tgt := 932) rfl rfl (fun _ => ?_) (fun z => absurd (hu.symm.trans hth) z)
  refine AW_g hT cl_L hK 39 1 (pc' := 934) (lo' := [some (.ref 46), some (.ref 0), some (.ref 36), some (.ref 45), some (.int (nI i)), some (.int k), some (.int q.1)]) (st' := [.int k]) (hp' := wd q.2) rfl ?_
  refine AW_if_ne hT hK 40 (tgt := 949) rfl rfl (fun _ => AW_goto hT hK 50 (tgt := 1228) rfl rfl (AW_msk [true, true, true, true, true, false, false] rfl kk)) (fun z => ?_)
  refine AW_g hT cl_L hK 41 2 (pc' := 939) (lo' := [some (.ref 46), some (.ref 0), some (.ref 36), some (.ref 45), some (.int (nI i)), some (.int k), some (.int q.1)]) (st' := [.int 0, .ref 45]) (hp' := wd q.2) rfl ?_
  refine AW_lald hT hK 43 0 rfl rfl rfl (by decide) (by decide) ?_
  refine AW_g hT cl_L hK 44 3 (pc' := 944) (lo' := [some (.ref 46), some (.ref 0), some (.ref 36), some (.ref 45), some (.int (nI i)), some (.int k), some (.int q.1)]) (st' := [.int (lg_cmp (q.2.2.2 45 0) q.1.toInt64)]) (hp' := wd q.2) rfl ?_
  exact AW_if_eq hT hK 47 (tgt := 949) rfl rfl (fun _ => AW_goto hT hK 50 (tgt := 1228) rfl rfl (AW_msk [true, true, true, true, true, false, false] rfl kk)) (fun z9 => absurd (by rw [h0 z]; exact lg_cmp_self _) z9)
theorem lc_count {K : az_K} {l0 : Launch} (hK : az_OK K RL code room_1 l0) (hl0 : l0.stackTraces = false) (hN : az_NcK K "java/lang/IllegalStateException" "java/lang/IllegalArgumentException" ∧ az_NcK K "java/lang/IllegalArgumentException" "java/util/NoSuchElementException") {b L i : Nat} {xs : Nat → Int32} (hX : az_Scr K b L xs) {x1 x2 : Int32} (hin1 : vp_in (nI i + 1) L) (e1 : xs (nI i + 1).toNatClampNeg = x1) (hin2 : vp_in (nI i + 2) L) (e2 : xs (nI i + 2).toNatClampNeg = x2) {σ : az_S} (hw : az_wf σ) {cells slots : Nat} (hc : cells + 1 ≤ 1079) (hs : slots + 6 ≤ 9248)
    (hE1 : x_X5_count σ x1 x2 = .inl az_NSE → (x_X6_count_ σ x1 x2).2.1 9 = 1 ∧ az_wf (x_X6_count_ σ x1 x2).2 ∧ AW K (cells + 1) (slots + 6) 1228 [some (.ref 46), some (.ref 0), some (.ref 36), some (.ref 45), some (.int (nI i)), none, none] [] (wd (x_X6_count_ σ x1 x2).2))
    (hR : ∀ rv : Int32, x_X5_count σ x1 x2 = .inr rv → az_wf (sL σ 45 (vp_updL (σ.2.2 45) 0 rv.toInt64)) ∧ (x_X6_count_ (sL σ 45 (vp_updL (σ.2.2 45) 0 rv.toInt64)) x1 x2).2.1 9 = 0 ∧ (x_X6_count_ (sL σ 45 (vp_updL (σ.2.2 45) 0 rv.toInt64)) x1 x2).2.2.2 45 0 = (x_X6_count_ (sL σ 45 (vp_updL (σ.2.2 45) 0 rv.toInt64)) x1 x2).1.toInt64 ∧ az_wf (x_X6_count_ (sL σ 45 (vp_updL (σ.2.2 45) 0 rv.toInt64)) x1 x2).2 ∧ AW K (cells + 1) (slots + 6) 1228 [some (.ref 46), some (.ref 0), some (.ref 36), some (.ref 45), some (.int (nI i)), none, none] [] (wd (x_X6_count_ (sL σ 45 (vp_updL (σ.2.2 45) 0 rv.toInt64)) x1 x2).2)) : AW K cells slots 884 [some (.ref 46), some (.ref 0), some (.ref 36), some (.ref 45), some (.int (nI i)), none, none] [] (wd σ) := by
  have hT := tcT_count
  refine AW_g hT cl_L hK 6 5 (pc' := 890) (lo' := [some (.ref 46), some (.ref 0), some (.ref 36), some (.ref 45), some (.int (nI i)), none, none]) (st' := [.int (nI i + 1), .ref 46, .ref 0]) (hp' := wd σ) rfl ?_
  refine AW_sld hT hK hX 11 rfl hin1 e1 ?_
  refine AW_g hT cl_L hK 12 4 (pc' := 896) (lo' := [some (.ref 46), some (.ref 0), some (.ref 36), some (.ref 45), some (.int (nI i)), none, none]) (st' := [.int (nI i + 2), .ref 46, .int x1, .ref 0]) (hp' := wd σ) rfl ?_
  refine AW_sld hT hK hX 16 rfl hin2 e2 ?_
  refine AW_g hT cl_L hK 17 1 (pc' := 898) (lo' := [some (.ref 46), some (.ref 0), some (.ref 36), some (.ref 45), some (.int (nI i)), none, none]) (st' := [.ref 45, .int x2, .int x1, .ref 0]) (hp' := wd σ) rfl ?_
  cases hx : x_X5_count σ x1 x2 with
  | inl E =>
    have hz := xe_count hx
    subst hz
    obtain ⟨q1, q2, q3⟩ := hE1 hx
    refine AW_callSW hT hK hN 18 [.ref 0, .int x1, .int x2, .ref 45] [] (lx_count_1 l0 hl0 σ x1 x2 hx) cy_L_count lk_L_128 sv_L_count rfl rfl rfl rfl hc hs (AW_k1 (fun u hu => ?_))
    refine AW_g hT cl_L hK 19 1 (pc' := 903) (lo' := [some (.ref 46), some (.ref 0), some (.ref 36), some (.ref 45), some (.int (nI i)), some (.int u), none]) (st' := []) (hp' := wd σ) rfl ?_
    subst hu
    exact lt_count hK hX hin1 e1 hin2 e2 hw q1 (fun z => absurd z (by decide)) q2 hc hs q3
  | inr rv =>
    obtain ⟨q0, q1, q2, q3, q4⟩ := hR rv hx
    refine AW_callSW hT hK hN 18 [.ref 0, .int x1, .int x2, .ref 45] [] (l_count l0 σ x1 x2 rv hx) cy_L_count lk_L_128 sv_L_count rfl rfl rfl rfl (Nat.le_of_succ_le hc) (Nat.le_trans (Nat.le_add_right _ 6) hs) (AW_k1 (fun u hu => ?_))
    refine AW_g hT cl_L hK 19 1 (pc' := 903) (lo' := [some (.ref 46), some (.ref 0), some (.ref 36), some (.ref 45), some (.int (nI i)), some (.int u), none]) (st' := []) (hp' := wd (sL σ 45 (vp_updL (σ.2.2 45) 0 rv.toInt64))) rfl ?_
    subst hu
    refine AW_widen (Nat.le_add_right _ 1) (Nat.le_add_right _ 6) ?_
    exact lt_count hK hX hin1 e1 hin2 e2 q0 q1 (fun _ => q2) q3 hc hs q4
end AZN15
