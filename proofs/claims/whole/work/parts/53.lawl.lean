section AZP
def tc_head : List (Nat × Instr) := (tb_L_law_0.drop 12).take 12 ++ ((tb_L_law_0.drop 24).take 12)
theorem tcT_head : az_Tb cL_law tc_head := az_Tb.app tt_L_law_0_12 (tt_L_law_0_24)
def tc_tail : List (Nat × Instr) := (tb_L_law_11.drop 48).take 12
theorem tcT_tail : az_Tb cL_law tc_tail := tt_L_law_11_48
theorem law_ix {i L : Nat} (hL : L ≤ 1536) (j : Nat) (h : i + j < L) : vp_in (nI i + nI j) L := by
  rw [nI_add]
  exact vp_in_nI h (by omega)
theorem law_go {i L : Nat} (hL : L ≤ 1536) (hi : i ≤ L) (h : ¬ nI L - 3 < nI i) : i + 3 ≤ L := by
  by_cases h3 : 3 ≤ L
  · have e : nI L - 3 = nI (L - 3) := by
      have e2 : nI L = nI (L - 3) + nI 3 := by rw [nI_add]; congr 1; omega
      rw [e2]
      show nI (L - 3) + nI 3 - nI 3 = _
      rw [Int32.add_sub_cancel]
    rw [e] at h
    have : ¬ L - 3 < i := fun z => h (nI_lt z (by omega))
    omega
  · exfalso
    apply h
    rw [Int32.lt_iff_toInt_lt, nI_toInt (by omega)]
    rcases (show L = 0 ∨ L = 1 ∨ L = 2 by omega) with rfl | rfl | rfl
    · have : (nI 0 - 3 : Int32).toInt = -3 := by decide +kernel
      omega
    · have : (nI 1 - 3 : Int32).toInt = -2 := by decide +kernel
      omega
    · have : (nI 2 - 3 : Int32).toInt = -1 := by decide +kernel
      omega
theorem law_sw (x : Int32) : 0 ≤ (x &&& 31).toInt ∧ (x &&& 31).toInt ≤ 31 := by
  have h : (x &&& 31).toBitVec.toNat ≤ 31 := by
    rw [show (x &&& 31).toBitVec = x.toBitVec &&& (31 : Int32).toBitVec from rfl, BitVec.toNat_and]
    exact Nat.and_le_right
  have e : (x &&& 31).toInt = (x &&& 31).toBitVec.toInt := rfl
  rw [e, BitVec.toInt_eq_toNat_of_lt (by omega)]
  omega
theorem law_next {K : az_K} {l0 : Launch} (hK : az_OK K RL code room_1 l0) (hl0 : l0.stackTraces = false) (hN : az_NcK K "java/lang/IllegalStateException" "java/lang/IllegalArgumentException" ∧ az_NcK K "java/lang/IllegalArgumentException" "java/util/NoSuchElementException") {b L : Nat} {xs : Nat → Int32} (hX : az_Scr K b L xs) (hL : L ≤ 1536) {cells slots i : Nat} {σ : az_S} (kk : AW K cells slots 23 [some (.ref 46), some (.ref 0), some (.ref 36), some (.ref 45), some (.int (nI (i + 3))), none, none] [] (wd σ)) : AW K cells slots 1228 [some (.ref 46), some (.ref 0), some (.ref 36), some (.ref 45), some (.int (nI i)), none, none] [] (wd σ) := by
  have hT := tcT_tail
  refine AW_g hT cl_L hK 7 1 (pc' := 1231) (lo' := [some (.ref 46), some (.ref 0), some (.ref 36), some (.ref 45), some (.int (nI i + 3)), none, none]) (st' := []) (hp' := wd σ) rfl ?_
  refine AW_goto hT hK 8 (tgt := 23) rfl rfl ?_
  have e : nI i + 3 = nI (i + 3) := nI_add i 3
  rw [e]
  exact kk
set_option maxHeartbeats 4000000 in
theorem law_round {K : az_K} {l0 : Launch} (hK : az_OK K RL code room_1 l0) (hl0 : l0.stackTraces = false) (hN : az_NcK K "java/lang/IllegalStateException" "java/lang/IllegalArgumentException" ∧ az_NcK K "java/lang/IllegalArgumentException" "java/util/NoSuchElementException") {b L : Nat} {xs : Nat → Int32} (hX : az_Scr K b L xs) (hL : L ≤ 1536) (I : az_S → Prop) (hS : law_sim I) {cells slots i : Nat} {σ : az_S} (hI : I σ) (hi3 : i + 3 ≤ L) (hc : cells + 1 ≤ 1079) (hs : slots + 6 ≤ 9248)
    (kk : ∀ τ, I τ → AW K (cells + 1) (slots + 6) 23 [some (.ref 46), some (.ref 0), some (.ref 36), some (.ref 45), some (.int (nI (i + 3))), none, none] [] (wd τ)) : AW K cells slots 32 [some (.ref 46), some (.ref 0), some (.ref 36), some (.ref 45), some (.int (nI i)), none, none] [] (wd σ) := by
  obtain ⟨s_wf, s_come, s_withdraw, s_papers, s_references, s_citing, s_shared, s_joint, s_totalAnew, s_total, s_likenessNumerator, s_likenessDenominator, s_fieldOf, s_fields, s_gain, s_split, s_count, s_ways, s_mainLength, s_mainAt, s_mainSum, s_rise, s_riser, s_heir⟩ := hS
  have hT := tcT_head
  have hnx : ∀ τ, I τ → AW K (cells + 1) (slots + 6) 1228 [some (.ref 46), some (.ref 0), some (.ref 36), some (.ref 45), some (.int (nI i)), none, none] [] (wd τ) := fun τ h => law_next hK hl0 hN hX hL (kk τ h)
  refine AW_g hT cl_L hK 7 2 (pc' := 35) (lo' := [some (.ref 46), some (.ref 0), some (.ref 36), some (.ref 45), some (.int (nI i)), none, none]) (st' := [.int (nI i), .ref 46]) (hp' := wd σ) rfl ?_
  refine AW_sld hT hK hX 9 rfl (vp_in_nI (by omega) (by omega)) rfl ?_
  refine AW_g hT cl_L hK 10 2 (pc' := 39) (lo' := [some (.ref 46), some (.ref 0), some (.ref 36), some (.ref 45), some (.int (nI i)), none, none]) (st' := [.int (xs (nI i).toNatClampNeg &&& 31)]) (hp' := wd σ) rfl ?_
  have hw := law_sw (xs (nI i).toNatClampNeg)
  generalize xs (nI i).toNatClampNeg &&& 31 = u at hw ⊢
  rcases (show u.toInt = 0 ∨ u.toInt = 1 ∨ u.toInt = 2 ∨ u.toInt = 3 ∨ u.toInt = 4 ∨ u.toInt = 5 ∨ u.toInt = 6 ∨ u.toInt = 7 ∨ u.toInt = 8 ∨ u.toInt = 9 ∨ u.toInt = 10 ∨ u.toInt = 11 ∨ u.toInt = 12 ∨ u.toInt = 13 ∨ u.toInt = 14 ∨ u.toInt = 15 ∨ u.toInt = 16 ∨ u.toInt = 17 ∨ u.toInt = 18 ∨ u.toInt = 19 ∨ u.toInt = 20 ∨ u.toInt = 21 ∨ u.toInt = 22 ∨ 22 < u.toInt by omega) with hu | hu | hu | hu | hu | hu | hu | hu | hu | hu | hu | hu | hu | hu | hu | hu | hu | hu | hu | hu | hu | hu | hu | hu
  · refine AW_tabIn hT hK 12 (off := 105) (tgt := 144) rfl (by omega) (by omega) (by rw [hu]; rfl) rfl ?_
    have hs := s_come σ (xs (nI i + 1).toNatClampNeg) (xs (nI i + 2).toNatClampNeg) hI
    exact lc_come hK hl0 hN hX (law_ix hL 1 (by omega)) rfl (law_ix hL 2 (by omega)) rfl (s_wf _ hI) (by omega) (by omega) (fun hx => by obtain ⟨z1, z2⟩ := hs.1 hx; exact ⟨z1, s_wf _ z2, hnx _ z2⟩) (fun hx => by obtain ⟨z1, z2⟩ := hs.2.1 hx; exact ⟨z1, s_wf _ z2, hnx _ z2⟩) (fun rv hx => by obtain ⟨z9, z1, z2, z3, z4⟩ := hs.2.2 rv _ hx; exact ⟨z9, z1, by rw [z3, z2]; rfl, s_wf _ z4, hnx _ z4⟩)
  · refine AW_tabIn hT hK 12 (off := 173) (tgt := 212) rfl (by omega) (by omega) (by rw [hu]; rfl) rfl ?_
    have hs := s_withdraw σ (xs (nI i + 1).toNatClampNeg) hI
    exact lc_withdraw hK hl0 hN hX (law_ix hL 1 (by omega)) rfl (s_wf _ hI) (by omega) (by omega) (fun hx => by obtain ⟨z1, z2⟩ := hs.1 hx; exact ⟨z1, s_wf _ z2, hnx _ z2⟩) (fun rv hx => by obtain ⟨z9, z1, z2, z3, z4⟩ := hs.2 rv _ hx; exact ⟨z9, z1, by rw [z3, z2]; rfl, s_wf _ z4, hnx _ z4⟩)
  · refine AW_tabIn hT hK 12 (off := 229) (tgt := 268) rfl (by omega) (by omega) (by rw [hu]; rfl) rfl ?_
    obtain ⟨z1, z2⟩ := s_papers σ hI
    exact lc_papers hK (s_wf _ hI) z1 (by omega) (by omega) (AW_widen (Nat.le_add_right _ 1) (Nat.le_add_right _ 6) (hnx _ z2))
  · refine AW_tabIn hT hK 12 (off := 242) (tgt := 281) rfl (by omega) (by omega) (by rw [hu]; rfl) rfl ?_
    have hs := s_references σ (xs (nI i + 1).toNatClampNeg) hI
    exact lc_references hK hl0 hN hX (law_ix hL 1 (by omega)) rfl (s_wf _ hI) (by omega) (by omega) (fun hx => by obtain ⟨z1, z2⟩ := hs.1 hx; exact ⟨z1, s_wf _ z2, hnx _ z2⟩) (fun rv hx => by obtain ⟨z9, z1, z2, z3, z4⟩ := hs.2 rv _ hx; exact ⟨z9, z1, by rw [z3, z2]; rfl, s_wf _ z4, hnx _ z4⟩)
  · refine AW_tabIn hT hK 12 (off := 298) (tgt := 337) rfl (by omega) (by omega) (by rw [hu]; rfl) rfl ?_
    have hs := s_citing σ (xs (nI i + 1).toNatClampNeg) hI
    exact lc_citing hK hl0 hN hX (law_ix hL 1 (by omega)) rfl (s_wf _ hI) (by omega) (by omega) (fun hx => by obtain ⟨z1, z2⟩ := hs.1 hx; exact ⟨z1, s_wf _ z2, hnx _ z2⟩) (fun rv hx => by obtain ⟨z9, z1, z2, z3, z4⟩ := hs.2 rv _ hx; exact ⟨z9, z1, by rw [z3, z2]; rfl, s_wf _ z4, hnx _ z4⟩)
  · refine AW_tabIn hT hK 12 (off := 354) (tgt := 393) rfl (by omega) (by omega) (by rw [hu]; rfl) rfl ?_
    have hs := s_shared σ (xs (nI i + 1).toNatClampNeg) (xs (nI i + 2).toNatClampNeg) hI
    exact lc_shared hK hl0 hN hX (law_ix hL 1 (by omega)) rfl (law_ix hL 2 (by omega)) rfl (s_wf _ hI) (by omega) (by omega) (fun hx => by obtain ⟨z1, z2⟩ := hs.1 hx; exact ⟨z1, s_wf _ z2, hnx _ z2⟩) (fun rv hx => by obtain ⟨z9, z1, z2, z3, z4⟩ := hs.2 rv _ hx; exact ⟨z9, z1, by rw [z3, z2]; rfl, s_wf _ z4, hnx _ z4⟩)
  · refine AW_tabIn hT hK 12 (off := 422) (tgt := 461) rfl (by omega) (by omega) (by rw [hu]; rfl) rfl ?_
    have hs := s_joint σ (xs (nI i + 1).toNatClampNeg) (xs (nI i + 2).toNatClampNeg) hI
    exact lc_joint hK hl0 hN hX (law_ix hL 1 (by omega)) rfl (law_ix hL 2 (by omega)) rfl (s_wf _ hI) (by omega) (by omega) (fun hx => by obtain ⟨z1, z2⟩ := hs.1 hx; exact ⟨z1, s_wf _ z2, hnx _ z2⟩) (fun rv hx => by obtain ⟨z9, z1, z2, z3, z4⟩ := hs.2 rv _ hx; exact ⟨z9, z1, by rw [z3, z2]; rfl, s_wf _ z4, hnx _ z4⟩)
  · refine AW_tabIn hT hK 12 (off := 490) (tgt := 529) rfl (by omega) (by omega) (by rw [hu]; rfl) rfl ?_
    obtain ⟨z1, z2⟩ := s_totalAnew σ hI
    exact lc_totalAnew hK (s_wf _ hI) z1 (by omega) (by omega) (AW_widen (Nat.le_add_right _ 1) (Nat.le_add_right _ 6) (hnx _ z2))
  · refine AW_tabIn hT hK 12 (off := 503) (tgt := 542) rfl (by omega) (by omega) (by rw [hu]; rfl) rfl ?_
    obtain ⟨z1, z2⟩ := s_total σ hI
    exact lc_total hK (s_wf _ hI) z1 (by omega) (by omega) (AW_widen (Nat.le_add_right _ 1) (Nat.le_add_right _ 6) (hnx _ z2))
  · refine AW_tabIn hT hK 12 (off := 516) (tgt := 555) rfl (by omega) (by omega) (by rw [hu]; rfl) rfl ?_
    have hs := s_likenessNumerator σ (xs (nI i + 1).toNatClampNeg) (xs (nI i + 2).toNatClampNeg) hI
    exact lc_likenessNumerator hK hl0 hN hX (law_ix hL 1 (by omega)) rfl (law_ix hL 2 (by omega)) rfl (s_wf _ hI) (by omega) (by omega) (fun hx => by obtain ⟨z1, z2⟩ := hs.1 hx; exact ⟨z1, s_wf _ z2, hnx _ z2⟩) (fun rv hx => by obtain ⟨z9, z1, z2, z3, z4⟩ := hs.2 rv _ hx; exact ⟨z9, z1, by rw [z3, z2]; rfl, s_wf _ z4, hnx _ z4⟩)
  · refine AW_tabIn hT hK 12 (off := 584) (tgt := 623) rfl (by omega) (by omega) (by rw [hu]; rfl) rfl ?_
    have hs := s_likenessDenominator σ (xs (nI i + 1).toNatClampNeg) (xs (nI i + 2).toNatClampNeg) hI
    exact lc_likenessDenominator hK hl0 hN hX (law_ix hL 1 (by omega)) rfl (law_ix hL 2 (by omega)) rfl (s_wf _ hI) (by omega) (by omega) (fun hx => by obtain ⟨z1, z2⟩ := hs.1 hx; exact ⟨z1, s_wf _ z2, hnx _ z2⟩) (fun rv hx => by obtain ⟨z9, z1, z2, z3, z4⟩ := hs.2 rv _ hx; exact ⟨z9, z1, by rw [z3, z2]; rfl, s_wf _ z4, hnx _ z4⟩)
  · refine AW_tabIn hT hK 12 (off := 652) (tgt := 691) rfl (by omega) (by omega) (by rw [hu]; rfl) rfl ?_
    have hs := s_fieldOf σ (xs (nI i + 1).toNatClampNeg) hI
    exact lc_fieldOf hK hl0 hN hX (law_ix hL 1 (by omega)) rfl (s_wf _ hI) (by omega) (by omega) (fun hx => by obtain ⟨z1, z2⟩ := hs.1 hx; exact ⟨z1, s_wf _ z2, hnx _ z2⟩) (fun rv hx => by obtain ⟨z9, z1, z2, z3, z4⟩ := hs.2 rv _ hx; exact ⟨z9, z1, by rw [z3, z2]; rfl, s_wf _ z4, hnx _ z4⟩)
  · refine AW_tabIn hT hK 12 (off := 708) (tgt := 747) rfl (by omega) (by omega) (by rw [hu]; rfl) rfl ?_
    obtain ⟨z1, z2⟩ := s_fields σ hI
    exact lc_fields hK (s_wf _ hI) z1 (by omega) (by omega) (AW_widen (Nat.le_add_right _ 1) (Nat.le_add_right _ 6) (hnx _ z2))
  · refine AW_tabIn hT hK 12 (off := 721) (tgt := 760) rfl (by omega) (by omega) (by rw [hu]; rfl) rfl ?_
    have hs := s_gain σ (xs (nI i + 1).toNatClampNeg) (xs (nI i + 2).toNatClampNeg) hI
    exact lc_gain hK hl0 hN hX (law_ix hL 1 (by omega)) rfl (law_ix hL 2 (by omega)) rfl (s_wf _ hI) (by omega) (by omega) (fun hx => by obtain ⟨z1, z2⟩ := hs.1 hx; exact ⟨z1, s_wf _ z2, hnx _ z2⟩) (fun hx => by obtain ⟨z1, z2⟩ := hs.2.1 hx; exact ⟨z1, s_wf _ z2, hnx _ z2⟩) (fun rv hx => by obtain ⟨z9, z1, z2, z3, z4⟩ := hs.2.2 rv _ hx; exact ⟨z9, z1, by rw [z3, z2]; rfl, s_wf _ z4, hnx _ z4⟩)
  · refine AW_tabIn hT hK 12 (off := 789) (tgt := 828) rfl (by omega) (by omega) (by rw [hu]; rfl) rfl ?_
    have hs := s_split σ (xs (nI i + 1).toNatClampNeg) hI
    exact lc_split hK hl0 hN hX (law_ix hL 1 (by omega)) rfl (s_wf _ hI) (by omega) (by omega) (fun hx => by obtain ⟨z1, z2⟩ := hs.1 hx; exact ⟨z1, s_wf _ z2, hnx _ z2⟩) (fun rv hx => by obtain ⟨z9, z1, z2, z3, z4⟩ := hs.2 rv _ hx; exact ⟨z9, z1, by rw [z3, z2]; rfl, s_wf _ z4, hnx _ z4⟩)
  · refine AW_tabIn hT hK 12 (off := 845) (tgt := 884) rfl (by omega) (by omega) (by rw [hu]; rfl) rfl ?_
    have hs := s_count σ (xs (nI i + 1).toNatClampNeg) (xs (nI i + 2).toNatClampNeg) hI
    exact lc_count hK hl0 hN hX (law_ix hL 1 (by omega)) rfl (law_ix hL 2 (by omega)) rfl (s_wf _ hI) (by omega) (by omega) (fun hx => by obtain ⟨z1, z2⟩ := hs.1 hx; exact ⟨z1, s_wf _ z2, hnx _ z2⟩) (fun rv hx => by obtain ⟨z9, z1, z2, z3, z4⟩ := hs.2 rv _ hx; exact ⟨z9, z1, by rw [z3, z2]; rfl, s_wf _ z4, hnx _ z4⟩)
  · refine AW_tabIn hT hK 12 (off := 913) (tgt := 952) rfl (by omega) (by omega) (by rw [hu]; rfl) rfl ?_
    obtain ⟨z1, z2⟩ := s_ways σ hI
    exact lc_ways hK (s_wf _ hI) z1 (by omega) (by omega) (AW_widen (Nat.le_add_right _ 1) (Nat.le_add_right _ 6) (hnx _ z2))
  · refine AW_tabIn hT hK 12 (off := 926) (tgt := 965) rfl (by omega) (by omega) (by rw [hu]; rfl) rfl ?_
    obtain ⟨z1, z2⟩ := s_mainLength σ hI
    exact lc_mainLength hK (s_wf _ hI) z1 (by omega) (by omega) (AW_widen (Nat.le_add_right _ 1) (Nat.le_add_right _ 6) (hnx _ z2))
  · refine AW_tabIn hT hK 12 (off := 939) (tgt := 978) rfl (by omega) (by omega) (by rw [hu]; rfl) rfl ?_
    have hs := s_mainAt σ (xs (nI i + 1).toNatClampNeg) hI
    exact lc_mainAt hK hl0 hN hX (law_ix hL 1 (by omega)) rfl (s_wf _ hI) (by omega) (by omega) (fun hx => by obtain ⟨z0, z1, z2⟩ := hs.1 hx; exact ⟨z0, z1, s_wf _ z2, hnx _ z2⟩) (fun rv hx => by obtain ⟨z9, z0, z1, z2, z3, z4⟩ := hs.2 rv _ hx; exact ⟨z9, z0, z1, by rw [z3, z2]; rfl, s_wf _ z4, hnx _ z4⟩)
  · refine AW_tabIn hT hK 12 (off := 995) (tgt := 1034) rfl (by omega) (by omega) (by rw [hu]; rfl) rfl ?_
    obtain ⟨z1, z2⟩ := s_mainSum σ hI
    exact lc_mainSum hK (s_wf _ hI) z1 (by omega) (by omega) (AW_widen (Nat.le_add_right _ 1) (Nat.le_add_right _ 6) (hnx _ z2))
  · refine AW_tabIn hT hK 12 (off := 1009) (tgt := 1048) rfl (by omega) (by omega) (by rw [hu]; rfl) rfl ?_
    have hs := s_rise σ (xs (nI i + 1).toNatClampNeg) (xs (nI i + 2).toNatClampNeg) hI
    exact lc_rise hK hl0 hN hX (law_ix hL 1 (by omega)) rfl (law_ix hL 2 (by omega)) rfl (s_wf _ hI) (by omega) (by omega) (fun hx => by obtain ⟨z1, z2⟩ := hs.1 hx; exact ⟨z1, s_wf _ z2, hnx _ z2⟩) (fun hx => by obtain ⟨z1, z2⟩ := hs.2.1 hx; exact ⟨z1, s_wf _ z2, hnx _ z2⟩) (fun rv hx => by obtain ⟨z9, z1, z2, z3, z4⟩ := hs.2.2 rv _ hx; exact ⟨z9, z1, by rw [z3, z2]; rfl, s_wf _ z4, hnx _ z4⟩)
  · refine AW_tabIn hT hK 12 (off := 1077) (tgt := 1116) rfl (by omega) (by omega) (by rw [hu]; rfl) rfl ?_
    have hs := s_riser σ (xs (nI i + 1).toNatClampNeg) hI
    exact lc_riser hK hl0 hN hX (law_ix hL 1 (by omega)) rfl (s_wf _ hI) (by omega) (by omega) (fun hx => by obtain ⟨z1, z2⟩ := hs.1 hx; exact ⟨z1, s_wf _ z2, hnx _ z2⟩) (fun rv hx => by obtain ⟨z9, z1, z2, z3, z4⟩ := hs.2 rv _ hx; exact ⟨z9, z1, by rw [z3, z2]; rfl, s_wf _ z4, hnx _ z4⟩)
  · refine AW_tabIn hT hK 12 (off := 1133) (tgt := 1172) rfl (by omega) (by omega) (by rw [hu]; rfl) rfl ?_
    have hs := s_heir σ (xs (nI i + 1).toNatClampNeg) hI
    exact lc_heir hK hl0 hN hX (law_ix hL 1 (by omega)) rfl (s_wf _ hI) (by omega) (by omega) (fun hx => by obtain ⟨z1, z2⟩ := hs.1 hx; exact ⟨z1, s_wf _ z2, hnx _ z2⟩) (fun rv hx => by obtain ⟨z9, z1, z2, z3, z4⟩ := hs.2 rv _ hx; exact ⟨z9, z1, by rw [z3, z2]; rfl, s_wf _ z4, hnx _ z4⟩)
  · refine AW_tabOut hT hK 12 (tgt := 1228) rfl (Or.inr hu) rfl ?_
    exact AW_widen (Nat.le_add_right _ 1) (Nat.le_add_right _ 6) (hnx _ hI)
theorem law_loop {K : az_K} {l0 : Launch} (hK : az_OK K RL code room_1 l0) (hl0 : l0.stackTraces = false) (hN : az_NcK K "java/lang/IllegalStateException" "java/lang/IllegalArgumentException" ∧ az_NcK K "java/lang/IllegalArgumentException" "java/util/NoSuchElementException") {b L : Nat} {xs : Nat → Int32} (hX : az_Scr K b L xs) (hL : L ≤ 1536) (hEnd : ∀ (cells slots : Nat) (lo : List (Option Value)) (hp : az_H), cells ≤ 1079 → slots ≤ 9248 → AW K cells slots 1235 lo [.int 1] hp) (I : az_S → Prop) (hS : law_sim I) : ∀ (n i cells slots : Nat) (σ : az_S), I σ → i ≤ L → L ≤ i + 3 * n + 2 → cells + n ≤ 1079 → slots + 6 * n ≤ 9248 → AW K cells slots 23 [some (.ref 46), some (.ref 0), some (.ref 36), some (.ref 45), some (.int (nI i)), none, none] [] (wd σ) := by
  intro n
  induction n with
  | zero =>
    intro i cells slots σ hI hi hn hc hs
    have hT := tcT_head
    refine AW_g hT cl_L hK 1 2 (pc' := 26) (lo' := [some (.ref 46), some (.ref 0), some (.ref 36), some (.ref 45), some (.int (nI i)), none, none]) (st' := [.ref 46, .int (nI i)]) (hp' := wd σ) rfl ?_
    refine AW_slen hT hK hX 3 rfl ?_
    refine AW_g hT cl_L hK 4 2 (pc' := 29) (lo' := [some (.ref 46), some (.ref 0), some (.ref 36), some (.ref 45), some (.int (nI i)), none, none]) (st' := [.int (nI L - 3), .int (nI i)]) (hp' := wd σ) rfl ?_
    refine AW_icmp_gt hT hK 6 (tgt := 1234) rfl rfl (fun _ => ?_) (fun z => ?_)
    · refine AW_g tcT_tail cl_L hK 9 1 (pc' := 1235) (lo' := [some (.ref 46), some (.ref 0), some (.ref 36), some (.ref 45), some (.int (nI i)), none, none]) (st' := [.int 1]) (hp' := wd σ) rfl ?_
      exact hEnd _ _ _ _ hc hs
    · have := law_go hL hi z
      omega
  | succ n ih =>
    intro i cells slots σ hI hi hn hc hs
    have hT := tcT_head
    refine AW_g hT cl_L hK 1 2 (pc' := 26) (lo' := [some (.ref 46), some (.ref 0), some (.ref 36), some (.ref 45), some (.int (nI i)), none, none]) (st' := [.ref 46, .int (nI i)]) (hp' := wd σ) rfl ?_
    refine AW_slen hT hK hX 3 rfl ?_
    refine AW_g hT cl_L hK 4 2 (pc' := 29) (lo' := [some (.ref 46), some (.ref 0), some (.ref 36), some (.ref 45), some (.int (nI i)), none, none]) (st' := [.int (nI L - 3), .int (nI i)]) (hp' := wd σ) rfl ?_
    refine AW_icmp_gt hT hK 6 (tgt := 1234) rfl rfl (fun _ => ?_) (fun z => ?_)
    · refine AW_g tcT_tail cl_L hK 9 1 (pc' := 1235) (lo' := [some (.ref 46), some (.ref 0), some (.ref 36), some (.ref 45), some (.int (nI i)), none, none]) (st' := [.int 1]) (hp' := wd σ) rfl ?_
      exact hEnd _ _ _ _ (by omega) (by omega)
    · have h3 := law_go hL hi z
      exact law_round hK hl0 hN hX hL I hS hI h3 (by omega) (by omega) (fun τ hτ => ih (i + 3) (cells + 1) (slots + 6) τ hτ h3 (by omega) (by omega) (by omega))
end AZP
