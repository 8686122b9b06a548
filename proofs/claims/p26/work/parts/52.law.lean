/-! the law at a script that begins -49, -12: until the heap has grown by 221 -/
section AZL9
def az_Stop (K : az_K) (N : Nat) : Prop :=
  match K with
  | (_, _, _, _, s, _, _, _, _, _, _, _, _, _, Q, _) => ∀ T : State, s.heap.size + N ≤ T.heap.size → Q T
variable {K : az_K} {lb cells slots pc : Nat} {lo : List (Option Value)} {st : List Value} {hp : az_H} {l0 : Launch}
theorem AL_stop {N : Nat} (hQ : az_Stop K N) (h : N ≤ lb) : AL K lb cells slots pc lo st hp := by
  obtain ⟨p, l, e, R, s, m, args, below, meth, c, D, cA, A, Ag, Q, nL⟩ := K
  intro ad H locs ls hlb hag hP hD hS hl T hT X
  refine ⟨_, Steps.refl _, hQ _ ?_⟩
  show s.heap.size + N ≤ T.heap.size
  rw [hT]
  omega
/-- so many places apart between two numbers -/
theorem az_pig : ∀ (n : Nat) (f : Nat → Nat) (S M : Nat), (∀ i, i < n → S ≤ f i ∧ f i < M) → (∀ i j, i < n → j < n → f i = f j → i = j) → S ≤ M → S + n ≤ M
  | 0, _, _, _, _, _, h => h
  | n + 1, f, S, M, h1, h2, h3 => by
    have hn := h1 n (Nat.lt_succ_self n)
    have ih := az_pig n (fun i => if f i = M - 1 then f n else f i) S (M - 1) (fun i hi => by
      have hi1 := h1 i (Nat.lt_succ_of_lt hi)
      have hne : f i ≠ f n := fun z => by have := h2 i n (Nat.lt_succ_of_lt hi) (Nat.lt_succ_self n) z; omega
      split
      · omega
      · omega) (fun i j hi hj z => by
      have hi1 := h2 i n (Nat.lt_succ_of_lt hi) (Nat.lt_succ_self n)
      have hj1 := h2 j n (Nat.lt_succ_of_lt hj) (Nat.lt_succ_self n)
      by_cases e1 : f i = M - 1
      · by_cases e2 : f j = M - 1
        · exact h2 i j (Nat.lt_succ_of_lt hi) (Nat.lt_succ_of_lt hj) (e1.trans e2.symm)
        · rw [if_pos e1, if_neg e2] at z
          have := hj1 z.symm
          omega
      · by_cases e2 : f j = M - 1
        · rw [if_neg e1, if_pos e2] at z
          have := hi1 z
          omega
        · rw [if_neg e1, if_neg e2] at z
          exact h2 i j (Nat.lt_succ_of_lt hi) (Nat.lt_succ_of_lt hj) z) (by omega)
    omega
def az_New (K : az_K) : Prop :=
  match K with
  | (_, _, _, _, s, _, _, _, _, _, _, _, A, _, _, _) => ∀ q, A q → s.heap.size ≤ q
/-- the cells that are there count -/
theorem AW_ALn (hA : az_New K) (k : AL K hp.length cells slots pc lo st hp) : AW K cells slots pc lo st hp := by
  obtain ⟨p, l, e, R, s, m, args, below, meth, c, D, cA, A, Ag, Q, nL⟩ := K
  intro ad H locs ls hag hP hD hS hl
  refine k ad H locs ls ?_ hag hP hD hS hl
  have hat : ∀ i, i < hp.length → ∃ e9, (az_w cA ad hp)[i]? = some (ad i, e9) := fun i hi => by
    obtain ⟨e9, he⟩ : ∃ e9, hp[i]? = some e9 := ⟨_, List.getElem?_eq_getElem hi⟩
    exact ⟨_, az_w_at he⟩
  refine az_pig hp.length ad s.heap.size H.size (fun i hi => ?_) (fun i j hi hj z => ?_) hS.1
  · obtain ⟨e9, he⟩ := hat i hi
    exact ⟨hA _ (hD.2 i _ he), (hP i _ he).lt⟩
  · obtain ⟨e9, he⟩ := hat i hi
    obtain ⟨e8, he8⟩ := hat j hj
    exact hD.1 i j _ _ he he8 z
set_option maxRecDepth 100000 in
set_option maxHeartbeats 4000000 in
theorem law_walk (hl0 : l0.stackTraces = false) (hK : az_OK K RL cL_law R1 l0) (hN : az_NcL K) {b L : Nat} {xs : Nat → Int32} (hX : az_Scr K b L xs) (hL2 : 2 ≤ L) (hL : L < 2 ^ 31) (h0 : xs 0 = -49) (h1 : xs 1 = -12) (hQ : az_Stop K 221) (σ : az_S) (hc : x_X5_come sE 3 0 = .inr (0, σ)) (hr : ∀ j, j < 12 → σ.2.1 36 j = -1) (hm : σ.2.1 38 0 = 0) (ht : x_X5_total (sTc σ) = 0) (hF : TF (sTc σ)) : AL K 39 39 788 44 [some (.ref 46), some (.ref 0), some (.ref 36), some (.ref 37), some (.ref 38), none, none, none, none, none, none, none] [] (wd sE) := by
  have hT := tt_L_law
  refine AL_g hT hK 24 5 (pc' := 50) (lo' := [some (.ref 46), some (.ref 0), some (.ref 36), some (.ref 37), some (.ref 38), none, none, none, none, none, none, none]) (st' := [.int 0, .ref 38, .ref 37, .ref 36, .ref 0]) (hp' := wd sE) rfl ?_
  refine AL_cE hT hK hN 29 [.ref 0, .ref 36, .ref 37, .ref 38, .int 0] [] (l_isRefused_0 l0 hl0) cw_L_isRefused lk_L_134 sm_L_isRefused rfl rfl rfl rfl rfl rfl (by show _ ≤ 700; omega) (by show _ ≤ 8000; omega) ?_
  refine AL_if_eq hT hK 30 (tgt := 80) rfl rfl (fun c => absurd c (by decide)) (fun _ => ?_)
  refine AL_g hT hK 31 5 (pc' := 62) (lo' := [some (.ref 46), some (.ref 0), some (.ref 36), some (.ref 37), some (.ref 38), none, none, none, none, none, none, none]) (st' := [.int 1, .ref 38, .ref 37, .ref 36, .ref 0]) (hp' := wd sE) rfl ?_
  refine AL_cE hT hK hN 36 [.ref 0, .ref 36, .ref 37, .ref 38, .int 1] [] (l_isRefused_1 l0 hl0) cw_L_isRefused lk_L_134 sm_L_isRefused rfl rfl rfl rfl rfl rfl (by show _ ≤ 700; omega) (by show _ ≤ 8000; omega) ?_
  refine AL_if_eq hT hK 37 (tgt := 80) rfl rfl (fun c => absurd c (by decide)) (fun _ => ?_)
  refine AL_g hT hK 38 2 (pc' := 70) (lo' := [some (.ref 46), some (.ref 0), some (.ref 36), some (.ref 37), some (.ref 38), none, none, none, none, none, none, none]) (st' := [.ref 36, .ref 0]) (hp' := wd sE) rfl ?_
  refine AL_cE hT hK hN 40 [.ref 0, .ref 36] [] (l_isMain l0 hl0) cw_L_isMain lk_L_138 sm_L_isMain rfl rfl rfl rfl rfl rfl (by show _ ≤ 700; omega) (by show _ ≤ 8000; omega) ?_
  refine AL_if_eq hT hK 41 (tgt := 80) rfl rfl (fun c => absurd c (by decide)) (fun _ => ?_)
  refine AL_g hT hK 42 1 (pc' := 77) (lo' := [some (.ref 46), some (.ref 0), some (.ref 36), some (.ref 37), some (.ref 38), none, none, none, none, none, none, none]) (st' := [.int 1]) (hp' := wd sE) rfl ?_
  refine AL_goto hT hK 43 (tgt := 81) rfl rfl ?_
  refine AL_g hT hK 45 5 (pc' := 90) (lo' := [some (.ref 46), some (.ref 0), some (.ref 36), some (.ref 37), some (.ref 38), some (.int 1), some (.int 0), none, none, none, none, none]) (st' := [.int 18, .int 0]) (hp' := wd sE) rfl ?_
  refine AL_icmp_ge hT hK 50 (tgt := 351) rfl rfl (fun c => absurd c (by decide)) (fun _ => ?_)
  refine AL_g hT hK 51 1 (pc' := 95) (lo' := [some (.ref 46), some (.ref 0), some (.ref 36), some (.ref 37), some (.ref 38), some (.int 1), some (.int 0), none, none, none, none, none]) (st' := [.int 1]) (hp' := wd sE) rfl ?_
  refine AL_if_eq hT hK 52 (tgt := 351) rfl rfl (fun c => absurd c (by decide)) (fun _ => ?_)
  refine AL_g hT hK 53 2 (pc' := 101) (lo' := [some (.ref 46), some (.ref 0), some (.ref 36), some (.ref 37), some (.ref 38), some (.int 1), some (.int 0), none, none, none, none, none]) (st' := [.int 0, .ref 46]) (hp' := wd sE) rfl ?_
  refine AL_dice hT hK hX 55 0 2147483599 (by omega) hL (by rw [h0]; decide) lk_L_142 rfl rfl (by show _ ≤ 700; omega) (by show _ ≤ 8000; omega) ?_
  refine AL_g hT hK 56 3 (pc' := 110) (lo' := [some (.ref 46), some (.ref 0), some (.ref 36), some (.ref 37), some (.ref 38), some (.int 1), some (.int 0), some (.int 2147483599), none, none, none, none]) (st' := [.int 16, .int 2147483599]) (hp' := wd sE) rfl ?_
  refine AL_idivN hT hK 59 2147483599 16 rfl rfl rfl (by decide) (by decide) (by decide) ?_
  refine AL_to (st' := [.int 134217724]) rfl rfl rfl ?_
  refine AL_g hT hK 60 3 (pc' := 117) (lo' := [some (.ref 46), some (.ref 0), some (.ref 36), some (.ref 37), some (.ref 38), some (.int 1), some (.int 0), some (.int 2147483599), some (.int 134217724), none, none, none]) (st' := [.int 16, .int 2147483599]) (hp' := wd sE) rfl ?_
  refine AL_iremN hT hK 63 2147483599 16 rfl rfl rfl (by decide) (by decide) (by decide) ?_
  refine AL_to (st' := [.int 15]) rfl rfl rfl ?_
  refine AL_g hT hK 64 1 (pc' := 120) (lo' := [some (.ref 46), some (.ref 0), some (.ref 36), some (.ref 37), some (.ref 38), some (.int 1), some (.int 0), some (.int 2147483599), some (.int 134217724), none, none, none]) (st' := [.int 13, .int 15]) (hp' := wd sE) rfl ?_
  refine AL_icmp_ge hT hK 65 (tgt := 218) rfl rfl (fun _ => ?_) (fun c => absurd (by decide) c)
  refine AL_g hT hK 123 4 (pc' := 224) (lo' := [some (.ref 46), some (.ref 0), some (.ref 36), some (.ref 37), some (.ref 38), some (.int 1), some (.int 0), some (.int 2147483599), some (.int 134217724), none, none, none]) (st' := [.int 12, .int 134217724, .ref 36, .ref 0]) (hp' := wd sE) rfl ?_
  refine AL_iremN hT hK 127 134217724 12 rfl rfl rfl (by decide) (by decide) (by decide) ?_
  refine AL_to (st' := [.int 4, .ref 36, .ref 0]) rfl rfl rfl ?_
  refine AL_cE hT hK hN 128 [.ref 0, .ref 36, .int 4] [] (l_isGone l0 hl0) cw_L_isGone lk_L_150 sm_L_isGone rfl rfl rfl rfl rfl rfl (by show _ ≤ 700; omega) (by show _ ≤ 8000; omega) ?_
  refine AL_g hT hK 129 2 (pc' := 232) (lo' := [some (.ref 46), some (.ref 0), some (.ref 36), some (.ref 37), some (.ref 38), some (.int 1), some (.int 0), some (.int 2147483599), some (.int 134217724), none, none, none]) (st' := [.int 1]) (hp' := wd sE) rfl ?_
  refine AL_if_eq hT hK 131 (tgt := 342) rfl rfl (fun c => absurd c (by decide)) (fun _ => ?_)
  refine AL_g hT hK 132 4 (pc' := 240) (lo' := [some (.ref 46), some (.ref 0), some (.ref 36), some (.ref 37), some (.ref 38), some (.int 1), some (.int 0), some (.int 2147483599), some (.int 134217724), none, none, none]) (st' := [.ref 38, .ref 37, .ref 36, .ref 0]) (hp' := wd sE) rfl ?_
  refine AL_cE hT hK hN 136 [.ref 0, .ref 36, .ref 37, .ref 38] [] (l_arePapers l0 hl0) cw_L_arePapers lk_L_153 sm_L_arePapers rfl rfl rfl rfl rfl rfl (by show _ ≤ 700; omega) (by show _ ≤ 8000; omega) ?_
  refine AL_if_eq hT hK 137 (tgt := 342) rfl rfl (fun c => absurd c (by decide)) (fun _ => ?_)
  refine AL_g hT hK 138 2 (pc' := 248) (lo' := [some (.ref 46), some (.ref 0), some (.ref 36), some (.ref 37), some (.ref 38), some (.int 1), some (.int 0), some (.int 2147483599), some (.int 134217724), none, none, none]) (st' := [.ref 36, .ref 0]) (hp' := wd sE) rfl ?_
  refine AL_cE hT hK hN 140 [.ref 0, .ref 36] [] (l_areFields l0 hl0) cw_L_areFields lk_L_157 sm_L_areFields rfl rfl rfl rfl rfl rfl (by show _ ≤ 700; omega) (by show _ ≤ 8000; omega) ?_
  refine AL_if_eq hT hK 141 (tgt := 342) rfl rfl (fun c => absurd c (by decide)) (fun _ => ?_)
  refine AL_g hT hK 142 2 (pc' := 256) (lo' := [some (.ref 46), some (.ref 0), some (.ref 36), some (.ref 37), some (.ref 38), some (.int 1), some (.int 0), some (.int 2147483599), some (.int 134217724), none, none, none]) (st' := [.ref 36, .ref 0]) (hp' := wd sE) rfl ?_
  refine AL_cE hT hK hN 144 [.ref 0, .ref 36] [] (l_areWays l0 hl0) cw_L_areWays lk_L_160 sm_L_areWays rfl rfl rfl rfl rfl rfl (by show _ ≤ 700; omega) (by show _ ≤ 8000; omega) ?_
  refine AL_if_eq hT hK 145 (tgt := 342) rfl rfl (fun c => absurd c (by decide)) (fun _ => ?_)
  refine AL_g hT hK 146 2 (pc' := 264) (lo' := [some (.ref 46), some (.ref 0), some (.ref 36), some (.ref 37), some (.ref 38), some (.int 1), some (.int 0), some (.int 2147483599), some (.int 134217724), none, none, none]) (st' := [.ref 36, .ref 0]) (hp' := wd sE) rfl ?_
  refine AL_cE hT hK hN 148 [.ref 0, .ref 36] [] (l_isMain l0 hl0) cw_L_isMain lk_L_138 sm_L_isMain rfl rfl rfl rfl rfl rfl (by show _ ≤ 700; omega) (by show _ ≤ 8000; omega) ?_
  refine AL_if_eq hT hK 149 (tgt := 342) rfl rfl (fun c => absurd c (by decide)) (fun _ => ?_)
  refine AL_g hT hK 150 3 (pc' := 274) (lo' := [some (.ref 46), some (.ref 0), some (.ref 36), some (.ref 37), some (.ref 38), some (.int 1), some (.int 0), some (.int 2147483599), some (.int 134217724), none, none, none]) (st' := [.int 134217724, .ref 36, .ref 0]) (hp' := wd sE) rfl ?_
  refine AL_cE hT hK hN 153 [.ref 0, .ref 36, .int 134217724] [] (l_isLess_0 l0 hl0) cw_L_isLess lk_L_163 sm_L_isLess rfl rfl rfl rfl rfl rfl (by show _ ≤ 700; omega) (by show _ ≤ 8000; omega) ?_
  refine AL_if_eq hT hK 154 (tgt := 342) rfl rfl (fun c => absurd c (by decide)) (fun _ => ?_)
  refine AL_g hT hK 155 4 (pc' := 286) (lo' := [some (.ref 46), some (.ref 0), some (.ref 36), some (.ref 37), some (.ref 38), some (.int 1), some (.int 0), some (.int 2147483599), some (.int 134217724), none, none, none]) (st' := [.int 7, .int 134217724, .ref 36, .ref 0]) (hp' := wd sE) rfl ?_
  refine AL_idivN hT hK 159 134217724 7 rfl rfl rfl (by decide) (by decide) (by decide) ?_
  refine AL_to (st' := [.int 19173960, .ref 36, .ref 0]) rfl rfl rfl ?_
  refine AL_cE hT hK hN 160 [.ref 0, .ref 36, .int 19173960] [] (l_isLess_1 l0 hl0) cw_L_isLess lk_L_163 sm_L_isLess rfl rfl rfl rfl rfl rfl (by show _ ≤ 700; omega) (by show _ ≤ 8000; omega) ?_
  refine AL_if_eq hT hK 161 (tgt := 342) rfl rfl (fun c => absurd c (by decide)) (fun _ => ?_)
  refine AL_g hT hK 162 5 (pc' := 300) (lo' := [some (.ref 46), some (.ref 0), some (.ref 36), some (.ref 37), some (.ref 38), some (.int 1), some (.int 0), some (.int 2147483599), some (.int 134217724), none, none, none]) (st' := [.int 100, .int 134217724, .ref 37, .ref 36, .ref 0]) (hp' := wd sE) rfl ?_
  refine AL_iremN hT hK 167 134217724 100 rfl rfl rfl (by decide) (by decide) (by decide) ?_
  refine AL_to (st' := [.int 24, .ref 37, .ref 36, .ref 0]) rfl rfl rfl ?_
  refine AL_cE hT hK hN 168 [.ref 0, .ref 36, .ref 37, .int 24] [] (l_areRises_0 l0 hl0) cw_L_areRises lk_L_166 sm_L_areRises rfl rfl rfl rfl rfl rfl (by show _ ≤ 700; omega) (by show _ ≤ 8000; omega) ?_
  refine AL_if_eq hT hK 169 (tgt := 342) rfl rfl (fun c => absurd c (by decide)) (fun _ => ?_)
  refine AL_g hT hK 170 6 (pc' := 315) (lo' := [some (.ref 46), some (.ref 0), some (.ref 36), some (.ref 37), some (.ref 38), some (.int 1), some (.int 0), some (.int 2147483599), some (.int 134217724), none, none, none]) (st' := [.int 12, .int 134217724, .ref 37, .ref 37, .ref 36, .ref 0]) (hp' := wd sE) rfl ?_
  refine AL_iremN hT hK 176 134217724 12 rfl rfl rfl (by decide) (by decide) (by decide) ?_
  refine AL_to (st' := [.int 4, .ref 37, .ref 37, .ref 36, .ref 0]) rfl rfl rfl ?_
  refine AL_y hT hK 177 4 rfl rfl (by omega) ?_
  refine AL_cE hT hK hN 178 [.ref 0, .ref 36, .ref 37, .int 0] [] (l_areRises_1 l0 hl0) cw_L_areRises lk_L_166 sm_L_areRises rfl rfl rfl rfl rfl rfl (by show _ ≤ 700; omega) (by show _ ≤ 8000; omega) ?_
  refine AL_if_eq hT hK 179 (tgt := 342) rfl rfl (fun c => absurd c (by decide)) (fun _ => ?_)
  refine AL_g hT hK 180 6 (pc' := 331) (lo' := [some (.ref 46), some (.ref 0), some (.ref 36), some (.ref 37), some (.ref 38), some (.int 1), some (.int 0), some (.int 2147483599), some (.int 134217724), none, none, none]) (st' := [.int 3, .int 2147483599, .ref 38, .ref 37, .ref 36, .ref 0]) (hp' := wd sE) rfl ?_
  refine AL_idivN hT hK 186 2147483599 3 rfl rfl rfl (by decide) (by decide) (by decide) ?_
  refine AL_to (st' := [.int 715827866, .ref 38, .ref 37, .ref 36, .ref 0]) rfl rfl rfl ?_
  refine AL_cE hT hK hN 187 [.ref 0, .ref 36, .ref 37, .ref 38, .int 715827866] [] (l_isRefused_2 l0 hl0) cw_L_isRefused lk_L_134 sm_L_isRefused rfl rfl rfl rfl rfl rfl (by show _ ≤ 700; omega) (by show _ ≤ 8000; omega) ?_
  refine AL_if_eq hT hK 188 (tgt := 342) rfl rfl (fun c => absurd c (by decide)) (fun _ => ?_)
  refine AL_g hT hK 189 1 (pc' := 339) (lo' := [some (.ref 46), some (.ref 0), some (.ref 36), some (.ref 37), some (.ref 38), some (.int 1), some (.int 0), some (.int 2147483599), some (.int 134217724), none, none, none]) (st' := [.int 1]) (hp' := wd sE) rfl ?_
  refine AL_goto hT hK 190 (tgt := 343) rfl rfl ?_
  refine AL_g hT hK 192 2 (pc' := 348) (lo' := [some (.ref 46), some (.ref 0), some (.ref 36), some (.ref 37), some (.ref 38), some (.int 1), some (.int 1), some (.int 2147483599), some (.int 134217724), none, none, none]) (st' := []) (hp' := wd sE) rfl ?_
  refine AL_goto hT hK 194 (tgt := 86) rfl rfl ?_
  refine AL_g hT hK 48 2 (pc' := 90) (lo' := [some (.ref 46), some (.ref 0), some (.ref 36), some (.ref 37), some (.ref 38), some (.int 1), some (.int 1), some (.int 2147483599), some (.int 134217724), none, none, none]) (st' := [.int 18, .int 1]) (hp' := wd sE) rfl ?_
  refine AL_icmp_ge hT hK 50 (tgt := 351) rfl rfl (fun c => absurd c (by decide)) (fun _ => ?_)
  refine AL_g hT hK 51 1 (pc' := 95) (lo' := [some (.ref 46), some (.ref 0), some (.ref 36), some (.ref 37), some (.ref 38), some (.int 1), some (.int 1), some (.int 2147483599), some (.int 134217724), none, none, none]) (st' := [.int 1]) (hp' := wd sE) rfl ?_
  refine AL_if_eq hT hK 52 (tgt := 351) rfl rfl (fun c => absurd c (by decide)) (fun _ => ?_)
  refine AL_g hT hK 53 2 (pc' := 101) (lo' := [some (.ref 46), some (.ref 0), some (.ref 36), some (.ref 37), some (.ref 38), some (.int 1), some (.int 1), some (.int 2147483599), some (.int 134217724), none, none, none]) (st' := [.int 1, .ref 46]) (hp' := wd sE) rfl ?_
  refine AL_dice hT hK hX 55 1 2147483636 (by omega) hL (by rw [h1]; decide) lk_L_142 rfl rfl (by show _ ≤ 700; omega) (by show _ ≤ 8000; omega) ?_
  refine AL_g hT hK 56 3 (pc' := 110) (lo' := [some (.ref 46), some (.ref 0), some (.ref 36), some (.ref 37), some (.ref 38), some (.int 1), some (.int 1), some (.int 2147483636), some (.int 134217724), none, none, none]) (st' := [.int 16, .int 2147483636]) (hp' := wd sE) rfl ?_
  refine AL_idivN hT hK 59 2147483636 16 rfl rfl rfl (by decide) (by decide) (by decide) ?_
  refine AL_to (st' := [.int 134217727]) rfl rfl rfl ?_
  refine AL_g hT hK 60 3 (pc' := 117) (lo' := [some (.ref 46), some (.ref 0), some (.ref 36), some (.ref 37), some (.ref 38), some (.int 1), some (.int 1), some (.int 2147483636), some (.int 134217727), none, none, none]) (st' := [.int 16, .int 2147483636]) (hp' := wd sE) rfl ?_
  refine AL_iremN hT hK 63 2147483636 16 rfl rfl rfl (by decide) (by decide) (by decide) ?_
  refine AL_to (st' := [.int 4]) rfl rfl rfl ?_
  refine AL_g hT hK 64 1 (pc' := 120) (lo' := [some (.ref 46), some (.ref 0), some (.ref 36), some (.ref 37), some (.ref 38), some (.int 1), some (.int 1), some (.int 2147483636), some (.int 134217727), none, none, none]) (st' := [.int 13, .int 4]) (hp' := wd sE) rfl ?_
  refine AL_icmp_ge hT hK 65 (tgt := 218) rfl rfl (fun c => absurd c (by decide)) (fun _ => ?_)
  refine AL_g hT hK 66 2 (pc' := 126) (lo' := [some (.ref 46), some (.ref 0), some (.ref 36), some (.ref 37), some (.ref 38), some (.int 1), some (.int 1), some (.int 2147483636), some (.int 134217727), none, none, none]) (st' := [.int 0, .ref 38]) (hp' := wd sE) rfl ?_
  refine AL_m hT hK 68 rfl rfl ?_
  refine AL_if_ne hT hK 69 (tgt := 134) rfl rfl (fun c => absurd (by decide) c) (fun _ => ?_)
  refine AL_g hT hK 70 1 (pc' := 131) (lo' := [some (.ref 46), some (.ref 0), some (.ref 36), some (.ref 37), some (.ref 38), some (.int 1), some (.int 1), some (.int 2147483636), some (.int 134217727), none, none, none]) (st' := [.int 0]) (hp' := wd sE) rfl ?_
  refine AL_goto hT hK 71 (tgt := 142) rfl rfl ?_
  refine AL_g hT hK 79 2 (pc' := 145) (lo' := [some (.ref 46), some (.ref 0), some (.ref 36), some (.ref 37), some (.ref 38), some (.int 1), some (.int 1), some (.int 2147483636), some (.int 134217727), none, none, none]) (st' := [.int 4, .int 134217727, .int 0]) (hp' := wd sE) rfl ?_
  refine AL_iremN hT hK 81 134217727 4 rfl rfl rfl (by decide) (by decide) (by decide) ?_
  refine AL_to (st' := [.int 3, .int 0]) rfl rfl rfl ?_
  refine AL_g hT hK 82 6 (pc' := 155) (lo' := [some (.ref 46), some (.ref 0), some (.ref 36), some (.ref 37), some (.ref 38), some (.int 1), some (.int 1), some (.int 2147483636), some (.int 134217727), some (.int 3), some (.int 0), some (.int 0)]) (st' := []) (hp' := wd sE) rfl ?_
  have lp5 : ∀ (n4 i2 : Nat), i2 + n4 = 12 → 0 ≤ i2 → AL K (39 + 152) (39 + 152) (554 + 6 * (39 + 152)) 155 [some (.ref 46), some (.ref 0), some (.ref 36), some (.ref 37), some (.ref 38), some (.int 1), some (.int 1), some (.int 2147483636), some (.int 134217727), some (.int 3), some (.int 0), some (.int (nI i2))] [] (wd sE) := by
    intro n4
    induction n4 with
    | zero =>
      intro i2 hi3 hi3s
      refine AL_g hT hK 88 2 (pc' := 159) (lo' := [some (.ref 46), some (.ref 0), some (.ref 36), some (.ref 37), some (.ref 38), some (.int 1), some (.int 1), some (.int 2147483636), some (.int 134217727), some (.int 3), some (.int 0), some (.int (nI i2))]) (st' := [.int 12, .int (nI i2)]) (hp' := wd sE) rfl ?_
      refine AL_icmp_ge hT hK 90 (tgt := 201) rfl rfl (fun _ => ?_) (fun c => absurd (az_c0 hi3) c)
      refine AL_msk [true, true, true, true, true, true, true, true, true, true, true, false] (lo' := [some (.ref 46), some (.ref 0), some (.ref 36), some (.ref 37), some (.ref 38), some (.int 1), some (.int 1), some (.int 2147483636), some (.int 134217727), some (.int 3), some (.int 0), none]) rfl ?_
      refine AL_g hT hK 114 6 (pc' := 210) (lo' := [some (.ref 46), some (.ref 0), some (.ref 36), some (.ref 37), some (.ref 38), some (.int 1), some (.int 1), some (.int 2147483636), some (.int 134217727), some (.int 3), some (.int 0), none]) (st' := [.int 0, .int 3, .ref 38, .ref 37, .ref 36, .ref 0]) (hp' := wd sE) rfl ?_
      refine AL_cE hT hK hN 120 [.ref 0, .ref 36, .ref 37, .ref 38, .int 3, .int 0] [] (l_isCome l0 hl0 σ hc hr hm ht) cw_L_isCome lk_L_146 sm_L_isCome rfl rfl rfl rfl rfl rfl (by show _ ≤ 700; omega) (by show _ ≤ 8000; omega) ?_
      refine AL_g hT hK 121 1 (pc' := 215) (lo' := [some (.ref 46), some (.ref 0), some (.ref 36), some (.ref 37), some (.ref 38), some (.int 1), some (.int 1), some (.int 2147483636), some (.int 134217727), some (.int 3), some (.int 0), none]) (st' := []) (hp' := wd (sTc σ)) rfl ?_
      refine AL_goto hT hK 122 (tgt := 230) rfl rfl ?_
      refine AL_g hT hK 130 1 (pc' := 232) (lo' := [some (.ref 46), some (.ref 0), some (.ref 36), some (.ref 37), some (.ref 38), some (.int 1), some (.int 1), some (.int 2147483636), some (.int 134217727), some (.int 3), some (.int 0), none]) (st' := [.int 1]) (hp' := wd (sTc σ)) rfl ?_
      refine AL_if_eq hT hK 131 (tgt := 342) rfl rfl (fun c => absurd c (by decide)) (fun _ => ?_)
      refine AL_g hT hK 132 4 (pc' := 240) (lo' := [some (.ref 46), some (.ref 0), some (.ref 36), some (.ref 37), some (.ref 38), some (.int 1), some (.int 1), some (.int 2147483636), some (.int 134217727), some (.int 3), some (.int 0), none]) (st' := [.ref 38, .ref 37, .ref 36, .ref 0]) (hp' := wd (sTc σ)) rfl ?_
      refine AL_cE hT hK hN 136 [.ref 0, .ref 36, .ref 37, .ref 38] [] (l_arePapersT l0 hl0 (sTc σ) hF) cw_L_arePapers lk_L_153 sm_L_arePapers rfl rfl rfl rfl rfl rfl (by show _ ≤ 700; omega) (by show _ ≤ 8000; omega) ?_
      refine AL_if_eq hT hK 137 (tgt := 342) rfl rfl (fun c => absurd c (by decide)) (fun _ => ?_)
      refine AL_g hT hK 138 2 (pc' := 248) (lo' := [some (.ref 46), some (.ref 0), some (.ref 36), some (.ref 37), some (.ref 38), some (.int 1), some (.int 1), some (.int 2147483636), some (.int 134217727), some (.int 3), some (.int 0), none]) (st' := [.ref 36, .ref 0]) (hp' := wd (sTc σ)) rfl ?_
      refine AL_cE hT hK hN 140 [.ref 0, .ref 36] [] (l_areFieldsT l0 hl0 (sTc σ) hF) cw_L_areFields lk_L_157 sm_L_areFields rfl rfl rfl rfl rfl rfl (by show _ ≤ 700; omega) (by show _ ≤ 8000; omega) ?_
      refine AL_if_eq hT hK 141 (tgt := 342) rfl rfl (fun c => absurd c (by decide)) (fun _ => ?_)
      refine AL_g hT hK 142 2 (pc' := 256) (lo' := [some (.ref 46), some (.ref 0), some (.ref 36), some (.ref 37), some (.ref 38), some (.int 1), some (.int 1), some (.int 2147483636), some (.int 134217727), some (.int 3), some (.int 0), none]) (st' := [.ref 36, .ref 0]) (hp' := wd (sTc σ)) rfl ?_
      refine AL_cE hT hK hN 144 [.ref 0, .ref 36] [] (l_areWaysT l0 hl0 (sTc σ) hF) cw_L_areWays lk_L_160 sm_L_areWays rfl rfl rfl rfl rfl rfl (by show _ ≤ 700; omega) (by show _ ≤ 8000; omega) ?_
      exact AL_stop hQ (by omega)
    | succ n4 ih6 =>
      intro i2 hi3 hi3s
      refine AL_g hT hK 88 2 (pc' := 159) (lo' := [some (.ref 46), some (.ref 0), some (.ref 36), some (.ref 37), some (.ref 38), some (.int 1), some (.int 1), some (.int 2147483636), some (.int 134217727), some (.int 3), some (.int 0), some (.int (nI i2))]) (st' := [.int 12, .int (nI i2)]) (hp' := wd sE) rfl ?_
      refine AL_icmp_ge hT hK 90 (tgt := 201) rfl rfl (fun c => absurd c (az_c1 hi3)) (fun _ => ?_)
      refine AL_g hT hK 91 3 (pc' := 167) (lo' := [some (.ref 46), some (.ref 0), some (.ref 36), some (.ref 37), some (.ref 38), some (.int 1), some (.int 1), some (.int 2147483636), some (.int 134217727), some (.int 3), some (.int 0), some (.int (nI i2))]) (st' := [.int (nI i2), .ref 36, .int 0]) (hp' := wd sE) rfl ?_
      refine AL_r hT hK 94 i2 rfl rfl (by omega) ?_
      refine AL_if_lt hT hK 95 (tgt := 191) rfl rfl (fun _ => ?_) (fun c => absurd (by decide) c)
      refine AL_g hT hK 109 4 (pc' := 198) (lo' := [some (.ref 46), some (.ref 0), some (.ref 36), some (.ref 37), some (.ref 38), some (.int 1), some (.int 1), some (.int 2147483636), some (.int 134217727), some (.int 3), some (.int 0), some (.int (nI i2 + 1))]) (st' := []) (hp' := wd sE) rfl ?_
      refine AL_goto hT hK 113 (tgt := 155) rfl rfl ?_
      refine AL_to (lo' := [some (.ref 46), some (.ref 0), some (.ref 36), some (.ref 37), some (.ref 38), some (.int 1), some (.int 1), some (.int 2147483636), some (.int 134217727), some (.int 3), some (.int 0), some (.int (nI (i2 + 1)))]) (by rw [nI_1]) rfl rfl ?_
      refine AL_cnt (lb' := (39 + 152)) (cells' := (39 + 152)) (slots' := 554 + 6 * (39 + 152)) (by omega) (by omega) (by omega) ?_
      exact ih6 (i2 + 1) (by omega) (by omega)
  refine AL_cnt (lb' := (39 + 152)) (cells' := (39 + 152)) (slots' := 554 + 6 * (39 + 152)) (by omega) (by omega) (by omega) ?_
  exact lp5 12 0 rfl (Nat.le_refl _)
end AZL9
