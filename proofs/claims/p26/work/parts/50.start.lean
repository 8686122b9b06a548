/-! the law's start -/
section AZQ
variable {K : az_K} {own : String} {cc : ByteArray} {R0 : Room} {l0 : Launch} {tb : List (Nat × Instr)} {cells slots pc : Nat} {lo : List (Option Value)} {st rest : List Value} {hp : az_H}
/-- the places whose addresses stay: those that are there, and the script's (46) -/
def az_SL (n : Nat) : Value → Bool
  | .ref k => Nat.blt k n || Nat.ble 46 k
  | _ => true
def az_SO (n : Nat) : Option Value → Bool
  | some v => az_SL n v
  | none => true
def az_GrL (K : az_K) : Prop :=
  match K with
  | (_, _, _, _, _, _, _, _, _, _, _, _, _, Ag, _, _) => ∀ ad ad' : Nat → Nat, (∀ i, 46 ≤ i → ad' i = ad i) → Ag ad → Ag ad'
theorem az_SL_ext {ad ad' : Nat → Nat} {n : Nat} (h1 : ∀ i, i < n → ad' i = ad i) (h2 : ∀ i, 46 ≤ i → ad' i = ad i) (v : Value) (h : az_SL n v = true) : az_v ad' v = az_v ad v := by
  cases v with
  | ref k =>
    refine congrArg Value.ref ?_
    rcases (Bool.or_eq_true _ _).mp h with h | h
    · exact h1 k (Nat.blt_eq.mp h)
    · exact h2 k (Nat.le_of_ble_eq_true h)
  | _ => rfl
theorem az_SLs_ext {ad ad' : Nat → Nat} {n : Nat} (h1 : ∀ i, i < n → ad' i = ad i) (h2 : ∀ i, 46 ≤ i → ad' i = ad i) (l : List Value) (h : l.all (az_SL n) = true) : l.map (az_v ad') = l.map (az_v ad) :=
  List.map_congr_left fun v hv => az_SL_ext h1 h2 v (List.all_eq_true.mp h v hv)
theorem az_ls_extL {ad ad' : Nat → Nat} {n : Nat} {ls : Array Slot} {nL : Nat} {lo : List (Option Value)} (h1 : ∀ i, i < n → ad' i = ad i) (h2 : ∀ i, 46 ≤ i → ad' i = ad i) (h : lo.all (az_SO n) = true) (hl : az_ls ad ls nL lo) : az_ls ad' ls nL lo := by
  refine ⟨⟨hl.1.1, hl.1.2.1, fun q hq => hl.1.2.2 q ?_⟩, hl.2⟩
  obtain ⟨j, w, hj, rfl⟩ := (az_lv_mem ad' _ 0 q).mp hq
  exact (az_lv_mem ad lo 0 _).mpr ⟨j, w, hj, by rw [az_SL_ext h1 h2 w (List.all_eq_true.mp h _ (List.mem_of_getElem? hj))]⟩
theorem AW_newL (hT : az_Tb cc tb) (hK : az_OK K own cc R0 l0) (hG : az_GrL K) (i : Nat) {idx ci N : Nat} {C : String} {T : u_T} (ty : Nat → FieldType) (fs : List Value) (hi : tb[i]? = some (pc, .new idx)) (hcl : Cond.classLink own idx C ∈ lw_tbl) (hinst : Cond.instantiable C N ∈ lw_tbl) (hini : Cond.initialized C ∈ lw_tbl)
    (hc : vwCl[ci]? = some (C, T, N)) (hws : ∀ w ∈ u_ws C T N, w ∈ lw_tbl ∧ az_kp w = true) (hty : ∀ k, k < N → parseFieldDescriptor (T k).2.2.1 = some (ty k)) (hfs : ∀ j, j < N → defaultValue (ty j) = vp_V fs j) (hf0 : az_lin 0 fs = true)
    (hn : hp.length < 46) (hfit : (az_fit hp.length hp && (lo.all (az_SO hp.length) && rest.all (az_SL hp.length))) = true) (hcells : cells + 1 ≤ R0.cells) (hslots : slots + N ≤ R0.slots)
    (kk : AW K (cells + 1) (slots + N) (pc + 3) lo (.ref hp.length :: rest) (hp ++ [.inr (ci, fs)])) : AW K cells slots pc lo rest hp := by
  obtain ⟨p, l, e, R, s, m, args, below, meth, c, D, cA, A, Ag, Q, nL⟩ := K
  obtain ⟨hexec, hb, hml, hlk, hown, hev, hKn, hA, rfl, rfl⟩ := hK
  rw [Bool.and_eq_true, Bool.and_eq_true] at hfit
  intro ad H locs ls hag hP hD hS hl
  refine va_new (Ts := u_ws C T N) hexec hb (fun w h => hev.1.use (hws w h).1 (hws w h).2 args) (fun w h => h) ty hty hown (hev.1.use hcl rfl args) (hev.1.use hinst rfl args) (hev.1.use hini rfl args) hKn hP hD hS hA hc hfs hcells hslots (hT.at hi) (fun q H1 hP1 hD1 hS1 => ?_)
  have hag' : ∀ i, i < hp.length → va_up ad hp.length q i = ad i := fun i h => va_up_ne _ _ (by omega)
  have hag2 : ∀ i, 46 ≤ i → va_up ad hp.length q i = ad i := fun i h => va_up_ne _ _ (by omega)
  have e1 : az_w cA (va_up ad hp.length q) (hp ++ [.inr (ci, fs)]) = az_w cA ad hp ++ [(q, .inr (ci, fs))] := by
    rw [az_w_app, az_w_ext (Nat.le_refl _) hag' hfit.1, va_up_self]
    show _ ++ [(q, (Sum.inr (ci, fs.map (az_v (va_up ad hp.length q))) : va_E))] = _
    have e0 : fs.map (az_v (va_up ad hp.length q)) = fs := by
      conv => rhs; rw [← List.map_id fs]
      refine List.map_congr_left fun v hv => ?_
      have := List.all_eq_true.mp hf0 v hv
      cases v with
      | ref k => cases this
      | _ => rfl
    rw [e0]
  have k9 := kk (va_up ad hp.length q) H1 locs ls (hG ad _ hag2 hag) (by rw [e1]; exact hP1) (by rw [e1]; exact hD1) hS1 (az_ls_extL hag' hag2 hfit.2.1 hl)
  rw [List.map_cons, az_SLs_ext hag' hag2 rest hfit.2.2] at k9
  show W _ _ _ _ _ _ _ _ _ _ _ _ _ _ _ (F0 m _ ls (.ref q :: _))
  have e2 : az_v (va_up ad hp.length q) (.ref hp.length) = .ref q := congrArg Value.ref (va_up_self _ _ _)
  rw [e2] at k9
  exact k9
theorem AW_newaL (hT : az_Tb cc tb) (hK : az_OK K own cc R0 l0) (hG : az_GrL K) (i : Nat) {atype : ArrayType} (t : Nat) (ty : FieldType) {n : Int32} (N : Nat) (a0 : vp_A) (hi : tb[i]? = some (pc, .newarray atype)) (harr : Cond.arrayClass ty ∈ lw_tbl) (hty : newarray.typeOf atype = ty)
    (ht : t = 0 ∧ ty = .int) (ha : ∀ c : ClassId, vp_cell c a0 = arrV c N (fun _ => defaultValue ty)) (hn9 : ¬ n < 0) (hN : n.toNatClampNeg = N) (hbytes : N * componentBytes ty ≤ 536870912)
    (hn : hp.length < 46) (hfit : (az_fit hp.length hp && (lo.all (az_SO hp.length) && rest.all (az_SL hp.length))) = true) (hcells : cells + 1 ≤ R0.cells) (hslots : slots + N ≤ R0.slots)
    (kk : AW K (cells + 1) (slots + N) (pc + 2) lo (.ref hp.length :: rest) (hp ++ [.inl (t, a0)])) : AW K cells slots pc lo (.int n :: rest) hp := by
  obtain ⟨p, l, e, R, s, m, args, below, meth, c, D, cA, A, Ag, Q, nL⟩ := K
  obtain ⟨hexec, hb, hml, hlk, hown, hev, hKn, hA, rfl, rfl⟩ := hK
  rw [Bool.and_eq_true, Bool.and_eq_true] at hfit
  intro ad H locs ls hag hP hD hS hl
  refine va_newa hexec hb (ty := ty) (by rw [hty]; exact hev.1.use harr rfl args) hty hKn hP hD hS hA ha hn9 hN hbytes hcells hslots (hT.at hi) (fun q c9 H1 hK1 hP1 hD1 hS1 => ?_)
  have hc9 : c9 = cA t := by
    have h3 := (hK1.2 1 (c9, ty) rfl).2
    obtain ⟨rfl, rfl⟩ := ht
    exact Option.some.inj (h3.symm.trans (hKn.2 0 _ rfl).2)
  rw [hc9] at hP1 hD1
  have hag' : ∀ i, i < hp.length → va_up ad hp.length q i = ad i := fun i h => va_up_ne _ _ (by omega)
  have hag2 : ∀ i, 46 ≤ i → va_up ad hp.length q i = ad i := fun i h => va_up_ne _ _ (by omega)
  have e1 : az_w cA (va_up ad hp.length q) (hp ++ [.inl (t, a0)]) = az_w cA ad hp ++ [(q, .inl (cA t, a0))] := by
    rw [az_w_app, az_w_ext (Nat.le_refl _) hag' hfit.1, va_up_self]
    rfl
  have k9 := kk (va_up ad hp.length q) H1 locs ls (hG ad _ hag2 hag) (by rw [e1]; exact hP1) (by rw [e1]; exact hD1) hS1 (az_ls_extL hag' hag2 hfit.2.1 hl)
  rw [List.map_cons, az_SLs_ext hag' hag2 rest hfit.2.2] at k9
  have e2 : az_v (va_up ad hp.length q) (.ref hp.length) = .ref q := congrArg Value.ref (va_up_self _ _ _)
  rw [e2] at k9
  exact k9
variable {y : MethodName} {cb : ByteArray} {mL n idx : Nat} {rm : Room}
theorem AW_callIL (hT : az_Tb cc tb) (hK : az_OK K own cc R0 l0) (hG : az_GrL K) (i : Nat) (as rest : List Value) {k : Nat} {hp1 : az_H} (hM : AMet l0 y cb mL none rm true (.ref k :: as) hp (fun r h => r = none ∧ h = hp1)) (cv : az_Cw y cb mL none n) (hl : Cond.methodLink own idx y ∈ lw_tbl) (hv : Cond.instanceMethod y ∈ lw_tbl) (hy : y.name = "<init>")
    (hi : tb[i]? = some (pc, .invokespecial idx)) (hn : as.length = n) (hst : st = as.reverse ++ .ref k :: rest) (hrm : az_rm rm R0 mL rest = true) (hn0 : hp.length ≤ 46) (hn1 : hp1.length ≤ 46) (hf1 : az_fit 46 hp1 = true) (hfit : (lo.all (az_SO hp.length) && rest.all (az_SL hp.length)) = true) (hc : cells + rm.cells ≤ R0.cells) (hs : slots + rm.slots ≤ R0.slots)
    (kk : AW K (cells + rm.cells) (slots + rm.slots) (pc + 3) lo rest hp1) : AW K cells slots pc lo st hp := by
  obtain ⟨p, l, e, R, s, m, args, below, meth, c, D, cA, A, Ag, Q, nL⟩ := K
  obtain ⟨hexec, hb, hml, hlk, hown, hev, hKn, hA, rfl, rfl⟩ := hK
  obtain ⟨hR, hcat⟩ := az_rm.of hrm
  rw [Bool.and_eq_true] at hfit
  subst hst
  intro ad H locs ls hag hP hD hS hl1
  refine az_after (gr := true) (va_runI (As := as.map (az_v ad)) (rest := rest.map (az_v ad)) (b := ad k) (Ts := []) (own := own) (nL := nL) ⟨hexec, hb, hml, hown, fun _ h => by cases h⟩ (hM D cA ad H.size) ⟨az_cb hev.1 cv hl hR, hy, hev.1.use hv rfl args⟩
    ⟨az_blind D cA ad hp H.size _, az_start hev hKn hA hP hD hS (.ref (ad k) :: as.map (az_v ad))⟩ rfl (by rw [List.length_map]; exact hn) hl1.1.1 (by rw [List.map_append, List.map_reverse]; rfl) (lv_room (by rw [az_cats]; exact hcat)) (hT.at hi) ⟨hc, hs⟩) hS hD hA (fun r hp' ad' H1 locs1 hΨ _ hag' hP1 hD1 hS1 => ?_)
  obtain ⟨rfl, rfl⟩ := hΨ
  have h46 : ∀ i, i < 46 → (if i < 46 then ad' i else ad i) = ad' i := fun i h => by rw [if_pos h]
  have e1 : az_w cA (fun i => if i < 46 then ad' i else ad i) hp' = az_w cA ad' hp' := az_w_ext hn1 h46 hf1
  have g1 : ∀ i, i < hp.length → (if i < 46 then ad' i else ad i) = ad i := fun i h => by rw [if_pos (by omega)]; exact hag' i h
  have g2 : ∀ i, 46 ≤ i → (if i < 46 then ad' i else ad i) = ad i := fun i h => by rw [if_neg (by omega)]
  have k9 := kk (fun i => if i < 46 then ad' i else ad i) H1 locs1 ls (hG ad _ g2 hag) (by rw [e1]; exact hP1) (by rw [e1]; exact hD1) hS1 (az_ls_extL g1 g2 hfit.1 hl1)
  rw [az_SLs_ext g1 g2 rest hfit.2] at k9
  exact k9
def tb_L_law : List (Nat × Instr) := tb_L_law_0 ++ (tb_L_law_1 ++ (tb_L_law_2 ++ (tb_L_law_3)))
theorem tt_L_law : az_Tb cL_law tb_L_law := az_Tb.of (by decide +kernel)
/-- the room of the walk: more than the claim's own -/
def R1 : Room := { frames := 12, cells := 700, slots := 8000, locals := 456 }
/-- while r is filled -/
def fK (k : Nat) : Nat → Int32 := fun i => if i < k then -1 else 0
def sK (k : Nat) : az_S := (fun _ => 0, va_up (fun _ _ => 0) 36 (fK k), fun _ _ => 0)
theorem fK0 : fK 0 = fun _ => 0 := by
  funext i
  unfold fK
  rw [if_neg (Nat.not_lt_zero i)]
theorem fKs (k : Nat) : upd (fK k) k (-1) = fK (k + 1) := by
  funext i
  unfold upd fK
  by_cases h : i = k
  · rw [if_pos h, if_pos (by omega)]
  · rw [if_neg h]
    by_cases h2 : i < k
    · rw [if_pos h2, if_pos (by omega)]
    · rw [if_neg h2, if_neg (by omega)]
theorem wd_sK0 : ([.inr (5, [.ref 1, .ref 12, .ref 25]), .inr (3, [.ref 2, .ref 4, .ref 6, .ref 8, .ref 10, .int 0, .int 0, .int 0]), .inr (2, [.ref 3]), .inl (0, (12, .inl fun _ => 0)), .inr (2, [.ref 5]), .inl (0, (12, .inl fun _ => 0)), .inr (2, [.ref 7]), .inl (0, (12, .inl fun _ => 0)), .inr (4, [.ref 9]), .inl (0, (144, .inl fun _ => 0)), .inr (4, [.ref 11]), .inl (0, (144, .inl fun _ => 0)), .inr (0, [.ref 13, .ref 15, .ref 17, .ref 19, .ref 21, .ref 23, .int 0, .int 0]), .inr (2, [.ref 14]), .inl (0, (12, .inl fun _ => 0)), .inr (2, [.ref 16]), .inl (0, (12, .inl fun _ => 0)), .inr (2, [.ref 18]), .inl (0, (12, .inl fun _ => 0)), .inr (2, [.ref 20]), .inl (0, (12, .inl fun _ => 0)), .inr (4, [.ref 22]), .inl (0, (144, .inl fun _ => 0)), .inr (4, [.ref 24]), .inl (0, (144, .inl fun _ => 0)), .inr (1, [.ref 26, .ref 28, .ref 30, .ref 32, .ref 34, .int 0, .int 0, .int 0]), .inr (2, [.ref 27]), .inl (0, (12, .inl fun _ => 0)), .inr (2, [.ref 29]), .inl (0, (12, .inl fun _ => 0)), .inr (2, [.ref 31]), .inl (0, (12, .inl fun _ => 0)), .inr (2, [.ref 33]), .inl (0, (12, .inl fun _ => 0)), .inr (2, [.ref 35]), .inl (0, (12, .inl fun _ => 0)), .inl (0, (12, .inl fun _ => 0)), .inl (0, (12, .inl fun _ => 0)), .inl (0, (1, .inl fun _ => 0))] : az_H) = wd (sK 0) := by
  unfold sK
  rw [fK0]
  rfl
set_option maxRecDepth 100000 in
set_option maxHeartbeats 4000000 in
theorem law_fill (hK : az_OK K RL cL_law R1 l0) (kk : AW K cells slots 44 [some (.ref 46), some (.ref 0), some (.ref 36), some (.ref 37), some (.ref 38), none, none, none, none, none, none, none] [] (wd sE)) : ∀ (n k : Nat), k + n = 12 → AW K cells slots 26 [some (.ref 46), some (.ref 0), some (.ref 36), some (.ref 37), some (.ref 38), some (.int (nI k)), none, none, none, none, none, none] [] (wd (sK k)) := by
  have hT := tt_L_law
  intro n
  induction n with
  | zero =>
    intro k hk
    refine AW_g hT (cl_N _) hK 15 2 (pc' := 30) (lo' := [some (.ref 46), some (.ref 0), some (.ref 36), some (.ref 37), some (.ref 38), some (.int (nI k)), none, none, none, none, none, none]) (st' := [.int 12, .int (nI k)]) (hp' := wd (sK k)) rfl ?_
    refine AW_icmp_ge hT hK 17 (tgt := 44) rfl rfl (fun _ => ?_) (fun c => absurd (az_c0 hk) c)
    refine AW_msk [true, true, true, true, true, false, false, false, false, false, false, false] (lo' := [some (.ref 46), some (.ref 0), some (.ref 36), some (.ref 37), some (.ref 38), none, none, none, none, none, none, none]) rfl ?_
    have e : k = 12 := by omega
    subst e
    exact kk
  | succ n ih =>
    intro k hk
    refine AW_g hT (cl_N _) hK 15 2 (pc' := 30) (lo' := [some (.ref 46), some (.ref 0), some (.ref 36), some (.ref 37), some (.ref 38), some (.int (nI k)), none, none, none, none, none, none]) (st' := [.int 12, .int (nI k)]) (hp' := wd (sK k)) rfl ?_
    refine AW_icmp_ge hT hK 17 (tgt := 44) rfl rfl (fun c => absurd c (az_c1 hk)) (fun _ => ?_)
    refine AW_g hT (cl_N _) hK 18 3 (pc' := 37) (lo' := [some (.ref 46), some (.ref 0), some (.ref 36), some (.ref 37), some (.ref 38), some (.int (nI k)), none, none, none, none, none, none]) (st' := [.int (-1), .int (nI k), .ref 36]) (hp' := wd (sK k)) rfl ?_
    refine AW_iast hT hK 21 k (n := 12) (f := fK k) rfl rfl rfl (by omega) (by decide) ?_
    refine AW_to (hp' := wd (sK (k + 1))) rfl rfl (by rw [fKs]; rfl) ?_
    refine AW_g hT (cl_N _) hK 22 1 (pc' := 41) (lo' := [some (.ref 46), some (.ref 0), some (.ref 36), some (.ref 37), some (.ref 38), some (.int (nI k + 1)), none, none, none, none, none, none]) (st' := []) (hp' := wd (sK (k + 1))) rfl ?_
    refine AW_goto hT hK 23 (tgt := 26) rfl rfl ?_
    refine AW_to (lo' := [some (.ref 46), some (.ref 0), some (.ref 36), some (.ref 37), some (.ref 38), some (.int (nI (k + 1))), none, none, none, none, none, none]) (by rw [nI_1]) rfl rfl ?_
    exact ih (k + 1) (by omega)
set_option maxRecDepth 100000 in
set_option maxHeartbeats 4000000 in
theorem law_first (hK : az_OK K RL cL_law R1 l0) (hG : az_GrL K) (kk : AW K 39 788 44 [some (.ref 46), some (.ref 0), some (.ref 36), some (.ref 37), some (.ref 38), none, none, none, none, none, none, none] [] (wd sE)) : AW K 0 0 0 [some (.ref 46), none, none, none, none, none, none, none, none, none, none, none] [] [] := by
  have hT := tt_L_law
  refine AW_newL hT hK hG 0 (ci := 5) (N := 3) tyX5 [.null, .null, .null] rfl (List.mem_of_getElem? (i := 38) (by decide +kernel)) ins_X5 ini_X5 rfl lay_X5 tyX5_ok (by decide) rfl (Nat.le_of_ble_eq_true rfl) rfl (Nat.le_of_ble_eq_true rfl) (Nat.le_of_ble_eq_true rfl) ?_
  refine AW_g hT (cl_N _) hK 1 1 (pc' := 4) (lo' := [some (.ref 46), none, none, none, none, none, none, none, none, none, none, none]) (st' := [.ref 0, .ref 0]) (hp' := [.inr (5, [.null, .null, .null])]) rfl ?_
  refine AW_callIL hT hK hG 2 [] [.ref 0] (in_X5 l0) cw_X5_init lk_L_133 im_X5_init rfl rfl rfl rfl rfl (Nat.le_of_ble_eq_true rfl) (Nat.le_of_ble_eq_true rfl) (by decide +kernel) rfl (Nat.le_of_ble_eq_true rfl) (Nat.le_of_ble_eq_true rfl) ?_
  refine AW_g hT (cl_N _) hK 3 2 (pc' := 10) (lo' := [some (.ref 46), some (.ref 0), none, none, none, none, none, none, none, none, none, none]) (st' := [.int 12]) (hp' := [.inr (5, [.ref 1, .ref 12, .ref 25]), .inr (3, [.ref 2, .ref 4, .ref 6, .ref 8, .ref 10, .int 0, .int 0, .int 0]), .inr (2, [.ref 3]), .inl (0, (12, .inl fun _ => 0)), .inr (2, [.ref 5]), .inl (0, (12, .inl fun _ => 0)), .inr (2, [.ref 7]), .inl (0, (12, .inl fun _ => 0)), .inr (4, [.ref 9]), .inl (0, (144, .inl fun _ => 0)), .inr (4, [.ref 11]), .inl (0, (144, .inl fun _ => 0)), .inr (0, [.ref 13, .ref 15, .ref 17, .ref 19, .ref 21, .ref 23, .int 0, .int 0]), .inr (2, [.ref 14]), .inl (0, (12, .inl fun _ => 0)), .inr (2, [.ref 16]), .inl (0, (12, .inl fun _ => 0)), .inr (2, [.ref 18]), .inl (0, (12, .inl fun _ => 0)), .inr (2, [.ref 20]), .inl (0, (12, .inl fun _ => 0)), .inr (4, [.ref 22]), .inl (0, (144, .inl fun _ => 0)), .inr (4, [.ref 24]), .inl (0, (144, .inl fun _ => 0)), .inr (1, [.ref 26, .ref 28, .ref 30, .ref 32, .ref 34, .int 0, .int 0, .int 0]), .inr (2, [.ref 27]), .inl (0, (12, .inl fun _ => 0)), .inr (2, [.ref 29]), .inl (0, (12, .inl fun _ => 0)), .inr (2, [.ref 31]), .inl (0, (12, .inl fun _ => 0)), .inr (2, [.ref 33]), .inl (0, (12, .inl fun _ => 0)), .inr (2, [.ref 35]), .inl (0, (12, .inl fun _ => 0))]) rfl ?_
  refine AW_newaL hT hK hG 5 (atype := .int) 0 .int 12 (12, .inl fun _ => 0) rfl arc_int rfl ⟨rfl, rfl⟩ (fun _ => rfl) (by decide) (by decide) (by decide) (Nat.le_of_ble_eq_true rfl) (by decide +kernel) (Nat.le_of_ble_eq_true rfl) (Nat.le_of_ble_eq_true rfl) ?_
  refine AW_g hT (cl_N _) hK 6 2 (pc' := 15) (lo' := [some (.ref 46), some (.ref 0), some (.ref 36), none, none, none, none, none, none, none, none, none]) (st' := [.int 12]) (hp' := [.inr (5, [.ref 1, .ref 12, .ref 25]), .inr (3, [.ref 2, .ref 4, .ref 6, .ref 8, .ref 10, .int 0, .int 0, .int 0]), .inr (2, [.ref 3]), .inl (0, (12, .inl fun _ => 0)), .inr (2, [.ref 5]), .inl (0, (12, .inl fun _ => 0)), .inr (2, [.ref 7]), .inl (0, (12, .inl fun _ => 0)), .inr (4, [.ref 9]), .inl (0, (144, .inl fun _ => 0)), .inr (4, [.ref 11]), .inl (0, (144, .inl fun _ => 0)), .inr (0, [.ref 13, .ref 15, .ref 17, .ref 19, .ref 21, .ref 23, .int 0, .int 0]), .inr (2, [.ref 14]), .inl (0, (12, .inl fun _ => 0)), .inr (2, [.ref 16]), .inl (0, (12, .inl fun _ => 0)), .inr (2, [.ref 18]), .inl (0, (12, .inl fun _ => 0)), .inr (2, [.ref 20]), .inl (0, (12, .inl fun _ => 0)), .inr (4, [.ref 22]), .inl (0, (144, .inl fun _ => 0)), .inr (4, [.ref 24]), .inl (0, (144, .inl fun _ => 0)), .inr (1, [.ref 26, .ref 28, .ref 30, .ref 32, .ref 34, .int 0, .int 0, .int 0]), .inr (2, [.ref 27]), .inl (0, (12, .inl fun _ => 0)), .inr (2, [.ref 29]), .inl (0, (12, .inl fun _ => 0)), .inr (2, [.ref 31]), .inl (0, (12, .inl fun _ => 0)), .inr (2, [.ref 33]), .inl (0, (12, .inl fun _ => 0)), .inr (2, [.ref 35]), .inl (0, (12, .inl fun _ => 0)), .inl (0, (12, .inl fun _ => 0))]) rfl ?_
  refine AW_newaL hT hK hG 8 (atype := .int) 0 .int 12 (12, .inl fun _ => 0) rfl arc_int rfl ⟨rfl, rfl⟩ (fun _ => rfl) (by decide) (by decide) (by decide) (Nat.le_of_ble_eq_true rfl) (by decide +kernel) (Nat.le_of_ble_eq_true rfl) (Nat.le_of_ble_eq_true rfl) ?_
  refine AW_g hT (cl_N _) hK 9 2 (pc' := 19) (lo' := [some (.ref 46), some (.ref 0), some (.ref 36), some (.ref 37), none, none, none, none, none, none, none, none]) (st' := [.int 1]) (hp' := [.inr (5, [.ref 1, .ref 12, .ref 25]), .inr (3, [.ref 2, .ref 4, .ref 6, .ref 8, .ref 10, .int 0, .int 0, .int 0]), .inr (2, [.ref 3]), .inl (0, (12, .inl fun _ => 0)), .inr (2, [.ref 5]), .inl (0, (12, .inl fun _ => 0)), .inr (2, [.ref 7]), .inl (0, (12, .inl fun _ => 0)), .inr (4, [.ref 9]), .inl (0, (144, .inl fun _ => 0)), .inr (4, [.ref 11]), .inl (0, (144, .inl fun _ => 0)), .inr (0, [.ref 13, .ref 15, .ref 17, .ref 19, .ref 21, .ref 23, .int 0, .int 0]), .inr (2, [.ref 14]), .inl (0, (12, .inl fun _ => 0)), .inr (2, [.ref 16]), .inl (0, (12, .inl fun _ => 0)), .inr (2, [.ref 18]), .inl (0, (12, .inl fun _ => 0)), .inr (2, [.ref 20]), .inl (0, (12, .inl fun _ => 0)), .inr (4, [.ref 22]), .inl (0, (144, .inl fun _ => 0)), .inr (4, [.ref 24]), .inl (0, (144, .inl fun _ => 0)), .inr (1, [.ref 26, .ref 28, .ref 30, .ref 32, .ref 34, .int 0, .int 0, .int 0]), .inr (2, [.ref 27]), .inl (0, (12, .inl fun _ => 0)), .inr (2, [.ref 29]), .inl (0, (12, .inl fun _ => 0)), .inr (2, [.ref 31]), .inl (0, (12, .inl fun _ => 0)), .inr (2, [.ref 33]), .inl (0, (12, .inl fun _ => 0)), .inr (2, [.ref 35]), .inl (0, (12, .inl fun _ => 0)), .inl (0, (12, .inl fun _ => 0)), .inl (0, (12, .inl fun _ => 0))]) rfl ?_
  refine AW_newaL hT hK hG 11 (atype := .int) 0 .int 1 (1, .inl fun _ => 0) rfl arc_int rfl ⟨rfl, rfl⟩ (fun _ => rfl) (by decide) (by decide) (by decide) (Nat.le_of_ble_eq_true rfl) (by decide +kernel) (Nat.le_of_ble_eq_true rfl) (Nat.le_of_ble_eq_true rfl) ?_
  refine AW_g hT (cl_N _) hK 12 3 (pc' := 26) (lo' := [some (.ref 46), some (.ref 0), some (.ref 36), some (.ref 37), some (.ref 38), some (.int (nI 0)), none, none, none, none, none, none]) (st' := []) (hp' := [.inr (5, [.ref 1, .ref 12, .ref 25]), .inr (3, [.ref 2, .ref 4, .ref 6, .ref 8, .ref 10, .int 0, .int 0, .int 0]), .inr (2, [.ref 3]), .inl (0, (12, .inl fun _ => 0)), .inr (2, [.ref 5]), .inl (0, (12, .inl fun _ => 0)), .inr (2, [.ref 7]), .inl (0, (12, .inl fun _ => 0)), .inr (4, [.ref 9]), .inl (0, (144, .inl fun _ => 0)), .inr (4, [.ref 11]), .inl (0, (144, .inl fun _ => 0)), .inr (0, [.ref 13, .ref 15, .ref 17, .ref 19, .ref 21, .ref 23, .int 0, .int 0]), .inr (2, [.ref 14]), .inl (0, (12, .inl fun _ => 0)), .inr (2, [.ref 16]), .inl (0, (12, .inl fun _ => 0)), .inr (2, [.ref 18]), .inl (0, (12, .inl fun _ => 0)), .inr (2, [.ref 20]), .inl (0, (12, .inl fun _ => 0)), .inr (4, [.ref 22]), .inl (0, (144, .inl fun _ => 0)), .inr (4, [.ref 24]), .inl (0, (144, .inl fun _ => 0)), .inr (1, [.ref 26, .ref 28, .ref 30, .ref 32, .ref 34, .int 0, .int 0, .int 0]), .inr (2, [.ref 27]), .inl (0, (12, .inl fun _ => 0)), .inr (2, [.ref 29]), .inl (0, (12, .inl fun _ => 0)), .inr (2, [.ref 31]), .inl (0, (12, .inl fun _ => 0)), .inr (2, [.ref 33]), .inl (0, (12, .inl fun _ => 0)), .inr (2, [.ref 35]), .inl (0, (12, .inl fun _ => 0)), .inl (0, (12, .inl fun _ => 0)), .inl (0, (12, .inl fun _ => 0)), .inl (0, (1, .inl fun _ => 0))]) rfl ?_
  refine AW_to (hp' := wd (sK 0)) rfl rfl wd_sK0 ?_
  refine law_fill hK ?_ 12 0 rfl
  exact AW_widen (Nat.le_of_ble_eq_true rfl) (Nat.le_of_ble_eq_true rfl) kk
/-- what the machine gives at the law's entry -/
theorem law_ev {s : State} {b : Nat} (hts : ∀ w ∈ lw_tbl, w.before #[Value.ref b] s = true) (hgv : (Jvm.Cond.and given_1 narrow_1).before #[Value.ref b] s = true) : az_ev (fun q => s.heap.size ≤ q) s := by
  have hwd : az_wd s := fun w hw hk => az_kp_warm hk (State.WarmedH.refl s) (hts w hw)
  have hs := flat_of_before _ hgv
  obtain ⟨cC, iS, hKn⟩ := u_known (C := RX5) (T := TX5) (N := 3) (n := 3) hts (fun w h => (lay_X5 w h).1) (hts _ ins_X5)
  refine ⟨hwd, vx_Zqof (args := #[Value.ref b]) (hts _ (List.mem_of_getElem? (i := 231) (by decide +kernel))) (hts _ (List.mem_of_getElem? (i := 31) (by decide +kernel))) (hs _ (by decide +kernel)) (fun a h => Nat.not_le.mpr h),
    vx_Zqof (args := #[Value.ref b]) (hts _ (List.mem_of_getElem? (i := 233) (by decide +kernel))) (hts _ (List.mem_of_getElem? (i := 31) (by decide +kernel))) (hs _ (by decide +kernel)) (fun a h => Nat.not_le.mpr h), ?_⟩
  have z : ∀ (k : Nat) (tx : String), Cond.stringRef "Cocite" k tx ∈ lw_tbl → ∃ a : Nat, vk_R "Cocite" k tx a s := by
    intro k tx h
    obtain ⟨k9, cf, i, a, -, -, -, -, -, h6⟩ := Cond.stringRef_spec (show s.vm.findClass "Cocite" = some cC from hKn.2.1) (hts _ h)
    exact ⟨a, vk_R.of (hts _ h) h6⟩
  intro q hq
  unfold az_txt at hq
  simp only [List.mem_cons, List.not_mem_nil, or_false] at hq
  rcases hq with rfl | rfl | rfl | rfl | rfl | rfl | rfl | rfl
  · exact z _ _ (List.mem_of_getElem? (i := 536) (by decide +kernel))
  · exact z _ _ (List.mem_of_getElem? (i := 691) (by decide +kernel))
  · exact z _ _ (List.mem_of_getElem? (i := 705) (by decide +kernel))
  · exact z _ _ (List.mem_of_getElem? (i := 246) (by decide +kernel))
  · exact z _ _ (List.mem_of_getElem? (i := 496) (by decide +kernel))
  · exact z _ _ (List.mem_of_getElem? (i := 506) (by decide +kernel))
  · exact z _ _ (List.mem_of_getElem? (i := 527) (by decide +kernel))
  · exact z _ _ (List.mem_of_getElem? (i := 634) (by decide +kernel))
theorem law_known {s : State} {b : Nat} (hts : ∀ w ∈ lw_tbl, w.before #[Value.ref b] s = true) : ∃ (D : va_G) (cA : Nat → ClassId), va_K D vwCl (az_tys cA) s := by
  obtain ⟨c0, i0, k0⟩ := u_known (C := RX0) (T := TX0) (N := 8) (n := 8) hts (fun w h => (lay_X0 w h).1) (hts _ ins_X0)
  obtain ⟨c1, i1, k1⟩ := u_known (C := RX1) (T := TX1) (N := 8) (n := 8) hts (fun w h => (lay_X1 w h).1) (hts _ ins_X1)
  obtain ⟨c2, i2, k2⟩ := u_known (C := RX2) (T := TX2) (N := 1) (n := 1) hts (fun w h => (lay_X2 w h).1) (hts _ ins_X2)
  obtain ⟨c3, i3, k3⟩ := u_known (C := RX3) (T := TX3) (N := 8) (n := 8) hts (fun w h => (lay_X3 w h).1) (hts _ ins_X3)
  obtain ⟨c4, i4, k4⟩ := u_known (C := RX4) (T := TX4) (N := 1) (n := 1) hts (fun w h => (lay_X4 w h).1) (hts _ ins_X4)
  obtain ⟨c5, i5, k5⟩ := u_known (C := RX5) (T := TX5) (N := 3) (n := 3) hts (fun w h => (lay_X5 w h).1) (hts _ ins_X5)
  obtain ⟨a0, b0, d0, f0, g0, h0⟩ := Cond.arrayClass_spec (hts _ arc_int)
  refine ⟨(fun k => if k = 0 then c0 else if k = 1 then c1 else if k = 2 then c2 else if k = 3 then c3 else if k = 4 then c4 else c5, fun k => if k = 0 then i0 else if k = 1 then i1 else if k = 2 then i2 else if k = 3 then i3 else if k = 4 then i4 else i5), fun k => a0, ?_, ?_⟩
  · intro k q hq
    match k, hq with
    | 0, hq => cases hq; exact k0
    | 1, hq => cases hq; exact k1
    | 2, hq => cases hq; exact k2
    | 3, hq => cases hq; exact k3
    | 4, hq => cases hq; exact k4
    | 5, hq => cases hq; exact k5
    | k + 6, hq => simp [vwCl] at hq
  · intro k q hq
    match k, hq with
    | 0, hq => cases hq; exact ⟨fun n z => ⟨fun k h => (by cases h), b0, g0, d0, h0⟩, f0⟩
    | k + 1, hq => simp [az_tys] at hq
end AZQ
