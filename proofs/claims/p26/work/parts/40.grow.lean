/-! heaps that grow: new, newarray, the start of constructors -/
section AZG
def az_vin (n : Nat) : Value → Bool
  | .ref k => Nat.blt k n
  | _ => true
def az_lin (n : Nat) (l : List Value) : Bool := l.all (az_vin n)
def az_oin (n : Nat) : Option Value → Bool
  | some v => az_vin n v
  | none => true
def az_ein (n : Nat) : az_E → Bool
  | .inl _ => true
  | .inr q => az_lin n q.2
def az_fit (n : Nat) (hp : az_H) : Bool := hp.all (az_ein n)
theorem az_v_ext {ad ad' : Nat → Nat} {n : Nat} (hag : ∀ i, i < n → ad' i = ad i) (v : Value) (h : az_vin n v = true) : az_v ad' v = az_v ad v := by
  cases v with
  | ref k => exact congrArg Value.ref (hag k (Nat.blt_eq.mp h))
  | _ => rfl
theorem az_vs_ext {ad ad' : Nat → Nat} {n : Nat} (hag : ∀ i, i < n → ad' i = ad i) (l : List Value) (h : az_lin n l = true) : l.map (az_v ad') = l.map (az_v ad) :=
  List.map_congr_left fun v hv => az_v_ext hag v (List.all_eq_true.mp h v hv)
theorem az_w_ext {cA : Nat → ClassId} {ad ad' : Nat → Nat} {hp : az_H} {n : Nat} (hn : hp.length ≤ n) (hag : ∀ i, i < n → ad' i = ad i) (h : az_fit n hp = true) : az_w cA ad' hp = az_w cA ad hp := by
  apply List.ext_getElem?
  intro j
  unfold az_w
  rw [List.getElem?_mapIdx, List.getElem?_mapIdx]
  cases hj : hp[j]? with
  | none => rfl
  | some e =>
    have hlt : j < hp.length := (List.getElem?_eq_some_iff.mp hj).1
    have he := List.all_eq_true.mp h e (List.mem_of_getElem? hj)
    show some (ad' j, az_e cA ad' e) = some (ad j, az_e cA ad e)
    rw [hag j (Nat.lt_of_lt_of_le hlt hn)]
    cases e with
    | inl q => rfl
    | inr q =>
      show some (ad j, (Sum.inr (q.1, q.2.map (az_v ad')) : va_E)) = some (ad j, Sum.inr (q.1, q.2.map (az_v ad)))
      rw [az_vs_ext hag q.2 he]
theorem az_w_app (cA : Nat → ClassId) (ad : Nat → Nat) (hp : az_H) (e : az_E) : az_w cA ad (hp ++ [e]) = az_w cA ad hp ++ [(ad hp.length, az_e cA ad e)] := by
  unfold az_w
  rw [List.mapIdx_append]
  simp
theorem az_ls_ext {ad ad' : Nat → Nat} {n : Nat} {ls : Array Slot} {nL : Nat} {lo : List (Option Value)} (hag : ∀ i, i < n → ad' i = ad i) (h : lo.all (az_oin n) = true) (hl : az_ls ad ls nL lo) : az_ls ad' ls nL lo := by
  refine ⟨⟨hl.1.1, hl.1.2.1, fun q hq => hl.1.2.2 q ?_⟩, hl.2⟩
  obtain ⟨j, w, hj, rfl⟩ := (az_lv_mem ad' _ 0 q).mp hq
  exact (az_lv_mem ad lo 0 _).mpr ⟨j, w, hj, by rw [az_v_ext hag w (List.all_eq_true.mp h _ (List.mem_of_getElem? hj))]⟩
/-- the addresses may change where the method's start knew nothing -/
def az_Gr2 (K : az_K) (n0 : Nat) : Prop :=
  match K with
  | (_, _, _, _, _, _, _, _, _, _, _, _, _, Ag, _, _) => ∀ ad ad' : Nat → Nat, (∀ i, i < n0 → ad' i = ad i) → Ag ad → Ag ad'
variable {K : az_K} {own : String} {cc : ByteArray} {R0 : Room} {l0 : Launch} {tb : List (Nat × Instr)} {cells slots pc : Nat} {lo : List (Option Value)} {st rest : List Value} {hp : az_H} {n0 : Nat}
theorem AW_new (hT : az_Tb cc tb) (hK : az_OK K own cc R0 l0) (hG : az_Gr2 K n0) (i : Nat) {idx ci N : Nat} {C : String} {T : u_T} (ty : Nat → FieldType) (fs : List Value) (hi : tb[i]? = some (pc, .new idx)) (hcl : Cond.classLink own idx C ∈ lw_tbl) (hinst : Cond.instantiable C N ∈ lw_tbl) (hini : Cond.initialized C ∈ lw_tbl)
    (hc : vwCl[ci]? = some (C, T, N)) (hws : ∀ w ∈ u_ws C T N, w ∈ lw_tbl ∧ az_kp w = true) (hty : ∀ k, k < N → parseFieldDescriptor (T k).2.2.1 = some (ty k)) (hfs : ∀ j, j < N → defaultValue (ty j) = vp_V fs j) (hf0 : az_lin 0 fs = true)
    (hn : n0 ≤ hp.length) (hfit : (az_fit hp.length hp && (lo.all (az_oin hp.length) && az_lin hp.length rest)) = true) (hcells : cells + 1 ≤ R0.cells) (hslots : slots + N ≤ R0.slots)
    (kk : AW K (cells + 1) (slots + N) (pc + 3) lo (.ref hp.length :: rest) (hp ++ [.inr (ci, fs)])) : AW K cells slots pc lo rest hp := by
  obtain ⟨p, l, e, R, s, m, args, below, meth, c, D, cA, A, Ag, Q, nL⟩ := K
  obtain ⟨hexec, hb, hml, hlk, hown, hev, hKn, hA, rfl, rfl⟩ := hK
  rw [Bool.and_eq_true, Bool.and_eq_true] at hfit
  intro ad H locs ls hag hP hD hS hl
  refine va_new (Ts := u_ws C T N) hexec hb (fun w h => hev.1.use (hws w h).1 (hws w h).2 args) (fun w h => h) ty hty hown (hev.1.use hcl rfl args) (hev.1.use hinst rfl args) (hev.1.use hini rfl args) hKn hP hD hS hA hc hfs hcells hslots (hT.at hi) (fun q H1 hP1 hD1 hS1 => ?_)
  have hag' : ∀ i, i < hp.length → va_up ad hp.length q i = ad i := fun i h => va_up_ne _ _ (by omega)
  have e1 : az_w cA (va_up ad hp.length q) (hp ++ [.inr (ci, fs)]) = az_w cA ad hp ++ [(q, .inr (ci, fs))] := by
    rw [az_w_app, az_w_ext (Nat.le_refl _) hag' hfit.1, va_up_self]
    show _ ++ [(q, (Sum.inr (ci, fs.map (az_v (va_up ad hp.length q))) : va_E))] = _
    have e0 : fs.map (az_v (va_up ad hp.length q)) = fs := by
      conv => rhs; rw [← List.map_id fs]
      refine List.map_congr_left fun v hv => ?_
      have := List.all_eq_true.mp hf0 v hv
      cases v with
      | ref k => cases this
      | _ => rfl
    rw [e0]
  have k9 := kk (va_up ad hp.length q) H1 locs ls (hG ad _ (fun i h => hag' i (by omega)) hag) (by rw [e1]; exact hP1) (by rw [e1]; exact hD1) hS1 (az_ls_ext hag' hfit.2.1 hl)
  rw [List.map_cons, az_vs_ext hag' rest hfit.2.2] at k9
  show W _ _ _ _ _ _ _ _ _ _ _ _ _ _ _ (F0 m _ ls (.ref q :: _))
  have e2 : az_v (va_up ad hp.length q) (.ref hp.length) = .ref q := congrArg Value.ref (va_up_self _ _ _)
  rw [e2] at k9
  exact k9
theorem AW_newa (hT : az_Tb cc tb) (hK : az_OK K own cc R0 l0) (hG : az_Gr2 K n0) (i : Nat) {atype : ArrayType} (t : Nat) (ty : FieldType) {n : Int32} (N : Nat) (a0 : vp_A) (hi : tb[i]? = some (pc, .newarray atype)) (harr : Cond.arrayClass ty ∈ lw_tbl) (hty : newarray.typeOf atype = ty)
    (ht : t = 0 ∧ ty = .int) (ha : ∀ c : ClassId, vp_cell c a0 = arrV c N (fun _ => defaultValue ty)) (hn9 : ¬ n < 0) (hN : n.toNatClampNeg = N) (hbytes : N * componentBytes ty ≤ 536870912)
    (hn : n0 ≤ hp.length) (hfit : (az_fit hp.length hp && (lo.all (az_oin hp.length) && az_lin hp.length rest)) = true) (hcells : cells + 1 ≤ R0.cells) (hslots : slots + N ≤ R0.slots)
    (kk : AW K (cells + 1) (slots + N) (pc + 2) lo (.ref hp.length :: rest) (hp ++ [.inl (t, a0)])) : AW K cells slots pc lo (.int n :: rest) hp := by
  obtain ⟨p, l, e, R, s, m, args, below, meth, c, D, cA, A, Ag, Q, nL⟩ := K
  obtain ⟨hexec, hb, hml, hlk, hown, hev, hKn, hA, rfl, rfl⟩ := hK
  rw [Bool.and_eq_true, Bool.and_eq_true] at hfit
  intro ad H locs ls hag hP hD hS hl
  refine va_newa hexec hb (ty := ty) (by rw [hty]; exact hev.1.use harr rfl args) hty hKn hP hD hS hA ha hn9 hN hbytes hcells hslots (hT.at hi) (fun q c9 H1 hK1 hP1 hD1 hS1 => ?_)
  have hc9 : c9 = cA t := by
    have h3 := (hK1.2 1 (c9, ty) rfl).2
    obtain ⟨rfl, rfl⟩ := ht
    exact Option.some.inj (h3.symm.trans (hKn.2 0 _ rfl).2)
  rw [hc9] at hP1 hD1
  have hag' : ∀ i, i < hp.length → va_up ad hp.length q i = ad i := fun i h => va_up_ne _ _ (by omega)
  have e1 : az_w cA (va_up ad hp.length q) (hp ++ [.inl (t, a0)]) = az_w cA ad hp ++ [(q, .inl (cA t, a0))] := by
    rw [az_w_app, az_w_ext (Nat.le_refl _) hag' hfit.1, va_up_self]
    rfl
  have k9 := kk (va_up ad hp.length q) H1 locs ls (hG ad _ (fun i h => hag' i (by omega)) hag) (by rw [e1]; exact hP1) (by rw [e1]; exact hD1) hS1 (az_ls_ext hag' hfit.2.1 hl)
  rw [List.map_cons, az_vs_ext hag' rest hfit.2.2] at k9
  have e2 : az_v (va_up ad hp.length q) (.ref hp.length) = .ref q := congrArg Value.ref (va_up_self _ _ _)
  rw [e2] at k9
  exact k9
end AZG
