/-! what the law's walk needs beside: its script, its tables -/
section AZM
variable {K : az_K} {own : String} {cc : ByteArray} {R0 : Room} {l0 : Launch} {tb : List (Nat × Instr)} {cells slots pc : Nat} {lo : List (Option Value)} {st rest : List Value} {hp : az_H}
theorem az_Tb.app {a b : List (Nat × Instr)} (ha : az_Tb cc a) (hb : az_Tb cc b) : az_Tb cc (a ++ b) := fun x hx => (List.mem_append.mp hx).elim (ha x) (hb x)
/-- the script: its cell is called 46 -/
def az_Scr (K : az_K) (b L : Nat) (xs : Nat → Int32) : Prop :=
  match K with
  | (_, _, _, _, s, _, _, _, _, _, _, _, A, Ag, _, _) => va_X b L xs s s.heap ∧ b < s.heap.size ∧ (¬ A b) ∧ ∀ ad, Ag ad → ad 46 = b
theorem AW_sld (hT : az_Tb cc tb) (hK : az_OK K own cc R0 l0) {b L : Nat} {xs : Nat → Int32} (hX : az_Scr K b L xs) (i : Nat) {x v : Int32} (hi : tb[i]? = some (pc, .iaload)) (hin : vp_in x L) (hv : xs x.toNatClampNeg = v) (kk : AW K cells slots (pc + 1) lo (.int v :: rest) hp) : AW K cells slots pc lo (.int x :: .ref 46 :: rest) hp := by
  obtain ⟨p, l, e, R, s, m, args, below, meth, c, D, cA, A, Ag, Q, nL⟩ := K
  obtain ⟨hexec, hb, -⟩ := hK
  obtain ⟨h1, h2, h3, h4⟩ := hX
  intro ad H locs ls hag hP hD hS hl
  subst hv
  have k9 := va_sld (rest := rest.map (az_v ad)) hexec hb h1 h2 h3 hS hin (hT.at hi) (kk ad H locs ls hag hP hD hS hl)
  show W _ _ _ _ _ _ _ _ _ _ _ _ _ _ _ (F0 m _ ls (.int x :: .ref (ad 46) :: _))
  rw [h4 ad hag]
  exact k9
theorem AW_slen (hT : az_Tb cc tb) (hK : az_OK K own cc R0 l0) {b L : Nat} {xs : Nat → Int32} (hX : az_Scr K b L xs) (i : Nat) (hi : tb[i]? = some (pc, .arraylength)) (kk : AW K cells slots (pc + 1) lo (.int (nI L) :: rest) hp) : AW K cells slots pc lo (.ref 46 :: rest) hp := by
  obtain ⟨p, l, e, R, s, m, args, below, meth, c, D, cA, A, Ag, Q, nL⟩ := K
  obtain ⟨hexec, hb, -⟩ := hK
  obtain ⟨h1, h2, h3, h4⟩ := hX
  intro ad H locs ls hag hP hD hS hl
  have k9 := va_slen (rest := rest.map (az_v ad)) hexec hb h1 h2 h3 hS (hT.at hi) (kk ad H locs ls hag hP hD hS hl)
  show W _ _ _ _ _ _ _ _ _ _ _ _ _ _ _ (F0 m _ ls (.ref (ad 46) :: _))
  rw [h4 ad hag]
  exact k9
theorem AW_tabIn (hT : az_Tb cc tb) (hK : az_OK K own cc R0 l0) (i : Nat) {dflt lw hw : Int} {offs : Array Int} {x : Int32} {off : Int} {tgt : Nat} (hi : tb[i]? = some (pc, .tableswitch dflt lw hw offs)) (h1 : ¬ x.toInt < lw) (h2 : ¬ hw < x.toInt) (ho : offs[(x.toInt - lw).toNat]? = some off) (ht : (pc : Int) + off = (tgt : Int)) (k : AW K cells slots tgt lo rest hp) : AW K cells slots pc lo (.int x :: rest) hp := by
  obtain ⟨p, l, e, R, s, m, args, below, meth, c, D, cA, A, Ag, Q, nL⟩ := K
  obtain ⟨hexec, hb, -⟩ := hK
  intro ad H locs ls hag hP hD hS hl
  exact lv_tableIn hexec hb (hT.at hi) h1 h2 ho ht (k ad H locs ls hag hP hD hS hl)
theorem AW_tabOut (hT : az_Tb cc tb) (hK : az_OK K own cc R0 l0) (i : Nat) {dflt lw hw : Int} {offs : Array Int} {x : Int32} {tgt : Nat} (hi : tb[i]? = some (pc, .tableswitch dflt lw hw offs)) (h : x.toInt < lw ∨ hw < x.toInt) (ht : (pc : Int) + dflt = (tgt : Int)) (k : AW K cells slots tgt lo rest hp) : AW K cells slots pc lo (.int x :: rest) hp := by
  obtain ⟨p, l, e, R, s, m, args, below, meth, c, D, cA, A, Ag, Q, nL⟩ := K
  obtain ⟨hexec, hb, -⟩ := hK
  intro ad H locs ls hag hP hD hS hl
  exact lv_tableOut hexec hb (hT.at hi) h ht (k ad H locs ls hag hP hD hS hl)
theorem lg_cmp_self (x : Int64) : lg_cmp x x = 0 := by
  unfold lg_cmp
  simp
theorem sv_L_come : Cond.static yL_come ∈ lw_tbl := List.mem_of_getElem? (i := 286) (by decide +kernel)
theorem sv_L_withdraw : Cond.static yL_withdraw ∈ lw_tbl := List.mem_of_getElem? (i := 530) (by decide +kernel)
theorem sv_L_references : Cond.static yL_references ∈ lw_tbl := List.mem_of_getElem? (i := 568) (by decide +kernel)
theorem sv_L_citing : Cond.static yL_citing ∈ lw_tbl := List.mem_of_getElem? (i := 576) (by decide +kernel)
theorem sv_L_shared : Cond.static yL_shared ∈ lw_tbl := List.mem_of_getElem? (i := 583) (by decide +kernel)
theorem sv_L_joint : Cond.static yL_joint ∈ lw_tbl := List.mem_of_getElem? (i := 594) (by decide +kernel)
theorem sv_L_likenessNumerator : Cond.static yL_likenessNumerator ∈ lw_tbl := List.mem_of_getElem? (i := 605) (by decide +kernel)
theorem sv_L_likenessDenominator : Cond.static yL_likenessDenominator ∈ lw_tbl := List.mem_of_getElem? (i := 619) (by decide +kernel)
theorem sv_L_fieldOf : Cond.static yL_fieldOf ∈ lw_tbl := List.mem_of_getElem? (i := 626) (by decide +kernel)
theorem sv_L_gain : Cond.static yL_gain ∈ lw_tbl := List.mem_of_getElem? (i := 637) (by decide +kernel)
theorem sv_L_split : Cond.static yL_split ∈ lw_tbl := List.mem_of_getElem? (i := 652) (by decide +kernel)
theorem sv_L_count : Cond.static yL_count ∈ lw_tbl := List.mem_of_getElem? (i := 663) (by decide +kernel)
theorem sv_L_mainAt : Cond.static yL_mainAt ∈ lw_tbl := List.mem_of_getElem? (i := 673) (by decide +kernel)
theorem sv_L_rise : Cond.static yL_rise ∈ lw_tbl := List.mem_of_getElem? (i := 701) (by decide +kernel)
theorem sv_L_riser : Cond.static yL_riser ∈ lw_tbl := List.mem_of_getElem? (i := 719) (by decide +kernel)
theorem sv_L_heir : Cond.static yL_heir ∈ lw_tbl := List.mem_of_getElem? (i := 726) (by decide +kernel)
end AZM
