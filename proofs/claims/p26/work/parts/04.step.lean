/-! one straight instruction, and straight code, are what az_x and az_run say -/
section AZ3
theorem az_tyok_fit (ad : Nat → Nat) {ty : FieldType} {v : Value} (h : az_tyok ty v = true) : narrow ty (az_v ad v) = az_v ad v ∧ fits ty (az_v ad v) = true := by
  unfold az_tyok at h
  split at h
  · exact ⟨rfl, rfl⟩
  · exact ⟨rfl, rfl⟩
  · exact ⟨rfl, rfl⟩
  · cases h
theorem AW_x {K : az_K} {own : String} {cc : ByteArray} {R0 : Room} {l0 : Launch} {ci N : Nat} {T : u_T} {ty : Nat → FieldType} {ctor : Bool} {flt : List (Nat × Nat × Nat)} (hK : az_OK K own cc R0 l0) (hC : az_Cl own ci N T ty flt)
    (hct : ctor = true → K.2.2.2.2.2.2.2.2.1.name = "<init>") {cells slots pc : Nat} {i : Instr} {lo : List (Option Value)} {st : List Value} {hp : az_H} {q : List (Option Value) × List Value × az_H} (hd : decode cc pc = .ok (i, az_len i)) (hx : az_x ci N T ty ctor flt i lo st hp = some q)
    (k : AW K cells slots (pc + az_len i) q.1 q.2.1 q.2.2) : AW K cells slots pc lo st hp := by
  obtain ⟨p, l, e, R, s, m, args, below, meth, c, D, cA, A, Ag, Q, nL⟩ := K
  obtain ⟨hexec, hb, hml, hlk, hown, hev, hKn, hA, -, -⟩ := hK
  intro ad H locs ls hag hP hD hS hl
  have lg : ∀ {i : Nat} {v : Value}, az_lg lo i = some v → ls[i]? = some (.val (az_v ad v)) := by
    intro i v h
    unfold az_lg at h
    split at h
    · rename_i w hw
      cases h
      exact az_ls_at hl hw
    · cases h
  unfold az_x at hx
  split at hx
  · cases hx; exact lv_iconst hexec hb hd rfl (k ad H locs ls hag hP hD hS hl)
  · cases hx; exact lv_bipush hexec hb hd rfl (k ad H locs ls hag hP hD hS hl)
  · cases hx; exact lv_sipush hexec hb hd rfl (k ad H locs ls hag hP hD hS hl)
  · cases hx; exact lv_lconst hexec hb hd rfl (k ad H locs ls hag hP hD hS hl)
  · split at hx
    · rename_i hg; cases hx; exact lv_iload_n hexec hb hd rfl (lg hg) (k ad H locs ls hag hP hD hS hl)
    · cases hx
  · split at hx
    · rename_i hg; cases hx; exact lv_iload hexec hb hd (lg hg) (k ad H locs ls hag hP hD hS hl)
    · cases hx
  · split at hx
    · rename_i hg; cases hx; exact lv_lload_n hexec hb hd rfl (lg hg) (k ad H locs ls hag hP hD hS hl)
    · cases hx
  · split at hx
    · rename_i hg; cases hx; exact lv_lload hexec hb hd (lg hg) (k ad H locs ls hag hP hD hS hl)
    · cases hx
  · split at hx
    · rename_i hg; cases hx; exact lv_aload_n hexec hb hd rfl (lg hg) (k ad H locs ls hag hP hD hS hl)
    · cases hx
  · split at hx
    · rename_i hg; cases hx; exact lv_aload hexec hb hd (lg hg) (k ad H locs ls hag hP hD hS hl)
    · cases hx
  · split at hx
    · unfold az_pl at hx
      split at hx
      · rename_i hs
        cases hx
        exact lv_istore_n (x := _) hexec hb hd rfl hl.1 (by rw [← hl.2]; exact (az_s1_of hs).2.1) rfl (fun ls' hl' => k ad H locs ls' hag hP hD hS (az_ls_s1 hl.2 hs hl'))
      · cases hx
    · cases hx
  · split at hx
    · unfold az_pl at hx
      split at hx
      · rename_i hs
        cases hx
        exact lv_istore hexec hb hd hl.1 (by rw [← hl.2]; exact (az_s1_of hs).2.1) rfl (fun ls' hl' => k ad H locs ls' hag hP hD hS (az_ls_s1 hl.2 hs hl'))
      · cases hx
    · cases hx
  · split at hx
    · unfold az_pl at hx
      split at hx
      · rename_i hs
        cases hx
        exact lv_lstore_n hexec hb hd rfl hl.1 (by rw [← hl.2]; exact (az_s2_of hs).2.1) rfl (fun ls' hl' => k ad H locs ls' hag hP hD hS (az_ls_s2 hl.2 hs hl'))
      · cases hx
    · cases hx
  · split at hx
    · unfold az_pl at hx
      split at hx
      · rename_i hs
        cases hx
        exact lv_lstore hexec hb hd hl.1 (by rw [← hl.2]; exact (az_s2_of hs).2.1) rfl (fun ls' hl' => k ad H locs ls' hag hP hD hS (az_ls_s2 hl.2 hs hl'))
      · cases hx
    · cases hx
  · split at hx
    · unfold az_pl at hx
      split at hx
      · rename_i hs
        cases hx
        exact lv_astore_n hexec hb hd rfl hl.1 (by rw [← hl.2]; exact (az_s1_of hs).2.1) rfl (fun ls' hl' => k ad H locs ls' hag hP hD hS (az_ls_s1 hl.2 hs hl'))
      · cases hx
    · cases hx
  · split at hx
    · unfold az_pl at hx
      split at hx
      · rename_i hs
        cases hx
        exact lv_astore hexec hb hd hl.1 (by rw [← hl.2]; exact (az_s1_of hs).2.1) rfl (fun ls' hl' => k ad H locs ls' hag hP hD hS (az_ls_s1 hl.2 hs hl'))
      · cases hx
    · cases hx
  · rename_i kk n
    split at hx
    · rename_i x hg
      unfold az_pl at hx
      split at hx
      · rename_i hs
        cases hx
        have hm : (kk, Value.int x) ∈ az_lv ad 0 lo := by
          unfold az_lg at hg
          split at hg
          · rename_i w hw
            cases hg
            exact (az_lv_mem ad lo 0 _).mpr ⟨kk, _, hw, by rw [Nat.zero_add]; rfl⟩
          · cases hg
        obtain ⟨j, hj⟩ := List.getElem?_of_mem hm
        exact lv_iinc hexec hb hd hl.1 hj rfl (by rw [← hl.2]; exact (az_s1_of hs).2.1) rfl (fun ls' hl' => k ad H locs ls' hag hP hD hS (az_ls_s1 hl.2 hs hl'))
      · cases hx
    · cases hx
  · split at hx
    · cases hx; exact lv_iadd hexec hb hd (k ad H locs ls hag hP hD hS hl)
    · cases hx
  · split at hx
    · cases hx; exact lv_isub hexec hb hd (k ad H locs ls hag hP hD hS hl)
    · cases hx
  · split at hx
    · cases hx; exact lv_imul hexec hb hd (k ad H locs ls hag hP hD hS hl)
    · cases hx
  · split at hx
    · cases hx; exact lv_iand hexec hb hd (k ad H locs ls hag hP hD hS hl)
    · cases hx
  · split at hx
    · cases hx; exact lv_ior hexec hb hd (k ad H locs ls hag hP hD hS hl)
    · cases hx
  · split at hx
    · cases hx; exact lv_ixor hexec hb hd (k ad H locs ls hag hP hD hS hl)
    · cases hx
  · split at hx
    · cases hx; exact lv_ishl hexec hb hd (k ad H locs ls hag hP hD hS hl)
    · cases hx
  · split at hx
    · cases hx; exact lv_ishr hexec hb hd (k ad H locs ls hag hP hD hS hl)
    · cases hx
  · split at hx
    · cases hx; exact lv_iushr hexec hb hd rfl (k ad H locs ls hag hP hD hS hl)
    · cases hx
  · split at hx
    · cases hx; exact lv_i2l hexec hb hd rfl (k ad H locs ls hag hP hD hS hl)
    · cases hx
  · split at hx
    · cases hx; exact lv_ladd hexec hb hd (k ad H locs ls hag hP hD hS hl)
    · cases hx
  · split at hx
    · cases hx; exact lv_lmul hexec hb hd (k ad H locs ls hag hP hD hS hl)
    · cases hx
  · split at hx
    · cases hx; exact W.lcmp hexec hb hd (k ad H locs ls hag hP hD hS hl)
    · cases hx
  · split at hx
    · split at hx
      · rename_i hcat
        cases hx
        exact lv_dup hexec hb hd (by rw [az_v_cat]; exact Nat.eq_of_beq_eq_true hcat) (k ad H locs ls hag hP hD hS hl)
      · cases hx
    · cases hx
  · split at hx
    · split at hx
      · rename_i hcat
        rw [Bool.and_eq_true] at hcat
        cases hx
        exact lv_dup2_11 hexec hb hd (by rw [az_v_cat]; exact Nat.eq_of_beq_eq_true hcat.1) (by rw [az_v_cat]; exact Nat.eq_of_beq_eq_true hcat.2) (k ad H locs ls hag hP hD hS hl)
      · cases hx
    · cases hx
  · split at hx
    · split at hx
      · rename_i hn
        cases hx
        unfold az_al at hn
        split at hn
        · rename_i t n0 f0 hk0
          split at hn
          · rename_i hb2
            cases hn
            have ht2 : t ≤ 0 := Nat.le_of_ble_eq_true hb2
            have he := az_w_at (cA := cA) (ad := ad) hk0
            obtain ⟨ty9, hty9⟩ : ∃ ty9, (az_tys cA)[t]? = some (cA t, ty9) := by
              have h09 : t = 0 := by omega
              subst h09
              exact ⟨_, rfl⟩
            exact va_alen hexec hb hKn hP _ t he hty9 rfl hd (k ad H locs ls hag hP hD hS hl)
          · cases hn
        · cases hn
      · cases hx
    · cases hx
  · split at hx
    · unfold az_ps at hx
      split at hx
      · rename_i hg
        cases hx
        unfold az_gf at hg
        split at hg
        · rename_i f0 q0 hf hk0
          split at hg
          · rename_i hci
            have hci : q0.1 = ci := Nat.eq_of_beq_eq_true hci
            obtain ⟨cj, fs⟩ := q0
            dsimp only at hci hg
            subst hci
            obtain ⟨c1, c2, c3, c4, c5, c6⟩ := hC (by intro h9; rw [h9] at hf; cases hf)
            obtain ⟨hfN, hfl⟩ := c6 _ (az_look hf)
            exact va_get (D := D) (C := own) (T := T) (N := N) (Ts := u_ws own T N) hexec hb (fun w hw => hev.1.use (c2 w hw).1 (c2 w hw).2 args) (fun _ h => h) hown hKn hP _ (az_w_at hk0) c1 f0.1 hfN (hev.1.use hfl rfl args) (fun x hx9 => by rw [c5 _ hfN] at hx9; exact hx9) (by show (fs.map (az_v ad))[f0.1]? = _; rw [List.getElem?_map, hg]; rfl) hd (k ad H locs ls hag hP hD hS hl)
          · cases hg
        · cases hg
      · cases hx
    · cases hx
  · split at hx
    · unfold az_ph at hx
      split at hx
      · rename_i hp' hg
        cases hx
        unfold az_pf at hg
        split at hg
        · rename_i f0 q0 hf hk0
          split at hg
          · rename_i hci
            obtain ⟨cj, fs⟩ := q0
            cases hg
            simp only [Bool.and_eq_true, Bool.or_eq_true, Bool.not_eq_true'] at hci
            obtain ⟨hci, hlen, hfin, htyo⟩ := hci
            have hci : cj = ci := Nat.eq_of_beq_eq_true hci
            have hlen : fs.length = N := Nat.eq_of_beq_eq_true hlen
            subst hci
            obtain ⟨c1, c2, c3, c4, c5, c6⟩ := hC (by intro h9; rw [h9] at hf; cases hf)
            obtain ⟨hfN, hfl⟩ := c6 _ (az_look hf)
            have e9 : (fs.map (az_v ad)).length = N := by rw [List.length_map]; exact hlen
            have h9 := az_tyok_fit ad htyo
            have hkk : ∀ (H1 : Heap) (locs1 : List Loc), va_P D vwCl ((az_w cA ad hp).set _ (ad _, .inr (cj, (fs.map (az_v ad)).set f0.1 (az_v ad _)))) H1 → va_D A ((az_w cA ad hp).set _ (ad _, .inr (cj, (fs.map (az_v ad)).set f0.1 (az_v ad _)))) → va_S A s.heap H1 locs1 → _ :=
              fun H1 locs1 hP1 hD1 hS1 => k ad H1 locs1 ls hag (by rw [az_w_set]; show va_P D vwCl ((az_w cA ad hp).set _ (_, .inr (cj, (fs.set f0.1 _).map (az_v ad)))) H1; rw [List.map_set]; exact hP1) (by rw [az_w_set]; show va_D A ((az_w cA ad hp).set _ (_, .inr (cj, (fs.set f0.1 _).map (az_v ad)))); rw [List.map_set]; exact hD1) hS1 hl
            cases hf9 : (T f0.1).2.2.2 with
            | false => exact va_put (D := D) (C := own) (T := T) (N := N) (Ts := u_ws own T N) hexec hb (fun w hw => hev.1.use (c2 w hw).1 (c2 w hw).2 args) (fun _ h => h) ty c3 c4 hown hKn hP hD hS _ (az_w_at hk0) c1 f0.1 hfN (hev.1.use hfl rfl args) (fun x hx9 => by rw [c5 _ hfN] at hx9; exact hx9) hf9 (c3 _ hfN) h9.1 h9.2 (by rw [e9]; exact hfN) hd hkk
            | true =>
              have hct9 := hct (hfin.elim (fun h => by rw [hf9] at h; cases h) id)
              exact va_putF (D := D) (C := own) (T := T) (N := N) (Ts := u_ws own T N) hexec hb (fun w hw => hev.1.use (c2 w hw).1 (c2 w hw).2 args) (fun _ h => h) ty c3 c4 hown hKn hP hD hS _ (az_w_at hk0) c1 f0.1 hfN (hev.1.use hfl rfl args) (fun x hx9 => by rw [c5 _ hfN] at hx9; exact hx9) hf9 hct9 (c5 _ hfN) (c3 _ hfN) h9.1 h9.2 (by rw [e9]; exact hfN) hd hkk
          · cases hg
        · cases hg
      · cases hx
    · cases hx
  · cases hx
/-- straight code -/
theorem AW_run {K : az_K} {own : String} {cc : ByteArray} {R0 : Room} {l0 : Launch} {ci N : Nat} {T : u_T} {ty : Nat → FieldType} {ctor : Bool} {flt : List (Nat × Nat × Nat)} (hK : az_OK K own cc R0 l0) (hC : az_Cl own ci N T ty flt)
    (hct : ctor = true → K.2.2.2.2.2.2.2.2.1.name = "<init>") {cells slots : Nat} : ∀ (bl : List (Nat × Instr)) (_ : ∀ x ∈ bl, decode cc x.1 = .ok (x.2, az_len x.2)) {pc : Nat} {lo : List (Option Value)} {st : List Value} {hp : az_H} {pc' : Nat} {lo' : List (Option Value)} {st' : List Value} {hp' : az_H}
      (_ : az_run ci N T ty ctor flt bl pc lo st hp = some (pc', lo', st', hp')) (_ : AW K cells slots pc' lo' st' hp'), AW K cells slots pc lo st hp
  | [], _, pc, lo, st, hp, pc', lo', st', hp', hx, k => by
    cases hx
    exact k
  | x :: t, hd, pc, lo, st, hp, pc', lo', st', hp', hx, k => by
    unfold az_run at hx
    split at hx
    · rename_i hpc
      have hpc : x.1 = pc := Nat.eq_of_beq_eq_true hpc
      subst hpc
      split at hx
      · rename_i q hq
        exact AW_x hK hC hct (hd x List.mem_cons_self) hq (AW_run hK hC hct t (fun y hy => hd y (List.mem_cons_of_mem _ hy)) hx k)
      · cases hx
    · cases hx
/-- a method's table of instructions is right -/
def az_Tb (cc : ByteArray) (tb : List (Nat × Instr)) : Prop := ∀ x ∈ tb, decode cc x.1 = .ok (x.2, az_len x.2)
theorem az_Tb.of {cc : ByteArray} {tb : List (Nat × Instr)} (h : (tb.all fun x => decide (decode cc x.1 = .ok (x.2, az_len x.2))) = true) : az_Tb cc tb := fun x hx => of_decide_eq_true (List.all_eq_true.mp h x hx)
theorem az_Tb.at {cc : ByteArray} {tb : List (Nat × Instr)} (h : az_Tb cc tb) {i pc : Nat} {ins : Instr} (hi : tb[i]? = some (pc, ins)) : decode cc pc = .ok (ins, az_len ins) := h (pc, ins) (List.mem_of_getElem? hi)
/-- n straight instructions from the i-th on -/
theorem AW_go {K : az_K} {own : String} {cc : ByteArray} {R0 : Room} {l0 : Launch} {ci N : Nat} {T : u_T} {ty : Nat → FieldType} {ctor : Bool} {flt : List (Nat × Nat × Nat)} {tb : List (Nat × Instr)} (hT : az_Tb cc tb) (hC : az_Cl own ci N T ty flt) (hK : az_OK K own cc R0 l0)
    (hct : ctor = true → K.2.2.2.2.2.2.2.2.1.name = "<init>") {cells slots : Nat} (i n : Nat) {pc : Nat} {lo : List (Option Value)} {st : List Value} {hp : az_H} {pc' : Nat} {lo' : List (Option Value)} {st' : List Value} {hp' : az_H}
    (hx : az_run ci N T ty ctor flt ((tb.drop i).take n) pc lo st hp = some (pc', lo', st', hp')) (k : AW K cells slots pc' lo' st' hp') : AW K cells slots pc lo st hp :=
  AW_run hK hC hct _ (fun x h => hT x (List.mem_of_mem_drop (List.mem_of_mem_take h))) hx k
end AZ3
