/-! walks that keep how far the heap has grown at least -/
section AZLW
def AL (K : az_K) (lb cells slots pc : Nat) (lo : List (Option Value)) (st : List Value) (hp : az_H) : Prop :=
  match K with
  | (p, l, e, R, s, m, args, below, meth, c, D, cA, A, Ag, Q, nL) =>
    ∀ (ad : Nat → Nat) (H : Heap) (locs : List Loc) (ls : Array Slot), s.heap.size + lb ≤ H.size → Ag ad → va_P D vwCl (az_w cA ad hp) H → va_D A (az_w cA ad hp) → va_S A s.heap H locs → az_ls ad ls nL lo →
      W p l e R s m args below meth c H locs cells slots Q (F0 m pc ls (st.map (az_v ad)))
variable {K : az_K} {own : String} {cc : ByteArray} {R0 : Room} {l0 : Launch} {tb : List (Nat × Instr)} {lb cells slots pc : Nat} {lo : List (Option Value)} {st rest : List Value} {hp : az_H}
theorem AL_x (hK : az_OK K own cc R0 l0) {i : Instr} {q : List (Option Value) × List Value × az_H} (hd : decode cc pc = .ok (i, az_len i)) (hx : az_x 99 0 TN tyN false [] i lo st hp = some q)
    (k : AL K lb cells slots (pc + az_len i) q.1 q.2.1 q.2.2) : AL K lb cells slots pc lo st hp := by
  obtain ⟨p, l, e, R, s, m, args, below, meth, c, D, cA, A, Ag, Q, nL⟩ := K
  obtain ⟨hexec, hb, hml, hlk, hown, hev, hKn, hA, -, -⟩ := hK
  intro ad H locs ls hlb hag hP hD hS hl
  have lg : ∀ {i : Nat} {v : Value}, az_lg lo i = some v → ls[i]? = some (.val (az_v ad v)) := by
    intro i v h
    unfold az_lg at h
    split at h
    · rename_i w hw
      cases h
      exact az_ls_at hl hw
    · cases h
  unfold az_x at hx
  split at hx
  · cases hx; exact lv_iconst hexec hb hd rfl (k ad H locs ls hlb hag hP hD hS hl)
  · cases hx; exact lv_bipush hexec hb hd rfl (k ad H locs ls hlb hag hP hD hS hl)
  · cases hx; exact lv_sipush hexec hb hd rfl (k ad H locs ls hlb hag hP hD hS hl)
  · cases hx; exact lv_lconst hexec hb hd rfl (k ad H locs ls hlb hag hP hD hS hl)
  · split at hx
    · rename_i hg; cases hx; exact lv_iload_n hexec hb hd rfl (lg hg) (k ad H locs ls hlb hag hP hD hS hl)
    · cases hx
  · split at hx
    · rename_i hg; cases hx; exact lv_iload hexec hb hd (lg hg) (k ad H locs ls hlb hag hP hD hS hl)
    · cases hx
  · split at hx
    · rename_i hg; cases hx; exact lv_lload_n hexec hb hd rfl (lg hg) (k ad H locs ls hlb hag hP hD hS hl)
    · cases hx
  · split at hx
    · rename_i hg; cases hx; exact lv_lload hexec hb hd (lg hg) (k ad H locs ls hlb hag hP hD hS hl)
    · cases hx
  · split at hx
    · rename_i hg; cases hx; exact lv_aload_n hexec hb hd rfl (lg hg) (k ad H locs ls hlb hag hP hD hS hl)
    · cases hx
  · split at hx
    · rename_i hg; cases hx; exact lv_aload hexec hb hd (lg hg) (k ad H locs ls hlb hag hP hD hS hl)
    · cases hx
  · split at hx
    · unfold az_pl at hx
      split at hx
      · rename_i hs
        cases hx
        exact lv_istore_n (x := _) hexec hb hd rfl hl.1 (by rw [← hl.2]; exact (az_s1_of hs).2.1) rfl (fun ls' hl' => k ad H locs ls' hlb hag hP hD hS (az_ls_s1 hl.2 hs hl'))
      · cases hx
    · cases hx
  · split at hx
    · unfold az_pl at hx
      split at hx
      · rename_i hs
        cases hx
        exact lv_istore hexec hb hd hl.1 (by rw [← hl.2]; exact (az_s1_of hs).2.1) rfl (fun ls' hl' => k ad H locs ls' hlb hag hP hD hS (az_ls_s1 hl.2 hs hl'))
      · cases hx
    · cases hx
  · split at hx
    · unfold az_pl at hx
      split at hx
      · rename_i hs
        cases hx
        exact lv_lstore_n hexec hb hd rfl hl.1 (by rw [← hl.2]; exact (az_s2_of hs).2.1) rfl (fun ls' hl' => k ad H locs ls' hlb hag hP hD hS (az_ls_s2 hl.2 hs hl'))
      · cases hx
    · cases hx
  · split at hx
    · unfold az_pl at hx
      split at hx
      · rename_i hs
        cases hx
        exact lv_lstore hexec hb hd hl.1 (by rw [← hl.2]; exact (az_s2_of hs).2.1) rfl (fun ls' hl' => k ad H locs ls' hlb hag hP hD hS (az_ls_s2 hl.2 hs hl'))
      · cases hx
    · cases hx
  · split at hx
    · unfold az_pl at hx
      split at hx
      · rename_i hs
        cases hx
        exact lv_astore_n hexec hb hd rfl hl.1 (by rw [← hl.2]; exact (az_s1_of hs).2.1) rfl (fun ls' hl' => k ad H locs ls' hlb hag hP hD hS (az_ls_s1 hl.2 hs hl'))
      · cases hx
    · cases hx
  · split at hx
    · unfold az_pl at hx
      split at hx
      · rename_i hs
        cases hx
        exact lv_astore hexec hb hd hl.1 (by rw [← hl.2]; exact (az_s1_of hs).2.1) rfl (fun ls' hl' => k ad H locs ls' hlb hag hP hD hS (az_ls_s1 hl.2 hs hl'))
      · cases hx
    · cases hx
  · rename_i kk n
    split at hx
    · rename_i x hg
      unfold az_pl at hx
      split at hx
      · rename_i hs
        cases hx
        have hm : (kk, Value.int x) ∈ az_lv ad 0 lo := by
          unfold az_lg at hg
          split at hg
          · rename_i w hw
            cases hg
            exact (az_lv_mem ad lo 0 _).mpr ⟨kk, _, hw, by rw [Nat.zero_add]; rfl⟩
          · cases hg
        obtain ⟨j, hj⟩ := List.getElem?_of_mem hm
        exact lv_iinc hexec hb hd hl.1 hj rfl (by rw [← hl.2]; exact (az_s1_of hs).2.1) rfl (fun ls' hl' => k ad H locs ls' hlb hag hP hD hS (az_ls_s1 hl.2 hs hl'))
      · cases hx
    · cases hx
  · split at hx
    · cases hx; exact lv_iadd hexec hb hd (k ad H locs ls hlb hag hP hD hS hl)
    · cases hx
  · split at hx
    · cases hx; exact lv_isub hexec hb hd (k ad H locs ls hlb hag hP hD hS hl)
    · cases hx
  · split at hx
    · cases hx; exact lv_imul hexec hb hd (k ad H locs ls hlb hag hP hD hS hl)
    · cases hx
  · split at hx
    · cases hx; exact lv_iand hexec hb hd (k ad H locs ls hlb hag hP hD hS hl)
    · cases hx
  · split at hx
    · cases hx; exact lv_ior hexec hb hd (k ad H locs ls hlb hag hP hD hS hl)
    · cases hx
  · split at hx
    · cases hx; exact lv_ixor hexec hb hd (k ad H locs ls hlb hag hP hD hS hl)
    · cases hx
  · split at hx
    · cases hx; exact lv_ishl hexec hb hd (k ad H locs ls hlb hag hP hD hS hl)
    · cases hx
  · split at hx
    · cases hx; exact lv_ishr hexec hb hd (k ad H locs ls hlb hag hP hD hS hl)
    · cases hx
  · split at hx
    · cases hx; exact lv_iushr hexec hb hd rfl (k ad H locs ls hlb hag hP hD hS hl)
    · cases hx
  · split at hx
    · cases hx; exact lv_i2l hexec hb hd rfl (k ad H locs ls hlb hag hP hD hS hl)
    · cases hx
  · split at hx
    · cases hx; exact lv_ladd hexec hb hd (k ad H locs ls hlb hag hP hD hS hl)
    · cases hx
  · split at hx
    · cases hx; exact lv_lmul hexec hb hd (k ad H locs ls hlb hag hP hD hS hl)
    · cases hx
  · split at hx
    · cases hx; exact W.lcmp hexec hb hd (k ad H locs ls hlb hag hP hD hS hl)
    · cases hx
  · split at hx
    · split at hx
      · rename_i hcat
        cases hx
        exact lv_dup hexec hb hd (by rw [az_v_cat]; exact Nat.eq_of_beq_eq_true hcat) (k ad H locs ls hlb hag hP hD hS hl)
      · cases hx
    · cases hx
  · split at hx
    · split at hx
      · rename_i hcat
        rw [Bool.and_eq_true] at hcat
        cases hx
        exact lv_dup2_11 hexec hb hd (by rw [az_v_cat]; exact Nat.eq_of_beq_eq_true hcat.1) (by rw [az_v_cat]; exact Nat.eq_of_beq_eq_true hcat.2) (k ad H locs ls hlb hag hP hD hS hl)
      · cases hx
    · cases hx
  · split at hx
    · split at hx
      · rename_i hn
        cases hx
        unfold az_al at hn
        split at hn
        · rename_i t n0 f0 hk0
          split at hn
          · rename_i hb2
            cases hn
            have ht2 : t ≤ 0 := Nat.le_of_ble_eq_true hb2
            have he := az_w_at (cA := cA) (ad := ad) hk0
            obtain ⟨ty9, hty9⟩ : ∃ ty9, (az_tys cA)[t]? = some (cA t, ty9) := by
              have h09 : t = 0 := by omega
              subst h09
              exact ⟨_, rfl⟩
            exact va_alen hexec hb hKn hP _ t he hty9 rfl hd (k ad H locs ls hlb hag hP hD hS hl)
          · cases hn
        · cases hn
      · cases hx
    · cases hx
  · split at hx
    · unfold az_ps at hx
      split at hx
      · rename_i hg
        unfold az_gf at hg
        split at hg
        · rename_i f0 q0 hf hk0
          simp at hf
        · cases hg
      · cases hx
    · cases hx
  · split at hx
    · unfold az_ph at hx
      split at hx
      · rename_i hp' hg
        unfold az_pf at hg
        split at hg
        · rename_i f0 q0 hf hk0
          simp at hf
        · cases hg
      · cases hx
    · cases hx
  · cases hx
theorem AL_run (hK : az_OK K own cc R0 l0) : ∀ (bl : List (Nat × Instr)) (_ : ∀ x ∈ bl, decode cc x.1 = .ok (x.2, az_len x.2)) {pc : Nat} {lo : List (Option Value)} {st : List Value} {hp : az_H} {pc' : Nat} {lo' : List (Option Value)} {st' : List Value} {hp' : az_H}
      (_ : az_run 99 0 TN tyN false [] bl pc lo st hp = some (pc', lo', st', hp')) (_ : AL K lb cells slots pc' lo' st' hp'), AL K lb cells slots pc lo st hp
  | [], _, pc, lo, st, hp, pc', lo', st', hp', hx, k => by
    cases hx
    exact k
  | x :: t, hd, pc, lo, st, hp, pc', lo', st', hp', hx, k => by
    unfold az_run at hx
    split at hx
    · rename_i hpc
      have hpc : x.1 = pc := Nat.eq_of_beq_eq_true hpc
      subst hpc
      split at hx
      · rename_i q hq
        exact AL_x hK (hd x List.mem_cons_self) hq (AL_run hK t (fun y hy => hd y (List.mem_cons_of_mem _ hy)) hx k)
      · cases hx
    · cases hx
theorem AL_g (hT : az_Tb cc tb) (hK : az_OK K own cc R0 l0) (i n : Nat) {pc' : Nat} {lo' : List (Option Value)} {st' : List Value} {hp' : az_H}
    (hx : az_run 99 0 TN tyN false [] ((tb.drop i).take n) pc lo st hp = some (pc', lo', st', hp')) (k : AL K lb cells slots pc' lo' st' hp') : AL K lb cells slots pc lo st hp :=
  AL_run hK _ (fun x h => hT x (List.mem_of_mem_drop (List.mem_of_mem_take h))) hx k
theorem AL_goto (hT : az_Tb cc tb) (hK : az_OK K own cc R0 l0) (i : Nat) {off : Int} {tgt : Nat} (hi : tb[i]? = some (pc, .goto off)) (ht : (pc : Int) + off = (tgt : Int)) (k : AL K lb cells slots tgt lo st hp) : AL K lb cells slots pc lo st hp := by
  obtain ⟨p, l, e, R, s, m, args, below, meth, c, D, cA, A, Ag, Q, nL⟩ := K
  obtain ⟨hexec, hb, -⟩ := hK
  intro ad H locs ls hlb hag hP hD hS hl
  exact lv_goto hexec hb (hT.at hi) ht (k ad H locs ls hlb hag hP hD hS hl)
theorem AL_if_eq (hT : az_Tb cc tb) (hK : az_OK K own cc R0 l0) (i : Nat) {off : Int} {tgt : Nat} {x : Int32} (hi : tb[i]? = some (pc, .ifCond .eq off)) (ht : (pc : Int) + off = (tgt : Int)) (kt : x = 0 → AL K lb cells slots tgt lo rest hp) (kf : ¬ x = 0 → AL K lb cells slots (pc + 3) lo rest hp) : AL K lb cells slots pc lo (.int x :: rest) hp := by
  obtain ⟨p, l, e, R, s, m, args, below, meth, c, D, cA, A, Ag, Q, nL⟩ := K
  obtain ⟨hexec, hb, -⟩ := hK
  intro ad H locs ls hlb hag hP hD hS hl
  exact lv_if_eq hexec hb (hT.at hi) ht (fun z => kt z ad H locs ls hlb hag hP hD hS hl) (fun z => kf z ad H locs ls hlb hag hP hD hS hl)
theorem AL_icmp_eq (hT : az_Tb cc tb) (hK : az_OK K own cc R0 l0) (i : Nat) {off : Int} {tgt : Nat} {x y : Int32} (hi : tb[i]? = some (pc, .if_icmp .eq off)) (ht : (pc : Int) + off = (tgt : Int)) (kt : x = y → AL K lb cells slots tgt lo rest hp) (kf : ¬ x = y → AL K lb cells slots (pc + 3) lo rest hp) : AL K lb cells slots pc lo (.int y :: .int x :: rest) hp := by
  obtain ⟨p, l, e, R, s, m, args, below, meth, c, D, cA, A, Ag, Q, nL⟩ := K
  obtain ⟨hexec, hb, -⟩ := hK
  intro ad H locs ls hlb hag hP hD hS hl
  exact lv_icmp_eq hexec hb (hT.at hi) ht (fun z => kt z ad H locs ls hlb hag hP hD hS hl) (fun z => kf z ad H locs ls hlb hag hP hD hS hl)
theorem AL_if_ne (hT : az_Tb cc tb) (hK : az_OK K own cc R0 l0) (i : Nat) {off : Int} {tgt : Nat} {x : Int32} (hi : tb[i]? = some (pc, .ifCond .ne off)) (ht : (pc : Int) + off = (tgt : Int)) (kt : ¬ x = 0 → AL K lb cells slots tgt lo rest hp) (kf : x = 0 → AL K lb cells slots (pc + 3) lo rest hp) : AL K lb cells slots pc lo (.int x :: rest) hp := by
  obtain ⟨p, l, e, R, s, m, args, below, meth, c, D, cA, A, Ag, Q, nL⟩ := K
  obtain ⟨hexec, hb, -⟩ := hK
  intro ad H locs ls hlb hag hP hD hS hl
  exact lv_if_ne hexec hb (hT.at hi) ht (fun z => kt z ad H locs ls hlb hag hP hD hS hl) (fun z => kf z ad H locs ls hlb hag hP hD hS hl)
theorem AL_icmp_ne (hT : az_Tb cc tb) (hK : az_OK K own cc R0 l0) (i : Nat) {off : Int} {tgt : Nat} {x y : Int32} (hi : tb[i]? = some (pc, .if_icmp .ne off)) (ht : (pc : Int) + off = (tgt : Int)) (kt : ¬ x = y → AL K lb cells slots tgt lo rest hp) (kf : x = y → AL K lb cells slots (pc + 3) lo rest hp) : AL K lb cells slots pc lo (.int y :: .int x :: rest) hp := by
  obtain ⟨p, l, e, R, s, m, args, below, meth, c, D, cA, A, Ag, Q, nL⟩ := K
  obtain ⟨hexec, hb, -⟩ := hK
  intro ad H locs ls hlb hag hP hD hS hl
  exact lv_icmp_ne hexec hb (hT.at hi) ht (fun z => kt z ad H locs ls hlb hag hP hD hS hl) (fun z => kf z ad H locs ls hlb hag hP hD hS hl)
theorem AL_if_lt (hT : az_Tb cc tb) (hK : az_OK K own cc R0 l0) (i : Nat) {off : Int} {tgt : Nat} {x : Int32} (hi : tb[i]? = some (pc, .ifCond .lt off)) (ht : (pc : Int) + off = (tgt : Int)) (kt : x < 0 → AL K lb cells slots tgt lo rest hp) (kf : ¬ x < 0 → AL K lb cells slots (pc + 3) lo rest hp) : AL K lb cells slots pc lo (.int x :: rest) hp := by
  obtain ⟨p, l, e, R, s, m, args, below, meth, c, D, cA, A, Ag, Q, nL⟩ := K
  obtain ⟨hexec, hb, -⟩ := hK
  intro ad H locs ls hlb hag hP hD hS hl
  exact lv_if_lt hexec hb (hT.at hi) ht (fun z => kt z ad H locs ls hlb hag hP hD hS hl) (fun z => kf z ad H locs ls hlb hag hP hD hS hl)
theorem AL_icmp_lt (hT : az_Tb cc tb) (hK : az_OK K own cc R0 l0) (i : Nat) {off : Int} {tgt : Nat} {x y : Int32} (hi : tb[i]? = some (pc, .if_icmp .lt off)) (ht : (pc : Int) + off = (tgt : Int)) (kt : x < y → AL K lb cells slots tgt lo rest hp) (kf : ¬ x < y → AL K lb cells slots (pc + 3) lo rest hp) : AL K lb cells slots pc lo (.int y :: .int x :: rest) hp := by
  obtain ⟨p, l, e, R, s, m, args, below, meth, c, D, cA, A, Ag, Q, nL⟩ := K
  obtain ⟨hexec, hb, -⟩ := hK
  intro ad H locs ls hlb hag hP hD hS hl
  exact lv_icmp_lt hexec hb (hT.at hi) ht (fun z => kt z ad H locs ls hlb hag hP hD hS hl) (fun z => kf z ad H locs ls hlb hag hP hD hS hl)
theorem AL_if_ge (hT : az_Tb cc tb) (hK : az_OK K own cc R0 l0) (i : Nat) {off : Int} {tgt : Nat} {x : Int32} (hi : tb[i]? = some (pc, .ifCond .ge off)) (ht : (pc : Int) + off = (tgt : Int)) (kt : 0 ≤ x → AL K lb cells slots tgt lo rest hp) (kf : ¬ 0 ≤ x → AL K lb cells slots (pc + 3) lo rest hp) : AL K lb cells slots pc lo (.int x :: rest) hp := by
  obtain ⟨p, l, e, R, s, m, args, below, meth, c, D, cA, A, Ag, Q, nL⟩ := K
  obtain ⟨hexec, hb, -⟩ := hK
  intro ad H locs ls hlb hag hP hD hS hl
  exact lv_if_ge hexec hb (hT.at hi) ht (fun z => kt z ad H locs ls hlb hag hP hD hS hl) (fun z => kf z ad H locs ls hlb hag hP hD hS hl)
theorem AL_icmp_ge (hT : az_Tb cc tb) (hK : az_OK K own cc R0 l0) (i : Nat) {off : Int} {tgt : Nat} {x y : Int32} (hi : tb[i]? = some (pc, .if_icmp .ge off)) (ht : (pc : Int) + off = (tgt : Int)) (kt : y ≤ x → AL K lb cells slots tgt lo rest hp) (kf : ¬ y ≤ x → AL K lb cells slots (pc + 3) lo rest hp) : AL K lb cells slots pc lo (.int y :: .int x :: rest) hp := by
  obtain ⟨p, l, e, R, s, m, args, below, meth, c, D, cA, A, Ag, Q, nL⟩ := K
  obtain ⟨hexec, hb, -⟩ := hK
  intro ad H locs ls hlb hag hP hD hS hl
  exact lv_icmp_ge hexec hb (hT.at hi) ht (fun z => kt z ad H locs ls hlb hag hP hD hS hl) (fun z => kf z ad H locs ls hlb hag hP hD hS hl)
theorem AL_if_gt (hT : az_Tb cc tb) (hK : az_OK K own cc R0 l0) (i : Nat) {off : Int} {tgt : Nat} {x : Int32} (hi : tb[i]? = some (pc, .ifCond .gt off)) (ht : (pc : Int) + off = (tgt : Int)) (kt : 0 < x → AL K lb cells slots tgt lo rest hp) (kf : ¬ 0 < x → AL K lb cells slots (pc + 3) lo rest hp) : AL K lb cells slots pc lo (.int x :: rest) hp := by
  obtain ⟨p, l, e, R, s, m, args, below, meth, c, D, cA, A, Ag, Q, nL⟩ := K
  obtain ⟨hexec, hb, -⟩ := hK
  intro ad H locs ls hlb hag hP hD hS hl
  exact lv_if_gt hexec hb (hT.at hi) ht (fun z => kt z ad H locs ls hlb hag hP hD hS hl) (fun z => kf z ad H locs ls hlb hag hP hD hS hl)
theorem AL_icmp_gt (hT : az_Tb cc tb) (hK : az_OK K own cc R0 l0) (i : Nat) {off : Int} {tgt : Nat} {x y : Int32} (hi : tb[i]? = some (pc, .if_icmp .gt off)) (ht : (pc : Int) + off = (tgt : Int)) (kt : y < x → AL K lb cells slots tgt lo rest hp) (kf : ¬ y < x → AL K lb cells slots (pc + 3) lo rest hp) : AL K lb cells slots pc lo (.int y :: .int x :: rest) hp := by
  obtain ⟨p, l, e, R, s, m, args, below, meth, c, D, cA, A, Ag, Q, nL⟩ := K
  obtain ⟨hexec, hb, -⟩ := hK
  intro ad H locs ls hlb hag hP hD hS hl
  exact lv_icmp_gt hexec hb (hT.at hi) ht (fun z => kt z ad H locs ls hlb hag hP hD hS hl) (fun z => kf z ad H locs ls hlb hag hP hD hS hl)
theorem AL_if_le (hT : az_Tb cc tb) (hK : az_OK K own cc R0 l0) (i : Nat) {off : Int} {tgt : Nat} {x : Int32} (hi : tb[i]? = some (pc, .ifCond .le off)) (ht : (pc : Int) + off = (tgt : Int)) (kt : x ≤ 0 → AL K lb cells slots tgt lo rest hp) (kf : ¬ x ≤ 0 → AL K lb cells slots (pc + 3) lo rest hp) : AL K lb cells slots pc lo (.int x :: rest) hp := by
  obtain ⟨p, l, e, R, s, m, args, below, meth, c, D, cA, A, Ag, Q, nL⟩ := K
  obtain ⟨hexec, hb, -⟩ := hK
  intro ad H locs ls hlb hag hP hD hS hl
  exact lv_if_le hexec hb (hT.at hi) ht (fun z => kt z ad H locs ls hlb hag hP hD hS hl) (fun z => kf z ad H locs ls hlb hag hP hD hS hl)
theorem AL_icmp_le (hT : az_Tb cc tb) (hK : az_OK K own cc R0 l0) (i : Nat) {off : Int} {tgt : Nat} {x y : Int32} (hi : tb[i]? = some (pc, .if_icmp .le off)) (ht : (pc : Int) + off = (tgt : Int)) (kt : x ≤ y → AL K lb cells slots tgt lo rest hp) (kf : ¬ x ≤ y → AL K lb cells slots (pc + 3) lo rest hp) : AL K lb cells slots pc lo (.int y :: .int x :: rest) hp := by
  obtain ⟨p, l, e, R, s, m, args, below, meth, c, D, cA, A, Ag, Q, nL⟩ := K
  obtain ⟨hexec, hb, -⟩ := hK
  intro ad H locs ls hlb hag hP hD hS hl
  exact lv_icmp_le hexec hb (hT.at hi) ht (fun z => kt z ad H locs ls hlb hag hP hD hS hl) (fun z => kf z ad H locs ls hlb hag hP hD hS hl)
theorem AL_iald (hT : az_Tb cc tb) (hK : az_OK K own cc R0 l0) (i j : Nat) {k n : Nat} {x : Int32} {f : Nat → Int32} (hi : tb[i]? = some (pc, .iaload)) (hk : hp[k]? = some (.inl (0, n, .inl f))) (hx : x = nI j) (hj : j < n) (hn : n < 2 ^ 31) (kk : AL K lb cells slots (pc + 1) lo (.int (f j) :: rest) hp) : AL K lb cells slots pc lo (.int x :: .ref k :: rest) hp := by
  obtain ⟨p, l, e, R, s, m, args, below, meth, c, D, cA, A, Ag, Q, nL⟩ := K
  obtain ⟨hexec, hb, -, -, -, -, hKn, -⟩ := hK
  intro ad H locs ls hlb hag hP hD hS hl
  subst hx
  exact va_iald hexec hb hKn hP _ 0 (az_w_at hk) rfl (vp_in_nI hj hn) (hT.at hi) (by rw [nI_clamp (Nat.lt_trans hj hn)]; exact kk ad H locs ls hlb hag hP hD hS hl)
theorem AL_to {lo' : List (Option Value)} {st' : List Value} {hp' : az_H} (h1 : lo = lo') (h2 : st = st') (h3 : hp = hp') (k : AL K lb cells slots pc lo' st' hp') : AL K lb cells slots pc lo st hp := by
  subst h1 h2 h3
  exact k
theorem AL_widen {a b : Nat} (h1 : cells ≤ a) (h2 : slots ≤ b) (k : AL K lb a b pc lo st hp) : AL K lb cells slots pc lo st hp := by
  obtain ⟨p, l, e, R, s, m, args, below, meth, c, D, cA, A, Ag, Q, nL⟩ := K
  intro ad H locs ls hlb hag hP hD hS hl
  exact W.widen h1 h2 (k ad H locs ls hlb hag hP hD hS hl)
theorem AL_lo {lo' : List (Option Value)} (hlen : lo'.length = lo.length) (hs : ∀ (i : Nat) (v : Value), lo'[i]? = some (some v) → lo[i]? = some (some v)) (k : AL K lb cells slots pc lo' st hp) : AL K lb cells slots pc lo st hp := by
  obtain ⟨p, l, e, R, s, m, args, below, meth, c, D, cA, A, Ag, Q, nL⟩ := K
  intro ad H locs ls hlb hag hP hD hS hl
  exact k ad H locs ls hlb hag hP hD hS (az_ls_sub hl hlen hs)
theorem AL_idivN (hT : az_Tb cc tb) (hK : az_OK K own cc R0 l0) (i a b : Nat) {x y : Int32} (hi : tb[i]? = some (pc, .idiv)) (hx : x = nI a) (hy : y = nI b) (ha : a < 2 ^ 31) (h0 : 0 < b) (hb2 : b < 2 ^ 31) (kk : AL K lb cells slots (pc + 1) lo (.int (nI (a / b)) :: rest) hp) : AL K lb cells slots pc lo (.int y :: .int x :: rest) hp := by
  obtain ⟨p, l, e, R, s, m, args, below, meth, c, D, cA, A, Ag, Q, nL⟩ := K
  obtain ⟨hexec, hb, -, -, -, -, hKn, -⟩ := hK
  intro ad H locs ls hlb hag hP hD hS hl
  subst hx hy
  exact lv_idiv hexec hb (hT.at hi) (nI_ne0 h0 hb2) (by rw [pk_div ha h0 hb2]; exact kk ad H locs ls hlb hag hP hD hS hl)
theorem AL_iremN (hT : az_Tb cc tb) (hK : az_OK K own cc R0 l0) (i a b : Nat) {x y : Int32} (hi : tb[i]? = some (pc, .irem)) (hx : x = nI a) (hy : y = nI b) (ha : a < 2 ^ 31) (h0 : 0 < b) (hb2 : b < 2 ^ 31) (kk : AL K lb cells slots (pc + 1) lo (.int (nI (a % b)) :: rest) hp) : AL K lb cells slots pc lo (.int y :: .int x :: rest) hp := by
  obtain ⟨p, l, e, R, s, m, args, below, meth, c, D, cA, A, Ag, Q, nL⟩ := K
  obtain ⟨hexec, hb, -, -, -, -, hKn, -⟩ := hK
  intro ad H locs ls hlb hag hP hD hS hl
  subst hx hy
  exact lv_irem hexec hb (hT.at hi) (nI_ne0 h0 hb2) (by rw [pk_rem ha h0 hb2]; exact kk ad H locs ls hlb hag hP hD hS hl)
theorem AL_msk (bs : List Bool) {lo' : List (Option Value)} (h : az_msk bs lo = lo') (k : AL K lb cells slots pc lo' st hp) : AL K lb cells slots pc lo st hp := by
  subst h
  exact AL_lo (az_msk_len bs lo) (az_msk_at bs lo) k
theorem AL_topi {x : Int32} (k : ∀ u : Int32, x = u → AL K lb cells slots pc lo (.int u :: rest) hp) : AL K lb cells slots pc lo (.int x :: rest) hp := k x rfl
theorem AL_ldc (hT : az_Tb cc tb) (hK : az_OK K own cc R0 l0) (i : Nat) {idx : Nat} {v : Int32} (hi : tb[i]? = some (pc, .ldc idx)) (hw : Cond.constant own idx v ∈ lw_tbl) (kk : AL K lb cells slots (pc + 2) lo (.int v :: st) hp) : AL K lb cells slots pc lo st hp := by
  obtain ⟨p, l, e, R, s, m, args, below, meth, c, D, cA, A, Ag, Q, nL⟩ := K
  obtain ⟨hexec, hb, -, -, hown, hev, hKn, -⟩ := hK
  intro ad H locs ls hlb hag hP hD hS hl
  exact lv_ldc hexec hb hown (hev.1.use hw rfl args) (hT.at hi) (kk ad H locs ls hlb hag hP hD hS hl)
theorem AL_ldc2 (hT : az_Tb cc tb) (hK : az_OK K own cc R0 l0) (i : Nat) {idx : Nat} {v : Int64} (hi : tb[i]? = some (pc, .ldc2_w idx)) (hw : Cond.constantLong own idx v ∈ lw_tbl) (kk : AL K lb cells slots (pc + 3) lo (.long v :: st) hp) : AL K lb cells slots pc lo st hp := by
  obtain ⟨p, l, e, R, s, m, args, below, meth, c, D, cA, A, Ag, Q, nL⟩ := K
  obtain ⟨hexec, hb, -, -, hown, hev, hKn, -⟩ := hK
  intro ad H locs ls hlb hag hP hD hS hl
  exact lv_ldc2 hexec hb hown (hev.1.use hw rfl args) (hT.at hi) (kk ad H locs ls hlb hag hP hD hS hl)
/-- the script: its cell is called 46 -/
def az_Scr (K : az_K) (b L : Nat) (xs : Nat → Int32) : Prop :=
  match K with
  | (_, _, _, _, s, _, _, _, _, _, _, _, A, Ag, _, _) => va_X b L xs s s.heap ∧ b < s.heap.size ∧ (¬ A b) ∧ ∀ ad, Ag ad → ad 46 = b
theorem AL_sld (hT : az_Tb cc tb) (hK : az_OK K own cc R0 l0) {b L : Nat} {xs : Nat → Int32} (hX : az_Scr K b L xs) (i : Nat) {x v : Int32} (hi : tb[i]? = some (pc, .iaload)) (hin : vp_in x L) (hv : xs x.toNatClampNeg = v) (kk : AL K lb cells slots (pc + 1) lo (.int v :: rest) hp) : AL K lb cells slots pc lo (.int x :: .ref 46 :: rest) hp := by
  obtain ⟨p, l, e, R, s, m, args, below, meth, c, D, cA, A, Ag, Q, nL⟩ := K
  obtain ⟨hexec, hb, -⟩ := hK
  obtain ⟨h1, h2, h3, h4⟩ := hX
  intro ad H locs ls hlb hag hP hD hS hl
  subst hv
  have k9 := va_sld (rest := rest.map (az_v ad)) hexec hb h1 h2 h3 hS hin (hT.at hi) (kk ad H locs ls hlb hag hP hD hS hl)
  show W _ _ _ _ _ _ _ _ _ _ _ _ _ _ _ (F0 m _ ls (.int x :: .ref (ad 46) :: _))
  rw [h4 ad hag]
  exact k9
theorem AL_slen (hT : az_Tb cc tb) (hK : az_OK K own cc R0 l0) {b L : Nat} {xs : Nat → Int32} (hX : az_Scr K b L xs) (i : Nat) (hi : tb[i]? = some (pc, .arraylength)) (kk : AL K lb cells slots (pc + 1) lo (.int (nI L) :: rest) hp) : AL K lb cells slots pc lo (.ref 46 :: rest) hp := by
  obtain ⟨p, l, e, R, s, m, args, below, meth, c, D, cA, A, Ag, Q, nL⟩ := K
  obtain ⟨hexec, hb, -⟩ := hK
  obtain ⟨h1, h2, h3, h4⟩ := hX
  intro ad H locs ls hlb hag hP hD hS hl
  have k9 := va_slen (rest := rest.map (az_v ad)) hexec hb h1 h2 h3 hS (hT.at hi) (kk ad H locs ls hlb hag hP hD hS hl)
  show W _ _ _ _ _ _ _ _ _ _ _ _ _ _ _ (F0 m _ ls (.ref (ad 46) :: _))
  rw [h4 ad hag]
  exact k9
/-- behind a call, with the heap's growth -/
theorem az_afterL {p : Program} {l : Launch} {e : Env} {R : Room} {s : State} {m : MethodId} {args : Array Value} {below : List Frame} {meth : Method} {c : Code} {D : va_G} {cA : Nat → ClassId} {A : Nat → Prop} {Q : State → Prop} {ad : Nat → Nat} {H : Heap} {locs : List Loc} {cells slots mc ms pc d : Nat} {ls : Array Slot} {st0 rest : List Value} {hp : az_H} {gr : Bool} {Ψ : Option Value → az_H → Prop} {a : Array Value}
    (hr : va_Run p l e R s m args below meth c H locs cells slots mc ms (F0 m pc ls st0) rest (fun st oc t => az_Q D cA ad hp H.size gr Ψ a st oc t ∧ st.heap.size + d ≤ t.heap.size) (va_A (az_w cA ad hp) H.size)) (hS : va_S A s.heap H locs) (hD : va_D A (az_w cA ad hp)) (hA : ∀ q, s.heap.size ≤ q → A q)
    (kk : ∀ (r : Option Value) (hp' : az_H) (ad' : Nat → Nat) (H1 : Heap) (locs1 : List Loc), Ψ r hp' → (gr = false → ad' = ad) → H.size + d ≤ H1.size → va_P D vwCl (az_w cA ad' hp') H1 → va_D A (az_w cA ad' hp') → va_S A s.heap H1 locs1 →
      W p l e R s m args below meth c H1 locs1 (cells + mc) (slots + ms) Q (F0 m (pc + 3) ls ((r.map (az_v ad')).toList ++ rest))) : W p l e R s m args below meth c H locs cells slots Q (F0 m pc ls st0) := by
  have hB : ∀ q, va_A (az_w cA ad hp) H.size q → A q := fun q h => by
    rcases h with ⟨k, e9, h⟩ | h
    · exact hD.2 k _ h
    · exact hA q (Nat.le_trans hS.1 h)
  intro T hT X
  obtain ⟨v, st₀, t, T', L, h0, X', hL, e1, e2, ⟨⟨⟨r, hp', ad', hv, hΨ, hg, hag, hP1, hD1⟩, hz, hk⟩, hd9⟩, st⟩ := hr T hT X
  cases hv
  rw [h0] at hz hk hd9
  obtain ⟨t2, a1, b1⟩ := kk r hp' ad' T'.heap (locs ++ L) hΨ hg (by rw [e1]; exact hd9) (by rw [e1]; exact hP1) (hD1.weaken (fun _ q _ h => hB q.1 h))
    ⟨Nat.le_trans hS.1 (by rw [e1]; exact hz), fun q h1 h2 => by rw [e1, hk q (Nat.lt_of_lt_of_le h1 hS.1) (fun z => h2 (hB q z))]; exact hS.2.1 q h1 h2, fun q hq => by
      rcases List.mem_append.mp hq with h | h
      · exact hS.2.2 q h
      · exact hB _ (hL q h)⟩ T' rfl X'
  exact ⟨t2, st t2 a1, b1⟩
/-- a contract of the class's gives one with the growth 0 -/
theorem az_Q0 {D : va_G} {cA : Nat → ClassId} {ad : Nat → Nat} {hp : az_H} {sz : Nat} {gr : Bool} {Ψ : Option Value → az_H → Prop} {a : Array Value} {s t : State} {o : Outcome} (h : az_Q D cA ad hp sz gr Ψ a s o t) : az_Q D cA ad hp sz gr Ψ a s o t ∧ s.heap.size + 0 ≤ t.heap.size := ⟨h, h.2.1⟩
theorem va_Run.monoL {p : Program} {l : Launch} {e : Env} {R : Room} {s : State} {m : MethodId} {args : Array Value} {below : List Frame} {meth : Method} {c : Code} {H : Heap} {locs : List Loc} {cells slots mc ms : Nat} {g : JFrame} {rest : List Value} {P P' : State → Outcome → State → Prop} {B : Nat → Prop}
    (h : va_Run p l e R s m args below meth c H locs cells slots mc ms g rest P B) (hq : ∀ a b d, P a b d → P' a b d) : va_Run p l e R s m args below meth c H locs cells slots mc ms g rest P' B := by
  intro T hT X
  obtain ⟨v, st₀, t, T', L, h0, X', hL, e1, e2, h3, st⟩ := h T hT X
  exact ⟨v, st₀, t, T', L, h0, X', hL, e1, e2, hq _ _ _ h3, st⟩
variable {y : MethodName} {cb : ByteArray} {mL n idx : Nat} {ret : Option FieldType} {rm : Room} {Ψ : Option Value → az_H → Prop}
theorem AL_callV (hT : az_Tb cc tb) (hK : az_OK K own cc R0 l0) (i : Nat) (as rest : List Value) {k cj N9 : Nat} {fs : List Value} {T9 : u_T} (hM : AMet l0 y cb mL ret rm false (.ref k :: as) hp Ψ) (cv : az_Cw y cb mL ret n) (hl : Cond.methodLink own idx y ∈ lw_tbl) (hv : Cond.instanceMethod y ∈ lw_tbl ∧ Cond.selects y.cls y y ∈ lw_tbl)
    (hi : tb[i]? = some (pc, .invokevirtual idx)) (hobj : hp[k]? = some (.inr (cj, fs))) (hcj : vwCl[cj]? = some (y.cls, T9, N9)) (hn : as.length = n) (hst : st = as.reverse ++ .ref k :: rest) (hrm : az_rm rm R0 mL rest = true) (hc : cells + rm.cells ≤ R0.cells) (hs : slots + rm.slots ≤ R0.slots)
    (kk : ∀ (r : Option Value) (hp' : az_H), Ψ r hp' → AL K lb (cells + rm.cells) (slots + rm.slots) (pc + 3) lo (r.toList ++ rest) hp') : AL K lb cells slots pc lo st hp := by
  obtain ⟨p, l, e, R, s, m, args, below, meth, c, D, cA, A, Ag, Q, nL⟩ := K
  obtain ⟨hexec, hb, hml, hlk, hown, hev, hKn, hA, rfl, rfl⟩ := hK
  obtain ⟨hR, hcat⟩ := az_rm.of hrm
  subst hst
  intro ad H locs ls hlb hag hP hD hS hl1
  refine az_afterL (d := 0) (gr := false) (va_Run.monoL (va_runV (As := as.map (az_v ad)) (rest := rest.map (az_v ad)) (b := ad k) (C := y.cls) (Ts := []) (own := own) (nL := nL) ⟨hexec, hb, hml, hown, fun _ h => by cases h⟩ (hM D cA ad H.size) ⟨az_cb hev.1 cv hl hR, hev.1.use hv.1 rfl args, hev.1.use hv.2 rfl args⟩
    ⟨az_blind D cA ad hp H.size _, va_recv hKn hP hcj (az_w_at hobj), az_start hev hKn hA hP hD hS (.ref (ad k) :: as.map (az_v ad))⟩ rfl (by rw [List.length_map]; exact hn) hl1.1.1 (by rw [List.map_append, List.map_reverse]; rfl) (lv_room (by rw [az_cats]; exact hcat)) (hT.at hi) ⟨hc, hs⟩) (fun _ _ _ h => az_Q0 h)) hS hD hA (fun r hp' ad' H1 locs1 hΨ hg hlb1 hP1 hD1 hS1 => ?_)
  have := hg rfl
  subst this
  rw [az_ret_map]
  exact kk r hp' hΨ ad' H1 locs1 ls (Nat.le_trans hlb hlb1) hag hP1 hD1 hS1 hl1
theorem AL_k1 {X v : Int32} {hp1 : az_H} (e : X = v) (k : AL K lb cells slots pc lo (.int v :: rest) hp1) : ∀ (r : Option Value) (hp' : az_H), (r = some (.int X) ∧ hp' = hp1) → AL K lb cells slots pc lo (r.toList ++ rest) hp' := by
  rintro r hp' ⟨rfl, rfl⟩
  subst e
  exact k
theorem AL_kl {X v : Int64} {hp1 : az_H} (e : X = v) (k : AL K lb cells slots pc lo (.long v :: rest) hp1) : ∀ (r : Option Value) (hp' : az_H), (r = some (.long X) ∧ hp' = hp1) → AL K lb cells slots pc lo (r.toList ++ rest) hp' := by
  rintro r hp' ⟨rfl, rfl⟩
  subst e
  exact k
end AZLW
section AZLC
def az_Tab (K : az_K) (hh : List (Nat × Nat × Nat × Nat)) : Prop :=
  match K with
  | (_, _, _, _, _, _, _, _, _, c, _, _, _, _, _, _) => c.exceptionTable.toList = tableOf hh
def az_NcK (K : az_K) (C T : String) : Prop :=
  match K with
  | (_, _, _, _, s, _, _, _, _, _, _, _, _, _, _, _) => va_Nc C T s
def az_nc (U : State) : Prop := va_Nc "java/lang/IllegalArgumentException" "java/lang/IndexOutOfBoundsException" U ∧ va_Nc "java/lang/IllegalArgumentException" "java/util/NoSuchElementException" U
theorem az_ls_none {ad : Nat → Nat} {ls' : Array Slot} {nL i : Nat} {v : Value} {lo : List (Option Value)} (hlen : lo.length = nL) (hc : ∀ (j : Nat) (w : Value), j + 1 = i → lo[j]? = some (some w) → w.category = 1)
    (hl : lv_has ls' nL ((i, v) :: (az_lv ad 0 lo).filter (fun q => !(q.1 == i) && !(q.1 + 1 == i && q.2.category == 2)))) : az_ls ad ls' nL (lo.set i none) := by
  refine ⟨⟨hl.1, hl.2.1, fun q hq => hl.2.2 q ?_⟩, by rw [List.length_set]; exact hlen⟩
  obtain ⟨j, w, hj, rfl⟩ := (az_lv_mem ad _ 0 q).mp hq
  rw [Nat.zero_add]
  by_cases hij : i = j
  · subst hij
    rw [az_set_at] at hj
    split at hj <;> cases hj
  · rw [List.getElem?_set_ne hij] at hj
    refine List.mem_cons_of_mem _ (List.mem_filter.mpr ⟨(az_lv_mem ad lo 0 _).mpr ⟨j, w, hj, by rw [Nat.zero_add]⟩, ?_⟩)
    have h1 : (j == i) = false := by simp; omega
    by_cases h2 : j + 1 = i
    · have hw := hc j w h2 hj
      have h3 : ((az_v ad w).category == 2) = false := by rw [az_v_cat, hw]; rfl
      simp only [h1, h3, Bool.and_false, Bool.not_false, Bool.and_self]
    · have h3 : (j + 1 == i) = false := by simp; omega
      simp only [h1, h3, Bool.false_and, Bool.not_false, Bool.and_self]
/-- the contract of a method of the law: it answers v, leaves the heap hp2, and makes at least d new cells; w: its word -/
def AME (l : Launch) (y : MethodName) (w : Cond) (rm : Room) (as : List Value) (hp hp2 : az_H) (v : Value) (d : Nat) : Prop :=
  ∀ (D : va_G) (cA : Nat → ClassId) (ad : Nat → Nat) (sz : Nat),
    Met l y [w] rm (va_Pc (as.map (az_v ad)) (fun U => az_U D cA ad hp sz U ∧ az_nc U)) (fun a st oc t => az_Q D cA ad hp sz false (fun r h => r = some v ∧ h = hp2) a st oc t ∧ st.heap.size + d ≤ t.heap.size) rm.cells rm.slots (va_A (az_w cA ad hp) sz)
def az_NcL (K : az_K) : Prop := az_NcK K "java/lang/IllegalArgumentException" "java/lang/IndexOutOfBoundsException" ∧ az_NcK K "java/lang/IllegalArgumentException" "java/util/NoSuchElementException"
variable {K : az_K} {own : String} {cc : ByteArray} {R0 : Room} {l0 : Launch} {tb : List (Nat × Instr)} {lb cells slots pc d : Nat} {lo : List (Option Value)} {st rest : List Value} {hp hp2 : az_H} {hh : List (Nat × Nat × Nat × Nat)} {v : Value}
/-- what a return owes -/
def az_EndL (K : az_K) (cc : ByteArray) (ret : Option FieldType) (R0 : Room) (v : Value) (d : Nat) (hp : az_H) : Prop :=
  ∀ (cells slots pc : Nat) (lo : List (Option Value)), cells ≤ R0.cells → slots ≤ R0.slots →
    (∀ (x : Int32) (ty : FieldType), v = .int x → ret = some ty → narrow ty (.int x) = .int x → decode cc pc = .ok (.ireturn, 1) → AL K d cells slots pc lo [.int x] hp) ∧
    (∀ x : Int64, v = .long x → ret = some .long → decode cc pc = .ok (.lreturn, 1) → AL K d cells slots pc lo [.long x] hp)
theorem AL_iret {ret : Option FieldType} {x : Int32} (hT : az_Tb cc tb) (hE : az_EndL K cc ret R0 (.int x) d hp) (i : Nat) {ty : FieldType} (hi : tb[i]? = some (pc, .ireturn)) (hr : ret = some ty) (hn : narrow ty (.int x) = .int x) (hc : cells ≤ R0.cells) (hs : slots ≤ R0.slots) : AL K d cells slots pc lo [.int x] hp :=
  (hE cells slots pc lo hc hs).1 x ty rfl hr hn (hT.at hi)
theorem AL_lret {x : Int64} (hT : az_Tb cc tb) (hE : az_EndL K cc (some .long) R0 (.long x) d hp) (i : Nat) (hi : tb[i]? = some (pc, .lreturn)) (hc : cells ≤ R0.cells) (hs : slots ≤ R0.slots) : AL K d cells slots pc lo [.long x] hp :=
  (hE cells slots pc lo hc hs).2 x rfl rfl (hT.at hi)
theorem AME_of {y : MethodName} {maxL : Nat} {ret : Option FieldType} {rm : Room} {as : List Value} {hp0 : az_H} (hy : plainName y.cls = true) (hcat : ∀ v ∈ as, v.category = 1) (hlen : as.length ≤ maxL)
    (body : ∀ K : az_K, az_OK K y.cls cc rm l0 → az_NcL K → az_EndL K cc ret rm v d hp2 → AL K 0 0 0 0 (as.map some ++ List.replicate (maxL - as.length) none) [] hp0) : AME l0 y (.code y cc maxL ret) rm as hp0 hp2 v d := by
  intro D cA ad0 sz
  refine Met.ofW (cc := cc) (maxL := maxL) (ret := ret) hy rfl ?_
  intro p e s m args below meth c s₁ B hml hv
  obtain ⟨rfl, ⟨hsz, hP, hKn, hD0, hev⟩, hnc⟩ := hv
  subst hsz
  have hD := hD0.self (sz := s.heap.size)
  have hA : ∀ q : Nat, s.heap.size ≤ q → va_A (az_w cA ad0 hp0) s.heap.size q := fun q h => Or.inr h
  have hl := lv_entry (as.map (az_v ad0)) (n := maxL) (by rw [az_sl_len ad0 as hcat]; exact hlen)
  rw [lg_entry_eq]
  have hl2 : az_ls ad0 ((lg_sl (as.map (az_v ad0)) ++ List.replicate (maxL - (lg_sl (as.map (az_v ad0))).length) Slot.unset).toArray) maxL (as.map some ++ List.replicate (maxL - as.length) none) :=
    ⟨⟨hl.1, hl.2.1, fun q hq => hl.2.2 q (az_entry ad0 as _ hcat 0 q hq)⟩, by simp; omega⟩
  refine body (p, l0, e, rm, s, m, (as.map (az_v ad0)).toArray, below, meth, c, D, cA, va_A (az_w cA ad0 hp0) s.heap.size, fun ad' => ad' = ad0, _, maxL)
    ⟨B.exec, B.bytes, hml, B.notSynchronized, findClass_of_methodNamed B.named, hev, hKn, hA, rfl, rfl⟩ hnc ?_ ad0 s.heap [] _ (Nat.le_refl _) rfl hP hD va_S.rf hl2
  intro cells slots pc lo hc hs
  refine ⟨fun x ty hvx hr hn hd => ?_, fun x hvx hr hd => ?_⟩
  · subst hvx
    intro ad H locs ls hlb hag hP1 hD1 hS1 hl1
    refine W.widen hc hs ?_
    exact W.zret (v := x) B.exec B.bytes (B.returns.trans hr) hn (fun t ht hW => ⟨⟨⟨some (.int x), hp2, ad, rfl, ⟨rfl, rfl⟩, fun _ => hag, fun i _ => by rw [show ad = ad0 from hag], by rw [ht]; exact hP1, hD1⟩, hS1.F ht⟩, by rw [ht]; exact hlb⟩) hS1.2.2 hd B.notSynchronized
  · subst hvx
    intro ad H locs ls hlb hag hP1 hD1 hS1 hl1
    refine W.widen hc hs ?_
    exact W.lret (v := x) B.exec B.bytes (B.returns.trans hr) (fun t ht hW => ⟨⟨⟨some (.long x), hp2, ad, rfl, ⟨rfl, rfl⟩, fun _ => hag, fun i _ => by rw [show ad = ad0 from hag], by rw [ht]; exact hP1, hD1⟩, hS1.F ht⟩, by rw [ht]; exact hlb⟩) hS1.2.2 hd B.notSynchronized
/-- of a method with a table of handlers -/
theorem AME_ofW {y : MethodName} {maxL : Nat} {ret : Option FieldType} {rm : Room} {as : List Value} {hp0 : az_H} (hy : plainName y.cls = true) (hcat : ∀ v ∈ as, v.category = 1) (hlen : as.length ≤ maxL)
    (body : ∀ K : az_K, az_OK K y.cls cc rm l0 → az_Tab K hh → az_NcL K → az_EndL K cc ret rm v d hp2 → AL K 0 0 0 0 (as.map some ++ List.replicate (maxL - as.length) none) [] hp0) : AME l0 y (.codeWith y cc maxL ret hh) rm as hp0 hp2 v d := by
  intro D cA ad0 sz
  refine MetFree.of_bodyS (code := cc) (maxLocals := maxL) (ret := ret) hy ?_ ?_
  · intro args s m h hn
    obtain ⟨m9, meth, c, hn9, h1, h2, h3, h4, -, h5, h6, -⟩ := Cond.codeWith_spec (atoms_spec (ws := [.codeWith y cc maxL ret hh]) h _ List.mem_cons_self)
    cases hn.symm.trans hn9
    exact ⟨meth, c, h1, h2, h3, h4, h5, h6⟩
  · intro p e s m args below meth c s₁ B hml hP0 _
    have hh0 : s₁.heap = s.heap := by rw [B.state]; rfl
    obtain ⟨rfl, ⟨hsz, hP, hKn, hD0, hev⟩, hnc⟩ := hP0
    have htab := vx_table (x := y) B (atoms_spec (ws := [.codeWith y cc maxL ret hh]) B.pre _ List.mem_cons_self)
    subst hsz
    have hD := hD0.self (sz := s.heap.size)
    have hA : ∀ q : Nat, s.heap.size ≤ q → va_A (az_w cA ad0 hp0) s.heap.size q := fun q h => Or.inr h
    have hl := lv_entry (as.map (az_v ad0)) (n := maxL) (by rw [az_sl_len ad0 as hcat]; exact hlen)
    have hl2 : az_ls ad0 ((lg_sl (as.map (az_v ad0)) ++ List.replicate (maxL - (lg_sl (as.map (az_v ad0))).length) Slot.unset).toArray) maxL (as.map some ++ List.replicate (maxL - as.length) none) :=
      ⟨⟨hl.1, hl.2.1, fun q hq => hl.2.2 q (az_entry ad0 as _ hcat 0 q hq)⟩, by simp; omega⟩
    have KW := body (p, l0, e, rm, s, m, (as.map (az_v ad0)).toArray, below, meth, c, D, cA, va_A (az_w cA ad0 hp0) s.heap.size, fun ad' => ad' = ad0, MQ below (fun a st oc t => az_Q D cA ad0 hp0 s.heap.size false (fun r h => r = some v ∧ h = hp2) a st oc t ∧ st.heap.size + d ≤ t.heap.size) (as.map (az_v ad0)).toArray s rm.cells rm.slots (va_A (az_w cA ad0 hp0) s.heap.size), maxL)
      ⟨B.exec, B.bytes, hml, B.notSynchronized, findClass_of_methodNamed B.named, hev, hKn, hA, rfl, rfl⟩ htab hnc (by
        intro cells slots pc lo hc hs
        refine ⟨fun x ty hvx hr hn hd => ?_, fun x hvx hr hd => ?_⟩
        · subst hvx
          intro ad H locs ls hlb hag hP1 hD1 hS1 hl1
          refine W.widen hc hs ?_
          exact W.zret (v := x) B.exec B.bytes (B.returns.trans hr) hn (fun t ht hW => ⟨⟨⟨some (.int x), hp2, ad, rfl, ⟨rfl, rfl⟩, fun _ => hag, fun i _ => by rw [show ad = ad0 from hag], by rw [ht]; exact hP1, hD1⟩, hS1.F ht⟩, by rw [ht]; exact hlb⟩) hS1.2.2 hd B.notSynchronized
        · subst hvx
          intro ad H locs ls hlb hag hP1 hD1 hS1 hl1
          refine W.widen hc hs ?_
          exact W.lret (v := x) B.exec B.bytes (B.returns.trans hr) (fun t ht hW => ⟨⟨⟨some (.long x), hp2, ad, rfl, ⟨rfl, rfl⟩, fun _ => hag, fun i _ => by rw [show ad = ad0 from hag], by rw [ht]; exact hP1, hD1⟩, hS1.F ht⟩, by rw [ht]; exact hlb⟩) hS1.2.2 hd B.notSynchronized)
      ad0 s.heap [] _ (Nat.le_refl _) rfl hP hD va_S.rf hl2
    rw [List.map_nil, ← lg_entry_eq] at KW
    obtain ⟨t, a1, o, b1, b2, b3⟩ := KW s₁ hh0 (Stand.of_body B)
    exact ⟨t, o, a1, b1, b2, ⟨b3.1, b3.2⟩⟩
theorem AWX_catch (hT : az_Tb cc tb) (hK : az_OK K own cc R0 l0) (hTab : az_Tab K hh) {E : String} (pre : List ExceptionTableEntry) (x : ExceptionTableEntry) (suf : List ExceptionTableEntry) (hsplit : tableOf hh = pre ++ x :: suf)
    (hpass : ∀ z ∈ pre, z.catchType ≠ 0 ∧ ∃ nm : String, Cond.classLink own z.catchType nm ∈ lw_tbl ∧ az_NcK K E nm) (hx : covers x pc = true) (h0 : x.catchType ≠ 0) (hl : Cond.classLink own x.catchType E ∈ lw_tbl) (hcast : Cond.castable E E ∈ lw_tbl)
    (i k : Nat) {ins : Instr} (hi : tb[i]? = some (x.handlerPc, ins)) (hins : (∃ k' : Fin 4, ins = .astore_n k' ∧ (k' : Nat) = k) ∨ ins = .astore k) (hk : (Nat.ble (k + 1) lo.length && az_pre lo k) = true) (kk : AL K 1 cells slots (x.handlerPc + az_len ins) (lo.set k none) [] hp) : AWX K cells slots pc lo rest hp E := by
  obtain ⟨p, l, e, R, s, m, args, below, meth, c, D, cA, A, Ag, Q, nL⟩ := K
  obtain ⟨hexec, hb, hml, hlk, hown, hev, hKn, hA, rfl, rfl⟩ := hK
  rw [Bool.and_eq_true] at hk
  have hk1 : k < lo.length := Nat.le_of_ble_eq_true hk.1
  have hk2 := az_pre_of hk.2
  intro ad H locs ls q ce hag hP hD hS hlb hl1 hq hv hcl
  refine vx_catch (E := E) (name := E) hown pre x suf (hTab.trans hsplit) (fun z hz => Or.inr ⟨(hpass z hz).1, ?_⟩) hx h0 (hev.1.use hl rfl args) (hev.1.use hcast rfl args) hq hv hcl ?_
  · obtain ⟨nm, h1, h2⟩ := (hpass z hz).2
    exact ⟨nm, hev.1.use h1 rfl args, h2⟩
  · have hd := hT.at hi
    rcases hins with ⟨k', rfl, rfl⟩ | rfl
    · exact lv_astore_n hexec hb hd rfl hl1.1 (by rw [← hl1.2]; exact hk1) rfl (fun ls' hl' => kk ad H locs ls' hlb hag hP hD hS (az_ls_none hl1.2 hk2 hl'))
    · exact lv_astore hexec hb hd hl1.1 (by rw [← hl1.2]; exact hk1) rfl (fun ls' hl' => kk ad H locs ls' hlb hag hP hD hS (az_ls_none hl1.2 hk2 hl'))
/-- calls of the class's methods that throw: as in part 16, out of an AL -/
theorem AL_AW {lb : Nat} (h : AW K cells slots pc lo st hp) : AL K lb cells slots pc lo st hp := by
  obtain ⟨p, l, e, R, s, m, args, below, meth, c, D, cA, A, Ag, Q, nL⟩ := K
  intro ad H locs ls hlb hag hP hD hS hl
  exact h ad H locs ls hag hP hD hS hl
variable {y : MethodName} {mL n idx : Nat} {ret : Option FieldType} {rm : Room}
def az_CwE (y : MethodName) (w : Cond) (n : Nat) : Prop :=
  (Cond.initialized y.cls ∈ lw_tbl ∧ w ∈ lw_tbl) ∧ y.cls ≠ "java/lang/invoke/MethodHandle" ∧ y.cls ≠ "java/lang/invoke/VarHandle" ∧ (parseMethodDescriptor y.desc).map (fun d => d.parameters.length) = some n
theorem az_blindE (D : va_G) (cA : Nat → ClassId) (ad : Nat → Nat) (hp : az_H) (sz : Nat) (as : List Value) : FrameBlind (va_Pc as (fun U => az_U D cA ad hp sz U ∧ az_nc U)) := by
  intro a U g mk h
  exact ⟨(az_blind D cA ad hp sz as a U g mk ⟨h.1, h.2.1⟩).1, (az_blind D cA ad hp sz as a U g mk ⟨h.1, h.2.1⟩).2, va_Nc.moved (u := U) (U := U.calling g mk a) (Vm.Alike.refl U.vm) h.2.2.1, va_Nc.moved (u := U) (U := U.calling g mk a) (Vm.Alike.refl U.vm) h.2.2.2⟩
theorem az_startE {D : va_G} {cA : Nat → ClassId} {ad : Nat → Nat} {hp : az_H} {s : State} {A : Nat → Prop} {H : Heap} {locs : List Loc} (hev : az_ev A s) (hKn : va_K D vwCl (az_tys cA) s) (hnc : az_nc s) (hA : ∀ q, s.heap.size ≤ q → A q) (hP : va_P D vwCl (az_w cA ad hp) H) (hD : va_D A (az_w cA ad hp)) (hS : va_S A s.heap H locs) (as : List Value) :
    ∀ U : State, U.heap = H → s.WarmedH U.vm → va_Pc as (fun U => az_U D cA ad hp H.size U ∧ az_nc U) as.toArray U := by
  intro U hU hW
  exact ⟨(az_start hev hKn hA hP hD hS as U hU hW).1, (az_start hev hKn hA hP hD hS as U hU hW).2, va_Nc.moved hW.alike hnc.1, va_Nc.moved hW.alike hnc.2⟩
/-- a static method of the law's without handlers -/
theorem AL_callE (hT : az_Tb cc tb) (hK : az_OK K own cc R0 l0) (hN : az_NcL K) (i : Nat) (as rest : List Value) {cb : ByteArray} (hM : AME l0 y (.code y cb mL ret) rm as hp hp2 v d) (cv : az_Cw y cb mL ret n) (hl : Cond.methodLink own idx y ∈ lw_tbl) (hv : Cond.static y ∈ lw_tbl)
    (hi : tb[i]? = some (pc, .invokestatic idx)) (hn : as.length = n) (hst : st = as.reverse ++ rest) (hrm : az_rm rm R0 mL rest = true) (hc : cells + rm.cells ≤ R0.cells) (hs : slots + rm.slots ≤ R0.slots)
    (kk : AL K (lb + d) (cells + rm.cells) (slots + rm.slots) (pc + 3) lo (v :: rest) hp2) : AL K lb cells slots pc lo st hp := by
  obtain ⟨p, l, e, R, s, m, args, below, meth, c, D, cA, A, Ag, Q, nL⟩ := K
  obtain ⟨hexec, hb, hml, hlk, hown, hev, hKn, hA, rfl, rfl⟩ := hK
  obtain ⟨hR, hcat⟩ := az_rm.of hrm
  subst hst
  intro ad H locs ls hlb hag hP hD hS hl1
  refine az_afterL (gr := false) (va_runS (As := as.map (az_v ad)) (rest := rest.map (az_v ad)) (Ts := []) (own := own) (nL := nL) ⟨hexec, hb, hml, hown, fun _ h => by cases h⟩ (hM D cA ad H.size) ⟨az_cb hev.1 cv hl hR, hev.1.use hv rfl args⟩
    ⟨az_blindE D cA ad hp H.size _, az_startE hev hKn hN hA hP hD hS (as.map (az_v ad))⟩ rfl (by rw [List.length_map]; exact hn) hl1.1.1 (by rw [List.map_append, List.map_reverse]) (lv_room (by rw [az_cats]; exact hcat)) (hT.at hi) ⟨hc, hs⟩) hS hD hA (fun r hp' ad' H1 locs1 hΨ hg hlb1 hP1 hD1 hS1 => ?_)
  have := hg rfl
  subst this
  obtain ⟨rfl, rfl⟩ := hΨ
  exact kk ad' H1 locs1 ls (by omega) hag hP1 hD1 hS1 hl1
/-- a static method of the law's with handlers -/
theorem AL_callEW (hT : az_Tb cc tb) (hK : az_OK K own cc R0 l0) (hN : az_NcL K) (i : Nat) (as rest : List Value) {cb : ByteArray} (hM : AME l0 y (.codeWith y cb mL ret hh) rm as hp hp2 v d) (cv : az_CwE y (.codeWith y cb mL ret hh) n) (hl : Cond.methodLink own idx y ∈ lw_tbl) (hv : Cond.static y ∈ lw_tbl)
    (hi : tb[i]? = some (pc, .invokestatic idx)) (hn : as.length = n) (hst : st = as.reverse ++ rest) (hrm : az_rm rm R0 mL rest = true) (hc : cells + rm.cells ≤ R0.cells) (hs : slots + rm.slots ≤ R0.slots)
    (kk : AL K (lb + d) (cells + rm.cells) (slots + rm.slots) (pc + 3) lo (v :: rest) hp2) : AL K lb cells slots pc lo st hp := by
  obtain ⟨p, l, e, R, s, m, args, below, meth, c, D, cA, A, Ag, Q, nL⟩ := K
  obtain ⟨hexec, hb, hml, hlk, hown, hev, hKn, hA, rfl, rfl⟩ := hK
  obtain ⟨hR, hcat⟩ := az_rm.of hrm
  subst hst
  intro ad H locs ls hlb hag hP hD hS hl1
  have hcd : (Cond.codeWith y cb mL ret hh).before args s = true := hev.1.use cv.1.2 rfl args
  have cw : vx_CSW R s args own idx y cb mL ret hh [.codeWith y cb mL ret hh] rm rm.cells rm.slots n := by
    refine ⟨⟨rfl, rfl, hR.1, hR.2, pay_in (big := [.codeWith y cb mL ret hh]) (args := args) (fun w h9 => by rw [List.mem_singleton.mp h9]; exact hcd) (fun w h9 => ⟨h9, by rw [List.mem_singleton.mp h9]; exact Or.inl rfl⟩), List.mem_cons_self⟩, hcd, hev.1.use cv.1.1 rfl args, ⟨cv.2.1, cv.2.2.1⟩, fun sig h => ?_, hev.1.use hl rfl args, hev.1.use hv rfl args⟩
    have h2 := cv.2.2.2
    rw [h] at h2
    exact (Option.some.inj h2).symm
  refine az_afterL (gr := false) (vx_runSW (As := as.map (az_v ad)) (rest := rest.map (az_v ad)) (Ts := []) (own := own) (nL := nL) ⟨hexec, hb, hml, hown, fun _ h => by cases h⟩ (hM D cA ad H.size) cw
    ⟨az_blindE D cA ad hp H.size _, az_startE hev hKn hN hA hP hD hS (as.map (az_v ad))⟩
    rfl (by rw [List.length_map]; exact hn) hl1.1.1 (by rw [List.map_append, List.map_reverse]) (lv_room (by rw [az_cats]; exact hcat)) (hT.at hi) ⟨hc, hs⟩) hS hD hA (fun r hp' ad' H1 locs1 hΨ hg hlb1 hP1 hD1 hS1 => ?_)
  have := hg rfl
  subst this
  obtain ⟨rfl, rfl⟩ := hΨ
  exact kk ad' H1 locs1 ls (by omega) hag hP1 hD1 hS1 hl1
/-- the same, with the counts side by side -/
theorem AL_cV (hT : az_Tb cc tb) (hK : az_OK K own cc R0 l0) (i : Nat) (as rest : List Value) {cb : ByteArray} {Ψ : Option Value → az_H → Prop} {k cj N9 : Nat} {fs : List Value} {T9 : u_T} (hM : AMet l0 y cb mL ret rm false (.ref k :: as) hp Ψ) (cv : az_Cw y cb mL ret n) (hl : Cond.methodLink own idx y ∈ lw_tbl) (hv : Cond.instanceMethod y ∈ lw_tbl ∧ Cond.selects y.cls y y ∈ lw_tbl)
    (hi : tb[i]? = some (pc, .invokevirtual idx)) (hobj : hp[k]? = some (.inr (cj, fs))) (hcj : vwCl[cj]? = some (y.cls, T9, N9)) (hn : as.length = n) (hst : st = as.reverse ++ .ref k :: rest) (hrm : az_rm rm R0 mL rest = true) (h0 : rm.cells = 0) (h1 : rm.slots = 0) (hc : cells ≤ R0.cells) (hs : slots ≤ R0.slots)
    (kk : ∀ (r : Option Value) (hp' : az_H), Ψ r hp' → AL K lb cells slots (pc + 3) lo (r.toList ++ rest) hp') : AL K lb cells slots pc lo st hp :=
  AL_callV hT hK i as rest hM cv hl hv hi hobj hcj hn hst hrm (by rw [h0]; exact hc) (by rw [h1]; exact hs) (by rw [h0, h1]; exact kk)
theorem AL_cE (hT : az_Tb cc tb) (hK : az_OK K own cc R0 l0) (hN : az_NcL K) (i : Nat) (as rest : List Value) {cb : ByteArray} (hM : AME l0 y (.code y cb mL ret) rm as hp hp2 v d) (cv : az_Cw y cb mL ret n) (hl : Cond.methodLink own idx y ∈ lw_tbl) (hv : Cond.static y ∈ lw_tbl)
    (hi : tb[i]? = some (pc, .invokestatic idx)) (hn : as.length = n) (hst : st = as.reverse ++ rest) (hrm : az_rm rm R0 mL rest = true) (h0 : rm.cells = d) (h1 : rm.slots = 6 * d) (hc : cells + d ≤ R0.cells) (hs : slots + 6 * d ≤ R0.slots)
    (kk : AL K (lb + d) (cells + d) (slots + 6 * d) (pc + 3) lo (v :: rest) hp2) : AL K lb cells slots pc lo st hp :=
  AL_callE hT hK hN i as rest hM cv hl hv hi hn hst hrm (by rw [h0]; exact hc) (by rw [h1]; exact hs) (by rw [h0, h1]; exact kk)
theorem AL_cW (hT : az_Tb cc tb) (hK : az_OK K own cc R0 l0) (hN : az_NcL K) (i : Nat) (as rest : List Value) {cb : ByteArray} (hM : AME l0 y (.codeWith y cb mL ret hh) rm as hp hp2 v d) (cv : az_CwE y (.codeWith y cb mL ret hh) n) (hl : Cond.methodLink own idx y ∈ lw_tbl) (hv : Cond.static y ∈ lw_tbl)
    (hi : tb[i]? = some (pc, .invokestatic idx)) (hn : as.length = n) (hst : st = as.reverse ++ rest) (hrm : az_rm rm R0 mL rest = true) (h0 : rm.cells = d) (h1 : rm.slots = 6 * d) (hc : cells + d ≤ R0.cells) (hs : slots + 6 * d ≤ R0.slots)
    (kk : AL K (lb + d) (cells + d) (slots + 6 * d) (pc + 3) lo (v :: rest) hp2) : AL K lb cells slots pc lo st hp :=
  AL_callEW hT hK hN i as rest hM cv hl hv hi hn hst hrm (by rw [h0]; exact hc) (by rw [h1]; exact hs) (by rw [h0, h1]; exact kk)
theorem AL_cnt {lb' cells' slots' : Nat} (h1 : lb = lb') (h2 : cells = cells') (h3 : slots = slots') (k : AL K lb' cells' slots' pc lo st hp) : AL K lb cells slots pc lo st hp := by
  subst h1 h2 h3
  exact k
/-! the state without papers -/
theorem AL_ld (hT : az_Tb cc tb) (hK : az_OK K own cc R0 l0) (i j n : Nat) {k : Nat} {f : Nat → Int32} (v : Int32) {x : Int32} (hi : tb[i]? = some (pc, .iaload)) (hk : hp[k]? = some (.inl (0, n, .inl f))) (hx : x = nI j) (hj : j < n) (hn : n < 2 ^ 31) (hv : f j = v) (kk : AL K lb cells slots (pc + 1) lo (.int v :: rest) hp) : AL K lb cells slots pc lo (.int x :: .ref k :: rest) hp :=
  AL_iald hT hK i j hi hk hx hj hn (by rw [hv]; exact kk)
def rE : Nat → Int32 := fun i => if i < 12 then -1 else 0
def sE : az_S := (fun _ => 0, va_up (fun _ _ => 0) 36 rE, fun _ _ => 0)
theorem rE_lt {j : Nat} (h : j < 12) : rE j = -1 := by
  unfold rE
  rw [if_pos h]
theorem AL_r (hT : az_Tb cc tb) (hK : az_OK K own cc R0 l0) (i j : Nat) {x : Int32} (hi : tb[i]? = some (pc, .iaload)) (hx : x = nI j) (hj : j < 12) (kk : AL K lb cells slots (pc + 1) lo (.int (-1) :: rest) (wd sE)) : AL K lb cells slots pc lo (.int x :: .ref 36 :: rest) (wd sE) :=
  AL_iald hT hK i j (n := 12) (f := rE) hi rfl hx hj (by decide) (by rw [rE_lt hj]; exact kk)
theorem AL_y (hT : az_Tb cc tb) (hK : az_OK K own cc R0 l0) (i j : Nat) {x : Int32} (hi : tb[i]? = some (pc, .iaload)) (hx : x = nI j) (hj : j < 12) (kk : AL K lb cells slots (pc + 1) lo (.int 0 :: rest) (wd sE)) : AL K lb cells slots pc lo (.int x :: .ref 37 :: rest) (wd sE) :=
  AL_iald hT hK i j (n := 12) (f := fun _ => 0) hi rfl hx hj (by decide) kk
theorem AL_m (hT : az_Tb cc tb) (hK : az_OK K own cc R0 l0) (i : Nat) {x : Int32} (hi : tb[i]? = some (pc, .iaload)) (hx : x = nI 0) (kk : AL K lb cells slots (pc + 1) lo (.int 0 :: rest) (wd sE)) : AL K lb cells slots pc lo (.int x :: .ref 38 :: rest) (wd sE) :=
  AL_iald hT hK i 0 (n := 1) (f := fun _ => 0) hi rfl hx (by decide) (by decide) kk
theorem e_holds0 (σ : az_S) (a : Int32) : x_X5_holds σ 0 a = 0 := by
  unfold x_X5_holds
  have e : ((0 : Int32) >>> (a &&& 31)) &&& 1 = 0 := by simp
  rw [e]
  (repeat' split) <;> first | rfl | (rename_i h; exact absurd rfl h)
theorem e_paper (a : Int32) : x_X5_requirePaper sE a = .inl az_NSE := by
  have h : x_X3_has sE a = 0 := e_holds0 sE a
  simp only [x_X5_requirePaper, h]
  rfl
theorem e_field (a : Int32) : x_X5_requireField sE a = .inl az_NSE := by
  have h : x_X0_isGroup sE a = 0 := e_holds0 sE a
  simp only [x_X5_requireField, h]
  rfl
theorem e_withdraw (a : Int32) : x_X5_withdraw sE a = .inl az_NSE := by simp only [x_X5_withdraw, e_paper]
theorem e_references (a : Int32) : x_X5_references sE a = .inl az_NSE := by simp only [x_X5_references, e_paper]
theorem e_citing (a : Int32) : x_X5_citing sE a = .inl az_NSE := by simp only [x_X5_citing, e_paper]
theorem e_shared (a b : Int32) : x_X5_shared sE a b = .inl az_NSE := by simp only [x_X5_shared, e_paper]
theorem e_joint (a b : Int32) : x_X5_joint sE a b = .inl az_NSE := by simp only [x_X5_joint, e_paper]
theorem e_likenessNumerator (a b : Int32) : x_X5_likenessNumerator sE a b = .inl az_NSE := by simp only [x_X5_likenessNumerator, e_paper]
theorem e_likenessDenominator (a b : Int32) : x_X5_likenessDenominator sE a b = .inl az_NSE := by simp only [x_X5_likenessDenominator, e_paper]
theorem e_fieldOf (a : Int32) : x_X5_fieldOf sE a = .inl az_NSE := by simp only [x_X5_fieldOf, e_paper]
theorem e_gain (a b : Int32) : x_X5_gain sE a b = .inl az_NSE := by simp only [x_X5_gain, e_field]
theorem e_split (a : Int32) : x_X5_split sE a = .inl az_NSE := by simp only [x_X5_split, e_field]
theorem e_count (a b : Int32) : x_X5_count sE a b = .inl az_NSE := by simp only [x_X5_count, e_paper]
theorem e_rise (a b : Int32) : x_X5_rise sE a b = .inl az_NSE := by simp only [x_X5_rise, e_paper]
theorem e_heir (a : Int32) : x_X5_heir sE a = .inl az_NSE := by simp only [x_X5_heir, e_paper]
theorem e_papers : x_X5_papers sE = 0 := by decide +kernel
theorem e_fields : x_X5_fields sE = 0 := by decide +kernel
theorem e_ways : x_X5_ways sE = 0 := by decide +kernel
theorem e_total : x_X5_total sE = 0 := by decide +kernel
theorem e_totalAnew : x_X5_totalAnew sE = 0 := by decide +kernel
theorem e_mainLength : x_X5_mainLength sE = 0 := by decide +kernel
theorem e_mainSum : x_X5_mainSum sE = 0 := by decide +kernel
theorem e_riser : x_X5_riser sE 0 = .inr (-1) := by decide +kernel
end AZLC
