/-! branches, arrays, returns, calls; a method's contract out of a walk in abstract terms -/
section AZ4
variable {K : az_K} {own : String} {cc : ByteArray} {R0 : Room} {l0 : Launch} {tb : List (Nat × Instr)} {cells slots pc : Nat} {lo : List (Option Value)} {st rest : List Value} {hp : az_H}
theorem AW_goto (hT : az_Tb cc tb) (hK : az_OK K own cc R0 l0) (i : Nat) {off : Int} {tgt : Nat} (hi : tb[i]? = some (pc, .goto off)) (ht : (pc : Int) + off = (tgt : Int)) (k : AW K cells slots tgt lo st hp) : AW K cells slots pc lo st hp := by
  obtain ⟨p, l, e, R, s, m, args, below, meth, c, D, cA, A, Ag, Q, nL⟩ := K
  obtain ⟨hexec, hb, -⟩ := hK
  intro ad H locs ls hag hP hD hS hl
  exact lv_goto hexec hb (hT.at hi) ht (k ad H locs ls hag hP hD hS hl)
theorem AW_if_eq (hT : az_Tb cc tb) (hK : az_OK K own cc R0 l0) (i : Nat) {off : Int} {tgt : Nat} {x : Int32} (hi : tb[i]? = some (pc, .ifCond .eq off)) (ht : (pc : Int) + off = (tgt : Int)) (kt : x = 0 → AW K cells slots tgt lo rest hp) (kf : ¬ x = 0 → AW K cells slots (pc + 3) lo rest hp) : AW K cells slots pc lo (.int x :: rest) hp := by
  obtain ⟨p, l, e, R, s, m, args, below, meth, c, D, cA, A, Ag, Q, nL⟩ := K
  obtain ⟨hexec, hb, -⟩ := hK
  intro ad H locs ls hag hP hD hS hl
  exact lv_if_eq hexec hb (hT.at hi) ht (fun z => kt z ad H locs ls hag hP hD hS hl) (fun z => kf z ad H locs ls hag hP hD hS hl)
theorem AW_icmp_eq (hT : az_Tb cc tb) (hK : az_OK K own cc R0 l0) (i : Nat) {off : Int} {tgt : Nat} {x y : Int32} (hi : tb[i]? = some (pc, .if_icmp .eq off)) (ht : (pc : Int) + off = (tgt : Int)) (kt : x = y → AW K cells slots tgt lo rest hp) (kf : ¬ x = y → AW K cells slots (pc + 3) lo rest hp) : AW K cells slots pc lo (.int y :: .int x :: rest) hp := by
  obtain ⟨p, l, e, R, s, m, args, below, meth, c, D, cA, A, Ag, Q, nL⟩ := K
  obtain ⟨hexec, hb, -⟩ := hK
  intro ad H locs ls hag hP hD hS hl
  exact lv_icmp_eq hexec hb (hT.at hi) ht (fun z => kt z ad H locs ls hag hP hD hS hl) (fun z => kf z ad H locs ls hag hP hD hS hl)
theorem AW_if_ne (hT : az_Tb cc tb) (hK : az_OK K own cc R0 l0) (i : Nat) {off : Int} {tgt : Nat} {x : Int32} (hi : tb[i]? = some (pc, .ifCond .ne off)) (ht : (pc : Int) + off = (tgt : Int)) (kt : ¬ x = 0 → AW K cells slots tgt lo rest hp) (kf : x = 0 → AW K cells slots (pc + 3) lo rest hp) : AW K cells slots pc lo (.int x :: rest) hp := by
  obtain ⟨p, l, e, R, s, m, args, below, meth, c, D, cA, A, Ag, Q, nL⟩ := K
  obtain ⟨hexec, hb, -⟩ := hK
  intro ad H locs ls hag hP hD hS hl
  exact lv_if_ne hexec hb (hT.at hi) ht (fun z => kt z ad H locs ls hag hP hD hS hl) (fun z => kf z ad H locs ls hag hP hD hS hl)
theorem AW_icmp_ne (hT : az_Tb cc tb) (hK : az_OK K own cc R0 l0) (i : Nat) {off : Int} {tgt : Nat} {x y : Int32} (hi : tb[i]? = some (pc, .if_icmp .ne off)) (ht : (pc : Int) + off = (tgt : Int)) (kt : ¬ x = y → AW K cells slots tgt lo rest hp) (kf : x = y → AW K cells slots (pc + 3) lo rest hp) : AW K cells slots pc lo (.int y :: .int x :: rest) hp := by
  obtain ⟨p, l, e, R, s, m, args, below, meth, c, D, cA, A, Ag, Q, nL⟩ := K
  obtain ⟨hexec, hb, -⟩ := hK
  intro ad H locs ls hag hP hD hS hl
  exact lv_icmp_ne hexec hb (hT.at hi) ht (fun z => kt z ad H locs ls hag hP hD hS hl) (fun z => kf z ad H locs ls hag hP hD hS hl)
theorem AW_if_lt (hT : az_Tb cc tb) (hK : az_OK K own cc R0 l0) (i : Nat) {off : Int} {tgt : Nat} {x : Int32} (hi : tb[i]? = some (pc, .ifCond .lt off)) (ht : (pc : Int) + off = (tgt : Int)) (kt : x < 0 → AW K cells slots tgt lo rest hp) (kf : ¬ x < 0 → AW K cells slots (pc + 3) lo rest hp) : AW K cells slots pc lo (.int x :: rest) hp := by
  obtain ⟨p, l, e, R, s, m, args, below, meth, c, D, cA, A, Ag, Q, nL⟩ := K
  obtain ⟨hexec, hb, -⟩ := hK
  intro ad H locs ls hag hP hD hS hl
  exact lv_if_lt hexec hb (hT.at hi) ht (fun z => kt z ad H locs ls hag hP hD hS hl) (fun z => kf z ad H locs ls hag hP hD hS hl)
theorem AW_icmp_lt (hT : az_Tb cc tb) (hK : az_OK K own cc R0 l0) (i : Nat) {off : Int} {tgt : Nat} {x y : Int32} (hi : tb[i]? = some (pc, .if_icmp .lt off)) (ht : (pc : Int) + off = (tgt : Int)) (kt : x < y → AW K cells slots tgt lo rest hp) (kf : ¬ x < y → AW K cells slots (pc + 3) lo rest hp) : AW K cells slots pc lo (.int y :: .int x :: rest) hp := by
  obtain ⟨p, l, e, R, s, m, args, below, meth, c, D, cA, A, Ag, Q, nL⟩ := K
  obtain ⟨hexec, hb, -⟩ := hK
  intro ad H locs ls hag hP hD hS hl
  exact lv_icmp_lt hexec hb (hT.at hi) ht (fun z => kt z ad H locs ls hag hP hD hS hl) (fun z => kf z ad H locs ls hag hP hD hS hl)
theorem AW_if_ge (hT : az_Tb cc tb) (hK : az_OK K own cc R0 l0) (i : Nat) {off : Int} {tgt : Nat} {x : Int32} (hi : tb[i]? = some (pc, .ifCond .ge off)) (ht : (pc : Int) + off = (tgt : Int)) (kt : 0 ≤ x → AW K cells slots tgt lo rest hp) (kf : ¬ 0 ≤ x → AW K cells slots (pc + 3) lo rest hp) : AW K cells slots pc lo (.int x :: rest) hp := by
  obtain ⟨p, l, e, R, s, m, args, below, meth, c, D, cA, A, Ag, Q, nL⟩ := K
  obtain ⟨hexec, hb, -⟩ := hK
  intro ad H locs ls hag hP hD hS hl
  exact lv_if_ge hexec hb (hT.at hi) ht (fun z => kt z ad H locs ls hag hP hD hS hl) (fun z => kf z ad H locs ls hag hP hD hS hl)
theorem AW_icmp_ge (hT : az_Tb cc tb) (hK : az_OK K own cc R0 l0) (i : Nat) {off : Int} {tgt : Nat} {x y : Int32} (hi : tb[i]? = some (pc, .if_icmp .ge off)) (ht : (pc : Int) + off = (tgt : Int)) (kt : y ≤ x → AW K cells slots tgt lo rest hp) (kf : ¬ y ≤ x → AW K cells slots (pc + 3) lo rest hp) : AW K cells slots pc lo (.int y :: .int x :: rest) hp := by
  obtain ⟨p, l, e, R, s, m, args, below, meth, c, D, cA, A, Ag, Q, nL⟩ := K
  obtain ⟨hexec, hb, -⟩ := hK
  intro ad H locs ls hag hP hD hS hl
  exact lv_icmp_ge hexec hb (hT.at hi) ht (fun z => kt z ad H locs ls hag hP hD hS hl) (fun z => kf z ad H locs ls hag hP hD hS hl)
theorem AW_if_gt (hT : az_Tb cc tb) (hK : az_OK K own cc R0 l0) (i : Nat) {off : Int} {tgt : Nat} {x : Int32} (hi : tb[i]? = some (pc, .ifCond .gt off)) (ht : (pc : Int) + off = (tgt : Int)) (kt : 0 < x → AW K cells slots tgt lo rest hp) (kf : ¬ 0 < x → AW K cells slots (pc + 3) lo rest hp) : AW K cells slots pc lo (.int x :: rest) hp := by
  obtain ⟨p, l, e, R, s, m, args, below, meth, c, D, cA, A, Ag, Q, nL⟩ := K
  obtain ⟨hexec, hb, -⟩ := hK
  intro ad H locs ls hag hP hD hS hl
  exact lv_if_gt hexec hb (hT.at hi) ht (fun z => kt z ad H locs ls hag hP hD hS hl) (fun z => kf z ad H locs ls hag hP hD hS hl)
theorem AW_icmp_gt (hT : az_Tb cc tb) (hK : az_OK K own cc R0 l0) (i : Nat) {off : Int} {tgt : Nat} {x y : Int32} (hi : tb[i]? = some (pc, .if_icmp .gt off)) (ht : (pc : Int) + off = (tgt : Int)) (kt : y < x → AW K cells slots tgt lo rest hp) (kf : ¬ y < x → AW K cells slots (pc + 3) lo rest hp) : AW K cells slots pc lo (.int y :: .int x :: rest) hp := by
  obtain ⟨p, l, e, R, s, m, args, below, meth, c, D, cA, A, Ag, Q, nL⟩ := K
  obtain ⟨hexec, hb, -⟩ := hK
  intro ad H locs ls hag hP hD hS hl
  exact lv_icmp_gt hexec hb (hT.at hi) ht (fun z => kt z ad H locs ls hag hP hD hS hl) (fun z => kf z ad H locs ls hag hP hD hS hl)
theorem AW_if_le (hT : az_Tb cc tb) (hK : az_OK K own cc R0 l0) (i : Nat) {off : Int} {tgt : Nat} {x : Int32} (hi : tb[i]? = some (pc, .ifCond .le off)) (ht : (pc : Int) + off = (tgt : Int)) (kt : x ≤ 0 → AW K cells slots tgt lo rest hp) (kf : ¬ x ≤ 0 → AW K cells slots (pc + 3) lo rest hp) : AW K cells slots pc lo (.int x :: rest) hp := by
  obtain ⟨p, l, e, R, s, m, args, below, meth, c, D, cA, A, Ag, Q, nL⟩ := K
  obtain ⟨hexec, hb, -⟩ := hK
  intro ad H locs ls hag hP hD hS hl
  exact lv_if_le hexec hb (hT.at hi) ht (fun z => kt z ad H locs ls hag hP hD hS hl) (fun z => kf z ad H locs ls hag hP hD hS hl)
theorem AW_icmp_le (hT : az_Tb cc tb) (hK : az_OK K own cc R0 l0) (i : Nat) {off : Int} {tgt : Nat} {x y : Int32} (hi : tb[i]? = some (pc, .if_icmp .le off)) (ht : (pc : Int) + off = (tgt : Int)) (kt : x ≤ y → AW K cells slots tgt lo rest hp) (kf : ¬ x ≤ y → AW K cells slots (pc + 3) lo rest hp) : AW K cells slots pc lo (.int y :: .int x :: rest) hp := by
  obtain ⟨p, l, e, R, s, m, args, below, meth, c, D, cA, A, Ag, Q, nL⟩ := K
  obtain ⟨hexec, hb, -⟩ := hK
  intro ad H locs ls hag hP hD hS hl
  exact lv_icmp_le hexec hb (hT.at hi) ht (fun z => kt z ad H locs ls hag hP hD hS hl) (fun z => kf z ad H locs ls hag hP hD hS hl)
theorem AW_iald (hT : az_Tb cc tb) (hK : az_OK K own cc R0 l0) (i j : Nat) {k n : Nat} {x : Int32} {f : Nat → Int32} (hi : tb[i]? = some (pc, .iaload)) (hk : hp[k]? = some (.inl (0, n, .inl f))) (hx : x = nI j) (hj : j < n) (hn : n < 2 ^ 31) (kk : AW K cells slots (pc + 1) lo (.int (f j) :: rest) hp) : AW K cells slots pc lo (.int x :: .ref k :: rest) hp := by
  obtain ⟨p, l, e, R, s, m, args, below, meth, c, D, cA, A, Ag, Q, nL⟩ := K
  obtain ⟨hexec, hb, -, -, -, -, hKn, -⟩ := hK
  intro ad H locs ls hag hP hD hS hl
  subst hx
  exact va_iald hexec hb hKn hP _ 0 (az_w_at hk) rfl (vp_in_nI hj hn) (hT.at hi) (by rw [nI_clamp (Nat.lt_trans hj hn)]; exact kk ad H locs ls hag hP hD hS hl)
theorem AW_iast (hT : az_Tb cc tb) (hK : az_OK K own cc R0 l0) (i j : Nat) {k n : Nat} {x : Int32} {v : Int32} {f : Nat → Int32} (hi : tb[i]? = some (pc, .iastore)) (hk : hp[k]? = some (.inl (0, n, .inl f))) (hx : x = nI j) (hj : j < n) (hn : n < 2 ^ 31) (kk : AW K cells slots (pc + 1) lo rest (hp.set k (.inl (0, n, .inl (upd f j v))))) : AW K cells slots pc lo (.int v :: .int x :: .ref k :: rest) hp := by
  obtain ⟨p, l, e, R, s, m, args, below, meth, c, D, cA, A, Ag, Q, nL⟩ := K
  obtain ⟨hexec, hb, -, -, -, -, hKn, -⟩ := hK
  intro ad H locs ls hag hP hD hS hl
  subst hx
  refine va_iast hexec hb hKn hP hD hS _ 0 (az_w_at hk) rfl (vp_in_nI hj hn) (hT.at hi) (fun H1 locs1 hP1 hD1 hS1 => ?_)
  rw [nI_clamp (Nat.lt_trans hj hn)] at hP1 hD1
  exact kk ad H1 locs1 ls hag (by rw [az_w_set]; exact hP1) (by rw [az_w_set]; exact hD1) hS1 hl
/-- the same, written otherwise -/
theorem AW_to {lo' : List (Option Value)} {st' : List Value} {hp' : az_H} (h1 : lo = lo') (h2 : st = st') (h3 : hp = hp') (k : AW K cells slots pc lo' st' hp') : AW K cells slots pc lo st hp := by
  subst h1 h2 h3
  exact k
theorem AW_widen {a b : Nat} (h1 : cells ≤ a) (h2 : slots ≤ b) (k : AW K a b pc lo st hp) : AW K cells slots pc lo st hp := by
  obtain ⟨p, l, e, R, s, m, args, below, meth, c, D, cA, A, Ag, Q, nL⟩ := K
  intro ad H locs ls hag hP hD hS hl
  exact W.widen h1 h2 (k ad H locs ls hag hP hD hS hl)
/-- locals forgotten -/
theorem AW_lo {lo' : List (Option Value)} (hlen : lo'.length = lo.length) (hs : ∀ (i : Nat) (v : Value), lo'[i]? = some (some v) → lo[i]? = some (some v)) (k : AW K cells slots pc lo' st hp) : AW K cells slots pc lo st hp := by
  obtain ⟨p, l, e, R, s, m, args, below, meth, c, D, cA, A, Ag, Q, nL⟩ := K
  intro ad H locs ls hag hP hD hS hl
  exact k ad H locs ls hag hP hD hS (az_ls_sub hl hlen hs)
/-- what a return owes -/
def az_End (K : az_K) (cc : ByteArray) (ret : Option FieldType) (R0 : Room) (Ψ : Option Value → az_H → Prop) : Prop :=
  ∀ (cells slots pc : Nat) (lo : List (Option Value)) (hp : az_H), cells ≤ R0.cells → slots ≤ R0.slots →
    (∀ (v : Int32) (ty : FieldType), ret = some ty → narrow ty (.int v) = .int v → decode cc pc = .ok (.ireturn, 1) → Ψ (some (.int v)) hp → AW K cells slots pc lo [.int v] hp) ∧
    (∀ v : Int64, ret = some .long → decode cc pc = .ok (.lreturn, 1) → Ψ (some (.long v)) hp → AW K cells slots pc lo [.long v] hp) ∧
    (ret = none → decode cc pc = .ok (.return_, 1) → Ψ none hp → AW K cells slots pc lo [] hp)
theorem AW_iret {ret : Option FieldType} {Ψ : Option Value → az_H → Prop} (hT : az_Tb cc tb) (hE : az_End K cc ret R0 Ψ) (i : Nat) {v : Int32} {ty : FieldType} (hi : tb[i]? = some (pc, .ireturn)) (hr : ret = some ty) (hn : narrow ty (.int v) = .int v) (hc : cells ≤ R0.cells) (hs : slots ≤ R0.slots) (h : Ψ (some (.int v)) hp) : AW K cells slots pc lo [.int v] hp :=
  (hE cells slots pc lo hp hc hs).1 v ty hr hn (hT.at hi) h
theorem AW_lret {Ψ : Option Value → az_H → Prop} (hT : az_Tb cc tb) (hE : az_End K cc (some .long) R0 Ψ) (i : Nat) {v : Int64} (hi : tb[i]? = some (pc, .lreturn)) (hc : cells ≤ R0.cells) (hs : slots ≤ R0.slots) (h : Ψ (some (.long v)) hp) : AW K cells slots pc lo [.long v] hp :=
  (hE cells slots pc lo hp hc hs).2.1 v rfl (hT.at hi) h
theorem AW_vret {Ψ : Option Value → az_H → Prop} (hT : az_Tb cc tb) (hE : az_End K cc none R0 Ψ) (i : Nat) (hi : tb[i]? = some (pc, .return_)) (hc : cells ≤ R0.cells) (hs : slots ≤ R0.slots) (h : Ψ none hp) : AW K cells slots pc lo [] hp :=
  (hE cells slots pc lo hp hc hs).2.2 rfl (hT.at hi) h
/-- may the heap grow -/
def az_Gr (K : az_K) (gr : Bool) (n0 : Nat) : Prop :=
  match K with
  | (_, _, _, _, _, _, _, _, _, _, _, _, _, Ag, _, _) => gr = true → ∀ (ad : Nat → Nat) (n a : Nat), n0 ≤ n → Ag ad → Ag (va_up ad n a)
theorem az_entry (ad : Nat → Nat) (as : List Value) (n : Nat) (hcat : ∀ v ∈ as, v.category = 1) : ∀ (k : Nat) (q : Nat × Value), q ∈ az_lv ad k (as.map some ++ List.replicate n none) → q ∈ lv_args k (as.map (az_v ad)) := by
  induction as with
  | nil =>
    intro k q hq
    exfalso
    obtain ⟨i, v, h1, -⟩ := (az_lv_mem ad _ k q).mp hq
    simp [List.getElem?_replicate] at h1
  | cons v t ih =>
    intro k q hq
    have hc : (az_v ad v).category = 1 := by rw [az_v_cat]; exact hcat v List.mem_cons_self
    rw [List.map_cons, List.cons_append] at hq
    unfold az_lv at hq
    rw [List.map_cons]
    unfold lv_args
    rw [if_neg (by rw [hc]; decide)]
    rcases List.mem_cons.mp hq with h | h
    · exact List.mem_cons.mpr (Or.inl h)
    · exact List.mem_cons_of_mem _ (ih (fun w hw => hcat w (List.mem_cons_of_mem _ hw)) (k + 1) q h)
theorem az_sl_len (ad : Nat → Nat) (as : List Value) (hcat : ∀ v ∈ as, v.category = 1) : (lg_sl (as.map (az_v ad))).length = as.length := by
  induction as with
  | nil => rfl
  | cons v t ih =>
    have hc : (az_v ad v).category = 1 := by rw [az_v_cat]; exact hcat v List.mem_cons_self
    have h := ih (fun w hw => hcat w (List.mem_cons_of_mem _ hw))
    unfold lg_sl at h ⊢
    rw [List.map_cons, List.flatMap_cons, if_neg (by rw [hc]; decide), List.length_append, h, List.length_cons]
    simp only [List.length_cons, List.length_nil]
    omega
/-- a method's contract, out of a walk in abstract terms -/
theorem AMet_of {y : MethodName} {maxL : Nat} {ret : Option FieldType} {rm : Room} {gr : Bool} {as : List Value} {hp0 : az_H} {Ψ : Option Value → az_H → Prop} (hy : plainName y.cls = true) (hcat : ∀ v ∈ as, v.category = 1) (hlen : as.length ≤ maxL)
    (body : ∀ K : az_K, az_OK K y.cls cc rm l0 → (y.name = "<init>" → K.2.2.2.2.2.2.2.2.1.name = "<init>") → az_Gr K gr hp0.length → az_End K cc ret rm Ψ → AW K 0 0 0 (as.map some ++ List.replicate (maxL - as.length) none) [] hp0) : AMet l0 y cc maxL ret rm gr as hp0 Ψ := by
  intro D cA ad0 sz
  refine Met.ofW (cc := cc) (maxL := maxL) (ret := ret) hy rfl ?_
  intro p e s m args below meth c s₁ B hml hv
  obtain ⟨rfl, hsz, hP, hKn, hD0, hev⟩ := hv
  subst hsz
  have hD := hD0.self (sz := s.heap.size)
  have hA : ∀ q : Nat, s.heap.size ≤ q → va_A (az_w cA ad0 hp0) s.heap.size q := fun q h => Or.inr h
  have hl := lv_entry (as.map (az_v ad0)) (n := maxL) (by rw [az_sl_len ad0 as hcat]; exact hlen)
  rw [lg_entry_eq]
  have hl2 : az_ls ad0 ((lg_sl (as.map (az_v ad0)) ++ List.replicate (maxL - (lg_sl (as.map (az_v ad0))).length) Slot.unset).toArray) maxL (as.map some ++ List.replicate (maxL - as.length) none) :=
    ⟨⟨hl.1, hl.2.1, fun q hq => hl.2.2 q (az_entry ad0 as _ hcat 0 q hq)⟩, by simp; omega⟩
  refine body (p, l0, e, rm, s, m, (as.map (az_v ad0)).toArray, below, meth, c, D, cA, va_A (az_w cA ad0 hp0) s.heap.size, fun ad' => (gr = false → ad' = ad0) ∧ ∀ i, i < hp0.length → ad' i = ad0 i, _, maxL)
    ⟨B.exec, B.bytes, hml, B.notSynchronized, findClass_of_methodNamed B.named, hev, hKn, hA, rfl, rfl⟩ ?_ ?_ ?_ ad0 s.heap [] _ ⟨fun _ => rfl, fun _ _ => rfl⟩ hP hD va_S.rf hl2
  · intro hy2
    exact (name_of_methodNamed B.named B.method).1.trans hy2
  · intro hg ad n a hn h
    refine ⟨fun hg2 => (by rw [hg] at hg2; cases hg2), fun i hi => ?_⟩
    unfold va_up
    rw [if_neg (by omega)]
    exact h.2 i hi
  · intro cells slots pc lo hp hc hs
    refine ⟨fun v ty hr hn hd h => ?_, fun v hr hd h => ?_, fun hr hd h => ?_⟩
    · intro ad H locs ls hag hP1 hD1 hS1 hl1
      refine W.widen hc hs ?_
      exact W.zret (v := v) B.exec B.bytes (B.returns.trans hr) hn (fun t ht hW => ⟨⟨some (.int v), hp, ad, rfl, h, hag.1, hag.2, by rw [ht]; exact hP1, hD1⟩, hS1.F ht⟩) hS1.2.2 hd B.notSynchronized
    · intro ad H locs ls hag hP1 hD1 hS1 hl1
      refine W.widen hc hs ?_
      exact W.lret (v := v) B.exec B.bytes (B.returns.trans hr) (fun t ht hW => ⟨⟨some (.long v), hp, ad, rfl, h, hag.1, hag.2, by rw [ht]; exact hP1, hD1⟩, hS1.F ht⟩) hS1.2.2 hd B.notSynchronized
    · intro ad H locs ls hag hP1 hD1 hS1 hl1
      refine W.widen hc hs ?_
      exact W.vret B.exec B.bytes (B.returns.trans hr) (fun t ht hW => ⟨⟨none, hp, ad, rfl, h, hag.1, hag.2, by rw [ht]; exact hP1, hD1⟩, hS1.F ht⟩) hS1.2.2 hd B.notSynchronized
end AZ4
