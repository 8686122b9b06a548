/-! the claim as printed falls: at a script that begins -49, -12 the law makes more than the 220 cells that it may make -/
section AZZ
def tau3 : az_S := match x_X5_come sE 3 0 with
  | .inr q => q.2
  | .inl _ => sE
theorem e_come0 : x_X5_come sE 3 0 = .inr (0, tau3) := by
  have h : (match x_X5_come sE 3 0 with
    | .inr q => decide (q.1 = 0)
    | .inl _ => false) = true := by decide +kernel
  unfold tau3
  revert h
  generalize x_X5_come sE 3 0 = z
  intro h
  cases z with
  | inl E => cases h
  | inr q =>
    obtain ⟨a, τ⟩ := q
    have h9 : a = 0 := of_decide_eq_true h
    subst h9
    rfl
theorem e_tau3r : ∀ j, j < 12 → tau3.2.1 36 j = -1 := by decide +kernel
theorem e_tau3m : tau3.2.1 38 0 = 0 := by decide +kernel
theorem e_tau3t : x_X5_total (sTc tau3) = 0 := by decide +kernel
theorem e_TF : TF (sTc tau3) := by
  unfold TF
  exact ⟨by decide +kernel, by decide +kernel, by decide +kernel, by decide +kernel, by decide +kernel, by decide +kernel, by decide +kernel, by decide +kernel, by decide +kernel, by decide +kernel, by decide +kernel, by decide +kernel, by decide +kernel⟩
/-- an invocation that has ended isn't under way -/
theorem ended_not_within {t : State} {below : List Frame} {o : Outcome} (hE : Ended t below o) (hW : Within t below) : False := by
  obtain ⟨above, hf, hne, hth⟩ := hW
  cases o with
  | threw a =>
    have h : t.frames = .throwing a :: below := hE
    rw [hf] at h
    have h2 : above ++ below = [.throwing a] ++ below := h
    exact hth a (List.append_cancel_right h2)
  | returned v =>
    have hlen : t.frames.length = below.length := by
      unfold Ended at hE
      dsimp only at hE
      split at hE
      · obtain ⟨c, i, len, -, -, h⟩ := hE
        rw [h]
        rfl
      · rw [hE]
        rfl
      · rw [hE]
        rfl
      · rw [hE.2]
    rw [hf, List.length_append] at hlen
    cases above with
    | nil => exact hne rfl
    | cons x t => simp at hlen
set_option maxHeartbeats 4000000 in
/-- from every start whose script begins -49, -12 and that has the room of R1 the machine comes to a state whose heap has grown by 221 -/
theorem law_grows {l : Launch} (hflags : l.flags = flags0) {p : Program} {e : Env} (ha : l.admits e) (hcas : FairCas e.choices) (hclk : FairClock e.choices) {s : State} {m : MethodId} {b : Addr} {below : List Frame} {xs : List Int32}
    (hf : s.frames = .invoking m #[.ref b] :: below) (happ : (headSpec (Cond.code x code maxLocals ret :: tables_1) room_1).applies x e.platform s = true) (hroom : s.hasRoom e.platform R1 = true)
    (hgv : (Jvm.Cond.and given_1 narrow_1).before #[Value.ref b] s = true) (hscr : s.IntsAt b (-49 :: -12 :: xs)) : ∃ T : State, Steps p.tables e below s T ∧ s.heap.size + 221 ≤ T.heap.size := by
  obtain ⟨hrun, hable, halone, hname, hhears, hinit, -, hpre⟩ := (Spec.appliesLoose_iff hf).mp ((Spec.applies_iff_loose hf).mp happ).1
  have hts0 : ∀ c ∈ (Jvm.Cond.code x code maxLocals ret :: tables_1), c.before #[Value.ref b] s = true := atoms_spec (ws := Jvm.Cond.code x code maxLocals ret :: tables_1) hpre
  obtain ⟨meth, c, hmeth, hcode, hbytes, hlocals, hret, hlocks, -, -⟩ := Cond.code_spec hname (hts0 _ List.mem_cons_self)
  have hcur := State.cur_lt_of_frames hf
  have hf1 : (s.setFrames (.java (entryFrame m #[.ref b] maxLocals) :: below)).frames = .java (entryFrame m #[.ref b] maxLocals) :: below := State.frames_setFrames _ hcur
  have ht1 := State.topJava?_of_frames hf1
  have hplain : (s.setFrames (.java (entryFrame m #[.ref b] maxLocals) :: below)).plainMethod m := State.plainMethod.of_named (s := s) (x := x) (plainFor_of_name (by decide)) hname hmeth
  have hAt : At (s.setFrames (.java (entryFrame m #[.ref b] maxLocals) :: below)) m c below :=
    ⟨by rw [ht1]; rfl, ⟨[], by rw [hf1]; rfl⟩, hrun, by simpa using hable, by simpa using halone, by rw [State.code?_eq]; simp [State.setFrames, hmeth, hcode], hplain⟩
  have hstep : (stepThread p.tables e s).1 = (s.setFrames (.java (entryFrame m #[.ref b] maxLocals) :: below)).setTop (entryFrame m #[.ref b] maxLocals) := by
    have hfull : e.platform.stackFull (s.setFrames below).me (s.setFrames below).frames c.maxLocals = false := by
      obtain ⟨-, h1, -, h2⟩ := State.hasRoom_stack hroom
      rw [hf, List.length_cons] at h1
      rw [State.localsInUse_invoking hf hmeth hcode] at h2
      have hw := stackUse_le_stackWeight below
      rw [State.frames_setFrames _ hcur]
      have e1 : R1.frames = 12 := rfl
      have e2 : R1.locals = 456 := rfl
      exact Platform.stackFull_eq_false (by rw [State.stackLimits_setFrames]; omega) (by rw [State.stackLimits_setFrames]; omega)
    rw [stepThread_invoking hf, (doInvoke_java (s := s.setFrames below) (e := e) (meth := meth) (code := c) hmeth hcode hlocks hfull).1, State.setTop_self ht1]
    simp only [State.pushFrame, State.frames_setFrames _ hcur, State.setFrames_setFrames, hlocals, entryFrame]
  have B : BodyLoose p l x (headSpec (Jvm.Cond.code x code maxLocals ret :: tables_1) R1) code maxLocals ret e s m #[.ref b] below meth c (s.setFrames (.java (entryFrame m #[.ref b] maxLocals) :: below)) :=
    ⟨ha, hcas, hclk, by cases p <;> rfl, hf, hname, hhears, hinit, hroom, hpre, hmeth, hret, hlocks, hbytes, rfl, hAt⟩
  obtain ⟨scr, harrAt, hlist, hof, hsmall⟩ := hscr
  obtain ⟨hcb, hkn, -, -⟩ := State.arrayAt?_spec harrAt
  have hown : s.vm.findClass RL = some m.cls := findClass_of_methodNamed B.named
  have hts : ∀ w ∈ lw_tbl, w.before #[Value.ref b] s = true := k2_hts_sels lw_privs (fun w hw => hts0 w (List.mem_cons_of_mem _ hw)) lw_privs_ok
  have hml : c.maxLocals = 12 := hlocals
  have hsz : scr.slots.size = (-49 :: -12 :: xs).length := by rw [← Array.length_toList, hlist, List.length_map]
  have hval : ∀ j : Nat, j < (-49 :: -12 :: xs).length → scr.slots[j]? = some (.int ((-49 :: -12 :: xs).getD j 0)) := fun j hj => by
    rw [← Array.getElem?_toList, hlist, List.getElem?_map, List.getElem?_eq_getElem hj]
    simp only [Option.map_some, List.getD_eq_getElem?_getD, List.getElem?_eq_getElem hj, Option.getD_some]
  have hbl : b < s.heap.size := (Array.getElem?_eq_some_iff.mp hcb).1
  have hX : va_X b (-49 :: -12 :: xs).length (fun j => (-49 :: -12 :: xs).getD j 0) s s.heap := ⟨scr, hcb, hof, hkn, hsz, hval⟩
  obtain ⟨D, cA, hKn⟩ := law_known hts
  have hs := flat_of_before _ hgv
  have hl0 : l.stackTraces = false := by unfold Launch.stackTraces; rw [hflags]; decide +kernel
  have hOK : az_OK (p, l, e, R1, s, m, #[Value.ref b], below, meth, c, D, cA, (fun q => s.heap.size ≤ q), (fun ad => ad 46 = b), (fun T : State => s.heap.size + 221 ≤ T.heap.size), 12) RL cL_law R1 l :=
    ⟨B.exec, B.bytes, hml, B.notSynchronized, hown, law_ev hts hgv, hKn, fun _ h => h, rfl, rfl⟩
  have hG : az_GrL (p, l, e, R1, s, m, #[Value.ref b], below, meth, c, D, cA, (fun q => s.heap.size ≤ q), (fun ad => ad 46 = b), (fun T : State => s.heap.size + 221 ≤ T.heap.size), 12) := fun ad ad' h1 h2 => (h1 46 (Nat.le_refl _)).trans h2
  have hSc : az_Scr (p, l, e, R1, s, m, #[Value.ref b], below, meth, c, D, cA, (fun q => s.heap.size ≤ q), (fun ad => ad 46 = b), (fun T : State => s.heap.size + 221 ≤ T.heap.size), 12) b (-49 :: -12 :: xs).length (fun j => (-49 :: -12 :: xs).getD j 0) := ⟨hX, hbl, Nat.not_le.mpr hbl, fun _ h => h⟩
  have hN : az_NcL (p, l, e, R1, s, m, #[Value.ref b], below, meth, c, D, cA, (fun q => s.heap.size ≤ q), (fun ad => ad 46 = b), (fun T : State => s.heap.size + 221 ≤ T.heap.size), 12) :=
    ⟨va_Nc.of (args := #[Value.ref b]) (hs _ (by decide +kernel)), va_Nc.of (args := #[Value.ref b]) (hs _ (by decide +kernel))⟩
  have hgo := law_walk (l0 := l) hl0 hOK hN hSc (by simp) hsmall rfl rfl (fun T h => h) tau3 e_come0 e_tau3r e_tau3m e_tau3t e_TF
  have hfirst := law_first hOK hG (AW_ALn (hp := wd sE) (fun q h => h) hgo)
  have hle := lv_entry ([Value.ref b]) (n := 12) (Nat.le_of_ble_eq_true rfl)
  have k9 := hfirst (fun _ => b) s.heap [] ((lg_sl ([Value.ref b]) ++ List.replicate (12 - (lg_sl ([Value.ref b])).length) Slot.unset).toArray) rfl (fun k q h => by simp [az_w] at h) ⟨fun i j p q h => by simp [az_w] at h, fun k q h => by simp [az_w] at h⟩ va_S.rf ⟨hle, rfl⟩
  have K9 : W p l e R1 s m #[Value.ref b] below meth c s.heap [] 0 0 (fun T : State => s.heap.size + 221 ≤ T.heap.size) (entryFrame m ([Value.ref b] : List Value).toArray 12) := by
    rw [lg_entry_eq]
    exact k9
  obtain ⟨t, a1, b1⟩ := K9 _ (by rw [B.state]; rfl) (Stand.of_body B)
  exact ⟨t, Steps.head (tb := p.tables) (e := e) ⟨hrun, hable, halone⟩ ⟨[.invoking m #[.ref b]], hf, by simp, by simp⟩ (by rw [hstep]; exact a1), b1⟩
/-- THE CLAIM AS PRINTED IS FALSE wherever such a start is: its end owes a heap grown by at most 220 -/
theorem p26_falls {l : Launch} (hflags : l.flags = flags0) {p : Program} {e : Env} {s : State} {m : MethodId} {b : Addr} {below : List Frame} {xs : List Int32}
    (h : AtStart classFile x code maxLocals ret World_1 tables_1 room_1 Calls_1 rest_1 Pre_1 l p e s m #[.ref b] below) (hroom : s.hasRoom e.platform R1 = true) (hscr : s.IntsAt b (-49 :: -12 :: xs)) : ¬ Claimed_1_1 := by
  intro hC
  obtain ⟨hL, hw, ha, -, hcas, hclk, hf, hfit, hheap, happ, hcalls, hrest, hpre⟩ := h
  obtain ⟨n, o, hwith, -, hend, -, -, -, hsame⟩ := hC l hflags hL hw p e ha hcas hclk s m _ below hf hfit hheap happ ⟨hcalls, hrest, hpre⟩
  obtain ⟨T, ⟨n1, h1, hw1⟩, hbig⟩ := law_grows hflags ha hcas hclk hf happ hroom hpre hscr
  have hle : (stepsAlone p.tables e n s).heap.size ≤ s.heap.size + 220 := hsame.2.2.1
  rcases Nat.lt_or_ge n n1 with h9 | h9
  · exact ended_not_within hend (hw1 n h9)
  · obtain ⟨d, rfl⟩ : ∃ d, n = n1 + d := ⟨n - n1, by omega⟩
    rw [stepsAlone_add, h1] at hle
    have h8 := stepsAlone_heap_le p.tables e d T
    omega
end AZZ
