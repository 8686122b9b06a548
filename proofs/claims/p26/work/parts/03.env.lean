/-! what every method may take as given of the machine: the tables' words, moved along; and how a method's contract looks in abstract terms -/
section AZ2
/-- a word that stays true as the run goes on -/
def az_kp : Cond → Bool
  | .castable _ _ => true
  | .declares _ => true
  | .methodLinkNest _ _ _ _ => true
  | w => goodWord w
theorem az_kp_warm {a a' : Array Value} {s U : State} {w : Cond} (hk : az_kp w = true) (hW : s.WarmedH U.vm) (h : w.before a s = true) : w.before a' U = true := by
  unfold az_kp at hk
  split at hk
  · exact va_Nw.use rfl (va_Nw.warmC hW (va_Nw.of rfl h))
  · exact va_Nw.use rfl (va_Nw.warmD hW (va_Nw.of rfl h))
  · exact va_Nw.use rfl (va_Nw.warmM hW (va_Nw.of rfl h))
  · exact word_at hW (good_of_word hk) h
/-- the texts of the exceptions -/
def az_txt : List (String × Nat × String) := [("Cocite", 36, "the year is out of range"), ("Cocite", 44, "a paper that is referred to is not there"), ("Cocite", 52, "all papers have come"), ("Cocite", 164, "the paper is not there"), ("Cocite", 169, "there is no such field"), ("Cocite", 113, "both fields are the same"), ("Cocite", 127, "the paper does not refer to the other one"), ("Cocite", 141, "the main way has no such place")]
def az_wd (s : State) : Prop := ∀ w ∈ lw_tbl, az_kp w = true → w.before #[] s = true
theorem az_wd.warm {s U : State} (hW : s.WarmedH U.vm) (h : az_wd s) : az_wd U := fun w hw hk => az_kp_warm hk hW (h w hw hk)
theorem az_wd.use {s : State} (h : az_wd s) {w : Cond} (hw : w ∈ lw_tbl) (hk : az_kp w = true) (a : Array Value) : w.before a s = true := az_kp_warm hk (State.WarmedH.refl s) (h w hw hk)
theorem az_wd.call {U : State} (h : az_wd U) (g : JFrame) (mk : MethodId) (a : Array Value) : az_wd (U.calling g mk a) := fun w hw hk => az_kp_warm (U := U.calling g mk a) hk (State.WarmedH.refl U) (h w hw hk)
def az_ev (A : Nat → Prop) (U : State) : Prop := az_wd U ∧ vx_Zq Bundle.tN "UNASSIGNED_STACK" Bundle.steD A U U.heap ∧ vx_Zq Bundle.tN "SUPPRESSED_SENTINEL" Bundle.listD A U U.heap ∧ ∀ q ∈ az_txt, ∃ a : Nat, vk_R q.1 q.2.1 q.2.2 a U
theorem az_ev.to {A B : Nat → Prop} {s U : State} {H : Heap} {locs : List Loc} (h : az_ev A s) (hW : s.WarmedH U.vm) (hS : va_S A s.heap H locs) (hU : U.heap = H) (hB : ∀ q, B q → A q) : az_ev B U := by
  obtain ⟨h1, h2, h3, h4⟩ := h
  have z : ∀ {C n d : String}, vx_Zq C n d A s s.heap → vx_Zq C n d B U U.heap := by
    intro C n d k
    rw [hU]
    exact vx_Zq.moved hW.alike ((k.kept hS.2.1).narrow hB)
  exact ⟨h1.warm hW, z h2, z h3, fun q hq => by obtain ⟨a, ha⟩ := h4 q hq; exact ⟨a, vk_R.warm hW ha⟩⟩
theorem az_ev.call {A : Nat → Prop} {U : State} (h : az_ev A U) (g : JFrame) (mk : MethodId) (a : Array Value) : az_ev A (U.calling g mk a) := by
  obtain ⟨h1, h2, h3, h4⟩ := h
  exact ⟨h1.call g mk a, vx_Zq.moved (u := U) (U := U.calling g mk a) (Vm.Alike.refl U.vm) h2, vx_Zq.moved (u := U) (U := U.calling g mk a) (Vm.Alike.refl U.vm) h3, fun q hq => by obtain ⟨a9, ha⟩ := h4 q hq; exact ⟨a9, vk_R.same (u := U) (U := U.calling g mk a) rfl ha⟩⟩
def az_tys (cA : Nat → ClassId) : List (ClassId × FieldType) := [(cA 0, .int)]
/-- the state of the machine that a method's start needs, beside its heap -/
def az_U (D : va_G) (cA : Nat → ClassId) (ad : Nat → Nat) (hp : az_H) (sz : Nat) : State → Prop := fun U =>
  U.heap.size = sz ∧ va_P D vwCl (az_w cA ad hp) U.heap ∧ va_K D vwCl (az_tys cA) U ∧ va_D (fun _ => True) (az_w cA ad hp) ∧ az_ev (va_A (az_w cA ad hp) sz) U
/-- a method's end: the answer and the heap behind it, by Ψ; with gr the heap may have grown -/
def az_Q (D : va_G) (cA : Nat → ClassId) (ad : Nat → Nat) (hp : az_H) (sz : Nat) (gr : Bool) (Ψ : Option Value → az_H → Prop) : Array Value → State → Outcome → State → Prop := fun _ st oc t =>
  (∃ (r : Option Value) (hp' : az_H) (ad' : Nat → Nat), oc = .returned (r.map (az_v ad')) ∧ Ψ r hp' ∧ (gr = false → ad' = ad) ∧ (∀ i, i < hp.length → ad' i = ad i) ∧ va_P D vwCl (az_w cA ad' hp') t.heap ∧ va_D (va_A (az_w cA ad hp) sz) (az_w cA ad' hp')) ∧ va_F (va_A (az_w cA ad hp) sz) st t
/-- the contract of a method that returns -/
def AMet (l : Launch) (y : MethodName) (cc : ByteArray) (maxL : Nat) (ret : Option FieldType) (rm : Room) (gr : Bool) (as : List Value) (hp : az_H) (Ψ : Option Value → az_H → Prop) : Prop :=
  ∀ (D : va_G) (cA : Nat → ClassId) (ad : Nat → Nat) (sz : Nat),
    Met l y [.code y cc maxL ret] rm (va_Pc (as.map (az_v ad)) (az_U D cA ad hp sz)) (az_Q D cA ad hp sz gr Ψ) rm.cells rm.slots (va_A (az_w cA ad hp) sz)
/-- what stays the same while a method runs -/
abbrev az_K : Type := Program × Launch × Env × Room × State × MethodId × Array Value × List Frame × Method × Code × va_G × (Nat → ClassId) × (Nat → Prop) × ((Nat → Nat) → Prop) × (State → Prop) × Nat
def AW (K : az_K) (cells slots pc : Nat) (lo : List (Option Value)) (st : List Value) (hp : az_H) : Prop :=
  match K with
  | (p, l, e, R, s, m, args, below, meth, c, D, cA, A, Ag, Q, nL) =>
    ∀ (ad : Nat → Nat) (H : Heap) (locs : List Loc) (ls : Array Slot), Ag ad → va_P D vwCl (az_w cA ad hp) H → va_D A (az_w cA ad hp) → va_S A s.heap H locs → az_ls ad ls nL lo →
      W p l e R s m args below meth c H locs cells slots Q (F0 m pc ls (st.map (az_v ad)))
def az_OK (K : az_K) (own : String) (cc : ByteArray) (R0 : Room) (l0 : Launch) : Prop :=
  match K with
  | (p, l, e, R, s, m, args, below, meth, c, D, cA, A, Ag, Q, nL) =>
    p.tables.exec = Jvm.exec ∧ c.code = cc ∧ c.maxLocals = nL ∧ meth.locks = false ∧ s.vm.findClass own = some m.cls ∧ az_ev A s ∧ va_K D vwCl (az_tys cA) s ∧ (∀ q, s.heap.size ≤ q → A q) ∧ R = R0 ∧ l = l0
/-- the class whose method it is: its number, its fields -/
def az_Cl (own : String) (ci N : Nat) (T : u_T) (ty : Nat → FieldType) (flt : List (Nat × Nat × Nat)) : Prop :=
  flt ≠ [] → vwCl[ci]? = some (own, T, N) ∧ (∀ w ∈ u_ws own T N, w ∈ lw_tbl ∧ az_kp w = true) ∧ (∀ k, k < N → parseFieldDescriptor (T k).2.2.1 = some (ty k)) ∧ (∀ a, a < N → ∀ b, b < N → a ≠ b → (T a).2.1 ≠ (T b).2.1) ∧
  (∀ k, k < N → (T k).1 = own) ∧ ∀ q ∈ flt, q.2.1 < N ∧ Cond.fieldLink own q.1 own (T q.2.1).2.1 (T q.2.1).2.2.1 ∈ lw_tbl
theorem az_look {flt : List (Nat × Nat × Nat)} {idx : Nat} {f : Nat × Nat} (h : flt.lookup idx = some f) : (idx, f) ∈ flt := by
  induction flt with
  | nil => simp at h
  | cons q t ih =>
    obtain ⟨a, b⟩ := q
    rw [List.lookup_cons] at h
    split at h
    · rename_i hb
      have : idx = a := by simpa using hb
      subst this
      cases h
      exact List.mem_cons_self
    · exact List.mem_cons_of_mem _ (ih h)
end AZ2
