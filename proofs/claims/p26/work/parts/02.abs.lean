/-! THE ABSTRACT MACHINE: heaps as lists of cells, a reference is a place in the list; straight code is run by a function (az_run), its soundness is proved once -/
section AZ1
abbrev az_E : Type := (Nat × vp_A) ⊕ (Nat × List Value)
abbrev az_H : Type := List az_E
def az_v (ad : Nat → Nat) : Value → Value
  | .ref k => .ref (ad k)
  | v => v
theorem az_v_cat (ad : Nat → Nat) (v : Value) : (az_v ad v).category = v.category := by cases v <;> rfl
def az_e (cA : Nat → ClassId) (ad : Nat → Nat) : az_E → va_E
  | .inl q => .inl (cA q.1, q.2)
  | .inr q => .inr (q.1, q.2.map (az_v ad))
def az_w (cA : Nat → ClassId) (ad : Nat → Nat) (hp : az_H) : va_W := hp.mapIdx (fun i e => (ad i, az_e cA ad e))
theorem az_w_at {cA : Nat → ClassId} {ad : Nat → Nat} {hp : az_H} {k : Nat} {e : az_E} (h : hp[k]? = some e) : (az_w cA ad hp)[k]? = some (ad k, az_e cA ad e) := by
  unfold az_w
  rw [List.getElem?_mapIdx, h]
  rfl
theorem az_w_set (cA : Nat → ClassId) (ad : Nat → Nat) (hp : az_H) (k : Nat) (e : az_E) : az_w cA ad (hp.set k e) = (az_w cA ad hp).set k (ad k, az_e cA ad e) := by
  apply List.ext_getElem?
  intro j
  unfold az_w
  rw [List.getElem?_mapIdx, List.getElem?_set, List.getElem?_set, List.length_mapIdx, List.getElem?_mapIdx]
  by_cases h : k = j
  · subst h
    by_cases h2 : k < hp.length
    · simp [h2]
    · simp [h2]
  · simp [h]
/-- the locals, by place: none is unknown -/
def az_lv (ad : Nat → Nat) : Nat → List (Option Value) → List (Nat × Value)
  | _, [] => []
  | i, none :: t => az_lv ad (i + 1) t
  | i, some v :: t => (i, az_v ad v) :: az_lv ad (i + 1) t
theorem az_lv_mem (ad : Nat → Nat) : ∀ (lo : List (Option Value)) (k : Nat) (q : Nat × Value), q ∈ az_lv ad k lo ↔ ∃ (i : Nat) (v : Value), lo[i]? = some (some v) ∧ q = (k + i, az_v ad v)
  | [], k, q => by simp [az_lv]
  | none :: t, k, q => by
    unfold az_lv
    rw [az_lv_mem ad t (k + 1) q]
    constructor
    · rintro ⟨i, v, h1, h2⟩
      exact ⟨i + 1, v, by simpa using h1, by rw [h2]; congr 1; omega⟩
    · rintro ⟨i, v, h1, h2⟩
      cases i with
      | zero => simp at h1
      | succ i => exact ⟨i, v, by simpa using h1, by rw [h2]; congr 1; omega⟩
  | some w :: t, k, q => by
    unfold az_lv
    rw [List.mem_cons, az_lv_mem ad t (k + 1) q]
    constructor
    · rintro (h | ⟨i, v, h1, h2⟩)
      · exact ⟨0, w, by simp, by rw [h]; rfl⟩
      · exact ⟨i + 1, v, by simpa using h1, by rw [h2]; congr 1; omega⟩
    · rintro ⟨i, v, h1, h2⟩
      cases i with
      | zero =>
        simp at h1
        subst h1
        exact Or.inl h2
      | succ i => exact Or.inr ⟨i, v, by simpa using h1, by rw [h2]; congr 1; omega⟩
def az_ls (ad : Nat → Nat) (ls : Array Slot) (nL : Nat) (lo : List (Option Value)) : Prop := lv_has ls nL (az_lv ad 0 lo) ∧ lo.length = nL
theorem az_ls_at {ad : Nat → Nat} {ls : Array Slot} {nL : Nat} {lo : List (Option Value)} (h : az_ls ad ls nL lo) {i : Nat} {v : Value} (hi : lo[i]? = some (some v)) : ls[i]? = some (.val (az_v ad v)) :=
  h.1.2.2 (i, az_v ad v) ((az_lv_mem ad lo 0 _).mpr ⟨i, v, hi, by rw [Nat.zero_add]⟩)
def az_no2 : Option (Option Value) → Bool
  | some (some v) => Nat.beq v.category 1
  | _ => true
/-- a store of a value of one word -/
def az_pre (lo : List (Option Value)) : Nat → Bool
  | 0 => true
  | j + 1 => az_no2 lo[j]?
def az_s1 (i : Nat) (v : Value) (lo : List (Option Value)) : Option (List (Option Value)) :=
  match Nat.ble (i + 1) lo.length && az_pre lo i with
  | true => some (lo.set i (some v))
  | false => none
def az_s2 (i : Nat) (v : Value) (lo : List (Option Value)) : Option (List (Option Value)) :=
  match Nat.ble (i + 2) lo.length && az_pre lo i with
  | true => some ((lo.set i (some v)).set (i + 1) none)
  | false => none
theorem az_set_at {α : Type} (l : List α) (i : Nat) (x : α) : (l.set i x)[i]? = if i < l.length then some x else none := by
  rw [List.getElem?_set]
  simp
theorem az_pre_of {lo : List (Option Value)} {i : Nat} (h : az_pre lo i = true) : ∀ (j : Nat) (w : Value), j + 1 = i → lo[j]? = some (some w) → w.category = 1 := by
  intro j w hj hw
  subst hj
  have h : az_no2 lo[j]? = true := h
  rw [hw] at h
  exact Nat.eq_of_beq_eq_true h
theorem az_s1_of {i : Nat} {v : Value} {lo lo' : List (Option Value)} (h : az_s1 i v lo = some lo') : lo' = lo.set i (some v) ∧ i < lo.length ∧ ∀ (j : Nat) (w : Value), j + 1 = i → lo[j]? = some (some w) → w.category = 1 := by
  unfold az_s1 at h
  split at h
  · rename_i hn
    rw [Bool.and_eq_true] at hn
    exact ⟨(Option.some.inj h).symm, Nat.le_of_ble_eq_true hn.1, az_pre_of hn.2⟩
  · cases h
theorem az_s2_of {i : Nat} {v : Value} {lo lo' : List (Option Value)} (h : az_s2 i v lo = some lo') : lo' = (lo.set i (some v)).set (i + 1) none ∧ i + 1 < lo.length ∧ ∀ (j : Nat) (w : Value), j + 1 = i → lo[j]? = some (some w) → w.category = 1 := by
  unfold az_s2 at h
  split at h
  · rename_i hn
    rw [Bool.and_eq_true] at hn
    exact ⟨(Option.some.inj h).symm, Nat.le_of_ble_eq_true hn.1, az_pre_of hn.2⟩
  · cases h
theorem az_ls_s1 {ad : Nat → Nat} {ls' : Array Slot} {nL i : Nat} {v : Value} {lo lo' : List (Option Value)} (hlen : lo.length = nL) (h : az_s1 i v lo = some lo')
    (hl : lv_has ls' nL ((i, az_v ad v) :: (az_lv ad 0 lo).filter (fun q => !(q.1 == i) && !(q.1 + 1 == i && q.2.category == 2)))) : az_ls ad ls' nL lo' := by
  obtain ⟨rfl, -, hc⟩ := az_s1_of h
  refine ⟨⟨hl.1, hl.2.1, fun q hq => hl.2.2 q ?_⟩, by rw [List.length_set]; exact hlen⟩
  obtain ⟨j, w, hj, rfl⟩ := (az_lv_mem ad _ 0 q).mp hq
  rw [Nat.zero_add]
  by_cases hij : i = j
  · subst hij
    rw [az_set_at] at hj
    split at hj
    · cases hj
      exact List.mem_cons_self
    · cases hj
  · rw [List.getElem?_set_ne hij] at hj
    refine List.mem_cons_of_mem _ (List.mem_filter.mpr ⟨(az_lv_mem ad lo 0 _).mpr ⟨j, w, hj, by rw [Nat.zero_add]⟩, ?_⟩)
    have h1 : (j == i) = false := by simp; omega
    by_cases h2 : j + 1 = i
    · have hw := hc j w h2 hj
      have h3 : ((az_v ad w).category == 2) = false := by rw [az_v_cat, hw]; rfl
      simp only [h1, h3, Bool.and_false, Bool.not_false, Bool.and_self]
    · have h3 : (j + 1 == i) = false := by simp; omega
      simp only [h1, h3, Bool.false_and, Bool.not_false, Bool.and_self]
theorem az_ls_s2 {ad : Nat → Nat} {ls' : Array Slot} {nL i : Nat} {v : Value} {lo lo' : List (Option Value)} (hlen : lo.length = nL) (h : az_s2 i v lo = some lo')
    (hl : lv_has ls' nL ((i, az_v ad v) :: (az_lv ad 0 lo).filter (fun q => !(q.1 == i) && (!(q.1 == i + 1) && !(q.1 + 1 == i && q.2.category == 2))))) : az_ls ad ls' nL lo' := by
  obtain ⟨rfl, -, hc⟩ := az_s2_of h
  refine ⟨⟨hl.1, hl.2.1, fun q hq => hl.2.2 q ?_⟩, by rw [List.length_set, List.length_set]; exact hlen⟩
  obtain ⟨j, w, hj, rfl⟩ := (az_lv_mem ad _ 0 q).mp hq
  rw [Nat.zero_add]
  by_cases hi1 : i + 1 = j
  · subst hi1
    rw [az_set_at] at hj
    split at hj <;> cases hj
  · rw [List.getElem?_set_ne hi1] at hj
    by_cases hij : i = j
    · subst hij
      rw [az_set_at] at hj
      split at hj
      · cases hj
        exact List.mem_cons_self
      · cases hj
    · rw [List.getElem?_set_ne hij] at hj
      refine List.mem_cons_of_mem _ (List.mem_filter.mpr ⟨(az_lv_mem ad lo 0 _).mpr ⟨j, w, hj, by rw [Nat.zero_add]⟩, ?_⟩)
      have h1 : (j == i) = false := by simp; omega
      have h4 : (j == i + 1) = false := by simp; omega
      by_cases h2 : j + 1 = i
      · have hw := hc j w h2 hj
        have h3 : ((az_v ad w).category == 2) = false := by rw [az_v_cat, hw]; rfl
        simp only [h1, h3, h4, Bool.and_false, Bool.not_false, Bool.and_self]
      · have h3 : (j + 1 == i) = false := by simp; omega
        simp only [h1, h3, h4, Bool.false_and, Bool.not_false, Bool.and_self]
/-- fewer locals known -/
theorem az_ls_sub {ad : Nat → Nat} {ls : Array Slot} {nL : Nat} {lo lo' : List (Option Value)} (h : az_ls ad ls nL lo) (hlen : lo'.length = lo.length) (hs : ∀ (i : Nat) (v : Value), lo'[i]? = some (some v) → lo[i]? = some (some v)) : az_ls ad ls nL lo' := by
  refine ⟨⟨h.1.1, h.1.2.1, fun q hq => h.1.2.2 q ?_⟩, hlen.trans h.2⟩
  obtain ⟨i, v, hi, rfl⟩ := (az_lv_mem ad _ 0 q).mp hq
  exact (az_lv_mem ad lo 0 _).mpr ⟨i, v, hs i v hi, rfl⟩
/-- one straight instruction -/
def az_gf (ci : Nat) (flt : List (Nat × Nat × Nat)) (hp : az_H) (idx k : Nat) : Option Value :=
  match flt.lookup idx, hp[k]? with
  | some f, some (.inr q) => match Nat.beq q.1 ci with
    | true => q.2[f.1]?
    | false => none
  | _, _ => none
def az_tyok : FieldType → Value → Bool
  | .int, .int _ => true
  | .object _, .ref _ => true
  | .array _, .ref _ => true
  | _, _ => false
def az_pf (ci N : Nat) (T : u_T) (ty : Nat → FieldType) (ctor : Bool) (flt : List (Nat × Nat × Nat)) (hp : az_H) (idx k : Nat) (v : Value) : Option az_H :=
  match flt.lookup idx, hp[k]? with
  | some f, some (.inr q) => match Nat.beq q.1 ci && (Nat.beq q.2.length N && ((!(T f.1).2.2.2 || ctor) && az_tyok (ty f.1) v)) with
    | true => some (hp.set k (.inr (q.1, q.2.set f.1 v)))
    | false => none
  | _, _ => none
def az_lg (lo : List (Option Value)) (i : Nat) : Option Value := match lo[i]? with
  | some (some v) => some v
  | _ => none
def az_al (hp : az_H) (k : Nat) : Option Nat := match hp[k]? with
  | some (.inl (t, n, _)) => match Nat.ble t 0 with
    | true => some n
    | false => none
  | _ => none
def az_ps (lo : List (Option Value)) (st : List Value) (hp : az_H) : Option Value → Option (List (Option Value) × List Value × az_H)
  | some v => some (lo, v :: st, hp)
  | none => none
def az_pl (st : List Value) (hp : az_H) : Option (List (Option Value)) → Option (List (Option Value) × List Value × az_H)
  | some lo => some (lo, st, hp)
  | none => none
def az_ph (lo : List (Option Value)) (st : List Value) : Option az_H → Option (List (Option Value) × List Value × az_H)
  | some hp => some (lo, st, hp)
  | none => none
def az_isI : Value → Bool
  | .int _ => true
  | _ => false
def az_isR : Value → Bool
  | .ref _ => true
  | _ => false
def az_x (ci N : Nat) (T : u_T) (ty : Nat → FieldType) (ctor : Bool) (flt : List (Nat × Nat × Nat)) (i : Instr) (lo : List (Option Value)) (st : List Value) (hp : az_H) : Option (List (Option Value) × List Value × az_H) :=
  match i with
  | .iconst n => some (lo, .int (Int32.ofInt n) :: st, hp)
  | .bipush n => some (lo, .int (Int8.ofInt n).toInt32 :: st, hp)
  | .sipush n => some (lo, .int (Int16.ofInt n).toInt32 :: st, hp)
  | .lconst n => some (lo, .long (Int64.ofNat (n : Nat)) :: st, hp)
  | .iload_n k => match az_lg lo k with
    | some (.int x) => some (lo, .int x :: st, hp)
    | _ => none
  | .iload k => match az_lg lo k with
    | some (.int x) => some (lo, .int x :: st, hp)
    | _ => none
  | .lload_n k => match az_lg lo k with
    | some (.long x) => some (lo, .long x :: st, hp)
    | _ => none
  | .lload k => match az_lg lo k with
    | some (.long x) => some (lo, .long x :: st, hp)
    | _ => none
  | .aload_n k => match az_lg lo k with
    | some (.ref x) => some (lo, .ref x :: st, hp)
    | _ => none
  | .aload k => match az_lg lo k with
    | some (.ref x) => some (lo, .ref x :: st, hp)
    | _ => none
  | .istore_n k => match st with
    | .int x :: t => az_pl t hp (az_s1 k (.int x) lo)
    | _ => none
  | .istore k => match st with
    | .int x :: t => az_pl t hp (az_s1 k (.int x) lo)
    | _ => none
  | .lstore_n k => match st with
    | .long x :: t => az_pl t hp (az_s2 k (.long x) lo)
    | _ => none
  | .lstore k => match st with
    | .long x :: t => az_pl t hp (az_s2 k (.long x) lo)
    | _ => none
  | .astore_n k => match st with
    | .ref x :: t => az_pl t hp (az_s1 k (.ref x) lo)
    | _ => none
  | .astore k => match st with
    | .ref x :: t => az_pl t hp (az_s1 k (.ref x) lo)
    | _ => none
  | .iinc k n => match az_lg lo k with
    | some (.int x) => az_pl st hp (az_s1 k (.int (x + Int32.ofInt n)) lo)
    | _ => none
  | .iadd => match st with
    | .int y :: .int x :: t => some (lo, .int (x + y) :: t, hp)
    | _ => none
  | .isub => match st with
    | .int y :: .int x :: t => some (lo, .int (x - y) :: t, hp)
    | _ => none
  | .imul => match st with
    | .int y :: .int x :: t => some (lo, .int (x * y) :: t, hp)
    | _ => none
  | .iand => match st with
    | .int y :: .int x :: t => some (lo, .int (x &&& y) :: t, hp)
    | _ => none
  | .ior => match st with
    | .int y :: .int x :: t => some (lo, .int (x ||| y) :: t, hp)
    | _ => none
  | .ixor => match st with
    | .int y :: .int x :: t => some (lo, .int (x ^^^ y) :: t, hp)
    | _ => none
  | .ishl => match st with
    | .int y :: .int x :: t => some (lo, .int (x <<< (y &&& 31)) :: t, hp)
    | _ => none
  | .ishr => match st with
    | .int y :: .int x :: t => some (lo, .int (x >>> (y &&& 31)) :: t, hp)
    | _ => none
  | .iushr => match st with
    | .int y :: .int x :: t => some (lo, .int (x.toUInt32 >>> (y.toUInt32 &&& Int32.toUInt32 31)).toInt32 :: t, hp)
    | _ => none
  | .i2l => match st with
    | .int x :: t => some (lo, .long x.toInt64 :: t, hp)
    | _ => none
  | .ladd => match st with
    | .long y :: .long x :: t => some (lo, .long (x + y) :: t, hp)
    | _ => none
  | .lmul => match st with
    | .long y :: .long x :: t => some (lo, .long (x * y) :: t, hp)
    | _ => none
  | .lcmp => match st with
    | .long y :: .long x :: t => some (lo, .int (lg_cmp x y) :: t, hp)
    | _ => none
  | .dup => match st with
    | v :: t => match Nat.beq v.category 1 with
      | true => some (lo, v :: v :: t, hp)
      | false => none
    | _ => none
  | .dup2 => match st with
    | w :: v :: t => match Nat.beq w.category 1 && Nat.beq v.category 1 with
      | true => some (lo, w :: v :: w :: v :: t, hp)
      | false => none
    | _ => none
  | .arraylength => match st with
    | .ref k :: t => match az_al hp k with
      | some n => some (lo, .int (Int32.ofNat n) :: t, hp)
      | none => none
    | _ => none
  | .getfield idx => match st with
    | .ref k :: t => az_ps lo t hp (az_gf ci flt hp idx k)
    | _ => none
  | .putfield idx => match st with
    | v :: .ref k :: t => az_ph lo t (az_pf ci N T ty ctor flt hp idx k v)
    | _ => none
  | _ => none
def az_len : Instr → Nat
  | .bipush _ => 2
  | .sipush _ => 3
  | .iload _ => 2
  | .aload _ => 2
  | .istore _ => 2
  | .astore _ => 2
  | .iinc _ _ => 3
  | .getfield _ => 3
  | .putfield _ => 3
  | .invokevirtual _ => 3
  | .invokestatic _ => 3
  | .invokespecial _ => 3
  | .new _ => 3
  | .newarray _ => 2
  | .ldc _ => 2
  | .ldc_w _ => 3
  | .ldc2_w _ => 3
  | .lload _ => 2
  | .lstore _ => 2
  | .goto _ => 3
  | .ifCond _ _ => 3
  | .if_icmp _ _ => 3
  | .tableswitch _ _ _ _ => 105
  | _ => 1
def az_run (ci N : Nat) (T : u_T) (ty : Nat → FieldType) (ctor : Bool) (flt : List (Nat × Nat × Nat)) : List (Nat × Instr) → Nat → List (Option Value) → List Value → az_H → Option (Nat × List (Option Value) × List Value × az_H)
  | [], pc, lo, st, hp => some (pc, lo, st, hp)
  | x :: t, pc, lo, st, hp => match Nat.beq x.1 pc with
    | true => match az_x ci N T ty ctor flt x.2 lo st hp with
      | some q => az_run ci N T ty ctor flt t (pc + az_len x.2) q.1 q.2.1 q.2.2
      | none => none
    | false => none
end AZ1
