/-! a new Row, whatever the heap before it -/
section AZR
variable {K : az_K} {own : String} {cc : ByteArray} {R0 : Room} {l0 : Launch} {tb : List (Nat × Instr)} {cells slots pc : Nat} {lo : List (Option Value)} {st rest : List Value} {hp : az_H} {n0 : Nat}
theorem az_row_pf (hp : az_H) : az_run 2 1 TX2 tyX2 true flt_X2 ((tb_X2_init.drop 5).take 1) 9 [some (.ref hp.length)] [.ref (hp ++ [(.inr (2, [.null]) : az_E)]).length, .ref hp.length] ((hp ++ [(.inr (2, [.null]) : az_E)]) ++ [.inl (0, (12, .inl fun _ => 0))]) = some (12, [some (.ref hp.length)], [], hp ++ [.inr (2, [.ref (hp.length + 1)]), .inl (0, (12, .inl fun _ => 0))]) := by
  have hl : (hp ++ [(.inr (2, [.null]) : az_E)]).length = hp.length + 1 := by simp
  rw [hl]
  have h1 : ((hp ++ [(.inr (2, [.null]) : az_E)]) ++ [.inl (0, (12, .inl fun _ => 0))])[hp.length]? = some (.inr (2, [.null])) := by simp
  have h2 : ((hp ++ [(.inr (2, [.null]) : az_E)]) ++ [(.inl (0, (12, .inl fun _ => 0)) : az_E)]).set hp.length (.inr (2, [.ref (hp.length + 1)])) = hp ++ [.inr (2, [.ref (hp.length + 1)]), .inl (0, (12, .inl fun _ => 0))] := by simp
  have h3 : az_pf 2 1 TX2 tyX2 true flt_X2 ((hp ++ [(.inr (2, [.null]) : az_E)]) ++ [.inl (0, (12, .inl fun _ => 0))]) 9 hp.length (.ref (hp.length + 1)) = some (hp ++ [.inr (2, [.ref (hp.length + 1)]), .inl (0, (12, .inl fun _ => 0))]) := by
    rw [← h2]
    unfold az_pf
    rw [h1]
    rfl
  show (match az_ph [some (.ref hp.length)] [] (az_pf 2 1 TX2 tyX2 true flt_X2 ((hp ++ [(.inr (2, [.null]) : az_E)]) ++ [.inl (0, (12, .inl fun _ => 0))]) 9 hp.length (.ref (hp.length + 1))) with
    | some q => az_run 2 1 TX2 tyX2 true flt_X2 [] 12 q.1 q.2.1 q.2.2
    | none => none) = _
  rw [h3]
  rfl
theorem az_vin_mono {n n' : Nat} (h : n ≤ n') {v : Value} (h1 : az_vin n v = true) : az_vin n' v = true := by
  cases v with
  | ref k => exact Nat.blt_eq.mpr (Nat.lt_of_lt_of_le (Nat.blt_eq.mp h1) h)
  | _ => rfl
theorem az_lin_mono {n n' : Nat} (h : n ≤ n') {l : List Value} (h1 : az_lin n l = true) : az_lin n' l = true :=
  List.all_eq_true.mpr fun v hv => az_vin_mono h (List.all_eq_true.mp h1 v hv)
theorem az_lo_mono {n n' : Nat} (h : n ≤ n') {l : List (Option Value)} (h1 : l.all (az_oin n) = true) : l.all (az_oin n') = true := by
  refine List.all_eq_true.mpr fun v hv => ?_
  have := List.all_eq_true.mp h1 v hv
  cases v with
  | none => rfl
  | some w => exact az_vin_mono h this
theorem az_fit_mono {n n' : Nat} (h : n ≤ n') {hp : az_H} (h1 : az_fit n hp = true) : az_fit n' hp = true := by
  refine List.all_eq_true.mpr fun v hv => ?_
  have := List.all_eq_true.mp h1 v hv
  cases v with
  | inl _ => rfl
  | inr q => exact az_lin_mono h this
theorem AW_row {host : String} {ci N : Nat} {T : u_T} {ty : Nat → FieldType} {flt : List (Nat × Nat × Nat)} (hT : az_Tb cc tb) (hC : az_Cl own ci N T ty flt) (hK : az_OK K own cc R0 l0) (hG : az_Gr2 K n0) (i : Nat) {idx jdx : Nat}
    (hi0 : tb[i]? = some (pc, .new idx)) (hi1 : tb[i + 1]? = some (pc + 3, .dup)) (hi2 : tb[i + 2]? = some (pc + 4, .invokespecial jdx)) (hcl : Cond.classLink own idx RX2 ∈ lw_tbl) (hl : Cond.methodLinkNest own jdx yX2_init host ∈ lw_tbl)
    (hn : n0 ≤ hp.length) (hfit : (az_fit hp.length hp && (lo.all (az_oin hp.length) && az_lin hp.length rest)) = true) (hrm : az_rm ({ frames := 1, cells := 1, slots := 12, locals := 20 } : Room) R0 1 (.ref hp.length :: rest) = true) (hcells : cells + 2 ≤ R0.cells) (hslots : slots + 13 ≤ R0.slots)
    (kk : AW K (cells + 2) (slots + 13) (pc + 7) lo (.ref hp.length :: rest) (hp ++ [.inr (2, [.ref (hp.length + 1)]), .inl (0, (12, .inl fun _ => 0))])) : AW K cells slots pc lo rest hp := by
  have hfit' := hfit
  rw [Bool.and_eq_true, Bool.and_eq_true] at hfit'
  obtain ⟨hf, hlo, hre⟩ := hfit'
  have hl1 : (hp ++ [(.inr (2, [.null]) : az_E)]).length = hp.length + 1 := by simp
  refine AW_new hT hK hG i (ci := 2) (N := 1) tyX2 [.null] hi0 hcl ins_X2 ini_X2 rfl lay_X2 tyX2_ok (by decide) rfl hn hfit (by omega) (by omega) ?_
  refine AW_x hK hC (ctor := false) (fun h => by cases h) (hT.at hi1) (q := (lo, .ref hp.length :: .ref hp.length :: rest, hp ++ [.inr (2, [.null])])) rfl ?_
  have hfit2 : (az_fit (hp ++ [(.inr (2, [.null]) : az_E)]).length (hp ++ [.inr (2, [.null])]) && Nat.blt hp.length (hp ++ [(.inr (2, [.null]) : az_E)]).length) = true := by
    rw [hl1, Bool.and_eq_true]
    refine ⟨?_, Nat.blt_eq.mpr (by omega)⟩
    unfold az_fit
    rw [List.all_append, Bool.and_eq_true]
    exact ⟨az_fit_mono (by omega) hf, rfl⟩
  refine AW_callIN hT hK hG (i + 2) [] (.ref hp.length :: rest) (in_X2 l0 (hp ++ [.inr (2, [.null])]) hp.length _ hfit2 (az_row_pf hp)) cw_X2_init hl im_X2_init rfl hi2 rfl rfl hrm (by rw [hl1]; omega) ?_ (show cells + 1 + 1 ≤ _ by omega) (show slots + 1 + 12 ≤ _ by omega) (fun _ _ h => h.1) (AW_kc kk)
  rw [hl1, Bool.and_eq_true]
  refine ⟨az_lo_mono (by omega) hlo, ?_⟩
  unfold az_lin
  rw [List.all_cons, Bool.and_eq_true]
  exact ⟨Nat.blt_eq.mpr (by omega), az_lin_mono (by omega) hre⟩
end AZR
