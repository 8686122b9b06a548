section AZC
theorem oi_X0 : Cond.methodLink RX0 3 Lib.objectInit ∈ lw_tbl := List.mem_of_getElem? (i := 103) (by decide +kernel)
theorem ini_X0 : Cond.initialized RX0 ∈ lw_tbl := cw_X0_init.1.1
theorem ins_X0 : Cond.instantiable RX0 8 ∈ lw_tbl := List.mem_of_getElem? (i := 99) (by decide +kernel)
theorem oi_X1 : Cond.methodLink RX1 3 Lib.objectInit ∈ lw_tbl := List.mem_of_getElem? (i := 138) (by decide +kernel)
theorem ini_X1 : Cond.initialized RX1 ∈ lw_tbl := cw_X1_init.1.1
theorem ins_X1 : Cond.instantiable RX1 8 ∈ lw_tbl := List.mem_of_getElem? (i := 134) (by decide +kernel)
theorem oi_X2 : Cond.methodLink RX2 3 Lib.objectInit ∈ lw_tbl := List.mem_of_getElem? (i := 57) (by decide +kernel)
theorem ini_X2 : Cond.initialized RX2 ∈ lw_tbl := cw_X2_init.1.1
theorem ins_X2 : Cond.instantiable RX2 1 ∈ lw_tbl := List.mem_of_getElem? (i := 53) (by decide +kernel)
theorem oi_X3 : Cond.methodLink RX3 3 Lib.objectInit ∈ lw_tbl := List.mem_of_getElem? (i := 51) (by decide +kernel)
theorem ini_X3 : Cond.initialized RX3 ∈ lw_tbl := cw_X3_init.1.1
theorem ins_X3 : Cond.instantiable RX3 8 ∈ lw_tbl := List.mem_of_getElem? (i := 47) (by decide +kernel)
theorem oi_X4 : Cond.methodLink RX4 3 Lib.objectInit ∈ lw_tbl := List.mem_of_getElem? (i := 68) (by decide +kernel)
theorem ini_X4 : Cond.initialized RX4 ∈ lw_tbl := cw_X4_init.1.1
theorem ins_X4 : Cond.instantiable RX4 1 ∈ lw_tbl := List.mem_of_getElem? (i := 64) (by decide +kernel)
theorem oi_X5 : Cond.methodLink RX5 1 Lib.objectInit ∈ lw_tbl := List.mem_of_getElem? (i := 43) (by decide +kernel)
theorem ini_X5 : Cond.initialized RX5 ∈ lw_tbl := cw_X5_init.1.1
theorem ins_X5 : Cond.instantiable RX5 3 ∈ lw_tbl := List.mem_of_getElem? (i := 39) (by decide +kernel)
theorem arc_int : Cond.arrayClass .int ∈ lw_tbl := List.mem_of_getElem? (i := 62) (by decide +kernel)
theorem in_X2 (l0 : Launch) (hp : az_H) (k : Nat) (hp1 : az_H) (hfit : (az_fit hp.length hp && Nat.blt k hp.length) = true)
    (hx : az_run 2 1 TX2 tyX2 true flt_X2 ((tb_X2_init.drop 5).take 1) 9 [some (.ref k)] [.ref hp.length, .ref k] (hp ++ [.inl (0, (12, .inl fun _ => 0))]) = some (12, [some (.ref k)], [], hp1)) :
    AMet l0 yX2_init cX2_init 1 none ({ frames := 1, cells := 1, slots := 12, locals := 20 } : Room) true [.ref k] hp (fun r h => r = none ∧ h = hp1) := by
  refine AMet_ofG (by decide +kernel) (by simp [Value.category]) (Nat.le_of_ble_eq_true rfl) (fun K hK hct hG hE => ?_)
  have hT := tt_X2_init
  rw [Bool.and_eq_true] at hfit
  refine AW_g hT cl_X2 hK 0 1 (pc' := 1) (lo' := [some (.ref k)]) (st' := [.ref k]) (hp' := hp) rfl ?_
  refine AW_obj hT hK 1 oi_X2 rfl rfl ?_
  refine AW_g hT cl_X2 hK 2 2 (pc' := 7) (lo' := [some (.ref k)]) (st' := [.int 12, .ref k]) (hp' := hp) rfl ?_
  refine AW_newa hT hK hG 4 0 .int 12 (12, .inl fun _ => 0) rfl arc_int rfl ⟨rfl, rfl⟩ (fun _ => rfl) (by decide) (by decide) (by decide) (Nat.le_refl _) ?_ (Nat.le_of_ble_eq_true rfl) (Nat.le_of_ble_eq_true rfl) ?_
  · simp only [List.all_cons, List.all_nil, az_lin, az_oin, az_vin, hfit.1, hfit.2, Bool.and_true]
  · refine AW_go hT cl_X2 hK (fun _ => hct rfl) 5 1 hx ?_
    exact AW_vret hT hE 6 rfl (Nat.le_of_ble_eq_true rfl) (Nat.le_of_ble_eq_true rfl) ⟨rfl, rfl⟩
theorem in_X4 (l0 : Launch) (hp : az_H) (k : Nat) (hp1 : az_H) (hfit : (az_fit hp.length hp && Nat.blt k hp.length) = true)
    (hx : az_run 4 1 TX4 tyX4 true flt_X4 ((tb_X4_init.drop 5).take 1) 10 [some (.ref k)] [.ref hp.length, .ref k] (hp ++ [.inl (0, (144, .inl fun _ => 0))]) = some (13, [some (.ref k)], [], hp1)) :
    AMet l0 yX4_init cX4_init 1 none ({ frames := 1, cells := 1, slots := 144, locals := 20 } : Room) true [.ref k] hp (fun r h => r = none ∧ h = hp1) := by
  refine AMet_ofG (by decide +kernel) (by simp [Value.category]) (Nat.le_of_ble_eq_true rfl) (fun K hK hct hG hE => ?_)
  have hT := tt_X4_init
  rw [Bool.and_eq_true] at hfit
  refine AW_g hT cl_X4 hK 0 1 (pc' := 1) (lo' := [some (.ref k)]) (st' := [.ref k]) (hp' := hp) rfl ?_
  refine AW_obj hT hK 1 oi_X4 rfl rfl ?_
  refine AW_g hT cl_X4 hK 2 2 (pc' := 8) (lo' := [some (.ref k)]) (st' := [.int 144, .ref k]) (hp' := hp) rfl ?_
  refine AW_newa hT hK hG 4 0 .int 144 (144, .inl fun _ => 0) rfl arc_int rfl ⟨rfl, rfl⟩ (fun _ => rfl) (by decide) (by decide) (by decide) (Nat.le_refl _) ?_ (Nat.le_of_ble_eq_true rfl) (Nat.le_of_ble_eq_true rfl) ?_
  · simp only [List.all_cons, List.all_nil, az_lin, az_oin, az_vin, hfit.1, hfit.2, Bool.and_true]
  · refine AW_go hT cl_X4 hK (fun _ => hct rfl) 5 1 hx ?_
    exact AW_vret hT hE 6 rfl (Nat.le_of_ble_eq_true rfl) (Nat.le_of_ble_eq_true rfl) ⟨rfl, rfl⟩
end AZC
