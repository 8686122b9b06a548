section AZP
def x_X5_requirePaper (σ : az_S) (p0 : Int32) : String ⊕ Unit :=
  let v2 := x_X3_has σ p0
  if v2 = 0 then
    .inl az_NSE
  else
    .inr ()
set_option maxRecDepth 100000 in
set_option maxHeartbeats 4000000 in
theorem m_X5_requirePaper (l0 : Launch) (σ : az_S) (p0 : Int32) (rv : Unit) (hr : x_X5_requirePaper σ p0 = .inr rv) : AMet l0 yX5_requirePaper cX5_requirePaper 2 none ({ frames := 6, cells := 0, slots := 0, locals := 82 } : Room) false [.ref 0, .int p0] (wd σ) (fun r h => r = none ∧ h = wd σ) := by
  refine AMet_of (by decide +kernel) (by simp [Value.category]) (Nat.le_of_ble_eq_true rfl) (fun K hK hct hG hE => ?_)
  have hT := tt_X5_requirePaper
  refine AW_g hT cl_X5 hK 0 3 (pc' := 5) (lo' := [some (.ref 0), some (.int p0)]) (st' := [.int p0, .ref 1]) (hp' := wd σ) rfl ?_
  refine AW_callV hT hK 3 [.int p0] [] (m_X3_has l0 σ p0) cw_X3_has lk_X5_156 vi_X3_has rfl rfl rfl rfl rfl rfl (Nat.le_of_ble_eq_true rfl) (Nat.le_of_ble_eq_true rfl) (AW_k1 (fun v2 h1 => ?_))
  refine AW_if_ne hT hK 4 (tgt := 21) rfl rfl (fun c3 => ?_) (fun c3 => ?_)
  · refine AW_vret hT hE 10 rfl (Nat.le_of_ble_eq_true rfl) (Nat.le_of_ble_eq_true rfl) ?_
    subst h1; simp only [x_X5_requirePaper, if_neg c3] at hr; cases hr; exact ⟨rfl, rfl⟩
  · exfalso; subst h1; simp only [x_X5_requirePaper, if_pos c3] at hr; cases hr
set_option maxRecDepth 100000 in
set_option maxHeartbeats 4000000 in
theorem mx_X5_requirePaper (l0 : Launch) (hl0 : l0.stackTraces = false) (σ : az_S) (p0 : Int32) (E0 : String) (hr : x_X5_requirePaper σ p0 = .inl E0) : AMetX l0 yX5_requirePaper cX5_requirePaper 2 none ({ frames := 6, cells := 1, slots := 6, locals := 82 } : Room) [.ref 0, .int p0] (wd σ) (fun _ _ => False) (fun E => E = E0) := by
  refine AMetX_of (by decide +kernel) (by simp [Value.category]) (Nat.le_of_ble_eq_true rfl) (fun K hK hX hE => ?_)
  have hT := tt_X5_requirePaper
  refine AW_g hT cl_X5 hK 0 3 (pc' := 5) (lo' := [some (.ref 0), some (.int p0)]) (st' := [.int p0, .ref 1]) (hp' := wd σ) rfl ?_
  refine AW_callV hT hK 3 [.int p0] [] (m_X3_has l0 σ p0) cw_X3_has lk_X5_156 vi_X3_has rfl rfl rfl rfl rfl rfl (Nat.le_of_ble_eq_true rfl) (Nat.le_of_ble_eq_true rfl) (AW_k1 (fun v105 h104 => ?_))
  refine AW_if_ne hT hK 4 (tgt := 21) rfl rfl (fun c106 => ?_) (fun c106 => ?_)
  · exfalso; subst h104; simp only [x_X5_requirePaper, if_neg c106] at hr
    first | (cases hr; done) | ((repeat' split at hr) <;> cases hr)
  · subst h104; refine AW_throw hT hK hX hl0 5 (cls := az_NSE) (text := "the paper is not there") (ix := 13) (rx := az_r13) az_r13_ok rfl rfl rfl rfl rfl (by decide) (List.mem_of_getElem? (i := 204) (by decide +kernel)) (List.mem_of_getElem? (i := 34) (by decide +kernel)) (by decide) at_129.1 at_129.2 ⟨by decide, by decide⟩ (Nat.le_of_ble_eq_true rfl) (Nat.le_of_ble_eq_true rfl) ?_
    simp only [x_X5_requirePaper, if_pos c106] at hr; cases hr; rfl
def x_X5_requireField (σ : az_S) (p0 : Int32) : String ⊕ Unit :=
  let v2 := x_X0_isGroup σ p0
  if v2 = 0 then
    .inl az_NSE
  else
    .inr ()
set_option maxRecDepth 100000 in
set_option maxHeartbeats 4000000 in
theorem m_X5_requireField (l0 : Launch) (σ : az_S) (p0 : Int32) (rv : Unit) (hr : x_X5_requireField σ p0 = .inr rv) : AMet l0 yX5_requireField cX5_requireField 2 none ({ frames := 6, cells := 0, slots := 0, locals := 82 } : Room) false [.ref 0, .int p0] (wd σ) (fun r h => r = none ∧ h = wd σ) := by
  refine AMet_of (by decide +kernel) (by simp [Value.category]) (Nat.le_of_ble_eq_true rfl) (fun K hK hct hG hE => ?_)
  have hT := tt_X5_requireField
  refine AW_g hT cl_X5 hK 0 3 (pc' := 5) (lo' := [some (.ref 0), some (.int p0)]) (st' := [.int p0, .ref 12]) (hp' := wd σ) rfl ?_
  refine AW_callV hT hK 3 [.int p0] [] (m_X0_isGroup l0 σ p0) cw_X0_isGroup lk_X5_166 vi_X0_isGroup rfl rfl rfl rfl rfl rfl (Nat.le_of_ble_eq_true rfl) (Nat.le_of_ble_eq_true rfl) (AW_k1 (fun v2 h1 => ?_))
  refine AW_if_ne hT hK 4 (tgt := 21) rfl rfl (fun c3 => ?_) (fun c3 => ?_)
  · refine AW_vret hT hE 10 rfl (Nat.le_of_ble_eq_true rfl) (Nat.le_of_ble_eq_true rfl) ?_
    subst h1; simp only [x_X5_requireField, if_neg c3] at hr; cases hr; exact ⟨rfl, rfl⟩
  · exfalso; subst h1; simp only [x_X5_requireField, if_pos c3] at hr; cases hr
set_option maxRecDepth 100000 in
set_option maxHeartbeats 4000000 in
theorem mx_X5_requireField (l0 : Launch) (hl0 : l0.stackTraces = false) (σ : az_S) (p0 : Int32) (E0 : String) (hr : x_X5_requireField σ p0 = .inl E0) : AMetX l0 yX5_requireField cX5_requireField 2 none ({ frames := 6, cells := 1, slots := 6, locals := 82 } : Room) [.ref 0, .int p0] (wd σ) (fun _ _ => False) (fun E => E = E0) := by
  refine AMetX_of (by decide +kernel) (by simp [Value.category]) (Nat.le_of_ble_eq_true rfl) (fun K hK hX hE => ?_)
  have hT := tt_X5_requireField
  refine AW_g hT cl_X5 hK 0 3 (pc' := 5) (lo' := [some (.ref 0), some (.int p0)]) (st' := [.int p0, .ref 12]) (hp' := wd σ) rfl ?_
  refine AW_callV hT hK 3 [.int p0] [] (m_X0_isGroup l0 σ p0) cw_X0_isGroup lk_X5_166 vi_X0_isGroup rfl rfl rfl rfl rfl rfl (Nat.le_of_ble_eq_true rfl) (Nat.le_of_ble_eq_true rfl) (AW_k1 (fun v105 h104 => ?_))
  refine AW_if_ne hT hK 4 (tgt := 21) rfl rfl (fun c106 => ?_) (fun c106 => ?_)
  · exfalso; subst h104; simp only [x_X5_requireField, if_neg c106] at hr
    first | (cases hr; done) | ((repeat' split at hr) <;> cases hr)
  · subst h104; refine AW_throw hT hK hX hl0 5 (cls := az_NSE) (text := "there is no such field") (ix := 13) (rx := az_r13) az_r13_ok rfl rfl rfl rfl rfl (by decide) (List.mem_of_getElem? (i := 204) (by decide +kernel)) (List.mem_of_getElem? (i := 34) (by decide +kernel)) (by decide) at_129.1 at_129.2 ⟨by decide, by decide⟩ (Nat.le_of_ble_eq_true rfl) (Nat.le_of_ble_eq_true rfl) ?_
    simp only [x_X5_requireField, if_pos c106] at hr; cases hr; rfl
def x_X5_requireYear (σ : az_S) (p0 : Int32) : String ⊕ Unit :=
  if p0 < 0 then
    .inl az_IAE
  else
    if p0 ≤ 99 then
      .inr ()
    else
      .inl az_IAE
set_option maxRecDepth 100000 in
set_option maxHeartbeats 4000000 in
theorem m_X5_requireYear (l0 : Launch) (σ : az_S) (p0 : Int32) (rv : Unit) (hr : x_X5_requireYear σ p0 = .inr rv) : AMet l0 yX5_requireYear cX5_requireYear 1 none ({ frames := 6, cells := 0, slots := 0, locals := 82 } : Room) false [.int p0] (wd σ) (fun r h => r = none ∧ h = wd σ) := by
  refine AMet_of (by decide +kernel) (by simp [Value.category]) (Nat.le_of_ble_eq_true rfl) (fun K hK hct hG hE => ?_)
  have hT := tt_X5_requireYear
  refine AW_g hT cl_X5 hK 0 1 (pc' := 1) (lo' := [some (.int p0)]) (st' := [.int p0]) (hp' := wd σ) rfl ?_
  refine AW_if_lt hT hK 1 (tgt := 10) rfl rfl (fun c1 => ?_) (fun c1 => ?_)
  · exfalso; simp only [x_X5_requireYear, if_pos c1] at hr; cases hr
  · refine AW_g hT cl_X5 hK 2 2 (pc' := 7) (lo' := [some (.int p0)]) (st' := [.int 99, .int p0]) (hp' := wd σ) rfl ?_
    refine AW_icmp_le hT hK 4 (tgt := 20) rfl rfl (fun c2 => ?_) (fun c2 => ?_)
    · refine AW_vret hT hE 10 rfl (Nat.le_of_ble_eq_true rfl) (Nat.le_of_ble_eq_true rfl) ?_
      simp only [x_X5_requireYear, if_neg c1, if_pos c2] at hr; cases hr; exact ⟨rfl, rfl⟩
    · exfalso; simp only [x_X5_requireYear, if_neg c1, if_neg c2] at hr; cases hr
set_option maxRecDepth 100000 in
set_option maxHeartbeats 4000000 in
theorem mx_X5_requireYear (l0 : Launch) (hl0 : l0.stackTraces = false) (σ : az_S) (p0 : Int32) (E0 : String) (hr : x_X5_requireYear σ p0 = .inl E0) : AMetX l0 yX5_requireYear cX5_requireYear 1 none ({ frames := 6, cells := 1, slots := 6, locals := 82 } : Room) [.int p0] (wd σ) (fun _ _ => False) (fun E => E = E0) := by
  refine AMetX_of (by decide +kernel) (by simp [Value.category]) (Nat.le_of_ble_eq_true rfl) (fun K hK hX hE => ?_)
  have hT := tt_X5_requireYear
  refine AW_g hT cl_X5 hK 0 1 (pc' := 1) (lo' := [some (.int p0)]) (st' := [.int p0]) (hp' := wd σ) rfl ?_
  refine AW_if_lt hT hK 1 (tgt := 10) rfl rfl (fun c103 => ?_) (fun c103 => ?_)
  · refine AW_throw hT hK hX hl0 5 (cls := az_IAE) (text := "the year is out of range") (ix := 7) (rx := az_r7) az_r7_ok rfl rfl rfl rfl rfl (by decide) (List.mem_of_getElem? (i := 497) (by decide +kernel)) (List.mem_of_getElem? (i := 35) (by decide +kernel)) (by decide) at_38.1 at_38.2 ⟨by decide, by decide⟩ (Nat.le_of_ble_eq_true rfl) (Nat.le_of_ble_eq_true rfl) ?_
    simp only [x_X5_requireYear, if_pos c103] at hr; cases hr; rfl
  · refine AW_g hT cl_X5 hK 2 2 (pc' := 7) (lo' := [some (.int p0)]) (st' := [.int 99, .int p0]) (hp' := wd σ) rfl ?_
    refine AW_icmp_le hT hK 4 (tgt := 20) rfl rfl (fun c104 => ?_) (fun c104 => ?_)
    · exfalso; simp only [x_X5_requireYear, if_neg c103, if_pos c104] at hr
      first | (cases hr; done) | ((repeat' split at hr) <;> cases hr)
    · refine AW_throw hT hK hX hl0 5 (cls := az_IAE) (text := "the year is out of range") (ix := 7) (rx := az_r7) az_r7_ok rfl rfl rfl rfl rfl (by decide) (List.mem_of_getElem? (i := 497) (by decide +kernel)) (List.mem_of_getElem? (i := 35) (by decide +kernel)) (by decide) at_38.1 at_38.2 ⟨by decide, by decide⟩ (Nat.le_of_ble_eq_true rfl) (Nat.le_of_ble_eq_true rfl) ?_
      simp only [x_X5_requireYear, if_neg c103, if_neg c104] at hr; cases hr; rfl
def x_X5_references (σ : az_S) (p0 : Int32) : String ⊕ Int32 :=
  match x_X5_requirePaper σ p0 with
  | .inl E => .inl E
  | .inr _ =>
    let v4 := x_X3_referredBy σ p0
    .inr v4
set_option maxRecDepth 100000 in
set_option maxHeartbeats 4000000 in
theorem m_X5_references (l0 : Launch) (σ : az_S) (p0 : Int32) (rv : Int32) (hr : x_X5_references σ p0 = .inr rv) : AMet l0 yX5_references cX5_references 2 (some .int) ({ frames := 7, cells := 0, slots := 0, locals := 103 } : Room) false [.ref 0, .int p0] (wd σ) (fun r h => r = some (.int rv) ∧ h = wd σ) := by
  refine AMet_of (by decide +kernel) (by simp [Value.category]) (Nat.le_of_ble_eq_true rfl) (fun K hK hct hG hE => ?_)
  have hT := tt_X5_references
  refine AW_g hT cl_X5 hK 0 2 (pc' := 2) (lo' := [some (.ref 0), some (.int p0)]) (st' := [.int p0, .ref 0]) (hp' := wd σ) rfl ?_
  rcases hc1 : x_X5_requirePaper σ p0 with E | v2
  · exfalso; simp only [x_X5_references, hc1] at hr; cases hr
  · refine AW_callV hT hK 2 [.int p0] [] (m_X5_requirePaper l0 σ p0 v2 hc1) cw_X5_requirePaper lk_X5_62 vi_X5_requirePaper rfl rfl rfl rfl rfl rfl (Nat.le_of_ble_eq_true rfl) (Nat.le_of_ble_eq_true rfl) (AW_kn ?_)
    refine AW_g hT cl_X5 hK 3 3 (pc' := 10) (lo' := [some (.ref 0), some (.int p0)]) (st' := [.int p0, .ref 1]) (hp' := wd σ) rfl ?_
    refine AW_callV hT hK 6 [.int p0] [] (m_X3_referredBy l0 σ p0) cw_X3_referredBy lk_X5_82 vi_X3_referredBy rfl rfl rfl rfl rfl rfl (Nat.le_of_ble_eq_true rfl) (Nat.le_of_ble_eq_true rfl) (AW_k1 (fun v4 h3 => ?_))
    refine AW_iret hT hE 7 rfl rfl rfl (Nat.le_of_ble_eq_true rfl) (Nat.le_of_ble_eq_true rfl) ?_
    subst h3; simp only [x_X5_references, hc1] at hr; cases hr; exact ⟨rfl, rfl⟩
set_option maxRecDepth 100000 in
set_option maxHeartbeats 4000000 in
theorem mx_X5_references (l0 : Launch) (hl0 : l0.stackTraces = false) (σ : az_S) (p0 : Int32) (E0 : String) (hr : x_X5_references σ p0 = .inl E0) : AMetX l0 yX5_references cX5_references 2 (some .int) ({ frames := 7, cells := 1, slots := 6, locals := 103 } : Room) [.ref 0, .int p0] (wd σ) (fun _ _ => False) (fun E => E = E0) := by
  refine AMetX_of (by decide +kernel) (by simp [Value.category]) (Nat.le_of_ble_eq_true rfl) (fun K hK hX hE => ?_)
  have hT := tt_X5_references
  refine AW_g hT cl_X5 hK 0 2 (pc' := 2) (lo' := [some (.ref 0), some (.int p0)]) (st' := [.int p0, .ref 0]) (hp' := wd σ) rfl ?_
  rcases hc105 : x_X5_requirePaper σ p0 with E | v106
  · refine AW_callVX hT hK 2 [.int p0] [] (mx_X5_requirePaper l0 hl0 σ p0 E hc105) cw_X5_requirePaper lk_X5_62 vi_X5_requirePaper rfl rfl rfl rfl rfl rfl (Nat.le_of_ble_eq_true rfl) (Nat.le_of_ble_eq_true rfl) (fun _ _ h9 => h9.elim) (fun E9 h9 => AWX_out hK hX (Nat.le_of_ble_eq_true rfl) (Nat.le_of_ble_eq_true rfl) ?_)
    subst h9; simp only [x_X5_references, hc105] at hr; cases hr; rfl
  · refine AW_callV hT hK 2 [.int p0] [] (m_X5_requirePaper l0 σ p0 v106 hc105) cw_X5_requirePaper lk_X5_62 vi_X5_requirePaper rfl rfl rfl rfl rfl rfl (Nat.le_of_ble_eq_true rfl) (Nat.le_of_ble_eq_true rfl) (AW_kn ?_)
    exfalso; simp only [x_X5_references, hc105] at hr
    first | (cases hr; done) | ((repeat' split at hr) <;> cases hr)
def x_X5_citing (σ : az_S) (p0 : Int32) : String ⊕ Int32 :=
  match x_X5_requirePaper σ p0 with
  | .inl E => .inl E
  | .inr _ =>
    let v4 := x_X3_citersOf σ p0
    .inr v4
set_option maxRecDepth 100000 in
set_option maxHeartbeats 4000000 in
theorem m_X5_citing (l0 : Launch) (σ : az_S) (p0 : Int32) (rv : Int32) (hr : x_X5_citing σ p0 = .inr rv) : AMet l0 yX5_citing cX5_citing 2 (some .int) ({ frames := 7, cells := 0, slots := 0, locals := 103 } : Room) false [.ref 0, .int p0] (wd σ) (fun r h => r = some (.int rv) ∧ h = wd σ) := by
  refine AMet_of (by decide +kernel) (by simp [Value.category]) (Nat.le_of_ble_eq_true rfl) (fun K hK hct hG hE => ?_)
  have hT := tt_X5_citing
  refine AW_g hT cl_X5 hK 0 2 (pc' := 2) (lo' := [some (.ref 0), some (.int p0)]) (st' := [.int p0, .ref 0]) (hp' := wd σ) rfl ?_
  rcases hc1 : x_X5_requirePaper σ p0 with E | v2
  · exfalso; simp only [x_X5_citing, hc1] at hr; cases hr
  · refine AW_callV hT hK 2 [.int p0] [] (m_X5_requirePaper l0 σ p0 v2 hc1) cw_X5_requirePaper lk_X5_62 vi_X5_requirePaper rfl rfl rfl rfl rfl rfl (Nat.le_of_ble_eq_true rfl) (Nat.le_of_ble_eq_true rfl) (AW_kn ?_)
    refine AW_g hT cl_X5 hK 3 3 (pc' := 10) (lo' := [some (.ref 0), some (.int p0)]) (st' := [.int p0, .ref 1]) (hp' := wd σ) rfl ?_
    refine AW_callV hT hK 6 [.int p0] [] (m_X3_citersOf l0 σ p0) cw_X3_citersOf lk_X5_66 vi_X3_citersOf rfl rfl rfl rfl rfl rfl (Nat.le_of_ble_eq_true rfl) (Nat.le_of_ble_eq_true rfl) (AW_k1 (fun v4 h3 => ?_))
    refine AW_iret hT hE 7 rfl rfl rfl (Nat.le_of_ble_eq_true rfl) (Nat.le_of_ble_eq_true rfl) ?_
    subst h3; simp only [x_X5_citing, hc1] at hr; cases hr; exact ⟨rfl, rfl⟩
set_option maxRecDepth 100000 in
set_option maxHeartbeats 4000000 in
theorem mx_X5_citing (l0 : Launch) (hl0 : l0.stackTraces = false) (σ : az_S) (p0 : Int32) (E0 : String) (hr : x_X5_citing σ p0 = .inl E0) : AMetX l0 yX5_citing cX5_citing 2 (some .int) ({ frames := 7, cells := 1, slots := 6, locals := 103 } : Room) [.ref 0, .int p0] (wd σ) (fun _ _ => False) (fun E => E = E0) := by
  refine AMetX_of (by decide +kernel) (by simp [Value.category]) (Nat.le_of_ble_eq_true rfl) (fun K hK hX hE => ?_)
  have hT := tt_X5_citing
  refine AW_g hT cl_X5 hK 0 2 (pc' := 2) (lo' := [some (.ref 0), some (.int p0)]) (st' := [.int p0, .ref 0]) (hp' := wd σ) rfl ?_
  rcases hc105 : x_X5_requirePaper σ p0 with E | v106
  · refine AW_callVX hT hK 2 [.int p0] [] (mx_X5_requirePaper l0 hl0 σ p0 E hc105) cw_X5_requirePaper lk_X5_62 vi_X5_requirePaper rfl rfl rfl rfl rfl rfl (Nat.le_of_ble_eq_true rfl) (Nat.le_of_ble_eq_true rfl) (fun _ _ h9 => h9.elim) (fun E9 h9 => AWX_out hK hX (Nat.le_of_ble_eq_true rfl) (Nat.le_of_ble_eq_true rfl) ?_)
    subst h9; simp only [x_X5_citing, hc105] at hr; cases hr; rfl
  · refine AW_callV hT hK 2 [.int p0] [] (m_X5_requirePaper l0 σ p0 v106 hc105) cw_X5_requirePaper lk_X5_62 vi_X5_requirePaper rfl rfl rfl rfl rfl rfl (Nat.le_of_ble_eq_true rfl) (Nat.le_of_ble_eq_true rfl) (AW_kn ?_)
    exfalso; simp only [x_X5_citing, hc105] at hr
    first | (cases hr; done) | ((repeat' split at hr) <;> cases hr)
def x_X5_shared (σ : az_S) (p0 : Int32) (p1 : Int32) : String ⊕ Int32 :=
  match x_X5_requirePaper σ p0 with
  | .inl E => .inl E
  | .inr _ =>
    match x_X5_requirePaper σ p1 with
    | .inl E => .inl E
    | .inr _ =>
      let v6 := x_X3_sharedOf σ p0 p1
      .inr v6
set_option maxRecDepth 100000 in
set_option maxHeartbeats 4000000 in
theorem m_X5_shared (l0 : Launch) (σ : az_S) (p0 : Int32) (p1 : Int32) (rv : Int32) (hr : x_X5_shared σ p0 p1 = .inr rv) : AMet l0 yX5_shared cX5_shared 3 (some .int) ({ frames := 7, cells := 0, slots := 0, locals := 103 } : Room) false [.ref 0, .int p0, .int p1] (wd σ) (fun r h => r = some (.int rv) ∧ h = wd σ) := by
  refine AMet_of (by decide +kernel) (by simp [Value.category]) (Nat.le_of_ble_eq_true rfl) (fun K hK hct hG hE => ?_)
  have hT := tt_X5_shared
  refine AW_g hT cl_X5 hK 0 2 (pc' := 2) (lo' := [some (.ref 0), some (.int p0), some (.int p1)]) (st' := [.int p0, .ref 0]) (hp' := wd σ) rfl ?_
  rcases hc1 : x_X5_requirePaper σ p0 with E | v2
  · exfalso; simp only [x_X5_shared, hc1] at hr; cases hr
  · refine AW_callV hT hK 2 [.int p0] [] (m_X5_requirePaper l0 σ p0 v2 hc1) cw_X5_requirePaper lk_X5_62 vi_X5_requirePaper rfl rfl rfl rfl rfl rfl (Nat.le_of_ble_eq_true rfl) (Nat.le_of_ble_eq_true rfl) (AW_kn ?_)
    refine AW_g hT cl_X5 hK 3 2 (pc' := 7) (lo' := [some (.ref 0), some (.int p0), some (.int p1)]) (st' := [.int p1, .ref 0]) (hp' := wd σ) rfl ?_
    rcases hc3 : x_X5_requirePaper σ p1 with E | v4
    · exfalso; simp only [x_X5_shared, hc1, hc3] at hr; cases hr
    · refine AW_callV hT hK 5 [.int p1] [] (m_X5_requirePaper l0 σ p1 v4 hc3) cw_X5_requirePaper lk_X5_62 vi_X5_requirePaper rfl rfl rfl rfl rfl rfl (Nat.le_of_ble_eq_true rfl) (Nat.le_of_ble_eq_true rfl) (AW_kn ?_)
      refine AW_g hT cl_X5 hK 6 4 (pc' := 16) (lo' := [some (.ref 0), some (.int p0), some (.int p1)]) (st' := [.int p1, .int p0, .ref 1]) (hp' := wd σ) rfl ?_
      refine AW_callV hT hK 10 [.int p0, .int p1] [] (m_X3_sharedOf l0 σ p0 p1) cw_X3_sharedOf lk_X5_85 vi_X3_sharedOf rfl rfl rfl rfl rfl rfl (Nat.le_of_ble_eq_true rfl) (Nat.le_of_ble_eq_true rfl) (AW_k1 (fun v6 h5 => ?_))
      refine AW_iret hT hE 11 rfl rfl rfl (Nat.le_of_ble_eq_true rfl) (Nat.le_of_ble_eq_true rfl) ?_
      subst h5; simp only [x_X5_shared, hc1, hc3] at hr; cases hr; exact ⟨rfl, rfl⟩
set_option maxRecDepth 100000 in
set_option maxHeartbeats 4000000 in
theorem mx_X5_shared (l0 : Launch) (hl0 : l0.stackTraces = false) (σ : az_S) (p0 : Int32) (p1 : Int32) (E0 : String) (hr : x_X5_shared σ p0 p1 = .inl E0) : AMetX l0 yX5_shared cX5_shared 3 (some .int) ({ frames := 7, cells := 1, slots := 6, locals := 103 } : Room) [.ref 0, .int p0, .int p1] (wd σ) (fun _ _ => False) (fun E => E = E0) := by
  refine AMetX_of (by decide +kernel) (by simp [Value.category]) (Nat.le_of_ble_eq_true rfl) (fun K hK hX hE => ?_)
  have hT := tt_X5_shared
  refine AW_g hT cl_X5 hK 0 2 (pc' := 2) (lo' := [some (.ref 0), some (.int p0), some (.int p1)]) (st' := [.int p0, .ref 0]) (hp' := wd σ) rfl ?_
  rcases hc107 : x_X5_requirePaper σ p0 with E | v108
  · refine AW_callVX hT hK 2 [.int p0] [] (mx_X5_requirePaper l0 hl0 σ p0 E hc107) cw_X5_requirePaper lk_X5_62 vi_X5_requirePaper rfl rfl rfl rfl rfl rfl (Nat.le_of_ble_eq_true rfl) (Nat.le_of_ble_eq_true rfl) (fun _ _ h9 => h9.elim) (fun E9 h9 => AWX_out hK hX (Nat.le_of_ble_eq_true rfl) (Nat.le_of_ble_eq_true rfl) ?_)
    subst h9; simp only [x_X5_shared, hc107] at hr; cases hr; rfl
  · refine AW_callV hT hK 2 [.int p0] [] (m_X5_requirePaper l0 σ p0 v108 hc107) cw_X5_requirePaper lk_X5_62 vi_X5_requirePaper rfl rfl rfl rfl rfl rfl (Nat.le_of_ble_eq_true rfl) (Nat.le_of_ble_eq_true rfl) (AW_kn ?_)
    refine AW_g hT cl_X5 hK 3 2 (pc' := 7) (lo' := [some (.ref 0), some (.int p0), some (.int p1)]) (st' := [.int p1, .ref 0]) (hp' := wd σ) rfl ?_
    rcases hc109 : x_X5_requirePaper σ p1 with E | v110
    · refine AW_callVX hT hK 5 [.int p1] [] (mx_X5_requirePaper l0 hl0 σ p1 E hc109) cw_X5_requirePaper lk_X5_62 vi_X5_requirePaper rfl rfl rfl rfl rfl rfl (Nat.le_of_ble_eq_true rfl) (Nat.le_of_ble_eq_true rfl) (fun _ _ h9 => h9.elim) (fun E9 h9 => AWX_out hK hX (Nat.le_of_ble_eq_true rfl) (Nat.le_of_ble_eq_true rfl) ?_)
      subst h9; simp only [x_X5_shared, hc107, hc109] at hr; cases hr; rfl
    · refine AW_callV hT hK 5 [.int p1] [] (m_X5_requirePaper l0 σ p1 v110 hc109) cw_X5_requirePaper lk_X5_62 vi_X5_requirePaper rfl rfl rfl rfl rfl rfl (Nat.le_of_ble_eq_true rfl) (Nat.le_of_ble_eq_true rfl) (AW_kn ?_)
      exfalso; simp only [x_X5_shared, hc107, hc109] at hr
      first | (cases hr; done) | ((repeat' split at hr) <;> cases hr)
def x_X5_joint (σ : az_S) (p0 : Int32) (p1 : Int32) : String ⊕ Int32 :=
  match x_X5_requirePaper σ p0 with
  | .inl E => .inl E
  | .inr _ =>
    match x_X5_requirePaper σ p1 with
    | .inl E => .inl E
    | .inr _ =>
      let v6 := x_X3_jointOf σ p0 p1
      .inr v6
set_option maxRecDepth 100000 in
set_option maxHeartbeats 4000000 in
theorem m_X5_joint (l0 : Launch) (σ : az_S) (p0 : Int32) (p1 : Int32) (rv : Int32) (hr : x_X5_joint σ p0 p1 = .inr rv) : AMet l0 yX5_joint cX5_joint 3 (some .int) ({ frames := 7, cells := 0, slots := 0, locals := 103 } : Room) false [.ref 0, .int p0, .int p1] (wd σ) (fun r h => r = some (.int rv) ∧ h = wd σ) := by
  refine AMet_of (by decide +kernel) (by simp [Value.category]) (Nat.le_of_ble_eq_true rfl) (fun K hK hct hG hE => ?_)
  have hT := tt_X5_joint
  refine AW_g hT cl_X5 hK 0 2 (pc' := 2) (lo' := [some (.ref 0), some (.int p0), some (.int p1)]) (st' := [.int p0, .ref 0]) (hp' := wd σ) rfl ?_
  rcases hc1 : x_X5_requirePaper σ p0 with E | v2
  · exfalso; simp only [x_X5_joint, hc1] at hr; cases hr
  · refine AW_callV hT hK 2 [.int p0] [] (m_X5_requirePaper l0 σ p0 v2 hc1) cw_X5_requirePaper lk_X5_62 vi_X5_requirePaper rfl rfl rfl rfl rfl rfl (Nat.le_of_ble_eq_true rfl) (Nat.le_of_ble_eq_true rfl) (AW_kn ?_)
    refine AW_g hT cl_X5 hK 3 2 (pc' := 7) (lo' := [some (.ref 0), some (.int p0), some (.int p1)]) (st' := [.int p1, .ref 0]) (hp' := wd σ) rfl ?_
    rcases hc3 : x_X5_requirePaper σ p1 with E | v4
    · exfalso; simp only [x_X5_joint, hc1, hc3] at hr; cases hr
    · refine AW_callV hT hK 5 [.int p1] [] (m_X5_requirePaper l0 σ p1 v4 hc3) cw_X5_requirePaper lk_X5_62 vi_X5_requirePaper rfl rfl rfl rfl rfl rfl (Nat.le_of_ble_eq_true rfl) (Nat.le_of_ble_eq_true rfl) (AW_kn ?_)
      refine AW_g hT cl_X5 hK 6 4 (pc' := 16) (lo' := [some (.ref 0), some (.int p0), some (.int p1)]) (st' := [.int p1, .int p0, .ref 1]) (hp' := wd σ) rfl ?_
      refine AW_callV hT hK 10 [.int p0, .int p1] [] (m_X3_jointOf l0 σ p0 p1) cw_X3_jointOf lk_X5_88 vi_X3_jointOf rfl rfl rfl rfl rfl rfl (Nat.le_of_ble_eq_true rfl) (Nat.le_of_ble_eq_true rfl) (AW_k1 (fun v6 h5 => ?_))
      refine AW_iret hT hE 11 rfl rfl rfl (Nat.le_of_ble_eq_true rfl) (Nat.le_of_ble_eq_true rfl) ?_
      subst h5; simp only [x_X5_joint, hc1, hc3] at hr; cases hr; exact ⟨rfl, rfl⟩
set_option maxRecDepth 100000 in
set_option maxHeartbeats 4000000 in
theorem mx_X5_joint (l0 : Launch) (hl0 : l0.stackTraces = false) (σ : az_S) (p0 : Int32) (p1 : Int32) (E0 : String) (hr : x_X5_joint σ p0 p1 = .inl E0) : AMetX l0 yX5_joint cX5_joint 3 (some .int) ({ frames := 7, cells := 1, slots := 6, locals := 103 } : Room) [.ref 0, .int p0, .int p1] (wd σ) (fun _ _ => False) (fun E => E = E0) := by
  refine AMetX_of (by decide +kernel) (by simp [Value.category]) (Nat.le_of_ble_eq_true rfl) (fun K hK hX hE => ?_)
  have hT := tt_X5_joint
  refine AW_g hT cl_X5 hK 0 2 (pc' := 2) (lo' := [some (.ref 0), some (.int p0), some (.int p1)]) (st' := [.int p0, .ref 0]) (hp' := wd σ) rfl ?_
  rcases hc107 : x_X5_requirePaper σ p0 with E | v108
  · refine AW_callVX hT hK 2 [.int p0] [] (mx_X5_requirePaper l0 hl0 σ p0 E hc107) cw_X5_requirePaper lk_X5_62 vi_X5_requirePaper rfl rfl rfl rfl rfl rfl (Nat.le_of_ble_eq_true rfl) (Nat.le_of_ble_eq_true rfl) (fun _ _ h9 => h9.elim) (fun E9 h9 => AWX_out hK hX (Nat.le_of_ble_eq_true rfl) (Nat.le_of_ble_eq_true rfl) ?_)
    subst h9; simp only [x_X5_joint, hc107] at hr; cases hr; rfl
  · refine AW_callV hT hK 2 [.int p0] [] (m_X5_requirePaper l0 σ p0 v108 hc107) cw_X5_requirePaper lk_X5_62 vi_X5_requirePaper rfl rfl rfl rfl rfl rfl (Nat.le_of_ble_eq_true rfl) (Nat.le_of_ble_eq_true rfl) (AW_kn ?_)
    refine AW_g hT cl_X5 hK 3 2 (pc' := 7) (lo' := [some (.ref 0), some (.int p0), some (.int p1)]) (st' := [.int p1, .ref 0]) (hp' := wd σ) rfl ?_
    rcases hc109 : x_X5_requirePaper σ p1 with E | v110
    · refine AW_callVX hT hK 5 [.int p1] [] (mx_X5_requirePaper l0 hl0 σ p1 E hc109) cw_X5_requirePaper lk_X5_62 vi_X5_requirePaper rfl rfl rfl rfl rfl rfl (Nat.le_of_ble_eq_true rfl) (Nat.le_of_ble_eq_true rfl) (fun _ _ h9 => h9.elim) (fun E9 h9 => AWX_out hK hX (Nat.le_of_ble_eq_true rfl) (Nat.le_of_ble_eq_true rfl) ?_)
      subst h9; simp only [x_X5_joint, hc107, hc109] at hr; cases hr; rfl
    · refine AW_callV hT hK 5 [.int p1] [] (m_X5_requirePaper l0 σ p1 v110 hc109) cw_X5_requirePaper lk_X5_62 vi_X5_requirePaper rfl rfl rfl rfl rfl rfl (Nat.le_of_ble_eq_true rfl) (Nat.le_of_ble_eq_true rfl) (AW_kn ?_)
      exfalso; simp only [x_X5_joint, hc107, hc109] at hr
      first | (cases hr; done) | ((repeat' split at hr) <;> cases hr)
def x_X5_likenessNumerator (σ : az_S) (p0 : Int32) (p1 : Int32) : String ⊕ Int32 :=
  match x_X5_requirePaper σ p0 with
  | .inl E => .inl E
  | .inr _ =>
    match x_X5_requirePaper σ p1 with
    | .inl E => .inl E
    | .inr _ =>
      let v6 := x_X3_sharedOf σ p0 p1
      let v8 := x_X5_referencePairs σ p0 p1
      let v10 := x_X5_lowestTerm σ (v6 * v6) (v6 * v6) v8
      .inr v10
set_option maxRecDepth 100000 in
set_option maxHeartbeats 4000000 in
theorem m_X5_likenessNumerator (l0 : Launch) (σ : az_S) (p0 : Int32) (p1 : Int32) (rv : Int32) (hr : x_X5_likenessNumerator σ p0 p1 = .inr rv) : AMet l0 yX5_likenessNumerator cX5_likenessNumerator 4 (some .int) ({ frames := 7, cells := 0, slots := 0, locals := 103 } : Room) false [.ref 0, .int p0, .int p1] (wd σ) (fun r h => r = some (.int rv) ∧ h = wd σ) := by
  refine AMet_of (by decide +kernel) (by simp [Value.category]) (Nat.le_of_ble_eq_true rfl) (fun K hK hct hG hE => ?_)
  have hT := tt_X5_likenessNumerator
  refine AW_g hT cl_X5 hK 0 2 (pc' := 2) (lo' := [some (.ref 0), some (.int p0), some (.int p1), none]) (st' := [.int p0, .ref 0]) (hp' := wd σ) rfl ?_
  rcases hc1 : x_X5_requirePaper σ p0 with E | v2
  · exfalso; simp only [x_X5_likenessNumerator, hc1] at hr; cases hr
  · refine AW_callV hT hK 2 [.int p0] [] (m_X5_requirePaper l0 σ p0 v2 hc1) cw_X5_requirePaper lk_X5_62 vi_X5_requirePaper rfl rfl rfl rfl rfl rfl (Nat.le_of_ble_eq_true rfl) (Nat.le_of_ble_eq_true rfl) (AW_kn ?_)
    refine AW_g hT cl_X5 hK 3 2 (pc' := 7) (lo' := [some (.ref 0), some (.int p0), some (.int p1), none]) (st' := [.int p1, .ref 0]) (hp' := wd σ) rfl ?_
    rcases hc3 : x_X5_requirePaper σ p1 with E | v4
    · exfalso; simp only [x_X5_likenessNumerator, hc1, hc3] at hr; cases hr
    · refine AW_callV hT hK 5 [.int p1] [] (m_X5_requirePaper l0 σ p1 v4 hc3) cw_X5_requirePaper lk_X5_62 vi_X5_requirePaper rfl rfl rfl rfl rfl rfl (Nat.le_of_ble_eq_true rfl) (Nat.le_of_ble_eq_true rfl) (AW_kn ?_)
      refine AW_g hT cl_X5 hK 6 4 (pc' := 16) (lo' := [some (.ref 0), some (.int p0), some (.int p1), none]) (st' := [.int p1, .int p0, .ref 1]) (hp' := wd σ) rfl ?_
      refine AW_callV hT hK 10 [.int p0, .int p1] [] (m_X3_sharedOf l0 σ p0 p1) cw_X3_sharedOf lk_X5_85 vi_X3_sharedOf rfl rfl rfl rfl rfl rfl (Nat.le_of_ble_eq_true rfl) (Nat.le_of_ble_eq_true rfl) (AW_k1 (fun v6 h5 => ?_))
      refine AW_g hT cl_X5 hK 11 10 (pc' := 29) (lo' := [some (.ref 0), some (.int p0), some (.int p1), some (.int v6)]) (st' := [.int p1, .int p0, .ref 0, .int (v6 * v6), .int (v6 * v6)]) (hp' := wd σ) rfl ?_
      refine AW_callV hT hK 21 [.int p0, .int p1] [.int (v6 * v6), .int (v6 * v6)] (m_X5_referencePairs l0 σ p0 p1) cw_X5_referencePairs lk_X5_97 vi_X5_referencePairs rfl rfl rfl rfl rfl rfl (Nat.le_of_ble_eq_true rfl) (Nat.le_of_ble_eq_true rfl) (AW_k1 (fun v8 h7 => ?_))
      refine AW_callS hT hK 22 [.int (v6 * v6), .int (v6 * v6), .int v8] [] (m_X5_lowestTerm l0 σ (v6 * v6) (v6 * v6) v8) cw_X5_lowestTerm lk_X5_100 sm_X5_lowestTerm rfl rfl rfl rfl (Nat.le_of_ble_eq_true rfl) (Nat.le_of_ble_eq_true rfl) (AW_k1 (fun v10 h9 => ?_))
      refine AW_iret hT hE 23 rfl rfl rfl (Nat.le_of_ble_eq_true rfl) (Nat.le_of_ble_eq_true rfl) ?_
      subst h9; subst h7; subst h5; simp only [x_X5_likenessNumerator, hc1, hc3] at hr; cases hr; exact ⟨rfl, rfl⟩
set_option maxRecDepth 100000 in
set_option maxHeartbeats 4000000 in
theorem mx_X5_likenessNumerator (l0 : Launch) (hl0 : l0.stackTraces = false) (σ : az_S) (p0 : Int32) (p1 : Int32) (E0 : String) (hr : x_X5_likenessNumerator σ p0 p1 = .inl E0) : AMetX l0 yX5_likenessNumerator cX5_likenessNumerator 4 (some .int) ({ frames := 7, cells := 1, slots := 6, locals := 103 } : Room) [.ref 0, .int p0, .int p1] (wd σ) (fun _ _ => False) (fun E => E = E0) := by
  refine AMetX_of (by decide +kernel) (by simp [Value.category]) (Nat.le_of_ble_eq_true rfl) (fun K hK hX hE => ?_)
  have hT := tt_X5_likenessNumerator
  refine AW_g hT cl_X5 hK 0 2 (pc' := 2) (lo' := [some (.ref 0), some (.int p0), some (.int p1), none]) (st' := [.int p0, .ref 0]) (hp' := wd σ) rfl ?_
  rcases hc111 : x_X5_requirePaper σ p0 with E | v112
  · refine AW_callVX hT hK 2 [.int p0] [] (mx_X5_requirePaper l0 hl0 σ p0 E hc111) cw_X5_requirePaper lk_X5_62 vi_X5_requirePaper rfl rfl rfl rfl rfl rfl (Nat.le_of_ble_eq_true rfl) (Nat.le_of_ble_eq_true rfl) (fun _ _ h9 => h9.elim) (fun E9 h9 => AWX_out hK hX (Nat.le_of_ble_eq_true rfl) (Nat.le_of_ble_eq_true rfl) ?_)
    subst h9; simp only [x_X5_likenessNumerator, hc111] at hr; cases hr; rfl
  · refine AW_callV hT hK 2 [.int p0] [] (m_X5_requirePaper l0 σ p0 v112 hc111) cw_X5_requirePaper lk_X5_62 vi_X5_requirePaper rfl rfl rfl rfl rfl rfl (Nat.le_of_ble_eq_true rfl) (Nat.le_of_ble_eq_true rfl) (AW_kn ?_)
    refine AW_g hT cl_X5 hK 3 2 (pc' := 7) (lo' := [some (.ref 0), some (.int p0), some (.int p1), none]) (st' := [.int p1, .ref 0]) (hp' := wd σ) rfl ?_
    rcases hc113 : x_X5_requirePaper σ p1 with E | v114
    · refine AW_callVX hT hK 5 [.int p1] [] (mx_X5_requirePaper l0 hl0 σ p1 E hc113) cw_X5_requirePaper lk_X5_62 vi_X5_requirePaper rfl rfl rfl rfl rfl rfl (Nat.le_of_ble_eq_true rfl) (Nat.le_of_ble_eq_true rfl) (fun _ _ h9 => h9.elim) (fun E9 h9 => AWX_out hK hX (Nat.le_of_ble_eq_true rfl) (Nat.le_of_ble_eq_true rfl) ?_)
      subst h9; simp only [x_X5_likenessNumerator, hc111, hc113] at hr; cases hr; rfl
    · refine AW_callV hT hK 5 [.int p1] [] (m_X5_requirePaper l0 σ p1 v114 hc113) cw_X5_requirePaper lk_X5_62 vi_X5_requirePaper rfl rfl rfl rfl rfl rfl (Nat.le_of_ble_eq_true rfl) (Nat.le_of_ble_eq_true rfl) (AW_kn ?_)
      exfalso; simp only [x_X5_likenessNumerator, hc111, hc113] at hr
      first | (cases hr; done) | ((repeat' split at hr) <;> cases hr)
def x_X5_likenessDenominator (σ : az_S) (p0 : Int32) (p1 : Int32) : String ⊕ Int32 :=
  match x_X5_requirePaper σ p0 with
  | .inl E => .inl E
  | .inr _ =>
    match x_X5_requirePaper σ p1 with
    | .inl E => .inl E
    | .inr _ =>
      let v6 := x_X3_sharedOf σ p0 p1
      let v8 := x_X5_referencePairs σ p0 p1
      if v8 = 0 then
        .inr 1
      else
        let v11 := x_X5_lowestTerm σ v8 (v6 * v6) v8
        .inr v11
set_option maxRecDepth 100000 in
set_option maxHeartbeats 4000000 in
theorem m_X5_likenessDenominator (l0 : Launch) (σ : az_S) (p0 : Int32) (p1 : Int32) (rv : Int32) (hr : x_X5_likenessDenominator σ p0 p1 = .inr rv) : AMet l0 yX5_likenessDenominator cX5_likenessDenominator 5 (some .int) ({ frames := 7, cells := 0, slots := 0, locals := 103 } : Room) false [.ref 0, .int p0, .int p1] (wd σ) (fun r h => r = some (.int rv) ∧ h = wd σ) := by
  refine AMet_of (by decide +kernel) (by simp [Value.category]) (Nat.le_of_ble_eq_true rfl) (fun K hK hct hG hE => ?_)
  have hT := tt_X5_likenessDenominator
  refine AW_g hT cl_X5 hK 0 2 (pc' := 2) (lo' := [some (.ref 0), some (.int p0), some (.int p1), none, none]) (st' := [.int p0, .ref 0]) (hp' := wd σ) rfl ?_
  rcases hc1 : x_X5_requirePaper σ p0 with E | v2
  · exfalso; simp only [x_X5_likenessDenominator, hc1] at hr; cases hr
  · refine AW_callV hT hK 2 [.int p0] [] (m_X5_requirePaper l0 σ p0 v2 hc1) cw_X5_requirePaper lk_X5_62 vi_X5_requirePaper rfl rfl rfl rfl rfl rfl (Nat.le_of_ble_eq_true rfl) (Nat.le_of_ble_eq_true rfl) (AW_kn ?_)
    refine AW_g hT cl_X5 hK 3 2 (pc' := 7) (lo' := [some (.ref 0), some (.int p0), some (.int p1), none, none]) (st' := [.int p1, .ref 0]) (hp' := wd σ) rfl ?_
    rcases hc3 : x_X5_requirePaper σ p1 with E | v4
    · exfalso; simp only [x_X5_likenessDenominator, hc1, hc3] at hr; cases hr
    · refine AW_callV hT hK 5 [.int p1] [] (m_X5_requirePaper l0 σ p1 v4 hc3) cw_X5_requirePaper lk_X5_62 vi_X5_requirePaper rfl rfl rfl rfl rfl rfl (Nat.le_of_ble_eq_true rfl) (Nat.le_of_ble_eq_true rfl) (AW_kn ?_)
      refine AW_g hT cl_X5 hK 6 4 (pc' := 16) (lo' := [some (.ref 0), some (.int p0), some (.int p1), none, none]) (st' := [.int p1, .int p0, .ref 1]) (hp' := wd σ) rfl ?_
      refine AW_callV hT hK 10 [.int p0, .int p1] [] (m_X3_sharedOf l0 σ p0 p1) cw_X3_sharedOf lk_X5_85 vi_X3_sharedOf rfl rfl rfl rfl rfl rfl (Nat.le_of_ble_eq_true rfl) (Nat.le_of_ble_eq_true rfl) (AW_k1 (fun v6 h5 => ?_))
      refine AW_g hT cl_X5 hK 11 4 (pc' := 23) (lo' := [some (.ref 0), some (.int p0), some (.int p1), some (.int v6), none]) (st' := [.int p1, .int p0, .ref 0]) (hp' := wd σ) rfl ?_
      refine AW_callV hT hK 15 [.int p0, .int p1] [] (m_X5_referencePairs l0 σ p0 p1) cw_X5_referencePairs lk_X5_97 vi_X5_referencePairs rfl rfl rfl rfl rfl rfl (Nat.le_of_ble_eq_true rfl) (Nat.le_of_ble_eq_true rfl) (AW_k1 (fun v8 h7 => ?_))
      refine AW_g hT cl_X5 hK 16 2 (pc' := 30) (lo' := [some (.ref 0), some (.int p0), some (.int p1), some (.int v6), some (.int v8)]) (st' := [.int v8]) (hp' := wd σ) rfl ?_
      refine AW_if_ne hT hK 18 (tgt := 37) rfl rfl (fun c9 => ?_) (fun c9 => ?_)
      · refine AW_g hT cl_X5 hK 21 5 (pc' := 44) (lo' := [some (.ref 0), some (.int p0), some (.int p1), some (.int v6), some (.int v8)]) (st' := [.int v8, .int (v6 * v6), .int v8]) (hp' := wd σ) rfl ?_
        refine AW_callS hT hK 26 [.int v8, .int (v6 * v6), .int v8] [] (m_X5_lowestTerm l0 σ v8 (v6 * v6) v8) cw_X5_lowestTerm lk_X5_100 sm_X5_lowestTerm rfl rfl rfl rfl (Nat.le_of_ble_eq_true rfl) (Nat.le_of_ble_eq_true rfl) (AW_k1 (fun v11 h10 => ?_))
        refine AW_iret hT hE 27 rfl rfl rfl (Nat.le_of_ble_eq_true rfl) (Nat.le_of_ble_eq_true rfl) ?_
        subst h10; subst h7; subst h5; simp only [x_X5_likenessDenominator, hc1, hc3, if_neg c9] at hr; cases hr; exact ⟨rfl, rfl⟩
      · refine AW_g hT cl_X5 hK 19 1 (pc' := 34) (lo' := [some (.ref 0), some (.int p0), some (.int p1), some (.int v6), some (.int v8)]) (st' := [.int 1]) (hp' := wd σ) rfl ?_
        refine AW_goto hT hK 20 (tgt := 47) rfl rfl ?_
        refine AW_iret hT hE 27 rfl rfl rfl (Nat.le_of_ble_eq_true rfl) (Nat.le_of_ble_eq_true rfl) ?_
        subst h7; subst h5; simp only [x_X5_likenessDenominator, hc1, hc3, if_pos c9] at hr; cases hr; exact ⟨rfl, rfl⟩
set_option maxRecDepth 100000 in
set_option maxHeartbeats 4000000 in
theorem mx_X5_likenessDenominator (l0 : Launch) (hl0 : l0.stackTraces = false) (σ : az_S) (p0 : Int32) (p1 : Int32) (E0 : String) (hr : x_X5_likenessDenominator σ p0 p1 = .inl E0) : AMetX l0 yX5_likenessDenominator cX5_likenessDenominator 5 (some .int) ({ frames := 7, cells := 1, slots := 6, locals := 103 } : Room) [.ref 0, .int p0, .int p1] (wd σ) (fun _ _ => False) (fun E => E = E0) := by
  refine AMetX_of (by decide +kernel) (by simp [Value.category]) (Nat.le_of_ble_eq_true rfl) (fun K hK hX hE => ?_)
  have hT := tt_X5_likenessDenominator
  refine AW_g hT cl_X5 hK 0 2 (pc' := 2) (lo' := [some (.ref 0), some (.int p0), some (.int p1), none, none]) (st' := [.int p0, .ref 0]) (hp' := wd σ) rfl ?_
  rcases hc112 : x_X5_requirePaper σ p0 with E | v113
  · refine AW_callVX hT hK 2 [.int p0] [] (mx_X5_requirePaper l0 hl0 σ p0 E hc112) cw_X5_requirePaper lk_X5_62 vi_X5_requirePaper rfl rfl rfl rfl rfl rfl (Nat.le_of_ble_eq_true rfl) (Nat.le_of_ble_eq_true rfl) (fun _ _ h9 => h9.elim) (fun E9 h9 => AWX_out hK hX (Nat.le_of_ble_eq_true rfl) (Nat.le_of_ble_eq_true rfl) ?_)
    subst h9; simp only [x_X5_likenessDenominator, hc112] at hr; cases hr; rfl
  · refine AW_callV hT hK 2 [.int p0] [] (m_X5_requirePaper l0 σ p0 v113 hc112) cw_X5_requirePaper lk_X5_62 vi_X5_requirePaper rfl rfl rfl rfl rfl rfl (Nat.le_of_ble_eq_true rfl) (Nat.le_of_ble_eq_true rfl) (AW_kn ?_)
    refine AW_g hT cl_X5 hK 3 2 (pc' := 7) (lo' := [some (.ref 0), some (.int p0), some (.int p1), none, none]) (st' := [.int p1, .ref 0]) (hp' := wd σ) rfl ?_
    rcases hc114 : x_X5_requirePaper σ p1 with E | v115
    · refine AW_callVX hT hK 5 [.int p1] [] (mx_X5_requirePaper l0 hl0 σ p1 E hc114) cw_X5_requirePaper lk_X5_62 vi_X5_requirePaper rfl rfl rfl rfl rfl rfl (Nat.le_of_ble_eq_true rfl) (Nat.le_of_ble_eq_true rfl) (fun _ _ h9 => h9.elim) (fun E9 h9 => AWX_out hK hX (Nat.le_of_ble_eq_true rfl) (Nat.le_of_ble_eq_true rfl) ?_)
      subst h9; simp only [x_X5_likenessDenominator, hc112, hc114] at hr; cases hr; rfl
    · refine AW_callV hT hK 5 [.int p1] [] (m_X5_requirePaper l0 σ p1 v115 hc114) cw_X5_requirePaper lk_X5_62 vi_X5_requirePaper rfl rfl rfl rfl rfl rfl (Nat.le_of_ble_eq_true rfl) (Nat.le_of_ble_eq_true rfl) (AW_kn ?_)
      exfalso; simp only [x_X5_likenessDenominator, hc112, hc114] at hr
      first | (cases hr; done) | ((repeat' split at hr) <;> cases hr)
def x_X5_fieldOf (σ : az_S) (p0 : Int32) : String ⊕ Int32 :=
  match x_X5_requirePaper σ p0 with
  | .inl E => .inl E
  | .inr _ =>
    let v4 := x_X0_groupOf σ p0
    .inr v4
set_option maxRecDepth 100000 in
set_option maxHeartbeats 4000000 in
theorem m_X5_fieldOf (l0 : Launch) (σ : az_S) (p0 : Int32) (rv : Int32) (hr : x_X5_fieldOf σ p0 = .inr rv) : AMet l0 yX5_fieldOf cX5_fieldOf 2 (some .int) ({ frames := 7, cells := 0, slots := 0, locals := 103 } : Room) false [.ref 0, .int p0] (wd σ) (fun r h => r = some (.int rv) ∧ h = wd σ) := by
  refine AMet_of (by decide +kernel) (by simp [Value.category]) (Nat.le_of_ble_eq_true rfl) (fun K hK hct hG hE => ?_)
  have hT := tt_X5_fieldOf
  refine AW_g hT cl_X5 hK 0 2 (pc' := 2) (lo' := [some (.ref 0), some (.int p0)]) (st' := [.int p0, .ref 0]) (hp' := wd σ) rfl ?_
  rcases hc1 : x_X5_requirePaper σ p0 with E | v2
  · exfalso; simp only [x_X5_fieldOf, hc1] at hr; cases hr
  · refine AW_callV hT hK 2 [.int p0] [] (m_X5_requirePaper l0 σ p0 v2 hc1) cw_X5_requirePaper lk_X5_62 vi_X5_requirePaper rfl rfl rfl rfl rfl rfl (Nat.le_of_ble_eq_true rfl) (Nat.le_of_ble_eq_true rfl) (AW_kn ?_)
    refine AW_g hT cl_X5 hK 3 3 (pc' := 10) (lo' := [some (.ref 0), some (.int p0)]) (st' := [.int p0, .ref 12]) (hp' := wd σ) rfl ?_
    refine AW_callV hT hK 6 [.int p0] [] (m_X0_groupOf l0 σ p0) cw_X0_groupOf lk_X5_104 vi_X0_groupOf rfl rfl rfl rfl rfl rfl (Nat.le_of_ble_eq_true rfl) (Nat.le_of_ble_eq_true rfl) (AW_k1 (fun v4 h3 => ?_))
    refine AW_iret hT hE 7 rfl rfl rfl (Nat.le_of_ble_eq_true rfl) (Nat.le_of_ble_eq_true rfl) ?_
    subst h3; simp only [x_X5_fieldOf, hc1] at hr; cases hr; exact ⟨rfl, rfl⟩
set_option maxRecDepth 100000 in
set_option maxHeartbeats 4000000 in
theorem mx_X5_fieldOf (l0 : Launch) (hl0 : l0.stackTraces = false) (σ : az_S) (p0 : Int32) (E0 : String) (hr : x_X5_fieldOf σ p0 = .inl E0) : AMetX l0 yX5_fieldOf cX5_fieldOf 2 (some .int) ({ frames := 7, cells := 1, slots := 6, locals := 103 } : Room) [.ref 0, .int p0] (wd σ) (fun _ _ => False) (fun E => E = E0) := by
  refine AMetX_of (by decide +kernel) (by simp [Value.category]) (Nat.le_of_ble_eq_true rfl) (fun K hK hX hE => ?_)
  have hT := tt_X5_fieldOf
  refine AW_g hT cl_X5 hK 0 2 (pc' := 2) (lo' := [some (.ref 0), some (.int p0)]) (st' := [.int p0, .ref 0]) (hp' := wd σ) rfl ?_
  rcases hc105 : x_X5_requirePaper σ p0 with E | v106
  · refine AW_callVX hT hK 2 [.int p0] [] (mx_X5_requirePaper l0 hl0 σ p0 E hc105) cw_X5_requirePaper lk_X5_62 vi_X5_requirePaper rfl rfl rfl rfl rfl rfl (Nat.le_of_ble_eq_true rfl) (Nat.le_of_ble_eq_true rfl) (fun _ _ h9 => h9.elim) (fun E9 h9 => AWX_out hK hX (Nat.le_of_ble_eq_true rfl) (Nat.le_of_ble_eq_true rfl) ?_)
    subst h9; simp only [x_X5_fieldOf, hc105] at hr; cases hr; rfl
  · refine AW_callV hT hK 2 [.int p0] [] (m_X5_requirePaper l0 σ p0 v106 hc105) cw_X5_requirePaper lk_X5_62 vi_X5_requirePaper rfl rfl rfl rfl rfl rfl (Nat.le_of_ble_eq_true rfl) (Nat.le_of_ble_eq_true rfl) (AW_kn ?_)
    exfalso; simp only [x_X5_fieldOf, hc105] at hr
    first | (cases hr; done) | ((repeat' split at hr) <;> cases hr)
def x_X5_gain (σ : az_S) (p0 : Int32) (p1 : Int32) : String ⊕ Int32 :=
  match x_X5_requireField σ p0 with
  | .inl E => .inl E
  | .inr _ =>
    match x_X5_requireField σ p1 with
    | .inl E => .inl E
    | .inr _ =>
      if p0 = p1 then
        .inl az_IAE
      else
        let v7 := x_X0_gainOfJoining σ p0 p1
        .inr v7
set_option maxRecDepth 100000 in
set_option maxHeartbeats 4000000 in
theorem m_X5_gain (l0 : Launch) (σ : az_S) (p0 : Int32) (p1 : Int32) (rv : Int32) (hr : x_X5_gain σ p0 p1 = .inr rv) : AMet l0 yX5_gain cX5_gain 3 (some .int) ({ frames := 7, cells := 0, slots := 0, locals := 103 } : Room) false [.ref 0, .int p0, .int p1] (wd σ) (fun r h => r = some (.int rv) ∧ h = wd σ) := by
  refine AMet_of (by decide +kernel) (by simp [Value.category]) (Nat.le_of_ble_eq_true rfl) (fun K hK hct hG hE => ?_)
  have hT := tt_X5_gain
  refine AW_g hT cl_X5 hK 0 2 (pc' := 2) (lo' := [some (.ref 0), some (.int p0), some (.int p1)]) (st' := [.int p0, .ref 0]) (hp' := wd σ) rfl ?_
  rcases hc1 : x_X5_requireField σ p0 with E | v2
  · exfalso; simp only [x_X5_gain, hc1] at hr; cases hr
  · refine AW_callV hT hK 2 [.int p0] [] (m_X5_requireField l0 σ p0 v2 hc1) cw_X5_requireField lk_X5_110 vi_X5_requireField rfl rfl rfl rfl rfl rfl (Nat.le_of_ble_eq_true rfl) (Nat.le_of_ble_eq_true rfl) (AW_kn ?_)
    refine AW_g hT cl_X5 hK 3 2 (pc' := 7) (lo' := [some (.ref 0), some (.int p0), some (.int p1)]) (st' := [.int p1, .ref 0]) (hp' := wd σ) rfl ?_
    rcases hc3 : x_X5_requireField σ p1 with E | v4
    · exfalso; simp only [x_X5_gain, hc1, hc3] at hr; cases hr
    · refine AW_callV hT hK 5 [.int p1] [] (m_X5_requireField l0 σ p1 v4 hc3) cw_X5_requireField lk_X5_110 vi_X5_requireField rfl rfl rfl rfl rfl rfl (Nat.le_of_ble_eq_true rfl) (Nat.le_of_ble_eq_true rfl) (AW_kn ?_)
      refine AW_g hT cl_X5 hK 6 2 (pc' := 12) (lo' := [some (.ref 0), some (.int p0), some (.int p1)]) (st' := [.int p1, .int p0]) (hp' := wd σ) rfl ?_
      refine AW_icmp_ne hT hK 8 (tgt := 25) rfl rfl (fun c5 => ?_) (fun c5 => ?_)
      · refine AW_g hT cl_X5 hK 14 4 (pc' := 31) (lo' := [some (.ref 0), some (.int p0), some (.int p1)]) (st' := [.int p1, .int p0, .ref 12]) (hp' := wd σ) rfl ?_
        refine AW_callV hT hK 18 [.int p0, .int p1] [] (m_X0_gainOfJoining l0 σ p0 p1) cw_X0_gainOfJoining lk_X5_115 vi_X0_gainOfJoining rfl rfl rfl rfl rfl rfl (Nat.le_of_ble_eq_true rfl) (Nat.le_of_ble_eq_true rfl) (AW_k1 (fun v7 h6 => ?_))
        refine AW_iret hT hE 19 rfl rfl rfl (Nat.le_of_ble_eq_true rfl) (Nat.le_of_ble_eq_true rfl) ?_
        subst h6; simp only [x_X5_gain, hc1, hc3, if_neg c5] at hr; cases hr; exact ⟨rfl, rfl⟩
      · exfalso; simp only [x_X5_gain, hc1, hc3, if_pos c5] at hr; cases hr
set_option maxRecDepth 100000 in
set_option maxHeartbeats 4000000 in
theorem mx_X5_gain (l0 : Launch) (hl0 : l0.stackTraces = false) (σ : az_S) (p0 : Int32) (p1 : Int32) (E0 : String) (hr : x_X5_gain σ p0 p1 = .inl E0) : AMetX l0 yX5_gain cX5_gain 3 (some .int) ({ frames := 7, cells := 1, slots := 6, locals := 103 } : Room) [.ref 0, .int p0, .int p1] (wd σ) (fun _ _ => False) (fun E => E = E0) := by
  refine AMetX_of (by decide +kernel) (by simp [Value.category]) (Nat.le_of_ble_eq_true rfl) (fun K hK hX hE => ?_)
  have hT := tt_X5_gain
  refine AW_g hT cl_X5 hK 0 2 (pc' := 2) (lo' := [some (.ref 0), some (.int p0), some (.int p1)]) (st' := [.int p0, .ref 0]) (hp' := wd σ) rfl ?_
  rcases hc108 : x_X5_requireField σ p0 with E | v109
  · refine AW_callVX hT hK 2 [.int p0] [] (mx_X5_requireField l0 hl0 σ p0 E hc108) cw_X5_requireField lk_X5_110 vi_X5_requireField rfl rfl rfl rfl rfl rfl (Nat.le_of_ble_eq_true rfl) (Nat.le_of_ble_eq_true rfl) (fun _ _ h9 => h9.elim) (fun E9 h9 => AWX_out hK hX (Nat.le_of_ble_eq_true rfl) (Nat.le_of_ble_eq_true rfl) ?_)
    subst h9; simp only [x_X5_gain, hc108] at hr; cases hr; rfl
  · refine AW_callV hT hK 2 [.int p0] [] (m_X5_requireField l0 σ p0 v109 hc108) cw_X5_requireField lk_X5_110 vi_X5_requireField rfl rfl rfl rfl rfl rfl (Nat.le_of_ble_eq_true rfl) (Nat.le_of_ble_eq_true rfl) (AW_kn ?_)
    refine AW_g hT cl_X5 hK 3 2 (pc' := 7) (lo' := [some (.ref 0), some (.int p0), some (.int p1)]) (st' := [.int p1, .ref 0]) (hp' := wd σ) rfl ?_
    rcases hc110 : x_X5_requireField σ p1 with E | v111
    · refine AW_callVX hT hK 5 [.int p1] [] (mx_X5_requireField l0 hl0 σ p1 E hc110) cw_X5_requireField lk_X5_110 vi_X5_requireField rfl rfl rfl rfl rfl rfl (Nat.le_of_ble_eq_true rfl) (Nat.le_of_ble_eq_true rfl) (fun _ _ h9 => h9.elim) (fun E9 h9 => AWX_out hK hX (Nat.le_of_ble_eq_true rfl) (Nat.le_of_ble_eq_true rfl) ?_)
      subst h9; simp only [x_X5_gain, hc108, hc110] at hr; cases hr; rfl
    · refine AW_callV hT hK 5 [.int p1] [] (m_X5_requireField l0 σ p1 v111 hc110) cw_X5_requireField lk_X5_110 vi_X5_requireField rfl rfl rfl rfl rfl rfl (Nat.le_of_ble_eq_true rfl) (Nat.le_of_ble_eq_true rfl) (AW_kn ?_)
      refine AW_g hT cl_X5 hK 6 2 (pc' := 12) (lo' := [some (.ref 0), some (.int p0), some (.int p1)]) (st' := [.int p1, .int p0]) (hp' := wd σ) rfl ?_
      refine AW_icmp_ne hT hK 8 (tgt := 25) rfl rfl (fun c112 => ?_) (fun c112 => ?_)
      · exfalso; simp only [x_X5_gain, hc108, hc110, if_neg c112] at hr
        first | (cases hr; done) | ((repeat' split at hr) <;> cases hr)
      · refine AW_throw hT hK hX hl0 9 (cls := az_IAE) (text := "both fields are the same") (ix := 7) (rx := az_r7) az_r7_ok rfl rfl rfl rfl rfl (by decide) (List.mem_of_getElem? (i := 497) (by decide +kernel)) (List.mem_of_getElem? (i := 35) (by decide +kernel)) (by decide) at_38.1 at_38.2 ⟨by decide, by decide⟩ (Nat.le_of_ble_eq_true rfl) (Nat.le_of_ble_eq_true rfl) ?_
        simp only [x_X5_gain, hc108, hc110, if_pos c112] at hr; cases hr; rfl
def x_X5_split (σ : az_S) (p0 : Int32) : String ⊕ Int32 :=
  match x_X5_requireField σ p0 with
  | .inl E => .inl E
  | .inr _ =>
    let v4 := x_X0_splitOf σ p0
    .inr v4
set_option maxRecDepth 100000 in
set_option maxHeartbeats 4000000 in
theorem m_X5_split (l0 : Launch) (σ : az_S) (p0 : Int32) (rv : Int32) (hr : x_X5_split σ p0 = .inr rv) : AMet l0 yX5_split cX5_split 2 (some .int) ({ frames := 7, cells := 0, slots := 0, locals := 103 } : Room) false [.ref 0, .int p0] (wd σ) (fun r h => r = some (.int rv) ∧ h = wd σ) := by
  refine AMet_of (by decide +kernel) (by simp [Value.category]) (Nat.le_of_ble_eq_true rfl) (fun K hK hct hG hE => ?_)
  have hT := tt_X5_split
  refine AW_g hT cl_X5 hK 0 2 (pc' := 2) (lo' := [some (.ref 0), some (.int p0)]) (st' := [.int p0, .ref 0]) (hp' := wd σ) rfl ?_
  rcases hc1 : x_X5_requireField σ p0 with E | v2
  · exfalso; simp only [x_X5_split, hc1] at hr; cases hr
  · refine AW_callV hT hK 2 [.int p0] [] (m_X5_requireField l0 σ p0 v2 hc1) cw_X5_requireField lk_X5_110 vi_X5_requireField rfl rfl rfl rfl rfl rfl (Nat.le_of_ble_eq_true rfl) (Nat.le_of_ble_eq_true rfl) (AW_kn ?_)
    refine AW_g hT cl_X5 hK 3 3 (pc' := 10) (lo' := [some (.ref 0), some (.int p0)]) (st' := [.int p0, .ref 12]) (hp' := wd σ) rfl ?_
    refine AW_callV hT hK 6 [.int p0] [] (m_X0_splitOf l0 σ p0) cw_X0_splitOf lk_X5_118 vi_X0_splitOf rfl rfl rfl rfl rfl rfl (Nat.le_of_ble_eq_true rfl) (Nat.le_of_ble_eq_true rfl) (AW_k1 (fun v4 h3 => ?_))
    refine AW_iret hT hE 7 rfl rfl rfl (Nat.le_of_ble_eq_true rfl) (Nat.le_of_ble_eq_true rfl) ?_
    subst h3; simp only [x_X5_split, hc1] at hr; cases hr; exact ⟨rfl, rfl⟩
set_option maxRecDepth 100000 in
set_option maxHeartbeats 4000000 in
theorem mx_X5_split (l0 : Launch) (hl0 : l0.stackTraces = false) (σ : az_S) (p0 : Int32) (E0 : String) (hr : x_X5_split σ p0 = .inl E0) : AMetX l0 yX5_split cX5_split 2 (some .int) ({ frames := 7, cells := 1, slots := 6, locals := 103 } : Room) [.ref 0, .int p0] (wd σ) (fun _ _ => False) (fun E => E = E0) := by
  refine AMetX_of (by decide +kernel) (by simp [Value.category]) (Nat.le_of_ble_eq_true rfl) (fun K hK hX hE => ?_)
  have hT := tt_X5_split
  refine AW_g hT cl_X5 hK 0 2 (pc' := 2) (lo' := [some (.ref 0), some (.int p0)]) (st' := [.int p0, .ref 0]) (hp' := wd σ) rfl ?_
  rcases hc105 : x_X5_requireField σ p0 with E | v106
  · refine AW_callVX hT hK 2 [.int p0] [] (mx_X5_requireField l0 hl0 σ p0 E hc105) cw_X5_requireField lk_X5_110 vi_X5_requireField rfl rfl rfl rfl rfl rfl (Nat.le_of_ble_eq_true rfl) (Nat.le_of_ble_eq_true rfl) (fun _ _ h9 => h9.elim) (fun E9 h9 => AWX_out hK hX (Nat.le_of_ble_eq_true rfl) (Nat.le_of_ble_eq_true rfl) ?_)
    subst h9; simp only [x_X5_split, hc105] at hr; cases hr; rfl
  · refine AW_callV hT hK 2 [.int p0] [] (m_X5_requireField l0 σ p0 v106 hc105) cw_X5_requireField lk_X5_110 vi_X5_requireField rfl rfl rfl rfl rfl rfl (Nat.le_of_ble_eq_true rfl) (Nat.le_of_ble_eq_true rfl) (AW_kn ?_)
    exfalso; simp only [x_X5_split, hc105] at hr
    first | (cases hr; done) | ((repeat' split at hr) <;> cases hr)
def x_X5_count (σ : az_S) (p0 : Int32) (p1 : Int32) : String ⊕ Int32 :=
  match x_X5_requirePaper σ p0 with
  | .inl E => .inl E
  | .inr _ =>
    match x_X5_requirePaper σ p1 with
    | .inl E => .inl E
    | .inr _ =>
      let v6 := x_X3_cites σ p0 p1
      if v6 = 0 then
        .inl az_NSE
      else
        let v9 := x_X1_countOf σ p0 p1
        .inr v9
set_option maxRecDepth 100000 in
set_option maxHeartbeats 4000000 in
theorem m_X5_count (l0 : Launch) (σ : az_S) (p0 : Int32) (p1 : Int32) (rv : Int32) (hr : x_X5_count σ p0 p1 = .inr rv) : AMet l0 yX5_count cX5_count 3 (some .int) ({ frames := 7, cells := 0, slots := 0, locals := 103 } : Room) false [.ref 0, .int p0, .int p1] (wd σ) (fun r h => r = some (.int rv) ∧ h = wd σ) := by
  refine AMet_of (by decide +kernel) (by simp [Value.category]) (Nat.le_of_ble_eq_true rfl) (fun K hK hct hG hE => ?_)
  have hT := tt_X5_count
  refine AW_g hT cl_X5 hK 0 2 (pc' := 2) (lo' := [some (.ref 0), some (.int p0), some (.int p1)]) (st' := [.int p0, .ref 0]) (hp' := wd σ) rfl ?_
  rcases hc1 : x_X5_requirePaper σ p0 with E | v2
  · exfalso; simp only [x_X5_count, hc1] at hr; cases hr
  · refine AW_callV hT hK 2 [.int p0] [] (m_X5_requirePaper l0 σ p0 v2 hc1) cw_X5_requirePaper lk_X5_62 vi_X5_requirePaper rfl rfl rfl rfl rfl rfl (Nat.le_of_ble_eq_true rfl) (Nat.le_of_ble_eq_true rfl) (AW_kn ?_)
    refine AW_g hT cl_X5 hK 3 2 (pc' := 7) (lo' := [some (.ref 0), some (.int p0), some (.int p1)]) (st' := [.int p1, .ref 0]) (hp' := wd σ) rfl ?_
    rcases hc3 : x_X5_requirePaper σ p1 with E | v4
    · exfalso; simp only [x_X5_count, hc1, hc3] at hr; cases hr
    · refine AW_callV hT hK 5 [.int p1] [] (m_X5_requirePaper l0 σ p1 v4 hc3) cw_X5_requirePaper lk_X5_62 vi_X5_requirePaper rfl rfl rfl rfl rfl rfl (Nat.le_of_ble_eq_true rfl) (Nat.le_of_ble_eq_true rfl) (AW_kn ?_)
      refine AW_g hT cl_X5 hK 6 4 (pc' := 16) (lo' := [some (.ref 0), some (.int p0), some (.int p1)]) (st' := [.int p1, .int p0, .ref 1]) (hp' := wd σ) rfl ?_
      refine AW_callV hT hK 10 [.int p0, .int p1] [] (m_X3_cites l0 σ p0 p1) cw_X3_cites lk_X5_121 vi_X3_cites rfl rfl rfl rfl rfl rfl (Nat.le_of_ble_eq_true rfl) (Nat.le_of_ble_eq_true rfl) (AW_k1 (fun v6 h5 => ?_))
      refine AW_if_ne hT hK 11 (tgt := 32) rfl rfl (fun c7 => ?_) (fun c7 => ?_)
      · refine AW_g hT cl_X5 hK 17 4 (pc' := 38) (lo' := [some (.ref 0), some (.int p0), some (.int p1)]) (st' := [.int p1, .int p0, .ref 25]) (hp' := wd σ) rfl ?_
        refine AW_callV hT hK 21 [.int p0, .int p1] [] (m_X1_countOf l0 σ p0 p1) cw_X1_countOf lk_X5_130 vi_X1_countOf rfl rfl rfl rfl rfl rfl (Nat.le_of_ble_eq_true rfl) (Nat.le_of_ble_eq_true rfl) (AW_k1 (fun v9 h8 => ?_))
        refine AW_iret hT hE 22 rfl rfl rfl (Nat.le_of_ble_eq_true rfl) (Nat.le_of_ble_eq_true rfl) ?_
        subst h8; subst h5; simp only [x_X5_count, hc1, hc3, if_neg c7] at hr; cases hr; exact ⟨rfl, rfl⟩
      · exfalso; subst h5; simp only [x_X5_count, hc1, hc3, if_pos c7] at hr; cases hr
set_option maxRecDepth 100000 in
set_option maxHeartbeats 4000000 in
theorem mx_X5_count (l0 : Launch) (hl0 : l0.stackTraces = false) (σ : az_S) (p0 : Int32) (p1 : Int32) (E0 : String) (hr : x_X5_count σ p0 p1 = .inl E0) : AMetX l0 yX5_count cX5_count 3 (some .int) ({ frames := 7, cells := 1, slots := 6, locals := 103 } : Room) [.ref 0, .int p0, .int p1] (wd σ) (fun _ _ => False) (fun E => E = E0) := by
  refine AMetX_of (by decide +kernel) (by simp [Value.category]) (Nat.le_of_ble_eq_true rfl) (fun K hK hX hE => ?_)
  have hT := tt_X5_count
  refine AW_g hT cl_X5 hK 0 2 (pc' := 2) (lo' := [some (.ref 0), some (.int p0), some (.int p1)]) (st' := [.int p0, .ref 0]) (hp' := wd σ) rfl ?_
  rcases hc110 : x_X5_requirePaper σ p0 with E | v111
  · refine AW_callVX hT hK 2 [.int p0] [] (mx_X5_requirePaper l0 hl0 σ p0 E hc110) cw_X5_requirePaper lk_X5_62 vi_X5_requirePaper rfl rfl rfl rfl rfl rfl (Nat.le_of_ble_eq_true rfl) (Nat.le_of_ble_eq_true rfl) (fun _ _ h9 => h9.elim) (fun E9 h9 => AWX_out hK hX (Nat.le_of_ble_eq_true rfl) (Nat.le_of_ble_eq_true rfl) ?_)
    subst h9; simp only [x_X5_count, hc110] at hr; cases hr; rfl
  · refine AW_callV hT hK 2 [.int p0] [] (m_X5_requirePaper l0 σ p0 v111 hc110) cw_X5_requirePaper lk_X5_62 vi_X5_requirePaper rfl rfl rfl rfl rfl rfl (Nat.le_of_ble_eq_true rfl) (Nat.le_of_ble_eq_true rfl) (AW_kn ?_)
    refine AW_g hT cl_X5 hK 3 2 (pc' := 7) (lo' := [some (.ref 0), some (.int p0), some (.int p1)]) (st' := [.int p1, .ref 0]) (hp' := wd σ) rfl ?_
    rcases hc112 : x_X5_requirePaper σ p1 with E | v113
    · refine AW_callVX hT hK 5 [.int p1] [] (mx_X5_requirePaper l0 hl0 σ p1 E hc112) cw_X5_requirePaper lk_X5_62 vi_X5_requirePaper rfl rfl rfl rfl rfl rfl (Nat.le_of_ble_eq_true rfl) (Nat.le_of_ble_eq_true rfl) (fun _ _ h9 => h9.elim) (fun E9 h9 => AWX_out hK hX (Nat.le_of_ble_eq_true rfl) (Nat.le_of_ble_eq_true rfl) ?_)
      subst h9; simp only [x_X5_count, hc110, hc112] at hr; cases hr; rfl
    · refine AW_callV hT hK 5 [.int p1] [] (m_X5_requirePaper l0 σ p1 v113 hc112) cw_X5_requirePaper lk_X5_62 vi_X5_requirePaper rfl rfl rfl rfl rfl rfl (Nat.le_of_ble_eq_true rfl) (Nat.le_of_ble_eq_true rfl) (AW_kn ?_)
      refine AW_g hT cl_X5 hK 6 4 (pc' := 16) (lo' := [some (.ref 0), some (.int p0), some (.int p1)]) (st' := [.int p1, .int p0, .ref 1]) (hp' := wd σ) rfl ?_
      refine AW_callV hT hK 10 [.int p0, .int p1] [] (m_X3_cites l0 σ p0 p1) cw_X3_cites lk_X5_121 vi_X3_cites rfl rfl rfl rfl rfl rfl (Nat.le_of_ble_eq_true rfl) (Nat.le_of_ble_eq_true rfl) (AW_k1 (fun v115 h114 => ?_))
      refine AW_if_ne hT hK 11 (tgt := 32) rfl rfl (fun c116 => ?_) (fun c116 => ?_)
      · exfalso; subst h114; simp only [x_X5_count, hc110, hc112, if_neg c116] at hr
        first | (cases hr; done) | ((repeat' split at hr) <;> cases hr)
      · subst h114; refine AW_throw hT hK hX hl0 12 (cls := az_NSE) (text := "the paper does not refer to the other one") (ix := 13) (rx := az_r13) az_r13_ok rfl rfl rfl rfl rfl (by decide) (List.mem_of_getElem? (i := 204) (by decide +kernel)) (List.mem_of_getElem? (i := 34) (by decide +kernel)) (by decide) at_129.1 at_129.2 ⟨by decide, by decide⟩ (Nat.le_of_ble_eq_true rfl) (Nat.le_of_ble_eq_true rfl) ?_
        simp only [x_X5_count, hc110, hc112, if_pos c116] at hr; cases hr; rfl
def x_X5_mainAt (σ : az_S) (p0 : Int32) : String ⊕ Int32 :=
  if p0 < 0 then
    .inl az_IOB
  else
    let v3 := x_X1_lengthOfMain σ
    if p0 < v3 then
      let v6 := x_X1_paperOfMain σ p0
      .inr v6
    else
      .inl az_IOB
set_option maxRecDepth 100000 in
set_option maxHeartbeats 4000000 in
theorem m_X5_mainAt (l0 : Launch) (σ : az_S) (p0 : Int32) (rv : Int32) (hr : x_X5_mainAt σ p0 = .inr rv) : AMet l0 yX5_mainAt cX5_mainAt 2 (some .int) ({ frames := 6, cells := 0, slots := 0, locals := 82 } : Room) false [.ref 0, .int p0] (wd σ) (fun r h => r = some (.int rv) ∧ h = wd σ) := by
  refine AMet_of (by decide +kernel) (by simp [Value.category]) (Nat.le_of_ble_eq_true rfl) (fun K hK hct hG hE => ?_)
  have hT := tt_X5_mainAt
  refine AW_g hT cl_X5 hK 0 1 (pc' := 1) (lo' := [some (.ref 0), some (.int p0)]) (st' := [.int p0]) (hp' := wd σ) rfl ?_
  refine AW_if_lt hT hK 1 (tgt := 15) rfl rfl (fun c1 => ?_) (fun c1 => ?_)
  · exfalso; simp only [x_X5_mainAt, if_pos c1] at hr; cases hr
  · refine AW_g hT cl_X5 hK 2 3 (pc' := 9) (lo' := [some (.ref 0), some (.int p0)]) (st' := [.ref 25, .int p0]) (hp' := wd σ) rfl ?_
    refine AW_callV hT hK 5 [] [.int p0] (m_X1_lengthOfMain l0 σ) cw_X1_lengthOfMain lk_X5_136 vi_X1_lengthOfMain rfl rfl rfl rfl rfl rfl (Nat.le_of_ble_eq_true rfl) (Nat.le_of_ble_eq_true rfl) (AW_k1 (fun v3 h2 => ?_))
    refine AW_icmp_lt hT hK 6 (tgt := 25) rfl rfl (fun c4 => ?_) (fun c4 => ?_)
    · refine AW_g hT cl_X5 hK 12 3 (pc' := 30) (lo' := [some (.ref 0), some (.int p0)]) (st' := [.int p0, .ref 25]) (hp' := wd σ) rfl ?_
      refine AW_callV hT hK 15 [.int p0] [] (m_X1_paperOfMain l0 σ p0) cw_X1_paperOfMain lk_X5_144 vi_X1_paperOfMain rfl rfl rfl rfl rfl rfl (Nat.le_of_ble_eq_true rfl) (Nat.le_of_ble_eq_true rfl) (AW_k1 (fun v6 h5 => ?_))
      refine AW_iret hT hE 16 rfl rfl rfl (Nat.le_of_ble_eq_true rfl) (Nat.le_of_ble_eq_true rfl) ?_
      subst h5; subst h2; simp only [x_X5_mainAt, if_neg c1, if_pos c4] at hr; cases hr; exact ⟨rfl, rfl⟩
    · exfalso; subst h2; simp only [x_X5_mainAt, if_neg c1, if_neg c4] at hr; cases hr
set_option maxRecDepth 100000 in
set_option maxHeartbeats 4000000 in
theorem mx_X5_mainAt (l0 : Launch) (hl0 : l0.stackTraces = false) (σ : az_S) (p0 : Int32) (E0 : String) (hr : x_X5_mainAt σ p0 = .inl E0) : AMetX l0 yX5_mainAt cX5_mainAt 2 (some .int) ({ frames := 6, cells := 1, slots := 6, locals := 82 } : Room) [.ref 0, .int p0] (wd σ) (fun _ _ => False) (fun E => E = E0) := by
  refine AMetX_of (by decide +kernel) (by simp [Value.category]) (Nat.le_of_ble_eq_true rfl) (fun K hK hX hE => ?_)
  have hT := tt_X5_mainAt
  refine AW_g hT cl_X5 hK 0 1 (pc' := 1) (lo' := [some (.ref 0), some (.int p0)]) (st' := [.int p0]) (hp' := wd σ) rfl ?_
  refine AW_if_lt hT hK 1 (tgt := 15) rfl rfl (fun c107 => ?_) (fun c107 => ?_)
  · refine AW_throw hT hK hX hl0 7 (cls := az_IOB) (text := "the main way has no such place") (ix := 7) (rx := az_r7) az_r7_ok rfl rfl rfl rfl rfl (by decide) (List.mem_of_getElem? (i := 625) (by decide +kernel)) (List.mem_of_getElem? (i := 37) (by decide +kernel)) (by decide) at_143.1 at_143.2 ⟨by decide, by decide⟩ (Nat.le_of_ble_eq_true rfl) (Nat.le_of_ble_eq_true rfl) ?_
    simp only [x_X5_mainAt, if_pos c107] at hr; cases hr; rfl
  · refine AW_g hT cl_X5 hK 2 3 (pc' := 9) (lo' := [some (.ref 0), some (.int p0)]) (st' := [.ref 25, .int p0]) (hp' := wd σ) rfl ?_
    refine AW_callV hT hK 5 [] [.int p0] (m_X1_lengthOfMain l0 σ) cw_X1_lengthOfMain lk_X5_136 vi_X1_lengthOfMain rfl rfl rfl rfl rfl rfl (Nat.le_of_ble_eq_true rfl) (Nat.le_of_ble_eq_true rfl) (AW_k1 (fun v109 h108 => ?_))
    refine AW_icmp_lt hT hK 6 (tgt := 25) rfl rfl (fun c110 => ?_) (fun c110 => ?_)
    · exfalso; subst h108; simp only [x_X5_mainAt, if_neg c107, if_pos c110] at hr
      first | (cases hr; done) | ((repeat' split at hr) <;> cases hr)
    · subst h108; refine AW_throw hT hK hX hl0 7 (cls := az_IOB) (text := "the main way has no such place") (ix := 7) (rx := az_r7) az_r7_ok rfl rfl rfl rfl rfl (by decide) (List.mem_of_getElem? (i := 625) (by decide +kernel)) (List.mem_of_getElem? (i := 37) (by decide +kernel)) (by decide) at_143.1 at_143.2 ⟨by decide, by decide⟩ (Nat.le_of_ble_eq_true rfl) (Nat.le_of_ble_eq_true rfl) ?_
      simp only [x_X5_mainAt, if_neg c107, if_neg c110] at hr; cases hr; rfl
def x_X5_rise (σ : az_S) (p0 : Int32) (p1 : Int32) : String ⊕ Int32 :=
  match x_X5_requirePaper σ p0 with
  | .inl E => .inl E
  | .inr _ =>
    match x_X5_requireYear σ p1 with
    | .inl E => .inl E
    | .inr _ =>
      let v6 := x_X3_riseOf σ p0 p1
      .inr v6
set_option maxRecDepth 100000 in
set_option maxHeartbeats 4000000 in
theorem m_X5_rise (l0 : Launch) (σ : az_S) (p0 : Int32) (p1 : Int32) (rv : Int32) (hr : x_X5_rise σ p0 p1 = .inr rv) : AMet l0 yX5_rise cX5_rise 3 (some .int) ({ frames := 7, cells := 0, slots := 0, locals := 103 } : Room) false [.ref 0, .int p0, .int p1] (wd σ) (fun r h => r = some (.int rv) ∧ h = wd σ) := by
  refine AMet_of (by decide +kernel) (by simp [Value.category]) (Nat.le_of_ble_eq_true rfl) (fun K hK hct hG hE => ?_)
  have hT := tt_X5_rise
  refine AW_g hT cl_X5 hK 0 2 (pc' := 2) (lo' := [some (.ref 0), some (.int p0), some (.int p1)]) (st' := [.int p0, .ref 0]) (hp' := wd σ) rfl ?_
  rcases hc1 : x_X5_requirePaper σ p0 with E | v2
  · exfalso; simp only [x_X5_rise, hc1] at hr; cases hr
  · refine AW_callV hT hK 2 [.int p0] [] (m_X5_requirePaper l0 σ p0 v2 hc1) cw_X5_requirePaper lk_X5_62 vi_X5_requirePaper rfl rfl rfl rfl rfl rfl (Nat.le_of_ble_eq_true rfl) (Nat.le_of_ble_eq_true rfl) (AW_kn ?_)
    refine AW_g hT cl_X5 hK 3 1 (pc' := 6) (lo' := [some (.ref 0), some (.int p0), some (.int p1)]) (st' := [.int p1]) (hp' := wd σ) rfl ?_
    rcases hc3 : x_X5_requireYear σ p1 with E | v4
    · exfalso; simp only [x_X5_rise, hc1, hc3] at hr; cases hr
    · refine AW_callS hT hK 4 [.int p1] [] (m_X5_requireYear l0 σ p1 v4 hc3) cw_X5_requireYear lk_X5_150 sm_X5_requireYear rfl rfl rfl rfl (Nat.le_of_ble_eq_true rfl) (Nat.le_of_ble_eq_true rfl) (AW_kn ?_)
      refine AW_g hT cl_X5 hK 5 4 (pc' := 15) (lo' := [some (.ref 0), some (.int p0), some (.int p1)]) (st' := [.int p1, .int p0, .ref 1]) (hp' := wd σ) rfl ?_
      refine AW_callV hT hK 9 [.int p0, .int p1] [] (m_X3_riseOf l0 σ p0 p1) cw_X3_riseOf lk_X5_153 vi_X3_riseOf rfl rfl rfl rfl rfl rfl (Nat.le_of_ble_eq_true rfl) (Nat.le_of_ble_eq_true rfl) (AW_k1 (fun v6 h5 => ?_))
      refine AW_iret hT hE 10 rfl rfl rfl (Nat.le_of_ble_eq_true rfl) (Nat.le_of_ble_eq_true rfl) ?_
      subst h5; simp only [x_X5_rise, hc1, hc3] at hr; cases hr; exact ⟨rfl, rfl⟩
set_option maxRecDepth 100000 in
set_option maxHeartbeats 4000000 in
theorem mx_X5_rise (l0 : Launch) (hl0 : l0.stackTraces = false) (σ : az_S) (p0 : Int32) (p1 : Int32) (E0 : String) (hr : x_X5_rise σ p0 p1 = .inl E0) : AMetX l0 yX5_rise cX5_rise 3 (some .int) ({ frames := 7, cells := 1, slots := 6, locals := 103 } : Room) [.ref 0, .int p0, .int p1] (wd σ) (fun _ _ => False) (fun E => E = E0) := by
  refine AMetX_of (by decide +kernel) (by simp [Value.category]) (Nat.le_of_ble_eq_true rfl) (fun K hK hX hE => ?_)
  have hT := tt_X5_rise
  refine AW_g hT cl_X5 hK 0 2 (pc' := 2) (lo' := [some (.ref 0), some (.int p0), some (.int p1)]) (st' := [.int p0, .ref 0]) (hp' := wd σ) rfl ?_
  rcases hc107 : x_X5_requirePaper σ p0 with E | v108
  · refine AW_callVX hT hK 2 [.int p0] [] (mx_X5_requirePaper l0 hl0 σ p0 E hc107) cw_X5_requirePaper lk_X5_62 vi_X5_requirePaper rfl rfl rfl rfl rfl rfl (Nat.le_of_ble_eq_true rfl) (Nat.le_of_ble_eq_true rfl) (fun _ _ h9 => h9.elim) (fun E9 h9 => AWX_out hK hX (Nat.le_of_ble_eq_true rfl) (Nat.le_of_ble_eq_true rfl) ?_)
    subst h9; simp only [x_X5_rise, hc107] at hr; cases hr; rfl
  · refine AW_callV hT hK 2 [.int p0] [] (m_X5_requirePaper l0 σ p0 v108 hc107) cw_X5_requirePaper lk_X5_62 vi_X5_requirePaper rfl rfl rfl rfl rfl rfl (Nat.le_of_ble_eq_true rfl) (Nat.le_of_ble_eq_true rfl) (AW_kn ?_)
    refine AW_g hT cl_X5 hK 3 1 (pc' := 6) (lo' := [some (.ref 0), some (.int p0), some (.int p1)]) (st' := [.int p1]) (hp' := wd σ) rfl ?_
    rcases hc109 : x_X5_requireYear σ p1 with E | v110
    · refine AW_callSX hT hK 4 [.int p1] [] (mx_X5_requireYear l0 hl0 σ p1 E hc109) cw_X5_requireYear lk_X5_150 sm_X5_requireYear rfl rfl rfl rfl (Nat.le_of_ble_eq_true rfl) (Nat.le_of_ble_eq_true rfl) (fun _ _ h9 => h9.elim) (fun E9 h9 => AWX_out hK hX (Nat.le_of_ble_eq_true rfl) (Nat.le_of_ble_eq_true rfl) ?_)
      subst h9; simp only [x_X5_rise, hc107, hc109] at hr; cases hr; rfl
    · refine AW_callS hT hK 4 [.int p1] [] (m_X5_requireYear l0 σ p1 v110 hc109) cw_X5_requireYear lk_X5_150 sm_X5_requireYear rfl rfl rfl rfl (Nat.le_of_ble_eq_true rfl) (Nat.le_of_ble_eq_true rfl) (AW_kn ?_)
      exfalso; simp only [x_X5_rise, hc107, hc109] at hr
      first | (cases hr; done) | ((repeat' split at hr) <;> cases hr)
def b_X5_riser_11 (σ : az_S) (d1 : Int32) (i : Nat) (w2 : Int32) (w3 : Int32) : Int32 × Int32 :=
  let v5 := x_X3_has σ (nI i)
  if v5 = 0 then
    (w2, w3)
  else
    let v8 := x_X3_riseOf σ (nI i) d1
    if w2 = (-1) then
      ((nI i), v8)
    else
      if v8 ≤ w3 then
        (w2, w3)
      else
        ((nI i), v8)
set_option maxRecDepth 100000 in
set_option maxHeartbeats 4000000 in
theorem lp_X5_riser_11 {K : az_K} {l0 : Launch} (hT : az_Tb cX5_riser tb_X5_riser) (hK : az_OK K RX5 cX5_riser ({ frames := 7, cells := 0, slots := 0, locals := 102 } : Room) l0) (σ : az_S) (d1 : Int32) :
    ∀ (n i : Nat) (w2 : Int32) (w3 : Int32) (hi : i + n = 12) (kx : ∀ s' : Int32 × Int32, az_it (fun ι s => b_X5_riser_11 σ d1 ι s.1 s.2) n i (w2, w3) = s' → AW K 0 0 65 [some (.ref 0), some (.int d1), some (.int s'.1), some (.int s'.2), none, none] [] (wd σ)), AW K 0 0 11 [some (.ref 0), some (.int d1), some (.int w2), some (.int w3), some (.int (nI i)), none] [] (wd σ) := by
  intro n
  induction n with
  | zero =>
    intro i w2 w3 hi kx
    refine AW_g hT cl_X5 hK 8 2 (pc' := 15) (lo' := [some (.ref 0), some (.int d1), some (.int w2), some (.int w3), some (.int (nI i)), none]) (st' := [.int 12, .int (nI i)]) (hp' := wd σ) rfl ?_
    refine AW_icmp_ge hT hK 10 (tgt := 65) rfl rfl (fun c11 => ?_) (fun c11 => absurd (az_c0 hi) c11)
    refine AW_msk [true, true, true, true, false, false] (lo' := [some (.ref 0), some (.int d1), some (.int w2), some (.int w3), none, none]) rfl ?_
    exact kx (w2, w3) rfl
  | succ n ih =>
    intro i w2 w3 hi kx
    refine AW_g hT cl_X5 hK 8 2 (pc' := 15) (lo' := [some (.ref 0), some (.int d1), some (.int w2), some (.int w3), some (.int (nI i)), none]) (st' := [.int 12, .int (nI i)]) (hp' := wd σ) rfl ?_
    refine AW_icmp_ge hT hK 10 (tgt := 65) rfl rfl (fun c3 => absurd c3 (az_c1 hi)) (fun c3 => ?_)
    refine AW_g hT cl_X5 hK 11 3 (pc' := 24) (lo' := [some (.ref 0), some (.int d1), some (.int w2), some (.int w3), some (.int (nI i)), none]) (st' := [.int (nI i), .ref 1]) (hp' := wd σ) rfl ?_
    refine AW_callV hT hK 14 [.int (nI i)] [] (m_X3_has l0 σ (nI i)) cw_X3_has lk_X5_156 vi_X3_has rfl rfl rfl rfl rfl rfl (Nat.le_of_ble_eq_true rfl) (Nat.le_of_ble_eq_true rfl) (AW_k1 (fun v5 h4 => ?_))
    refine AW_if_eq hT hK 15 (tgt := 59) rfl rfl (fun c6 => ?_) (fun c6 => ?_)
    · refine AW_g hT cl_X5 hK 32 1 (pc' := 62) (lo' := [some (.ref 0), some (.int d1), some (.int w2), some (.int w3), some (.int ((nI i) + 1)), none]) (st' := []) (hp' := wd σ) rfl ?_
      refine AW_goto hT hK 33 (tgt := 11) rfl rfl ?_
      refine AW_to (lo' := [some (.ref 0), some (.int d1), some (.int w2), some (.int w3), some (.int (nI (i + 1))), none]) (by rw [nI_1]) rfl rfl ?_
      subst h4; skip
      exact ih (i + 1) _ _ (by omega) (fun s' hs' => kx s' ((congrArg (az_it _ n (i + 1)) (by simp only [b_X5_riser_11, if_pos c6])).trans hs'))
    · refine AW_g hT cl_X5 hK 16 4 (pc' := 37) (lo' := [some (.ref 0), some (.int d1), some (.int w2), some (.int w3), some (.int (nI i)), none]) (st' := [.int d1, .int (nI i), .ref 1]) (hp' := wd σ) rfl ?_
      refine AW_callV hT hK 20 [.int (nI i), .int d1] [] (m_X3_riseOf l0 σ (nI i) d1) cw_X3_riseOf lk_X5_153 vi_X3_riseOf rfl rfl rfl rfl rfl rfl (Nat.le_of_ble_eq_true rfl) (Nat.le_of_ble_eq_true rfl) (AW_k1 (fun v8 h7 => ?_))
      refine AW_g hT cl_X5 hK 21 3 (pc' := 44) (lo' := [some (.ref 0), some (.int d1), some (.int w2), some (.int w3), some (.int (nI i)), some (.int v8)]) (st' := [.int (-1), .int w2]) (hp' := wd σ) rfl ?_
      refine AW_icmp_eq hT hK 24 (tgt := 53) rfl rfl (fun c9 => ?_) (fun c9 => ?_)
      · refine AW_g hT cl_X5 hK 28 5 (pc' := 62) (lo' := [some (.ref 0), some (.int d1), some (.int (nI i)), some (.int v8), some (.int ((nI i) + 1)), some (.int v8)]) (st' := []) (hp' := wd σ) rfl ?_
        refine AW_goto hT hK 33 (tgt := 11) rfl rfl ?_
        refine AW_msk [true, true, true, true, true, false] (lo' := [some (.ref 0), some (.int d1), some (.int (nI i)), some (.int v8), some (.int ((nI i) + 1)), none]) rfl ?_
        refine AW_to (lo' := [some (.ref 0), some (.int d1), some (.int (nI i)), some (.int v8), some (.int (nI (i + 1))), none]) (by rw [nI_1]) rfl rfl ?_
        subst h7; subst h4; skip
        exact ih (i + 1) _ _ (by omega) (fun s' hs' => kx s' ((congrArg (az_it _ n (i + 1)) (by simp only [b_X5_riser_11, if_neg c6, if_pos c9])).trans hs'))
      · refine AW_g hT cl_X5 hK 25 2 (pc' := 50) (lo' := [some (.ref 0), some (.int d1), some (.int w2), some (.int w3), some (.int (nI i)), some (.int v8)]) (st' := [.int w3, .int v8]) (hp' := wd σ) rfl ?_
        refine AW_icmp_le hT hK 27 (tgt := 59) rfl rfl (fun c10 => ?_) (fun c10 => ?_)
        · refine AW_g hT cl_X5 hK 32 1 (pc' := 62) (lo' := [some (.ref 0), some (.int d1), some (.int w2), some (.int w3), some (.int ((nI i) + 1)), some (.int v8)]) (st' := []) (hp' := wd σ) rfl ?_
          refine AW_goto hT hK 33 (tgt := 11) rfl rfl ?_
          refine AW_msk [true, true, true, true, true, false] (lo' := [some (.ref 0), some (.int d1), some (.int w2), some (.int w3), some (.int ((nI i) + 1)), none]) rfl ?_
          refine AW_to (lo' := [some (.ref 0), some (.int d1), some (.int w2), some (.int w3), some (.int (nI (i + 1))), none]) (by rw [nI_1]) rfl rfl ?_
          subst h7; subst h4; skip
          exact ih (i + 1) _ _ (by omega) (fun s' hs' => kx s' ((congrArg (az_it _ n (i + 1)) (by simp only [b_X5_riser_11, if_neg c6, if_neg c9, if_pos c10])).trans hs'))
        · refine AW_g hT cl_X5 hK 28 5 (pc' := 62) (lo' := [some (.ref 0), some (.int d1), some (.int (nI i)), some (.int v8), some (.int ((nI i) + 1)), some (.int v8)]) (st' := []) (hp' := wd σ) rfl ?_
          refine AW_goto hT hK 33 (tgt := 11) rfl rfl ?_
          refine AW_msk [true, true, true, true, true, false] (lo' := [some (.ref 0), some (.int d1), some (.int (nI i)), some (.int v8), some (.int ((nI i) + 1)), none]) rfl ?_
          refine AW_to (lo' := [some (.ref 0), some (.int d1), some (.int (nI i)), some (.int v8), some (.int (nI (i + 1))), none]) (by rw [nI_1]) rfl rfl ?_
          subst h7; subst h4; skip
          exact ih (i + 1) _ _ (by omega) (fun s' hs' => kx s' ((congrArg (az_it _ n (i + 1)) (by simp only [b_X5_riser_11, if_neg c6, if_neg c9, if_neg c10])).trans hs'))
def x_X5_riser (σ : az_S) (p0 : Int32) : String ⊕ Int32 :=
  match x_X5_requireYear σ p0 with
  | .inl E => .inl E
  | .inr _ =>
    let s12 := az_it (fun ι s => b_X5_riser_11 σ p0 ι s.1 s.2) 12 0 ((-1), 0)
    .inr s12.1
set_option maxRecDepth 100000 in
set_option maxHeartbeats 4000000 in
theorem m_X5_riser (l0 : Launch) (σ : az_S) (p0 : Int32) (rv : Int32) (hr : x_X5_riser σ p0 = .inr rv) : AMet l0 yX5_riser cX5_riser 6 (some .int) ({ frames := 7, cells := 0, slots := 0, locals := 102 } : Room) false [.ref 0, .int p0] (wd σ) (fun r h => r = some (.int rv) ∧ h = wd σ) := by
  refine AMet_of (by decide +kernel) (by simp [Value.category]) (Nat.le_of_ble_eq_true rfl) (fun K hK hct hG hE => ?_)
  have hT := tt_X5_riser
  refine AW_g hT cl_X5 hK 0 1 (pc' := 1) (lo' := [some (.ref 0), some (.int p0), none, none, none, none]) (st' := [.int p0]) (hp' := wd σ) rfl ?_
  rcases hc1 : x_X5_requireYear σ p0 with E | v2
  · exfalso; simp only [x_X5_riser, hc1] at hr; cases hr
  · refine AW_callS hT hK 1 [.int p0] [] (m_X5_requireYear l0 σ p0 v2 hc1) cw_X5_requireYear lk_X5_150 sm_X5_requireYear rfl rfl rfl rfl (Nat.le_of_ble_eq_true rfl) (Nat.le_of_ble_eq_true rfl) (AW_kn ?_)
    refine AW_g hT cl_X5 hK 2 6 (pc' := 11) (lo' := [some (.ref 0), some (.int p0), some (.int (-1)), some (.int 0), some (.int 0), none]) (st' := []) (hp' := wd σ) rfl ?_
    refine AW_to (lo' := [some (.ref 0), some (.int p0), some (.int (-1)), some (.int 0), some (.int (nI 0)), none]) (rfl) rfl rfl ?_
    refine lp_X5_riser_11 hT hK σ p0 12 0 (-1) 0 (by first | rfl | omega) (fun s12 h13 => ?_)
    refine AW_g hT cl_X5 hK 34 1 (pc' := 66) (lo' := [some (.ref 0), some (.int p0), some (.int s12.1), some (.int s12.2), none, none]) (st' := [.int s12.1]) (hp' := wd σ) rfl ?_
    refine AW_iret hT hE 35 rfl rfl rfl (Nat.le_of_ble_eq_true rfl) (Nat.le_of_ble_eq_true rfl) ?_
    subst h13; simp only [x_X5_riser, hc1] at hr; cases hr; exact ⟨rfl, rfl⟩
set_option maxRecDepth 100000 in
set_option maxHeartbeats 4000000 in
theorem mx_X5_riser (l0 : Launch) (hl0 : l0.stackTraces = false) (σ : az_S) (p0 : Int32) (E0 : String) (hr : x_X5_riser σ p0 = .inl E0) : AMetX l0 yX5_riser cX5_riser 6 (some .int) ({ frames := 7, cells := 1, slots := 6, locals := 102 } : Room) [.ref 0, .int p0] (wd σ) (fun _ _ => False) (fun E => E = E0) := by
  refine AMetX_of (by decide +kernel) (by simp [Value.category]) (Nat.le_of_ble_eq_true rfl) (fun K hK hX hE => ?_)
  have hT := tt_X5_riser
  refine AW_g hT cl_X5 hK 0 1 (pc' := 1) (lo' := [some (.ref 0), some (.int p0), none, none, none, none]) (st' := [.int p0]) (hp' := wd σ) rfl ?_
  rcases hc114 : x_X5_requireYear σ p0 with E | v115
  · refine AW_callSX hT hK 1 [.int p0] [] (mx_X5_requireYear l0 hl0 σ p0 E hc114) cw_X5_requireYear lk_X5_150 sm_X5_requireYear rfl rfl rfl rfl (Nat.le_of_ble_eq_true rfl) (Nat.le_of_ble_eq_true rfl) (fun _ _ h9 => h9.elim) (fun E9 h9 => AWX_out hK hX (Nat.le_of_ble_eq_true rfl) (Nat.le_of_ble_eq_true rfl) ?_)
    subst h9; simp only [x_X5_riser, hc114] at hr; cases hr; rfl
  · refine AW_callS hT hK 1 [.int p0] [] (m_X5_requireYear l0 σ p0 v115 hc114) cw_X5_requireYear lk_X5_150 sm_X5_requireYear rfl rfl rfl rfl (Nat.le_of_ble_eq_true rfl) (Nat.le_of_ble_eq_true rfl) (AW_kn ?_)
    exfalso; simp only [x_X5_riser, hc114] at hr
    first | (cases hr; done) | ((repeat' split at hr) <;> cases hr)
def b_X5_heir_12 (σ : az_S) (d1 : Int32) (i : Nat) (w2 : Int32) (w3 : Int32) : Int32 × Int32 :=
  let v5 := x_X3_cites σ (nI i) d1
  if v5 = 0 then
    (w2, w3)
  else
    let v8 := x_X3_sharedOf σ d1 (nI i)
    if w2 = (-1) then
      ((nI i), v8)
    else
      if v8 ≤ w3 then
        (w2, w3)
      else
        ((nI i), v8)
set_option maxRecDepth 100000 in
set_option maxHeartbeats 4000000 in
theorem lp_X5_heir_12 {K : az_K} {l0 : Launch} (hT : az_Tb cX5_heir tb_X5_heir) (hK : az_OK K RX5 cX5_heir ({ frames := 7, cells := 0, slots := 0, locals := 103 } : Room) l0) (σ : az_S) (d1 : Int32) :
    ∀ (n i : Nat) (w2 : Int32) (w3 : Int32) (hi : i + n = 12) (kx : ∀ s' : Int32 × Int32, az_it (fun ι s => b_X5_heir_12 σ d1 ι s.1 s.2) n i (w2, w3) = s' → AW K 0 0 67 [some (.ref 0), some (.int d1), some (.int s'.1), some (.int s'.2), none, none] [] (wd σ)), AW K 0 0 12 [some (.ref 0), some (.int d1), some (.int w2), some (.int w3), some (.int (nI i)), none] [] (wd σ) := by
  intro n
  induction n with
  | zero =>
    intro i w2 w3 hi kx
    refine AW_g hT cl_X5 hK 9 2 (pc' := 16) (lo' := [some (.ref 0), some (.int d1), some (.int w2), some (.int w3), some (.int (nI i)), none]) (st' := [.int 12, .int (nI i)]) (hp' := wd σ) rfl ?_
    refine AW_icmp_ge hT hK 11 (tgt := 67) rfl rfl (fun c11 => ?_) (fun c11 => absurd (az_c0 hi) c11)
    refine AW_msk [true, true, true, true, false, false] (lo' := [some (.ref 0), some (.int d1), some (.int w2), some (.int w3), none, none]) rfl ?_
    exact kx (w2, w3) rfl
  | succ n ih =>
    intro i w2 w3 hi kx
    refine AW_g hT cl_X5 hK 9 2 (pc' := 16) (lo' := [some (.ref 0), some (.int d1), some (.int w2), some (.int w3), some (.int (nI i)), none]) (st' := [.int 12, .int (nI i)]) (hp' := wd σ) rfl ?_
    refine AW_icmp_ge hT hK 11 (tgt := 67) rfl rfl (fun c3 => absurd c3 (az_c1 hi)) (fun c3 => ?_)
    refine AW_g hT cl_X5 hK 12 4 (pc' := 26) (lo' := [some (.ref 0), some (.int d1), some (.int w2), some (.int w3), some (.int (nI i)), none]) (st' := [.int d1, .int (nI i), .ref 1]) (hp' := wd σ) rfl ?_
    refine AW_callV hT hK 16 [.int (nI i), .int d1] [] (m_X3_cites l0 σ (nI i) d1) cw_X3_cites lk_X5_121 vi_X3_cites rfl rfl rfl rfl rfl rfl (Nat.le_of_ble_eq_true rfl) (Nat.le_of_ble_eq_true rfl) (AW_k1 (fun v5 h4 => ?_))
    refine AW_if_eq hT hK 17 (tgt := 61) rfl rfl (fun c6 => ?_) (fun c6 => ?_)
    · refine AW_g hT cl_X5 hK 34 1 (pc' := 64) (lo' := [some (.ref 0), some (.int d1), some (.int w2), some (.int w3), some (.int ((nI i) + 1)), none]) (st' := []) (hp' := wd σ) rfl ?_
      refine AW_goto hT hK 35 (tgt := 12) rfl rfl ?_
      refine AW_to (lo' := [some (.ref 0), some (.int d1), some (.int w2), some (.int w3), some (.int (nI (i + 1))), none]) (by rw [nI_1]) rfl rfl ?_
      subst h4; skip
      exact ih (i + 1) _ _ (by omega) (fun s' hs' => kx s' ((congrArg (az_it _ n (i + 1)) (by simp only [b_X5_heir_12, if_pos c6])).trans hs'))
    · refine AW_g hT cl_X5 hK 18 4 (pc' := 39) (lo' := [some (.ref 0), some (.int d1), some (.int w2), some (.int w3), some (.int (nI i)), none]) (st' := [.int (nI i), .int d1, .ref 1]) (hp' := wd σ) rfl ?_
      refine AW_callV hT hK 22 [.int d1, .int (nI i)] [] (m_X3_sharedOf l0 σ d1 (nI i)) cw_X3_sharedOf lk_X5_85 vi_X3_sharedOf rfl rfl rfl rfl rfl rfl (Nat.le_of_ble_eq_true rfl) (Nat.le_of_ble_eq_true rfl) (AW_k1 (fun v8 h7 => ?_))
      refine AW_g hT cl_X5 hK 23 3 (pc' := 46) (lo' := [some (.ref 0), some (.int d1), some (.int w2), some (.int w3), some (.int (nI i)), some (.int v8)]) (st' := [.int (-1), .int w2]) (hp' := wd σ) rfl ?_
      refine AW_icmp_eq hT hK 26 (tgt := 55) rfl rfl (fun c9 => ?_) (fun c9 => ?_)
      · refine AW_g hT cl_X5 hK 30 5 (pc' := 64) (lo' := [some (.ref 0), some (.int d1), some (.int (nI i)), some (.int v8), some (.int ((nI i) + 1)), some (.int v8)]) (st' := []) (hp' := wd σ) rfl ?_
        refine AW_goto hT hK 35 (tgt := 12) rfl rfl ?_
        refine AW_msk [true, true, true, true, true, false] (lo' := [some (.ref 0), some (.int d1), some (.int (nI i)), some (.int v8), some (.int ((nI i) + 1)), none]) rfl ?_
        refine AW_to (lo' := [some (.ref 0), some (.int d1), some (.int (nI i)), some (.int v8), some (.int (nI (i + 1))), none]) (by rw [nI_1]) rfl rfl ?_
        subst h7; subst h4; skip
        exact ih (i + 1) _ _ (by omega) (fun s' hs' => kx s' ((congrArg (az_it _ n (i + 1)) (by simp only [b_X5_heir_12, if_neg c6, if_pos c9])).trans hs'))
      · refine AW_g hT cl_X5 hK 27 2 (pc' := 52) (lo' := [some (.ref 0), some (.int d1), some (.int w2), some (.int w3), some (.int (nI i)), some (.int v8)]) (st' := [.int w3, .int v8]) (hp' := wd σ) rfl ?_
        refine AW_icmp_le hT hK 29 (tgt := 61) rfl rfl (fun c10 => ?_) (fun c10 => ?_)
        · refine AW_g hT cl_X5 hK 34 1 (pc' := 64) (lo' := [some (.ref 0), some (.int d1), some (.int w2), some (.int w3), some (.int ((nI i) + 1)), some (.int v8)]) (st' := []) (hp' := wd σ) rfl ?_
          refine AW_goto hT hK 35 (tgt := 12) rfl rfl ?_
          refine AW_msk [true, true, true, true, true, false] (lo' := [some (.ref 0), some (.int d1), some (.int w2), some (.int w3), some (.int ((nI i) + 1)), none]) rfl ?_
          refine AW_to (lo' := [some (.ref 0), some (.int d1), some (.int w2), some (.int w3), some (.int (nI (i + 1))), none]) (by rw [nI_1]) rfl rfl ?_
          subst h7; subst h4; skip
          exact ih (i + 1) _ _ (by omega) (fun s' hs' => kx s' ((congrArg (az_it _ n (i + 1)) (by simp only [b_X5_heir_12, if_neg c6, if_neg c9, if_pos c10])).trans hs'))
        · refine AW_g hT cl_X5 hK 30 5 (pc' := 64) (lo' := [some (.ref 0), some (.int d1), some (.int (nI i)), some (.int v8), some (.int ((nI i) + 1)), some (.int v8)]) (st' := []) (hp' := wd σ) rfl ?_
          refine AW_goto hT hK 35 (tgt := 12) rfl rfl ?_
          refine AW_msk [true, true, true, true, true, false] (lo' := [some (.ref 0), some (.int d1), some (.int (nI i)), some (.int v8), some (.int ((nI i) + 1)), none]) rfl ?_
          refine AW_to (lo' := [some (.ref 0), some (.int d1), some (.int (nI i)), some (.int v8), some (.int (nI (i + 1))), none]) (by rw [nI_1]) rfl rfl ?_
          subst h7; subst h4; skip
          exact ih (i + 1) _ _ (by omega) (fun s' hs' => kx s' ((congrArg (az_it _ n (i + 1)) (by simp only [b_X5_heir_12, if_neg c6, if_neg c9, if_neg c10])).trans hs'))
def x_X5_heir (σ : az_S) (p0 : Int32) : String ⊕ Int32 :=
  match x_X5_requirePaper σ p0 with
  | .inl E => .inl E
  | .inr _ =>
    let s12 := az_it (fun ι s => b_X5_heir_12 σ p0 ι s.1 s.2) 12 0 ((-1), 0)
    .inr s12.1
set_option maxRecDepth 100000 in
set_option maxHeartbeats 4000000 in
theorem m_X5_heir (l0 : Launch) (σ : az_S) (p0 : Int32) (rv : Int32) (hr : x_X5_heir σ p0 = .inr rv) : AMet l0 yX5_heir cX5_heir 6 (some .int) ({ frames := 7, cells := 0, slots := 0, locals := 103 } : Room) false [.ref 0, .int p0] (wd σ) (fun r h => r = some (.int rv) ∧ h = wd σ) := by
  refine AMet_of (by decide +kernel) (by simp [Value.category]) (Nat.le_of_ble_eq_true rfl) (fun K hK hct hG hE => ?_)
  have hT := tt_X5_heir
  refine AW_g hT cl_X5 hK 0 2 (pc' := 2) (lo' := [some (.ref 0), some (.int p0), none, none, none, none]) (st' := [.int p0, .ref 0]) (hp' := wd σ) rfl ?_
  rcases hc1 : x_X5_requirePaper σ p0 with E | v2
  · exfalso; simp only [x_X5_heir, hc1] at hr; cases hr
  · refine AW_callV hT hK 2 [.int p0] [] (m_X5_requirePaper l0 σ p0 v2 hc1) cw_X5_requirePaper lk_X5_62 vi_X5_requirePaper rfl rfl rfl rfl rfl rfl (Nat.le_of_ble_eq_true rfl) (Nat.le_of_ble_eq_true rfl) (AW_kn ?_)
    refine AW_g hT cl_X5 hK 3 6 (pc' := 12) (lo' := [some (.ref 0), some (.int p0), some (.int (-1)), some (.int 0), some (.int 0), none]) (st' := []) (hp' := wd σ) rfl ?_
    refine AW_to (lo' := [some (.ref 0), some (.int p0), some (.int (-1)), some (.int 0), some (.int (nI 0)), none]) (rfl) rfl rfl ?_
    refine lp_X5_heir_12 hT hK σ p0 12 0 (-1) 0 (by first | rfl | omega) (fun s12 h13 => ?_)
    refine AW_g hT cl_X5 hK 36 1 (pc' := 68) (lo' := [some (.ref 0), some (.int p0), some (.int s12.1), some (.int s12.2), none, none]) (st' := [.int s12.1]) (hp' := wd σ) rfl ?_
    refine AW_iret hT hE 37 rfl rfl rfl (Nat.le_of_ble_eq_true rfl) (Nat.le_of_ble_eq_true rfl) ?_
    subst h13; simp only [x_X5_heir, hc1] at hr; cases hr; exact ⟨rfl, rfl⟩
set_option maxRecDepth 100000 in
set_option maxHeartbeats 4000000 in
theorem mx_X5_heir (l0 : Launch) (hl0 : l0.stackTraces = false) (σ : az_S) (p0 : Int32) (E0 : String) (hr : x_X5_heir σ p0 = .inl E0) : AMetX l0 yX5_heir cX5_heir 6 (some .int) ({ frames := 7, cells := 1, slots := 6, locals := 103 } : Room) [.ref 0, .int p0] (wd σ) (fun _ _ => False) (fun E => E = E0) := by
  refine AMetX_of (by decide +kernel) (by simp [Value.category]) (Nat.le_of_ble_eq_true rfl) (fun K hK hX hE => ?_)
  have hT := tt_X5_heir
  refine AW_g hT cl_X5 hK 0 2 (pc' := 2) (lo' := [some (.ref 0), some (.int p0), none, none, none, none]) (st' := [.int p0, .ref 0]) (hp' := wd σ) rfl ?_
  rcases hc114 : x_X5_requirePaper σ p0 with E | v115
  · refine AW_callVX hT hK 2 [.int p0] [] (mx_X5_requirePaper l0 hl0 σ p0 E hc114) cw_X5_requirePaper lk_X5_62 vi_X5_requirePaper rfl rfl rfl rfl rfl rfl (Nat.le_of_ble_eq_true rfl) (Nat.le_of_ble_eq_true rfl) (fun _ _ h9 => h9.elim) (fun E9 h9 => AWX_out hK hX (Nat.le_of_ble_eq_true rfl) (Nat.le_of_ble_eq_true rfl) ?_)
    subst h9; simp only [x_X5_heir, hc114] at hr; cases hr; rfl
  · refine AW_callV hT hK 2 [.int p0] [] (m_X5_requirePaper l0 σ p0 v115 hc114) cw_X5_requirePaper lk_X5_62 vi_X5_requirePaper rfl rfl rfl rfl rfl rfl (Nat.le_of_ble_eq_true rfl) (Nat.le_of_ble_eq_true rfl) (AW_kn ?_)
    exfalso; simp only [x_X5_heir, hc114] at hr
    first | (cases hr; done) | ((repeat' split at hr) <;> cases hr)
def x_X5_come (σ : az_S) (p0 : Int32) (p1 : Int32) : String ⊕ (Int32 × az_S) :=
  let v2 := x_X3_takesYear σ p0
  if v2 = 0 then
    .inl az_IAE
  else
    let v5 := x_X3_hasAll σ p1
    if v5 = 0 then
      .inl az_IAE
    else
      let v8 := x_X3_isFull σ
      if v8 = 0 then
        let q11 := x_X3_put σ p0 p1
        let τ13 := x_X5_mapAnew q11.2
        .inr (q11.1, τ13)
      else
        .inl az_ISE
set_option maxRecDepth 100000 in
set_option maxHeartbeats 4000000 in
theorem m_X5_come (l0 : Launch) (σ : az_S) (p0 : Int32) (p1 : Int32) (rv : (Int32 × az_S)) (hr : x_X5_come σ p0 p1 = .inr rv) : AMet l0 yX5_come cX5_come 4 (some .int) ({ frames := 6, cells := 0, slots := 0, locals := 144 } : Room) false [.ref 0, .int p0, .int p1] (wd σ) (fun r h => r = some (.int rv.1) ∧ h = wd rv.2) := by
  refine AMet_of (by decide +kernel) (by simp [Value.category]) (Nat.le_of_ble_eq_true rfl) (fun K hK hct hG hE => ?_)
  have hT := tt_X5_come
  refine AW_g hT cl_X5 hK 0 3 (pc' := 5) (lo' := [some (.ref 0), some (.int p0), some (.int p1), none]) (st' := [.int p0, .ref 1]) (hp' := wd σ) rfl ?_
  refine AW_callV hT hK 3 [.int p0] [] (m_X3_takesYear l0 σ p0) cw_X3_takesYear lk_X5_30 vi_X3_takesYear rfl rfl rfl rfl rfl rfl (Nat.le_of_ble_eq_true rfl) (Nat.le_of_ble_eq_true rfl) (AW_k1 (fun v2 h1 => ?_))
  refine AW_if_ne hT hK 4 (tgt := 21) rfl rfl (fun c3 => ?_) (fun c3 => ?_)
  · refine AW_g hT cl_X5 hK 10 3 (pc' := 26) (lo' := [some (.ref 0), some (.int p0), some (.int p1), none]) (st' := [.int p1, .ref 1]) (hp' := wd σ) rfl ?_
    refine AW_callV hT hK 13 [.int p1] [] (m_X3_hasAll l0 σ p1) cw_X3_hasAll lk_X5_41 vi_X3_hasAll rfl rfl rfl rfl rfl rfl (Nat.le_of_ble_eq_true rfl) (Nat.le_of_ble_eq_true rfl) (AW_k1 (fun v5 h4 => ?_))
    refine AW_if_ne hT hK 14 (tgt := 42) rfl rfl (fun c6 => ?_) (fun c6 => ?_)
    · refine AW_g hT cl_X5 hK 20 2 (pc' := 46) (lo' := [some (.ref 0), some (.int p0), some (.int p1), none]) (st' := [.ref 1]) (hp' := wd σ) rfl ?_
      refine AW_callV hT hK 22 [] [] (m_X3_isFull l0 σ) cw_X3_isFull lk_X5_46 vi_X3_isFull rfl rfl rfl rfl rfl rfl (Nat.le_of_ble_eq_true rfl) (Nat.le_of_ble_eq_true rfl) (AW_k1 (fun v8 h7 => ?_))
      refine AW_if_eq hT hK 23 (tgt := 62) rfl rfl (fun c9 => ?_) (fun c9 => ?_)
      · refine AW_g hT cl_X5 hK 29 4 (pc' := 68) (lo' := [some (.ref 0), some (.int p0), some (.int p1), none]) (st' := [.int p1, .int p0, .ref 1]) (hp' := wd σ) rfl ?_
        refine AW_callV hT hK 33 [.int p0, .int p1] [] (m_X3_put l0 σ p0 p1) cw_X3_put lk_X5_55 vi_X3_put rfl rfl rfl rfl rfl rfl (Nat.le_of_ble_eq_true rfl) (Nat.le_of_ble_eq_true rfl) (AW_kiw (fun q11 h10 => ?_))
        refine AW_g hT cl_X5 hK 34 2 (pc' := 73) (lo' := [some (.ref 0), some (.int p0), some (.int p1), some (.int q11.1)]) (st' := [.ref 0]) (hp' := wd q11.2) rfl ?_
        refine AW_callV hT hK 36 [] [] (m_X5_mapAnew l0 q11.2) cw_X5_mapAnew lk_X5_59 vi_X5_mapAnew rfl rfl rfl rfl rfl rfl (Nat.le_of_ble_eq_true rfl) (Nat.le_of_ble_eq_true rfl) (AW_kv (fun τ13 h12 => ?_))
        refine AW_g hT cl_X5 hK 37 1 (pc' := 77) (lo' := [some (.ref 0), some (.int p0), some (.int p1), some (.int q11.1)]) (st' := [.int q11.1]) (hp' := wd (τ13)) rfl ?_
        refine AW_iret hT hE 38 rfl rfl rfl (Nat.le_of_ble_eq_true rfl) (Nat.le_of_ble_eq_true rfl) ?_
        subst h12; subst h10; subst h7; subst h4; subst h1; simp only [x_X5_come, if_neg c3, if_neg c6, if_pos c9] at hr; cases hr; exact ⟨rfl, rfl⟩
      · exfalso; subst h7; subst h4; subst h1; simp only [x_X5_come, if_neg c3, if_neg c6, if_neg c9] at hr; cases hr
    · exfalso; subst h4; subst h1; simp only [x_X5_come, if_neg c3, if_pos c6] at hr; cases hr
  · exfalso; subst h1; simp only [x_X5_come, if_pos c3] at hr; cases hr
set_option maxRecDepth 100000 in
set_option maxHeartbeats 4000000 in
theorem mx_X5_come (l0 : Launch) (hl0 : l0.stackTraces = false) (σ : az_S) (p0 : Int32) (p1 : Int32) (E0 : String) (hr : x_X5_come σ p0 p1 = .inl E0) : AMetX l0 yX5_come cX5_come 4 (some .int) ({ frames := 6, cells := 1, slots := 6, locals := 144 } : Room) [.ref 0, .int p0, .int p1] (wd σ) (fun _ _ => False) (fun E => E = E0) := by
  refine AMetX_of (by decide +kernel) (by simp [Value.category]) (Nat.le_of_ble_eq_true rfl) (fun K hK hX hE => ?_)
  have hT := tt_X5_come
  refine AW_g hT cl_X5 hK 0 3 (pc' := 5) (lo' := [some (.ref 0), some (.int p0), some (.int p1), none]) (st' := [.int p0, .ref 1]) (hp' := wd σ) rfl ?_
  refine AW_callV hT hK 3 [.int p0] [] (m_X3_takesYear l0 σ p0) cw_X3_takesYear lk_X5_30 vi_X3_takesYear rfl rfl rfl rfl rfl rfl (Nat.le_of_ble_eq_true rfl) (Nat.le_of_ble_eq_true rfl) (AW_k1 (fun v115 h114 => ?_))
  refine AW_if_ne hT hK 4 (tgt := 21) rfl rfl (fun c116 => ?_) (fun c116 => ?_)
  · refine AW_g hT cl_X5 hK 10 3 (pc' := 26) (lo' := [some (.ref 0), some (.int p0), some (.int p1), none]) (st' := [.int p1, .ref 1]) (hp' := wd σ) rfl ?_
    refine AW_callV hT hK 13 [.int p1] [] (m_X3_hasAll l0 σ p1) cw_X3_hasAll lk_X5_41 vi_X3_hasAll rfl rfl rfl rfl rfl rfl (Nat.le_of_ble_eq_true rfl) (Nat.le_of_ble_eq_true rfl) (AW_k1 (fun v118 h117 => ?_))
    refine AW_if_ne hT hK 14 (tgt := 42) rfl rfl (fun c119 => ?_) (fun c119 => ?_)
    · refine AW_g hT cl_X5 hK 20 2 (pc' := 46) (lo' := [some (.ref 0), some (.int p0), some (.int p1), none]) (st' := [.ref 1]) (hp' := wd σ) rfl ?_
      refine AW_callV hT hK 22 [] [] (m_X3_isFull l0 σ) cw_X3_isFull lk_X5_46 vi_X3_isFull rfl rfl rfl rfl rfl rfl (Nat.le_of_ble_eq_true rfl) (Nat.le_of_ble_eq_true rfl) (AW_k1 (fun v121 h120 => ?_))
      refine AW_if_eq hT hK 23 (tgt := 62) rfl rfl (fun c122 => ?_) (fun c122 => ?_)
      · exfalso; subst h120; subst h117; subst h114; simp only [x_X5_come, if_neg c116, if_neg c119, if_pos c122] at hr
        first | (cases hr; done) | ((repeat' split at hr) <;> cases hr)
      · subst h120; subst h117; subst h114; refine AW_throw hT hK hX hl0 24 (cls := az_ISE) (text := "all papers have come") (ix := 7) (rx := az_r7) az_r7_ok rfl rfl rfl rfl rfl (by decide) (List.mem_of_getElem? (i := 696) (by decide +kernel)) (List.mem_of_getElem? (i := 36) (by decide +kernel)) (by decide) at_54.1 at_54.2 ⟨by decide, by decide⟩ (Nat.le_of_ble_eq_true rfl) (Nat.le_of_ble_eq_true rfl) ?_
        simp only [x_X5_come, if_neg c116, if_neg c119, if_neg c122] at hr; cases hr; rfl
    · subst h117; subst h114; refine AW_throw hT hK hX hl0 15 (cls := az_IAE) (text := "a paper that is referred to is not there") (ix := 7) (rx := az_r7) az_r7_ok rfl rfl rfl rfl rfl (by decide) (List.mem_of_getElem? (i := 497) (by decide +kernel)) (List.mem_of_getElem? (i := 35) (by decide +kernel)) (by decide) at_38.1 at_38.2 ⟨by decide, by decide⟩ (Nat.le_of_ble_eq_true rfl) (Nat.le_of_ble_eq_true rfl) ?_
      simp only [x_X5_come, if_neg c116, if_pos c119] at hr; cases hr; rfl
  · subst h114; refine AW_throw hT hK hX hl0 5 (cls := az_IAE) (text := "the year is out of range") (ix := 7) (rx := az_r7) az_r7_ok rfl rfl rfl rfl rfl (by decide) (List.mem_of_getElem? (i := 497) (by decide +kernel)) (List.mem_of_getElem? (i := 35) (by decide +kernel)) (by decide) at_38.1 at_38.2 ⟨by decide, by decide⟩ (Nat.le_of_ble_eq_true rfl) (Nat.le_of_ble_eq_true rfl) ?_
    simp only [x_X5_come, if_pos c116] at hr; cases hr; rfl
def x_X5_withdraw (σ : az_S) (p0 : Int32) : String ⊕ (Int32 × az_S) :=
  match x_X5_requirePaper σ p0 with
  | .inl E => .inl E
  | .inr _ =>
    let v4 := x_X3_citersOf σ p0
    let v6 := x_J6_bitCount_0f7a4 σ v4
    let τ8 := x_X3_take σ p0
    let τ10 := x_X5_mapAnew (τ8)
    .inr (v6, τ10)
set_option maxRecDepth 100000 in
set_option maxHeartbeats 4000000 in
theorem m_X5_withdraw (l0 : Launch) (σ : az_S) (p0 : Int32) (rv : (Int32 × az_S)) (hr : x_X5_withdraw σ p0 = .inr rv) : AMet l0 yX5_withdraw cX5_withdraw 3 (some .int) ({ frames := 7, cells := 0, slots := 0, locals := 144 } : Room) false [.ref 0, .int p0] (wd σ) (fun r h => r = some (.int rv.1) ∧ h = wd rv.2) := by
  refine AMet_of (by decide +kernel) (by simp [Value.category]) (Nat.le_of_ble_eq_true rfl) (fun K hK hct hG hE => ?_)
  have hT := tt_X5_withdraw
  refine AW_g hT cl_X5 hK 0 2 (pc' := 2) (lo' := [some (.ref 0), some (.int p0), none]) (st' := [.int p0, .ref 0]) (hp' := wd σ) rfl ?_
  rcases hc1 : x_X5_requirePaper σ p0 with E | v2
  · exfalso; simp only [x_X5_withdraw, hc1] at hr; cases hr
  · refine AW_callV hT hK 2 [.int p0] [] (m_X5_requirePaper l0 σ p0 v2 hc1) cw_X5_requirePaper lk_X5_62 vi_X5_requirePaper rfl rfl rfl rfl rfl rfl (Nat.le_of_ble_eq_true rfl) (Nat.le_of_ble_eq_true rfl) (AW_kn ?_)
    refine AW_g hT cl_X5 hK 3 3 (pc' := 10) (lo' := [some (.ref 0), some (.int p0), none]) (st' := [.int p0, .ref 1]) (hp' := wd σ) rfl ?_
    refine AW_callV hT hK 6 [.int p0] [] (m_X3_citersOf l0 σ p0) cw_X3_citersOf lk_X5_66 vi_X3_citersOf rfl rfl rfl rfl rfl rfl (Nat.le_of_ble_eq_true rfl) (Nat.le_of_ble_eq_true rfl) (AW_k1 (fun v4 h3 => ?_))
    refine AW_callS hT hK 7 [.int v4] [] (m_J6_bitCount_0f7a4 l0 σ v4) cw_J6_bitCount_0f7a4 lk_X5_70 sm_J6_bitCount_0f7a4 rfl rfl rfl rfl (Nat.le_of_ble_eq_true rfl) (Nat.le_of_ble_eq_true rfl) (AW_k1 (fun v6 h5 => ?_))
    refine AW_g hT cl_X5 hK 8 4 (pc' := 22) (lo' := [some (.ref 0), some (.int p0), some (.int v6)]) (st' := [.int p0, .ref 1]) (hp' := wd σ) rfl ?_
    refine AW_callV hT hK 12 [.int p0] [] (m_X3_take l0 σ p0) cw_X3_take lk_X5_75 vi_X3_take rfl rfl rfl rfl rfl rfl (Nat.le_of_ble_eq_true rfl) (Nat.le_of_ble_eq_true rfl) (AW_kv (fun τ8 h7 => ?_))
    refine AW_g hT cl_X5 hK 13 1 (pc' := 26) (lo' := [some (.ref 0), some (.int p0), some (.int v6)]) (st' := [.ref 0]) (hp' := wd (τ8)) rfl ?_
    refine AW_callV hT hK 14 [] [] (m_X5_mapAnew l0 (τ8)) cw_X5_mapAnew lk_X5_59 vi_X5_mapAnew rfl rfl rfl rfl rfl rfl (Nat.le_of_ble_eq_true rfl) (Nat.le_of_ble_eq_true rfl) (AW_kv (fun τ10 h9 => ?_))
    refine AW_g hT cl_X5 hK 15 1 (pc' := 30) (lo' := [some (.ref 0), some (.int p0), some (.int v6)]) (st' := [.int v6]) (hp' := wd (τ10)) rfl ?_
    refine AW_iret hT hE 16 rfl rfl rfl (Nat.le_of_ble_eq_true rfl) (Nat.le_of_ble_eq_true rfl) ?_
    subst h9; subst h7; subst h5; subst h3; simp only [x_X5_withdraw, hc1] at hr; cases hr; exact ⟨rfl, rfl⟩
set_option maxRecDepth 100000 in
set_option maxHeartbeats 4000000 in
theorem mx_X5_withdraw (l0 : Launch) (hl0 : l0.stackTraces = false) (σ : az_S) (p0 : Int32) (E0 : String) (hr : x_X5_withdraw σ p0 = .inl E0) : AMetX l0 yX5_withdraw cX5_withdraw 3 (some .int) ({ frames := 7, cells := 1, slots := 6, locals := 144 } : Room) [.ref 0, .int p0] (wd σ) (fun _ _ => False) (fun E => E = E0) := by
  refine AMetX_of (by decide +kernel) (by simp [Value.category]) (Nat.le_of_ble_eq_true rfl) (fun K hK hX hE => ?_)
  have hT := tt_X5_withdraw
  refine AW_g hT cl_X5 hK 0 2 (pc' := 2) (lo' := [some (.ref 0), some (.int p0), none]) (st' := [.int p0, .ref 0]) (hp' := wd σ) rfl ?_
  rcases hc111 : x_X5_requirePaper σ p0 with E | v112
  · refine AW_callVX hT hK 2 [.int p0] [] (mx_X5_requirePaper l0 hl0 σ p0 E hc111) cw_X5_requirePaper lk_X5_62 vi_X5_requirePaper rfl rfl rfl rfl rfl rfl (Nat.le_of_ble_eq_true rfl) (Nat.le_of_ble_eq_true rfl) (fun _ _ h9 => h9.elim) (fun E9 h9 => AWX_out hK hX (Nat.le_of_ble_eq_true rfl) (Nat.le_of_ble_eq_true rfl) ?_)
    subst h9; simp only [x_X5_withdraw, hc111] at hr; cases hr; rfl
  · refine AW_callV hT hK 2 [.int p0] [] (m_X5_requirePaper l0 σ p0 v112 hc111) cw_X5_requirePaper lk_X5_62 vi_X5_requirePaper rfl rfl rfl rfl rfl rfl (Nat.le_of_ble_eq_true rfl) (Nat.le_of_ble_eq_true rfl) (AW_kn ?_)
    exfalso; simp only [x_X5_withdraw, hc111] at hr
    first | (cases hr; done) | ((repeat' split at hr) <;> cases hr)
end AZP
