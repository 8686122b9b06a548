section AZP
def az_r7 : ByteArray := ⟨#[0x2a, 0x2b, 0xb7, 0x00, 0x07, 0xb1]⟩
theorem az_r7_ok : az_rx az_r7 7 := by unfold az_rx; decide +kernel
def az_r13 : ByteArray := ⟨#[0x2a, 0x2b, 0xb7, 0x00, 0x0d, 0xb1]⟩
theorem az_r13_ok : az_rx az_r13 13 := by unfold az_rx; decide +kernel
theorem az_ats {L : List Cond} (h : (L.all fun w => decide (w ∈ lw_tbl) && (az_kp w && vx_ot w)) = true) : (∀ w ∈ L, w ∈ lw_tbl ∧ az_kp w = true) ∧ ∀ w ∈ L, vx_ot w = true := by
  have k := List.all_eq_true.mp h
  simp only [Bool.and_eq_true, decide_eq_true_eq] at k
  exact ⟨fun w hw => ⟨(k w hw).1, (k w hw).2.1⟩, fun w hw => (k w hw).2.2⟩
set_option maxRecDepth 100000 in
theorem at_38 : (∀ w ∈ (az_at RX5 38 az_IAE 7 az_r7).filter vx_no, w ∈ lw_tbl ∧ az_kp w = true) ∧ ∀ w ∈ (az_at RX5 38 az_IAE 7 az_r7).filter vx_no, vx_ot w = true := az_ats (by decide +kernel)
set_option maxRecDepth 100000 in
theorem at_54 : (∀ w ∈ (az_at RX5 54 az_ISE 7 az_r7).filter vx_no, w ∈ lw_tbl ∧ az_kp w = true) ∧ ∀ w ∈ (az_at RX5 54 az_ISE 7 az_r7).filter vx_no, vx_ot w = true := az_ats (by decide +kernel)
set_option maxRecDepth 100000 in
theorem at_129 : (∀ w ∈ (az_at RX5 129 az_NSE 13 az_r13).filter vx_no, w ∈ lw_tbl ∧ az_kp w = true) ∧ ∀ w ∈ (az_at RX5 129 az_NSE 13 az_r13).filter vx_no, vx_ot w = true := az_ats (by decide +kernel)
set_option maxRecDepth 100000 in
theorem at_143 : (∀ w ∈ (az_at RX5 143 az_IOB 7 az_r7).filter vx_no, w ∈ lw_tbl ∧ az_kp w = true) ∧ ∀ w ∈ (az_at RX5 143 az_IOB 7 az_r7).filter vx_no, vx_ot w = true := az_ats (by decide +kernel)
end AZP
