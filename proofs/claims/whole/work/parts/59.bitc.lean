/-! the class counts bits by halves: for each set of papers as one counts them (the kernel runs through all 4096) -/
section AZB0
def cnt (P : Nat → Bool) : Nat → Nat
  | 0 => 0
  | n + 1 => cnt P n + if P n = true then 1 else 0
set_option maxRecDepth 100000 in
theorem bitCount_all : ∀ k, k < 4096 → x_J6_bitCount_0f7a4 (fun _ => 0, fun _ _ => 0, fun _ _ => 0) (nI k) = nI (cnt (fun i => k.testBit i) 12) := by decide +kernel
end AZB0
