/-! with the printed witness's own start (the witness stands ahead of these rows in the whole text): the claim as printed is false -/
section AZY
def wit_xs : List Int32 := start1.cells0.toList.map fun v => match v with
  | .int x => x
  | _ => 0
theorem wit_map : start1.cells0.toList = wit_xs.map Value.int := by decide +kernel
theorem wit_two : wit_xs = -49 :: -12 :: wit_xs.drop 2 := by decide +kernel
theorem wit_len : wit_xs.length < 2 ^ 31 := by decide +kernel
theorem wit_ints : start1.about.IntsAt 0 (-49 :: -12 :: wit_xs.drop 2) := by
  rw [← wit_two]
  obtain ⟨-, -, -, -, -, -, -, -, -, -, -, hr, hp⟩ := start1.atStart
  have hs := flat_of_before _ hp
  have hq := flat_of_before _ hr
  have harr : (Cond.arrayOf (.arg 0) .int).before start1.args0 start1.about = true := hs _ (by decide +kernel)
  have hlen : (Cond.isInt (.length (.arg 0))).before start1.args0 start1.about = true := hq _ (by decide +kernel)
  have hall : (Cond.all (.arg 0) (.isInt (.elem (.arg 0) (.index 0)))).before start1.args0 start1.about = true := hq _ (by decide +kernel)
  obtain ⟨b, ys, hb, cell, h1, h2, h3, h4⟩ := State.ints_of_pre rfl harr hlen hall
  have hb0 : b = 0 := by
    have h9 : start1.args0[0]? = some (.ref 0) := rfl
    have h8 : start1.args0[0]? = some (.ref b) := hb
    exact (Value.ref.inj (Option.some.inj (h9.symm.trans h8))).symm
  subst hb0
  obtain ⟨h5, -, -, -⟩ := State.arrayAt?_spec h1
  have h6 : start1.about.heap[0]? = some { cls := 19, slots := start1.cells0, vm := .none } := rfl
  have h7 := Option.some.inj (h6.symm.trans h5)
  subst h7
  exact ⟨_, h1, wit_map, h3, wit_len⟩
theorem p26_false : ¬ Claimed_1_1 :=
  p26_falls (l := launch0) rfl start1.atStart (launch0.hasRoom_least _ R1 (by decide +kernel) (by decide +kernel) (by decide +kernel) (by decide +kernel) (by decide +kernel) (by decide +kernel)) wit_ints
/-- the statement that is owed is false -/
theorem p26_refuted : ¬ (Claimed_1_1 ∧ Claimed_1_2) := fun h => p26_false h.1
end AZY
