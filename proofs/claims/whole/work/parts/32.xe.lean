section AZXE
theorem xe_requirePaper {E : String} {σ : az_S} {p0 : Int32} (h : x_X5_requirePaper σ p0 = .inl E) : E = az_NSE := by
  by_cases c1 : (x_X3_has σ p0) = 0
  · simp only [x_X5_requirePaper, if_pos c1] at h
    exact (Sum.inl.inj h).symm
  · simp only [x_X5_requirePaper, if_neg c1] at h
    cases h
theorem xe_requireField {E : String} {σ : az_S} {p0 : Int32} (h : x_X5_requireField σ p0 = .inl E) : E = az_NSE := by
  by_cases c1 : (x_X0_isGroup σ p0) = 0
  · simp only [x_X5_requireField, if_pos c1] at h
    exact (Sum.inl.inj h).symm
  · simp only [x_X5_requireField, if_neg c1] at h
    cases h
theorem xe_requireYear {E : String} {σ : az_S} {p0 : Int32} (h : x_X5_requireYear σ p0 = .inl E) : E = az_IAE := by
  by_cases c1 : p0 < 0
  · simp only [x_X5_requireYear, if_pos c1] at h
    exact (Sum.inl.inj h).symm
  · by_cases c2 : p0 ≤ 99
    · simp only [x_X5_requireYear, if_neg c1, if_pos c2] at h
      cases h
    · simp only [x_X5_requireYear, if_neg c1, if_neg c2] at h
      exact (Sum.inl.inj h).symm
theorem xe_references {E : String} {σ : az_S} {p0 : Int32} (h : x_X5_references σ p0 = .inl E) : E = az_NSE := by
  rcases c1 : x_X5_requirePaper σ p0 with E9 | v9
  · simp only [x_X5_references, c1] at h
    exact ((Sum.inl.inj h).symm.trans (xe_requirePaper c1))
  simp only [x_X5_references, c1] at h
  cases h
theorem xe_citing {E : String} {σ : az_S} {p0 : Int32} (h : x_X5_citing σ p0 = .inl E) : E = az_NSE := by
  rcases c1 : x_X5_requirePaper σ p0 with E9 | v9
  · simp only [x_X5_citing, c1] at h
    exact ((Sum.inl.inj h).symm.trans (xe_requirePaper c1))
  simp only [x_X5_citing, c1] at h
  cases h
theorem xe_shared {E : String} {σ : az_S} {p0 : Int32} {p1 : Int32} (h : x_X5_shared σ p0 p1 = .inl E) : E = az_NSE := by
  rcases c1 : x_X5_requirePaper σ p0 with E9 | v9
  · simp only [x_X5_shared, c1] at h
    exact ((Sum.inl.inj h).symm.trans (xe_requirePaper c1))
  rcases c2 : x_X5_requirePaper σ p1 with E9 | v9
  · simp only [x_X5_shared, c1, c2] at h
    exact ((Sum.inl.inj h).symm.trans (xe_requirePaper c2))
  simp only [x_X5_shared, c1, c2] at h
  cases h
theorem xe_joint {E : String} {σ : az_S} {p0 : Int32} {p1 : Int32} (h : x_X5_joint σ p0 p1 = .inl E) : E = az_NSE := by
  rcases c1 : x_X5_requirePaper σ p0 with E9 | v9
  · simp only [x_X5_joint, c1] at h
    exact ((Sum.inl.inj h).symm.trans (xe_requirePaper c1))
  rcases c2 : x_X5_requirePaper σ p1 with E9 | v9
  · simp only [x_X5_joint, c1, c2] at h
    exact ((Sum.inl.inj h).symm.trans (xe_requirePaper c2))
  simp only [x_X5_joint, c1, c2] at h
  cases h
theorem xe_likenessNumerator {E : String} {σ : az_S} {p0 : Int32} {p1 : Int32} (h : x_X5_likenessNumerator σ p0 p1 = .inl E) : E = az_NSE := by
  rcases c1 : x_X5_requirePaper σ p0 with E9 | v9
  · simp only [x_X5_likenessNumerator, c1] at h
    exact ((Sum.inl.inj h).symm.trans (xe_requirePaper c1))
  rcases c2 : x_X5_requirePaper σ p1 with E9 | v9
  · simp only [x_X5_likenessNumerator, c1, c2] at h
    exact ((Sum.inl.inj h).symm.trans (xe_requirePaper c2))
  simp only [x_X5_likenessNumerator, c1, c2] at h
  cases h
theorem xe_likenessDenominator {E : String} {σ : az_S} {p0 : Int32} {p1 : Int32} (h : x_X5_likenessDenominator σ p0 p1 = .inl E) : E = az_NSE := by
  rcases c1 : x_X5_requirePaper σ p0 with E9 | v9
  · simp only [x_X5_likenessDenominator, c1] at h
    exact ((Sum.inl.inj h).symm.trans (xe_requirePaper c1))
  rcases c2 : x_X5_requirePaper σ p1 with E9 | v9
  · simp only [x_X5_likenessDenominator, c1, c2] at h
    exact ((Sum.inl.inj h).symm.trans (xe_requirePaper c2))
  by_cases c3 : (x_X5_referencePairs σ p0 p1) = 0
  · simp only [x_X5_likenessDenominator, c1, c2, if_pos c3] at h
    cases h
  · simp only [x_X5_likenessDenominator, c1, c2, if_neg c3] at h
    cases h
theorem xe_fieldOf {E : String} {σ : az_S} {p0 : Int32} (h : x_X5_fieldOf σ p0 = .inl E) : E = az_NSE := by
  rcases c1 : x_X5_requirePaper σ p0 with E9 | v9
  · simp only [x_X5_fieldOf, c1] at h
    exact ((Sum.inl.inj h).symm.trans (xe_requirePaper c1))
  simp only [x_X5_fieldOf, c1] at h
  cases h
theorem xe_gain {E : String} {σ : az_S} {p0 : Int32} {p1 : Int32} (h : x_X5_gain σ p0 p1 = .inl E) : E = az_NSE ∨ E = az_IAE := by
  rcases c1 : x_X5_requireField σ p0 with E9 | v9
  · simp only [x_X5_gain, c1] at h
    exact Or.inl ((Sum.inl.inj h).symm.trans (xe_requireField c1))
  rcases c2 : x_X5_requireField σ p1 with E9 | v9
  · simp only [x_X5_gain, c1, c2] at h
    exact Or.inl ((Sum.inl.inj h).symm.trans (xe_requireField c2))
  by_cases c3 : p0 = p1
  · simp only [x_X5_gain, c1, c2, if_pos c3] at h
    exact Or.inr (Sum.inl.inj h).symm
  · simp only [x_X5_gain, c1, c2, if_neg c3] at h
    cases h
theorem xe_split {E : String} {σ : az_S} {p0 : Int32} (h : x_X5_split σ p0 = .inl E) : E = az_NSE := by
  rcases c1 : x_X5_requireField σ p0 with E9 | v9
  · simp only [x_X5_split, c1] at h
    exact ((Sum.inl.inj h).symm.trans (xe_requireField c1))
  simp only [x_X5_split, c1] at h
  cases h
theorem xe_count {E : String} {σ : az_S} {p0 : Int32} {p1 : Int32} (h : x_X5_count σ p0 p1 = .inl E) : E = az_NSE := by
  rcases c1 : x_X5_requirePaper σ p0 with E9 | v9
  · simp only [x_X5_count, c1] at h
    exact ((Sum.inl.inj h).symm.trans (xe_requirePaper c1))
  rcases c2 : x_X5_requirePaper σ p1 with E9 | v9
  · simp only [x_X5_count, c1, c2] at h
    exact ((Sum.inl.inj h).symm.trans (xe_requirePaper c2))
  by_cases c3 : (x_X3_cites σ p0 p1) = 0
  · simp only [x_X5_count, c1, c2, if_pos c3] at h
    exact (Sum.inl.inj h).symm
  · simp only [x_X5_count, c1, c2, if_neg c3] at h
    cases h
theorem xe_mainAt {E : String} {σ : az_S} {p0 : Int32} (h : x_X5_mainAt σ p0 = .inl E) : E = az_IOB := by
  by_cases c1 : p0 < 0
  · simp only [x_X5_mainAt, if_pos c1] at h
    exact (Sum.inl.inj h).symm
  · by_cases c2 : p0 < (x_X1_lengthOfMain σ)
    · simp only [x_X5_mainAt, if_neg c1, if_pos c2] at h
      cases h
    · simp only [x_X5_mainAt, if_neg c1, if_neg c2] at h
      exact (Sum.inl.inj h).symm
theorem xe_rise {E : String} {σ : az_S} {p0 : Int32} {p1 : Int32} (h : x_X5_rise σ p0 p1 = .inl E) : E = az_NSE ∨ E = az_IAE := by
  rcases c1 : x_X5_requirePaper σ p0 with E9 | v9
  · simp only [x_X5_rise, c1] at h
    exact Or.inl ((Sum.inl.inj h).symm.trans (xe_requirePaper c1))
  rcases c2 : x_X5_requireYear σ p1 with E9 | v9
  · simp only [x_X5_rise, c1, c2] at h
    exact Or.inr ((Sum.inl.inj h).symm.trans (xe_requireYear c2))
  simp only [x_X5_rise, c1, c2] at h
  cases h
theorem xe_riser {E : String} {σ : az_S} {p0 : Int32} (h : x_X5_riser σ p0 = .inl E) : E = az_IAE := by
  rcases c1 : x_X5_requireYear σ p0 with E9 | v9
  · simp only [x_X5_riser, c1] at h
    exact ((Sum.inl.inj h).symm.trans (xe_requireYear c1))
  simp only [x_X5_riser, c1] at h
  cases h
theorem xe_heir {E : String} {σ : az_S} {p0 : Int32} (h : x_X5_heir σ p0 = .inl E) : E = az_NSE := by
  rcases c1 : x_X5_requirePaper σ p0 with E9 | v9
  · simp only [x_X5_heir, c1] at h
    exact ((Sum.inl.inj h).symm.trans (xe_requirePaper c1))
  simp only [x_X5_heir, c1] at h
  cases h
theorem xe_come {E : String} {σ : az_S} {p0 : Int32} {p1 : Int32} (h : x_X5_come σ p0 p1 = .inl E) : E = az_IAE ∨ E = az_ISE := by
  by_cases c1 : (x_X3_takesYear σ p0) = 0
  · simp only [x_X5_come, if_pos c1] at h
    exact Or.inl (Sum.inl.inj h).symm
  · by_cases c2 : (x_X3_hasAll σ p1) = 0
    · simp only [x_X5_come, if_neg c1, if_pos c2] at h
      exact Or.inl (Sum.inl.inj h).symm
    · by_cases c3 : (x_X3_isFull σ) = 0
      · simp only [x_X5_come, if_neg c1, if_neg c2, if_pos c3] at h
        cases h
      · simp only [x_X5_come, if_neg c1, if_neg c2, if_neg c3] at h
        exact Or.inr (Sum.inl.inj h).symm
theorem xe_withdraw {E : String} {σ : az_S} {p0 : Int32} (h : x_X5_withdraw σ p0 = .inl E) : E = az_NSE := by
  rcases c1 : x_X5_requirePaper σ p0 with E9 | v9
  · simp only [x_X5_withdraw, c1] at h
    exact ((Sum.inl.inj h).symm.trans (xe_requirePaper c1))
  simp only [x_X5_withdraw, c1] at h
  cases h
end AZXE
