/-! THE REFERENCE: the EDGE -/
section REF3
variable {xs : Nat → Int32} {L : Nat} {A : Nat → Nat → Int32} {V : Nat → Int32} {t b : Int32} {ld : Nat} {f : Nat → Int32} {Z : mj_H}
theorem edge12 : ∀ i, i < 144 → edgeB 12 12 i = decide (i % 12 = 0 ∨ i % 12 = 11 ∨ i / 12 = 0 ∨ i / 12 = 11) := by decide +kernel
theorem c_MLisEdge {i : Nat} (hi : i < 144) : mj_Ct m_ML_isEdge [.ref (mj_NE + 33), .int (iI (i : Int))] (Wd xs L A V (mY t b ld f Z)) (some (.int (bI (edgeB 12 12 i)))) (Wd xs L A V (mY t b ld f Z)) 0 0 0 := by
  have n12 : ¬ (iI 12 = 0) := by decide +kernel
  have m0 := iI_mod12 hi
  have d0 := iI_div12 hi
  have e11 : iI 12 - iI 1 = iI 11 := by rw [iI_sub]; rfl
  rw [edge12 i hi]
  by_cases q1 : i % 12 = 0
  · rw [decide_eq_true (Or.inl q1)]
    exact ct_of ok_ML_isEdge rfl (r_to ok_ML_isEdge 9999 [true] rfl ⟨n12, by show iI (i : Int) - iI (i : Int) / iI 12 * iI 12 = iI 0; rw [m0, iI_eq ⟨by omega, by omega⟩ ⟨by omega, by omega⟩]; omega, trivial⟩) rfl rfl ⟨rfl, bI_nar true⟩ rfl rfl
  · have c1 : ¬ (iI (i : Int) - iI (i : Int) / iI 12 * iI 12 = iI 0) := by rw [m0, iI_eq ⟨by omega, by omega⟩ ⟨by omega, by omega⟩]; omega
    by_cases q2 : i % 12 = 11
    · rw [decide_eq_true (Or.inr (Or.inl q2))]
      exact ct_of ok_ML_isEdge rfl (r_to ok_ML_isEdge 9999 [false, true] rfl ⟨n12, c1, n12, by show iI (i : Int) - iI (i : Int) / iI 12 * iI 12 = iI 12 - iI 1; rw [m0, e11, iI_eq ⟨by omega, by omega⟩ ⟨by omega, by omega⟩]; omega, trivial⟩) rfl rfl ⟨rfl, bI_nar true⟩ rfl rfl
    · have c2 : ¬ (iI (i : Int) - iI (i : Int) / iI 12 * iI 12 = iI 12 - iI 1) := by rw [m0, e11, iI_eq ⟨by omega, by omega⟩ ⟨by omega, by omega⟩]; omega
      by_cases q3 : i / 12 = 0
      · rw [decide_eq_true (Or.inr (Or.inr (Or.inl q3)))]
        exact ct_of ok_ML_isEdge rfl (r_to ok_ML_isEdge 9999 [false, false, true] rfl ⟨n12, c1, n12, c2, n12, by show iI (i : Int) / iI 12 = iI 0; rw [d0, iI_eq ⟨by omega, by omega⟩ ⟨by omega, by omega⟩]; omega, trivial⟩) rfl rfl ⟨rfl, bI_nar true⟩ rfl rfl
      · have c3 : ¬ (iI (i : Int) / iI 12 = iI 0) := by rw [d0, iI_eq ⟨by omega, by omega⟩ ⟨by omega, by omega⟩]; omega
        by_cases q4 : i / 12 = 11
        · rw [decide_eq_true (Or.inr (Or.inr (Or.inr q4)))]
          exact ct_of ok_ML_isEdge rfl (r_to ok_ML_isEdge 9999 [false, false, false, false] rfl ⟨n12, c1, n12, c2, n12, c3, n12, by show ¬ (¬ (iI (i : Int) / iI 12 = iI 12 - iI 1)); rw [d0, e11, iI_eq ⟨by omega, by omega⟩ ⟨by omega, by omega⟩]; omega, trivial⟩) rfl rfl ⟨rfl, bI_nar true⟩ rfl rfl
        · rw [decide_eq_false (by omega)]
          exact ct_of ok_ML_isEdge rfl (r_to ok_ML_isEdge 9999 [false, false, false, true] rfl ⟨n12, c1, n12, c2, n12, c3, n12, by show ¬ (iI (i : Int) / iI 12 = iI 12 - iI 1); rw [d0, e11, iI_eq ⟨by omega, by omega⟩ ⟨by omega, by omega⟩]; omega, trivial⟩) rfl rfl ⟨rfl, bI_nar false⟩ rfl rfl
end REF3
