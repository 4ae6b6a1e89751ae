/-! THE REFERENCE: who is whose NEIGHBOUR, the EDGE -/
section REF2
variable {xs : Nat → Int32} {L : Nat} {A : Nat → Nat → Int32} {V : Nat → Int32} {t b : Int32} {ld : Nat} {f : Nat → Int32} {Z : mj_H}
theorem iI_mod12 {i : Nat} (hi : i < 144) : iI (i : Int) - iI (i : Int) / iI 12 * iI 12 = iI ((i : Int) % 12) := by
  rw [iI_rem ⟨by omega, by omega⟩ ⟨by omega, by omega⟩, Int.tmod_eq_emod_of_nonneg (by omega)]
theorem iI_div12 {i : Nat} (hi : i < 144) : iI (i : Int) / iI 12 = iI ((i : Int) / 12) := by
  rw [iI_div ⟨by omega, by omega⟩ ⟨by omega, by omega⟩, Int.tdiv_eq_ediv_of_nonneg (by omega)]
theorem c_MLnext {i d : Nat} (hi : i < 144) (hd : d < 8) : mj_Ct m_ML_next [.ref (mj_NE + 33), .int (iI (i : Int)), .int (iI (d : Int))] (Wd xs L A V (mY t b ld f Z)) (some (.int (iI (nbi 12 12 i d)))) (Wd xs L A V (mY t b ld f Z)) 0 0 0 := by
  have n12 : ¬ (iI 12 = 0) := by decide +kernel
  have hc : (iI (d : Int)).toNatClampNeg = d := cl_nat (by omega)
  have hin : vp_in (iI (d : Int)) 8 := in_nat (by omega) (by omega)
  obtain ⟨e3, s1, s2⟩ := s0_I d hd
  obtain ⟨e4, s3, s4⟩ := s1_I d hd
  have t1 : mj_Rc m_ML_next 0 0 0 (0, [.ref (mj_NE + 33), .int (iI (i : Int)), .int (iI (d : Int)), mj_u, mj_u], [], Wd xs L A V (mY t b ld f Z), 0, 0) (27, [.ref (mj_NE + 33), .int (iI (i : Int)), .int (iI (d : Int)), .int (iI (i : Int) - iI (i : Int) / iI 12 * iI 12 + mj_s3 (iI (d : Int)).toNatClampNeg), .int (iI (i : Int) / iI 12 + mj_s4 (iI (d : Int)).toNatClampNeg)], [], Wd xs L A V (mY t b ld f Z), 0, 0) := r_to ok_ML_next 27 [] rfl ⟨n12, hin, n12, hin, trivial⟩
  rw [hc, iI_mod12 hi, iI_div12 hi, show mj_s3 d = iI (sxI d) from e3, show mj_s4 d = iI (syI d) from e4, iI_add, iI_add] at t1
  unfold nbi nb
  have x1 : 0 ≤ (i : Int) % 12 ∧ (i : Int) % 12 < 12 := by omega
  have y1 : 0 ≤ (i : Int) / 12 ∧ (i : Int) / 12 < 12 := by omega
  obtain ⟨X, hX⟩ : ∃ X : Int, X = (i : Int) % 12 + sxI d := ⟨_, rfl⟩
  obtain ⟨Y1, hY⟩ : ∃ Y1 : Int, Y1 = (i : Int) / 12 + syI d := ⟨_, rfl⟩
  rw [← hX, ← hY] at t1
  rw [← hX, ← hY]
  have bX : -1 ≤ X ∧ X ≤ 12 := by omega
  have bY : -1 ≤ Y1 ∧ Y1 ≤ 12 := by omega
  by_cases q1 : X < 0
  · rw [if_neg (by omega), ← iI_neg1]
    exact ct_of ok_ML_next rfl (r_tr t1 (r_to ok_ML_next 9999 [true] rfl ⟨by show iI X < iI 0; rw [iI_lt ⟨by omega, by omega⟩ ⟨by omega, by omega⟩]; exact q1, trivial⟩)) rfl rfl rfl rfl rfl
  · have n1 : ¬ (iI X < iI 0) := by rw [iI_lt ⟨by omega, by omega⟩ ⟨by omega, by omega⟩]; exact q1
    by_cases q2 : 12 ≤ X
    · rw [if_neg (by omega), ← iI_neg1]
      exact ct_of ok_ML_next rfl (r_tr t1 (r_to ok_ML_next 9999 [false, true] rfl ⟨n1, by show iI 12 ≤ iI X; rw [iI_le ⟨by omega, by omega⟩ ⟨by omega, by omega⟩]; exact q2, trivial⟩)) rfl rfl rfl rfl rfl
    · have n2 : ¬ (iI 12 ≤ iI X) := by rw [iI_le ⟨by omega, by omega⟩ ⟨by omega, by omega⟩]; exact q2
      by_cases q3 : Y1 < 0
      · rw [if_neg (by omega), ← iI_neg1]
        exact ct_of ok_ML_next rfl (r_tr t1 (r_to ok_ML_next 9999 [false, false, true] rfl ⟨n1, n2, by show iI Y1 < iI 0; rw [iI_lt ⟨by omega, by omega⟩ ⟨by omega, by omega⟩]; exact q3, trivial⟩)) rfl rfl rfl rfl rfl
      · have n3 : ¬ (iI Y1 < iI 0) := by rw [iI_lt ⟨by omega, by omega⟩ ⟨by omega, by omega⟩]; exact q3
        by_cases q4 : Y1 < 12
        · rw [if_pos ⟨by omega, by omega, by omega, by omega⟩]
          have t2 : mj_Rc m_ML_next 0 0 0 (27, [.ref (mj_NE + 33), .int (iI (i : Int)), .int (iI (d : Int)), .int (iI X), .int (iI Y1)], [], Wd xs L A V (mY t b ld f Z), 0, 0) (66, [.ref (mj_NE + 33), .int (iI (i : Int)), .int (iI (d : Int)), .int (iI X), .int (iI Y1)], [.int (iI Y1 * iI 12 + iI X)], Wd xs L A V (mY t b ld f Z), 0, 0) := r_to ok_ML_next 9999 [false, false, false, true] rfl ⟨n1, n2, n3, by show iI Y1 < iI 12; rw [iI_lt ⟨by omega, by omega⟩ ⟨by omega, by omega⟩]; exact q4, trivial⟩
          rw [iI_mul, iI_add] at t2
          exact ct_of ok_ML_next rfl (r_tr t1 t2) rfl rfl rfl rfl rfl
        · rw [if_neg (by omega), ← iI_neg1]
          exact ct_of ok_ML_next rfl (r_tr t1 (r_to ok_ML_next 9999 [false, false, false, false] rfl ⟨n1, n2, n3, by show ¬ (iI Y1 < iI 12); rw [iI_lt ⟨by omega, by omega⟩ ⟨by omega, by omega⟩]; exact q4, trivial⟩)) rfl rfl rfl rfl rfl
end REF2
