/-! THE REFERENCE: how far two FIELDS are -/
section REF8
variable {xs : Nat → Int32} {L : Nat} {A : Nat → Nat → Int32} {V : Nat → Int32} {t b : Int32} {ld : Nat} {f : Nat → Int32} {Z : mj_H}
theorem c_MLfar {i j : Nat} (hi : i < 144) (hj : j < 144) : mj_Ct m_ML_far [.ref (mj_NE + 33), .int (iI (i : Int)), .int (iI (j : Int))] (Wd xs L A V (mY t b ld f Z)) (some (.int (iI (max (((j : Int) % 12 - (i : Int) % 12).natAbs : Int) (((j : Int) / 12 - (i : Int) / 12).natAbs : Int))))) (Wd xs L A V (mY t b ld f Z)) 0 0 1 := by
  have n12 : ¬ (iI 12 = 0) := by decide +kernel
  have t1 : mj_Rc m_ML_far 0 0 1 (0, [.ref (mj_NE + 33), .int (iI (i : Int)), .int (iI (j : Int))], [], Wd xs L A V (mY t b ld f Z), 0, 0) (13, [.ref (mj_NE + 33), .int (iI (i : Int)), .int (iI (j : Int))], [.int ((iI (j : Int) - iI (j : Int) / iI 12 * iI 12) - (iI (i : Int) - iI (i : Int) / iI 12 * iI 12))], Wd xs L A V (mY t b ld f Z), 0, 0) := r_to ok_ML_far 9999 [] rfl ⟨n12, n12, trivial⟩
  rw [iI_mod12 hi, iI_mod12 hj, iI_sub] at t1
  have t2 := r_tr t1 (q_S ok_ML_far ok_Math_abs st_Math_abs (c_abs (a := ((j : Int) % 12 - (i : Int) % 12)) ⟨by omega, by omega⟩) rfl rfl rfl rfl ⟨rfl, rfl, rfl⟩)
  have t3 : mj_Rc m_ML_far 0 0 1 (16, [.ref (mj_NE + 33), .int (iI (i : Int)), .int (iI (j : Int))], [.int (iI (((j : Int) % 12 - (i : Int) % 12).natAbs : Int))], Wd xs L A V (mY t b ld f Z), 0, 0) (29, [.ref (mj_NE + 33), .int (iI (i : Int)), .int (iI (j : Int))], [.int (iI (j : Int) / iI 12 - iI (i : Int) / iI 12), .int (iI (((j : Int) % 12 - (i : Int) % 12).natAbs : Int))], Wd xs L A V (mY t b ld f Z), 0, 0) := r_to ok_ML_far 9999 [] rfl ⟨n12, n12, trivial⟩
  rw [iI_div12 hi, iI_div12 hj, iI_sub] at t3
  have t4 := r_tr (r_tr t2 t3) (q_S ok_ML_far ok_Math_abs st_Math_abs (c_abs (a := ((j : Int) / 12 - (i : Int) / 12)) ⟨by omega, by omega⟩) rfl rfl rfl rfl ⟨rfl, rfl, rfl⟩)
  have t5 := r_tr t4 (q_S ok_ML_far ok_Math_max st_Math_max (c_max (a := (((j : Int) % 12 - (i : Int) % 12).natAbs : Int)) (b := (((j : Int) / 12 - (i : Int) / 12).natAbs : Int)) ⟨by omega, by omega⟩ ⟨by omega, by omega⟩) rfl rfl rfl rfl ⟨rfl, rfl, rfl⟩)
  exact ct_of ok_ML_far rfl t5 rfl rfl rfl rfl rfl
end REF8
