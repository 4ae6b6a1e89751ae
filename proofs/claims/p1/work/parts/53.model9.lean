/-! THE REFERENCE: the FIELD k STEPS on the straight way -/
section REF9
variable {xs : Nat → Int32} {L : Nat} {A : Nat → Nat → Int32} {V : Nat → Int32} {t b : Int32} {ld : Nat} {f : Nat → Int32} {Z : mj_H}
theorem c_MLbetween {i j : Nat} {k : Int} (hi : i < 144) (hj : j < 144) (hk : 0 ≤ k ∧ k ≤ 20) : mj_Ct m_ML_between [.ref (mj_NE + 33), .int (iI (i : Int)), .int (iI (j : Int)), .int (iI k)] (Wd xs L A V (mY t b ld f Z)) (some (.int (iI (btw ((i : Int) / 12) ((j : Int) / 12) k (max (((j : Int) % 12 - (i : Int) % 12).natAbs : Int) (((j : Int) / 12 - (i : Int) / 12).natAbs : Int)) * 12 + btw ((i : Int) % 12) ((j : Int) % 12) k (max (((j : Int) % 12 - (i : Int) % 12).natAbs : Int) (((j : Int) / 12 - (i : Int) / 12).natAbs : Int)))))) (Wd xs L A V (mY t b ld f Z)) 0 0 1 := by
  have n12 : ¬ (iI 12 = 0) := by decide +kernel
  have t1 : mj_Rc m_ML_between 0 0 1 (0, [.ref (mj_NE + 33), .int (iI (i : Int)), .int (iI (j : Int)), .int (iI k), mj_u, mj_u, mj_u], [], Wd xs L A V (mY t b ld f Z), 0, 0) (32, [.ref (mj_NE + 33), .int (iI (i : Int)), .int (iI (j : Int)), .int (iI k), .int ((iI (j : Int) - iI (j : Int) / iI 12 * iI 12) - (iI (i : Int) - iI (i : Int) / iI 12 * iI 12)), .int (iI (j : Int) / iI 12 - iI (i : Int) / iI 12), mj_u], [.int ((iI (j : Int) - iI (j : Int) / iI 12 * iI 12) - (iI (i : Int) - iI (i : Int) / iI 12 * iI 12))], Wd xs L A V (mY t b ld f Z), 0, 0) := r_to ok_ML_between 9999 [] rfl ⟨n12, n12, n12, n12, trivial⟩
  rw [iI_mod12 hi, iI_mod12 hj, iI_div12 hi, iI_div12 hj, iI_sub, iI_sub] at t1
  obtain ⟨dx, hdx⟩ : ∃ d : Int, d = (j : Int) % 12 - (i : Int) % 12 := ⟨_, rfl⟩
  obtain ⟨dy, hdy⟩ : ∃ d : Int, d = (j : Int) / 12 - (i : Int) / 12 := ⟨_, rfl⟩
  rw [← hdx, ← hdy] at t1
  have bdx : -11 ≤ dx ∧ dx ≤ 11 := by omega
  have bdy : -11 ≤ dy ∧ dy ≤ 11 := by omega
  have t2 := r_tr t1 (q_S ok_ML_between ok_Math_abs st_Math_abs (c_abs (a := dx) ⟨by omega, by omega⟩) rfl rfl rfl rfl ⟨rfl, rfl, rfl⟩)
  have t3 := r_tr t2 (r_to (g' := (37, [.ref (mj_NE + 33), .int (iI (i : Int)), .int (iI (j : Int)), .int (iI k), .int (iI dx), .int (iI dy), mj_u], [.int (iI dy), .int (iI (dx.natAbs : Int))], Wd xs L A V (mY t b ld f Z), 0, 0)) ok_ML_between 9999 [] rfl trivial)
  have t4 := r_tr t3 (q_S ok_ML_between ok_Math_abs st_Math_abs (c_abs (a := dy) ⟨by omega, by omega⟩) rfl rfl rfl rfl ⟨rfl, rfl, rfl⟩)
  have t5 := r_tr t4 (q_S ok_ML_between ok_Math_max st_Math_max (c_max (a := (dx.natAbs : Int)) (b := (dy.natAbs : Int)) ⟨by omega, by omega⟩ ⟨by omega, by omega⟩) rfl rfl rfl rfl ⟨rfl, rfl, rfl⟩)
  rw [← hdx, ← hdy]
  obtain ⟨N, hN⟩ : ∃ N : Int, N = max (dx.natAbs : Int) (dy.natAbs : Int) := ⟨_, rfl⟩
  rw [← hN] at t5
  rw [← hN]
  have bN : 0 ≤ N ∧ N ≤ 11 := by omega
  unfold btw
  rw [← hdx, ← hdy]
  by_cases h0 : N = 0
  · rw [if_pos (by omega), if_pos (by omega), show (i : Int) / 12 * 12 + (i : Int) % 12 = i by omega]
    exact ct_of ok_ML_between rfl (r_tr t5 (r_to ok_ML_between 9999 [false] rfl ⟨by show ¬ (¬ (iI N = 0)); rw [h0]; exact fun q => q rfl, trivial⟩)) rfl rfl rfl rfl rfl
  · rw [if_neg (by omega), if_neg (by omega)]
    have m1 := mul_bd (p := dy) (q := 2 * k) (P := 11) (Q := 40) ⟨by omega, by omega⟩ ⟨by omega, by omega⟩
    have m2 := mul_bd (p := dx) (q := 2 * k) (P := 11) (Q := 40) ⟨by omega, by omega⟩ ⟨by omega, by omega⟩
    rw [Int.mul_comm dy] at m1
    rw [Int.mul_comm dx] at m2
    have t6 : mj_Rc m_ML_between 0 0 1 (43, [.ref (mj_NE + 33), .int (iI (i : Int)), .int (iI (j : Int)), .int (iI k), .int (iI dx), .int (iI dy), mj_u], [.int (iI N)], Wd xs L A V (mY t b ld f Z), 0, 0) (71, [.ref (mj_NE + 33), .int (iI (i : Int)), .int (iI (j : Int)), .int (iI k), .int (iI dx), .int (iI dy), .int (iI N)], [.int (iI 2 * iI N), .int (iI 2 * iI k * iI dy + iI N), .int (iI (i : Int) / iI 12)], Wd xs L A V (mY t b ld f Z), 0, 0) := r_to ok_ML_between 9999 [true] rfl ⟨by show ¬ (iI N = 0); exact iI_nz ⟨by omega, by omega⟩ h0, n12, trivial⟩
    rw [iI_mul, iI_mul, iI_mul, iI_add, iI_div12 hi] at t6
    have t7 := r_tr (r_tr t5 t6) (q_S ok_ML_between ok_Math_floorDiv st_Math_floorDiv (c_floorDiv (a := 2 * k * dy + N) (b := 2 * N) ⟨by omega, by omega⟩ ⟨by omega, by omega⟩) rfl rfl rfl rfl ⟨rfl, rfl, rfl⟩)
    obtain ⟨q1, hq⟩ : ∃ q1 : Int, q1 = (2 * k * dy + N) / (2 * N) := ⟨_, rfl⟩
    rw [← hq] at t7
    have t8 : mj_Rc m_ML_between 0 0 1 (74, [.ref (mj_NE + 33), .int (iI (i : Int)), .int (iI (j : Int)), .int (iI k), .int (iI dx), .int (iI dy), .int (iI N)], [.int (iI q1), .int (iI ((i : Int) / 12))], Wd xs L A V (mY t b ld f Z), 0, 0) (100, [.ref (mj_NE + 33), .int (iI (i : Int)), .int (iI (j : Int)), .int (iI k), .int (iI dx), .int (iI dy), .int (iI N)], [.int (iI 2 * iI N), .int (iI 2 * iI k * iI dx + iI N), .int ((iI ((i : Int) / 12) + iI q1) * iI 12 + (iI (i : Int) - iI (i : Int) / iI 12 * iI 12))], Wd xs L A V (mY t b ld f Z), 0, 0) := r_to ok_ML_between 9999 [] rfl ⟨n12, trivial⟩
    rw [iI_mod12 hi, iI_mul, iI_mul, iI_mul, iI_add, iI_add, iI_mul, iI_add] at t8
    have t9 := r_tr (r_tr t7 t8) (q_S ok_ML_between ok_Math_floorDiv st_Math_floorDiv (c_floorDiv (a := 2 * k * dx + N) (b := 2 * N) ⟨by omega, by omega⟩ ⟨by omega, by omega⟩) rfl rfl rfl rfl ⟨rfl, rfl, rfl⟩)
    have t10 := r_tr t9 (r_to (g' := (104, [.ref (mj_NE + 33), .int (iI (i : Int)), .int (iI (j : Int)), .int (iI k), .int (iI dx), .int (iI dy), .int (iI N)], [.int (iI (((i : Int) / 12 + q1) * 12 + (i : Int) % 12) + iI ((2 * k * dx + N) / (2 * N)))], Wd xs L A V (mY t b ld f Z), 0, 0)) ok_ML_between 9999 [] rfl trivial)
    rw [iI_add] at t10
    rw [← hq, ← Int.add_assoc]
    exact ct_of ok_ML_between rfl t10 rfl rfl rfl rfl rfl
end REF9
