/-! THE REFERENCE: setBrook; map where it refuses -/
section REF6
variable {xs : Nat → Int32} {L : Nat} {A : Nat → Nat → Int32} {V : Nat → Int32} {t b : Int32} {f : Nat → Int32} {Z : mj_H} {H : Nat → Int}
theorem m_setBrookR {k : Int} (rk : -2147483648 ≤ k ∧ k ≤ 2147483647) (hno : ¬ (1 ≤ k ∧ k ≤ 100)) : mj_Ct m_M_setBrook [.ref (mj_NE + 32), .int (iI k)] (Wd xs L A V (mY t b (mj_NE + 33) f Z)) (some (.int 0)) (Wd xs L A V (mY (iI 1) b (mj_NE + 33) f Z)) 0 0 3 := by
  have s1 := r_to (RC := 0) (RS := 0) (dd := 3) (g := (0, [.ref (mj_NE + 32), .int (iI k), mj_u], [], Wd xs L A V (mY t b (mj_NE + 33) f Z), 0, 0)) (g' := (5, [.ref (mj_NE + 32), .int (iI k), mj_u], [.int (iI 100), .int (iI 1), .int (iI k), .ref (mj_NE + 32)], Wd xs L A V (mY t b (mj_NE + 33) f Z), 0, 0)) ok_M_setBrook 9999 [] rfl trivial
  have s2 := r_tr s1 (q_S ok_M_setBrook ok_M_isIn st_M_isIn (c_isIn (lo := 1) (hi := 100) rk ⟨by omega, by omega, by omega, by omega⟩) rfl rfl rfl rfl ⟨rfl, rfl, rfl⟩)
  rw [decide_eq_false hno] at s2
  have s3 := r_tr s2 (r_to (g' := (17, [.ref (mj_NE + 32), .int (iI k), mj_u], [.int (iI 1), .int (bI true), .ref (mj_NE + 32)], Wd xs L A V (mY t b (mj_NE + 33) f Z), 0, 0)) ok_M_setBrook 9999 [false] rfl ⟨fun q => q rfl, trivial⟩)
  have s4 := r_tr s3 (q_V ok_M_setBrook ok_M_start se_M_start (c_start (q := true) (k := 1) ⟨by omega, by omega⟩) rfl rfl rfl rfl rfl ⟨rfl, rfl, rfl⟩)
  have s5 := r_tr s4 (r_to (g' := (24, [.ref (mj_NE + 32), .int (iI k), mj_u], [.int 0], Wd xs L A V (mY (if true = true then iI 1 else iI 0) b (mj_NE + 33) f Z), 0, 0)) ok_M_setBrook 9999 [false] rfl ⟨by show ¬ ((1 : Int32) = 0); decide, trivial⟩)
  exact ct_of ok_M_setBrook rfl s5 rfl rfl rfl rfl rfl
theorem m_setBrookA {k : Int} (hk : 1 ≤ k ∧ k ≤ 100) : mj_Ct m_M_setBrook [.ref (mj_NE + 32), .int (iI k)] (Wd xs L A V (mY t b (mj_NE + 33) f Z)) (some (.int b)) (Wd xs L A V (mY (iI 0) (iI k) (mj_NE + 33) f Z)) 0 0 3 := by
  have rk : -2147483648 ≤ k ∧ k ≤ 2147483647 := by omega
  have s1 := r_to (RC := 0) (RS := 0) (dd := 3) (g := (0, [.ref (mj_NE + 32), .int (iI k), mj_u], [], Wd xs L A V (mY t b (mj_NE + 33) f Z), 0, 0)) (g' := (5, [.ref (mj_NE + 32), .int (iI k), mj_u], [.int (iI 100), .int (iI 1), .int (iI k), .ref (mj_NE + 32)], Wd xs L A V (mY t b (mj_NE + 33) f Z), 0, 0)) ok_M_setBrook 9999 [] rfl trivial
  have s2 := r_tr s1 (q_S ok_M_setBrook ok_M_isIn st_M_isIn (c_isIn (lo := 1) (hi := 100) rk ⟨by omega, by omega, by omega, by omega⟩) rfl rfl rfl rfl ⟨rfl, rfl, rfl⟩)
  rw [decide_eq_true hk] at s2
  have s3 := r_tr s2 (r_to (g' := (17, [.ref (mj_NE + 32), .int (iI k), mj_u], [.int (iI 1), .int (bI false), .ref (mj_NE + 32)], Wd xs L A V (mY t b (mj_NE + 33) f Z), 0, 0)) ok_M_setBrook 9999 [true] rfl ⟨by show ¬ ((1 : Int32) = 0); decide, trivial⟩)
  have s4 := r_tr s3 (q_V ok_M_setBrook ok_M_start se_M_start (c_start (q := false) (k := 1) ⟨by omega, by omega⟩) rfl rfl rfl rfl rfl ⟨rfl, rfl, rfl⟩)
  have s5 := r_tr s4 (r_to (g' := (36, [.ref (mj_NE + 32), .int (iI k), .int b], [.int b], Wd xs L A V (mY (if false = true then iI 1 else iI 0) (iI k) (mj_NE + 33) f Z), 0, 0)) ok_M_setBrook 9999 [true] rfl ⟨by show ((0 : Int32) = 0); rfl, trivial⟩)
  exact ct_of ok_M_setBrook rfl s5 rfl rfl rfl rfl rfl
theorem m_mapR {k : Int} (rk : -2147483648 ≤ k ∧ k ≤ 2147483647) (hno : ¬ (0 ≤ k ∧ k ≤ 4)) : mj_Ct m_M_map [.ref (mj_NE + 32), .int (iI k)] (Wd xs L A V (mY t b (mj_NE + 33) f Z)) (some (.int 0)) (Wd xs L A V (mY (iI 1) b (mj_NE + 33) f Z)) 0 0 3 := by
  have s1 := r_to (RC := 0) (RS := 0) (dd := 3) (g := (0, [.ref (mj_NE + 32), .int (iI k)], [], Wd xs L A V (mY t b (mj_NE + 33) f Z), 0, 0)) (g' := (4, [.ref (mj_NE + 32), .int (iI k)], [.int (iI 4), .int (iI 0), .int (iI k), .ref (mj_NE + 32)], Wd xs L A V (mY t b (mj_NE + 33) f Z), 0, 0)) ok_M_map 9999 [] rfl trivial
  have s2 := r_tr s1 (q_S ok_M_map ok_M_isIn st_M_isIn (c_isIn (lo := 0) (hi := 4) rk ⟨by omega, by omega, by omega, by omega⟩) rfl rfl rfl rfl ⟨rfl, rfl, rfl⟩)
  rw [decide_eq_false hno] at s2
  have s3 := r_tr s2 (r_to (g' := (16, [.ref (mj_NE + 32), .int (iI k)], [.int (iI 1), .int (bI true), .ref (mj_NE + 32)], Wd xs L A V (mY t b (mj_NE + 33) f Z), 0, 0)) ok_M_map 9999 [false] rfl ⟨fun q => q rfl, trivial⟩)
  have s4 := r_tr s3 (q_V ok_M_map ok_M_start se_M_start (c_start (q := true) (k := 1) ⟨by omega, by omega⟩) rfl rfl rfl rfl rfl ⟨rfl, rfl, rfl⟩)
  have s5 := r_tr s4 (r_to (g' := (31, [.ref (mj_NE + 32), .int (iI k)], [.int 0], Wd xs L A V (mY (if true = true then iI 1 else iI 0) b (mj_NE + 33) f Z), 0, 0)) ok_M_map 9999 [false] rfl ⟨by show ¬ ((1 : Int32) = 0); decide, trivial⟩)
  exact ct_of ok_M_map rfl s5 rfl rfl rfl rfl rfl
end REF6
