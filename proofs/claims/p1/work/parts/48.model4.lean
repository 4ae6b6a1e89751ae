/-! THE REFERENCE: where water goes -/
section REF4
variable {xs : Nat → Int32} {L : Nat} {A : Nat → Nat → Int32} {V : Nat → Int32} {t b : Int32} {ld : Nat} {f : Nat → Int32} {Z : mj_H} {H : Nat → Int}
set_option maxHeartbeats 1000000 in
theorem c_MLgoes {i : Nat} (hf : Hts f 144 H) (hi : i < 144) : mj_Ct m_ML_goes [.ref (mj_NE + 33), .int (iI (i : Int))] (Wd xs L A V (mY t b ld f Z)) (some (.int (iI (drF 12 12 H i)))) (Wd xs L A V (mY t b ld f Z)) 0 0 1 := by
  have hH2 : ∀ j, j < 144 → 0 ≤ H j ∧ H j ≤ 999 := fun j hj => (hf j hj).2
  have hb := chD_bd (w := 12) (h := 12) (N := 144) (i := i) ⟨by omega, by omega⟩ ⟨by omega, by omega⟩ rfl hH2 hi
  have t1 := r_to (RC := 0) (RS := 0) (dd := 1) (g := (0, [.ref (mj_NE + 33), .int (iI (i : Int)), mj_u, mj_u, mj_u, mj_u, mj_u], [], Wd xs L A V (mY t b ld f Z), 0, 0)) (g' := (2, [.ref (mj_NE + 33), .int (iI (i : Int)), mj_u, mj_u, mj_u, mj_u, mj_u], [.int (iI (i : Int)), .ref (mj_NE + 33)], Wd xs L A V (mY t b ld f Z), 0, 0)) ok_ML_goes 9999 [] rfl trivial
  have t2 := r_tr t1 (q_V ok_ML_goes ok_ML_isEdge se_ML_isEdge (c_MLisEdge hi) rfl rfl rfl rfl rfl ⟨rfl, rfl, rfl⟩)
  have t3 : mj_Rc m_ML_goes 0 0 1 (5, [.ref (mj_NE + 33), .int (iI (i : Int)), mj_u, mj_u, mj_u, mj_u, mj_u], [.int (bI (edgeB 12 12 i))], Wd xs L A V (mY t b ld f Z), 0, 0) (21, [.ref (mj_NE + 33), .int (iI (i : Int)), .int (iI (chD 12 12 H i 0).2.1), .int (iI (chD 12 12 H i 0).1), .int (iI 0), mj_u, mj_u], [], Wd xs L A V (mY t b ld f Z), 0, 0) := by
    have e0 : (chD 12 12 H i 0).2.1 = if edgeB 12 12 i = true then 8 else 9 := rfl
    have e1 : (chD 12 12 H i 0).1 = 0 := rfl
    rw [e0, e1]
    cases edgeB 12 12 i with
    | true => exact r_to ok_ML_goes 21 [false] rfl ⟨by show ¬ ((1 : Int32) = 0); decide, trivial⟩
    | false => exact r_to ok_ML_goes 21 [true] rfl ⟨by show ((0 : Int32) = 0); rfl, trivial⟩
  have lp : ∀ d : Nat, d ≤ 8 → ∃ u5 u6 : Value, mj_Rc m_ML_goes 0 0 1 (0, [.ref (mj_NE + 33), .int (iI (i : Int)), mj_u, mj_u, mj_u, mj_u, mj_u], [], Wd xs L A V (mY t b ld f Z), 0, 0) (21, [.ref (mj_NE + 33), .int (iI (i : Int)), .int (iI (chD 12 12 H i d).2.1), .int (iI (chD 12 12 H i d).1), .int (iI (d : Int)), u5, u6], [], Wd xs L A V (mY t b ld f Z), 0, 0) := by
    intro d
    induction d with
    | zero => intro _; exact ⟨_, _, r_tr t2 t3⟩
    | succ d ih =>
      intro hd
      obtain ⟨u5, u6, hr⟩ := ih (by omega)
      have bb := hb d (by omega)
      have bd := nbi_bd (w := 12) (h := 12) ⟨by omega, by omega⟩ ⟨by omega, by omega⟩ i d
      obtain ⟨ei, b1, b2⟩ := hf i hi
      have hci : (iI (i : Int)).toNatClampNeg = i := cl_nat (by omega)
      have hini : vp_in (iI (i : Int)) 144 := in_nat (by omega) (by omega)
      have n2 : ¬ (iI 2 = 0) := by decide +kernel
      have md : iI (d : Int) - iI (d : Int) / iI 2 * iI 2 = iI ((d : Int) % 2) := by rw [iI_rem ⟨by omega, by omega⟩ ⟨by omega, by omega⟩, Int.tmod_eq_emod_of_nonneg (by omega)]
      have s1 := r_tr hr (r_to (g' := (32, [.ref (mj_NE + 33), .int (iI (i : Int)), .int (iI (chD 12 12 H i d).2.1), .int (iI (chD 12 12 H i d).1), .int (iI (d : Int)), u5, u6], [.int (iI (d : Int)), .int (iI (i : Int)), .ref (mj_NE + 33)], Wd xs L A V (mY t b ld f Z), 0, 0)) ok_ML_goes 9999 [false] rfl ⟨by
        show ¬ (iI 8 ≤ iI (d : Int))
        rw [iI_le ⟨by omega, by omega⟩ ⟨by omega, by omega⟩]
        omega, trivial⟩)
      have s2 := r_tr s1 (q_V ok_ML_goes ok_ML_next se_ML_next (c_MLnext hi (by omega)) rfl rfl rfl rfl rfl ⟨rfl, rfl, rfl⟩)
      by_cases hneg : nbi 12 12 i d < 0
      · have e : chD 12 12 H i (d + 1) = chD 12 12 H i d := by rw [chD, if_pos hneg]
        have s3 := r_tr s2 (r_to (g' := (21, [.ref (mj_NE + 33), .int (iI (i : Int)), .int (iI (chD 12 12 H i d).2.1), .int (iI (chD 12 12 H i d).1), .int (iI (d : Int) + 1), .int (iI (nbi 12 12 i d)), .int (iI 0)], [], Wd xs L A V (mY t b ld f Z), 0, 0)) ok_ML_goes 21 [false, false] rfl ⟨by
          show ¬ (iI 0 ≤ iI (nbi 12 12 i d))
          rw [iI_le ⟨by omega, by omega⟩ ⟨by omega, by omega⟩]
          omega, by
          show ¬ (iI (chD 12 12 H i d).1 < iI 0)
          rw [iI_lt ⟨by omega, by omega⟩ ⟨by omega, by omega⟩]
          omega, trivial⟩)
        rw [iI_1] at s3
        rw [e]
        exact ⟨_, _, s3⟩
      · obtain ⟨j, hj⟩ : ∃ j : Nat, (j : Int) = nbi 12 12 i d := ⟨(nbi 12 12 i d).toNat, by omega⟩
        have hj2 : (nbi 12 12 i d).toNat = j := by omega
        obtain ⟨ej, b3, b4⟩ := hf j (by omega)
        have hcj : (iI (j : Int)).toNatClampNeg = j := cl_nat (by omega)
        have hinj : vp_in (iI (j : Int)) 144 := in_nat (by omega) (by omega)
        rw [← hj] at s2
        have ge0 : iI 0 ≤ iI (j : Int) := by rw [iI_le ⟨by omega, by omega⟩ ⟨by omega, by omega⟩]; omega
        have vi : f (iI (i : Int)).toNatClampNeg = iI (H i) := by rw [hci]; exact ei
        have vj : f (iI (j : Int)).toNatClampNeg = iI (H j) := by rw [hcj]; exact ej
        by_cases ho : d % 2 = 1
        · have cd : ¬ (iI (d : Int) - iI (d : Int) / iI 2 * iI 2 = 0) := by rw [md]; exact iI_nz ⟨by omega, by omega⟩ (by omega)
          have bf : -10000 ≤ (H i - H j) * 7 ∧ (H i - H j) * 7 ≤ 10000 := by omega
          by_cases hfl : (chD 12 12 H i d).1 < (H i - H j) * 7
          · have e : chD 12 12 H i (d + 1) = ((H i - H j) * 7, (d : Int), (j : Int)) := by rw [chD, if_neg hneg, hj2, if_pos ho, if_pos hfl, ← hj]
            have s3 : mj_Rc m_ML_goes 0 0 1 (35, [.ref (mj_NE + 33), .int (iI (i : Int)), .int (iI (chD 12 12 H i d).2.1), .int (iI (chD 12 12 H i d).1), .int (iI (d : Int)), u5, u6], [.int (iI (j : Int))], Wd xs L A V (mY t b ld f Z), 0, 0) (21, [.ref (mj_NE + 33), .int (iI (i : Int)), .int (iI (d : Int)), .int ((f (iI (i : Int)).toNatClampNeg - f (iI (j : Int)).toNatClampNeg) * iI 7), .int (iI (d : Int) + 1), .int (iI (j : Int)), .int ((f (iI (i : Int)).toNatClampNeg - f (iI (j : Int)).toNatClampNeg) * iI 7)], [], Wd xs L A V (mY t b ld f Z), 0, 0) := r_to ok_ML_goes 21 [true, true, true] rfl ⟨ge0, hini, hinj, n2, cd, by
              show iI (chD 12 12 H i d).1 < (f (iI (i : Int)).toNatClampNeg - f (iI (j : Int)).toNatClampNeg) * iI 7
              rw [vi, vj, iI_sub, iI_mul, iI_lt ⟨by omega, by omega⟩ ⟨by omega, by omega⟩]
              exact hfl, trivial⟩
            rw [vi, vj, iI_sub, iI_mul, iI_1] at s3
            rw [e]
            exact ⟨_, _, r_tr s2 s3⟩
          · have e : chD 12 12 H i (d + 1) = chD 12 12 H i d := by rw [chD, if_neg hneg, hj2, if_pos ho, if_neg hfl]
            have s3 : mj_Rc m_ML_goes 0 0 1 (35, [.ref (mj_NE + 33), .int (iI (i : Int)), .int (iI (chD 12 12 H i d).2.1), .int (iI (chD 12 12 H i d).1), .int (iI (d : Int)), u5, u6], [.int (iI (j : Int))], Wd xs L A V (mY t b ld f Z), 0, 0) (21, [.ref (mj_NE + 33), .int (iI (i : Int)), .int (iI (chD 12 12 H i d).2.1), .int (iI (chD 12 12 H i d).1), .int (iI (d : Int) + 1), .int (iI (j : Int)), .int ((f (iI (i : Int)).toNatClampNeg - f (iI (j : Int)).toNatClampNeg) * iI 7)], [], Wd xs L A V (mY t b ld f Z), 0, 0) := r_to ok_ML_goes 21 [true, true, false] rfl ⟨ge0, hini, hinj, n2, cd, by
              show ¬ (iI (chD 12 12 H i d).1 < (f (iI (i : Int)).toNatClampNeg - f (iI (j : Int)).toNatClampNeg) * iI 7)
              rw [vi, vj, iI_sub, iI_mul, iI_lt ⟨by omega, by omega⟩ ⟨by omega, by omega⟩]
              exact hfl, trivial⟩
            rw [vi, vj, iI_sub, iI_mul, iI_1] at s3
            rw [e]
            exact ⟨_, _, r_tr s2 s3⟩
        · have cd : ¬ (¬ (iI (d : Int) - iI (d : Int) / iI 2 * iI 2 = 0)) := by rw [md, show (d : Int) % 2 = 0 by omega]; exact fun q => q rfl
          have bf : -10000 ≤ (H i - H j) * 10 ∧ (H i - H j) * 10 ≤ 10000 := by omega
          by_cases hfl : (chD 12 12 H i d).1 < (H i - H j) * 10
          · have e : chD 12 12 H i (d + 1) = ((H i - H j) * 10, (d : Int), (j : Int)) := by rw [chD, if_neg hneg, hj2, if_neg ho, if_pos hfl, ← hj]
            have s3 : mj_Rc m_ML_goes 0 0 1 (35, [.ref (mj_NE + 33), .int (iI (i : Int)), .int (iI (chD 12 12 H i d).2.1), .int (iI (chD 12 12 H i d).1), .int (iI (d : Int)), u5, u6], [.int (iI (j : Int))], Wd xs L A V (mY t b ld f Z), 0, 0) (21, [.ref (mj_NE + 33), .int (iI (i : Int)), .int (iI (d : Int)), .int ((f (iI (i : Int)).toNatClampNeg - f (iI (j : Int)).toNatClampNeg) * iI 10), .int (iI (d : Int) + 1), .int (iI (j : Int)), .int ((f (iI (i : Int)).toNatClampNeg - f (iI (j : Int)).toNatClampNeg) * iI 10)], [], Wd xs L A V (mY t b ld f Z), 0, 0) := r_to ok_ML_goes 21 [true, false, true] rfl ⟨ge0, hini, hinj, n2, cd, by
              show iI (chD 12 12 H i d).1 < (f (iI (i : Int)).toNatClampNeg - f (iI (j : Int)).toNatClampNeg) * iI 10
              rw [vi, vj, iI_sub, iI_mul, iI_lt ⟨by omega, by omega⟩ ⟨by omega, by omega⟩]
              exact hfl, trivial⟩
            rw [vi, vj, iI_sub, iI_mul, iI_1] at s3
            rw [e]
            exact ⟨_, _, r_tr s2 s3⟩
          · have e : chD 12 12 H i (d + 1) = chD 12 12 H i d := by rw [chD, if_neg hneg, hj2, if_neg ho, if_neg hfl]
            have s3 : mj_Rc m_ML_goes 0 0 1 (35, [.ref (mj_NE + 33), .int (iI (i : Int)), .int (iI (chD 12 12 H i d).2.1), .int (iI (chD 12 12 H i d).1), .int (iI (d : Int)), u5, u6], [.int (iI (j : Int))], Wd xs L A V (mY t b ld f Z), 0, 0) (21, [.ref (mj_NE + 33), .int (iI (i : Int)), .int (iI (chD 12 12 H i d).2.1), .int (iI (chD 12 12 H i d).1), .int (iI (d : Int) + 1), .int (iI (j : Int)), .int ((f (iI (i : Int)).toNatClampNeg - f (iI (j : Int)).toNatClampNeg) * iI 10)], [], Wd xs L A V (mY t b ld f Z), 0, 0) := r_to ok_ML_goes 21 [true, false, false] rfl ⟨ge0, hini, hinj, n2, cd, by
              show ¬ (iI (chD 12 12 H i d).1 < (f (iI (i : Int)).toNatClampNeg - f (iI (j : Int)).toNatClampNeg) * iI 10)
              rw [vi, vj, iI_sub, iI_mul, iI_lt ⟨by omega, by omega⟩ ⟨by omega, by omega⟩]
              exact hfl, trivial⟩
            rw [vi, vj, iI_sub, iI_mul, iI_1] at s3
            rw [e]
            exact ⟨_, _, r_tr s2 s3⟩
  obtain ⟨u5, u6, hr⟩ := lp 8 (Nat.le_refl _)
  exact ct_of ok_ML_goes rfl (r_tr hr (r_to ok_ML_goes 9999 [true] rfl ⟨by show iI 8 ≤ iI 8; exact Int32.le_refl _, trivial⟩)) rfl rfl rfl rfl rfl
end REF4
