/-! THE REFERENCE: greatest, least, sum -/
section REF7
variable {xs : Nat → Int32} {L : Nat} {A : Nat → Nat → Int32} {V : Nat → Int32} {t b : Int32} {ld : Nat} {f : Nat → Int32} {Z : mj_H} {H : Nat → Int}
theorem c_ML_greatest (hf : Hts f 144 H) : mj_Ct m_ML_greatest [.ref (mj_NE + 33)] (Wd xs L A V (mY t b ld f Z)) (some (.int (iI (mxH H 144)))) (Wd xs L A V (mY t b ld f Z)) 0 0 1 := by
  have hb := mxH_bd (H := H) (N := 144) (fun j hj => (hf j hj).2)
  have r0 := r_to (RC := 0) (RS := 0) (dd := 1) (g := (0, [.ref (mj_NE + 33), mj_u, mj_u, mj_u, mj_u, mj_u], [], Wd xs L A V (mY t b ld f Z), 0, 0)) (g' := (13, [.ref (mj_NE + 33), .int (iI (mxH H 0)), .ref (mj_NE + 34), .int (iI 144), .int (iI 0), mj_u], [], Wd xs L A V (mY t b ld f Z), 0, 0)) ok_ML_greatest 13 [] rfl trivial
  have lp : ∀ n : Nat, n ≤ 144 → ∃ u : Value, mj_Rc m_ML_greatest 0 0 1 (0, [.ref (mj_NE + 33), mj_u, mj_u, mj_u, mj_u, mj_u], [], Wd xs L A V (mY t b ld f Z), 0, 0) (13, [.ref (mj_NE + 33), .int (iI (mxH H n)), .ref (mj_NE + 34), .int (iI 144), .int (iI (n : Int)), u], [], Wd xs L A V (mY t b ld f Z), 0, 0) := by
    intro n
    induction n with
    | zero => intro _; exact ⟨_, r0⟩
    | succ n ih =>
      intro hn
      obtain ⟨u, hr⟩ := ih (by omega)
      have bb := hb n (by omega)
      obtain ⟨e0, b1, b2⟩ := hf n (by omega)
      have hc : (iI (n : Int)).toNatClampNeg = n := cl_nat (by omega)
      have cnd : ¬ (iI 144 ≤ iI (n : Int)) := by rw [iI_le ⟨by omega, by omega⟩ ⟨by omega, by omega⟩]; omega
      have s1 : mj_Rc m_ML_greatest 0 0 1 (13, [.ref (mj_NE + 33), .int (iI (mxH H n)), .ref (mj_NE + 34), .int (iI 144), .int (iI (n : Int)), u], [], Wd xs L A V (mY t b ld f Z), 0, 0) (28, [.ref (mj_NE + 33), .int (iI (mxH H n)), .ref (mj_NE + 34), .int (iI 144), .int (iI (n : Int)), .int (f (iI (n : Int)).toNatClampNeg)], [.int (f (iI (n : Int)).toNatClampNeg), .int (iI (mxH H n))], Wd xs L A V (mY t b ld f Z), 0, 0) := r_to ok_ML_greatest 9999 [false] rfl ⟨cnd, in_nat (by omega) (by omega), trivial⟩
      rw [hc, e0] at s1
      have s2 := r_tr (r_tr hr s1) (q_S ok_ML_greatest ok_Math_max st_Math_max (c_max (a := mxH H n) (b := H n) ⟨by omega, by omega⟩ ⟨by omega, by omega⟩) rfl rfl rfl rfl ⟨rfl, rfl, rfl⟩)
      have s3 := r_tr s2 (r_to (g' := (13, [.ref (mj_NE + 33), .int (iI (max (mxH H n) (H n))), .ref (mj_NE + 34), .int (iI 144), .int (iI (n : Int) + 1), .int (iI (H n))], [], Wd xs L A V (mY t b ld f Z), 0, 0)) ok_ML_greatest 13 [] rfl trivial)
      rw [iI_1] at s3
      exact ⟨_, s3⟩
  obtain ⟨u, hr⟩ := lp 144 (Nat.le_refl _)
  exact ct_of ok_ML_greatest rfl (r_tr hr (r_to ok_ML_greatest 9999 [true] rfl ⟨by show iI 144 ≤ iI ((144 : Nat) : Int); rw [iI_le ⟨by omega, by omega⟩ ⟨by omega, by omega⟩]; omega, trivial⟩)) rfl rfl rfl rfl rfl
theorem c_ML_least (hf : Hts f 144 H) : mj_Ct m_ML_least [.ref (mj_NE + 33)] (Wd xs L A V (mY t b ld f Z)) (some (.int (iI (mnH H 144)))) (Wd xs L A V (mY t b ld f Z)) 0 0 1 := by
  have hb := mnH_bd (H := H) (N := 144) (fun j hj => (hf j hj).2)
  have r0 := r_to (RC := 0) (RS := 0) (dd := 1) (g := (0, [.ref (mj_NE + 33), mj_u, mj_u, mj_u, mj_u, mj_u], [], Wd xs L A V (mY t b ld f Z), 0, 0)) (g' := (15, [.ref (mj_NE + 33), .int (iI (mnH H 0)), .ref (mj_NE + 34), .int (iI 144), .int (iI 0), mj_u], [], Wd xs L A V (mY t b ld f Z), 0, 0)) ok_ML_least 15 [] rfl trivial
  have lp : ∀ n : Nat, n ≤ 144 → ∃ u : Value, mj_Rc m_ML_least 0 0 1 (0, [.ref (mj_NE + 33), mj_u, mj_u, mj_u, mj_u, mj_u], [], Wd xs L A V (mY t b ld f Z), 0, 0) (15, [.ref (mj_NE + 33), .int (iI (mnH H n)), .ref (mj_NE + 34), .int (iI 144), .int (iI (n : Int)), u], [], Wd xs L A V (mY t b ld f Z), 0, 0) := by
    intro n
    induction n with
    | zero => intro _; exact ⟨_, r0⟩
    | succ n ih =>
      intro hn
      obtain ⟨u, hr⟩ := ih (by omega)
      have bb := hb n (by omega)
      obtain ⟨e0, b1, b2⟩ := hf n (by omega)
      have hc : (iI (n : Int)).toNatClampNeg = n := cl_nat (by omega)
      have cnd : ¬ (iI 144 ≤ iI (n : Int)) := by rw [iI_le ⟨by omega, by omega⟩ ⟨by omega, by omega⟩]; omega
      have s1 : mj_Rc m_ML_least 0 0 1 (15, [.ref (mj_NE + 33), .int (iI (mnH H n)), .ref (mj_NE + 34), .int (iI 144), .int (iI (n : Int)), u], [], Wd xs L A V (mY t b ld f Z), 0, 0) (30, [.ref (mj_NE + 33), .int (iI (mnH H n)), .ref (mj_NE + 34), .int (iI 144), .int (iI (n : Int)), .int (f (iI (n : Int)).toNatClampNeg)], [.int (f (iI (n : Int)).toNatClampNeg), .int (iI (mnH H n))], Wd xs L A V (mY t b ld f Z), 0, 0) := r_to ok_ML_least 9999 [false] rfl ⟨cnd, in_nat (by omega) (by omega), trivial⟩
      rw [hc, e0] at s1
      have s2 := r_tr (r_tr hr s1) (q_S ok_ML_least ok_Math_min st_Math_min (c_min (a := mnH H n) (b := H n) ⟨by omega, by omega⟩ ⟨by omega, by omega⟩) rfl rfl rfl rfl ⟨rfl, rfl, rfl⟩)
      have s3 := r_tr s2 (r_to (g' := (15, [.ref (mj_NE + 33), .int (iI (min (mnH H n) (H n))), .ref (mj_NE + 34), .int (iI 144), .int (iI (n : Int) + 1), .int (iI (H n))], [], Wd xs L A V (mY t b ld f Z), 0, 0)) ok_ML_least 15 [] rfl trivial)
      rw [iI_1] at s3
      exact ⟨_, s3⟩
  obtain ⟨u, hr⟩ := lp 144 (Nat.le_refl _)
  exact ct_of ok_ML_least rfl (r_tr hr (r_to ok_ML_least 9999 [true] rfl ⟨by show iI 144 ≤ iI ((144 : Nat) : Int); rw [iI_le ⟨by omega, by omega⟩ ⟨by omega, by omega⟩]; omega, trivial⟩)) rfl rfl rfl rfl rfl
theorem c_ML_sum (hf : Hts f 144 H) : mj_Ct m_ML_sum [.ref (mj_NE + 33)] (Wd xs L A V (mY t b ld f Z)) (some (.int (iI (smH H 144)))) (Wd xs L A V (mY t b ld f Z)) 0 0 1 := by
  have hb := smH_bd (H := H) (N := 144) (fun j hj => (hf j hj).2)
  have r0 := r_to (RC := 0) (RS := 0) (dd := 1) (g := (0, [.ref (mj_NE + 33), mj_u, mj_u, mj_u, mj_u, mj_u], [], Wd xs L A V (mY t b ld f Z), 0, 0)) (g' := (13, [.ref (mj_NE + 33), .int (iI (smH H 0)), .ref (mj_NE + 34), .int (iI 144), .int (iI 0), mj_u], [], Wd xs L A V (mY t b ld f Z), 0, 0)) ok_ML_sum 13 [] rfl trivial
  have lp : ∀ n : Nat, n ≤ 144 → ∃ u : Value, mj_Rc m_ML_sum 0 0 1 (0, [.ref (mj_NE + 33), mj_u, mj_u, mj_u, mj_u, mj_u], [], Wd xs L A V (mY t b ld f Z), 0, 0) (13, [.ref (mj_NE + 33), .int (iI (smH H n)), .ref (mj_NE + 34), .int (iI 144), .int (iI (n : Int)), u], [], Wd xs L A V (mY t b ld f Z), 0, 0) := by
    intro n
    induction n with
    | zero => intro _; exact ⟨_, r0⟩
    | succ n ih =>
      intro hn
      obtain ⟨u, hr⟩ := ih (by omega)
      have bb := hb n (by omega)
      obtain ⟨e0, b1, b2⟩ := hf n (by omega)
      have hc : (iI (n : Int)).toNatClampNeg = n := cl_nat (by omega)
      have cnd : ¬ (iI 144 ≤ iI (n : Int)) := by rw [iI_le ⟨by omega, by omega⟩ ⟨by omega, by omega⟩]; omega
      have s1 : mj_Rc m_ML_sum 0 0 1 (13, [.ref (mj_NE + 33), .int (iI (smH H n)), .ref (mj_NE + 34), .int (iI 144), .int (iI (n : Int)), u], [], Wd xs L A V (mY t b ld f Z), 0, 0) (13, [.ref (mj_NE + 33), .int (iI (smH H n) + f (iI (n : Int)).toNatClampNeg), .ref (mj_NE + 34), .int (iI 144), .int (iI (n : Int) + 1), .int (f (iI (n : Int)).toNatClampNeg)], [], Wd xs L A V (mY t b ld f Z), 0, 0) := r_to ok_ML_sum 13 [false] rfl ⟨cnd, in_nat (by omega) (by omega), trivial⟩
      rw [hc, e0, iI_add, iI_1] at s1
      exact ⟨_, r_tr hr s1⟩
  obtain ⟨u, hr⟩ := lp 144 (Nat.le_refl _)
  exact ct_of ok_ML_sum rfl (r_tr hr (r_to ok_ML_sum 9999 [true] rfl ⟨by show iI 144 ≤ iI ((144 : Nat) : Int); rw [iI_le ⟨by omega, by omega⟩ ⟨by omega, by omega⟩]; omega, trivial⟩)) rfl rfl rfl rfl rfl
end REF7
