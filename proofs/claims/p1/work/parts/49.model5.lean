/-! THE REFERENCE: basins, pits, setBrook, height -/
section REF5
variable {xs : Nat → Int32} {L : Nat} {A : Nat → Nat → Int32} {V : Nat → Int32} {t b : Int32} {f : Nat → Int32} {Z : mj_H} {H : Nat → Int}
theorem c_many {k : Int} (hf : Hts f 144 H) (hk : 0 ≤ k ∧ k ≤ 9) : mj_Ct m_M_many [.ref (mj_NE + 32), .int (iI k)] (Wd xs L A V (mY t b (mj_NE + 33) f Z)) (some (.int (iI (cnt (fun j => decide (k ≤ drF 12 12 H j)) 144)))) (Wd xs L A V (mY t b (mj_NE + 33) f Z)) 0 0 2 := by
  have hH2 : ∀ j, j < 144 → 0 ≤ H j ∧ H j ≤ 999 := fun j hj => (hf j hj).2
  have r0 := r_to (RC := 0) (RS := 0) (dd := 2) (g := (0, [.ref (mj_NE + 32), .int (iI k), mj_u, mj_u], [], Wd xs L A V (mY t b (mj_NE + 33) f Z), 0, 0)) (g' := (4, [.ref (mj_NE + 32), .int (iI k), .int (iI (cnt (fun j => decide (k ≤ drF 12 12 H j)) 0)), .int (iI 0)], [], Wd xs L A V (mY t b (mj_NE + 33) f Z), 0, 0)) ok_M_many 4 [] rfl trivial
  have hsz : ∀ n : Nat, n ≤ 144 → mj_Rc m_M_many 0 0 2 (4, [.ref (mj_NE + 32), .int (iI k), .int (iI (cnt (fun j => decide (k ≤ drF 12 12 H j)) n)), .int (iI (n : Int))], [], Wd xs L A V (mY t b (mj_NE + 33) f Z), 0, 0) (12, [.ref (mj_NE + 32), .int (iI k), .int (iI (cnt (fun j => decide (k ≤ drF 12 12 H j)) n)), .int (iI (n : Int))], [.int (iI 144), .int (iI (n : Int))], Wd xs L A V (mY t b (mj_NE + 33) f Z), 0, 0) := fun n hn => by
    have s1 := r_to (RC := 0) (RS := 0) (dd := 2) (g := (4, [.ref (mj_NE + 32), .int (iI k), .int (iI (cnt (fun j => decide (k ≤ drF 12 12 H j)) n)), .int (iI (n : Int))], [], Wd xs L A V (mY t b (mj_NE + 33) f Z), 0, 0)) (g' := (9, [.ref (mj_NE + 32), .int (iI k), .int (iI (cnt (fun j => decide (k ≤ drF 12 12 H j)) n)), .int (iI (n : Int))], [.ref (mj_NE + 33), .int (iI (n : Int))], Wd xs L A V (mY t b (mj_NE + 33) f Z), 0, 0)) ok_M_many 9999 [] rfl trivial
    exact r_tr s1 (q_V ok_M_many ok_ML_size se_ML_size (c_MLsize) rfl rfl rfl rfl rfl ⟨rfl, rfl, rfl⟩)
  have lp : ∀ n : Nat, n ≤ 144 → mj_Rc m_M_many 0 0 2 (0, [.ref (mj_NE + 32), .int (iI k), mj_u, mj_u], [], Wd xs L A V (mY t b (mj_NE + 33) f Z), 0, 0) (4, [.ref (mj_NE + 32), .int (iI k), .int (iI (cnt (fun j => decide (k ≤ drF 12 12 H j)) n)), .int (iI (n : Int))], [], Wd xs L A V (mY t b (mj_NE + 33) f Z), 0, 0) := by
    intro n
    induction n with
    | zero => intro _; exact r0
    | succ n ih =>
      intro hn
      have bd := chD_bd (w := 12) (h := 12) (N := 144) (i := n) ⟨by omega, by omega⟩ ⟨by omega, by omega⟩ rfl hH2 (by omega) 8 (Nat.le_refl _)
      have s2 := r_tr (r_tr (ih (by omega)) (hsz n (by omega))) (r_to (g' := (21, [.ref (mj_NE + 32), .int (iI k), .int (iI (cnt (fun j => decide (k ≤ drF 12 12 H j)) n)), .int (iI (n : Int))], [.int (iI (n : Int)), .ref (mj_NE + 33), .int (iI (cnt (fun j => decide (k ≤ drF 12 12 H j)) n))], Wd xs L A V (mY t b (mj_NE + 33) f Z), 0, 0)) ok_M_many 9999 [false] rfl ⟨by
        show ¬ (iI 144 ≤ iI (n : Int))
        rw [iI_le ⟨by omega, by omega⟩ ⟨by omega, by omega⟩]
        omega, trivial⟩)
      have s3 := r_tr s2 (q_V ok_M_many ok_ML_goes se_ML_goes (c_MLgoes hf (by omega)) rfl rfl rfl rfl rfl ⟨rfl, rfl, rfl⟩)
      have cs : cnt (fun j => decide (k ≤ drF 12 12 H j)) (n + 1) = cnt (fun j => decide (k ≤ drF 12 12 H j)) n + (if decide (k ≤ drF 12 12 H n) = true then 1 else 0) := rfl
      by_cases hd : drF 12 12 H n < k
      · have s4 := r_tr s3 (r_to (g' := (4, [.ref (mj_NE + 32), .int (iI k), .int (iI (cnt (fun j => decide (k ≤ drF 12 12 H j)) n) + iI 0), .int (iI (n : Int) + 1)], [], Wd xs L A V (mY t b (mj_NE + 33) f Z), 0, 0)) ok_M_many 4 [true] rfl ⟨by
          show iI (drF 12 12 H n) < iI k
          rw [iI_lt ⟨by unfold drF; omega, by unfold drF; omega⟩ ⟨by omega, by omega⟩]
          exact hd, trivial⟩)
        rw [iI_1, iI_add, show cnt (fun j => decide (k ≤ drF 12 12 H j)) n + 0 = cnt (fun j => decide (k ≤ drF 12 12 H j)) (n + 1) by rw [cs, if_neg (by simp; omega)]] at s4
        exact s4
      · have s4 := r_tr s3 (r_to (g' := (4, [.ref (mj_NE + 32), .int (iI k), .int (iI (cnt (fun j => decide (k ≤ drF 12 12 H j)) n) + iI 1), .int (iI (n : Int) + 1)], [], Wd xs L A V (mY t b (mj_NE + 33) f Z), 0, 0)) ok_M_many 4 [false] rfl ⟨by
          show ¬ (iI (drF 12 12 H n) < iI k)
          rw [iI_lt ⟨by unfold drF; omega, by unfold drF; omega⟩ ⟨by omega, by omega⟩]
          exact hd, trivial⟩)
        rw [iI_1, iI_add, show cnt (fun j => decide (k ≤ drF 12 12 H j)) n + 1 = cnt (fun j => decide (k ≤ drF 12 12 H j)) (n + 1) by rw [cs, if_pos (by simp; omega)]] at s4
        exact s4
  exact ct_of ok_M_many rfl (r_tr (r_tr (lp 144 (Nat.le_refl _)) (hsz 144 (Nat.le_refl _))) (r_to ok_M_many 9999 [true] rfl ⟨by show iI 144 ≤ iI ((144 : Nat) : Int); rw [iI_le ⟨by omega, by omega⟩ ⟨by omega, by omega⟩]; omega, trivial⟩)) rfl rfl rfl rfl rfl
theorem m_basinsA (hf : Hts f 144 H) : mj_Ct m_M_basins [.ref (mj_NE + 32)] (Wd xs L A V (mY t b (mj_NE + 33) f Z)) (some (.int (iI (cnt (fun j => decide (8 ≤ drF 12 12 H j)) 144)))) (Wd xs L A V (mY (iI 0) b (mj_NE + 33) f Z)) 0 0 3 := by
  have s1 := r_to (RC := 0) (RS := 0) (dd := 3) (g := (0, [.ref (mj_NE + 32)], [], Wd xs L A V (mY t b (mj_NE + 33) f Z), 0, 0)) (g' := (4, [.ref (mj_NE + 32)], [.int (iI 8), .ref (mj_NE + 32), .ref (mj_NE + 32)], Wd xs L A V (mY t b (mj_NE + 33) f Z), 0, 0)) ok_M_basins 9999 [] rfl trivial
  have s2 := r_tr s1 (q_V ok_M_basins ok_M_many se_M_many (c_many (H := H) hf ⟨by omega, by omega⟩) rfl rfl rfl rfl rfl ⟨rfl, rfl, rfl⟩)
  have s3 := r_tr s2 (q_V ok_M_basins ok_M_plain se_M_plain (c_plain) rfl rfl rfl rfl rfl ⟨rfl, rfl, rfl⟩)
  exact ct_of ok_M_basins rfl s3 rfl rfl rfl rfl rfl
theorem m_pitsA (hf : Hts f 144 H) : mj_Ct m_M_pits [.ref (mj_NE + 32)] (Wd xs L A V (mY t b (mj_NE + 33) f Z)) (some (.int (iI (cnt (fun j => decide (9 ≤ drF 12 12 H j)) 144)))) (Wd xs L A V (mY (iI 0) b (mj_NE + 33) f Z)) 0 0 3 := by
  have s1 := r_to (RC := 0) (RS := 0) (dd := 3) (g := (0, [.ref (mj_NE + 32)], [], Wd xs L A V (mY t b (mj_NE + 33) f Z), 0, 0)) (g' := (4, [.ref (mj_NE + 32)], [.int (iI 9), .ref (mj_NE + 32), .ref (mj_NE + 32)], Wd xs L A V (mY t b (mj_NE + 33) f Z), 0, 0)) ok_M_pits 9999 [] rfl trivial
  have s2 := r_tr s1 (q_V ok_M_pits ok_M_many se_M_many (c_many (H := H) hf ⟨by omega, by omega⟩) rfl rfl rfl rfl rfl ⟨rfl, rfl, rfl⟩)
  have s3 := r_tr s2 (q_V ok_M_pits ok_M_plain se_M_plain (c_plain) rfl rfl rfl rfl rfl ⟨rfl, rfl, rfl⟩)
  exact ct_of ok_M_pits rfl s3 rfl rfl rfl rfl rfl
theorem m_heightR {x y : Int} (rx : -2147483648 ≤ x ∧ x ≤ 2147483647) (ry : -2147483648 ≤ y ∧ y ≤ 2147483647) (hno : noB x y = true) : mj_Ct m_M_height [.ref (mj_NE + 32), .int (iI x), .int (iI y)] (Wd xs L A V (mY t b (mj_NE + 33) f Z)) (some (.int 0)) (Wd xs L A V (mY (iI 1) b (mj_NE + 33) f Z)) 0 0 3 := by
  have s1 := r_to (RC := 0) (RS := 0) (dd := 3) (g := (0, [.ref (mj_NE + 32), .int (iI x), .int (iI y)], [], Wd xs L A V (mY t b (mj_NE + 33) f Z), 0, 0)) (g' := (3, [.ref (mj_NE + 32), .int (iI x), .int (iI y)], [.int (iI y), .int (iI x), .ref (mj_NE + 32)], Wd xs L A V (mY t b (mj_NE + 33) f Z), 0, 0)) ok_M_height 9999 [] rfl trivial
  have s2 := r_tr s1 (q_V ok_M_height ok_M_isNoField se_M_isNoField (c_isNoField rx ry) rfl rfl rfl rfl rfl ⟨rfl, rfl, rfl⟩)
  rw [hno] at s2
  have s3 := r_tr s2 (r_to (g' := (27, [.ref (mj_NE + 32), .int (iI x), .int (iI y)], [.int 0], Wd xs L A V (mY (if true = true then iI 1 else iI 0) b (mj_NE + 33) f Z), 0, 0)) ok_M_height 9999 [false] rfl ⟨by show ¬ ((1 : Int32) = 0); decide, trivial⟩)
  exact ct_of ok_M_height rfl s3 rfl rfl rfl rfl rfl
theorem m_heightA {x y : Int} (rx : -2147483648 ≤ x ∧ x ≤ 2147483647) (ry : -2147483648 ≤ y ∧ y ≤ 2147483647) (hf : Hts f 144 H) (hno : noB x y = false) : mj_Ct m_M_height [.ref (mj_NE + 32), .int (iI x), .int (iI y)] (Wd xs L A V (mY t b (mj_NE + 33) f Z)) (some (.int (iI (H (y * 12 + x).toNat)))) (Wd xs L A V (mY (iI 0) b (mj_NE + 33) f Z)) 0 0 3 := by
  have hb : (0 ≤ x ∧ x < 12) ∧ 0 ≤ y ∧ y < 12 := by unfold noB at hno; simp at hno; omega
  obtain ⟨j, hj⟩ : ∃ j : Nat, (j : Int) = y * 12 + x := ⟨(y * 12 + x).toNat, by omega⟩
  have hj2 : (y * 12 + x).toNat = j := by omega
  rw [hj2]
  have s1 := r_to (RC := 0) (RS := 0) (dd := 3) (g := (0, [.ref (mj_NE + 32), .int (iI x), .int (iI y)], [], Wd xs L A V (mY t b (mj_NE + 33) f Z), 0, 0)) (g' := (3, [.ref (mj_NE + 32), .int (iI x), .int (iI y)], [.int (iI y), .int (iI x), .ref (mj_NE + 32)], Wd xs L A V (mY t b (mj_NE + 33) f Z), 0, 0)) ok_M_height 9999 [] rfl trivial
  have s2 := r_tr s1 (q_V ok_M_height ok_M_isNoField se_M_isNoField (c_isNoField rx ry) rfl rfl rfl rfl rfl ⟨rfl, rfl, rfl⟩)
  rw [hno] at s2
  have s3 := r_tr s2 (r_to (g' := (23, [.ref (mj_NE + 32), .int (iI x), .int (iI y)], [.int (iI y), .int (iI x), .ref (mj_NE + 32), .ref (mj_NE + 34)], Wd xs L A V (mY (if false = true then iI 1 else iI 0) b (mj_NE + 33) f Z), 0, 0)) ok_M_height 9999 [true] rfl ⟨by show ((0 : Int32) = 0); rfl, trivial⟩)
  have s4 := r_tr s3 (q_V ok_M_height ok_M_number se_M_number (c_number) rfl rfl rfl rfl rfl ⟨rfl, rfl, rfl⟩)
  rw [← hj] at s4
  have s5 := r_tr s4 (r_to (g' := (27, [.ref (mj_NE + 32), .int (iI x), .int (iI y)], [.int (f (iI (j : Int)).toNatClampNeg)], Wd xs L A V (mY (if false = true then iI 1 else iI 0) b (mj_NE + 33) f Z), 0, 0)) ok_M_height 9999 [] rfl ⟨in_nat (n := j) (by omega) (by omega), trivial⟩)
  rw [cl_nat (n := j) (by omega), (hf j (by omega)).1] at s5
  exact ct_of ok_M_height rfl s5 rfl rfl rfl rfl rfl
end REF5
