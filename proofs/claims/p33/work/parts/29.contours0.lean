/-! Contours where nothing is high -/
section CONT
variable {xs : Nat → Int32} {L : Nat} {A : Nat → Nat → Int32} {V : Nat → Int32} {Y : mj_H}
variable {w h : Int} {n : Nat} {H : Nat → Int}
theorem c_addPiece0 : mj_Ct m_Contours_addPiece [.ref (mj_NE + 22), .int (iI (-1)), .int (iI (-1))] (Wd xs L A V Y) none (Wd xs L A V Y) 0 0 0 :=
  ct_of ok_Contours_addPiece rfl (r_to ok_Contours_addPiece 9999 [true] rfl ⟨by show iI (-1) < iI 0; rw [iI_lt ⟨by omega, by omega⟩ ⟨by omega, by omega⟩]; omega, trivial⟩) rfl rfl rfl rfl rfl
theorem c_drawSquare0 {i b : Nat} {c : Int} (hi : i < 255) (hb : b < 255) (h1 : A 0 i ≤ iI c) (h2 : A 0 (i + 1) ≤ iI c) (h3 : A 0 b ≤ iI c) (h4 : A 0 (b + 1) ≤ iI c) : mj_Ct m_Contours_drawSquare [.ref (mj_NE + 22), .int (iI i), .int (iI b), .int (iI c)] (Wd xs L A V Y) none (Wd xs L A V Y) 0 0 1 := by
  have c1 : (iI i).toNatClampNeg = i := cl_nat (by omega)
  have c2 : (iI b).toNatClampNeg = b := cl_nat (by omega)
  have d1 : iI i + 1 = iI ((i + 1 : Nat) : Int) := iI_1 i
  have d2 : iI b + 1 = iI ((b + 1 : Nat) : Int) := iI_1 b
  have c3 : (iI i + 1).toNatClampNeg = i + 1 := by rw [d1]; exact cl_nat (by omega)
  have c4 : (iI b + 1).toNatClampNeg = b + 1 := by rw [d2]; exact cl_nat (by omega)
  have m1 : (-1 : Int32) < 0 := by decide
  have s0 : mj_Rc m_Contours_drawSquare 0 0 1 (0, [.ref (mj_NE + 22), .int (iI i), .int (iI b), .int (iI c), mj_u, mj_u, mj_u, mj_u, mj_u, mj_u, mj_u, mj_u, mj_u, mj_u], [], Wd xs L A V Y, 0, 0) (42, [.ref (mj_NE + 22), .int (iI i), .int (iI b), .int (iI c), .int 0, .int 0, mj_u, mj_u, mj_u, mj_u, mj_u, mj_u, mj_u, mj_u], [], Wd xs L A V Y, 0, 0) := r_to ok_Contours_drawSquare 42 [true, true] rfl ⟨in_nat (by omega) (by omega), by
    show A 0 (iI i).toNatClampNeg ≤ iI c
    rw [c1]; exact h1, by
    show vp_in (iI i + 1) 256
    rw [d1]; exact in_nat (by omega) (by omega), by
    show A 0 (iI i + 1).toNatClampNeg ≤ iI c
    rw [c3]; exact h2, trivial⟩
  have s01 : mj_Rc m_Contours_drawSquare 0 0 1 (42, [.ref (mj_NE + 22), .int (iI i), .int (iI b), .int (iI c), .int 0, .int 0, mj_u, mj_u, mj_u, mj_u, mj_u, mj_u, mj_u, mj_u], [], Wd xs L A V Y, 0, 0) (84, [.ref (mj_NE + 22), .int (iI i), .int (iI b), .int (iI c), .int 0, .int 0, .int 0, .int 0, mj_u, mj_u, mj_u, mj_u, mj_u, mj_u], [], Wd xs L A V Y, 0, 0) := r_to ok_Contours_drawSquare 84 [true, true] rfl ⟨in_nat (by omega) (by omega), by
    show A 0 (iI b).toNatClampNeg ≤ iI c
    rw [c2]; exact h3, by
    show vp_in (iI b + 1) 256
    rw [d2]; exact in_nat (by omega) (by omega), by
    show A 0 (iI b + 1).toNatClampNeg ≤ iI c
    rw [c4]; exact h4, trivial⟩
  have s02 : mj_Rc m_Contours_drawSquare 0 0 1 (84, [.ref (mj_NE + 22), .int (iI i), .int (iI b), .int (iI c), .int 0, .int 0, .int 0, .int 0, mj_u, mj_u, mj_u, mj_u, mj_u, mj_u], [], Wd xs L A V Y, 0, 0) (154, [.ref (mj_NE + 22), .int (iI i), .int (iI b), .int (iI c), .int 0, .int 0, .int 0, .int 0, .int (-1), .int (-1), .int (-1), .int (-1), mj_u, mj_u], [], Wd xs L A V Y, 0, 0) := r_to ok_Contours_drawSquare 154 [true, true, true, true] rfl ⟨rfl, rfl, rfl, rfl, trivial⟩
  have s03 : mj_Rc m_Contours_drawSquare 0 0 1 (154, [.ref (mj_NE + 22), .int (iI i), .int (iI b), .int (iI c), .int 0, .int 0, .int 0, .int 0, .int (-1), .int (-1), .int (-1), .int (-1), mj_u, mj_u], [], Wd xs L A V Y, 0, 0) (290, [.ref (mj_NE + 22), .int (iI i), .int (iI b), .int (iI c), .int 0, .int 0, .int 0, .int 0, .int (-1), .int (-1), .int (-1), .int (-1), .int (-1), .int (-1)], [.int (-1), .int (-1), .ref (mj_NE + 22)], Wd xs L A V Y, 0, 0) := r_to ok_Contours_drawSquare 9999 [false, false, true, true, true, true, true] rfl ⟨fun q => q rfl, fun q => q rfl, rfl, m1, m1, m1, m1, trivial⟩
  have s1 := r_tr s0 (r_tr s01 (r_tr s02 s03))
  rw [iI_neg1] at s1
  have s2 := r_tr s1 (q_V ok_Contours_drawSquare ok_Contours_addPiece se_Contours_addPiece (c_addPiece0) rfl rfl rfl rfl rfl ⟨rfl, rfl, rfl⟩)
  exact ct_of ok_Contours_drawSquare rfl s2 rfl rfl rfl rfl rfl
theorem c_draw0 {c : Int} (h0 : V 0 = iI w) (h1 : V 1 = iI h) (hw : 2 ≤ w ∧ w ≤ 16) (hh : 2 ≤ h ∧ h ≤ 16) (hnw : (n : Int) = w * h) (hH : Hts (A 0) n H) (hc : 0 ≤ c ∧ c ≤ 999) (hle : ∀ j, j < n → H j ≤ c) : ∃ (A1 : Nat → Nat → Int32) (V1 : Nat → Int32), (∀ k, k ≠ 16 → k ≠ 17 → A1 k = A k) ∧ (∀ k, k ≠ 6 → k ≠ 7 → k ≠ 8 → V1 k = V k) ∧ V1 6 = iI 0 ∧ V1 7 = iI 0 ∧ V1 8 = iI 0 ∧ mj_Ct m_Contours_draw [.ref (mj_NE + 22), .int (iI c)] (Wd xs L A V Y) none (Wd xs L A1 V1 Y) 0 0 2 := by
  have wh := wh_bd hw hh
  refine ⟨wA (wA A 17 (pw (fun j => iI j) (A 17) 512)) 16 (fl (A 16) (iI (-1)) 512), wV (wV (wV V 6 (iI 0)) 7 (iI 0)) 8 (iI 0), fun k k1 k2 => by rw [wA_n k1, wA_n k2], fun k k1 k2 k3 => by rw [wV_n k3, wV_n k2, wV_n k1], by rw [wV_n (by omega), wV_n (by omega), wV_s], by rw [wV_n (by omega), wV_s], wV_s, ?_⟩
  have r0 := r_tr (r_to (RC := 0) (RS := 0) (dd := 2) (g := (0, [.ref (mj_NE + 22), .int (iI c), mj_u, mj_u], [], Wd xs L A V Y, 0, 0)) (g' := (4, [.ref (mj_NE + 22), .int (iI c), mj_u, mj_u], [.ref (mj_NE + 24)], Wd xs L A V Y, 0, 0)) ok_Contours_draw 9999 [] rfl trivial) (q_V ok_Contours_draw ok_Groups_part se_Groups_part (c_partC) rfl rfl rfl rfl rfl ⟨rfl, rfl, rfl⟩)
  have t1 : mj_Rc m_Contours_draw 0 0 2 (7, [.ref (mj_NE + 22), .int (iI c), mj_u, mj_u], [], Wd xs L (wA A 17 (pw (fun j => iI j) (A 17) 512)) V Y, 0, 0) (12, [.ref (mj_NE + 22), .int (iI c), mj_u, mj_u], [.int (-1), .ref (mj_NE + 23)], Wd xs L (wA A 17 (pw (fun j => iI j) (A 17) 512)) V Y, 0, 0) := r_to ok_Contours_draw 9999 [] rfl trivial
  rw [iI_neg1] at t1
  have r1 := r_tr (r_tr r0 t1) (q_S ok_Contours_draw ok_Arr_fill st_Arr_fill (c_fill_16) rfl rfl rfl rfl ⟨rfl, rfl, rfl⟩)
  rw [wA_n (l := 16) (k := 17) (by omega)] at r1
  have hA0 : (wA (wA A 17 (pw (fun j => iI j) (A 17) 512)) 16 (fl (A 16) (iI (-1)) 512)) 0 = A 0 := by rw [wA_n (by omega), wA_n (by omega)]
  generalize (wA (wA A 17 (pw (fun j => iI j) (A 17) 512)) 16 (fl (A 16) (iI (-1)) 512)) = A2 at r1 hA0
  have r2 := r_tr r1 (r_to (g' := (32, [.ref (mj_NE + 22), .int (iI c), .int (iI 0), mj_u], [], Wd xs L A2 (wV (wV (wV V 6 (iI 0)) 7 (iI 0)) 8 (iI 0)) Y, 0, 0)) ok_Contours_draw 32 [] rfl trivial)
  have hV0 : (wV (wV (wV V 6 (iI 0)) 7 (iI 0)) 8 (iI 0)) 0 = iI w := by rw [wV_n (by omega), wV_n (by omega), wV_n (by omega)]; exact h0
  have hV1 : (wV (wV (wV V 6 (iI 0)) 7 (iI 0)) 8 (iI 0)) 1 = iI h := by rw [wV_n (by omega), wV_n (by omega), wV_n (by omega)]; exact h1
  generalize (wV (wV (wV V 6 (iI 0)) 7 (iI 0)) 8 (iI 0)) = V2 at r2 hV0 hV1
  have low : ∀ j : Nat, j < n → A2 0 j ≤ iI c := fun j hj => by
    obtain ⟨e0, b1, b2⟩ := hH j hj
    rw [hA0, e0, iI_le ⟨by omega, by omega⟩ ⟨by omega, by omega⟩]
    exact hle j hj
  have one : iI 1 = (1 : Int32) := rfl
  have row : ∀ y : Int, 0 ≤ y ∧ y < h - 1 → ∀ x : Nat, (x : Int) ≤ w - 1 → mj_Rc m_Contours_draw 0 0 2 (47, [.ref (mj_NE + 22), .int (iI c), .int (iI y), .int (iI 0)], [], Wd xs L A2 V2 Y, 0, 0) (47, [.ref (mj_NE + 22), .int (iI c), .int (iI y), .int (iI x)], [], Wd xs L A2 V2 Y, 0, 0) := by
    intro y hy x
    induction x with
    | zero => intro _; exact r_rf
    | succ x ih =>
      intro hx
      have n1 := num_bd (x := (x : Int)) (y := y) hw hh ⟨by omega, by omega⟩ ⟨by omega, by omega⟩
      have n2 := num_bd (x := (x : Int)) (y := y + 1) hw hh ⟨by omega, by omega⟩ ⟨by omega, by omega⟩
      have n3 := num_bd (x := (x : Int) + 1) (y := y + 1) hw hh ⟨by omega, by omega⟩ ⟨by omega, by omega⟩
      have n4 := num_bd (x := (x : Int) + 1) (y := y) hw hh ⟨by omega, by omega⟩ ⟨by omega, by omega⟩
      obtain ⟨i, hi⟩ : ∃ i : Nat, (i : Int) = y * w + x := ⟨(y * w + x).toNat, by omega⟩
      obtain ⟨b, hb⟩ : ∃ b : Nat, (b : Int) = (y + 1) * w + x := ⟨((y + 1) * w + x).toNat, by omega⟩
      have t1 := r_tr (ih (by omega)) (r_to (g' := (67, [.ref (mj_NE + 22), .int (iI c), .int (iI y), .int (iI x)], [.int (iI y), .int (iI x), .ref (mj_NE + 1), .ref (mj_NE + 22)], Wd xs L A2 V2 Y, 0, 0)) ok_Contours_draw 9999 [false] rfl ⟨by
        show ¬ (V2 0 - iI 1 ≤ iI x)
        rw [hV0, iI_sub, iI_le ⟨by omega, by omega⟩ ⟨by omega, by omega⟩]
        omega, trivial⟩)
      have t2 := r_tr t1 (q_V ok_Contours_draw ok_Land_numberOf se_Land_numberOf (c_num hV0) rfl rfl rfl rfl rfl ⟨rfl, rfl, rfl⟩)
      rw [← hi] at t2
      have t3 : mj_Rc m_Contours_draw 0 0 2 (70, [.ref (mj_NE + 22), .int (iI c), .int (iI y), .int (iI x)], [.int (iI i), .ref (mj_NE + 22)], Wd xs L A2 V2 Y, 0, 0) (78, [.ref (mj_NE + 22), .int (iI c), .int (iI y), .int (iI x)], [.int (iI y + 1), .int (iI x), .ref (mj_NE + 1), .int (iI i), .ref (mj_NE + 22)], Wd xs L A2 V2 Y, 0, 0) := r_to ok_Contours_draw 9999 [] rfl trivial
      rw [iI_1] at t3
      have t4 := r_tr (r_tr t2 t3) (q_V ok_Contours_draw ok_Land_numberOf se_Land_numberOf (c_num hV0) rfl rfl rfl rfl rfl ⟨rfl, rfl, rfl⟩)
      rw [← hb] at t4
      have t5 := r_tr t4 (r_to (g' := (82, [.ref (mj_NE + 22), .int (iI c), .int (iI y), .int (iI x)], [.int (iI c), .int (iI b), .int (iI i), .ref (mj_NE + 22)], Wd xs L A2 V2 Y, 0, 0)) ok_Contours_draw 9999 [] rfl trivial)
      have t6 := r_tr t5 (q_V ok_Contours_draw ok_Contours_drawSquare se_Contours_drawSquare (c_drawSquare0 (by omega) (by omega) (low i (by omega)) (low (i + 1) (by omega)) (low b (by omega)) (low (b + 1) (by omega))) rfl rfl rfl rfl rfl ⟨rfl, rfl, rfl⟩)
      have t7 := r_tr t6 (r_to (g' := (47, [.ref (mj_NE + 22), .int (iI c), .int (iI y), .int (iI x + 1)], [], Wd xs L A2 V2 Y, 0, 0)) ok_Contours_draw 47 [] rfl trivial)
      rw [iI_1] at t7
      exact t7
  have rows : ∀ y : Nat, (y : Int) ≤ h - 1 → ∃ u3 : Value, mj_Rc m_Contours_draw 0 0 2 (0, [.ref (mj_NE + 22), .int (iI c), mj_u, mj_u], [], Wd xs L A V Y, 0, 0) (32, [.ref (mj_NE + 22), .int (iI c), .int (iI y), u3], [], Wd xs L A2 V2 Y, 0, 0) := by
    intro y
    induction y with
    | zero => intro _; exact ⟨_, r2⟩
    | succ y ih =>
      intro hy
      obtain ⟨u3, hr⟩ := ih (by omega)
      have t1 := r_tr hr (r_to (g' := (47, [.ref (mj_NE + 22), .int (iI c), .int (iI y), .int (iI 0)], [], Wd xs L A2 V2 Y, 0, 0)) ok_Contours_draw 47 [false] rfl ⟨by
        show ¬ (V2 1 - iI 1 ≤ iI y)
        rw [hV1, iI_sub, iI_le ⟨by omega, by omega⟩ ⟨by omega, by omega⟩]
        omega, trivial⟩)
      have t2 := r_tr t1 (row y ⟨by omega, by omega⟩ (w - 1).toNat (by omega))
      have t3 := r_tr t2 (r_to (g' := (32, [.ref (mj_NE + 22), .int (iI c), .int (iI y + 1), .int (iI ((w - 1).toNat : Int))], [], Wd xs L A2 V2 Y, 0, 0)) ok_Contours_draw 32 [true] rfl ⟨by
        show V2 0 - iI 1 ≤ iI ((w - 1).toNat : Int)
        rw [hV0, iI_sub, iI_le ⟨by omega, by omega⟩ ⟨by omega, by omega⟩]
        omega, trivial⟩)
      rw [iI_1] at t3
      exact ⟨_, t3⟩
  obtain ⟨u3, hr⟩ := rows (h - 1).toNat (by omega)
  exact ct_of ok_Contours_draw rfl (r_tr hr (r_to ok_Contours_draw 9999 [true] rfl ⟨by
    show V2 1 - iI 1 ≤ iI ((h - 1).toNat : Int)
    rw [hV1, iI_sub, iI_le ⟨by omega, by omega⟩ ⟨by omega, by omega⟩]
    omega, trivial⟩)) rfl rfl rfl rfl rfl
theorem c_Ctold0 {k : Int} (h6 : V 6 = iI 0) (h7 : V 7 = iI 0) (h8 : V 8 = iI 0) (hk : 0 ≤ k ∧ k ≤ 2) : mj_Ct m_Contours_told [.ref (mj_NE + 22), .int (iI k)] (Wd xs L A V Y) (some (.int (iI 0))) (Wd xs L A V Y) 0 0 0 := by
  by_cases k0 : k = 0
  · subst k0
    have s : mj_Rc m_Contours_told 0 0 0 (0, [.ref (mj_NE + 22), .int (iI 0)], [], Wd xs L A V Y, 0, 0) (27, [.ref (mj_NE + 22), .int (iI 0)], [.int (V 6)], Wd xs L A V Y, 0, 0) := r_to ok_Contours_told 9999 [false] rfl ⟨fun q => q rfl, trivial⟩
    rw [h6] at s
    exact ct_of ok_Contours_told rfl s rfl rfl rfl rfl rfl
  · have n0 : ¬ (iI k = 0) := iI_nz ⟨by omega, by omega⟩ k0
    by_cases k1 : k = 1
    · subst k1
      have s : mj_Rc m_Contours_told 0 0 0 (0, [.ref (mj_NE + 22), .int (iI 1)], [], Wd xs L A V Y, 0, 0) (27, [.ref (mj_NE + 22), .int (iI 1)], [.int (V 7)], Wd xs L A V Y, 0, 0) := r_to ok_Contours_told 9999 [true, false] rfl ⟨n0, fun q => q rfl, trivial⟩
      rw [h7] at s
      exact ct_of ok_Contours_told rfl s rfl rfl rfl rfl rfl
    · have s : mj_Rc m_Contours_told 0 0 0 (0, [.ref (mj_NE + 22), .int (iI k)], [], Wd xs L A V Y, 0, 0) (27, [.ref (mj_NE + 22), .int (iI k)], [.int (V 8)], Wd xs L A V Y, 0, 0) := r_to ok_Contours_told 9999 [true, true] rfl ⟨n0, by
        show ¬ (iI k = iI 1)
        rw [iI_eq ⟨by omega, by omega⟩ ⟨by omega, by omega⟩]
        exact k1, trivial⟩
      rw [h8] at s
      exact ct_of ok_Contours_told rfl s rfl rfl rfl rfl rfl
end CONT
