/-! Contours: a square -/
section DSG
variable {xs : Nat → Int32} {L : Nat} {A0 A : Nat → Nat → Int32} {V0 V : Nat → Int32} {Y : mj_H} {K : Nat} {S : CtS} {H : Nat → Int} {n : Nat}
theorem c_sumOfSquareG {i b : Nat} (hn : n ≤ 256) (hH : ∀ j, j < n → A 0 j = iI (H j) ∧ 0 ≤ H j ∧ H j ≤ 999) (hi : i + 1 < n) (hb : b + 1 < n) : mj_Ct m_Contours_sumOfSquare [.ref (mj_NE + 22), .int (iI (i : Int)), .int (iI (b : Int))] (Wd xs L A V Y) (some (.int (iI (H i + H (i + 1) + H b + H (b + 1))))) (Wd xs L A V Y) 0 0 0 := by
  have x0 : (iI (i : Int)).toNatClampNeg = i := cl_nat (by omega)
  have x2 : (iI (b : Int)).toNatClampNeg = b := cl_nat (by omega)
  have x1 : (iI (i : Int) + 1).toNatClampNeg = i + 1 := by rw [iI_1 i]; exact cl_nat (n := i + 1) (by omega)
  have x3 : (iI (b : Int) + 1).toNatClampNeg = b + 1 := by rw [iI_1 b]; exact cl_nat (n := b + 1) (by omega)
  have y1 : vp_in (iI (i : Int) + 1) 256 := by rw [iI_1 i]; exact in_nat (n := i + 1) (by omega) (by omega)
  have y3 : vp_in (iI (b : Int) + 1) 256 := by rw [iI_1 b]; exact in_nat (n := b + 1) (by omega) (by omega)
  have t : mj_Rc m_Contours_sumOfSquare 0 0 0 (0, [.ref (mj_NE + 22), .int (iI (i : Int)), .int (iI (b : Int))], [], Wd xs L A V Y, 0, 0) (43, [.ref (mj_NE + 22), .int (iI (i : Int)), .int (iI (b : Int))], [.int (A 0 (iI (i : Int)).toNatClampNeg + A 0 (iI (i : Int) + 1).toNatClampNeg + A 0 (iI (b : Int)).toNatClampNeg + A 0 (iI (b : Int) + 1).toNatClampNeg)], Wd xs L A V Y, 0, 0) := r_to ok_Contours_sumOfSquare 9999 [] rfl ⟨in_nat (by omega) (by omega), y1, in_nat (by omega) (by omega), y3, trivial⟩
  rw [x0, x1, x2, x3, (hH i (by omega)).1, (hH (i + 1) hi).1, (hH b (by omega)).1, (hH (b + 1) hb).1, iI_add, iI_add, iI_add] at t
  exact ct_of ok_Contours_sumOfSquare rfl t rfl rfl rfl rfl rfl
theorem sq_alt {i b : Nat} {c : Int} : sqF K H c i b S = if ((hiB H c i) = (hiB H c (b + 1)) ∧ (hiB H c (i + 1)) = (hiB H c b) ∧ (hiB H c i) ≠ (hiB H c (i + 1))) then (if (decide (H i + H (i + 1) + H b + H (b + 1) ≤ 4 * c)) = (hiB H c i) then apF K (apF K S (sdF (hiB H c i) (hiB H c (i + 1)) (2 * (i : Int))) (sdF (hiB H c i) (hiB H c b) (2 * (i : Int) + 1))) (sdF (hiB H c b) (hiB H c (b + 1)) (2 * (b : Int))) (sdF (hiB H c (i + 1)) (hiB H c (b + 1)) (2 * ((i + 1 : Nat) : Int) + 1)) else apF K (apF K S (sdF (hiB H c i) (hiB H c (i + 1)) (2 * (i : Int))) (sdF (hiB H c (i + 1)) (hiB H c (b + 1)) (2 * ((i + 1 : Nat) : Int) + 1))) (sdF (hiB H c b) (hiB H c (b + 1)) (2 * (b : Int))) (sdF (hiB H c i) (hiB H c b) (2 * (i : Int) + 1))) else apF K S (if 0 ≤ (sdF (hiB H c i) (hiB H c (i + 1)) (2 * (i : Int))) then (sdF (hiB H c i) (hiB H c (i + 1)) (2 * (i : Int))) else if 0 ≤ (sdF (hiB H c (i + 1)) (hiB H c (b + 1)) (2 * ((i + 1 : Nat) : Int) + 1)) then (sdF (hiB H c (i + 1)) (hiB H c (b + 1)) (2 * ((i + 1 : Nat) : Int) + 1)) else (sdF (hiB H c b) (hiB H c (b + 1)) (2 * (b : Int)))) (if 0 ≤ (sdF (hiB H c i) (hiB H c b) (2 * (i : Int) + 1)) then (sdF (hiB H c i) (hiB H c b) (2 * (i : Int) + 1)) else if 0 ≤ (sdF (hiB H c b) (hiB H c (b + 1)) (2 * (b : Int))) then (sdF (hiB H c b) (hiB H c (b + 1)) (2 * (b : Int))) else (sdF (hiB H c (i + 1)) (hiB H c (b + 1)) (2 * ((i + 1 : Nat) : Int) + 1))) := by
  unfold sqF sdF
  generalize hiB H c i = p0
  generalize hiB H c (i + 1) = p1
  generalize hiB H c b = p2
  generalize hiB H c (b + 1) = p3
  have e1 : (0 : Int) ≤ 2 * (i : Int) := by omega
  have e2 : (0 : Int) ≤ 2 * (((i + 1 : Nat) : Int)) + 1 := by omega
  have e3 : (0 : Int) ≤ 2 * (b : Int) := by omega
  have e4 : (0 : Int) ≤ 2 * (i : Int) + 1 := by omega
  have e5 : (((i + 1 : Nat) : Int)) = (i : Int) + 1 := by omega
  have e6 : ¬ ((0 : Int) ≤ -1) := by omega
  rw [e5] at e2 ⊢
  cases p0 <;> cases p1 <;> cases p2 <;> cases p3 <;> simp [e1, e2, e3, e4]
theorem sdF_in {p q : Bool} {z : Int} (hz : 0 ≤ z ∧ z < 512) : -1 ≤ sdF p q z ∧ sdF p q z < 512 := by
  unfold sdF
  split <;> omega
set_option maxHeartbeats 1000000 in
theorem c_drawSquareG {i b : Nat} {c : Int} (hK : K = 512) (hn : n ≤ 256) (hS : StC A0 V0 A V S) (hH0 : ∀ j, j < n → A0 0 j = iI (H j) ∧ 0 ≤ H j ∧ H j ≤ 999) (hi : i + 1 < n) (hb : b + 1 < n) (hc : 0 ≤ c ∧ c ≤ 999) (hP : 0 ≤ S.2.2.1 ∧ S.2.2.1 + 2 ≤ 512) : ∃ (A1 : Nat → Nat → Int32) (V1 : Nat → Int32), StC A0 V0 A1 V1 (sqF K H c i b S) ∧ mj_Ct m_Contours_drawSquare [.ref (mj_NE + 22), .int (iI (i : Int)), .int (iI (b : Int)), .int (iI c)] (Wd xs L A V Y) none (Wd xs L A1 V1 Y) 0 0 4 := by
  have hH : ∀ j, j < n → A 0 j = iI (H j) ∧ 0 ≤ H j ∧ H j ≤ 999 := fun j hj => by
    rw [hS.2.2.2.1 0 (by omega) (by omega)]
    exact hH0 j hj
  have s := dsq_sides (xs := xs) (L := L) (A := A) (V := V) (Y := Y) (H := H) hn hH hi hb hc
  have ht := sdF_in (p := (hiB H c i)) (q := (hiB H c (i + 1))) (z := 2 * (i : Int)) ⟨by omega, by omega⟩
  have hr := sdF_in (p := (hiB H c (i + 1))) (q := (hiB H c (b + 1))) (z := 2 * ((i + 1 : Nat) : Int) + 1) ⟨by omega, by omega⟩
  have hbt := sdF_in (p := (hiB H c b)) (q := (hiB H c (b + 1))) (z := 2 * (b : Int)) ⟨by omega, by omega⟩
  have hl := sdF_in (p := (hiB H c i)) (q := (hiB H c b)) (z := 2 * (i : Int) + 1) ⟨by omega, by omega⟩
  rw [sq_alt]
  have hap : ∀ x y : Int, (apF K S x y).2.2.1 = S.2.2.1 ∨ (apF K S x y).2.2.1 = S.2.2.1 + 1 := fun x y => by
    unfold apF
    by_cases q : 0 ≤ x ∧ 0 ≤ y
    · rw [if_pos q]
      refine Or.inr ?_
      unfold tieF
      dsimp only
      repeat' split
      all_goals rfl
    · rw [if_neg q]
      exact Or.inl rfl
  by_cases sad : ((hiB H c i) = (hiB H c (b + 1)) ∧ (hiB H c (i + 1)) = (hiB H c b) ∧ (hiB H c i) ≠ (hiB H c (i + 1)))
  · rw [if_pos sad]
    have u1 : mj_Rc m_Contours_drawSquare 0 0 4 (154, [.ref (mj_NE + 22), .int (iI (i : Int)), .int (iI (b : Int)), .int (iI c), .int (bI (hiB H c i)), .int (bI (hiB H c (i + 1))), .int (bI (hiB H c b)), .int (bI (hiB H c (b + 1))), .int (iI (sdF (hiB H c i) (hiB H c (i + 1)) (2 * (i : Int)))), .int (iI (sdF (hiB H c (i + 1)) (hiB H c (b + 1)) (2 * ((i + 1 : Nat) : Int) + 1))), .int (iI (sdF (hiB H c b) (hiB H c (b + 1)) (2 * (b : Int)))), .int (iI (sdF (hiB H c i) (hiB H c b) (2 * (i : Int) + 1))), mj_u, mj_u], [], Wd xs L A V Y, 0, 0) (178, [.ref (mj_NE + 22), .int (iI (i : Int)), .int (iI (b : Int)), .int (iI c), .int (bI (hiB H c i)), .int (bI (hiB H c (i + 1))), .int (bI (hiB H c b)), .int (bI (hiB H c (b + 1))), .int (iI (sdF (hiB H c i) (hiB H c (i + 1)) (2 * (i : Int)))), .int (iI (sdF (hiB H c (i + 1)) (hiB H c (b + 1)) (2 * ((i + 1 : Nat) : Int) + 1))), .int (iI (sdF (hiB H c b) (hiB H c (b + 1)) (2 * (b : Int)))), .int (iI (sdF (hiB H c i) (hiB H c b) (2 * (i : Int) + 1))), mj_u, mj_u], [.int (iI (b : Int)), .int (iI (i : Int)), .ref (mj_NE + 22)], Wd xs L A V Y, 0, 0) := r_to ok_Contours_drawSquare 9999 [false, false, false] rfl ⟨fun z => z (bI_eq.mpr sad.1), fun z => z (bI_eq.mpr sad.2.1), fun z => sad.2.2 (bI_eq.mp z), trivial⟩
    have u2 := r_tr (r_tr s u1) (q_V ok_Contours_drawSquare ok_Contours_sumOfSquare se_Contours_sumOfSquare (c_sumOfSquareG hn hH hi hb) rfl rfl rfl rfl rfl ⟨rfl, rfl, rfl⟩)
    have b0 := (hH i (by omega)).2
    have b1 := (hH (i + 1) hi).2
    have b2 := (hH b (by omega)).2
    have b3 := (hH (b + 1) hb).2
    have u3 : mj_Rc m_Contours_drawSquare 0 0 4 (181, [.ref (mj_NE + 22), .int (iI (i : Int)), .int (iI (b : Int)), .int (iI c), .int (bI (hiB H c i)), .int (bI (hiB H c (i + 1))), .int (bI (hiB H c b)), .int (bI (hiB H c (b + 1))), .int (iI (sdF (hiB H c i) (hiB H c (i + 1)) (2 * (i : Int)))), .int (iI (sdF (hiB H c (i + 1)) (hiB H c (b + 1)) (2 * ((i + 1 : Nat) : Int) + 1))), .int (iI (sdF (hiB H c b) (hiB H c (b + 1)) (2 * (b : Int)))), .int (iI (sdF (hiB H c i) (hiB H c b) (2 * (i : Int) + 1))), mj_u, mj_u], [.int (iI (H i + H (i + 1) + H b + H (b + 1)))], Wd xs L A V Y, 0, 0) (194, [.ref (mj_NE + 22), .int (iI (i : Int)), .int (iI (b : Int)), .int (iI c), .int (bI (hiB H c i)), .int (bI (hiB H c (i + 1))), .int (bI (hiB H c b)), .int (bI (hiB H c (b + 1))), .int (iI (sdF (hiB H c i) (hiB H c (i + 1)) (2 * (i : Int)))), .int (iI (sdF (hiB H c (i + 1)) (hiB H c (b + 1)) (2 * ((i + 1 : Nat) : Int) + 1))), .int (iI (sdF (hiB H c b) (hiB H c (b + 1)) (2 * (b : Int)))), .int (iI (sdF (hiB H c i) (hiB H c b) (2 * (i : Int) + 1))), .int (bI (decide (H i + H (i + 1) + H b + H (b + 1) ≤ 4 * c))), mj_u], [], Wd xs L A V Y, 0, 0) := by
      have em : iI 4 * iI c = iI (4 * c) := iI_mul 4 c
      by_cases q : H i + H (i + 1) + H b + H (b + 1) ≤ 4 * c
      · rw [decide_eq_true q]
        exact r_to ok_Contours_drawSquare 194 [false] rfl ⟨by
          show ¬ (iI 4 * iI c < iI (H i + H (i + 1) + H b + H (b + 1)))
          rw [em, iI_lt ⟨by omega, by omega⟩ ⟨by omega, by omega⟩]
          omega, trivial⟩
      · rw [decide_eq_false q]
        exact r_to ok_Contours_drawSquare 194 [true] rfl ⟨by
          show iI 4 * iI c < iI (H i + H (i + 1) + H b + H (b + 1))
          rw [em, iI_lt ⟨by omega, by omega⟩ ⟨by omega, by omega⟩]
          omega, trivial⟩
    have u4 := r_tr u2 u3
    by_cases q : (decide (H i + H (i + 1) + H b + H (b + 1) ≤ 4 * c)) = (hiB H c i)
    · rw [if_pos q]
      obtain ⟨A1, V1, S1, c1⟩ := c_addPieceG (xs := xs) (L := L) (Y := Y) hK hS ht hl ⟨hP.1, by omega⟩
      have hp1 := hap (sdF (hiB H c i) (hiB H c (i + 1)) (2 * (i : Int))) (sdF (hiB H c i) (hiB H c b) (2 * (i : Int) + 1))
      obtain ⟨A2, V2, S2, c2⟩ := c_addPieceG (xs := xs) (L := L) (Y := Y) hK S1 hbt hr ⟨by omega, by omega⟩
      have w1 := r_tr u4 (r_to (g' := (211, [.ref (mj_NE + 22), .int (iI (i : Int)), .int (iI (b : Int)), .int (iI c), .int (bI (hiB H c i)), .int (bI (hiB H c (i + 1))), .int (bI (hiB H c b)), .int (bI (hiB H c (b + 1))), .int (iI (sdF (hiB H c i) (hiB H c (i + 1)) (2 * (i : Int)))), .int (iI (sdF (hiB H c (i + 1)) (hiB H c (b + 1)) (2 * ((i + 1 : Nat) : Int) + 1))), .int (iI (sdF (hiB H c b) (hiB H c (b + 1)) (2 * (b : Int)))), .int (iI (sdF (hiB H c i) (hiB H c b) (2 * (i : Int) + 1))), .int (bI (decide (H i + H (i + 1) + H b + H (b + 1) ≤ 4 * c))), mj_u], [.int (iI (sdF (hiB H c i) (hiB H c b) (2 * (i : Int) + 1))), .int (iI (sdF (hiB H c i) (hiB H c (i + 1)) (2 * (i : Int)))), .ref (mj_NE + 22)], Wd xs L A V Y, 0, 0)) ok_Contours_drawSquare 9999 [false] rfl ⟨fun z => z (bI_eq.mpr q), trivial⟩)
      have w2 := r_tr w1 (q_V ok_Contours_drawSquare ok_Contours_addPiece se_Contours_addPiece c1 rfl rfl rfl rfl rfl ⟨rfl, rfl, rfl⟩)
      have w3 := r_tr w2 (r_to (g' := (231, [.ref (mj_NE + 22), .int (iI (i : Int)), .int (iI (b : Int)), .int (iI c), .int (bI (hiB H c i)), .int (bI (hiB H c (i + 1))), .int (bI (hiB H c b)), .int (bI (hiB H c (b + 1))), .int (iI (sdF (hiB H c i) (hiB H c (i + 1)) (2 * (i : Int)))), .int (iI (sdF (hiB H c (i + 1)) (hiB H c (b + 1)) (2 * ((i + 1 : Nat) : Int) + 1))), .int (iI (sdF (hiB H c b) (hiB H c (b + 1)) (2 * (b : Int)))), .int (iI (sdF (hiB H c i) (hiB H c b) (2 * (i : Int) + 1))), .int (bI (decide (H i + H (i + 1) + H b + H (b + 1) ≤ 4 * c))), mj_u], [.int (iI (sdF (hiB H c (i + 1)) (hiB H c (b + 1)) (2 * ((i + 1 : Nat) : Int) + 1))), .int (iI (sdF (hiB H c b) (hiB H c (b + 1)) (2 * (b : Int)))), .ref (mj_NE + 22)], Wd xs L A1 V1 Y, 0, 0)) ok_Contours_drawSquare 9999 [false] rfl ⟨fun z => z (bI_eq.mpr q), trivial⟩)
      have w4 := r_tr w3 (q_V ok_Contours_drawSquare ok_Contours_addPiece se_Contours_addPiece c2 rfl rfl rfl rfl rfl ⟨rfl, rfl, rfl⟩)
      exact ⟨A2, V2, S2, ct_of ok_Contours_drawSquare rfl (r_tr w4 (r_to ok_Contours_drawSquare 9999 [] rfl trivial)) rfl rfl rfl rfl rfl⟩
    · rw [if_neg q]
      obtain ⟨A1, V1, S1, c1⟩ := c_addPieceG (xs := xs) (L := L) (Y := Y) hK hS ht hr ⟨hP.1, by omega⟩
      have hp1 := hap (sdF (hiB H c i) (hiB H c (i + 1)) (2 * (i : Int))) (sdF (hiB H c (i + 1)) (hiB H c (b + 1)) (2 * ((i + 1 : Nat) : Int) + 1))
      obtain ⟨A2, V2, S2, c2⟩ := c_addPieceG (xs := xs) (L := L) (Y := Y) hK S1 hbt hl ⟨by omega, by omega⟩
      have w1 := r_tr u4 (r_to (g' := (211, [.ref (mj_NE + 22), .int (iI (i : Int)), .int (iI (b : Int)), .int (iI c), .int (bI (hiB H c i)), .int (bI (hiB H c (i + 1))), .int (bI (hiB H c b)), .int (bI (hiB H c (b + 1))), .int (iI (sdF (hiB H c i) (hiB H c (i + 1)) (2 * (i : Int)))), .int (iI (sdF (hiB H c (i + 1)) (hiB H c (b + 1)) (2 * ((i + 1 : Nat) : Int) + 1))), .int (iI (sdF (hiB H c b) (hiB H c (b + 1)) (2 * (b : Int)))), .int (iI (sdF (hiB H c i) (hiB H c b) (2 * (i : Int) + 1))), .int (bI (decide (H i + H (i + 1) + H b + H (b + 1) ≤ 4 * c))), mj_u], [.int (iI (sdF (hiB H c (i + 1)) (hiB H c (b + 1)) (2 * ((i + 1 : Nat) : Int) + 1))), .int (iI (sdF (hiB H c i) (hiB H c (i + 1)) (2 * (i : Int)))), .ref (mj_NE + 22)], Wd xs L A V Y, 0, 0)) ok_Contours_drawSquare 9999 [true] rfl ⟨fun z => q (bI_eq.mp z), trivial⟩)
      have w2 := r_tr w1 (q_V ok_Contours_drawSquare ok_Contours_addPiece se_Contours_addPiece c1 rfl rfl rfl rfl rfl ⟨rfl, rfl, rfl⟩)
      have w3 := r_tr w2 (r_to (g' := (231, [.ref (mj_NE + 22), .int (iI (i : Int)), .int (iI (b : Int)), .int (iI c), .int (bI (hiB H c i)), .int (bI (hiB H c (i + 1))), .int (bI (hiB H c b)), .int (bI (hiB H c (b + 1))), .int (iI (sdF (hiB H c i) (hiB H c (i + 1)) (2 * (i : Int)))), .int (iI (sdF (hiB H c (i + 1)) (hiB H c (b + 1)) (2 * ((i + 1 : Nat) : Int) + 1))), .int (iI (sdF (hiB H c b) (hiB H c (b + 1)) (2 * (b : Int)))), .int (iI (sdF (hiB H c i) (hiB H c b) (2 * (i : Int) + 1))), .int (bI (decide (H i + H (i + 1) + H b + H (b + 1) ≤ 4 * c))), mj_u], [.int (iI (sdF (hiB H c i) (hiB H c b) (2 * (i : Int) + 1))), .int (iI (sdF (hiB H c b) (hiB H c (b + 1)) (2 * (b : Int)))), .ref (mj_NE + 22)], Wd xs L A1 V1 Y, 0, 0)) ok_Contours_drawSquare 9999 [true] rfl ⟨fun z => q (bI_eq.mp z), trivial⟩)
      have w4 := r_tr w3 (q_V ok_Contours_drawSquare ok_Contours_addPiece se_Contours_addPiece c2 rfl rfl rfl rfl rfl ⟨rfl, rfl, rfl⟩)
      exact ⟨A2, V2, S2, ct_of ok_Contours_drawSquare rfl (r_tr w4 (r_to ok_Contours_drawSquare 9999 [] rfl trivial)) rfl rfl rfl rfl rfl⟩
  · rw [if_neg sad]
    have u1 : mj_Rc m_Contours_drawSquare 0 0 4 (154, [.ref (mj_NE + 22), .int (iI (i : Int)), .int (iI (b : Int)), .int (iI c), .int (bI (hiB H c i)), .int (bI (hiB H c (i + 1))), .int (bI (hiB H c b)), .int (bI (hiB H c (b + 1))), .int (iI (sdF (hiB H c i) (hiB H c (i + 1)) (2 * (i : Int)))), .int (iI (sdF (hiB H c (i + 1)) (hiB H c (b + 1)) (2 * ((i + 1 : Nat) : Int) + 1))), .int (iI (sdF (hiB H c b) (hiB H c (b + 1)) (2 * (b : Int)))), .int (iI (sdF (hiB H c i) (hiB H c b) (2 * (i : Int) + 1))), mj_u, mj_u], [], Wd xs L A V Y, 0, 0) (237, [.ref (mj_NE + 22), .int (iI (i : Int)), .int (iI (b : Int)), .int (iI c), .int (bI (hiB H c i)), .int (bI (hiB H c (i + 1))), .int (bI (hiB H c b)), .int (bI (hiB H c (b + 1))), .int (iI (sdF (hiB H c i) (hiB H c (i + 1)) (2 * (i : Int)))), .int (iI (sdF (hiB H c (i + 1)) (hiB H c (b + 1)) (2 * ((i + 1 : Nat) : Int) + 1))), .int (iI (sdF (hiB H c b) (hiB H c (b + 1)) (2 * (b : Int)))), .int (iI (sdF (hiB H c i) (hiB H c b) (2 * (i : Int) + 1))), mj_u, mj_u], [], Wd xs L A V Y, 0, 0) := by
      by_cases q1 : (hiB H c i) = (hiB H c (b + 1))
      · by_cases q2 : (hiB H c (i + 1)) = (hiB H c b)
        · have q3 : (hiB H c i) = (hiB H c (i + 1)) := by
            by_cases q3 : (hiB H c i) = (hiB H c (i + 1))
            · exact q3
            · exact absurd ⟨q1, q2, q3⟩ sad
          exact r_to ok_Contours_drawSquare 237 [false, false, true] rfl ⟨fun z => z (bI_eq.mpr q1), fun z => z (bI_eq.mpr q2), bI_eq.mpr q3, trivial⟩
        · exact r_to ok_Contours_drawSquare 237 [false, true] rfl ⟨fun z => z (bI_eq.mpr q1), fun z => q2 (bI_eq.mp z), trivial⟩
      · exact r_to ok_Contours_drawSquare 237 [true] rfl ⟨fun z => q1 (bI_eq.mp z), trivial⟩
    have u2 : mj_Rc m_Contours_drawSquare 0 0 4 (237, [.ref (mj_NE + 22), .int (iI (i : Int)), .int (iI (b : Int)), .int (iI c), .int (bI (hiB H c i)), .int (bI (hiB H c (i + 1))), .int (bI (hiB H c b)), .int (bI (hiB H c (b + 1))), .int (iI (sdF (hiB H c i) (hiB H c (i + 1)) (2 * (i : Int)))), .int (iI (sdF (hiB H c (i + 1)) (hiB H c (b + 1)) (2 * ((i + 1 : Nat) : Int) + 1))), .int (iI (sdF (hiB H c b) (hiB H c (b + 1)) (2 * (b : Int)))), .int (iI (sdF (hiB H c i) (hiB H c b) (2 * (i : Int) + 1))), mj_u, mj_u], [], Wd xs L A V Y, 0, 0) (261, [.ref (mj_NE + 22), .int (iI (i : Int)), .int (iI (b : Int)), .int (iI c), .int (bI (hiB H c i)), .int (bI (hiB H c (i + 1))), .int (bI (hiB H c b)), .int (bI (hiB H c (b + 1))), .int (iI (sdF (hiB H c i) (hiB H c (i + 1)) (2 * (i : Int)))), .int (iI (sdF (hiB H c (i + 1)) (hiB H c (b + 1)) (2 * ((i + 1 : Nat) : Int) + 1))), .int (iI (sdF (hiB H c b) (hiB H c (b + 1)) (2 * (b : Int)))), .int (iI (sdF (hiB H c i) (hiB H c b) (2 * (i : Int) + 1))), .int (iI (if 0 ≤ (sdF (hiB H c i) (hiB H c (i + 1)) (2 * (i : Int))) then (sdF (hiB H c i) (hiB H c (i + 1)) (2 * (i : Int))) else if 0 ≤ (sdF (hiB H c (i + 1)) (hiB H c (b + 1)) (2 * ((i + 1 : Nat) : Int) + 1)) then (sdF (hiB H c (i + 1)) (hiB H c (b + 1)) (2 * ((i + 1 : Nat) : Int) + 1)) else (sdF (hiB H c b) (hiB H c (b + 1)) (2 * (b : Int))))), mj_u], [], Wd xs L A V Y, 0, 0) := by
      by_cases q1 : 0 ≤ (sdF (hiB H c i) (hiB H c (i + 1)) (2 * (i : Int)))
      · rw [if_pos q1]
        exact r_to ok_Contours_drawSquare 261 [false] rfl ⟨by
        show ¬ (iI (sdF (hiB H c i) (hiB H c (i + 1)) (2 * (i : Int))) < iI 0)
        rw [iI_lt ⟨by omega, by omega⟩ ⟨by omega, by omega⟩]
        omega, trivial⟩
      · rw [if_neg q1]
        by_cases q2 : 0 ≤ (sdF (hiB H c (i + 1)) (hiB H c (b + 1)) (2 * ((i + 1 : Nat) : Int) + 1))
        · rw [if_pos q2]
          exact r_to ok_Contours_drawSquare 261 [true, false] rfl ⟨by
        show iI (sdF (hiB H c i) (hiB H c (i + 1)) (2 * (i : Int))) < iI 0
        rw [iI_lt ⟨by omega, by omega⟩ ⟨by omega, by omega⟩]
        omega, by
        show ¬ (iI (sdF (hiB H c (i + 1)) (hiB H c (b + 1)) (2 * ((i + 1 : Nat) : Int) + 1)) < iI 0)
        rw [iI_lt ⟨by omega, by omega⟩ ⟨by omega, by omega⟩]
        omega, trivial⟩
        · rw [if_neg q2]
          exact r_to ok_Contours_drawSquare 261 [true, true] rfl ⟨by
        show iI (sdF (hiB H c i) (hiB H c (i + 1)) (2 * (i : Int))) < iI 0
        rw [iI_lt ⟨by omega, by omega⟩ ⟨by omega, by omega⟩]
        omega, by
        show iI (sdF (hiB H c (i + 1)) (hiB H c (b + 1)) (2 * ((i + 1 : Nat) : Int) + 1)) < iI 0
        rw [iI_lt ⟨by omega, by omega⟩ ⟨by omega, by omega⟩]
        omega, trivial⟩
    have u3 : mj_Rc m_Contours_drawSquare 0 0 4 (261, [.ref (mj_NE + 22), .int (iI (i : Int)), .int (iI (b : Int)), .int (iI c), .int (bI (hiB H c i)), .int (bI (hiB H c (i + 1))), .int (bI (hiB H c b)), .int (bI (hiB H c (b + 1))), .int (iI (sdF (hiB H c i) (hiB H c (i + 1)) (2 * (i : Int)))), .int (iI (sdF (hiB H c (i + 1)) (hiB H c (b + 1)) (2 * ((i + 1 : Nat) : Int) + 1))), .int (iI (sdF (hiB H c b) (hiB H c (b + 1)) (2 * (b : Int)))), .int (iI (sdF (hiB H c i) (hiB H c b) (2 * (i : Int) + 1))), .int (iI (if 0 ≤ (sdF (hiB H c i) (hiB H c (i + 1)) (2 * (i : Int))) then (sdF (hiB H c i) (hiB H c (i + 1)) (2 * (i : Int))) else if 0 ≤ (sdF (hiB H c (i + 1)) (hiB H c (b + 1)) (2 * ((i + 1 : Nat) : Int) + 1)) then (sdF (hiB H c (i + 1)) (hiB H c (b + 1)) (2 * ((i + 1 : Nat) : Int) + 1)) else (sdF (hiB H c b) (hiB H c (b + 1)) (2 * (b : Int))))), mj_u], [], Wd xs L A V Y, 0, 0) (285, [.ref (mj_NE + 22), .int (iI (i : Int)), .int (iI (b : Int)), .int (iI c), .int (bI (hiB H c i)), .int (bI (hiB H c (i + 1))), .int (bI (hiB H c b)), .int (bI (hiB H c (b + 1))), .int (iI (sdF (hiB H c i) (hiB H c (i + 1)) (2 * (i : Int)))), .int (iI (sdF (hiB H c (i + 1)) (hiB H c (b + 1)) (2 * ((i + 1 : Nat) : Int) + 1))), .int (iI (sdF (hiB H c b) (hiB H c (b + 1)) (2 * (b : Int)))), .int (iI (sdF (hiB H c i) (hiB H c b) (2 * (i : Int) + 1))), .int (iI (if 0 ≤ (sdF (hiB H c i) (hiB H c (i + 1)) (2 * (i : Int))) then (sdF (hiB H c i) (hiB H c (i + 1)) (2 * (i : Int))) else if 0 ≤ (sdF (hiB H c (i + 1)) (hiB H c (b + 1)) (2 * ((i + 1 : Nat) : Int) + 1)) then (sdF (hiB H c (i + 1)) (hiB H c (b + 1)) (2 * ((i + 1 : Nat) : Int) + 1)) else (sdF (hiB H c b) (hiB H c (b + 1)) (2 * (b : Int))))), .int (iI (if 0 ≤ (sdF (hiB H c i) (hiB H c b) (2 * (i : Int) + 1)) then (sdF (hiB H c i) (hiB H c b) (2 * (i : Int) + 1)) else if 0 ≤ (sdF (hiB H c b) (hiB H c (b + 1)) (2 * (b : Int))) then (sdF (hiB H c b) (hiB H c (b + 1)) (2 * (b : Int))) else (sdF (hiB H c (i + 1)) (hiB H c (b + 1)) (2 * ((i + 1 : Nat) : Int) + 1))))], [], Wd xs L A V Y, 0, 0) := by
      by_cases q1 : 0 ≤ (sdF (hiB H c i) (hiB H c b) (2 * (i : Int) + 1))
      · rw [if_pos q1]
        exact r_to ok_Contours_drawSquare 285 [false] rfl ⟨by
        show ¬ (iI (sdF (hiB H c i) (hiB H c b) (2 * (i : Int) + 1)) < iI 0)
        rw [iI_lt ⟨by omega, by omega⟩ ⟨by omega, by omega⟩]
        omega, trivial⟩
      · rw [if_neg q1]
        by_cases q2 : 0 ≤ (sdF (hiB H c b) (hiB H c (b + 1)) (2 * (b : Int)))
        · rw [if_pos q2]
          exact r_to ok_Contours_drawSquare 285 [true, false] rfl ⟨by
        show iI (sdF (hiB H c i) (hiB H c b) (2 * (i : Int) + 1)) < iI 0
        rw [iI_lt ⟨by omega, by omega⟩ ⟨by omega, by omega⟩]
        omega, by
        show ¬ (iI (sdF (hiB H c b) (hiB H c (b + 1)) (2 * (b : Int))) < iI 0)
        rw [iI_lt ⟨by omega, by omega⟩ ⟨by omega, by omega⟩]
        omega, trivial⟩
        · rw [if_neg q2]
          exact r_to ok_Contours_drawSquare 285 [true, true] rfl ⟨by
        show iI (sdF (hiB H c i) (hiB H c b) (2 * (i : Int) + 1)) < iI 0
        rw [iI_lt ⟨by omega, by omega⟩ ⟨by omega, by omega⟩]
        omega, by
        show iI (sdF (hiB H c b) (hiB H c (b + 1)) (2 * (b : Int))) < iI 0
        rw [iI_lt ⟨by omega, by omega⟩ ⟨by omega, by omega⟩]
        omega, trivial⟩
    have h1 : -1 ≤ (if 0 ≤ (sdF (hiB H c i) (hiB H c (i + 1)) (2 * (i : Int))) then (sdF (hiB H c i) (hiB H c (i + 1)) (2 * (i : Int))) else if 0 ≤ (sdF (hiB H c (i + 1)) (hiB H c (b + 1)) (2 * ((i + 1 : Nat) : Int) + 1)) then (sdF (hiB H c (i + 1)) (hiB H c (b + 1)) (2 * ((i + 1 : Nat) : Int) + 1)) else (sdF (hiB H c b) (hiB H c (b + 1)) (2 * (b : Int)))) ∧ (if 0 ≤ (sdF (hiB H c i) (hiB H c (i + 1)) (2 * (i : Int))) then (sdF (hiB H c i) (hiB H c (i + 1)) (2 * (i : Int))) else if 0 ≤ (sdF (hiB H c (i + 1)) (hiB H c (b + 1)) (2 * ((i + 1 : Nat) : Int) + 1)) then (sdF (hiB H c (i + 1)) (hiB H c (b + 1)) (2 * ((i + 1 : Nat) : Int) + 1)) else (sdF (hiB H c b) (hiB H c (b + 1)) (2 * (b : Int)))) < 512 := by
      split
      · exact ht
      · split
        · exact hr
        · exact hbt
    have h2 : -1 ≤ (if 0 ≤ (sdF (hiB H c i) (hiB H c b) (2 * (i : Int) + 1)) then (sdF (hiB H c i) (hiB H c b) (2 * (i : Int) + 1)) else if 0 ≤ (sdF (hiB H c b) (hiB H c (b + 1)) (2 * (b : Int))) then (sdF (hiB H c b) (hiB H c (b + 1)) (2 * (b : Int))) else (sdF (hiB H c (i + 1)) (hiB H c (b + 1)) (2 * ((i + 1 : Nat) : Int) + 1))) ∧ (if 0 ≤ (sdF (hiB H c i) (hiB H c b) (2 * (i : Int) + 1)) then (sdF (hiB H c i) (hiB H c b) (2 * (i : Int) + 1)) else if 0 ≤ (sdF (hiB H c b) (hiB H c (b + 1)) (2 * (b : Int))) then (sdF (hiB H c b) (hiB H c (b + 1)) (2 * (b : Int))) else (sdF (hiB H c (i + 1)) (hiB H c (b + 1)) (2 * ((i + 1 : Nat) : Int) + 1))) < 512 := by
      split
      · exact hl
      · split
        · exact hbt
        · exact hr
    obtain ⟨A1, V1, S1, c1⟩ := c_addPieceG (xs := xs) (L := L) (Y := Y) hK hS h1 h2 ⟨hP.1, by omega⟩
    have w1 := r_tr (r_tr s (r_tr u1 (r_tr u2 u3))) (r_to (g' := (290, [.ref (mj_NE + 22), .int (iI (i : Int)), .int (iI (b : Int)), .int (iI c), .int (bI (hiB H c i)), .int (bI (hiB H c (i + 1))), .int (bI (hiB H c b)), .int (bI (hiB H c (b + 1))), .int (iI (sdF (hiB H c i) (hiB H c (i + 1)) (2 * (i : Int)))), .int (iI (sdF (hiB H c (i + 1)) (hiB H c (b + 1)) (2 * ((i + 1 : Nat) : Int) + 1))), .int (iI (sdF (hiB H c b) (hiB H c (b + 1)) (2 * (b : Int)))), .int (iI (sdF (hiB H c i) (hiB H c b) (2 * (i : Int) + 1))), .int (iI (if 0 ≤ (sdF (hiB H c i) (hiB H c (i + 1)) (2 * (i : Int))) then (sdF (hiB H c i) (hiB H c (i + 1)) (2 * (i : Int))) else if 0 ≤ (sdF (hiB H c (i + 1)) (hiB H c (b + 1)) (2 * ((i + 1 : Nat) : Int) + 1)) then (sdF (hiB H c (i + 1)) (hiB H c (b + 1)) (2 * ((i + 1 : Nat) : Int) + 1)) else (sdF (hiB H c b) (hiB H c (b + 1)) (2 * (b : Int))))), .int (iI (if 0 ≤ (sdF (hiB H c i) (hiB H c b) (2 * (i : Int) + 1)) then (sdF (hiB H c i) (hiB H c b) (2 * (i : Int) + 1)) else if 0 ≤ (sdF (hiB H c b) (hiB H c (b + 1)) (2 * (b : Int))) then (sdF (hiB H c b) (hiB H c (b + 1)) (2 * (b : Int))) else (sdF (hiB H c (i + 1)) (hiB H c (b + 1)) (2 * ((i + 1 : Nat) : Int) + 1))))], [.int (iI (if 0 ≤ (sdF (hiB H c i) (hiB H c b) (2 * (i : Int) + 1)) then (sdF (hiB H c i) (hiB H c b) (2 * (i : Int) + 1)) else if 0 ≤ (sdF (hiB H c b) (hiB H c (b + 1)) (2 * (b : Int))) then (sdF (hiB H c b) (hiB H c (b + 1)) (2 * (b : Int))) else (sdF (hiB H c (i + 1)) (hiB H c (b + 1)) (2 * ((i + 1 : Nat) : Int) + 1)))), .int (iI (if 0 ≤ (sdF (hiB H c i) (hiB H c (i + 1)) (2 * (i : Int))) then (sdF (hiB H c i) (hiB H c (i + 1)) (2 * (i : Int))) else if 0 ≤ (sdF (hiB H c (i + 1)) (hiB H c (b + 1)) (2 * ((i + 1 : Nat) : Int) + 1)) then (sdF (hiB H c (i + 1)) (hiB H c (b + 1)) (2 * ((i + 1 : Nat) : Int) + 1)) else (sdF (hiB H c b) (hiB H c (b + 1)) (2 * (b : Int))))), .ref (mj_NE + 22)], Wd xs L A V Y, 0, 0)) ok_Contours_drawSquare 9999 [] rfl trivial)
    have w2 := r_tr w1 (q_V ok_Contours_drawSquare ok_Contours_addPiece se_Contours_addPiece c1 rfl rfl rfl rfl rfl ⟨rfl, rfl, rfl⟩)
    exact ⟨A1, V1, S1, ct_of ok_Contours_drawSquare rfl w2 rfl rfl rfl rfl rfl⟩
end DSG
