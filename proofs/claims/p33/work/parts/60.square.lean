/-! Contours: drawSquare in general -/
section DSQ
variable {xs : Nat → Int32} {L : Nat} {A0 A : Nat → Nat → Int32} {V0 V : Nat → Int32} {Y : mj_H} {K : Nat} {S : CtS} {H : Nat → Int} {n : Nat}
theorem c_sdR {i : Nat} {hp : mj_H} : mj_Ct m_Contours_sideRightOf [.int (iI (i : Int))] hp (some (.int (iI (2 * (i : Int))))) hp 0 0 0 := by
  have t := r_to (RC := 0) (RS := 0) (dd := 0) (g := (0, [.int (iI (i : Int))], [], hp, 0, 0)) (g' := (3, [.int (iI (i : Int))], [.int (iI 2 * iI (i : Int))], hp, 0, 0)) ok_Contours_sideRightOf 9999 [] rfl trivial
  rw [iI_mul] at t
  exact ct_of ok_Contours_sideRightOf rfl t rfl rfl rfl rfl rfl
theorem c_sdB {i : Nat} {hp : mj_H} : mj_Ct m_Contours_sideBelow [.int (iI (i : Int))] hp (some (.int (iI (2 * (i : Int) + 1)))) hp 0 0 0 := by
  have t := r_to (RC := 0) (RS := 0) (dd := 0) (g := (0, [.int (iI (i : Int))], [], hp, 0, 0)) (g' := (5, [.int (iI (i : Int))], [.int (iI 2 * iI (i : Int) + iI 1)], hp, 0, 0)) ok_Contours_sideBelow 9999 [] rfl trivial
  rw [iI_mul, iI_add] at t
  exact ct_of ok_Contours_sideBelow rfl t rfl rfl rfl rfl rfl
theorem bI_eq {p q : Bool} : bI p = bI q ↔ p = q := by cases p <;> cases q <;> decide
theorem dsq_sides {i b : Nat} {c : Int} (hn : n ≤ 256) (hH : ∀ j, j < n → A 0 j = iI (H j) ∧ 0 ≤ H j ∧ H j ≤ 999) (hi : i + 1 < n) (hb : b + 1 < n) (hc : 0 ≤ c ∧ c ≤ 999) : mj_Rc m_Contours_drawSquare 0 0 4 (0, [.ref (mj_NE + 22), .int (iI (i : Int)), .int (iI (b : Int)), .int (iI c), mj_u, mj_u, mj_u, mj_u, mj_u, mj_u, mj_u, mj_u, mj_u, mj_u], [], Wd xs L A V Y, 0, 0) (154, [.ref (mj_NE + 22), .int (iI (i : Int)), .int (iI (b : Int)), .int (iI c), .int (bI (hiB H c i)), .int (bI (hiB H c (i + 1))), .int (bI (hiB H c b)), .int (bI (hiB H c (b + 1))), .int (iI (sdF (hiB H c i) (hiB H c (i + 1)) (2 * (i : Int)))), .int (iI (sdF (hiB H c (i + 1)) (hiB H c (b + 1)) (2 * ((i + 1 : Nat) : Int) + 1))), .int (iI (sdF (hiB H c b) (hiB H c (b + 1)) (2 * (b : Int)))), .int (iI (sdF (hiB H c i) (hiB H c b) (2 * (i : Int) + 1))), mj_u, mj_u], [], Wd xs L A V Y, 0, 0) := by
  have x0 : (iI (i : Int)).toNatClampNeg = i := by
    exact cl_nat (by omega)
  have y0 : vp_in (iI (i : Int)) 256 := by
    exact in_nat (by omega) (by omega)
  have s0 : mj_Rc m_Contours_drawSquare 0 0 4 (0, [.ref (mj_NE + 22), .int (iI (i : Int)), .int (iI (b : Int)), .int (iI c), mj_u, mj_u, mj_u, mj_u, mj_u, mj_u, mj_u, mj_u, mj_u, mj_u], [], Wd xs L A V Y, 0, 0) (20, [.ref (mj_NE + 22), .int (iI (i : Int)), .int (iI (b : Int)), .int (iI c), .int (bI (hiB H c i)), mj_u, mj_u, mj_u, mj_u, mj_u, mj_u, mj_u, mj_u, mj_u], [], Wd xs L A V Y, 0, 0) := by
    obtain ⟨e0, b1, b2⟩ := hH i (by omega)
    cases hq : hiB H c i with
    | true =>
      have hd := of_decide_eq_true hq
      exact r_to ok_Contours_drawSquare 20 [false] rfl ⟨y0, by
        show ¬ (A 0 (iI (i : Int)).toNatClampNeg ≤ iI c)
        rw [x0, e0, iI_le ⟨by omega, by omega⟩ ⟨by omega, by omega⟩]
        omega, trivial⟩
    | false =>
      have hd := of_decide_eq_false hq
      exact r_to ok_Contours_drawSquare 20 [true] rfl ⟨y0, by
        show A 0 (iI (i : Int)).toNatClampNeg ≤ iI c
        rw [x0, e0, iI_le ⟨by omega, by omega⟩ ⟨by omega, by omega⟩]
        omega, trivial⟩
  have x1 : (iI (i : Int) + 1).toNatClampNeg = (i + 1) := by
    rw [iI_1 i]
    exact cl_nat (n := i + 1) (by omega)
  have y1 : vp_in (iI (i : Int) + 1) 256 := by
    rw [iI_1 i]
    exact in_nat (n := i + 1) (by omega) (by omega)
  have s1 : mj_Rc m_Contours_drawSquare 0 0 4 (20, [.ref (mj_NE + 22), .int (iI (i : Int)), .int (iI (b : Int)), .int (iI c), .int (bI (hiB H c i)), mj_u, mj_u, mj_u, mj_u, mj_u, mj_u, mj_u, mj_u, mj_u], [], Wd xs L A V Y, 0, 0) (42, [.ref (mj_NE + 22), .int (iI (i : Int)), .int (iI (b : Int)), .int (iI c), .int (bI (hiB H c i)), .int (bI (hiB H c (i + 1))), mj_u, mj_u, mj_u, mj_u, mj_u, mj_u, mj_u, mj_u], [], Wd xs L A V Y, 0, 0) := by
    obtain ⟨e0, b1, b2⟩ := hH (i + 1) (by omega)
    cases hq : hiB H c (i + 1) with
    | true =>
      have hd := of_decide_eq_true hq
      exact r_to ok_Contours_drawSquare 42 [false] rfl ⟨y1, by
        show ¬ (A 0 (iI (i : Int) + 1).toNatClampNeg ≤ iI c)
        rw [x1, e0, iI_le ⟨by omega, by omega⟩ ⟨by omega, by omega⟩]
        omega, trivial⟩
    | false =>
      have hd := of_decide_eq_false hq
      exact r_to ok_Contours_drawSquare 42 [true] rfl ⟨y1, by
        show A 0 (iI (i : Int) + 1).toNatClampNeg ≤ iI c
        rw [x1, e0, iI_le ⟨by omega, by omega⟩ ⟨by omega, by omega⟩]
        omega, trivial⟩
  have x2 : (iI (b : Int)).toNatClampNeg = b := by
    exact cl_nat (by omega)
  have y2 : vp_in (iI (b : Int)) 256 := by
    exact in_nat (by omega) (by omega)
  have s2 : mj_Rc m_Contours_drawSquare 0 0 4 (42, [.ref (mj_NE + 22), .int (iI (i : Int)), .int (iI (b : Int)), .int (iI c), .int (bI (hiB H c i)), .int (bI (hiB H c (i + 1))), mj_u, mj_u, mj_u, mj_u, mj_u, mj_u, mj_u, mj_u], [], Wd xs L A V Y, 0, 0) (62, [.ref (mj_NE + 22), .int (iI (i : Int)), .int (iI (b : Int)), .int (iI c), .int (bI (hiB H c i)), .int (bI (hiB H c (i + 1))), .int (bI (hiB H c b)), mj_u, mj_u, mj_u, mj_u, mj_u, mj_u, mj_u], [], Wd xs L A V Y, 0, 0) := by
    obtain ⟨e0, b1, b2⟩ := hH b (by omega)
    cases hq : hiB H c b with
    | true =>
      have hd := of_decide_eq_true hq
      exact r_to ok_Contours_drawSquare 62 [false] rfl ⟨y2, by
        show ¬ (A 0 (iI (b : Int)).toNatClampNeg ≤ iI c)
        rw [x2, e0, iI_le ⟨by omega, by omega⟩ ⟨by omega, by omega⟩]
        omega, trivial⟩
    | false =>
      have hd := of_decide_eq_false hq
      exact r_to ok_Contours_drawSquare 62 [true] rfl ⟨y2, by
        show A 0 (iI (b : Int)).toNatClampNeg ≤ iI c
        rw [x2, e0, iI_le ⟨by omega, by omega⟩ ⟨by omega, by omega⟩]
        omega, trivial⟩
  have x3 : (iI (b : Int) + 1).toNatClampNeg = (b + 1) := by
    rw [iI_1 b]
    exact cl_nat (n := b + 1) (by omega)
  have y3 : vp_in (iI (b : Int) + 1) 256 := by
    rw [iI_1 b]
    exact in_nat (n := b + 1) (by omega) (by omega)
  have s3 : mj_Rc m_Contours_drawSquare 0 0 4 (62, [.ref (mj_NE + 22), .int (iI (i : Int)), .int (iI (b : Int)), .int (iI c), .int (bI (hiB H c i)), .int (bI (hiB H c (i + 1))), .int (bI (hiB H c b)), mj_u, mj_u, mj_u, mj_u, mj_u, mj_u, mj_u], [], Wd xs L A V Y, 0, 0) (84, [.ref (mj_NE + 22), .int (iI (i : Int)), .int (iI (b : Int)), .int (iI c), .int (bI (hiB H c i)), .int (bI (hiB H c (i + 1))), .int (bI (hiB H c b)), .int (bI (hiB H c (b + 1))), mj_u, mj_u, mj_u, mj_u, mj_u, mj_u], [], Wd xs L A V Y, 0, 0) := by
    obtain ⟨e0, b1, b2⟩ := hH (b + 1) (by omega)
    cases hq : hiB H c (b + 1) with
    | true =>
      have hd := of_decide_eq_true hq
      exact r_to ok_Contours_drawSquare 84 [false] rfl ⟨y3, by
        show ¬ (A 0 (iI (b : Int) + 1).toNatClampNeg ≤ iI c)
        rw [x3, e0, iI_le ⟨by omega, by omega⟩ ⟨by omega, by omega⟩]
        omega, trivial⟩
    | false =>
      have hd := of_decide_eq_false hq
      exact r_to ok_Contours_drawSquare 84 [true] rfl ⟨y3, by
        show A 0 (iI (b : Int) + 1).toNatClampNeg ≤ iI c
        rw [x3, e0, iI_le ⟨by omega, by omega⟩ ⟨by omega, by omega⟩]
        omega, trivial⟩
  have z0 : mj_Rc m_Contours_drawSquare 0 0 4 (84, [.ref (mj_NE + 22), .int (iI (i : Int)), .int (iI (b : Int)), .int (iI c), .int (bI (hiB H c i)), .int (bI (hiB H c (i + 1))), .int (bI (hiB H c b)), .int (bI (hiB H c (b + 1))), mj_u, mj_u, mj_u, mj_u, mj_u, mj_u], [], Wd xs L A V Y, 0, 0) (101, [.ref (mj_NE + 22), .int (iI (i : Int)), .int (iI (b : Int)), .int (iI c), .int (bI (hiB H c i)), .int (bI (hiB H c (i + 1))), .int (bI (hiB H c b)), .int (bI (hiB H c (b + 1))), .int (iI (sdF (hiB H c i) (hiB H c (i + 1)) (2 * (i : Int)))), mj_u, mj_u, mj_u, mj_u, mj_u], [], Wd xs L A V Y, 0, 0) := by
    by_cases q : (hiB H c i) = (hiB H c (i + 1))
    · have e : (sdF (hiB H c i) (hiB H c (i + 1)) (2 * (i : Int))) = -1 := if_pos q
      rw [e]
      have t : mj_Rc m_Contours_drawSquare 0 0 4 (84, [.ref (mj_NE + 22), .int (iI (i : Int)), .int (iI (b : Int)), .int (iI c), .int (bI (hiB H c i)), .int (bI (hiB H c (i + 1))), .int (bI (hiB H c b)), .int (bI (hiB H c (b + 1))), mj_u, mj_u, mj_u, mj_u, mj_u, mj_u], [], Wd xs L A V Y, 0, 0) (101, [.ref (mj_NE + 22), .int (iI (i : Int)), .int (iI (b : Int)), .int (iI c), .int (bI (hiB H c i)), .int (bI (hiB H c (i + 1))), .int (bI (hiB H c b)), .int (bI (hiB H c (b + 1))), .int (-1), mj_u, mj_u, mj_u, mj_u, mj_u], [], Wd xs L A V Y, 0, 0) := r_to ok_Contours_drawSquare 101 [true] rfl ⟨bI_eq.mpr q, trivial⟩
      have em : (-1 : Int32) = iI (-1) := iI_neg1
      rw [em] at t
      exact t
    · have e : (sdF (hiB H c i) (hiB H c (i + 1)) (2 * (i : Int))) = (2 * (i : Int)) := if_neg q
      rw [e]
      have t1 : mj_Rc m_Contours_drawSquare 0 0 4 (84, [.ref (mj_NE + 22), .int (iI (i : Int)), .int (iI (b : Int)), .int (iI c), .int (bI (hiB H c i)), .int (bI (hiB H c (i + 1))), .int (bI (hiB H c b)), .int (bI (hiB H c (b + 1))), mj_u, mj_u, mj_u, mj_u, mj_u, mj_u], [], Wd xs L A V Y, 0, 0) (92, [.ref (mj_NE + 22), .int (iI (i : Int)), .int (iI (b : Int)), .int (iI c), .int (bI (hiB H c i)), .int (bI (hiB H c (i + 1))), .int (bI (hiB H c b)), .int (bI (hiB H c (b + 1))), mj_u, mj_u, mj_u, mj_u, mj_u, mj_u], [.int (iI (i : Int))], Wd xs L A V Y, 0, 0) := r_to ok_Contours_drawSquare 9999 [false] rfl ⟨fun z => q (bI_eq.mp z), trivial⟩
      have t2 := r_tr t1 (q_S ok_Contours_drawSquare ok_Contours_sideRightOf st_Contours_sideRightOf (c_sdR (i := i)) rfl rfl rfl rfl ⟨rfl, rfl, rfl⟩)
      exact r_tr t2 (r_to (g' := (101, [.ref (mj_NE + 22), .int (iI (i : Int)), .int (iI (b : Int)), .int (iI c), .int (bI (hiB H c i)), .int (bI (hiB H c (i + 1))), .int (bI (hiB H c b)), .int (bI (hiB H c (b + 1))), .int (iI (2 * (i : Int))), mj_u, mj_u, mj_u, mj_u, mj_u], [], Wd xs L A V Y, 0, 0)) ok_Contours_drawSquare 101 [] rfl trivial)
  have z1 : mj_Rc m_Contours_drawSquare 0 0 4 (101, [.ref (mj_NE + 22), .int (iI (i : Int)), .int (iI (b : Int)), .int (iI c), .int (bI (hiB H c i)), .int (bI (hiB H c (i + 1))), .int (bI (hiB H c b)), .int (bI (hiB H c (b + 1))), .int (iI (sdF (hiB H c i) (hiB H c (i + 1)) (2 * (i : Int)))), mj_u, mj_u, mj_u, mj_u, mj_u], [], Wd xs L A V Y, 0, 0) (120, [.ref (mj_NE + 22), .int (iI (i : Int)), .int (iI (b : Int)), .int (iI c), .int (bI (hiB H c i)), .int (bI (hiB H c (i + 1))), .int (bI (hiB H c b)), .int (bI (hiB H c (b + 1))), .int (iI (sdF (hiB H c i) (hiB H c (i + 1)) (2 * (i : Int)))), .int (iI (sdF (hiB H c (i + 1)) (hiB H c (b + 1)) (2 * ((i + 1 : Nat) : Int) + 1))), mj_u, mj_u, mj_u, mj_u], [], Wd xs L A V Y, 0, 0) := by
    by_cases q : (hiB H c (i + 1)) = (hiB H c (b + 1))
    · have e : (sdF (hiB H c (i + 1)) (hiB H c (b + 1)) (2 * ((i + 1 : Nat) : Int) + 1)) = -1 := if_pos q
      rw [e]
      have t : mj_Rc m_Contours_drawSquare 0 0 4 (101, [.ref (mj_NE + 22), .int (iI (i : Int)), .int (iI (b : Int)), .int (iI c), .int (bI (hiB H c i)), .int (bI (hiB H c (i + 1))), .int (bI (hiB H c b)), .int (bI (hiB H c (b + 1))), .int (iI (sdF (hiB H c i) (hiB H c (i + 1)) (2 * (i : Int)))), mj_u, mj_u, mj_u, mj_u, mj_u], [], Wd xs L A V Y, 0, 0) (120, [.ref (mj_NE + 22), .int (iI (i : Int)), .int (iI (b : Int)), .int (iI c), .int (bI (hiB H c i)), .int (bI (hiB H c (i + 1))), .int (bI (hiB H c b)), .int (bI (hiB H c (b + 1))), .int (iI (sdF (hiB H c i) (hiB H c (i + 1)) (2 * (i : Int)))), .int (-1), mj_u, mj_u, mj_u, mj_u], [], Wd xs L A V Y, 0, 0) := r_to ok_Contours_drawSquare 120 [true] rfl ⟨bI_eq.mpr q, trivial⟩
      have em : (-1 : Int32) = iI (-1) := iI_neg1
      rw [em] at t
      exact t
    · have e : (sdF (hiB H c (i + 1)) (hiB H c (b + 1)) (2 * ((i + 1 : Nat) : Int) + 1)) = (2 * ((i + 1 : Nat) : Int) + 1) := if_neg q
      rw [e]
      have t1 : mj_Rc m_Contours_drawSquare 0 0 4 (101, [.ref (mj_NE + 22), .int (iI (i : Int)), .int (iI (b : Int)), .int (iI c), .int (bI (hiB H c i)), .int (bI (hiB H c (i + 1))), .int (bI (hiB H c b)), .int (bI (hiB H c (b + 1))), .int (iI (sdF (hiB H c i) (hiB H c (i + 1)) (2 * (i : Int)))), mj_u, mj_u, mj_u, mj_u, mj_u], [], Wd xs L A V Y, 0, 0) (111, [.ref (mj_NE + 22), .int (iI (i : Int)), .int (iI (b : Int)), .int (iI c), .int (bI (hiB H c i)), .int (bI (hiB H c (i + 1))), .int (bI (hiB H c b)), .int (bI (hiB H c (b + 1))), .int (iI (sdF (hiB H c i) (hiB H c (i + 1)) (2 * (i : Int)))), mj_u, mj_u, mj_u, mj_u, mj_u], [.int (iI (i : Int) + 1)], Wd xs L A V Y, 0, 0) := r_to ok_Contours_drawSquare 9999 [false] rfl ⟨fun z => q (bI_eq.mp z), trivial⟩
      rw [iI_1 i] at t1
      have t2 := r_tr t1 (q_S ok_Contours_drawSquare ok_Contours_sideBelow st_Contours_sideBelow (c_sdB (i := (i + 1))) rfl rfl rfl rfl ⟨rfl, rfl, rfl⟩)
      exact r_tr t2 (r_to (g' := (120, [.ref (mj_NE + 22), .int (iI (i : Int)), .int (iI (b : Int)), .int (iI c), .int (bI (hiB H c i)), .int (bI (hiB H c (i + 1))), .int (bI (hiB H c b)), .int (bI (hiB H c (b + 1))), .int (iI (sdF (hiB H c i) (hiB H c (i + 1)) (2 * (i : Int)))), .int (iI (2 * ((i + 1 : Nat) : Int) + 1)), mj_u, mj_u, mj_u, mj_u], [], Wd xs L A V Y, 0, 0)) ok_Contours_drawSquare 120 [] rfl trivial)
  have z2 : mj_Rc m_Contours_drawSquare 0 0 4 (120, [.ref (mj_NE + 22), .int (iI (i : Int)), .int (iI (b : Int)), .int (iI c), .int (bI (hiB H c i)), .int (bI (hiB H c (i + 1))), .int (bI (hiB H c b)), .int (bI (hiB H c (b + 1))), .int (iI (sdF (hiB H c i) (hiB H c (i + 1)) (2 * (i : Int)))), .int (iI (sdF (hiB H c (i + 1)) (hiB H c (b + 1)) (2 * ((i + 1 : Nat) : Int) + 1))), mj_u, mj_u, mj_u, mj_u], [], Wd xs L A V Y, 0, 0) (137, [.ref (mj_NE + 22), .int (iI (i : Int)), .int (iI (b : Int)), .int (iI c), .int (bI (hiB H c i)), .int (bI (hiB H c (i + 1))), .int (bI (hiB H c b)), .int (bI (hiB H c (b + 1))), .int (iI (sdF (hiB H c i) (hiB H c (i + 1)) (2 * (i : Int)))), .int (iI (sdF (hiB H c (i + 1)) (hiB H c (b + 1)) (2 * ((i + 1 : Nat) : Int) + 1))), .int (iI (sdF (hiB H c b) (hiB H c (b + 1)) (2 * (b : Int)))), mj_u, mj_u, mj_u], [], Wd xs L A V Y, 0, 0) := by
    by_cases q : (hiB H c b) = (hiB H c (b + 1))
    · have e : (sdF (hiB H c b) (hiB H c (b + 1)) (2 * (b : Int))) = -1 := if_pos q
      rw [e]
      have t : mj_Rc m_Contours_drawSquare 0 0 4 (120, [.ref (mj_NE + 22), .int (iI (i : Int)), .int (iI (b : Int)), .int (iI c), .int (bI (hiB H c i)), .int (bI (hiB H c (i + 1))), .int (bI (hiB H c b)), .int (bI (hiB H c (b + 1))), .int (iI (sdF (hiB H c i) (hiB H c (i + 1)) (2 * (i : Int)))), .int (iI (sdF (hiB H c (i + 1)) (hiB H c (b + 1)) (2 * ((i + 1 : Nat) : Int) + 1))), mj_u, mj_u, mj_u, mj_u], [], Wd xs L A V Y, 0, 0) (137, [.ref (mj_NE + 22), .int (iI (i : Int)), .int (iI (b : Int)), .int (iI c), .int (bI (hiB H c i)), .int (bI (hiB H c (i + 1))), .int (bI (hiB H c b)), .int (bI (hiB H c (b + 1))), .int (iI (sdF (hiB H c i) (hiB H c (i + 1)) (2 * (i : Int)))), .int (iI (sdF (hiB H c (i + 1)) (hiB H c (b + 1)) (2 * ((i + 1 : Nat) : Int) + 1))), .int (-1), mj_u, mj_u, mj_u], [], Wd xs L A V Y, 0, 0) := r_to ok_Contours_drawSquare 137 [true] rfl ⟨bI_eq.mpr q, trivial⟩
      have em : (-1 : Int32) = iI (-1) := iI_neg1
      rw [em] at t
      exact t
    · have e : (sdF (hiB H c b) (hiB H c (b + 1)) (2 * (b : Int))) = (2 * (b : Int)) := if_neg q
      rw [e]
      have t1 : mj_Rc m_Contours_drawSquare 0 0 4 (120, [.ref (mj_NE + 22), .int (iI (i : Int)), .int (iI (b : Int)), .int (iI c), .int (bI (hiB H c i)), .int (bI (hiB H c (i + 1))), .int (bI (hiB H c b)), .int (bI (hiB H c (b + 1))), .int (iI (sdF (hiB H c i) (hiB H c (i + 1)) (2 * (i : Int)))), .int (iI (sdF (hiB H c (i + 1)) (hiB H c (b + 1)) (2 * ((i + 1 : Nat) : Int) + 1))), mj_u, mj_u, mj_u, mj_u], [], Wd xs L A V Y, 0, 0) (128, [.ref (mj_NE + 22), .int (iI (i : Int)), .int (iI (b : Int)), .int (iI c), .int (bI (hiB H c i)), .int (bI (hiB H c (i + 1))), .int (bI (hiB H c b)), .int (bI (hiB H c (b + 1))), .int (iI (sdF (hiB H c i) (hiB H c (i + 1)) (2 * (i : Int)))), .int (iI (sdF (hiB H c (i + 1)) (hiB H c (b + 1)) (2 * ((i + 1 : Nat) : Int) + 1))), mj_u, mj_u, mj_u, mj_u], [.int (iI (b : Int))], Wd xs L A V Y, 0, 0) := r_to ok_Contours_drawSquare 9999 [false] rfl ⟨fun z => q (bI_eq.mp z), trivial⟩
      have t2 := r_tr t1 (q_S ok_Contours_drawSquare ok_Contours_sideRightOf st_Contours_sideRightOf (c_sdR (i := b)) rfl rfl rfl rfl ⟨rfl, rfl, rfl⟩)
      exact r_tr t2 (r_to (g' := (137, [.ref (mj_NE + 22), .int (iI (i : Int)), .int (iI (b : Int)), .int (iI c), .int (bI (hiB H c i)), .int (bI (hiB H c (i + 1))), .int (bI (hiB H c b)), .int (bI (hiB H c (b + 1))), .int (iI (sdF (hiB H c i) (hiB H c (i + 1)) (2 * (i : Int)))), .int (iI (sdF (hiB H c (i + 1)) (hiB H c (b + 1)) (2 * ((i + 1 : Nat) : Int) + 1))), .int (iI (2 * (b : Int))), mj_u, mj_u, mj_u], [], Wd xs L A V Y, 0, 0)) ok_Contours_drawSquare 137 [] rfl trivial)
  have z3 : mj_Rc m_Contours_drawSquare 0 0 4 (137, [.ref (mj_NE + 22), .int (iI (i : Int)), .int (iI (b : Int)), .int (iI c), .int (bI (hiB H c i)), .int (bI (hiB H c (i + 1))), .int (bI (hiB H c b)), .int (bI (hiB H c (b + 1))), .int (iI (sdF (hiB H c i) (hiB H c (i + 1)) (2 * (i : Int)))), .int (iI (sdF (hiB H c (i + 1)) (hiB H c (b + 1)) (2 * ((i + 1 : Nat) : Int) + 1))), .int (iI (sdF (hiB H c b) (hiB H c (b + 1)) (2 * (b : Int)))), mj_u, mj_u, mj_u], [], Wd xs L A V Y, 0, 0) (154, [.ref (mj_NE + 22), .int (iI (i : Int)), .int (iI (b : Int)), .int (iI c), .int (bI (hiB H c i)), .int (bI (hiB H c (i + 1))), .int (bI (hiB H c b)), .int (bI (hiB H c (b + 1))), .int (iI (sdF (hiB H c i) (hiB H c (i + 1)) (2 * (i : Int)))), .int (iI (sdF (hiB H c (i + 1)) (hiB H c (b + 1)) (2 * ((i + 1 : Nat) : Int) + 1))), .int (iI (sdF (hiB H c b) (hiB H c (b + 1)) (2 * (b : Int)))), .int (iI (sdF (hiB H c i) (hiB H c b) (2 * (i : Int) + 1))), mj_u, mj_u], [], Wd xs L A V Y, 0, 0) := by
    by_cases q : (hiB H c i) = (hiB H c b)
    · have e : (sdF (hiB H c i) (hiB H c b) (2 * (i : Int) + 1)) = -1 := if_pos q
      rw [e]
      have t : mj_Rc m_Contours_drawSquare 0 0 4 (137, [.ref (mj_NE + 22), .int (iI (i : Int)), .int (iI (b : Int)), .int (iI c), .int (bI (hiB H c i)), .int (bI (hiB H c (i + 1))), .int (bI (hiB H c b)), .int (bI (hiB H c (b + 1))), .int (iI (sdF (hiB H c i) (hiB H c (i + 1)) (2 * (i : Int)))), .int (iI (sdF (hiB H c (i + 1)) (hiB H c (b + 1)) (2 * ((i + 1 : Nat) : Int) + 1))), .int (iI (sdF (hiB H c b) (hiB H c (b + 1)) (2 * (b : Int)))), mj_u, mj_u, mj_u], [], Wd xs L A V Y, 0, 0) (154, [.ref (mj_NE + 22), .int (iI (i : Int)), .int (iI (b : Int)), .int (iI c), .int (bI (hiB H c i)), .int (bI (hiB H c (i + 1))), .int (bI (hiB H c b)), .int (bI (hiB H c (b + 1))), .int (iI (sdF (hiB H c i) (hiB H c (i + 1)) (2 * (i : Int)))), .int (iI (sdF (hiB H c (i + 1)) (hiB H c (b + 1)) (2 * ((i + 1 : Nat) : Int) + 1))), .int (iI (sdF (hiB H c b) (hiB H c (b + 1)) (2 * (b : Int)))), .int (-1), mj_u, mj_u], [], Wd xs L A V Y, 0, 0) := r_to ok_Contours_drawSquare 154 [true] rfl ⟨bI_eq.mpr q, trivial⟩
      have em : (-1 : Int32) = iI (-1) := iI_neg1
      rw [em] at t
      exact t
    · have e : (sdF (hiB H c i) (hiB H c b) (2 * (i : Int) + 1)) = (2 * (i : Int) + 1) := if_neg q
      rw [e]
      have t1 : mj_Rc m_Contours_drawSquare 0 0 4 (137, [.ref (mj_NE + 22), .int (iI (i : Int)), .int (iI (b : Int)), .int (iI c), .int (bI (hiB H c i)), .int (bI (hiB H c (i + 1))), .int (bI (hiB H c b)), .int (bI (hiB H c (b + 1))), .int (iI (sdF (hiB H c i) (hiB H c (i + 1)) (2 * (i : Int)))), .int (iI (sdF (hiB H c (i + 1)) (hiB H c (b + 1)) (2 * ((i + 1 : Nat) : Int) + 1))), .int (iI (sdF (hiB H c b) (hiB H c (b + 1)) (2 * (b : Int)))), mj_u, mj_u, mj_u], [], Wd xs L A V Y, 0, 0) (145, [.ref (mj_NE + 22), .int (iI (i : Int)), .int (iI (b : Int)), .int (iI c), .int (bI (hiB H c i)), .int (bI (hiB H c (i + 1))), .int (bI (hiB H c b)), .int (bI (hiB H c (b + 1))), .int (iI (sdF (hiB H c i) (hiB H c (i + 1)) (2 * (i : Int)))), .int (iI (sdF (hiB H c (i + 1)) (hiB H c (b + 1)) (2 * ((i + 1 : Nat) : Int) + 1))), .int (iI (sdF (hiB H c b) (hiB H c (b + 1)) (2 * (b : Int)))), mj_u, mj_u, mj_u], [.int (iI (i : Int))], Wd xs L A V Y, 0, 0) := r_to ok_Contours_drawSquare 9999 [false] rfl ⟨fun z => q (bI_eq.mp z), trivial⟩
      have t2 := r_tr t1 (q_S ok_Contours_drawSquare ok_Contours_sideBelow st_Contours_sideBelow (c_sdB (i := i)) rfl rfl rfl rfl ⟨rfl, rfl, rfl⟩)
      exact r_tr t2 (r_to (g' := (154, [.ref (mj_NE + 22), .int (iI (i : Int)), .int (iI (b : Int)), .int (iI c), .int (bI (hiB H c i)), .int (bI (hiB H c (i + 1))), .int (bI (hiB H c b)), .int (bI (hiB H c (b + 1))), .int (iI (sdF (hiB H c i) (hiB H c (i + 1)) (2 * (i : Int)))), .int (iI (sdF (hiB H c (i + 1)) (hiB H c (b + 1)) (2 * ((i + 1 : Nat) : Int) + 1))), .int (iI (sdF (hiB H c b) (hiB H c (b + 1)) (2 * (b : Int)))), .int (iI (2 * (i : Int) + 1)), mj_u, mj_u], [], Wd xs L A V Y, 0, 0)) ok_Contours_drawSquare 154 [] rfl trivial)
  exact r_tr s0 (r_tr s1 (r_tr s2 (r_tr s3 (r_tr z0 (r_tr z1 (r_tr z2 z3))))))
end DSQ
