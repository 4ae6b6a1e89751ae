/-! Land: neighbours, laying out -/
def sxI (d : Nat) : Int := [1, 1, 0, -1, -1, -1, 0, 1].getD d 0
def syI (d : Nat) : Int := [0, 1, 1, 1, 0, -1, -1, -1].getD d 0
theorem s0_I : ∀ d, d < 8 → mj_s0 d = iI (sxI d) ∧ -1 ≤ sxI d ∧ sxI d ≤ 1 := by decide +kernel
theorem s1_I : ∀ d, d < 8 → mj_s1 d = iI (syI d) ∧ -1 ≤ syI d ∧ syI d ≤ 1 := by decide +kernel
/-- the NUMBER of the NEIGHBOUR of (x, y) in the direction d, or -1 -/
def nb (w h x y : Int) (d : Nat) : Int := if 0 ≤ x + sxI d ∧ x + sxI d < w ∧ 0 ≤ y + syI d ∧ y + syI d < h then (y + syI d) * w + (x + sxI d) else -1
/-- the table f with the first n directions of (x, y) written -/
def nbw (w h x y : Int) (f : Nat → Int32) (n : Nat) : Nat → Int32 := fun j => if ((y * w + x) * 8).toNat ≤ j ∧ j < ((y * w + x) * 8).toNat + n then iI (nb w h x y (j - ((y * w + x) * 8).toNat)) else f j
theorem nbw_0 {w h x y : Int} {f : Nat → Int32} : nbw w h x y f 0 = f := by
  funext j
  unfold nbw
  rw [if_neg (by omega)]
theorem nbw_s {w h x y : Int} {f : Nat → Int32} {n : Nat} : upd (nbw w h x y f n) (((y * w + x) * 8).toNat + n) (iI (nb w h x y n)) = nbw w h x y f (n + 1) := by
  funext j
  simp only [upd, nbw]
  by_cases h1 : j = ((y * w + x) * 8).toNat + n
  · rw [if_pos h1, if_pos (by omega), h1, Nat.add_sub_cancel_left]
  · rw [if_neg h1]
    by_cases h2 : ((y * w + x) * 8).toNat ≤ j ∧ j < ((y * w + x) * 8).toNat + n
    · rw [if_pos h2, if_pos (by omega)]
    · rw [if_neg h2, if_neg (by omega)]
/-- y * w + x with its bounds -/
theorem num_bd {w h x y : Int} (hw : 2 ≤ w ∧ w ≤ 16) (hh : 2 ≤ h ∧ h ≤ 16) (hx : 0 ≤ x ∧ x < w) (hy : 0 ≤ y ∧ y < h) : 0 ≤ y * w + x ∧ y * w + x < w * h ∧ w * h ≤ 256 := by
  have h1 : 0 ≤ y * w := Int.mul_nonneg hy.1 (by omega)
  have h2 : y * w ≤ (h - 1) * w := Int.mul_le_mul_of_nonneg_right (by omega) (by omega)
  have h3 : (h - 1) * w = w * h - w := by rw [Int.sub_mul, Int.one_mul, Int.mul_comm]
  have h4 : w * h ≤ 16 * h := Int.mul_le_mul_of_nonneg_right hw.2 (by omega)
  omega
theorem nb_bd {w h x y : Int} (hw : 2 ≤ w ∧ w ≤ 16) (hh : 2 ≤ h ∧ h ≤ 16) (d : Nat) : -1 ≤ nb w h x y d ∧ nb w h x y d < w * h := by
  unfold nb
  split
  · rename_i h1
    have := num_bd hw hh ⟨h1.1, h1.2.1⟩ ⟨h1.2.2.1, h1.2.2.2⟩
    omega
  · have h4 : 2 * h ≤ w * h := Int.mul_le_mul_of_nonneg_right hw.1 (by omega)
    omega
section LAND2
variable {xs : Nat → Int32} {L : Nat} {A : Nat → Nat → Int32} {V : Nat → Int32} {Y : mj_H} {w h x y : Int}
set_option maxHeartbeats 1000000 in
theorem c_findNeighbours (hw0 : V 0 = iI w) (hh0 : V 1 = iI h) (hw : 2 ≤ w ∧ w ≤ 16) (hh : 2 ≤ h ∧ h ≤ 16) (hx : 0 ≤ x ∧ x < w) (hy : 0 ≤ y ∧ y < h) : mj_Ct m_Land_findNeighbours [.ref (mj_NE + 1), .int (iI x), .int (iI y)] (Wd xs L A V Y) none (Wd xs L (wA A 2 (nbw w h x y (A 2) 8)) V Y) 0 0 1 := by
  have hb := num_bd hw hh hx hy
  have lp : ∀ n : Nat, n ≤ 8 → ∃ u1 u2 : Value, mj_Rc m_Land_findNeighbours 0 0 1 (2, [.ref (mj_NE + 1), .int (iI x), .int (iI y), .int 0, mj_u, mj_u], [], Wd xs L A V Y, 0, 0) (2, [.ref (mj_NE + 1), .int (iI x), .int (iI y), .int (iI n), u1, u2], [], Wd xs L (wA A 2 (nbw w h x y (A 2) n)) V Y, 0, 0) := by
    intro n
    induction n with
    | zero => intro _; rw [nbw_0, wA_id]; exact ⟨_, _, r_rf⟩
    | succ n ih =>
      intro hn
      obtain ⟨u1, u2, hr⟩ := ih (by omega)
      generalize hA1 : wA A 2 (nbw w h x y (A 2) n) = A1 at hr
      obtain ⟨e0, b1, b2⟩ := s0_I n (by omega)
      obtain ⟨e1, b3, b4⟩ := s1_I n (by omega)
      have hc : (iI n).toNatClampNeg = n := by rw [iI_cl (by omega) (by omega), Int.toNat_natCast]
      have hin : vp_in (iI n) 8 := (iI_in ⟨by omega, by omega⟩).mpr ⟨by omega, by omega⟩
      have s1 : mj_Rc m_Land_findNeighbours 0 0 1 (2, [.ref (mj_NE + 1), .int (iI x), .int (iI y), .int (iI n), u1, u2], [], Wd xs L A1 V Y, 0, 0) (33, [.ref (mj_NE + 1), .int (iI x), .int (iI y), .int (iI n), .int (iI x + mj_s0 (iI n).toNatClampNeg), .int (iI y + mj_s1 (iI n).toNatClampNeg)], [.int (iI y), .int (iI x), .ref (mj_NE + 1), .ref (mj_NE + 4)], Wd xs L A1 V Y, 0, 0) := r_to ok_Land_findNeighbours 9999 [false] rfl ⟨by
        show ¬ (iI 8 ≤ iI n)
        rw [iI_le ⟨by omega, by omega⟩ ⟨by omega, by omega⟩]
        omega, hin, hin, trivial⟩
      rw [hc, e0, e1, iI_add, iI_add] at s1
      have s2 := r_tr (r_tr hr s1) (q_V ok_Land_findNeighbours ok_Land_numberOf se_Land_numberOf (c_num hw0) rfl rfl rfl rfl rfl ⟨rfl, rfl, rfl⟩)
      have s3 := r_tr s2 (r_to (g' := (46, [.ref (mj_NE + 1), .int (iI x), .int (iI y), .int (iI n), .int (iI (x + sxI n)), .int (iI (y + syI n))], [.int (iI (y + syI n)), .int (iI (x + sxI n)), .ref (mj_NE + 1), .int (iI (y * w + x) * iI 8 + iI n), .ref (mj_NE + 4)], Wd xs L A1 V Y, 0, 0)) ok_Land_findNeighbours 9999 [] rfl trivial)
      rw [iI_mul, iI_add] at s3
      have hi2 : vp_in (iI ((y * w + x) * 8 + n)) 2048 := (iI_in ⟨by omega, by omega⟩).mpr ⟨by omega, by omega⟩
      have hc2 : (iI ((y * w + x) * 8 + n)).toNatClampNeg = ((y * w + x) * 8).toNat + n := by rw [iI_cl (by omega) (by omega)]; omega
      have fin : ∀ v : Int, v = nb w h x y n → mj_Rc m_Land_findNeighbours 0 0 1 (64, [.ref (mj_NE + 1), .int (iI x), .int (iI y), .int (iI n), .int (iI (x + sxI n)), .int (iI (y + syI n))], [.int (iI v), .int (iI ((y * w + x) * 8 + n)), .ref (mj_NE + 4)], Wd xs L A1 V Y, 0, 0) (2, [.ref (mj_NE + 1), .int (iI x), .int (iI y), .int (iI (n + 1 : Nat)), .int (iI (x + sxI n)), .int (iI (y + syI n))], [], Wd xs L (wA A 2 (nbw w h x y (A 2) (n + 1))) V Y, 0, 0) := by
        intro v hv
        subst hv
        subst hA1
        generalize hA1 : wA A 2 (nbw w h x y (A 2) n) = A1
        have s4 : mj_Rc m_Land_findNeighbours 0 0 1 (64, [.ref (mj_NE + 1), .int (iI x), .int (iI y), .int (iI n), .int (iI (x + sxI n)), .int (iI (y + syI n))], [.int (iI (nb w h x y n)), .int (iI ((y * w + x) * 8 + n)), .ref (mj_NE + 4)], Wd xs L A1 V Y, 0, 0) (2, [.ref (mj_NE + 1), .int (iI x), .int (iI y), .int (iI n + 1), .int (iI (x + sxI n)), .int (iI (y + syI n))], [], Wd xs L (wA A1 2 (upd (A1 2) (iI ((y * w + x) * 8 + n)).toNatClampNeg (iI (nb w h x y n)))) V Y, 0, 0) := r_to ok_Land_findNeighbours 2 [] rfl ⟨hi2, trivial⟩
        rw [iI_1, hc2] at s4
        subst hA1
        rw [wA_s, wA_f, nbw_s] at s4
        exact s4
      by_cases hin2 : 0 ≤ x + sxI n ∧ x + sxI n < w ∧ 0 ≤ y + syI n ∧ y + syI n < h
      · have s5 := r_tr s3 (q_V ok_Land_findNeighbours ok_Land_has se_Land_has (c_has1 hw0 hh0 hin2 ⟨by omega, by omega⟩) rfl rfl rfl rfl rfl ⟨rfl, rfl, rfl⟩)
        have s6 := r_tr s5 (r_to (g' := (57, [.ref (mj_NE + 1), .int (iI x), .int (iI y), .int (iI n), .int (iI (x + sxI n)), .int (iI (y + syI n))], [.int (iI (y + syI n)), .int (iI (x + sxI n)), .ref (mj_NE + 1), .int (iI ((y * w + x) * 8 + n)), .ref (mj_NE + 4)], Wd xs L A1 V Y, 0, 0)) ok_Land_findNeighbours 9999 [false] rfl ⟨by show ¬ ((1 : Int32) = 0); decide, trivial⟩)
        have s7 := r_tr s6 (q_V ok_Land_findNeighbours ok_Land_numberOf se_Land_numberOf (c_num hw0) rfl rfl rfl rfl rfl ⟨rfl, rfl, rfl⟩)
        have s8 := r_tr s7 (r_to (g' := (64, [.ref (mj_NE + 1), .int (iI x), .int (iI y), .int (iI n), .int (iI (x + sxI n)), .int (iI (y + syI n))], [.int (iI ((y + syI n) * w + (x + sxI n))), .int (iI ((y * w + x) * 8 + n)), .ref (mj_NE + 4)], Wd xs L A1 V Y, 0, 0)) ok_Land_findNeighbours 64 [] rfl trivial)
        exact ⟨_, _, r_tr s8 (fin _ (by unfold nb; rw [if_pos hin2]))⟩
      · have s5 := r_tr s3 (q_V ok_Land_findNeighbours ok_Land_has se_Land_has (c_has0 hw0 hh0 hin2 ⟨by omega, by omega, by omega, by omega⟩ ⟨by omega, by omega, by omega, by omega⟩) rfl rfl rfl rfl rfl ⟨rfl, rfl, rfl⟩)
        have s8 := r_tr s5 (r_to (g' := (64, [.ref (mj_NE + 1), .int (iI x), .int (iI y), .int (iI n), .int (iI (x + sxI n)), .int (iI (y + syI n))], [.int (-1), .int (iI ((y * w + x) * 8 + n)), .ref (mj_NE + 4)], Wd xs L A1 V Y, 0, 0)) ok_Land_findNeighbours 64 [true] rfl ⟨by show ((0 : Int32) = 0); rfl, trivial⟩)
        rw [iI_neg1] at s8
        exact ⟨_, _, r_tr s8 (fin _ (by unfold nb; rw [if_neg hin2]))⟩
  obtain ⟨u1, u2, hr⟩ := lp 8 (Nat.le_refl _)
  refine ct_of ok_Land_findNeighbours rfl (r_tr (r_to ok_Land_findNeighbours 2 [] rfl trivial) (r_tr hr (r_to ok_Land_findNeighbours 9999 [true] rfl ⟨?_, trivial⟩))) rfl rfl rfl rfl rfl
  show (8 : Int32) ≤ iI 8
  exact Int32.le_refl _
end LAND2
