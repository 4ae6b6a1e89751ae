/-! THE LAW'S WALK: branches, the corners of a number, where the EDGE is -/
theorem b_lt {a b : Int} (ha : -2147483648 ≤ a ∧ a ≤ 2147483647) (hb : -2147483648 ≤ b ∧ b ≤ 2147483647) (h : a < b) : iI a < iI b := (iI_lt ha hb).mpr h
theorem b_nlt {a b : Int} (ha : -2147483648 ≤ a ∧ a ≤ 2147483647) (hb : -2147483648 ≤ b ∧ b ≤ 2147483647) (h : b ≤ a) : ¬ (iI a < iI b) := fun q => by have := (iI_lt ha hb).mp q; omega
theorem b_le {a b : Int} (ha : -2147483648 ≤ a ∧ a ≤ 2147483647) (hb : -2147483648 ≤ b ∧ b ≤ 2147483647) (h : a ≤ b) : iI a ≤ iI b := (iI_le ha hb).mpr h
theorem b_nle {a b : Int} (ha : -2147483648 ≤ a ∧ a ≤ 2147483647) (hb : -2147483648 ≤ b ∧ b ≤ 2147483647) (h : b < a) : ¬ (iI a ≤ iI b) := fun q => by have := (iI_le ha hb).mp q; omega
theorem b_eq {a b : Int} (h : a = b) : iI a = iI b := by rw [h]
theorem b_nne {a b : Int} (h : a = b) : ¬ (¬ (iI a = iI b)) := fun q => q (by rw [h])
theorem b_ne {a b : Int} (ha : -2147483648 ≤ a ∧ a ≤ 2147483647) (hb : -2147483648 ≤ b ∧ b ≤ 2147483647) (h : ¬ (a = b)) : ¬ (iI a = iI b) := fun q => h ((iI_eq ha hb).mp q)
theorem tm_xy {w h : Int} {n e : Nat} (hw : 2 ≤ w ∧ w ≤ 16) (hnw : (n : Int) = w * h) (he : e < n) : (0 ≤ (e : Int).tmod w ∧ (e : Int).tmod w < w) ∧ (0 ≤ (e : Int).tdiv w ∧ (e : Int).tdiv w < h) ∧ ((e : Int).tdiv w * w + (e : Int).tmod w).toNat = e := by
  rw [Int.tmod_eq_emod_of_nonneg (by omega), Int.tdiv_eq_ediv_of_nonneg (by omega)]
  have h1 := Int.emod_nonneg (e : Int) (show w ≠ 0 by omega)
  have h2 := Int.emod_lt_of_pos (e : Int) (show 0 < w by omega)
  have h3 := Int.mul_ediv_add_emod (e : Int) w
  have h4 := Int.ediv_nonneg (show 0 ≤ (e : Int) by omega) (show 0 ≤ w by omega)
  have h5 : (e : Int) / w < h := Int.ediv_lt_of_lt_mul (by omega) (by rw [Int.mul_comm]; omega)
  rw [Int.mul_comm] at h3
  exact ⟨⟨h1, h2⟩, ⟨h4, h5⟩, by omega⟩
theorem edge_xy {w h x y : Int} {j : Nat} (hw : 2 ≤ w ∧ w ≤ 16) (hh : 2 ≤ h ∧ h ≤ 16) (hx : 0 ≤ x ∧ x < w) (hy : 0 ≤ y ∧ y < h) (hj : (j : Int) = y * w + x) : edgeB w h j = decide (x = 0 ∨ y = 0 ∨ x = w - 1 ∨ y = h - 1) := by
  have hxy := num_xy (w := w) (y := y) (by omega) hx
  have nbb := num_bd hw hh hx hy
  have b1 : 0 ≤ y * w := Int.mul_nonneg hy.1 (by omega)
  have e0 : decide (nbi w h j 0 < 0) = decide (x = w - 1) := by
    unfold nbi nb
    rw [hj, hxy.1, hxy.2, show sxI 0 = 1 from rfl, show syI 0 = 0 from rfl]
    apply decide_eq_decide.mpr
    split
    · rename_i q0
      have b2 := Int.mul_nonneg q0.2.2.1 (show 0 ≤ w by omega)
      constructor <;> intro q <;> omega
    · rename_i q0
      constructor <;> intro q <;> omega
  have e2 : decide (nbi w h j 2 < 0) = decide (y = h - 1) := by
    unfold nbi nb
    rw [hj, hxy.1, hxy.2, show sxI 2 = 0 from rfl, show syI 2 = 1 from rfl]
    apply decide_eq_decide.mpr
    split
    · rename_i q0
      have b2 := Int.mul_nonneg q0.2.2.1 (show 0 ≤ w by omega)
      constructor <;> intro q <;> omega
    · rename_i q0
      constructor <;> intro q <;> omega
  have e4 : decide (nbi w h j 4 < 0) = decide (x = 0) := by
    unfold nbi nb
    rw [hj, hxy.1, hxy.2, show sxI 4 = -1 from rfl, show syI 4 = 0 from rfl]
    apply decide_eq_decide.mpr
    split
    · rename_i q0
      have b2 := Int.mul_nonneg q0.2.2.1 (show 0 ≤ w by omega)
      constructor <;> intro q <;> omega
    · rename_i q0
      constructor <;> intro q <;> omega
  have e6 : decide (nbi w h j 6 < 0) = decide (y = 0) := by
    unfold nbi nb
    rw [hj, hxy.1, hxy.2, show sxI 6 = 0 from rfl, show syI 6 = -1 from rfl]
    apply decide_eq_decide.mpr
    split
    · rename_i q0
      have b2 := Int.mul_nonneg q0.2.2.1 (show 0 ≤ w by omega)
      constructor <;> intro q <;> omega
    · rename_i q0
      constructor <;> intro q <;> omega
  unfold edgeB
  rw [e0, e2, e4, e6]
  by_cases q1 : x = 0 <;> by_cases q2 : y = 0 <;> by_cases q3 : x = w - 1 <;> by_cases q4 : y = h - 1 <;> simp [q1, q2, q3, q4]
theorem lg_cmp_self {x : Int64} : lg_cmp x x = 0 := by
  unfold lg_cmp
  rw [if_neg (show ¬ (x > x) from Int64.lt_irrefl), if_pos rfl]
abbrev RL (g g' : mj_S) : Prop := mj_Rc m_law 121 8689 8 g g'
