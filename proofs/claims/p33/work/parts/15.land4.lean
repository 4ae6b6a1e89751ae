/-! Land: the EDGE, the FIELDS between two, tilting -/
def bI (b : Bool) : Int32 := match b with | true => 1 | false => 0
theorem bI_nar (b : Bool) : narrow .boolean (.int (bI b)) = .int (bI b) := by cases b <;> rfl
def edgeB (w h : Int) (i : Nat) : Bool := (((false || decide (nbi w h i 0 < 0)) || decide (nbi w h i 2 < 0)) || decide (nbi w h i 4 < 0)) || decide (nbi w h i 6 < 0)
theorem nbi_bd {w h : Int} (hw : 2 ≤ w ∧ w ≤ 16) (hh : 2 ≤ h ∧ h ≤ 16) (i d : Nat) : -1 ≤ nbi w h i d ∧ nbi w h i d < w * h := nb_bd hw hh d
theorem wh_bd {w h : Int} (hw : 2 ≤ w ∧ w ≤ 16) (hh : 2 ≤ h ∧ h ≤ 16) : 4 ≤ w * h ∧ w * h ≤ 256 := by
  have h4 : w * h ≤ 16 * h := Int.mul_le_mul_of_nonneg_right hw.2 (by omega)
  have h5 : 2 * h ≤ w * h := Int.mul_le_mul_of_nonneg_right hw.1 (by omega)
  omega
/-- the first k places of f are g's -/
def pw (g f : Nat → Int32) (k : Nat) : Nat → Int32 := fun j => if j < k then g j else f j
theorem pw_0 {g f : Nat → Int32} : pw g f 0 = f := by
  funext j
  simp [pw]
theorem pw_s {g f : Nat → Int32} {k : Nat} {x : Int32} (h : x = g k) : upd (pw g f k) k x = pw g f (k + 1) := by
  funext j
  simp only [upd, pw]
  by_cases h1 : j = k
  · subst h1; simp [h]
  · by_cases h2 : j < k
    · rw [if_neg h1, if_pos h2, if_pos (by omega)]
    · rw [if_neg h1, if_neg h2, if_neg (by omega)]
theorem pw_lt {g f : Nat → Int32} {k j : Nat} (h : j < k) : pw g f k j = g j := if_pos h
theorem pw_ge {g f : Nat → Int32} {k j : Nat} (h : ¬ j < k) : pw g f k j = f j := if_neg h
def btw (p q k n : Int) : Int := if n < 1 then p else p + (2 * k * (q - p) + n) / (2 * n)
theorem btw_in {p q k n : Int} (h0 : 0 ≤ k) (h1 : k ≤ n) (h2 : q - p ≤ n) (h3 : p - q ≤ n) : (p ≤ q → p ≤ btw p q k n ∧ btw p q k n ≤ q) ∧ (q ≤ p → q ≤ btw p q k n ∧ btw p q k n ≤ p) := by
  unfold btw
  by_cases hn : n < 1
  · rw [if_pos hn]
    omega
  · rw [if_neg hn]
    generalize hD : q - p = D at *
    have e1 : 2 * k * D = 2 * (k * D) := Int.mul_assoc _ _ _
    rw [e1]
    refine ⟨fun hpq => ?_, fun hpq => ?_⟩
    · have hD0 : 0 ≤ D := by omega
      have k1 : 0 ≤ k * D := Int.mul_nonneg h0 hD0
      have k2 : k * D ≤ n * D := Int.mul_le_mul_of_nonneg_right h1 hD0
      have q1 : 0 ≤ (2 * (k * D) + n) / (2 * n) := Int.ediv_nonneg (by omega) (by omega)
      have q2 : (2 * (k * D) + n) / (2 * n) < D + 1 := Int.ediv_lt_of_lt_mul (by omega) (by
        have e2 : (D + 1) * (2 * n) = 2 * (n * D) + 2 * n := by rw [Int.add_mul, Int.one_mul, Int.mul_left_comm D 2 n, Int.mul_comm D n]
        omega)
      omega
    · have hD0 : D ≤ 0 := by omega
      have k1 : k * D ≤ 0 := Int.mul_nonpos_of_nonneg_of_nonpos h0 hD0
      have k2 : n * D ≤ k * D := Int.mul_le_mul_of_nonpos_right h1 hD0
      have q1 : D ≤ (2 * (k * D) + n) / (2 * n) := Int.le_ediv_of_mul_le (by omega) (by
        have e2 : D * (2 * n) = 2 * (n * D) := by rw [Int.mul_left_comm D 2 n, Int.mul_comm D n]
        omega)
      have q2 : (2 * (k * D) + n) / (2 * n) < 1 := Int.ediv_lt_of_lt_mul (by omega) (by omega)
      omega

section LAND4
variable {xs : Nat → Int32} {L : Nat} {A : Nat → Nat → Int32} {V : Nat → Int32} {Y : mj_H}
variable {w h : Int} {n : Nat} {H : Nat → Int}
theorem c_nbr {i d : Nat} {N : Nat} (hN : nbOK w h (A 2) N) (hi : i < N) (hN2 : N ≤ 256) (hd : d < 8) : mj_Ct m_Land_neighbour [.ref (mj_NE + 1), .int (iI i), .int (iI d)] (Wd xs L A V Y) (some (.int (iI (nbi w h i d)))) (Wd xs L A V Y) 0 0 0 := by
  have e : iI (i : Int) * 8 + iI d = iI ((i * 8 + d : Nat) : Int) := by
    show iI i * iI 8 + iI d = _
    rw [iI_mul, iI_add]
    rfl
  have h1 := c_neighbour (xs := xs) (L := L) (A := A) (V := V) (Y := Y) (x := iI i) (d := iI d) (by rw [e]; exact in_nat (by omega) (by omega))
  rw [e, cl_nat (by omega), hN i hi d hd] at h1
  exact h1
theorem c_atEdge {i N : Nat} (hw : 2 ≤ w ∧ w ≤ 16) (hh : 2 ≤ h ∧ h ≤ 16) (hN : nbOK w h (A 2) N) (hi : i < N) (hN2 : N ≤ 256) : mj_Ct m_Land_atEdge [.ref (mj_NE + 1), .int (iI i)] (Wd xs L A V Y) (some (.int (bI (edgeB w h i)))) (Wd xs L A V Y) 0 0 1 := by
  have wh := wh_bd hw hh
  have stp : ∀ (dI : Int) (d : Nat), dI = d → d < 8 → ∀ b : Bool, mj_Rc m_Land_atEdge 0 0 1 (4, [.ref (mj_NE + 1), .int (iI i), .int (bI b), .int (iI dI)], [], Wd xs L A V Y, 0, 0) (4, [.ref (mj_NE + 1), .int (iI i), .int (bI (b || decide (nbi w h i d < 0))), .int (iI (dI + 2))], [], Wd xs L A V Y, 0, 0) := by
    intro dI d hdI hd b
    have bd := nbi_bd hw hh i d
    have cnd : ¬ (iI 8 ≤ iI dI) := by rw [iI_le ⟨by omega, by omega⟩ ⟨by omega, by omega⟩]; omega
    rw [← iI_add]
    cases b with
    | true => exact r_to ok_Land_atEdge 4 [false, true] rfl ⟨cnd, by show ¬ ((1 : Int32) = 0); decide, trivial⟩
    | false =>
      have s1 : mj_Rc m_Land_atEdge 0 0 1 (4, [.ref (mj_NE + 1), .int (iI i), .int (bI false), .int (iI dI)], [], Wd xs L A V Y, 0, 0) (17, [.ref (mj_NE + 1), .int (iI i), .int (bI false), .int (iI dI)], [.int (iI dI), .int (iI i), .ref (mj_NE + 1)], Wd xs L A V Y, 0, 0) := r_to ok_Land_atEdge 9999 [false, false] rfl ⟨cnd, by show ¬ ¬ ((0 : Int32) = 0); decide, trivial⟩
      rw [hdI] at s1 ⊢
      have s2 := r_tr s1 (q_V ok_Land_atEdge ok_Land_neighbour se_Land_neighbour (c_nbr hN hi hN2 hd) rfl rfl rfl rfl rfl ⟨rfl, rfl, rfl⟩)
      by_cases hn : nbi w h i d < 0
      · rw [decide_eq_true hn]
        exact r_tr s2 (r_to ok_Land_atEdge 4 [false] rfl ⟨by
          show ¬ (iI 0 ≤ iI (nbi w h i d))
          rw [iI_le ⟨by omega, by omega⟩ ⟨by omega, by omega⟩]
          omega, trivial⟩)
      · rw [decide_eq_false hn]
        exact r_tr s2 (r_to ok_Land_atEdge 4 [true] rfl ⟨by
          show iI 0 ≤ iI (nbi w h i d)
          rw [iI_le ⟨by omega, by omega⟩ ⟨by omega, by omega⟩]
          omega, trivial⟩)
  have s0 := r_to (RC := 0) (RS := 0) (dd := 1) (g := (0, [.ref (mj_NE + 1), .int (iI i), mj_u, mj_u], [], Wd xs L A V Y, 0, 0)) (g' := (4, [.ref (mj_NE + 1), .int (iI i), .int (bI false), .int (iI 0)], [], Wd xs L A V Y, 0, 0)) ok_Land_atEdge 4 [] rfl trivial
  have s1 := r_tr (r_tr (r_tr (r_tr s0 (stp 0 0 rfl (by omega) _)) (stp (0 + 2) 2 rfl (by omega) _)) (stp (0 + 2 + 2) 4 rfl (by omega) _)) (stp (0 + 2 + 2 + 2) 6 rfl (by omega) _)
  exact ct_of ok_Land_atEdge rfl (r_tr s1 (r_to ok_Land_atEdge 9999 [true] rfl ⟨by show iI 8 ≤ iI 8; exact Int32.le_refl _, trivial⟩)) rfl rfl ⟨rfl, bI_nar _⟩ rfl rfl
theorem c_slanted {d : Nat} (hd : d < 8) : mj_Ct m_Land_slanted [.int (iI d)] (Wd xs L A V Y) (some (.int (bI (decide (d % 2 = 1))))) (Wd xs L A V Y) 0 0 0 := by
  have e : iI (d : Int) - iI d / iI 2 * iI 2 = iI ((d % 2 : Nat) : Int) := by
    rw [iI_rem ⟨by omega, by omega⟩ ⟨by omega, by omega⟩, Int.tmod_eq_emod_of_nonneg (by omega)]
    rfl
  by_cases h1 : d % 2 = 1
  · rw [decide_eq_true h1]
    exact ct_of ok_Land_slanted rfl (r_to ok_Land_slanted 9999 [false] rfl ⟨by show ¬ (iI 2 = iI 0); decide +kernel, by
      show ¬ ¬ (iI d - iI d / iI 2 * iI 2 = 1)
      rw [e, h1]
      exact fun q => q rfl, trivial⟩) rfl rfl ⟨rfl, rfl⟩ rfl rfl
  · rw [decide_eq_false h1]
    have h0 : d % 2 = 0 := by omega
    exact ct_of ok_Land_slanted rfl (r_to ok_Land_slanted 9999 [true] rfl ⟨by show ¬ (iI 2 = iI 0); decide +kernel, by
      show ¬ (iI d - iI d / iI 2 * iI 2 = 1)
      rw [e, h0]
      decide +kernel, trivial⟩) rfl rfl ⟨rfl, rfl⟩ rfl rfl
theorem c_stepsBetween {x y p q : Int} {hh : mj_H} (h1 : -1000 ≤ x ∧ x ≤ 1000 ∧ -1000 ≤ y ∧ y ≤ 1000 ∧ -1000 ≤ p ∧ p ≤ 1000 ∧ -1000 ≤ q ∧ q ≤ 1000) : mj_Ct m_Land_stepsBetween [.int (iI x), .int (iI y), .int (iI p), .int (iI q)] hh (some (.int (iI (max ((p - x).natAbs : Int) ((q - y).natAbs : Int))))) hh 0 0 1 := by
  have s1 : mj_Rc m_Land_stepsBetween 0 0 1 (0, [.int (iI x), .int (iI y), .int (iI p), .int (iI q)], [], hh, 0, 0) (3, [.int (iI x), .int (iI y), .int (iI p), .int (iI q)], [.int (iI p - iI x)], hh, 0, 0) := r_to ok_Land_stepsBetween 9999 [] rfl trivial
  rw [iI_sub] at s1
  have s2 := r_tr s1 (q_S ok_Land_stepsBetween ok_Math_abs st_Math_abs (c_abs (a := p - x) ⟨by omega, by omega⟩) rfl rfl rfl rfl ⟨rfl, rfl, rfl⟩)
  have s3 : mj_Rc m_Land_stepsBetween 0 0 1 (6, [.int (iI x), .int (iI y), .int (iI p), .int (iI q)], [.int (iI ((p - x).natAbs : Int))], hh, 0, 0) (9, [.int (iI x), .int (iI y), .int (iI p), .int (iI q)], [.int (iI q - iI y), .int (iI ((p - x).natAbs : Int))], hh, 0, 0) := r_to ok_Land_stepsBetween 9999 [] rfl trivial
  rw [iI_sub] at s3
  have s4 := r_tr (r_tr s2 s3) (q_S ok_Land_stepsBetween ok_Math_abs st_Math_abs (c_abs (a := q - y) ⟨by omega, by omega⟩) rfl rfl rfl rfl ⟨rfl, rfl, rfl⟩)
  have s5 := r_tr s4 (q_S ok_Land_stepsBetween ok_Math_max st_Math_max (c_max (a := ((p - x).natAbs : Int)) (b := ((q - y).natAbs : Int)) ⟨by omega, by omega⟩ ⟨by omega, by omega⟩) rfl rfl rfl rfl ⟨rfl, rfl, rfl⟩)
  exact ct_of ok_Land_stepsBetween rfl s5 rfl rfl rfl rfl rfl
theorem c_between {p q k n : Int} {hh : mj_H} (h1 : 0 ≤ p ∧ p ≤ 100 ∧ 0 ≤ q ∧ q ≤ 100 ∧ 0 ≤ k ∧ k ≤ 100 ∧ 0 ≤ n ∧ n ≤ 100) : mj_Ct m_Land_between [.int (iI p), .int (iI q), .int (iI k), .int (iI n)] hh (some (.int (iI (btw p q k n)))) hh 0 0 1 := by
  unfold btw
  by_cases hn : n < 1
  · rw [if_pos hn]
    exact ct_of ok_Land_between rfl (r_to ok_Land_between 9999 [false] rfl ⟨by
      show ¬ (iI 1 ≤ iI n)
      rw [iI_le ⟨by omega, by omega⟩ ⟨by omega, by omega⟩]
      omega, trivial⟩) rfl rfl rfl rfl rfl
  · rw [if_neg hn, ← iI_add]
    have bd : -10000 ≤ k * (q - p) ∧ k * (q - p) ≤ 10000 := by
      have k1 : k * (q - p) ≤ k * 100 := Int.mul_le_mul_of_nonneg_left (by omega) (by omega)
      have k2 : k * (-100) ≤ k * (q - p) := Int.mul_le_mul_of_nonneg_left (by omega) (by omega)
      omega
    have e0 : 2 * k * (q - p) = 2 * (k * (q - p)) := Int.mul_assoc _ _ _
    have s1 : mj_Rc m_Land_between 0 0 1 (0, [.int (iI p), .int (iI q), .int (iI k), .int (iI n)], [], hh, 0, 0) (22, [.int (iI p), .int (iI q), .int (iI k), .int (iI n)], [.int (iI 2 * iI n), .int (iI 2 * iI k * (iI q - iI p) + iI n), .int (iI p)], hh, 0, 0) := r_to ok_Land_between 9999 [true] rfl ⟨by
      show iI 1 ≤ iI n
      rw [iI_le ⟨by omega, by omega⟩ ⟨by omega, by omega⟩]
      omega, trivial⟩
    rw [iI_sub, iI_mul, iI_mul, iI_mul, iI_add] at s1
    have s2 := r_tr s1 (q_S ok_Land_between ok_Math_floorDiv st_Math_floorDiv (c_floorDiv (a := 2 * k * (q - p) + n) (b := 2 * n) ⟨by omega, by omega⟩ ⟨by omega, by omega⟩) rfl rfl rfl rfl ⟨rfl, rfl, rfl⟩)
    exact ct_of ok_Land_between rfl (r_tr s2 (r_to ok_Land_between 9999 [] rfl trivial)) rfl rfl rfl rfl rfl
end LAND4
