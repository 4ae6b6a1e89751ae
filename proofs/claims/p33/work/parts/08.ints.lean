/-! WHOLE NUMBERS on the machine: iI z is the 32-bit number of z -/
def iI (z : Int) : Int32 := Int32.ofInt z
def lI (z : Int) : Int64 := Int64.ofInt z
theorem iI_toInt {z : Int} (h1 : -2147483648 ≤ z) (h2 : z ≤ 2147483647) : (iI z).toInt = z := by
  unfold iI
  rw [Int32.toInt_ofInt_of_le (by omega) (by omega)]
theorem iI_add (a b : Int) : iI a + iI b = iI (a + b) := (Int32.ofInt_add a b).symm
theorem iI_mul (a b : Int) : iI a * iI b = iI (a * b) := (Int32.ofInt_mul a b).symm
theorem iI_neg (a : Int) : -iI a = iI (-a) := (Int32.ofInt_neg a).symm
theorem iI_sub (a b : Int) : iI a - iI b = iI (a - b) := by
  rw [Int32.sub_eq_add_neg, iI_neg, iI_add, Int.sub_eq_add_neg]
theorem iI_nat (n : Nat) : (OfNat.ofNat n : Int32) = iI (OfNat.ofNat n) := by
  show Int32.ofNat n = Int32.ofInt (n : Int)
  exact (Int32.ofInt_eq_ofNat).symm
theorem iI_lt {a b : Int} (h1 : -2147483648 ≤ a ∧ a ≤ 2147483647) (h2 : -2147483648 ≤ b ∧ b ≤ 2147483647) : iI a < iI b ↔ a < b := by
  rw [Int32.lt_iff_toInt_lt, iI_toInt h1.1 h1.2, iI_toInt h2.1 h2.2]
theorem iI_le {a b : Int} (h1 : -2147483648 ≤ a ∧ a ≤ 2147483647) (h2 : -2147483648 ≤ b ∧ b ≤ 2147483647) : iI a ≤ iI b ↔ a ≤ b := by
  rw [Int32.le_iff_toInt_le, iI_toInt h1.1 h1.2, iI_toInt h2.1 h2.2]
theorem iI_eq {a b : Int} (h1 : -2147483648 ≤ a ∧ a ≤ 2147483647) (h2 : -2147483648 ≤ b ∧ b ≤ 2147483647) : iI a = iI b ↔ a = b := by
  constructor
  · intro h
    have := congrArg Int32.toInt h
    rwa [iI_toInt h1.1 h1.2, iI_toInt h2.1 h2.2] at this
  · exact fun h => by rw [h]
theorem iI_cl {a : Int} (h1 : 0 ≤ a) (h2 : a ≤ 2147483647) : (iI a).toNatClampNeg = a.toNat := by
  show (iI a).toInt.toNat = a.toNat
  rw [iI_toInt (by omega) h2]
theorem iI_in {a : Int} {N : Nat} (h1 : -2147483648 ≤ a ∧ a ≤ 2147483647) : vp_in (iI a) N ↔ 0 ≤ a ∧ a < N := by
  rw [vp_in_iff, iI_toInt h1.1 h1.2]
theorem iI_div {a b : Int} (h1 : -2147483648 ≤ a ∧ a ≤ 2147483647) (h2 : 0 < b ∧ b ≤ 2147483647) : iI a / iI b = iI (a.tdiv b) := by
  apply Int32.toInt_inj.mp
  have hb : -2147483648 ≤ a.tdiv b ∧ a.tdiv b ≤ 2147483647 := by
    have h3 := Int.natAbs_tdiv_le_natAbs a b
    rcases Int.le_total 0 a with h | h
    · have := Int.tdiv_nonneg h (Int.le_of_lt h2.1)
      omega
    · have := Int.tdiv_nonneg (a := -a) (b := b) (by omega) (Int.le_of_lt h2.1)
      rw [Int.neg_tdiv] at this
      omega
  rw [Int32.toInt_div, iI_toInt h1.1 h1.2, iI_toInt (by omega) h2.2, iI_toInt hb.1 hb.2]
  rw [Int.bmod_eq_of_le (by omega) (by omega)]
theorem iI_rem {a b : Int} (h1 : -2147483648 ≤ a ∧ a ≤ 2147483647) (h2 : 0 < b ∧ b ≤ 2147483647) : iI a - iI a / iI b * iI b = iI (a.tmod b) := by
  rw [iI_div h1 h2, iI_mul, iI_sub]
  congr 1
  have := Int.mul_tdiv_add_tmod a b
  rw [Int.mul_comm] at this
  omega
theorem iI_l {a : Int} (h1 : -2147483648 ≤ a ∧ a ≤ 2147483647) : (iI a).toInt64 = lI a := by
  apply Int64.toInt_inj.mp
  rw [Int32.toInt_toInt64, iI_toInt h1.1 h1.2]
  unfold lI
  rw [Int64.toInt_ofInt_of_le (by omega) (by omega)]
theorem lI_add (a b : Int) : lI a + lI b = lI (a + b) := (Int64.ofInt_add a b).symm
theorem lI_mul (a b : Int) : lI a * lI b = lI (a * b) := (Int64.ofInt_mul a b).symm
theorem iI_nz {z : Int} (h : -2147483648 ≤ z ∧ z ≤ 2147483647) (h0 : z ≠ 0) : ¬ iI z = iI 0 := fun q => h0 ((iI_eq h ⟨by omega, by omega⟩).mp q)
theorem nI_iI (n : Nat) : nI n = iI n := by
  show Int32.ofNat n = Int32.ofInt (n : Int)
  exact (Int32.ofInt_eq_ofNat).symm
theorem iI_1 (a : Int) : iI a + 1 = iI (a + 1) := iI_add a 1
theorem iI_neg1 : (-1 : Int32) = iI (-1) := by decide +kernel
theorem iI_m1 (a : Int) : iI a + (-1) = iI (a - 1) := by rw [iI_neg1, iI_add]; rfl
/-- a run whose end is told otherwise -/
theorem r_eq {M : mj_M} {RC RS dd : Nat} {g g1 g2 : mj_S} (h : mj_Rc M RC RS dd g g1) (e : g1 = g2) : mj_Rc M RC RS dd g g2 := e ▸ h
