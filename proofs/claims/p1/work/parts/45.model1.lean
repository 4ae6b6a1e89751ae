/-! THE REFERENCE: its cells behind the class's, its small methods -/
/-- the reference (thrown t, its land, brook b), the land, its heights; what lies behind them -/
abbrev mY (t b : Int32) (ld : Nat) (f : Nat → Int32) (Z : mj_H) : mj_H := .inr (10, [.int t, .ref ld, .int b]) :: .inr (9, [.int (iI 12), .int (iI 12), .ref (mj_NE + 34)]) :: mj_ia 144 f :: Z
theorem c_isIn {v lo hi : Int} {hp : mj_H} (rv : -2147483648 ≤ v ∧ v ≤ 2147483647) (h2 : -2147483648 ≤ lo ∧ lo ≤ 2147483647 ∧ -2147483648 ≤ hi ∧ hi ≤ 2147483647) : mj_Ct m_M_isIn [.int (iI v), .int (iI lo), .int (iI hi)] hp (some (.int (bI (decide (lo ≤ v ∧ v ≤ hi))))) hp 0 0 0 := by
  by_cases q : v < lo
  · rw [decide_eq_false (by omega)]
    exact ct_of ok_M_isIn rfl (r_to ok_M_isIn 9999 [true] rfl ⟨by
      show iI v < iI lo
      rw [iI_lt rv ⟨by omega, by omega⟩]
      exact q, trivial⟩) rfl rfl ⟨rfl, bI_nar false⟩ rfl rfl
  · have n1 : ¬ (iI v < iI lo) := by rw [iI_lt rv ⟨by omega, by omega⟩]; exact q
    by_cases q2 : hi < v
    · rw [decide_eq_false (by omega)]
      exact ct_of ok_M_isIn rfl (r_to ok_M_isIn 9999 [false, true] rfl ⟨n1, by
        show iI hi < iI v
        rw [iI_lt ⟨by omega, by omega⟩ rv]
        exact q2, trivial⟩) rfl rfl ⟨rfl, bI_nar false⟩ rfl rfl
    · rw [decide_eq_true (by omega)]
      exact ct_of ok_M_isIn rfl (r_to ok_M_isIn 9999 [false, false] rfl ⟨n1, by
        show ¬ (iI hi < iI v)
        rw [iI_lt ⟨by omega, by omega⟩ rv]
        exact q2, trivial⟩) rfl rfl ⟨rfl, bI_nar true⟩ rfl rfl
section REF
variable {xs : Nat → Int32} {L : Nat} {A : Nat → Nat → Int32} {V : Nat → Int32} {t b : Int32} {ld : Nat} {f : Nat → Int32} {Z : mj_H}
theorem c_thrown : mj_Ct m_M_thrown [.ref (mj_NE + 32)] (Wd xs L A V (mY t b ld f Z)) (some (.int t)) (Wd xs L A V (mY t b ld f Z)) 0 0 0 :=
  ct_of ok_M_thrown rfl (r_to ok_M_thrown 9999 [] rfl trivial) rfl rfl rfl rfl rfl
theorem c_plain {v : Int32} : mj_Ct m_M_plain [.ref (mj_NE + 32), .int v] (Wd xs L A V (mY t b ld f Z)) (some (.int v)) (Wd xs L A V (mY (iI 0) b ld f Z)) 0 0 0 :=
  ct_of ok_M_plain rfl (r_to ok_M_plain 9999 [] rfl trivial) rfl rfl rfl rfl rfl
/-- refuse, where nothing has been refused before -/
theorem c_refuse {q : Bool} {k : Int} (hk : 1 ≤ k ∧ k ≤ 9) : mj_Ct m_M_refuse [.ref (mj_NE + 32), .int (bI q), .int (iI k)] (Wd xs L A V (mY (iI 0) b ld f Z)) (some (.int (bI q))) (Wd xs L A V (mY (if q = true then iI k else iI 0) b ld f Z)) 0 0 0 := by
  cases q with
  | true =>
    exact ct_of ok_M_refuse rfl (r_to ok_M_refuse 9999 [false, false, false] rfl ⟨by show ¬ ((1 : Int32) = 0); decide, fun q => q rfl, by
      show ¬ (iI k ≤ iI 0)
      rw [iI_le ⟨by omega, by omega⟩ ⟨by omega, by omega⟩]
      omega, trivial⟩) rfl rfl ⟨rfl, bI_nar true⟩ rfl rfl
  | false =>
    exact ct_of ok_M_refuse rfl (r_to ok_M_refuse 9999 [true, true] rfl ⟨by show ((0 : Int32) = 0); rfl, by show iI 0 ≤ iI 0; exact Int32.le_refl _, trivial⟩) rfl rfl ⟨rfl, bI_nar false⟩ rfl rfl
theorem c_start {q : Bool} {k : Int} (hk : 1 ≤ k ∧ k ≤ 9) : mj_Ct m_M_start [.ref (mj_NE + 32), .int (bI q), .int (iI k)] (Wd xs L A V (mY t b ld f Z)) (some (.int (bI q))) (Wd xs L A V (mY (if q = true then iI k else iI 0) b ld f Z)) 0 0 1 := by
  have t1 := r_to (RC := 0) (RS := 0) (dd := 1) (g := (0, [.ref (mj_NE + 32), .int (bI q), .int (iI k)], [], Wd xs L A V (mY t b ld f Z), 0, 0)) (g' := (8, [.ref (mj_NE + 32), .int (bI q), .int (iI k)], [.int (iI k), .int (bI q), .ref (mj_NE + 32)], Wd xs L A V (mY (iI 0) b ld f Z), 0, 0)) ok_M_start 9999 [] rfl trivial
  have t2 := r_tr t1 (q_V ok_M_start ok_M_refuse se_M_refuse (c_refuse hk) rfl rfl rfl rfl rfl ⟨rfl, rfl, rfl⟩)
  exact ct_of ok_M_start rfl t2 rfl rfl ⟨rfl, bI_nar q⟩ rfl rfl
/-- whether (x, y) is no FIELD of the first land -/
def noB (x y : Int) : Bool := decide (¬ ((0 ≤ x ∧ x < 12) ∧ 0 ≤ y ∧ y < 12))
theorem c_isNo {x y : Int} (rx : -2147483648 ≤ x ∧ x ≤ 2147483647) (ry : -2147483648 ≤ y ∧ y ≤ 2147483647) : mj_Ct m_M_isNo [.ref (mj_NE + 32), .int (iI x), .int (iI y)] (Wd xs L A V (mY t b (mj_NE + 33) f Z)) (some (.int (bI (noB x y)))) (Wd xs L A V (mY t b (mj_NE + 33) f Z)) 0 0 1 := by
  have t1 := r_to (RC := 0) (RS := 0) (dd := 1) (g := (0, [.ref (mj_NE + 32), .int (iI x), .int (iI y)], [], Wd xs L A V (mY t b (mj_NE + 33) f Z), 0, 0)) (g' := (11, [.ref (mj_NE + 32), .int (iI x), .int (iI y)], [.int (iI 12 - iI 1), .int (iI 0), .int (iI x)], Wd xs L A V (mY t b (mj_NE + 33) f Z), 0, 0)) ok_M_isNo 9999 [] rfl trivial
  rw [iI_sub] at t1
  have t2 := r_tr t1 (q_S ok_M_isNo ok_M_isIn st_M_isIn (c_isIn (lo := 0) (hi := 12 - 1) rx ⟨by omega, by omega, by omega, by omega⟩) rfl rfl rfl rfl ⟨rfl, rfl, rfl⟩)
  by_cases hx : 0 ≤ x ∧ x ≤ 12 - 1
  · rw [decide_eq_true hx] at t2
    have t3 : mj_Rc m_M_isNo 0 0 1 (14, [.ref (mj_NE + 32), .int (iI x), .int (iI y)], [.int (bI true)], Wd xs L A V (mY t b (mj_NE + 33) f Z), 0, 0) (28, [.ref (mj_NE + 32), .int (iI x), .int (iI y)], [.int (iI 12 - iI 1), .int (iI 0), .int (iI y)], Wd xs L A V (mY t b (mj_NE + 33) f Z), 0, 0) := r_to ok_M_isNo 9999 [false] rfl ⟨by show ¬ ((1 : Int32) = 0); decide, trivial⟩
    rw [iI_sub] at t3
    have t4 := r_tr (r_tr t2 t3) (q_S ok_M_isNo ok_M_isIn st_M_isIn (c_isIn (lo := 0) (hi := 12 - 1) ry ⟨by omega, by omega, by omega, by omega⟩) rfl rfl rfl rfl ⟨rfl, rfl, rfl⟩)
    by_cases hy : 0 ≤ y ∧ y ≤ 12 - 1
    · rw [decide_eq_true hy] at t4
      have e : noB x y = false := decide_eq_false (by omega)
      rw [e]
      exact ct_of ok_M_isNo rfl (r_tr t4 (r_to ok_M_isNo 9999 [true] rfl ⟨by show ¬ ((1 : Int32) = 0); decide, trivial⟩)) rfl rfl ⟨rfl, bI_nar false⟩ rfl rfl
    · rw [decide_eq_false hy] at t4
      have e : noB x y = true := decide_eq_true (by omega)
      rw [e]
      exact ct_of ok_M_isNo rfl (r_tr t4 (r_to ok_M_isNo 9999 [false] rfl ⟨fun q => q rfl, trivial⟩)) rfl rfl ⟨rfl, bI_nar true⟩ rfl rfl
  · rw [decide_eq_false hx] at t2
    have e : noB x y = true := decide_eq_true (by omega)
    rw [e]
    exact ct_of ok_M_isNo rfl (r_tr t2 (r_to ok_M_isNo 9999 [true] rfl ⟨by show ((0 : Int32) = 0); rfl, trivial⟩)) rfl rfl ⟨rfl, bI_nar true⟩ rfl rfl
theorem c_isNoField {x y : Int} (rx : -2147483648 ≤ x ∧ x ≤ 2147483647) (ry : -2147483648 ≤ y ∧ y ≤ 2147483647) : mj_Ct m_M_isNoField [.ref (mj_NE + 32), .int (iI x), .int (iI y)] (Wd xs L A V (mY t b (mj_NE + 33) f Z)) (some (.int (bI (noB x y)))) (Wd xs L A V (mY (if noB x y = true then iI 1 else iI 0) b (mj_NE + 33) f Z)) 0 0 2 := by
  have t1 := r_to (RC := 0) (RS := 0) (dd := 2) (g := (0, [.ref (mj_NE + 32), .int (iI x), .int (iI y)], [], Wd xs L A V (mY t b (mj_NE + 33) f Z), 0, 0)) (g' := (4, [.ref (mj_NE + 32), .int (iI x), .int (iI y)], [.int (iI y), .int (iI x), .ref (mj_NE + 32), .ref (mj_NE + 32)], Wd xs L A V (mY t b (mj_NE + 33) f Z), 0, 0)) ok_M_isNoField 9999 [] rfl trivial
  have t2 := r_tr t1 (q_V ok_M_isNoField ok_M_isNo se_M_isNo (c_isNo rx ry) rfl rfl rfl rfl rfl ⟨rfl, rfl, rfl⟩)
  have t3 := r_tr t2 (r_to (g' := (8, [.ref (mj_NE + 32), .int (iI x), .int (iI y)], [.int (iI 1), .int (bI (noB x y)), .ref (mj_NE + 32)], Wd xs L A V (mY t b (mj_NE + 33) f Z), 0, 0)) ok_M_isNoField 9999 [] rfl trivial)
  have t4 := r_tr t3 (q_V ok_M_isNoField ok_M_start se_M_start (c_start (k := 1) ⟨by omega, by omega⟩) rfl rfl rfl rfl rfl ⟨rfl, rfl, rfl⟩)
  exact ct_of ok_M_isNoField rfl t4 rfl rfl ⟨rfl, bI_nar _⟩ rfl rfl
theorem c_number {x y : Int} : mj_Ct m_M_number [.ref (mj_NE + 32), .int (iI x), .int (iI y)] (Wd xs L A V (mY t b (mj_NE + 33) f Z)) (some (.int (iI (y * 12 + x)))) (Wd xs L A V (mY t b (mj_NE + 33) f Z)) 0 0 0 := by
  have t1 : mj_Rc m_M_number 0 0 0 (0, [.ref (mj_NE + 32), .int (iI x), .int (iI y)], [], Wd xs L A V (mY t b (mj_NE + 33) f Z), 0, 0) (11, [.ref (mj_NE + 32), .int (iI x), .int (iI y)], [.int (iI y * iI 12 + iI x)], Wd xs L A V (mY t b (mj_NE + 33) f Z), 0, 0) := r_to ok_M_number 9999 [] rfl trivial
  rw [iI_mul, iI_add] at t1
  exact ct_of ok_M_number rfl t1 rfl rfl rfl rfl rfl
theorem c_MLsize : mj_Ct m_ML_size [.ref (mj_NE + 33)] (Wd xs L A V (mY t b ld f Z)) (some (.int (iI 144))) (Wd xs L A V (mY t b ld f Z)) 0 0 0 :=
  ct_of ok_ML_size rfl (r_to ok_ML_size 9999 [] rfl trivial) rfl rfl rfl rfl rfl
end REF
