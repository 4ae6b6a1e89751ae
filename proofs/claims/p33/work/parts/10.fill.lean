/-! Arrays.fill over the class's arrays -/
theorem wA_f {A : Nat → Nat → Int32} {k : Nat} {f g : Nat → Int32} : wA (wA A k f) k g = wA A k g := by
  funext j
  by_cases h : j = k <;> simp [va_up, h]
theorem wA_s {A : Nat → Nat → Int32} {k : Nat} {f : Nat → Int32} : (wA A k f) k = f := by simp [va_up]
theorem wA_id {A : Nat → Nat → Int32} {k : Nat} : wA A k (A k) = A := by
  funext j
  by_cases h : j = k <;> simp [va_up, h]
def fl (f : Nat → Int32) (v : Int32) (n : Nat) : Nat → Int32 := fun j => if j < n then v else f j
theorem fl_0 {f : Nat → Int32} {v : Int32} : fl f v 0 = f := by
  funext j
  simp [fl]
theorem fl_s {f : Nat → Int32} {v : Int32} {n : Nat} : upd (fl f v n) n v = fl f v (n + 1) := by
  funext j
  simp only [upd, fl]
  by_cases h1 : j = n
  · subst h1; simp
  · by_cases h2 : j < n
    · rw [if_neg h1, if_pos h2, if_pos (by omega)]
    · rw [if_neg h1, if_neg h2, if_neg (by omega)]
section FILL
variable {xs : Nat → Int32} {L : Nat} {A : Nat → Nat → Int32} {V : Nat → Int32} {Y : mj_H}
theorem c_fill_0 {v : Int32} : mj_Ct m_Arr_fill [.ref (mj_NE + 2), .int v] (Wd xs L A V Y) none (Wd xs L (wA A 0 (fl (A 0) v 256)) V Y) 0 0 0 := by
  have lp : ∀ n : Nat, n ≤ 256 → mj_Rc m_Arr_fill 0 0 0 (5, [.ref (mj_NE + 2), .int v, .int 0, .int (Int32.ofNat 256)], [], Wd xs L A V Y, 0, 0) (5, [.ref (mj_NE + 2), .int v, .int (iI n), .int (Int32.ofNat 256)], [], Wd xs L (wA A 0 (fl (A 0) v n)) V Y, 0, 0) := by
    intro n
    induction n with
    | zero => intro _; rw [fl_0, wA_id]; exact r_rf
    | succ n ih =>
      intro hn
      refine r_tr (ih (by omega)) (r_eq (r_to ok_Arr_fill 5 [false] rfl ⟨?_, ?_, trivial⟩) ?_)
      · show ¬ (Int32.ofNat 256 ≤ iI n)
        rw [show Int32.ofNat 256 = iI 256 from rfl, iI_le ⟨by omega, by omega⟩ ⟨by omega, by omega⟩]
        omega
      · exact (iI_in ⟨by omega, by omega⟩).mpr ⟨by omega, by omega⟩
      · have e : upd (fl (A 0) v n) (iI n).toNatClampNeg v = fl (A 0) v (n + 1) := by rw [iI_cl (by omega) (by omega), Int.toNat_natCast, fl_s]
        rw [← e]
        show (5, [Value.ref (mj_NE + 2), .int v, .int (iI n + 1), .int (Int32.ofNat 256)], [], _, 0, 0) = _
        rw [iI_1]
        rfl
  refine ct_of ok_Arr_fill rfl (r_tr (r_to ok_Arr_fill 5 [] rfl trivial) (r_tr (lp 256 (Nat.le_refl _)) (r_to ok_Arr_fill 9999 [true] rfl ⟨?_, trivial⟩))) rfl rfl rfl rfl rfl
  show Int32.ofNat 256 ≤ iI 256
  exact Int32.le_refl _
theorem c_fill_10 {v : Int32} : mj_Ct m_Arr_fill [.ref (mj_NE + 13), .int v] (Wd xs L A V Y) none (Wd xs L (wA A 10 (fl (A 10) v 256)) V Y) 0 0 0 := by
  have lp : ∀ n : Nat, n ≤ 256 → mj_Rc m_Arr_fill 0 0 0 (5, [.ref (mj_NE + 13), .int v, .int 0, .int (Int32.ofNat 256)], [], Wd xs L A V Y, 0, 0) (5, [.ref (mj_NE + 13), .int v, .int (iI n), .int (Int32.ofNat 256)], [], Wd xs L (wA A 10 (fl (A 10) v n)) V Y, 0, 0) := by
    intro n
    induction n with
    | zero => intro _; rw [fl_0, wA_id]; exact r_rf
    | succ n ih =>
      intro hn
      refine r_tr (ih (by omega)) (r_eq (r_to ok_Arr_fill 5 [false] rfl ⟨?_, ?_, trivial⟩) ?_)
      · show ¬ (Int32.ofNat 256 ≤ iI n)
        rw [show Int32.ofNat 256 = iI 256 from rfl, iI_le ⟨by omega, by omega⟩ ⟨by omega, by omega⟩]
        omega
      · exact (iI_in ⟨by omega, by omega⟩).mpr ⟨by omega, by omega⟩
      · have e : upd (fl (A 10) v n) (iI n).toNatClampNeg v = fl (A 10) v (n + 1) := by rw [iI_cl (by omega) (by omega), Int.toNat_natCast, fl_s]
        rw [← e]
        show (5, [Value.ref (mj_NE + 13), .int v, .int (iI n + 1), .int (Int32.ofNat 256)], [], _, 0, 0) = _
        rw [iI_1]
        rfl
  refine ct_of ok_Arr_fill rfl (r_tr (r_to ok_Arr_fill 5 [] rfl trivial) (r_tr (lp 256 (Nat.le_refl _)) (r_to ok_Arr_fill 9999 [true] rfl ⟨?_, trivial⟩))) rfl rfl rfl rfl rfl
  show Int32.ofNat 256 ≤ iI 256
  exact Int32.le_refl _
theorem c_fill_16 {v : Int32} : mj_Ct m_Arr_fill [.ref (mj_NE + 23), .int v] (Wd xs L A V Y) none (Wd xs L (wA A 16 (fl (A 16) v 512)) V Y) 0 0 0 := by
  have lp : ∀ n : Nat, n ≤ 512 → mj_Rc m_Arr_fill 0 0 0 (5, [.ref (mj_NE + 23), .int v, .int 0, .int (Int32.ofNat 512)], [], Wd xs L A V Y, 0, 0) (5, [.ref (mj_NE + 23), .int v, .int (iI n), .int (Int32.ofNat 512)], [], Wd xs L (wA A 16 (fl (A 16) v n)) V Y, 0, 0) := by
    intro n
    induction n with
    | zero => intro _; rw [fl_0, wA_id]; exact r_rf
    | succ n ih =>
      intro hn
      refine r_tr (ih (by omega)) (r_eq (r_to ok_Arr_fill 5 [false] rfl ⟨?_, ?_, trivial⟩) ?_)
      · show ¬ (Int32.ofNat 512 ≤ iI n)
        rw [show Int32.ofNat 512 = iI 512 from rfl, iI_le ⟨by omega, by omega⟩ ⟨by omega, by omega⟩]
        omega
      · exact (iI_in ⟨by omega, by omega⟩).mpr ⟨by omega, by omega⟩
      · have e : upd (fl (A 16) v n) (iI n).toNatClampNeg v = fl (A 16) v (n + 1) := by rw [iI_cl (by omega) (by omega), Int.toNat_natCast, fl_s]
        rw [← e]
        show (5, [Value.ref (mj_NE + 23), .int v, .int (iI n + 1), .int (Int32.ofNat 512)], [], _, 0, 0) = _
        rw [iI_1]
        rfl
  refine ct_of ok_Arr_fill rfl (r_tr (r_to ok_Arr_fill 5 [] rfl trivial) (r_tr (lp 512 (Nat.le_refl _)) (r_to ok_Arr_fill 9999 [true] rfl ⟨?_, trivial⟩))) rfl rfl rfl rfl rfl
  show Int32.ofNat 512 ≤ iI 512
  exact Int32.le_refl _
theorem c_fill_18 {v : Int32} : mj_Ct m_Arr_fill [.ref (mj_NE + 28), .int v] (Wd xs L A V Y) none (Wd xs L (wA A 18 (fl (A 18) v 256)) V Y) 0 0 0 := by
  have lp : ∀ n : Nat, n ≤ 256 → mj_Rc m_Arr_fill 0 0 0 (5, [.ref (mj_NE + 28), .int v, .int 0, .int (Int32.ofNat 256)], [], Wd xs L A V Y, 0, 0) (5, [.ref (mj_NE + 28), .int v, .int (iI n), .int (Int32.ofNat 256)], [], Wd xs L (wA A 18 (fl (A 18) v n)) V Y, 0, 0) := by
    intro n
    induction n with
    | zero => intro _; rw [fl_0, wA_id]; exact r_rf
    | succ n ih =>
      intro hn
      refine r_tr (ih (by omega)) (r_eq (r_to ok_Arr_fill 5 [false] rfl ⟨?_, ?_, trivial⟩) ?_)
      · show ¬ (Int32.ofNat 256 ≤ iI n)
        rw [show Int32.ofNat 256 = iI 256 from rfl, iI_le ⟨by omega, by omega⟩ ⟨by omega, by omega⟩]
        omega
      · exact (iI_in ⟨by omega, by omega⟩).mpr ⟨by omega, by omega⟩
      · have e : upd (fl (A 18) v n) (iI n).toNatClampNeg v = fl (A 18) v (n + 1) := by rw [iI_cl (by omega) (by omega), Int.toNat_natCast, fl_s]
        rw [← e]
        show (5, [Value.ref (mj_NE + 28), .int v, .int (iI n + 1), .int (Int32.ofNat 256)], [], _, 0, 0) = _
        rw [iI_1]
        rfl
  refine ct_of ok_Arr_fill rfl (r_tr (r_to ok_Arr_fill 5 [] rfl trivial) (r_tr (lp 256 (Nat.le_refl _)) (r_to ok_Arr_fill 9999 [true] rfl ⟨?_, trivial⟩))) rfl rfl rfl rfl rfl
  show Int32.ofNat 256 ≤ iI 256
  exact Int32.le_refl _
end FILL
