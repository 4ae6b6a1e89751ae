/-! THE REFERENCE's answers: level, lakes, lake, volume, contour, sees, seen, takes, way, steepness, volumeWith, lookout, set, reset -/
def gM : Nat → Int32 := pw (fun _ => iI (-1)) (fun _ => 0) 144
theorem gM_v {j : Nat} (hj : j < 144) : gM j = iI (-1) := by
  unfold gM
  rw [pw_lt hj]
section REF22
variable {xs : Nat → Int32} {L : Nat} {A : Nat → Nat → Int32} {V : Nat → Int32} {t b : Int32} {ld : Nat} {f : Nat → Int32} {o : Nat → Int64} {H : Nat → Int} {Z : mj_H} {z1 z2 z3 : mj_Cl}
theorem m_levelA {x y : Int} (rx : -2147483648 ≤ x ∧ x ≤ 2147483647) (ry : -2147483648 ≤ y ∧ y ≤ 2147483647) (hx : 0 ≤ x ∧ x < 12) (hy : 0 ≤ y ∧ y < 12) (hno : ∀ lev, LvOK 12 12 144 H lev → ∀ j, j < 144 → lev j = H j) (hf : Hts f 144 H) : ∃ fm fd : Nat → Int32, mj_Ct m_M_level [.ref (mj_NE + 32), .int (iI x), .int (iI y)] (Wd xs L A V (mY t b (mj_NE + 33) f [zO o])) (some (.int (iI (H (y * 12 + x).toNat)))) (Wd xs L A V (mY (iI 0) b (mj_NE + 33) f [zO o, zI fm, zB fd])) 2 288 3 := by
  obtain ⟨lev, fm, fd, hlv, hfm, hct⟩ := c_ML_levels1 (xs := xs) (L := L) (A := A) (V := V) (t := iI 0) (b := b) (ld := mj_NE + 33) (o := o) hf
  refine ⟨fm, fd, ?_⟩
  obtain ⟨j, hj⟩ : ∃ j : Nat, (j : Int) = y * 12 + x := ⟨(y * 12 + x).toNat, by omega⟩
  have hj2 : (y * 12 + x).toNat = j := by omega
  have hj3 : j < 144 := by omega
  rw [hj2]
  have s1 := r_to (RC := 2) (RS := 288) (dd := 3) (g := (0, [.ref (mj_NE + 32), .int (iI x), .int (iI y)], [], Wd xs L A V (mY t b (mj_NE + 33) f [zO o]), 0, 0)) (g' := (3, [.ref (mj_NE + 32), .int (iI x), .int (iI y)], [.int (iI y), .int (iI x), .ref (mj_NE + 32)], Wd xs L A V (mY t b (mj_NE + 33) f [zO o]), 0, 0)) ok_M_level 9999 [] rfl trivial
  have s2 := r_tr s1 (q_V ok_M_level ok_M_isNoField se_M_isNoField (c_isNoField rx ry) rfl rfl rfl rfl rfl ⟨rfl, rfl, rfl⟩)
  rw [noB_f hx hy, if_neg Bool.false_ne_true] at s2
  have s3 := r_tr s2 (r_to (RC := 2) (RS := 288) (dd := 3) (g := (6, [.ref (mj_NE + 32), .int (iI x), .int (iI y)], [.int (bI false)], Wd xs L A V (mY (iI 0) b (mj_NE + 33) f [zO o]), 0, 0)) (g' := (17, [.ref (mj_NE + 32), .int (iI x), .int (iI y)], [.ref (mj_NE + 33)], Wd xs L A V (mY (iI 0) b (mj_NE + 33) f [zO o]), 0, 0)) ok_M_level 9999 [true] rfl ⟨by show ((0 : Int32) = 0); rfl, trivial⟩)
  have s4 := r_tr s3 (q_V ok_M_level ok_ML_levels se_ML_levels (hct) rfl rfl rfl rfl rfl ⟨rfl, rfl, rfl⟩)
  have s5 := r_tr s4 (r_to (RC := 2) (RS := 288) (dd := 3) (g := (20, [.ref (mj_NE + 32), .int (iI x), .int (iI y)], [.ref (mj_NE + 36)], Wd xs L A V (mY (iI 0) b (mj_NE + 33) f [zO o, zI fm, zB fd]), 2, 288)) (g' := (23, [.ref (mj_NE + 32), .int (iI x), .int (iI y)], [.int (iI y), .int (iI x), .ref (mj_NE + 32), .ref (mj_NE + 36)], Wd xs L A V (mY (iI 0) b (mj_NE + 33) f [zO o, zI fm, zB fd]), 2, 288)) ok_M_level 9999 [] rfl trivial)
  have s6 := r_tr s5 (q_V ok_M_level ok_M_number se_M_number (c_number) rfl rfl rfl rfl rfl ⟨rfl, rfl, rfl⟩)
  rw [← hj] at s6
  have s7 := r_tr s6 (r_to (RC := 2) (RS := 288) (dd := 3) (g := (26, [.ref (mj_NE + 32), .int (iI x), .int (iI y)], [.int (iI (j : Int)), .ref (mj_NE + 36)], Wd xs L A V (mY (iI 0) b (mj_NE + 33) f [zO o, zI fm, zB fd]), 2, 288)) (g' := (27, [.ref (mj_NE + 32), .int (iI x), .int (iI y)], [.int (fm (iI (j : Int)).toNatClampNeg)], Wd xs L A V (mY (iI 0) b (mj_NE + 33) f [zO o, zI fm, zB fd]), 2, 288)) ok_M_level 9999 [] rfl ⟨in_nat hj3 (by omega), trivial⟩)
  rw [cl_nat (by omega), hfm j hj3, hno lev hlv j hj3] at s7
  exact ct_of ok_M_level rfl s7 rfl rfl rfl rfl rfl
theorem c_lakesNow (hno : ∀ lev, LvOK 12 12 144 H lev → ∀ j, j < 144 → lev j = H j) (hf : Hts f 144 H) : ∃ fm fd : Nat → Int32, mj_Ct m_M_lakesNow [.ref (mj_NE + 32)] (Wd xs L A V (mY t b (mj_NE + 33) f [zO o])) (some (.int (iI 0))) (Wd xs L A V (mY t b (mj_NE + 33) f [zO o, zI fm, zB fd, zI gM])) 3 432 3 := by
  obtain ⟨fm, fd, hct⟩ := c_ML_lakes0 (xs := xs) (L := L) (A := A) (V := V) (t := t) (b := b) (ld := mj_NE + 33) (o := o) hno hf
  refine ⟨fm, fd, ?_⟩
  have s1 := r_to (RC := 3) (RS := 432) (dd := 3) (g := (0, [.ref (mj_NE + 32), mj_u, mj_u, mj_u], [], Wd xs L A V (mY t b (mj_NE + 33) f [zO o]), 0, 0)) (g' := (4, [.ref (mj_NE + 32), mj_u, mj_u, mj_u], [.ref (mj_NE + 33)], Wd xs L A V (mY t b (mj_NE + 33) f [zO o]), 0, 0)) ok_M_lakesNow 9999 [] rfl trivial
  have s2 := r_tr s1 (q_V ok_M_lakesNow ok_ML_lakes se_ML_lakes (hct) rfl rfl rfl rfl rfl ⟨rfl, rfl, rfl⟩)
  have s3 := r_tr s2 (r_to (RC := 3) (RS := 432) (dd := 3) (g := (7, [.ref (mj_NE + 32), mj_u, mj_u, mj_u], [.ref (mj_NE + 38)], Wd xs L A V (mY t b (mj_NE + 33) f [zO o, zI fm, zB fd, zI gM]), 3, 432)) (g' := (12, [.ref (mj_NE + 32), .ref (mj_NE + 38), .int (iI 0), .int (iI 0)], [], Wd xs L A V (mY t b (mj_NE + 33) f [zO o, zI fm, zB fd, zI gM]), 3, 432)) ok_M_lakesNow 12 [] rfl trivial)
  have lp : ∀ n : Nat, n ≤ 144 → mj_Rc m_M_lakesNow 3 432 3 (0, [.ref (mj_NE + 32), mj_u, mj_u, mj_u], [], Wd xs L A V (mY t b (mj_NE + 33) f [zO o]), 0, 0) (12, [.ref (mj_NE + 32), .ref (mj_NE + 38), .int (iI 0), .int (iI (n : Int))], [], Wd xs L A V (mY t b (mj_NE + 33) f [zO o, zI fm, zB fd, zI gM]), 3, 432) := by
    intro n
    induction n with
    | zero => intro _; exact s3
    | succ n ih =>
      intro hn
      have hn2 : n < 144 := by omega
      have c0 : ¬ (iI 144 ≤ iI (n : Int)) := by rw [iI_le ⟨by omega, by omega⟩ ⟨by omega, by omega⟩]; omega
      have q1 := r_tr (ih (by omega)) (r_to (RC := 3) (RS := 432) (dd := 3) (g := (12, [.ref (mj_NE + 32), .ref (mj_NE + 38), .int (iI 0), .int (iI (n : Int))], [], Wd xs L A V (mY t b (mj_NE + 33) f [zO o, zI fm, zB fd, zI gM]), 3, 432)) (g' := (12, [.ref (mj_NE + 32), .ref (mj_NE + 38), .int ((iI 0) + (iI 0)), .int ((iI (n : Int)) + 1)], [], Wd xs L A V (mY t b (mj_NE + 33) f [zO o, zI fm, zB fd, zI gM]), 3, 432)) ok_M_lakesNow 12 [false, true] rfl ⟨c0, in_nat hn2 (by omega), by show ¬ (gM (iI (n : Int)).toNatClampNeg = iI (n : Int)); rw [cl_nat (by omega), gM_v hn2, iI_eq ⟨by omega, by omega⟩ ⟨by omega, by omega⟩]; omega, trivial⟩)
      rw [iI_1, iI_add, Int.add_zero] at q1
      exact q1
  have z1 := r_tr (lp 144 (Nat.le_refl _)) (r_to (RC := 3) (RS := 432) (dd := 3) (g := (12, [.ref (mj_NE + 32), .ref (mj_NE + 38), .int (iI 0), .int (iI ((144 : Nat) : Int))], [], Wd xs L A V (mY t b (mj_NE + 33) f [zO o, zI fm, zB fd, zI gM]), 3, 432)) (g' := (40, [.ref (mj_NE + 32), .ref (mj_NE + 38), .int (iI 0), .int (iI ((144 : Nat) : Int))], [.int (iI 0)], Wd xs L A V (mY t b (mj_NE + 33) f [zO o, zI fm, zB fd, zI gM]), 3, 432)) ok_M_lakesNow 9999 [true] rfl ⟨by show iI 144 ≤ iI ((144 : Nat) : Int); rw [iI_le ⟨by omega, by omega⟩ ⟨by omega, by omega⟩]; omega, trivial⟩)
  exact ct_of ok_M_lakesNow rfl z1 rfl rfl rfl rfl rfl
theorem m_lakesA (hno : ∀ lev, LvOK 12 12 144 H lev → ∀ j, j < 144 → lev j = H j) (hf : Hts f 144 H) : ∃ fm fd : Nat → Int32, mj_Ct m_M_lakes [.ref (mj_NE + 32)] (Wd xs L A V (mY t b (mj_NE + 33) f [zO o])) (some (.int (iI 0))) (Wd xs L A V (mY (iI 0) b (mj_NE + 33) f [zO o, zI fm, zB fd, zI gM])) 3 432 4 := by
  obtain ⟨fm, fd, hct⟩ := c_lakesNow (xs := xs) (L := L) (A := A) (V := V) (t := t) (b := b) (o := o) hno hf
  refine ⟨fm, fd, ?_⟩
  have s1 := r_to (RC := 3) (RS := 432) (dd := 4) (g := (0, [.ref (mj_NE + 32)], [], Wd xs L A V (mY t b (mj_NE + 33) f [zO o]), 0, 0)) (g' := (2, [.ref (mj_NE + 32)], [.ref (mj_NE + 32), .ref (mj_NE + 32)], Wd xs L A V (mY t b (mj_NE + 33) f [zO o]), 0, 0)) ok_M_lakes 9999 [] rfl trivial
  have s2 := r_tr s1 (q_V ok_M_lakes ok_M_lakesNow se_M_lakesNow (hct) rfl rfl rfl rfl rfl ⟨rfl, rfl, rfl⟩)
  have s3 := r_tr s2 (q_V ok_M_lakes ok_M_plain se_M_plain (c_plain) rfl rfl rfl rfl rfl ⟨rfl, rfl, rfl⟩)
  exact ct_of ok_M_lakes rfl s3 rfl rfl rfl rfl rfl
theorem m_volumeA (hno : ∀ lev, LvOK 12 12 144 H lev → ∀ j, j < 144 → lev j = H j) (hf : Hts f 144 H) : ∃ fm fd : Nat → Int32, mj_Ct m_M_volume [.ref (mj_NE + 32)] (Wd xs L A V (mY t b (mj_NE + 33) f [zO o])) (some (.int (iI 0))) (Wd xs L A V (mY (iI 0) b (mj_NE + 33) f [zO o, zI fm, zB fd])) 2 288 4 := by
  obtain ⟨fm, fd, hct⟩ := c_ML_volume1 (xs := xs) (L := L) (A := A) (V := V) (t := t) (b := b) (ld := mj_NE + 33) (o := o) hno hf
  refine ⟨fm, fd, ?_⟩
  have s1 := r_to (RC := 2) (RS := 288) (dd := 4) (g := (0, [.ref (mj_NE + 32)], [], Wd xs L A V (mY t b (mj_NE + 33) f [zO o]), 0, 0)) (g' := (5, [.ref (mj_NE + 32)], [.ref (mj_NE + 33), .ref (mj_NE + 32)], Wd xs L A V (mY t b (mj_NE + 33) f [zO o]), 0, 0)) ok_M_volume 9999 [] rfl trivial
  have s2 := r_tr s1 (q_V ok_M_volume ok_ML_volume se_ML_volume (hct) rfl rfl rfl rfl rfl ⟨rfl, rfl, rfl⟩)
  have s3 := r_tr s2 (q_V ok_M_volume ok_M_plain se_M_plain (c_plain) rfl rfl rfl rfl rfl ⟨rfl, rfl, rfl⟩)
  exact ct_of ok_M_volume rfl s3 rfl rfl rfl rfl rfl
theorem m_lakeA {x y k : Int} (rx : -2147483648 ≤ x ∧ x ≤ 2147483647) (ry : -2147483648 ≤ y ∧ y ≤ 2147483647) (hx : 0 ≤ x ∧ x < 12) (hy : 0 ≤ y ∧ y < 12) (rk : -2147483648 ≤ k ∧ k ≤ 2147483647) (hk : 0 ≤ k ∧ k ≤ 1) (hno : ∀ lev, LvOK 12 12 144 H lev → ∀ j, j < 144 → lev j = H j) (hf : Hts f 144 H) : ∃ fm fd fm2 fd2 : Nat → Int32, mj_Ct m_M_lake [.ref (mj_NE + 32), .int (iI x), .int (iI y), .int (iI k)] (Wd xs L A V (mY t b (mj_NE + 33) f [zO o])) (some (.int (iI 0))) (Wd xs L A V (mY (iI 0) b (mj_NE + 33) f [zO o, zI fm, zB fd, zI gM, zI fm2, zB fd2])) 5 720 4 := by
  obtain ⟨fm, fd, hct⟩ := c_ML_lakes0 (xs := xs) (L := L) (A := A) (V := V) (t := iI 0) (b := b) (ld := mj_NE + 33) (o := o) hno hf
  obtain ⟨lev, fm2, fd2, hlv, hfm, hct2⟩ := c_ML_levels4 (xs := xs) (L := L) (A := A) (V := V) (t := iI 0) (b := b) (ld := mj_NE + 33) (o := o) (z1 := zI fm) (z2 := zB fd) (z3 := zI gM) hf
  refine ⟨fm, fd, fm2, fd2, ?_⟩
  obtain ⟨j, hj⟩ : ∃ j : Nat, (j : Int) = y * 12 + x := ⟨(y * 12 + x).toNat, by omega⟩
  have hj2 : (y * 12 + x).toNat = j := by omega
  have hj3 : j < 144 := by omega
  have s1 := r_to (RC := 5) (RS := 720) (dd := 4) (g := (0, [.ref (mj_NE + 32), .int (iI x), .int (iI y), .int (iI k), mj_u, mj_u, mj_u, mj_u, mj_u], [], Wd xs L A V (mY t b (mj_NE + 33) f [zO o]), 0, 0)) (g' := (3, [.ref (mj_NE + 32), .int (iI x), .int (iI y), .int (iI k), mj_u, mj_u, mj_u, mj_u, mj_u], [.int (iI y), .int (iI x), .ref (mj_NE + 32)], Wd xs L A V (mY t b (mj_NE + 33) f [zO o]), 0, 0)) ok_M_lake 9999 [] rfl trivial
  have s2 := r_tr s1 (q_V ok_M_lake ok_M_isNoField se_M_isNoField (c_isNoField rx ry) rfl rfl rfl rfl rfl ⟨rfl, rfl, rfl⟩)
  rw [noB_f hx hy, if_neg Bool.false_ne_true] at s2
  have s3 := r_tr s2 (r_to (RC := 5) (RS := 720) (dd := 4) (g := (6, [.ref (mj_NE + 32), .int (iI x), .int (iI y), .int (iI k), mj_u, mj_u, mj_u, mj_u, mj_u], [.int (bI false)], Wd xs L A V (mY (iI 0) b (mj_NE + 33) f [zO o]), 0, 0)) (g' := (13, [.ref (mj_NE + 32), .int (iI x), .int (iI y), .int (iI k), mj_u, mj_u, mj_u, mj_u, mj_u], [.int (iI 1), .int (iI 0), .int (iI k), .ref (mj_NE + 32)], Wd xs L A V (mY (iI 0) b (mj_NE + 33) f [zO o]), 0, 0)) ok_M_lake 9999 [false] rfl ⟨fun q => q rfl, trivial⟩)
  have s4 := r_tr s3 (q_S ok_M_lake ok_M_isIn st_M_isIn (c_isIn (v := k) (lo := 0) (hi := 1) rk ⟨by omega, by omega, by omega, by omega⟩) rfl rfl rfl rfl ⟨rfl, rfl, rfl⟩)
  rw [decide_eq_true hk] at s4
  have s5 := r_tr s4 (r_to (RC := 5) (RS := 720) (dd := 4) (g := (16, [.ref (mj_NE + 32), .int (iI x), .int (iI y), .int (iI k), mj_u, mj_u, mj_u, mj_u, mj_u], [.int (bI true), .ref (mj_NE + 32)], Wd xs L A V (mY (iI 0) b (mj_NE + 33) f [zO o]), 0, 0)) (g' := (25, [.ref (mj_NE + 32), .int (iI x), .int (iI y), .int (iI k), mj_u, mj_u, mj_u, mj_u, mj_u], [.int (iI 2), .int (bI false), .ref (mj_NE + 32)], Wd xs L A V (mY (iI 0) b (mj_NE + 33) f [zO o]), 0, 0)) ok_M_lake 9999 [true] rfl ⟨by show ¬ ((1 : Int32) = 0); decide, trivial⟩)
  have s6 := r_tr s5 (q_V ok_M_lake ok_M_refuse se_M_refuse (c_refuse (q := false) (k := 2) ⟨by omega, by omega⟩) rfl rfl rfl rfl rfl ⟨rfl, rfl, rfl⟩)
  rw [if_neg Bool.false_ne_true] at s6
  have s7 := r_tr s6 (r_to (RC := 5) (RS := 720) (dd := 4) (g := (28, [.ref (mj_NE + 32), .int (iI x), .int (iI y), .int (iI k), mj_u, mj_u, mj_u, mj_u, mj_u], [.int (bI false)], Wd xs L A V (mY (iI 0) b (mj_NE + 33) f [zO o]), 0, 0)) (g' := (37, [.ref (mj_NE + 32), .int (iI x), .int (iI y), .int (iI k), mj_u, mj_u, mj_u, mj_u, mj_u], [.ref (mj_NE + 33)], Wd xs L A V (mY (iI 0) b (mj_NE + 33) f [zO o]), 0, 0)) ok_M_lake 9999 [true] rfl ⟨by show ((0 : Int32) = 0); rfl, trivial⟩)
  have s8 := r_tr s7 (q_V ok_M_lake ok_ML_lakes se_ML_lakes (hct) rfl rfl rfl rfl rfl ⟨rfl, rfl, rfl⟩)
  have s9 := r_tr s8 (r_to (RC := 5) (RS := 720) (dd := 4) (g := (40, [.ref (mj_NE + 32), .int (iI x), .int (iI y), .int (iI k), mj_u, mj_u, mj_u, mj_u, mj_u], [.ref (mj_NE + 38)], Wd xs L A V (mY (iI 0) b (mj_NE + 33) f [zO o, zI fm, zB fd, zI gM]), 3, 432)) (g' := (46, [.ref (mj_NE + 32), .int (iI x), .int (iI y), .int (iI k), .ref (mj_NE + 38), mj_u, mj_u, mj_u, mj_u], [.ref (mj_NE + 33)], Wd xs L A V (mY (iI 0) b (mj_NE + 33) f [zO o, zI fm, zB fd, zI gM]), 3, 432)) ok_M_lake 9999 [] rfl trivial)
  have s10 := r_tr s9 (q_V ok_M_lake ok_ML_levels se_ML_levels (hct2) rfl rfl rfl rfl rfl ⟨rfl, rfl, rfl⟩)
  have s11 := r_tr s10 (r_to (RC := 5) (RS := 720) (dd := 4) (g := (49, [.ref (mj_NE + 32), .int (iI x), .int (iI y), .int (iI k), .ref (mj_NE + 38), mj_u, mj_u, mj_u, mj_u], [.ref (mj_NE + 39)], Wd xs L A V (mY (iI 0) b (mj_NE + 33) f [zO o, zI fm, zB fd, zI gM, zI fm2, zB fd2]), 5, 720)) (g' := (56, [.ref (mj_NE + 32), .int (iI x), .int (iI y), .int (iI k), .ref (mj_NE + 38), .ref (mj_NE + 39), mj_u, mj_u, mj_u], [.int (iI y), .int (iI x), .ref (mj_NE + 32), .ref (mj_NE + 38)], Wd xs L A V (mY (iI 0) b (mj_NE + 33) f [zO o, zI fm, zB fd, zI gM, zI fm2, zB fd2]), 5, 720)) ok_M_lake 9999 [] rfl trivial)
  have s12 := r_tr s11 (q_V ok_M_lake ok_M_number se_M_number (c_number) rfl rfl rfl rfl rfl ⟨rfl, rfl, rfl⟩)
  rw [← hj] at s12
  have s13 := r_tr s12 (r_to (RC := 5) (RS := 720) (dd := 4) (g := (59, [.ref (mj_NE + 32), .int (iI x), .int (iI y), .int (iI k), .ref (mj_NE + 38), .ref (mj_NE + 39), mj_u, mj_u, mj_u], [.int (iI (j : Int)), .ref (mj_NE + 38)], Wd xs L A V (mY (iI 0) b (mj_NE + 33) f [zO o, zI fm, zB fd, zI gM, zI fm2, zB fd2]), 5, 720)) (g' := (68, [.ref (mj_NE + 32), .int (iI x), .int (iI y), .int (iI k), .ref (mj_NE + 38), .ref (mj_NE + 39), .int (gM (iI (j : Int)).toNatClampNeg), .int (iI 0), .int (iI 0)], [], Wd xs L A V (mY (iI 0) b (mj_NE + 33) f [zO o, zI fm, zB fd, zI gM, zI fm2, zB fd2]), 5, 720)) ok_M_lake 68 [] rfl ⟨in_nat hj3 (by omega), trivial⟩)
  rw [cl_nat (by omega), gM_v hj3] at s13
  have s14 := r_tr s13 (r_to (RC := 5) (RS := 720) (dd := 4) (g := (68, [.ref (mj_NE + 32), .int (iI x), .int (iI y), .int (iI k), .ref (mj_NE + 38), .ref (mj_NE + 39), .int (iI (-1)), .int (iI 0), .int (iI 0)], [], Wd xs L A V (mY (iI 0) b (mj_NE + 33) f [zO o, zI fm, zB fd, zI gM, zI fm2, zB fd2]), 5, 720)) (g' := (128, [.ref (mj_NE + 32), .int (iI x), .int (iI y), .int (iI k), .ref (mj_NE + 38), .ref (mj_NE + 39), .int (iI (-1)), .int (iI 0), .int (iI 0)], [.int (iI 0)], Wd xs L A V (mY (iI 0) b (mj_NE + 33) f [zO o, zI fm, zB fd, zI gM, zI fm2, zB fd2]), 5, 720)) ok_M_lake 9999 [false, true] rfl ⟨by show ¬ (iI 144 ≤ iI 0); decide +kernel, by show iI (-1) < iI 0; decide +kernel, trivial⟩)
  exact ct_of ok_M_lake rfl s14 rfl rfl rfl rfl rfl
theorem m_contourA {c k : Int} (rc : -2147483648 ≤ c ∧ c ≤ 2147483647) (rk : -2147483648 ≤ k ∧ k ≤ 2147483647) (hc : 0 ≤ c ∧ c ≤ 999) (hk : 0 ≤ k ∧ k ≤ 2) (hz : ∀ j : Nat, j < 144 → f j = iI 0) : ∃ g : Nat → Int32, mj_Cd 43 m_M_contour [.ref (mj_NE + 32), .int (iI c), .int (iI k)] (Wd xs L A V (mY t b (mj_NE + 33) f [zO o])) (some (.int (iI 0))) (Wd xs L A V (mY (iI 0) b (mj_NE + 33) f [zO o, zA, mj_ia 0 (fun _ => 0), mj_ia 3 g])) 366 1337 6 := by
  obtain ⟨g, hg, hct⟩ := c_MLcontour0 (xs := xs) (L := L) (A := A) (V := V) (t := iI 0) (b := b) (o := o) hz hc
  refine ⟨g, ?_⟩
  have s1 := d_of (n := 43) (r_to (RC := 366) (RS := 1337) (dd := 6) (g := (0, [.ref (mj_NE + 32), .int (iI c), .int (iI k)], [], Wd xs L A V (mY t b (mj_NE + 33) f [zO o]), 0, 0)) (g' := (6, [.ref (mj_NE + 32), .int (iI c), .int (iI k)], [.int (iI 999), .int (iI 0), .int (iI c), .ref (mj_NE + 32)], Wd xs L A V (mY t b (mj_NE + 33) f [zO o]), 0, 0)) ok_M_contour 9999 [] rfl trivial)
  have s2 := d_rc s1 (q_S ok_M_contour ok_M_isIn st_M_isIn (c_isIn (v := c) (lo := 0) (hi := 999) rc ⟨by omega, by omega, by omega, by omega⟩) rfl rfl rfl rfl ⟨rfl, rfl, rfl⟩)
  rw [decide_eq_true hc] at s2
  have s3 := d_rc s2 (r_to (RC := 366) (RS := 1337) (dd := 6) (g := (9, [.ref (mj_NE + 32), .int (iI c), .int (iI k)], [.int (bI true), .ref (mj_NE + 32)], Wd xs L A V (mY t b (mj_NE + 33) f [zO o]), 0, 0)) (g' := (15, [.ref (mj_NE + 32), .int (iI c), .int (iI k)], [.int (iI 2), .int (iI 0), .int (iI k), .ref (mj_NE + 32)], Wd xs L A V (mY t b (mj_NE + 33) f [zO o]), 0, 0)) ok_M_contour 9999 [false] rfl ⟨by show ¬ ((1 : Int32) = 0); decide, trivial⟩)
  have s4 := d_rc s3 (q_S ok_M_contour ok_M_isIn st_M_isIn (c_isIn (v := k) (lo := 0) (hi := 2) rk ⟨by omega, by omega, by omega, by omega⟩) rfl rfl rfl rfl ⟨rfl, rfl, rfl⟩)
  rw [decide_eq_true hk] at s4
  have s5 := d_rc s4 (r_to (RC := 366) (RS := 1337) (dd := 6) (g := (18, [.ref (mj_NE + 32), .int (iI c), .int (iI k)], [.int (bI true), .ref (mj_NE + 32)], Wd xs L A V (mY t b (mj_NE + 33) f [zO o]), 0, 0)) (g' := (27, [.ref (mj_NE + 32), .int (iI c), .int (iI k)], [.int (iI 1), .int (bI false), .ref (mj_NE + 32)], Wd xs L A V (mY t b (mj_NE + 33) f [zO o]), 0, 0)) ok_M_contour 9999 [true] rfl ⟨by show ¬ ((1 : Int32) = 0); decide, trivial⟩)
  have s6 := d_rc s5 (q_V ok_M_contour ok_M_start se_M_start (c_start (q := false) (k := 1) ⟨by omega, by omega⟩) rfl rfl rfl rfl rfl ⟨rfl, rfl, rfl⟩)
  rw [if_neg Bool.false_ne_true] at s6
  have s7 := d_rc s6 (r_to (RC := 366) (RS := 1337) (dd := 6) (g := (30, [.ref (mj_NE + 32), .int (iI c), .int (iI k)], [.int (bI false)], Wd xs L A V (mY (iI 0) b (mj_NE + 33) f [zO o]), 0, 0)) (g' := (42, [.ref (mj_NE + 32), .int (iI c), .int (iI k)], [.int (iI c), .ref (mj_NE + 33)], Wd xs L A V (mY (iI 0) b (mj_NE + 33) f [zO o]), 0, 0)) ok_M_contour 9999 [true] rfl ⟨by show ((0 : Int32) = 0); rfl, trivial⟩)
  have s8 := d_tr s7 (d_VD ok_M_contour ok_ML_contour se_ML_contour (hct) rfl rfl rfl rfl rfl ⟨rfl, rfl, rfl⟩ rfl rfl rfl)
  have s9 := d_rc s8 (r_to (RC := 366) (RS := 1337) (dd := 6) (g := (45, [.ref (mj_NE + 32), .int (iI c), .int (iI k)], [.ref (mj_NE + 38)], Wd xs L A V (mY (iI 0) b (mj_NE + 33) f [zO o, zA, mj_ia 0 (fun _ => 0), mj_ia 3 g]), 366, 1337)) (g' := (47, [.ref (mj_NE + 32), .int (iI c), .int (iI k)], [.int (g (iI k).toNatClampNeg)], Wd xs L A V (mY (iI 0) b (mj_NE + 33) f [zO o, zA, mj_ia 0 (fun _ => 0), mj_ia 3 g]), 366, 1337)) ok_M_contour 9999 [] rfl ⟨(iI_in ⟨by omega, by omega⟩).mpr ⟨by omega, by omega⟩, trivial⟩)
  rw [hg _ (by rw [iI_cl (by omega) (by omega)]; omega)] at s9
  exact ct_d ok_M_contour rfl s9 rfl rfl rfl rfl rfl
theorem m_seesA {x y u p q : Int} (rx : -2147483648 ≤ x ∧ x ≤ 2147483647) (ry : -2147483648 ≤ y ∧ y ≤ 2147483647) (hx : 0 ≤ x ∧ x < 12) (hy : 0 ≤ y ∧ y < 12) (rp : -2147483648 ≤ p ∧ p ≤ 2147483647) (rq : -2147483648 ≤ q ∧ q ≤ 2147483647) (hp : 0 ≤ p ∧ p < 12) (hq : 0 ≤ q ∧ q < 12) (ru : -2147483648 ≤ u ∧ u ≤ 2147483647) (hu : 0 ≤ u ∧ u ≤ 500) (hf : Hts f 144 H) : mj_Ct m_M_sees [.ref (mj_NE + 32), .int (iI x), .int (iI y), .int (iI u), .int (iI p), .int (iI q)] (Wd xs L A V (mY t b (mj_NE + 33) f [zO o])) (some (.int (bI (seeB 12 H x y u p q)))) (Wd xs L A V (mY (iI 0) b (mj_NE + 33) f [zO o])) 0 0 4 := by
  obtain ⟨i, hi⟩ : ∃ i : Nat, (i : Int) = y * 12 + x := ⟨(y * 12 + x).toNat, by omega⟩
  have hi2 : (y * 12 + x).toNat = i := by omega
  have hi3 : i < 144 := by omega
  obtain ⟨j, hj⟩ : ∃ j : Nat, (j : Int) = q * 12 + p := ⟨(q * 12 + p).toNat, by omega⟩
  have hj2 : (q * 12 + p).toNat = j := by omega
  have hj3 : j < 144 := by omega
  have s1 := r_to (RC := 0) (RS := 0) (dd := 4) (g := (0, [.ref (mj_NE + 32), .int (iI x), .int (iI y), .int (iI u), .int (iI p), .int (iI q)], [], Wd xs L A V (mY t b (mj_NE + 33) f [zO o]), 0, 0)) (g' := (4, [.ref (mj_NE + 32), .int (iI x), .int (iI y), .int (iI u), .int (iI p), .int (iI q)], [.int (iI y), .int (iI x), .ref (mj_NE + 32), .ref (mj_NE + 32)], Wd xs L A V (mY t b (mj_NE + 33) f [zO o]), 0, 0)) ok_M_sees 9999 [] rfl trivial
  have s2 := r_tr s1 (q_V ok_M_sees ok_M_isNo se_M_isNo (c_isNo rx ry) rfl rfl rfl rfl rfl ⟨rfl, rfl, rfl⟩)
  rw [noB_f hx hy] at s2
  have s3 := r_tr s2 (r_to (RC := 0) (RS := 0) (dd := 4) (g := (7, [.ref (mj_NE + 32), .int (iI x), .int (iI y), .int (iI u), .int (iI p), .int (iI q)], [.int (bI false), .ref (mj_NE + 32)], Wd xs L A V (mY t b (mj_NE + 33) f [zO o]), 0, 0)) (g' := (15, [.ref (mj_NE + 32), .int (iI x), .int (iI y), .int (iI u), .int (iI p), .int (iI q)], [.int (iI q), .int (iI p), .ref (mj_NE + 32), .ref (mj_NE + 32)], Wd xs L A V (mY t b (mj_NE + 33) f [zO o]), 0, 0)) ok_M_sees 9999 [false] rfl ⟨fun q => q rfl, trivial⟩)
  have s4 := r_tr s3 (q_V ok_M_sees ok_M_isNo se_M_isNo (c_isNo rp rq) rfl rfl rfl rfl rfl ⟨rfl, rfl, rfl⟩)
  rw [noB_f hp hq] at s4
  have s5 := r_tr s4 (r_to (RC := 0) (RS := 0) (dd := 4) (g := (18, [.ref (mj_NE + 32), .int (iI x), .int (iI y), .int (iI u), .int (iI p), .int (iI q)], [.int (bI false), .ref (mj_NE + 32)], Wd xs L A V (mY t b (mj_NE + 33) f [zO o]), 0, 0)) (g' := (27, [.ref (mj_NE + 32), .int (iI x), .int (iI y), .int (iI u), .int (iI p), .int (iI q)], [.int (iI 1), .int (bI false), .ref (mj_NE + 32)], Wd xs L A V (mY t b (mj_NE + 33) f [zO o]), 0, 0)) ok_M_sees 9999 [true] rfl ⟨by show ((0 : Int32) = 0); rfl, trivial⟩)
  have s6 := r_tr s5 (q_V ok_M_sees ok_M_start se_M_start (c_start (q := false) (k := 1) ⟨by omega, by omega⟩) rfl rfl rfl rfl rfl ⟨rfl, rfl, rfl⟩)
  rw [if_neg Bool.false_ne_true] at s6
  have s7 := r_tr s6 (r_to (RC := 0) (RS := 0) (dd := 4) (g := (30, [.ref (mj_NE + 32), .int (iI x), .int (iI y), .int (iI u), .int (iI p), .int (iI q)], [.int (bI false)], Wd xs L A V (mY (iI 0) b (mj_NE + 33) f [zO o]), 0, 0)) (g' := (39, [.ref (mj_NE + 32), .int (iI x), .int (iI y), .int (iI u), .int (iI p), .int (iI q)], [.int (iI 500), .int (iI 0), .int (iI u), .ref (mj_NE + 32)], Wd xs L A V (mY (iI 0) b (mj_NE + 33) f [zO o]), 0, 0)) ok_M_sees 9999 [false] rfl ⟨fun q => q rfl, trivial⟩)
  have s8 := r_tr s7 (q_S ok_M_sees ok_M_isIn st_M_isIn (c_isIn (v := u) (lo := 0) (hi := 500) ru ⟨by omega, by omega, by omega, by omega⟩) rfl rfl rfl rfl ⟨rfl, rfl, rfl⟩)
  rw [decide_eq_true hu] at s8
  have s9 := r_tr s8 (r_to (RC := 0) (RS := 0) (dd := 4) (g := (42, [.ref (mj_NE + 32), .int (iI x), .int (iI y), .int (iI u), .int (iI p), .int (iI q)], [.int (bI true), .ref (mj_NE + 32)], Wd xs L A V (mY (iI 0) b (mj_NE + 33) f [zO o]), 0, 0)) (g' := (51, [.ref (mj_NE + 32), .int (iI x), .int (iI y), .int (iI u), .int (iI p), .int (iI q)], [.int (iI 2), .int (bI false), .ref (mj_NE + 32)], Wd xs L A V (mY (iI 0) b (mj_NE + 33) f [zO o]), 0, 0)) ok_M_sees 9999 [true] rfl ⟨by show ¬ ((1 : Int32) = 0); decide, trivial⟩)
  have s10 := r_tr s9 (q_V ok_M_sees ok_M_refuse se_M_refuse (c_refuse (q := false) (k := 2) ⟨by omega, by omega⟩) rfl rfl rfl rfl rfl ⟨rfl, rfl, rfl⟩)
  rw [if_neg Bool.false_ne_true] at s10
  have s11 := r_tr s10 (r_to (RC := 0) (RS := 0) (dd := 4) (g := (54, [.ref (mj_NE + 32), .int (iI x), .int (iI y), .int (iI u), .int (iI p), .int (iI q)], [.int (bI false)], Wd xs L A V (mY (iI 0) b (mj_NE + 33) f [zO o]), 0, 0)) (g' := (64, [.ref (mj_NE + 32), .int (iI x), .int (iI y), .int (iI u), .int (iI p), .int (iI q)], [.int (iI y), .int (iI x), .ref (mj_NE + 32), .ref (mj_NE + 33)], Wd xs L A V (mY (iI 0) b (mj_NE + 33) f [zO o]), 0, 0)) ok_M_sees 9999 [false] rfl ⟨fun q => q rfl, trivial⟩)
  have s12 := r_tr s11 (q_V ok_M_sees ok_M_number se_M_number (c_number) rfl rfl rfl rfl rfl ⟨rfl, rfl, rfl⟩)
  rw [← hi] at s12
  have s13 := r_tr s12 (r_to (RC := 0) (RS := 0) (dd := 4) (g := (67, [.ref (mj_NE + 32), .int (iI x), .int (iI y), .int (iI u), .int (iI p), .int (iI q)], [.int (iI (i : Int)), .ref (mj_NE + 33)], Wd xs L A V (mY (iI 0) b (mj_NE + 33) f [zO o]), 0, 0)) (g' := (73, [.ref (mj_NE + 32), .int (iI x), .int (iI y), .int (iI u), .int (iI p), .int (iI q)], [.int (iI q), .int (iI p), .ref (mj_NE + 32), .int (iI u), .int (iI (i : Int)), .ref (mj_NE + 33)], Wd xs L A V (mY (iI 0) b (mj_NE + 33) f [zO o]), 0, 0)) ok_M_sees 9999 [] rfl trivial)
  have s14 := r_tr s13 (q_V ok_M_sees ok_M_number se_M_number (c_number) rfl rfl rfl rfl rfl ⟨rfl, rfl, rfl⟩)
  rw [← hj] at s14
  have s15 := r_tr s14 (q_V ok_M_sees ok_ML_sees se_ML_sees (c_MLsees hf hi3 hj3 hu) rfl rfl rfl rfl rfl ⟨rfl, rfl, rfl⟩)
  rw [show (i : Int) % 12 = x by omega, show (i : Int) / 12 = y by omega, show (j : Int) % 12 = p by omega, show (j : Int) / 12 = q by omega] at s15
  cases hse : seeB 12 H x y u p q with
  | true =>
    rw [hse] at s15
    exact ct_of ok_M_sees rfl (r_tr s15 (r_to ok_M_sees 9999 [false] rfl ⟨by show ¬ ((1 : Int32) = 0); decide, trivial⟩)) rfl rfl ⟨rfl, bI_nar true⟩ rfl rfl
  | false =>
    rw [hse] at s15
    exact ct_of ok_M_sees rfl (r_tr s15 (r_to ok_M_sees 9999 [true] rfl ⟨by show ((0 : Int32) = 0); rfl, trivial⟩)) rfl rfl ⟨rfl, bI_nar false⟩ rfl rfl
theorem m_seenA {x y u : Int} (rx : -2147483648 ≤ x ∧ x ≤ 2147483647) (ry : -2147483648 ≤ y ∧ y ≤ 2147483647) (hx : 0 ≤ x ∧ x < 12) (hy : 0 ≤ y ∧ y < 12) (ru : -2147483648 ≤ u ∧ u ≤ 2147483647) (hu : 0 ≤ u ∧ u ≤ 500) (hf : Hts f 144 H) : mj_Ct m_M_seen [.ref (mj_NE + 32), .int (iI x), .int (iI y), .int (iI u)] (Wd xs L A V (mY t b (mj_NE + 33) f [zO o])) (some (.int (iI (cnt (fun j => seeB 12 H x y u ((j : Int) % 12) ((j : Int) / 12)) 144)))) (Wd xs L A V (mY (iI 0) b (mj_NE + 33) f [zO o])) 0 0 4 := by
  obtain ⟨i, hi⟩ : ∃ i : Nat, (i : Int) = y * 12 + x := ⟨(y * 12 + x).toNat, by omega⟩
  have hi2 : (y * 12 + x).toNat = i := by omega
  have hi3 : i < 144 := by omega
  have s1 := r_to (RC := 0) (RS := 0) (dd := 4) (g := (0, [.ref (mj_NE + 32), .int (iI x), .int (iI y), .int (iI u)], [], Wd xs L A V (mY t b (mj_NE + 33) f [zO o]), 0, 0)) (g' := (3, [.ref (mj_NE + 32), .int (iI x), .int (iI y), .int (iI u)], [.int (iI y), .int (iI x), .ref (mj_NE + 32)], Wd xs L A V (mY t b (mj_NE + 33) f [zO o]), 0, 0)) ok_M_seen 9999 [] rfl trivial
  have s2 := r_tr s1 (q_V ok_M_seen ok_M_isNoField se_M_isNoField (c_isNoField rx ry) rfl rfl rfl rfl rfl ⟨rfl, rfl, rfl⟩)
  rw [noB_f hx hy, if_neg Bool.false_ne_true] at s2
  have s3 := r_tr s2 (r_to (RC := 0) (RS := 0) (dd := 4) (g := (6, [.ref (mj_NE + 32), .int (iI x), .int (iI y), .int (iI u)], [.int (bI false)], Wd xs L A V (mY (iI 0) b (mj_NE + 33) f [zO o]), 0, 0)) (g' := (15, [.ref (mj_NE + 32), .int (iI x), .int (iI y), .int (iI u)], [.int (iI 500), .int (iI 0), .int (iI u), .ref (mj_NE + 32)], Wd xs L A V (mY (iI 0) b (mj_NE + 33) f [zO o]), 0, 0)) ok_M_seen 9999 [false] rfl ⟨fun q => q rfl, trivial⟩)
  have s4 := r_tr s3 (q_S ok_M_seen ok_M_isIn st_M_isIn (c_isIn (v := u) (lo := 0) (hi := 500) ru ⟨by omega, by omega, by omega, by omega⟩) rfl rfl rfl rfl ⟨rfl, rfl, rfl⟩)
  rw [decide_eq_true hu] at s4
  have s5 := r_tr s4 (r_to (RC := 0) (RS := 0) (dd := 4) (g := (18, [.ref (mj_NE + 32), .int (iI x), .int (iI y), .int (iI u)], [.int (bI true), .ref (mj_NE + 32)], Wd xs L A V (mY (iI 0) b (mj_NE + 33) f [zO o]), 0, 0)) (g' := (27, [.ref (mj_NE + 32), .int (iI x), .int (iI y), .int (iI u)], [.int (iI 2), .int (bI false), .ref (mj_NE + 32)], Wd xs L A V (mY (iI 0) b (mj_NE + 33) f [zO o]), 0, 0)) ok_M_seen 9999 [true] rfl ⟨by show ¬ ((1 : Int32) = 0); decide, trivial⟩)
  have s6 := r_tr s5 (q_V ok_M_seen ok_M_refuse se_M_refuse (c_refuse (q := false) (k := 2) ⟨by omega, by omega⟩) rfl rfl rfl rfl rfl ⟨rfl, rfl, rfl⟩)
  rw [if_neg Bool.false_ne_true] at s6
  have s7 := r_tr s6 (r_to (RC := 0) (RS := 0) (dd := 4) (g := (30, [.ref (mj_NE + 32), .int (iI x), .int (iI y), .int (iI u)], [.int (bI false)], Wd xs L A V (mY (iI 0) b (mj_NE + 33) f [zO o]), 0, 0)) (g' := (44, [.ref (mj_NE + 32), .int (iI x), .int (iI y), .int (iI u)], [.int (iI y), .int (iI x), .ref (mj_NE + 32), .ref (mj_NE + 33)], Wd xs L A V (mY (iI 0) b (mj_NE + 33) f [zO o]), 0, 0)) ok_M_seen 9999 [true] rfl ⟨by show ((0 : Int32) = 0); rfl, trivial⟩)
  have s8 := r_tr s7 (q_V ok_M_seen ok_M_number se_M_number (c_number) rfl rfl rfl rfl rfl ⟨rfl, rfl, rfl⟩)
  rw [← hi] at s8
  have s9 := r_tr s8 (r_to (RC := 0) (RS := 0) (dd := 4) (g := (47, [.ref (mj_NE + 32), .int (iI x), .int (iI y), .int (iI u)], [.int (iI (i : Int)), .ref (mj_NE + 33)], Wd xs L A V (mY (iI 0) b (mj_NE + 33) f [zO o]), 0, 0)) (g' := (48, [.ref (mj_NE + 32), .int (iI x), .int (iI y), .int (iI u)], [.int (iI u), .int (iI (i : Int)), .ref (mj_NE + 33)], Wd xs L A V (mY (iI 0) b (mj_NE + 33) f [zO o]), 0, 0)) ok_M_seen 9999 [] rfl trivial)
  have s10 := r_tr s9 (q_V ok_M_seen ok_ML_seen se_ML_seen (c_MLseen hf hi3 hu) rfl rfl rfl rfl rfl ⟨rfl, rfl, rfl⟩)
  rw [show (i : Int) % 12 = x by omega, show (i : Int) / 12 = y by omega] at s10
  exact ct_of ok_M_seen rfl s10 rfl rfl rfl rfl rfl
theorem m_takesA {x y p q : Int} (rx : -2147483648 ≤ x ∧ x ≤ 2147483647) (ry : -2147483648 ≤ y ∧ y ≤ 2147483647) (hx : 0 ≤ x ∧ x < 12) (hy : 0 ≤ y ∧ y < 12) (rp : -2147483648 ≤ p ∧ p ≤ 2147483647) (rq : -2147483648 ≤ q ∧ q ≤ 2147483647) (hp : 0 ≤ p ∧ p < 12) (hq : 0 ≤ q ∧ q < 12) (hf : Hts f 144 H) : ∃ (TT : Nat → Int) (fm fd : Nat → Int32), WyOK 12 12 144 (y * 12 + x).toNat H TT ∧ mj_Ct m_M_takes [.ref (mj_NE + 32), .int (iI x), .int (iI y), .int (iI p), .int (iI q)] (Wd xs L A V (mY t b (mj_NE + 33) f [zO o])) (some (.int (iI (TT (q * 12 + p).toNat)))) (Wd xs L A V (mY (iI 0) b (mj_NE + 33) f [zO o, zI fm, zB fd])) 2 288 3 := by
  obtain ⟨i, hi⟩ : ∃ i : Nat, (i : Int) = y * 12 + x := ⟨(y * 12 + x).toNat, by omega⟩
  have hi2 : (y * 12 + x).toNat = i := by omega
  have hi3 : i < 144 := by omega
  obtain ⟨j, hj⟩ : ∃ j : Nat, (j : Int) = q * 12 + p := ⟨(q * 12 + p).toNat, by omega⟩
  have hj2 : (q * 12 + p).toNat = j := by omega
  have hj3 : j < 144 := by omega
  rw [hi2, hj2]
  obtain ⟨TT, fm, fd, hWy, hfm, hct⟩ := c_ML_takes (xs := xs) (L := L) (A := A) (V := V) (t := iI 0) (b := b) (ld := mj_NE + 33) (o := o) hi3 hf
  refine ⟨TT, fm, fd, hWy, ?_⟩
  have s1 := r_to (RC := 2) (RS := 288) (dd := 3) (g := (0, [.ref (mj_NE + 32), .int (iI x), .int (iI y), .int (iI p), .int (iI q)], [], Wd xs L A V (mY t b (mj_NE + 33) f [zO o]), 0, 0)) (g' := (4, [.ref (mj_NE + 32), .int (iI x), .int (iI y), .int (iI p), .int (iI q)], [.int (iI y), .int (iI x), .ref (mj_NE + 32), .ref (mj_NE + 32)], Wd xs L A V (mY t b (mj_NE + 33) f [zO o]), 0, 0)) ok_M_takes 9999 [] rfl trivial
  have s2 := r_tr s1 (q_V ok_M_takes ok_M_isNo se_M_isNo (c_isNo rx ry) rfl rfl rfl rfl rfl ⟨rfl, rfl, rfl⟩)
  rw [noB_f hx hy] at s2
  have s3 := r_tr s2 (r_to (RC := 2) (RS := 288) (dd := 3) (g := (7, [.ref (mj_NE + 32), .int (iI x), .int (iI y), .int (iI p), .int (iI q)], [.int (bI false), .ref (mj_NE + 32)], Wd xs L A V (mY t b (mj_NE + 33) f [zO o]), 0, 0)) (g' := (14, [.ref (mj_NE + 32), .int (iI x), .int (iI y), .int (iI p), .int (iI q)], [.int (iI q), .int (iI p), .ref (mj_NE + 32), .ref (mj_NE + 32)], Wd xs L A V (mY t b (mj_NE + 33) f [zO o]), 0, 0)) ok_M_takes 9999 [false] rfl ⟨fun q => q rfl, trivial⟩)
  have s4 := r_tr s3 (q_V ok_M_takes ok_M_isNo se_M_isNo (c_isNo rp rq) rfl rfl rfl rfl rfl ⟨rfl, rfl, rfl⟩)
  rw [noB_f hp hq] at s4
  have s5 := r_tr s4 (r_to (RC := 2) (RS := 288) (dd := 3) (g := (17, [.ref (mj_NE + 32), .int (iI x), .int (iI y), .int (iI p), .int (iI q)], [.int (bI false), .ref (mj_NE + 32)], Wd xs L A V (mY t b (mj_NE + 33) f [zO o]), 0, 0)) (g' := (26, [.ref (mj_NE + 32), .int (iI x), .int (iI y), .int (iI p), .int (iI q)], [.int (iI 1), .int (bI false), .ref (mj_NE + 32)], Wd xs L A V (mY t b (mj_NE + 33) f [zO o]), 0, 0)) ok_M_takes 9999 [true] rfl ⟨by show ((0 : Int32) = 0); rfl, trivial⟩)
  have s6 := r_tr s5 (q_V ok_M_takes ok_M_start se_M_start (c_start (q := false) (k := 1) ⟨by omega, by omega⟩) rfl rfl rfl rfl rfl ⟨rfl, rfl, rfl⟩)
  rw [if_neg Bool.false_ne_true] at s6
  have s7 := r_tr s6 (r_to (RC := 2) (RS := 288) (dd := 3) (g := (29, [.ref (mj_NE + 32), .int (iI x), .int (iI y), .int (iI p), .int (iI q)], [.int (bI false)], Wd xs L A V (mY (iI 0) b (mj_NE + 33) f [zO o]), 0, 0)) (g' := (43, [.ref (mj_NE + 32), .int (iI x), .int (iI y), .int (iI p), .int (iI q)], [.int (iI y), .int (iI x), .ref (mj_NE + 32), .ref (mj_NE + 33)], Wd xs L A V (mY (iI 0) b (mj_NE + 33) f [zO o]), 0, 0)) ok_M_takes 9999 [true] rfl ⟨by show ((0 : Int32) = 0); rfl, trivial⟩)
  have s8 := r_tr s7 (q_V ok_M_takes ok_M_number se_M_number (c_number) rfl rfl rfl rfl rfl ⟨rfl, rfl, rfl⟩)
  rw [← hi] at s8
  have s9 := r_tr s8 (q_V ok_M_takes ok_ML_takes se_ML_takes (hct) rfl rfl rfl rfl rfl ⟨rfl, rfl, rfl⟩)
  have s10 := r_tr s9 (r_to (RC := 2) (RS := 288) (dd := 3) (g := (49, [.ref (mj_NE + 32), .int (iI x), .int (iI y), .int (iI p), .int (iI q)], [.ref (mj_NE + 36)], Wd xs L A V (mY (iI 0) b (mj_NE + 33) f [zO o, zI fm, zB fd]), 2, 288)) (g' := (53, [.ref (mj_NE + 32), .int (iI x), .int (iI y), .int (iI p), .int (iI q)], [.int (iI q), .int (iI p), .ref (mj_NE + 32), .ref (mj_NE + 36)], Wd xs L A V (mY (iI 0) b (mj_NE + 33) f [zO o, zI fm, zB fd]), 2, 288)) ok_M_takes 9999 [] rfl trivial)
  have s11 := r_tr s10 (q_V ok_M_takes ok_M_number se_M_number (c_number) rfl rfl rfl rfl rfl ⟨rfl, rfl, rfl⟩)
  rw [← hj] at s11
  have s12 := r_tr s11 (r_to (RC := 2) (RS := 288) (dd := 3) (g := (56, [.ref (mj_NE + 32), .int (iI x), .int (iI y), .int (iI p), .int (iI q)], [.int (iI (j : Int)), .ref (mj_NE + 36)], Wd xs L A V (mY (iI 0) b (mj_NE + 33) f [zO o, zI fm, zB fd]), 2, 288)) (g' := (57, [.ref (mj_NE + 32), .int (iI x), .int (iI y), .int (iI p), .int (iI q)], [.int (fm (iI (j : Int)).toNatClampNeg)], Wd xs L A V (mY (iI 0) b (mj_NE + 33) f [zO o, zI fm, zB fd]), 2, 288)) ok_M_takes 9999 [] rfl ⟨in_nat hj3 (by omega), trivial⟩)
  rw [cl_nat (by omega), hfm j hj3] at s12
  exact ct_of ok_M_takes rfl s12 rfl rfl rfl rfl rfl
theorem m_wayA {x y p q b0 : Int} (rx : -2147483648 ≤ x ∧ x ≤ 2147483647) (ry : -2147483648 ≤ y ∧ y ≤ 2147483647) (hx : 0 ≤ x ∧ x < 12) (hy : 0 ≤ y ∧ y < 12) (rp : -2147483648 ≤ p ∧ p ≤ 2147483647) (rq : -2147483648 ≤ q ∧ q ≤ 2147483647) (hp : 0 ≤ p ∧ p < 12) (hq : 0 ≤ q ∧ q < 12) (rb0 : -2147483648 ≤ b0 ∧ b0 ≤ 2147483647) (hb0 : 0 ≤ b0) (hf : Hts f 144 H) : ∃ (TT : Nat → Int) (fm fd : Nat → Int32), WyOK 12 12 144 (y * 12 + x).toNat H TT ∧ mj_Ct m_M_way [.ref (mj_NE + 32), .int (iI x), .int (iI y), .int (iI p), .int (iI q), .int (iI b0)] (Wd xs L A V (mY t b (mj_NE + 33) f [zO o])) (some (.int (iI (gbF 12 12 (y * 12 + x).toNat H TT (q * 12 + p).toNat (min b0 144).toNat)))) (Wd xs L A V (mY (iI 0) b (mj_NE + 33) f [zO o, zI fm, zB fd])) 2 288 4 := by
  obtain ⟨i, hi⟩ : ∃ i : Nat, (i : Int) = y * 12 + x := ⟨(y * 12 + x).toNat, by omega⟩
  have hi2 : (y * 12 + x).toNat = i := by omega
  have hi3 : i < 144 := by omega
  obtain ⟨j, hj⟩ : ∃ j : Nat, (j : Int) = q * 12 + p := ⟨(q * 12 + p).toNat, by omega⟩
  have hj2 : (q * 12 + p).toNat = j := by omega
  have hj3 : j < 144 := by omega
  rw [hi2, hj2]
  obtain ⟨TT, fm, fd, hWy, hct⟩ := c_MLway (xs := xs) (L := L) (A := A) (V := V) (t := iI 0) (b := b) (ld := mj_NE + 33) (o := o) (st := i) (e := j) (bk := (min b0 144).toNat) hf hi3 hj3 (by omega)
  refine ⟨TT, fm, fd, hWy, ?_⟩
  have s1 := r_to (RC := 2) (RS := 288) (dd := 4) (g := (0, [.ref (mj_NE + 32), .int (iI x), .int (iI y), .int (iI p), .int (iI q), .int (iI b0)], [], Wd xs L A V (mY t b (mj_NE + 33) f [zO o]), 0, 0)) (g' := (4, [.ref (mj_NE + 32), .int (iI x), .int (iI y), .int (iI p), .int (iI q), .int (iI b0)], [.int (iI y), .int (iI x), .ref (mj_NE + 32), .ref (mj_NE + 32)], Wd xs L A V (mY t b (mj_NE + 33) f [zO o]), 0, 0)) ok_M_way 9999 [] rfl trivial
  have s2 := r_tr s1 (q_V ok_M_way ok_M_isNo se_M_isNo (c_isNo rx ry) rfl rfl rfl rfl rfl ⟨rfl, rfl, rfl⟩)
  rw [noB_f hx hy] at s2
  have s3 := r_tr s2 (r_to (RC := 2) (RS := 288) (dd := 4) (g := (7, [.ref (mj_NE + 32), .int (iI x), .int (iI y), .int (iI p), .int (iI q), .int (iI b0)], [.int (bI false), .ref (mj_NE + 32)], Wd xs L A V (mY t b (mj_NE + 33) f [zO o]), 0, 0)) (g' := (14, [.ref (mj_NE + 32), .int (iI x), .int (iI y), .int (iI p), .int (iI q), .int (iI b0)], [.int (iI q), .int (iI p), .ref (mj_NE + 32), .ref (mj_NE + 32)], Wd xs L A V (mY t b (mj_NE + 33) f [zO o]), 0, 0)) ok_M_way 9999 [false] rfl ⟨fun q => q rfl, trivial⟩)
  have s4 := r_tr s3 (q_V ok_M_way ok_M_isNo se_M_isNo (c_isNo rp rq) rfl rfl rfl rfl rfl ⟨rfl, rfl, rfl⟩)
  rw [noB_f hp hq] at s4
  have s5 := r_tr s4 (r_to (RC := 2) (RS := 288) (dd := 4) (g := (17, [.ref (mj_NE + 32), .int (iI x), .int (iI y), .int (iI p), .int (iI q), .int (iI b0)], [.int (bI false), .ref (mj_NE + 32)], Wd xs L A V (mY t b (mj_NE + 33) f [zO o]), 0, 0)) (g' := (26, [.ref (mj_NE + 32), .int (iI x), .int (iI y), .int (iI p), .int (iI q), .int (iI b0)], [.int (iI 1), .int (bI false), .ref (mj_NE + 32)], Wd xs L A V (mY t b (mj_NE + 33) f [zO o]), 0, 0)) ok_M_way 9999 [true] rfl ⟨by show ((0 : Int32) = 0); rfl, trivial⟩)
  have s6 := r_tr s5 (q_V ok_M_way ok_M_start se_M_start (c_start (q := false) (k := 1) ⟨by omega, by omega⟩) rfl rfl rfl rfl rfl ⟨rfl, rfl, rfl⟩)
  rw [if_neg Bool.false_ne_true] at s6
  have s7 := r_tr s6 (r_to (RC := 2) (RS := 288) (dd := 4) (g := (29, [.ref (mj_NE + 32), .int (iI x), .int (iI y), .int (iI p), .int (iI q), .int (iI b0)], [.int (bI false)], Wd xs L A V (mY (iI 0) b (mj_NE + 33) f [zO o]), 0, 0)) (g' := (44, [.ref (mj_NE + 32), .int (iI x), .int (iI y), .int (iI p), .int (iI q), .int (iI b0)], [.int (iI 2), .int (bI false), .ref (mj_NE + 32)], Wd xs L A V (mY (iI 0) b (mj_NE + 33) f [zO o]), 0, 0)) ok_M_way 9999 [false, true] rfl ⟨fun q => q rfl, by show iI 0 ≤ iI b0; rw [iI_le ⟨by omega, by omega⟩ ⟨by omega, by omega⟩]; exact hb0, trivial⟩)
  have s8 := r_tr s7 (q_V ok_M_way ok_M_refuse se_M_refuse (c_refuse (q := false) (k := 2) ⟨by omega, by omega⟩) rfl rfl rfl rfl rfl ⟨rfl, rfl, rfl⟩)
  rw [if_neg Bool.false_ne_true] at s8
  have s9 := r_tr s8 (r_to (RC := 2) (RS := 288) (dd := 4) (g := (47, [.ref (mj_NE + 32), .int (iI x), .int (iI y), .int (iI p), .int (iI q), .int (iI b0)], [.int (bI false)], Wd xs L A V (mY (iI 0) b (mj_NE + 33) f [zO o]), 0, 0)) (g' := (61, [.ref (mj_NE + 32), .int (iI x), .int (iI y), .int (iI p), .int (iI q), .int (iI b0)], [.int (iI y), .int (iI x), .ref (mj_NE + 32), .ref (mj_NE + 33)], Wd xs L A V (mY (iI 0) b (mj_NE + 33) f [zO o]), 0, 0)) ok_M_way 9999 [true] rfl ⟨by show ((0 : Int32) = 0); rfl, trivial⟩)
  have s10 := r_tr s9 (q_V ok_M_way ok_M_number se_M_number (c_number) rfl rfl rfl rfl rfl ⟨rfl, rfl, rfl⟩)
  rw [← hi] at s10
  have s11 := r_tr s10 (r_to (RC := 2) (RS := 288) (dd := 4) (g := (64, [.ref (mj_NE + 32), .int (iI x), .int (iI y), .int (iI p), .int (iI q), .int (iI b0)], [.int (iI (i : Int)), .ref (mj_NE + 33)], Wd xs L A V (mY (iI 0) b (mj_NE + 33) f [zO o]), 0, 0)) (g' := (68, [.ref (mj_NE + 32), .int (iI x), .int (iI y), .int (iI p), .int (iI q), .int (iI b0)], [.int (iI q), .int (iI p), .ref (mj_NE + 32), .int (iI (i : Int)), .ref (mj_NE + 33)], Wd xs L A V (mY (iI 0) b (mj_NE + 33) f [zO o]), 0, 0)) ok_M_way 9999 [] rfl trivial)
  have s12 := r_tr s11 (q_V ok_M_way ok_M_number se_M_number (c_number) rfl rfl rfl rfl rfl ⟨rfl, rfl, rfl⟩)
  rw [← hj] at s12
  have s13 := r_tr s12 (r_to (RC := 2) (RS := 288) (dd := 4) (g := (71, [.ref (mj_NE + 32), .int (iI x), .int (iI y), .int (iI p), .int (iI q), .int (iI b0)], [.int (iI (j : Int)), .int (iI (i : Int)), .ref (mj_NE + 33)], Wd xs L A V (mY (iI 0) b (mj_NE + 33) f [zO o]), 0, 0)) (g' := (77, [.ref (mj_NE + 32), .int (iI x), .int (iI y), .int (iI p), .int (iI q), .int (iI b0)], [.ref (mj_NE + 33), .int (iI b0), .int (iI (j : Int)), .int (iI (i : Int)), .ref (mj_NE + 33)], Wd xs L A V (mY (iI 0) b (mj_NE + 33) f [zO o]), 0, 0)) ok_M_way 9999 [] rfl trivial)
  have s14 := r_tr s13 (q_V ok_M_way ok_ML_size se_ML_size (c_MLsize) rfl rfl rfl rfl rfl ⟨rfl, rfl, rfl⟩)
  have s15 := r_tr s14 (q_S ok_M_way ok_Math_min st_Math_min (c_min (a := b0) (b := 144) ⟨by omega, by omega⟩ ⟨by omega, by omega⟩) rfl rfl rfl rfl ⟨rfl, rfl, rfl⟩)
  rw [show min b0 144 = (((min b0 144).toNat : Nat) : Int) by omega] at s15
  have s16 := r_tr s15 (q_V ok_M_way ok_ML_way se_ML_way (hct) rfl rfl rfl rfl rfl ⟨rfl, rfl, rfl⟩)
  exact ct_of ok_M_way rfl s16 rfl rfl rfl rfl rfl
theorem m_steepnessA (hz : ∀ j : Nat, j < 144 → f j = iI 0) : mj_Ct m_M_steepness [.ref (mj_NE + 32)] (Wd xs L A V (mY t b (mj_NE + 33) f [zO o])) (some (.double (FP.ddiv (FP.i2d (iI 0)) (FP.i2d (iI 144))))) (Wd xs L A V (mY (iI 0) b (mj_NE + 33) f [zO o])) 0 0 2 := by
  have s1 := r_to (RC := 0) (RS := 0) (dd := 2) (g := (0, [.ref (mj_NE + 32)], [], Wd xs L A V (mY t b (mj_NE + 33) f [zO o]), 0, 0)) (g' := (9, [.ref (mj_NE + 32)], [.ref (mj_NE + 33)], Wd xs L A V (mY (iI 0) b (mj_NE + 33) f [zO o]), 0, 0)) ok_M_steepness 9999 [] rfl trivial
  have s2 := r_tr s1 (q_V ok_M_steepness ok_ML_steepness se_ML_steepness (c_MLsteepness0 hz) rfl rfl rfl rfl rfl ⟨rfl, rfl, rfl⟩)
  exact ct_of ok_M_steepness rfl s2 rfl rfl rfl rfl rfl
theorem m_setA {x y z : Int} (rx : -2147483648 ≤ x ∧ x ≤ 2147483647) (ry : -2147483648 ≤ y ∧ y ≤ 2147483647) (hx : 0 ≤ x ∧ x < 12) (hy : 0 ≤ y ∧ y < 12) (rz : -2147483648 ≤ z ∧ z ≤ 2147483647) (hz : 0 ≤ z ∧ z ≤ 999) (hf : Hts f 144 H) : ∃ f2 : Nat → Int32, mj_Ct m_M_set [.ref (mj_NE + 32), .int (iI x), .int (iI y), .int (iI z)] (Wd xs L A V (mY t b (mj_NE + 33) f [zO o])) (some (.int (iI (H (y * 12 + x).toNat)))) (Wd xs L A V (mY (iI 0) b (mj_NE + 37) f [zO o, zI f2, zL (mj_NE + 36)])) 2 147 3 := by
  obtain ⟨j, hj⟩ : ∃ j : Nat, (j : Int) = y * 12 + x := ⟨(y * 12 + x).toNat, by omega⟩
  have hj2 : (y * 12 + x).toNat = j := by omega
  have hj3 : j < 144 := by omega
  rw [hj2]
  refine ⟨(upd f j (iI z)), ?_⟩
  have s1 := r_to (RC := 2) (RS := 147) (dd := 3) (g := (0, [.ref (mj_NE + 32), .int (iI x), .int (iI y), .int (iI z), mj_u], [], Wd xs L A V (mY t b (mj_NE + 33) f [zO o]), 0, 0)) (g' := (3, [.ref (mj_NE + 32), .int (iI x), .int (iI y), .int (iI z), mj_u], [.int (iI y), .int (iI x), .ref (mj_NE + 32)], Wd xs L A V (mY t b (mj_NE + 33) f [zO o]), 0, 0)) ok_M_set 9999 [] rfl trivial
  have s2 := r_tr s1 (q_V ok_M_set ok_M_isNoField se_M_isNoField (c_isNoField rx ry) rfl rfl rfl rfl rfl ⟨rfl, rfl, rfl⟩)
  rw [noB_f hx hy, if_neg Bool.false_ne_true] at s2
  have s3 := r_tr s2 (r_to (RC := 2) (RS := 147) (dd := 3) (g := (6, [.ref (mj_NE + 32), .int (iI x), .int (iI y), .int (iI z), mj_u], [.int (bI false)], Wd xs L A V (mY (iI 0) b (mj_NE + 33) f [zO o]), 0, 0)) (g' := (15, [.ref (mj_NE + 32), .int (iI x), .int (iI y), .int (iI z), mj_u], [.int (iI 999), .int (iI 0), .int (iI z), .ref (mj_NE + 32)], Wd xs L A V (mY (iI 0) b (mj_NE + 33) f [zO o]), 0, 0)) ok_M_set 9999 [false] rfl ⟨fun q => q rfl, trivial⟩)
  have s4 := r_tr s3 (q_S ok_M_set ok_M_isIn st_M_isIn (c_isIn (v := z) (lo := 0) (hi := 999) rz ⟨by omega, by omega, by omega, by omega⟩) rfl rfl rfl rfl ⟨rfl, rfl, rfl⟩)
  rw [decide_eq_true hz] at s4
  have s5 := r_tr s4 (r_to (RC := 2) (RS := 147) (dd := 3) (g := (18, [.ref (mj_NE + 32), .int (iI x), .int (iI y), .int (iI z), mj_u], [.int (bI true), .ref (mj_NE + 32)], Wd xs L A V (mY (iI 0) b (mj_NE + 33) f [zO o]), 0, 0)) (g' := (27, [.ref (mj_NE + 32), .int (iI x), .int (iI y), .int (iI z), mj_u], [.int (iI 2), .int (bI false), .ref (mj_NE + 32)], Wd xs L A V (mY (iI 0) b (mj_NE + 33) f [zO o]), 0, 0)) ok_M_set 9999 [true] rfl ⟨by show ¬ ((1 : Int32) = 0); decide, trivial⟩)
  have s6 := r_tr s5 (q_V ok_M_set ok_M_refuse se_M_refuse (c_refuse (q := false) (k := 2) ⟨by omega, by omega⟩) rfl rfl rfl rfl rfl ⟨rfl, rfl, rfl⟩)
  rw [if_neg Bool.false_ne_true] at s6
  have s7 := r_tr s6 (r_to (RC := 2) (RS := 147) (dd := 3) (g := (30, [.ref (mj_NE + 32), .int (iI x), .int (iI y), .int (iI z), mj_u], [.int (bI false)], Wd xs L A V (mY (iI 0) b (mj_NE + 33) f [zO o]), 0, 0)) (g' := (45, [.ref (mj_NE + 32), .int (iI x), .int (iI y), .int (iI z), mj_u], [.int (iI y), .int (iI x), .ref (mj_NE + 32), .ref (mj_NE + 34)], Wd xs L A V (mY (iI 0) b (mj_NE + 33) f [zO o]), 0, 0)) ok_M_set 9999 [true] rfl ⟨by show ((0 : Int32) = 0); rfl, trivial⟩)
  have s8 := r_tr s7 (q_V ok_M_set ok_M_number se_M_number (c_number) rfl rfl rfl rfl rfl ⟨rfl, rfl, rfl⟩)
  rw [← hj] at s8
  have s9 := r_tr s8 (r_to (RC := 2) (RS := 147) (dd := 3) (g := (48, [.ref (mj_NE + 32), .int (iI x), .int (iI y), .int (iI z), mj_u], [.int (iI (j : Int)), .ref (mj_NE + 34)], Wd xs L A V (mY (iI 0) b (mj_NE + 33) f [zO o]), 0, 0)) (g' := (59, [.ref (mj_NE + 32), .int (iI x), .int (iI y), .int (iI z), .int (f (iI (j : Int)).toNatClampNeg)], [.int (iI y), .int (iI x), .ref (mj_NE + 32), .ref (mj_NE + 33), .ref (mj_NE + 32)], Wd xs L A V (mY (iI 0) b (mj_NE + 33) f [zO o]), 0, 0)) ok_M_set 9999 [] rfl ⟨in_nat hj3 (by omega), trivial⟩)
  rw [cl_nat (by omega), (hf j hj3).1] at s9
  have s10 := r_tr s9 (q_V ok_M_set ok_M_number se_M_number (c_number) rfl rfl rfl rfl rfl ⟨rfl, rfl, rfl⟩)
  rw [← hj] at s10
  have s11 := r_tr s10 (r_to (RC := 2) (RS := 147) (dd := 3) (g := (62, [.ref (mj_NE + 32), .int (iI x), .int (iI y), .int (iI z), .int (iI (H j))], [.int (iI (j : Int)), .ref (mj_NE + 33), .ref (mj_NE + 32)], Wd xs L A V (mY (iI 0) b (mj_NE + 33) f [zO o]), 0, 0)) (g' := (63, [.ref (mj_NE + 32), .int (iI x), .int (iI y), .int (iI z), .int (iI (H j))], [.int (iI z), .int (iI (j : Int)), .ref (mj_NE + 33), .ref (mj_NE + 32)], Wd xs L A V (mY (iI 0) b (mj_NE + 33) f [zO o]), 0, 0)) ok_M_set 9999 [] rfl trivial)
  have s12 := r_tr s11 (q_V ok_M_set ok_ML_with se_ML_with (c_ML_with1 hj3) rfl rfl rfl rfl rfl ⟨rfl, rfl, rfl⟩)
  have s13 := r_tr s12 (r_to (RC := 2) (RS := 147) (dd := 3) (g := (66, [.ref (mj_NE + 32), .int (iI x), .int (iI y), .int (iI z), .int (iI (H j))], [.ref (mj_NE + 37), .ref (mj_NE + 32)], Wd xs L A V (mY (iI 0) b (mj_NE + 33) f [zO o, zI (upd f j (iI z)), zL (mj_NE + 36)]), 2, 147)) (g' := (71, [.ref (mj_NE + 32), .int (iI x), .int (iI y), .int (iI z), .int (iI (H j))], [.int (iI (H j))], Wd xs L A V (mY (iI 0) b (mj_NE + 37) f [zO o, zI (upd f j (iI z)), zL (mj_NE + 36)]), 2, 147)) ok_M_set 9999 [] rfl trivial)
  exact ct_of ok_M_set rfl s13 rfl rfl rfl rfl rfl
theorem m_volumeWithA {x y z : Int} (rx : -2147483648 ≤ x ∧ x ≤ 2147483647) (ry : -2147483648 ≤ y ∧ y ≤ 2147483647) (hx : 0 ≤ x ∧ x < 12) (hy : 0 ≤ y ∧ y < 12) (rz : -2147483648 ≤ z ∧ z ≤ 2147483647) (hz : 0 ≤ z ∧ z ≤ 999) (hno : ∀ lev, LvOK 12 12 144 (supI H (y * 12 + x).toNat z) lev → ∀ j, j < 144 → lev j = supI H (y * 12 + x).toNat z j) (hf : Hts f 144 H) : ∃ f2 fm fd : Nat → Int32, mj_Ct m_M_volumeWith [.ref (mj_NE + 32), .int (iI x), .int (iI y), .int (iI z)] (Wd xs L A V (mY t b (mj_NE + 33) f [zO o])) (some (.int (iI 0))) (Wd xs L A V (mY (iI 0) b (mj_NE + 33) f [zO o, zI f2, zL (mj_NE + 36), zI fm, zB fd])) 4 435 3 := by
  obtain ⟨j, hj⟩ : ∃ j : Nat, (j : Int) = y * 12 + x := ⟨(y * 12 + x).toNat, by omega⟩
  have hj2 : (y * 12 + x).toNat = j := by omega
  have hj3 : j < 144 := by omega
  rw [hj2] at hno
  have hf2 : Hts (upd f j (iI z)) 144 (supI H j z) := fun i hi => by
    by_cases e : i = j
    · subst e; rw [upd_eq, supI_eq]; exact ⟨rfl, hz⟩
    · rw [upd_ne e, supI_ne e]; exact hf i hi
  obtain ⟨fm, fd, hct⟩ := c_volW (xs := xs) (L := L) (A := A) (V := V) (t := iI 0) (b := b) (f := f) (o := o) hno hf2
  refine ⟨(upd f j (iI z)), fm, fd, ?_⟩
  have s1 := r_to (RC := 4) (RS := 435) (dd := 3) (g := (0, [.ref (mj_NE + 32), .int (iI x), .int (iI y), .int (iI z)], [], Wd xs L A V (mY t b (mj_NE + 33) f [zO o]), 0, 0)) (g' := (3, [.ref (mj_NE + 32), .int (iI x), .int (iI y), .int (iI z)], [.int (iI y), .int (iI x), .ref (mj_NE + 32)], Wd xs L A V (mY t b (mj_NE + 33) f [zO o]), 0, 0)) ok_M_volumeWith 9999 [] rfl trivial
  have s2 := r_tr s1 (q_V ok_M_volumeWith ok_M_isNoField se_M_isNoField (c_isNoField rx ry) rfl rfl rfl rfl rfl ⟨rfl, rfl, rfl⟩)
  rw [noB_f hx hy, if_neg Bool.false_ne_true] at s2
  have s3 := r_tr s2 (r_to (RC := 4) (RS := 435) (dd := 3) (g := (6, [.ref (mj_NE + 32), .int (iI x), .int (iI y), .int (iI z)], [.int (bI false)], Wd xs L A V (mY (iI 0) b (mj_NE + 33) f [zO o]), 0, 0)) (g' := (15, [.ref (mj_NE + 32), .int (iI x), .int (iI y), .int (iI z)], [.int (iI 999), .int (iI 0), .int (iI z), .ref (mj_NE + 32)], Wd xs L A V (mY (iI 0) b (mj_NE + 33) f [zO o]), 0, 0)) ok_M_volumeWith 9999 [false] rfl ⟨fun q => q rfl, trivial⟩)
  have s4 := r_tr s3 (q_S ok_M_volumeWith ok_M_isIn st_M_isIn (c_isIn (v := z) (lo := 0) (hi := 999) rz ⟨by omega, by omega, by omega, by omega⟩) rfl rfl rfl rfl ⟨rfl, rfl, rfl⟩)
  rw [decide_eq_true hz] at s4
  have s5 := r_tr s4 (r_to (RC := 4) (RS := 435) (dd := 3) (g := (18, [.ref (mj_NE + 32), .int (iI x), .int (iI y), .int (iI z)], [.int (bI true), .ref (mj_NE + 32)], Wd xs L A V (mY (iI 0) b (mj_NE + 33) f [zO o]), 0, 0)) (g' := (27, [.ref (mj_NE + 32), .int (iI x), .int (iI y), .int (iI z)], [.int (iI 2), .int (bI false), .ref (mj_NE + 32)], Wd xs L A V (mY (iI 0) b (mj_NE + 33) f [zO o]), 0, 0)) ok_M_volumeWith 9999 [true] rfl ⟨by show ¬ ((1 : Int32) = 0); decide, trivial⟩)
  have s6 := r_tr s5 (q_V ok_M_volumeWith ok_M_refuse se_M_refuse (c_refuse (q := false) (k := 2) ⟨by omega, by omega⟩) rfl rfl rfl rfl rfl ⟨rfl, rfl, rfl⟩)
  rw [if_neg Bool.false_ne_true] at s6
  have s7 := r_tr s6 (r_to (RC := 4) (RS := 435) (dd := 3) (g := (30, [.ref (mj_NE + 32), .int (iI x), .int (iI y), .int (iI z)], [.int (bI false)], Wd xs L A V (mY (iI 0) b (mj_NE + 33) f [zO o]), 0, 0)) (g' := (44, [.ref (mj_NE + 32), .int (iI x), .int (iI y), .int (iI z)], [.int (iI y), .int (iI x), .ref (mj_NE + 32), .ref (mj_NE + 33)], Wd xs L A V (mY (iI 0) b (mj_NE + 33) f [zO o]), 0, 0)) ok_M_volumeWith 9999 [true] rfl ⟨by show ((0 : Int32) = 0); rfl, trivial⟩)
  have s8 := r_tr s7 (q_V ok_M_volumeWith ok_M_number se_M_number (c_number) rfl rfl rfl rfl rfl ⟨rfl, rfl, rfl⟩)
  rw [← hj] at s8
  have s9 := r_tr s8 (r_to (RC := 4) (RS := 435) (dd := 3) (g := (47, [.ref (mj_NE + 32), .int (iI x), .int (iI y), .int (iI z)], [.int (iI (j : Int)), .ref (mj_NE + 33)], Wd xs L A V (mY (iI 0) b (mj_NE + 33) f [zO o]), 0, 0)) (g' := (48, [.ref (mj_NE + 32), .int (iI x), .int (iI y), .int (iI z)], [.int (iI z), .int (iI (j : Int)), .ref (mj_NE + 33)], Wd xs L A V (mY (iI 0) b (mj_NE + 33) f [zO o]), 0, 0)) ok_M_volumeWith 9999 [] rfl trivial)
  have s10 := r_tr s9 (q_V ok_M_volumeWith ok_ML_with se_ML_with (c_ML_with1 hj3) rfl rfl rfl rfl rfl ⟨rfl, rfl, rfl⟩)
  have s11 := r_tr s10 (q_V ok_M_volumeWith ok_ML_volume se_ML_volume (hct) rfl rfl rfl rfl rfl ⟨rfl, rfl, rfl⟩)
  exact ct_of ok_M_volumeWith rfl s11 rfl rfl rfl rfl rfl
end REF22
