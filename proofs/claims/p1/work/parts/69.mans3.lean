/-! THE REFERENCE's answers: tilt, hill, smooth, dig -/
theorem pw_k {g f : Nat → Int32} {k : Nat} (h : f k = g k) : pw g f k = pw g f (k + 1) := by
  funext j
  unfold pw
  by_cases e : j = k
  · subst e; rw [if_neg (by omega), if_pos (by omega)]; exact h
  · by_cases q : j < k
    · rw [if_pos q, if_pos (by omega)]
    · rw [if_neg q, if_neg (by omega)]
theorem upd_same {f : Nat → Int32} {k : Nat} {x : Int32} (h : f k = x) : upd f k x = f := by
  funext j
  by_cases e : j = k
  · subst e; rw [upd_eq]; exact h.symm
  · rw [upd_ne e]
theorem c_bound {v : Int} {hp : mj_H} (hv : -2147483648 ≤ v ∧ v ≤ 2147483647) : mj_Ct m_M_bound [.int (iI v)] hp (some (.int (iI (clH v)))) hp 0 0 1 := by
  have s1 := r_to (RC := 0) (RS := 0) (dd := 1) (g := (0, [.int (iI v)], [], hp, 0, 0)) (g' := (5, [.int (iI v)], [.int (iI v), .int (iI 999), .int (iI 0)], hp, 0, 0)) ok_M_bound 9999 [] rfl trivial
  have s2 := r_tr s1 (q_S ok_M_bound ok_Math_min st_Math_min (c_min (a := 999) (b := v) ⟨by omega, by omega⟩ ⟨by omega, by omega⟩) rfl rfl rfl rfl ⟨rfl, rfl, rfl⟩)
  have s3 := r_tr s2 (q_S ok_M_bound ok_Math_max st_Math_max (c_max (a := 0) (b := min 999 v) ⟨by omega, by omega⟩ ⟨by omega, by omega⟩) rfl rfl rfl rfl ⟨rfl, rfl, rfl⟩)
  rw [show max 0 (min 999 v) = clH v by unfold clH; split <;> (try split) <;> omega] at s3
  exact ct_of ok_M_bound rfl s3 rfl rfl rfl rfl rfl
section REF23
variable {xs : Nat → Int32} {L : Nat} {A : Nat → Nat → Int32} {V : Nat → Int32} {t b : Int32} {ld : Nat} {f : Nat → Int32} {o : Nat → Int64} {H : Nat → Int} {Z : mj_H} {z1 z2 z3 : mj_Cl}
set_option maxHeartbeats 1000000 in
theorem m_tiltA {p q r : Int} (rp : -2147483648 ≤ p ∧ p ≤ 2147483647) (rq : -2147483648 ≤ q ∧ q ≤ 2147483647) (rr : -2147483648 ≤ r ∧ r ≤ 2147483647) (hp : -100 ≤ p ∧ p ≤ 100) (hq : -100 ≤ q ∧ q ≤ 100) (hr : -100 ≤ r ∧ r ≤ 100) (hf : Hts f 144 H) : ∃ f2 : Nat → Int32, mj_Ct m_M_tilt [.ref (mj_NE + 32), .int (iI p), .int (iI q), .int (iI r)] (Wd xs L A V (mY t b (mj_NE + 33) f [zO o])) (some (.int (iI (mxH (slH 12 p q r H) 144)))) (Wd xs L A V (mY (iI 0) b (mj_NE + 37) f [zO o, zI f2, zL (mj_NE + 36)])) 2 147 3 := by
  refine ⟨(pw (fun j => iI (slH 12 p q r H j)) f 144), ?_⟩
  have s1 := r_to (RC := 2) (RS := 147) (dd := 3) (g := (0, [.ref (mj_NE + 32), .int (iI p), .int (iI q), .int (iI r), mj_u, mj_u, mj_u, mj_u], [], Wd xs L A V (mY t b (mj_NE + 33) f [zO o]), 0, 0)) (g' := (6, [.ref (mj_NE + 32), .int (iI p), .int (iI q), .int (iI r), mj_u, mj_u, mj_u, mj_u], [.int (iI 100), .int (iI (-100)), .int (iI p), .ref (mj_NE + 32)], Wd xs L A V (mY t b (mj_NE + 33) f [zO o]), 0, 0)) ok_M_tilt 9999 [] rfl trivial
  have s2 := r_tr s1 (q_S ok_M_tilt ok_M_isIn st_M_isIn (c_isIn (v := p) (lo := -100) (hi := 100) rp ⟨by omega, by omega, by omega, by omega⟩) rfl rfl rfl rfl ⟨rfl, rfl, rfl⟩)
  rw [decide_eq_true hp] at s2
  have s3 := r_tr s2 (r_to (RC := 2) (RS := 147) (dd := 3) (g := (9, [.ref (mj_NE + 32), .int (iI p), .int (iI q), .int (iI r), mj_u, mj_u, mj_u, mj_u], [.int (bI true), .ref (mj_NE + 32)], Wd xs L A V (mY t b (mj_NE + 33) f [zO o]), 0, 0)) (g' := (17, [.ref (mj_NE + 32), .int (iI p), .int (iI q), .int (iI r), mj_u, mj_u, mj_u, mj_u], [.int (iI 100), .int (iI (-100)), .int (iI q), .ref (mj_NE + 32)], Wd xs L A V (mY t b (mj_NE + 33) f [zO o]), 0, 0)) ok_M_tilt 9999 [false] rfl ⟨by show ¬ ((1 : Int32) = 0); decide, trivial⟩)
  have s4 := r_tr s3 (q_S ok_M_tilt ok_M_isIn st_M_isIn (c_isIn (v := q) (lo := -100) (hi := 100) rq ⟨by omega, by omega, by omega, by omega⟩) rfl rfl rfl rfl ⟨rfl, rfl, rfl⟩)
  rw [decide_eq_true hq] at s4
  have s5 := r_tr s4 (r_to (RC := 2) (RS := 147) (dd := 3) (g := (20, [.ref (mj_NE + 32), .int (iI p), .int (iI q), .int (iI r), mj_u, mj_u, mj_u, mj_u], [.int (bI true), .ref (mj_NE + 32)], Wd xs L A V (mY t b (mj_NE + 33) f [zO o]), 0, 0)) (g' := (28, [.ref (mj_NE + 32), .int (iI p), .int (iI q), .int (iI r), mj_u, mj_u, mj_u, mj_u], [.int (iI 100), .int (iI (-100)), .int (iI r), .ref (mj_NE + 32)], Wd xs L A V (mY t b (mj_NE + 33) f [zO o]), 0, 0)) ok_M_tilt 9999 [false] rfl ⟨by show ¬ ((1 : Int32) = 0); decide, trivial⟩)
  have s6 := r_tr s5 (q_S ok_M_tilt ok_M_isIn st_M_isIn (c_isIn (v := r) (lo := -100) (hi := 100) rr ⟨by omega, by omega, by omega, by omega⟩) rfl rfl rfl rfl ⟨rfl, rfl, rfl⟩)
  rw [decide_eq_true hr] at s6
  have s7 := r_tr s6 (r_to (RC := 2) (RS := 147) (dd := 3) (g := (31, [.ref (mj_NE + 32), .int (iI p), .int (iI q), .int (iI r), mj_u, mj_u, mj_u, mj_u], [.int (bI true), .ref (mj_NE + 32)], Wd xs L A V (mY t b (mj_NE + 33) f [zO o]), 0, 0)) (g' := (40, [.ref (mj_NE + 32), .int (iI p), .int (iI q), .int (iI r), mj_u, mj_u, mj_u, mj_u], [.int (iI 1), .int (bI false), .ref (mj_NE + 32)], Wd xs L A V (mY t b (mj_NE + 33) f [zO o]), 0, 0)) ok_M_tilt 9999 [true] rfl ⟨by show ¬ ((1 : Int32) = 0); decide, trivial⟩)
  have s8 := r_tr s7 (q_V ok_M_tilt ok_M_start se_M_start (c_start (q := false) (k := 1) ⟨by omega, by omega⟩) rfl rfl rfl rfl rfl ⟨rfl, rfl, rfl⟩)
  rw [if_neg Bool.false_ne_true] at s8
  have s9 := r_tr s8 (r_to (RC := 2) (RS := 147) (dd := 3) (g := (43, [.ref (mj_NE + 32), .int (iI p), .int (iI q), .int (iI r), mj_u, mj_u, mj_u, mj_u], [.int (bI false)], Wd xs L A V (mY (iI 0) b (mj_NE + 33) f [zO o]), 0, 0)) (g' := (55, [.ref (mj_NE + 32), .int (iI p), .int (iI q), .int (iI r), mj_u, mj_u, mj_u, mj_u], [.ref (mj_NE + 34)], Wd xs L A V (mY (iI 0) b (mj_NE + 33) f [zO o]), 0, 0)) ok_M_tilt 9999 [true] rfl ⟨by show ((0 : Int32) = 0); rfl, trivial⟩)
  have cl : mj_Rc m_M_tilt 2 147 3 (55, [.ref (mj_NE + 32), .int (iI p), .int (iI q), .int (iI r), mj_u, mj_u, mj_u, mj_u], [.ref (mj_NE + 34)], Wd xs L A V (mY (iI 0) b (mj_NE + 33) f [zO o]), 0, 0) (61, [.ref (mj_NE + 32), .int (iI p), .int (iI q), .int (iI r), mj_u, mj_u, mj_u, mj_u], [.ref (mj_NE + 36)], Wd xs L A V (mY (iI 0) b (mj_NE + 33) f [zO o, zI f]), 1, 144) := r_clone ok_M_tilt (k2 := 967) rfl (by decide +kernel) rfl rfl rfl (by decide +kernel) rfl rfl ⟨rfl, rfl, rfl⟩
  have s10 := r_tr s9 cl
  have s11 := r_tr s10 (r_to (RC := 2) (RS := 147) (dd := 3) (g := (61, [.ref (mj_NE + 32), .int (iI p), .int (iI q), .int (iI r), mj_u, mj_u, mj_u, mj_u], [.ref (mj_NE + 36)], Wd xs L A V (mY (iI 0) b (mj_NE + 33) f [zO o, zI f]), 1, 144)) (g' := (66, [.ref (mj_NE + 32), .int (iI p), .int (iI q), .int (iI r), .ref (mj_NE + 36), .int (iI 0), mj_u, mj_u], [], Wd xs L A V (mY (iI 0) b (mj_NE + 33) f [zO o, zI f]), 1, 144)) ok_M_tilt 66 [] rfl trivial)
  have lp : ∀ n : Nat, n ≤ 144 → ∃ u6 u7 : Value, mj_Rc m_M_tilt 2 147 3 (0, [.ref (mj_NE + 32), .int (iI p), .int (iI q), .int (iI r), mj_u, mj_u, mj_u, mj_u], [], Wd xs L A V (mY t b (mj_NE + 33) f [zO o]), 0, 0) (66, [.ref (mj_NE + 32), .int (iI p), .int (iI q), .int (iI r), .ref (mj_NE + 36), .int (iI (n : Int)), u6, u7], [], Wd xs L A V (mY (iI 0) b (mj_NE + 33) f [zO o, zI (pw (fun j => iI (slH 12 p q r H j)) f n)]), 1, 144) := by
    intro n
    induction n with
    | zero => intro _; rw [pw_0]; exact ⟨_, _, s11⟩
    | succ n ih =>
      intro hn
      obtain ⟨u6, u7, hr0⟩ := ih (by omega)
      have hn2 : n < 144 := by omega
      have c0 : ¬ (iI 144 ≤ iI (n : Int)) := by rw [iI_le ⟨by omega, by omega⟩ ⟨by omega, by omega⟩]; omega
      have hc : (iI (n : Int)).toNatClampNeg = n := cl_nat (by omega)
      have hin : vp_in (iI (n : Int)) 144 := in_nat (by omega) (by omega)
      obtain ⟨e0, b1, b2⟩ := hf n hn2
      obtain ⟨X, hX⟩ : ∃ X : Int, X = (n : Int) % 12 := ⟨_, rfl⟩
      obtain ⟨Y1, hY⟩ : ∃ Y1 : Int, Y1 = (n : Int) / 12 := ⟨_, rfl⟩
      have bX : 0 ≤ X ∧ X ≤ 16 := by omega
      have bY : 0 ≤ Y1 ∧ Y1 ≤ 16 := by omega
      have bw := bump_bd X Y1
      have m1 := mul_bd (p := p) (q := X) (P := 100) (Q := 16) hp bX
      have m2 := mul_bd (p := q) (q := Y1) (P := 100) (Q := 16) hq bY
      have m3 := mul_bd (p := r) (q := bump X Y1) (P := 100) (Q := 16) hr bw
      rw [Int.mul_comm r] at m3
      have m4 := mul_bd (p := X) (q := Y1) (P := 16) (Q := 16) ⟨by omega, by omega⟩ bY
      have m5 : 0 ≤ X * Y1 := Int.mul_nonneg bX.1 bY.1
      have eb : iI X * iI 7 + iI Y1 * iI 13 + iI X * iI Y1 * iI 5 - (iI X * iI 7 + iI Y1 * iI 13 + iI X * iI Y1 * iI 5) / iI 17 * iI 17 = iI (bump X Y1) := by
        rw [iI_mul, iI_mul, iI_mul, iI_mul, iI_add, iI_add, iI_rem ⟨by omega, by omega⟩ ⟨by omega, by omega⟩, Int.tmod_eq_emod_of_nonneg (by omega)]
        rfl
      have s1 := r_tr hr0 (r_to (RC := 2) (RS := 147) (dd := 3) (g := (66, [.ref (mj_NE + 32), .int (iI p), .int (iI q), .int (iI r), .ref (mj_NE + 36), .int (iI (n : Int)), u6, u7], [], Wd xs L A V (mY (iI 0) b (mj_NE + 33) f [zO o, zI (pw (fun j => iI (slH 12 p q r H j)) f n)]), 1, 144)) (g' := (86, [.ref (mj_NE + 32), .int (iI p), .int (iI q), .int (iI r), .ref (mj_NE + 36), .int (iI (n : Int)), .int ((iI (n : Int)) - (iI (n : Int)) / (iI 12) * (iI 12)), u7], [], Wd xs L A V (mY (iI 0) b (mj_NE + 33) f [zO o, zI (pw (fun j => iI (slH 12 p q r H j)) f n)]), 1, 144)) ok_M_tilt 86 [false] rfl ⟨c0, by decide +kernel, trivial⟩)
      rw [iI_mod12 hn2] at s1
      have s2 := r_tr s1 (r_to (RC := 2) (RS := 147) (dd := 3) (g := (86, [.ref (mj_NE + 32), .int (iI p), .int (iI q), .int (iI r), .ref (mj_NE + 36), .int (iI (n : Int)), .int (iI ((n : Int) % 12)), u7], [], Wd xs L A V (mY (iI 0) b (mj_NE + 33) f [zO o, zI (pw (fun j => iI (slH 12 p q r H j)) f n)]), 1, 144)) (g' := (98, [.ref (mj_NE + 32), .int (iI p), .int (iI q), .int (iI r), .ref (mj_NE + 36), .int (iI (n : Int)), .int (iI ((n : Int) % 12)), .int ((iI (n : Int)) / (iI 12))], [], Wd xs L A V (mY (iI 0) b (mj_NE + 33) f [zO o, zI (pw (fun j => iI (slH 12 p q r H j)) f n)]), 1, 144)) ok_M_tilt 98 [] rfl ⟨by decide +kernel, trivial⟩)
      rw [iI_div12 hn2] at s2
      rw [← hX, ← hY] at s2
      have s3 := r_tr s2 (r_to (RC := 2) (RS := 147) (dd := 3) (g := (98, [.ref (mj_NE + 32), .int (iI p), .int (iI q), .int (iI r), .ref (mj_NE + 36), .int (iI (n : Int)), .int (iI X), .int (iI Y1)], [], Wd xs L A V (mY (iI 0) b (mj_NE + 33) f [zO o, zI (pw (fun j => iI (slH 12 p q r H j)) f n)]), 1, 144)) (g' := (142, [.ref (mj_NE + 32), .int (iI p), .int (iI q), .int (iI r), .ref (mj_NE + 36), .int (iI (n : Int)), .int (iI X), .int (iI Y1)], [.int (((((pw (fun j => iI (slH 12 p q r H j)) f n) (iI (n : Int)).toNatClampNeg) + ((iI p) * (iI X))) + ((iI q) * (iI Y1))) + ((((((iI X) * (iI 7)) + ((iI Y1) * (iI 13))) + (((iI X) * (iI Y1)) * (iI 5))) - ((((iI X) * (iI 7)) + ((iI Y1) * (iI 13))) + (((iI X) * (iI Y1)) * (iI 5))) / (iI 17) * (iI 17)) * (iI r))), .int (iI (n : Int)), .ref (mj_NE + 36)], Wd xs L A V (mY (iI 0) b (mj_NE + 33) f [zO o, zI (pw (fun j => iI (slH 12 p q r H j)) f n)]), 1, 144)) ok_M_tilt 9999 [] rfl ⟨hin, by decide +kernel, trivial⟩)
      rw [hc, pw_ge (Nat.lt_irrefl _), (hf n hn2).1, eb, iI_mul, iI_mul, iI_mul, iI_add, iI_add, iI_add] at s3
      have s4 := r_tr s3 (q_S ok_M_tilt ok_M_bound st_M_bound (c_bound ⟨by omega, by omega⟩) rfl rfl rfl rfl ⟨rfl, rfl, rfl⟩)
      rw [show clH (H n + p * X + q * Y1 + bump X Y1 * r) = slH 12 p q r H n by unfold slH; rw [hX, hY]] at s4
      have s5 := r_tr s4 (r_to (RC := 2) (RS := 147) (dd := 3) (g := (145, [.ref (mj_NE + 32), .int (iI p), .int (iI q), .int (iI r), .ref (mj_NE + 36), .int (iI (n : Int)), .int (iI X), .int (iI Y1)], [.int (iI (slH 12 p q r H n)), .int (iI (n : Int)), .ref (mj_NE + 36)], Wd xs L A V (mY (iI 0) b (mj_NE + 33) f [zO o, zI (pw (fun j => iI (slH 12 p q r H j)) f n)]), 1, 144)) (g' := (66, [.ref (mj_NE + 32), .int (iI p), .int (iI q), .int (iI r), .ref (mj_NE + 36), .int ((iI (n : Int)) + 1), .int (iI X), .int (iI Y1)], [], Wd xs L A V (mY (iI 0) b (mj_NE + 33) f [zO o, zI (upd (pw (fun j => iI (slH 12 p q r H j)) f n) (iI (n : Int)).toNatClampNeg (iI (slH 12 p q r H n)))]), 1, 144)) ok_M_tilt 66 [] rfl ⟨hin, trivial⟩)
      rw [hc, iI_1, pw_s rfl] at s5
      exact ⟨_, _, s5⟩
  obtain ⟨u6, u7, hr0⟩ := lp 144 (Nat.le_refl _)
  have z1 := r_tr hr0 (r_to (RC := 2) (RS := 147) (dd := 3) (g := (66, [.ref (mj_NE + 32), .int (iI p), .int (iI q), .int (iI r), .ref (mj_NE + 36), .int (iI ((144 : Nat) : Int)), u6, u7], [], Wd xs L A V (mY (iI 0) b (mj_NE + 33) f [zO o, zI (pw (fun j => iI (slH 12 p q r H j)) f 144)]), 1, 144)) (g' := (155, [.ref (mj_NE + 32), .int (iI p), .int (iI q), .int (iI r), .ref (mj_NE + 36), .int (iI ((144 : Nat) : Int)), u6, u7], [.ref (mj_NE + 36), .ref (mj_NE + 32)], Wd xs L A V (mY (iI 0) b (mj_NE + 33) f [zO o, zI (pw (fun j => iI (slH 12 p q r H j)) f 144)]), 1, 144)) ok_M_tilt 9999 [true] rfl ⟨by show iI 144 ≤ iI ((144 : Nat) : Int); rw [iI_le ⟨by omega, by omega⟩ ⟨by omega, by omega⟩]; omega, trivial⟩)
  have z2 := r_tr z1 (q_V ok_M_tilt ok_M_take se_M_take (c_take_a (F := slH 12 p q r H) (fun j hj => by rw [pw_lt hj]; exact ⟨rfl, clH_bd _⟩) hf) rfl rfl rfl rfl rfl ⟨rfl, rfl, rfl⟩)
  have z3 := r_tr z2 (r_to (RC := 2) (RS := 147) (dd := 3) (g := (158, [.ref (mj_NE + 32), .int (iI p), .int (iI q), .int (iI r), .ref (mj_NE + 36), .int (iI ((144 : Nat) : Int)), u6, u7], [.int (iI (cnt (fun j => decide (slH 12 p q r H j ≠ H j)) 144))], Wd xs L A V (mY (iI 0) b (mj_NE + 37) f [zO o, zI (pw (fun j => iI (slH 12 p q r H j)) f 144), zL (mj_NE + 36)]), 2, 147)) (g' := (163, [.ref (mj_NE + 32), .int (iI p), .int (iI q), .int (iI r), .ref (mj_NE + 36), .int (iI ((144 : Nat) : Int)), u6, u7], [.ref (mj_NE + 37)], Wd xs L A V (mY (iI 0) b (mj_NE + 37) f [zO o, zI (pw (fun j => iI (slH 12 p q r H j)) f 144), zL (mj_NE + 36)]), 2, 147)) ok_M_tilt 9999 [] rfl trivial)
  have z4 := r_tr z3 (q_V ok_M_tilt ok_ML_greatest se_ML_greatest (c_greW (fun j hj => by rw [pw_lt hj]; exact ⟨rfl, clH_bd _⟩)) rfl rfl rfl rfl rfl ⟨rfl, rfl, rfl⟩)
  exact ct_of ok_M_tilt rfl z4 rfl rfl rfl rfl rfl
set_option maxHeartbeats 1000000 in
theorem m_hillA {x y r b0 : Int} (rx : -2147483648 ≤ x ∧ x ≤ 2147483647) (ry : -2147483648 ≤ y ∧ y ≤ 2147483647) (hx : 0 ≤ x ∧ x < 12) (hy : 0 ≤ y ∧ y < 12) (rr : -2147483648 ≤ r ∧ r ≤ 2147483647) (rb0 : -2147483648 ≤ b0 ∧ b0 ≤ 2147483647) (hr : 0 ≤ r ∧ r ≤ 8) (hb0 : -500 ≤ b0 ∧ b0 ≤ 500) (hf : Hts f 144 H) : ∃ f2 : Nat → Int32, mj_Ct m_M_hill [.ref (mj_NE + 32), .int (iI x), .int (iI y), .int (iI r), .int (iI b0)] (Wd xs L A V (mY t b (mj_NE + 33) f [zO o])) (some (.int (iI (cnt (fun j => decide (raH 12 x y r b0 H j ≠ H j)) 144)))) (Wd xs L A V (mY (iI 0) b (mj_NE + 37) f [zO o, zI f2, zL (mj_NE + 36)])) 2 147 3 := by
  refine ⟨(pw (fun j => iI (raH 12 x y r b0 H j)) f 144), ?_⟩
  have rsq := sq_bd (p := r) (P := 8) ⟨by omega, by omega⟩
  have raH_b : ∀ j, j < 144 → 0 ≤ raH 12 x y r b0 H j ∧ raH 12 x y r b0 H j ≤ 999 := fun j hj => by
    unfold raH
    split
    · exact clH_bd _
    · exact (hf j hj).2
  have s1 := r_to (RC := 2) (RS := 147) (dd := 3) (g := (0, [.ref (mj_NE + 32), .int (iI x), .int (iI y), .int (iI r), .int (iI b0), mj_u, mj_u, mj_u, mj_u, mj_u], [], Wd xs L A V (mY t b (mj_NE + 33) f [zO o]), 0, 0)) (g' := (3, [.ref (mj_NE + 32), .int (iI x), .int (iI y), .int (iI r), .int (iI b0), mj_u, mj_u, mj_u, mj_u, mj_u], [.int (iI y), .int (iI x), .ref (mj_NE + 32)], Wd xs L A V (mY t b (mj_NE + 33) f [zO o]), 0, 0)) ok_M_hill 9999 [] rfl trivial
  have s2 := r_tr s1 (q_V ok_M_hill ok_M_isNoField se_M_isNoField (c_isNoField rx ry) rfl rfl rfl rfl rfl ⟨rfl, rfl, rfl⟩)
  rw [noB_f hx hy, if_neg Bool.false_ne_true] at s2
  have s3 := r_tr s2 (r_to (RC := 2) (RS := 147) (dd := 3) (g := (6, [.ref (mj_NE + 32), .int (iI x), .int (iI y), .int (iI r), .int (iI b0), mj_u, mj_u, mj_u, mj_u, mj_u], [.int (bI false)], Wd xs L A V (mY (iI 0) b (mj_NE + 33) f [zO o]), 0, 0)) (g' := (14, [.ref (mj_NE + 32), .int (iI x), .int (iI y), .int (iI r), .int (iI b0), mj_u, mj_u, mj_u, mj_u, mj_u], [.int (iI 8), .int (iI 0), .int (iI r), .ref (mj_NE + 32)], Wd xs L A V (mY (iI 0) b (mj_NE + 33) f [zO o]), 0, 0)) ok_M_hill 9999 [false] rfl ⟨fun q => q rfl, trivial⟩)
  have s4 := r_tr s3 (q_S ok_M_hill ok_M_isIn st_M_isIn (c_isIn (v := r) (lo := 0) (hi := 8) rr ⟨by omega, by omega, by omega, by omega⟩) rfl rfl rfl rfl ⟨rfl, rfl, rfl⟩)
  rw [decide_eq_true hr] at s4
  have s5 := r_tr s4 (r_to (RC := 2) (RS := 147) (dd := 3) (g := (17, [.ref (mj_NE + 32), .int (iI x), .int (iI y), .int (iI r), .int (iI b0), mj_u, mj_u, mj_u, mj_u, mj_u], [.int (bI true), .ref (mj_NE + 32)], Wd xs L A V (mY (iI 0) b (mj_NE + 33) f [zO o]), 0, 0)) (g' := (28, [.ref (mj_NE + 32), .int (iI x), .int (iI y), .int (iI r), .int (iI b0), mj_u, mj_u, mj_u, mj_u, mj_u], [.int (iI 500), .int (iI (-500)), .int (iI b0), .ref (mj_NE + 32)], Wd xs L A V (mY (iI 0) b (mj_NE + 33) f [zO o]), 0, 0)) ok_M_hill 9999 [false] rfl ⟨by show ¬ ((1 : Int32) = 0); decide, trivial⟩)
  have s6 := r_tr s5 (q_S ok_M_hill ok_M_isIn st_M_isIn (c_isIn (v := b0) (lo := -500) (hi := 500) rb0 ⟨by omega, by omega, by omega, by omega⟩) rfl rfl rfl rfl ⟨rfl, rfl, rfl⟩)
  rw [decide_eq_true hb0] at s6
  have s7 := r_tr s6 (r_to (RC := 2) (RS := 147) (dd := 3) (g := (31, [.ref (mj_NE + 32), .int (iI x), .int (iI y), .int (iI r), .int (iI b0), mj_u, mj_u, mj_u, mj_u, mj_u], [.int (bI true), .ref (mj_NE + 32)], Wd xs L A V (mY (iI 0) b (mj_NE + 33) f [zO o]), 0, 0)) (g' := (40, [.ref (mj_NE + 32), .int (iI x), .int (iI y), .int (iI r), .int (iI b0), mj_u, mj_u, mj_u, mj_u, mj_u], [.int (iI 2), .int (bI false), .ref (mj_NE + 32)], Wd xs L A V (mY (iI 0) b (mj_NE + 33) f [zO o]), 0, 0)) ok_M_hill 9999 [true] rfl ⟨by show ¬ ((1 : Int32) = 0); decide, trivial⟩)
  have s8 := r_tr s7 (q_V ok_M_hill ok_M_refuse se_M_refuse (c_refuse (q := false) (k := 2) ⟨by omega, by omega⟩) rfl rfl rfl rfl rfl ⟨rfl, rfl, rfl⟩)
  rw [if_neg Bool.false_ne_true] at s8
  have s9 := r_tr s8 (r_to (RC := 2) (RS := 147) (dd := 3) (g := (43, [.ref (mj_NE + 32), .int (iI x), .int (iI y), .int (iI r), .int (iI b0), mj_u, mj_u, mj_u, mj_u, mj_u], [.int (bI false)], Wd xs L A V (mY (iI 0) b (mj_NE + 33) f [zO o]), 0, 0)) (g' := (55, [.ref (mj_NE + 32), .int (iI x), .int (iI y), .int (iI r), .int (iI b0), mj_u, mj_u, mj_u, mj_u, mj_u], [.ref (mj_NE + 34)], Wd xs L A V (mY (iI 0) b (mj_NE + 33) f [zO o]), 0, 0)) ok_M_hill 9999 [true] rfl ⟨by show ((0 : Int32) = 0); rfl, trivial⟩)
  have cl : mj_Rc m_M_hill 2 147 3 (55, [.ref (mj_NE + 32), .int (iI x), .int (iI y), .int (iI r), .int (iI b0), mj_u, mj_u, mj_u, mj_u, mj_u], [.ref (mj_NE + 34)], Wd xs L A V (mY (iI 0) b (mj_NE + 33) f [zO o]), 0, 0) (61, [.ref (mj_NE + 32), .int (iI x), .int (iI y), .int (iI r), .int (iI b0), mj_u, mj_u, mj_u, mj_u, mj_u], [.ref (mj_NE + 36)], Wd xs L A V (mY (iI 0) b (mj_NE + 33) f [zO o, zI f]), 1, 144) := r_clone ok_M_hill (k2 := 967) rfl (by decide +kernel) rfl rfl rfl (by decide +kernel) rfl rfl ⟨rfl, rfl, rfl⟩
  have s10 := r_tr s9 cl
  have s11 := r_tr s10 (r_to (RC := 2) (RS := 147) (dd := 3) (g := (61, [.ref (mj_NE + 32), .int (iI x), .int (iI y), .int (iI r), .int (iI b0), mj_u, mj_u, mj_u, mj_u, mj_u], [.ref (mj_NE + 36)], Wd xs L A V (mY (iI 0) b (mj_NE + 33) f [zO o, zI f]), 1, 144)) (g' := (66, [.ref (mj_NE + 32), .int (iI x), .int (iI y), .int (iI r), .int (iI b0), .ref (mj_NE + 36), .int (iI 0), mj_u, mj_u, mj_u], [], Wd xs L A V (mY (iI 0) b (mj_NE + 33) f [zO o, zI f]), 1, 144)) ok_M_hill 66 [] rfl trivial)
  have lp : ∀ n : Nat, n ≤ 144 → ∃ u7 u8 u9 : Value, mj_Rc m_M_hill 2 147 3 (0, [.ref (mj_NE + 32), .int (iI x), .int (iI y), .int (iI r), .int (iI b0), mj_u, mj_u, mj_u, mj_u, mj_u], [], Wd xs L A V (mY t b (mj_NE + 33) f [zO o]), 0, 0) (66, [.ref (mj_NE + 32), .int (iI x), .int (iI y), .int (iI r), .int (iI b0), .ref (mj_NE + 36), .int (iI (n : Int)), u7, u8, u9], [], Wd xs L A V (mY (iI 0) b (mj_NE + 33) f [zO o, zI (pw (fun j => iI (raH 12 x y r b0 H j)) f n)]), 1, 144) := by
    intro n
    induction n with
    | zero => intro _; rw [pw_0]; exact ⟨_, _, _, s11⟩
    | succ n ih =>
      intro hn
      obtain ⟨u7, u8, u9, hr0⟩ := ih (by omega)
      have hn2 : n < 144 := by omega
      have c0 : ¬ (iI 144 ≤ iI (n : Int)) := by rw [iI_le ⟨by omega, by omega⟩ ⟨by omega, by omega⟩]; omega
      have hc : (iI (n : Int)).toNatClampNeg = n := cl_nat (by omega)
      have hin : vp_in (iI (n : Int)) 144 := in_nat (by omega) (by omega)
      obtain ⟨e0, b1, b2⟩ := hf n hn2
      obtain ⟨X, hX⟩ : ∃ X : Int, X = (n : Int) % 12 - x := ⟨_, rfl⟩
      obtain ⟨Y1, hY⟩ : ∃ Y1 : Int, Y1 = (n : Int) / 12 - y := ⟨_, rfl⟩
      have sX := sq_bd (p := X) (P := 15) ⟨by omega, by omega⟩
      have sY := sq_bd (p := Y1) (P := 15) ⟨by omega, by omega⟩
      obtain ⟨D, hD⟩ : ∃ D : Int, D = X * X + Y1 * Y1 := ⟨_, rfl⟩
      have hds : dsq 12 x y n = D := by unfold dsq; rw [hD, hX, hY]
      have bD : 0 ≤ D ∧ D ≤ 450 := by omega
      have m1 := mul_bd (p := b0) (q := D) (P := 500) (Q := 450) hb0 bD
      have hdv := Int.natAbs_tdiv_le_natAbs (b0 * D) (r * r + 1)
      have s1 := r_tr hr0 (r_to (RC := 2) (RS := 147) (dd := 3) (g := (66, [.ref (mj_NE + 32), .int (iI x), .int (iI y), .int (iI r), .int (iI b0), .ref (mj_NE + 36), .int (iI (n : Int)), u7, u8, u9], [], Wd xs L A V (mY (iI 0) b (mj_NE + 33) f [zO o, zI (pw (fun j => iI (raH 12 x y r b0 H j)) f n)]), 1, 144)) (g' := (88, [.ref (mj_NE + 32), .int (iI x), .int (iI y), .int (iI r), .int (iI b0), .ref (mj_NE + 36), .int (iI (n : Int)), .int (((iI (n : Int)) - (iI (n : Int)) / (iI 12) * (iI 12)) - (iI x)), u8, u9], [], Wd xs L A V (mY (iI 0) b (mj_NE + 33) f [zO o, zI (pw (fun j => iI (raH 12 x y r b0 H j)) f n)]), 1, 144)) ok_M_hill 88 [false] rfl ⟨c0, by decide +kernel, trivial⟩)
      rw [iI_mod12 hn2, iI_sub, ← hX] at s1
      have s2 := r_tr s1 (r_to (RC := 2) (RS := 147) (dd := 3) (g := (88, [.ref (mj_NE + 32), .int (iI x), .int (iI y), .int (iI r), .int (iI b0), .ref (mj_NE + 36), .int (iI (n : Int)), .int (iI X), u8, u9], [], Wd xs L A V (mY (iI 0) b (mj_NE + 33) f [zO o, zI (pw (fun j => iI (raH 12 x y r b0 H j)) f n)]), 1, 144)) (g' := (102, [.ref (mj_NE + 32), .int (iI x), .int (iI y), .int (iI r), .int (iI b0), .ref (mj_NE + 36), .int (iI (n : Int)), .int (iI X), .int (((iI (n : Int)) / (iI 12)) - (iI y)), u9], [], Wd xs L A V (mY (iI 0) b (mj_NE + 33) f [zO o, zI (pw (fun j => iI (raH 12 x y r b0 H j)) f n)]), 1, 144)) ok_M_hill 102 [] rfl ⟨by decide +kernel, trivial⟩)
      rw [iI_div12 hn2, iI_sub, ← hY] at s2
      have s3 := r_tr s2 (r_to (RC := 2) (RS := 147) (dd := 3) (g := (102, [.ref (mj_NE + 32), .int (iI x), .int (iI y), .int (iI r), .int (iI b0), .ref (mj_NE + 36), .int (iI (n : Int)), .int (iI X), .int (iI Y1), u9], [], Wd xs L A V (mY (iI 0) b (mj_NE + 33) f [zO o, zI (pw (fun j => iI (raH 12 x y r b0 H j)) f n)]), 1, 144)) (g' := (115, [.ref (mj_NE + 32), .int (iI x), .int (iI y), .int (iI r), .int (iI b0), .ref (mj_NE + 36), .int (iI (n : Int)), .int (iI X), .int (iI Y1), .int (((iI X) * (iI X)) + ((iI Y1) * (iI Y1)))], [], Wd xs L A V (mY (iI 0) b (mj_NE + 33) f [zO o, zI (pw (fun j => iI (raH 12 x y r b0 H j)) f n)]), 1, 144)) ok_M_hill 115 [] rfl trivial)
      rw [iI_mul, iI_mul, iI_add, ← hD] at s3
      by_cases hq : D ≤ r * r
      · have hq' : ¬ (r * r < D) := by omega
        have v1 := r_tr s3 (r_to (RC := 2) (RS := 147) (dd := 3) (g := (115, [.ref (mj_NE + 32), .int (iI x), .int (iI y), .int (iI r), .int (iI b0), .ref (mj_NE + 36), .int (iI (n : Int)), .int (iI X), .int (iI Y1), .int (iI D)], [], Wd xs L A V (mY (iI 0) b (mj_NE + 33) f [zO o, zI (pw (fun j => iI (raH 12 x y r b0 H j)) f n)]), 1, 144)) (g' := (147, [.ref (mj_NE + 32), .int (iI x), .int (iI y), .int (iI r), .int (iI b0), .ref (mj_NE + 36), .int (iI (n : Int)), .int (iI X), .int (iI Y1), .int (iI D)], [.int ((((pw (fun j => iI (raH 12 x y r b0 H j)) f n) (iI (n : Int)).toNatClampNeg) + (iI b0)) - (((iI b0) * (iI D)) / (((iI r) * (iI r)) + (iI 1)))), .int (iI (n : Int)), .ref (mj_NE + 36)], Wd xs L A V (mY (iI 0) b (mj_NE + 33) f [zO o, zI (pw (fun j => iI (raH 12 x y r b0 H j)) f n)]), 1, 144)) ok_M_hill 9999 [false] rfl ⟨by show ¬ (iI r * iI r < iI D); rw [iI_mul, iI_lt ⟨by omega, by omega⟩ ⟨by omega, by omega⟩]; omega, hin, by show ¬ (iI r * iI r + iI 1 = 0); rw [iI_mul, iI_add]; exact iI_nz ⟨by omega, by omega⟩ (by omega), trivial⟩)
        rw [hc, pw_ge (Nat.lt_irrefl _), e0, iI_add, iI_mul, iI_mul, iI_add, iI_div ⟨by omega, by omega⟩ ⟨by omega, by omega⟩, iI_sub] at v1
        have v2 := r_tr v1 (q_S ok_M_hill ok_M_bound st_M_bound (c_bound ⟨by omega, by omega⟩) rfl rfl rfl rfl ⟨rfl, rfl, rfl⟩)
        rw [show clH (H n + b0 - (b0 * D).tdiv (r * r + 1)) = raH 12 x y r b0 H n by unfold raH; rw [hds, if_pos (by omega)]] at v2
        have v3 := r_tr v2 (r_to (RC := 2) (RS := 147) (dd := 3) (g := (150, [.ref (mj_NE + 32), .int (iI x), .int (iI y), .int (iI r), .int (iI b0), .ref (mj_NE + 36), .int (iI (n : Int)), .int (iI X), .int (iI Y1), .int (iI D)], [.int (iI (raH 12 x y r b0 H n)), .int (iI (n : Int)), .ref (mj_NE + 36)], Wd xs L A V (mY (iI 0) b (mj_NE + 33) f [zO o, zI (pw (fun j => iI (raH 12 x y r b0 H j)) f n)]), 1, 144)) (g' := (66, [.ref (mj_NE + 32), .int (iI x), .int (iI y), .int (iI r), .int (iI b0), .ref (mj_NE + 36), .int ((iI (n : Int)) + 1), .int (iI X), .int (iI Y1), .int (iI D)], [], Wd xs L A V (mY (iI 0) b (mj_NE + 33) f [zO o, zI (upd (pw (fun j => iI (raH 12 x y r b0 H j)) f n) (iI (n : Int)).toNatClampNeg (iI (raH 12 x y r b0 H n)))]), 1, 144)) ok_M_hill 66 [] rfl ⟨hin, trivial⟩)
        rw [hc, iI_1, pw_s rfl] at v3
        exact ⟨_, _, _, v3⟩
      · have hq' : r * r < D := by omega
        have v1 := r_tr s3 (r_to (RC := 2) (RS := 147) (dd := 3) (g := (115, [.ref (mj_NE + 32), .int (iI x), .int (iI y), .int (iI r), .int (iI b0), .ref (mj_NE + 36), .int (iI (n : Int)), .int (iI X), .int (iI Y1), .int (iI D)], [], Wd xs L A V (mY (iI 0) b (mj_NE + 33) f [zO o, zI (pw (fun j => iI (raH 12 x y r b0 H j)) f n)]), 1, 144)) (g' := (66, [.ref (mj_NE + 32), .int (iI x), .int (iI y), .int (iI r), .int (iI b0), .ref (mj_NE + 36), .int ((iI (n : Int)) + 1), .int (iI X), .int (iI Y1), .int (iI D)], [], Wd xs L A V (mY (iI 0) b (mj_NE + 33) f [zO o, zI (pw (fun j => iI (raH 12 x y r b0 H j)) f n)]), 1, 144)) ok_M_hill 66 [true] rfl ⟨by show iI r * iI r < iI D; rw [iI_mul, iI_lt ⟨by omega, by omega⟩ ⟨by omega, by omega⟩]; omega, trivial⟩)
        rw [iI_1, pw_k (show f n = iI (raH 12 x y r b0 H n) by rw [e0]; unfold raH; rw [if_neg (by rw [hds]; omega)])] at v1
        exact ⟨_, _, _, v1⟩
  obtain ⟨u7, u8, u9, hr0⟩ := lp 144 (Nat.le_refl _)
  have z1 := r_tr hr0 (r_to (RC := 2) (RS := 147) (dd := 3) (g := (66, [.ref (mj_NE + 32), .int (iI x), .int (iI y), .int (iI r), .int (iI b0), .ref (mj_NE + 36), .int (iI ((144 : Nat) : Int)), u7, u8, u9], [], Wd xs L A V (mY (iI 0) b (mj_NE + 33) f [zO o, zI (pw (fun j => iI (raH 12 x y r b0 H j)) f 144)]), 1, 144)) (g' := (160, [.ref (mj_NE + 32), .int (iI x), .int (iI y), .int (iI r), .int (iI b0), .ref (mj_NE + 36), .int (iI ((144 : Nat) : Int)), u7, u8, u9], [.ref (mj_NE + 36), .ref (mj_NE + 32)], Wd xs L A V (mY (iI 0) b (mj_NE + 33) f [zO o, zI (pw (fun j => iI (raH 12 x y r b0 H j)) f 144)]), 1, 144)) ok_M_hill 9999 [true] rfl ⟨by show iI 144 ≤ iI ((144 : Nat) : Int); rw [iI_le ⟨by omega, by omega⟩ ⟨by omega, by omega⟩]; omega, trivial⟩)
  have z2 := r_tr z1 (q_V ok_M_hill ok_M_take se_M_take (c_take_a (F := raH 12 x y r b0 H) (fun j hj => by rw [pw_lt hj]; exact ⟨rfl, raH_b j hj⟩) hf) rfl rfl rfl rfl rfl ⟨rfl, rfl, rfl⟩)
  exact ct_of ok_M_hill rfl z2 rfl rfl rfl rfl rfl
end REF23
