/-! THE REFERENCE's answers: reset, fill, wear, lookout, smooth, dig -/
theorem hts0 : Hts (fun _ => 0) 144 (fun _ => 0) := fun j _ => ⟨rfl, Int.le_refl _, by show (0 : Int) ≤ 999; decide⟩
theorem cnt_same {F : Nat → Int} {n : Nat} : cnt (fun j => decide (F j ≠ F j)) n = 0 := cnt_0 n fun j _ => by simp
section REF24
variable {xs : Nat → Int32} {L : Nat} {A : Nat → Nat → Int32} {V : Nat → Int32} {t b : Int32} {ld : Nat} {f : Nat → Int32} {o : Nat → Int64} {H : Nat → Int} {Z : mj_H} {z1 z2 z3 : mj_Cl}
theorem c_MLinit_r {w h : Int32} : mj_Ct m_ML_init [.ref (mj_NE + 36), .int w, .int h, .ref (mj_NE + 37)] (Wd xs L A V (mY t b ld f [z1, .inr (9, [.int 0, .int 0, .null]), z2])) none (Wd xs L A V (mY t b ld f [z1, .inr (9, [.int w, .int h, .ref (mj_NE + 37)]), z2])) 0 0 1 := by
  have t1 := r_to (RC := 0) (RS := 0) (dd := 1) (g := (0, [.ref (mj_NE + 36), .int w, .int h, .ref (mj_NE + 37)], [], Wd xs L A V (mY t b ld f [z1, .inr (9, [.int 0, .int 0, .null]), z2]), 0, 0)) (g' := (1, [.ref (mj_NE + 36), .int w, .int h, .ref (mj_NE + 37)], [.ref (mj_NE + 36)], Wd xs L A V (mY t b ld f [z1, .inr (9, [.int 0, .int 0, .null]), z2]), 0, 0)) ok_ML_init 9999 [] rfl trivial
  have t2 := r_tr t1 (r_O ok_ML_init rfl rfl rfl)
  exact ct_of ok_ML_init rfl (r_tr t2 (r_to ok_ML_init 9999 [] rfl trivial)) rfl rfl rfl rfl rfl
theorem m_resetA {p q : Int} (rp : -2147483648 ≤ p ∧ p ≤ 2147483647) (rq : -2147483648 ≤ q ∧ q ≤ 2147483647) (hp : 2 ≤ p ∧ p ≤ 16) (hq : 2 ≤ q ∧ q ≤ 16) : ∃ (b2 : Int32) (ld2 : Nat) (f2 : Nat → Int32) (Z2 : mj_H), mj_Ct m_M_reset [.ref (mj_NE + 32), .int (iI p), .int (iI q)] (Wd xs L A V (mY t b (mj_NE + 33) f [zO o])) (some (.int (iI (p * q)))) (Wd xs L A V (mY (iI 0) b2 ld2 f2 (zO o :: Z2))) 2 259 3 := by
  have wh := wh_bd hp hq
  have hpq : iI p * iI q = iI (p * q) := iI_mul p q
  have hN : (iI p * iI q).toNatClampNeg = (p * q).toNat := by rw [hpq, iI_cl (by omega) (by omega)]
  refine ⟨b, mj_NE + 36, f, [.inr (9, [.int (iI p), .int (iI q), .ref (mj_NE + 37)]), .inl (.int, (iI p * iI q).toNatClampNeg, .inl (fun _ => 0))], ?_⟩
  have s1 := r_to (RC := 2) (RS := 259) (dd := 3) (g := (0, [.ref (mj_NE + 32), .int (iI p), .int (iI q)], [], Wd xs L A V (mY t b (mj_NE + 33) f [zO o]), 0, 0)) (g' := (5, [.ref (mj_NE + 32), .int (iI p), .int (iI q)], [.int (iI 16), .int (iI 2), .int (iI p), .ref (mj_NE + 32)], Wd xs L A V (mY t b (mj_NE + 33) f [zO o]), 0, 0)) ok_M_reset 9999 [] rfl trivial
  have s2 := r_tr s1 (q_S ok_M_reset ok_M_isIn st_M_isIn (c_isIn (v := p) (lo := 2) (hi := 16) rp ⟨by omega, by omega, by omega, by omega⟩) rfl rfl rfl rfl ⟨rfl, rfl, rfl⟩)
  rw [decide_eq_true hp] at s2
  have s3 := r_tr s2 (r_to (RC := 2) (RS := 259) (dd := 3) (g := (8, [.ref (mj_NE + 32), .int (iI p), .int (iI q)], [.int (bI true), .ref (mj_NE + 32)], Wd xs L A V (mY t b (mj_NE + 33) f [zO o]), 0, 0)) (g' := (15, [.ref (mj_NE + 32), .int (iI p), .int (iI q)], [.int (iI 16), .int (iI 2), .int (iI q), .ref (mj_NE + 32)], Wd xs L A V (mY t b (mj_NE + 33) f [zO o]), 0, 0)) ok_M_reset 9999 [false] rfl ⟨by show ¬ ((1 : Int32) = 0); decide, trivial⟩)
  have s4 := r_tr s3 (q_S ok_M_reset ok_M_isIn st_M_isIn (c_isIn (v := q) (lo := 2) (hi := 16) rq ⟨by omega, by omega, by omega, by omega⟩) rfl rfl rfl rfl ⟨rfl, rfl, rfl⟩)
  rw [decide_eq_true hq] at s4
  have s5 := r_tr s4 (r_to (RC := 2) (RS := 259) (dd := 3) (g := (18, [.ref (mj_NE + 32), .int (iI p), .int (iI q)], [.int (bI true), .ref (mj_NE + 32)], Wd xs L A V (mY t b (mj_NE + 33) f [zO o]), 0, 0)) (g' := (27, [.ref (mj_NE + 32), .int (iI p), .int (iI q)], [.int (iI 1), .int (bI false), .ref (mj_NE + 32)], Wd xs L A V (mY t b (mj_NE + 33) f [zO o]), 0, 0)) ok_M_reset 9999 [true] rfl ⟨by show ¬ ((1 : Int32) = 0); decide, trivial⟩)
  have s6 := r_tr s5 (q_V ok_M_reset ok_M_start se_M_start (c_start (q := false) (k := 1) ⟨by omega, by omega⟩) rfl rfl rfl rfl rfl ⟨rfl, rfl, rfl⟩)
  rw [if_neg Bool.false_ne_true] at s6
  have s7 := r_tr s6 (r_to (RC := 2) (RS := 259) (dd := 3) (g := (30, [.ref (mj_NE + 32), .int (iI p), .int (iI q)], [.int (bI false)], Wd xs L A V (mY (iI 0) b (mj_NE + 33) f [zO o]), 0, 0)) (g' := (35, [.ref (mj_NE + 32), .int (iI p), .int (iI q)], [], Wd xs L A V (mY (iI 0) b (mj_NE + 33) f [zO o]), 0, 0)) ok_M_reset 35 [true] rfl ⟨by show ((0 : Int32) = 0); rfl, trivial⟩)
  have r1 : mj_Rc m_M_reset 2 259 3 (35, [.ref (mj_NE + 32), .int (iI p), .int (iI q)], [], Wd xs L A V (mY (iI 0) b (mj_NE + 33) f [zO o]), 0, 0) (47, [.ref (mj_NE + 32), .int (iI p), .int (iI q)], [.ref (mj_NE + 37), .int (iI q), .int (iI p), .ref (mj_NE + 36), .ref (mj_NE + 36), .ref (mj_NE + 32)], Wd xs L A V (mY (iI 0) b (mj_NE + 33) f [zO o, .inr (9, [.int 0, .int 0, .null]), .inl (.int, (iI p * iI q).toNatClampNeg, .inl (fun _ => 0))]), 2, 3 + (iI p * iI q).toNatClampNeg) := r_to ok_M_reset 9999 [] rfl ⟨⟨by decide, by decide⟩, ⟨by
    show ¬ (iI p * iI q < iI 0)
    rw [hpq, iI_lt ⟨by omega, by omega⟩ ⟨by omega, by omega⟩]
    omega, by show (iI p * iI q).toNatClampNeg ≤ 1000000; rw [hN]; omega, by decide, by show 3 + (iI p * iI q).toNatClampNeg ≤ 259; rw [hN]; omega⟩, trivial⟩
  have r2 := r_tr (r_tr s7 r1) (q_I ok_M_reset ok_ML_init in_ML_init (c_MLinit_r) rfl rfl rfl rfl ⟨rfl, Nat.ble_eq_true_of_le (by rw [hN]; omega), rfl⟩)
  have r3 := r_tr r2 (r_to (g' := (56, [.ref (mj_NE + 32), .int (iI p), .int (iI q)], [.int (iI p * iI q)], Wd xs L A V (mY (iI 0) b (mj_NE + 36) f [zO o, .inr (9, [.int (iI p), .int (iI q), .ref (mj_NE + 37)]), .inl (.int, (iI p * iI q).toNatClampNeg, .inl (fun _ => 0))]), 2, 3 + (iI p * iI q).toNatClampNeg)) ok_M_reset 9999 [] rfl trivial)
  rw [← hpq]
  exact ct_of ok_M_reset rfl r3 rfl rfl rfl rfl (Nat.ble_eq_true_of_le (by rw [hN]; omega))
theorem m_fillA (hno : ∀ lev, LvOK 12 12 144 H lev → ∀ j, j < 144 → lev j = H j) (hf : Hts f 144 H) : ∃ fm1 fd1 fm2 fd2 : Nat → Int32, mj_Ct m_M_fill [.ref (mj_NE + 32)] (Wd xs L A V (mY t b (mj_NE + 33) f [zO o])) (some (.int (iI 0))) (Wd xs L A V (mY (iI 0) b (mj_NE + 40) f [zO o, zI fm1, zB fd1, zI fm2, zB fd2, zL (mj_NE + 38)])) 5 579 3 := by
  obtain ⟨fm1, fd1, hct⟩ := c_ML_volume1 (xs := xs) (L := L) (A := A) (V := V) (t := iI 0) (b := b) (ld := mj_NE + 33) (o := o) hno hf
  obtain ⟨lev, fm2, fd2, hlv, hfm, hct2⟩ := c_ML_levels3 (xs := xs) (L := L) (A := A) (V := V) (t := iI 0) (b := b) (ld := mj_NE + 33) (o := o) (z1 := zI fm1) (z2 := zB fd1) hf
  refine ⟨fm1, fd1, fm2, fd2, ?_⟩
  have s1 := r_to (RC := 5) (RS := 579) (dd := 3) (g := (0, [.ref (mj_NE + 32), mj_u], [], Wd xs L A V (mY t b (mj_NE + 33) f [zO o]), 0, 0)) (g' := (9, [.ref (mj_NE + 32), mj_u], [.ref (mj_NE + 33)], Wd xs L A V (mY (iI 0) b (mj_NE + 33) f [zO o]), 0, 0)) ok_M_fill 9999 [] rfl trivial
  have s2 := r_tr s1 (q_V ok_M_fill ok_ML_volume se_ML_volume (hct) rfl rfl rfl rfl rfl ⟨rfl, rfl, rfl⟩)
  have s3 := r_tr s2 (r_to (RC := 5) (RS := 579) (dd := 3) (g := (12, [.ref (mj_NE + 32), mj_u], [.int (iI 0)], Wd xs L A V (mY (iI 0) b (mj_NE + 33) f [zO o, zI fm1, zB fd1]), 2, 288)) (g' := (18, [.ref (mj_NE + 32), .int (iI 0)], [.ref (mj_NE + 33), .ref (mj_NE + 32)], Wd xs L A V (mY (iI 0) b (mj_NE + 33) f [zO o, zI fm1, zB fd1]), 2, 288)) ok_M_fill 9999 [] rfl trivial)
  have s4 := r_tr s3 (q_V ok_M_fill ok_ML_levels se_ML_levels (hct2) rfl rfl rfl rfl rfl ⟨rfl, rfl, rfl⟩)
  have s5 := r_tr s4 (q_V ok_M_fill ok_M_take se_M_take (c_take_c (F := H) (fun j hj => by rw [hfm j hj, hno lev hlv j hj]; exact ⟨rfl, (hf j hj).2⟩) hf) rfl rfl rfl rfl rfl ⟨rfl, rfl, rfl⟩)
  have s6 := r_tr s5 (r_to (RC := 5) (RS := 579) (dd := 3) (g := (24, [.ref (mj_NE + 32), .int (iI 0)], [.int (iI (cnt (fun j => decide (H j ≠ H j)) 144))], Wd xs L A V (mY (iI 0) b (mj_NE + 40) f [zO o, zI fm1, zB fd1, zI fm2, zB fd2, zL (mj_NE + 38)]), 5, 579)) (g' := (26, [.ref (mj_NE + 32), .int (iI 0)], [.int (iI 0)], Wd xs L A V (mY (iI 0) b (mj_NE + 40) f [zO o, zI fm1, zB fd1, zI fm2, zB fd2, zL (mj_NE + 38)]), 5, 579)) ok_M_fill 9999 [] rfl trivial)
  exact ct_of ok_M_fill rfl s6 rfl rfl rfl rfl rfl
theorem m_wearA {k : Int} (rk : -2147483648 ≤ k ∧ k ≤ 2147483647) (hk : 1 ≤ k ∧ k ≤ 50) (hf : Hts f 144 (fun _ => 0)) : mj_Ct m_M_wear [.ref (mj_NE + 32), .int (iI k)] (Wd xs L A V (mY t b (mj_NE + 33) f [zO o])) (some (.int (iI 0))) (Wd xs L A V (mY (iI 0) b (mj_NE + 39) f [zO o, zI gT, zI gF, zI f, zL (mj_NE + 38)])) 4 435 3 := by
  have s1 := r_to (RC := 4) (RS := 435) (dd := 3) (g := (0, [.ref (mj_NE + 32), .int (iI k), mj_u, mj_u, mj_u, mj_u, mj_u, mj_u], [], Wd xs L A V (mY t b (mj_NE + 33) f [zO o]), 0, 0)) (g' := (5, [.ref (mj_NE + 32), .int (iI k), mj_u, mj_u, mj_u, mj_u, mj_u, mj_u], [.int (iI 50), .int (iI 1), .int (iI k), .ref (mj_NE + 32)], Wd xs L A V (mY t b (mj_NE + 33) f [zO o]), 0, 0)) ok_M_wear 9999 [] rfl trivial
  have s2 := r_tr s1 (q_S ok_M_wear ok_M_isIn st_M_isIn (c_isIn (v := k) (lo := 1) (hi := 50) rk ⟨by omega, by omega, by omega, by omega⟩) rfl rfl rfl rfl ⟨rfl, rfl, rfl⟩)
  rw [decide_eq_true hk] at s2
  have s3 := r_tr s2 (r_to (RC := 4) (RS := 435) (dd := 3) (g := (8, [.ref (mj_NE + 32), .int (iI k), mj_u, mj_u, mj_u, mj_u, mj_u, mj_u], [.int (bI true), .ref (mj_NE + 32)], Wd xs L A V (mY t b (mj_NE + 33) f [zO o]), 0, 0)) (g' := (17, [.ref (mj_NE + 32), .int (iI k), mj_u, mj_u, mj_u, mj_u, mj_u, mj_u], [.int (iI 1), .int (bI false), .ref (mj_NE + 32)], Wd xs L A V (mY t b (mj_NE + 33) f [zO o]), 0, 0)) ok_M_wear 9999 [true] rfl ⟨by show ¬ ((1 : Int32) = 0); decide, trivial⟩)
  have s4 := r_tr s3 (q_V ok_M_wear ok_M_start se_M_start (c_start (q := false) (k := 1) ⟨by omega, by omega⟩) rfl rfl rfl rfl rfl ⟨rfl, rfl, rfl⟩)
  rw [if_neg Bool.false_ne_true] at s4
  have s5 := r_tr s4 (r_to (RC := 4) (RS := 435) (dd := 3) (g := (20, [.ref (mj_NE + 32), .int (iI k), mj_u, mj_u, mj_u, mj_u, mj_u, mj_u], [.int (bI false)], Wd xs L A V (mY (iI 0) b (mj_NE + 33) f [zO o]), 0, 0)) (g' := (29, [.ref (mj_NE + 32), .int (iI k), mj_u, mj_u, mj_u, mj_u, mj_u, mj_u], [.ref (mj_NE + 33)], Wd xs L A V (mY (iI 0) b (mj_NE + 33) f [zO o]), 0, 0)) ok_M_wear 9999 [true] rfl ⟨by show ((0 : Int32) = 0); rfl, trivial⟩)
  have s6 := r_tr s5 (q_V ok_M_wear ok_ML_to se_ML_to (c_ML_to1 hf) rfl rfl rfl rfl rfl ⟨rfl, rfl, rfl⟩)
  have s7 := r_tr s6 (r_to (RC := 4) (RS := 435) (dd := 3) (g := (32, [.ref (mj_NE + 32), .int (iI k), mj_u, mj_u, mj_u, mj_u, mj_u, mj_u], [.ref (mj_NE + 36)], Wd xs L A V (mY (iI 0) b (mj_NE + 33) f [zO o, zI gT]), 1, 144)) (g' := (38, [.ref (mj_NE + 32), .int (iI k), .ref (mj_NE + 36), mj_u, mj_u, mj_u, mj_u, mj_u], [.ref (mj_NE + 36), .ref (mj_NE + 33)], Wd xs L A V (mY (iI 0) b (mj_NE + 33) f [zO o, zI gT]), 1, 144)) ok_M_wear 9999 [] rfl trivial)
  have s8 := r_tr s7 (q_V ok_M_wear ok_ML_flows se_ML_flows (c_ML_flows0 (fun j hj => gT_v hj)) rfl rfl rfl rfl rfl ⟨rfl, rfl, rfl⟩)
  have s9 := r_tr s8 (r_to (RC := 4) (RS := 435) (dd := 3) (g := (41, [.ref (mj_NE + 32), .int (iI k), .ref (mj_NE + 36), mj_u, mj_u, mj_u, mj_u, mj_u], [.ref (mj_NE + 37)], Wd xs L A V (mY (iI 0) b (mj_NE + 33) f [zO o, zI gT, zI gF]), 2, 288)) (g' := (49, [.ref (mj_NE + 32), .int (iI k), .ref (mj_NE + 36), .ref (mj_NE + 37), mj_u, mj_u, mj_u, mj_u], [.ref (mj_NE + 34)], Wd xs L A V (mY (iI 0) b (mj_NE + 33) f [zO o, zI gT, zI gF]), 2, 288)) ok_M_wear 9999 [] rfl trivial)
  have cl : mj_Rc m_M_wear 4 435 3 (49, [.ref (mj_NE + 32), .int (iI k), .ref (mj_NE + 36), .ref (mj_NE + 37), mj_u, mj_u, mj_u, mj_u], [.ref (mj_NE + 34)], Wd xs L A V (mY (iI 0) b (mj_NE + 33) f [zO o, zI gT, zI gF]), 2, 288) (55, [.ref (mj_NE + 32), .int (iI k), .ref (mj_NE + 36), .ref (mj_NE + 37), mj_u, mj_u, mj_u, mj_u], [.ref (mj_NE + 38)], Wd xs L A V (mY (iI 0) b (mj_NE + 33) f [zO o, zI gT, zI gF, zI f]), 3, 432) := r_clone ok_M_wear (k2 := 967) rfl (by decide +kernel) rfl rfl rfl (by decide +kernel) rfl rfl ⟨rfl, rfl, rfl⟩
  have s10 := r_tr s9 cl
  have s11 := r_tr s10 (r_to (RC := 4) (RS := 435) (dd := 3) (g := (55, [.ref (mj_NE + 32), .int (iI k), .ref (mj_NE + 36), .ref (mj_NE + 37), mj_u, mj_u, mj_u, mj_u], [.ref (mj_NE + 38)], Wd xs L A V (mY (iI 0) b (mj_NE + 33) f [zO o, zI gT, zI gF, zI f]), 3, 432)) (g' := (63, [.ref (mj_NE + 32), .int (iI k), .ref (mj_NE + 36), .ref (mj_NE + 37), .ref (mj_NE + 38), .int (iI 0), .int (iI 0), mj_u], [], Wd xs L A V (mY (iI 0) b (mj_NE + 33) f [zO o, zI gT, zI gF, zI f]), 3, 432)) ok_M_wear 63 [] rfl trivial)
  have lp : ∀ n : Nat, n ≤ 144 → mj_Rc m_M_wear 4 435 3 (0, [.ref (mj_NE + 32), .int (iI k), mj_u, mj_u, mj_u, mj_u, mj_u, mj_u], [], Wd xs L A V (mY t b (mj_NE + 33) f [zO o]), 0, 0) (63, [.ref (mj_NE + 32), .int (iI k), .ref (mj_NE + 36), .ref (mj_NE + 37), .ref (mj_NE + 38), .int (iI 0), .int (iI (n : Int)), mj_u], [], Wd xs L A V (mY (iI 0) b (mj_NE + 33) f [zO o, zI gT, zI gF, zI f]), 3, 432) := by
    intro n
    induction n with
    | zero => intro _; exact s11
    | succ n ih =>
      intro hn
      have hn2 : n < 144 := by omega
      have c0 : ¬ (iI 144 ≤ iI (n : Int)) := by rw [iI_le ⟨by omega, by omega⟩ ⟨by omega, by omega⟩]; omega
      have q1 := r_tr (ih (by omega)) (r_to (RC := 4) (RS := 435) (dd := 3) (g := (63, [.ref (mj_NE + 32), .int (iI k), .ref (mj_NE + 36), .ref (mj_NE + 37), .ref (mj_NE + 38), .int (iI 0), .int (iI (n : Int)), mj_u], [], Wd xs L A V (mY (iI 0) b (mj_NE + 33) f [zO o, zI gT, zI gF, zI f]), 3, 432)) (g' := (63, [.ref (mj_NE + 32), .int (iI k), .ref (mj_NE + 36), .ref (mj_NE + 37), .ref (mj_NE + 38), .int (iI 0), .int ((iI (n : Int)) + 1), mj_u], [], Wd xs L A V (mY (iI 0) b (mj_NE + 33) f [zO o, zI gT, zI gF, zI f]), 3, 432)) ok_M_wear 63 [false, false] rfl ⟨c0, in_nat hn2 (by omega), by show ¬ (iI 0 ≤ gT (iI (n : Int)).toNatClampNeg); rw [cl_nat (by omega), gT_v hn2]; decide +kernel, trivial⟩)
      rw [iI_1] at q1
      exact q1
  have z1 := r_tr (lp 144 (Nat.le_refl _)) (r_to (RC := 4) (RS := 435) (dd := 3) (g := (63, [.ref (mj_NE + 32), .int (iI k), .ref (mj_NE + 36), .ref (mj_NE + 37), .ref (mj_NE + 38), .int (iI 0), .int (iI ((144 : Nat) : Int)), mj_u], [], Wd xs L A V (mY (iI 0) b (mj_NE + 33) f [zO o, zI gT, zI gF, zI f]), 3, 432)) (g' := (146, [.ref (mj_NE + 32), .int (iI k), .ref (mj_NE + 36), .ref (mj_NE + 37), .ref (mj_NE + 38), .int (iI 0), .int (iI ((144 : Nat) : Int)), mj_u], [.ref (mj_NE + 38), .ref (mj_NE + 32)], Wd xs L A V (mY (iI 0) b (mj_NE + 33) f [zO o, zI gT, zI gF, zI f]), 3, 432)) ok_M_wear 9999 [true] rfl ⟨by show iI 144 ≤ iI ((144 : Nat) : Int); rw [iI_le ⟨by omega, by omega⟩ ⟨by omega, by omega⟩]; omega, trivial⟩)
  have z2 := r_tr z1 (q_V ok_M_wear ok_M_take se_M_take (c_take_b (F := fun _ => 0) (G := fun _ => 0) hf hf) rfl rfl rfl rfl rfl ⟨rfl, rfl, rfl⟩)
  have z3 := r_tr z2 (r_to (RC := 4) (RS := 435) (dd := 3) (g := (149, [.ref (mj_NE + 32), .int (iI k), .ref (mj_NE + 36), .ref (mj_NE + 37), .ref (mj_NE + 38), .int (iI 0), .int (iI ((144 : Nat) : Int)), mj_u], [.int (iI (cnt (fun j => decide ((fun _ => (0 : Int)) j ≠ (fun _ => (0 : Int)) j)) 144))], Wd xs L A V (mY (iI 0) b (mj_NE + 39) f [zO o, zI gT, zI gF, zI f, zL (mj_NE + 38)]), 4, 435)) (g' := (152, [.ref (mj_NE + 32), .int (iI k), .ref (mj_NE + 36), .ref (mj_NE + 37), .ref (mj_NE + 38), .int (iI 0), .int (iI ((144 : Nat) : Int)), mj_u], [.int (iI 0)], Wd xs L A V (mY (iI 0) b (mj_NE + 39) f [zO o, zI gT, zI gF, zI f, zL (mj_NE + 38)]), 4, 435)) ok_M_wear 9999 [] rfl trivial)
  exact ct_of ok_M_wear rfl z3 rfl rfl rfl rfl rfl
/-- the x from which one sees most, of 0 to n -/
def rkF (H : Nat → Int) (y u : Int) : Nat → Int
  | 0 => 0
  | n + 1 => if cnt (fun j => seeB 12 H (rkF H y u n) y u ((j : Int) % 12) ((j : Int) / 12)) 144 < cnt (fun j => seeB 12 H ((n + 1 : Nat) : Int) y u ((j : Int) % 12) ((j : Int) / 12)) 144 then ((n + 1 : Nat) : Int) else rkF H y u n
theorem rkF_bd {y u : Int} : ∀ n : Nat, 0 ≤ rkF H y u n ∧ rkF H y u n ≤ n := by
  intro n
  induction n with
  | zero => exact ⟨Int.le_refl _, Int.le_refl _⟩
  | succ n ih =>
    unfold rkF
    split <;> omega
set_option maxHeartbeats 1000000 in
theorem m_lookoutA {y u : Int} (ry : -2147483648 ≤ y ∧ y ≤ 2147483647) (ru : -2147483648 ≤ u ∧ u ≤ 2147483647) (hy : 0 ≤ y ∧ y ≤ 11) (hu : 0 ≤ u ∧ u ≤ 500) (hf : Hts f 144 H) : mj_Ct m_M_lookout [.ref (mj_NE + 32), .int (iI y), .int (iI u)] (Wd xs L A V (mY t b (mj_NE + 33) f [zO o])) (some (.int (iI (rkF H y u 11)))) (Wd xs L A V (mY (iI 0) b (mj_NE + 33) f [zO o])) 0 0 4 := by
  have s1 := r_to (RC := 0) (RS := 0) (dd := 4) (g := (0, [.ref (mj_NE + 32), .int (iI y), .int (iI u), mj_u, mj_u], [], Wd xs L A V (mY t b (mj_NE + 33) f [zO o]), 0, 0)) (g' := (12, [.ref (mj_NE + 32), .int (iI y), .int (iI u), mj_u, mj_u], [.int ((iI 12) - (iI 1)), .int (iI 0), .int (iI y), .ref (mj_NE + 32)], Wd xs L A V (mY t b (mj_NE + 33) f [zO o]), 0, 0)) ok_M_lookout 9999 [] rfl trivial
  rw [iI_sub] at s1
  have s2 := r_tr s1 (q_S ok_M_lookout ok_M_isIn st_M_isIn (c_isIn (v := y) (lo := 0) (hi := 12 - 1) ry ⟨by omega, by omega, by omega, by omega⟩) rfl rfl rfl rfl ⟨rfl, rfl, rfl⟩)
  rw [decide_eq_true (show 0 ≤ y ∧ y ≤ 12 - 1 by omega)] at s2
  have s3 := r_tr s2 (r_to (RC := 0) (RS := 0) (dd := 4) (g := (15, [.ref (mj_NE + 32), .int (iI y), .int (iI u), mj_u, mj_u], [.int (bI true), .ref (mj_NE + 32)], Wd xs L A V (mY t b (mj_NE + 33) f [zO o]), 0, 0)) (g' := (24, [.ref (mj_NE + 32), .int (iI y), .int (iI u), mj_u, mj_u], [.int (iI 1), .int (bI false), .ref (mj_NE + 32)], Wd xs L A V (mY t b (mj_NE + 33) f [zO o]), 0, 0)) ok_M_lookout 9999 [true] rfl ⟨by show ¬ ((1 : Int32) = 0); decide, trivial⟩)
  have s4 := r_tr s3 (q_V ok_M_lookout ok_M_start se_M_start (c_start (q := false) (k := 1) ⟨by omega, by omega⟩) rfl rfl rfl rfl rfl ⟨rfl, rfl, rfl⟩)
  rw [if_neg Bool.false_ne_true] at s4
  have s5 := r_tr s4 (r_to (RC := 0) (RS := 0) (dd := 4) (g := (27, [.ref (mj_NE + 32), .int (iI y), .int (iI u), mj_u, mj_u], [.int (bI false)], Wd xs L A V (mY (iI 0) b (mj_NE + 33) f [zO o]), 0, 0)) (g' := (36, [.ref (mj_NE + 32), .int (iI y), .int (iI u), mj_u, mj_u], [.int (iI 500), .int (iI 0), .int (iI u), .ref (mj_NE + 32)], Wd xs L A V (mY (iI 0) b (mj_NE + 33) f [zO o]), 0, 0)) ok_M_lookout 9999 [false] rfl ⟨fun q => q rfl, trivial⟩)
  have s6 := r_tr s5 (q_S ok_M_lookout ok_M_isIn st_M_isIn (c_isIn (v := u) (lo := 0) (hi := 500) ru ⟨by omega, by omega, by omega, by omega⟩) rfl rfl rfl rfl ⟨rfl, rfl, rfl⟩)
  rw [decide_eq_true hu] at s6
  have s7 := r_tr s6 (r_to (RC := 0) (RS := 0) (dd := 4) (g := (39, [.ref (mj_NE + 32), .int (iI y), .int (iI u), mj_u, mj_u], [.int (bI true), .ref (mj_NE + 32)], Wd xs L A V (mY (iI 0) b (mj_NE + 33) f [zO o]), 0, 0)) (g' := (48, [.ref (mj_NE + 32), .int (iI y), .int (iI u), mj_u, mj_u], [.int (iI 2), .int (bI false), .ref (mj_NE + 32)], Wd xs L A V (mY (iI 0) b (mj_NE + 33) f [zO o]), 0, 0)) ok_M_lookout 9999 [true] rfl ⟨by show ¬ ((1 : Int32) = 0); decide, trivial⟩)
  have s8 := r_tr s7 (q_V ok_M_lookout ok_M_refuse se_M_refuse (c_refuse (q := false) (k := 2) ⟨by omega, by omega⟩) rfl rfl rfl rfl rfl ⟨rfl, rfl, rfl⟩)
  rw [if_neg Bool.false_ne_true] at s8
  have s9 := r_tr s8 (r_to (RC := 0) (RS := 0) (dd := 4) (g := (51, [.ref (mj_NE + 32), .int (iI y), .int (iI u), mj_u, mj_u], [.int (bI false)], Wd xs L A V (mY (iI 0) b (mj_NE + 33) f [zO o]), 0, 0)) (g' := (61, [.ref (mj_NE + 32), .int (iI y), .int (iI u), .int (iI 0), .int (iI 1)], [], Wd xs L A V (mY (iI 0) b (mj_NE + 33) f [zO o]), 0, 0)) ok_M_lookout 61 [true] rfl ⟨by show ((0 : Int32) = 0); rfl, trivial⟩)
  have lp : ∀ n : Nat, n ≤ 11 → mj_Rc m_M_lookout 0 0 4 (0, [.ref (mj_NE + 32), .int (iI y), .int (iI u), mj_u, mj_u], [], Wd xs L A V (mY t b (mj_NE + 33) f [zO o]), 0, 0) (61, [.ref (mj_NE + 32), .int (iI y), .int (iI u), .int (iI (rkF H y u n)), .int (iI ((n + 1 : Nat) : Int))], [], Wd xs L A V (mY (iI 0) b (mj_NE + 33) f [zO o]), 0, 0) := by
    intro n
    induction n with
    | zero => intro _; exact s9
    | succ n ih =>
      intro hn
      have rb := rkF_bd (H := H) (y := y) (u := u) n
      obtain ⟨j1, h1⟩ : ∃ j : Nat, (j : Int) = y * 12 + ((n + 1 : Nat) : Int) := ⟨(y * 12 + ((n + 1 : Nat) : Int)).toNat, by omega⟩
      obtain ⟨j2, h2⟩ : ∃ j : Nat, (j : Int) = y * 12 + rkF H y u n := ⟨(y * 12 + rkF H y u n).toNat, by omega⟩
      have k1 := cnt_bd (fun j => seeB 12 H ((n + 1 : Nat) : Int) y u ((j : Int) % 12) ((j : Int) / 12)) 144
      have k2 := cnt_bd (fun j => seeB 12 H (rkF H y u n) y u ((j : Int) % 12) ((j : Int) / 12)) 144
      have er : rkF H y u (n + 1) = if cnt (fun j => seeB 12 H (rkF H y u n) y u ((j : Int) % 12) ((j : Int) / 12)) 144 < cnt (fun j => seeB 12 H ((n + 1 : Nat) : Int) y u ((j : Int) % 12) ((j : Int) / 12)) 144 then ((n + 1 : Nat) : Int) else rkF H y u n := rfl
      have q1 := r_tr (ih (by omega)) (r_to (RC := 0) (RS := 0) (dd := 4) (g := (61, [.ref (mj_NE + 32), .int (iI y), .int (iI u), .int (iI (rkF H y u n)), .int (iI ((n + 1 : Nat) : Int))], [], Wd xs L A V (mY (iI 0) b (mj_NE + 33) f [zO o]), 0, 0)) (g' := (81, [.ref (mj_NE + 32), .int (iI y), .int (iI u), .int (iI (rkF H y u n)), .int (iI ((n + 1 : Nat) : Int))], [.int (iI y), .int (iI ((n + 1 : Nat) : Int)), .ref (mj_NE + 32), .ref (mj_NE + 33)], Wd xs L A V (mY (iI 0) b (mj_NE + 33) f [zO o]), 0, 0)) ok_M_lookout 9999 [false] rfl ⟨by show ¬ (iI 12 ≤ iI ((n + 1 : Nat) : Int)); rw [iI_le ⟨by omega, by omega⟩ ⟨by omega, by omega⟩]; omega, trivial⟩)
      have q2 := r_tr q1 (q_V ok_M_lookout ok_M_number se_M_number (c_number) rfl rfl rfl rfl rfl ⟨rfl, rfl, rfl⟩)
      rw [← h1] at q2
      have q3 := r_tr q2 (r_to (RC := 0) (RS := 0) (dd := 4) (g := (84, [.ref (mj_NE + 32), .int (iI y), .int (iI u), .int (iI (rkF H y u n)), .int (iI ((n + 1 : Nat) : Int))], [.int (iI (j1 : Int)), .ref (mj_NE + 33)], Wd xs L A V (mY (iI 0) b (mj_NE + 33) f [zO o]), 0, 0)) (g' := (85, [.ref (mj_NE + 32), .int (iI y), .int (iI u), .int (iI (rkF H y u n)), .int (iI ((n + 1 : Nat) : Int))], [.int (iI u), .int (iI (j1 : Int)), .ref (mj_NE + 33)], Wd xs L A V (mY (iI 0) b (mj_NE + 33) f [zO o]), 0, 0)) ok_M_lookout 9999 [] rfl trivial)
      have q4 := r_tr q3 (q_V ok_M_lookout ok_ML_seen se_ML_seen (c_MLseen hf (by omega) hu) rfl rfl rfl rfl rfl ⟨rfl, rfl, rfl⟩)
      rw [show (j1 : Int) % 12 = ((n + 1 : Nat) : Int) by omega, show (j1 : Int) / 12 = y by omega] at q4
      have q5 := r_tr q4 (r_to (RC := 0) (RS := 0) (dd := 4) (g := (88, [.ref (mj_NE + 32), .int (iI y), .int (iI u), .int (iI (rkF H y u n)), .int (iI ((n + 1 : Nat) : Int))], [.int (iI (cnt (fun j => seeB 12 H ((n + 1 : Nat) : Int) y u ((j : Int) % 12) ((j : Int) / 12)) 144))], Wd xs L A V (mY (iI 0) b (mj_NE + 33) f [zO o]), 0, 0)) (g' := (95, [.ref (mj_NE + 32), .int (iI y), .int (iI u), .int (iI (rkF H y u n)), .int (iI ((n + 1 : Nat) : Int))], [.int (iI y), .int (iI (rkF H y u n)), .ref (mj_NE + 32), .ref (mj_NE + 33), .int (iI (cnt (fun j => seeB 12 H ((n + 1 : Nat) : Int) y u ((j : Int) % 12) ((j : Int) / 12)) 144))], Wd xs L A V (mY (iI 0) b (mj_NE + 33) f [zO o]), 0, 0)) ok_M_lookout 9999 [] rfl trivial)
      have q6 := r_tr q5 (q_V ok_M_lookout ok_M_number se_M_number (c_number) rfl rfl rfl rfl rfl ⟨rfl, rfl, rfl⟩)
      rw [← h2] at q6
      have q7 := r_tr q6 (r_to (RC := 0) (RS := 0) (dd := 4) (g := (98, [.ref (mj_NE + 32), .int (iI y), .int (iI u), .int (iI (rkF H y u n)), .int (iI ((n + 1 : Nat) : Int))], [.int (iI (j2 : Int)), .ref (mj_NE + 33), .int (iI (cnt (fun j => seeB 12 H ((n + 1 : Nat) : Int) y u ((j : Int) % 12) ((j : Int) / 12)) 144))], Wd xs L A V (mY (iI 0) b (mj_NE + 33) f [zO o]), 0, 0)) (g' := (99, [.ref (mj_NE + 32), .int (iI y), .int (iI u), .int (iI (rkF H y u n)), .int (iI ((n + 1 : Nat) : Int))], [.int (iI u), .int (iI (j2 : Int)), .ref (mj_NE + 33), .int (iI (cnt (fun j => seeB 12 H ((n + 1 : Nat) : Int) y u ((j : Int) % 12) ((j : Int) / 12)) 144))], Wd xs L A V (mY (iI 0) b (mj_NE + 33) f [zO o]), 0, 0)) ok_M_lookout 9999 [] rfl trivial)
      have q8 := r_tr q7 (q_V ok_M_lookout ok_ML_seen se_ML_seen (c_MLseen hf (by omega) hu) rfl rfl rfl rfl rfl ⟨rfl, rfl, rfl⟩)
      rw [show (j2 : Int) % 12 = rkF H y u n by omega, show (j2 : Int) / 12 = y by omega] at q8
      by_cases hq : cnt (fun j => seeB 12 H (rkF H y u n) y u ((j : Int) % 12) ((j : Int) / 12)) 144 < cnt (fun j => seeB 12 H ((n + 1 : Nat) : Int) y u ((j : Int) % 12) ((j : Int) / 12)) 144
      · rw [if_pos hq] at er
        rw [er]
        have v1 := r_tr q8 (r_to (RC := 0) (RS := 0) (dd := 4) (g := (102, [.ref (mj_NE + 32), .int (iI y), .int (iI u), .int (iI (rkF H y u n)), .int (iI ((n + 1 : Nat) : Int))], [.int (iI (cnt (fun j => seeB 12 H (rkF H y u n) y u ((j : Int) % 12) ((j : Int) / 12)) 144)), .int (iI (cnt (fun j => seeB 12 H ((n + 1 : Nat) : Int) y u ((j : Int) % 12) ((j : Int) / 12)) 144))], Wd xs L A V (mY (iI 0) b (mj_NE + 33) f [zO o]), 0, 0)) (g' := (61, [.ref (mj_NE + 32), .int (iI y), .int (iI u), .int (iI ((n + 1 : Nat) : Int)), .int ((iI ((n + 1 : Nat) : Int)) + 1)], [], Wd xs L A V (mY (iI 0) b (mj_NE + 33) f [zO o]), 0, 0)) ok_M_lookout 61 [false] rfl ⟨by show ¬ (iI (cnt (fun j => seeB 12 H ((n + 1 : Nat) : Int) y u ((j : Int) % 12) ((j : Int) / 12)) 144) ≤ iI (cnt (fun j => seeB 12 H (rkF H y u n) y u ((j : Int) % 12) ((j : Int) / 12)) 144)); rw [iI_le ⟨by omega, by omega⟩ ⟨by omega, by omega⟩]; omega, trivial⟩)
        rw [iI_1] at v1
        exact v1
      · rw [if_neg hq] at er
        rw [er]
        have v1 := r_tr q8 (r_to (RC := 0) (RS := 0) (dd := 4) (g := (102, [.ref (mj_NE + 32), .int (iI y), .int (iI u), .int (iI (rkF H y u n)), .int (iI ((n + 1 : Nat) : Int))], [.int (iI (cnt (fun j => seeB 12 H (rkF H y u n) y u ((j : Int) % 12) ((j : Int) / 12)) 144)), .int (iI (cnt (fun j => seeB 12 H ((n + 1 : Nat) : Int) y u ((j : Int) % 12) ((j : Int) / 12)) 144))], Wd xs L A V (mY (iI 0) b (mj_NE + 33) f [zO o]), 0, 0)) (g' := (61, [.ref (mj_NE + 32), .int (iI y), .int (iI u), .int (iI (rkF H y u n)), .int ((iI ((n + 1 : Nat) : Int)) + 1)], [], Wd xs L A V (mY (iI 0) b (mj_NE + 33) f [zO o]), 0, 0)) ok_M_lookout 61 [true] rfl ⟨by show (iI (cnt (fun j => seeB 12 H ((n + 1 : Nat) : Int) y u ((j : Int) % 12) ((j : Int) / 12)) 144) ≤ iI (cnt (fun j => seeB 12 H (rkF H y u n) y u ((j : Int) % 12) ((j : Int) / 12)) 144)); rw [iI_le ⟨by omega, by omega⟩ ⟨by omega, by omega⟩]; omega, trivial⟩)
        rw [iI_1] at v1
        exact v1
  have z1 := r_tr (lp 11 (Nat.le_refl _)) (r_to (RC := 0) (RS := 0) (dd := 4) (g := (61, [.ref (mj_NE + 32), .int (iI y), .int (iI u), .int (iI (rkF H y u 11)), .int (iI ((11 + 1 : Nat) : Int))], [], Wd xs L A V (mY (iI 0) b (mj_NE + 33) f [zO o]), 0, 0)) (g' := (115, [.ref (mj_NE + 32), .int (iI y), .int (iI u), .int (iI (rkF H y u 11)), .int (iI ((11 + 1 : Nat) : Int))], [.int (iI (rkF H y u 11))], Wd xs L A V (mY (iI 0) b (mj_NE + 33) f [zO o]), 0, 0)) ok_M_lookout 9999 [true] rfl ⟨by show iI 12 ≤ iI ((11 + 1 : Nat) : Int); rw [iI_le ⟨by omega, by omega⟩ ⟨by omega, by omega⟩]; omega, trivial⟩)
  exact ct_of ok_M_lookout rfl z1 rfl rfl rfl rfl rfl
set_option maxHeartbeats 1000000 in
theorem m_smoothA (hf : Hts f 144 (fun _ => 0)) : mj_Ct m_M_smooth [.ref (mj_NE + 32)] (Wd xs L A V (mY t b (mj_NE + 33) f [zO o])) (some (.int (iI 0))) (Wd xs L A V (mY (iI 0) b (mj_NE + 37) f [zO o, zI (fun _ => 0), zL (mj_NE + 36)])) 2 147 3 := by
  have hz : ∀ j, j < 144 → f j = iI 0 := fun j hj => (hf j hj).1
  have g12 : (2 : Int) ≤ 12 ∧ (12 : Int) ≤ 16 := ⟨by omega, by omega⟩
  have s1 := r_to (RC := 2) (RS := 147) (dd := 3) (g := (0, [.ref (mj_NE + 32), mj_u, mj_u, mj_u, mj_u], [], Wd xs L A V (mY t b (mj_NE + 33) f [zO o]), 0, 0)) (g' := (9, [.ref (mj_NE + 32), mj_u, mj_u, mj_u, mj_u], [.ref (mj_NE + 33)], Wd xs L A V (mY (iI 0) b (mj_NE + 33) f [zO o]), 0, 0)) ok_M_smooth 9999 [] rfl trivial
  have s2 := r_tr s1 (q_V ok_M_smooth ok_ML_size se_ML_size (c_MLsize) rfl rfl rfl rfl rfl ⟨rfl, rfl, rfl⟩)
  have s3 := r_tr s2 (r_to (RC := 2) (RS := 147) (dd := 3) (g := (12, [.ref (mj_NE + 32), mj_u, mj_u, mj_u, mj_u], [.int (iI 144)], Wd xs L A V (mY (iI 0) b (mj_NE + 33) f [zO o]), 0, 0)) (g' := (17, [.ref (mj_NE + 32), .ref (mj_NE + 36), .int (iI 0), mj_u, mj_u], [], Wd xs L A V (mY (iI 0) b (mj_NE + 33) f [zO o, zI (fun _ => 0)]), 1, 144)) ok_M_smooth 17 [] rfl ⟨⟨by decide +kernel, by decide +kernel, by decide +kernel, by decide +kernel⟩, trivial⟩)
  have lp : ∀ n : Nat, n ≤ 144 → ∃ u3 u4 : Value, mj_Rc m_M_smooth 2 147 3 (0, [.ref (mj_NE + 32), mj_u, mj_u, mj_u, mj_u], [], Wd xs L A V (mY t b (mj_NE + 33) f [zO o]), 0, 0) (17, [.ref (mj_NE + 32), .ref (mj_NE + 36), .int (iI (n : Int)), u3, u4], [], Wd xs L A V (mY (iI 0) b (mj_NE + 33) f [zO o, zI (fun _ => 0)]), 1, 144) := by
    intro n
    induction n with
    | zero => intro _; exact ⟨_, _, s3⟩
    | succ n ih =>
      intro hn
      obtain ⟨u3, u4, hr⟩ := ih (by omega)
      have hn2 : n < 144 := by omega
      have c0 : ¬ (iI 144 ≤ iI (n : Int)) := by rw [iI_le ⟨by omega, by omega⟩ ⟨by omega, by omega⟩]; omega
      have q1 := r_tr hr (r_to (RC := 2) (RS := 147) (dd := 3) (g := (17, [.ref (mj_NE + 32), .ref (mj_NE + 36), .int (iI (n : Int)), u3, u4], [], Wd xs L A V (mY (iI 0) b (mj_NE + 33) f [zO o, zI (fun _ => 0)]), 1, 144)) (g' := (38, [.ref (mj_NE + 32), .ref (mj_NE + 36), .int (iI (n : Int)), .int ((iI 4) * (f (iI (n : Int)).toNatClampNeg)), .int (iI 0)], [], Wd xs L A V (mY (iI 0) b (mj_NE + 33) f [zO o, zI (fun _ => 0)]), 1, 144)) ok_M_smooth 38 [false] rfl ⟨c0, in_nat hn2 (by omega), trivial⟩)
      rw [cl_nat (by omega), hz n hn2, iI_mul] at q1
      have lq : ∀ i : Nat, i ≤ 4 → mj_Rc m_M_smooth 2 147 3 (0, [.ref (mj_NE + 32), mj_u, mj_u, mj_u, mj_u], [], Wd xs L A V (mY t b (mj_NE + 33) f [zO o]), 0, 0) (38, [.ref (mj_NE + 32), .ref (mj_NE + 36), .int (iI (n : Int)), .int (iI 0), .int (iI ((2 * i : Nat) : Int))], [], Wd xs L A V (mY (iI 0) b (mj_NE + 33) f [zO o, zI (fun _ => 0)]), 1, 144) := by
        intro i
        induction i with
        | zero => intro _; exact q1
        | succ i ih2 =>
          intro hi
          have bd := nbi_bd (w := 12) (h := 12) g12 g12 n (2 * i)
          have nx : iI ((2 * i : Nat) : Int) + iI 2 = iI ((2 * (i + 1) : Nat) : Int) := by rw [iI_add]; congr 1
          have w1 := r_tr (ih2 (by omega)) (r_to (RC := 2) (RS := 147) (dd := 3) (g := (38, [.ref (mj_NE + 32), .ref (mj_NE + 36), .int (iI (n : Int)), .int (iI 0), .int (iI ((2 * i : Nat) : Int))], [], Wd xs L A V (mY (iI 0) b (mj_NE + 33) f [zO o, zI (fun _ => 0)]), 1, 144)) (g' := (60, [.ref (mj_NE + 32), .ref (mj_NE + 36), .int (iI (n : Int)), .int (iI 0), .int (iI ((2 * i : Nat) : Int))], [.int (iI ((2 * i : Nat) : Int)), .int (iI (n : Int)), .ref (mj_NE + 33), .ref (mj_NE + 34), .int (iI 0)], Wd xs L A V (mY (iI 0) b (mj_NE + 33) f [zO o, zI (fun _ => 0)]), 1, 144)) ok_M_smooth 9999 [false] rfl ⟨by show ¬ (iI 8 ≤ iI ((2 * i : Nat) : Int)); rw [iI_le ⟨by omega, by omega⟩ ⟨by omega, by omega⟩]; omega, trivial⟩)
          have w2 := r_tr w1 (q_V ok_M_smooth ok_ML_next se_ML_next (c_MLnext (d := 2 * i) hn2 (by omega)) rfl rfl rfl rfl rfl ⟨rfl, rfl, rfl⟩)
          by_cases hneg : nbi 12 12 n (2 * i) < 0
          · skip
            have v1 := r_tr w2 (r_to (RC := 2) (RS := 147) (dd := 3) (g := (63, [.ref (mj_NE + 32), .ref (mj_NE + 36), .int (iI (n : Int)), .int (iI 0), .int (iI ((2 * i : Nat) : Int))], [.int (iI (nbi 12 12 n (2 * i))), .ref (mj_NE + 34), .int (iI 0)], Wd xs L A V (mY (iI 0) b (mj_NE + 33) f [zO o, zI (fun _ => 0)]), 1, 144)) (g' := (38, [.ref (mj_NE + 32), .ref (mj_NE + 36), .int (iI (n : Int)), .int ((iI 0) + (f (iI (n : Int)).toNatClampNeg)), .int ((iI ((2 * i : Nat) : Int)) + iI 2)], [], Wd xs L A V (mY (iI 0) b (mj_NE + 33) f [zO o, zI (fun _ => 0)]), 1, 144)) ok_M_smooth 38 [false] rfl ⟨by show ¬ (iI 0 ≤ iI (nbi 12 12 n (2 * i))); rw [iI_le ⟨by omega, by omega⟩ ⟨by omega, by omega⟩]; omega, in_nat hn2 (by omega), trivial⟩)
            rw [cl_nat (by omega), hz n hn2, iI_add, Int.add_zero, nx] at v1
            exact v1
          · obtain ⟨j, hj⟩ : ∃ j : Nat, (j : Int) = nbi 12 12 n (2 * i) := ⟨(nbi 12 12 n (2 * i)).toNat, by omega⟩
            rw [← hj] at w2
            have v1 := r_tr w2 (r_to (RC := 2) (RS := 147) (dd := 3) (g := (63, [.ref (mj_NE + 32), .ref (mj_NE + 36), .int (iI (n : Int)), .int (iI 0), .int (iI ((2 * i : Nat) : Int))], [.int (iI (j : Int)), .ref (mj_NE + 34), .int (iI 0)], Wd xs L A V (mY (iI 0) b (mj_NE + 33) f [zO o, zI (fun _ => 0)]), 1, 144)) (g' := (77, [.ref (mj_NE + 32), .ref (mj_NE + 36), .int (iI (n : Int)), .int (iI 0), .int (iI ((2 * i : Nat) : Int))], [.int (iI ((2 * i : Nat) : Int)), .int (iI (n : Int)), .ref (mj_NE + 33), .ref (mj_NE + 34), .int (iI 0)], Wd xs L A V (mY (iI 0) b (mj_NE + 33) f [zO o, zI (fun _ => 0)]), 1, 144)) ok_M_smooth 9999 [true] rfl ⟨by show iI 0 ≤ iI (j : Int); rw [iI_le ⟨by omega, by omega⟩ ⟨by omega, by omega⟩]; omega, trivial⟩)
            have v2 := r_tr v1 (q_V ok_M_smooth ok_ML_next se_ML_next (c_MLnext (d := 2 * i) hn2 (by omega)) rfl rfl rfl rfl rfl ⟨rfl, rfl, rfl⟩)
            rw [← hj] at v2
            have v3 := r_tr v2 (r_to (RC := 2) (RS := 147) (dd := 3) (g := (80, [.ref (mj_NE + 32), .ref (mj_NE + 36), .int (iI (n : Int)), .int (iI 0), .int (iI ((2 * i : Nat) : Int))], [.int (iI (j : Int)), .ref (mj_NE + 34), .int (iI 0)], Wd xs L A V (mY (iI 0) b (mj_NE + 33) f [zO o, zI (fun _ => 0)]), 1, 144)) (g' := (38, [.ref (mj_NE + 32), .ref (mj_NE + 36), .int (iI (n : Int)), .int ((iI 0) + (f (iI (j : Int)).toNatClampNeg)), .int ((iI ((2 * i : Nat) : Int)) + iI 2)], [], Wd xs L A V (mY (iI 0) b (mj_NE + 33) f [zO o, zI (fun _ => 0)]), 1, 144)) ok_M_smooth 38 [] rfl ⟨in_nat (n := j) (by omega) (by omega), trivial⟩)
            rw [cl_nat (n := j) (by omega), hz j (by omega), iI_add, Int.add_zero, nx] at v3
            exact v3
      have x1 := r_tr (lq 4 (Nat.le_refl _)) (r_to (RC := 2) (RS := 147) (dd := 3) (g := (38, [.ref (mj_NE + 32), .ref (mj_NE + 36), .int (iI (n : Int)), .int (iI 0), .int (iI ((2 * 4 : Nat) : Int))], [], Wd xs L A V (mY (iI 0) b (mj_NE + 33) f [zO o, zI (fun _ => 0)]), 1, 144)) (g' := (17, [.ref (mj_NE + 32), .ref (mj_NE + 36), .int ((iI (n : Int)) + 1), .int (iI 0), .int (iI ((2 * 4 : Nat) : Int))], [], Wd xs L A V (mY (iI 0) b (mj_NE + 33) f [zO o, zI (upd (fun _ => 0) (iI (n : Int)).toNatClampNeg ((iI 0) / (iI 8)))]), 1, 144)) ok_M_smooth 17 [true] rfl ⟨by show iI 8 ≤ iI ((2 * 4 : Nat) : Int); rw [iI_le ⟨by omega, by omega⟩ ⟨by omega, by omega⟩]; omega, by decide +kernel, in_nat hn2 (by omega), trivial⟩)
      rw [cl_nat (n := n) (by omega), iI_1, upd_same (show (0 : Int32) = iI 0 / iI 8 by decide +kernel)] at x1
      exact ⟨_, _, x1⟩
  obtain ⟨u3, u4, hr⟩ := lp 144 (Nat.le_refl _)
  have z1 := r_tr hr (r_to (RC := 2) (RS := 147) (dd := 3) (g := (17, [.ref (mj_NE + 32), .ref (mj_NE + 36), .int (iI ((144 : Nat) : Int)), u3, u4], [], Wd xs L A V (mY (iI 0) b (mj_NE + 33) f [zO o, zI (fun _ => 0)]), 1, 144)) (g' := (104, [.ref (mj_NE + 32), .ref (mj_NE + 36), .int (iI ((144 : Nat) : Int)), u3, u4], [.ref (mj_NE + 36), .ref (mj_NE + 32)], Wd xs L A V (mY (iI 0) b (mj_NE + 33) f [zO o, zI (fun _ => 0)]), 1, 144)) ok_M_smooth 9999 [true] rfl ⟨by show iI 144 ≤ iI ((144 : Nat) : Int); rw [iI_le ⟨by omega, by omega⟩ ⟨by omega, by omega⟩]; omega, trivial⟩)
  have z2 := r_tr z1 (q_V ok_M_smooth ok_M_take se_M_take (c_take_a (F := fun _ => 0) (G := fun _ => 0) hts0 hf) rfl rfl rfl rfl rfl ⟨rfl, rfl, rfl⟩)
  rw [cnt_same (F := fun _ => (0 : Int))] at z2
  exact ct_of ok_M_smooth rfl z2 rfl rfl rfl rfl rfl
set_option maxHeartbeats 1000000 in
theorem m_digA {x y p q z : Int} (rx : -2147483648 ≤ x ∧ x ≤ 2147483647) (ry : -2147483648 ≤ y ∧ y ≤ 2147483647) (hx : 0 ≤ x ∧ x < 12) (hy : 0 ≤ y ∧ y < 12) (rp : -2147483648 ≤ p ∧ p ≤ 2147483647) (rq : -2147483648 ≤ q ∧ q ≤ 2147483647) (hp : 0 ≤ p ∧ p < 12) (hq : 0 ≤ q ∧ q < 12) (rz : -2147483648 ≤ z ∧ z ≤ 2147483647) (hz : 0 ≤ z ∧ z ≤ 999) (hf : Hts f 144 (fun _ => 0)) : ∃ r : Nat → Int32, mj_Ct m_M_dig [.ref (mj_NE + 32), .int (iI x), .int (iI y), .int (iI p), .int (iI q), .int (iI z)] (Wd xs L A V (mY t b (mj_NE + 33) f [zO o])) (some (.int (iI 0))) (Wd xs L A V (mY (iI 0) b (mj_NE + 37) f [zO o, zI r, zL (mj_NE + 36)])) 2 147 3 := by
  obtain ⟨i, hi⟩ : ∃ i : Nat, (i : Int) = y * 12 + x := ⟨(y * 12 + x).toNat, by omega⟩
  have hi2 : (y * 12 + x).toNat = i := by omega
  have hi3 : i < 144 := by omega
  obtain ⟨j, hj⟩ : ∃ j : Nat, (j : Int) = q * 12 + p := ⟨(q * 12 + p).toNat, by omega⟩
  have hj2 : (q * 12 + p).toNat = j := by omega
  have hj3 : j < 144 := by omega
  have s1 := r_to (RC := 2) (RS := 147) (dd := 3) (g := (0, [.ref (mj_NE + 32), .int (iI x), .int (iI y), .int (iI p), .int (iI q), .int (iI z), mj_u, mj_u, mj_u, mj_u, mj_u], [], Wd xs L A V (mY t b (mj_NE + 33) f [zO o]), 0, 0)) (g' := (4, [.ref (mj_NE + 32), .int (iI x), .int (iI y), .int (iI p), .int (iI q), .int (iI z), mj_u, mj_u, mj_u, mj_u, mj_u], [.int (iI y), .int (iI x), .ref (mj_NE + 32), .ref (mj_NE + 32)], Wd xs L A V (mY t b (mj_NE + 33) f [zO o]), 0, 0)) ok_M_dig 9999 [] rfl trivial
  have s2 := r_tr s1 (q_V ok_M_dig ok_M_isNo se_M_isNo (c_isNo rx ry) rfl rfl rfl rfl rfl ⟨rfl, rfl, rfl⟩)
  rw [noB_f hx hy] at s2
  have s3 := r_tr s2 (r_to (RC := 2) (RS := 147) (dd := 3) (g := (7, [.ref (mj_NE + 32), .int (iI x), .int (iI y), .int (iI p), .int (iI q), .int (iI z), mj_u, mj_u, mj_u, mj_u, mj_u], [.int (bI false), .ref (mj_NE + 32)], Wd xs L A V (mY t b (mj_NE + 33) f [zO o]), 0, 0)) (g' := (14, [.ref (mj_NE + 32), .int (iI x), .int (iI y), .int (iI p), .int (iI q), .int (iI z), mj_u, mj_u, mj_u, mj_u, mj_u], [.int (iI q), .int (iI p), .ref (mj_NE + 32), .ref (mj_NE + 32)], Wd xs L A V (mY t b (mj_NE + 33) f [zO o]), 0, 0)) ok_M_dig 9999 [false] rfl ⟨fun q => q rfl, trivial⟩)
  have s4 := r_tr s3 (q_V ok_M_dig ok_M_isNo se_M_isNo (c_isNo rp rq) rfl rfl rfl rfl rfl ⟨rfl, rfl, rfl⟩)
  rw [noB_f hp hq] at s4
  have s5 := r_tr s4 (r_to (RC := 2) (RS := 147) (dd := 3) (g := (17, [.ref (mj_NE + 32), .int (iI x), .int (iI y), .int (iI p), .int (iI q), .int (iI z), mj_u, mj_u, mj_u, mj_u, mj_u], [.int (bI false), .ref (mj_NE + 32)], Wd xs L A V (mY t b (mj_NE + 33) f [zO o]), 0, 0)) (g' := (26, [.ref (mj_NE + 32), .int (iI x), .int (iI y), .int (iI p), .int (iI q), .int (iI z), mj_u, mj_u, mj_u, mj_u, mj_u], [.int (iI 1), .int (bI false), .ref (mj_NE + 32)], Wd xs L A V (mY t b (mj_NE + 33) f [zO o]), 0, 0)) ok_M_dig 9999 [true] rfl ⟨by show ((0 : Int32) = 0); rfl, trivial⟩)
  have s6 := r_tr s5 (q_V ok_M_dig ok_M_start se_M_start (c_start (q := false) (k := 1) ⟨by omega, by omega⟩) rfl rfl rfl rfl rfl ⟨rfl, rfl, rfl⟩)
  rw [if_neg Bool.false_ne_true] at s6
  have s7 := r_tr s6 (r_to (RC := 2) (RS := 147) (dd := 3) (g := (29, [.ref (mj_NE + 32), .int (iI x), .int (iI y), .int (iI p), .int (iI q), .int (iI z), mj_u, mj_u, mj_u, mj_u, mj_u], [.int (bI false)], Wd xs L A V (mY (iI 0) b (mj_NE + 33) f [zO o]), 0, 0)) (g' := (39, [.ref (mj_NE + 32), .int (iI x), .int (iI y), .int (iI p), .int (iI q), .int (iI z), mj_u, mj_u, mj_u, mj_u, mj_u], [.int (iI 999), .int (iI 0), .int (iI z), .ref (mj_NE + 32)], Wd xs L A V (mY (iI 0) b (mj_NE + 33) f [zO o]), 0, 0)) ok_M_dig 9999 [false] rfl ⟨fun q => q rfl, trivial⟩)
  have s8 := r_tr s7 (q_S ok_M_dig ok_M_isIn st_M_isIn (c_isIn (v := z) (lo := 0) (hi := 999) rz ⟨by omega, by omega, by omega, by omega⟩) rfl rfl rfl rfl ⟨rfl, rfl, rfl⟩)
  rw [decide_eq_true hz] at s8
  have s9 := r_tr s8 (r_to (RC := 2) (RS := 147) (dd := 3) (g := (42, [.ref (mj_NE + 32), .int (iI x), .int (iI y), .int (iI p), .int (iI q), .int (iI z), mj_u, mj_u, mj_u, mj_u, mj_u], [.int (bI true), .ref (mj_NE + 32)], Wd xs L A V (mY (iI 0) b (mj_NE + 33) f [zO o]), 0, 0)) (g' := (51, [.ref (mj_NE + 32), .int (iI x), .int (iI y), .int (iI p), .int (iI q), .int (iI z), mj_u, mj_u, mj_u, mj_u, mj_u], [.int (iI 2), .int (bI false), .ref (mj_NE + 32)], Wd xs L A V (mY (iI 0) b (mj_NE + 33) f [zO o]), 0, 0)) ok_M_dig 9999 [true] rfl ⟨by show ¬ ((1 : Int32) = 0); decide, trivial⟩)
  have s10 := r_tr s9 (q_V ok_M_dig ok_M_refuse se_M_refuse (c_refuse (q := false) (k := 2) ⟨by omega, by omega⟩) rfl rfl rfl rfl rfl ⟨rfl, rfl, rfl⟩)
  rw [if_neg Bool.false_ne_true] at s10
  have s11 := r_tr s10 (r_to (RC := 2) (RS := 147) (dd := 3) (g := (54, [.ref (mj_NE + 32), .int (iI x), .int (iI y), .int (iI p), .int (iI q), .int (iI z), mj_u, mj_u, mj_u, mj_u, mj_u], [.int (bI false)], Wd xs L A V (mY (iI 0) b (mj_NE + 33) f [zO o]), 0, 0)) (g' := (66, [.ref (mj_NE + 32), .int (iI x), .int (iI y), .int (iI p), .int (iI q), .int (iI z), mj_u, mj_u, mj_u, mj_u, mj_u], [.ref (mj_NE + 34)], Wd xs L A V (mY (iI 0) b (mj_NE + 33) f [zO o]), 0, 0)) ok_M_dig 9999 [true] rfl ⟨by show ((0 : Int32) = 0); rfl, trivial⟩)
  have cl : mj_Rc m_M_dig 2 147 3 (66, [.ref (mj_NE + 32), .int (iI x), .int (iI y), .int (iI p), .int (iI q), .int (iI z), mj_u, mj_u, mj_u, mj_u, mj_u], [.ref (mj_NE + 34)], Wd xs L A V (mY (iI 0) b (mj_NE + 33) f [zO o]), 0, 0) (72, [.ref (mj_NE + 32), .int (iI x), .int (iI y), .int (iI p), .int (iI q), .int (iI z), mj_u, mj_u, mj_u, mj_u, mj_u], [.ref (mj_NE + 36)], Wd xs L A V (mY (iI 0) b (mj_NE + 33) f [zO o, zI f]), 1, 144) := r_clone ok_M_dig (k2 := 967) rfl (by decide +kernel) rfl rfl rfl (by decide +kernel) rfl rfl ⟨rfl, rfl, rfl⟩
  have s12 := r_tr s11 cl
  have s13 := r_tr s12 (r_to (RC := 2) (RS := 147) (dd := 3) (g := (72, [.ref (mj_NE + 32), .int (iI x), .int (iI y), .int (iI p), .int (iI q), .int (iI z), mj_u, mj_u, mj_u, mj_u, mj_u], [.ref (mj_NE + 36)], Wd xs L A V (mY (iI 0) b (mj_NE + 33) f [zO o, zI f]), 1, 144)) (g' := (77, [.ref (mj_NE + 32), .int (iI x), .int (iI y), .int (iI p), .int (iI q), .int (iI z), .ref (mj_NE + 36), mj_u, mj_u, mj_u, mj_u], [.int (iI y), .int (iI x), .ref (mj_NE + 32)], Wd xs L A V (mY (iI 0) b (mj_NE + 33) f [zO o, zI f]), 1, 144)) ok_M_dig 9999 [] rfl trivial)
  have s14 := r_tr s13 (q_V ok_M_dig ok_M_number se_M_number (c_number) rfl rfl rfl rfl rfl ⟨rfl, rfl, rfl⟩)
  rw [← hi] at s14
  have s15 := r_tr s14 (r_to (RC := 2) (RS := 147) (dd := 3) (g := (80, [.ref (mj_NE + 32), .int (iI x), .int (iI y), .int (iI p), .int (iI q), .int (iI z), .ref (mj_NE + 36), mj_u, mj_u, mj_u, mj_u], [.int (iI (i : Int))], Wd xs L A V (mY (iI 0) b (mj_NE + 33) f [zO o, zI f]), 1, 144)) (g' := (86, [.ref (mj_NE + 32), .int (iI x), .int (iI y), .int (iI p), .int (iI q), .int (iI z), .ref (mj_NE + 36), .int (iI (i : Int)), mj_u, mj_u, mj_u], [.int (iI q), .int (iI p), .ref (mj_NE + 32)], Wd xs L A V (mY (iI 0) b (mj_NE + 33) f [zO o, zI f]), 1, 144)) ok_M_dig 9999 [] rfl trivial)
  have s16 := r_tr s15 (q_V ok_M_dig ok_M_number se_M_number (c_number) rfl rfl rfl rfl rfl ⟨rfl, rfl, rfl⟩)
  rw [← hj] at s16
  have s17 := r_tr s16 (r_to (RC := 2) (RS := 147) (dd := 3) (g := (89, [.ref (mj_NE + 32), .int (iI x), .int (iI y), .int (iI p), .int (iI q), .int (iI z), .ref (mj_NE + 36), .int (iI (i : Int)), mj_u, mj_u, mj_u], [.int (iI (j : Int))], Wd xs L A V (mY (iI 0) b (mj_NE + 33) f [zO o, zI f]), 1, 144)) (g' := (94, [.ref (mj_NE + 32), .int (iI x), .int (iI y), .int (iI p), .int (iI q), .int (iI z), .ref (mj_NE + 36), .int (iI (i : Int)), .int (iI (j : Int)), .int (iI 0), mj_u], [], Wd xs L A V (mY (iI 0) b (mj_NE + 33) f [zO o, zI f]), 1, 144)) ok_M_dig 94 [] rfl trivial)
  obtain ⟨Nn, hN⟩ : ∃ Nn : Int, Nn = (max (((j : Int) % 12 - (i : Int) % 12).natAbs : Int) (((j : Int) / 12 - (i : Int) / 12).natAbs : Int)) := ⟨_, rfl⟩
  have bN : 0 ≤ Nn ∧ Nn ≤ 11 := by omega
  have lp : ∀ n : Nat, (n : Int) ≤ Nn + 1 → ∃ (r : Nat → Int32) (u10 : Value), Hts r 144 (fun _ => 0) ∧ mj_Rc m_M_dig 2 147 3 (0, [.ref (mj_NE + 32), .int (iI x), .int (iI y), .int (iI p), .int (iI q), .int (iI z), mj_u, mj_u, mj_u, mj_u, mj_u], [], Wd xs L A V (mY t b (mj_NE + 33) f [zO o]), 0, 0) (94, [.ref (mj_NE + 32), .int (iI x), .int (iI y), .int (iI p), .int (iI q), .int (iI z), .ref (mj_NE + 36), .int (iI (i : Int)), .int (iI (j : Int)), .int (iI (n : Int)), u10], [], Wd xs L A V (mY (iI 0) b (mj_NE + 33) f [zO o, zI r]), 1, 144) := by
    intro n
    induction n with
    | zero => intro _; exact ⟨f, _, hf, s17⟩
    | succ n ih =>
      intro hn
      obtain ⟨r, u10, hrr, hr⟩ := ih (by omega)
      have b1 := btw_in (p := (i : Int) % 12) (q := (j : Int) % 12) (k := (n : Int)) (n := Nn) (by omega) (by omega) (by omega) (by omega)
      have b2 := btw_in (p := (i : Int) / 12) (q := (j : Int) / 12) (k := (n : Int)) (n := Nn) (by omega) (by omega) (by omega) (by omega)
      obtain ⟨g, hg⟩ : ∃ g : Nat, (g : Int) = btw ((i : Int) / 12) ((j : Int) / 12) (n : Int) Nn * 12 + btw ((i : Int) % 12) ((j : Int) % 12) (n : Int) Nn := ⟨(btw ((i : Int) / 12) ((j : Int) / 12) (n : Int) Nn * 12 + btw ((i : Int) % 12) ((j : Int) % 12) (n : Int) Nn).toNat, by omega⟩
      have hg2 : g < 144 := by omega
      have s1 := r_tr hr (r_to (RC := 2) (RS := 147) (dd := 3) (g := (94, [.ref (mj_NE + 32), .int (iI x), .int (iI y), .int (iI p), .int (iI q), .int (iI z), .ref (mj_NE + 36), .int (iI (i : Int)), .int (iI (j : Int)), .int (iI (n : Int)), u10], [], Wd xs L A V (mY (iI 0) b (mj_NE + 33) f [zO o, zI r]), 1, 144)) (g' := (104, [.ref (mj_NE + 32), .int (iI x), .int (iI y), .int (iI p), .int (iI q), .int (iI z), .ref (mj_NE + 36), .int (iI (i : Int)), .int (iI (j : Int)), .int (iI (n : Int)), u10], [.int (iI (j : Int)), .int (iI (i : Int)), .ref (mj_NE + 33), .int (iI (n : Int))], Wd xs L A V (mY (iI 0) b (mj_NE + 33) f [zO o, zI r]), 1, 144)) ok_M_dig 9999 [] rfl trivial)
      have s2 := r_tr s1 (q_V ok_M_dig ok_ML_far se_ML_far (c_MLfar hi3 hj3) rfl rfl rfl rfl rfl ⟨rfl, rfl, rfl⟩)
      rw [← hN] at s2
      have s3 := r_tr s2 (r_to (RC := 2) (RS := 147) (dd := 3) (g := (107, [.ref (mj_NE + 32), .int (iI x), .int (iI y), .int (iI p), .int (iI q), .int (iI z), .ref (mj_NE + 36), .int (iI (i : Int)), .int (iI (j : Int)), .int (iI (n : Int)), u10], [.int (iI Nn), .int (iI (n : Int))], Wd xs L A V (mY (iI 0) b (mj_NE + 33) f [zO o, zI r]), 1, 144)) (g' := (120, [.ref (mj_NE + 32), .int (iI x), .int (iI y), .int (iI p), .int (iI q), .int (iI z), .ref (mj_NE + 36), .int (iI (i : Int)), .int (iI (j : Int)), .int (iI (n : Int)), u10], [.int (iI (n : Int)), .int (iI (j : Int)), .int (iI (i : Int)), .ref (mj_NE + 33)], Wd xs L A V (mY (iI 0) b (mj_NE + 33) f [zO o, zI r]), 1, 144)) ok_M_dig 9999 [false] rfl ⟨by show ¬ (iI Nn < iI (n : Int)); rw [iI_lt ⟨by omega, by omega⟩ ⟨by omega, by omega⟩]; omega, trivial⟩)
      have s4 := r_tr s3 (q_V ok_M_dig ok_ML_between se_ML_between (c_MLbetween (k := (n : Int)) hi3 hj3 ⟨by omega, by omega⟩) rfl rfl rfl rfl rfl ⟨rfl, rfl, rfl⟩)
      rw [← hN, ← hg] at s4
      have s5 := r_tr s4 (r_to (RC := 2) (RS := 147) (dd := 3) (g := (123, [.ref (mj_NE + 32), .int (iI x), .int (iI y), .int (iI p), .int (iI q), .int (iI z), .ref (mj_NE + 36), .int (iI (i : Int)), .int (iI (j : Int)), .int (iI (n : Int)), u10], [.int (iI (g : Int))], Wd xs L A V (mY (iI 0) b (mj_NE + 33) f [zO o, zI r]), 1, 144)) (g' := (136, [.ref (mj_NE + 32), .int (iI x), .int (iI y), .int (iI p), .int (iI q), .int (iI z), .ref (mj_NE + 36), .int (iI (i : Int)), .int (iI (j : Int)), .int (iI (n : Int)), .int (iI (g : Int))], [.int (iI z), .int (r (iI (g : Int)).toNatClampNeg), .int (iI (g : Int)), .ref (mj_NE + 36)], Wd xs L A V (mY (iI 0) b (mj_NE + 33) f [zO o, zI r]), 1, 144)) ok_M_dig 9999 [] rfl ⟨in_nat hg2 (by omega), trivial⟩)
      rw [cl_nat (n := g) (by omega), (hrr g hg2).1] at s5
      have s6 := r_tr s5 (q_S ok_M_dig ok_Math_min st_Math_min (c_min (a := 0) (b := z) ⟨by omega, by omega⟩ ⟨by omega, by omega⟩) rfl rfl rfl rfl ⟨rfl, rfl, rfl⟩)
      rw [Int.min_eq_left hz.1] at s6
      have s7 := r_tr s6 (r_to (RC := 2) (RS := 147) (dd := 3) (g := (139, [.ref (mj_NE + 32), .int (iI x), .int (iI y), .int (iI p), .int (iI q), .int (iI z), .ref (mj_NE + 36), .int (iI (i : Int)), .int (iI (j : Int)), .int (iI (n : Int)), .int (iI (g : Int))], [.int (iI 0), .int (iI (g : Int)), .ref (mj_NE + 36)], Wd xs L A V (mY (iI 0) b (mj_NE + 33) f [zO o, zI r]), 1, 144)) (g' := (94, [.ref (mj_NE + 32), .int (iI x), .int (iI y), .int (iI p), .int (iI q), .int (iI z), .ref (mj_NE + 36), .int (iI (i : Int)), .int (iI (j : Int)), .int ((iI (n : Int)) + 1), .int (iI (g : Int))], [], Wd xs L A V (mY (iI 0) b (mj_NE + 33) f [zO o, zI (upd r (iI (g : Int)).toNatClampNeg (iI 0))]), 1, 144)) ok_M_dig 94 [] rfl ⟨in_nat hg2 (by omega), trivial⟩)
      rw [cl_nat (n := g) (by omega), iI_1, upd_same (hrr g hg2).1] at s7
      exact ⟨r, _, hrr, s7⟩
  obtain ⟨r, u10, hrr, hr⟩ := lp (Nn.toNat + 1) (by omega)
  refine ⟨r, ?_⟩
  have z1 := r_tr hr (r_to (RC := 2) (RS := 147) (dd := 3) (g := (94, [.ref (mj_NE + 32), .int (iI x), .int (iI y), .int (iI p), .int (iI q), .int (iI z), .ref (mj_NE + 36), .int (iI (i : Int)), .int (iI (j : Int)), .int (iI ((Nn.toNat + 1 : Nat) : Int)), u10], [], Wd xs L A V (mY (iI 0) b (mj_NE + 33) f [zO o, zI r]), 1, 144)) (g' := (104, [.ref (mj_NE + 32), .int (iI x), .int (iI y), .int (iI p), .int (iI q), .int (iI z), .ref (mj_NE + 36), .int (iI (i : Int)), .int (iI (j : Int)), .int (iI ((Nn.toNat + 1 : Nat) : Int)), u10], [.int (iI (j : Int)), .int (iI (i : Int)), .ref (mj_NE + 33), .int (iI ((Nn.toNat + 1 : Nat) : Int))], Wd xs L A V (mY (iI 0) b (mj_NE + 33) f [zO o, zI r]), 1, 144)) ok_M_dig 9999 [] rfl trivial)
  have z2 := r_tr z1 (q_V ok_M_dig ok_ML_far se_ML_far (c_MLfar hi3 hj3) rfl rfl rfl rfl rfl ⟨rfl, rfl, rfl⟩)
  rw [← hN] at z2
  have z3 := r_tr z2 (r_to (RC := 2) (RS := 147) (dd := 3) (g := (107, [.ref (mj_NE + 32), .int (iI x), .int (iI y), .int (iI p), .int (iI q), .int (iI z), .ref (mj_NE + 36), .int (iI (i : Int)), .int (iI (j : Int)), .int (iI ((Nn.toNat + 1 : Nat) : Int)), u10], [.int (iI Nn), .int (iI ((Nn.toNat + 1 : Nat) : Int))], Wd xs L A V (mY (iI 0) b (mj_NE + 33) f [zO o, zI r]), 1, 144)) (g' := (149, [.ref (mj_NE + 32), .int (iI x), .int (iI y), .int (iI p), .int (iI q), .int (iI z), .ref (mj_NE + 36), .int (iI (i : Int)), .int (iI (j : Int)), .int (iI ((Nn.toNat + 1 : Nat) : Int)), u10], [.ref (mj_NE + 36), .ref (mj_NE + 32)], Wd xs L A V (mY (iI 0) b (mj_NE + 33) f [zO o, zI r]), 1, 144)) ok_M_dig 9999 [true] rfl ⟨by show iI Nn < iI ((Nn.toNat + 1 : Nat) : Int); rw [iI_lt ⟨by omega, by omega⟩ ⟨by omega, by omega⟩]; omega, trivial⟩)
  have z4 := r_tr z3 (q_V ok_M_dig ok_M_take se_M_take (c_take_a (F := fun _ => 0) (G := fun _ => 0) hrr hf) rfl rfl rfl rfl rfl ⟨rfl, rfl, rfl⟩)
  rw [cnt_same (F := fun _ => (0 : Int))] at z4
  exact ct_of ok_M_dig rfl z4 rfl rfl rfl rfl rfl
end REF24
