/-! Land: tilting, hills -/
/-- what is added for roughness -/
def bump (x y : Int) : Int := (x * 7 + y * 13 + x * y * 5) % 17
theorem bump_bd (x y : Int) : 0 ≤ bump x y ∧ bump x y ≤ 16 := by
  unfold bump
  omega
def slH (w p q r : Int) (H : Nat → Int) (j : Nat) : Int := clH (H j + p * ((j : Int) % w) + q * ((j : Int) / w) + bump ((j : Int) % w) ((j : Int) / w) * r)
theorem clH_bd (z : Int) : 0 ≤ clH z ∧ clH z ≤ 999 := by
  unfold clH
  split
  · omega
  · split <;> omega
theorem mul_bd {p q P Q : Int} (h1 : -P ≤ p ∧ p ≤ P) (h2 : 0 ≤ q ∧ q ≤ Q) : -(P * Q) ≤ p * q ∧ p * q ≤ P * Q := by
  have a1 : p * q ≤ P * q := Int.mul_le_mul_of_nonneg_right h1.2 h2.1
  have a2 : -P * q ≤ p * q := Int.mul_le_mul_of_nonneg_right h1.1 h2.1
  have a3 : P * q ≤ P * Q := Int.mul_le_mul_of_nonneg_left h2.2 (by omega)
  rw [Int.neg_mul] at a2
  omega
section LAND5
variable {xs : Nat → Int32} {L : Nat} {A : Nat → Nat → Int32} {V : Nat → Int32} {Y : mj_H}
variable {w h : Int} {H : Nat → Int}
set_option maxHeartbeats 1000000 in
theorem c_slope {p q r : Int} (h0 : V 0 = iI w) (h1 : V 1 = iI h) (hw : 2 ≤ w ∧ w ≤ 16) (hh : 2 ≤ h ∧ h ≤ 16) (hH : Hts (A 0) (w * h).toNat H) (hp0 : -100 ≤ p ∧ p ≤ 100) (hq0 : -100 ≤ q ∧ q ≤ 100) (hr0 : -100 ≤ r ∧ r ≤ 100) : mj_Ct m_Land_slope [.ref (mj_NE + 1), .int (iI p), .int (iI q), .int (iI r)] (Wd xs L A V Y) none (Wd xs L (wA A 0 (pw (fun j => iI (slH w p q r H j)) (A 0) (w * h).toNat)) V Y) 0 0 1 := by
  have wh := wh_bd hw hh
  have row : ∀ (g0 : mj_S) (y : Int) (k0 : Nat), 0 ≤ y ∧ y < h → (k0 : Int) = y * w → (∃ (A1 : Nat → Nat → Int32) (u6 u7 : Value), (A1 = wA A 0 (pw (fun j => iI (slH w p q r H j)) (A 0) k0) ∧ True) ∧ mj_Rc m_Land_slope 0 0 1 g0 (15, [.ref (mj_NE + 1), .int (iI p), .int (iI q), .int (iI r), .int (iI y), .int 0, u6, u7], [], Wd xs L A1 V Y, 0, 0)) → ∀ n : Nat, (n : Int) ≤ w → ∃ (A1 : Nat → Nat → Int32) (u6 u7 : Value), (A1 = wA A 0 (pw (fun j => iI (slH w p q r H j)) (A 0) (k0 + n)) ∧ True) ∧ mj_Rc m_Land_slope 0 0 1 g0 (15, [.ref (mj_NE + 1), .int (iI p), .int (iI q), .int (iI r), .int (iI y), .int (iI n), u6, u7], [], Wd xs L A1 V Y, 0, 0) := by
    intro g0 y k0 hy hk0 hs n
    induction n with
    | zero => intro _; exact hs
    | succ n ih =>
      intro hn
      obtain ⟨A1, u6, u7, hp, hr⟩ := ih (by omega)
      have hx : 0 ≤ (n : Int) ∧ (n : Int) < w := ⟨by omega, by omega⟩
      have hb := num_bd hw hh hx hy
      have hk : ((k0 + n : Nat) : Int) = y * w + n := by omega
      have hxy := num_xy (w := w) (y := y) (by omega) hx
      have cnd : ¬ (V 0 ≤ iI n) := br_ge h0 ⟨by omega, by omega⟩ ⟨by omega, by omega⟩ (by omega)
      obtain ⟨rfl, -⟩ := hp
      obtain ⟨e0, b1, b2⟩ := hH (k0 + n) (by omega)
      have bw := bump_bd n y
      have m1 := mul_bd (p := p) (q := n) (P := 100) (Q := 16) hp0 ⟨by omega, by omega⟩
      have m2 := mul_bd (p := q) (q := y) (P := 100) (Q := 16) hq0 ⟨by omega, by omega⟩
      have m3 := mul_bd (p := r) (q := bump n y) (P := 100) (Q := 16) hr0 ⟨by omega, by omega⟩
      rw [Int.mul_comm r] at m3
      have m4 := mul_bd (p := (n : Int)) (q := y) (P := 16) (Q := 16) ⟨by omega, by omega⟩ ⟨by omega, by omega⟩
      have m5 : 0 ≤ (n : Int) * y := Int.mul_nonneg (by omega) hy.1
      have s1 := r_tr hr (r_to (g' := (29, [.ref (mj_NE + 1), .int (iI p), .int (iI q), .int (iI r), .int (iI y), .int (iI n), u6, u7], [.int (iI y), .int (iI n), .ref (mj_NE + 1)], Wd xs L (wA A 0 (pw (fun j => iI (slH w p q r H j)) (A 0) (k0 + n))) V Y, 0, 0)) ok_Land_slope 9999 [false] rfl ⟨cnd, trivial⟩)
      have s2 := r_tr s1 (q_V ok_Land_slope ok_Land_numberOf se_Land_numberOf (c_num h0) rfl rfl rfl rfl rfl ⟨rfl, rfl, rfl⟩)
      rw [← hk] at s2
      have hc : (iI ((k0 + n : Nat) : Int)).toNatClampNeg = k0 + n := cl_nat (by omega)
      have hin : vp_in (iI ((k0 + n : Nat) : Int)) 256 := in_nat (by omega) (by omega)
      have eb : iI n * iI 7 + iI y * iI 13 + iI n * iI y * iI 5 - (iI n * iI 7 + iI y * iI 13 + iI n * iI y * iI 5) / iI 17 * iI 17 = iI (bump n y) := by
        rw [iI_mul, iI_mul, iI_mul, iI_mul, iI_add, iI_add, iI_rem ⟨by omega, by omega⟩ ⟨by omega, by omega⟩, Int.tmod_eq_emod_of_nonneg (by omega)]
        rfl
      have s3 : mj_Rc m_Land_slope 0 0 1 (32, [.ref (mj_NE + 1), .int (iI p), .int (iI q), .int (iI r), .int (iI y), .int (iI n), u6, u7], [.int (iI ((k0 + n : Nat) : Int))], Wd xs L (wA A 0 (pw (fun j => iI (slH w p q r H j)) (A 0) (k0 + n))) V Y, 0, 0) (83, [.ref (mj_NE + 1), .int (iI p), .int (iI q), .int (iI r), .int (iI y), .int (iI n), .int (iI ((k0 + n : Nat) : Int)), .int (iI n * iI 7 + iI y * iI 13 + iI n * iI y * iI 5 - (iI n * iI 7 + iI y * iI 13 + iI n * iI y * iI 5) / iI 17 * iI 17)], [.int (pw (fun j => iI (slH w p q r H j)) (A 0) (k0 + n) (iI ((k0 + n : Nat) : Int)).toNatClampNeg + iI p * iI n + iI q * iI y + (iI n * iI 7 + iI y * iI 13 + iI n * iI y * iI 5 - (iI n * iI 7 + iI y * iI 13 + iI n * iI y * iI 5) / iI 17 * iI 17) * iI r), .int (iI ((k0 + n : Nat) : Int)), .ref (mj_NE + 1)], Wd xs L (wA A 0 (pw (fun j => iI (slH w p q r H j)) (A 0) (k0 + n))) V Y, 0, 0) := r_to ok_Land_slope 9999 [] rfl ⟨by show ¬ (iI 17 = iI 0); decide +kernel, hin, trivial⟩
      rw [eb, hc, pw_ge (Nat.lt_irrefl _), e0, iI_mul, iI_mul, iI_mul, iI_add, iI_add, iI_add] at s3
      have s4 := r_tr (r_tr s2 s3) (q_V ok_Land_slope ok_Land_exchange se_Land_exchange (c_exchange (i := ((k0 + n : Nat) : Int)) ⟨by omega, by omega⟩ ⟨by omega, by omega⟩) rfl rfl rfl rfl rfl ⟨rfl, rfl, rfl⟩)
      rw [wA_s, wA_f, Int.toNat_natCast, pw_s (by unfold slH; rw [hk, hxy.1, hxy.2])] at s4
      have s5 := r_tr s4 (r_to (g' := (15, [.ref (mj_NE + 1), .int (iI p), .int (iI q), .int (iI r), .int (iI y), .int (iI n + 1), .int (iI ((k0 + n : Nat) : Int)), .int (iI (bump n y))], [], Wd xs L (wA A 0 (pw (fun j => iI (slH w p q r H j)) (A 0) (k0 + n + 1))) V Y, 0, 0)) ok_Land_slope 15 [] rfl trivial)
      rw [iI_1] at s5
      exact ⟨_, _, _, ⟨rfl, trivial⟩, s5⟩
  have rows : ∀ n : Nat, (n : Int) ≤ h → ∃ (A1 : Nat → Nat → Int32) (u5 u6 u7 : Value), (A1 = wA A 0 (pw (fun j => iI (slH w p q r H j)) (A 0) ((n : Int) * w).toNat) ∧ True) ∧ mj_Rc m_Land_slope 0 0 1 (3, [.ref (mj_NE + 1), .int (iI p), .int (iI q), .int (iI r), .int 0, mj_u, mj_u, mj_u], [], Wd xs L A V Y, 0, 0) (3, [.ref (mj_NE + 1), .int (iI p), .int (iI q), .int (iI r), .int (iI n), u5, u6, u7], [], Wd xs L A1 V Y, 0, 0) := by
    intro n
    induction n with
    | zero => intro _; exact ⟨A, mj_u, mj_u, mj_u, ⟨by rw [show ((0 : Nat) : Int) * w = 0 by simp]; rw [show (0 : Int).toNat = 0 from rfl, pw_0, wA_id], trivial⟩, r_rf⟩
    | succ n ih =>
      intro hn
      obtain ⟨A1, u5, u6, u7, hp, hr⟩ := ih (by omega)
      have hnw : 0 ≤ (n : Int) * w := Int.mul_nonneg (by omega) (by omega)
      have t1 := r_tr hr (r_to (g' := (15, [.ref (mj_NE + 1), .int (iI p), .int (iI q), .int (iI r), .int (iI n), .int 0, u6, u7], [], Wd xs L A1 V Y, 0, 0)) ok_Land_slope 15 [false] rfl ⟨br_ge h1 ⟨by omega, by omega⟩ ⟨by omega, by omega⟩ (by omega), trivial⟩)
      obtain ⟨A1, u6, u7, hp, hr2⟩ := row _ n ((n : Int) * w).toNat ⟨by omega, by omega⟩ (by omega) ⟨_, _, _, hp, t1⟩ w.toNat (by omega)
      have t2 := r_tr hr2 (r_to (g' := (3, [.ref (mj_NE + 1), .int (iI p), .int (iI q), .int (iI r), .int (iI n + 1), .int (iI w.toNat), u6, u7], [], Wd xs L A1 V Y, 0, 0)) ok_Land_slope 3 [true] rfl ⟨br_lt h0 ⟨by omega, by omega⟩ ⟨by omega, by omega⟩ (by omega), trivial⟩)
      rw [iI_1] at t2
      have e : (((n + 1 : Nat) : Int) * w).toNat = ((n : Int) * w).toNat + w.toNat := by
        rw [Int.natCast_add, Int.add_mul]
        omega
      rw [e]
      exact ⟨_, _, _, _, hp, t2⟩
  obtain ⟨A1, u5, u6, u7, hp, hr⟩ := rows h.toNat (by omega)
  have hwh : ((h.toNat : Nat) : Int) * w = w * h := by rw [Int.mul_comm]; congr 1; omega
  rw [hwh] at hp
  obtain ⟨rfl, -⟩ := hp
  exact ct_of ok_Land_slope rfl (r_tr (r_to ok_Land_slope 3 [] rfl trivial) (r_tr hr (r_to ok_Land_slope 9999 [true] rfl ⟨br_lt h1 ⟨by omega, by omega⟩ ⟨by omega, by omega⟩ (by omega), trivial⟩))) rfl rfl rfl rfl rfl
end LAND5
