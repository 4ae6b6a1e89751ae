/-! Land: hills -/
def cnt (p : Nat → Bool) : Nat → Int
  | 0 => 0
  | n + 1 => cnt p n + (if p n = true then 1 else 0)
theorem cnt_bd (p : Nat → Bool) : ∀ n : Nat, 0 ≤ cnt p n ∧ cnt p n ≤ n := by
  intro n
  induction n with
  | zero => unfold cnt; omega
  | succ n ih => unfold cnt; split <;> omega
theorem cnt_0 {p : Nat → Bool} : ∀ n : Nat, (∀ j, j < n → p j = false) → cnt p n = 0 := by
  intro n
  induction n with
  | zero => intro _; rfl
  | succ n ih => intro h; unfold cnt; rw [ih (fun j hj => h j (by omega)), if_neg (by rw [h n (by omega)]; decide)]; rfl
def dsq (w mx my : Int) (j : Nat) : Int := ((j : Int) % w - mx) * ((j : Int) % w - mx) + ((j : Int) / w - my) * ((j : Int) / w - my)
def raH (w mx my rd b : Int) (H : Nat → Int) (j : Nat) : Int := if dsq w mx my j ≤ rd * rd then clH (H j + b - (b * dsq w mx my j).tdiv (rd * rd + 1)) else H j
theorem sq_bd {p P : Int} (h1 : -P ≤ p ∧ p ≤ P) : 0 ≤ p * p ∧ p * p ≤ P * P := by
  rcases Int.le_total 0 p with h | h
  · exact ⟨Int.mul_nonneg h h, Int.le_trans (Int.mul_le_mul_of_nonneg_right h1.2 h) (Int.mul_le_mul_of_nonneg_left h1.2 (by omega))⟩
  · have e : p * p = (-p) * (-p) := by rw [Int.neg_mul_neg]
    rw [e]
    exact ⟨Int.mul_nonneg (by omega) (by omega), Int.le_trans (Int.mul_le_mul_of_nonneg_right (by omega) (by omega)) (Int.mul_le_mul_of_nonneg_left (by omega) (by omega))⟩
section LAND6
variable {xs : Nat → Int32} {L : Nat} {A : Nat → Nat → Int32} {V : Nat → Int32} {Y : mj_H}
variable {w h : Int} {H : Nat → Int}
set_option maxHeartbeats 2000000 in
theorem c_raise {mx my rd b : Int} (h0 : V 0 = iI w) (h1 : V 1 = iI h) (hw : 2 ≤ w ∧ w ≤ 16) (hh : 2 ≤ h ∧ h ≤ 16) (hH : Hts (A 0) (w * h).toNat H) (hmx : 0 ≤ mx ∧ mx < w) (hmy : 0 ≤ my ∧ my < h) (hrd : 0 ≤ rd ∧ rd ≤ 8) (hb0 : -500 ≤ b ∧ b ≤ 500) : mj_Ct m_Land_raise [.ref (mj_NE + 1), .int (iI mx), .int (iI my), .int (iI rd), .int (iI b)] (Wd xs L A V Y) (some (.int (iI (cnt (fun j => decide (raH w mx my rd b H j ≠ H j)) (w * h).toNat)))) (Wd xs L (wA A 0 (pw (fun j => iI (raH w mx my rd b H j)) (A 0) (w * h).toNat)) V Y) 0 0 1 := by
  have wh := wh_bd hw hh
  have rr := sq_bd (p := rd) (P := 8) ⟨by omega, by omega⟩
  have row : ∀ (g0 : mj_S) (y : Int) (k0 : Nat), 0 ≤ y ∧ y < h → (k0 : Int) = y * w → (∃ (A1 : Nat → Nat → Int32) (c5 u9 u10 u11 : Value), (A1 = wA A 0 (pw (fun j => iI (raH w mx my rd b H j)) (A 0) k0) ∧ c5 = .int (iI (cnt (fun j => decide (raH w mx my rd b H j ≠ H j)) k0))) ∧ mj_Rc m_Land_raise 0 0 1 g0 (23, [.ref (mj_NE + 1), .int (iI mx), .int (iI my), .int (iI rd), .int (iI b), c5, .int (iI (rd * rd)), .int (iI y), .int 0, u9, u10, u11], [], Wd xs L A1 V Y, 0, 0)) → ∀ n : Nat, (n : Int) ≤ w → ∃ (A1 : Nat → Nat → Int32) (c5 u9 u10 u11 : Value), (A1 = wA A 0 (pw (fun j => iI (raH w mx my rd b H j)) (A 0) (k0 + n)) ∧ c5 = .int (iI (cnt (fun j => decide (raH w mx my rd b H j ≠ H j)) (k0 + n)))) ∧ mj_Rc m_Land_raise 0 0 1 g0 (23, [.ref (mj_NE + 1), .int (iI mx), .int (iI my), .int (iI rd), .int (iI b), c5, .int (iI (rd * rd)), .int (iI y), .int (iI n), u9, u10, u11], [], Wd xs L A1 V Y, 0, 0) := by
    intro g0 y k0 hy hk0 hs n
    induction n with
    | zero => intro _; exact hs
    | succ n ih =>
      intro hn
      obtain ⟨A1, c5, u9, u10, u11, hp, hr⟩ := ih (by omega)
      have hx : 0 ≤ (n : Int) ∧ (n : Int) < w := ⟨by omega, by omega⟩
      have hb := num_bd hw hh hx hy
      have hk : ((k0 + n : Nat) : Int) = y * w + n := by omega
      have hxy := num_xy (w := w) (y := y) (by omega) hx
      have cnd : ¬ (V 0 ≤ iI n) := br_ge h0 ⟨by omega, by omega⟩ ⟨by omega, by omega⟩ (by omega)
      obtain ⟨rfl, rfl⟩ := hp
      obtain ⟨e0, b1, b2⟩ := hH (k0 + n) (by omega)
      have cb := cnt_bd (fun j => decide (raH w mx my rd b H j ≠ H j)) (k0 + n)
      have hd : dsq w mx my (k0 + n) = (n - mx) * (n - mx) + (y - my) * (y - my) := by unfold dsq; rw [hk, hxy.1, hxy.2]
      have d1 := sq_bd (p := n - mx) (P := 15) ⟨by omega, by omega⟩
      have d2 := sq_bd (p := y - my) (P := 15) ⟨by omega, by omega⟩
      have ed : (iI n - iI mx) * (iI n - iI mx) + (iI y - iI my) * (iI y - iI my) = iI (dsq w mx my (k0 + n)) := by rw [hd, iI_sub, iI_sub, iI_mul, iI_mul, iI_add]
      have hin : vp_in (iI ((k0 + n : Nat) : Int)) 256 := in_nat (by omega) (by omega)
      have hc : (iI ((k0 + n : Nat) : Int)).toNatClampNeg = k0 + n := cl_nat (by omega)
      by_cases hfar : dsq w mx my (k0 + n) ≤ rd * rd
      · have m3 := mul_bd (p := b) (q := dsq w mx my (k0 + n)) (P := 500) (Q := 450) hb0 ⟨by omega, by omega⟩
        have hra : raH w mx my rd b H (k0 + n) = clH (H (k0 + n) + b - (b * dsq w mx my (k0 + n)).tdiv (rd * rd + 1)) := if_pos hfar
        have td : -225000 ≤ (b * dsq w mx my (k0 + n)).tdiv (rd * rd + 1) ∧ (b * dsq w mx my (k0 + n)).tdiv (rd * rd + 1) ≤ 225000 := by
          have h3 := Int.natAbs_tdiv_le_natAbs (b * dsq w mx my (k0 + n)) (rd * rd + 1)
          omega
        have s1 : mj_Rc m_Land_raise 0 0 1 (23, [.ref (mj_NE + 1), .int (iI mx), .int (iI my), .int (iI rd), .int (iI b), .int (iI (cnt (fun j => decide (raH w mx my rd b H j ≠ H j)) (k0 + n))), .int (iI (rd * rd)), .int (iI y), .int (iI n), u9, u10, u11], [], Wd xs L (wA A 0 (pw (fun j => iI (raH w mx my rd b H j)) (A 0) (k0 + n))) V Y, 0, 0) (65, [.ref (mj_NE + 1), .int (iI mx), .int (iI my), .int (iI rd), .int (iI b), .int (iI (cnt (fun j => decide (raH w mx my rd b H j ≠ H j)) (k0 + n))), .int (iI (rd * rd)), .int (iI y), .int (iI n), .int ((iI n - iI mx) * (iI n - iI mx) + (iI y - iI my) * (iI y - iI my)), u10, u11], [.int (iI y), .int (iI n), .ref (mj_NE + 1)], Wd xs L (wA A 0 (pw (fun j => iI (raH w mx my rd b H j)) (A 0) (k0 + n))) V Y, 0, 0) := r_to ok_Land_raise 9999 [false, false] rfl ⟨cnd, by
          show ¬ (iI (rd * rd) < (iI n - iI mx) * (iI n - iI mx) + (iI y - iI my) * (iI y - iI my))
          rw [ed, iI_lt ⟨by omega, by omega⟩ ⟨by omega, by omega⟩]
          omega, trivial⟩
        rw [ed] at s1
        have s2 := r_tr (r_tr hr s1) (q_V ok_Land_raise ok_Land_numberOf se_Land_numberOf (c_num h0) rfl rfl rfl rfl rfl ⟨rfl, rfl, rfl⟩)
        rw [← hk] at s2
        have s3 : mj_Rc m_Land_raise 0 0 1 (68, [.ref (mj_NE + 1), .int (iI mx), .int (iI my), .int (iI rd), .int (iI b), .int (iI (cnt (fun j => decide (raH w mx my rd b H j ≠ H j)) (k0 + n))), .int (iI (rd * rd)), .int (iI y), .int (iI n), .int (iI (dsq w mx my (k0 + n))), u10, u11], [.int (iI ((k0 + n : Nat) : Int))], Wd xs L (wA A 0 (pw (fun j => iI (raH w mx my rd b H j)) (A 0) (k0 + n))) V Y, 0, 0) (94, [.ref (mj_NE + 1), .int (iI mx), .int (iI my), .int (iI rd), .int (iI b), .int (iI (cnt (fun j => decide (raH w mx my rd b H j ≠ H j)) (k0 + n))), .int (iI (rd * rd)), .int (iI y), .int (iI n), .int (iI (dsq w mx my (k0 + n))), .int (iI ((k0 + n : Nat) : Int)), u11], [.int (pw (fun j => iI (raH w mx my rd b H j)) (A 0) (k0 + n) (iI ((k0 + n : Nat) : Int)).toNatClampNeg + iI b - iI b * iI (dsq w mx my (k0 + n)) / (iI (rd * rd) + iI 1)), .int (iI ((k0 + n : Nat) : Int)), .ref (mj_NE + 1)], Wd xs L (wA A 0 (pw (fun j => iI (raH w mx my rd b H j)) (A 0) (k0 + n))) V Y, 0, 0) := r_to ok_Land_raise 9999 [] rfl ⟨hin, by
          show ¬ (iI (rd * rd) + iI 1 = iI 0)
          rw [iI_add]
          exact iI_nz ⟨by omega, by omega⟩ (by omega), trivial⟩
        rw [hc, pw_ge (Nat.lt_irrefl _), e0, iI_add, iI_mul, iI_add, iI_div ⟨by omega, by omega⟩ ⟨by omega, by omega⟩, iI_sub] at s3
        have s4 := r_tr (r_tr s2 s3) (q_V ok_Land_raise ok_Land_exchange se_Land_exchange (c_exchange (i := ((k0 + n : Nat) : Int)) ⟨by omega, by omega⟩ ⟨by omega, by omega⟩) rfl rfl rfl rfl rfl ⟨rfl, rfl, rfl⟩)
        rw [wA_s, wA_f, Int.toNat_natCast, pw_ge (Nat.lt_irrefl _), e0, pw_s (by rw [hra])] at s4
        have cb2 := clH_bd (H (k0 + n) + b - (b * dsq w mx my (k0 + n)).tdiv (rd * rd + 1))
        have eh : pw (fun j => iI (raH w mx my rd b H j)) (A 0) (k0 + n + 1) (iI ((k0 + n : Nat) : Int)).toNatClampNeg = iI (raH w mx my rd b H (k0 + n)) := by rw [hc, pw_lt (Nat.lt_succ_self _)]
        have ec : cnt (fun j => decide (raH w mx my rd b H j ≠ H j)) (k0 + n + 1) = cnt (fun j => decide (raH w mx my rd b H j ≠ H j)) (k0 + n) + (if decide (raH w mx my rd b H (k0 + n) ≠ H (k0 + n)) = true then 1 else 0) := rfl
        by_cases hne : H (k0 + n) = raH w mx my rd b H (k0 + n)
        · have s5 := r_tr s4 (r_to (g' := (23, [.ref (mj_NE + 1), .int (iI mx), .int (iI my), .int (iI rd), .int (iI b), .int (iI (cnt (fun j => decide (raH w mx my rd b H j ≠ H j)) (k0 + n)) + iI 0), .int (iI (rd * rd)), .int (iI y), .int (iI n + 1), .int (iI (dsq w mx my (k0 + n))), .int (iI ((k0 + n : Nat) : Int)), .int (iI (H (k0 + n)))], [], Wd xs L (wA A 0 (pw (fun j => iI (raH w mx my rd b H j)) (A 0) (k0 + n + 1))) V Y, 0, 0)) ok_Land_raise 23 [true] rfl ⟨hin, by
            show iI (H (k0 + n)) = pw (fun j => iI (raH w mx my rd b H j)) (A 0) (k0 + n + 1) (iI ((k0 + n : Nat) : Int)).toNatClampNeg
            rw [eh, ← hne], trivial⟩)
          rw [iI_1, iI_add, show cnt (fun j => decide (raH w mx my rd b H j ≠ H j)) (k0 + n) + 0 = cnt (fun j => decide (raH w mx my rd b H j ≠ H j)) (k0 + n + 1) by rw [ec, if_neg (by simp [hne.symm])]] at s5
          exact ⟨_, _, _, _, _, ⟨rfl, rfl⟩, s5⟩
        · have s5 := r_tr s4 (r_to (g' := (23, [.ref (mj_NE + 1), .int (iI mx), .int (iI my), .int (iI rd), .int (iI b), .int (iI (cnt (fun j => decide (raH w mx my rd b H j ≠ H j)) (k0 + n)) + iI 1), .int (iI (rd * rd)), .int (iI y), .int (iI n + 1), .int (iI (dsq w mx my (k0 + n))), .int (iI ((k0 + n : Nat) : Int)), .int (iI (H (k0 + n)))], [], Wd xs L (wA A 0 (pw (fun j => iI (raH w mx my rd b H j)) (A 0) (k0 + n + 1))) V Y, 0, 0)) ok_Land_raise 23 [false] rfl ⟨hin, by
            show ¬ (iI (H (k0 + n)) = pw (fun j => iI (raH w mx my rd b H j)) (A 0) (k0 + n + 1) (iI ((k0 + n : Nat) : Int)).toNatClampNeg)
            rw [eh, iI_eq ⟨by omega, by omega⟩ ⟨by rw [hra]; omega, by rw [hra]; omega⟩]
            exact hne, trivial⟩)
          rw [iI_1, iI_add, show cnt (fun j => decide (raH w mx my rd b H j ≠ H j)) (k0 + n) + 1 = cnt (fun j => decide (raH w mx my rd b H j ≠ H j)) (k0 + n + 1) by rw [ec, if_pos (by simp; exact fun q => hne q.symm)]] at s5
          exact ⟨_, _, _, _, _, ⟨rfl, rfl⟩, s5⟩
      · have hra : raH w mx my rd b H (k0 + n) = H (k0 + n) := if_neg hfar
        have s1 : mj_Rc m_Land_raise 0 0 1 (23, [.ref (mj_NE + 1), .int (iI mx), .int (iI my), .int (iI rd), .int (iI b), .int (iI (cnt (fun j => decide (raH w mx my rd b H j ≠ H j)) (k0 + n))), .int (iI (rd * rd)), .int (iI y), .int (iI n), u9, u10, u11], [], Wd xs L (wA A 0 (pw (fun j => iI (raH w mx my rd b H j)) (A 0) (k0 + n))) V Y, 0, 0) (23, [.ref (mj_NE + 1), .int (iI mx), .int (iI my), .int (iI rd), .int (iI b), .int (iI (cnt (fun j => decide (raH w mx my rd b H j ≠ H j)) (k0 + n))), .int (iI (rd * rd)), .int (iI y), .int (iI n + 1), .int ((iI n - iI mx) * (iI n - iI mx) + (iI y - iI my) * (iI y - iI my)), u10, u11], [], Wd xs L (wA A 0 (pw (fun j => iI (raH w mx my rd b H j)) (A 0) (k0 + n))) V Y, 0, 0) := r_to ok_Land_raise 23 [false, true] rfl ⟨cnd, by
          show iI (rd * rd) < (iI n - iI mx) * (iI n - iI mx) + (iI y - iI my) * (iI y - iI my)
          rw [ed, iI_lt ⟨by omega, by omega⟩ ⟨by omega, by omega⟩]
          omega, trivial⟩
        have eq1 : pw (fun j => iI (raH w mx my rd b H j)) (A 0) (k0 + n) = pw (fun j => iI (raH w mx my rd b H j)) (A 0) (k0 + n + 1) := by
          funext j
          unfold pw
          by_cases h1 : j < k0 + n
          · rw [if_pos h1, if_pos (by omega)]
          · rw [if_neg h1]
            by_cases h2 : j = k0 + n
            · subst h2; rw [if_pos (by omega)]; show _ = iI (raH w mx my rd b H (k0 + n)); rw [hra, e0]
            · rw [if_neg (by omega)]
        have ec : cnt (fun j => decide (raH w mx my rd b H j ≠ H j)) (k0 + n) = cnt (fun j => decide (raH w mx my rd b H j ≠ H j)) (k0 + n + 1) := by
          show _ = cnt _ (k0 + n) + (if decide (raH w mx my rd b H (k0 + n) ≠ H (k0 + n)) = true then 1 else 0)
          rw [if_neg (by simp [hra])]
          omega
        have s2 := r_tr hr s1
        rw [iI_1, eq1, ec] at s2
        exact ⟨_, _, _, _, _, ⟨rfl, rfl⟩, s2⟩
  have rows : ∀ n : Nat, (n : Int) ≤ h → ∃ (A1 : Nat → Nat → Int32) (c5 u8 u9 u10 u11 : Value), (A1 = wA A 0 (pw (fun j => iI (raH w mx my rd b H j)) (A 0) ((n : Int) * w).toNat) ∧ c5 = .int (iI (cnt (fun j => decide (raH w mx my rd b H j ≠ H j)) ((n : Int) * w).toNat))) ∧ mj_Rc m_Land_raise 0 0 1 (11, [.ref (mj_NE + 1), .int (iI mx), .int (iI my), .int (iI rd), .int (iI b), .int 0, .int (iI (rd * rd)), .int 0, mj_u, mj_u, mj_u, mj_u], [], Wd xs L A V Y, 0, 0) (11, [.ref (mj_NE + 1), .int (iI mx), .int (iI my), .int (iI rd), .int (iI b), c5, .int (iI (rd * rd)), .int (iI n), u8, u9, u10, u11], [], Wd xs L A1 V Y, 0, 0) := by
    intro n
    induction n with
    | zero => intro _; exact ⟨A, .int 0, mj_u, mj_u, mj_u, mj_u, ⟨by rw [show ((0 : Nat) : Int) * w = 0 by simp]; rw [show (0 : Int).toNat = 0 from rfl, pw_0, wA_id], by rw [show ((0 : Nat) : Int) * w = 0 by simp]; rfl⟩, r_rf⟩
    | succ n ih =>
      intro hn
      obtain ⟨A1, c5, u8, u9, u10, u11, hp, hr⟩ := ih (by omega)
      have hnw : 0 ≤ (n : Int) * w := Int.mul_nonneg (by omega) (by omega)
      have t1 := r_tr hr (r_to (g' := (23, [.ref (mj_NE + 1), .int (iI mx), .int (iI my), .int (iI rd), .int (iI b), c5, .int (iI (rd * rd)), .int (iI n), .int 0, u9, u10, u11], [], Wd xs L A1 V Y, 0, 0)) ok_Land_raise 23 [false] rfl ⟨br_ge h1 ⟨by omega, by omega⟩ ⟨by omega, by omega⟩ (by omega), trivial⟩)
      obtain ⟨A1, c5, u9, u10, u11, hp, hr2⟩ := row _ n ((n : Int) * w).toNat ⟨by omega, by omega⟩ (by omega) ⟨_, _, _, _, _, hp, t1⟩ w.toNat (by omega)
      have t2 := r_tr hr2 (r_to (g' := (11, [.ref (mj_NE + 1), .int (iI mx), .int (iI my), .int (iI rd), .int (iI b), c5, .int (iI (rd * rd)), .int (iI n + 1), .int (iI w.toNat), u9, u10, u11], [], Wd xs L A1 V Y, 0, 0)) ok_Land_raise 11 [true] rfl ⟨br_lt h0 ⟨by omega, by omega⟩ ⟨by omega, by omega⟩ (by omega), trivial⟩)
      rw [iI_1] at t2
      have e : (((n + 1 : Nat) : Int) * w).toNat = ((n : Int) * w).toNat + w.toNat := by
        rw [Int.natCast_add, Int.add_mul]
        omega
      rw [e]
      exact ⟨_, _, _, _, _, _, hp, t2⟩
  obtain ⟨A1, c5, u8, u9, u10, u11, hp, hr⟩ := rows h.toNat (by omega)
  have hwh : ((h.toNat : Nat) : Int) * w = w * h := by rw [Int.mul_comm]; congr 1; omega
  rw [hwh] at hp
  obtain ⟨rfl, rfl⟩ := hp
  have s0 : mj_Rc m_Land_raise 0 0 1 (0, [.ref (mj_NE + 1), .int (iI mx), .int (iI my), .int (iI rd), .int (iI b), mj_u, mj_u, mj_u, mj_u, mj_u, mj_u, mj_u], [], Wd xs L A V Y, 0, 0) (11, [.ref (mj_NE + 1), .int (iI mx), .int (iI my), .int (iI rd), .int (iI b), .int 0, .int (iI rd * iI rd), .int 0, mj_u, mj_u, mj_u, mj_u], [], Wd xs L A V Y, 0, 0) := r_to ok_Land_raise 11 [] rfl trivial
  rw [iI_mul] at s0
  exact ct_of ok_Land_raise rfl (r_tr s0 (r_tr hr (r_to ok_Land_raise 9999 [true] rfl ⟨br_lt h1 ⟨by omega, by omega⟩ ⟨by omega, by omega⟩ (by omega), trivial⟩))) rfl rfl rfl rfl rfl
end LAND6
