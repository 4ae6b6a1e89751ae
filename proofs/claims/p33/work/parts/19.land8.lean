/-! Land: wearing, steepness where all is flat -/
def losH (b : Int) (H nx fw : Nat → Int) (i : Nat) : Int := if nx i < 0 then 0 else min ((b * fw i) / 10) (((H i - H (nx i).toNat).natAbs : Int) / 2)
def lsm (b : Int) (H nx fw : Nat → Int) : Nat → Int
  | 0 => 0
  | n + 1 => lsm b H nx fw n + losH b H nx fw n
section LAND8
variable {xs : Nat → Int32} {L : Nat} {A : Nat → Nat → Int32} {V : Nat → Int32} {Y : mj_H}
variable {w h : Int} {n : Nat} {H : Nat → Int}
set_option maxHeartbeats 1000000 in
theorem c_washAway {b : Int} {nx fw : Nat → Int} (hV : V 2 = iI n) (hn : n ≤ 256) (hH : Hts (A 0) n H) (hb0 : 0 ≤ b ∧ b ≤ 50) (hnx : ∀ i : Nat, i < n → A 4 i = iI (nx i) ∧ -1 ≤ nx i ∧ nx i < n) (hfw : ∀ i : Nat, i < n → A 5 i = iI (fw i) ∧ 0 ≤ fw i ∧ fw i ≤ 256) : mj_Ct m_Land_washAway [.ref (mj_NE + 1), .ref (mj_NE + 5), .int (iI b)] (Wd xs L A V Y) (some (.int (iI (lsm b H nx fw n)))) (Wd xs L (wA (wA A 1 (pw (fun j => iI (H j - losH b H nx fw j)) (A 1) n)) 0 (pw (fun j => iI (clH (H j - losH b H nx fw j))) (A 0) n)) V Y) 0 0 2 := by
  have hH2 : ∀ j, j < n → 0 ≤ H j ∧ H j ≤ 999 := fun j hj => (hH j hj).2
  have lb : ∀ i, i < n → 0 ≤ losH b H nx fw i ∧ losH b H nx fw i ≤ 500 := by
    intro i hi
    obtain ⟨-, x1, x2⟩ := hnx i hi
    obtain ⟨-, f1, f2⟩ := hfw i hi
    have k1 : 0 ≤ b * fw i := Int.mul_nonneg hb0.1 f1
    unfold losH
    split
    · omega
    · have := hH2 i hi
      have := hH2 (nx i).toNat (by omega)
      omega
  have sb : ∀ k : Nat, k ≤ n → 0 ≤ lsm b H nx fw k ∧ lsm b H nx fw k ≤ 500 * k := by
    intro k
    induction k with
    | zero => intro _; unfold lsm; omega
    | succ k ih => intro hk; have := ih (by omega); have := lb k (by omega); unfold lsm; omega
  have lp1 : ∀ k : Nat, k ≤ n → ∃ u4 u5 : Value, mj_Rc m_Land_washAway 0 0 2 (2, [.ref (mj_NE + 1), .ref (mj_NE + 5), .int (iI b), .int 0, mj_u, mj_u], [], Wd xs L A V Y, 0, 0) (2, [.ref (mj_NE + 1), .ref (mj_NE + 5), .int (iI b), .int (iI k), u4, u5], [], Wd xs L (wA A 1 (pw (fun j => iI (H j - losH b H nx fw j)) (A 1) k)) V Y, 0, 0) := by
    intro k
    induction k with
    | zero => intro _; rw [pw_0, wA_id]; exact ⟨_, _, r_rf⟩
    | succ k ih =>
      intro hk
      obtain ⟨u4, u5, hr⟩ := ih (by omega)
      obtain ⟨e0, b1, b2⟩ := hH k (by omega)
      obtain ⟨e4, x1, x2⟩ := hnx k (by omega)
      obtain ⟨e5, f1, f2⟩ := hfw k (by omega)
      have hl := lb k (by omega)
      have hc : (iI k).toNatClampNeg = k := cl_nat (by omega)
      have hin : vp_in (iI k) 256 := in_nat (by omega) (by omega)
      have cnd : ¬ (V 2 ≤ iI k) := br_ge hV ⟨by omega, by omega⟩ ⟨by omega, by omega⟩ (by omega)
      generalize hA1 : wA A 1 (pw (fun j => iI (H j - losH b H nx fw j)) (A 1) k) = A1 at hr
      have ha0 : A1 0 = A 0 := by rw [← hA1]; rfl
      have ha4 : A1 4 = A 4 := by rw [← hA1]; rfl
      have ha5 : A1 5 = A 5 := by rw [← hA1]; rfl
      have fin : ∀ z4 : Int32, mj_Rc m_Land_washAway 0 0 2 (50, [.ref (mj_NE + 1), .ref (mj_NE + 5), .int (iI b), .int (iI k), .int z4, u5], [.int (iI (losH b H nx fw k))], Wd xs L A1 V Y, 0, 0) (2, [.ref (mj_NE + 1), .ref (mj_NE + 5), .int (iI b), .int (iI (k + 1 : Nat)), .int z4, .int (iI (losH b H nx fw k))], [], Wd xs L (wA A 1 (pw (fun j => iI (H j - losH b H nx fw j)) (A 1) (k + 1))) V Y, 0, 0) := by
        intro z4
        have s2 : mj_Rc m_Land_washAway 0 0 2 (50, [.ref (mj_NE + 1), .ref (mj_NE + 5), .int (iI b), .int (iI k), .int z4, u5], [.int (iI (losH b H nx fw k))], Wd xs L A1 V Y, 0, 0) (2, [.ref (mj_NE + 1), .ref (mj_NE + 5), .int (iI b), .int (iI k + 1), .int z4, .int (iI (losH b H nx fw k))], [], Wd xs L (wA A1 1 (upd (A1 1) (iI k).toNatClampNeg (A1 0 (iI k).toNatClampNeg - iI (losH b H nx fw k)))) V Y, 0, 0) := r_to ok_Land_washAway 2 [] rfl ⟨hin, hin, trivial⟩
        rw [iI_1, hc, ha0, e0, iI_sub] at s2
        subst hA1
        rw [wA_s, wA_f, pw_s (by rfl)] at s2
        exact s2
      by_cases hneg : nx k < 0
      · have hl0 : losH b H nx fw k = 0 := if_pos hneg
        have s1 : mj_Rc m_Land_washAway 0 0 2 (2, [.ref (mj_NE + 1), .ref (mj_NE + 5), .int (iI b), .int (iI k), u4, u5], [], Wd xs L A1 V Y, 0, 0) (50, [.ref (mj_NE + 1), .ref (mj_NE + 5), .int (iI b), .int (iI k), .int (A1 4 (iI k).toNatClampNeg), u5], [.int (iI 0)], Wd xs L A1 V Y, 0, 0) := r_to ok_Land_washAway 50 [false, false] rfl ⟨cnd, hin, by
          show ¬ (iI 0 ≤ A1 4 (iI k).toNatClampNeg)
          rw [hc, ha4, e4, iI_le ⟨by omega, by omega⟩ ⟨by omega, by omega⟩]
          omega, trivial⟩
        rw [← hl0] at s1
        exact ⟨_, _, r_tr (r_tr hr s1) (fin _)⟩
      · obtain ⟨j, hj⟩ : ∃ j : Nat, (j : Int) = nx k := ⟨(nx k).toNat, by omega⟩
        obtain ⟨e6, c1, c2⟩ := hH j (by omega)
        have k1 : 0 ≤ b * fw k := Int.mul_nonneg hb0.1 f1
        have k2 : b * fw k ≤ 50 * fw k := Int.mul_le_mul_of_nonneg_right hb0.2 f1
        have s1 : mj_Rc m_Land_washAway 0 0 2 (2, [.ref (mj_NE + 1), .ref (mj_NE + 5), .int (iI b), .int (iI k), u4, u5], [], Wd xs L A1 V Y, 0, 0) (42, [.ref (mj_NE + 1), .ref (mj_NE + 5), .int (iI b), .int (iI k), .int (A1 4 (iI k).toNatClampNeg), u5], [.int (A1 4 (iI k).toNatClampNeg), .int (iI k), .ref (mj_NE + 1), .int (iI b * A1 5 (iI k).toNatClampNeg / iI 10)], Wd xs L A1 V Y, 0, 0) := r_to ok_Land_washAway 9999 [false, true] rfl ⟨cnd, hin, by
          show iI 0 ≤ A1 4 (iI k).toNatClampNeg
          rw [hc, ha4, e4, iI_le ⟨by omega, by omega⟩ ⟨by omega, by omega⟩]
          omega, hin, by show ¬ (iI 10 = iI 0); decide +kernel, trivial⟩
        rw [hc, ha4, ha5, e4, e5, ← hj, iI_mul, iI_div ⟨by omega, by omega⟩ ⟨by omega, by omega⟩, Int.tdiv_eq_ediv_of_nonneg (by omega)] at s1
        have s2 := r_tr (r_tr hr s1) (q_V ok_Land_washAway ok_Land_difference se_Land_difference (c_difference (i := (k : Int)) (j := (j : Int)) (b := H k) (c := H j) ⟨by omega, by omega⟩ ⟨by omega, by omega⟩ (by rw [ha0]; exact e0) (by rw [ha0]; exact e6) ⟨by omega, by omega⟩ ⟨by omega, by omega⟩) rfl rfl rfl rfl rfl ⟨rfl, rfl, rfl⟩)
        have s3 : mj_Rc m_Land_washAway 0 0 2 (45, [.ref (mj_NE + 1), .ref (mj_NE + 5), .int (iI b), .int (iI k), .int (iI j), u5], [.int (iI ((H k - H j).natAbs : Int)), .int (iI (b * fw k / 10))], Wd xs L A1 V Y, 0, 0) (47, [.ref (mj_NE + 1), .ref (mj_NE + 5), .int (iI b), .int (iI k), .int (iI j), u5], [.int (iI ((H k - H j).natAbs : Int) / iI 2), .int (iI (b * fw k / 10))], Wd xs L A1 V Y, 0, 0) := r_to ok_Land_washAway 9999 [] rfl ⟨by show ¬ (iI 2 = iI 0); decide +kernel, trivial⟩
        rw [iI_div ⟨by omega, by omega⟩ ⟨by omega, by omega⟩, Int.tdiv_eq_ediv_of_nonneg (by omega)] at s3
        have s4 := r_tr (r_tr s2 s3) (q_S ok_Land_washAway ok_Math_min st_Math_min (c_min ⟨by omega, by omega⟩ ⟨by omega, by omega⟩) rfl rfl rfl rfl ⟨rfl, rfl, rfl⟩)
        have hl1 : losH b H nx fw k = min (b * fw k / 10) (((H k - H j).natAbs : Int) / 2) := by unfold losH; rw [if_neg hneg, ← hj]; rfl
        rw [← hl1] at s4
        exact ⟨_, _, r_tr s4 (fin _)⟩
  obtain ⟨u4, u5, hr⟩ := lp1 n (Nat.le_refl _)
  generalize hA1 : wA A 1 (pw (fun j => iI (H j - losH b H nx fw j)) (A 1) n) = A1 at hr ⊢
  have ha0 : A1 0 = A 0 := by rw [← hA1]; rfl
  have ha1 : ∀ j, j < n → A1 1 j = iI (H j - losH b H nx fw j) := fun j hj => by rw [← hA1, wA_s, pw_lt hj]
  have t0 := r_tr hr (r_to (g' := (78, [.ref (mj_NE + 1), .ref (mj_NE + 5), .int (iI b), .int 0, .int 0, u5], [], Wd xs L A1 V Y, 0, 0)) ok_Land_washAway 78 [true] rfl ⟨br_lt hV ⟨by omega, by omega⟩ ⟨by omega, by omega⟩ (by omega), trivial⟩)
  have lp2 : ∀ k : Nat, k ≤ n → mj_Rc m_Land_washAway 0 0 2 (78, [.ref (mj_NE + 1), .ref (mj_NE + 5), .int (iI b), .int 0, .int 0, u5], [], Wd xs L A1 V Y, 0, 0) (78, [.ref (mj_NE + 1), .ref (mj_NE + 5), .int (iI b), .int (iI (lsm b H nx fw k)), .int (iI k), u5], [], Wd xs L (wA A1 0 (pw (fun j => iI (clH (H j - losH b H nx fw j))) (A 0) k)) V Y, 0, 0) := by
    intro k
    induction k with
    | zero => intro _; rw [pw_0, ← ha0, wA_id]; exact r_rf
    | succ k ih =>
      intro hk
      obtain ⟨e0, b1, b2⟩ := hH k (by omega)
      have hl := lb k (by omega)
      have hs := sb k (by omega)
      have hc : (iI k).toNatClampNeg = k := cl_nat (by omega)
      have hin : vp_in (iI k) 256 := in_nat (by omega) (by omega)
      have s1 : mj_Rc m_Land_washAway 0 0 2 (78, [.ref (mj_NE + 1), .ref (mj_NE + 5), .int (iI b), .int (iI (lsm b H nx fw k)), .int (iI k), u5], [], Wd xs L (wA A1 0 (pw (fun j => iI (clH (H j - losH b H nx fw j))) (A 0) k)) V Y, 0, 0) (98, [.ref (mj_NE + 1), .ref (mj_NE + 5), .int (iI b), .int (iI (lsm b H nx fw k)), .int (iI k), u5], [.int (A1 1 (iI k).toNatClampNeg), .int (iI k), .ref (mj_NE + 1), .int (iI (lsm b H nx fw k))], Wd xs L (wA A1 0 (pw (fun j => iI (clH (H j - losH b H nx fw j))) (A 0) k)) V Y, 0, 0) := r_to ok_Land_washAway 9999 [false] rfl ⟨br_ge hV ⟨by omega, by omega⟩ ⟨by omega, by omega⟩ (by omega), hin, trivial⟩
      rw [hc, ha1 k (by omega)] at s1
      have s2 := r_tr (r_tr (ih (by omega)) s1) (q_V ok_Land_washAway ok_Land_exchange se_Land_exchange (c_exchange (i := (k : Int)) ⟨by omega, by omega⟩ ⟨by omega, by omega⟩) rfl rfl rfl rfl rfl ⟨rfl, rfl, rfl⟩)
      rw [wA_s, wA_f, Int.toNat_natCast, pw_ge (Nat.lt_irrefl _), e0, pw_s (by rfl)] at s2
      have s3 := r_tr s2 (r_to (g' := (78, [.ref (mj_NE + 1), .ref (mj_NE + 5), .int (iI b), .int (iI (lsm b H nx fw k) + (iI (H k) - A1 1 (iI k).toNatClampNeg)), .int (iI k + 1), u5], [], Wd xs L (wA A1 0 (pw (fun j => iI (clH (H j - losH b H nx fw j))) (A 0) (k + 1))) V Y, 0, 0)) ok_Land_washAway 78 [] rfl ⟨hin, trivial⟩)
      have e9 : lsm b H nx fw (k + 1) = lsm b H nx fw k + losH b H nx fw k := rfl
      have e8 : lsm b H nx fw k + (H k - (H k - losH b H nx fw k)) = lsm b H nx fw (k + 1) := by omega
      rw [iI_1, hc, ha1 k (by omega), iI_sub, iI_add, e8] at s3
      exact s3
  exact ct_of ok_Land_washAway rfl (r_tr (r_to ok_Land_washAway 2 [] rfl trivial) (r_tr t0 (r_tr (lp2 n (Nat.le_refl _)) (r_to ok_Land_washAway 9999 [true] rfl ⟨br_lt hV ⟨by omega, by omega⟩ ⟨by omega, by omega⟩ (by omega), trivial⟩)))) rfl rfl rfl rfl rfl
theorem ddiv0 : vf_n64 (FP.ddiv (FP.i2d (iI 0)) (FP.i2d (iI 144))) := by
  unfold vf_n64
  decide +kernel
end LAND8
