/-! THE LAW: back over the way -/
theorem sx_8 : ∀ d : Nat, d < 8 → (sxI d).natAbs ≤ 1 ∧ (syI d).natAbs ≤ 1 ∧ (sxI d).natAbs + (syI d).natAbs = (if d % 2 = 1 then 2 else 1) := by decide
theorem nb_xy {w h : Int} {n v d u : Nat} (hw : 2 ≤ w ∧ w ≤ 16) (hn : nbi w h v d = (u : Int)) : (u : Int).tmod w = (v : Int).tmod w + sxI d ∧ (u : Int).tdiv w = (v : Int).tdiv w + syI d := by
  rw [Int.tmod_eq_emod_of_nonneg (by omega), Int.tdiv_eq_ediv_of_nonneg (by omega), Int.tmod_eq_emod_of_nonneg (by omega), Int.tdiv_eq_ediv_of_nonneg (by omega)]
  unfold nbi nb at hn
  split at hn
  · rename_i q
    rw [← hn]
    exact num_xy (by omega) ⟨q.1, q.2.1⟩
  · omega
section WAY
variable {xs : Nat → Int32} {L : Nat} {w h : Int} {n : Nat} {H : Nat → Int} {b : Int} {hp : mj_H} {sm : Int64} {K : Nat} {lev T : Nat → Int} {x y p q t : Int} {u v d k : Nat}
set_option maxHeartbeats 2000000 in
theorem i_step (hx : 0 ≤ x ∧ x < w) (hy : 0 ≤ y ∧ y < h) (hp0 : 0 ≤ p ∧ p < w) (hq : 0 ≤ q ∧ q < h) (hT : WyOK w h n (y * w + x).toNat H T) (hk : k ≤ 1000) (hv : v < n) (hu : u < n) (hd : d < 8) (hn : nbi w h v d = (u : Int)) (hg : gbF w h (y * w + x).toNat H T (q * w + p).toNat k = (u : Int)) (hW : Wst xs L w h n H b hp) : ∃ hp', Wst xs L w h n H b hp' ∧ RL (929, [.ref 3, .ref (mj_NE + 0), .int (iI w), .int (iI h), .long sm, mj_u, mj_u, mj_u, mj_u, mj_u, mj_u, .int (iI x), .int (iI y), .int (iI p), .int (iI q), .int (iI (v : Int)), .int (iI t), .int (iI (k : Int)), mj_u, mj_u, mj_u], [], hp, 32, 7983) (929, [.ref 3, .ref (mj_NE + 0), .int (iI w), .int (iI h), .long sm, mj_u, mj_u, mj_u, mj_u, mj_u, mj_u, .int (iI x), .int (iI y), .int (iI p), .int (iI q), .int (iI (u : Int)), .int (iI (t + wg H u d v)), .int (iI ((k : Int) + 1)), mj_u, mj_u, mj_u], [], hp', 32, 7983) := by
  obtain ⟨hnw, hw, hh, hH2⟩ := hW.ld
  have wh := wh_bd hw hh
  obtain ⟨ux, uy, ue⟩ := tm_xy hw hnw hu
  obtain ⟨vx, vy, ve⟩ := tm_xy hw hnw hv
  obtain ⟨n1, n2⟩ := nb_xy (n := n) hw hn
  obtain ⟨d1, d2, d3⟩ := sx_8 d hd
  have e1 : (u : Int).tmod w - (v : Int).tmod w = sxI d := by omega
  have e2 : (u : Int).tdiv w - (v : Int).tdiv w = syI d := by omega
  have bu := hH2 u hu
  have bv := hH2 v hv
  have s1 := r_toB (RC := 121) (RS := 8689) (dd := 8) (g := (929, [.ref 3, .ref (mj_NE + 0), .int (iI w), .int (iI h), .long sm, mj_u, mj_u, mj_u, mj_u, mj_u, mj_u, .int (iI x), .int (iI y), .int (iI p), .int (iI q), .int (iI (v : Int)), .int (iI t), .int (iI (k : Int)), mj_u, mj_u, mj_u], [], hp, 32, 7983)) (g' := (940, [.ref 3, .ref (mj_NE + 0), .int (iI w), .int (iI h), .long sm, mj_u, mj_u, mj_u, mj_u, mj_u, mj_u, .int (iI x), .int (iI y), .int (iI p), .int (iI q), .int (iI (v : Int)), .int (iI t), .int (iI (k : Int)), mj_u, mj_u, mj_u], [.int (iI (k : Int)), .int (iI q), .int (iI p), .int (iI y), .int (iI x), .ref (mj_NE + 0)], hp, 32, 7983)) ok_law 9999 [] rfl trivial
  obtain ⟨hp1, hW1, ct1⟩ := l_way (bk := k) hx hy hp0 hq (by omega) hT hW
  have s2 := r_tr s1 (r_VB ok_law ok_W_way se_W_way ct1 rfl rfl rfl (hW.z.rc rfl) rfl ⟨rfl, rfl, rfl⟩)
  rw [hg] at s2
  have s3 := r_tr s2 (r_toB (g' := (957, [.ref 3, .ref (mj_NE + 0), .int (iI w), .int (iI h), .long sm, mj_u, mj_u, mj_u, mj_u, mj_u, mj_u, .int (iI x), .int (iI y), .int (iI p), .int (iI q), .int (iI (v : Int)), .int (iI t), .int (iI (k : Int)), mj_u, mj_u, mj_u], [.int (iI (k : Int)), .int (iI q), .int (iI p), .int (iI y), .int (iI x), .ref (mj_NE + 0)], hp1, 32, 7983)) ok_law 9999 [false] rfl ⟨(show ¬ (iI (u : Int) < iI 0) from b_nlt ⟨by omega, by omega⟩ ⟨by omega, by omega⟩ (show 0 ≤ (u : Int) by omega)), trivial⟩)
  obtain ⟨hp2, hW2, ct2⟩ := l_way (bk := k) hx hy hp0 hq (by omega) hT hW1
  have s4 := r_tr s3 (r_VB ok_law ok_W_way se_W_way ct2 rfl rfl rfl (hW1.z.rc rfl) rfl ⟨rfl, rfl, rfl⟩)
  rw [hg] at s4
  have s5 := r_tr s4 (r_toB (g' := (971, [.ref 3, .ref (mj_NE + 0), .int (iI w), .int (iI h), .long sm, mj_u, mj_u, mj_u, mj_u, mj_u, mj_u, .int (iI x), .int (iI y), .int (iI p), .int (iI q), .int (iI (v : Int)), .int (iI t), .int (iI (k : Int)), .int (iI (u : Int)), mj_u, mj_u], [.int (((iI (u : Int)) - (iI (u : Int)) / (iI w) * (iI w)) - ((iI (v : Int)) - (iI (v : Int)) / (iI w) * (iI w)))], hp2, 32, 7983)) ok_law 9999 [] rfl ⟨iI_nz ⟨by omega, by omega⟩ (by omega), iI_nz ⟨by omega, by omega⟩ (by omega), trivial⟩)
  rw [iI_rem (a := (u : Int)) ⟨by omega, by omega⟩ ⟨by omega, by omega⟩, iI_rem (a := (v : Int)) ⟨by omega, by omega⟩ ⟨by omega, by omega⟩, iI_sub, e1] at s5
  have s6 := r_tr s5 (r_SB ok_law ok_Math_abs st_Math_abs (c_abs ⟨by omega, by omega⟩) rfl rfl rfl rfl ⟨rfl, rfl, rfl⟩)
  have s7 := r_tr s6 (r_toB (g' := (985, [.ref 3, .ref (mj_NE + 0), .int (iI w), .int (iI h), .long sm, mj_u, mj_u, mj_u, mj_u, mj_u, mj_u, .int (iI x), .int (iI y), .int (iI p), .int (iI q), .int (iI (v : Int)), .int (iI t), .int (iI (k : Int)), .int (iI (u : Int)), .int (iI ((sxI d).natAbs : Int)), mj_u], [.int (((iI (u : Int)) / (iI w)) - ((iI (v : Int)) / (iI w)))], hp2, 32, 7983)) ok_law 9999 [] rfl ⟨iI_nz ⟨by omega, by omega⟩ (by omega), iI_nz ⟨by omega, by omega⟩ (by omega), trivial⟩)
  rw [iI_div (a := (u : Int)) ⟨by omega, by omega⟩ ⟨by omega, by omega⟩, iI_div (a := (v : Int)) ⟨by omega, by omega⟩ ⟨by omega, by omega⟩, iI_sub, e2] at s7
  have s8 := r_tr s7 (r_SB ok_law ok_Math_abs st_Math_abs (c_abs ⟨by omega, by omega⟩) rfl rfl rfl rfl ⟨rfl, rfl, rfl⟩)
  by_cases c : d % 2 = 1
  · rw [if_pos c] at d3
    rw [show wg H u d v = 14 + ((H u - H v).natAbs : Int) by unfold wg; rw [if_pos c]]
    have s9 := r_tr s8 (r_toB (g' := (1039, [.ref 3, .ref (mj_NE + 0), .int (iI w), .int (iI h), .long sm, mj_u, mj_u, mj_u, mj_u, mj_u, mj_u, .int (iI x), .int (iI y), .int (iI p), .int (iI q), .int (iI (v : Int)), .int (iI t), .int (iI (k : Int)), .int (iI (u : Int)), .int (iI ((sxI d).natAbs : Int)), .int (iI ((syI d).natAbs : Int))], [.int ((iI (u : Int)) / (iI w)), .int ((iI (u : Int)) - (iI (u : Int)) / (iI w) * (iI w)), .ref (mj_NE + 0), .int (iI 14), .int (iI t)], hp2, 32, 7983)) ok_law 9999 [false, false, true, false] rfl ⟨(show ¬ (iI 1 < iI ((sxI d).natAbs : Int)) from b_nlt ⟨by omega, by omega⟩ ⟨by omega, by omega⟩ (show ((sxI d).natAbs : Int) ≤ 1 by omega)), (show ¬ (iI 1 < iI ((syI d).natAbs : Int)) from b_nlt ⟨by omega, by omega⟩ ⟨by omega, by omega⟩ (show ((syI d).natAbs : Int) ≤ 1 by omega)), by show ¬ ((iI ((sxI d).natAbs : Int)) + (iI ((syI d).natAbs : Int)) = iI 0); simp only [iI_add, iI_sub, iI_mul]; exact b_ne ⟨by omega, by omega⟩ ⟨by omega, by omega⟩ (show ¬ (((sxI d).natAbs : Int) + ((syI d).natAbs : Int) = 0) by omega), by show ¬ (¬ ((iI ((sxI d).natAbs : Int)) + (iI ((syI d).natAbs : Int)) = iI 2)); simp only [iI_add, iI_sub, iI_mul]; exact b_nne (show ((sxI d).natAbs : Int) + ((syI d).natAbs : Int) = 2 by omega), iI_nz ⟨by omega, by omega⟩ (by omega), iI_nz ⟨by omega, by omega⟩ (by omega), trivial⟩)
    rw [iI_rem (a := (u : Int)) ⟨by omega, by omega⟩ ⟨by omega, by omega⟩, iI_div (a := (u : Int)) ⟨by omega, by omega⟩ ⟨by omega, by omega⟩] at s9
    obtain ⟨hp3, hW3, ct3⟩ := l_height (x := (u : Int).tmod w) (y := (u : Int).tdiv w) ux uy hW2
    have s10 := r_tr s9 (r_VB ok_law ok_W_height se_W_height ct3 rfl rfl rfl (hW2.z.rc rfl) rfl ⟨rfl, rfl, rfl⟩)
    rw [ue] at s10
    have s11 := r_tr s10 (r_toB (g' := (1051, [.ref 3, .ref (mj_NE + 0), .int (iI w), .int (iI h), .long sm, mj_u, mj_u, mj_u, mj_u, mj_u, mj_u, .int (iI x), .int (iI y), .int (iI p), .int (iI q), .int (iI (v : Int)), .int (iI t), .int (iI (k : Int)), .int (iI (u : Int)), .int (iI ((sxI d).natAbs : Int)), .int (iI ((syI d).natAbs : Int))], [.int ((iI (v : Int)) / (iI w)), .int ((iI (v : Int)) - (iI (v : Int)) / (iI w) * (iI w)), .ref (mj_NE + 0), .int (iI (H u)), .int (iI 14), .int (iI t)], hp3, 32, 7983)) ok_law 9999 [] rfl ⟨iI_nz ⟨by omega, by omega⟩ (by omega), iI_nz ⟨by omega, by omega⟩ (by omega), trivial⟩)
    rw [iI_rem (a := (v : Int)) ⟨by omega, by omega⟩ ⟨by omega, by omega⟩, iI_div (a := (v : Int)) ⟨by omega, by omega⟩ ⟨by omega, by omega⟩] at s11
    obtain ⟨hp4, hW4, ct4⟩ := l_height (x := (v : Int).tmod w) (y := (v : Int).tdiv w) vx vy hW3
    have s12 := r_tr s11 (r_VB ok_law ok_W_height se_W_height ct4 rfl rfl rfl (hW3.z.rc rfl) rfl ⟨rfl, rfl, rfl⟩)
    rw [ve] at s12
    have s13 := r_tr s12 (r_toB (g' := (1055, [.ref 3, .ref (mj_NE + 0), .int (iI w), .int (iI h), .long sm, mj_u, mj_u, mj_u, mj_u, mj_u, mj_u, .int (iI x), .int (iI y), .int (iI p), .int (iI q), .int (iI (v : Int)), .int (iI t), .int (iI (k : Int)), .int (iI (u : Int)), .int (iI ((sxI d).natAbs : Int)), .int (iI ((syI d).natAbs : Int))], [.int ((iI (H u)) - (iI (H v))), .int (iI 14), .int (iI t)], hp4, 32, 7983)) ok_law 9999 [] rfl trivial)
    simp only [iI_add, iI_sub, iI_mul, iI_1] at s13
    have s14 := r_tr s13 (r_SB ok_law ok_Math_abs st_Math_abs (c_abs ⟨by omega, by omega⟩) rfl rfl rfl rfl ⟨rfl, rfl, rfl⟩)
    have s15 := r_tr s14 (r_toB (g' := (929, [.ref 3, .ref (mj_NE + 0), .int (iI w), .int (iI h), .long sm, mj_u, mj_u, mj_u, mj_u, mj_u, mj_u, .int (iI x), .int (iI y), .int (iI p), .int (iI q), .int (iI (u : Int)), .int ((iI t) + ((iI 14) + (iI ((H u - H v).natAbs : Int)))), .int ((iI (k : Int)) + 1), .int (iI (u : Int)), .int (iI ((sxI d).natAbs : Int)), .int (iI ((syI d).natAbs : Int))], [], hp4, 32, 7983)) ok_law 929 [] rfl trivial)
    simp only [iI_add, iI_sub, iI_mul, iI_1] at s15
    have s16 := r_tr s15 (r_fg [true, true, true, true, true, true, true, true, true, true, true, true, true, true, true, true, true, true, false, false, false])
    exact ⟨_, hW4, s16⟩
  · rw [if_neg c] at d3
    rw [show wg H u d v = 10 + ((H u - H v).natAbs : Int) by unfold wg; rw [if_neg c]]
    have s9 := r_tr s8 (r_toB (g' := (1039, [.ref 3, .ref (mj_NE + 0), .int (iI w), .int (iI h), .long sm, mj_u, mj_u, mj_u, mj_u, mj_u, mj_u, .int (iI x), .int (iI y), .int (iI p), .int (iI q), .int (iI (v : Int)), .int (iI t), .int (iI (k : Int)), .int (iI (u : Int)), .int (iI ((sxI d).natAbs : Int)), .int (iI ((syI d).natAbs : Int))], [.int ((iI (u : Int)) / (iI w)), .int ((iI (u : Int)) - (iI (u : Int)) / (iI w) * (iI w)), .ref (mj_NE + 0), .int (iI 10), .int (iI t)], hp2, 32, 7983)) ok_law 9999 [false, false, true, true] rfl ⟨(show ¬ (iI 1 < iI ((sxI d).natAbs : Int)) from b_nlt ⟨by omega, by omega⟩ ⟨by omega, by omega⟩ (show ((sxI d).natAbs : Int) ≤ 1 by omega)), (show ¬ (iI 1 < iI ((syI d).natAbs : Int)) from b_nlt ⟨by omega, by omega⟩ ⟨by omega, by omega⟩ (show ((syI d).natAbs : Int) ≤ 1 by omega)), by show ¬ ((iI ((sxI d).natAbs : Int)) + (iI ((syI d).natAbs : Int)) = iI 0); simp only [iI_add, iI_sub, iI_mul]; exact b_ne ⟨by omega, by omega⟩ ⟨by omega, by omega⟩ (show ¬ (((sxI d).natAbs : Int) + ((syI d).natAbs : Int) = 0) by omega), by show ¬ ((iI ((sxI d).natAbs : Int)) + (iI ((syI d).natAbs : Int)) = iI 2); simp only [iI_add, iI_sub, iI_mul]; exact b_ne ⟨by omega, by omega⟩ ⟨by omega, by omega⟩ (show ¬ (((sxI d).natAbs : Int) + ((syI d).natAbs : Int) = 2) by omega), iI_nz ⟨by omega, by omega⟩ (by omega), iI_nz ⟨by omega, by omega⟩ (by omega), trivial⟩)
    rw [iI_rem (a := (u : Int)) ⟨by omega, by omega⟩ ⟨by omega, by omega⟩, iI_div (a := (u : Int)) ⟨by omega, by omega⟩ ⟨by omega, by omega⟩] at s9
    obtain ⟨hp3, hW3, ct3⟩ := l_height (x := (u : Int).tmod w) (y := (u : Int).tdiv w) ux uy hW2
    have s10 := r_tr s9 (r_VB ok_law ok_W_height se_W_height ct3 rfl rfl rfl (hW2.z.rc rfl) rfl ⟨rfl, rfl, rfl⟩)
    rw [ue] at s10
    have s11 := r_tr s10 (r_toB (g' := (1051, [.ref 3, .ref (mj_NE + 0), .int (iI w), .int (iI h), .long sm, mj_u, mj_u, mj_u, mj_u, mj_u, mj_u, .int (iI x), .int (iI y), .int (iI p), .int (iI q), .int (iI (v : Int)), .int (iI t), .int (iI (k : Int)), .int (iI (u : Int)), .int (iI ((sxI d).natAbs : Int)), .int (iI ((syI d).natAbs : Int))], [.int ((iI (v : Int)) / (iI w)), .int ((iI (v : Int)) - (iI (v : Int)) / (iI w) * (iI w)), .ref (mj_NE + 0), .int (iI (H u)), .int (iI 10), .int (iI t)], hp3, 32, 7983)) ok_law 9999 [] rfl ⟨iI_nz ⟨by omega, by omega⟩ (by omega), iI_nz ⟨by omega, by omega⟩ (by omega), trivial⟩)
    rw [iI_rem (a := (v : Int)) ⟨by omega, by omega⟩ ⟨by omega, by omega⟩, iI_div (a := (v : Int)) ⟨by omega, by omega⟩ ⟨by omega, by omega⟩] at s11
    obtain ⟨hp4, hW4, ct4⟩ := l_height (x := (v : Int).tmod w) (y := (v : Int).tdiv w) vx vy hW3
    have s12 := r_tr s11 (r_VB ok_law ok_W_height se_W_height ct4 rfl rfl rfl (hW3.z.rc rfl) rfl ⟨rfl, rfl, rfl⟩)
    rw [ve] at s12
    have s13 := r_tr s12 (r_toB (g' := (1055, [.ref 3, .ref (mj_NE + 0), .int (iI w), .int (iI h), .long sm, mj_u, mj_u, mj_u, mj_u, mj_u, mj_u, .int (iI x), .int (iI y), .int (iI p), .int (iI q), .int (iI (v : Int)), .int (iI t), .int (iI (k : Int)), .int (iI (u : Int)), .int (iI ((sxI d).natAbs : Int)), .int (iI ((syI d).natAbs : Int))], [.int ((iI (H u)) - (iI (H v))), .int (iI 10), .int (iI t)], hp4, 32, 7983)) ok_law 9999 [] rfl trivial)
    simp only [iI_add, iI_sub, iI_mul, iI_1] at s13
    have s14 := r_tr s13 (r_SB ok_law ok_Math_abs st_Math_abs (c_abs ⟨by omega, by omega⟩) rfl rfl rfl rfl ⟨rfl, rfl, rfl⟩)
    have s15 := r_tr s14 (r_toB (g' := (929, [.ref 3, .ref (mj_NE + 0), .int (iI w), .int (iI h), .long sm, mj_u, mj_u, mj_u, mj_u, mj_u, mj_u, .int (iI x), .int (iI y), .int (iI p), .int (iI q), .int (iI (u : Int)), .int ((iI t) + ((iI 10) + (iI ((H u - H v).natAbs : Int)))), .int ((iI (k : Int)) + 1), .int (iI (u : Int)), .int (iI ((sxI d).natAbs : Int)), .int (iI ((syI d).natAbs : Int))], [], hp4, 32, 7983)) ok_law 929 [] rfl trivial)
    simp only [iI_add, iI_sub, iI_mul, iI_1] at s15
    have s16 := r_tr s15 (r_fg [true, true, true, true, true, true, true, true, true, true, true, true, true, true, true, true, true, true, false, false, false])
    exact ⟨_, hW4, s16⟩
theorem i_loop (hn2 : n ≤ 256) (hx : 0 ≤ x ∧ x < w) (hy : 0 ≤ y ∧ y < h) (hp0 : 0 ≤ p ∧ p < w) (hq : 0 ≤ q ∧ q < h) (hT : WyOK w h n (y * w + x).toNat H T) : ∀ (r k v : Nat) (t : Int) (hp : mj_H), k + r = n → v < n → gbF w h (y * w + x).toNat H T (q * w + p).toNat k = (v : Int) → t = T (q * w + p).toNat - T v → Wst xs L w h n H b hp → ∃ hp', Wst xs L w h n H b hp' ∧ RL (929, [.ref 3, .ref (mj_NE + 0), .int (iI w), .int (iI h), .long sm, mj_u, mj_u, mj_u, mj_u, mj_u, mj_u, .int (iI x), .int (iI y), .int (iI p), .int (iI q), .int (iI (v : Int)), .int (iI t), .int (iI ((k + 1 : Nat) : Int)), mj_u, mj_u, mj_u], [], hp, 32, 7983) (1072, [.ref 3, .ref (mj_NE + 0), .int (iI w), .int (iI h), .long sm, mj_u, mj_u, mj_u, mj_u, mj_u, mj_u, .int (iI x), .int (iI y), .int (iI p), .int (iI q), .int (iI ((y * w + x).toNat : Int)), .int (iI (T (q * w + p).toNat)), mj_u, mj_u, mj_u, mj_u], [], hp', 32, 7983) := by
  intro r
  induction r with
  | zero =>
    intro k v t hp hk hv hg ht hW
    obtain ⟨hnw, hw, hh, hH2⟩ := hW.ld
    have n2 := num_bd hw hh hp0 hq
    have := gbF_end (st := (y * w + x).toNat) (e := (q * w + p).toNat) (H := H) (T := T) hw hh hnw (by omega)
    rw [show n = k by omega, hg] at this
    omega
  | succ r ih =>
    intro k v t hp hk hv hg ht hW
    obtain ⟨hnw, hw, hh, hH2⟩ := hW.ld
    have n2 := num_bd hw hh hp0 hq
    have gb := gbF_bd (w := w) (h := h) (st := (y * w + x).toNat) (e := (q * w + p).toNat) (H := H) (T := T) hw hh (by omega) (k + 1)
    by_cases hneg : gbF w h (y * w + x).toNat H T (q * w + p).toNat (k + 1) < 0
    · have hvs := wy_stop hw hh hnw hT hv hg hneg
      have t0 := hT.1
      have e0 : t = T (q * w + p).toNat := by rw [ht, hvs, t0]; omega
      have s1 := r_toB (RC := 121) (RS := 8689) (dd := 8) (g := (929, [.ref 3, .ref (mj_NE + 0), .int (iI w), .int (iI h), .long sm, mj_u, mj_u, mj_u, mj_u, mj_u, mj_u, .int (iI x), .int (iI y), .int (iI p), .int (iI q), .int (iI (v : Int)), .int (iI t), .int (iI ((k + 1 : Nat) : Int)), mj_u, mj_u, mj_u], [], hp, 32, 7983)) (g' := (940, [.ref 3, .ref (mj_NE + 0), .int (iI w), .int (iI h), .long sm, mj_u, mj_u, mj_u, mj_u, mj_u, mj_u, .int (iI x), .int (iI y), .int (iI p), .int (iI q), .int (iI (v : Int)), .int (iI t), .int (iI ((k + 1 : Nat) : Int)), mj_u, mj_u, mj_u], [.int (iI ((k + 1 : Nat) : Int)), .int (iI q), .int (iI p), .int (iI y), .int (iI x), .ref (mj_NE + 0)], hp, 32, 7983)) ok_law 9999 [] rfl trivial
      obtain ⟨hp1, hW1, ct1⟩ := l_way (bk := (k + 1)) hx hy hp0 hq (by omega) hT hW
      have s2 := r_tr s1 (r_VB ok_law ok_W_way se_W_way ct1 rfl rfl rfl (hW.z.rc rfl) rfl ⟨rfl, rfl, rfl⟩)
      have s3 := r_tr s2 (r_toB (g' := (1072, [.ref 3, .ref (mj_NE + 0), .int (iI w), .int (iI h), .long sm, mj_u, mj_u, mj_u, mj_u, mj_u, mj_u, .int (iI x), .int (iI y), .int (iI p), .int (iI q), .int (iI (v : Int)), .int (iI t), .int (iI ((k + 1 : Nat) : Int)), mj_u, mj_u, mj_u], [], hp1, 32, 7983)) ok_law 1072 [true] rfl ⟨(show iI (gbF w h (y * w + x).toNat H T (q * w + p).toNat (k + 1)) < iI 0 from b_lt ⟨by omega, by omega⟩ ⟨by omega, by omega⟩ (show gbF w h (y * w + x).toNat H T (q * w + p).toNat (k + 1) < 0 by omega)), trivial⟩)
      have s4 := r_tr s3 (r_fg [true, true, true, true, true, true, true, true, true, true, true, true, true, true, true, true, true, false, true, true, true])
      rw [hvs, e0] at s4
      rw [hvs, e0]
      exact ⟨_, hW1, s4⟩
    · have hne : v ≠ (y * w + x).toNat := fun z => by
        have e : gbF w h (y * w + x).toNat H T (q * w + p).toNat (k + 1) = if gbF w h (y * w + x).toNat H T (q * w + p).toNat k < 0 then gbF w h (y * w + x).toNat H T (q * w + p).toNat k else if gbF w h (y * w + x).toNat H T (q * w + p).toNat k = ((y * w + x).toNat : Nat) then -1 else faF w h H T (gbF w h (y * w + x).toNat H T (q * w + p).toNat k).toNat 8 := rfl
        rw [hg, if_neg (by omega), if_pos (by rw [z])] at e
        omega
      obtain ⟨d, u, hd, hu, hn, hg2, hs⟩ := wy_next hw hh hnw hT hv hg hne
      obtain ⟨hp1, W1, s1⟩ := i_step (sm := sm) (t := t) hx hy hp0 hq hT (by omega) hv hu hd hn hg2 hW
      obtain ⟨hp2, W2, s2⟩ := ih (k + 1) u (t + wg H u d v) hp1 (by omega) hu hg2 (by omega) W1
      exact ⟨hp2, W2, r_tr s1 s2⟩
set_option maxHeartbeats 2000000 in
theorem i_all (hx : 0 ≤ x ∧ x < w) (hy : 0 ≤ y ∧ y < h) (hp0 : 0 ≤ p ∧ p < w) (hq : 0 ≤ q ∧ q < h) (hT : WyOK w h n (y * w + x).toNat H T) (hW : Wst xs L w h n H b hp) : ∃ hp', Wst xs L w h n H b hp' ∧ RL (894, [.ref 3, .ref (mj_NE + 0), .int (iI w), .int (iI h), .long sm, mj_u, mj_u, mj_u, mj_u, mj_u, mj_u, .int (iI x), .int (iI y), .int (iI p), .int (iI q), mj_u, mj_u, mj_u, mj_u, mj_u, mj_u], [], hp, 32, 7983) (1103, [.ref 3, .ref (mj_NE + 0), .int (iI w), .int (iI h), .long sm, mj_u, mj_u, mj_u, mj_u, mj_u, mj_u, mj_u, mj_u, mj_u, mj_u, mj_u, mj_u, mj_u, mj_u, mj_u, mj_u], [], hp', 32, 7983) := by
  obtain ⟨hnw, hw, hh, hH2⟩ := hW.ld
  have wh := wh_bd hw hh
  have n1 := num_bd hw hh hx hy
  have n2 := num_bd hw hh hp0 hq
  have s1 := r_toB (RC := 121) (RS := 8689) (dd := 8) (g := (894, [.ref 3, .ref (mj_NE + 0), .int (iI w), .int (iI h), .long sm, mj_u, mj_u, mj_u, mj_u, mj_u, mj_u, .int (iI x), .int (iI y), .int (iI p), .int (iI q), mj_u, mj_u, mj_u, mj_u, mj_u, mj_u], [], hp, 32, 7983)) (g' := (904, [.ref 3, .ref (mj_NE + 0), .int (iI w), .int (iI h), .long sm, mj_u, mj_u, mj_u, mj_u, mj_u, mj_u, .int (iI x), .int (iI y), .int (iI p), .int (iI q), mj_u, mj_u, mj_u, mj_u, mj_u, mj_u], [.int (iI 0), .int (iI q), .int (iI p), .int (iI y), .int (iI x), .ref (mj_NE + 0)], hp, 32, 7983)) ok_law 9999 [] rfl trivial
  obtain ⟨hp1, hW1, ct1⟩ := l_way (bk := 0) hx hy hp0 hq (by omega) hT hW
  have s2 := r_tr s1 (r_VB ok_law ok_W_way se_W_way ct1 rfl rfl rfl (hW.z.rc rfl) rfl ⟨rfl, rfl, rfl⟩)
  rw [show gbF w h (y * w + x).toNat H T (q * w + p).toNat 0 = ((q * w + p).toNat : Int) from rfl] at s2
  have s3 := r_tr s2 (r_toB (g' := (929, [.ref 3, .ref (mj_NE + 0), .int (iI w), .int (iI h), .long sm, mj_u, mj_u, mj_u, mj_u, mj_u, mj_u, .int (iI x), .int (iI y), .int (iI p), .int (iI q), .int (iI ((q * w + p).toNat : Int)), .int (iI 0), .int (iI 1), mj_u, mj_u, mj_u], [], hp1, 32, 7983)) ok_law 929 [true] rfl ⟨by show iI ((q * w + p).toNat : Int) = ((iI q) * (iI w)) + (iI p); simp only [iI_add, iI_sub, iI_mul]; exact b_eq (show ((q * w + p).toNat : Int) = (q * w) + p by omega), trivial⟩)
  obtain ⟨hp9, W9, r9⟩ := i_loop (sm := sm) (by omega) hx hy hp0 hq hT n 0 (q * w + p).toNat 0 _ (by omega) (by omega) rfl (by omega) hW1
  have e9 := r_tr s3 r9
  have z1 := r_toB (RC := 121) (RS := 8689) (dd := 8) (g := (1072, [.ref 3, .ref (mj_NE + 0), .int (iI w), .int (iI h), .long sm, mj_u, mj_u, mj_u, mj_u, mj_u, mj_u, .int (iI x), .int (iI y), .int (iI p), .int (iI q), .int (iI ((y * w + x).toNat : Int)), .int (iI (T (q * w + p).toNat)), mj_u, mj_u, mj_u, mj_u], [], hp9, 32, 7983)) (g' := (1095, [.ref 3, .ref (mj_NE + 0), .int (iI w), .int (iI h), .long sm, mj_u, mj_u, mj_u, mj_u, mj_u, mj_u, .int (iI x), .int (iI y), .int (iI p), .int (iI q), .int (iI ((y * w + x).toNat : Int)), .int (iI (T (q * w + p).toNat)), mj_u, mj_u, mj_u, mj_u], [.int (iI q), .int (iI p), .int (iI y), .int (iI x), .ref (mj_NE + 0), .int (iI (T (q * w + p).toNat))], hp9, 32, 7983)) ok_law 9999 [false] rfl ⟨by show ¬ (¬ (iI ((y * w + x).toNat : Int) = ((iI y) * (iI w)) + (iI x))); simp only [iI_add, iI_sub, iI_mul]; exact b_nne (show ((y * w + x).toNat : Int) = (y * w) + x by omega), trivial⟩
  obtain ⟨hpf1, hWf1, ctf1⟩ := l_takes hx hy hp0 hq hT W9
  have z2 := r_tr z1 (r_VB ok_law ok_W_takes se_W_takes ctf1 rfl rfl rfl (W9.z.rc rfl) rfl ⟨rfl, rfl, rfl⟩)
  have z3 := r_tr z2 (r_toB (g' := (1103, [.ref 3, .ref (mj_NE + 0), .int (iI w), .int (iI h), .long sm, mj_u, mj_u, mj_u, mj_u, mj_u, mj_u, .int (iI x), .int (iI y), .int (iI p), .int (iI q), .int (iI ((y * w + x).toNat : Int)), .int (iI (T (q * w + p).toNat)), mj_u, mj_u, mj_u, mj_u], [], hpf1, 32, 7983)) ok_law 1103 [true] rfl ⟨(show iI (T (q * w + p).toNat) = iI (T (q * w + p).toNat) from b_eq (show T (q * w + p).toNat = T (q * w + p).toNat by omega)), trivial⟩)
  have z4 := r_tr z3 (r_fg [true, true, true, true, true, true, true, true, true, true, true, false, false, false, false, false, false, true, true, true, true])
  exact ⟨_, hWf1, r_tr e9 z4⟩
end WAY
