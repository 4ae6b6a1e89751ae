/-! THE LAW: its beginning -/
section LBEG
variable {xs : Nat → Int32} {L : Nat} {w h : Int} {n : Nat} {H : Nat → Int} {hp : mj_H}
theorem a_new : ∃ hp, Ws0 xs L 12 12 144 (fun _ => 0) hp ∧ RL (0, [.ref 3, mj_u, mj_u, mj_u, mj_u, mj_u, mj_u, mj_u, mj_u, mj_u, mj_u, mj_u, mj_u, mj_u, mj_u, mj_u, mj_u, mj_u, mj_u, mj_u, mj_u], [], mj_pre xs L [], 0, 0) (8, [.ref 3, .ref (mj_NE + 0), mj_u, mj_u, mj_u, mj_u, mj_u, mj_u, mj_u, mj_u, mj_u, mj_u, mj_u, mj_u, mj_u, mj_u, mj_u, mj_u, mj_u, mj_u, mj_u], [], hp, 32, 7983) := by
  obtain ⟨f, hf, hct⟩ := i_W (xs := xs) (L := L)
  have s1 : RL (0, [.ref 3, mj_u, mj_u, mj_u, mj_u, mj_u, mj_u, mj_u, mj_u, mj_u, mj_u, mj_u, mj_u, mj_u, mj_u, mj_u, mj_u, mj_u, mj_u, mj_u, mj_u], [], mj_pre xs L [], 0, 0) (4, [.ref 3, mj_u, mj_u, mj_u, mj_u, mj_u, mj_u, mj_u, mj_u, mj_u, mj_u, mj_u, mj_u, mj_u, mj_u, mj_u, mj_u, mj_u, mj_u, mj_u, mj_u], [.ref (mj_NE + 0), .ref (mj_NE + 0)], mj_pre xs L [.inr (8, [.null, .null, .null, .null, .null, .null, .null, .int 0])], 1, 8) := r_toB ok_law 9999 [] rfl ⟨⟨by decide, by decide⟩, trivial⟩
  have s2 := r_tr s1 (r_IB ok_law ok_W_init in_W_init hct rfl rfl rfl rfl ⟨rfl, rfl, rfl⟩)
  have s3 := r_tr s2 (r_toB (g' := (8, [.ref 3, .ref (mj_NE + 0), mj_u, mj_u, mj_u, mj_u, mj_u, mj_u, mj_u, mj_u, mj_u, mj_u, mj_u, mj_u, mj_u, mj_u, mj_u, mj_u, mj_u, mj_u, mj_u], [], (Wd xs L (wA (wA (fun _ _ => 0) 0 (fl (fun _ => 0) 0 256)) 2 f) (wV (wV (wV V00 0 (iI 12)) 1 (iI 12)) 2 (iI (12 * 12))) []), 32, 7983)) ok_law 8 [] rfl trivial)
  refine ⟨_, ⟨_, _, rfl, ⟨?_, ?_, ?_, by omega, ⟨by omega, by omega⟩, ⟨by omega, by omega⟩, ?_, fun j hj => ⟨?_, by show (0 : Int) ≤ 0; omega, by show (0 : Int) ≤ 999; omega⟩⟩⟩, s3⟩
  · rw [wV_n (by omega), wV_n (by omega), wV_s]
  · rw [wV_n (by omega), wV_s]
  · rw [wV_s]; rfl
  · rw [wA_s]; exact hf
  · rw [wA_n (by omega), wA_s]
    exact if_pos (by omega)
set_option maxHeartbeats 2000000 in
theorem a_land {w0 h0 : Int} {n0 : Nat} {H0 : Nat → Int} (hL : L ≤ 260) (ew : w = 2 + blF (clF xs L 0) 6) (eh : h = 2 + blF (clF xs L 1) 6) (hW : Ws0 xs L w0 h0 n0 H0 hp) : ∃ (hp' : mj_H) (H' : Nat → Int), Ws0 xs L w h (w * h).toNat H' hp' ∧ RL (8, [.ref 3, .ref (mj_NE + 0), mj_u, mj_u, mj_u, mj_u, mj_u, mj_u, mj_u, mj_u, mj_u, mj_u, mj_u, mj_u, mj_u, mj_u, mj_u, mj_u, mj_u, mj_u, mj_u], [], hp, 32, 7983) (121, [.ref 3, .ref (mj_NE + 0), .int (iI w), .int (iI h), .int (iI 0), mj_u, mj_u, mj_u, mj_u, mj_u, mj_u, mj_u, mj_u, mj_u, mj_u, mj_u, mj_u, mj_u, mj_u, mj_u, mj_u], [], hp', 32, 7983) := by
  have b0 := blF_bd (v := clF xs L 0) (k := 6) (by omega)
  have b1 := blF_bd (v := clF xs L 1) (k := 6) (by omega)
  have b4 := blF_bd (v := clF xs L 4) (k := 21) (by omega)
  have b5 := blF_bd (v := clF xs L 5) (k := 21) (by omega)
  have b6 := blF_bd (v := clF xs L 6) (k := 12) (by omega)
  have s1 := r_toB (RC := 121) (RS := 8689) (dd := 8) (g := (8, [.ref 3, .ref (mj_NE + 0), mj_u, mj_u, mj_u, mj_u, mj_u, mj_u, mj_u, mj_u, mj_u, mj_u, mj_u, mj_u, mj_u, mj_u, mj_u, mj_u, mj_u, mj_u, mj_u], [], hp, 32, 7983)) (g' := (11, [.ref 3, .ref (mj_NE + 0), mj_u, mj_u, mj_u, mj_u, mj_u, mj_u, mj_u, mj_u, mj_u, mj_u, mj_u, mj_u, mj_u, mj_u, mj_u, mj_u, mj_u, mj_u, mj_u], [.int (iI 0), .ref 3, .int (iI 2)], hp, 32, 7983)) ok_law 9999 [] rfl trivial
  have s2 := r_tr s1 (r_SB ok_law ok_WatershedMapLaw_cell st_WatershedMapLaw_cell (l_cell (k := 0) hL (by omega) hW) rfl rfl rfl rfl ⟨rfl, rfl, rfl⟩)
  have s3 := r_tr s2 (r_toB (g' := (16, [.ref 3, .ref (mj_NE + 0), mj_u, mj_u, mj_u, mj_u, mj_u, mj_u, mj_u, mj_u, mj_u, mj_u, mj_u, mj_u, mj_u, mj_u, mj_u, mj_u, mj_u, mj_u, mj_u], [.int (iI 6), .int (clF xs L 0), .int (iI 2)], hp, 32, 7983)) ok_law 9999 [] rfl trivial)
  have s4 := r_tr s3 (r_SB ok_law ok_WatershedMapLaw_below st_WatershedMapLaw_below (c_below (v := clF xs L 0) (k := 6) ⟨by omega, by omega⟩) rfl rfl rfl rfl ⟨rfl, rfl, rfl⟩)
  have s5 := r_tr s4 (r_toB (g' := (24, [.ref 3, .ref (mj_NE + 0), .int ((iI 2) + (iI (blF (clF xs L 0) 6))), mj_u, mj_u, mj_u, mj_u, mj_u, mj_u, mj_u, mj_u, mj_u, mj_u, mj_u, mj_u, mj_u, mj_u, mj_u, mj_u, mj_u, mj_u], [.int (iI 1), .ref 3, .int (iI 2)], hp, 32, 7983)) ok_law 9999 [] rfl trivial)
  simp only [iI_add, iI_sub, iI_mul, iI_1] at s5
  rw [← ew] at s5
  have s6 := r_tr s5 (r_SB ok_law ok_WatershedMapLaw_cell st_WatershedMapLaw_cell (l_cell (k := 1) hL (by omega) hW) rfl rfl rfl rfl ⟨rfl, rfl, rfl⟩)
  have s7 := r_tr s6 (r_toB (g' := (29, [.ref 3, .ref (mj_NE + 0), .int (iI w), mj_u, mj_u, mj_u, mj_u, mj_u, mj_u, mj_u, mj_u, mj_u, mj_u, mj_u, mj_u, mj_u, mj_u, mj_u, mj_u, mj_u, mj_u], [.int (iI 6), .int (clF xs L 1), .int (iI 2)], hp, 32, 7983)) ok_law 9999 [] rfl trivial)
  have s8 := r_tr s7 (r_SB ok_law ok_WatershedMapLaw_below st_WatershedMapLaw_below (c_below (v := clF xs L 1) (k := 6) ⟨by omega, by omega⟩) rfl rfl rfl rfl ⟨rfl, rfl, rfl⟩)
  have s9 := r_tr s8 (r_toB (g' := (37, [.ref 3, .ref (mj_NE + 0), .int (iI w), .int ((iI 2) + (iI (blF (clF xs L 1) 6))), mj_u, mj_u, mj_u, mj_u, mj_u, mj_u, mj_u, mj_u, mj_u, mj_u, mj_u, mj_u, mj_u, mj_u, mj_u, mj_u, mj_u], [.int ((iI 2) + (iI (blF (clF xs L 1) 6))), .int (iI w), .ref (mj_NE + 0)], hp, 32, 7983)) ok_law 9999 [] rfl trivial)
  simp only [iI_add, iI_sub, iI_mul, iI_1] at s9
  rw [← eh] at s9
  obtain ⟨hp1, hW1, ct1⟩ := l_reset (p := w) (q := h) ⟨by omega, by omega⟩ ⟨by omega, by omega⟩ hW
  have s10 := r_tr s9 (r_VB ok_law ok_W_reset se_W_reset ct1 rfl rfl rfl (hW.rc rfl) rfl ⟨rfl, rfl, rfl⟩)
  have s11 := r_tr s10 (r_toB (g' := (51, [.ref 3, .ref (mj_NE + 0), .int (iI w), .int (iI h), mj_u, mj_u, mj_u, mj_u, mj_u, mj_u, mj_u, mj_u, mj_u, mj_u, mj_u, mj_u, mj_u, mj_u, mj_u, mj_u, mj_u], [.int (iI 2), .ref 3, .ref (mj_NE + 0)], hp1, 32, 7983)) ok_law 9999 [true] rfl ⟨(iI_mul w h).symm, trivial⟩)
  have s12 := r_tr s11 (r_SB ok_law ok_WatershedMapLaw_cell st_WatershedMapLaw_cell (l_cell (k := 2) hL (by omega) hW1) rfl rfl rfl rfl ⟨rfl, rfl, rfl⟩)
  have s13 := r_tr s12 (r_toB (g' := (55, [.ref 3, .ref (mj_NE + 0), .int (iI w), .int (iI h), mj_u, mj_u, mj_u, mj_u, mj_u, mj_u, mj_u, mj_u, mj_u, mj_u, mj_u, mj_u, mj_u, mj_u, mj_u, mj_u, mj_u], [.int (iI w), .int (clF xs L 2), .ref (mj_NE + 0)], hp1, 32, 7983)) ok_law 9999 [] rfl trivial)
  have s14 := r_tr s13 (r_SB ok_law ok_WatershedMapLaw_below st_WatershedMapLaw_below (c_below (v := clF xs L 2) (k := w) ⟨by omega, by omega⟩) rfl rfl rfl rfl ⟨rfl, rfl, rfl⟩)
  have s15 := r_tr s14 (r_toB (g' := (60, [.ref 3, .ref (mj_NE + 0), .int (iI w), .int (iI h), mj_u, mj_u, mj_u, mj_u, mj_u, mj_u, mj_u, mj_u, mj_u, mj_u, mj_u, mj_u, mj_u, mj_u, mj_u, mj_u, mj_u], [.int (iI 3), .ref 3, .int (iI (blF (clF xs L 2) w)), .ref (mj_NE + 0)], hp1, 32, 7983)) ok_law 9999 [] rfl trivial)
  have s16 := r_tr s15 (r_SB ok_law ok_WatershedMapLaw_cell st_WatershedMapLaw_cell (l_cell (k := 3) hL (by omega) hW1) rfl rfl rfl rfl ⟨rfl, rfl, rfl⟩)
  have s17 := r_tr s16 (r_toB (g' := (64, [.ref 3, .ref (mj_NE + 0), .int (iI w), .int (iI h), mj_u, mj_u, mj_u, mj_u, mj_u, mj_u, mj_u, mj_u, mj_u, mj_u, mj_u, mj_u, mj_u, mj_u, mj_u, mj_u, mj_u], [.int (iI h), .int (clF xs L 3), .int (iI (blF (clF xs L 2) w)), .ref (mj_NE + 0)], hp1, 32, 7983)) ok_law 9999 [] rfl trivial)
  have s18 := r_tr s17 (r_SB ok_law ok_WatershedMapLaw_below st_WatershedMapLaw_below (c_below (v := clF xs L 3) (k := h) ⟨by omega, by omega⟩) rfl rfl rfl rfl ⟨rfl, rfl, rfl⟩)
  have s19 := r_tr s18 (r_toB (g' := (72, [.ref 3, .ref (mj_NE + 0), .int (iI w), .int (iI h), mj_u, mj_u, mj_u, mj_u, mj_u, mj_u, mj_u, mj_u, mj_u, mj_u, mj_u, mj_u, mj_u, mj_u, mj_u, mj_u, mj_u], [.int (iI 500), .int (iI 8), .int (iI (blF (clF xs L 3) h)), .int (iI (blF (clF xs L 2) w)), .ref (mj_NE + 0)], hp1, 32, 7983)) ok_law 9999 [] rfl trivial)
  obtain ⟨hp2, H1, z1, hW2, ct2⟩ := l_hill (x := blF (clF xs L 2) w) (y := blF (clF xs L 3) h) (blF_bd (by omega)) (blF_bd (by omega)) hW1
  have s20 := r_tr s19 (r_VB ok_law ok_W_hill se_W_hill ct2 rfl rfl rfl (hW1.rc rfl) rfl ⟨rfl, rfl, rfl⟩)
  have s21 := r_tr s20 (r_toB (g' := (79, [.ref 3, .ref (mj_NE + 0), .int (iI w), .int (iI h), mj_u, mj_u, mj_u, mj_u, mj_u, mj_u, mj_u, mj_u, mj_u, mj_u, mj_u, mj_u, mj_u, mj_u, mj_u, mj_u, mj_u], [.int (iI 4), .ref 3, .ref (mj_NE + 0)], hp2, 32, 7983)) ok_law 9999 [] rfl trivial)
  have s22 := r_tr s21 (r_SB ok_law ok_WatershedMapLaw_cell st_WatershedMapLaw_cell (l_cell (k := 4) hL (by omega) hW2) rfl rfl rfl rfl ⟨rfl, rfl, rfl⟩)
  have s23 := r_tr s22 (r_toB (g' := (84, [.ref 3, .ref (mj_NE + 0), .int (iI w), .int (iI h), mj_u, mj_u, mj_u, mj_u, mj_u, mj_u, mj_u, mj_u, mj_u, mj_u, mj_u, mj_u, mj_u, mj_u, mj_u, mj_u, mj_u], [.int (iI 21), .int (clF xs L 4), .ref (mj_NE + 0)], hp2, 32, 7983)) ok_law 9999 [] rfl trivial)
  have s24 := r_tr s23 (r_SB ok_law ok_WatershedMapLaw_below st_WatershedMapLaw_below (c_below (v := clF xs L 4) (k := 21) ⟨by omega, by omega⟩) rfl rfl rfl rfl ⟨rfl, rfl, rfl⟩)
  have s25 := r_tr s24 (r_toB (g' := (92, [.ref 3, .ref (mj_NE + 0), .int (iI w), .int (iI h), mj_u, mj_u, mj_u, mj_u, mj_u, mj_u, mj_u, mj_u, mj_u, mj_u, mj_u, mj_u, mj_u, mj_u, mj_u, mj_u, mj_u], [.int (iI 5), .ref 3, .int ((iI (blF (clF xs L 4) 21)) - (iI 10)), .ref (mj_NE + 0)], hp2, 32, 7983)) ok_law 9999 [] rfl trivial)
  simp only [iI_add, iI_sub, iI_mul, iI_1] at s25
  have s26 := r_tr s25 (r_SB ok_law ok_WatershedMapLaw_cell st_WatershedMapLaw_cell (l_cell (k := 5) hL (by omega) hW2) rfl rfl rfl rfl ⟨rfl, rfl, rfl⟩)
  have s27 := r_tr s26 (r_toB (g' := (97, [.ref 3, .ref (mj_NE + 0), .int (iI w), .int (iI h), mj_u, mj_u, mj_u, mj_u, mj_u, mj_u, mj_u, mj_u, mj_u, mj_u, mj_u, mj_u, mj_u, mj_u, mj_u, mj_u, mj_u], [.int (iI 21), .int (clF xs L 5), .int (iI ((blF (clF xs L 4) 21) - 10)), .ref (mj_NE + 0)], hp2, 32, 7983)) ok_law 9999 [] rfl trivial)
  have s28 := r_tr s27 (r_SB ok_law ok_WatershedMapLaw_below st_WatershedMapLaw_below (c_below (v := clF xs L 5) (k := 21) ⟨by omega, by omega⟩) rfl rfl rfl rfl ⟨rfl, rfl, rfl⟩)
  have s29 := r_tr s28 (r_toB (g' := (106, [.ref 3, .ref (mj_NE + 0), .int (iI w), .int (iI h), mj_u, mj_u, mj_u, mj_u, mj_u, mj_u, mj_u, mj_u, mj_u, mj_u, mj_u, mj_u, mj_u, mj_u, mj_u, mj_u, mj_u], [.int (iI 6), .ref 3, .int ((iI (blF (clF xs L 5) 21)) - (iI 10)), .int (iI ((blF (clF xs L 4) 21) - 10)), .ref (mj_NE + 0)], hp2, 32, 7983)) ok_law 9999 [] rfl trivial)
  simp only [iI_add, iI_sub, iI_mul, iI_1] at s29
  have s30 := r_tr s29 (r_SB ok_law ok_WatershedMapLaw_cell st_WatershedMapLaw_cell (l_cell (k := 6) hL (by omega) hW2) rfl rfl rfl rfl ⟨rfl, rfl, rfl⟩)
  have s31 := r_tr s30 (r_toB (g' := (111, [.ref 3, .ref (mj_NE + 0), .int (iI w), .int (iI h), mj_u, mj_u, mj_u, mj_u, mj_u, mj_u, mj_u, mj_u, mj_u, mj_u, mj_u, mj_u, mj_u, mj_u, mj_u, mj_u, mj_u], [.int (iI 12), .int (clF xs L 6), .int (iI ((blF (clF xs L 5) 21) - 10)), .int (iI ((blF (clF xs L 4) 21) - 10)), .ref (mj_NE + 0)], hp2, 32, 7983)) ok_law 9999 [] rfl trivial)
  have s32 := r_tr s31 (r_SB ok_law ok_WatershedMapLaw_below st_WatershedMapLaw_below (c_below (v := clF xs L 6) (k := 12) ⟨by omega, by omega⟩) rfl rfl rfl rfl ⟨rfl, rfl, rfl⟩)
  obtain ⟨hp3, H2, z2, hW3, ct3⟩ := l_tilt (p := blF (clF xs L 4) 21 - 10) (q := blF (clF xs L 5) 21 - 10) (r := blF (clF xs L 6) 12) ⟨by omega, by omega⟩ ⟨by omega, by omega⟩ ⟨by omega, by omega⟩ hW2
  have s33 := r_tr s32 (r_VB ok_law ok_W_tilt se_W_tilt ct3 rfl rfl rfl (hW2.rc rfl) rfl ⟨rfl, rfl, rfl⟩)
  have s34 := r_tr s33 (r_toB (g' := (121, [.ref 3, .ref (mj_NE + 0), .int (iI w), .int (iI h), .int (iI 0), mj_u, mj_u, mj_u, mj_u, mj_u, mj_u, mj_u, mj_u, mj_u, mj_u, mj_u, mj_u, mj_u, mj_u, mj_u, mj_u], [], hp3, 32, 7983)) ok_law 121 [] rfl trivial)
  exact ⟨_, _, hW3, s34⟩
theorem a_set {k : Nat} (hL : L ≤ 260) (hk : k < 8) (hW : Ws0 xs L w h n H hp) : ∃ (hp' : mj_H) (H' : Nat → Int), Ws0 xs L w h n H' hp' ∧ RL (121, [.ref 3, .ref (mj_NE + 0), .int (iI w), .int (iI h), .int (iI (k : Int)), mj_u, mj_u, mj_u, mj_u, mj_u, mj_u, mj_u, mj_u, mj_u, mj_u, mj_u, mj_u, mj_u, mj_u, mj_u, mj_u], [], hp, 32, 7983) (121, [.ref 3, .ref (mj_NE + 0), .int (iI w), .int (iI h), .int (iI ((k : Int) + 1)), mj_u, mj_u, mj_u, mj_u, mj_u, mj_u, mj_u, mj_u, mj_u, mj_u, mj_u, mj_u, mj_u, mj_u, mj_u, mj_u], [], hp', 32, 7983) := by
  obtain ⟨hnw, hw, hh, hH2⟩ := hW.ld
  have s1 := r_toB (RC := 121) (RS := 8689) (dd := 8) (g := (121, [.ref 3, .ref (mj_NE + 0), .int (iI w), .int (iI h), .int (iI (k : Int)), mj_u, mj_u, mj_u, mj_u, mj_u, mj_u, mj_u, mj_u, mj_u, mj_u, mj_u, mj_u, mj_u, mj_u, mj_u, mj_u], [], hp, 32, 7983)) (g' := (135, [.ref 3, .ref (mj_NE + 0), .int (iI w), .int (iI h), .int (iI (k : Int)), mj_u, mj_u, mj_u, mj_u, mj_u, mj_u, mj_u, mj_u, mj_u, mj_u, mj_u, mj_u, mj_u, mj_u, mj_u, mj_u], [.int ((iI 7) + (iI (k : Int))), .ref 3, .ref (mj_NE + 0)], hp, 32, 7983)) ok_law 9999 [false] rfl ⟨(show ¬ (iI 8 ≤ iI (k : Int)) from b_nle ⟨by omega, by omega⟩ ⟨by omega, by omega⟩ (show (k : Int) < 8 by omega)), trivial⟩
  simp only [iI_add, iI_sub, iI_mul, iI_1] at s1
  rw [(show (7 : Int) + (k : Int) = ((7 + k : Nat) : Int) by omega)] at s1
  have s2 := r_tr s1 (r_SB ok_law ok_WatershedMapLaw_cell st_WatershedMapLaw_cell (l_cell (k := 7 + k) hL (by omega) hW) rfl rfl rfl rfl ⟨rfl, rfl, rfl⟩)
  have s3 := r_tr s2 (r_toB (g' := (139, [.ref 3, .ref (mj_NE + 0), .int (iI w), .int (iI h), .int (iI (k : Int)), mj_u, mj_u, mj_u, mj_u, mj_u, mj_u, mj_u, mj_u, mj_u, mj_u, mj_u, mj_u, mj_u, mj_u, mj_u, mj_u], [.int (iI w), .int (clF xs L (7 + k)), .ref (mj_NE + 0)], hp, 32, 7983)) ok_law 9999 [] rfl trivial)
  have s4 := r_tr s3 (r_SB ok_law ok_WatershedMapLaw_below st_WatershedMapLaw_below (c_below (v := clF xs L (7 + k)) (k := w) ⟨by omega, by omega⟩) rfl rfl rfl rfl ⟨rfl, rfl, rfl⟩)
  have s5 := r_tr s4 (r_toB (g' := (148, [.ref 3, .ref (mj_NE + 0), .int (iI w), .int (iI h), .int (iI (k : Int)), mj_u, mj_u, mj_u, mj_u, mj_u, mj_u, mj_u, mj_u, mj_u, mj_u, mj_u, mj_u, mj_u, mj_u, mj_u, mj_u], [.int ((iI 7) + (iI (k : Int))), .ref 3, .int (iI (blF (clF xs L (7 + k)) w)), .ref (mj_NE + 0)], hp, 32, 7983)) ok_law 9999 [] rfl trivial)
  simp only [iI_add, iI_sub, iI_mul, iI_1] at s5
  rw [(show (7 : Int) + (k : Int) = ((7 + k : Nat) : Int) by omega)] at s5
  have s6 := r_tr s5 (r_SB ok_law ok_WatershedMapLaw_cell st_WatershedMapLaw_cell (l_cell (k := 7 + k) hL (by omega) hW) rfl rfl rfl rfl ⟨rfl, rfl, rfl⟩)
  have s7 := r_tr s6 (r_toB (g' := (154, [.ref 3, .ref (mj_NE + 0), .int (iI w), .int (iI h), .int (iI (k : Int)), mj_u, mj_u, mj_u, mj_u, mj_u, mj_u, mj_u, mj_u, mj_u, mj_u, mj_u, mj_u, mj_u, mj_u, mj_u, mj_u], [.int (iI h), .int ((clF xs L (7 + k)) >>> (iI 3 &&& 31)), .int (iI (blF (clF xs L (7 + k)) w)), .ref (mj_NE + 0)], hp, 32, 7983)) ok_law 9999 [] rfl trivial)
  have s8 := r_tr s7 (r_SB ok_law ok_WatershedMapLaw_below st_WatershedMapLaw_below (c_below (v := (clF xs L (7 + k)) >>> (iI 3 &&& 31)) (k := h) ⟨by omega, by omega⟩) rfl rfl rfl rfl ⟨rfl, rfl, rfl⟩)
  have s9 := r_tr s8 (r_toB (g' := (163, [.ref 3, .ref (mj_NE + 0), .int (iI w), .int (iI h), .int (iI (k : Int)), mj_u, mj_u, mj_u, mj_u, mj_u, mj_u, mj_u, mj_u, mj_u, mj_u, mj_u, mj_u, mj_u, mj_u, mj_u, mj_u], [.int ((iI 7) + (iI (k : Int))), .ref 3, .int (iI (blF ((clF xs L (7 + k)) >>> (iI 3 &&& 31)) h)), .int (iI (blF (clF xs L (7 + k)) w)), .ref (mj_NE + 0)], hp, 32, 7983)) ok_law 9999 [] rfl trivial)
  simp only [iI_add, iI_sub, iI_mul, iI_1] at s9
  rw [(show (7 : Int) + (k : Int) = ((7 + k : Nat) : Int) by omega)] at s9
  have s10 := r_tr s9 (r_SB ok_law ok_WatershedMapLaw_cell st_WatershedMapLaw_cell (l_cell (k := 7 + k) hL (by omega) hW) rfl rfl rfl rfl ⟨rfl, rfl, rfl⟩)
  have s11 := r_tr s10 (r_toB (g' := (172, [.ref 3, .ref (mj_NE + 0), .int (iI w), .int (iI h), .int (iI (k : Int)), mj_u, mj_u, mj_u, mj_u, mj_u, mj_u, mj_u, mj_u, mj_u, mj_u, mj_u, mj_u, mj_u, mj_u, mj_u, mj_u], [.int (iI 1000), .int ((clF xs L (7 + k)) >>> (iI 6 &&& 31)), .int (iI (blF ((clF xs L (7 + k)) >>> (iI 3 &&& 31)) h)), .int (iI (blF (clF xs L (7 + k)) w)), .ref (mj_NE + 0)], hp, 32, 7983)) ok_law 9999 [] rfl trivial)
  have s12 := r_tr s11 (r_SB ok_law ok_WatershedMapLaw_below st_WatershedMapLaw_below (c_below (v := (clF xs L (7 + k)) >>> (iI 6 &&& 31)) (k := 1000) ⟨by omega, by omega⟩) rfl rfl rfl rfl ⟨rfl, rfl, rfl⟩)
  obtain ⟨hp1, H1, z1, hW1, ct1⟩ := l_set (x := blF (clF xs L (7 + k)) w) (y := blF ((clF xs L (7 + k)) >>> (iI 3 &&& 31)) h) (z := blF ((clF xs L (7 + k)) >>> (iI 6 &&& 31)) 1000) (blF_bd (by omega)) (blF_bd (by omega)) ⟨(blF_bd (by omega)).1, by have := (blF_bd (v := (clF xs L (7 + k)) >>> (iI 6 &&& 31)) (k := 1000) (by omega)).2; omega⟩ hW
  have s13 := r_tr s12 (r_VB ok_law ok_W_set se_W_set ct1 rfl rfl rfl (hW.rc rfl) rfl ⟨rfl, rfl, rfl⟩)
  have s14 := r_tr s13 (r_toB (g' := (121, [.ref 3, .ref (mj_NE + 0), .int (iI w), .int (iI h), .int ((iI (k : Int)) + 1), mj_u, mj_u, mj_u, mj_u, mj_u, mj_u, mj_u, mj_u, mj_u, mj_u, mj_u, mj_u, mj_u, mj_u, mj_u, mj_u], [], hp1, 32, 7983)) ok_law 121 [] rfl trivial)
  simp only [iI_add, iI_sub, iI_mul, iI_1] at s14
  exact ⟨_, _, hW1, s14⟩
theorem a_sets (hL : L ≤ 260) (hW : Ws0 xs L w h n H hp) : ∀ k : Nat, k ≤ 8 → ∃ (hp' : mj_H) (H' : Nat → Int), Ws0 xs L w h n H' hp' ∧ RL (121, [.ref 3, .ref (mj_NE + 0), .int (iI w), .int (iI h), .int (iI 0), mj_u, mj_u, mj_u, mj_u, mj_u, mj_u, mj_u, mj_u, mj_u, mj_u, mj_u, mj_u, mj_u, mj_u, mj_u, mj_u], [], hp, 32, 7983) (121, [.ref 3, .ref (mj_NE + 0), .int (iI w), .int (iI h), .int (iI (k : Int)), mj_u, mj_u, mj_u, mj_u, mj_u, mj_u, mj_u, mj_u, mj_u, mj_u, mj_u, mj_u, mj_u, mj_u, mj_u, mj_u], [], hp', 32, 7983) := by
  intro k
  induction k with
  | zero => intro _; exact ⟨hp, H, hW, r_rf⟩
  | succ k ih =>
    intro hk
    obtain ⟨hp1, H1, W1, s1⟩ := ih (by omega)
    obtain ⟨hp2, H2, W2, s2⟩ := a_set (k := k) hL (by omega) W1
    exact ⟨hp2, H2, W2, r_tr s1 s2⟩
theorem a_brook {K wn hn : Nat} {lev : Nat → Int} (hL : L ≤ 260) (hK : K = 512) (hh15 : h ≤ 15) (ew : w = (wn : Int)) (eh : h = (hn : Int)) (hLv : LvOK w h n H lev) (hW : Ws0 xs L w h n H hp) : ∃ hp', Wst xs L w h n H (1 + blF (clF xs L 8) 8) hp' ∧ RL (121, [.ref 3, .ref (mj_NE + 0), .int (iI w), .int (iI h), .int (iI 8), mj_u, mj_u, mj_u, mj_u, mj_u, mj_u, mj_u, mj_u, mj_u, mj_u, mj_u, mj_u, mj_u, mj_u, mj_u, mj_u], [], hp, 32, 7983) (209, [.ref 3, .ref (mj_NE + 0), .int (iI w), .int (iI h), .long (lI (digX K w h wn hn n H lev (1 + blF (clF xs L 8) 8))), mj_u, mj_u, mj_u, mj_u, mj_u, mj_u, mj_u, mj_u, mj_u, mj_u, mj_u, mj_u, mj_u, mj_u, mj_u, mj_u], [], hp', 32, 7983) := by
  obtain ⟨hnw, hw, hh, hH2⟩ := hW.ld
  have b8 := blF_bd (v := clF xs L 8) (k := 8) (by omega)
  have s1 := r_toB (RC := 121) (RS := 8689) (dd := 8) (g := (121, [.ref 3, .ref (mj_NE + 0), .int (iI w), .int (iI h), .int (iI 8), mj_u, mj_u, mj_u, mj_u, mj_u, mj_u, mj_u, mj_u, mj_u, mj_u, mj_u, mj_u, mj_u, mj_u, mj_u, mj_u], [], hp, 32, 7983)) (g' := (190, [.ref 3, .ref (mj_NE + 0), .int (iI w), .int (iI h), .int (iI 8), mj_u, mj_u, mj_u, mj_u, mj_u, mj_u, mj_u, mj_u, mj_u, mj_u, mj_u, mj_u, mj_u, mj_u, mj_u, mj_u], [.int (iI 8), .ref 3, .int (iI 1), .ref (mj_NE + 0)], hp, 32, 7983)) ok_law 9999 [true] rfl ⟨(show iI 8 ≤ iI 8 from b_le ⟨by omega, by omega⟩ ⟨by omega, by omega⟩ (show 8 ≤ 8 by omega)), trivial⟩
  have s2 := r_tr s1 (r_SB ok_law ok_WatershedMapLaw_cell st_WatershedMapLaw_cell (l_cell (k := 8) hL (by omega) hW) rfl rfl rfl rfl ⟨rfl, rfl, rfl⟩)
  have s3 := r_tr s2 (r_toB (g' := (195, [.ref 3, .ref (mj_NE + 0), .int (iI w), .int (iI h), .int (iI 8), mj_u, mj_u, mj_u, mj_u, mj_u, mj_u, mj_u, mj_u, mj_u, mj_u, mj_u, mj_u, mj_u, mj_u, mj_u, mj_u], [.int (iI 8), .int (clF xs L 8), .int (iI 1), .ref (mj_NE + 0)], hp, 32, 7983)) ok_law 9999 [] rfl trivial)
  have s4 := r_tr s3 (r_SB ok_law ok_WatershedMapLaw_below st_WatershedMapLaw_below (c_below (v := clF xs L 8) (k := 8) ⟨by omega, by omega⟩) rfl rfl rfl rfl ⟨rfl, rfl, rfl⟩)
  have s5 := r_tr s4 (r_toB (g' := (199, [.ref 3, .ref (mj_NE + 0), .int (iI w), .int (iI h), .int (iI 8), mj_u, mj_u, mj_u, mj_u, mj_u, mj_u, mj_u, mj_u, mj_u, mj_u, mj_u, mj_u, mj_u, mj_u, mj_u, mj_u], [.int ((iI 1) + (iI (blF (clF xs L 8) 8))), .ref (mj_NE + 0)], hp, 32, 7983)) ok_law 9999 [] rfl trivial)
  simp only [iI_add, iI_sub, iI_mul, iI_1] at s5
  obtain ⟨hp1, z1, hW1, ct1⟩ := l_setBrook (c := 1 + blF (clF xs L 8) 8) ⟨by omega, by omega⟩ hW
  have s6 := r_tr s5 (r_VB ok_law ok_W_setBrook se_W_setBrook ct1 rfl rfl rfl (hW.rc rfl) rfl ⟨rfl, rfl, rfl⟩)
  have s7 := r_tr s6 (r_toB (g' := (204, [.ref 3, .ref (mj_NE + 0), .int (iI w), .int (iI h), .int (iI 8), mj_u, mj_u, mj_u, mj_u, mj_u, mj_u, mj_u, mj_u, mj_u, mj_u, mj_u, mj_u, mj_u, mj_u, mj_u, mj_u], [.ref (mj_NE + 0)], hp1, 32, 7983)) ok_law 9999 [] rfl trivial)
  obtain ⟨hp2, hW2, ct2⟩ := l_digest ⟨by omega, by omega⟩ hK hh15 ew eh hLv hW1
  have s8 := r_tr s7 (r_VB ok_law ok_W_digest se_W_digest ct2 rfl rfl rfl (hW1.z.rc rfl) rfl ⟨rfl, rfl, rfl⟩)
  have s9 := r_tr s8 (r_toB (g' := (209, [.ref 3, .ref (mj_NE + 0), .int (iI w), .int (iI h), .long (lI (digX K w h wn hn n H lev (1 + blF (clF xs L 8) 8))), mj_u, mj_u, mj_u, mj_u, mj_u, mj_u, mj_u, mj_u, mj_u, mj_u, mj_u, mj_u, mj_u, mj_u, mj_u, mj_u], [], hp2, 32, 7983)) ok_law 209 [] rfl trivial)
  exact ⟨_, hW2, s9⟩
theorem z_lev (hW : Ws0 xs L w h n H hp) : ∃ lev : Nat → Int, LvOK w h n H lev := by
  obtain ⟨A, V, rfl, ⟨h0, h1, hV, hnw, hw, hh, hN, hH⟩⟩ := hW
  obtain ⟨A1, V1, lev, hl, -⟩ := c_findLevels (xs := xs) (L := L) (A := A) (V := V) (Y := []) hV hw hh hnw hN hH
  exact ⟨lev, hl⟩
/-- THE LAW from its entry to its end, where 1 is on the stack -/
theorem law_all (hL : L ≤ 260) : ∃ (hp' : mj_H) (L' : List Value), RL (0, [.ref 3, mj_u, mj_u, mj_u, mj_u, mj_u, mj_u, mj_u, mj_u, mj_u, mj_u, mj_u, mj_u, mj_u, mj_u, mj_u, mj_u, mj_u, mj_u, mj_u, mj_u], [], mj_pre xs L [], 0, 0) (1321, L', [.int (iI 1)], hp', 32, 7983) := by
  obtain ⟨K, hK⟩ : ∃ K : Nat, K = 512 := ⟨_, rfl⟩
  have b0 := blF_bd (v := clF xs L 0) (k := 6) (by omega)
  have b1 := blF_bd (v := clF xs L 1) (k := 6) (by omega)
  have b8 := blF_bd (v := clF xs L 8) (k := 8) (by omega)
  obtain ⟨w, ew⟩ : ∃ w : Int, w = 2 + blF (clF xs L 0) 6 := ⟨_, rfl⟩
  obtain ⟨h, eh⟩ : ∃ h : Int, h = 2 + blF (clF xs L 1) 6 := ⟨_, rfl⟩
  obtain ⟨wn, ewn⟩ : ∃ wn : Nat, w = (wn : Int) := ⟨w.toNat, by omega⟩
  obtain ⟨hn, ehn⟩ : ∃ hn : Nat, h = (hn : Int) := ⟨h.toNat, by omega⟩
  have hh15 : h ≤ 15 := by omega
  obtain ⟨hp1, W1, s1⟩ := a_new (xs := xs) (L := L)
  obtain ⟨hp2, H2, W2, s2⟩ := a_land hL ew eh W1
  obtain ⟨hp3, H, W3, s3⟩ := a_sets hL W2 8 (Nat.le_refl _)
  obtain ⟨lev, hLv⟩ := z_lev W3
  obtain ⟨hp4, W4, s4⟩ := a_brook (K := K) hL hK hh15 ewn ehn hLv W3
  have hb : 1 ≤ 1 + blF (clF xs L 8) 8 ∧ 1 + blF (clF xs L 8) 8 ≤ 100 := ⟨by omega, by omega⟩
  obtain ⟨hp5, W5, s5⟩ := e_all (sm := lI (digX K w h wn hn (w * h).toNat H lev (1 + blF (clF xs L 8) 8))) hK hb hLv W4
  obtain ⟨hp6, W6, s6⟩ := f_chk (sm := lI (digX K w h wn hn (w * h).toNat H lev (1 + blF (clF xs L 8) 8))) hK hb hLv W5
  obtain ⟨x, y, p, q, hx, hy, hp0, hq, s7⟩ := g_xy (sm := lI (digX K w h wn hn (w * h).toNat H lev (1 + blF (clF xs L 8) 8))) (lev := lev) hL W6
  obtain ⟨hnw, hw, hh, hH2⟩ := W6.ld
  have n1 := num_bd hw hh hx hy
  have n2 := num_bd hw hh hp0 hq
  obtain ⟨T, hT⟩ := l_wy (s := (y * w + x).toNat) (by omega) W6
  obtain ⟨T', hT2⟩ := l_wy (s := (q * w + p).toNat) (by omega) W6
  obtain ⟨hp8, W8, s8⟩ := h_chk (sm := lI (digX K w h wn hn (w * h).toNat H lev (1 + blF (clF xs L 8) 8))) hK hb hLv hx hy hp0 hq hT hT2 W6
  obtain ⟨hp9, W9, s9⟩ := i_all (sm := lI (digX K w h wn hn (w * h).toNat H lev (1 + blF (clF xs L 8) 8))) hx hy hp0 hq hT W8
  obtain ⟨hp10, W10, s10⟩ := j_all (sm := lI (digX K w h wn hn (w * h).toNat H lev (1 + blF (clF xs L 8) 8))) hK hh15 ewn ehn W9
  obtain ⟨hp11, L', s11⟩ := k_all hL hK hb hh15 ewn ehn hLv W10
  exact ⟨hp11, L', r_tr s1 (r_tr s2 (r_tr s3 (r_tr s4 (r_tr s5 (r_tr s6 (r_tr s7 (r_tr s8 (r_tr s9 (r_tr s10 s11)))))))))⟩
end LBEG
