/-! THE LAW: contours -/
section CTR
variable {xs : Nat → Int32} {L : Nat} {w h : Int} {n wn hn : Nat} {H : Nat → Int} {b : Int} {hp : mj_H} {sm : Int64} {K : Nat} {c : Int}
theorem l_ct0 (hK : K = 512) (hh15 : h ≤ 15) (ew : w = (wn : Int)) (eh : h = (hn : Int)) (hc : 0 ≤ c ∧ c ≤ 999) (hW : Wst xs L w h n H b hp) : ∃ hp', Wst xs L w h n H b hp' ∧ mj_Ct m_W_contour [.ref (mj_NE + 0), .int (iI c), .int (iI 0)] hp (some (.int (iI ((dwF K wn H c (hn - 1)).2.2.1)))) hp' 0 0 6 := l_contour (k := 0) hK hh15 ew eh hc ⟨by omega, by omega⟩ hW
theorem l_ct1 (hK : K = 512) (hh15 : h ≤ 15) (ew : w = (wn : Int)) (eh : h = (hn : Int)) (hc : 0 ≤ c ∧ c ≤ 999) (hW : Wst xs L w h n H b hp) : ∃ hp', Wst xs L w h n H b hp' ∧ mj_Ct m_W_contour [.ref (mj_NE + 0), .int (iI c), .int (iI 1)] hp (some (.int (iI ((dwF K wn H c (hn - 1)).2.2.2.1)))) hp' 0 0 6 := l_contour (k := 1) hK hh15 ew eh hc ⟨by omega, by omega⟩ hW
theorem l_ct2 (hK : K = 512) (hh15 : h ≤ 15) (ew : w = (wn : Int)) (eh : h = (hn : Int)) (hc : 0 ≤ c ∧ c ≤ 999) (hW : Wst xs L w h n H b hp) : ∃ hp', Wst xs L w h n H b hp' ∧ mj_Ct m_W_contour [.ref (mj_NE + 0), .int (iI c), .int (iI 2)] hp (some (.int (iI ((dwF K wn H c (hn - 1)).2.2.2.2)))) hp' 0 0 6 := l_contour (k := 2) hK hh15 ew eh hc ⟨by omega, by omega⟩ hW
set_option maxHeartbeats 2000000 in
theorem j_body (hK : K = 512) (hh15 : h ≤ 15) (ew : w = (wn : Int)) (eh : h = (hn : Int)) (hc : 0 ≤ c ∧ c ≤ 999) (hW : Wst xs L w h n H b hp) : ∃ hp', Wst xs L w h n H b hp' ∧ RL (1106, [.ref 3, .ref (mj_NE + 0), .int (iI w), .int (iI h), .long sm, mj_u, mj_u, mj_u, mj_u, mj_u, mj_u, mj_u, mj_u, mj_u, mj_u, mj_u, mj_u, .int (iI c), mj_u, mj_u, mj_u], [], hp, 32, 7983) (1106, [.ref 3, .ref (mj_NE + 0), .int (iI w), .int (iI h), .long sm, mj_u, mj_u, mj_u, mj_u, mj_u, mj_u, mj_u, mj_u, mj_u, mj_u, mj_u, mj_u, .int (iI (c + 190)), mj_u, mj_u, mj_u], [], hp', 32, 7983) := by
  obtain ⟨hnw, hw, hh, hH2⟩ := hW.ld
  have wh := wh_bd hw hh
  obtain ⟨y1, y2, y3, y4⟩ := dw_450 (K := K) (wn := wn) (hn := hn) (H := H) (c := c) (by omega) (by omega)
  have y5 := (dw_bd (K := K) (wn := wn) (hn := hn) (H := H) (c := c) (by omega) (by omega)).2.2.2
  rw [show ((hn - 1 : Nat) : Int) = h - 1 by omega, ← ew] at y5
  obtain ⟨B, hB⟩ : ∃ B : Int, B = (2 * (w - 1)) * (h - 1) := ⟨_, rfl⟩
  have hB2 : B ≤ 450 := by
    rw [hB]
    have := Int.mul_le_mul (show 2 * (w - 1) ≤ 30 by omega) (show h - 1 ≤ 14 by omega) (by omega) (by omega)
    omega
  have y6 : (dwF K wn H c (hn - 1)).2.2.1 ≤ B := by rw [hB]; exact y5
  have tb2 := toldH_bd (n := n) (H := H) (k := 2) hw hh (by omega) hH2
  have tb3 := toldH_bd (n := n) (H := H) (k := 3) hw hh (by omega) hH2
  have t2 : toldH w h H n 2 = mnH H n := rfl
  have t3 : toldH w h H n 3 = mxH H n := rfl
  have nn : wn * hn = n := by
    have : ((wn * hn : Nat) : Int) = n := by rw [Int.natCast_mul, ← ew, ← eh, hnw]
    omega
  have s1 := r_toB (RC := 121) (RS := 8689) (dd := 8) (g := (1106, [.ref 3, .ref (mj_NE + 0), .int (iI w), .int (iI h), .long sm, mj_u, mj_u, mj_u, mj_u, mj_u, mj_u, mj_u, mj_u, mj_u, mj_u, mj_u, mj_u, .int (iI c), mj_u, mj_u, mj_u], [], hp, 32, 7983)) (g' := (1118, [.ref 3, .ref (mj_NE + 0), .int (iI w), .int (iI h), .long sm, mj_u, mj_u, mj_u, mj_u, mj_u, mj_u, mj_u, mj_u, mj_u, mj_u, mj_u, mj_u, .int (iI c), mj_u, mj_u, mj_u], [.int (iI 2), .int (iI c), .ref (mj_NE + 0)], hp, 32, 7983)) ok_law 9999 [false] rfl ⟨(show ¬ (iI 1000 ≤ iI c) from b_nle ⟨by omega, by omega⟩ ⟨by omega, by omega⟩ (show c < 1000 by omega)), trivial⟩
  obtain ⟨hp1, hW1, ct1⟩ := l_ct2 hK hh15 ew eh hc hW
  have s2 := r_tr s1 (r_VB ok_law ok_W_contour se_W_contour ct1 rfl rfl rfl (hW.z.rc rfl) rfl ⟨rfl, rfl, rfl⟩)
  have s3 := r_tr s2 (r_toB (g' := (1125, [.ref 3, .ref (mj_NE + 0), .int (iI w), .int (iI h), .long sm, mj_u, mj_u, mj_u, mj_u, mj_u, mj_u, mj_u, mj_u, mj_u, mj_u, mj_u, mj_u, .int (iI c), mj_u, mj_u, mj_u], [.int (iI 1), .int (iI c), .ref (mj_NE + 0), .int (iI ((dwF K wn H c (hn - 1)).2.2.2.2))], hp1, 32, 7983)) ok_law 9999 [] rfl trivial)
  obtain ⟨hp2, hW2, ct2⟩ := l_ct1 hK hh15 ew eh hc hW1
  have s4 := r_tr s3 (r_VB ok_law ok_W_contour se_W_contour ct2 rfl rfl rfl (hW1.z.rc rfl) rfl ⟨rfl, rfl, rfl⟩)
  have s5 := r_tr s4 (r_toB (g' := (1135, [.ref 3, .ref (mj_NE + 0), .int (iI w), .int (iI h), .long sm, mj_u, mj_u, mj_u, mj_u, mj_u, mj_u, mj_u, mj_u, mj_u, mj_u, mj_u, mj_u, .int (iI c), mj_u, mj_u, mj_u], [.int (iI 1), .int (iI c), .ref (mj_NE + 0)], hp2, 32, 7983)) ok_law 9999 [false] rfl ⟨(show ¬ (iI ((dwF K wn H c (hn - 1)).2.2.2.1) < iI ((dwF K wn H c (hn - 1)).2.2.2.2)) from b_nlt ⟨by omega, by omega⟩ ⟨by omega, by omega⟩ (show (dwF K wn H c (hn - 1)).2.2.2.2 ≤ (dwF K wn H c (hn - 1)).2.2.2.1 by omega)), trivial⟩)
  obtain ⟨hp3, hW3, ct3⟩ := l_ct1 hK hh15 ew eh hc hW2
  have s6 := r_tr s5 (r_VB ok_law ok_W_contour se_W_contour ct3 rfl rfl rfl (hW2.z.rc rfl) rfl ⟨rfl, rfl, rfl⟩)
  have s7 := r_tr s6 (r_toB (g' := (1142, [.ref 3, .ref (mj_NE + 0), .int (iI w), .int (iI h), .long sm, mj_u, mj_u, mj_u, mj_u, mj_u, mj_u, mj_u, mj_u, mj_u, mj_u, mj_u, mj_u, .int (iI c), mj_u, mj_u, mj_u], [.int (iI 0), .int (iI c), .ref (mj_NE + 0), .int (iI ((dwF K wn H c (hn - 1)).2.2.2.1))], hp3, 32, 7983)) ok_law 9999 [] rfl trivial)
  obtain ⟨hp4, hW4, ct4⟩ := l_ct0 hK hh15 ew eh hc hW3
  have s8 := r_tr s7 (r_VB ok_law ok_W_contour se_W_contour ct4 rfl rfl rfl (hW3.z.rc rfl) rfl ⟨rfl, rfl, rfl⟩)
  have s9 := r_tr s8 (r_toB (g' := (1152, [.ref 3, .ref (mj_NE + 0), .int (iI w), .int (iI h), .long sm, mj_u, mj_u, mj_u, mj_u, mj_u, mj_u, mj_u, mj_u, mj_u, mj_u, mj_u, mj_u, .int (iI c), mj_u, mj_u, mj_u], [.int (iI 0), .int (iI c), .ref (mj_NE + 0)], hp4, 32, 7983)) ok_law 9999 [false] rfl ⟨(show ¬ (iI ((dwF K wn H c (hn - 1)).2.2.1) < iI ((dwF K wn H c (hn - 1)).2.2.2.1)) from b_nlt ⟨by omega, by omega⟩ ⟨by omega, by omega⟩ (show (dwF K wn H c (hn - 1)).2.2.2.1 ≤ (dwF K wn H c (hn - 1)).2.2.1 by omega)), trivial⟩)
  obtain ⟨hp5, hW5, ct5⟩ := l_ct0 hK hh15 ew eh hc hW4
  have s10 := r_tr s9 (r_VB ok_law ok_W_contour se_W_contour ct5 rfl rfl rfl (hW4.z.rc rfl) rfl ⟨rfl, rfl, rfl⟩)
  have s11 := r_tr s10 (r_toB (g' := (1164, [.ref 3, .ref (mj_NE + 0), .int (iI w), .int (iI h), .long sm, mj_u, mj_u, mj_u, mj_u, mj_u, mj_u, mj_u, mj_u, mj_u, mj_u, mj_u, mj_u, .int (iI c), mj_u, mj_u, mj_u], [.int (((iI 2) * ((iI w) - (iI 1))) * ((iI h) - (iI 1))), .int (iI ((dwF K wn H c (hn - 1)).2.2.1))], hp5, 32, 7983)) ok_law 1164 [] rfl trivial)
  simp only [iI_add, iI_sub, iI_mul, iI_1] at s11
  rw [← hB] at s11
  have s12 := r_tr s11 (r_toB (g' := (1171, [.ref 3, .ref (mj_NE + 0), .int (iI w), .int (iI h), .long sm, mj_u, mj_u, mj_u, mj_u, mj_u, mj_u, mj_u, mj_u, mj_u, mj_u, mj_u, mj_u, .int (iI c), mj_u, mj_u, mj_u], [.int (iI 3), .ref (mj_NE + 0), .int (iI c)], hp5, 32, 7983)) ok_law 9999 [false] rfl ⟨(show ¬ (iI B < iI ((dwF K wn H c (hn - 1)).2.2.1)) from b_nlt ⟨by omega, by omega⟩ ⟨by omega, by omega⟩ (show (dwF K wn H c (hn - 1)).2.2.1 ≤ B by omega)), trivial⟩)
  obtain ⟨hp6, hW6, ct6⟩ := l_map (k := 3) ⟨by omega, by omega⟩ hW5
  have s13 := r_tr s12 (r_VB ok_law ok_W_map se_W_map ct6 rfl rfl rfl (hW5.z.rc rfl) rfl ⟨rfl, rfl, rfl⟩)
  by_cases c3 : toldH w h H n 3 ≤ c
  · have z0 : (dwF K wn H c (hn - 1)).2.2.1 = 0 := dw_same (K := K) (wn := wn) (hn := hn) (H := H) (c := c) (v := false) (by omega) (fun j hj => by
      have := mxH_ge (H := H) n j (by omega)
      unfold hiB
      exact decide_eq_false (by omega)) (hn - 1) (by omega)
    have s14 := r_tr s13 (r_toB (g' := (1191, [.ref 3, .ref (mj_NE + 0), .int (iI w), .int (iI h), .long sm, mj_u, mj_u, mj_u, mj_u, mj_u, mj_u, mj_u, mj_u, mj_u, mj_u, mj_u, mj_u, .int (iI c), mj_u, mj_u, mj_u], [.int (iI 0), .int (iI c), .ref (mj_NE + 0)], hp6, 32, 7983)) ok_law 9999 [true] rfl ⟨(show iI (toldH w h H n 3) ≤ iI c from b_le ⟨by omega, by omega⟩ ⟨by omega, by omega⟩ (show toldH w h H n 3 ≤ c by omega)), trivial⟩)
    obtain ⟨hp7, hW7, ct7⟩ := l_ct0 hK hh15 ew eh hc hW6
    have s15 := r_tr s14 (r_VB ok_law ok_W_contour se_W_contour ct7 rfl rfl rfl (hW6.z.rc rfl) rfl ⟨rfl, rfl, rfl⟩)
    have s16 := r_tr s15 (r_toB (g' := (1199, [.ref 3, .ref (mj_NE + 0), .int (iI w), .int (iI h), .long sm, mj_u, mj_u, mj_u, mj_u, mj_u, mj_u, mj_u, mj_u, mj_u, mj_u, mj_u, mj_u, .int (iI c), mj_u, mj_u, mj_u], [], hp7, 32, 7983)) ok_law 1199 [true] rfl ⟨(show iI ((dwF K wn H c (hn - 1)).2.2.1) = iI 0 from b_eq (show (dwF K wn H c (hn - 1)).2.2.1 = 0 by omega)), trivial⟩)
    have s17 := r_tr s16 (r_eq (g2 := (1205, [.ref 3, .ref (mj_NE + 0), .int (iI w), .int (iI h), .long sm, mj_u, mj_u, mj_u, mj_u, mj_u, mj_u, mj_u, mj_u, mj_u, mj_u, mj_u, mj_u, .int (iI (c + 190)), mj_u, mj_u, mj_u], [], hp7, 32, 7983)) (r_iincW (i := 17) (n := 190) (x := iI c) (by decide +kernel) rfl (by decide)) (by rw [show iI c + Int32.ofInt 190 = iI (c + 190) from iI_add c 190]; rfl))
    have s18 := r_tr s17 (r_toB (g' := (1106, [.ref 3, .ref (mj_NE + 0), .int (iI w), .int (iI h), .long sm, mj_u, mj_u, mj_u, mj_u, mj_u, mj_u, mj_u, mj_u, mj_u, mj_u, mj_u, mj_u, .int (iI (c + 190)), mj_u, mj_u, mj_u], [], hp7, 32, 7983)) ok_law 1106 [] rfl trivial)
    exact ⟨_, hW7, s18⟩
  · skip
    have s14 := r_tr s13 (r_toB (g' := (1181, [.ref 3, .ref (mj_NE + 0), .int (iI w), .int (iI h), .long sm, mj_u, mj_u, mj_u, mj_u, mj_u, mj_u, mj_u, mj_u, mj_u, mj_u, mj_u, mj_u, .int (iI c), mj_u, mj_u, mj_u], [.int (iI 2), .ref (mj_NE + 0), .int (iI c)], hp6, 32, 7983)) ok_law 9999 [false] rfl ⟨(show ¬ (iI (toldH w h H n 3) ≤ iI c) from b_nle ⟨by omega, by omega⟩ ⟨by omega, by omega⟩ (show c < toldH w h H n 3 by omega)), trivial⟩)
    obtain ⟨hp7, hW7, ct7⟩ := l_map (k := 2) ⟨by omega, by omega⟩ hW6
    have s15 := r_tr s14 (r_VB ok_law ok_W_map se_W_map ct7 rfl rfl rfl (hW6.z.rc rfl) rfl ⟨rfl, rfl, rfl⟩)
    by_cases c2 : toldH w h H n 2 ≤ c
    · skip
      have s16 := r_tr s15 (r_toB (g' := (1199, [.ref 3, .ref (mj_NE + 0), .int (iI w), .int (iI h), .long sm, mj_u, mj_u, mj_u, mj_u, mj_u, mj_u, mj_u, mj_u, mj_u, mj_u, mj_u, mj_u, .int (iI c), mj_u, mj_u, mj_u], [], hp7, 32, 7983)) ok_law 1199 [true] rfl ⟨(show iI (toldH w h H n 2) ≤ iI c from b_le ⟨by omega, by omega⟩ ⟨by omega, by omega⟩ (show toldH w h H n 2 ≤ c by omega)), trivial⟩)
      have s17 := r_tr s16 (r_eq (g2 := (1205, [.ref 3, .ref (mj_NE + 0), .int (iI w), .int (iI h), .long sm, mj_u, mj_u, mj_u, mj_u, mj_u, mj_u, mj_u, mj_u, mj_u, mj_u, mj_u, mj_u, .int (iI (c + 190)), mj_u, mj_u, mj_u], [], hp7, 32, 7983)) (r_iincW (i := 17) (n := 190) (x := iI c) (by decide +kernel) rfl (by decide)) (by rw [show iI c + Int32.ofInt 190 = iI (c + 190) from iI_add c 190]; rfl))
      have s18 := r_tr s17 (r_toB (g' := (1106, [.ref 3, .ref (mj_NE + 0), .int (iI w), .int (iI h), .long sm, mj_u, mj_u, mj_u, mj_u, mj_u, mj_u, mj_u, mj_u, mj_u, mj_u, mj_u, mj_u, .int (iI (c + 190)), mj_u, mj_u, mj_u], [], hp7, 32, 7983)) ok_law 1106 [] rfl trivial)
      exact ⟨_, hW7, s18⟩
    · have z0 : (dwF K wn H c (hn - 1)).2.2.1 = 0 := dw_same (K := K) (wn := wn) (hn := hn) (H := H) (c := c) (v := true) (by omega) (fun j hj => by
        have := mnH_le (H := H) n j (by omega)
        unfold hiB
        exact decide_eq_true (by omega)) (hn - 1) (by omega)
      have s16 := r_tr s15 (r_toB (g' := (1191, [.ref 3, .ref (mj_NE + 0), .int (iI w), .int (iI h), .long sm, mj_u, mj_u, mj_u, mj_u, mj_u, mj_u, mj_u, mj_u, mj_u, mj_u, mj_u, mj_u, .int (iI c), mj_u, mj_u, mj_u], [.int (iI 0), .int (iI c), .ref (mj_NE + 0)], hp7, 32, 7983)) ok_law 9999 [false] rfl ⟨(show ¬ (iI (toldH w h H n 2) ≤ iI c) from b_nle ⟨by omega, by omega⟩ ⟨by omega, by omega⟩ (show c < toldH w h H n 2 by omega)), trivial⟩)
      obtain ⟨hp8, hW8, ct8⟩ := l_ct0 hK hh15 ew eh hc hW7
      have s17 := r_tr s16 (r_VB ok_law ok_W_contour se_W_contour ct8 rfl rfl rfl (hW7.z.rc rfl) rfl ⟨rfl, rfl, rfl⟩)
      have s18 := r_tr s17 (r_toB (g' := (1199, [.ref 3, .ref (mj_NE + 0), .int (iI w), .int (iI h), .long sm, mj_u, mj_u, mj_u, mj_u, mj_u, mj_u, mj_u, mj_u, mj_u, mj_u, mj_u, mj_u, .int (iI c), mj_u, mj_u, mj_u], [], hp8, 32, 7983)) ok_law 1199 [true] rfl ⟨(show iI ((dwF K wn H c (hn - 1)).2.2.1) = iI 0 from b_eq (show (dwF K wn H c (hn - 1)).2.2.1 = 0 by omega)), trivial⟩)
      have s19 := r_tr s18 (r_eq (g2 := (1205, [.ref 3, .ref (mj_NE + 0), .int (iI w), .int (iI h), .long sm, mj_u, mj_u, mj_u, mj_u, mj_u, mj_u, mj_u, mj_u, mj_u, mj_u, mj_u, mj_u, .int (iI (c + 190)), mj_u, mj_u, mj_u], [], hp8, 32, 7983)) (r_iincW (i := 17) (n := 190) (x := iI c) (by decide +kernel) rfl (by decide)) (by rw [show iI c + Int32.ofInt 190 = iI (c + 190) from iI_add c 190]; rfl))
      have s20 := r_tr s19 (r_toB (g' := (1106, [.ref 3, .ref (mj_NE + 0), .int (iI w), .int (iI h), .long sm, mj_u, mj_u, mj_u, mj_u, mj_u, mj_u, mj_u, mj_u, mj_u, mj_u, mj_u, mj_u, .int (iI (c + 190)), mj_u, mj_u, mj_u], [], hp8, 32, 7983)) ok_law 1106 [] rfl trivial)
      exact ⟨_, hW8, s20⟩
theorem j_all (hK : K = 512) (hh15 : h ≤ 15) (ew : w = (wn : Int)) (eh : h = (hn : Int)) (hW : Wst xs L w h n H b hp) : ∃ hp', Wst xs L w h n H b hp' ∧ RL (1103, [.ref 3, .ref (mj_NE + 0), .int (iI w), .int (iI h), .long sm, mj_u, mj_u, mj_u, mj_u, mj_u, mj_u, mj_u, mj_u, mj_u, mj_u, mj_u, mj_u, mj_u, mj_u, mj_u, mj_u], [], hp, 32, 7983) (1208, [.ref 3, .ref (mj_NE + 0), .int (iI w), .int (iI h), .long sm, mj_u, mj_u, mj_u, mj_u, mj_u, mj_u, mj_u, mj_u, mj_u, mj_u, mj_u, mj_u, mj_u, mj_u, mj_u, mj_u], [], hp', 32, 7983) := by
  have s1 := r_toB (RC := 121) (RS := 8689) (dd := 8) (g := (1103, [.ref 3, .ref (mj_NE + 0), .int (iI w), .int (iI h), .long sm, mj_u, mj_u, mj_u, mj_u, mj_u, mj_u, mj_u, mj_u, mj_u, mj_u, mj_u, mj_u, mj_u, mj_u, mj_u, mj_u], [], hp, 32, 7983)) (g' := (1106, [.ref 3, .ref (mj_NE + 0), .int (iI w), .int (iI h), .long sm, mj_u, mj_u, mj_u, mj_u, mj_u, mj_u, mj_u, mj_u, mj_u, mj_u, mj_u, mj_u, .int (iI 0), mj_u, mj_u, mj_u], [], hp, 32, 7983)) ok_law 1106 [] rfl trivial
  obtain ⟨hp1, W1, r1⟩ := j_body (sm := sm) (c := 0) hK hh15 ew eh ⟨by omega, by omega⟩ hW
  obtain ⟨hp2, W2, r2⟩ := j_body (sm := sm) (c := 190) hK hh15 ew eh ⟨by omega, by omega⟩ W1
  obtain ⟨hp3, W3, r3⟩ := j_body (sm := sm) (c := 380) hK hh15 ew eh ⟨by omega, by omega⟩ W2
  obtain ⟨hp4, W4, r4⟩ := j_body (sm := sm) (c := 570) hK hh15 ew eh ⟨by omega, by omega⟩ W3
  obtain ⟨hp5, W5, r5⟩ := j_body (sm := sm) (c := 760) hK hh15 ew eh ⟨by omega, by omega⟩ W4
  obtain ⟨hp6, W6, r6⟩ := j_body (sm := sm) (c := 950) hK hh15 ew eh ⟨by omega, by omega⟩ W5
  have z1 := r_toB (RC := 121) (RS := 8689) (dd := 8) (g := (1106, [.ref 3, .ref (mj_NE + 0), .int (iI w), .int (iI h), .long sm, mj_u, mj_u, mj_u, mj_u, mj_u, mj_u, mj_u, mj_u, mj_u, mj_u, mj_u, mj_u, .int (iI 1140), mj_u, mj_u, mj_u], [], hp6, 32, 7983)) (g' := (1208, [.ref 3, .ref (mj_NE + 0), .int (iI w), .int (iI h), .long sm, mj_u, mj_u, mj_u, mj_u, mj_u, mj_u, mj_u, mj_u, mj_u, mj_u, mj_u, mj_u, .int (iI 1140), mj_u, mj_u, mj_u], [], hp6, 32, 7983)) ok_law 1208 [true] rfl ⟨(show iI 1000 ≤ iI 1140 from b_le ⟨by omega, by omega⟩ ⟨by omega, by omega⟩ (show 1000 ≤ 1140 by omega)), trivial⟩
  have z2 := r_tr z1 (r_fg [true, true, true, true, true, true, true, true, true, true, true, true, true, true, true, true, true, false, true, true, true])
  exact ⟨hp6, W6, r_tr s1 (r_tr r1 (r_tr r2 (r_tr r3 (r_tr r4 (r_tr r5 (r_tr r6 z2))))))⟩
end CTR
/-! THE LAW: its end -/
section LEND
variable {xs : Nat → Int32} {L : Nat} {w h : Int} {n wn hn : Nat} {H : Nat → Int} {b : Int} {hp : mj_H} {K : Nat} {lev : Nat → Int}
set_option maxHeartbeats 2000000 in
theorem k_all (hL : L ≤ 260) (hK : K = 512) (hb : 1 ≤ b ∧ b ≤ 100) (hh15 : h ≤ 15) (ew : w = (wn : Int)) (eh : h = (hn : Int)) (hLv : LvOK w h n H lev) (hW : Wst xs L w h n H b hp) : ∃ (hp' : mj_H) (L' : List Value), RL (1208, [.ref 3, .ref (mj_NE + 0), .int (iI w), .int (iI h), .long (lI (digX K w h wn hn n H lev b)), mj_u, mj_u, mj_u, mj_u, mj_u, mj_u, mj_u, mj_u, mj_u, mj_u, mj_u, mj_u, mj_u, mj_u, mj_u, mj_u], [], hp, 32, 7983) (1321, L', [.int (iI 1)], hp', 32, 7983) := by
  obtain ⟨hnw, hw, hh, hH2⟩ := hW.ld
  have wh := wh_bd hw hh
  have bl := blF_bd (v := clF xs L 11) (k := 50) (by omega)
  have u4 : toldH w h H n 4 = smH H n := rfl
  have sb := smH_bd (H := H) hH2 n (Nat.le_refl _)
  have s1 := r_toB (RC := 121) (RS := 8689) (dd := 8) (g := (1208, [.ref 3, .ref (mj_NE + 0), .int (iI w), .int (iI h), .long (lI (digX K w h wn hn n H lev b)), mj_u, mj_u, mj_u, mj_u, mj_u, mj_u, mj_u, mj_u, mj_u, mj_u, mj_u, mj_u, mj_u, mj_u, mj_u, mj_u], [], hp, 32, 7983)) (g' := (1209, [.ref 3, .ref (mj_NE + 0), .int (iI w), .int (iI h), .long (lI (digX K w h wn hn n H lev b)), mj_u, mj_u, mj_u, mj_u, mj_u, mj_u, mj_u, mj_u, mj_u, mj_u, mj_u, mj_u, mj_u, mj_u, mj_u, mj_u], [.ref (mj_NE + 0)], hp, 32, 7983)) ok_law 9999 [] rfl trivial
  obtain ⟨hp1, hW1, ct1⟩ := l_digest hb hK hh15 ew eh hLv hW
  have s2 := r_tr s1 (r_VB ok_law ok_W_digest se_W_digest ct1 rfl rfl rfl (hW.z.rc rfl) rfl ⟨rfl, rfl, rfl⟩)
  have s3 := r_tr s2 (r_toB (g' := (1222, [.ref 3, .ref (mj_NE + 0), .int (iI w), .int (iI h), .long (lI (digX K w h wn hn n H lev b)), mj_u, mj_u, mj_u, mj_u, mj_u, mj_u, mj_u, mj_u, mj_u, mj_u, mj_u, mj_u, mj_u, mj_u, mj_u, mj_u], [.int (iI 4), .ref (mj_NE + 0)], hp1, 32, 7983)) ok_law 9999 [true] rfl ⟨lg_cmp_self, trivial⟩)
  obtain ⟨hp2, hW2, ct2⟩ := l_map (k := 4) ⟨by omega, by omega⟩ hW1
  have s4 := r_tr s3 (r_VB ok_law ok_W_map se_W_map ct2 rfl rfl rfl (hW1.z.rc rfl) rfl ⟨rfl, rfl, rfl⟩)
  rw [u4] at s4
  have s5 := r_tr s4 (r_toB (g' := (1232, [.ref 3, .ref (mj_NE + 0), .int (iI w), .int (iI h), .long (lI (digX K w h wn hn n H lev b)), mj_u, mj_u, mj_u, mj_u, mj_u, mj_u, mj_u, mj_u, mj_u, mj_u, mj_u, mj_u, .int (iI (smH H n)), mj_u, mj_u, mj_u], [.int (iI 11), .ref 3, .int (iI 1), .ref (mj_NE + 0)], hp2, 32, 7983)) ok_law 9999 [] rfl trivial)
  have s6 := r_tr s5 (r_SB ok_law ok_WatershedMapLaw_cell st_WatershedMapLaw_cell (l_cell (k := 11) hL (by omega) hW2.z) rfl rfl rfl rfl ⟨rfl, rfl, rfl⟩)
  have s7 := r_tr s6 (r_toB (g' := (1237, [.ref 3, .ref (mj_NE + 0), .int (iI w), .int (iI h), .long (lI (digX K w h wn hn n H lev b)), mj_u, mj_u, mj_u, mj_u, mj_u, mj_u, mj_u, mj_u, mj_u, mj_u, mj_u, mj_u, .int (iI (smH H n)), mj_u, mj_u, mj_u], [.int (iI 50), .int (clF xs L 11), .int (iI 1), .ref (mj_NE + 0)], hp2, 32, 7983)) ok_law 9999 [] rfl trivial)
  have s8 := r_tr s7 (r_SB ok_law ok_WatershedMapLaw_below st_WatershedMapLaw_below (c_below (v := clF xs L 11) (k := 50) ⟨by omega, by omega⟩) rfl rfl rfl rfl ⟨rfl, rfl, rfl⟩)
  have s9 := r_tr s8 (r_toB (g' := (1241, [.ref 3, .ref (mj_NE + 0), .int (iI w), .int (iI h), .long (lI (digX K w h wn hn n H lev b)), mj_u, mj_u, mj_u, mj_u, mj_u, mj_u, mj_u, mj_u, mj_u, mj_u, mj_u, mj_u, .int (iI (smH H n)), mj_u, mj_u, mj_u], [.int ((iI 1) + (iI (blF (clF xs L 11) 50))), .ref (mj_NE + 0)], hp2, 32, 7983)) ok_law 9999 [] rfl trivial)
  simp only [iI_add, iI_sub, iI_mul, iI_1] at s9
  obtain ⟨hp3, H', z, hW3, z0, z1, ct3⟩ := l_wear hb (k := 1 + blF (clF xs L 11) 50) ⟨by omega, by omega⟩ hW2
  have s10 := r_tr s9 (r_VB ok_law ok_W_wear se_W_wear ct3 rfl rfl rfl (hW2.z.rc rfl) rfl ⟨rfl, rfl, rfl⟩)
  have hd1 := hW3.ld
  have sb1 := smH_bd (H := H') hd1.2.2.2 n (Nat.le_refl _)
  have s11 := r_tr s10 (r_toB (g' := (1253, [.ref 3, .ref (mj_NE + 0), .int (iI w), .int (iI h), .long (lI (digX K w h wn hn n H lev b)), mj_u, mj_u, mj_u, mj_u, mj_u, mj_u, mj_u, mj_u, mj_u, mj_u, mj_u, mj_u, .int (iI (smH H n)), .int (iI z), mj_u, mj_u], [.int (iI 4), .ref (mj_NE + 0)], hp3, 32, 7983)) ok_law 9999 [false] rfl ⟨(show ¬ (iI z < iI 0) from b_nlt ⟨by omega, by omega⟩ ⟨by omega, by omega⟩ (show 0 ≤ z by omega)), trivial⟩)
  obtain ⟨hp4, hW4, ct4⟩ := l_map (k := 4) ⟨by omega, by omega⟩ hW3
  have s12 := r_tr s11 (r_VB ok_law ok_W_map se_W_map ct4 rfl rfl rfl (hW3.z.rc rfl) rfl ⟨rfl, rfl, rfl⟩)
  rw [show toldH w h H' n 4 = smH H' n from rfl] at s12
  have s13 := r_tr s12 (r_toB (g' := (1268, [.ref 3, .ref (mj_NE + 0), .int (iI w), .int (iI h), .long (lI (digX K w h wn hn n H lev b)), mj_u, mj_u, mj_u, mj_u, mj_u, mj_u, mj_u, mj_u, mj_u, mj_u, mj_u, mj_u, .int (iI (smH H n)), .int (iI z), mj_u, mj_u], [.int (iI 4), .ref (mj_NE + 0)], hp4, 32, 7983)) ok_law 9999 [true] rfl ⟨by show iI (smH H' n) = (iI (smH H n)) - (iI z); simp only [iI_add, iI_sub, iI_mul]; exact b_eq (show smH H' n = (smH H n) - z by omega), trivial⟩)
  obtain ⟨hp5, hW5, ct5⟩ := l_map (k := 4) ⟨by omega, by omega⟩ hW4
  have s14 := r_tr s13 (r_VB ok_law ok_W_map se_W_map ct5 rfl rfl rfl (hW4.z.rc rfl) rfl ⟨rfl, rfl, rfl⟩)
  rw [show toldH w h H' n 4 = smH H' n from rfl] at s14
  have s15 := r_tr s14 (r_toB (g' := (1274, [.ref 3, .ref (mj_NE + 0), .int (iI w), .int (iI h), .long (lI (digX K w h wn hn n H lev b)), mj_u, mj_u, mj_u, mj_u, mj_u, mj_u, mj_u, mj_u, mj_u, mj_u, mj_u, mj_u, .int (iI (smH H' n)), .int (iI z), mj_u, mj_u], [.ref (mj_NE + 0)], hp5, 32, 7983)) ok_law 9999 [] rfl trivial)
  obtain ⟨lev2, hLv2⟩ := l_lev hW5
  obtain ⟨hp6, G, f, hW6, f0, f1, f2, ct6⟩ := l_fill hK hLv2 hW5
  have s16 := r_tr s15 (r_VB ok_law ok_W_fill se_W_fill ct6 rfl rfl rfl (hW5.z.rc rfl) rfl ⟨rfl, rfl, rfl⟩)
  have hd2 := hW6.ld
  have sb2 := smH_bd (H := G) hd2.2.2.2 n (Nat.le_refl _)
  have zz : smH (fun j => G j - G j) n = 0 := smH_z n (fun j _ => Int.sub_self _)
  have s17 := r_tr s16 (r_toB (g' := (1281, [.ref 3, .ref (mj_NE + 0), .int (iI w), .int (iI h), .long (lI (digX K w h wn hn n H lev b)), mj_u, mj_u, mj_u, mj_u, mj_u, mj_u, mj_u, mj_u, mj_u, mj_u, mj_u, mj_u, .int (iI (smH H' n)), .int (iI z), .int (iI f), mj_u], [.int (iI 4), .ref (mj_NE + 0)], hp6, 32, 7983)) ok_law 9999 [] rfl trivial)
  obtain ⟨hp7, hW7, ct7⟩ := l_map (k := 4) ⟨by omega, by omega⟩ hW6
  have s18 := r_tr s17 (r_VB ok_law ok_W_map se_W_map ct7 rfl rfl rfl (hW6.z.rc rfl) rfl ⟨rfl, rfl, rfl⟩)
  rw [show toldH w h G n 4 = smH G n from rfl] at s18
  have s19 := r_tr s18 (r_toB (g' := (1293, [.ref 3, .ref (mj_NE + 0), .int (iI w), .int (iI h), .long (lI (digX K w h wn hn n H lev b)), mj_u, mj_u, mj_u, mj_u, mj_u, mj_u, mj_u, mj_u, mj_u, mj_u, mj_u, mj_u, .int (iI (smH H' n)), .int (iI z), .int (iI f), mj_u], [.ref (mj_NE + 0)], hp7, 32, 7983)) ok_law 9999 [false] rfl ⟨by show ¬ (¬ (iI (smH G n) = (iI (smH H' n)) + (iI f))); simp only [iI_add, iI_sub, iI_mul]; exact b_nne (show smH G n = (smH H' n) + f by omega), trivial⟩)
  obtain ⟨hp8, y, hW8, yb, yi, ct8⟩ := l_lakes hK f2 hW7
  have s20 := r_tr s19 (r_VB ok_law ok_W_lakes se_W_lakes ct8 rfl rfl rfl (hW7.z.rc rfl) rfl ⟨rfl, rfl, rfl⟩)
  have y0 : y = 0 := by
    rcases Int.lt_or_le 0 y with q | q
    · have := yi.mp q
      omega
    · omega
  have s21 := r_tr s20 (r_toB (g' := (1300, [.ref 3, .ref (mj_NE + 0), .int (iI w), .int (iI h), .long (lI (digX K w h wn hn n H lev b)), mj_u, mj_u, mj_u, mj_u, mj_u, mj_u, mj_u, mj_u, mj_u, mj_u, mj_u, mj_u, .int (iI (smH H' n)), .int (iI z), .int (iI f), mj_u], [.ref (mj_NE + 0)], hp8, 32, 7983)) ok_law 9999 [false] rfl ⟨(show ¬ (¬ (iI y = iI 0)) from b_nne (show y = 0 by omega)), trivial⟩)
  obtain ⟨hp9, hW9, ct9⟩ := l_volume hK f2 hW8
  have s22 := r_tr s21 (r_VB ok_law ok_W_volume se_W_volume ct9 rfl rfl rfl (hW8.z.rc rfl) rfl ⟨rfl, rfl, rfl⟩)
  have s23 := r_tr s22 (r_toB (g' := (1307, [.ref 3, .ref (mj_NE + 0), .int (iI w), .int (iI h), .long (lI (digX K w h wn hn n H lev b)), mj_u, mj_u, mj_u, mj_u, mj_u, mj_u, mj_u, mj_u, mj_u, mj_u, mj_u, mj_u, .int (iI (smH H' n)), .int (iI z), .int (iI f), mj_u], [.ref (mj_NE + 0)], hp9, 32, 7983)) ok_law 9999 [false] rfl ⟨(show ¬ (¬ (iI (smH (fun j => G j - G j) n) = iI 0)) from b_nne (show smH (fun j => G j - G j) n = 0 by omega)), trivial⟩)
  obtain ⟨hpe, y9, yb9, cte⟩ := l_smooth hW9
  have s24 := r_tr s23 (r_VB ok_law ok_W_smooth se_W_smooth cte rfl rfl rfl (hW9.z.rc rfl) rfl ⟨rfl, rfl, rfl⟩)
  have s25 := r_tr s24 (r_toB (g' := (1321, [.ref 3, .ref (mj_NE + 0), .int (iI w), .int (iI h), .long (lI (digX K w h wn hn n H lev b)), mj_u, mj_u, mj_u, mj_u, mj_u, mj_u, mj_u, mj_u, mj_u, mj_u, mj_u, mj_u, .int (iI (smH H' n)), .int (iI z), .int (iI f), mj_u], [.int (iI 1)], hpe, 32, 7983)) ok_law 1321 [false] rfl ⟨by show ¬ ((iI w) * (iI h) < iI y9); simp only [iI_add, iI_sub, iI_mul]; exact b_nlt ⟨by omega, by omega⟩ ⟨by omega, by omega⟩ (show y9 ≤ w * h by omega), trivial⟩)
  exact ⟨_, _, s25⟩
end LEND
