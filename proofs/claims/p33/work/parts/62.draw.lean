/-! Contours.draw in general -/
section DRW
variable {xs : Nat → Int32} {L : Nat} {A : Nat → Nat → Int32} {V : Nat → Int32} {Y : mj_H} {K : Nat} {w h : Int} {n wn hn : Nat} {H : Nat → Int}
set_option maxHeartbeats 1000000 in
theorem c_drawG {c : Int} (hK : K = 512) (h0 : V 0 = iI w) (h1 : V 1 = iI h) (hw : 2 ≤ w ∧ w ≤ 16) (hh : 2 ≤ h ∧ h ≤ 15) (hnw : (n : Int) = w * h) (ew : w = (wn : Int)) (eh : h = (hn : Int)) (hH : Hts (A 0) n H) (hc : 0 ≤ c ∧ c ≤ 999) : ∃ (A1 : Nat → Nat → Int32) (V1 : Nat → Int32), StC A V A1 V1 (dwF K wn H c (hn - 1)) ∧ mj_Ct m_Contours_draw [.ref (mj_NE + 22), .int (iI c)] (Wd xs L A V Y) none (Wd xs L A1 V1 Y) 0 0 5 := by
  have hh16 : 2 ≤ h ∧ h ≤ 16 := ⟨by omega, by omega⟩
  have wh := wh_bd hw hh16
  have wn2 : 2 ≤ wn ∧ wn ≤ 16 := ⟨by omega, by omega⟩
  have hn2 : 2 ≤ hn ∧ hn ≤ 15 := ⟨by omega, by omega⟩
  have hn256 : n ≤ 256 := by omega
  have r0 := r_tr (r_to (RC := 0) (RS := 0) (dd := 5) (g := (0, [.ref (mj_NE + 22), .int (iI c), mj_u, mj_u], [], Wd xs L A V Y, 0, 0)) (g' := (4, [.ref (mj_NE + 22), .int (iI c), mj_u, mj_u], [.ref (mj_NE + 24)], Wd xs L A V Y, 0, 0)) ok_Contours_draw 9999 [] rfl trivial) (q_V ok_Contours_draw ok_Groups_part se_Groups_part (c_partC) rfl rfl rfl rfl rfl ⟨rfl, rfl, rfl⟩)
  have t1 : mj_Rc m_Contours_draw 0 0 5 (7, [.ref (mj_NE + 22), .int (iI c), mj_u, mj_u], [], Wd xs L (wA A 17 (pw (fun j => iI j) (A 17) 512)) V Y, 0, 0) (12, [.ref (mj_NE + 22), .int (iI c), mj_u, mj_u], [.int (-1), .ref (mj_NE + 23)], Wd xs L (wA A 17 (pw (fun j => iI j) (A 17) 512)) V Y, 0, 0) := r_to ok_Contours_draw 9999 [] rfl trivial
  rw [iI_neg1] at t1
  have r1 := r_tr (r_tr r0 t1) (q_S ok_Contours_draw ok_Arr_fill st_Arr_fill (c_fill_16) rfl rfl rfl rfl ⟨rfl, rfl, rfl⟩)
  rw [wA_n (l := 16) (k := 17) (by omega)] at r1
  have r2 := r_tr r1 (r_to (g' := (32, [.ref (mj_NE + 22), .int (iI c), .int (iI ((0 : Nat) : Int)), mj_u], [], Wd xs L (wA (wA A 17 (pw (fun j => iI j) (A 17) 512)) 16 (fl (A 16) (iI (-1)) 512)) (wV (wV (wV V 6 (iI 0)) 7 (iI 0)) 8 (iI 0)) Y, 0, 0)) ok_Contours_draw 32 [] rfl trivial)
  have S0 : StC A V (wA (wA A 17 (pw (fun j => iI j) (A 17) 512)) 16 (fl (A 16) (iI (-1)) 512)) (wV (wV (wV V 6 (iI 0)) 7 (iI 0)) 8 (iI 0)) (dwF K wn H c 0) := by
    refine ⟨fun p hp => ⟨?_, by show (-1 : Int) ≤ -1; omega, by show (-1 : Int) < 512; omega⟩, fun j hj => ⟨?_, hj⟩, ⟨?_, ?_, ?_⟩, fun k h1 h2 => by rw [wA_n h1, wA_n h2], fun k h6 h7 h8 => by rw [wV_n h8, wV_n h7, wV_n h6]⟩
    · rw [wA_s]
      exact if_pos hp
    · rw [wA_n (by omega), wA_s]
      exact if_pos hj
    · rw [wV_n (by omega), wV_n (by omega), wV_s]
      rfl
    · rw [wV_n (by omega), wV_s]
      rfl
    · rw [wV_s]
      rfl
  have row : ∀ (y : Nat) (A2 : Nat → Nat → Int32) (V2 : Nat → Int32), (y : Int) < h - 1 → StC A V A2 V2 (dwF K wn H c y) → ∀ x : Nat, (x : Int) ≤ w - 1 → ∃ (A3 : Nat → Nat → Int32) (V3 : Nat → Int32), StC A V A3 V3 (rwF K wn H c y (dwF K wn H c y) x) ∧ mj_Rc m_Contours_draw 0 0 5 (47, [.ref (mj_NE + 22), .int (iI c), .int (iI (y : Int)), .int (iI ((0 : Nat) : Int))], [], Wd xs L A2 V2 Y, 0, 0) (47, [.ref (mj_NE + 22), .int (iI c), .int (iI (y : Int)), .int (iI (x : Int))], [], Wd xs L A3 V3 Y, 0, 0) := by
    intro y A2 V2 hy hS x
    induction x with
    | zero => intro _; exact ⟨A2, V2, hS, r_rf⟩
    | succ x ih =>
      intro hx
      obtain ⟨A3, V3, hS3, hr⟩ := ih (by omega)
      have n3 := num_bd (x := (x : Int) + 1) (y := (y : Int) + 1) hw hh16 ⟨by omega, by omega⟩ ⟨by omega, by omega⟩
      have n4 := num_bd (x := (x : Int) + 1) (y := (y : Int)) hw hh16 ⟨by omega, by omega⟩ ⟨by omega, by omega⟩
      have ei : ((y * wn + x : Nat) : Int) = (y : Int) * w + x := by rw [ew, Int.natCast_add, Int.natCast_mul]
      have eb : ((y * wn + x + wn : Nat) : Int) = ((y : Int) + 1) * w + x := by
        rw [Int.natCast_add, ei, Int.add_mul, ew]
        omega
      have hV0 : V3 0 = iI w := by rw [hS3.2.2.2.2 0 (by omega) (by omega) (by omega)]; exact h0
      have pb := CtI_dw (K := K) (H := H) (c := c) wn2 hn2 y (by omega)
      have pr := CtI_rw (K := K) (H := H) (c := c) (hn := hn) wn2 ⟨by omega, hn2.2⟩ pb.1 x (by omega)
      have p1 : 2 * ((wn : Int) - 1) * (y : Int) ≤ 2 * 15 * (y : Int) := Int.mul_le_mul_of_nonneg_right (by omega) (by omega)
      obtain ⟨A4, V4, hS4, cq⟩ := c_drawSquareG (xs := xs) (L := L) (Y := Y) (i := y * wn + x) (b := y * wn + x + wn) hK hn256 hS3 hH (by omega) (by omega) hc ⟨by omega, by omega⟩
      have t1 := r_tr hr (r_to (g' := (67, [.ref (mj_NE + 22), .int (iI c), .int (iI (y : Int)), .int (iI (x : Int))], [.int (iI (y : Int)), .int (iI (x : Int)), .ref (mj_NE + 1), .ref (mj_NE + 22)], Wd xs L A3 V3 Y, 0, 0)) ok_Contours_draw 9999 [false] rfl ⟨by
        show ¬ (V3 0 - iI 1 ≤ iI (x : Int))
        rw [hV0, iI_sub, iI_le ⟨by omega, by omega⟩ ⟨by omega, by omega⟩]
        omega, trivial⟩)
      have t2 := r_tr t1 (q_V ok_Contours_draw ok_Land_numberOf se_Land_numberOf (c_num hV0) rfl rfl rfl rfl rfl ⟨rfl, rfl, rfl⟩)
      rw [← ei] at t2
      have t3 : mj_Rc m_Contours_draw 0 0 5 (70, [.ref (mj_NE + 22), .int (iI c), .int (iI (y : Int)), .int (iI (x : Int))], [.int (iI ((y * wn + x : Nat) : Int)), .ref (mj_NE + 22)], Wd xs L A3 V3 Y, 0, 0) (78, [.ref (mj_NE + 22), .int (iI c), .int (iI (y : Int)), .int (iI (x : Int))], [.int (iI (y : Int) + 1), .int (iI (x : Int)), .ref (mj_NE + 1), .int (iI ((y * wn + x : Nat) : Int)), .ref (mj_NE + 22)], Wd xs L A3 V3 Y, 0, 0) := r_to ok_Contours_draw 9999 [] rfl trivial
      rw [iI_1] at t3
      have t4 := r_tr (r_tr t2 t3) (q_V ok_Contours_draw ok_Land_numberOf se_Land_numberOf (c_num hV0) rfl rfl rfl rfl rfl ⟨rfl, rfl, rfl⟩)
      rw [← eb] at t4
      have t5 := r_tr t4 (r_to (g' := (82, [.ref (mj_NE + 22), .int (iI c), .int (iI (y : Int)), .int (iI (x : Int))], [.int (iI c), .int (iI ((y * wn + x + wn : Nat) : Int)), .int (iI ((y * wn + x : Nat) : Int)), .ref (mj_NE + 22)], Wd xs L A3 V3 Y, 0, 0)) ok_Contours_draw 9999 [] rfl trivial)
      have t6 := r_tr t5 (q_V ok_Contours_draw ok_Contours_drawSquare se_Contours_drawSquare cq rfl rfl rfl rfl rfl ⟨rfl, rfl, rfl⟩)
      have t7 := r_tr t6 (r_to (g' := (47, [.ref (mj_NE + 22), .int (iI c), .int (iI (y : Int)), .int (iI (x : Int) + 1)], [], Wd xs L A4 V4 Y, 0, 0)) ok_Contours_draw 47 [] rfl trivial)
      rw [iI_1] at t7
      exact ⟨A4, V4, hS4, t7⟩
  have rows : ∀ y : Nat, (y : Int) ≤ h - 1 → ∃ (A2 : Nat → Nat → Int32) (V2 : Nat → Int32) (u3 : Value), StC A V A2 V2 (dwF K wn H c y) ∧ mj_Rc m_Contours_draw 0 0 5 (0, [.ref (mj_NE + 22), .int (iI c), mj_u, mj_u], [], Wd xs L A V Y, 0, 0) (32, [.ref (mj_NE + 22), .int (iI c), .int (iI (y : Int)), u3], [], Wd xs L A2 V2 Y, 0, 0) := by
    intro y
    induction y with
    | zero => intro _; exact ⟨_, _, _, S0, r2⟩
    | succ y ih =>
      intro hy
      obtain ⟨A2, V2, u3, hS, hr⟩ := ih (by omega)
      have hV1 : V2 1 = iI h := by rw [hS.2.2.2.2 1 (by omega) (by omega) (by omega)]; exact h1
      obtain ⟨A3, V3, hS3, hr3⟩ := row y A2 V2 (by omega) hS (wn - 1) (by omega)
      have hV0 : V3 0 = iI w := by rw [hS3.2.2.2.2 0 (by omega) (by omega) (by omega)]; exact h0
      have t1 := r_tr hr (r_to (g' := (47, [.ref (mj_NE + 22), .int (iI c), .int (iI (y : Int)), .int (iI ((0 : Nat) : Int))], [], Wd xs L A2 V2 Y, 0, 0)) ok_Contours_draw 47 [false] rfl ⟨by
        show ¬ (V2 1 - iI 1 ≤ iI (y : Int))
        rw [hV1, iI_sub, iI_le ⟨by omega, by omega⟩ ⟨by omega, by omega⟩]
        omega, trivial⟩)
      have t3 := r_tr (r_tr t1 hr3) (r_to (g' := (32, [.ref (mj_NE + 22), .int (iI c), .int (iI (y : Int) + 1), .int (iI ((wn - 1 : Nat) : Int))], [], Wd xs L A3 V3 Y, 0, 0)) ok_Contours_draw 32 [true] rfl ⟨by
        show V3 0 - iI 1 ≤ iI ((wn - 1 : Nat) : Int)
        rw [hV0, iI_sub, iI_le ⟨by omega, by omega⟩ ⟨by omega, by omega⟩]
        omega, trivial⟩)
      rw [iI_1] at t3
      exact ⟨A3, V3, _, hS3, t3⟩
  obtain ⟨A2, V2, u3, hS, hr⟩ := rows (hn - 1) (by omega)
  have hV1 : V2 1 = iI h := by rw [hS.2.2.2.2 1 (by omega) (by omega) (by omega)]; exact h1
  exact ⟨A2, V2, hS, ct_of ok_Contours_draw rfl (r_tr hr (r_to ok_Contours_draw 9999 [true] rfl ⟨by
    show V2 1 - iI 1 ≤ iI ((hn - 1 : Nat) : Int)
    rw [hV1, iI_sub, iI_le ⟨by omega, by omega⟩ ⟨by omega, by omega⟩]
    omega, trivial⟩)) rfl rfl rfl rfl rfl⟩
end DRW
