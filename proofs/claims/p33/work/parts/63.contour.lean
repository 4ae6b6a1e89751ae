/-! the face: contour in general -/
section FCT
variable {xs : Nat → Int32} {L : Nat} {A : Nat → Nat → Int32} {V : Nat → Int32} {Y : mj_H} {K : Nat} {w h : Int} {n wn hn : Nat} {H : Nat → Int}
theorem f_contourG {c k : Int} (hK : K = 512) (hh15 : h ≤ 15) (ew : w = (wn : Int)) (eh : h = (hn : Int)) (hc : 0 ≤ c ∧ c ≤ 999) (hk : 0 ≤ k ∧ k ≤ 2) (hL : LdOK w h n H A V) : ∃ (A1 : Nat → Nat → Int32) (V1 : Nat → Int32), (∀ k, k ≠ 16 → k ≠ 17 → A1 k = A k) ∧ (∀ k, k ≠ 6 → k ≠ 7 → k ≠ 8 → V1 k = V k) ∧ mj_Ct m_W_contour [.ref (mj_NE + 0), .int (iI c), .int (iI k)] (Wd xs L A V Y) (some (.int (iI (if k = 0 then (dwF K wn H c (hn - 1)).2.2.1 else if k = 1 then (dwF K wn H c (hn - 1)).2.2.2.1 else (dwF K wn H c (hn - 1)).2.2.2.2)))) (Wd xs L A1 V1 Y) 0 0 6 := by
  have hL2 := hL
  obtain ⟨h0, h1, hV, hnw, hw, hh, hN, hH⟩ := hL2
  have wh := wh_bd hw hh
  have t1 := r_to (RC := 0) (RS := 0) (dd := 6) (g := (0, [.ref (mj_NE + 0), .int (iI c), .int (iI k)], [], Wd xs L A V Y, 0, 0)) (g' := (5, [.ref (mj_NE + 0), .int (iI c), .int (iI k)], [.int (iI 999), .int (iI 0), .int (iI c)], Wd xs L A V Y, 0, 0)) ok_W_contour 9999 [] rfl trivial
  have t2 := r_tr t1 (q_S ok_W_contour ok_W_checkRange st_W_checkRange (f_checkRange hc ⟨by omega, by omega⟩) rfl rfl rfl rfl ⟨rfl, rfl, rfl⟩)
  have t3 := r_tr t2 (r_to (g' := (11, [.ref (mj_NE + 0), .int (iI c), .int (iI k)], [.int (iI 2), .int (iI 0), .int (iI k)], Wd xs L A V Y, 0, 0)) ok_W_contour 9999 [] rfl trivial)
  have t4 := r_tr t3 (q_S ok_W_contour ok_W_checkRange st_W_checkRange (f_checkRange hk ⟨by omega, by omega⟩) rfl rfl rfl rfl ⟨rfl, rfl, rfl⟩)
  obtain ⟨A1, V1, ⟨-, -, ⟨v6, v7, v8⟩, ka, kv⟩, hct⟩ := c_drawG (xs := xs) (L := L) (A := A) (V := V) (Y := Y) (K := K) (c := c) hK h0 h1 hw ⟨hh.1, hh15⟩ hnw ew eh hH hc
  have t5 := r_tr t4 (r_to (g' := (19, [.ref (mj_NE + 0), .int (iI c), .int (iI k)], [.int (iI c), .ref (mj_NE + 22)], Wd xs L A V Y, 0, 0)) ok_W_contour 9999 [] rfl trivial)
  have t6 := r_tr t5 (q_V ok_W_contour ok_Contours_draw se_Contours_draw (hct) rfl rfl rfl rfl rfl ⟨rfl, rfl, rfl⟩)
  have t7 := r_tr t6 (r_to (g' := (27, [.ref (mj_NE + 0), .int (iI c), .int (iI k)], [.int (iI k), .ref (mj_NE + 22)], Wd xs L A1 V1 Y, 0, 0)) ok_W_contour 9999 [] rfl trivial)
  have t8 := r_tr t7 (q_V ok_W_contour ok_Contours_told se_Contours_told (c_CtoldG hk) rfl rfl rfl rfl rfl ⟨rfl, rfl, rfl⟩)
  have e : (if k = 0 then V1 6 else if k = 1 then V1 7 else V1 8) = iI (if k = 0 then (dwF K wn H c (hn - 1)).2.2.1 else if k = 1 then (dwF K wn H c (hn - 1)).2.2.2.1 else (dwF K wn H c (hn - 1)).2.2.2.2) := by
    split
    · exact v6
    · split
      · exact v7
      · exact v8
  rw [e] at t8
  exact ⟨A1, V1, ka, kv, ct_of ok_W_contour rfl t8 rfl rfl rfl rfl rfl⟩
end FCT
