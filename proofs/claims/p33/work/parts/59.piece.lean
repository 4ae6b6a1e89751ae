/-! Contours: addPiece, told in general -/
section ADP
variable {xs : Nat → Int32} {L : Nat} {A0 A : Nat → Nat → Int32} {V0 V : Nat → Int32} {Y : mj_H} {K : Nat} {S : CtS}
theorem c_addPieceG {one other : Int} (hK : K = 512) (hS : StC A0 V0 A V S) (h1 : -1 ≤ one ∧ one < 512) (h2 : -1 ≤ other ∧ other < 512) (hP : 0 ≤ S.2.2.1 ∧ S.2.2.1 < 512) : ∃ (A1 : Nat → Nat → Int32) (V1 : Nat → Int32), StC A0 V0 A1 V1 (apF K S one other) ∧ mj_Ct m_Contours_addPiece [.ref (mj_NE + 22), .int (iI one), .int (iI other)] (Wd xs L A V Y) none (Wd xs L A1 V1 Y) 0 0 3 := by
  by_cases q1 : one < 0
  · have e : apF K S one other = S := if_neg (fun z => by omega)
    rw [e]
    exact ⟨A, V, hS, ct_of ok_Contours_addPiece rfl (r_to ok_Contours_addPiece 9999 [true] rfl ⟨by
      show iI one < iI 0
      rw [iI_lt ⟨by omega, by omega⟩ ⟨by omega, by omega⟩]
      exact q1, trivial⟩) rfl rfl rfl rfl rfl⟩
  · have n1 : ¬ (iI one < iI 0) := by rw [iI_lt ⟨by omega, by omega⟩ ⟨by omega, by omega⟩]; exact q1
    by_cases q2 : other < 0
    · have e : apF K S one other = S := if_neg (fun z => by omega)
      rw [e]
      exact ⟨A, V, hS, ct_of ok_Contours_addPiece rfl (r_to ok_Contours_addPiece 9999 [false, true] rfl ⟨n1, by
        show iI other < iI 0
        rw [iI_lt ⟨by omega, by omega⟩ ⟨by omega, by omega⟩]
        exact q2, trivial⟩) rfl rfl rfl rfl rfl⟩
    · have n2 : ¬ (iI other < iI 0) := by rw [iI_lt ⟨by omega, by omega⟩ ⟨by omega, by omega⟩]; exact q2
      obtain ⟨p, rfl⟩ := Int.eq_ofNat_of_zero_le (show 0 ≤ one by omega)
      obtain ⟨q, rfl⟩ := Int.eq_ofNat_of_zero_le (show 0 ≤ other by omega)
      have e : apF K S (p : Int) (q : Int) = tieF K (tieF K (S.1, S.2.1, S.2.2.1 + 1, S.2.2.2.1 + 1, S.2.2.2.2) p S.2.2.1.toNat) q S.2.2.1.toNat := by
        unfold apF
        rw [if_pos ⟨by omega, by omega⟩, Int.toNat_natCast, Int.toNat_natCast]
      rw [e]
      obtain ⟨s1, s2, ⟨v6, v7, v8⟩, s4, s5⟩ := hS
      have eP : S.2.2.1 = ((S.2.2.1.toNat : Nat) : Int) := by omega
      have S0 : StC A0 V0 A (wV (wV V 6 (V 6 + 1)) 7 (V 7 + 1)) (S.1, S.2.1, S.2.2.1 + 1, S.2.2.2.1 + 1, S.2.2.2.2) := ⟨s1, s2, ⟨by rw [wV_n (by omega), wV_s, v6, iI_1], by rw [wV_s, v7, iI_1], by rw [wV_n (by omega), wV_n (by omega)]; exact v8⟩, s4, fun k h6 h7 h8 => by rw [wV_n h7, wV_n h6, s5 k h6 h7 h8]⟩
      obtain ⟨A1, V1, T1, c1⟩ := c_tie (xs := xs) (L := L) (Y := Y) (pt := p) (pc := S.2.2.1.toNat) hK S0 (by omega) (by omega)
      obtain ⟨A2, V3, T2, c2⟩ := c_tie (xs := xs) (L := L) (Y := Y) (pt := q) (pc := S.2.2.1.toNat) hK T1 (by omega) (by omega)
      have t1 : mj_Rc m_Contours_addPiece 0 0 3 (0, [.ref (mj_NE + 22), .int (iI (p : Int)), .int (iI (q : Int)), mj_u], [], Wd xs L A V Y, 0, 0) (36, [.ref (mj_NE + 22), .int (iI (p : Int)), .int (iI (q : Int)), .int (V 6)], [.int (V 6), .int (iI (p : Int)), .ref (mj_NE + 22)], Wd xs L A (wV (wV V 6 (V 6 + 1)) 7 (V 7 + 1)) Y, 0, 0) := r_to ok_Contours_addPiece 9999 [false, false] rfl ⟨n1, n2, trivial⟩
      rw [v6, eP] at t1
      have ev : ((wV (wV V 6 (V 6 + 1)) 7 (V 7 + 1)) : Nat → Int32) = (wV (wV V 6 (iI ((S.2.2.1.toNat : Nat) : Int) + 1)) 7 (V 7 + 1)) := by rw [v6, eP]; simp only [Int.toNat_natCast]
      have t2 := r_tr t1 (q_V ok_Contours_addPiece ok_Contours_tie se_Contours_tie (by rw [ev] at c1; simpa only [Int.toNat_natCast] using c1) rfl rfl rfl rfl rfl ⟨rfl, rfl, rfl⟩)
      have t3 := r_tr t2 (r_to (g' := (42, [.ref (mj_NE + 22), .int (iI (p : Int)), .int (iI (q : Int)), .int (iI ((S.2.2.1.toNat : Nat) : Int))], [.int (iI ((S.2.2.1.toNat : Nat) : Int)), .int (iI (q : Int)), .ref (mj_NE + 22)], Wd xs L A1 V1 Y, 0, 0)) ok_Contours_addPiece 9999 [] rfl trivial)
      have t4 := r_tr t3 (q_V ok_Contours_addPiece ok_Contours_tie se_Contours_tie c2 rfl rfl rfl rfl rfl ⟨rfl, rfl, rfl⟩)
      exact ⟨A2, V3, T2, ct_of ok_Contours_addPiece rfl t4 rfl rfl rfl rfl rfl⟩
theorem c_CtoldG {k : Int} (hk : 0 ≤ k ∧ k ≤ 2) : mj_Ct m_Contours_told [.ref (mj_NE + 22), .int (iI k)] (Wd xs L A V Y) (some (.int (if k = 0 then V 6 else if k = 1 then V 7 else V 8))) (Wd xs L A V Y) 0 0 0 := by
  have q : k = 0 ∨ k = 1 ∨ k = 2 := by omega
  rcases q with rfl | rfl | rfl
  · exact ct_of ok_Contours_told rfl (r_to ok_Contours_told 9999 [false] rfl ⟨fun q => q rfl, trivial⟩) rfl rfl rfl rfl rfl
  · exact ct_of ok_Contours_told rfl (r_to ok_Contours_told 9999 [true, false] rfl ⟨by show ¬ ((1 : Int32) = 0); decide, fun q => q rfl, trivial⟩) rfl rfl rfl rfl rfl
  · exact ct_of ok_Contours_told rfl (r_to ok_Contours_told 9999 [true, true] rfl ⟨by show ¬ (iI 2 = 0); decide, by show ¬ (iI 2 = iI 1); decide, trivial⟩) rfl rfl rfl rfl rfl
end ADP
