/-! Contours: tie, addPiece in general -/
/-- what lies in the cells: S; A 16 the pieces at the POINTS, A 17 the leaders, V 6, 7, 8 how many -/
def StC (A0 : Nat → Nat → Int32) (V0 : Nat → Int32) (A : Nat → Nat → Int32) (V : Nat → Int32) (S : CtS) : Prop := (∀ p, p < 512 → A 16 p = iI (S.1 p) ∧ -1 ≤ S.1 p ∧ S.1 p < 512) ∧ (∀ j, j < 512 → A 17 j = iI (S.2.1 j) ∧ S.2.1 j < 512) ∧ (V 6 = iI S.2.2.1 ∧ V 7 = iI S.2.2.2.1 ∧ V 8 = iI S.2.2.2.2) ∧ (∀ k, k ≠ 16 → k ≠ 17 → A k = A0 k) ∧ (∀ k, k ≠ 6 → k ≠ 7 → k ≠ 8 → V k = V0 k)
section TIE
variable {xs : Nat → Int32} {L : Nat} {A0 A : Nat → Nat → Int32} {V0 V : Nat → Int32} {Y : mj_H} {K : Nat} {S : CtS}
theorem c_tie {pt pc : Nat} (hK : K = 512) (hS : StC A0 V0 A V S) (hp : pt < 512) (hpc : pc < 512) : ∃ (A1 : Nat → Nat → Int32) (V1 : Nat → Int32), StC A0 V0 A1 V1 (tieF K S pt pc) ∧ mj_Ct m_Contours_tie [.ref (mj_NE + 22), .int (iI (pt : Int)), .int (iI (pc : Int))] (Wd xs L A V Y) none (Wd xs L A1 V1 Y) 0 0 2 := by
  obtain ⟨s1, s2, ⟨v6, v7, v8⟩, s4, s5⟩ := hS
  obtain ⟨e0, b1, b2⟩ := s1 pt hp
  have hc : (iI (pt : Int)).toNatClampNeg = pt := cl_nat (by omega)
  have hin : vp_in (iI (pt : Int)) 512 := in_nat hp (by omega)
  have t1 : mj_Rc m_Contours_tie 0 0 2 (0, [.ref (mj_NE + 22), .int (iI (pt : Int)), .int (iI (pc : Int)), mj_u], [], Wd xs L A V Y, 0, 0) (15, [.ref (mj_NE + 22), .int (iI (pt : Int)), .int (iI (pc : Int)), .int (A 16 (iI (pt : Int)).toNatClampNeg)], [.int (A 16 (iI (pt : Int)).toNatClampNeg)], Wd xs L (wA A 16 (upd (A 16) (iI (pt : Int)).toNatClampNeg (iI (pc : Int)))) V Y, 0, 0) := r_to ok_Contours_tie 15 [] rfl ⟨hin, hin, trivial⟩
  rw [hc, e0] at t1
  have row : ∀ p, p < 512 → (upd (A 16) pt (iI (pc : Int))) p = iI (supI S.1 pt (pc : Int) p) ∧ -1 ≤ supI S.1 pt (pc : Int) p ∧ supI S.1 pt (pc : Int) p < 512 := fun p hp2 => by
    by_cases e : p = pt
    · rw [e, upd_eq, supI_eq]
      exact ⟨rfl, by omega, by omega⟩
    · rw [upd_ne e, supI_ne e]
      exact s1 p hp2
  by_cases q : 0 ≤ S.1 pt
  · have hnn : ¬ (iI (S.1 pt) < iI 0) := by rw [iI_lt ⟨by omega, by omega⟩ ⟨by omega, by omega⟩]; omega
    have hen : S.1 pt = (((S.1 pt).toNat : Nat) : Int) := by omega
    have hl := jnF_lt (K := K) (fun j hj => (s2 j hj).2) (show (S.1 pt).toNat < 512 by omega) hpc
    obtain ⟨A1, g1, g2, cj⟩ := c_joinC (xs := xs) (L := L) (V := V) (Y := Y) (A := (wA A 16 (upd (A 16) pt (iI (pc : Int))))) (f := S.2.1) (m := (S.1 pt).toNat) (b := pc) hK (fun j hj => by rw [wA_n (by omega)]; exact s2 j hj) (by omega) hpc
    rw [← hen] at cj
    have t2 := r_tr t1 (r_to (g' := (24, [.ref (mj_NE + 22), .int (iI (pt : Int)), .int (iI (pc : Int)), .int (iI (S.1 pt))], [.int (iI (pc : Int)), .int (iI (S.1 pt)), .ref (mj_NE + 24)], Wd xs L (wA A 16 (upd (A 16) pt (iI (pc : Int)))) V Y, 0, 0)) ok_Contours_tie 9999 [false] rfl ⟨hnn, trivial⟩)
    have t3 := r_tr t2 (q_V ok_Contours_tie ok_Groups_join se_Groups_join cj rfl rfl rfl rfl rfl ⟨rfl, rfl, rfl⟩)
    have keep : ∀ k, k ≠ 16 → k ≠ 17 → A1 k = A0 k := fun k h1 h2 => by rw [g2 k h2, wA_n h1, s4 k h1 h2]
    have r16 : ∀ p, p < 512 → A1 16 p = iI (supI S.1 pt (pc : Int) p) ∧ -1 ≤ supI S.1 pt (pc : Int) p ∧ supI S.1 pt (pc : Int) p < 512 := fun p hp2 => by
      rw [g2 16 (by omega), wA_s]
      exact row p hp2
    have r17 : ∀ j, j < 512 → A1 17 j = iI ((jnF K S.2.1 (S.1 pt).toNat pc).2 j) ∧ (jnF K S.2.1 (S.1 pt).toNat pc).2 j < 512 := fun j hj => ⟨g1 j hj, hl j hj⟩
    cases hj : (jnF K S.2.1 (S.1 pt).toNat pc).1 with
    | true =>
      rw [hj] at t3
      have e : tieF K S pt pc = (supI S.1 pt (pc : Int), (jnF K S.2.1 (S.1 pt).toNat pc).2, S.2.2.1, S.2.2.2.1 - 1, S.2.2.2.2) := by
        unfold tieF
        rw [if_pos q, if_pos hj]
      rw [e]
      have t4 := r_tr t3 (r_to (g' := (53, [.ref (mj_NE + 22), .int (iI (pt : Int)), .int (iI (pc : Int)), .int (iI (S.1 pt))], [], Wd xs L A1 (wV V 7 (V 7 - 1)) Y, 0, 0)) ok_Contours_tie 9999 [false] rfl ⟨by show ¬ ((1 : Int32) = 0); decide, trivial⟩)
      refine ⟨A1, wV V 7 (V 7 - 1), ⟨r16, r17, ⟨by rw [wV_n (by omega)]; exact v6, by rw [wV_s, v7, show (1 : Int32) = iI 1 from rfl, iI_sub], by rw [wV_n (by omega)]; exact v8⟩, keep, fun k h6 h7 h8 => by rw [wV_n h7, s5 k h6 h7 h8]⟩, ct_of ok_Contours_tie rfl t4 rfl rfl rfl rfl rfl⟩
    | false =>
      rw [hj] at t3
      have e : tieF K S pt pc = (supI S.1 pt (pc : Int), (jnF K S.2.1 (S.1 pt).toNat pc).2, S.2.2.1, S.2.2.2.1, S.2.2.2.2 + 1) := by
        unfold tieF
        rw [if_pos q, if_neg (by rw [hj]; exact Bool.false_ne_true)]
      rw [e]
      have t4 := r_tr t3 (r_to (g' := (53, [.ref (mj_NE + 22), .int (iI (pt : Int)), .int (iI (pc : Int)), .int (iI (S.1 pt))], [], Wd xs L A1 (wV V 8 (V 8 + 1)) Y, 0, 0)) ok_Contours_tie 9999 [true] rfl ⟨by show ((0 : Int32) = 0); rfl, trivial⟩)
      refine ⟨A1, wV V 8 (V 8 + 1), ⟨r16, r17, ⟨by rw [wV_n (by omega)]; exact v6, by rw [wV_n (by omega)]; exact v7, by rw [wV_s, v8, iI_1]⟩, keep, fun k h6 h7 h8 => by rw [wV_n h8, s5 k h6 h7 h8]⟩, ct_of ok_Contours_tie rfl t4 rfl rfl rfl rfl rfl⟩
  · have e : tieF K S pt pc = (supI S.1 pt (pc : Int), S.2.1, S.2.2.1, S.2.2.2.1, S.2.2.2.2) := by
      unfold tieF
      rw [if_neg q]
    rw [e]
    have t2 := r_tr t1 (r_to (g' := (53, [.ref (mj_NE + 22), .int (iI (pt : Int)), .int (iI (pc : Int)), .int (iI (S.1 pt))], [], Wd xs L (wA A 16 (upd (A 16) pt (iI (pc : Int)))) V Y, 0, 0)) ok_Contours_tie 9999 [true] rfl ⟨by
      show iI (S.1 pt) < iI 0
      rw [iI_lt ⟨by omega, by omega⟩ ⟨by omega, by omega⟩]
      omega, trivial⟩)
    exact ⟨_, V, ⟨fun p hp2 => by rw [wA_s]; exact row p hp2, fun j hj => by rw [wA_n (by omega)]; exact s2 j hj, ⟨v6, v7, v8⟩, fun k h1 h2 => by rw [wA_n h1, s4 k h1 h2], s5⟩, ct_of ok_Contours_tie rfl t2 rfl rfl rfl rfl rfl⟩
end TIE
