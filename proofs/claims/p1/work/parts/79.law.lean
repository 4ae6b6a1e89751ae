/-! THE LAW from its entry to its answer -/
theorem and31 (x : Int32) : ∃ k : Nat, k < 32 ∧ x &&& 31 = iI (k : Int) := by
  have h1 : (x &&& 31).toBitVec = x.toBitVec &&& (31 : Int32).toBitVec := rfl
  have h2 : ((x &&& 31).toBitVec).toNat ≤ 31 := by
    rw [h1, BitVec.toNat_and]
    exact Nat.le_trans Nat.and_le_right (by decide)
  refine ⟨(x &&& 31).toBitVec.toNat, by omega, ?_⟩
  have h3 : (x &&& 31).toInt = ((x &&& 31).toBitVec.toNat : Int) := BitVec.toInt_eq_toNat_of_lt (by omega)
  rw [← h3]
  exact (Int32.ofInt_toInt _).symm
abbrev lwV : Nat → Int32 := wV (wV (wV V00 0 (iI 12)) 1 (iI 12)) 2 (iI (12 * 12))
abbrev lwA (f : Nat → Int32) : Nat → Nat → Int32 := wA (wA (fun _ _ => 0) 0 (fl (fun _ => 0) 0 256)) 2 f
theorem lw_LdOK {f : Nat → Int32} (hf : nbOK 12 12 f 144) : LdOK 12 12 144 zF (lwA f) lwV := by
  refine ⟨rfl, rfl, rfl, by omega, ⟨by omega, by omega⟩, ⟨by omega, by omega⟩, hf, fun j hj => ⟨?_, by show (0 : Int) ≤ 0; omega, by show (0 : Int) ≤ 999; omega⟩⟩
  show fl (fun _ => 0) 0 256 j = iI 0
  unfold fl
  rw [if_pos (show j < 256 by omega)]
  exact iI_00.symm
section LAWRUN
variable {xs : Nat → Int32} {L : Nat}
theorem law_pre : ∃ f : Nat → Int32, nbOK 12 12 f 144 ∧ mj_Rc m_law 600002 7302232 1312 (0, [.ref 6, mj_u, mj_u, mj_u, mj_u, mj_u, mj_u, mj_u, mj_u], [], mj_pre xs L [], 0, 0) (23, [.ref 6, .ref (mj_NE + 0), .ref (mj_NE + 32), .ref (mj_NE + 35), .int 0, mj_u, mj_u, mj_u, mj_u], [], Wd xs L (lwA f) lwV (mY 0 (iI 5) (mj_NE + 33) (fun _ => 0) [zO (fun _ => 0)]), 36, 8134) := by
  obtain ⟨f, hf, hW⟩ := i_W (xs := xs) (L := L)
  have t1 := r_toB (RC := 600002) (RS := 7302232) (dd := 1312) (g := (0, [.ref 6, mj_u, mj_u, mj_u, mj_u, mj_u, mj_u, mj_u, mj_u], [], mj_pre xs L [], 0, 0)) (g' := (4, [.ref 6, mj_u, mj_u, mj_u, mj_u, mj_u, mj_u, mj_u, mj_u], [.ref (mj_NE + 0), .ref (mj_NE + 0)], mj_pre xs L [.inr (8, [.null, .null, .null, .null, .null, .null, .null, .int 0])], 1, 8)) ok_law 9999 [] rfl ⟨⟨by decide, by decide⟩, trivial⟩
  have t2 := r_tr t1 (r_IB (rest := [.ref (mj_NE + 0)]) ok_law ok_W_init in_W_init hW rfl rfl rfl rfl ⟨rfl, rfl, rfl⟩)
  have t3 := r_tr t2 (r_toB (g' := (12, [.ref 6, .ref (mj_NE + 0), mj_u, mj_u, mj_u, mj_u, mj_u, mj_u, mj_u], [.ref (mj_NE + 32), .ref (mj_NE + 32)], Wd xs L (lwA f) lwV [.inr (10, [.int 0, .null, .int 0])], 33, 7986)) ok_law 9999 [] rfl ⟨⟨by decide, by decide⟩, trivial⟩)
  have t4 := r_tr t3 (r_IB (rest := [.ref (mj_NE + 32)]) ok_law ok_M_init in_M_init (i_M (A := lwA f) (V := lwV)) rfl rfl rfl rfl ⟨rfl, rfl, rfl⟩)
  have t5 := r_tr t4 (r_toB (g' := (23, [.ref 6, .ref (mj_NE + 0), .ref (mj_NE + 32), .ref (mj_NE + 35), .int 0, mj_u, mj_u, mj_u, mj_u], [], Wd xs L (lwA f) lwV (mY 0 (iI 5) (mj_NE + 33) (fun _ => 0) [zO (fun _ => 0)]), 36, 8134)) ok_law 23 [] rfl ⟨⟨by decide, by decide +kernel, by decide, by decide +kernel⟩, trivial⟩)
  exact ⟨f, hf, t5⟩
theorem law_end {A : Nat → Nat → Int32} {V : Nat → Int32} {Y : mj_H} {cc cs : Nat} : mj_Rc m_law 600002 7302232 1312 (1906, [.ref 6, .ref (mj_NE + 0), .ref (mj_NE + 32), .ref (mj_NE + 35), .int 0, mj_u, mj_u, mj_u, mj_u], [], Wd xs 6 A V Y, cc, cs) (1913, [.ref 6, .ref (mj_NE + 0), .ref (mj_NE + 32), .ref (mj_NE + 35), .int (0 + 6), mj_u, mj_u, mj_u, mj_u], [.int 1], Wd xs 6 A V Y, cc, cs) :=
  r_toB ok_law 9999 [true] rfl ⟨by show Int32.ofNat 6 - 6 < (0 : Int32) + 6; decide +kernel, trivial⟩
theorem law_few (hL : L < 6) {A : Nat → Nat → Int32} {V : Nat → Int32} {Y : mj_H} {cc cs : Nat} : mj_Rc m_law 600002 7302232 1312 (23, [.ref 6, .ref (mj_NE + 0), .ref (mj_NE + 32), .ref (mj_NE + 35), .int 0, mj_u, mj_u, mj_u, mj_u], [], Wd xs L A V Y, cc, cs) (1913, [.ref 6, .ref (mj_NE + 0), .ref (mj_NE + 32), .ref (mj_NE + 35), .int 0, mj_u, mj_u, mj_u, mj_u], [.int 1], Wd xs L A V Y, cc, cs) := by
  have h : Int32.ofNat L - 6 < (0 : Int32) := by
    have q : L = 0 ∨ L = 1 ∨ L = 2 ∨ L = 3 ∨ L = 4 ∨ L = 5 := by omega
    rcases q with rfl | rfl | rfl | rfl | rfl | rfl
    all_goals decide +kernel
  exact r_toB ok_law 9999 [true] rfl ⟨h, trivial⟩
theorem law_six {A : Nat → Nat → Int32} {V : Nat → Int32} {Y : mj_H} {cc cs : Nat} : mj_Rc m_law 600002 7302232 1312 (23, [.ref 6, .ref (mj_NE + 0), .ref (mj_NE + 32), .ref (mj_NE + 35), .int 0, mj_u, mj_u, mj_u, mj_u], [], Wd xs 6 A V Y, cc, cs) (40, [.ref 6, .ref (mj_NE + 0), .ref (mj_NE + 32), .ref (mj_NE + 35), .int 0, mj_u, mj_u, mj_u, mj_u], [.int (xs 0 &&& 31)], Wd xs 6 A V Y, cc, cs) :=
  r_toB ok_law 9999 [false] rfl ⟨by show ¬ (Int32.ofNat 6 - 6 < (0 : Int32)); decide +kernel, v6_0, trivial⟩
theorem law_case {k : Nat} (hk : k < 32) {A : Nat → Nat → Int32} {V : Nat → Int32} {t : Int32} {f : Nat → Int32} {o : Nat → Int64} {cc cs : Nat} (hL : LdOK 12 12 144 zF A V) (hbr : V 10 = iI 5) (hf : Hts f 144 zF) (hc : cc ≤ 1000 ∧ cs ≤ 100000) : ∃ hd : Nat, (∀ Y : mj_H, mj_Rc m_law 600002 7302232 1312 (40, [.ref 6, .ref (mj_NE + 0), .ref (mj_NE + 32), .ref (mj_NE + 35), .int 0, mj_u, mj_u, mj_u, mj_u], [.int (iI (k : Int))], Wd xs 6 A V Y, cc, cs) (hd, [.ref 6, .ref (mj_NE + 0), .ref (mj_NE + 32), .ref (mj_NE + 35), .int 0, mj_u, mj_u, mj_u, mj_u], [], Wd xs 6 A V Y, cc, cs)) ∧ LwE xs A V t f o hd cc cs := by
  have hq : k = 0 ∨ k = 1 ∨ k = 2 ∨ k = 3 ∨ k = 4 ∨ k = 5 ∨ k = 6 ∨ k = 7 ∨ k = 8 ∨ k = 9 ∨ k = 10 ∨ k = 11 ∨ k = 12 ∨ k = 13 ∨ k = 14 ∨ k = 15 ∨ k = 16 ∨ k = 17 ∨ k = 18 ∨ k = 19 ∨ k = 20 ∨ k = 21 ∨ k = 22 ∨ k = 23 ∨ k = 24 ∨ k = 25 ∨ k = 26 ∨ k = 27 ∨ k = 28 ∨ k = 29 ∨ 30 ≤ k := by omega
  rcases hq with rfl | rfl | rfl | rfl | rfl | rfl | rfl | rfl | rfl | rfl | rfl | rfl | rfl | rfl | rfl | rfl | rfl | rfl | rfl | rfl | rfl | rfl | rfl | rfl | rfl | rfl | rfl | rfl | rfl | rfl | hq
  · exact ⟨176, fun Y => r_swIB (tgt := 176) ok_law rfl ⟨by omega, by omega⟩ (by omega) (by omega) rfl rfl, e_reset hL hbr hf hc⟩
  · exact ⟨244, fun Y => r_swIB (tgt := 244) ok_law rfl ⟨by omega, by omega⟩ (by omega) (by omega) rfl rfl, e_set hL hbr hf hc⟩
  · exact ⟨324, fun Y => r_swIB (tgt := 324) ok_law rfl ⟨by omega, by omega⟩ (by omega) (by omega) rfl rfl, e_tilt hL hbr hf hc⟩
  · exact ⟨404, fun Y => r_swIB (tgt := 404) ok_law rfl ⟨by omega, by omega⟩ (by omega) (by omega) rfl rfl, e_hill hL hbr hf hc⟩
  · exact ⟨496, fun Y => r_swIB (tgt := 496) ok_law rfl ⟨by omega, by omega⟩ (by omega) (by omega) rfl rfl, e_dig hL hbr hf hc⟩
  · exact ⟨600, fun Y => r_swIB (tgt := 600) ok_law rfl ⟨by omega, by omega⟩ (by omega) (by omega) rfl rfl, e_smooth hL hbr hf hc⟩
  · exact ⟨613, fun Y => r_swIB (tgt := 613) ok_law rfl ⟨by omega, by omega⟩ (by omega) (by omega) rfl rfl, e_wear hL hbr hf hc⟩
  · exact ⟨669, fun Y => r_swIB (tgt := 669) ok_law rfl ⟨by omega, by omega⟩ (by omega) (by omega) rfl rfl, e_fill hL hbr hf hc⟩
  · exact ⟨682, fun Y => r_swIB (tgt := 682) ok_law rfl ⟨by omega, by omega⟩ (by omega) (by omega) rfl rfl, e_setBrook hL hbr hf hc⟩
  · exact ⟨738, fun Y => r_swIB (tgt := 738) ok_law rfl ⟨by omega, by omega⟩ (by omega) (by omega) rfl rfl, e_map hL hbr hf hc⟩
  · exact ⟨794, fun Y => r_swIB (tgt := 794) ok_law rfl ⟨by omega, by omega⟩ (by omega) (by omega) rfl rfl, e_height hL hbr hf hc⟩
  · exact ⟨862, fun Y => r_swIB (tgt := 862) ok_law rfl ⟨by omega, by omega⟩ (by omega) (by omega) rfl rfl, e_water hL hbr hf hc⟩
  · exact ⟨942, fun Y => r_swIB (tgt := 942) ok_law rfl ⟨by omega, by omega⟩ (by omega) (by omega) rfl rfl, e_basins hL hbr hf hc⟩
  · exact ⟨955, fun Y => r_swIB (tgt := 955) ok_law rfl ⟨by omega, by omega⟩ (by omega) (by omega) rfl rfl, e_pits hL hbr hf hc⟩
  · exact ⟨968, fun Y => r_swIB (tgt := 968) ok_law rfl ⟨by omega, by omega⟩ (by omega) (by omega) rfl rfl, e_mostRank hL hbr hf hc⟩
  · exact ⟨981, fun Y => r_swIB (tgt := 981) ok_law rfl ⟨by omega, by omega⟩ (by omega) (by omega) rfl rfl, e_longestStream hL hbr hf hc⟩
  · exact ⟨994, fun Y => r_swIB (tgt := 994) ok_law rfl ⟨by omega, by omega⟩ (by omega) (by omega) rfl rfl, e_level hL hbr hf hc⟩
  · exact ⟨1062, fun Y => r_swIB (tgt := 1062) ok_law rfl ⟨by omega, by omega⟩ (by omega) (by omega) rfl rfl, e_lakes hL hbr hf hc⟩
  · exact ⟨1075, fun Y => r_swIB (tgt := 1075) ok_law rfl ⟨by omega, by omega⟩ (by omega) (by omega) rfl rfl, e_lake hL hbr hf hc⟩
  · exact ⟨1155, fun Y => r_swIB (tgt := 1155) ok_law rfl ⟨by omega, by omega⟩ (by omega) (by omega) rfl rfl, e_volume hL hbr hf hc⟩
  · exact ⟨1168, fun Y => r_swIB (tgt := 1168) ok_law rfl ⟨by omega, by omega⟩ (by omega) (by omega) rfl rfl, e_contour hL hbr hf hc⟩
  · exact ⟨1236, fun Y => r_swIB (tgt := 1236) ok_law rfl ⟨by omega, by omega⟩ (by omega) (by omega) rfl rfl, e_sees hL hbr hf hc⟩
  · exact ⟨1347, fun Y => r_swIB (tgt := 1347) ok_law rfl ⟨by omega, by omega⟩ (by omega) (by omega) rfl rfl, e_seen hL hbr hf hc⟩
  · exact ⟨1427, fun Y => r_swIB (tgt := 1427) ok_law rfl ⟨by omega, by omega⟩ (by omega) (by omega) rfl rfl, e_takes hL hbr hf hc⟩
  · exact ⟨1519, fun Y => r_swIB (tgt := 1519) ok_law rfl ⟨by omega, by omega⟩ (by omega) (by omega) rfl rfl, e_way hL hbr hf hc⟩
  · exact ⟨1623, fun Y => r_swIB (tgt := 1623) ok_law rfl ⟨by omega, by omega⟩ (by omega) (by omega) rfl rfl, e_steepness hL hbr hf hc⟩
  · exact ⟨1664, fun Y => r_swIB (tgt := 1664) ok_law rfl ⟨by omega, by omega⟩ (by omega) (by omega) rfl rfl, e_volumeWith hL hbr hf hc⟩
  · exact ⟨1744, fun Y => r_swIB (tgt := 1744) ok_law rfl ⟨by omega, by omega⟩ (by omega) (by omega) rfl rfl, e_endsWith hL hbr hf hc⟩
  · exact ⟨1824, fun Y => r_swIB (tgt := 1824) ok_law rfl ⟨by omega, by omega⟩ (by omega) (by omega) rfl rfl, e_lookout hL hbr hf hc⟩
  · exact ⟨1892, fun Y => r_swIB (tgt := 1892) ok_law rfl ⟨by omega, by omega⟩ (by omega) (by omega) rfl rfl, e_digest hL hbr hf hc⟩
  · exact ⟨1906, fun Y => r_swOB (tgt := 1906) ok_law rfl ⟨by omega, by omega⟩ (Or.inr (by omega)) rfl, A, V, _, cc, cs, fun κ hX hz k => k κ mj_al_rf hX hz, by omega, by omega⟩
theorem law_G (hL : L ≤ 6) {κ : mj_K} (hX : mj_X m_law 600002 7302232 1312 κ) (hz : mj_Tz κ) (k : ∀ κ' : mj_K, mj_al 7 κ κ' → mj_X m_law 600002 7302232 1312 κ' → ∀ (L' : List Value) (h' : mj_H) (cc cs : Nat), cc ≤ 600002 → cs ≤ 7302232 → mj_G κ' (1913, L', [.int 1], h', cc, cs)) : mj_G κ (0, [.ref 6, mj_u, mj_u, mj_u, mj_u, mj_u, mj_u, mj_u, mj_u], [], mj_pre xs L [], 0, 0) := by
  obtain ⟨f, hf, t1⟩ := law_pre (xs := xs) (L := L)
  refine t1 κ hX ?_
  by_cases h6 : L < 6
  · exact law_few h6 κ hX (k κ mj_al_rf hX _ _ _ _ (by omega) (by omega))
  · have e6 : L = 6 := by omega
    subst e6
    refine law_six κ hX ?_
    obtain ⟨i, hi, ei⟩ := and31 (xs 0)
    obtain ⟨hd, sw, A', V', Y', c', s', hR, hc1, hc2⟩ := law_case (xs := xs) (t := 0) (f := fun _ => 0) (o := fun _ => 0) (cc := 36) (cs := 8134) hi (lw_LdOK hf) (by decide +kernel) (fun j _ => ⟨iI_00.symm, by show (0 : Int) ≤ 0; omega, by show (0 : Int) ≤ 999; omega⟩) ⟨by omega, by omega⟩
    rw [ei]
    refine sw _ κ hX ?_
    exact hR κ hX hz fun κ' al hX' hz' => law_end κ' hX' (k κ' (mj_al_le (by omega) al) hX' _ _ _ _ hc1 hc2)
end LAWRUN
