/-! THE LAW on the first land: every case comes to the end of its round -/
def LwE (xs : Nat → Int32) (A : Nat → Nat → Int32) (V : Nat → Int32) (t : Int32) (f : Nat → Int32) (o : Nat → Int64) (hd cc cs : Nat) : Prop := ∃ (A' : Nat → Nat → Int32) (V' : Nat → Int32) (Y' : mj_H) (c' s' : Nat), mj_Rz m_law 600002 7302232 1312 43 (hd, [.ref 6, .ref (mj_NE + 0), .ref (mj_NE + 32), .ref (mj_NE + 35), .int 0, mj_u, mj_u, mj_u, mj_u], [], Wd xs 6 A V (mY t (iI 5) (mj_NE + 33) f [zO o]), cc, cs) (1906, [.ref 6, .ref (mj_NE + 0), .ref (mj_NE + 32), .ref (mj_NE + 35), .int 0, mj_u, mj_u, mj_u, mj_u], [], Wd xs 6 A' V' Y', c', s') ∧ c' ≤ 600002 ∧ s' ≤ 7302232
section ENDS
variable {xs : Nat → Int32} {A : Nat → Nat → Int32} {V : Nat → Int32} {t : Int32} {f : Nat → Int32} {o : Nat → Int64} {cc cs : Nat}
theorem e_reset (hL : LdOK 12 12 144 zF A V) (hbr : V 10 = iI 5) (hf : Hts f 144 zF) (hc : cc ≤ 1000 ∧ cs ≤ 100000) : LwE xs A V t f o 176 cc cs := by
  have hz0 : ∀ j : Nat, j < 144 → f j = iI 0 := fun j hj => (hf j hj).1
  obtain ⟨z1, e1, r1⟩ := x_int (xs 1)
  obtain ⟨z2, e2, r2⟩ := x_int (xs 2)
  by_cases c0 : 2 ≤ z1 ∧ z1 ≤ 16
  · skip
    by_cases c1 : 2 ≤ z2 ∧ z2 ≤ 16
    · skip
      obtain ⟨A1, V1, -, hW⟩ := f_reset (xs := xs) (L := 6) (Y := mY t (iI 5) (mj_NE + 33) f [zO o]) (p := z1) (q := z2) (by omega) (by omega) hL
      obtain ⟨b2, ld2, f2, Z2, hM⟩ := m_resetA (xs := xs) (L := 6) (A := A1) (V := V1) (t := t) (f := f) (o := vp_updL o 0 (iI (z1 * z2) : Int32).toInt64) (b := iI 5) (p := z1) (q := z2) (by omega) (by omega) (by omega) (by omega)
      exact ⟨_, _, _, _, _, lw_reset_A e1 e2 (w_reset_A (cd_of hW)) (cd_of hM) (up0i rfl) ⟨by omega, by omega, by omega, by omega⟩, by omega, by omega⟩
    · exact ⟨_, _, _, _, _, lw_reset_R e1 e2 (w_reset_R1 (x_reset1 (by omega) (by omega) (by omega))) (cd_of (m_resetR1 (by omega) (by omega) (by omega) (by omega))) (by decide +kernel) (by decide) ⟨by omega, by omega, by omega, by omega⟩, by omega, by omega⟩
  · exact ⟨_, _, _, _, _, lw_reset_R e1 e2 (w_reset_R1 (x_reset0 (by omega) (by omega))) (cd_of (m_resetR0 (by omega) (by omega) (by omega))) (by decide +kernel) (by decide) ⟨by omega, by omega, by omega, by omega⟩, by omega, by omega⟩
theorem e_set (hL : LdOK 12 12 144 zF A V) (hbr : V 10 = iI 5) (hf : Hts f 144 zF) (hc : cc ≤ 1000 ∧ cs ≤ 100000) : LwE xs A V t f o 244 cc cs := by
  have hz0 : ∀ j : Nat, j < 144 → f j = iI 0 := fun j hj => (hf j hj).1
  obtain ⟨z1, e1, r1⟩ := x_int (xs 1)
  obtain ⟨z2, e2, r2⟩ := x_int (xs 2)
  obtain ⟨z3, e3, r3⟩ := x_int (xs 3)
  by_cases c0 : (0 ≤ z1 ∧ z1 < 12) ∧ 0 ≤ z2 ∧ z2 < 12
  · skip
    by_cases c1 : 0 ≤ z3 ∧ z3 ≤ 999
    · skip
      have hW := f_set (xs := xs) (L := 6) (Y := mY t (iI 5) (mj_NE + 33) f [zO o]) (x := z1) (y := z2) (z := z3) (by omega) (by omega) (by omega) hL
      obtain ⟨f2, hM⟩ := m_setA (xs := xs) (L := 6) (A := (wA A 0 (upd (A 0) (z2 * 12 + z1).toNat (iI z3)))) (V := V) (t := t) (f := f) (o := vp_updL o 0 (iI (zF (z2 * 12 + z1).toNat) : Int32).toInt64) (b := iI 5) (x := z1) (y := z2) (z := z3) (by omega) (by omega) (by omega) (by omega) (by omega) (by omega) hf
      exact ⟨_, _, _, _, _, lw_set_A e1 e2 e3 (w_set_A (cd_of hW)) (cd_of hM) (up0i rfl) ⟨by omega, by omega, by omega, by omega⟩, by omega, by omega⟩
    · exact ⟨_, _, _, _, _, lw_set_R e1 e2 e3 (w_set_R2 (x_set1 hL (by omega) (by omega) (by omega) (by omega))) (cd_of (m_setR1 (by omega) (by omega) (by omega) (by omega) (by omega) (by omega))) (by decide +kernel) (by decide) ⟨by omega, by omega, by omega, by omega⟩, by omega, by omega⟩
  · exact ⟨_, _, _, _, _, lw_set_R e1 e2 e3 (w_set_R1 (x_set0 hL (by omega) (by omega) (by omega))) (cd_of (m_setR0 (by omega) (by omega) (by omega) (by omega))) (by decide +kernel) (by decide) ⟨by omega, by omega, by omega, by omega⟩, by omega, by omega⟩
theorem e_tilt (hL : LdOK 12 12 144 zF A V) (hbr : V 10 = iI 5) (hf : Hts f 144 zF) (hc : cc ≤ 1000 ∧ cs ≤ 100000) : LwE xs A V t f o 324 cc cs := by
  have hz0 : ∀ j : Nat, j < 144 → f j = iI 0 := fun j hj => (hf j hj).1
  obtain ⟨z1, e1, r1⟩ := x_int (xs 1)
  obtain ⟨z2, e2, r2⟩ := x_int (xs 2)
  obtain ⟨z3, e3, r3⟩ := x_int (xs 3)
  by_cases c0 : -100 ≤ z1 ∧ z1 ≤ 100
  · skip
    by_cases c1 : -100 ≤ z2 ∧ z2 ≤ 100
    · skip
      by_cases c2 : -100 ≤ z3 ∧ z3 ≤ 100
      · skip
        have hW := f_tilt (xs := xs) (L := 6) (Y := mY t (iI 5) (mj_NE + 33) f [zO o]) (p := z1) (q := z2) (r := z3) (by omega) (by omega) (by omega) hL
        obtain ⟨f2, hM⟩ := m_tiltA (xs := xs) (L := 6) (A := (wA A 0 (pw (fun j => iI (slH 12 z1 z2 z3 zF j)) (A 0) 144))) (V := V) (t := t) (f := f) (o := vp_updL o 0 (iI (mxH (slH 12 z1 z2 z3 zF) 144) : Int32).toInt64) (b := iI 5) (p := z1) (q := z2) (r := z3) (by omega) (by omega) (by omega) (by omega) (by omega) (by omega) hf
        exact ⟨_, _, _, _, _, lw_tilt_A e1 e2 e3 (w_tilt_A (cd_of hW)) (cd_of hM) (up0i rfl) ⟨by omega, by omega, by omega, by omega⟩, by omega, by omega⟩
      · exact ⟨_, _, _, _, _, lw_tilt_R e1 e2 e3 (w_tilt_R1 (x_tilt2 (by omega) (by omega) (by omega) (by omega))) (cd_of (m_tiltR2 (by omega) (by omega) (by omega) (by omega) (by omega) (by omega))) (by decide +kernel) (by decide) ⟨by omega, by omega, by omega, by omega⟩, by omega, by omega⟩
    · exact ⟨_, _, _, _, _, lw_tilt_R e1 e2 e3 (w_tilt_R1 (x_tilt1 (by omega) (by omega) (by omega))) (cd_of (m_tiltR1 (by omega) (by omega) (by omega) (by omega) (by omega))) (by decide +kernel) (by decide) ⟨by omega, by omega, by omega, by omega⟩, by omega, by omega⟩
  · exact ⟨_, _, _, _, _, lw_tilt_R e1 e2 e3 (w_tilt_R1 (x_tilt0 (by omega) (by omega))) (cd_of (m_tiltR0 (by omega) (by omega) (by omega) (by omega))) (by decide +kernel) (by decide) ⟨by omega, by omega, by omega, by omega⟩, by omega, by omega⟩
theorem e_hill (hL : LdOK 12 12 144 zF A V) (hbr : V 10 = iI 5) (hf : Hts f 144 zF) (hc : cc ≤ 1000 ∧ cs ≤ 100000) : LwE xs A V t f o 404 cc cs := by
  have hz0 : ∀ j : Nat, j < 144 → f j = iI 0 := fun j hj => (hf j hj).1
  obtain ⟨z1, e1, r1⟩ := x_int (xs 1)
  obtain ⟨z2, e2, r2⟩ := x_int (xs 2)
  obtain ⟨z3, e3, r3⟩ := x_int (xs 3)
  obtain ⟨z4, e4, r4⟩ := x_int (xs 4)
  by_cases c0 : (0 ≤ z1 ∧ z1 < 12) ∧ 0 ≤ z2 ∧ z2 < 12
  · skip
    by_cases c1 : 0 ≤ z3 ∧ z3 ≤ 8
    · skip
      by_cases c2 : -500 ≤ z4 ∧ z4 ≤ 500
      · skip
        have hW := f_hill (xs := xs) (L := 6) (Y := mY t (iI 5) (mj_NE + 33) f [zO o]) (x := z1) (y := z2) (r := z3) (b := z4) (by omega) (by omega) (by omega) (by omega) hL
        obtain ⟨f2, hM⟩ := m_hillA (xs := xs) (L := 6) (A := (wA A 0 (pw (fun j => iI (raH 12 z1 z2 z3 z4 zF j)) (A 0) 144))) (V := V) (t := t) (f := f) (o := vp_updL o 0 (iI (cnt (fun j => decide (raH 12 z1 z2 z3 z4 zF j ≠ zF j)) 144) : Int32).toInt64) (b := iI 5) (x := z1) (y := z2) (r := z3) (b0 := z4) (by omega) (by omega) (by omega) (by omega) (by omega) (by omega) (by omega) (by omega) hf
        exact ⟨_, _, _, _, _, lw_hill_A e1 e2 e3 e4 (w_hill_A (cd_of hW)) (cd_of hM) (up0i rfl) ⟨by omega, by omega, by omega, by omega⟩, by omega, by omega⟩
      · exact ⟨_, _, _, _, _, lw_hill_R e1 e2 e3 e4 (w_hill_R2 (x_hill2 hL (by omega) (by omega) (by omega) (by omega) (by omega))) (cd_of (m_hillR2 (by omega) (by omega) (by omega) (by omega) (by omega) (by omega) (by omega) (by omega))) (by decide +kernel) (by decide) ⟨by omega, by omega, by omega, by omega⟩, by omega, by omega⟩
    · exact ⟨_, _, _, _, _, lw_hill_R e1 e2 e3 e4 (w_hill_R2 (x_hill1 hL (by omega) (by omega) (by omega) (by omega))) (cd_of (m_hillR1 (by omega) (by omega) (by omega) (by omega) (by omega) (by omega) (by omega))) (by decide +kernel) (by decide) ⟨by omega, by omega, by omega, by omega⟩, by omega, by omega⟩
  · exact ⟨_, _, _, _, _, lw_hill_R e1 e2 e3 e4 (w_hill_R1 (x_hill0 hL (by omega) (by omega) (by omega))) (cd_of (m_hillR0 (by omega) (by omega) (by omega) (by omega) (by omega))) (by decide +kernel) (by decide) ⟨by omega, by omega, by omega, by omega⟩, by omega, by omega⟩
theorem e_dig (hL : LdOK 12 12 144 zF A V) (hbr : V 10 = iI 5) (hf : Hts f 144 zF) (hc : cc ≤ 1000 ∧ cs ≤ 100000) : LwE xs A V t f o 496 cc cs := by
  have hz0 : ∀ j : Nat, j < 144 → f j = iI 0 := fun j hj => (hf j hj).1
  obtain ⟨z1, e1, r1⟩ := x_int (xs 1)
  obtain ⟨z2, e2, r2⟩ := x_int (xs 2)
  obtain ⟨z3, e3, r3⟩ := x_int (xs 3)
  obtain ⟨z4, e4, r4⟩ := x_int (xs 4)
  obtain ⟨z5, e5, r5⟩ := x_int (xs 5)
  by_cases c0 : (0 ≤ z1 ∧ z1 < 12) ∧ 0 ≤ z2 ∧ z2 < 12
  · skip
    by_cases c1 : (0 ≤ z3 ∧ z3 < 12) ∧ 0 ≤ z4 ∧ z4 < 12
    · skip
      by_cases c2 : 0 ≤ z5 ∧ z5 ≤ 999
      · skip
        have hW := f_dig (xs := xs) (L := 6) (Y := mY t (iI 5) (mj_NE + 33) f [zO o]) (x := z1) (y := z2) (p := z3) (q := z4) (z := z5) (by omega) (by omega) (by omega) (by omega) (by omega) (fun _ _ => by show (0 : Int) ≤ _; omega) hL
        obtain ⟨f2, hM⟩ := m_digA (xs := xs) (L := 6) (A := A) (V := V) (t := t) (f := f) (o := vp_updL o 0 (0 : Int32).toInt64) (b := iI 5) (x := z1) (y := z2) (p := z3) (q := z4) (z := z5) (by omega) (by omega) (by omega) (by omega) (by omega) (by omega) (by omega) (by omega) (by omega) (by omega) hf
        exact ⟨_, _, _, _, _, lw_dig_A e1 e2 e3 e4 e5 (w_dig_A (cd_of hW)) (cd_of hM) (up0i iI_00.symm) ⟨by omega, by omega, by omega, by omega⟩, by omega, by omega⟩
      · exact ⟨_, _, _, _, _, lw_dig_R e1 e2 e3 e4 e5 (w_dig_R2 (x_dig2 hL (by omega) (by omega) (by omega) (by omega) (by omega) (by omega))) (cd_of (m_digR2 (by omega) (by omega) (by omega) (by omega) (by omega) (by omega) (by omega) (by omega) (by omega) (by omega))) (by decide +kernel) (by decide) ⟨by omega, by omega, by omega, by omega⟩, by omega, by omega⟩
    · exact ⟨_, _, _, _, _, lw_dig_R e1 e2 e3 e4 e5 (w_dig_R1 (x_dig1 hL (by omega) (by omega) (by omega) (by omega) (by omega))) (cd_of (m_digR1 (by omega) (by omega) (by omega) (by omega) (by omega) (by omega) (by omega) (by omega))) (by decide +kernel) (by decide) ⟨by omega, by omega, by omega, by omega⟩, by omega, by omega⟩
  · exact ⟨_, _, _, _, _, lw_dig_R e1 e2 e3 e4 e5 (w_dig_R1 (x_dig0 hL (by omega) (by omega) (by omega))) (cd_of (m_digR0 (by omega) (by omega) (by omega) (by omega) (by omega) (by omega))) (by decide +kernel) (by decide) ⟨by omega, by omega, by omega, by omega⟩, by omega, by omega⟩
theorem e_smooth (hL : LdOK 12 12 144 zF A V) (hbr : V 10 = iI 5) (hf : Hts f 144 zF) (hc : cc ≤ 1000 ∧ cs ≤ 100000) : LwE xs A V t f o 600 cc cs := by
  have hz0 : ∀ j : Nat, j < 144 → f j = iI 0 := fun j hj => (hf j hj).1
  have hW := f_smooth (xs := xs) (L := 6) (Y := mY t (iI 5) (mj_NE + 33) f [zO o]) hL
  exact ⟨_, _, _, _, _, lw_smooth (cd_of hW) (cd_of (m_smoothA hf)) (congrArg iI sm_flat) ⟨by omega, by omega, by omega, by omega⟩, by omega, by omega⟩
theorem e_wear (hL : LdOK 12 12 144 zF A V) (hbr : V 10 = iI 5) (hf : Hts f 144 zF) (hc : cc ≤ 1000 ∧ cs ≤ 100000) : LwE xs A V t f o 613 cc cs := by
  have hz0 : ∀ j : Nat, j < 144 → f j = iI 0 := fun j hj => (hf j hj).1
  obtain ⟨z1, e1, r1⟩ := x_int (xs 1)
  by_cases c0 : 1 ≤ z1 ∧ z1 ≤ 50
  · skip
    obtain ⟨A1, V1, od, hR, -, -, hW⟩ := f_wear (xs := xs) (L := 6) (Y := mY t (iI 5) (mj_NE + 33) f [zO o]) (b := 5) (k := z1) hbr ⟨by omega, by omega⟩ (by omega) hL
    exact ⟨_, _, _, _, _, lw_wear_A e1 (w_wear_A (cd_of hW)) (cd_of (m_wearA (k := z1) (by omega) (by omega) hf)) (up0i (by rw [lsm_flat 144 (Nat.le_refl _)])) ⟨by omega, by omega, by omega, by omega⟩, by omega, by omega⟩
  · exact ⟨_, _, _, _, _, lw_wear_R e1 (w_wear_R1 (x_wear0 (by omega) (by omega))) (cd_of (m_wearR0 (by omega) (by omega))) (by decide +kernel) (by decide) ⟨by omega, by omega, by omega, by omega⟩, by omega, by omega⟩
theorem e_fill (hL : LdOK 12 12 144 zF A V) (hbr : V 10 = iI 5) (hf : Hts f 144 zF) (hc : cc ≤ 1000 ∧ cs ≤ 100000) : LwE xs A V t f o 669 cc cs := by
  have hz0 : ∀ j : Nat, j < 144 → f j = iI 0 := fun j hj => (hf j hj).1
  obtain ⟨A1, V1, -, -, hW⟩ := f_fill (xs := xs) (L := 6) (Y := mY t (iI 5) (mj_NE + 33) f [zO o]) hno0 hL
  obtain ⟨fm1, fd1, fm2, fd2, hM⟩ := m_fillA (xs := xs) (L := 6) (A := (wA A1 0 (pw (fun j => iI (zF j)) (A1 0) 144))) (V := V1) (t := t) (f := f) (o := o) (b := iI 5) hno0 hf
  exact ⟨_, _, _, _, _, lw_fill (cd_of hW) (cd_of hM) rfl ⟨by omega, by omega, by omega, by omega⟩, by omega, by omega⟩
theorem e_setBrook (hL : LdOK 12 12 144 zF A V) (hbr : V 10 = iI 5) (hf : Hts f 144 zF) (hc : cc ≤ 1000 ∧ cs ≤ 100000) : LwE xs A V t f o 682 cc cs := by
  have hz0 : ∀ j : Nat, j < 144 → f j = iI 0 := fun j hj => (hf j hj).1
  obtain ⟨z1, e1, r1⟩ := x_int (xs 1)
  by_cases c0 : 1 ≤ z1 ∧ z1 ≤ 100
  · skip
    have hW := f_setBrook (xs := xs) (L := 6) (Y := mY t (iI 5) (mj_NE + 33) f [zO o]) (b := z1) (by omega) hL
    exact ⟨_, _, _, _, _, lw_setBrook_A e1 (w_setBrook_A (cd_of hW)) (cd_of (m_setBrookA (k := z1) (by omega))) (up0i hbr) ⟨by omega, by omega, by omega, by omega⟩, by omega, by omega⟩
  · exact ⟨_, _, _, _, _, lw_setBrook_R e1 (w_setBrook_R1 (x_setBrook0 (by omega) (by omega))) (cd_of (m_setBrookR (by omega) (by omega))) (by decide +kernel) (by decide) ⟨by omega, by omega, by omega, by omega⟩, by omega, by omega⟩
theorem e_map (hL : LdOK 12 12 144 zF A V) (hbr : V 10 = iI 5) (hf : Hts f 144 zF) (hc : cc ≤ 1000 ∧ cs ≤ 100000) : LwE xs A V t f o 738 cc cs := by
  have hz0 : ∀ j : Nat, j < 144 → f j = iI 0 := fun j hj => (hf j hj).1
  obtain ⟨z1, e1, r1⟩ := x_int (xs 1)
  by_cases c0 : 0 ≤ z1 ∧ z1 ≤ 4
  · skip
    have hW := f_map (xs := xs) (L := 6) (Y := mY t (iI 5) (mj_NE + 33) f [zO o]) (k := z1) (by omega) hL
    obtain ⟨g, hM⟩ := m_mapA (xs := xs) (L := 6) (A := A) (V := V) (t := t) (f := f) (o := vp_updL o 0 (iI (toldH 12 12 zF 144 z1) : Int32).toInt64) (b := iI 5) (k := z1) (by omega) (by omega) hf
    exact ⟨_, _, _, _, _, lw_map_A e1 (w_map_A (cd_of hW)) (cd_of hM) (up0i rfl) ⟨by omega, by omega, by omega, by omega⟩, by omega, by omega⟩
  · exact ⟨_, _, _, _, _, lw_map_R e1 (w_map_R1 (x_map0 (by omega) (by omega))) (cd_of (m_mapR (by omega) (by omega))) (by decide +kernel) (by decide) ⟨by omega, by omega, by omega, by omega⟩, by omega, by omega⟩
theorem e_height (hL : LdOK 12 12 144 zF A V) (hbr : V 10 = iI 5) (hf : Hts f 144 zF) (hc : cc ≤ 1000 ∧ cs ≤ 100000) : LwE xs A V t f o 794 cc cs := by
  have hz0 : ∀ j : Nat, j < 144 → f j = iI 0 := fun j hj => (hf j hj).1
  obtain ⟨z1, e1, r1⟩ := x_int (xs 1)
  obtain ⟨z2, e2, r2⟩ := x_int (xs 2)
  by_cases c0 : (0 ≤ z1 ∧ z1 < 12) ∧ 0 ≤ z2 ∧ z2 < 12
  · skip
    have hW := f_height (xs := xs) (L := 6) (Y := mY t (iI 5) (mj_NE + 33) f [zO o]) (x := z1) (y := z2) (by omega) (by omega) hL
    exact ⟨_, _, _, _, _, lw_height_A e1 e2 (w_height_A (cd_of hW)) (cd_of (m_heightA (x := z1) (y := z2) (by omega) (by omega) hf (by unfold noB; exact decide_eq_false (by omega)))) (up0i rfl) ⟨by omega, by omega, by omega, by omega⟩, by omega, by omega⟩
  · exact ⟨_, _, _, _, _, lw_height_R e1 e2 (w_height_R1 (x_height0 hL (by omega) (by omega) (by omega))) (cd_of (m_heightR (by omega) (by omega) (by unfold noB; exact decide_eq_true (by omega)))) (by decide +kernel) (by decide) ⟨by omega, by omega, by omega, by omega⟩, by omega, by omega⟩
theorem e_water (hL : LdOK 12 12 144 zF A V) (hbr : V 10 = iI 5) (hf : Hts f 144 zF) (hc : cc ≤ 1000 ∧ cs ≤ 100000) : LwE xs A V t f o 862 cc cs := by
  have hz0 : ∀ j : Nat, j < 144 → f j = iI 0 := fun j hj => (hf j hj).1
  obtain ⟨z1, e1, r1⟩ := x_int (xs 1)
  obtain ⟨z2, e2, r2⟩ := x_int (xs 2)
  obtain ⟨z3, e3, r3⟩ := x_int (xs 3)
  by_cases c0 : (0 ≤ z1 ∧ z1 < 12) ∧ 0 ≤ z2 ∧ z2 < 12
  · skip
    by_cases c1 : 0 ≤ z3 ∧ z3 ≤ 4
    · skip
      have hj := nm_bd c0.1 c0.2
      have hk : z3 = 0 ∨ z3 = 1 ∨ z3 = 2 ∨ z3 = 3 ∨ z3 = 4 := by omega
      rcases hk with rfl | rfl | rfl | rfl | rfl
      · obtain ⟨A1, V1, od, hR, -, -, hW⟩ := f_water0 (xs := xs) (L := 6) (Y := mY t (iI 5) (mj_NE + 33) f [zO o]) (b := 5) (x := z1) (y := z2) hbr ⟨by omega, by omega⟩ (by omega) (by omega) hL
        have pf := pd_flat0 hR.1
        exact ⟨_, _, _, _, _, lw_water_A e1 e2 e3 (w_water_A (cd_of hW)) (cd_of (m_waterA0 (x := z1) (y := z2) (by omega) (by omega) (by omega) (by omega) hf)) (up0i (hR.2.1 _ hj).1) ⟨by omega, by omega, by omega, by omega⟩, by omega, by omega⟩
      · obtain ⟨A1, V1, od, hR, -, -, hW⟩ := f_water1 (xs := xs) (L := 6) (Y := mY t (iI 5) (mj_NE + 33) f [zO o]) (b := 5) (x := z1) (y := z2) hbr ⟨by omega, by omega⟩ (by omega) (by omega) hL
        have pf := pd_flat0 hR.1
        exact ⟨_, _, _, _, _, lw_water_A e1 e2 e3 (w_water_A (cd_of hW)) (cd_of (m_waterA1 (x := z1) (y := z2) (by omega) (by omega) (by omega) (by omega) hf)) (up0i ((hR.2.2.1 _ hj).1.trans (by rw [pf.1]))) ⟨by omega, by omega, by omega, by omega⟩, by omega, by omega⟩
      · obtain ⟨A1, V1, od, hR, -, -, hW⟩ := f_water2 (xs := xs) (L := 6) (Y := mY t (iI 5) (mj_NE + 33) f [zO o]) (b := 5) (x := z1) (y := z2) hbr ⟨by omega, by omega⟩ (by omega) (by omega) hL
        have pf := pd_flat0 hR.1
        exact ⟨_, _, _, _, _, lw_water_A e1 e2 e3 (w_water_A (cd_of hW)) (cd_of (m_waterA2 (x := z1) (y := z2) (by omega) (by omega) (by omega) (by omega) hf)) (up0i ((hR.2.2.2 _ hj).1 (nx_flat0 _ hj)).1) ⟨by omega, by omega, by omega, by omega⟩, by omega, by omega⟩
      · obtain ⟨A1, V1, od, hR, -, -, hW⟩ := f_water3 (xs := xs) (L := 6) (Y := mY t (iI 5) (mj_NE + 33) f [zO o]) (b := 5) (x := z1) (y := z2) hbr ⟨by omega, by omega⟩ (by omega) (by omega) hL
        have pf := pd_flat0 hR.1
        exact ⟨_, _, _, _, _, lw_water_A e1 e2 e3 (w_water_A (cd_of hW)) (cd_of (m_waterA3 (x := z1) (y := z2) (by omega) (by omega) (by omega) (by omega) hf)) (up0i ((hR.2.2.1 _ hj).2.1.trans (by rw [pf.2.1]))) ⟨by omega, by omega, by omega, by omega⟩, by omega, by omega⟩
      · obtain ⟨A1, V1, od, hR, -, -, hW⟩ := f_water4 (xs := xs) (L := 6) (Y := mY t (iI 5) (mj_NE + 33) f [zO o]) (b := 5) (x := z1) (y := z2) hbr ⟨by omega, by omega⟩ (by omega) (by omega) hL
        have pf := pd_flat0 hR.1
        exact ⟨_, _, _, _, _, lw_water_A e1 e2 e3 (w_water_A (cd_of hW)) (cd_of (m_waterA4 (x := z1) (y := z2) (by omega) (by omega) (by omega) (by omega) hf)) (up0i ((hR.2.2.2 _ hj).1 (nx_flat0 _ hj)).2) ⟨by omega, by omega, by omega, by omega⟩, by omega, by omega⟩
    · exact ⟨_, _, _, _, _, lw_water_R e1 e2 e3 (w_water_R2 (x_water1 hL (by omega) (by omega) (by omega) (by omega))) (cd_of (m_waterR1 (by omega) (by omega) (by omega) (by omega) (by omega) (by omega))) (by decide +kernel) (by decide) ⟨by omega, by omega, by omega, by omega⟩, by omega, by omega⟩
  · exact ⟨_, _, _, _, _, lw_water_R e1 e2 e3 (w_water_R1 (x_water0 hL (by omega) (by omega) (by omega))) (cd_of (m_waterR0 (by omega) (by omega) (by omega) (by omega))) (by decide +kernel) (by decide) ⟨by omega, by omega, by omega, by omega⟩, by omega, by omega⟩
theorem e_basins (hL : LdOK 12 12 144 zF A V) (hbr : V 10 = iI 5) (hf : Hts f 144 zF) (hc : cc ≤ 1000 ∧ cs ≤ 100000) : LwE xs A V t f o 942 cc cs := by
  have hz0 : ∀ j : Nat, j < 144 → f j = iI 0 := fun j hj => (hf j hj).1
  obtain ⟨A1, V1, od, hR, -, -, hW⟩ := f_basins (xs := xs) (L := 6) (Y := mY t (iI 5) (mj_NE + 33) f [zO o]) (b := 5) hbr ⟨by omega, by omega⟩ hL
  exact ⟨_, _, _, _, _, lw_basins (cd_of hW) (cd_of (m_basinsA hf)) (congrArg iI ba_flat) ⟨by omega, by omega, by omega, by omega⟩, by omega, by omega⟩
theorem e_pits (hL : LdOK 12 12 144 zF A V) (hbr : V 10 = iI 5) (hf : Hts f 144 zF) (hc : cc ≤ 1000 ∧ cs ≤ 100000) : LwE xs A V t f o 955 cc cs := by
  have hz0 : ∀ j : Nat, j < 144 → f j = iI 0 := fun j hj => (hf j hj).1
  obtain ⟨A1, V1, od, hR, -, -, hW⟩ := f_pits (xs := xs) (L := 6) (Y := mY t (iI 5) (mj_NE + 33) f [zO o]) (b := 5) hbr ⟨by omega, by omega⟩ hL
  exact ⟨_, _, _, _, _, lw_pits (cd_of hW) (cd_of (m_pitsA hf)) (congrArg iI pi_flat) ⟨by omega, by omega, by omega, by omega⟩, by omega, by omega⟩
theorem e_mostRank (hL : LdOK 12 12 144 zF A V) (hbr : V 10 = iI 5) (hf : Hts f 144 zF) (hc : cc ≤ 1000 ∧ cs ≤ 100000) : LwE xs A V t f o 968 cc cs := by
  have hz0 : ∀ j : Nat, j < 144 → f j = iI 0 := fun j hj => (hf j hj).1
  obtain ⟨A1, V1, od, hR, -, -, hW⟩ := f_mostRank (xs := xs) (L := 6) (Y := mY t (iI 5) (mj_NE + 33) f [zO o]) (b := 5) hbr ⟨by omega, by omega⟩ hL
  have pf := pd_flat0 hR.1
  exact ⟨_, _, _, _, _, lw_mostRank (cd_of hW) (cd_of (m_mostRankA hf)) (congrArg iI (by rw [pf.2.1]; exact mx_flat)) ⟨by omega, by omega, by omega, by omega⟩, by omega, by omega⟩
theorem e_longestStream (hL : LdOK 12 12 144 zF A V) (hbr : V 10 = iI 5) (hf : Hts f 144 zF) (hc : cc ≤ 1000 ∧ cs ≤ 100000) : LwE xs A V t f o 981 cc cs := by
  have hz0 : ∀ j : Nat, j < 144 → f j = iI 0 := fun j hj => (hf j hj).1
  obtain ⟨A1, V1, od, hR, -, -, hW⟩ := f_longestStream (xs := xs) (L := 6) (Y := mY t (iI 5) (mj_NE + 33) f [zO o]) (b := 5) hbr ⟨by omega, by omega⟩ hL
  have pf := pd_flat0 hR.1
  exact ⟨_, _, _, _, _, lw_longestStream (cd_of hW) (cd_of (m_longestStreamA hf)) (congrArg iI (by rw [pf.2.2]; exact mx_flat)) ⟨by omega, by omega, by omega, by omega⟩, by omega, by omega⟩
theorem e_level (hL : LdOK 12 12 144 zF A V) (hbr : V 10 = iI 5) (hf : Hts f 144 zF) (hc : cc ≤ 1000 ∧ cs ≤ 100000) : LwE xs A V t f o 994 cc cs := by
  have hz0 : ∀ j : Nat, j < 144 → f j = iI 0 := fun j hj => (hf j hj).1
  obtain ⟨z1, e1, r1⟩ := x_int (xs 1)
  obtain ⟨z2, e2, r2⟩ := x_int (xs 2)
  by_cases c0 : (0 ≤ z1 ∧ z1 < 12) ∧ 0 ≤ z2 ∧ z2 < 12
  · skip
    obtain ⟨A1, V1, -, -, hW⟩ := f_level (xs := xs) (L := 6) (Y := mY t (iI 5) (mj_NE + 33) f [zO o]) (x := z1) (y := z2) hno0 (by omega) (by omega) hL
    obtain ⟨fm, fd, hM⟩ := m_levelA (xs := xs) (L := 6) (A := A1) (V := V1) (t := t) (f := f) (o := vp_updL o 0 (iI (zF (z2 * 12 + z1).toNat) : Int32).toInt64) (b := iI 5) (x := z1) (y := z2) (by omega) (by omega) (by omega) (by omega) hno0 hf
    exact ⟨_, _, _, _, _, lw_level_A e1 e2 (w_level_A (cd_of hW)) (cd_of hM) (up0i rfl) ⟨by omega, by omega, by omega, by omega⟩, by omega, by omega⟩
  · exact ⟨_, _, _, _, _, lw_level_R e1 e2 (w_level_R1 (x_level0 hL (by omega) (by omega) (by omega))) (cd_of (m_levelR0 (by omega) (by omega) (by omega))) (by decide +kernel) (by decide) ⟨by omega, by omega, by omega, by omega⟩, by omega, by omega⟩
theorem e_lakes (hL : LdOK 12 12 144 zF A V) (hbr : V 10 = iI 5) (hf : Hts f 144 zF) (hc : cc ≤ 1000 ∧ cs ≤ 100000) : LwE xs A V t f o 1062 cc cs := by
  have hz0 : ∀ j : Nat, j < 144 → f j = iI 0 := fun j hj => (hf j hj).1
  obtain ⟨A1, V1, -, -, hW⟩ := f_lakes (xs := xs) (L := 6) (Y := mY t (iI 5) (mj_NE + 33) f [zO o]) hno0 hL
  obtain ⟨fm, fd, hM⟩ := m_lakesA (xs := xs) (L := 6) (A := A1) (V := V1) (t := t) (f := f) (o := o) (b := iI 5) hno0 hf
  exact ⟨_, _, _, _, _, lw_lakes (cd_of hW) (cd_of hM) rfl ⟨by omega, by omega, by omega, by omega⟩, by omega, by omega⟩
theorem e_lake (hL : LdOK 12 12 144 zF A V) (hbr : V 10 = iI 5) (hf : Hts f 144 zF) (hc : cc ≤ 1000 ∧ cs ≤ 100000) : LwE xs A V t f o 1075 cc cs := by
  have hz0 : ∀ j : Nat, j < 144 → f j = iI 0 := fun j hj => (hf j hj).1
  obtain ⟨z1, e1, r1⟩ := x_int (xs 1)
  obtain ⟨z2, e2, r2⟩ := x_int (xs 2)
  obtain ⟨z3, e3, r3⟩ := x_int (xs 3)
  by_cases c0 : (0 ≤ z1 ∧ z1 < 12) ∧ 0 ≤ z2 ∧ z2 < 12
  · skip
    by_cases c1 : 0 ≤ z3 ∧ z3 ≤ 1
    · skip
      have hk : z3 = 0 ∨ z3 = 1 := by omega
      rcases hk with rfl | rfl
      · obtain ⟨A1, V1, -, -, hW⟩ := f_lake0 (xs := xs) (L := 6) (Y := mY t (iI 5) (mj_NE + 33) f [zO o]) (x := z1) (y := z2) hno0 (by omega) (by omega) hL
        obtain ⟨fm, fd, fm2, fd2, hM⟩ := m_lakeA (xs := xs) (L := 6) (A := A1) (V := V1) (t := t) (f := f) (o := vp_updL o 0 (iI 0 : Int32).toInt64) (b := iI 5) (x := z1) (y := z2) (k := 0) (by omega) (by omega) (by omega) (by omega) (by omega) (by omega) hno0 hf
        exact ⟨_, _, _, _, _, lw_lake_A e1 e2 e3 (w_lake_A (cd_of hW)) (cd_of hM) (up0i rfl) ⟨by omega, by omega, by omega, by omega⟩, by omega, by omega⟩
      · obtain ⟨A1, V1, -, -, hW⟩ := f_lake1 (xs := xs) (L := 6) (Y := mY t (iI 5) (mj_NE + 33) f [zO o]) (x := z1) (y := z2) hno0 (by omega) (by omega) hL
        obtain ⟨fm, fd, fm2, fd2, hM⟩ := m_lakeA (xs := xs) (L := 6) (A := A1) (V := V1) (t := t) (f := f) (o := vp_updL o 0 (iI 0 : Int32).toInt64) (b := iI 5) (x := z1) (y := z2) (k := 1) (by omega) (by omega) (by omega) (by omega) (by omega) (by omega) hno0 hf
        exact ⟨_, _, _, _, _, lw_lake_A e1 e2 e3 (w_lake_A (cd_of hW)) (cd_of hM) (up0i rfl) ⟨by omega, by omega, by omega, by omega⟩, by omega, by omega⟩
    · exact ⟨_, _, _, _, _, lw_lake_R e1 e2 e3 (w_lake_R2 (x_lake1 hL (by omega) (by omega) (by omega) (by omega))) (cd_of (m_lakeR1 (by omega) (by omega) (by omega) (by omega) (by omega) (by omega))) (by decide +kernel) (by decide) ⟨by omega, by omega, by omega, by omega⟩, by omega, by omega⟩
  · exact ⟨_, _, _, _, _, lw_lake_R e1 e2 e3 (w_lake_R1 (x_lake0 hL (by omega) (by omega) (by omega))) (cd_of (m_lakeR0 (by omega) (by omega) (by omega) (by omega))) (by decide +kernel) (by decide) ⟨by omega, by omega, by omega, by omega⟩, by omega, by omega⟩
theorem e_volume (hL : LdOK 12 12 144 zF A V) (hbr : V 10 = iI 5) (hf : Hts f 144 zF) (hc : cc ≤ 1000 ∧ cs ≤ 100000) : LwE xs A V t f o 1155 cc cs := by
  have hz0 : ∀ j : Nat, j < 144 → f j = iI 0 := fun j hj => (hf j hj).1
  obtain ⟨A1, V1, -, -, hW⟩ := f_volume (xs := xs) (L := 6) (Y := mY t (iI 5) (mj_NE + 33) f [zO o]) hno0 hL
  obtain ⟨fm, fd, hM⟩ := m_volumeA (xs := xs) (L := 6) (A := A1) (V := V1) (t := t) (f := f) (o := o) (b := iI 5) hno0 hf
  exact ⟨_, _, _, _, _, lw_volume (cd_of hW) (cd_of hM) rfl ⟨by omega, by omega, by omega, by omega⟩, by omega, by omega⟩
theorem e_contour (hL : LdOK 12 12 144 zF A V) (hbr : V 10 = iI 5) (hf : Hts f 144 zF) (hc : cc ≤ 1000 ∧ cs ≤ 100000) : LwE xs A V t f o 1168 cc cs := by
  have hz0 : ∀ j : Nat, j < 144 → f j = iI 0 := fun j hj => (hf j hj).1
  obtain ⟨z1, e1, r1⟩ := x_int (xs 1)
  obtain ⟨z2, e2, r2⟩ := x_int (xs 2)
  by_cases c0 : 0 ≤ z1 ∧ z1 ≤ 999
  · skip
    by_cases c1 : 0 ≤ z2 ∧ z2 ≤ 2
    · skip
      obtain ⟨A1, V1, -, -, hW⟩ := f_contour (xs := xs) (L := 6) (Y := mY t (iI 5) (mj_NE + 33) f [zO o]) (c := z1) (k := z2) (by omega) (by omega) (fun _ _ => by show (0 : Int) ≤ _; omega) hL
      obtain ⟨g, hM⟩ := m_contourA (xs := xs) (L := 6) (A := A1) (V := V1) (t := t) (f := f) (o := vp_updL o 0 (iI 0 : Int32).toInt64) (b := iI 5) (c := z1) (k := z2) (by omega) (by omega) (by omega) (by omega) hz0
      exact ⟨_, _, _, _, _, lw_contour_A e1 e2 (w_contour_A (cd_of hW)) (hM) (up0i rfl) ⟨by omega, by omega, by omega, by omega⟩, by omega, by omega⟩
    · exact ⟨_, _, _, _, _, lw_contour_R e1 e2 (w_contour_R1 (x_contour1 (by omega) (by omega) (by omega))) (cd_of (m_contourR1 (by omega) (by omega) (by omega) (by omega))) (by decide +kernel) (by decide) ⟨by omega, by omega, by omega, by omega⟩, by omega, by omega⟩
  · exact ⟨_, _, _, _, _, lw_contour_R e1 e2 (w_contour_R1 (x_contour0 (by omega) (by omega))) (cd_of (m_contourR0 (by omega) (by omega) (by omega))) (by decide +kernel) (by decide) ⟨by omega, by omega, by omega, by omega⟩, by omega, by omega⟩
theorem e_sees (hL : LdOK 12 12 144 zF A V) (hbr : V 10 = iI 5) (hf : Hts f 144 zF) (hc : cc ≤ 1000 ∧ cs ≤ 100000) : LwE xs A V t f o 1236 cc cs := by
  have hz0 : ∀ j : Nat, j < 144 → f j = iI 0 := fun j hj => (hf j hj).1
  obtain ⟨z1, e1, r1⟩ := x_int (xs 1)
  obtain ⟨z2, e2, r2⟩ := x_int (xs 2)
  obtain ⟨z3, e3, r3⟩ := x_int (xs 3)
  obtain ⟨z4, e4, r4⟩ := x_int (xs 4)
  obtain ⟨z5, e5, r5⟩ := x_int (xs 5)
  by_cases c0 : (0 ≤ z1 ∧ z1 < 12) ∧ 0 ≤ z2 ∧ z2 < 12
  · skip
    by_cases c1 : (0 ≤ z4 ∧ z4 < 12) ∧ 0 ≤ z5 ∧ z5 < 12
    · skip
      by_cases c2 : 0 ≤ z3 ∧ z3 ≤ 500
      · skip
        have hW := f_sees (xs := xs) (L := 6) (Y := mY t (iI 5) (mj_NE + 33) f [zO o]) (x := z1) (y := z2) (u := z3) (p := z4) (q := z5) (by omega) (by omega) (by omega) (by omega) (by omega) hL
        exact ⟨_, _, _, _, _, lw_sees_A e1 e2 e3 e4 e5 (w_sees_A (cd_of hW)) (cd_of (m_seesA (x := z1) (y := z2) (u := z3) (p := z4) (q := z5) (by omega) (by omega) (by omega) (by omega) (by omega) (by omega) (by omega) (by omega) (by omega) (by omega) hf)) (up0) ⟨by omega, by omega, by omega, by omega⟩, by omega, by omega⟩
      · exact ⟨_, _, _, _, _, lw_sees_R e1 e2 e3 e4 e5 (w_sees_R2 (x_sees2 hL (by omega) (by omega) (by omega) (by omega) (by omega) (by omega))) (cd_of (m_seesR2 (by omega) (by omega) (by omega) (by omega) (by omega) (by omega) (by omega) (by omega) (by omega) (by omega))) (by decide +kernel) (by decide) ⟨by omega, by omega, by omega, by omega⟩, by omega, by omega⟩
    · exact ⟨_, _, _, _, _, lw_sees_R e1 e2 e3 e4 e5 (w_sees_R1 (x_sees1 hL (by omega) (by omega) (by omega) (by omega) (by omega))) (cd_of (m_seesR1 (by omega) (by omega) (by omega) (by omega) (by omega) (by omega) (by omega) (by omega))) (by decide +kernel) (by decide) ⟨by omega, by omega, by omega, by omega⟩, by omega, by omega⟩
  · exact ⟨_, _, _, _, _, lw_sees_R e1 e2 e3 e4 e5 (w_sees_R1 (x_sees0 hL (by omega) (by omega) (by omega))) (cd_of (m_seesR0 (by omega) (by omega) (by omega) (by omega) (by omega) (by omega))) (by decide +kernel) (by decide) ⟨by omega, by omega, by omega, by omega⟩, by omega, by omega⟩
theorem e_seen (hL : LdOK 12 12 144 zF A V) (hbr : V 10 = iI 5) (hf : Hts f 144 zF) (hc : cc ≤ 1000 ∧ cs ≤ 100000) : LwE xs A V t f o 1347 cc cs := by
  have hz0 : ∀ j : Nat, j < 144 → f j = iI 0 := fun j hj => (hf j hj).1
  obtain ⟨z1, e1, r1⟩ := x_int (xs 1)
  obtain ⟨z2, e2, r2⟩ := x_int (xs 2)
  obtain ⟨z3, e3, r3⟩ := x_int (xs 3)
  by_cases c0 : (0 ≤ z1 ∧ z1 < 12) ∧ 0 ≤ z2 ∧ z2 < 12
  · skip
    by_cases c1 : 0 ≤ z3 ∧ z3 ≤ 500
    · skip
      have hW := f_seen (xs := xs) (L := 6) (Y := mY t (iI 5) (mj_NE + 33) f [zO o]) (x := z1) (y := z2) (u := z3) (by omega) (by omega) (by omega) hL
      exact ⟨_, _, _, _, _, lw_seen_A e1 e2 e3 (w_seen_A (cd_of hW)) (cd_of (m_seenA (x := z1) (y := z2) (u := z3) (by omega) (by omega) (by omega) (by omega) (by omega) (by omega) hf)) (up0i rfl) ⟨by omega, by omega, by omega, by omega⟩, by omega, by omega⟩
    · exact ⟨_, _, _, _, _, lw_seen_R e1 e2 e3 (w_seen_R2 (x_seen1 hL (by omega) (by omega) (by omega) (by omega))) (cd_of (m_seenR1 (by omega) (by omega) (by omega) (by omega) (by omega) (by omega))) (by decide +kernel) (by decide) ⟨by omega, by omega, by omega, by omega⟩, by omega, by omega⟩
  · exact ⟨_, _, _, _, _, lw_seen_R e1 e2 e3 (w_seen_R1 (x_seen0 hL (by omega) (by omega) (by omega))) (cd_of (m_seenR0 (by omega) (by omega) (by omega) (by omega))) (by decide +kernel) (by decide) ⟨by omega, by omega, by omega, by omega⟩, by omega, by omega⟩
theorem e_takes (hL : LdOK 12 12 144 zF A V) (hbr : V 10 = iI 5) (hf : Hts f 144 zF) (hc : cc ≤ 1000 ∧ cs ≤ 100000) : LwE xs A V t f o 1427 cc cs := by
  have hz0 : ∀ j : Nat, j < 144 → f j = iI 0 := fun j hj => (hf j hj).1
  obtain ⟨z1, e1, r1⟩ := x_int (xs 1)
  obtain ⟨z2, e2, r2⟩ := x_int (xs 2)
  obtain ⟨z3, e3, r3⟩ := x_int (xs 3)
  obtain ⟨z4, e4, r4⟩ := x_int (xs 4)
  by_cases c0 : (0 ≤ z1 ∧ z1 < 12) ∧ 0 ≤ z2 ∧ z2 < 12
  · skip
    by_cases c1 : (0 ≤ z3 ∧ z3 < 12) ∧ 0 ≤ z4 ∧ z4 < 12
    · skip
      obtain ⟨A1, V1, T, hT, -, -, hW⟩ := f_takes (xs := xs) (L := 6) (Y := mY t (iI 5) (mj_NE + 33) f [zO o]) (x := z1) (y := z2) (p := z3) (q := z4) (by omega) (by omega) (by omega) (by omega) hL
      obtain ⟨TT, fm, fd, hTT, hM⟩ := m_takesA (xs := xs) (L := 6) (A := A1) (V := V1) (t := t) (f := f) (o := vp_updL o 0 (iI (T (z4 * 12 + z3).toNat) : Int32).toInt64) (b := iI 5) (x := z1) (y := z2) (p := z3) (q := z4) (by omega) (by omega) (by omega) (by omega) (by omega) (by omega) (by omega) (by omega) hf
      exact ⟨_, _, _, _, _, lw_takes_A e1 e2 e3 e4 (w_takes_A (cd_of hW)) (cd_of hM) (up0i (congrArg iI (WyOK_eq hT hTT (nm_bd c1.1 c1.2)))) ⟨by omega, by omega, by omega, by omega⟩, by omega, by omega⟩
    · exact ⟨_, _, _, _, _, lw_takes_R e1 e2 e3 e4 (w_takes_R1 (x_takes1 hL (by omega) (by omega) (by omega) (by omega) (by omega))) (cd_of (m_takesR1 (by omega) (by omega) (by omega) (by omega) (by omega) (by omega) (by omega))) (by decide +kernel) (by decide) ⟨by omega, by omega, by omega, by omega⟩, by omega, by omega⟩
  · exact ⟨_, _, _, _, _, lw_takes_R e1 e2 e3 e4 (w_takes_R1 (x_takes0 hL (by omega) (by omega) (by omega))) (cd_of (m_takesR0 (by omega) (by omega) (by omega) (by omega) (by omega))) (by decide +kernel) (by decide) ⟨by omega, by omega, by omega, by omega⟩, by omega, by omega⟩
theorem e_way (hL : LdOK 12 12 144 zF A V) (hbr : V 10 = iI 5) (hf : Hts f 144 zF) (hc : cc ≤ 1000 ∧ cs ≤ 100000) : LwE xs A V t f o 1519 cc cs := by
  have hz0 : ∀ j : Nat, j < 144 → f j = iI 0 := fun j hj => (hf j hj).1
  obtain ⟨z1, e1, r1⟩ := x_int (xs 1)
  obtain ⟨z2, e2, r2⟩ := x_int (xs 2)
  obtain ⟨z3, e3, r3⟩ := x_int (xs 3)
  obtain ⟨z4, e4, r4⟩ := x_int (xs 4)
  obtain ⟨z5, e5, r5⟩ := x_int (xs 5)
  by_cases c0 : (0 ≤ z1 ∧ z1 < 12) ∧ 0 ≤ z2 ∧ z2 < 12
  · skip
    by_cases c1 : (0 ≤ z3 ∧ z3 < 12) ∧ 0 ≤ z4 ∧ z4 < 12
    · skip
      by_cases c2 : 0 ≤ z5
      · skip
        obtain ⟨b, rfl⟩ := Int.eq_ofNat_of_zero_le c2
        obtain ⟨A1, V1, T, hT, -, -, hW⟩ := f_way (xs := xs) (L := 6) (Y := mY t (iI 5) (mj_NE + 33) f [zO o]) (x := z1) (y := z2) (p := z3) (q := z4) (b := b) (by omega) (by omega) (by omega) (by omega) (by omega) hL
        obtain ⟨TT, fm, fd, hTT, hM⟩ := m_wayA (xs := xs) (L := 6) (A := A1) (V := V1) (t := t) (f := f) (o := vp_updL o 0 (iI (if 144 ≤ b then -1 else gbF 12 12 (z2 * 12 + z1).toNat zF T (z4 * 12 + z3).toNat b) : Int32).toInt64) (b := iI 5) (x := z1) (y := z2) (p := z3) (q := z4) (b0 := (b : Int)) (by omega) (by omega) (by omega) (by omega) (by omega) (by omega) (by omega) (by omega) (by omega) (by omega) hf
        exact ⟨_, _, _, _, _, lw_way_A e1 e2 e3 e4 e5 (w_way_A (cd_of hW)) (cd_of hM) (up0i (congrArg iI (wy_flat hT hTT (nm_bd c1.1 c1.2)))) ⟨by omega, by omega, by omega, by omega⟩, by omega, by omega⟩
      · exact ⟨_, _, _, _, _, lw_way_R e1 e2 e3 e4 e5 (w_way_R2 (x_way2 hL (by omega) (by omega) (by omega) (by omega) (by omega) (by omega))) (cd_of (m_wayR2 (by omega) (by omega) (by omega) (by omega) (by omega) (by omega) (by omega) (by omega) (by omega) (by omega))) (by decide +kernel) (by decide) ⟨by omega, by omega, by omega, by omega⟩, by omega, by omega⟩
    · exact ⟨_, _, _, _, _, lw_way_R e1 e2 e3 e4 e5 (w_way_R1 (x_way1 hL (by omega) (by omega) (by omega) (by omega) (by omega))) (cd_of (m_wayR1 (by omega) (by omega) (by omega) (by omega) (by omega) (by omega) (by omega) (by omega))) (by decide +kernel) (by decide) ⟨by omega, by omega, by omega, by omega⟩, by omega, by omega⟩
  · exact ⟨_, _, _, _, _, lw_way_R e1 e2 e3 e4 e5 (w_way_R1 (x_way0 hL (by omega) (by omega) (by omega))) (cd_of (m_wayR0 (by omega) (by omega) (by omega) (by omega) (by omega) (by omega))) (by decide +kernel) (by decide) ⟨by omega, by omega, by omega, by omega⟩, by omega, by omega⟩
theorem e_steepness (hL : LdOK 12 12 144 zF A V) (hbr : V 10 = iI 5) (hf : Hts f 144 zF) (hc : cc ≤ 1000 ∧ cs ≤ 100000) : LwE xs A V t f o 1623 cc cs := by
  have hz0 : ∀ j : Nat, j < 144 → f j = iI 0 := fun j hj => (hf j hj).1
  have hW := f_steepness0 (xs := xs) (L := 6) (Y := mY t (iI 5) (mj_NE + 33) f [zO o]) hL.2.2.1 hL.2.2.2.2.2.2.1 (fun j hj => (hL.2.2.2.2.2.2.2 j hj).1)
  exact ⟨_, _, _, _, _, lw_steepness (cd_of hW) (cd_of (m_steepnessA hz0)) (by decide +kernel) ⟨by omega, by omega, by omega, by omega⟩, by omega, by omega⟩
theorem e_volumeWith (hL : LdOK 12 12 144 zF A V) (hbr : V 10 = iI 5) (hf : Hts f 144 zF) (hc : cc ≤ 1000 ∧ cs ≤ 100000) : LwE xs A V t f o 1664 cc cs := by
  have hz0 : ∀ j : Nat, j < 144 → f j = iI 0 := fun j hj => (hf j hj).1
  obtain ⟨z1, e1, r1⟩ := x_int (xs 1)
  obtain ⟨z2, e2, r2⟩ := x_int (xs 2)
  obtain ⟨z3, e3, r3⟩ := x_int (xs 3)
  by_cases c0 : (0 ≤ z1 ∧ z1 < 12) ∧ 0 ≤ z2 ∧ z2 < 12
  · skip
    by_cases c1 : 0 ≤ z3 ∧ z3 ≤ 999
    · skip
      obtain ⟨A1, V1, -, hW⟩ := f_volumeWith (xs := xs) (L := 6) (Y := mY t (iI 5) (mj_NE + 33) f [zO o]) (x := z1) (y := z2) (z := z3) (by omega) (by omega) (by omega) (hno1 (nm_bd c0.1 c0.2) c1.1) hL
      obtain ⟨f2, fm, fd, hM⟩ := m_volumeWithA (xs := xs) (L := 6) (A := A1) (V := V1) (t := t) (f := f) (o := vp_updL o 0 (iI 0 : Int32).toInt64) (b := iI 5) (x := z1) (y := z2) (z := z3) (by omega) (by omega) (by omega) (by omega) (by omega) (by omega) (hno1 (nm_bd c0.1 c0.2) c1.1) hf
      exact ⟨_, _, _, _, _, lw_volumeWith_A e1 e2 e3 (w_volumeWith_A (cd_of hW)) (cd_of hM) (up0i rfl) ⟨by omega, by omega, by omega, by omega⟩, by omega, by omega⟩
    · exact ⟨_, _, _, _, _, lw_volumeWith_R e1 e2 e3 (w_volumeWith_R2 (x_volumeWith1 hL (by omega) (by omega) (by omega) (by omega))) (cd_of (m_volumeWithR1 (by omega) (by omega) (by omega) (by omega) (by omega) (by omega))) (by decide +kernel) (by decide) ⟨by omega, by omega, by omega, by omega⟩, by omega, by omega⟩
  · exact ⟨_, _, _, _, _, lw_volumeWith_R e1 e2 e3 (w_volumeWith_R1 (x_volumeWith0 hL (by omega) (by omega) (by omega))) (cd_of (m_volumeWithR0 (by omega) (by omega) (by omega) (by omega))) (by decide +kernel) (by decide) ⟨by omega, by omega, by omega, by omega⟩, by omega, by omega⟩
theorem e_endsWith (hL : LdOK 12 12 144 zF A V) (hbr : V 10 = iI 5) (hf : Hts f 144 zF) (hc : cc ≤ 1000 ∧ cs ≤ 100000) : LwE xs A V t f o 1744 cc cs := by
  have hz0 : ∀ j : Nat, j < 144 → f j = iI 0 := fun j hj => (hf j hj).1
  obtain ⟨z1, e1, r1⟩ := x_int (xs 1)
  obtain ⟨z2, e2, r2⟩ := x_int (xs 2)
  obtain ⟨z3, e3, r3⟩ := x_int (xs 3)
  by_cases c0 : (0 ≤ z1 ∧ z1 < 12) ∧ 0 ≤ z2 ∧ z2 < 12
  · skip
    by_cases c1 : 0 ≤ z3 ∧ z3 ≤ 999
    · skip
      obtain ⟨A1, A2, A4, V2, od1, od2, hR1, hR2, hW⟩ := f_endsWith (xs := xs) (L := 6) (Y := mY t (iI 5) (mj_NE + 33) f [zO o]) (b := 5) (x := z1) (y := z2) (z := z3) hbr ⟨by omega, by omega⟩ (by omega) (by omega) (by omega) hL
      obtain ⟨f2, gW, hM⟩ := m_endsWithA (xs := xs) (L := 6) (A := A4) (V := V2) (t := t) (f := f) (o := vp_updL o 0 (iI (cnt (fun i => !decide (A2 6 i = A1 6 i)) 144) : Int32).toInt64) (b := iI 5) (x := z1) (y := z2) (z := z3) (by omega) (by omega) (by omega) (by omega) (by omega) (by omega) hf
      exact ⟨_, _, _, _, _, lw_endsWith_A e1 e2 e3 (w_endsWith_A (cd_of hW)) (cd_of hM) (up0i (congrArg iI (en_flat (nm_bd c0.1 c0.2) c1 hR1 hR2))) ⟨by omega, by omega, by omega, by omega⟩, by omega, by omega⟩
    · exact ⟨_, _, _, _, _, lw_endsWith_R e1 e2 e3 (w_endsWith_R2 (x_endsWith1 hL (by omega) (by omega) (by omega) (by omega))) (cd_of (m_endsWithR1 (by omega) (by omega) (by omega) (by omega) (by omega) (by omega))) (by decide +kernel) (by decide) ⟨by omega, by omega, by omega, by omega⟩, by omega, by omega⟩
  · exact ⟨_, _, _, _, _, lw_endsWith_R e1 e2 e3 (w_endsWith_R1 (x_endsWith0 hL (by omega) (by omega) (by omega))) (cd_of (m_endsWithR0 (by omega) (by omega) (by omega) (by omega))) (by decide +kernel) (by decide) ⟨by omega, by omega, by omega, by omega⟩, by omega, by omega⟩
theorem e_lookout (hL : LdOK 12 12 144 zF A V) (hbr : V 10 = iI 5) (hf : Hts f 144 zF) (hc : cc ≤ 1000 ∧ cs ≤ 100000) : LwE xs A V t f o 1824 cc cs := by
  have hz0 : ∀ j : Nat, j < 144 → f j = iI 0 := fun j hj => (hf j hj).1
  obtain ⟨z1, e1, r1⟩ := x_int (xs 1)
  obtain ⟨z2, e2, r2⟩ := x_int (xs 2)
  by_cases c0 : 0 ≤ z1 ∧ z1 < 12
  · skip
    by_cases c1 : 0 ≤ z2 ∧ z2 ≤ 500
    · skip
      have hW := f_lookout (xs := xs) (L := 6) (Y := mY t (iI 5) (mj_NE + 33) f [zO o]) (y := z1) (u := z2) (by omega) (by omega) hL
      exact ⟨_, _, _, _, _, lw_lookout_A e1 e2 (w_lookout_A (cd_of hW)) (cd_of (m_lookoutA (y := z1) (u := z2) (by omega) (by omega) (by omega) (by omega) hf)) (up0i (congrArg iI lk_rk12)) ⟨by omega, by omega, by omega, by omega⟩, by omega, by omega⟩
    · exact ⟨_, _, _, _, _, lw_lookout_R e1 e2 (w_lookout_R2 (x_lookout1 hL (by omega) (by omega) (by omega))) (cd_of (m_lookoutR1 (by omega) (by omega) (by omega) (by omega))) (by decide +kernel) (by decide) ⟨by omega, by omega, by omega, by omega⟩, by omega, by omega⟩
  · exact ⟨_, _, _, _, _, lw_lookout_R e1 e2 (w_lookout_R1 (x_lookout0 hL (by omega) (by omega))) (cd_of (m_lookoutR0 (by omega) (by omega) (by omega))) (by decide +kernel) (by decide) ⟨by omega, by omega, by omega, by omega⟩, by omega, by omega⟩
theorem e_digest (hL : LdOK 12 12 144 zF A V) (hbr : V 10 = iI 5) (hf : Hts f 144 zF) (hc : cc ≤ 1000 ∧ cs ≤ 100000) : LwE xs A V t f o 1892 cc cs := by
  have hz0 : ∀ j : Nat, j < 144 → f j = iI 0 := fun j hj => (hf j hj).1
  obtain ⟨A5, V5, od, hO, hW⟩ := f_digest0 (xs := xs) (L := 6) (Y := mY t (iI 5) (mj_NE + 33) f [zO o]) (b := 5) hbr ⟨by omega, by omega⟩ hno0 (fun _ _ => by show (0 : Int) ≤ _; omega) nx_flat0 hL
  obtain ⟨fm, fd, hM⟩ := m_digestA (xs := xs) (L := 6) (A := A5) (V := V5) (t := t) (f := f) (o := o) hf hno0
  exact ⟨_, _, _, _, _, lw_digest (cd_of hW) (hM) (congrArg lI (dg_flat hO)) ⟨by omega, by omega, by omega, by omega⟩, by omega, by omega⟩
end ENDS
