/-! the streams' face, the order told exactly; the law's below and cell -/
section FACEX
variable {xs : Nat → Int32} {L : Nat} {A : Nat → Nat → Int32} {V : Nat → Int32} {Y : mj_H}
variable {w h : Int} {n : Nat} {H : Nat → Int}
theorem x_basins {b : Int} (hbr : V 10 = iI b) (hb : 1 ≤ b ∧ b ≤ 100) (hL : LdOK w h n H A V) : ∃ (A1 : Nat → Nat → Int32) (V1 : Nat → Int32), RunOK w h n H b A1 (odF w h n H) ∧ (∀ k, k < 3 ∨ 12 < k → A1 k = A k) ∧ (∀ k, k ≠ 3 → V1 k = V k) ∧ mj_Ct m_W_basins [.ref (mj_NE + 0)] (Wd xs L A V Y) (some (.int (iI (cnt (fun j => decide (drF w h H j = 8)) n + cnt (fun j => decide (drF w h H j = 9)) n)))) (Wd xs L A1 V1 Y) 0 0 6 := by
  have hL2 := hL
  obtain ⟨h0, h1, hV, hnw, hw, hh, hN, hH⟩ := hL2
  have wh := wh_bd hw hh
  obtain ⟨A1, V1, hR, ka, kv, hct⟩ := c_runX (xs := xs) (L := L) (A := A) (V := V) (Y := Y) (b := b) hV hw hh hnw hN hH ⟨by omega, by omega⟩
  have t1 := r_to (RC := 0) (RS := 0) (dd := 6) (g := (0, [.ref (mj_NE + 0)], [], Wd xs L A V Y, 0, 0)) (g' := (8, [.ref (mj_NE + 0)], [.int (V 10), .ref (mj_NE + 5)], Wd xs L A V Y, 0, 0)) ok_W_basins 9999 [] rfl trivial
  rw [hbr] at t1
  have t2 := r_tr t1 (q_V ok_W_basins ok_Streams_run se_Streams_run (hct) rfl rfl rfl rfl rfl ⟨rfl, rfl, rfl⟩)
  have hV1 : V1 2 = iI n := by rw [kv 2 (by omega)]; exact hV
  have hdr : ∀ i : Nat, i < n → A1 3 i = iI (drF w h H i) ∧ 0 ≤ drF w h H i ∧ drF w h H i ≤ 9 := fun i hi => ⟨(hR.2.1 i hi).1, by have := chD_bd hw hh hnw (fun j hj => (hH j hj).2) hi 8 (Nat.le_refl _); unfold drF; omega⟩
  have hnx : ∀ i : Nat, i < n → A1 4 i = iI (nxF w h H i) ∧ -1 ≤ nxF w h H i ∧ nxF w h H i < n := fun i hi => ⟨(hR.2.1 i hi).2, by have := chD_bd hw hh hnw (fun j hj => (hH j hj).2) hi 8 (Nat.le_refl _); unfold nxF; omega⟩
  have hpd := (pd_inv (b := b) hR.1 (fun j hj => (hnx j hj).2) n (Nat.le_refl _)).2
  have t3 := r_tr t2 (r_to (g' := (17, [.ref (mj_NE + 0)], [.int (iI 8), .ref (mj_NE + 5)], Wd xs L A1 V1 Y, 0, 0)) ok_W_basins 9999 [] rfl trivial)
  have t4 := r_tr t3 (q_V ok_W_basins ok_Streams_count se_Streams_count (c_count hV1 (by omega) hdr ⟨by omega, by omega⟩) rfl rfl rfl rfl rfl ⟨rfl, rfl, rfl⟩)
  have t5 := r_tr t4 (r_to (g' := (26, [.ref (mj_NE + 0)], [.int (iI 9), .ref (mj_NE + 5), .int (iI (cnt (fun j => decide (drF w h H j = 8)) n))], Wd xs L A1 V1 Y, 0, 0)) ok_W_basins 9999 [] rfl trivial)
  have t6 := r_tr t5 (q_V ok_W_basins ok_Streams_count se_Streams_count (c_count hV1 (by omega) hdr ⟨by omega, by omega⟩) rfl rfl rfl rfl rfl ⟨rfl, rfl, rfl⟩)
  have t7 := r_tr t6 (r_to (g' := (30, [.ref (mj_NE + 0)], [.int (iI (cnt (fun j => decide (drF w h H j = 8)) n) + iI (cnt (fun j => decide (drF w h H j = 9)) n))], Wd xs L A1 V1 Y, 0, 0)) ok_W_basins 9999 [] rfl trivial)
  rw [iI_add] at t7
  exact ⟨A1, V1, hR, ka, kv, ct_of ok_W_basins rfl t7 rfl rfl rfl rfl rfl⟩
theorem x_pits {b : Int} (hbr : V 10 = iI b) (hb : 1 ≤ b ∧ b ≤ 100) (hL : LdOK w h n H A V) : ∃ (A1 : Nat → Nat → Int32) (V1 : Nat → Int32), RunOK w h n H b A1 (odF w h n H) ∧ (∀ k, k < 3 ∨ 12 < k → A1 k = A k) ∧ (∀ k, k ≠ 3 → V1 k = V k) ∧ mj_Ct m_W_pits [.ref (mj_NE + 0)] (Wd xs L A V Y) (some (.int (iI (cnt (fun j => decide (drF w h H j = 9)) n)))) (Wd xs L A1 V1 Y) 0 0 6 := by
  have hL2 := hL
  obtain ⟨h0, h1, hV, hnw, hw, hh, hN, hH⟩ := hL2
  have wh := wh_bd hw hh
  obtain ⟨A1, V1, hR, ka, kv, hct⟩ := c_runX (xs := xs) (L := L) (A := A) (V := V) (Y := Y) (b := b) hV hw hh hnw hN hH ⟨by omega, by omega⟩
  have t1 := r_to (RC := 0) (RS := 0) (dd := 6) (g := (0, [.ref (mj_NE + 0)], [], Wd xs L A V Y, 0, 0)) (g' := (8, [.ref (mj_NE + 0)], [.int (V 10), .ref (mj_NE + 5)], Wd xs L A V Y, 0, 0)) ok_W_pits 9999 [] rfl trivial
  rw [hbr] at t1
  have t2 := r_tr t1 (q_V ok_W_pits ok_Streams_run se_Streams_run (hct) rfl rfl rfl rfl rfl ⟨rfl, rfl, rfl⟩)
  have hV1 : V1 2 = iI n := by rw [kv 2 (by omega)]; exact hV
  have hdr : ∀ i : Nat, i < n → A1 3 i = iI (drF w h H i) ∧ 0 ≤ drF w h H i ∧ drF w h H i ≤ 9 := fun i hi => ⟨(hR.2.1 i hi).1, by have := chD_bd hw hh hnw (fun j hj => (hH j hj).2) hi 8 (Nat.le_refl _); unfold drF; omega⟩
  have hnx : ∀ i : Nat, i < n → A1 4 i = iI (nxF w h H i) ∧ -1 ≤ nxF w h H i ∧ nxF w h H i < n := fun i hi => ⟨(hR.2.1 i hi).2, by have := chD_bd hw hh hnw (fun j hj => (hH j hj).2) hi 8 (Nat.le_refl _); unfold nxF; omega⟩
  have hpd := (pd_inv (b := b) hR.1 (fun j hj => (hnx j hj).2) n (Nat.le_refl _)).2
  have t3 := r_tr t2 (r_to (g' := (17, [.ref (mj_NE + 0)], [.int (iI 9), .ref (mj_NE + 5)], Wd xs L A1 V1 Y, 0, 0)) ok_W_pits 9999 [] rfl trivial)
  have t4 := r_tr t3 (q_V ok_W_pits ok_Streams_count se_Streams_count (c_count hV1 (by omega) hdr ⟨by omega, by omega⟩) rfl rfl rfl rfl rfl ⟨rfl, rfl, rfl⟩)
  exact ⟨A1, V1, hR, ka, kv, ct_of ok_W_pits rfl t4 rfl rfl rfl rfl rfl⟩
theorem x_mostRank {b : Int} (hbr : V 10 = iI b) (hb : 1 ≤ b ∧ b ≤ 100) (hL : LdOK w h n H A V) : ∃ (A1 : Nat → Nat → Int32) (V1 : Nat → Int32), RunOK w h n H b A1 (odF w h n H) ∧ (∀ k, k < 3 ∨ 12 < k → A1 k = A k) ∧ (∀ k, k ≠ 3 → V1 k = V k) ∧ mj_Ct m_W_mostRank [.ref (mj_NE + 0)] (Wd xs L A V Y) (some (.int (iI (mxH (pdK b (nxF w h H) (odF w h n H) n).2.1 n)))) (Wd xs L A1 V1 Y) 0 0 6 := by
  have hL2 := hL
  obtain ⟨h0, h1, hV, hnw, hw, hh, hN, hH⟩ := hL2
  have wh := wh_bd hw hh
  obtain ⟨A1, V1, hR, ka, kv, hct⟩ := c_runX (xs := xs) (L := L) (A := A) (V := V) (Y := Y) (b := b) hV hw hh hnw hN hH ⟨by omega, by omega⟩
  have t1 := r_to (RC := 0) (RS := 0) (dd := 6) (g := (0, [.ref (mj_NE + 0)], [], Wd xs L A V Y, 0, 0)) (g' := (8, [.ref (mj_NE + 0)], [.int (V 10), .ref (mj_NE + 5)], Wd xs L A V Y, 0, 0)) ok_W_mostRank 9999 [] rfl trivial
  rw [hbr] at t1
  have t2 := r_tr t1 (q_V ok_W_mostRank ok_Streams_run se_Streams_run (hct) rfl rfl rfl rfl rfl ⟨rfl, rfl, rfl⟩)
  have hV1 : V1 2 = iI n := by rw [kv 2 (by omega)]; exact hV
  have hdr : ∀ i : Nat, i < n → A1 3 i = iI (drF w h H i) ∧ 0 ≤ drF w h H i ∧ drF w h H i ≤ 9 := fun i hi => ⟨(hR.2.1 i hi).1, by have := chD_bd hw hh hnw (fun j hj => (hH j hj).2) hi 8 (Nat.le_refl _); unfold drF; omega⟩
  have hnx : ∀ i : Nat, i < n → A1 4 i = iI (nxF w h H i) ∧ -1 ≤ nxF w h H i ∧ nxF w h H i < n := fun i hi => ⟨(hR.2.1 i hi).2, by have := chD_bd hw hh hnw (fun j hj => (hH j hj).2) hi 8 (Nat.le_refl _); unfold nxF; omega⟩
  have hpd := (pd_inv (b := b) hR.1 (fun j hj => (hnx j hj).2) n (Nat.le_refl _)).2
  have t3 := r_tr t2 (r_to (g' := (22, [.ref (mj_NE + 0)], [.ref (mj_NE + 11), .ref (mj_NE + 5)], Wd xs L A1 V1 Y, 0, 0)) ok_W_mostRank 9999 [] rfl trivial)
  have hG : Hts (A1 8) n (pdK b (nxF w h H) (odF w h n H) n).2.1 := fun j hj => ⟨(hR.2.2.1 j hj).2.1, by have := (hpd j hj |>.2.1); omega, by have := (hpd j hj |>.2.1); omega⟩
  have t4 := r_tr t3 (q_V ok_W_mostRank ok_Streams_greatestOf se_Streams_greatestOf (c_greatestOf_8 hV1 (by omega) hG) rfl rfl rfl rfl rfl ⟨rfl, rfl, rfl⟩)
  exact ⟨A1, V1, hR, ka, kv, ct_of ok_W_mostRank rfl t4 rfl rfl rfl rfl rfl⟩
theorem x_wear {b : Int} (hbr : V 10 = iI b) (hb : 1 ≤ b ∧ b ≤ 100) {k : Int} (hk : 1 ≤ k ∧ k ≤ 50) (hL : LdOK w h n H A V) : ∃ (A1 : Nat → Nat → Int32) (V1 : Nat → Int32), RunOK w h n H b A1 (odF w h n H) ∧ (∀ k, k < 3 ∨ 12 < k → A1 k = A k) ∧ (∀ k, k ≠ 3 → V1 k = V k) ∧ mj_Ct m_W_wear [.ref (mj_NE + 0), .int (iI k)] (Wd xs L A V Y) (some (.int (iI (lsm k H (nxF w h H) (pdK b (nxF w h H) (odF w h n H) n).1 n)))) (Wd xs L (wA (wA A1 1 (pw (fun j => iI (H j - losH k H (nxF w h H) (pdK b (nxF w h H) (odF w h n H) n).1 j)) (A1 1) n)) 0 (pw (fun j => iI (clH (H j - losH k H (nxF w h H) (pdK b (nxF w h H) (odF w h n H) n).1 j))) (A1 0) n)) V1 Y) 0 0 6 := by
  have hL2 := hL
  obtain ⟨h0, h1, hV, hnw, hw, hh, hN, hH⟩ := hL2
  have wh := wh_bd hw hh
  have t1 := r_to (RC := 0) (RS := 0) (dd := 6) (g := (0, [.ref (mj_NE + 0), .int (iI k)], [], Wd xs L A V Y, 0, 0)) (g' := (4, [.ref (mj_NE + 0), .int (iI k)], [.int (iI 50), .int (iI 1), .int (iI k)], Wd xs L A V Y, 0, 0)) ok_W_wear 9999 [] rfl trivial
  have t2 := r_tr t1 (q_S ok_W_wear ok_W_checkRange st_W_checkRange (f_checkRange hk ⟨by omega, by omega⟩) rfl rfl rfl rfl ⟨rfl, rfl, rfl⟩)
  obtain ⟨A1, V1, hR, ka, kv, hct⟩ := c_runX (xs := xs) (L := L) (A := A) (V := V) (Y := Y) (b := b) hV hw hh hnw hN hH ⟨by omega, by omega⟩
  have t3 := r_tr t2 (r_to (g' := (15, [.ref (mj_NE + 0), .int (iI k)], [.int (V 10), .ref (mj_NE + 5)], Wd xs L A V Y, 0, 0)) ok_W_wear 9999 [] rfl trivial)
  rw [hbr] at t3
  have t4 := r_tr t3 (q_V ok_W_wear ok_Streams_run se_Streams_run (hct) rfl rfl rfl rfl rfl ⟨rfl, rfl, rfl⟩)
  have hV1 : V1 2 = iI n := by rw [kv 2 (by omega)]; exact hV
  have hdr : ∀ i : Nat, i < n → A1 3 i = iI (drF w h H i) ∧ 0 ≤ drF w h H i ∧ drF w h H i ≤ 9 := fun i hi => ⟨(hR.2.1 i hi).1, by have := chD_bd hw hh hnw (fun j hj => (hH j hj).2) hi 8 (Nat.le_refl _); unfold drF; omega⟩
  have hnx : ∀ i : Nat, i < n → A1 4 i = iI (nxF w h H i) ∧ -1 ≤ nxF w h H i ∧ nxF w h H i < n := fun i hi => ⟨(hR.2.1 i hi).2, by have := chD_bd hw hh hnw (fun j hj => (hH j hj).2) hi 8 (Nat.le_refl _); unfold nxF; omega⟩
  have hpd := (pd_inv (b := b) hR.1 (fun j hj => (hnx j hj).2) n (Nat.le_refl _)).2
  have t5 := r_tr t4 (r_to (g' := (27, [.ref (mj_NE + 0), .int (iI k)], [.int (iI k), .ref (mj_NE + 5), .ref (mj_NE + 1)], Wd xs L A1 V1 Y, 0, 0)) ok_W_wear 9999 [] rfl trivial)
  have t6 := r_tr t5 (q_V ok_W_wear ok_Land_washAway se_Land_washAway (c_washAway (nx := nxF w h H) (fw := (pdK b (nxF w h H) (odF w h n H) n).1) hV1 (by omega) (by rw [ka 0 (by omega)]; exact hH) ⟨by omega, by omega⟩ hnx (fun i hi => ⟨(hR.2.2.1 i hi).1, by have := (hpd i hi).1; omega, by have := (hpd i hi).1; omega⟩)) rfl rfl rfl rfl rfl ⟨rfl, rfl, rfl⟩)
  exact ⟨A1, V1, hR, ka, kv, ct_of ok_W_wear rfl t6 rfl rfl rfl rfl rfl⟩
theorem x_water0 {b : Int} (hbr : V 10 = iI b) (hb : 1 ≤ b ∧ b ≤ 100) {x y : Int} (hx : 0 ≤ x ∧ x < w) (hy : 0 ≤ y ∧ y < h) (hL : LdOK w h n H A V) : ∃ (A1 : Nat → Nat → Int32) (V1 : Nat → Int32), RunOK w h n H b A1 (odF w h n H) ∧ (∀ k, k < 3 ∨ 12 < k → A1 k = A k) ∧ (∀ k, k ≠ 3 → V1 k = V k) ∧ mj_Ct m_W_water [.ref (mj_NE + 0), .int (iI x), .int (iI y), .int (iI 0)] (Wd xs L A V Y) (some (.int (A1 3 (y * w + x).toNat))) (Wd xs L A1 V1 Y) 0 0 6 := by
  have hL2 := hL
  obtain ⟨h0, h1, hV, hnw, hw, hh, hN, hH⟩ := hL2
  have wh := wh_bd hw hh
  have nbj := num_bd hw hh hx hy
  obtain ⟨j, hj⟩ : ∃ i : Nat, (i : Int) = y * w + x := ⟨(y * w + x).toNat, by omega⟩
  have hj2 : (y * w + x).toNat = j := by omega
  have hjn : j < n := by omega
  have cj : (iI (j : Int)).toNatClampNeg = j := cl_nat (by omega)
  have ij : vp_in (iI (j : Int)) 256 := in_nat (by omega) (by omega)
  rw [hj2]
  have t1 := r_to (RC := 0) (RS := 0) (dd := 6) (g := (0, [.ref (mj_NE + 0), .int (iI x), .int (iI y), .int (iI 0)], [], Wd xs L A V Y, 0, 0)) (g' := (3, [.ref (mj_NE + 0), .int (iI x), .int (iI y), .int (iI 0)], [.int (iI y), .int (iI x), .ref (mj_NE + 0)], Wd xs L A V Y, 0, 0)) ok_W_water 9999 [] rfl trivial
  have t2 := r_tr t1 (q_V ok_W_water ok_W_checkField se_W_checkField (f_checkField hL hx hy) rfl rfl rfl rfl rfl ⟨rfl, rfl, rfl⟩)
  have t3 := r_tr t2 (r_to (g' := (9, [.ref (mj_NE + 0), .int (iI x), .int (iI y), .int (iI 0)], [.int (iI 4), .int (iI 0), .int (iI 0)], Wd xs L A V Y, 0, 0)) ok_W_water 9999 [] rfl trivial)
  have t4 := r_tr t3 (q_S ok_W_water ok_W_checkRange st_W_checkRange (f_checkRange ⟨by omega, by omega⟩ ⟨by omega, by omega⟩) rfl rfl rfl rfl ⟨rfl, rfl, rfl⟩)
  obtain ⟨A1, V1, hR, ka, kv, hct⟩ := c_runX (xs := xs) (L := L) (A := A) (V := V) (Y := Y) (b := b) hV hw hh hnw hN hH ⟨by omega, by omega⟩
  have t5 := r_tr t4 (r_to (g' := (20, [.ref (mj_NE + 0), .int (iI x), .int (iI y), .int (iI 0)], [.int (V 10), .ref (mj_NE + 5)], Wd xs L A V Y, 0, 0)) ok_W_water 9999 [] rfl trivial)
  rw [hbr] at t5
  have t6 := r_tr t5 (q_V ok_W_water ok_Streams_run se_Streams_run (hct) rfl rfl rfl rfl rfl ⟨rfl, rfl, rfl⟩)
  have hV1 : V1 2 = iI n := by rw [kv 2 (by omega)]; exact hV
  have hdr : ∀ i : Nat, i < n → A1 3 i = iI (drF w h H i) ∧ 0 ≤ drF w h H i ∧ drF w h H i ≤ 9 := fun i hi => ⟨(hR.2.1 i hi).1, by have := chD_bd hw hh hnw (fun j hj => (hH j hj).2) hi 8 (Nat.le_refl _); unfold drF; omega⟩
  have hnx : ∀ i : Nat, i < n → A1 4 i = iI (nxF w h H i) ∧ -1 ≤ nxF w h H i ∧ nxF w h H i < n := fun i hi => ⟨(hR.2.1 i hi).2, by have := chD_bd hw hh hnw (fun j hj => (hH j hj).2) hi 8 (Nat.le_refl _); unfold nxF; omega⟩
  have hpd := (pd_inv (b := b) hR.1 (fun j hj => (hnx j hj).2) n (Nat.le_refl _)).2
  have t7 := r_tr t6 (r_to (g' := (33, [.ref (mj_NE + 0), .int (iI x), .int (iI y), .int (iI 0)], [.int (iI y), .int (iI x), .ref (mj_NE + 1), .ref (mj_NE + 5)], Wd xs L A1 V1 Y, 0, 0)) ok_W_water 9999 [] rfl trivial)
  have t8 := r_tr t7 (q_V ok_W_water ok_Land_numberOf se_Land_numberOf (c_num (by rw [kv 0 (by omega)]; exact h0)) rfl rfl rfl rfl rfl ⟨rfl, rfl, rfl⟩)
  rw [← hj] at t8
  have t9 := r_tr t8 (r_to (g' := (37, [.ref (mj_NE + 0), .int (iI x), .int (iI y), .int (iI 0)], [.int (iI 0), .int (iI j), .ref (mj_NE + 5)], Wd xs L A1 V1 Y, 0, 0)) ok_W_water 9999 [] rfl trivial)
  have t10 := r_tr t9 (q_V ok_W_water ok_Streams_told se_Streams_told (c_told0 (by omega)) rfl rfl rfl rfl rfl ⟨rfl, rfl, rfl⟩)
  exact ⟨A1, V1, hR, ka, kv, ct_of ok_W_water rfl t10 rfl rfl rfl rfl rfl⟩
theorem x_water1 {b : Int} (hbr : V 10 = iI b) (hb : 1 ≤ b ∧ b ≤ 100) {x y : Int} (hx : 0 ≤ x ∧ x < w) (hy : 0 ≤ y ∧ y < h) (hL : LdOK w h n H A V) : ∃ (A1 : Nat → Nat → Int32) (V1 : Nat → Int32), RunOK w h n H b A1 (odF w h n H) ∧ (∀ k, k < 3 ∨ 12 < k → A1 k = A k) ∧ (∀ k, k ≠ 3 → V1 k = V k) ∧ mj_Ct m_W_water [.ref (mj_NE + 0), .int (iI x), .int (iI y), .int (iI 1)] (Wd xs L A V Y) (some (.int (A1 5 (y * w + x).toNat))) (Wd xs L A1 V1 Y) 0 0 6 := by
  have hL2 := hL
  obtain ⟨h0, h1, hV, hnw, hw, hh, hN, hH⟩ := hL2
  have wh := wh_bd hw hh
  have nbj := num_bd hw hh hx hy
  obtain ⟨j, hj⟩ : ∃ i : Nat, (i : Int) = y * w + x := ⟨(y * w + x).toNat, by omega⟩
  have hj2 : (y * w + x).toNat = j := by omega
  have hjn : j < n := by omega
  have cj : (iI (j : Int)).toNatClampNeg = j := cl_nat (by omega)
  have ij : vp_in (iI (j : Int)) 256 := in_nat (by omega) (by omega)
  rw [hj2]
  have t1 := r_to (RC := 0) (RS := 0) (dd := 6) (g := (0, [.ref (mj_NE + 0), .int (iI x), .int (iI y), .int (iI 1)], [], Wd xs L A V Y, 0, 0)) (g' := (3, [.ref (mj_NE + 0), .int (iI x), .int (iI y), .int (iI 1)], [.int (iI y), .int (iI x), .ref (mj_NE + 0)], Wd xs L A V Y, 0, 0)) ok_W_water 9999 [] rfl trivial
  have t2 := r_tr t1 (q_V ok_W_water ok_W_checkField se_W_checkField (f_checkField hL hx hy) rfl rfl rfl rfl rfl ⟨rfl, rfl, rfl⟩)
  have t3 := r_tr t2 (r_to (g' := (9, [.ref (mj_NE + 0), .int (iI x), .int (iI y), .int (iI 1)], [.int (iI 4), .int (iI 0), .int (iI 1)], Wd xs L A V Y, 0, 0)) ok_W_water 9999 [] rfl trivial)
  have t4 := r_tr t3 (q_S ok_W_water ok_W_checkRange st_W_checkRange (f_checkRange ⟨by omega, by omega⟩ ⟨by omega, by omega⟩) rfl rfl rfl rfl ⟨rfl, rfl, rfl⟩)
  obtain ⟨A1, V1, hR, ka, kv, hct⟩ := c_runX (xs := xs) (L := L) (A := A) (V := V) (Y := Y) (b := b) hV hw hh hnw hN hH ⟨by omega, by omega⟩
  have t5 := r_tr t4 (r_to (g' := (20, [.ref (mj_NE + 0), .int (iI x), .int (iI y), .int (iI 1)], [.int (V 10), .ref (mj_NE + 5)], Wd xs L A V Y, 0, 0)) ok_W_water 9999 [] rfl trivial)
  rw [hbr] at t5
  have t6 := r_tr t5 (q_V ok_W_water ok_Streams_run se_Streams_run (hct) rfl rfl rfl rfl rfl ⟨rfl, rfl, rfl⟩)
  have hV1 : V1 2 = iI n := by rw [kv 2 (by omega)]; exact hV
  have hdr : ∀ i : Nat, i < n → A1 3 i = iI (drF w h H i) ∧ 0 ≤ drF w h H i ∧ drF w h H i ≤ 9 := fun i hi => ⟨(hR.2.1 i hi).1, by have := chD_bd hw hh hnw (fun j hj => (hH j hj).2) hi 8 (Nat.le_refl _); unfold drF; omega⟩
  have hnx : ∀ i : Nat, i < n → A1 4 i = iI (nxF w h H i) ∧ -1 ≤ nxF w h H i ∧ nxF w h H i < n := fun i hi => ⟨(hR.2.1 i hi).2, by have := chD_bd hw hh hnw (fun j hj => (hH j hj).2) hi 8 (Nat.le_refl _); unfold nxF; omega⟩
  have hpd := (pd_inv (b := b) hR.1 (fun j hj => (hnx j hj).2) n (Nat.le_refl _)).2
  have t7 := r_tr t6 (r_to (g' := (33, [.ref (mj_NE + 0), .int (iI x), .int (iI y), .int (iI 1)], [.int (iI y), .int (iI x), .ref (mj_NE + 1), .ref (mj_NE + 5)], Wd xs L A1 V1 Y, 0, 0)) ok_W_water 9999 [] rfl trivial)
  have t8 := r_tr t7 (q_V ok_W_water ok_Land_numberOf se_Land_numberOf (c_num (by rw [kv 0 (by omega)]; exact h0)) rfl rfl rfl rfl rfl ⟨rfl, rfl, rfl⟩)
  rw [← hj] at t8
  have t9 := r_tr t8 (r_to (g' := (37, [.ref (mj_NE + 0), .int (iI x), .int (iI y), .int (iI 1)], [.int (iI 1), .int (iI j), .ref (mj_NE + 5)], Wd xs L A1 V1 Y, 0, 0)) ok_W_water 9999 [] rfl trivial)
  have t10 := r_tr t9 (q_V ok_W_water ok_Streams_told se_Streams_told (c_told1 (by omega)) rfl rfl rfl rfl rfl ⟨rfl, rfl, rfl⟩)
  exact ⟨A1, V1, hR, ka, kv, ct_of ok_W_water rfl t10 rfl rfl rfl rfl rfl⟩
theorem x_water2 {b : Int} (hbr : V 10 = iI b) (hb : 1 ≤ b ∧ b ≤ 100) {x y : Int} (hx : 0 ≤ x ∧ x < w) (hy : 0 ≤ y ∧ y < h) (hL : LdOK w h n H A V) : ∃ (A1 : Nat → Nat → Int32) (V1 : Nat → Int32), RunOK w h n H b A1 (odF w h n H) ∧ (∀ k, k < 3 ∨ 12 < k → A1 k = A k) ∧ (∀ k, k ≠ 3 → V1 k = V k) ∧ mj_Ct m_W_water [.ref (mj_NE + 0), .int (iI x), .int (iI y), .int (iI 2)] (Wd xs L A V Y) (some (.int (A1 6 (y * w + x).toNat))) (Wd xs L A1 V1 Y) 0 0 6 := by
  have hL2 := hL
  obtain ⟨h0, h1, hV, hnw, hw, hh, hN, hH⟩ := hL2
  have wh := wh_bd hw hh
  have nbj := num_bd hw hh hx hy
  obtain ⟨j, hj⟩ : ∃ i : Nat, (i : Int) = y * w + x := ⟨(y * w + x).toNat, by omega⟩
  have hj2 : (y * w + x).toNat = j := by omega
  have hjn : j < n := by omega
  have cj : (iI (j : Int)).toNatClampNeg = j := cl_nat (by omega)
  have ij : vp_in (iI (j : Int)) 256 := in_nat (by omega) (by omega)
  rw [hj2]
  have t1 := r_to (RC := 0) (RS := 0) (dd := 6) (g := (0, [.ref (mj_NE + 0), .int (iI x), .int (iI y), .int (iI 2)], [], Wd xs L A V Y, 0, 0)) (g' := (3, [.ref (mj_NE + 0), .int (iI x), .int (iI y), .int (iI 2)], [.int (iI y), .int (iI x), .ref (mj_NE + 0)], Wd xs L A V Y, 0, 0)) ok_W_water 9999 [] rfl trivial
  have t2 := r_tr t1 (q_V ok_W_water ok_W_checkField se_W_checkField (f_checkField hL hx hy) rfl rfl rfl rfl rfl ⟨rfl, rfl, rfl⟩)
  have t3 := r_tr t2 (r_to (g' := (9, [.ref (mj_NE + 0), .int (iI x), .int (iI y), .int (iI 2)], [.int (iI 4), .int (iI 0), .int (iI 2)], Wd xs L A V Y, 0, 0)) ok_W_water 9999 [] rfl trivial)
  have t4 := r_tr t3 (q_S ok_W_water ok_W_checkRange st_W_checkRange (f_checkRange ⟨by omega, by omega⟩ ⟨by omega, by omega⟩) rfl rfl rfl rfl ⟨rfl, rfl, rfl⟩)
  obtain ⟨A1, V1, hR, ka, kv, hct⟩ := c_runX (xs := xs) (L := L) (A := A) (V := V) (Y := Y) (b := b) hV hw hh hnw hN hH ⟨by omega, by omega⟩
  have t5 := r_tr t4 (r_to (g' := (20, [.ref (mj_NE + 0), .int (iI x), .int (iI y), .int (iI 2)], [.int (V 10), .ref (mj_NE + 5)], Wd xs L A V Y, 0, 0)) ok_W_water 9999 [] rfl trivial)
  rw [hbr] at t5
  have t6 := r_tr t5 (q_V ok_W_water ok_Streams_run se_Streams_run (hct) rfl rfl rfl rfl rfl ⟨rfl, rfl, rfl⟩)
  have hV1 : V1 2 = iI n := by rw [kv 2 (by omega)]; exact hV
  have hdr : ∀ i : Nat, i < n → A1 3 i = iI (drF w h H i) ∧ 0 ≤ drF w h H i ∧ drF w h H i ≤ 9 := fun i hi => ⟨(hR.2.1 i hi).1, by have := chD_bd hw hh hnw (fun j hj => (hH j hj).2) hi 8 (Nat.le_refl _); unfold drF; omega⟩
  have hnx : ∀ i : Nat, i < n → A1 4 i = iI (nxF w h H i) ∧ -1 ≤ nxF w h H i ∧ nxF w h H i < n := fun i hi => ⟨(hR.2.1 i hi).2, by have := chD_bd hw hh hnw (fun j hj => (hH j hj).2) hi 8 (Nat.le_refl _); unfold nxF; omega⟩
  have hpd := (pd_inv (b := b) hR.1 (fun j hj => (hnx j hj).2) n (Nat.le_refl _)).2
  have t7 := r_tr t6 (r_to (g' := (33, [.ref (mj_NE + 0), .int (iI x), .int (iI y), .int (iI 2)], [.int (iI y), .int (iI x), .ref (mj_NE + 1), .ref (mj_NE + 5)], Wd xs L A1 V1 Y, 0, 0)) ok_W_water 9999 [] rfl trivial)
  have t8 := r_tr t7 (q_V ok_W_water ok_Land_numberOf se_Land_numberOf (c_num (by rw [kv 0 (by omega)]; exact h0)) rfl rfl rfl rfl rfl ⟨rfl, rfl, rfl⟩)
  rw [← hj] at t8
  have t9 := r_tr t8 (r_to (g' := (37, [.ref (mj_NE + 0), .int (iI x), .int (iI y), .int (iI 2)], [.int (iI 2), .int (iI j), .ref (mj_NE + 5)], Wd xs L A1 V1 Y, 0, 0)) ok_W_water 9999 [] rfl trivial)
  have t10 := r_tr t9 (q_V ok_W_water ok_Streams_told se_Streams_told (c_told2 (by omega)) rfl rfl rfl rfl rfl ⟨rfl, rfl, rfl⟩)
  exact ⟨A1, V1, hR, ka, kv, ct_of ok_W_water rfl t10 rfl rfl rfl rfl rfl⟩
theorem x_water3 {b : Int} (hbr : V 10 = iI b) (hb : 1 ≤ b ∧ b ≤ 100) {x y : Int} (hx : 0 ≤ x ∧ x < w) (hy : 0 ≤ y ∧ y < h) (hL : LdOK w h n H A V) : ∃ (A1 : Nat → Nat → Int32) (V1 : Nat → Int32), RunOK w h n H b A1 (odF w h n H) ∧ (∀ k, k < 3 ∨ 12 < k → A1 k = A k) ∧ (∀ k, k ≠ 3 → V1 k = V k) ∧ mj_Ct m_W_water [.ref (mj_NE + 0), .int (iI x), .int (iI y), .int (iI 3)] (Wd xs L A V Y) (some (.int (A1 8 (y * w + x).toNat))) (Wd xs L A1 V1 Y) 0 0 6 := by
  have hL2 := hL
  obtain ⟨h0, h1, hV, hnw, hw, hh, hN, hH⟩ := hL2
  have wh := wh_bd hw hh
  have nbj := num_bd hw hh hx hy
  obtain ⟨j, hj⟩ : ∃ i : Nat, (i : Int) = y * w + x := ⟨(y * w + x).toNat, by omega⟩
  have hj2 : (y * w + x).toNat = j := by omega
  have hjn : j < n := by omega
  have cj : (iI (j : Int)).toNatClampNeg = j := cl_nat (by omega)
  have ij : vp_in (iI (j : Int)) 256 := in_nat (by omega) (by omega)
  rw [hj2]
  have t1 := r_to (RC := 0) (RS := 0) (dd := 6) (g := (0, [.ref (mj_NE + 0), .int (iI x), .int (iI y), .int (iI 3)], [], Wd xs L A V Y, 0, 0)) (g' := (3, [.ref (mj_NE + 0), .int (iI x), .int (iI y), .int (iI 3)], [.int (iI y), .int (iI x), .ref (mj_NE + 0)], Wd xs L A V Y, 0, 0)) ok_W_water 9999 [] rfl trivial
  have t2 := r_tr t1 (q_V ok_W_water ok_W_checkField se_W_checkField (f_checkField hL hx hy) rfl rfl rfl rfl rfl ⟨rfl, rfl, rfl⟩)
  have t3 := r_tr t2 (r_to (g' := (9, [.ref (mj_NE + 0), .int (iI x), .int (iI y), .int (iI 3)], [.int (iI 4), .int (iI 0), .int (iI 3)], Wd xs L A V Y, 0, 0)) ok_W_water 9999 [] rfl trivial)
  have t4 := r_tr t3 (q_S ok_W_water ok_W_checkRange st_W_checkRange (f_checkRange ⟨by omega, by omega⟩ ⟨by omega, by omega⟩) rfl rfl rfl rfl ⟨rfl, rfl, rfl⟩)
  obtain ⟨A1, V1, hR, ka, kv, hct⟩ := c_runX (xs := xs) (L := L) (A := A) (V := V) (Y := Y) (b := b) hV hw hh hnw hN hH ⟨by omega, by omega⟩
  have t5 := r_tr t4 (r_to (g' := (20, [.ref (mj_NE + 0), .int (iI x), .int (iI y), .int (iI 3)], [.int (V 10), .ref (mj_NE + 5)], Wd xs L A V Y, 0, 0)) ok_W_water 9999 [] rfl trivial)
  rw [hbr] at t5
  have t6 := r_tr t5 (q_V ok_W_water ok_Streams_run se_Streams_run (hct) rfl rfl rfl rfl rfl ⟨rfl, rfl, rfl⟩)
  have hV1 : V1 2 = iI n := by rw [kv 2 (by omega)]; exact hV
  have hdr : ∀ i : Nat, i < n → A1 3 i = iI (drF w h H i) ∧ 0 ≤ drF w h H i ∧ drF w h H i ≤ 9 := fun i hi => ⟨(hR.2.1 i hi).1, by have := chD_bd hw hh hnw (fun j hj => (hH j hj).2) hi 8 (Nat.le_refl _); unfold drF; omega⟩
  have hnx : ∀ i : Nat, i < n → A1 4 i = iI (nxF w h H i) ∧ -1 ≤ nxF w h H i ∧ nxF w h H i < n := fun i hi => ⟨(hR.2.1 i hi).2, by have := chD_bd hw hh hnw (fun j hj => (hH j hj).2) hi 8 (Nat.le_refl _); unfold nxF; omega⟩
  have hpd := (pd_inv (b := b) hR.1 (fun j hj => (hnx j hj).2) n (Nat.le_refl _)).2
  have t7 := r_tr t6 (r_to (g' := (33, [.ref (mj_NE + 0), .int (iI x), .int (iI y), .int (iI 3)], [.int (iI y), .int (iI x), .ref (mj_NE + 1), .ref (mj_NE + 5)], Wd xs L A1 V1 Y, 0, 0)) ok_W_water 9999 [] rfl trivial)
  have t8 := r_tr t7 (q_V ok_W_water ok_Land_numberOf se_Land_numberOf (c_num (by rw [kv 0 (by omega)]; exact h0)) rfl rfl rfl rfl rfl ⟨rfl, rfl, rfl⟩)
  rw [← hj] at t8
  have t9 := r_tr t8 (r_to (g' := (37, [.ref (mj_NE + 0), .int (iI x), .int (iI y), .int (iI 3)], [.int (iI 3), .int (iI j), .ref (mj_NE + 5)], Wd xs L A1 V1 Y, 0, 0)) ok_W_water 9999 [] rfl trivial)
  have t10 := r_tr t9 (q_V ok_W_water ok_Streams_told se_Streams_told (c_told3 (by omega)) rfl rfl rfl rfl rfl ⟨rfl, rfl, rfl⟩)
  exact ⟨A1, V1, hR, ka, kv, ct_of ok_W_water rfl t10 rfl rfl rfl rfl rfl⟩
theorem x_water4 {b : Int} (hbr : V 10 = iI b) (hb : 1 ≤ b ∧ b ≤ 100) {x y : Int} (hx : 0 ≤ x ∧ x < w) (hy : 0 ≤ y ∧ y < h) (hL : LdOK w h n H A V) : ∃ (A1 : Nat → Nat → Int32) (V1 : Nat → Int32), RunOK w h n H b A1 (odF w h n H) ∧ (∀ k, k < 3 ∨ 12 < k → A1 k = A k) ∧ (∀ k, k ≠ 3 → V1 k = V k) ∧ mj_Ct m_W_water [.ref (mj_NE + 0), .int (iI x), .int (iI y), .int (iI 4)] (Wd xs L A V Y) (some (.int (A1 7 (y * w + x).toNat))) (Wd xs L A1 V1 Y) 0 0 6 := by
  have hL2 := hL
  obtain ⟨h0, h1, hV, hnw, hw, hh, hN, hH⟩ := hL2
  have wh := wh_bd hw hh
  have nbj := num_bd hw hh hx hy
  obtain ⟨j, hj⟩ : ∃ i : Nat, (i : Int) = y * w + x := ⟨(y * w + x).toNat, by omega⟩
  have hj2 : (y * w + x).toNat = j := by omega
  have hjn : j < n := by omega
  have cj : (iI (j : Int)).toNatClampNeg = j := cl_nat (by omega)
  have ij : vp_in (iI (j : Int)) 256 := in_nat (by omega) (by omega)
  rw [hj2]
  have t1 := r_to (RC := 0) (RS := 0) (dd := 6) (g := (0, [.ref (mj_NE + 0), .int (iI x), .int (iI y), .int (iI 4)], [], Wd xs L A V Y, 0, 0)) (g' := (3, [.ref (mj_NE + 0), .int (iI x), .int (iI y), .int (iI 4)], [.int (iI y), .int (iI x), .ref (mj_NE + 0)], Wd xs L A V Y, 0, 0)) ok_W_water 9999 [] rfl trivial
  have t2 := r_tr t1 (q_V ok_W_water ok_W_checkField se_W_checkField (f_checkField hL hx hy) rfl rfl rfl rfl rfl ⟨rfl, rfl, rfl⟩)
  have t3 := r_tr t2 (r_to (g' := (9, [.ref (mj_NE + 0), .int (iI x), .int (iI y), .int (iI 4)], [.int (iI 4), .int (iI 0), .int (iI 4)], Wd xs L A V Y, 0, 0)) ok_W_water 9999 [] rfl trivial)
  have t4 := r_tr t3 (q_S ok_W_water ok_W_checkRange st_W_checkRange (f_checkRange ⟨by omega, by omega⟩ ⟨by omega, by omega⟩) rfl rfl rfl rfl ⟨rfl, rfl, rfl⟩)
  obtain ⟨A1, V1, hR, ka, kv, hct⟩ := c_runX (xs := xs) (L := L) (A := A) (V := V) (Y := Y) (b := b) hV hw hh hnw hN hH ⟨by omega, by omega⟩
  have t5 := r_tr t4 (r_to (g' := (20, [.ref (mj_NE + 0), .int (iI x), .int (iI y), .int (iI 4)], [.int (V 10), .ref (mj_NE + 5)], Wd xs L A V Y, 0, 0)) ok_W_water 9999 [] rfl trivial)
  rw [hbr] at t5
  have t6 := r_tr t5 (q_V ok_W_water ok_Streams_run se_Streams_run (hct) rfl rfl rfl rfl rfl ⟨rfl, rfl, rfl⟩)
  have hV1 : V1 2 = iI n := by rw [kv 2 (by omega)]; exact hV
  have hdr : ∀ i : Nat, i < n → A1 3 i = iI (drF w h H i) ∧ 0 ≤ drF w h H i ∧ drF w h H i ≤ 9 := fun i hi => ⟨(hR.2.1 i hi).1, by have := chD_bd hw hh hnw (fun j hj => (hH j hj).2) hi 8 (Nat.le_refl _); unfold drF; omega⟩
  have hnx : ∀ i : Nat, i < n → A1 4 i = iI (nxF w h H i) ∧ -1 ≤ nxF w h H i ∧ nxF w h H i < n := fun i hi => ⟨(hR.2.1 i hi).2, by have := chD_bd hw hh hnw (fun j hj => (hH j hj).2) hi 8 (Nat.le_refl _); unfold nxF; omega⟩
  have hpd := (pd_inv (b := b) hR.1 (fun j hj => (hnx j hj).2) n (Nat.le_refl _)).2
  have t7 := r_tr t6 (r_to (g' := (33, [.ref (mj_NE + 0), .int (iI x), .int (iI y), .int (iI 4)], [.int (iI y), .int (iI x), .ref (mj_NE + 1), .ref (mj_NE + 5)], Wd xs L A1 V1 Y, 0, 0)) ok_W_water 9999 [] rfl trivial)
  have t8 := r_tr t7 (q_V ok_W_water ok_Land_numberOf se_Land_numberOf (c_num (by rw [kv 0 (by omega)]; exact h0)) rfl rfl rfl rfl rfl ⟨rfl, rfl, rfl⟩)
  rw [← hj] at t8
  have t9 := r_tr t8 (r_to (g' := (37, [.ref (mj_NE + 0), .int (iI x), .int (iI y), .int (iI 4)], [.int (iI 4), .int (iI j), .ref (mj_NE + 5)], Wd xs L A1 V1 Y, 0, 0)) ok_W_water 9999 [] rfl trivial)
  have t10 := r_tr t9 (q_V ok_W_water ok_Streams_told se_Streams_told (c_told4 (by omega)) rfl rfl rfl rfl rfl ⟨rfl, rfl, rfl⟩)
  exact ⟨A1, V1, hR, ka, kv, ct_of ok_W_water rfl t10 rfl rfl rfl rfl rfl⟩
end FACEX
/-- what below answers -/
def blF (v : Int32) (k : Int) : Int := ((v &&& 2147483647).toInt).tmod k
theorem bl_nn (v : Int32) : 0 ≤ (v &&& 2147483647).toInt := by
  have hm : ∀ z : Int32, z < 0 ↔ z.toBitVec.msb = true := fun z => by
    rw [Int32.lt_iff_toInt_lt, Int32.toInt_zero]
    rw [BitVec.msb_eq_toInt, decide_eq_true_eq]
    exact Iff.rfl
  have h1 : ¬ (v &&& 2147483647) < 0 := fun q => by
    have h2 := (hm _).mp q
    rw [Int32.toBitVec_and, BitVec.msb_and, show (2147483647 : Int32).toBitVec.msb = false by decide +kernel, Bool.and_false] at h2
    cases h2
  rw [Int32.lt_iff_toInt_lt, Int32.toInt_zero] at h1
  omega
theorem blF_bd {v : Int32} {k : Int} (hk : 0 < k) : 0 ≤ blF v k ∧ blF v k < k := ⟨Int.tmod_nonneg k (bl_nn v), Int.tmod_lt_of_pos _ hk⟩
theorem c_below {v : Int32} {k : Int} {hp : mj_H} (hk : 0 < k ∧ k ≤ 100000) : mj_Ct m_WatershedMapLaw_below [.int v, .int (iI k)] hp (some (.int (iI (blF v k)))) hp 0 0 0 := by
  have e : (v &&& 2147483647) = iI (v &&& 2147483647).toInt := (Int32.ofInt_toInt _).symm
  have b1 := bl_nn v
  have b2 : (v &&& 2147483647).toInt ≤ 2147483647 := by
    have := Int32.toInt_lt (v &&& 2147483647)
    omega
  have t1 : mj_Rc m_WatershedMapLaw_below 0 0 0 (0, [.int v, .int (iI k)], [], hp, 0, 0) (6, [.int v, .int (iI k)], [.int ((v &&& 2147483647) - (v &&& 2147483647) / iI k * iI k)], hp, 0, 0) := r_to ok_WatershedMapLaw_below 9999 [] rfl ⟨iI_nz ⟨by omega, by omega⟩ (by omega), trivial⟩
  have e2 : (v &&& 2147483647) - (v &&& 2147483647) / iI k * iI k = iI (blF v k) := by
    unfold blF
    rw [e, iI_toInt (by omega) b2]
    exact iI_rem ⟨by omega, b2⟩ ⟨hk.1, by omega⟩
  rw [e2] at t1
  exact ct_of ok_WatershedMapLaw_below rfl t1 rfl rfl rfl rfl rfl
/-- what cell answers -/
def clF (xs : Nat → Int32) (L k : Nat) : Int32 := if k < L then xs k else 790386105 * (iI (k : Int) + 3)
theorem c_cell {xs : Nat → Int32} {L k : Nat} {A : Nat → Nat → Int32} {V : Nat → Int32} {Y : mj_H} (hL : L ≤ 260) (hk : k ≤ 1000) : mj_Ct m_WatershedMapLaw_cell [.ref 3, .int (iI (k : Int))] (Wd xs L A V Y) (some (.int (clF xs L k))) (Wd xs L A V Y) 0 0 0 := by
  have hc : (iI (k : Int)).toNatClampNeg = k := cl_nat (by omega)
  unfold clF
  by_cases q : k < L
  · rw [if_pos q, show xs k = xs (iI (k : Int)).toNatClampNeg by rw [hc]]
    exact ct_of ok_WatershedMapLaw_cell rfl (r_to ok_WatershedMapLaw_cell 9999 [false] rfl ⟨by
      show ¬ (Int32.ofNat L ≤ iI (k : Int))
      rw [show Int32.ofNat L = iI (L : Int) from nI_iI L, iI_le ⟨by omega, by omega⟩ ⟨by omega, by omega⟩]
      omega, in_nat q (by omega), trivial⟩) rfl rfl rfl rfl rfl
  · rw [if_neg q]
    exact ct_of ok_WatershedMapLaw_cell rfl (r_to ok_WatershedMapLaw_cell 9999 [true] rfl ⟨by
      show Int32.ofNat L ≤ iI (k : Int)
      rw [show Int32.ofNat L = iI (L : Int) from nI_iI L, iI_le ⟨by omega, by omega⟩ ⟨by omega, by omega⟩]
      omega, trivial⟩) rfl rfl rfl rfl rfl
