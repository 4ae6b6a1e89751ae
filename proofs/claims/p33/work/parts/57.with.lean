/-! fill, volumeWith, endsWith in general -/
theorem clH_in {z : Int} (h : 0 ≤ z ∧ z ≤ 999) : clH z = z := by
  unfold clH
  rw [if_neg (by omega), if_neg (by omega)]
theorem LdOK.back {w h : Int} {n j : Nat} {z : Int} {H : Nat → Int} {A A1 : Nat → Nat → Int32} {V V1 : Nat → Int32} (hL : LdOK w h n H A V) (hj : j < n) (a0 : A1 0 = upd (A 0) j (iI z)) (a2 : A1 2 = A 2) (v0 : V1 0 = V 0) (v1 : V1 1 = V 1) (v2 : V1 2 = V 2) : LdOK w h n H (wA A1 0 (upd (A1 0) j (iI (clH (H j))))) V1 := by
  obtain ⟨h0, h1, hV, hnw, hw, hh, hN, hH⟩ := hL
  refine ⟨v0.trans h0, v1.trans h1, v2.trans hV, hnw, hw, hh, by rw [wA_n (by omega), a2]; exact hN, fun i hi => ?_⟩
  rw [wA_s]
  by_cases e : i = j
  · subst e
    rw [upd_eq, clH_in (hH i hi).2]
    exact ⟨rfl, (hH i hi).2⟩
  · rw [upd_ne e, a0, upd_ne e]
    exact hH i hi
section FVE
variable {xs : Nat → Int32} {L : Nat} {A : Nat → Nat → Int32} {V : Nat → Int32} {Y : mj_H} {K : Nat} {w h : Int} {n : Nat} {H lev : Nat → Int}
theorem f_fillG (hK : K = 512) (hLv : LvOK w h n H lev) (hL : LdOK w h n H A V) : ∃ (A1 : Nat → Nat → Int32) (V1 : Nat → Int32), (∀ k, k ≠ 13 → k ≠ 14 → k ≠ 15 → A1 k = A k) ∧ (∀ k, k ≠ 4 → k ≠ 5 → V1 k = V k) ∧ mj_Ct m_W_fill [.ref (mj_NE + 0)] (Wd xs L A V Y) (some (.int (iI (adH lev H n)))) (Wd xs L (wA A1 0 (pw (fun j => iI (lev j)) (A1 0) n)) V1 Y) 0 0 6 := by
  have hL2 := hL
  obtain ⟨h0, h1, hV, hnw, hw, hh, hN, hH⟩ := hL2
  have wh := wh_bd hw hh
  obtain ⟨A1, V1, hl, hld, h4, ka, kv, hct⟩ := c_findL (xs := xs) (L := L) (A := A) (V := V) (Y := Y) (K := K) (lev := lev) hK hV hw hh hnw hN hH hLv
  have t1 := r_to (RC := 0) (RS := 0) (dd := 6) (g := (0, [.ref (mj_NE + 0)], [], Wd xs L A V Y, 0, 0)) (g' := (4, [.ref (mj_NE + 0)], [.ref (mj_NE + 16)], Wd xs L A V Y, 0, 0)) ok_W_fill 9999 [] rfl trivial
  have t2 := r_tr t1 (q_V ok_W_fill ok_Hollows_find se_Hollows_find (hct) rfl rfl rfl rfl rfl ⟨rfl, rfl, rfl⟩)
  have hV1 : V1 2 = iI n := by rw [kv 2 (by omega) (by omega)]; exact hV
  have k0 : A1 0 = A 0 := ka 0 (by omega) (by omega) (by omega)
  have v0 : V1 0 = iI w := by rw [kv 0 (by omega) (by omega)]; exact h0
  have t3 := r_tr t2 (r_to (g' := (18, [.ref (mj_NE + 0)], [.ref (mj_NE + 17), .ref (mj_NE + 1)], Wd xs L A1 V1 Y, 0, 0)) ok_W_fill 9999 [] rfl trivial)
  have t4 := r_tr t3 (q_V ok_W_fill ok_Land_raiseTo se_Land_raiseTo (c_raiseTo (H := H) (G := lev) hV1 (by omega) (by rw [k0]; exact hH) (fun j hj => ⟨hl j hj, by have h1 := (hH j hj).2; have h2 := hLv.1 j hj; omega⟩)) rfl rfl rfl rfl rfl ⟨rfl, rfl, rfl⟩)
  exact ⟨A1, V1, ka, kv, ct_of ok_W_fill rfl t4 rfl rfl rfl rfl rfl⟩
theorem f_volumeWithG {x y z : Int} (hK : K = 512) (hx : 0 ≤ x ∧ x < w) (hy : 0 ≤ y ∧ y < h) (hz : 0 ≤ z ∧ z ≤ 999) (hLv : LvOK w h n (supI H (y * w + x).toNat z) lev) (hL : LdOK w h n H A V) : ∃ (A1 : Nat → Nat → Int32) (V1 : Nat → Int32), LdOK w h n H A1 V1 ∧ V1 10 = V 10 ∧ mj_Ct m_W_volumeWith [.ref (mj_NE + 0), .int (iI x), .int (iI y), .int (iI z)] (Wd xs L A V Y) (some (.int (iI (smH (fun j => lev j - supI H (y * w + x).toNat z j) n)))) (Wd xs L A1 V1 Y) 0 0 6 := by
  have hL2 := hL
  obtain ⟨h0, h1, hV, hnw, hw, hh, hN, hH⟩ := hL2
  have wh := wh_bd hw hh
  have nbj := num_bd hw hh hx hy
  obtain ⟨j, hj⟩ : ∃ i : Nat, (i : Int) = y * w + x := ⟨(y * w + x).toNat, by omega⟩
  have hj2 : (y * w + x).toNat = j := by omega
  have hjn : j < n := by omega
  have cj : (iI (j : Int)).toNatClampNeg = j := cl_nat (by omega)
  have ij : vp_in (iI (j : Int)) 256 := in_nat (by omega) (by omega)
  have t1 := r_to (RC := 0) (RS := 0) (dd := 6) (g := (0, [.ref (mj_NE + 0), .int (iI x), .int (iI y), .int (iI z), mj_u, mj_u, mj_u], [], Wd xs L A V Y, 0, 0)) (g' := (3, [.ref (mj_NE + 0), .int (iI x), .int (iI y), .int (iI z), mj_u, mj_u, mj_u], [.int (iI y), .int (iI x), .ref (mj_NE + 0)], Wd xs L A V Y, 0, 0)) ok_W_volumeWith 9999 [] rfl trivial
  have t2 := r_tr t1 (q_V ok_W_volumeWith ok_W_checkField se_W_checkField (f_checkField hL hx hy) rfl rfl rfl rfl rfl ⟨rfl, rfl, rfl⟩)
  have t3 := r_tr t2 (r_to (g' := (11, [.ref (mj_NE + 0), .int (iI x), .int (iI y), .int (iI z), mj_u, mj_u, mj_u], [.int (iI 999), .int (iI 0), .int (iI z)], Wd xs L A V Y, 0, 0)) ok_W_volumeWith 9999 [] rfl trivial)
  have t4 := r_tr t3 (q_S ok_W_volumeWith ok_W_checkRange st_W_checkRange (f_checkRange hz ⟨by omega, by omega⟩) rfl rfl rfl rfl ⟨rfl, rfl, rfl⟩)
  have t5 := r_tr t4 (r_to (g' := (20, [.ref (mj_NE + 0), .int (iI x), .int (iI y), .int (iI z), mj_u, mj_u, mj_u], [.int (iI y), .int (iI x), .ref (mj_NE + 1)], Wd xs L A V Y, 0, 0)) ok_W_volumeWith 9999 [] rfl trivial)
  have t6 := r_tr t5 (q_V ok_W_volumeWith ok_Land_numberOf se_Land_numberOf (c_num h0) rfl rfl rfl rfl rfl ⟨rfl, rfl, rfl⟩)
  rw [← hj] at t6
  have t7 := r_tr t6 (r_to (g' := (32, [.ref (mj_NE + 0), .int (iI x), .int (iI y), .int (iI z), .int (iI (j : Int)), mj_u, mj_u], [.int (iI z), .int (iI (j : Int)), .ref (mj_NE + 1)], Wd xs L A V Y, 0, 0)) ok_W_volumeWith 9999 [] rfl trivial)
  have t8 := r_tr t7 (q_V ok_W_volumeWith ok_Land_exchange se_Land_exchange (c_exchange (i := (j : Int)) ⟨by omega, by omega⟩ ⟨by omega, by omega⟩) rfl rfl rfl rfl rfl ⟨rfl, rfl, rfl⟩)
  rw [Int.toNat_natCast, (hH j hjn).1, clH_id hz] at t8
  obtain ⟨g0, g1, g2, g3, g4, g5, g6, g7⟩ := LdOK.set (j := j) hL hz
  rw [hj2] at hLv
  rw [hj2]
  obtain ⟨A1, V1, hl, hld, h4, ka, kv, hct⟩ := c_findL (xs := xs) (L := L) (A := wA A 0 (upd (A 0) j (iI z))) (V := V) (Y := Y) (K := K) (lev := lev) hK g2 hw hh hnw g6 g7 hLv
  have t9 := r_tr t8 (r_to (g' := (41, [.ref (mj_NE + 0), .int (iI x), .int (iI y), .int (iI z), .int (iI (j : Int)), .int (iI (H j)), mj_u], [.ref (mj_NE + 16)], Wd xs L (wA A 0 (upd (A 0) j (iI z))) V Y, 0, 0)) ok_W_volumeWith 9999 [] rfl trivial)
  have t10 := r_tr t9 (q_V ok_W_volumeWith ok_Hollows_find se_Hollows_find (hct) rfl rfl rfl rfl rfl ⟨rfl, rfl, rfl⟩)
  have hV1 : V1 2 = iI n := by rw [kv 2 (by omega) (by omega)]; exact hV
  have t11 := r_tr t10 (r_to (g' := (48, [.ref (mj_NE + 0), .int (iI x), .int (iI y), .int (iI z), .int (iI (j : Int)), .int (iI (H j)), mj_u], [.ref (mj_NE + 16)], Wd xs L A1 V1 Y, 0, 0)) ok_W_volumeWith 9999 [] rfl trivial)
  have t12 := r_tr t11 (q_V ok_W_volumeWith ok_Hollows_content se_Hollows_content (c_content (lev := lev) (H := supI H j z) hV1 (by omega) hl (fun i hi => by rw [ka 0 (by omega) (by omega) (by omega)]; exact (g7 i hi).1)) rfl rfl rfl rfl rfl ⟨rfl, rfl, rfl⟩)
  have t13 := r_tr t12 (r_to (g' := (61, [.ref (mj_NE + 0), .int (iI x), .int (iI y), .int (iI z), .int (iI (j : Int)), .int (iI (H j)), .int (iI (smH (fun i => lev i - supI H j z i) n))], [.int (iI (H j)), .int (iI (j : Int)), .ref (mj_NE + 1)], Wd xs L A1 V1 Y, 0, 0)) ok_W_volumeWith 9999 [] rfl trivial)
  have t14 := r_tr t13 (q_V ok_W_volumeWith ok_Land_exchange se_Land_exchange (c_exchange (i := (j : Int)) ⟨by omega, by omega⟩ ⟨by have := hH j hjn; omega, by have := hH j hjn; omega⟩) rfl rfl rfl rfl rfl ⟨rfl, rfl, rfl⟩)
  rw [Int.toNat_natCast] at t14
  have t15 := r_tr t14 (r_to (g' := (67, [.ref (mj_NE + 0), .int (iI x), .int (iI y), .int (iI z), .int (iI (j : Int)), .int (iI (H j)), .int (iI (smH (fun i => lev i - supI H j z i) n))], [.int (iI (smH (fun i => lev i - supI H j z i) n))], Wd xs L (wA A1 0 (upd (A1 0) j (iI (clH (H j))))) V1 Y, 0, 0)) ok_W_volumeWith 9999 [] rfl trivial)
  exact ⟨_, _, LdOK.back (z := z) hL hjn (by rw [ka 0 (by omega) (by omega) (by omega), wA_s]) (by rw [ka 2 (by omega) (by omega) (by omega), wA_n (by omega)]) (kv 0 (by omega) (by omega)) (kv 1 (by omega) (by omega)) (kv 2 (by omega) (by omega)), kv 10 (by omega) (by omega), ct_of ok_W_volumeWith rfl t15 rfl rfl rfl rfl rfl⟩
set_option maxHeartbeats 1000000 in
theorem f_endsWithG {b x y z : Int} (hbr : V 10 = iI b) (hb : 1 ≤ b ∧ b ≤ 100) (hx : 0 ≤ x ∧ x < w) (hy : 0 ≤ y ∧ y < h) (hz : 0 ≤ z ∧ z ≤ 999) (hL : LdOK w h n H A V) : ∃ (A1 A2 A4 : Nat → Nat → Int32) (V2 : Nat → Int32) (od1 od2 : Nat → Nat), RunOK w h n H b A1 od1 ∧ RunOK w h n (supI H (y * w + x).toNat z) b A2 od2 ∧ LdOK w h n H A4 V2 ∧ V2 10 = V 10 ∧ mj_Ct m_W_endsWith [.ref (mj_NE + 0), .int (iI x), .int (iI y), .int (iI z)] (Wd xs L A V Y) (some (.int (iI (cnt (fun i => !decide (A2 6 i = A1 6 i)) n)))) (Wd xs L A4 V2 Y) 0 0 6 := by
  have hL2 := hL
  obtain ⟨h0, h1, hV, hnw, hw, hh, hN, hH⟩ := hL2
  have wh := wh_bd hw hh
  have nbj := num_bd hw hh hx hy
  obtain ⟨j, hj⟩ : ∃ i : Nat, (i : Int) = y * w + x := ⟨(y * w + x).toNat, by omega⟩
  have hj2 : (y * w + x).toNat = j := by omega
  have hjn : j < n := by omega
  have cj : (iI (j : Int)).toNatClampNeg = j := cl_nat (by omega)
  have ij : vp_in (iI (j : Int)) 256 := in_nat (by omega) (by omega)
  have t1 := r_to (RC := 0) (RS := 0) (dd := 6) (g := (0, [.ref (mj_NE + 0), .int (iI x), .int (iI y), .int (iI z), mj_u, mj_u, mj_u, mj_u], [], Wd xs L A V Y, 0, 0)) (g' := (3, [.ref (mj_NE + 0), .int (iI x), .int (iI y), .int (iI z), mj_u, mj_u, mj_u, mj_u], [.int (iI y), .int (iI x), .ref (mj_NE + 0)], Wd xs L A V Y, 0, 0)) ok_W_endsWith 9999 [] rfl trivial
  have t2 := r_tr t1 (q_V ok_W_endsWith ok_W_checkField se_W_checkField (f_checkField hL hx hy) rfl rfl rfl rfl rfl ⟨rfl, rfl, rfl⟩)
  have t3 := r_tr t2 (r_to (g' := (11, [.ref (mj_NE + 0), .int (iI x), .int (iI y), .int (iI z), mj_u, mj_u, mj_u, mj_u], [.int (iI 999), .int (iI 0), .int (iI z)], Wd xs L A V Y, 0, 0)) ok_W_endsWith 9999 [] rfl trivial)
  have t4 := r_tr t3 (q_S ok_W_endsWith ok_W_checkRange st_W_checkRange (f_checkRange hz ⟨by omega, by omega⟩) rfl rfl rfl rfl ⟨rfl, rfl, rfl⟩)
  have t5 := r_tr t4 (r_to (g' := (20, [.ref (mj_NE + 0), .int (iI x), .int (iI y), .int (iI z), mj_u, mj_u, mj_u, mj_u], [.int (iI y), .int (iI x), .ref (mj_NE + 1)], Wd xs L A V Y, 0, 0)) ok_W_endsWith 9999 [] rfl trivial)
  have t6 := r_tr t5 (q_V ok_W_endsWith ok_Land_numberOf se_Land_numberOf (c_num h0) rfl rfl rfl rfl rfl ⟨rfl, rfl, rfl⟩)
  rw [← hj] at t6
  obtain ⟨A1, V1, od1, hR1, k1, q1, hct1⟩ := c_run (xs := xs) (L := L) (A := A) (V := V) (Y := Y) (b := b) hV hw hh hnw hN hH ⟨by omega, by omega⟩
  have t7 := r_tr t6 (r_to (g' := (33, [.ref (mj_NE + 0), .int (iI x), .int (iI y), .int (iI z), .int (iI (j : Int)), mj_u, mj_u, mj_u], [.int (V 10), .ref (mj_NE + 5)], Wd xs L A V Y, 0, 0)) ok_W_endsWith 9999 [] rfl trivial)
  rw [hbr] at t7
  have t8 := r_tr t7 (q_V ok_W_endsWith ok_Streams_run se_Streams_run (hct1) rfl rfl rfl rfl rfl ⟨rfl, rfl, rfl⟩)
  have t9 := r_tr t8 (r_to (g' := (52, [.ref (mj_NE + 0), .int (iI x), .int (iI y), .int (iI z), .int (iI (j : Int)), mj_u, mj_u, mj_u], [.int (iI 256), .int (iI 0), .ref (mj_NE + 31), .int (iI 0), .ref (mj_NE + 9)], Wd xs L A1 V1 Y, 0, 0)) ok_W_endsWith 9999 [] rfl trivial)
  have tc : mj_Rc m_W_endsWith 0 0 6 (52, [.ref (mj_NE + 0), .int (iI x), .int (iI y), .int (iI z), .int (iI (j : Int)), mj_u, mj_u, mj_u], [.int (iI 256), .int (iI 0), .ref (mj_NE + 31), .int (iI 0), .ref (mj_NE + 9)], Wd xs L A1 V1 Y, 0, 0) (55, [.ref (mj_NE + 0), .int (iI x), .int (iI y), .int (iI z), .int (iI (j : Int)), mj_u, mj_u, mj_u], [], Wd xs L (wA A1 20 (va_cpy (A1 6) (A1 20) 0 0 256)) V1 Y, 0, 0) := r_acp ok_W_endsWith rfl rfl rfl rfl rfl rfl rfl
  have t10 := r_tr t9 tc
  have t11 := r_tr t10 (r_to (g' := (62, [.ref (mj_NE + 0), .int (iI x), .int (iI y), .int (iI z), .int (iI (j : Int)), mj_u, mj_u, mj_u], [.int (iI z), .int (iI (j : Int)), .ref (mj_NE + 1)], Wd xs L (wA A1 20 (va_cpy (A1 6) (A1 20) 0 0 256)) V1 Y, 0, 0)) ok_W_endsWith 9999 [] rfl trivial)
  have t12 := r_tr t11 (q_V ok_W_endsWith ok_Land_exchange se_Land_exchange (c_exchange (i := (j : Int)) ⟨by omega, by omega⟩ ⟨by omega, by omega⟩) rfl rfl rfl rfl rfl ⟨rfl, rfl, rfl⟩)
  rw [Int.toNat_natCast, clH_id hz, wA_n (l := 0) (k := 20) (by omega), k1 0 (by omega), (hH j hjn).1] at t12
  have hL3 := LdOK.set (j := j) hL hz
  obtain ⟨A3, hA3⟩ : ∃ A3, A3 = (wA (wA A1 20 (va_cpy (A1 6) (A1 20) 0 0 256)) 0 (upd (A 0) j (iI z))) := ⟨_, rfl⟩
  rw [← hA3] at t12
  have a30 : A3 0 = upd (A 0) j (iI z) := by rw [hA3, wA_s]
  have a32 : A3 2 = A 2 := by rw [hA3, wA_n (by omega), wA_n (by omega), k1 2 (by omega)]
  have a320 : A3 20 = (va_cpy (A1 6) (A1 20) 0 0 256) := by rw [hA3, wA_n (by omega), wA_s]
  have v1 : ∀ k, k ≠ 3 → V1 k = V k := q1
  have hV1 : V1 2 = iI n := by rw [q1 2 (by omega)]; exact hV
  obtain ⟨A2, V2, od2, hR2, k2, q2, hct2⟩ := c_run (xs := xs) (L := L) (A := A3) (V := V1) (Y := Y) (b := b) (H := supI H j z) hV1 hw hh hnw (by rw [a32]; exact hN) (by rw [a30]; have := hL3.2.2.2.2.2.2.2; rw [wA_s] at this; exact this) ⟨by omega, by omega⟩
  have t13 := r_tr t12 (r_to (g' := (75, [.ref (mj_NE + 0), .int (iI x), .int (iI y), .int (iI z), .int (iI (j : Int)), .int (iI (H j)), mj_u, mj_u], [.int (V1 10), .ref (mj_NE + 5)], Wd xs L A3 V1 Y, 0, 0)) ok_W_endsWith 9999 [] rfl trivial)
  rw [show V1 10 = iI b by rw [q1 10 (by omega)]; exact hbr] at t13
  have t14 := r_tr t13 (q_V ok_W_endsWith ok_Streams_run se_Streams_run (hct2) rfl rfl rfl rfl rfl ⟨rfl, rfl, rfl⟩)
  have t15 := r_tr t14 (r_to (g' := (86, [.ref (mj_NE + 0), .int (iI x), .int (iI y), .int (iI z), .int (iI (j : Int)), .int (iI (H j)), mj_u, mj_u], [.int (iI (H j)), .int (iI (j : Int)), .ref (mj_NE + 1)], Wd xs L A2 V2 Y, 0, 0)) ok_W_endsWith 9999 [] rfl trivial)
  have t16 := r_tr t15 (q_V ok_W_endsWith ok_Land_exchange se_Land_exchange (c_exchange (i := (j : Int)) ⟨by omega, by omega⟩ ⟨by have := hH j hjn; omega, by have := hH j hjn; omega⟩) rfl rfl rfl rfl rfl ⟨rfl, rfl, rfl⟩)
  rw [Int.toNat_natCast] at t16
  obtain ⟨A4, hA4⟩ : ∃ A4, A4 = wA A2 0 (upd (A2 0) j (iI (clH (H j)))) := ⟨_, rfl⟩
  rw [← hA4] at t16
  have hV2 : V2 2 = iI n := by rw [q2 2 (by omega)]; exact hV1
  have a6 : ∀ i : Nat, A4 6 i = A2 6 i := fun i => by rw [hA4, wA_n (by omega)]
  have a20 : ∀ i : Nat, i < 256 → A4 20 i = A1 6 i := fun i hi => by rw [hA4, wA_n (by omega), k2 20 (by omega), a320]; unfold va_cpy; rw [if_pos ⟨by omega, by omega⟩]; congr 1; omega
  have t17 := r_tr t16 (r_to (g' := (96, [.ref (mj_NE + 0), .int (iI x), .int (iI y), .int (iI z), .int (iI (j : Int)), .int (iI (H j)), .int (iI (cnt (fun i => !decide (A2 6 i = A1 6 i)) 0)), .int (iI 0)], [], Wd xs L A4 V2 Y, 0, 0)) ok_W_endsWith 96 [] rfl trivial)
  have lp : ∀ i : Nat, i ≤ n → mj_Rc m_W_endsWith 0 0 6 (0, [.ref (mj_NE + 0), .int (iI x), .int (iI y), .int (iI z), mj_u, mj_u, mj_u, mj_u], [], Wd xs L A V Y, 0, 0) (96, [.ref (mj_NE + 0), .int (iI x), .int (iI y), .int (iI z), .int (iI (j : Int)), .int (iI (H j)), .int (iI (cnt (fun i => !decide (A2 6 i = A1 6 i)) i)), .int (iI (i : Int))], [], Wd xs L A4 V2 Y, 0, 0) := by
    intro i
    induction i with
    | zero => intro _; exact t17
    | succ i ih =>
      intro hi
      have hc : (iI (i : Int)).toNatClampNeg = i := cl_nat (by omega)
      have hin : vp_in (iI (i : Int)) 256 := in_nat (by omega) (by omega)
      have cs : cnt (fun i => !decide (A2 6 i = A1 6 i)) (i + 1) = cnt (fun i => !decide (A2 6 i = A1 6 i)) i + (if (!decide (A2 6 i = A1 6 i)) = true then 1 else 0) := rfl
      by_cases he : A2 6 i = A1 6 i
      · have s1 := r_tr (ih (by omega)) (r_to (g' := (96, [.ref (mj_NE + 0), .int (iI x), .int (iI y), .int (iI z), .int (iI (j : Int)), .int (iI (H j)), .int (iI (cnt (fun i => !decide (A2 6 i = A1 6 i)) i)), .int (iI (i : Int) + 1)], [], Wd xs L A4 V2 Y, 0, 0)) ok_W_endsWith 96 [false, true] rfl ⟨br_ge hV2 ⟨by omega, by omega⟩ ⟨by omega, by omega⟩ (by omega), hin, hin, by
          show A4 6 (iI (i : Int)).toNatClampNeg = A4 20 (iI (i : Int)).toNatClampNeg
          rw [hc, a6, a20 i (by omega), he], trivial⟩)
        rw [iI_1] at s1
        rw [cs, if_neg (by simp [he]), Int.add_zero]
        exact s1
      · have s1 := r_tr (ih (by omega)) (r_to (g' := (96, [.ref (mj_NE + 0), .int (iI x), .int (iI y), .int (iI z), .int (iI (j : Int)), .int (iI (H j)), .int (iI (cnt (fun i => !decide (A2 6 i = A1 6 i)) i) + 1), .int (iI (i : Int) + 1)], [], Wd xs L A4 V2 Y, 0, 0)) ok_W_endsWith 96 [false, false] rfl ⟨br_ge hV2 ⟨by omega, by omega⟩ ⟨by omega, by omega⟩ (by omega), hin, hin, by
          show ¬ (A4 6 (iI (i : Int)).toNatClampNeg = A4 20 (iI (i : Int)).toNatClampNeg)
          rw [hc, a6, a20 i (by omega)]
          exact he, trivial⟩)
        rw [iI_1, iI_1] at s1
        rw [cs, if_pos (by simp [he])]
        exact s1
  rw [hj2]
  exact ⟨A1, A2, A4, V2, od1, od2, hR1, hR2, by rw [hA4]; exact LdOK.back (z := z) hL hjn (by rw [k2 0 (by omega), a30]) (by rw [k2 2 (by omega), a32]) (by rw [q2 0 (by omega), q1 0 (by omega)]) (by rw [q2 1 (by omega), q1 1 (by omega)]) (by rw [q2 2 (by omega), q1 2 (by omega)]), by rw [q2 10 (by omega), q1 10 (by omega)], ct_of ok_W_endsWith rfl (r_tr (lp n (Nat.le_refl _)) (r_to ok_W_endsWith 9999 [true] rfl ⟨br_lt hV2 ⟨by omega, by omega⟩ ⟨by omega, by omega⟩ (by omega), trivial⟩)) rfl rfl rfl rfl rfl⟩
end FVE
