/-! the face: what each method answers where it refuses nothing -/
def LdOK (w h : Int) (n : Nat) (H : Nat → Int) (A : Nat → Nat → Int32) (V : Nat → Int32) : Prop := V 0 = iI w ∧ V 1 = iI h ∧ V 2 = iI n ∧ (n : Int) = w * h ∧ (2 ≤ w ∧ w ≤ 16) ∧ (2 ≤ h ∧ h ≤ 16) ∧ nbOK w h (A 2) n ∧ Hts (A 0) n H
theorem LdOK.keep {w h : Int} {n : Nat} {H : Nat → Int} {A A1 : Nat → Nat → Int32} {V V1 : Nat → Int32} (hL : LdOK w h n H A V) (a0 : A1 0 = A 0) (a2 : A1 2 = A 2) (v0 : V1 0 = V 0) (v1 : V1 1 = V 1) (v2 : V1 2 = V 2) : LdOK w h n H A1 V1 := by
  unfold LdOK
  rw [a0, a2, v0, v1, v2]
  exact hL
theorem LdOK.set {w h : Int} {n j : Nat} {z : Int} {H : Nat → Int} {A : Nat → Nat → Int32} {V : Nat → Int32} (hL : LdOK w h n H A V) (hz : 0 ≤ z ∧ z ≤ 999) : LdOK w h n (supI H j z) (wA A 0 (upd (A 0) j (iI z))) V := by
  obtain ⟨h0, h1, hV, hnw, hw, hh, hN, hH⟩ := hL
  refine ⟨h0, h1, hV, hnw, hw, hh, by rw [wA_n (by omega)]; exact hN, fun i hi => ?_⟩
  rw [wA_s]
  by_cases e : i = j
  · subst e; rw [upd_eq, supI_eq]; exact ⟨rfl, hz⟩
  · rw [upd_ne e, supI_ne e]; exact hH i hi
section FACE
variable {xs : Nat → Int32} {L : Nat} {A : Nat → Nat → Int32} {V : Nat → Int32} {Y : mj_H}
variable {w h : Int} {n : Nat} {H : Nat → Int}
theorem f_checkField {x y : Int} (hL : LdOK w h n H A V) (hx : 0 ≤ x ∧ x < w) (hy : 0 ≤ y ∧ y < h) : mj_Ct m_W_checkField [.ref (mj_NE + 0), .int (iI x), .int (iI y)] (Wd xs L A V Y) none (Wd xs L A V Y) 0 0 2 := by
  obtain ⟨h0, h1, hV, hnw, hw, hh, hN, hH⟩ := hL
  have t1 := r_to (RC := 0) (RS := 0) (dd := 2) (g := (0, [.ref (mj_NE + 0), .int (iI x), .int (iI y)], [], Wd xs L A V Y, 0, 0)) (g' := (6, [.ref (mj_NE + 0), .int (iI x), .int (iI y)], [.int (iI y), .int (iI x), .ref (mj_NE + 1)], Wd xs L A V Y, 0, 0)) ok_W_checkField 9999 [] rfl trivial
  have t2 := r_tr t1 (q_V ok_W_checkField ok_Land_has se_Land_has (c_has1 h0 h1 ⟨hx.1, hx.2, hy.1, hy.2⟩ ⟨by omega, by omega⟩) rfl rfl rfl rfl rfl ⟨rfl, rfl, rfl⟩)
  have t3 := r_tr t2 (r_to (g' := (22, [.ref (mj_NE + 0), .int (iI x), .int (iI y)], [], Wd xs L A V Y, 0, 0)) ok_W_checkField 9999 [true] rfl ⟨by show ¬ ((1 : Int32) = 0); decide, trivial⟩)
  exact ct_of ok_W_checkField rfl t3 rfl rfl rfl rfl rfl
theorem f_checkRange {v lo hi : Int} (h1 : lo ≤ v ∧ v ≤ hi) (h2 : -2147483648 ≤ lo ∧ hi ≤ 2147483647) : mj_Ct m_W_checkRange [.int (iI v), .int (iI lo), .int (iI hi)] (Wd xs L A V Y) none (Wd xs L A V Y) 0 0 0 :=
  ct_of ok_W_checkRange rfl (r_to ok_W_checkRange 9999 [false, true] rfl ⟨by
    show ¬ (iI v < iI lo)
    rw [iI_lt ⟨by omega, by omega⟩ ⟨by omega, by omega⟩]
    omega, by
    show iI v ≤ iI hi
    rw [iI_le ⟨by omega, by omega⟩ ⟨by omega, by omega⟩]
    omega, trivial⟩) rfl rfl rfl rfl rfl
theorem f_setBrook {b : Int} (hb : 1 ≤ b ∧ b ≤ 100) (hL : LdOK w h n H A V) : mj_Ct m_W_setBrook [.ref (mj_NE + 0), .int (iI b)] (Wd xs L A V Y) (some (.int (V 10))) (Wd xs L A (wV V 10 (iI b)) Y) 0 0 6 := by
  have hL2 := hL
  obtain ⟨h0, h1, hV, hnw, hw, hh, hN, hH⟩ := hL2
  have wh := wh_bd hw hh
  have t1 := r_to (RC := 0) (RS := 0) (dd := 6) (g := (0, [.ref (mj_NE + 0), .int (iI b), mj_u], [], Wd xs L A V Y, 0, 0)) (g' := (4, [.ref (mj_NE + 0), .int (iI b), mj_u], [.int (iI 100), .int (iI 1), .int (iI b)], Wd xs L A V Y, 0, 0)) ok_W_setBrook 9999 [] rfl trivial
  have t2 := r_tr t1 (q_S ok_W_setBrook ok_W_checkRange st_W_checkRange (f_checkRange hb ⟨by omega, by omega⟩) rfl rfl rfl rfl ⟨rfl, rfl, rfl⟩)
  have t3 := r_tr t2 (r_to (g' := (18, [.ref (mj_NE + 0), .int (iI b), .int (V 10)], [.int (V 10)], Wd xs L A (wV V 10 (iI b)) Y, 0, 0)) ok_W_setBrook 9999 [] rfl trivial)
  exact ct_of ok_W_setBrook rfl t3 rfl rfl rfl rfl rfl
theorem f_map {k : Int} (hk : 0 ≤ k ∧ k ≤ 4) (hL : LdOK w h n H A V) : mj_Ct m_W_map [.ref (mj_NE + 0), .int (iI k)] (Wd xs L A V Y) (some (.int (iI (toldH w h H n k)))) (Wd xs L A V Y) 0 0 6 := by
  have hL2 := hL
  obtain ⟨h0, h1, hV, hnw, hw, hh, hN, hH⟩ := hL2
  have wh := wh_bd hw hh
  have t1 := r_to (RC := 0) (RS := 0) (dd := 6) (g := (0, [.ref (mj_NE + 0), .int (iI k)], [], Wd xs L A V Y, 0, 0)) (g' := (3, [.ref (mj_NE + 0), .int (iI k)], [.int (iI 4), .int (iI 0), .int (iI k)], Wd xs L A V Y, 0, 0)) ok_W_map 9999 [] rfl trivial
  have t2 := r_tr t1 (q_S ok_W_map ok_W_checkRange st_W_checkRange (f_checkRange hk ⟨by omega, by omega⟩) rfl rfl rfl rfl ⟨rfl, rfl, rfl⟩)
  have t3 := r_tr t2 (r_to (g' := (11, [.ref (mj_NE + 0), .int (iI k)], [.int (iI k), .ref (mj_NE + 1)], Wd xs L A V Y, 0, 0)) ok_W_map 9999 [] rfl trivial)
  have t4 := r_tr t3 (q_V ok_W_map ok_Land_told se_Land_told (c_Ltold h0 h1 hV (by omega) hH hk) rfl rfl rfl rfl rfl ⟨rfl, rfl, rfl⟩)
  exact ct_of ok_W_map rfl t4 rfl rfl rfl rfl rfl
theorem f_height {x y : Int} (hx : 0 ≤ x ∧ x < w) (hy : 0 ≤ y ∧ y < h) (hL : LdOK w h n H A V) : mj_Ct m_W_height [.ref (mj_NE + 0), .int (iI x), .int (iI y)] (Wd xs L A V Y) (some (.int (iI (H (y * w + x).toNat)))) (Wd xs L A V Y) 0 0 6 := by
  have hL2 := hL
  obtain ⟨h0, h1, hV, hnw, hw, hh, hN, hH⟩ := hL2
  have wh := wh_bd hw hh
  have nbj := num_bd hw hh hx hy
  obtain ⟨j, hj⟩ : ∃ i : Nat, (i : Int) = y * w + x := ⟨(y * w + x).toNat, by omega⟩
  have hj2 : (y * w + x).toNat = j := by omega
  have hjn : j < n := by omega
  have cj : (iI (j : Int)).toNatClampNeg = j := cl_nat (by omega)
  have ij : vp_in (iI (j : Int)) 256 := in_nat (by omega) (by omega)
  rw [hj2]
  have t1 := r_to (RC := 0) (RS := 0) (dd := 6) (g := (0, [.ref (mj_NE + 0), .int (iI x), .int (iI y)], [], Wd xs L A V Y, 0, 0)) (g' := (3, [.ref (mj_NE + 0), .int (iI x), .int (iI y)], [.int (iI y), .int (iI x), .ref (mj_NE + 0)], Wd xs L A V Y, 0, 0)) ok_W_height 9999 [] rfl trivial
  have t2 := r_tr t1 (q_V ok_W_height ok_W_checkField se_W_checkField (f_checkField hL hx hy) rfl rfl rfl rfl rfl ⟨rfl, rfl, rfl⟩)
  have t3 := r_tr t2 (r_to (g' := (19, [.ref (mj_NE + 0), .int (iI x), .int (iI y)], [.int (iI y), .int (iI x), .ref (mj_NE + 1), .ref (mj_NE + 2)], Wd xs L A V Y, 0, 0)) ok_W_height 9999 [] rfl trivial)
  have t4 := r_tr t3 (q_V ok_W_height ok_Land_numberOf se_Land_numberOf (c_num h0) rfl rfl rfl rfl rfl ⟨rfl, rfl, rfl⟩)
  rw [← hj] at t4
  have t5 := r_tr t4 (r_to (g' := (23, [.ref (mj_NE + 0), .int (iI x), .int (iI y)], [.int (A 0 (iI (j : Int)).toNatClampNeg)], Wd xs L A V Y, 0, 0)) ok_W_height 9999 [] rfl ⟨ij, trivial⟩)
  rw [cj, (hH j hjn).1] at t5
  exact ct_of ok_W_height rfl t5 rfl rfl rfl rfl rfl
theorem f_set {x y z : Int} (hx : 0 ≤ x ∧ x < w) (hy : 0 ≤ y ∧ y < h) (hz : 0 ≤ z ∧ z ≤ 999) (hL : LdOK w h n H A V) : mj_Ct m_W_set [.ref (mj_NE + 0), .int (iI x), .int (iI y), .int (iI z)] (Wd xs L A V Y) (some (.int (iI (H (y * w + x).toNat)))) (Wd xs L (wA A 0 (upd (A 0) (y * w + x).toNat (iI z))) V Y) 0 0 6 := by
  have hL2 := hL
  obtain ⟨h0, h1, hV, hnw, hw, hh, hN, hH⟩ := hL2
  have wh := wh_bd hw hh
  have nbj := num_bd hw hh hx hy
  obtain ⟨j, hj⟩ : ∃ i : Nat, (i : Int) = y * w + x := ⟨(y * w + x).toNat, by omega⟩
  have hj2 : (y * w + x).toNat = j := by omega
  have hjn : j < n := by omega
  have cj : (iI (j : Int)).toNatClampNeg = j := cl_nat (by omega)
  have ij : vp_in (iI (j : Int)) 256 := in_nat (by omega) (by omega)
  rw [hj2]
  have t1 := r_to (RC := 0) (RS := 0) (dd := 6) (g := (0, [.ref (mj_NE + 0), .int (iI x), .int (iI y), .int (iI z)], [], Wd xs L A V Y, 0, 0)) (g' := (3, [.ref (mj_NE + 0), .int (iI x), .int (iI y), .int (iI z)], [.int (iI y), .int (iI x), .ref (mj_NE + 0)], Wd xs L A V Y, 0, 0)) ok_W_set 9999 [] rfl trivial
  have t2 := r_tr t1 (q_V ok_W_set ok_W_checkField se_W_checkField (f_checkField hL hx hy) rfl rfl rfl rfl rfl ⟨rfl, rfl, rfl⟩)
  have t3 := r_tr t2 (r_to (g' := (11, [.ref (mj_NE + 0), .int (iI x), .int (iI y), .int (iI z)], [.int (iI 999), .int (iI 0), .int (iI z)], Wd xs L A V Y, 0, 0)) ok_W_set 9999 [] rfl trivial)
  have t4 := r_tr t3 (q_S ok_W_set ok_W_checkRange st_W_checkRange (f_checkRange hz ⟨by omega, by omega⟩) rfl rfl rfl rfl ⟨rfl, rfl, rfl⟩)
  have t5 := r_tr t4 (r_to (g' := (24, [.ref (mj_NE + 0), .int (iI x), .int (iI y), .int (iI z)], [.int (iI y), .int (iI x), .ref (mj_NE + 1), .ref (mj_NE + 1)], Wd xs L A V Y, 0, 0)) ok_W_set 9999 [] rfl trivial)
  have t6 := r_tr t5 (q_V ok_W_set ok_Land_numberOf se_Land_numberOf (c_num h0) rfl rfl rfl rfl rfl ⟨rfl, rfl, rfl⟩)
  rw [← hj] at t6
  have t7 := r_tr t6 (r_to (g' := (28, [.ref (mj_NE + 0), .int (iI x), .int (iI y), .int (iI z)], [.int (iI z), .int (iI j), .ref (mj_NE + 1)], Wd xs L A V Y, 0, 0)) ok_W_set 9999 [] rfl trivial)
  have t8 := r_tr t7 (q_V ok_W_set ok_Land_exchange se_Land_exchange (c_exchange (i := (j : Int)) ⟨by omega, by omega⟩ ⟨by omega, by omega⟩) rfl rfl rfl rfl rfl ⟨rfl, rfl, rfl⟩)
  rw [Int.toNat_natCast, (hH j hjn).1, clH_id hz] at t8
  exact ct_of ok_W_set rfl t8 rfl rfl rfl rfl rfl
theorem f_reset {p q : Int} (hp : 2 ≤ p ∧ p ≤ 16) (hq : 2 ≤ q ∧ q ≤ 16) (hL : LdOK w h n H A V) : ∃ (A1 : Nat → Nat → Int32) (V1 : Nat → Int32), LdOK p q (p * q).toNat (fun _ => 0) A1 V1 ∧ mj_Ct m_W_reset [.ref (mj_NE + 0), .int (iI p), .int (iI q)] (Wd xs L A V Y) (some (.int (iI (p * q)))) (Wd xs L A1 V1 Y) 0 0 6 := by
  have hL2 := hL
  obtain ⟨h0, h1, hV, hnw, hw, hh, hN, hH⟩ := hL2
  have wh := wh_bd hw hh
  have t1 := r_to (RC := 0) (RS := 0) (dd := 6) (g := (0, [.ref (mj_NE + 0), .int (iI p), .int (iI q)], [], Wd xs L A V Y, 0, 0)) (g' := (4, [.ref (mj_NE + 0), .int (iI p), .int (iI q)], [.int (iI 16), .int (iI 2), .int (iI p)], Wd xs L A V Y, 0, 0)) ok_W_reset 9999 [] rfl trivial
  have t2 := r_tr t1 (q_S ok_W_reset ok_W_checkRange st_W_checkRange (f_checkRange hp ⟨by omega, by omega⟩) rfl rfl rfl rfl ⟨rfl, rfl, rfl⟩)
  have t3 := r_tr t2 (r_to (g' := (11, [.ref (mj_NE + 0), .int (iI p), .int (iI q)], [.int (iI 16), .int (iI 2), .int (iI q)], Wd xs L A V Y, 0, 0)) ok_W_reset 9999 [] rfl trivial)
  have t4 := r_tr t3 (q_S ok_W_reset ok_W_checkRange st_W_checkRange (f_checkRange hq ⟨by omega, by omega⟩) rfl rfl rfl rfl ⟨rfl, rfl, rfl⟩)
  have t5 := r_tr t4 (r_to (g' := (20, [.ref (mj_NE + 0), .int (iI p), .int (iI q)], [.int (iI q), .int (iI p), .ref (mj_NE + 1)], Wd xs L A V Y, 0, 0)) ok_W_reset 9999 [] rfl trivial)
  obtain ⟨g, hg, hct⟩ := c_layOut (xs := xs) (L := L) (A := A) (V := V) (Y := Y) hp hq
  have t6 := r_tr t5 (q_V ok_W_reset ok_Land_layOut se_Land_layOut (hct) rfl rfl rfl rfl rfl ⟨rfl, rfl, rfl⟩)
  have t7 := r_tr t6 (r_to (g' := (30, [.ref (mj_NE + 0), .int (iI p), .int (iI q)], [.int (iI (p * q))], Wd xs L (wA (wA A 0 (fl (A 0) 0 256)) 2 g) (wV (wV (wV V 0 (iI p)) 1 (iI q)) 2 (iI (p * q))) Y, 0, 0)) ok_W_reset 9999 [] rfl trivial)
  have pq := wh_bd hp hq
  have hpq : (((p * q).toNat : Nat) : Int) = p * q := by omega
  exact ⟨_, _, ⟨by rw [wV_n (by omega), wV_n (by omega), wV_s], by rw [wV_n (by omega), wV_s], by rw [wV_s, hpq], hpq, hp, hq, by rw [wA_s]; exact hg, fun j hj => ⟨by rw [wA_n (by omega), wA_s]; exact if_pos (by omega), Int.le_refl _, by show (0 : Int) ≤ 999; omega⟩⟩, ct_of ok_W_reset rfl t7 rfl rfl rfl rfl rfl⟩
theorem f_tilt {p q r : Int} (hp : -100 ≤ p ∧ p ≤ 100) (hq : -100 ≤ q ∧ q ≤ 100) (hr : -100 ≤ r ∧ r ≤ 100) (hL : LdOK w h n H A V) : mj_Ct m_W_tilt [.ref (mj_NE + 0), .int (iI p), .int (iI q), .int (iI r)] (Wd xs L A V Y) (some (.int (iI (mxH (slH w p q r H) n)))) (Wd xs L (wA A 0 (pw (fun j => iI (slH w p q r H j)) (A 0) n)) V Y) 0 0 6 := by
  have hL2 := hL
  obtain ⟨h0, h1, hV, hnw, hw, hh, hN, hH⟩ := hL2
  have wh := wh_bd hw hh
  have hn2 : (w * h).toNat = n := by omega
  have t1 := r_to (RC := 0) (RS := 0) (dd := 6) (g := (0, [.ref (mj_NE + 0), .int (iI p), .int (iI q), .int (iI r)], [], Wd xs L A V Y, 0, 0)) (g' := (5, [.ref (mj_NE + 0), .int (iI p), .int (iI q), .int (iI r)], [.int (iI 100), .int (iI (-100)), .int (iI p)], Wd xs L A V Y, 0, 0)) ok_W_tilt 9999 [] rfl trivial
  have t2 := r_tr t1 (q_S ok_W_tilt ok_W_checkRange st_W_checkRange (f_checkRange hp ⟨by omega, by omega⟩) rfl rfl rfl rfl ⟨rfl, rfl, rfl⟩)
  have t3 := r_tr t2 (r_to (g' := (13, [.ref (mj_NE + 0), .int (iI p), .int (iI q), .int (iI r)], [.int (iI 100), .int (iI (-100)), .int (iI q)], Wd xs L A V Y, 0, 0)) ok_W_tilt 9999 [] rfl trivial)
  have t4 := r_tr t3 (q_S ok_W_tilt ok_W_checkRange st_W_checkRange (f_checkRange hq ⟨by omega, by omega⟩) rfl rfl rfl rfl ⟨rfl, rfl, rfl⟩)
  have t5 := r_tr t4 (r_to (g' := (21, [.ref (mj_NE + 0), .int (iI p), .int (iI q), .int (iI r)], [.int (iI 100), .int (iI (-100)), .int (iI r)], Wd xs L A V Y, 0, 0)) ok_W_tilt 9999 [] rfl trivial)
  have t6 := r_tr t5 (q_S ok_W_tilt ok_W_checkRange st_W_checkRange (f_checkRange hr ⟨by omega, by omega⟩) rfl rfl rfl rfl ⟨rfl, rfl, rfl⟩)
  have t7 := r_tr t6 (r_to (g' := (31, [.ref (mj_NE + 0), .int (iI p), .int (iI q), .int (iI r)], [.int (iI r), .int (iI q), .int (iI p), .ref (mj_NE + 1)], Wd xs L A V Y, 0, 0)) ok_W_tilt 9999 [] rfl trivial)
  have t8 := r_tr t7 (q_V ok_W_tilt ok_Land_slope se_Land_slope (c_slope h0 h1 hw hh (by rw [hn2]; exact hH) hp hq hr) rfl rfl rfl rfl rfl ⟨rfl, rfl, rfl⟩)
  rw [hn2] at t8
  have hH3 : Hts ((wA A 0 (pw (fun j => iI (slH w p q r H j)) (A 0) n)) 0) n (slH w p q r H) := fun j hj => ⟨by rw [wA_s, pw_lt hj], clH_bd _⟩
  have t9 := r_tr t8 (r_to (g' := (38, [.ref (mj_NE + 0), .int (iI p), .int (iI q), .int (iI r)], [.ref (mj_NE + 1)], Wd xs L (wA A 0 (pw (fun j => iI (slH w p q r H j)) (A 0) n)) V Y, 0, 0)) ok_W_tilt 9999 [] rfl trivial)
  have t10 := r_tr t9 (q_V ok_W_tilt ok_Land_greatest se_Land_greatest (c_greatest hV (by omega) hH3) rfl rfl rfl rfl rfl ⟨rfl, rfl, rfl⟩)
  exact ct_of ok_W_tilt rfl t10 rfl rfl rfl rfl rfl
theorem f_hill {x y r b : Int} (hx : 0 ≤ x ∧ x < w) (hy : 0 ≤ y ∧ y < h) (hr : 0 ≤ r ∧ r ≤ 8) (hb : -500 ≤ b ∧ b ≤ 500) (hL : LdOK w h n H A V) : mj_Ct m_W_hill [.ref (mj_NE + 0), .int (iI x), .int (iI y), .int (iI r), .int (iI b)] (Wd xs L A V Y) (some (.int (iI (cnt (fun j => decide (raH w x y r b H j ≠ H j)) n)))) (Wd xs L (wA A 0 (pw (fun j => iI (raH w x y r b H j)) (A 0) n)) V Y) 0 0 6 := by
  have hL2 := hL
  obtain ⟨h0, h1, hV, hnw, hw, hh, hN, hH⟩ := hL2
  have wh := wh_bd hw hh
  have hn2 : (w * h).toNat = n := by omega
  have t1 := r_to (RC := 0) (RS := 0) (dd := 6) (g := (0, [.ref (mj_NE + 0), .int (iI x), .int (iI y), .int (iI r), .int (iI b)], [], Wd xs L A V Y, 0, 0)) (g' := (3, [.ref (mj_NE + 0), .int (iI x), .int (iI y), .int (iI r), .int (iI b)], [.int (iI y), .int (iI x), .ref (mj_NE + 0)], Wd xs L A V Y, 0, 0)) ok_W_hill 9999 [] rfl trivial
  have t2 := r_tr t1 (q_V ok_W_hill ok_W_checkField se_W_checkField (f_checkField hL hx hy) rfl rfl rfl rfl rfl ⟨rfl, rfl, rfl⟩)
  have t3 := r_tr t2 (r_to (g' := (10, [.ref (mj_NE + 0), .int (iI x), .int (iI y), .int (iI r), .int (iI b)], [.int (iI 8), .int (iI 0), .int (iI r)], Wd xs L A V Y, 0, 0)) ok_W_hill 9999 [] rfl trivial)
  have t4 := r_tr t3 (q_S ok_W_hill ok_W_checkRange st_W_checkRange (f_checkRange hr ⟨by omega, by omega⟩) rfl rfl rfl rfl ⟨rfl, rfl, rfl⟩)
  have t5 := r_tr t4 (r_to (g' := (21, [.ref (mj_NE + 0), .int (iI x), .int (iI y), .int (iI r), .int (iI b)], [.int (iI 500), .int (iI (-500)), .int (iI b)], Wd xs L A V Y, 0, 0)) ok_W_hill 9999 [] rfl trivial)
  have t6 := r_tr t5 (q_S ok_W_hill ok_W_checkRange st_W_checkRange (f_checkRange hb ⟨by omega, by omega⟩) rfl rfl rfl rfl ⟨rfl, rfl, rfl⟩)
  have t7 := r_tr t6 (r_to (g' := (33, [.ref (mj_NE + 0), .int (iI x), .int (iI y), .int (iI r), .int (iI b)], [.int (iI b), .int (iI r), .int (iI y), .int (iI x), .ref (mj_NE + 1)], Wd xs L A V Y, 0, 0)) ok_W_hill 9999 [] rfl trivial)
  have t8 := r_tr t7 (q_V ok_W_hill ok_Land_raise se_Land_raise (c_raise h0 h1 hw hh (by rw [hn2]; exact hH) hx hy hr hb) rfl rfl rfl rfl rfl ⟨rfl, rfl, rfl⟩)
  rw [hn2] at t8
  exact ct_of ok_W_hill rfl t8 rfl rfl rfl rfl rfl
theorem f_smooth (hL : LdOK w h n H A V) : mj_Ct m_W_smooth [.ref (mj_NE + 0)] (Wd xs L A V Y) (some (.int (iI (cnt (fun j => decide (H j ≠ sfH w h H j)) n)))) (Wd xs L (wA (wA A 1 (pw (fun j => iI (sfH w h H j)) (A 1) n)) 0 (pw (fun j => iI (sfH w h H j)) (A 0) n)) V Y) 0 0 6 := by
  have hL2 := hL
  obtain ⟨h0, h1, hV, hnw, hw, hh, hN, hH⟩ := hL2
  have wh := wh_bd hw hh
  have t1 := r_to (RC := 0) (RS := 0) (dd := 6) (g := (0, [.ref (mj_NE + 0)], [], Wd xs L A V Y, 0, 0)) (g' := (4, [.ref (mj_NE + 0)], [.ref (mj_NE + 1)], Wd xs L A V Y, 0, 0)) ok_W_smooth 9999 [] rfl trivial
  have t2 := r_tr t1 (q_V ok_W_smooth ok_Land_soften se_Land_soften (c_soften hV hw hh hnw hN hH) rfl rfl rfl rfl rfl ⟨rfl, rfl, rfl⟩)
  exact ct_of ok_W_smooth rfl t2 rfl rfl rfl rfl rfl
theorem f_basins {b : Int} (hbr : V 10 = iI b) (hb : 1 ≤ b ∧ b ≤ 100) (hL : LdOK w h n H A V) : ∃ (A1 : Nat → Nat → Int32) (V1 : Nat → Int32) (od : Nat → Nat), RunOK w h n H b A1 od ∧ (∀ k, k < 3 ∨ 12 < k → A1 k = A k) ∧ (∀ k, k ≠ 3 → V1 k = V k) ∧ mj_Ct m_W_basins [.ref (mj_NE + 0)] (Wd xs L A V Y) (some (.int (iI (cnt (fun j => decide (drF w h H j = 8)) n + cnt (fun j => decide (drF w h H j = 9)) n)))) (Wd xs L A1 V1 Y) 0 0 6 := by
  have hL2 := hL
  obtain ⟨h0, h1, hV, hnw, hw, hh, hN, hH⟩ := hL2
  have wh := wh_bd hw hh
  obtain ⟨A1, V1, od, hR, ka, kv, hct⟩ := c_run (xs := xs) (L := L) (A := A) (V := V) (Y := Y) (b := b) hV hw hh hnw hN hH ⟨by omega, by omega⟩
  have t1 := r_to (RC := 0) (RS := 0) (dd := 6) (g := (0, [.ref (mj_NE + 0)], [], Wd xs L A V Y, 0, 0)) (g' := (8, [.ref (mj_NE + 0)], [.int (V 10), .ref (mj_NE + 5)], Wd xs L A V Y, 0, 0)) ok_W_basins 9999 [] rfl trivial
  rw [hbr] at t1
  have t2 := r_tr t1 (q_V ok_W_basins ok_Streams_run se_Streams_run (hct) rfl rfl rfl rfl rfl ⟨rfl, rfl, rfl⟩)
  have hV1 : V1 2 = iI n := by rw [kv 2 (by omega)]; exact hV
  have hdr : ∀ i : Nat, i < n → A1 3 i = iI (drF w h H i) ∧ 0 ≤ drF w h H i ∧ drF w h H i ≤ 9 := fun i hi => ⟨(hR.2.1 i hi).1, by have := chD_bd hw hh hnw (fun j hj => (hH j hj).2) hi 8 (Nat.le_refl _); unfold drF; omega⟩
  have hnx : ∀ i : Nat, i < n → A1 4 i = iI (nxF w h H i) ∧ -1 ≤ nxF w h H i ∧ nxF w h H i < n := fun i hi => ⟨(hR.2.1 i hi).2, by have := chD_bd hw hh hnw (fun j hj => (hH j hj).2) hi 8 (Nat.le_refl _); unfold nxF; omega⟩
  have hpd := (pd_inv (b := b) hR.1 (fun j hj => (hnx j hj).2) n (Nat.le_refl _)).2
  have t3 := r_tr t2 (r_to (g' := (17, [.ref (mj_NE + 0)], [.int (iI 8), .ref (mj_NE + 5)], Wd xs L A1 V1 Y, 0, 0)) ok_W_basins 9999 [] rfl trivial)
  have t4 := r_tr t3 (q_V ok_W_basins ok_Streams_count se_Streams_count (c_count hV1 (by omega) hdr ⟨by omega, by omega⟩) rfl rfl rfl rfl rfl ⟨rfl, rfl, rfl⟩)
  have t5 := r_tr t4 (r_to (g' := (26, [.ref (mj_NE + 0)], [.int (iI 9), .ref (mj_NE + 5), .int (iI (cnt (fun j => decide (drF w h H j = 8)) n))], Wd xs L A1 V1 Y, 0, 0)) ok_W_basins 9999 [] rfl trivial)
  have t6 := r_tr t5 (q_V ok_W_basins ok_Streams_count se_Streams_count (c_count hV1 (by omega) hdr ⟨by omega, by omega⟩) rfl rfl rfl rfl rfl ⟨rfl, rfl, rfl⟩)
  have t7 := r_tr t6 (r_to (g' := (30, [.ref (mj_NE + 0)], [.int (iI (cnt (fun j => decide (drF w h H j = 8)) n) + iI (cnt (fun j => decide (drF w h H j = 9)) n))], Wd xs L A1 V1 Y, 0, 0)) ok_W_basins 9999 [] rfl trivial)
  rw [iI_add] at t7
  exact ⟨A1, V1, od, hR, ka, kv, ct_of ok_W_basins rfl t7 rfl rfl rfl rfl rfl⟩
theorem f_pits {b : Int} (hbr : V 10 = iI b) (hb : 1 ≤ b ∧ b ≤ 100) (hL : LdOK w h n H A V) : ∃ (A1 : Nat → Nat → Int32) (V1 : Nat → Int32) (od : Nat → Nat), RunOK w h n H b A1 od ∧ (∀ k, k < 3 ∨ 12 < k → A1 k = A k) ∧ (∀ k, k ≠ 3 → V1 k = V k) ∧ mj_Ct m_W_pits [.ref (mj_NE + 0)] (Wd xs L A V Y) (some (.int (iI (cnt (fun j => decide (drF w h H j = 9)) n)))) (Wd xs L A1 V1 Y) 0 0 6 := by
  have hL2 := hL
  obtain ⟨h0, h1, hV, hnw, hw, hh, hN, hH⟩ := hL2
  have wh := wh_bd hw hh
  obtain ⟨A1, V1, od, hR, ka, kv, hct⟩ := c_run (xs := xs) (L := L) (A := A) (V := V) (Y := Y) (b := b) hV hw hh hnw hN hH ⟨by omega, by omega⟩
  have t1 := r_to (RC := 0) (RS := 0) (dd := 6) (g := (0, [.ref (mj_NE + 0)], [], Wd xs L A V Y, 0, 0)) (g' := (8, [.ref (mj_NE + 0)], [.int (V 10), .ref (mj_NE + 5)], Wd xs L A V Y, 0, 0)) ok_W_pits 9999 [] rfl trivial
  rw [hbr] at t1
  have t2 := r_tr t1 (q_V ok_W_pits ok_Streams_run se_Streams_run (hct) rfl rfl rfl rfl rfl ⟨rfl, rfl, rfl⟩)
  have hV1 : V1 2 = iI n := by rw [kv 2 (by omega)]; exact hV
  have hdr : ∀ i : Nat, i < n → A1 3 i = iI (drF w h H i) ∧ 0 ≤ drF w h H i ∧ drF w h H i ≤ 9 := fun i hi => ⟨(hR.2.1 i hi).1, by have := chD_bd hw hh hnw (fun j hj => (hH j hj).2) hi 8 (Nat.le_refl _); unfold drF; omega⟩
  have hnx : ∀ i : Nat, i < n → A1 4 i = iI (nxF w h H i) ∧ -1 ≤ nxF w h H i ∧ nxF w h H i < n := fun i hi => ⟨(hR.2.1 i hi).2, by have := chD_bd hw hh hnw (fun j hj => (hH j hj).2) hi 8 (Nat.le_refl _); unfold nxF; omega⟩
  have hpd := (pd_inv (b := b) hR.1 (fun j hj => (hnx j hj).2) n (Nat.le_refl _)).2
  have t3 := r_tr t2 (r_to (g' := (17, [.ref (mj_NE + 0)], [.int (iI 9), .ref (mj_NE + 5)], Wd xs L A1 V1 Y, 0, 0)) ok_W_pits 9999 [] rfl trivial)
  have t4 := r_tr t3 (q_V ok_W_pits ok_Streams_count se_Streams_count (c_count hV1 (by omega) hdr ⟨by omega, by omega⟩) rfl rfl rfl rfl rfl ⟨rfl, rfl, rfl⟩)
  exact ⟨A1, V1, od, hR, ka, kv, ct_of ok_W_pits rfl t4 rfl rfl rfl rfl rfl⟩
theorem f_mostRank {b : Int} (hbr : V 10 = iI b) (hb : 1 ≤ b ∧ b ≤ 100) (hL : LdOK w h n H A V) : ∃ (A1 : Nat → Nat → Int32) (V1 : Nat → Int32) (od : Nat → Nat), RunOK w h n H b A1 od ∧ (∀ k, k < 3 ∨ 12 < k → A1 k = A k) ∧ (∀ k, k ≠ 3 → V1 k = V k) ∧ mj_Ct m_W_mostRank [.ref (mj_NE + 0)] (Wd xs L A V Y) (some (.int (iI (mxH (pdK b (nxF w h H) od n).2.1 n)))) (Wd xs L A1 V1 Y) 0 0 6 := by
  have hL2 := hL
  obtain ⟨h0, h1, hV, hnw, hw, hh, hN, hH⟩ := hL2
  have wh := wh_bd hw hh
  obtain ⟨A1, V1, od, hR, ka, kv, hct⟩ := c_run (xs := xs) (L := L) (A := A) (V := V) (Y := Y) (b := b) hV hw hh hnw hN hH ⟨by omega, by omega⟩
  have t1 := r_to (RC := 0) (RS := 0) (dd := 6) (g := (0, [.ref (mj_NE + 0)], [], Wd xs L A V Y, 0, 0)) (g' := (8, [.ref (mj_NE + 0)], [.int (V 10), .ref (mj_NE + 5)], Wd xs L A V Y, 0, 0)) ok_W_mostRank 9999 [] rfl trivial
  rw [hbr] at t1
  have t2 := r_tr t1 (q_V ok_W_mostRank ok_Streams_run se_Streams_run (hct) rfl rfl rfl rfl rfl ⟨rfl, rfl, rfl⟩)
  have hV1 : V1 2 = iI n := by rw [kv 2 (by omega)]; exact hV
  have hdr : ∀ i : Nat, i < n → A1 3 i = iI (drF w h H i) ∧ 0 ≤ drF w h H i ∧ drF w h H i ≤ 9 := fun i hi => ⟨(hR.2.1 i hi).1, by have := chD_bd hw hh hnw (fun j hj => (hH j hj).2) hi 8 (Nat.le_refl _); unfold drF; omega⟩
  have hnx : ∀ i : Nat, i < n → A1 4 i = iI (nxF w h H i) ∧ -1 ≤ nxF w h H i ∧ nxF w h H i < n := fun i hi => ⟨(hR.2.1 i hi).2, by have := chD_bd hw hh hnw (fun j hj => (hH j hj).2) hi 8 (Nat.le_refl _); unfold nxF; omega⟩
  have hpd := (pd_inv (b := b) hR.1 (fun j hj => (hnx j hj).2) n (Nat.le_refl _)).2
  have t3 := r_tr t2 (r_to (g' := (22, [.ref (mj_NE + 0)], [.ref (mj_NE + 11), .ref (mj_NE + 5)], Wd xs L A1 V1 Y, 0, 0)) ok_W_mostRank 9999 [] rfl trivial)
  have hG : Hts (A1 8) n (pdK b (nxF w h H) od n).2.1 := fun j hj => ⟨(hR.2.2.1 j hj).2.1, by have := (hpd j hj |>.2.1); omega, by have := (hpd j hj |>.2.1); omega⟩
  have t4 := r_tr t3 (q_V ok_W_mostRank ok_Streams_greatestOf se_Streams_greatestOf (c_greatestOf_8 hV1 (by omega) hG) rfl rfl rfl rfl rfl ⟨rfl, rfl, rfl⟩)
  exact ⟨A1, V1, od, hR, ka, kv, ct_of ok_W_mostRank rfl t4 rfl rfl rfl rfl rfl⟩
theorem f_wear {b : Int} (hbr : V 10 = iI b) (hb : 1 ≤ b ∧ b ≤ 100) {k : Int} (hk : 1 ≤ k ∧ k ≤ 50) (hL : LdOK w h n H A V) : ∃ (A1 : Nat → Nat → Int32) (V1 : Nat → Int32) (od : Nat → Nat), RunOK w h n H b A1 od ∧ (∀ k, k < 3 ∨ 12 < k → A1 k = A k) ∧ (∀ k, k ≠ 3 → V1 k = V k) ∧ mj_Ct m_W_wear [.ref (mj_NE + 0), .int (iI k)] (Wd xs L A V Y) (some (.int (iI (lsm k H (nxF w h H) (pdK b (nxF w h H) od n).1 n)))) (Wd xs L (wA (wA A1 1 (pw (fun j => iI (H j - losH k H (nxF w h H) (pdK b (nxF w h H) od n).1 j)) (A1 1) n)) 0 (pw (fun j => iI (clH (H j - losH k H (nxF w h H) (pdK b (nxF w h H) od n).1 j))) (A1 0) n)) V1 Y) 0 0 6 := by
  have hL2 := hL
  obtain ⟨h0, h1, hV, hnw, hw, hh, hN, hH⟩ := hL2
  have wh := wh_bd hw hh
  have t1 := r_to (RC := 0) (RS := 0) (dd := 6) (g := (0, [.ref (mj_NE + 0), .int (iI k)], [], Wd xs L A V Y, 0, 0)) (g' := (4, [.ref (mj_NE + 0), .int (iI k)], [.int (iI 50), .int (iI 1), .int (iI k)], Wd xs L A V Y, 0, 0)) ok_W_wear 9999 [] rfl trivial
  have t2 := r_tr t1 (q_S ok_W_wear ok_W_checkRange st_W_checkRange (f_checkRange hk ⟨by omega, by omega⟩) rfl rfl rfl rfl ⟨rfl, rfl, rfl⟩)
  obtain ⟨A1, V1, od, hR, ka, kv, hct⟩ := c_run (xs := xs) (L := L) (A := A) (V := V) (Y := Y) (b := b) hV hw hh hnw hN hH ⟨by omega, by omega⟩
  have t3 := r_tr t2 (r_to (g' := (15, [.ref (mj_NE + 0), .int (iI k)], [.int (V 10), .ref (mj_NE + 5)], Wd xs L A V Y, 0, 0)) ok_W_wear 9999 [] rfl trivial)
  rw [hbr] at t3
  have t4 := r_tr t3 (q_V ok_W_wear ok_Streams_run se_Streams_run (hct) rfl rfl rfl rfl rfl ⟨rfl, rfl, rfl⟩)
  have hV1 : V1 2 = iI n := by rw [kv 2 (by omega)]; exact hV
  have hdr : ∀ i : Nat, i < n → A1 3 i = iI (drF w h H i) ∧ 0 ≤ drF w h H i ∧ drF w h H i ≤ 9 := fun i hi => ⟨(hR.2.1 i hi).1, by have := chD_bd hw hh hnw (fun j hj => (hH j hj).2) hi 8 (Nat.le_refl _); unfold drF; omega⟩
  have hnx : ∀ i : Nat, i < n → A1 4 i = iI (nxF w h H i) ∧ -1 ≤ nxF w h H i ∧ nxF w h H i < n := fun i hi => ⟨(hR.2.1 i hi).2, by have := chD_bd hw hh hnw (fun j hj => (hH j hj).2) hi 8 (Nat.le_refl _); unfold nxF; omega⟩
  have hpd := (pd_inv (b := b) hR.1 (fun j hj => (hnx j hj).2) n (Nat.le_refl _)).2
  have t5 := r_tr t4 (r_to (g' := (27, [.ref (mj_NE + 0), .int (iI k)], [.int (iI k), .ref (mj_NE + 5), .ref (mj_NE + 1)], Wd xs L A1 V1 Y, 0, 0)) ok_W_wear 9999 [] rfl trivial)
  have t6 := r_tr t5 (q_V ok_W_wear ok_Land_washAway se_Land_washAway (c_washAway (nx := nxF w h H) (fw := (pdK b (nxF w h H) od n).1) hV1 (by omega) (by rw [ka 0 (by omega)]; exact hH) ⟨by omega, by omega⟩ hnx (fun i hi => ⟨(hR.2.2.1 i hi).1, by have := (hpd i hi).1; omega, by have := (hpd i hi).1; omega⟩)) rfl rfl rfl rfl rfl ⟨rfl, rfl, rfl⟩)
  exact ⟨A1, V1, od, hR, ka, kv, ct_of ok_W_wear rfl t6 rfl rfl rfl rfl rfl⟩
theorem f_water0 {b : Int} (hbr : V 10 = iI b) (hb : 1 ≤ b ∧ b ≤ 100) {x y : Int} (hx : 0 ≤ x ∧ x < w) (hy : 0 ≤ y ∧ y < h) (hL : LdOK w h n H A V) : ∃ (A1 : Nat → Nat → Int32) (V1 : Nat → Int32) (od : Nat → Nat), RunOK w h n H b A1 od ∧ (∀ k, k < 3 ∨ 12 < k → A1 k = A k) ∧ (∀ k, k ≠ 3 → V1 k = V k) ∧ mj_Ct m_W_water [.ref (mj_NE + 0), .int (iI x), .int (iI y), .int (iI 0)] (Wd xs L A V Y) (some (.int (A1 3 (y * w + x).toNat))) (Wd xs L A1 V1 Y) 0 0 6 := by
  have hL2 := hL
  obtain ⟨h0, h1, hV, hnw, hw, hh, hN, hH⟩ := hL2
  have wh := wh_bd hw hh
  have nbj := num_bd hw hh hx hy
  obtain ⟨j, hj⟩ : ∃ i : Nat, (i : Int) = y * w + x := ⟨(y * w + x).toNat, by omega⟩
  have hj2 : (y * w + x).toNat = j := by omega
  have hjn : j < n := by omega
  have cj : (iI (j : Int)).toNatClampNeg = j := cl_nat (by omega)
  have ij : vp_in (iI (j : Int)) 256 := in_nat (by omega) (by omega)
  rw [hj2]
  have t1 := r_to (RC := 0) (RS := 0) (dd := 6) (g := (0, [.ref (mj_NE + 0), .int (iI x), .int (iI y), .int (iI 0)], [], Wd xs L A V Y, 0, 0)) (g' := (3, [.ref (mj_NE + 0), .int (iI x), .int (iI y), .int (iI 0)], [.int (iI y), .int (iI x), .ref (mj_NE + 0)], Wd xs L A V Y, 0, 0)) ok_W_water 9999 [] rfl trivial
  have t2 := r_tr t1 (q_V ok_W_water ok_W_checkField se_W_checkField (f_checkField hL hx hy) rfl rfl rfl rfl rfl ⟨rfl, rfl, rfl⟩)
  have t3 := r_tr t2 (r_to (g' := (9, [.ref (mj_NE + 0), .int (iI x), .int (iI y), .int (iI 0)], [.int (iI 4), .int (iI 0), .int (iI 0)], Wd xs L A V Y, 0, 0)) ok_W_water 9999 [] rfl trivial)
  have t4 := r_tr t3 (q_S ok_W_water ok_W_checkRange st_W_checkRange (f_checkRange ⟨by omega, by omega⟩ ⟨by omega, by omega⟩) rfl rfl rfl rfl ⟨rfl, rfl, rfl⟩)
  obtain ⟨A1, V1, od, hR, ka, kv, hct⟩ := c_run (xs := xs) (L := L) (A := A) (V := V) (Y := Y) (b := b) hV hw hh hnw hN hH ⟨by omega, by omega⟩
  have t5 := r_tr t4 (r_to (g' := (20, [.ref (mj_NE + 0), .int (iI x), .int (iI y), .int (iI 0)], [.int (V 10), .ref (mj_NE + 5)], Wd xs L A V Y, 0, 0)) ok_W_water 9999 [] rfl trivial)
  rw [hbr] at t5
  have t6 := r_tr t5 (q_V ok_W_water ok_Streams_run se_Streams_run (hct) rfl rfl rfl rfl rfl ⟨rfl, rfl, rfl⟩)
  have hV1 : V1 2 = iI n := by rw [kv 2 (by omega)]; exact hV
  have hdr : ∀ i : Nat, i < n → A1 3 i = iI (drF w h H i) ∧ 0 ≤ drF w h H i ∧ drF w h H i ≤ 9 := fun i hi => ⟨(hR.2.1 i hi).1, by have := chD_bd hw hh hnw (fun j hj => (hH j hj).2) hi 8 (Nat.le_refl _); unfold drF; omega⟩
  have hnx : ∀ i : Nat, i < n → A1 4 i = iI (nxF w h H i) ∧ -1 ≤ nxF w h H i ∧ nxF w h H i < n := fun i hi => ⟨(hR.2.1 i hi).2, by have := chD_bd hw hh hnw (fun j hj => (hH j hj).2) hi 8 (Nat.le_refl _); unfold nxF; omega⟩
  have hpd := (pd_inv (b := b) hR.1 (fun j hj => (hnx j hj).2) n (Nat.le_refl _)).2
  have t7 := r_tr t6 (r_to (g' := (33, [.ref (mj_NE + 0), .int (iI x), .int (iI y), .int (iI 0)], [.int (iI y), .int (iI x), .ref (mj_NE + 1), .ref (mj_NE + 5)], Wd xs L A1 V1 Y, 0, 0)) ok_W_water 9999 [] rfl trivial)
  have t8 := r_tr t7 (q_V ok_W_water ok_Land_numberOf se_Land_numberOf (c_num (by rw [kv 0 (by omega)]; exact h0)) rfl rfl rfl rfl rfl ⟨rfl, rfl, rfl⟩)
  rw [← hj] at t8
  have t9 := r_tr t8 (r_to (g' := (37, [.ref (mj_NE + 0), .int (iI x), .int (iI y), .int (iI 0)], [.int (iI 0), .int (iI j), .ref (mj_NE + 5)], Wd xs L A1 V1 Y, 0, 0)) ok_W_water 9999 [] rfl trivial)
  have t10 := r_tr t9 (q_V ok_W_water ok_Streams_told se_Streams_told (c_told0 (by omega)) rfl rfl rfl rfl rfl ⟨rfl, rfl, rfl⟩)
  exact ⟨A1, V1, od, hR, ka, kv, ct_of ok_W_water rfl t10 rfl rfl rfl rfl rfl⟩
theorem f_water1 {b : Int} (hbr : V 10 = iI b) (hb : 1 ≤ b ∧ b ≤ 100) {x y : Int} (hx : 0 ≤ x ∧ x < w) (hy : 0 ≤ y ∧ y < h) (hL : LdOK w h n H A V) : ∃ (A1 : Nat → Nat → Int32) (V1 : Nat → Int32) (od : Nat → Nat), RunOK w h n H b A1 od ∧ (∀ k, k < 3 ∨ 12 < k → A1 k = A k) ∧ (∀ k, k ≠ 3 → V1 k = V k) ∧ mj_Ct m_W_water [.ref (mj_NE + 0), .int (iI x), .int (iI y), .int (iI 1)] (Wd xs L A V Y) (some (.int (A1 5 (y * w + x).toNat))) (Wd xs L A1 V1 Y) 0 0 6 := by
  have hL2 := hL
  obtain ⟨h0, h1, hV, hnw, hw, hh, hN, hH⟩ := hL2
  have wh := wh_bd hw hh
  have nbj := num_bd hw hh hx hy
  obtain ⟨j, hj⟩ : ∃ i : Nat, (i : Int) = y * w + x := ⟨(y * w + x).toNat, by omega⟩
  have hj2 : (y * w + x).toNat = j := by omega
  have hjn : j < n := by omega
  have cj : (iI (j : Int)).toNatClampNeg = j := cl_nat (by omega)
  have ij : vp_in (iI (j : Int)) 256 := in_nat (by omega) (by omega)
  rw [hj2]
  have t1 := r_to (RC := 0) (RS := 0) (dd := 6) (g := (0, [.ref (mj_NE + 0), .int (iI x), .int (iI y), .int (iI 1)], [], Wd xs L A V Y, 0, 0)) (g' := (3, [.ref (mj_NE + 0), .int (iI x), .int (iI y), .int (iI 1)], [.int (iI y), .int (iI x), .ref (mj_NE + 0)], Wd xs L A V Y, 0, 0)) ok_W_water 9999 [] rfl trivial
  have t2 := r_tr t1 (q_V ok_W_water ok_W_checkField se_W_checkField (f_checkField hL hx hy) rfl rfl rfl rfl rfl ⟨rfl, rfl, rfl⟩)
  have t3 := r_tr t2 (r_to (g' := (9, [.ref (mj_NE + 0), .int (iI x), .int (iI y), .int (iI 1)], [.int (iI 4), .int (iI 0), .int (iI 1)], Wd xs L A V Y, 0, 0)) ok_W_water 9999 [] rfl trivial)
  have t4 := r_tr t3 (q_S ok_W_water ok_W_checkRange st_W_checkRange (f_checkRange ⟨by omega, by omega⟩ ⟨by omega, by omega⟩) rfl rfl rfl rfl ⟨rfl, rfl, rfl⟩)
  obtain ⟨A1, V1, od, hR, ka, kv, hct⟩ := c_run (xs := xs) (L := L) (A := A) (V := V) (Y := Y) (b := b) hV hw hh hnw hN hH ⟨by omega, by omega⟩
  have t5 := r_tr t4 (r_to (g' := (20, [.ref (mj_NE + 0), .int (iI x), .int (iI y), .int (iI 1)], [.int (V 10), .ref (mj_NE + 5)], Wd xs L A V Y, 0, 0)) ok_W_water 9999 [] rfl trivial)
  rw [hbr] at t5
  have t6 := r_tr t5 (q_V ok_W_water ok_Streams_run se_Streams_run (hct) rfl rfl rfl rfl rfl ⟨rfl, rfl, rfl⟩)
  have hV1 : V1 2 = iI n := by rw [kv 2 (by omega)]; exact hV
  have hdr : ∀ i : Nat, i < n → A1 3 i = iI (drF w h H i) ∧ 0 ≤ drF w h H i ∧ drF w h H i ≤ 9 := fun i hi => ⟨(hR.2.1 i hi).1, by have := chD_bd hw hh hnw (fun j hj => (hH j hj).2) hi 8 (Nat.le_refl _); unfold drF; omega⟩
  have hnx : ∀ i : Nat, i < n → A1 4 i = iI (nxF w h H i) ∧ -1 ≤ nxF w h H i ∧ nxF w h H i < n := fun i hi => ⟨(hR.2.1 i hi).2, by have := chD_bd hw hh hnw (fun j hj => (hH j hj).2) hi 8 (Nat.le_refl _); unfold nxF; omega⟩
  have hpd := (pd_inv (b := b) hR.1 (fun j hj => (hnx j hj).2) n (Nat.le_refl _)).2
  have t7 := r_tr t6 (r_to (g' := (33, [.ref (mj_NE + 0), .int (iI x), .int (iI y), .int (iI 1)], [.int (iI y), .int (iI x), .ref (mj_NE + 1), .ref (mj_NE + 5)], Wd xs L A1 V1 Y, 0, 0)) ok_W_water 9999 [] rfl trivial)
  have t8 := r_tr t7 (q_V ok_W_water ok_Land_numberOf se_Land_numberOf (c_num (by rw [kv 0 (by omega)]; exact h0)) rfl rfl rfl rfl rfl ⟨rfl, rfl, rfl⟩)
  rw [← hj] at t8
  have t9 := r_tr t8 (r_to (g' := (37, [.ref (mj_NE + 0), .int (iI x), .int (iI y), .int (iI 1)], [.int (iI 1), .int (iI j), .ref (mj_NE + 5)], Wd xs L A1 V1 Y, 0, 0)) ok_W_water 9999 [] rfl trivial)
  have t10 := r_tr t9 (q_V ok_W_water ok_Streams_told se_Streams_told (c_told1 (by omega)) rfl rfl rfl rfl rfl ⟨rfl, rfl, rfl⟩)
  exact ⟨A1, V1, od, hR, ka, kv, ct_of ok_W_water rfl t10 rfl rfl rfl rfl rfl⟩
theorem f_water2 {b : Int} (hbr : V 10 = iI b) (hb : 1 ≤ b ∧ b ≤ 100) {x y : Int} (hx : 0 ≤ x ∧ x < w) (hy : 0 ≤ y ∧ y < h) (hL : LdOK w h n H A V) : ∃ (A1 : Nat → Nat → Int32) (V1 : Nat → Int32) (od : Nat → Nat), RunOK w h n H b A1 od ∧ (∀ k, k < 3 ∨ 12 < k → A1 k = A k) ∧ (∀ k, k ≠ 3 → V1 k = V k) ∧ mj_Ct m_W_water [.ref (mj_NE + 0), .int (iI x), .int (iI y), .int (iI 2)] (Wd xs L A V Y) (some (.int (A1 6 (y * w + x).toNat))) (Wd xs L A1 V1 Y) 0 0 6 := by
  have hL2 := hL
  obtain ⟨h0, h1, hV, hnw, hw, hh, hN, hH⟩ := hL2
  have wh := wh_bd hw hh
  have nbj := num_bd hw hh hx hy
  obtain ⟨j, hj⟩ : ∃ i : Nat, (i : Int) = y * w + x := ⟨(y * w + x).toNat, by omega⟩
  have hj2 : (y * w + x).toNat = j := by omega
  have hjn : j < n := by omega
  have cj : (iI (j : Int)).toNatClampNeg = j := cl_nat (by omega)
  have ij : vp_in (iI (j : Int)) 256 := in_nat (by omega) (by omega)
  rw [hj2]
  have t1 := r_to (RC := 0) (RS := 0) (dd := 6) (g := (0, [.ref (mj_NE + 0), .int (iI x), .int (iI y), .int (iI 2)], [], Wd xs L A V Y, 0, 0)) (g' := (3, [.ref (mj_NE + 0), .int (iI x), .int (iI y), .int (iI 2)], [.int (iI y), .int (iI x), .ref (mj_NE + 0)], Wd xs L A V Y, 0, 0)) ok_W_water 9999 [] rfl trivial
  have t2 := r_tr t1 (q_V ok_W_water ok_W_checkField se_W_checkField (f_checkField hL hx hy) rfl rfl rfl rfl rfl ⟨rfl, rfl, rfl⟩)
  have t3 := r_tr t2 (r_to (g' := (9, [.ref (mj_NE + 0), .int (iI x), .int (iI y), .int (iI 2)], [.int (iI 4), .int (iI 0), .int (iI 2)], Wd xs L A V Y, 0, 0)) ok_W_water 9999 [] rfl trivial)
  have t4 := r_tr t3 (q_S ok_W_water ok_W_checkRange st_W_checkRange (f_checkRange ⟨by omega, by omega⟩ ⟨by omega, by omega⟩) rfl rfl rfl rfl ⟨rfl, rfl, rfl⟩)
  obtain ⟨A1, V1, od, hR, ka, kv, hct⟩ := c_run (xs := xs) (L := L) (A := A) (V := V) (Y := Y) (b := b) hV hw hh hnw hN hH ⟨by omega, by omega⟩
  have t5 := r_tr t4 (r_to (g' := (20, [.ref (mj_NE + 0), .int (iI x), .int (iI y), .int (iI 2)], [.int (V 10), .ref (mj_NE + 5)], Wd xs L A V Y, 0, 0)) ok_W_water 9999 [] rfl trivial)
  rw [hbr] at t5
  have t6 := r_tr t5 (q_V ok_W_water ok_Streams_run se_Streams_run (hct) rfl rfl rfl rfl rfl ⟨rfl, rfl, rfl⟩)
  have hV1 : V1 2 = iI n := by rw [kv 2 (by omega)]; exact hV
  have hdr : ∀ i : Nat, i < n → A1 3 i = iI (drF w h H i) ∧ 0 ≤ drF w h H i ∧ drF w h H i ≤ 9 := fun i hi => ⟨(hR.2.1 i hi).1, by have := chD_bd hw hh hnw (fun j hj => (hH j hj).2) hi 8 (Nat.le_refl _); unfold drF; omega⟩
  have hnx : ∀ i : Nat, i < n → A1 4 i = iI (nxF w h H i) ∧ -1 ≤ nxF w h H i ∧ nxF w h H i < n := fun i hi => ⟨(hR.2.1 i hi).2, by have := chD_bd hw hh hnw (fun j hj => (hH j hj).2) hi 8 (Nat.le_refl _); unfold nxF; omega⟩
  have hpd := (pd_inv (b := b) hR.1 (fun j hj => (hnx j hj).2) n (Nat.le_refl _)).2
  have t7 := r_tr t6 (r_to (g' := (33, [.ref (mj_NE + 0), .int (iI x), .int (iI y), .int (iI 2)], [.int (iI y), .int (iI x), .ref (mj_NE + 1), .ref (mj_NE + 5)], Wd xs L A1 V1 Y, 0, 0)) ok_W_water 9999 [] rfl trivial)
  have t8 := r_tr t7 (q_V ok_W_water ok_Land_numberOf se_Land_numberOf (c_num (by rw [kv 0 (by omega)]; exact h0)) rfl rfl rfl rfl rfl ⟨rfl, rfl, rfl⟩)
  rw [← hj] at t8
  have t9 := r_tr t8 (r_to (g' := (37, [.ref (mj_NE + 0), .int (iI x), .int (iI y), .int (iI 2)], [.int (iI 2), .int (iI j), .ref (mj_NE + 5)], Wd xs L A1 V1 Y, 0, 0)) ok_W_water 9999 [] rfl trivial)
  have t10 := r_tr t9 (q_V ok_W_water ok_Streams_told se_Streams_told (c_told2 (by omega)) rfl rfl rfl rfl rfl ⟨rfl, rfl, rfl⟩)
  exact ⟨A1, V1, od, hR, ka, kv, ct_of ok_W_water rfl t10 rfl rfl rfl rfl rfl⟩
theorem f_water3 {b : Int} (hbr : V 10 = iI b) (hb : 1 ≤ b ∧ b ≤ 100) {x y : Int} (hx : 0 ≤ x ∧ x < w) (hy : 0 ≤ y ∧ y < h) (hL : LdOK w h n H A V) : ∃ (A1 : Nat → Nat → Int32) (V1 : Nat → Int32) (od : Nat → Nat), RunOK w h n H b A1 od ∧ (∀ k, k < 3 ∨ 12 < k → A1 k = A k) ∧ (∀ k, k ≠ 3 → V1 k = V k) ∧ mj_Ct m_W_water [.ref (mj_NE + 0), .int (iI x), .int (iI y), .int (iI 3)] (Wd xs L A V Y) (some (.int (A1 8 (y * w + x).toNat))) (Wd xs L A1 V1 Y) 0 0 6 := by
  have hL2 := hL
  obtain ⟨h0, h1, hV, hnw, hw, hh, hN, hH⟩ := hL2
  have wh := wh_bd hw hh
  have nbj := num_bd hw hh hx hy
  obtain ⟨j, hj⟩ : ∃ i : Nat, (i : Int) = y * w + x := ⟨(y * w + x).toNat, by omega⟩
  have hj2 : (y * w + x).toNat = j := by omega
  have hjn : j < n := by omega
  have cj : (iI (j : Int)).toNatClampNeg = j := cl_nat (by omega)
  have ij : vp_in (iI (j : Int)) 256 := in_nat (by omega) (by omega)
  rw [hj2]
  have t1 := r_to (RC := 0) (RS := 0) (dd := 6) (g := (0, [.ref (mj_NE + 0), .int (iI x), .int (iI y), .int (iI 3)], [], Wd xs L A V Y, 0, 0)) (g' := (3, [.ref (mj_NE + 0), .int (iI x), .int (iI y), .int (iI 3)], [.int (iI y), .int (iI x), .ref (mj_NE + 0)], Wd xs L A V Y, 0, 0)) ok_W_water 9999 [] rfl trivial
  have t2 := r_tr t1 (q_V ok_W_water ok_W_checkField se_W_checkField (f_checkField hL hx hy) rfl rfl rfl rfl rfl ⟨rfl, rfl, rfl⟩)
  have t3 := r_tr t2 (r_to (g' := (9, [.ref (mj_NE + 0), .int (iI x), .int (iI y), .int (iI 3)], [.int (iI 4), .int (iI 0), .int (iI 3)], Wd xs L A V Y, 0, 0)) ok_W_water 9999 [] rfl trivial)
  have t4 := r_tr t3 (q_S ok_W_water ok_W_checkRange st_W_checkRange (f_checkRange ⟨by omega, by omega⟩ ⟨by omega, by omega⟩) rfl rfl rfl rfl ⟨rfl, rfl, rfl⟩)
  obtain ⟨A1, V1, od, hR, ka, kv, hct⟩ := c_run (xs := xs) (L := L) (A := A) (V := V) (Y := Y) (b := b) hV hw hh hnw hN hH ⟨by omega, by omega⟩
  have t5 := r_tr t4 (r_to (g' := (20, [.ref (mj_NE + 0), .int (iI x), .int (iI y), .int (iI 3)], [.int (V 10), .ref (mj_NE + 5)], Wd xs L A V Y, 0, 0)) ok_W_water 9999 [] rfl trivial)
  rw [hbr] at t5
  have t6 := r_tr t5 (q_V ok_W_water ok_Streams_run se_Streams_run (hct) rfl rfl rfl rfl rfl ⟨rfl, rfl, rfl⟩)
  have hV1 : V1 2 = iI n := by rw [kv 2 (by omega)]; exact hV
  have hdr : ∀ i : Nat, i < n → A1 3 i = iI (drF w h H i) ∧ 0 ≤ drF w h H i ∧ drF w h H i ≤ 9 := fun i hi => ⟨(hR.2.1 i hi).1, by have := chD_bd hw hh hnw (fun j hj => (hH j hj).2) hi 8 (Nat.le_refl _); unfold drF; omega⟩
  have hnx : ∀ i : Nat, i < n → A1 4 i = iI (nxF w h H i) ∧ -1 ≤ nxF w h H i ∧ nxF w h H i < n := fun i hi => ⟨(hR.2.1 i hi).2, by have := chD_bd hw hh hnw (fun j hj => (hH j hj).2) hi 8 (Nat.le_refl _); unfold nxF; omega⟩
  have hpd := (pd_inv (b := b) hR.1 (fun j hj => (hnx j hj).2) n (Nat.le_refl _)).2
  have t7 := r_tr t6 (r_to (g' := (33, [.ref (mj_NE + 0), .int (iI x), .int (iI y), .int (iI 3)], [.int (iI y), .int (iI x), .ref (mj_NE + 1), .ref (mj_NE + 5)], Wd xs L A1 V1 Y, 0, 0)) ok_W_water 9999 [] rfl trivial)
  have t8 := r_tr t7 (q_V ok_W_water ok_Land_numberOf se_Land_numberOf (c_num (by rw [kv 0 (by omega)]; exact h0)) rfl rfl rfl rfl rfl ⟨rfl, rfl, rfl⟩)
  rw [← hj] at t8
  have t9 := r_tr t8 (r_to (g' := (37, [.ref (mj_NE + 0), .int (iI x), .int (iI y), .int (iI 3)], [.int (iI 3), .int (iI j), .ref (mj_NE + 5)], Wd xs L A1 V1 Y, 0, 0)) ok_W_water 9999 [] rfl trivial)
  have t10 := r_tr t9 (q_V ok_W_water ok_Streams_told se_Streams_told (c_told3 (by omega)) rfl rfl rfl rfl rfl ⟨rfl, rfl, rfl⟩)
  exact ⟨A1, V1, od, hR, ka, kv, ct_of ok_W_water rfl t10 rfl rfl rfl rfl rfl⟩
theorem f_water4 {b : Int} (hbr : V 10 = iI b) (hb : 1 ≤ b ∧ b ≤ 100) {x y : Int} (hx : 0 ≤ x ∧ x < w) (hy : 0 ≤ y ∧ y < h) (hL : LdOK w h n H A V) : ∃ (A1 : Nat → Nat → Int32) (V1 : Nat → Int32) (od : Nat → Nat), RunOK w h n H b A1 od ∧ (∀ k, k < 3 ∨ 12 < k → A1 k = A k) ∧ (∀ k, k ≠ 3 → V1 k = V k) ∧ mj_Ct m_W_water [.ref (mj_NE + 0), .int (iI x), .int (iI y), .int (iI 4)] (Wd xs L A V Y) (some (.int (A1 7 (y * w + x).toNat))) (Wd xs L A1 V1 Y) 0 0 6 := by
  have hL2 := hL
  obtain ⟨h0, h1, hV, hnw, hw, hh, hN, hH⟩ := hL2
  have wh := wh_bd hw hh
  have nbj := num_bd hw hh hx hy
  obtain ⟨j, hj⟩ : ∃ i : Nat, (i : Int) = y * w + x := ⟨(y * w + x).toNat, by omega⟩
  have hj2 : (y * w + x).toNat = j := by omega
  have hjn : j < n := by omega
  have cj : (iI (j : Int)).toNatClampNeg = j := cl_nat (by omega)
  have ij : vp_in (iI (j : Int)) 256 := in_nat (by omega) (by omega)
  rw [hj2]
  have t1 := r_to (RC := 0) (RS := 0) (dd := 6) (g := (0, [.ref (mj_NE + 0), .int (iI x), .int (iI y), .int (iI 4)], [], Wd xs L A V Y, 0, 0)) (g' := (3, [.ref (mj_NE + 0), .int (iI x), .int (iI y), .int (iI 4)], [.int (iI y), .int (iI x), .ref (mj_NE + 0)], Wd xs L A V Y, 0, 0)) ok_W_water 9999 [] rfl trivial
  have t2 := r_tr t1 (q_V ok_W_water ok_W_checkField se_W_checkField (f_checkField hL hx hy) rfl rfl rfl rfl rfl ⟨rfl, rfl, rfl⟩)
  have t3 := r_tr t2 (r_to (g' := (9, [.ref (mj_NE + 0), .int (iI x), .int (iI y), .int (iI 4)], [.int (iI 4), .int (iI 0), .int (iI 4)], Wd xs L A V Y, 0, 0)) ok_W_water 9999 [] rfl trivial)
  have t4 := r_tr t3 (q_S ok_W_water ok_W_checkRange st_W_checkRange (f_checkRange ⟨by omega, by omega⟩ ⟨by omega, by omega⟩) rfl rfl rfl rfl ⟨rfl, rfl, rfl⟩)
  obtain ⟨A1, V1, od, hR, ka, kv, hct⟩ := c_run (xs := xs) (L := L) (A := A) (V := V) (Y := Y) (b := b) hV hw hh hnw hN hH ⟨by omega, by omega⟩
  have t5 := r_tr t4 (r_to (g' := (20, [.ref (mj_NE + 0), .int (iI x), .int (iI y), .int (iI 4)], [.int (V 10), .ref (mj_NE + 5)], Wd xs L A V Y, 0, 0)) ok_W_water 9999 [] rfl trivial)
  rw [hbr] at t5
  have t6 := r_tr t5 (q_V ok_W_water ok_Streams_run se_Streams_run (hct) rfl rfl rfl rfl rfl ⟨rfl, rfl, rfl⟩)
  have hV1 : V1 2 = iI n := by rw [kv 2 (by omega)]; exact hV
  have hdr : ∀ i : Nat, i < n → A1 3 i = iI (drF w h H i) ∧ 0 ≤ drF w h H i ∧ drF w h H i ≤ 9 := fun i hi => ⟨(hR.2.1 i hi).1, by have := chD_bd hw hh hnw (fun j hj => (hH j hj).2) hi 8 (Nat.le_refl _); unfold drF; omega⟩
  have hnx : ∀ i : Nat, i < n → A1 4 i = iI (nxF w h H i) ∧ -1 ≤ nxF w h H i ∧ nxF w h H i < n := fun i hi => ⟨(hR.2.1 i hi).2, by have := chD_bd hw hh hnw (fun j hj => (hH j hj).2) hi 8 (Nat.le_refl _); unfold nxF; omega⟩
  have hpd := (pd_inv (b := b) hR.1 (fun j hj => (hnx j hj).2) n (Nat.le_refl _)).2
  have t7 := r_tr t6 (r_to (g' := (33, [.ref (mj_NE + 0), .int (iI x), .int (iI y), .int (iI 4)], [.int (iI y), .int (iI x), .ref (mj_NE + 1), .ref (mj_NE + 5)], Wd xs L A1 V1 Y, 0, 0)) ok_W_water 9999 [] rfl trivial)
  have t8 := r_tr t7 (q_V ok_W_water ok_Land_numberOf se_Land_numberOf (c_num (by rw [kv 0 (by omega)]; exact h0)) rfl rfl rfl rfl rfl ⟨rfl, rfl, rfl⟩)
  rw [← hj] at t8
  have t9 := r_tr t8 (r_to (g' := (37, [.ref (mj_NE + 0), .int (iI x), .int (iI y), .int (iI 4)], [.int (iI 4), .int (iI j), .ref (mj_NE + 5)], Wd xs L A1 V1 Y, 0, 0)) ok_W_water 9999 [] rfl trivial)
  have t10 := r_tr t9 (q_V ok_W_water ok_Streams_told se_Streams_told (c_told4 (by omega)) rfl rfl rfl rfl rfl ⟨rfl, rfl, rfl⟩)
  exact ⟨A1, V1, od, hR, ka, kv, ct_of ok_W_water rfl t10 rfl rfl rfl rfl rfl⟩
theorem f_fill (hno : ∀ lev, LvOK w h n H lev → ∀ j, j < n → lev j = H j) (hL : LdOK w h n H A V) : ∃ (A1 : Nat → Nat → Int32) (V1 : Nat → Int32), (∀ k, k ≠ 13 → k ≠ 14 → k ≠ 15 → A1 k = A k) ∧ (∀ k, k ≠ 4 → k ≠ 5 → V1 k = V k) ∧ mj_Ct m_W_fill [.ref (mj_NE + 0)] (Wd xs L A V Y) (some (.int (iI 0))) (Wd xs L (wA A1 0 (pw (fun j => iI (H j)) (A1 0) n)) V1 Y) 0 0 6 := by
  have hL2 := hL
  obtain ⟨h0, h1, hV, hnw, hw, hh, hN, hH⟩ := hL2
  have wh := wh_bd hw hh
  obtain ⟨A1, V1, hl, ka, kv, h4, hct⟩ := c_find0 (xs := xs) (L := L) (A := A) (V := V) (Y := Y) hV hw hh hnw hN hH hno
  have t1 := r_to (RC := 0) (RS := 0) (dd := 6) (g := (0, [.ref (mj_NE + 0)], [], Wd xs L A V Y, 0, 0)) (g' := (4, [.ref (mj_NE + 0)], [.ref (mj_NE + 16)], Wd xs L A V Y, 0, 0)) ok_W_fill 9999 [] rfl trivial
  have t2 := r_tr t1 (q_V ok_W_fill ok_Hollows_find se_Hollows_find (hct) rfl rfl rfl rfl rfl ⟨rfl, rfl, rfl⟩)
  have hV1 : V1 2 = iI n := by rw [kv 2 (by omega) (by omega)]; exact hV
  have k0 : A1 0 = A 0 := ka 0 (by omega) (by omega) (by omega)
  have v0 : V1 0 = iI w := by rw [kv 0 (by omega) (by omega)]; exact h0
  have t3 := r_tr t2 (r_to (g' := (18, [.ref (mj_NE + 0)], [.ref (mj_NE + 17), .ref (mj_NE + 1)], Wd xs L A1 V1 Y, 0, 0)) ok_W_fill 9999 [] rfl trivial)
  have t4 := r_tr t3 (q_V ok_W_fill ok_Land_raiseTo se_Land_raiseTo (c_raiseTo (H := H) (G := H) hV1 (by omega) (by rw [k0]; exact hH) (fun j hj => ⟨hl j hj, (hH j hj).2⟩)) rfl rfl rfl rfl rfl ⟨rfl, rfl, rfl⟩)
  have ad : ∀ k : Nat, adH H H k = 0 := fun k => by
    induction k with
    | zero => rfl
    | succ k ih => unfold adH; rw [ih]; omega
  rw [ad n] at t4
  exact ⟨A1, V1, ka, kv, ct_of ok_W_fill rfl t4 rfl rfl rfl rfl rfl⟩
theorem f_level (hno : ∀ lev, LvOK w h n H lev → ∀ j, j < n → lev j = H j) {x y : Int} (hx : 0 ≤ x ∧ x < w) (hy : 0 ≤ y ∧ y < h) (hL : LdOK w h n H A V) : ∃ (A1 : Nat → Nat → Int32) (V1 : Nat → Int32), (∀ k, k ≠ 13 → k ≠ 14 → k ≠ 15 → A1 k = A k) ∧ (∀ k, k ≠ 4 → k ≠ 5 → V1 k = V k) ∧ mj_Ct m_W_level [.ref (mj_NE + 0), .int (iI x), .int (iI y)] (Wd xs L A V Y) (some (.int (iI (H (y * w + x).toNat)))) (Wd xs L A1 V1 Y) 0 0 6 := by
  have hL2 := hL
  obtain ⟨h0, h1, hV, hnw, hw, hh, hN, hH⟩ := hL2
  have wh := wh_bd hw hh
  have nbj := num_bd hw hh hx hy
  obtain ⟨j, hj⟩ : ∃ i : Nat, (i : Int) = y * w + x := ⟨(y * w + x).toNat, by omega⟩
  have hj2 : (y * w + x).toNat = j := by omega
  have hjn : j < n := by omega
  have cj : (iI (j : Int)).toNatClampNeg = j := cl_nat (by omega)
  have ij : vp_in (iI (j : Int)) 256 := in_nat (by omega) (by omega)
  rw [hj2]
  have t1 := r_to (RC := 0) (RS := 0) (dd := 6) (g := (0, [.ref (mj_NE + 0), .int (iI x), .int (iI y)], [], Wd xs L A V Y, 0, 0)) (g' := (3, [.ref (mj_NE + 0), .int (iI x), .int (iI y)], [.int (iI y), .int (iI x), .ref (mj_NE + 0)], Wd xs L A V Y, 0, 0)) ok_W_level 9999 [] rfl trivial
  have t2 := r_tr t1 (q_V ok_W_level ok_W_checkField se_W_checkField (f_checkField hL hx hy) rfl rfl rfl rfl rfl ⟨rfl, rfl, rfl⟩)
  obtain ⟨A1, V1, hl, ka, kv, h4, hct⟩ := c_find0 (xs := xs) (L := L) (A := A) (V := V) (Y := Y) hV hw hh hnw hN hH hno
  have t3 := r_tr t2 (r_to (g' := (10, [.ref (mj_NE + 0), .int (iI x), .int (iI y)], [.ref (mj_NE + 16)], Wd xs L A V Y, 0, 0)) ok_W_level 9999 [] rfl trivial)
  have t4 := r_tr t3 (q_V ok_W_level ok_Hollows_find se_Hollows_find (hct) rfl rfl rfl rfl rfl ⟨rfl, rfl, rfl⟩)
  have hV1 : V1 2 = iI n := by rw [kv 2 (by omega) (by omega)]; exact hV
  have k0 : A1 0 = A 0 := ka 0 (by omega) (by omega) (by omega)
  have v0 : V1 0 = iI w := by rw [kv 0 (by omega) (by omega)]; exact h0
  have t5 := r_tr t4 (r_to (g' := (26, [.ref (mj_NE + 0), .int (iI x), .int (iI y)], [.int (iI y), .int (iI x), .ref (mj_NE + 1), .ref (mj_NE + 17)], Wd xs L A1 V1 Y, 0, 0)) ok_W_level 9999 [] rfl trivial)
  have t6 := r_tr t5 (q_V ok_W_level ok_Land_numberOf se_Land_numberOf (c_num v0) rfl rfl rfl rfl rfl ⟨rfl, rfl, rfl⟩)
  rw [← hj] at t6
  have t7 := r_tr t6 (r_to (g' := (30, [.ref (mj_NE + 0), .int (iI x), .int (iI y)], [.int (A1 13 (iI (j : Int)).toNatClampNeg)], Wd xs L A1 V1 Y, 0, 0)) ok_W_level 9999 [] rfl ⟨ij, trivial⟩)
  rw [cj, hl j hjn] at t7
  exact ⟨A1, V1, ka, kv, ct_of ok_W_level rfl t7 rfl rfl rfl rfl rfl⟩
theorem f_lakes (hno : ∀ lev, LvOK w h n H lev → ∀ j, j < n → lev j = H j) (hL : LdOK w h n H A V) : ∃ (A1 : Nat → Nat → Int32) (V1 : Nat → Int32), (∀ k, k ≠ 13 → k ≠ 14 → k ≠ 15 → A1 k = A k) ∧ (∀ k, k ≠ 4 → k ≠ 5 → V1 k = V k) ∧ mj_Ct m_W_lakes [.ref (mj_NE + 0)] (Wd xs L A V Y) (some (.int (iI 0))) (Wd xs L A1 V1 Y) 0 0 6 := by
  have hL2 := hL
  obtain ⟨h0, h1, hV, hnw, hw, hh, hN, hH⟩ := hL2
  have wh := wh_bd hw hh
  obtain ⟨A1, V1, hl, ka, kv, h4, hct⟩ := c_find0 (xs := xs) (L := L) (A := A) (V := V) (Y := Y) hV hw hh hnw hN hH hno
  have t1 := r_to (RC := 0) (RS := 0) (dd := 6) (g := (0, [.ref (mj_NE + 0)], [], Wd xs L A V Y, 0, 0)) (g' := (4, [.ref (mj_NE + 0)], [.ref (mj_NE + 16)], Wd xs L A V Y, 0, 0)) ok_W_lakes 9999 [] rfl trivial
  have t2 := r_tr t1 (q_V ok_W_lakes ok_Hollows_find se_Hollows_find (hct) rfl rfl rfl rfl rfl ⟨rfl, rfl, rfl⟩)
  have hV1 : V1 2 = iI n := by rw [kv 2 (by omega) (by omega)]; exact hV
  have k0 : A1 0 = A 0 := ka 0 (by omega) (by omega) (by omega)
  have v0 : V1 0 = iI w := by rw [kv 0 (by omega) (by omega)]; exact h0
  have t3 := r_tr t2 (r_to (g' := (14, [.ref (mj_NE + 0)], [.int (V1 4)], Wd xs L A1 V1 Y, 0, 0)) ok_W_lakes 9999 [] rfl trivial)
  rw [h4] at t3
  exact ⟨A1, V1, ka, kv, ct_of ok_W_lakes rfl t3 rfl rfl rfl rfl rfl⟩
theorem f_lake0 (hno : ∀ lev, LvOK w h n H lev → ∀ j, j < n → lev j = H j) {x y : Int} (hx : 0 ≤ x ∧ x < w) (hy : 0 ≤ y ∧ y < h) (hL : LdOK w h n H A V) : ∃ (A1 : Nat → Nat → Int32) (V1 : Nat → Int32), (∀ k, k ≠ 13 → k ≠ 14 → k ≠ 15 → A1 k = A k) ∧ (∀ k, k ≠ 4 → k ≠ 5 → V1 k = V k) ∧ mj_Ct m_W_lake [.ref (mj_NE + 0), .int (iI x), .int (iI y), .int (iI 0)] (Wd xs L A V Y) (some (.int (iI 0))) (Wd xs L A1 V1 Y) 0 0 6 := by
  have hL2 := hL
  obtain ⟨h0, h1, hV, hnw, hw, hh, hN, hH⟩ := hL2
  have wh := wh_bd hw hh
  have nbj := num_bd hw hh hx hy
  obtain ⟨j, hj⟩ : ∃ i : Nat, (i : Int) = y * w + x := ⟨(y * w + x).toNat, by omega⟩
  have hj2 : (y * w + x).toNat = j := by omega
  have hjn : j < n := by omega
  have cj : (iI (j : Int)).toNatClampNeg = j := cl_nat (by omega)
  have ij : vp_in (iI (j : Int)) 256 := in_nat (by omega) (by omega)
  have t1 := r_to (RC := 0) (RS := 0) (dd := 6) (g := (0, [.ref (mj_NE + 0), .int (iI x), .int (iI y), .int (iI 0), mj_u], [], Wd xs L A V Y, 0, 0)) (g' := (3, [.ref (mj_NE + 0), .int (iI x), .int (iI y), .int (iI 0), mj_u], [.int (iI y), .int (iI x), .ref (mj_NE + 0)], Wd xs L A V Y, 0, 0)) ok_W_lake 9999 [] rfl trivial
  have t2 := r_tr t1 (q_V ok_W_lake ok_W_checkField se_W_checkField (f_checkField hL hx hy) rfl rfl rfl rfl rfl ⟨rfl, rfl, rfl⟩)
  have t3 := r_tr t2 (r_to (g' := (9, [.ref (mj_NE + 0), .int (iI x), .int (iI y), .int (iI 0), mj_u], [.int (iI 1), .int (iI 0), .int (iI 0)], Wd xs L A V Y, 0, 0)) ok_W_lake 9999 [] rfl trivial)
  have t4 := r_tr t3 (q_S ok_W_lake ok_W_checkRange st_W_checkRange (f_checkRange ⟨by omega, by omega⟩ ⟨by omega, by omega⟩) rfl rfl rfl rfl ⟨rfl, rfl, rfl⟩)
  obtain ⟨A1, V1, hl, ka, kv, h4, hct⟩ := c_find0 (xs := xs) (L := L) (A := A) (V := V) (Y := Y) hV hw hh hnw hN hH hno
  have t5 := r_tr t4 (r_to (g' := (16, [.ref (mj_NE + 0), .int (iI x), .int (iI y), .int (iI 0), mj_u], [.ref (mj_NE + 16)], Wd xs L A V Y, 0, 0)) ok_W_lake 9999 [] rfl trivial)
  have t6 := r_tr t5 (q_V ok_W_lake ok_Hollows_find se_Hollows_find (hct) rfl rfl rfl rfl rfl ⟨rfl, rfl, rfl⟩)
  have hV1 : V1 2 = iI n := by rw [kv 2 (by omega) (by omega)]; exact hV
  have k0 : A1 0 = A 0 := ka 0 (by omega) (by omega) (by omega)
  have v0 : V1 0 = iI w := by rw [kv 0 (by omega) (by omega)]; exact h0
  have t7 := r_tr t6 (r_to (g' := (25, [.ref (mj_NE + 0), .int (iI x), .int (iI y), .int (iI 0), mj_u], [.int (iI y), .int (iI x), .ref (mj_NE + 1)], Wd xs L A1 V1 Y, 0, 0)) ok_W_lake 9999 [] rfl trivial)
  have t8 := r_tr t7 (q_V ok_W_lake ok_Land_numberOf se_Land_numberOf (c_num v0) rfl rfl rfl rfl rfl ⟨rfl, rfl, rfl⟩)
  rw [← hj] at t8
  have t9 := r_tr t8 (r_to (g' := (40, [.ref (mj_NE + 0), .int (iI x), .int (iI y), .int (iI 0), .int (iI j)], [.int (iI j), .ref (mj_NE + 16)], Wd xs L A1 V1 Y, 0, 0)) ok_W_lake 9999 [false] rfl ⟨fun q => q rfl, trivial⟩)
  have t10 := r_tr t9 (q_V ok_W_lake ok_Hollows_sizeOfLake se_Hollows_sizeOfLake (c_sizeOfLake0 hV1 (by omega) (by omega) (hl j hjn) (by rw [k0]; exact (hH j hjn).1) (hH j hjn).2) rfl rfl rfl rfl rfl ⟨rfl, rfl, rfl⟩)
  have t11 := r_tr t10 (r_to (g' := (55, [.ref (mj_NE + 0), .int (iI x), .int (iI y), .int (iI 0), .int (iI j)], [.int (iI 0)], Wd xs L A1 V1 Y, 0, 0)) ok_W_lake 9999 [] rfl trivial)
  exact ⟨A1, V1, ka, kv, ct_of ok_W_lake rfl t11 rfl rfl rfl rfl rfl⟩
theorem f_lake1 (hno : ∀ lev, LvOK w h n H lev → ∀ j, j < n → lev j = H j) {x y : Int} (hx : 0 ≤ x ∧ x < w) (hy : 0 ≤ y ∧ y < h) (hL : LdOK w h n H A V) : ∃ (A1 : Nat → Nat → Int32) (V1 : Nat → Int32), (∀ k, k ≠ 13 → k ≠ 14 → k ≠ 15 → A1 k = A k) ∧ (∀ k, k ≠ 4 → k ≠ 5 → V1 k = V k) ∧ mj_Ct m_W_lake [.ref (mj_NE + 0), .int (iI x), .int (iI y), .int (iI 1)] (Wd xs L A V Y) (some (.int (iI 0))) (Wd xs L A1 V1 Y) 0 0 6 := by
  have hL2 := hL
  obtain ⟨h0, h1, hV, hnw, hw, hh, hN, hH⟩ := hL2
  have wh := wh_bd hw hh
  have nbj := num_bd hw hh hx hy
  obtain ⟨j, hj⟩ : ∃ i : Nat, (i : Int) = y * w + x := ⟨(y * w + x).toNat, by omega⟩
  have hj2 : (y * w + x).toNat = j := by omega
  have hjn : j < n := by omega
  have cj : (iI (j : Int)).toNatClampNeg = j := cl_nat (by omega)
  have ij : vp_in (iI (j : Int)) 256 := in_nat (by omega) (by omega)
  have t1 := r_to (RC := 0) (RS := 0) (dd := 6) (g := (0, [.ref (mj_NE + 0), .int (iI x), .int (iI y), .int (iI 1), mj_u], [], Wd xs L A V Y, 0, 0)) (g' := (3, [.ref (mj_NE + 0), .int (iI x), .int (iI y), .int (iI 1), mj_u], [.int (iI y), .int (iI x), .ref (mj_NE + 0)], Wd xs L A V Y, 0, 0)) ok_W_lake 9999 [] rfl trivial
  have t2 := r_tr t1 (q_V ok_W_lake ok_W_checkField se_W_checkField (f_checkField hL hx hy) rfl rfl rfl rfl rfl ⟨rfl, rfl, rfl⟩)
  have t3 := r_tr t2 (r_to (g' := (9, [.ref (mj_NE + 0), .int (iI x), .int (iI y), .int (iI 1), mj_u], [.int (iI 1), .int (iI 0), .int (iI 1)], Wd xs L A V Y, 0, 0)) ok_W_lake 9999 [] rfl trivial)
  have t4 := r_tr t3 (q_S ok_W_lake ok_W_checkRange st_W_checkRange (f_checkRange ⟨by omega, by omega⟩ ⟨by omega, by omega⟩) rfl rfl rfl rfl ⟨rfl, rfl, rfl⟩)
  obtain ⟨A1, V1, hl, ka, kv, h4, hct⟩ := c_find0 (xs := xs) (L := L) (A := A) (V := V) (Y := Y) hV hw hh hnw hN hH hno
  have t5 := r_tr t4 (r_to (g' := (16, [.ref (mj_NE + 0), .int (iI x), .int (iI y), .int (iI 1), mj_u], [.ref (mj_NE + 16)], Wd xs L A V Y, 0, 0)) ok_W_lake 9999 [] rfl trivial)
  have t6 := r_tr t5 (q_V ok_W_lake ok_Hollows_find se_Hollows_find (hct) rfl rfl rfl rfl rfl ⟨rfl, rfl, rfl⟩)
  have hV1 : V1 2 = iI n := by rw [kv 2 (by omega) (by omega)]; exact hV
  have k0 : A1 0 = A 0 := ka 0 (by omega) (by omega) (by omega)
  have v0 : V1 0 = iI w := by rw [kv 0 (by omega) (by omega)]; exact h0
  have t7 := r_tr t6 (r_to (g' := (25, [.ref (mj_NE + 0), .int (iI x), .int (iI y), .int (iI 1), mj_u], [.int (iI y), .int (iI x), .ref (mj_NE + 1)], Wd xs L A1 V1 Y, 0, 0)) ok_W_lake 9999 [] rfl trivial)
  have t8 := r_tr t7 (q_V ok_W_lake ok_Land_numberOf se_Land_numberOf (c_num v0) rfl rfl rfl rfl rfl ⟨rfl, rfl, rfl⟩)
  rw [← hj] at t8
  have t9 := r_tr t8 (r_to (g' := (52, [.ref (mj_NE + 0), .int (iI x), .int (iI y), .int (iI 1), .int (iI j)], [.int (iI j), .ref (mj_NE + 16)], Wd xs L A1 V1 Y, 0, 0)) ok_W_lake 9999 [true] rfl ⟨by show ¬ (iI 1 = 0); decide, trivial⟩)
  have t10 := r_tr t9 (q_V ok_W_lake ok_Hollows_contentOfLake se_Hollows_contentOfLake (c_contentOfLake0 hV1 (by omega) (by omega) (hl j hjn) (by rw [k0]; exact (hH j hjn).1) (hH j hjn).2) rfl rfl rfl rfl rfl ⟨rfl, rfl, rfl⟩)
  exact ⟨A1, V1, ka, kv, ct_of ok_W_lake rfl t10 rfl rfl rfl rfl rfl⟩
theorem f_volume (hno : ∀ lev, LvOK w h n H lev → ∀ j, j < n → lev j = H j) (hL : LdOK w h n H A V) : ∃ (A1 : Nat → Nat → Int32) (V1 : Nat → Int32), (∀ k, k ≠ 13 → k ≠ 14 → k ≠ 15 → A1 k = A k) ∧ (∀ k, k ≠ 4 → k ≠ 5 → V1 k = V k) ∧ mj_Ct m_W_volume [.ref (mj_NE + 0)] (Wd xs L A V Y) (some (.int (iI 0))) (Wd xs L A1 V1 Y) 0 0 6 := by
  have hL2 := hL
  obtain ⟨h0, h1, hV, hnw, hw, hh, hN, hH⟩ := hL2
  have wh := wh_bd hw hh
  obtain ⟨A1, V1, hl, ka, kv, h4, hct⟩ := c_find0 (xs := xs) (L := L) (A := A) (V := V) (Y := Y) hV hw hh hnw hN hH hno
  have t1 := r_to (RC := 0) (RS := 0) (dd := 6) (g := (0, [.ref (mj_NE + 0)], [], Wd xs L A V Y, 0, 0)) (g' := (4, [.ref (mj_NE + 0)], [.ref (mj_NE + 16)], Wd xs L A V Y, 0, 0)) ok_W_volume 9999 [] rfl trivial
  have t2 := r_tr t1 (q_V ok_W_volume ok_Hollows_find se_Hollows_find (hct) rfl rfl rfl rfl rfl ⟨rfl, rfl, rfl⟩)
  have hV1 : V1 2 = iI n := by rw [kv 2 (by omega) (by omega)]; exact hV
  have k0 : A1 0 = A 0 := ka 0 (by omega) (by omega) (by omega)
  have v0 : V1 0 = iI w := by rw [kv 0 (by omega) (by omega)]; exact h0
  have t3 := r_tr t2 (r_to (g' := (11, [.ref (mj_NE + 0)], [.ref (mj_NE + 16)], Wd xs L A1 V1 Y, 0, 0)) ok_W_volume 9999 [] rfl trivial)
  have t4 := r_tr t3 (q_V ok_W_volume ok_Hollows_content se_Hollows_content (c_content (lev := H) (H := H) hV1 (by omega) hl (fun j hj => by rw [k0]; exact (hH j hj).1)) rfl rfl rfl rfl rfl ⟨rfl, rfl, rfl⟩)
  rw [smH_z n (fun j _ => Int.sub_self _)] at t4
  exact ⟨A1, V1, ka, kv, ct_of ok_W_volume rfl t4 rfl rfl rfl rfl rfl⟩
theorem f_contour {c k : Int} (hc : 0 ≤ c ∧ c ≤ 999) (hk : 0 ≤ k ∧ k ≤ 2) (hle : ∀ j, j < n → H j ≤ c) (hL : LdOK w h n H A V) : ∃ (A1 : Nat → Nat → Int32) (V1 : Nat → Int32), (∀ k, k ≠ 16 → k ≠ 17 → A1 k = A k) ∧ (∀ k, k ≠ 6 → k ≠ 7 → k ≠ 8 → V1 k = V k) ∧ mj_Ct m_W_contour [.ref (mj_NE + 0), .int (iI c), .int (iI k)] (Wd xs L A V Y) (some (.int (iI 0))) (Wd xs L A1 V1 Y) 0 0 6 := by
  have hL2 := hL
  obtain ⟨h0, h1, hV, hnw, hw, hh, hN, hH⟩ := hL2
  have wh := wh_bd hw hh
  have t1 := r_to (RC := 0) (RS := 0) (dd := 6) (g := (0, [.ref (mj_NE + 0), .int (iI c), .int (iI k)], [], Wd xs L A V Y, 0, 0)) (g' := (5, [.ref (mj_NE + 0), .int (iI c), .int (iI k)], [.int (iI 999), .int (iI 0), .int (iI c)], Wd xs L A V Y, 0, 0)) ok_W_contour 9999 [] rfl trivial
  have t2 := r_tr t1 (q_S ok_W_contour ok_W_checkRange st_W_checkRange (f_checkRange hc ⟨by omega, by omega⟩) rfl rfl rfl rfl ⟨rfl, rfl, rfl⟩)
  have t3 := r_tr t2 (r_to (g' := (11, [.ref (mj_NE + 0), .int (iI c), .int (iI k)], [.int (iI 2), .int (iI 0), .int (iI k)], Wd xs L A V Y, 0, 0)) ok_W_contour 9999 [] rfl trivial)
  have t4 := r_tr t3 (q_S ok_W_contour ok_W_checkRange st_W_checkRange (f_checkRange hk ⟨by omega, by omega⟩) rfl rfl rfl rfl ⟨rfl, rfl, rfl⟩)
  obtain ⟨A1, V1, ka, kv, v6, v7, v8, hct⟩ := c_draw0 (xs := xs) (L := L) (A := A) (V := V) (Y := Y) (c := c) h0 h1 hw hh hnw hH hc hle
  have t5 := r_tr t4 (r_to (g' := (19, [.ref (mj_NE + 0), .int (iI c), .int (iI k)], [.int (iI c), .ref (mj_NE + 22)], Wd xs L A V Y, 0, 0)) ok_W_contour 9999 [] rfl trivial)
  have t6 := r_tr t5 (q_V ok_W_contour ok_Contours_draw se_Contours_draw (hct) rfl rfl rfl rfl rfl ⟨rfl, rfl, rfl⟩)
  have t7 := r_tr t6 (r_to (g' := (27, [.ref (mj_NE + 0), .int (iI c), .int (iI k)], [.int (iI k), .ref (mj_NE + 22)], Wd xs L A1 V1 Y, 0, 0)) ok_W_contour 9999 [] rfl trivial)
  have t8 := r_tr t7 (q_V ok_W_contour ok_Contours_told se_Contours_told (c_Ctold0 v6 v7 v8 hk) rfl rfl rfl rfl rfl ⟨rfl, rfl, rfl⟩)
  exact ⟨A1, V1, ka, kv, ct_of ok_W_contour rfl t8 rfl rfl rfl rfl rfl⟩
theorem f_sees {x y u p q : Int} (hx : 0 ≤ x ∧ x < w) (hy : 0 ≤ y ∧ y < h) (hp : 0 ≤ p ∧ p < w) (hq : 0 ≤ q ∧ q < h) (hu : 0 ≤ u ∧ u ≤ 500) (hL : LdOK w h n H A V) : mj_Ct m_W_sees [.ref (mj_NE + 0), .int (iI x), .int (iI y), .int (iI u), .int (iI p), .int (iI q)] (Wd xs L A V Y) (some (.int (bI (seeB w H x y u p q)))) (Wd xs L A V Y) 0 0 6 := by
  have hL2 := hL
  obtain ⟨h0, h1, hV, hnw, hw, hh, hN, hH⟩ := hL2
  have wh := wh_bd hw hh
  have hn2 : (w * h).toNat = n := by omega
  have t1 := r_to (RC := 0) (RS := 0) (dd := 6) (g := (0, [.ref (mj_NE + 0), .int (iI x), .int (iI y), .int (iI u), .int (iI p), .int (iI q)], [], Wd xs L A V Y, 0, 0)) (g' := (3, [.ref (mj_NE + 0), .int (iI x), .int (iI y), .int (iI u), .int (iI p), .int (iI q)], [.int (iI y), .int (iI x), .ref (mj_NE + 0)], Wd xs L A V Y, 0, 0)) ok_W_sees 9999 [] rfl trivial
  have t2 := r_tr t1 (q_V ok_W_sees ok_W_checkField se_W_checkField (f_checkField hL hx hy) rfl rfl rfl rfl rfl ⟨rfl, rfl, rfl⟩)
  have t3 := r_tr t2 (r_to (g' := (11, [.ref (mj_NE + 0), .int (iI x), .int (iI y), .int (iI u), .int (iI p), .int (iI q)], [.int (iI q), .int (iI p), .ref (mj_NE + 0)], Wd xs L A V Y, 0, 0)) ok_W_sees 9999 [] rfl trivial)
  have t4 := r_tr t3 (q_V ok_W_sees ok_W_checkField se_W_checkField (f_checkField hL hp hq) rfl rfl rfl rfl rfl ⟨rfl, rfl, rfl⟩)
  have t5 := r_tr t4 (r_to (g' := (19, [.ref (mj_NE + 0), .int (iI x), .int (iI y), .int (iI u), .int (iI p), .int (iI q)], [.int (iI 500), .int (iI 0), .int (iI u)], Wd xs L A V Y, 0, 0)) ok_W_sees 9999 [] rfl trivial)
  have t6 := r_tr t5 (q_S ok_W_sees ok_W_checkRange st_W_checkRange (f_checkRange hu ⟨by omega, by omega⟩) rfl rfl rfl rfl ⟨rfl, rfl, rfl⟩)
  have t7 := r_tr t6 (r_to (g' := (33, [.ref (mj_NE + 0), .int (iI x), .int (iI y), .int (iI u), .int (iI p), .int (iI q)], [.int (iI q), .int (iI p), .int (iI u), .int (iI y), .int (iI x), .ref (mj_NE + 26)], Wd xs L A V Y, 0, 0)) ok_W_sees 9999 [] rfl trivial)
  have t8 := r_tr t7 (q_V ok_W_sees ok_Sight_reaches se_Sight_reaches (c_reaches h0 hw hh (by rw [hn2]; exact hH) hx hy hp hq hu) rfl rfl rfl rfl rfl ⟨rfl, rfl, rfl⟩)
  exact ct_of ok_W_sees rfl t8 rfl rfl ⟨rfl, bI_nar _⟩ rfl rfl
theorem f_seen {x y u : Int} (hx : 0 ≤ x ∧ x < w) (hy : 0 ≤ y ∧ y < h) (hu : 0 ≤ u ∧ u ≤ 500) (hL : LdOK w h n H A V) : mj_Ct m_W_seen [.ref (mj_NE + 0), .int (iI x), .int (iI y), .int (iI u)] (Wd xs L A V Y) (some (.int (iI (cnt (fun j => seeB w H x y u ((j : Int) % w) ((j : Int) / w)) n)))) (Wd xs L A V Y) 0 0 6 := by
  have hL2 := hL
  obtain ⟨h0, h1, hV, hnw, hw, hh, hN, hH⟩ := hL2
  have wh := wh_bd hw hh
  have hn2 : (w * h).toNat = n := by omega
  have t1 := r_to (RC := 0) (RS := 0) (dd := 6) (g := (0, [.ref (mj_NE + 0), .int (iI x), .int (iI y), .int (iI u)], [], Wd xs L A V Y, 0, 0)) (g' := (3, [.ref (mj_NE + 0), .int (iI x), .int (iI y), .int (iI u)], [.int (iI y), .int (iI x), .ref (mj_NE + 0)], Wd xs L A V Y, 0, 0)) ok_W_seen 9999 [] rfl trivial
  have t2 := r_tr t1 (q_V ok_W_seen ok_W_checkField se_W_checkField (f_checkField hL hx hy) rfl rfl rfl rfl rfl ⟨rfl, rfl, rfl⟩)
  have t3 := r_tr t2 (r_to (g' := (11, [.ref (mj_NE + 0), .int (iI x), .int (iI y), .int (iI u)], [.int (iI 500), .int (iI 0), .int (iI u)], Wd xs L A V Y, 0, 0)) ok_W_seen 9999 [] rfl trivial)
  have t4 := r_tr t3 (q_S ok_W_seen ok_W_checkRange st_W_checkRange (f_checkRange hu ⟨by omega, by omega⟩) rfl rfl rfl rfl ⟨rfl, rfl, rfl⟩)
  have t5 := r_tr t4 (r_to (g' := (21, [.ref (mj_NE + 0), .int (iI x), .int (iI y), .int (iI u)], [.int (iI u), .int (iI y), .int (iI x), .ref (mj_NE + 26)], Wd xs L A V Y, 0, 0)) ok_W_seen 9999 [] rfl trivial)
  have t6 := r_tr t5 (q_V ok_W_seen ok_Sight_countFrom se_Sight_countFrom (c_countFrom h0 h1 hw hh (by rw [hn2]; exact hH) hx hy hu) rfl rfl rfl rfl rfl ⟨rfl, rfl, rfl⟩)
  rw [hn2] at t6
  exact ct_of ok_W_seen rfl t6 rfl rfl rfl rfl rfl
theorem f_takes {x y p q : Int} (hx : 0 ≤ x ∧ x < w) (hy : 0 ≤ y ∧ y < h) (hp : 0 ≤ p ∧ p < w) (hq : 0 ≤ q ∧ q < h) (hL : LdOK w h n H A V) : ∃ (A1 : Nat → Nat → Int32) (V1 : Nat → Int32) (T : Nat → Int), WyOK w h n (y * w + x).toNat H T ∧ (∀ k, k ≠ 18 → k ≠ 19 → A1 k = A k) ∧ (∀ k, k ≠ 9 → V1 k = V k) ∧ mj_Ct m_W_takes [.ref (mj_NE + 0), .int (iI x), .int (iI y), .int (iI p), .int (iI q)] (Wd xs L A V Y) (some (.int (iI (T (q * w + p).toNat)))) (Wd xs L A1 V1 Y) 0 0 6 := by
  have hL2 := hL
  obtain ⟨h0, h1, hV, hnw, hw, hh, hN, hH⟩ := hL2
  have wh := wh_bd hw hh
  have nbj := num_bd hw hh hx hy
  obtain ⟨j, hj⟩ : ∃ i : Nat, (i : Int) = y * w + x := ⟨(y * w + x).toNat, by omega⟩
  have hj2 : (y * w + x).toNat = j := by omega
  have hjn : j < n := by omega
  have cj : (iI (j : Int)).toNatClampNeg = j := cl_nat (by omega)
  have ij : vp_in (iI (j : Int)) 256 := in_nat (by omega) (by omega)
  rw [hj2]
  have nbi := num_bd hw hh hp hq
  obtain ⟨i, hi⟩ : ∃ i : Nat, (i : Int) = q * w + p := ⟨(q * w + p).toNat, by omega⟩
  have hi2 : (q * w + p).toNat = i := by omega
  have hin : i < n := by omega
  have ci : (iI (i : Int)).toNatClampNeg = i := cl_nat (by omega)
  have ii : vp_in (iI (i : Int)) 256 := in_nat (by omega) (by omega)
  rw [hi2]
  have t1 := r_to (RC := 0) (RS := 0) (dd := 6) (g := (0, [.ref (mj_NE + 0), .int (iI x), .int (iI y), .int (iI p), .int (iI q)], [], Wd xs L A V Y, 0, 0)) (g' := (3, [.ref (mj_NE + 0), .int (iI x), .int (iI y), .int (iI p), .int (iI q)], [.int (iI y), .int (iI x), .ref (mj_NE + 0)], Wd xs L A V Y, 0, 0)) ok_W_takes 9999 [] rfl trivial
  have t2 := r_tr t1 (q_V ok_W_takes ok_W_checkField se_W_checkField (f_checkField hL hx hy) rfl rfl rfl rfl rfl ⟨rfl, rfl, rfl⟩)
  have t3 := r_tr t2 (r_to (g' := (10, [.ref (mj_NE + 0), .int (iI x), .int (iI y), .int (iI p), .int (iI q)], [.int (iI q), .int (iI p), .ref (mj_NE + 0)], Wd xs L A V Y, 0, 0)) ok_W_takes 9999 [] rfl trivial)
  have t4 := r_tr t3 (q_V ok_W_takes ok_W_checkField se_W_checkField (f_checkField hL hp hq) rfl rfl rfl rfl rfl ⟨rfl, rfl, rfl⟩)
  have t5 := r_tr t4 (r_to (g' := (23, [.ref (mj_NE + 0), .int (iI x), .int (iI y), .int (iI p), .int (iI q)], [.int (iI y), .int (iI x), .ref (mj_NE + 1), .ref (mj_NE + 27)], Wd xs L A V Y, 0, 0)) ok_W_takes 9999 [] rfl trivial)
  have t6 := r_tr t5 (q_V ok_W_takes ok_Land_numberOf se_Land_numberOf (c_num h0) rfl rfl rfl rfl rfl ⟨rfl, rfl, rfl⟩)
  rw [← hj] at t6
  obtain ⟨A1, V1, T, hT, hTa, ka, kv, hct⟩ := c_spreadFrom (xs := xs) (L := L) (A := A) (V := V) (Y := Y) hjn hV hw hh hnw hN hH
  have t7 := r_tr t6 (q_V ok_W_takes ok_Ways_spreadFrom se_Ways_spreadFrom (hct) rfl rfl rfl rfl rfl ⟨rfl, rfl, rfl⟩)
  have t8 := r_tr t7 (r_to (g' := (43, [.ref (mj_NE + 0), .int (iI x), .int (iI y), .int (iI p), .int (iI q)], [.int (iI q), .int (iI p), .ref (mj_NE + 1), .ref (mj_NE + 28)], Wd xs L A1 V1 Y, 0, 0)) ok_W_takes 9999 [] rfl trivial)
  have t9 := r_tr t8 (q_V ok_W_takes ok_Land_numberOf se_Land_numberOf (c_num (by rw [kv 0 (by omega)]; exact h0)) rfl rfl rfl rfl rfl ⟨rfl, rfl, rfl⟩)
  rw [← hi] at t9
  have t10 := r_tr t9 (r_to (g' := (47, [.ref (mj_NE + 0), .int (iI x), .int (iI y), .int (iI p), .int (iI q)], [.int (A1 18 (iI (i : Int)).toNatClampNeg)], Wd xs L A1 V1 Y, 0, 0)) ok_W_takes 9999 [] rfl ⟨ii, trivial⟩)
  rw [ci, hTa i hin] at t10
  exact ⟨A1, V1, T, hT, ka, kv, ct_of ok_W_takes rfl t10 rfl rfl rfl rfl rfl⟩
theorem f_way {x y p q : Int} {b : Nat} (hx : 0 ≤ x ∧ x < w) (hy : 0 ≤ y ∧ y < h) (hp : 0 ≤ p ∧ p < w) (hq : 0 ≤ q ∧ q < h) (hb : b ≤ 2147483647) (hL : LdOK w h n H A V) : ∃ (A1 : Nat → Nat → Int32) (V1 : Nat → Int32) (T : Nat → Int), WyOK w h n (y * w + x).toNat H T ∧ (∀ k, k ≠ 18 → k ≠ 19 → A1 k = A k) ∧ (∀ k, k ≠ 9 → V1 k = V k) ∧ mj_Ct m_W_way [.ref (mj_NE + 0), .int (iI x), .int (iI y), .int (iI p), .int (iI q), .int (iI (b : Int))] (Wd xs L A V Y) (some (.int (iI (if n ≤ b then -1 else gbF w h (y * w + x).toNat H T (q * w + p).toNat b)))) (Wd xs L A1 V1 Y) 0 0 6 := by
  have hL2 := hL
  obtain ⟨h0, h1, hV, hnw, hw, hh, hN, hH⟩ := hL2
  have wh := wh_bd hw hh
  have nbj := num_bd hw hh hx hy
  obtain ⟨j, hj⟩ : ∃ i : Nat, (i : Int) = y * w + x := ⟨(y * w + x).toNat, by omega⟩
  have hj2 : (y * w + x).toNat = j := by omega
  have hjn : j < n := by omega
  have cj : (iI (j : Int)).toNatClampNeg = j := cl_nat (by omega)
  have ij : vp_in (iI (j : Int)) 256 := in_nat (by omega) (by omega)
  rw [hj2]
  have nbi := num_bd hw hh hp hq
  obtain ⟨i, hi⟩ : ∃ i : Nat, (i : Int) = q * w + p := ⟨(q * w + p).toNat, by omega⟩
  have hi2 : (q * w + p).toNat = i := by omega
  have hin : i < n := by omega
  have ci : (iI (i : Int)).toNatClampNeg = i := cl_nat (by omega)
  have ii : vp_in (iI (i : Int)) 256 := in_nat (by omega) (by omega)
  rw [hi2]
  have t1 := r_to (RC := 0) (RS := 0) (dd := 6) (g := (0, [.ref (mj_NE + 0), .int (iI x), .int (iI y), .int (iI p), .int (iI q), .int (iI (b : Int)), mj_u], [], Wd xs L A V Y, 0, 0)) (g' := (3, [.ref (mj_NE + 0), .int (iI x), .int (iI y), .int (iI p), .int (iI q), .int (iI (b : Int)), mj_u], [.int (iI y), .int (iI x), .ref (mj_NE + 0)], Wd xs L A V Y, 0, 0)) ok_W_way 9999 [] rfl trivial
  have t2 := r_tr t1 (q_V ok_W_way ok_W_checkField se_W_checkField (f_checkField hL hx hy) rfl rfl rfl rfl rfl ⟨rfl, rfl, rfl⟩)
  have t3 := r_tr t2 (r_to (g' := (10, [.ref (mj_NE + 0), .int (iI x), .int (iI y), .int (iI p), .int (iI q), .int (iI (b : Int)), mj_u], [.int (iI q), .int (iI p), .ref (mj_NE + 0)], Wd xs L A V Y, 0, 0)) ok_W_way 9999 [] rfl trivial)
  have t4 := r_tr t3 (q_V ok_W_way ok_W_checkField se_W_checkField (f_checkField hL hp hq) rfl rfl rfl rfl rfl ⟨rfl, rfl, rfl⟩)
  have t5 := r_tr t4 (r_to (g' := (34, [.ref (mj_NE + 0), .int (iI x), .int (iI y), .int (iI p), .int (iI q), .int (iI (b : Int)), mj_u], [.int (iI y), .int (iI x), .ref (mj_NE + 1)], Wd xs L A V Y, 0, 0)) ok_W_way 9999 [true] rfl ⟨by show iI 0 ≤ iI (b : Int); rw [iI_le ⟨by omega, by omega⟩ ⟨by omega, by omega⟩]; omega, trivial⟩)
  have t6 := r_tr t5 (q_V ok_W_way ok_Land_numberOf se_Land_numberOf (c_num h0) rfl rfl rfl rfl rfl ⟨rfl, rfl, rfl⟩)
  rw [← hj] at t6
  have t7 := r_tr t6 (r_to (g' := (45, [.ref (mj_NE + 0), .int (iI x), .int (iI y), .int (iI p), .int (iI q), .int (iI (b : Int)), .int (iI (j : Int))], [.int (iI (j : Int)), .ref (mj_NE + 27)], Wd xs L A V Y, 0, 0)) ok_W_way 9999 [] rfl trivial)
  obtain ⟨A1, V1, T, hT, hTa, ka, kv, hct⟩ := c_spreadFrom (xs := xs) (L := L) (A := A) (V := V) (Y := Y) hjn hV hw hh hnw hN hH
  have t8 := r_tr t7 (q_V ok_W_way ok_Ways_spreadFrom se_Ways_spreadFrom (hct) rfl rfl rfl rfl rfl ⟨rfl, rfl, rfl⟩)
  have t9 := r_tr t8 (r_to (g' := (61, [.ref (mj_NE + 0), .int (iI x), .int (iI y), .int (iI p), .int (iI q), .int (iI (b : Int)), .int (iI (j : Int))], [.int (iI q), .int (iI p), .ref (mj_NE + 1), .int (iI (j : Int)), .ref (mj_NE + 27)], Wd xs L A1 V1 Y, 0, 0)) ok_W_way 9999 [] rfl trivial)
  have t10 := r_tr t9 (q_V ok_W_way ok_Land_numberOf se_Land_numberOf (c_num (by rw [kv 0 (by omega)]; exact h0)) rfl rfl rfl rfl rfl ⟨rfl, rfl, rfl⟩)
  rw [← hi] at t10
  have t11 := r_tr t10 (r_to (g' := (66, [.ref (mj_NE + 0), .int (iI x), .int (iI y), .int (iI p), .int (iI q), .int (iI (b : Int)), .int (iI (j : Int))], [.int (iI (b : Int)), .int (iI (i : Int)), .int (iI (j : Int)), .ref (mj_NE + 27)], Wd xs L A1 V1 Y, 0, 0)) ok_W_way 9999 [] rfl trivial)
  have t12 := r_tr t11 (q_V ok_W_way ok_Ways_goBack se_Ways_goBack (c_goBack (T := T) (by rw [kv 2 (by omega)]; exact hV) hw hh hnw (by rw [ka 2 (by omega) (by omega)]; exact hN) (by rw [ka 0 (by omega) (by omega)]; exact hH) (fun j hj => ⟨hTa j hj, (hT.2.1 j hj).1, (hT.2.1 j hj).2.1⟩) hjn hin hb) rfl rfl rfl rfl rfl ⟨rfl, rfl, rfl⟩)
  exact ⟨A1, V1, T, hT, ka, kv, ct_of ok_W_way rfl t12 rfl rfl rfl rfl rfl⟩
theorem f_volumeWith {x y z : Int} (hx : 0 ≤ x ∧ x < w) (hy : 0 ≤ y ∧ y < h) (hz : 0 ≤ z ∧ z ≤ 999) (hno : ∀ lev, LvOK w h n (supI H (y * w + x).toNat z) lev → ∀ j, j < n → lev j = supI H (y * w + x).toNat z j) (hL : LdOK w h n H A V) : ∃ (A1 : Nat → Nat → Int32) (V1 : Nat → Int32), True ∧ mj_Ct m_W_volumeWith [.ref (mj_NE + 0), .int (iI x), .int (iI y), .int (iI z)] (Wd xs L A V Y) (some (.int (iI 0))) (Wd xs L A1 V1 Y) 0 0 6 := by
  have hL2 := hL
  obtain ⟨h0, h1, hV, hnw, hw, hh, hN, hH⟩ := hL2
  have wh := wh_bd hw hh
  have nbj := num_bd hw hh hx hy
  obtain ⟨j, hj⟩ : ∃ i : Nat, (i : Int) = y * w + x := ⟨(y * w + x).toNat, by omega⟩
  have hj2 : (y * w + x).toNat = j := by omega
  have hjn : j < n := by omega
  have cj : (iI (j : Int)).toNatClampNeg = j := cl_nat (by omega)
  have ij : vp_in (iI (j : Int)) 256 := in_nat (by omega) (by omega)
  have t1 := r_to (RC := 0) (RS := 0) (dd := 6) (g := (0, [.ref (mj_NE + 0), .int (iI x), .int (iI y), .int (iI z), mj_u, mj_u, mj_u], [], Wd xs L A V Y, 0, 0)) (g' := (3, [.ref (mj_NE + 0), .int (iI x), .int (iI y), .int (iI z), mj_u, mj_u, mj_u], [.int (iI y), .int (iI x), .ref (mj_NE + 0)], Wd xs L A V Y, 0, 0)) ok_W_volumeWith 9999 [] rfl trivial
  have t2 := r_tr t1 (q_V ok_W_volumeWith ok_W_checkField se_W_checkField (f_checkField hL hx hy) rfl rfl rfl rfl rfl ⟨rfl, rfl, rfl⟩)
  have t3 := r_tr t2 (r_to (g' := (11, [.ref (mj_NE + 0), .int (iI x), .int (iI y), .int (iI z), mj_u, mj_u, mj_u], [.int (iI 999), .int (iI 0), .int (iI z)], Wd xs L A V Y, 0, 0)) ok_W_volumeWith 9999 [] rfl trivial)
  have t4 := r_tr t3 (q_S ok_W_volumeWith ok_W_checkRange st_W_checkRange (f_checkRange hz ⟨by omega, by omega⟩) rfl rfl rfl rfl ⟨rfl, rfl, rfl⟩)
  have t5 := r_tr t4 (r_to (g' := (20, [.ref (mj_NE + 0), .int (iI x), .int (iI y), .int (iI z), mj_u, mj_u, mj_u], [.int (iI y), .int (iI x), .ref (mj_NE + 1)], Wd xs L A V Y, 0, 0)) ok_W_volumeWith 9999 [] rfl trivial)
  have t6 := r_tr t5 (q_V ok_W_volumeWith ok_Land_numberOf se_Land_numberOf (c_num h0) rfl rfl rfl rfl rfl ⟨rfl, rfl, rfl⟩)
  rw [← hj] at t6
  have t7 := r_tr t6 (r_to (g' := (32, [.ref (mj_NE + 0), .int (iI x), .int (iI y), .int (iI z), .int (iI (j : Int)), mj_u, mj_u], [.int (iI z), .int (iI (j : Int)), .ref (mj_NE + 1)], Wd xs L A V Y, 0, 0)) ok_W_volumeWith 9999 [] rfl trivial)
  have t8 := r_tr t7 (q_V ok_W_volumeWith ok_Land_exchange se_Land_exchange (c_exchange (i := (j : Int)) ⟨by omega, by omega⟩ ⟨by omega, by omega⟩) rfl rfl rfl rfl rfl ⟨rfl, rfl, rfl⟩)
  rw [Int.toNat_natCast, (hH j hjn).1, clH_id hz] at t8
  obtain ⟨g0, g1, g2, g3, g4, g5, g6, g7⟩ := LdOK.set (j := j) hL hz
  rw [hj2] at hno
  obtain ⟨A1, V1, hl, ka, kv, h4, hct⟩ := c_find0 (xs := xs) (L := L) (A := wA A 0 (upd (A 0) j (iI z))) (V := V) (Y := Y) g2 hw hh hnw g6 g7 hno
  have t9 := r_tr t8 (r_to (g' := (41, [.ref (mj_NE + 0), .int (iI x), .int (iI y), .int (iI z), .int (iI (j : Int)), .int (iI (H j)), mj_u], [.ref (mj_NE + 16)], Wd xs L (wA A 0 (upd (A 0) j (iI z))) V Y, 0, 0)) ok_W_volumeWith 9999 [] rfl trivial)
  have t10 := r_tr t9 (q_V ok_W_volumeWith ok_Hollows_find se_Hollows_find (hct) rfl rfl rfl rfl rfl ⟨rfl, rfl, rfl⟩)
  have hV1 : V1 2 = iI n := by rw [kv 2 (by omega) (by omega)]; exact hV
  have t11 := r_tr t10 (r_to (g' := (48, [.ref (mj_NE + 0), .int (iI x), .int (iI y), .int (iI z), .int (iI (j : Int)), .int (iI (H j)), mj_u], [.ref (mj_NE + 16)], Wd xs L A1 V1 Y, 0, 0)) ok_W_volumeWith 9999 [] rfl trivial)
  have t12 := r_tr t11 (q_V ok_W_volumeWith ok_Hollows_content se_Hollows_content (c_content (lev := supI H j z) (H := supI H j z) hV1 (by omega) hl (fun i hi => by rw [ka 0 (by omega) (by omega) (by omega)]; exact (g7 i hi).1)) rfl rfl rfl rfl rfl ⟨rfl, rfl, rfl⟩)
  rw [smH_z n (fun i _ => Int.sub_self _)] at t12
  have t13 := r_tr t12 (r_to (g' := (61, [.ref (mj_NE + 0), .int (iI x), .int (iI y), .int (iI z), .int (iI (j : Int)), .int (iI (H j)), .int (iI 0)], [.int (iI (H j)), .int (iI (j : Int)), .ref (mj_NE + 1)], Wd xs L A1 V1 Y, 0, 0)) ok_W_volumeWith 9999 [] rfl trivial)
  have t14 := r_tr t13 (q_V ok_W_volumeWith ok_Land_exchange se_Land_exchange (c_exchange (i := (j : Int)) ⟨by omega, by omega⟩ ⟨by have := hH j hjn; omega, by have := hH j hjn; omega⟩) rfl rfl rfl rfl rfl ⟨rfl, rfl, rfl⟩)
  rw [Int.toNat_natCast] at t14
  have t15 := r_tr t14 (r_to (g' := (67, [.ref (mj_NE + 0), .int (iI x), .int (iI y), .int (iI z), .int (iI (j : Int)), .int (iI (H j)), .int (iI 0)], [.int (iI 0)], Wd xs L (wA A1 0 (upd (A1 0) j (iI (clH (H j))))) V1 Y, 0, 0)) ok_W_volumeWith 9999 [] rfl trivial)
  exact ⟨_, _, trivial, ct_of ok_W_volumeWith rfl t15 rfl rfl rfl rfl rfl⟩
end FACE
