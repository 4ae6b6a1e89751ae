/-! THE LAW: the double loop -/
section ELP
variable {xs : Nat → Int32} {L : Nat} {w h : Int} {n : Nat} {H : Nat → Int} {b : Int} {hp : mj_H} {sm : Int64} {K : Nat} {lev : Nat → Int}
theorem l_run (hb : 1 ≤ b ∧ b ≤ 100) (hW : Wst xs L w h n H b hp) : ∃ A1 : Nat → Nat → Int32, RunOK w h n H b A1 (odF w h n H) := by
  obtain ⟨A, V, rfl, ⟨h0, h1, hV, hnw, hw, hh, hN, hH⟩, hbr⟩ := hW
  obtain ⟨A1, V1, hR, -⟩ := c_runX (xs := xs) (L := L) (A := A) (V := V) (Y := []) (b := b) hV hw hh hnw hN hH ⟨by omega, by omega⟩
  exact ⟨A1, hR⟩
set_option maxHeartbeats 2000000 in
theorem e_body (hK : K = 512) (hb : 1 ≤ b ∧ b ≤ 100) (hLv : LvOK w h n H lev) {x y : Int} {j : Nat} (hx : 0 ≤ x ∧ x < w) (hy : 0 ≤ y ∧ y < h) (hj : (j : Int) = y * w + x) (hW : Wst xs L w h n H b hp) : ∃ hp', Wst xs L w h n H b hp' ∧ RL (236, [.ref 3, .ref (mj_NE + 0), .int (iI w), .int (iI h), .long sm, mj_u, .int (iI (smH (fun v => if nxF w h H v < 0 then (pdK b (nxF w h H) (odF w h n H) n).1 v else 0) j)), .int (iI (smH (fun v => lev v - H v) j)), .int (iI (cnt (fun v => decide (drF w h H v = 8)) j + cnt (fun v => decide (drF w h H v = 9)) j)), .int (iI (cnt (fun v => decide (drF w h H v = 9)) j)), .int (iI (mxH (pdK b (nxF w h H) (odF w h n H) n).2.1 j)), .int (iI y), .int (iI x), mj_u, mj_u, mj_u, mj_u, mj_u, mj_u, mj_u, mj_u], [], hp, 32, 7983) (236, [.ref 3, .ref (mj_NE + 0), .int (iI w), .int (iI h), .long sm, mj_u, .int (iI (smH (fun v => if nxF w h H v < 0 then (pdK b (nxF w h H) (odF w h n H) n).1 v else 0) (j + 1))), .int (iI (smH (fun v => lev v - H v) (j + 1))), .int (iI (cnt (fun v => decide (drF w h H v = 8)) (j + 1) + cnt (fun v => decide (drF w h H v = 9)) (j + 1))), .int (iI (cnt (fun v => decide (drF w h H v = 9)) (j + 1))), .int (iI (mxH (pdK b (nxF w h H) (odF w h n H) n).2.1 (j + 1))), .int (iI y), .int (iI (x + 1)), mj_u, mj_u, mj_u, mj_u, mj_u, mj_u, mj_u, mj_u], [], hp', 32, 7983) := by
  obtain ⟨hnw, hw, hh, hH2⟩ := hW.ld
  have wh := wh_bd hw hh
  obtain ⟨q1, q2, q3⟩ := nx_ok (w := w) (h := h) (H := H) hw hh hnw hH2
  have nbj := num_bd hw hh hx hy
  have hjn : j < n := by omega
  have hj2 : (y * w + x).toNat = j := by omega
  obtain ⟨A0, hR⟩ := l_run hb hW
  have hb13 := hH2 j hjn
  obtain ⟨hl1, hl2, -⟩ := hLv.1 j hjn
  have hle := hLv.2.1 j hjn
  obtain ⟨dx1, dx2⟩ := dr_nx (w := w) (h := h) (H := H) (i := j)
  have d3 := q3 j hjn
  obtain ⟨-, -, en1, en2, en3, en4, en5, en6⟩ := run_en hR q1 q2 hjn
  obtain ⟨⟨p1, p2⟩, ⟨p3, p4⟩, -⟩ := (pd_inv (b := b) hR.1 q1 n (Nat.le_refl _)).2 j hjn
  have hpd := (pd_inv (b := b) hR.1 q1 n (Nat.le_refl _)).2
  have mn := mnH_le (H := H) n j hjn
  have mx := mxH_ge (H := H) n j hjn
  have t2 : toldH w h H n 2 = mnH H n := rfl
  have t3 : toldH w h H n 3 = mxH H n := rfl
  have tb2 := toldH_bd (n := n) (H := H) (k := 2) hw hh (by omega) hH2
  have tb3 := toldH_bd (n := n) (H := H) (k := 3) hw hh (by omega) hH2
  have rb := mxH_bd (H := (pdK b (nxF w h H) (odF w h n H) n).2.1) (N := n) (fun i hi => by have := (hpd i hi).2.1; omega) j (by omega)
  obtain ⟨z17, hz⟩ : ∃ z : Int, z = (if edgeB w h j = true then 1 else 0) := ⟨_, rfl⟩
  have z1 : edgeB w h j = true → z17 = 1 := fun q => by rw [hz, if_pos q]
  have z0 : ¬ (edgeB w h j = true) → z17 = 0 := fun q => by rw [hz, if_neg q]
  have z2 : z17 = 0 ∨ z17 = 1 := by
    by_cases q : edgeB w h j = true
    · exact Or.inr (z1 q)
    · exact Or.inl (z0 q)
  have z3 : z17 = 1 → edgeB w h j = true := fun q => by
    by_cases r : edgeB w h j = true
    · exact r
    · have := z0 r
      omega
  have e8 : drF w h H j = 8 → edgeB w h j = true := fun q => by
    have h8 := dx2 (by omega)
    by_cases r : edgeB w h j = true
    · exact r
    · rw [if_neg r] at h8
      omega
  have e9 : drF w h H j = 9 → ¬ (edgeB w h j = true) := fun q r => by
    have h8 := dx2 (by omega)
    rw [if_pos r] at h8
    omega
  have hen : H (enF (nxF w h H) n j) ≤ H j := by
    rcases Int.lt_or_le (nxF w h H j) 0 with q | q
    · rw [(en3 q).1]; exact Int.le_refl _
    · exact Int.le_of_lt (en4 q).1
  have hen0 := hH2 _ en1
  have hed := q3 _ en1
  have hed8 : 8 ≤ drF w h H (enF (nxF w h H) n j) := (dr_nx (w := w) (h := h) (H := H)).1.mpr en2
  obtain ⟨hp1, W1, s1⟩ := e_1 (sm := sm) (v6 := smH (fun v => if nxF w h H v < 0 then (pdK b (nxF w h H) (odF w h n H) n).1 v else 0) j) (v7 := smH (fun v => lev v - H v) j) (v8 := cnt (fun v => decide (drF w h H v = 8)) j + cnt (fun v => decide (drF w h H v = 9)) j) (v9 := cnt (fun v => decide (drF w h H v = 9)) j) (v10 := mxH (pdK b (nxF w h H) (odF w h n H) n).2.1 j) (v11 := y) (v12 := x) hw hh hK hb hLv hx hy hj2 hW
  have s2 := r_tr s1 (e_2 (sm := sm) (v6 := smH (fun v => if nxF w h H v < 0 then (pdK b (nxF w h H) (odF w h n H) n).1 v else 0) j) (v7 := smH (fun v => lev v - H v) j) (v8 := cnt (fun v => decide (drF w h H v = 8)) j + cnt (fun v => decide (drF w h H v = 9)) j) (v9 := cnt (fun v => decide (drF w h H v = 9)) j) (v10 := mxH (pdK b (nxF w h H) (odF w h n H) n).2.1 j) (v11 := y) (v12 := x) (v13 := H j) (v14 := lev j) (v15 := drF w h H j) (v16 := (enF (nxF w h H) n j : Int)) hw hh hx hy hj)
  rw [← hz] at s2
  have s3 := r_tr s2 (e_3a (sm := sm) (v6 := smH (fun v => if nxF w h H v < 0 then (pdK b (nxF w h H) (odF w h n H) n).1 v else 0) j) (v7 := smH (fun v => lev v - H v) j) (v8 := cnt (fun v => decide (drF w h H v = 8)) j + cnt (fun v => decide (drF w h H v = 9)) j) (v9 := cnt (fun v => decide (drF w h H v = 9)) j) (v10 := mxH (pdK b (nxF w h H) (odF w h n H) n).2.1 j) (v11 := y) (v12 := x) (v13 := H j) (v14 := lev j) (v15 := drF w h H j) (v16 := (enF (nxF w h H) n j : Int)) (v17 := z17) ⟨hb13.1, hl1, hl2⟩ z2 (fun q => hle (z3 q)))
  obtain ⟨hp2, W2, r4⟩ := e_3b (sm := sm) (v6 := smH (fun v => if nxF w h H v < 0 then (pdK b (nxF w h H) (odF w h n H) n).1 v else 0) j) (v7 := smH (fun v => lev v - H v) j) (v8 := cnt (fun v => decide (drF w h H v = 8)) j + cnt (fun v => decide (drF w h H v = 9)) j) (v9 := cnt (fun v => decide (drF w h H v = 9)) j) (v10 := mxH (pdK b (nxF w h H) (odF w h n H) n).2.1 j) (v11 := y) (v12 := x) (v13 := H j) (v14 := lev j) (v15 := drF w h H j) (v16 := (enF (nxF w h H) n j : Int)) (v17 := z17) hb13 ⟨tb2.1, by omega⟩ ⟨by omega, tb3.2⟩ W1
  have s4 := r_tr s3 r4
  have s5 := r_tr s4 (e_3c (sm := sm) (v6 := smH (fun v => if nxF w h H v < 0 then (pdK b (nxF w h H) (odF w h n H) n).1 v else 0) j) (v7 := smH (fun v => lev v - H v) j) (v8 := cnt (fun v => decide (drF w h H v = 8)) j + cnt (fun v => decide (drF w h H v = 9)) j) (v9 := cnt (fun v => decide (drF w h H v = 9)) j) (v10 := mxH (pdK b (nxF w h H) (odF w h n H) n).2.1 j) (v11 := y) (v12 := x) (v13 := H j) (v14 := lev j) (v15 := drF w h H j) (v16 := (enF (nxF w h H) n j : Int)) (v17 := z17) d3 z2 (fun q => z0 (e9 q)) (fun q => z1 (e8 q)))
  obtain ⟨hp3, W3, r6⟩ := e_3d (sm := sm) (v6 := smH (fun v => if nxF w h H v < 0 then (pdK b (nxF w h H) (odF w h n H) n).1 v else 0) j) (v7 := smH (fun v => lev v - H v) j) (v8 := cnt (fun v => decide (drF w h H v = 8)) j + cnt (fun v => decide (drF w h H v = 9)) j) (v9 := cnt (fun v => decide (drF w h H v = 9)) j) (v10 := mxH (pdK b (nxF w h H) (odF w h n H) n).2.1 j) (v11 := y) (v12 := x) (v13 := H j) (v14 := lev j) (v15 := drF w h H j) (v16 := (enF (nxF w h H) n j : Int)) (v17 := z17) hb hx hy hj2 d3 ⟨en5, by omega⟩ ⟨by omega, by omega⟩ ⟨by omega, by omega⟩ (fun q => by
    obtain ⟨f1, f2⟩ := en3 (dx1.mp q)
    exact ⟨f2, by rw [f1]; exact hj⟩) (fun q => by
    have hn0 : 0 ≤ nxF w h H j := by
      rcases Int.lt_or_le (nxF w h H j) 0 with r | r
      · have := dx1.mpr r
        omega
      · exact r
    obtain ⟨f1, f2⟩ := en4 hn0
    refine ⟨by omega, fun r => ?_⟩
    have : enF (nxF w h H) n j = j := by omega
    rw [this] at f1
    omega) W2
  have s6 := r_tr s5 r6
  have fa : smH (fun v => if nxF w h H v < 0 then (pdK b (nxF w h H) (odF w h n H) n).1 v else 0) (j + 1) = smH (fun v => if nxF w h H v < 0 then (pdK b (nxF w h H) (odF w h n H) n).1 v else 0) j + (if nxF w h H j < 0 then (pdK b (nxF w h H) (odF w h n H) n).1 j else 0) := rfl
  have f8 : cnt (fun v => decide (drF w h H v = 8)) (j + 1) = cnt (fun v => decide (drF w h H v = 8)) j + (if decide (drF w h H j = 8) = true then 1 else 0) := rfl
  have f9 : cnt (fun v => decide (drF w h H v = 9)) (j + 1) = cnt (fun v => decide (drF w h H v = 9)) j + (if decide (drF w h H j = 9) = true then 1 else 0) := rfl
  obtain ⟨hp4, W4, r7⟩ := e_4a (u6 := smH (fun v => if nxF w h H v < 0 then (pdK b (nxF w h H) (odF w h n H) n).1 v else 0) (j + 1)) (u8 := cnt (fun v => decide (drF w h H v = 8)) (j + 1) + cnt (fun v => decide (drF w h H v = 9)) (j + 1)) (sm := sm) (v6 := smH (fun v => if nxF w h H v < 0 then (pdK b (nxF w h H) (odF w h n H) n).1 v else 0) j) (v7 := smH (fun v => lev v - H v) j) (v8 := cnt (fun v => decide (drF w h H v = 8)) j + cnt (fun v => decide (drF w h H v = 9)) j) (v9 := cnt (fun v => decide (drF w h H v = 9)) j) (v10 := mxH (pdK b (nxF w h H) (odF w h n H) n).2.1 j) (v11 := y) (v12 := x) (v13 := H j) (v14 := lev j) (v15 := drF w h H j) (v16 := (enF (nxF w h H) n j : Int)) (v17 := z17) hb hx hy hj2 d3 (fun q => by
    rw [fa, f8, f9, if_pos (dx1.mp q)]
    refine ⟨rfl, ?_⟩
    by_cases c : drF w h H j = 8
    · rw [if_pos (decide_eq_true c), if_neg (fun z => by have := of_decide_eq_true z; omega)]
      omega
    · rw [if_neg (fun z => c (of_decide_eq_true z)), if_pos (decide_eq_true (by omega))]
      omega) (fun q => by
    rw [fa, f8, f9, if_neg (fun z => by have := dx1.mpr z; omega), if_neg (fun z => by have := of_decide_eq_true z; omega), if_neg (fun z => by have := of_decide_eq_true z; omega)]
    exact ⟨by omega, by omega⟩) W3
  have s7 := r_tr s6 r7
  obtain ⟨hp5, W5, r8⟩ := e_4b (u9 := cnt (fun v => decide (drF w h H v = 9)) (j + 1)) (sm := sm) (v6 := smH (fun v => if nxF w h H v < 0 then (pdK b (nxF w h H) (odF w h n H) n).1 v else 0) (j + 1)) (v7 := smH (fun v => lev v - H v) j + (lev j - H j)) (v8 := cnt (fun v => decide (drF w h H v = 8)) (j + 1) + cnt (fun v => decide (drF w h H v = 9)) (j + 1)) (v9 := cnt (fun v => decide (drF w h H v = 9)) j) (v10 := mxH (pdK b (nxF w h H) (odF w h n H) n).2.1 j) (v11 := y) (v12 := x) (v13 := H j) (v14 := lev j) (v15 := drF w h H j) (v16 := (enF (nxF w h H) n j : Int)) (v17 := z17) hb hx hy hj2 d3 rb ⟨p3, by omega⟩ (fun q => by rw [f9, if_pos (decide_eq_true q)]) (fun q => by rw [f9, if_neg (fun z => q (of_decide_eq_true z))]) W4
  have s8 := r_tr s7 r8
  obtain ⟨hp6, W6, r9⟩ := e_5 (sm := sm) (v6 := smH (fun v => if nxF w h H v < 0 then (pdK b (nxF w h H) (odF w h n H) n).1 v else 0) (j + 1)) (v7 := smH (fun v => lev v - H v) j + (lev j - H j)) (v8 := cnt (fun v => decide (drF w h H v = 8)) (j + 1) + cnt (fun v => decide (drF w h H v = 9)) (j + 1)) (v9 := cnt (fun v => decide (drF w h H v = 9)) (j + 1)) (v10 := max (mxH (pdK b (nxF w h H) (odF w h n H) n).2.1 j) ((pdK b (nxF w h H) (odF w h n H) n).2.1 j)) (v11 := y) (v12 := x) (v13 := H j) (v14 := lev j) (v15 := drF w h H j) (v17 := z17) hw hnw hK hb hLv hx hy hj2 en1 (by omega) ⟨rfl, rfl⟩ ⟨hb13.1, hl1, hl2⟩ ⟨hen0.1, hen⟩ ⟨hed8, hed.2⟩ ⟨p1, by omega⟩ W5
  have s9 := r_tr s8 r9
  have s10 := r_tr s9 (e_6 (sm := sm) (v6 := smH (fun v => if nxF w h H v < 0 then (pdK b (nxF w h H) (odF w h n H) n).1 v else 0) (j + 1)) (v7 := smH (fun v => lev v - H v) j + (lev j - H j)) (v8 := cnt (fun v => decide (drF w h H v = 8)) (j + 1) + cnt (fun v => decide (drF w h H v = 9)) (j + 1)) (v9 := cnt (fun v => decide (drF w h H v = 9)) (j + 1)) (v10 := max (mxH (pdK b (nxF w h H) (odF w h n H) n).2.1 j) ((pdK b (nxF w h H) (odF w h n H) n).2.1 j)) (v11 := y) (v12 := x) (v13 := H j) (v14 := lev j) (v15 := drF w h H j) (v16 := (enF (nxF w h H) n j : Int)) (v17 := z17))
  exact ⟨hp6, W6, s10⟩
theorem e_row (hK : K = 512) (hb : 1 ≤ b ∧ b ≤ 100) (hLv : LvOK w h n H lev) {y : Int} {k0 : Nat} (hy : 0 ≤ y ∧ y < h) (hk0 : (k0 : Int) = y * w) (hW : Wst xs L w h n H b hp) : ∀ m : Nat, (m : Int) ≤ w → ∃ hp', Wst xs L w h n H b hp' ∧ RL (236, [.ref 3, .ref (mj_NE + 0), .int (iI w), .int (iI h), .long sm, mj_u, .int (iI (smH (fun v => if nxF w h H v < 0 then (pdK b (nxF w h H) (odF w h n H) n).1 v else 0) k0)), .int (iI (smH (fun v => lev v - H v) k0)), .int (iI (cnt (fun v => decide (drF w h H v = 8)) k0 + cnt (fun v => decide (drF w h H v = 9)) k0)), .int (iI (cnt (fun v => decide (drF w h H v = 9)) k0)), .int (iI (mxH (pdK b (nxF w h H) (odF w h n H) n).2.1 k0)), .int (iI y), .int (iI 0), mj_u, mj_u, mj_u, mj_u, mj_u, mj_u, mj_u, mj_u], [], hp, 32, 7983) (236, [.ref 3, .ref (mj_NE + 0), .int (iI w), .int (iI h), .long sm, mj_u, .int (iI (smH (fun v => if nxF w h H v < 0 then (pdK b (nxF w h H) (odF w h n H) n).1 v else 0) (k0 + m))), .int (iI (smH (fun v => lev v - H v) (k0 + m))), .int (iI (cnt (fun v => decide (drF w h H v = 8)) (k0 + m) + cnt (fun v => decide (drF w h H v = 9)) (k0 + m))), .int (iI (cnt (fun v => decide (drF w h H v = 9)) (k0 + m))), .int (iI (mxH (pdK b (nxF w h H) (odF w h n H) n).2.1 (k0 + m))), .int (iI y), .int (iI (m : Int)), mj_u, mj_u, mj_u, mj_u, mj_u, mj_u, mj_u, mj_u], [], hp', 32, 7983) := by
  intro m
  induction m with
  | zero => intro _; exact ⟨hp, hW, r_rf⟩
  | succ m ih =>
    intro hm
    obtain ⟨hp1, W1, s1⟩ := ih (by omega)
    obtain ⟨hp2, W2, s2⟩ := e_body (sm := sm) hK hb hLv (x := (m : Int)) (y := y) (j := k0 + m) ⟨by omega, by omega⟩ hy (by omega) W1
    exact ⟨hp2, W2, r_tr s1 s2⟩
theorem e_line (hK : K = 512) (hb : 1 ≤ b ∧ b ≤ 100) (hLv : LvOK w h n H lev) {y : Int} {k0 : Nat} (hy : 0 ≤ y ∧ y < h) (hk0 : (k0 : Int) = y * w) (hW : Wst xs L w h n H b hp) : ∃ hp', Wst xs L w h n H b hp' ∧ RL (227, [.ref 3, .ref (mj_NE + 0), .int (iI w), .int (iI h), .long sm, mj_u, .int (iI (smH (fun v => if nxF w h H v < 0 then (pdK b (nxF w h H) (odF w h n H) n).1 v else 0) k0)), .int (iI (smH (fun v => lev v - H v) k0)), .int (iI (cnt (fun v => decide (drF w h H v = 8)) k0 + cnt (fun v => decide (drF w h H v = 9)) k0)), .int (iI (cnt (fun v => decide (drF w h H v = 9)) k0)), .int (iI (mxH (pdK b (nxF w h H) (odF w h n H) n).2.1 k0)), .int (iI y), mj_u, mj_u, mj_u, mj_u, mj_u, mj_u, mj_u, mj_u, mj_u], [], hp, 32, 7983) (227, [.ref 3, .ref (mj_NE + 0), .int (iI w), .int (iI h), .long sm, mj_u, .int (iI (smH (fun v => if nxF w h H v < 0 then (pdK b (nxF w h H) (odF w h n H) n).1 v else 0) (k0 + w.toNat))), .int (iI (smH (fun v => lev v - H v) (k0 + w.toNat))), .int (iI (cnt (fun v => decide (drF w h H v = 8)) (k0 + w.toNat) + cnt (fun v => decide (drF w h H v = 9)) (k0 + w.toNat))), .int (iI (cnt (fun v => decide (drF w h H v = 9)) (k0 + w.toNat))), .int (iI (mxH (pdK b (nxF w h H) (odF w h n H) n).2.1 (k0 + w.toNat))), .int (iI (y + 1)), mj_u, mj_u, mj_u, mj_u, mj_u, mj_u, mj_u, mj_u, mj_u], [], hp', 32, 7983) := by
  obtain ⟨hnw, hw, hh, hH2⟩ := hW.ld
  have s1 := r_toB (RC := 121) (RS := 8689) (dd := 8) (g := (227, [.ref 3, .ref (mj_NE + 0), .int (iI w), .int (iI h), .long sm, mj_u, .int (iI (smH (fun v => if nxF w h H v < 0 then (pdK b (nxF w h H) (odF w h n H) n).1 v else 0) k0)), .int (iI (smH (fun v => lev v - H v) k0)), .int (iI (cnt (fun v => decide (drF w h H v = 8)) k0 + cnt (fun v => decide (drF w h H v = 9)) k0)), .int (iI (cnt (fun v => decide (drF w h H v = 9)) k0)), .int (iI (mxH (pdK b (nxF w h H) (odF w h n H) n).2.1 k0)), .int (iI y), mj_u, mj_u, mj_u, mj_u, mj_u, mj_u, mj_u, mj_u, mj_u], [], hp, 32, 7983)) (g' := (236, [.ref 3, .ref (mj_NE + 0), .int (iI w), .int (iI h), .long sm, mj_u, .int (iI (smH (fun v => if nxF w h H v < 0 then (pdK b (nxF w h H) (odF w h n H) n).1 v else 0) k0)), .int (iI (smH (fun v => lev v - H v) k0)), .int (iI (cnt (fun v => decide (drF w h H v = 8)) k0 + cnt (fun v => decide (drF w h H v = 9)) k0)), .int (iI (cnt (fun v => decide (drF w h H v = 9)) k0)), .int (iI (mxH (pdK b (nxF w h H) (odF w h n H) n).2.1 k0)), .int (iI y), .int (iI 0), mj_u, mj_u, mj_u, mj_u, mj_u, mj_u, mj_u, mj_u], [], hp, 32, 7983)) ok_law 236 [false] rfl ⟨(show ¬ (iI h ≤ iI y) from b_nle ⟨by omega, by omega⟩ ⟨by omega, by omega⟩ (show y < h by omega)), trivial⟩
  obtain ⟨hp1, W1, r1⟩ := e_row (sm := sm) hK hb hLv hy hk0 hW w.toNat (by omega)
  have e1 := r_tr s1 r1
  have z1 := r_toB (RC := 121) (RS := 8689) (dd := 8) (g := (236, [.ref 3, .ref (mj_NE + 0), .int (iI w), .int (iI h), .long sm, mj_u, .int (iI (smH (fun v => if nxF w h H v < 0 then (pdK b (nxF w h H) (odF w h n H) n).1 v else 0) (k0 + w.toNat))), .int (iI (smH (fun v => lev v - H v) (k0 + w.toNat))), .int (iI (cnt (fun v => decide (drF w h H v = 8)) (k0 + w.toNat) + cnt (fun v => decide (drF w h H v = 9)) (k0 + w.toNat))), .int (iI (cnt (fun v => decide (drF w h H v = 9)) (k0 + w.toNat))), .int (iI (mxH (pdK b (nxF w h H) (odF w h n H) n).2.1 (k0 + w.toNat))), .int (iI y), .int (iI (w.toNat : Int)), mj_u, mj_u, mj_u, mj_u, mj_u, mj_u, mj_u, mj_u], [], hp1, 32, 7983)) (g' := (227, [.ref 3, .ref (mj_NE + 0), .int (iI w), .int (iI h), .long sm, mj_u, .int (iI (smH (fun v => if nxF w h H v < 0 then (pdK b (nxF w h H) (odF w h n H) n).1 v else 0) (k0 + w.toNat))), .int (iI (smH (fun v => lev v - H v) (k0 + w.toNat))), .int (iI (cnt (fun v => decide (drF w h H v = 8)) (k0 + w.toNat) + cnt (fun v => decide (drF w h H v = 9)) (k0 + w.toNat))), .int (iI (cnt (fun v => decide (drF w h H v = 9)) (k0 + w.toNat))), .int (iI (mxH (pdK b (nxF w h H) (odF w h n H) n).2.1 (k0 + w.toNat))), .int ((iI y) + 1), .int (iI (w.toNat : Int)), mj_u, mj_u, mj_u, mj_u, mj_u, mj_u, mj_u, mj_u], [], hp1, 32, 7983)) ok_law 227 [true] rfl ⟨(show iI w ≤ iI (w.toNat : Int) from b_le ⟨by omega, by omega⟩ ⟨by omega, by omega⟩ (show w ≤ (w.toNat : Int) by omega)), trivial⟩
  simp only [iI_add, iI_sub, iI_mul, iI_1] at z1
  have z2 := r_tr z1 (r_fg [true, true, true, true, true, true, true, true, true, true, true, true, false, true, true, true, true, true, true, true, true])
  exact ⟨hp1, W1, r_tr e1 z2⟩
theorem e_lines (hK : K = 512) (hb : 1 ≤ b ∧ b ≤ 100) (hLv : LvOK w h n H lev) (hW : Wst xs L w h n H b hp) : ∀ m : Nat, (m : Int) ≤ h → ∃ hp', Wst xs L w h n H b hp' ∧ RL (227, [.ref 3, .ref (mj_NE + 0), .int (iI w), .int (iI h), .long sm, mj_u, .int (iI (smH (fun v => if nxF w h H v < 0 then (pdK b (nxF w h H) (odF w h n H) n).1 v else 0) 0)), .int (iI (smH (fun v => lev v - H v) 0)), .int (iI (cnt (fun v => decide (drF w h H v = 8)) 0 + cnt (fun v => decide (drF w h H v = 9)) 0)), .int (iI (cnt (fun v => decide (drF w h H v = 9)) 0)), .int (iI (mxH (pdK b (nxF w h H) (odF w h n H) n).2.1 0)), .int (iI 0), mj_u, mj_u, mj_u, mj_u, mj_u, mj_u, mj_u, mj_u, mj_u], [], hp, 32, 7983) (227, [.ref 3, .ref (mj_NE + 0), .int (iI w), .int (iI h), .long sm, mj_u, .int (iI (smH (fun v => if nxF w h H v < 0 then (pdK b (nxF w h H) (odF w h n H) n).1 v else 0) ((m : Int) * w).toNat)), .int (iI (smH (fun v => lev v - H v) ((m : Int) * w).toNat)), .int (iI (cnt (fun v => decide (drF w h H v = 8)) ((m : Int) * w).toNat + cnt (fun v => decide (drF w h H v = 9)) ((m : Int) * w).toNat)), .int (iI (cnt (fun v => decide (drF w h H v = 9)) ((m : Int) * w).toNat)), .int (iI (mxH (pdK b (nxF w h H) (odF w h n H) n).2.1 ((m : Int) * w).toNat)), .int (iI (m : Int)), mj_u, mj_u, mj_u, mj_u, mj_u, mj_u, mj_u, mj_u, mj_u], [], hp', 32, 7983) := by
  obtain ⟨hnw, hw, hh, hH2⟩ := hW.ld
  intro m
  induction m with
  | zero =>
    intro _
    rw [show (((0 : Nat) : Int) * w).toNat = 0 by rw [show ((0 : Nat) : Int) = 0 from rfl, Int.zero_mul]; rfl]
    exact ⟨hp, hW, r_rf⟩
  | succ m ih =>
    intro hm
    obtain ⟨hp1, W1, s1⟩ := ih (by omega)
    have hnn : 0 ≤ (m : Int) * w := Int.mul_nonneg (by omega) (by omega)
    obtain ⟨hp2, W2, s2⟩ := e_line (sm := sm) hK hb hLv (y := (m : Int)) (k0 := ((m : Int) * w).toNat) ⟨by omega, by omega⟩ (by omega) W1
    have e : (((m + 1 : Nat) : Int) * w).toNat = ((m : Int) * w).toNat + w.toNat := by
      rw [Int.natCast_add, Int.add_mul]
      omega
    rw [e]
    exact ⟨hp2, W2, r_tr s1 s2⟩
theorem e_all (hK : K = 512) (hb : 1 ≤ b ∧ b ≤ 100) (hLv : LvOK w h n H lev) (hW : Wst xs L w h n H b hp) : ∃ hp', Wst xs L w h n H b hp' ∧ RL (209, [.ref 3, .ref (mj_NE + 0), .int (iI w), .int (iI h), .long sm, mj_u, mj_u, mj_u, mj_u, mj_u, mj_u, mj_u, mj_u, mj_u, mj_u, mj_u, mj_u, mj_u, mj_u, mj_u, mj_u], [], hp, 32, 7983) (607, [.ref 3, .ref (mj_NE + 0), .int (iI w), .int (iI h), .long sm, mj_u, .int (iI (smH (fun v => if nxF w h H v < 0 then (pdK b (nxF w h H) (odF w h n H) n).1 v else 0) n)), .int (iI (smH (fun v => lev v - H v) n)), .int (iI (cnt (fun v => decide (drF w h H v = 8)) n + cnt (fun v => decide (drF w h H v = 9)) n)), .int (iI (cnt (fun v => decide (drF w h H v = 9)) n)), .int (iI (mxH (pdK b (nxF w h H) (odF w h n H) n).2.1 n)), mj_u, mj_u, mj_u, mj_u, mj_u, mj_u, mj_u, mj_u, mj_u, mj_u], [], hp', 32, 7983) := by
  obtain ⟨hnw, hw, hh, hH2⟩ := hW.ld
  have wh := wh_bd hw hh
  obtain ⟨hp1, W1, r1⟩ := e_lines (sm := sm) hK hb hLv hW h.toNat (by omega)
  rw [show ((h.toNat : Nat) : Int) = h by omega, show (h * w).toNat = n by rw [Int.mul_comm]; omega] at r1
  have s1 := r_toB (RC := 121) (RS := 8689) (dd := 8) (g := (209, [.ref 3, .ref (mj_NE + 0), .int (iI w), .int (iI h), .long sm, mj_u, mj_u, mj_u, mj_u, mj_u, mj_u, mj_u, mj_u, mj_u, mj_u, mj_u, mj_u, mj_u, mj_u, mj_u, mj_u], [], hp, 32, 7983)) (g' := (227, [.ref 3, .ref (mj_NE + 0), .int (iI w), .int (iI h), .long sm, mj_u, .int (iI 0), .int (iI 0), .int (iI 0), .int (iI 0), .int (iI 0), .int (iI 0), mj_u, mj_u, mj_u, mj_u, mj_u, mj_u, mj_u, mj_u, mj_u], [], hp, 32, 7983)) ok_law 227 [] rfl trivial
  have e1 := r_tr s1 r1
  have z1 := r_toB (RC := 121) (RS := 8689) (dd := 8) (g := (227, [.ref 3, .ref (mj_NE + 0), .int (iI w), .int (iI h), .long sm, mj_u, .int (iI (smH (fun v => if nxF w h H v < 0 then (pdK b (nxF w h H) (odF w h n H) n).1 v else 0) n)), .int (iI (smH (fun v => lev v - H v) n)), .int (iI (cnt (fun v => decide (drF w h H v = 8)) n + cnt (fun v => decide (drF w h H v = 9)) n)), .int (iI (cnt (fun v => decide (drF w h H v = 9)) n)), .int (iI (mxH (pdK b (nxF w h H) (odF w h n H) n).2.1 n)), .int (iI h), mj_u, mj_u, mj_u, mj_u, mj_u, mj_u, mj_u, mj_u, mj_u], [], hp1, 32, 7983)) (g' := (607, [.ref 3, .ref (mj_NE + 0), .int (iI w), .int (iI h), .long sm, mj_u, .int (iI (smH (fun v => if nxF w h H v < 0 then (pdK b (nxF w h H) (odF w h n H) n).1 v else 0) n)), .int (iI (smH (fun v => lev v - H v) n)), .int (iI (cnt (fun v => decide (drF w h H v = 8)) n + cnt (fun v => decide (drF w h H v = 9)) n)), .int (iI (cnt (fun v => decide (drF w h H v = 9)) n)), .int (iI (mxH (pdK b (nxF w h H) (odF w h n H) n).2.1 n)), .int (iI h), mj_u, mj_u, mj_u, mj_u, mj_u, mj_u, mj_u, mj_u, mj_u], [], hp1, 32, 7983)) ok_law 607 [true] rfl ⟨(show iI h ≤ iI h from b_le ⟨by omega, by omega⟩ ⟨by omega, by omega⟩ (show h ≤ h by omega)), trivial⟩
  have z2 := r_tr z1 (r_fg [true, true, true, true, true, true, true, true, true, true, true, false, true, true, true, true, true, true, true, true, true])
  exact ⟨hp1, W1, r_tr e1 z2⟩
end ELP
