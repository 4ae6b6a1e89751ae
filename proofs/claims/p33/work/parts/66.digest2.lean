/-! digest in general -/
theorem run_en {w h b : Int} {n : Nat} {H : Nat → Int} {A : Nat → Nat → Int32} {od : Nat → Nat} (hR : RunOK w h n H b A od) (hnx : ∀ j, j < n → -1 ≤ nxF w h H j ∧ nxF w h H j < n) (hdw : ∀ u v : Nat, u < n → v < n → nxF w h H u = v → H v < H u) {v : Nat} (hv : v < n) : A 6 v = iI (enF (nxF w h H) n v) ∧ A 7 v = iI (dsF (nxF w h H) n v) ∧ enF (nxF w h H) n v < n ∧ nxF w h H (enF (nxF w h H) n v) < 0 ∧ (nxF w h H v < 0 → enF (nxF w h H) n v = v ∧ dsF (nxF w h H) n v = 0) ∧ (0 ≤ nxF w h H v → H (enF (nxF w h H) n v) < H v ∧ 0 < dsF (nxF w h H) n v) ∧ 0 ≤ dsF (nxF w h H) n v ∧ dsF (nxF w h H) n v ≤ n := by
  obtain ⟨p, hp, hm⟩ := hR.1.2.2.1 v hv
  obtain ⟨a1, a2, a3, a4, a5, a6, a7, a8⟩ := run_ends hR hnx hdw n p hp (by omega)
  rw [hm] at a1 a2 a3 a4 a5 a6 a7 a8
  exact ⟨a1, a2, a3, a4, a5, a6, a7, by omega⟩
theorem nx_ok {w h : Int} {n : Nat} {H : Nat → Int} (hw : 2 ≤ w ∧ w ≤ 16) (hh : 2 ≤ h ∧ h ≤ 16) (hnw : (n : Int) = w * h) (hH2 : ∀ j, j < n → 0 ≤ H j ∧ H j ≤ 999) : (∀ j, j < n → -1 ≤ nxF w h H j ∧ nxF w h H j < n) ∧ (∀ u v : Nat, u < n → v < n → nxF w h H u = v → H v < H u) ∧ (∀ j : Nat, j < n → 0 ≤ drF w h H j ∧ drF w h H j ≤ 9) := by
  refine ⟨fun j hj => ?_, fun u v hu hv he => ?_, fun j hj => ?_⟩
  · have := chD_bd hw hh hnw hH2 hj 8 (Nat.le_refl _)
    unfold nxF
    omega
  · have := (chD_dn (w := w) (h := h) (H := H) (u := u) 8).2
    unfold nxF at he
    rw [he, Int.toNat_natCast] at this
    exact this (by omega)
  · have := chD_bd hw hh hnw hH2 hj 8 (Nat.le_refl _)
    unfold drF
    omega
/-- what told answers -/
def tvX (w h : Int) (H : Nat → Int) (b : Int) (n : Nat) (k i : Nat) : Int := match k with
  | 0 => drF w h H i
  | 1 => (pdK b (nxF w h H) (odF w h n H) n).1 i
  | 2 => (enF (nxF w h H) n i : Int)
  | 3 => (pdK b (nxF w h H) (odF w h n H) n).2.1 i
  | _ => dsF (nxF w h H) n i
def digX (K : Nat) (w h : Int) (wn hn n : Nat) (H lev : Nat → Int) (b : Int) : Int := dfF H lev (tvX w h H b n) (((((((((((((((dgF (fun k => toldH w h H n k) 58078 5 * 31 + cnt (fun j => decide (drF w h H j = 8)) n + cnt (fun j => decide (drF w h H j = 9)) n) * 31 + cnt (fun j => decide (drF w h H j = 9)) n) * 31 + mxH (pdK b (nxF w h H) (odF w h n H) n).2.1 n) * 31 + mxH (pdK b (nxF w h H) (odF w h n H) n).2.2.1 n) * 31 + (fdF K w h (fun j => decide (H j < lev j)) n).1) * 31 + smH (fun j => lev j - H j) n) * 31 + (dwF K wn H 100 (hn - 1)).2.2.1) * 31 + (dwF K wn H 100 (hn - 1)).2.2.2.1) * 31 + (dwF K wn H 100 (hn - 1)).2.2.2.2) * 31 + (dwF K wn H 200 (hn - 1)).2.2.1) * 31 + (dwF K wn H 200 (hn - 1)).2.2.2.1) * 31 + (dwF K wn H 200 (hn - 1)).2.2.2.2) * 31 + (dwF K wn H 400 (hn - 1)).2.2.1) * 31 + (dwF K wn H 400 (hn - 1)).2.2.2.1) * 31 + (dwF K wn H 400 (hn - 1)).2.2.2.2) n
theorem dw_450 {K : Nat} {wn hn : Nat} {H : Nat → Int} {c : Int} (hw : 2 ≤ wn ∧ wn ≤ 16) (hh : 2 ≤ hn ∧ hn ≤ 15) : 0 ≤ (dwF K wn H c (hn - 1)).2.2.2.2 ∧ (dwF K wn H c (hn - 1)).2.2.2.2 ≤ (dwF K wn H c (hn - 1)).2.2.2.1 ∧ (dwF K wn H c (hn - 1)).2.2.2.1 ≤ (dwF K wn H c (hn - 1)).2.2.1 ∧ (dwF K wn H c (hn - 1)).2.2.1 ≤ 450 := by
  obtain ⟨a1, a2, a3, a4⟩ := dw_bd (K := K) (H := H) (c := c) hw hh
  refine ⟨a1, a2, a3, Int.le_trans a4 ?_⟩
  have h1 : 2 * ((wn : Int) - 1) ≤ 30 := by omega
  have h2 : ((hn - 1 : Nat) : Int) ≤ 14 := by omega
  have := Int.mul_le_mul h1 h2 (by omega) (by omega)
  omega
section DIGX
variable {xs : Nat → Int32} {L : Nat} {A : Nat → Nat → Int32} {V : Nat → Int32} {Y : mj_H}
variable {K : Nat} {w h : Int} {n wn hn : Nat} {H lev : Nat → Int}
theorem c_Ct0 {z : Int} (hz : V 6 = iI z) : mj_Ct m_Contours_told [.ref (mj_NE + 22), .int (iI 0)] (Wd xs L A V Y) (some (.int (iI z))) (Wd xs L A V Y) 0 0 0 := by
  have := c_CtoldG (xs := xs) (L := L) (A := A) (V := V) (Y := Y) (k := 0) ⟨by omega, by omega⟩
  rw [if_pos rfl, hz] at this
  exact this
theorem c_Ct1 {z : Int} (hz : V 7 = iI z) : mj_Ct m_Contours_told [.ref (mj_NE + 22), .int (iI 1)] (Wd xs L A V Y) (some (.int (iI z))) (Wd xs L A V Y) 0 0 0 := by
  have := c_CtoldG (xs := xs) (L := L) (A := A) (V := V) (Y := Y) (k := 1) ⟨by omega, by omega⟩
  rw [if_neg (by omega), if_pos rfl, hz] at this
  exact this
theorem c_Ct2 {z : Int} (hz : V 8 = iI z) : mj_Ct m_Contours_told [.ref (mj_NE + 22), .int (iI 2)] (Wd xs L A V Y) (some (.int (iI z))) (Wd xs L A V Y) 0 0 0 := by
  have := c_CtoldG (xs := xs) (L := L) (A := A) (V := V) (Y := Y) (k := 2) ⟨by omega, by omega⟩
  rw [if_neg (by omega), if_neg (by omega), hz] at this
  exact this
set_option maxHeartbeats 2000000 in
theorem f_digestX {b : Int} (hK : K = 512) (hh15 : h ≤ 15) (ew : w = (wn : Int)) (eh : h = (hn : Int)) (hbr : V 10 = iI b) (hb : 1 ≤ b ∧ b ≤ 100) (hLv : LvOK w h n H lev) (hL : LdOK w h n H A V) : ∃ (A5 : Nat → Nat → Int32) (V5 : Nat → Int32), LdOK w h n H A5 V5 ∧ V5 10 = V 10 ∧ mj_Ct m_W_digest [.ref (mj_NE + 0)] (Wd xs L A V Y) (some (.long (lI (digX K w h wn hn n H lev b)))) (Wd xs L A5 V5 Y) 0 0 6 := by
  obtain ⟨h0, h1, hV, hnw, hw, hh, hN, hH⟩ := hL
  have wh := wh_bd hw hh
  have hH2 : ∀ j, j < n → 0 ≤ H j ∧ H j ≤ 999 := fun j hj => (hH j hj).2
  obtain ⟨hnxb, hdw, hdrb⟩ := nx_ok (w := w) (h := h) (H := H) hw hh hnw hH2
  obtain ⟨A1, V1, hR, k1, q1, hct1⟩ := c_runX (xs := xs) (L := L) (A := A) (V := V) (Y := Y) (b := b) hV hw hh hnw hN hH ⟨by omega, by omega⟩
  have e0 : A1 0 = A 0 := k1 0 (by omega)
  have e2 : A1 2 = A 2 := k1 2 (by omega)
  have hV1 : V1 2 = iI n := by rw [q1 2 (by omega)]; exact hV
  obtain ⟨A2, V2, hl, hf, h4, ka, kv, hct2⟩ := c_findL (xs := xs) (L := L) (A := A1) (V := V1) (Y := Y) (K := K) (lev := lev) hK hV1 hw hh hnw (by rw [e2]; exact hN) (by rw [e0]; exact hH) hLv
  have a2 : ∀ k, k < 13 → A2 k = A1 k := fun k hk => ka k (by omega) (by omega) (by omega)
  have hL2 : LdOK w h n H A2 V2 := LdOK.keep (A := A) (V := V) ⟨h0, h1, hV, hnw, hw, hh, hN, hH⟩ (by rw [a2 0 (by omega), e0]) (by rw [a2 2 (by omega), e2]) (by rw [kv 0 (by omega) (by omega)]; exact q1 0 (by omega)) (by rw [kv 1 (by omega) (by omega)]; exact q1 1 (by omega)) (by rw [kv 2 (by omega) (by omega)]; exact q1 2 (by omega))
  have hpd := (pd_inv (b := b) hR.1 hnxb n (Nat.le_refl _)).2
  have hco := c_content (xs := xs) (L := L) (A := A2) (V := V2) (Y := Y) (lev := lev) (H := H) hL2.2.2.1 (by omega) hl (fun j hj => (hL2.2.2.2.2.2.2.2 j hj).1)
  have hlb : ∀ j, j < n → 0 ≤ lev j - H j ∧ lev j - H j ≤ 999 := fun j hj => by
    have h1 := hH2 j hj
    have h2 := hLv.1 j hj
    omega
  have hsm := smH_bd (H := fun j => lev j - H j) hlb n (Nat.le_refl _)
  obtain ⟨fc1, fc2, -, -⟩ := fd_count (K := K) (w := w) (h := h) (n := n) (lk := fun j => decide (H j < lev j)) (by omega) hw hh hnw
  have hdm := c_digestOfMap (xs := xs) (L := L) (A := A2) (V := V2) (Y := Y) (d := 58078) (dr := drF w h H) (R0 := (pdK b (nxF w h H) (odF w h n H) n).2.1) (L0 := (pdK b (nxF w h H) (odF w h n H) n).2.2.1) (lc := (fdF K w h (fun j => decide (H j < lev j)) n).1) (ct := smH (fun j => lev j - H j) n) hL2 (fun i hi => ⟨by rw [a2 3 (by omega)]; exact (hR.2.1 i hi).1, hdrb i hi⟩) (fun i hi => ⟨by rw [a2 8 (by omega)]; exact (hR.2.2.1 i hi).2.1, by have := (hpd i hi).2.1; omega, by have := (hpd i hi).2.1; omega⟩) (fun i hi => ⟨by rw [a2 9 (by omega)]; exact (hR.2.2.1 i hi).2.2.1, by have := (hpd i hi).2.2; omega, by have := (hpd i hi).2.2; omega⟩) h4 ⟨by omega, by omega⟩ hco ⟨by omega, by omega⟩
  have hd0 : V2 0 = iI w ∧ V2 1 = iI h ∧ Hts (A2 0) n H := ⟨hL2.1, hL2.2.1, hL2.2.2.2.2.2.2.2⟩
  have s1 := r_to (RC := 0) (RS := 0) (dd := 6) (g := (0, [.ref (mj_NE + 0), mj_u, mj_u, mj_u, mj_u], [], Wd xs L A V Y, 0, 0)) (g' := (8, [.ref (mj_NE + 0), mj_u, mj_u, mj_u, mj_u], [.int (V 10), .ref (mj_NE + 5)], Wd xs L A V Y, 0, 0)) ok_W_digest 9999 [] rfl trivial
  rw [hbr] at s1
  have s2 := r_tr s1 (q_V ok_W_digest ok_Streams_run se_Streams_run (hct1) rfl rfl rfl rfl rfl ⟨rfl, rfl, rfl⟩)
  have s3 := r_tr s2 (r_to (g' := (15, [.ref (mj_NE + 0), mj_u, mj_u, mj_u, mj_u], [.ref (mj_NE + 16)], Wd xs L A1 V1 Y, 0, 0)) ok_W_digest 9999 [] rfl trivial)
  have s4 := r_tr s3 (q_V ok_W_digest ok_Hollows_find se_Hollows_find (hct2) rfl rfl rfl rfl rfl ⟨rfl, rfl, rfl⟩)
  have s5 := r_tr s4 (r_to (g' := (22, [.ref (mj_NE + 0), mj_u, mj_u, mj_u, mj_u], [.long (lI 58078), .ref (mj_NE + 0)], Wd xs L A2 V2 Y, 0, 0)) ok_W_digest 9999 [] rfl trivial)
  have s6 := r_tr s5 (q_V ok_W_digest ok_W_digestOfMap se_W_digestOfMap (hdm) rfl rfl rfl rfl rfl ⟨rfl, rfl, rfl⟩)
  generalize hDM : (((((dgF (fun k => toldH w h H n k) 58078 5 * 31 + cnt (fun j => decide (drF w h H j = 8)) n + cnt (fun j => decide (drF w h H j = 9)) n) * 31 + cnt (fun j => decide (drF w h H j = 9)) n) * 31 + mxH (pdK b (nxF w h H) (odF w h n H) n).2.1 n) * 31 + mxH (pdK b (nxF w h H) (odF w h n H) n).2.2.1 n) * 31 + (fdF K w h (fun j => decide (H j < lev j)) n).1) * 31 + smH (fun j => lev j - H j) n = DM at *
  have s7 := r_tr s6 (r_to (g' := (28, [.ref (mj_NE + 0), .long (lI DM), mj_u, .int (iI 0), mj_u], [], Wd xs L A2 V2 Y, 0, 0)) ok_W_digest 28 [] rfl trivial)
  have s8 := r_tr s7 (r_to (g' := (45, [.ref (mj_NE + 0), .long (lI DM), mj_u, .int (iI 0), mj_u], [.int (mj_s2 (iI 0).toNatClampNeg), .ref (mj_NE + 22)], Wd xs L A2 V2 Y, 0, 0)) ok_W_digest 9999 [false] rfl ⟨by show ¬ (iI 3 ≤ iI 0); rw [iI_le ⟨by omega, by omega⟩ ⟨by omega, by omega⟩]; omega, by show vp_in (iI 0) 3; exact in_nat (n := 0) (by omega) (by omega), trivial⟩)
  rw [show mj_s2 (iI 0).toNatClampNeg = iI 100 by decide +kernel] at s8
  obtain ⟨A3, V3, ⟨-, -, ⟨v60, v70, v80⟩, ka0, kv0⟩, hct3⟩ := c_drawG (xs := xs) (L := L) (A := A2) (V := V2) (Y := Y) (c := 100) (K := K) (wn := wn) (hn := hn) hK hd0.1 hd0.2.1 hw ⟨hh.1, hh15⟩ hnw ew eh hd0.2.2 ⟨by omega, by omega⟩
  have s9 := r_tr s8 (q_V ok_W_digest ok_Contours_draw se_Contours_draw (hct3) rfl rfl rfl rfl rfl ⟨rfl, rfl, rfl⟩)
  have hd1 : V3 0 = iI w ∧ V3 1 = iI h ∧ Hts (A3 0) n H := ⟨by rw [kv0 0 (by omega) (by omega) (by omega)]; exact hd0.1, by rw [kv0 1 (by omega) (by omega) (by omega)]; exact hd0.2.1, by rw [ka0 0 (by omega) (by omega)]; exact hd0.2.2⟩
  obtain ⟨y10, y20, y30, y40⟩ := dw_450 (K := K) (wn := wn) (hn := hn) (H := H) (c := 100) (by omega) (by omega)
  have s10 := r_tr s9 (r_to (g' := (51, [.ref (mj_NE + 0), .long (lI DM), mj_u, .int (iI 0), .int (iI 0)], [], Wd xs L A3 V3 Y, 0, 0)) ok_W_digest 51 [] rfl trivial)
  have s11 := r_tr s10 (r_to (g' := (68, [.ref (mj_NE + 0), .long (lI DM), mj_u, .int (iI 0), .int (iI 0)], [.int (iI 0), .ref (mj_NE + 22), .long (lI DM * lI 31)], Wd xs L A3 V3 Y, 0, 0)) ok_W_digest 9999 [false] rfl ⟨by show ¬ (iI 2 < iI 0); rw [iI_lt ⟨by omega, by omega⟩ ⟨by omega, by omega⟩]; omega, trivial⟩)
  rw [lI_mul] at s11
  have s12 := r_tr s11 (q_V ok_W_digest ok_Contours_told se_Contours_told (c_Ct0 v60) rfl rfl rfl rfl rfl ⟨rfl, rfl, rfl⟩)
  have s13 := r_tr s12 (r_to (g' := (51, [.ref (mj_NE + 0), .long (lI (DM * 31) + (iI (dwF K wn H 100 (hn - 1)).2.2.1).toInt64), mj_u, .int (iI 0), .int (iI 0 + 1)], [], Wd xs L A3 V3 Y, 0, 0)) ok_W_digest 51 [] rfl trivial)
  rw [iI_l ⟨by omega, by omega⟩, lI_add, iI_1, show (0 : Int) + 1 = 1 from rfl] at s13
  generalize hC00 : DM * 31 + (dwF K wn H 100 (hn - 1)).2.2.1 = C00 at *
  have s14 := r_tr s13 (r_to (g' := (68, [.ref (mj_NE + 0), .long (lI C00), mj_u, .int (iI 0), .int (iI 1)], [.int (iI 1), .ref (mj_NE + 22), .long (lI C00 * lI 31)], Wd xs L A3 V3 Y, 0, 0)) ok_W_digest 9999 [false] rfl ⟨by show ¬ (iI 2 < iI 1); rw [iI_lt ⟨by omega, by omega⟩ ⟨by omega, by omega⟩]; omega, trivial⟩)
  rw [lI_mul] at s14
  have s15 := r_tr s14 (q_V ok_W_digest ok_Contours_told se_Contours_told (c_Ct1 v70) rfl rfl rfl rfl rfl ⟨rfl, rfl, rfl⟩)
  have s16 := r_tr s15 (r_to (g' := (51, [.ref (mj_NE + 0), .long (lI (C00 * 31) + (iI (dwF K wn H 100 (hn - 1)).2.2.2.1).toInt64), mj_u, .int (iI 0), .int (iI 1 + 1)], [], Wd xs L A3 V3 Y, 0, 0)) ok_W_digest 51 [] rfl trivial)
  rw [iI_l ⟨by omega, by omega⟩, lI_add, iI_1, show (1 : Int) + 1 = 2 from rfl] at s16
  generalize hC01 : C00 * 31 + (dwF K wn H 100 (hn - 1)).2.2.2.1 = C01 at *
  have s17 := r_tr s16 (r_to (g' := (68, [.ref (mj_NE + 0), .long (lI C01), mj_u, .int (iI 0), .int (iI 2)], [.int (iI 2), .ref (mj_NE + 22), .long (lI C01 * lI 31)], Wd xs L A3 V3 Y, 0, 0)) ok_W_digest 9999 [false] rfl ⟨by show ¬ (iI 2 < iI 2); rw [iI_lt ⟨by omega, by omega⟩ ⟨by omega, by omega⟩]; omega, trivial⟩)
  rw [lI_mul] at s17
  have s18 := r_tr s17 (q_V ok_W_digest ok_Contours_told se_Contours_told (c_Ct2 v80) rfl rfl rfl rfl rfl ⟨rfl, rfl, rfl⟩)
  have s19 := r_tr s18 (r_to (g' := (51, [.ref (mj_NE + 0), .long (lI (C01 * 31) + (iI (dwF K wn H 100 (hn - 1)).2.2.2.2).toInt64), mj_u, .int (iI 0), .int (iI 2 + 1)], [], Wd xs L A3 V3 Y, 0, 0)) ok_W_digest 51 [] rfl trivial)
  rw [iI_l ⟨by omega, by omega⟩, lI_add, iI_1, show (2 : Int) + 1 = 3 from rfl] at s19
  generalize hC02 : C01 * 31 + (dwF K wn H 100 (hn - 1)).2.2.2.2 = C02 at *
  have s20 := r_tr s19 (r_to (g' := (28, [.ref (mj_NE + 0), .long (lI C02), mj_u, .int (iI 0 + 1), .int (iI 3)], [], Wd xs L A3 V3 Y, 0, 0)) ok_W_digest 28 [true] rfl ⟨by show iI 2 < iI 3; rw [iI_lt ⟨by omega, by omega⟩ ⟨by omega, by omega⟩]; omega, trivial⟩)
  rw [iI_1, show (0 : Int) + 1 = 1 from rfl] at s20
  have s21 := r_tr s20 (r_to (g' := (45, [.ref (mj_NE + 0), .long (lI C02), mj_u, .int (iI 1), .int (iI 3)], [.int (mj_s2 (iI 1).toNatClampNeg), .ref (mj_NE + 22)], Wd xs L A3 V3 Y, 0, 0)) ok_W_digest 9999 [false] rfl ⟨by show ¬ (iI 3 ≤ iI 1); rw [iI_le ⟨by omega, by omega⟩ ⟨by omega, by omega⟩]; omega, by show vp_in (iI 1) 3; exact in_nat (n := 1) (by omega) (by omega), trivial⟩)
  rw [show mj_s2 (iI 1).toNatClampNeg = iI 200 by decide +kernel] at s21
  obtain ⟨A4, V4, ⟨-, -, ⟨v61, v71, v81⟩, ka1, kv1⟩, hct4⟩ := c_drawG (xs := xs) (L := L) (A := A3) (V := V3) (Y := Y) (c := 200) (K := K) (wn := wn) (hn := hn) hK hd1.1 hd1.2.1 hw ⟨hh.1, hh15⟩ hnw ew eh hd1.2.2 ⟨by omega, by omega⟩
  have s22 := r_tr s21 (q_V ok_W_digest ok_Contours_draw se_Contours_draw (hct4) rfl rfl rfl rfl rfl ⟨rfl, rfl, rfl⟩)
  have hd2 : V4 0 = iI w ∧ V4 1 = iI h ∧ Hts (A4 0) n H := ⟨by rw [kv1 0 (by omega) (by omega) (by omega)]; exact hd1.1, by rw [kv1 1 (by omega) (by omega) (by omega)]; exact hd1.2.1, by rw [ka1 0 (by omega) (by omega)]; exact hd1.2.2⟩
  obtain ⟨y11, y21, y31, y41⟩ := dw_450 (K := K) (wn := wn) (hn := hn) (H := H) (c := 200) (by omega) (by omega)
  have s23 := r_tr s22 (r_to (g' := (51, [.ref (mj_NE + 0), .long (lI C02), mj_u, .int (iI 1), .int (iI 0)], [], Wd xs L A4 V4 Y, 0, 0)) ok_W_digest 51 [] rfl trivial)
  have s24 := r_tr s23 (r_to (g' := (68, [.ref (mj_NE + 0), .long (lI C02), mj_u, .int (iI 1), .int (iI 0)], [.int (iI 0), .ref (mj_NE + 22), .long (lI C02 * lI 31)], Wd xs L A4 V4 Y, 0, 0)) ok_W_digest 9999 [false] rfl ⟨by show ¬ (iI 2 < iI 0); rw [iI_lt ⟨by omega, by omega⟩ ⟨by omega, by omega⟩]; omega, trivial⟩)
  rw [lI_mul] at s24
  have s25 := r_tr s24 (q_V ok_W_digest ok_Contours_told se_Contours_told (c_Ct0 v61) rfl rfl rfl rfl rfl ⟨rfl, rfl, rfl⟩)
  have s26 := r_tr s25 (r_to (g' := (51, [.ref (mj_NE + 0), .long (lI (C02 * 31) + (iI (dwF K wn H 200 (hn - 1)).2.2.1).toInt64), mj_u, .int (iI 1), .int (iI 0 + 1)], [], Wd xs L A4 V4 Y, 0, 0)) ok_W_digest 51 [] rfl trivial)
  rw [iI_l ⟨by omega, by omega⟩, lI_add, iI_1, show (0 : Int) + 1 = 1 from rfl] at s26
  generalize hC10 : C02 * 31 + (dwF K wn H 200 (hn - 1)).2.2.1 = C10 at *
  have s27 := r_tr s26 (r_to (g' := (68, [.ref (mj_NE + 0), .long (lI C10), mj_u, .int (iI 1), .int (iI 1)], [.int (iI 1), .ref (mj_NE + 22), .long (lI C10 * lI 31)], Wd xs L A4 V4 Y, 0, 0)) ok_W_digest 9999 [false] rfl ⟨by show ¬ (iI 2 < iI 1); rw [iI_lt ⟨by omega, by omega⟩ ⟨by omega, by omega⟩]; omega, trivial⟩)
  rw [lI_mul] at s27
  have s28 := r_tr s27 (q_V ok_W_digest ok_Contours_told se_Contours_told (c_Ct1 v71) rfl rfl rfl rfl rfl ⟨rfl, rfl, rfl⟩)
  have s29 := r_tr s28 (r_to (g' := (51, [.ref (mj_NE + 0), .long (lI (C10 * 31) + (iI (dwF K wn H 200 (hn - 1)).2.2.2.1).toInt64), mj_u, .int (iI 1), .int (iI 1 + 1)], [], Wd xs L A4 V4 Y, 0, 0)) ok_W_digest 51 [] rfl trivial)
  rw [iI_l ⟨by omega, by omega⟩, lI_add, iI_1, show (1 : Int) + 1 = 2 from rfl] at s29
  generalize hC11 : C10 * 31 + (dwF K wn H 200 (hn - 1)).2.2.2.1 = C11 at *
  have s30 := r_tr s29 (r_to (g' := (68, [.ref (mj_NE + 0), .long (lI C11), mj_u, .int (iI 1), .int (iI 2)], [.int (iI 2), .ref (mj_NE + 22), .long (lI C11 * lI 31)], Wd xs L A4 V4 Y, 0, 0)) ok_W_digest 9999 [false] rfl ⟨by show ¬ (iI 2 < iI 2); rw [iI_lt ⟨by omega, by omega⟩ ⟨by omega, by omega⟩]; omega, trivial⟩)
  rw [lI_mul] at s30
  have s31 := r_tr s30 (q_V ok_W_digest ok_Contours_told se_Contours_told (c_Ct2 v81) rfl rfl rfl rfl rfl ⟨rfl, rfl, rfl⟩)
  have s32 := r_tr s31 (r_to (g' := (51, [.ref (mj_NE + 0), .long (lI (C11 * 31) + (iI (dwF K wn H 200 (hn - 1)).2.2.2.2).toInt64), mj_u, .int (iI 1), .int (iI 2 + 1)], [], Wd xs L A4 V4 Y, 0, 0)) ok_W_digest 51 [] rfl trivial)
  rw [iI_l ⟨by omega, by omega⟩, lI_add, iI_1, show (2 : Int) + 1 = 3 from rfl] at s32
  generalize hC12 : C11 * 31 + (dwF K wn H 200 (hn - 1)).2.2.2.2 = C12 at *
  have s33 := r_tr s32 (r_to (g' := (28, [.ref (mj_NE + 0), .long (lI C12), mj_u, .int (iI 1 + 1), .int (iI 3)], [], Wd xs L A4 V4 Y, 0, 0)) ok_W_digest 28 [true] rfl ⟨by show iI 2 < iI 3; rw [iI_lt ⟨by omega, by omega⟩ ⟨by omega, by omega⟩]; omega, trivial⟩)
  rw [iI_1, show (1 : Int) + 1 = 2 from rfl] at s33
  have s34 := r_tr s33 (r_to (g' := (45, [.ref (mj_NE + 0), .long (lI C12), mj_u, .int (iI 2), .int (iI 3)], [.int (mj_s2 (iI 2).toNatClampNeg), .ref (mj_NE + 22)], Wd xs L A4 V4 Y, 0, 0)) ok_W_digest 9999 [false] rfl ⟨by show ¬ (iI 3 ≤ iI 2); rw [iI_le ⟨by omega, by omega⟩ ⟨by omega, by omega⟩]; omega, by show vp_in (iI 2) 3; exact in_nat (n := 2) (by omega) (by omega), trivial⟩)
  rw [show mj_s2 (iI 2).toNatClampNeg = iI 400 by decide +kernel] at s34
  obtain ⟨A5, V5, ⟨-, -, ⟨v62, v72, v82⟩, ka2, kv2⟩, hct5⟩ := c_drawG (xs := xs) (L := L) (A := A4) (V := V4) (Y := Y) (c := 400) (K := K) (wn := wn) (hn := hn) hK hd2.1 hd2.2.1 hw ⟨hh.1, hh15⟩ hnw ew eh hd2.2.2 ⟨by omega, by omega⟩
  have s35 := r_tr s34 (q_V ok_W_digest ok_Contours_draw se_Contours_draw (hct5) rfl rfl rfl rfl rfl ⟨rfl, rfl, rfl⟩)
  have hd3 : V5 0 = iI w ∧ V5 1 = iI h ∧ Hts (A5 0) n H := ⟨by rw [kv2 0 (by omega) (by omega) (by omega)]; exact hd2.1, by rw [kv2 1 (by omega) (by omega) (by omega)]; exact hd2.2.1, by rw [ka2 0 (by omega) (by omega)]; exact hd2.2.2⟩
  obtain ⟨y12, y22, y32, y42⟩ := dw_450 (K := K) (wn := wn) (hn := hn) (H := H) (c := 400) (by omega) (by omega)
  have s36 := r_tr s35 (r_to (g' := (51, [.ref (mj_NE + 0), .long (lI C12), mj_u, .int (iI 2), .int (iI 0)], [], Wd xs L A5 V5 Y, 0, 0)) ok_W_digest 51 [] rfl trivial)
  have s37 := r_tr s36 (r_to (g' := (68, [.ref (mj_NE + 0), .long (lI C12), mj_u, .int (iI 2), .int (iI 0)], [.int (iI 0), .ref (mj_NE + 22), .long (lI C12 * lI 31)], Wd xs L A5 V5 Y, 0, 0)) ok_W_digest 9999 [false] rfl ⟨by show ¬ (iI 2 < iI 0); rw [iI_lt ⟨by omega, by omega⟩ ⟨by omega, by omega⟩]; omega, trivial⟩)
  rw [lI_mul] at s37
  have s38 := r_tr s37 (q_V ok_W_digest ok_Contours_told se_Contours_told (c_Ct0 v62) rfl rfl rfl rfl rfl ⟨rfl, rfl, rfl⟩)
  have s39 := r_tr s38 (r_to (g' := (51, [.ref (mj_NE + 0), .long (lI (C12 * 31) + (iI (dwF K wn H 400 (hn - 1)).2.2.1).toInt64), mj_u, .int (iI 2), .int (iI 0 + 1)], [], Wd xs L A5 V5 Y, 0, 0)) ok_W_digest 51 [] rfl trivial)
  rw [iI_l ⟨by omega, by omega⟩, lI_add, iI_1, show (0 : Int) + 1 = 1 from rfl] at s39
  generalize hC20 : C12 * 31 + (dwF K wn H 400 (hn - 1)).2.2.1 = C20 at *
  have s40 := r_tr s39 (r_to (g' := (68, [.ref (mj_NE + 0), .long (lI C20), mj_u, .int (iI 2), .int (iI 1)], [.int (iI 1), .ref (mj_NE + 22), .long (lI C20 * lI 31)], Wd xs L A5 V5 Y, 0, 0)) ok_W_digest 9999 [false] rfl ⟨by show ¬ (iI 2 < iI 1); rw [iI_lt ⟨by omega, by omega⟩ ⟨by omega, by omega⟩]; omega, trivial⟩)
  rw [lI_mul] at s40
  have s41 := r_tr s40 (q_V ok_W_digest ok_Contours_told se_Contours_told (c_Ct1 v72) rfl rfl rfl rfl rfl ⟨rfl, rfl, rfl⟩)
  have s42 := r_tr s41 (r_to (g' := (51, [.ref (mj_NE + 0), .long (lI (C20 * 31) + (iI (dwF K wn H 400 (hn - 1)).2.2.2.1).toInt64), mj_u, .int (iI 2), .int (iI 1 + 1)], [], Wd xs L A5 V5 Y, 0, 0)) ok_W_digest 51 [] rfl trivial)
  rw [iI_l ⟨by omega, by omega⟩, lI_add, iI_1, show (1 : Int) + 1 = 2 from rfl] at s42
  generalize hC21 : C20 * 31 + (dwF K wn H 400 (hn - 1)).2.2.2.1 = C21 at *
  have s43 := r_tr s42 (r_to (g' := (68, [.ref (mj_NE + 0), .long (lI C21), mj_u, .int (iI 2), .int (iI 2)], [.int (iI 2), .ref (mj_NE + 22), .long (lI C21 * lI 31)], Wd xs L A5 V5 Y, 0, 0)) ok_W_digest 9999 [false] rfl ⟨by show ¬ (iI 2 < iI 2); rw [iI_lt ⟨by omega, by omega⟩ ⟨by omega, by omega⟩]; omega, trivial⟩)
  rw [lI_mul] at s43
  have s44 := r_tr s43 (q_V ok_W_digest ok_Contours_told se_Contours_told (c_Ct2 v82) rfl rfl rfl rfl rfl ⟨rfl, rfl, rfl⟩)
  have s45 := r_tr s44 (r_to (g' := (51, [.ref (mj_NE + 0), .long (lI (C21 * 31) + (iI (dwF K wn H 400 (hn - 1)).2.2.2.2).toInt64), mj_u, .int (iI 2), .int (iI 2 + 1)], [], Wd xs L A5 V5 Y, 0, 0)) ok_W_digest 51 [] rfl trivial)
  rw [iI_l ⟨by omega, by omega⟩, lI_add, iI_1, show (2 : Int) + 1 = 3 from rfl] at s45
  generalize hC22 : C21 * 31 + (dwF K wn H 400 (hn - 1)).2.2.2.2 = C22 at *
  have s46 := r_tr s45 (r_to (g' := (28, [.ref (mj_NE + 0), .long (lI C22), mj_u, .int (iI 2 + 1), .int (iI 3)], [], Wd xs L A5 V5 Y, 0, 0)) ok_W_digest 28 [true] rfl ⟨by show iI 2 < iI 3; rw [iI_lt ⟨by omega, by omega⟩ ⟨by omega, by omega⟩]; omega, trivial⟩)
  rw [iI_1, show (2 : Int) + 1 = 3 from rfl] at s46
  have s47 := r_tr s46 (r_to (g' := (88, [.ref (mj_NE + 0), .long (lI C22), mj_u, .int (iI 3), .int (iI 3)], [.long (lI C22), .ref (mj_NE + 0)], Wd xs L A5 V5 Y, 0, 0)) ok_W_digest 9999 [true] rfl ⟨by show iI 3 ≤ iI 3; exact Int32.le_refl _, trivial⟩)
  have k5 : ∀ k, k ≠ 16 → k ≠ 17 → A5 k = A2 k := fun k k1 k2 => by rw [ka2 k k1 k2, ka1 k k1 k2, ka0 k k1 k2]
  have q5 : ∀ k, k ≠ 6 → k ≠ 7 → k ≠ 8 → V5 k = V2 k := fun k k1 k2 k3 => by rw [kv2 k k1 k2 k3, kv1 k k1 k2 k3, kv0 k k1 k2 k3]
  have r5 : ∀ k, k < 13 → A5 k = A1 k := fun k hk => by rw [k5 k (by omega) (by omega), ka k (by omega) (by omega) (by omega)]
  have hL5 : LdOK w h n H A5 V5 := LdOK.keep (A := A) (V := V) ⟨h0, h1, hV, hnw, hw, hh, hN, hH⟩ (by rw [r5 0 (by omega)]; exact k1 0 (by omega)) (by rw [r5 2 (by omega)]; exact k1 2 (by omega)) (by rw [q5 0 (by omega) (by omega) (by omega), kv 0 (by omega) (by omega)]; exact q1 0 (by omega)) (by rw [q5 1 (by omega) (by omega) (by omega), kv 1 (by omega) (by omega)]; exact q1 1 (by omega)) (by rw [q5 2 (by omega) (by omega) (by omega), kv 2 (by omega) (by omega)]; exact q1 2 (by omega))
  have sl := fun hq => r_tr s47 (q_V ok_W_digest ok_W_digestOfFields se_W_digestOfFields (c_digestOfFields (lv := lev) (tv := tvX w h H b n) hL5 hq) rfl rfl rfl rfl rfl ⟨rfl, rfl, rfl⟩)
  refine ⟨A5, V5, hL5, by rw [q5 10 (by omega) (by omega) (by omega), kv 10 (by omega) (by omega), q1 10 (by omega)], ?_⟩
  have ed : digX K w h wn hn n H lev b = dfF H lev (tvX w h H b n) C22 n := by
    unfold digX
    rw [hDM, hC00, hC01, hC02, hC10, hC11, hC12, hC20, hC21, hC22]
  rw [ed]
  refine ct_of ok_W_digest rfl (sl ?_) rfl rfl rfl rfl rfl
  intro i hi
  have c := hR.2.2.1 i hi
  obtain ⟨d6, d7, dlt, -, -, -, dd0, dd1⟩ := run_en hR hnxb hdw hi
  have bp := hpd i hi
  have bD := hdrb i hi
  have bH := hH2 i hi
  have bl := hlb i hi
  refine ⟨⟨?_, ?_, ?_, ?_, ?_, ?_⟩, fun k hk => ?_, by omega, by omega⟩
  · rw [r5 3 (by omega)]; exact (hR.2.1 i hi).1
  · rw [r5 5 (by omega)]; exact c.1
  · rw [r5 6 (by omega)]; exact d6
  · rw [r5 8 (by omega)]; exact c.2.1
  · rw [r5 7 (by omega)]; exact d7
  · rw [k5 13 (by omega) (by omega)]; exact hl i hi
  · unfold tvX
    split <;> omega
end DIGX
