/-! the face: the digest -/
/-- what the FIELDS add to the checksum -/
def dfF (H lv : Nat → Int) (tv : Nat → Nat → Int) (d : Int) : Nat → Int
  | 0 => d
  | i + 1 => ((((((dfF H lv tv d i * 31 + H i) * 31 + tv 0 i) * 31 + tv 1 i) * 31 + tv 2 i) * 31 + tv 3 i) * 31 + tv 4 i) * 31 + lv i
section DIG
variable {xs : Nat → Int32} {L : Nat} {A : Nat → Nat → Int32} {V : Nat → Int32} {Y : mj_H}
variable {w h : Int} {n : Nat} {H lv : Nat → Int} {tv : Nat → Nat → Int}
set_option maxHeartbeats 1000000 in
theorem c_digestOfFields {d : Int} (hL : LdOK w h n H A V) (ht : ∀ i, i < n → (A 3 i = iI (tv 0 i) ∧ A 5 i = iI (tv 1 i) ∧ A 6 i = iI (tv 2 i) ∧ A 8 i = iI (tv 3 i) ∧ A 7 i = iI (tv 4 i) ∧ A 13 i = iI (lv i)) ∧ (∀ k, k < 5 → -1000000 ≤ tv k i ∧ tv k i ≤ 1000000) ∧ -1000000 ≤ lv i ∧ lv i ≤ 1000000) : mj_Ct m_W_digestOfFields [.ref (mj_NE + 0), .long (lI d)] (Wd xs L A V Y) (some (.long (lI (dfF H lv tv d n)))) (Wd xs L A V Y) 0 0 2 := by
  obtain ⟨h0, h1, hV, hnw, hw, hh, hN, hH⟩ := hL
  have wh := wh_bd hw hh
  have r0 := r_to (RC := 0) (RS := 0) (dd := 2) (g := (0, [.ref (mj_NE + 0), .long (lI d), mj_u, mj_u, mj_u, mj_u, mj_u], [], Wd xs L A V Y, 0, 0)) (g' := (5, [.ref (mj_NE + 0), .long (lI d), mj_u, .long (lI (dfF H lv tv d 0)), mj_u, .int (iI 0), mj_u], [], Wd xs L A V Y, 0, 0)) ok_W_digestOfFields 5 [] rfl trivial
  have lp : ∀ i : Nat, i ≤ n → ∃ u6 : Value, mj_Rc m_W_digestOfFields 0 0 2 (0, [.ref (mj_NE + 0), .long (lI d), mj_u, mj_u, mj_u, mj_u, mj_u], [], Wd xs L A V Y, 0, 0) (5, [.ref (mj_NE + 0), .long (lI d), mj_u, .long (lI (dfF H lv tv d i)), mj_u, .int (iI (i : Int)), u6], [], Wd xs L A V Y, 0, 0) := by
    intro i
    induction i with
    | zero => intro _; exact ⟨_, r0⟩
    | succ i ih =>
      intro hi
      obtain ⟨u6, hr⟩ := ih (by omega)
      obtain ⟨⟨f0, f1, f2, f3, f4, f5⟩, fb, l1, l2⟩ := ht i (by omega)
      obtain ⟨e0, b1, b2⟩ := hH i (by omega)
      have hc : (iI (i : Int)).toNatClampNeg = i := cl_nat (by omega)
      have hin : vp_in (iI (i : Int)) 256 := in_nat (by omega) (by omega)
      have g0 := fb 0 (by omega)
      have g1 := fb 1 (by omega)
      have g2 := fb 2 (by omega)
      have g3 := fb 3 (by omega)
      have g4 := fb 4 (by omega)
      have s0 := hr
      have s1 := r_tr s0 (r_to (g' := (38, [.ref (mj_NE + 0), .long (lI d), mj_u, .long (lI (dfF H lv tv d i) * lI 31 + (A 0 (iI (i : Int)).toNatClampNeg).toInt64), mj_u, .int (iI (i : Int)), .int (iI 0)], [], Wd xs L A V Y, 0, 0)) ok_W_digestOfFields 38 [false] rfl ⟨br_ge hV ⟨by omega, by omega⟩ ⟨by omega, by omega⟩ (by omega), hin, trivial⟩)
      rw [hc, e0, iI_l ⟨by omega, by omega⟩, lI_mul, lI_add] at s1
      generalize hX : dfF H lv tv d i * 31 + H i = X at *
      have s2 := r_tr s1 (r_to (g' := (57, [.ref (mj_NE + 0), .long (lI d), mj_u, .long (lI X), mj_u, .int (iI (i : Int)), .int (iI 0)], [.int (iI 0), .int (iI (i : Int)), .ref (mj_NE + 5), .long (lI X * lI 31)], Wd xs L A V Y, 0, 0)) ok_W_digestOfFields 9999 [false] rfl ⟨by show ¬ (iI 4 < iI 0); rw [iI_lt ⟨by omega, by omega⟩ ⟨by omega, by omega⟩]; omega, trivial⟩)
      rw [lI_mul] at s2
      have s3 := r_tr s2 (q_V ok_W_digestOfFields ok_Streams_told se_Streams_told (c_told0 (by omega)) rfl rfl rfl rfl rfl ⟨rfl, rfl, rfl⟩)
      rw [f0] at s3
      have s4 := r_tr s3 (r_to (g' := (38, [.ref (mj_NE + 0), .long (lI d), mj_u, .long (lI (X * 31) + (iI (tv 0 i)).toInt64), mj_u, .int (iI (i : Int)), .int (iI 0 + 1)], [], Wd xs L A V Y, 0, 0)) ok_W_digestOfFields 38 [] rfl trivial)
      rw [iI_l ⟨by omega, by omega⟩, lI_add, iI_1, show (0 : Int) + 1 = 1 from rfl] at s4
      generalize hX0 : X * 31 + tv 0 i = X0 at *
      have s5 := r_tr s4 (r_to (g' := (57, [.ref (mj_NE + 0), .long (lI d), mj_u, .long (lI X0), mj_u, .int (iI (i : Int)), .int (iI 1)], [.int (iI 1), .int (iI (i : Int)), .ref (mj_NE + 5), .long (lI X0 * lI 31)], Wd xs L A V Y, 0, 0)) ok_W_digestOfFields 9999 [false] rfl ⟨by show ¬ (iI 4 < iI 1); rw [iI_lt ⟨by omega, by omega⟩ ⟨by omega, by omega⟩]; omega, trivial⟩)
      rw [lI_mul] at s5
      have s6 := r_tr s5 (q_V ok_W_digestOfFields ok_Streams_told se_Streams_told (c_told1 (by omega)) rfl rfl rfl rfl rfl ⟨rfl, rfl, rfl⟩)
      rw [f1] at s6
      have s7 := r_tr s6 (r_to (g' := (38, [.ref (mj_NE + 0), .long (lI d), mj_u, .long (lI (X0 * 31) + (iI (tv 1 i)).toInt64), mj_u, .int (iI (i : Int)), .int (iI 1 + 1)], [], Wd xs L A V Y, 0, 0)) ok_W_digestOfFields 38 [] rfl trivial)
      rw [iI_l ⟨by omega, by omega⟩, lI_add, iI_1, show (1 : Int) + 1 = 2 from rfl] at s7
      generalize hX1 : X0 * 31 + tv 1 i = X1 at *
      have s8 := r_tr s7 (r_to (g' := (57, [.ref (mj_NE + 0), .long (lI d), mj_u, .long (lI X1), mj_u, .int (iI (i : Int)), .int (iI 2)], [.int (iI 2), .int (iI (i : Int)), .ref (mj_NE + 5), .long (lI X1 * lI 31)], Wd xs L A V Y, 0, 0)) ok_W_digestOfFields 9999 [false] rfl ⟨by show ¬ (iI 4 < iI 2); rw [iI_lt ⟨by omega, by omega⟩ ⟨by omega, by omega⟩]; omega, trivial⟩)
      rw [lI_mul] at s8
      have s9 := r_tr s8 (q_V ok_W_digestOfFields ok_Streams_told se_Streams_told (c_told2 (by omega)) rfl rfl rfl rfl rfl ⟨rfl, rfl, rfl⟩)
      rw [f2] at s9
      have s10 := r_tr s9 (r_to (g' := (38, [.ref (mj_NE + 0), .long (lI d), mj_u, .long (lI (X1 * 31) + (iI (tv 2 i)).toInt64), mj_u, .int (iI (i : Int)), .int (iI 2 + 1)], [], Wd xs L A V Y, 0, 0)) ok_W_digestOfFields 38 [] rfl trivial)
      rw [iI_l ⟨by omega, by omega⟩, lI_add, iI_1, show (2 : Int) + 1 = 3 from rfl] at s10
      generalize hX2 : X1 * 31 + tv 2 i = X2 at *
      have s11 := r_tr s10 (r_to (g' := (57, [.ref (mj_NE + 0), .long (lI d), mj_u, .long (lI X2), mj_u, .int (iI (i : Int)), .int (iI 3)], [.int (iI 3), .int (iI (i : Int)), .ref (mj_NE + 5), .long (lI X2 * lI 31)], Wd xs L A V Y, 0, 0)) ok_W_digestOfFields 9999 [false] rfl ⟨by show ¬ (iI 4 < iI 3); rw [iI_lt ⟨by omega, by omega⟩ ⟨by omega, by omega⟩]; omega, trivial⟩)
      rw [lI_mul] at s11
      have s12 := r_tr s11 (q_V ok_W_digestOfFields ok_Streams_told se_Streams_told (c_told3 (by omega)) rfl rfl rfl rfl rfl ⟨rfl, rfl, rfl⟩)
      rw [f3] at s12
      have s13 := r_tr s12 (r_to (g' := (38, [.ref (mj_NE + 0), .long (lI d), mj_u, .long (lI (X2 * 31) + (iI (tv 3 i)).toInt64), mj_u, .int (iI (i : Int)), .int (iI 3 + 1)], [], Wd xs L A V Y, 0, 0)) ok_W_digestOfFields 38 [] rfl trivial)
      rw [iI_l ⟨by omega, by omega⟩, lI_add, iI_1, show (3 : Int) + 1 = 4 from rfl] at s13
      generalize hX3 : X2 * 31 + tv 3 i = X3 at *
      have s14 := r_tr s13 (r_to (g' := (57, [.ref (mj_NE + 0), .long (lI d), mj_u, .long (lI X3), mj_u, .int (iI (i : Int)), .int (iI 4)], [.int (iI 4), .int (iI (i : Int)), .ref (mj_NE + 5), .long (lI X3 * lI 31)], Wd xs L A V Y, 0, 0)) ok_W_digestOfFields 9999 [false] rfl ⟨by show ¬ (iI 4 < iI 4); rw [iI_lt ⟨by omega, by omega⟩ ⟨by omega, by omega⟩]; omega, trivial⟩)
      rw [lI_mul] at s14
      have s15 := r_tr s14 (q_V ok_W_digestOfFields ok_Streams_told se_Streams_told (c_told4 (by omega)) rfl rfl rfl rfl rfl ⟨rfl, rfl, rfl⟩)
      rw [f4] at s15
      have s16 := r_tr s15 (r_to (g' := (38, [.ref (mj_NE + 0), .long (lI d), mj_u, .long (lI (X3 * 31) + (iI (tv 4 i)).toInt64), mj_u, .int (iI (i : Int)), .int (iI 4 + 1)], [], Wd xs L A V Y, 0, 0)) ok_W_digestOfFields 38 [] rfl trivial)
      rw [iI_l ⟨by omega, by omega⟩, lI_add, iI_1, show (4 : Int) + 1 = 5 from rfl] at s16
      generalize hX4 : X3 * 31 + tv 4 i = X4 at *
      have s17 := r_tr s16 (r_to (g' := (5, [.ref (mj_NE + 0), .long (lI d), mj_u, .long (lI X4 * lI 31 + (A 13 (iI (i : Int)).toNatClampNeg).toInt64), mj_u, .int (iI (i : Int) + 1), .int (iI 5)], [], Wd xs L A V Y, 0, 0)) ok_W_digestOfFields 5 [true] rfl ⟨by show iI 4 < iI 5; rw [iI_lt ⟨by omega, by omega⟩ ⟨by omega, by omega⟩]; omega, hin, trivial⟩)
      rw [hc, f5, iI_l ⟨by omega, by omega⟩, lI_mul, lI_add, iI_1] at s17
      have e : dfF H lv tv d (i + 1) = X4 * 31 + lv i := by rw [dfF, hX, hX0, hX1, hX2, hX3, hX4]
      rw [e]
      exact ⟨_, s17⟩
  obtain ⟨u6, hr⟩ := lp n (Nat.le_refl _)
  exact ct_of ok_W_digestOfFields rfl (r_tr hr (r_to ok_W_digestOfFields 9999 [true] rfl ⟨br_lt hV ⟨by omega, by omega⟩ ⟨by omega, by omega⟩ (by omega), trivial⟩)) rfl rfl rfl rfl rfl
/-- what told answers where no water goes on -/
def tvF (w h : Int) (H : Nat → Int) (b : Int) (od : Nat → Nat) (n : Nat) (k i : Nat) : Int := match k with
  | 0 => drF w h H i
  | 1 => (pdK b (nxF w h H) od n).1 i
  | 2 => i
  | 3 => (pdK b (nxF w h H) od n).2.1 i
  | _ => 0
def digF (w h : Int) (H : Nat → Int) (b : Int) (od : Nat → Nat) (n : Nat) : Int := dfF H H (tvF w h H b od n) (((((((dgF (fun k => toldH w h H n k) 58078 5 * 31 + cnt (fun j => decide (drF w h H j = 8)) n + cnt (fun j => decide (drF w h H j = 9)) n) * 31 + cnt (fun j => decide (drF w h H j = 9)) n) * 31 + mxH (pdK b (nxF w h H) od n).2.1 n) * 31 + mxH (pdK b (nxF w h H) od n).2.2.1 n) * 31 + 0) * 31 + 0) * 31 * 31 * 31 * 31 * 31 * 31 * 31 * 31 * 31) n
set_option maxHeartbeats 2000000 in
theorem f_digest0 {b : Int} (hbr : V 10 = iI b) (hb : 1 ≤ b ∧ b ≤ 100) (hno : ∀ lev, LvOK w h n H lev → ∀ j, j < n → lev j = H j) (hle : ∀ j, j < n → H j ≤ 100) (hfl : ∀ v, v < n → nxF w h H v < 0) (hL : LdOK w h n H A V) : ∃ (A5 : Nat → Nat → Int32) (V5 : Nat → Int32) (od : Nat → Nat), OrdOK n (nxF w h H) od ∧ mj_Ct m_W_digest [.ref (mj_NE + 0)] (Wd xs L A V Y) (some (.long (lI (digF w h H b od n)))) (Wd xs L A5 V5 Y) 0 0 6 := by
  obtain ⟨h0, h1, hV, hnw, hw, hh, hN, hH⟩ := hL
  have wh := wh_bd hw hh
  obtain ⟨A1, V1, od, hR, k1, q1, hct1⟩ := c_run (xs := xs) (L := L) (A := A) (V := V) (Y := Y) (b := b) hV hw hh hnw hN hH ⟨by omega, by omega⟩
  have e0 : A1 0 = A 0 := k1 0 (by omega)
  have e2 : A1 2 = A 2 := k1 2 (by omega)
  have hV1 : V1 2 = iI n := by rw [q1 2 (by omega)]; exact hV
  obtain ⟨A2, V2, hl, ka, kv, h4, hct2⟩ := c_find0 (xs := xs) (L := L) (A := A1) (V := V1) (Y := Y) hV1 hw hh hnw (by rw [e2]; exact hN) (by rw [e0]; exact hH) hno
  have a2 : ∀ k, k < 13 → A2 k = A1 k := fun k hk => ka k (by omega) (by omega) (by omega)
  have hL2 : LdOK w h n H A2 V2 := LdOK.keep (A := A) (V := V) ⟨h0, h1, hV, hnw, hw, hh, hN, hH⟩ (by rw [a2 0 (by omega), e0]) (by rw [a2 2 (by omega), e2]) (by rw [kv 0 (by omega) (by omega)]; exact q1 0 (by omega)) (by rw [kv 1 (by omega) (by omega)]; exact q1 1 (by omega)) (by rw [kv 2 (by omega) (by omega)]; exact q1 2 (by omega))
  have hdrb : ∀ i : Nat, i < n → 0 ≤ drF w h H i ∧ drF w h H i ≤ 9 := fun i hi => by have := chD_bd hw hh hnw (fun j hj => (hH j hj).2) hi 8 (Nat.le_refl _); unfold drF; omega
  have hnxb : ∀ i : Nat, i < n → -1 ≤ nxF w h H i ∧ nxF w h H i < n := fun i hi => by have := chD_bd hw hh hnw (fun j hj => (hH j hj).2) hi 8 (Nat.le_refl _); unfold nxF; omega
  have hpd := (pd_inv (b := b) hR.1 hnxb n (Nat.le_refl _)).2
  have hco : mj_Ct m_Hollows_content [.ref (mj_NE + 16)] (Wd xs L A2 V2 Y) (some (.int (iI 0))) (Wd xs L A2 V2 Y) 0 0 1 := by
    have := c_content (xs := xs) (L := L) (A := A2) (V := V2) (Y := Y) (lev := H) (H := H) hL2.2.2.1 (by omega) hl (fun j hj => (hL2.2.2.2.2.2.2.2 j hj).1)
    rw [smH_z n (fun j _ => Int.sub_self _)] at this
    exact this
  have hdm := c_digestOfMap (xs := xs) (L := L) (A := A2) (V := V2) (Y := Y) (d := 58078) (dr := drF w h H) (R0 := (pdK b (nxF w h H) od n).2.1) (L0 := (pdK b (nxF w h H) od n).2.2.1) (lc := 0) (ct := 0) hL2 (fun i hi => ⟨by rw [a2 3 (by omega)]; exact (hR.2.1 i hi).1, hdrb i hi⟩) (fun i hi => ⟨by rw [a2 8 (by omega)]; exact (hR.2.2.1 i hi).2.1, by have := (hpd i hi).2.1; omega, by have := (hpd i hi).2.1; omega⟩) (fun i hi => ⟨by rw [a2 9 (by omega)]; exact (hR.2.2.1 i hi).2.2.1, by have := (hpd i hi).2.2; omega, by have := (hpd i hi).2.2; omega⟩) h4 ⟨by omega, by omega⟩ hco ⟨by omega, by omega⟩
  have hd0 : V2 0 = iI w ∧ V2 1 = iI h ∧ Hts (A2 0) n H := ⟨hL2.1, hL2.2.1, hL2.2.2.2.2.2.2.2⟩
  have s1 := r_to (RC := 0) (RS := 0) (dd := 6) (g := (0, [.ref (mj_NE + 0), mj_u, mj_u, mj_u, mj_u], [], Wd xs L A V Y, 0, 0)) (g' := (8, [.ref (mj_NE + 0), mj_u, mj_u, mj_u, mj_u], [.int (V 10), .ref (mj_NE + 5)], Wd xs L A V Y, 0, 0)) ok_W_digest 9999 [] rfl trivial
  rw [hbr] at s1
  have s2 := r_tr s1 (q_V ok_W_digest ok_Streams_run se_Streams_run (hct1) rfl rfl rfl rfl rfl ⟨rfl, rfl, rfl⟩)
  have s3 := r_tr s2 (r_to (g' := (15, [.ref (mj_NE + 0), mj_u, mj_u, mj_u, mj_u], [.ref (mj_NE + 16)], Wd xs L A1 V1 Y, 0, 0)) ok_W_digest 9999 [] rfl trivial)
  have s4 := r_tr s3 (q_V ok_W_digest ok_Hollows_find se_Hollows_find (hct2) rfl rfl rfl rfl rfl ⟨rfl, rfl, rfl⟩)
  have s5 := r_tr s4 (r_to (g' := (22, [.ref (mj_NE + 0), mj_u, mj_u, mj_u, mj_u], [.long (lI 58078), .ref (mj_NE + 0)], Wd xs L A2 V2 Y, 0, 0)) ok_W_digest 9999 [] rfl trivial)
  have s6 := r_tr s5 (q_V ok_W_digest ok_W_digestOfMap se_W_digestOfMap (hdm) rfl rfl rfl rfl rfl ⟨rfl, rfl, rfl⟩)
  generalize hDM : (((((dgF (fun k => toldH w h H n k) 58078 5 * 31 + cnt (fun j => decide (drF w h H j = 8)) n + cnt (fun j => decide (drF w h H j = 9)) n) * 31 + cnt (fun j => decide (drF w h H j = 9)) n) * 31 + mxH (pdK b (nxF w h H) od n).2.1 n) * 31 + mxH (pdK b (nxF w h H) od n).2.2.1 n) * 31 + 0) * 31 + 0 = DM at *
  have s7 := r_tr s6 (r_to (g' := (28, [.ref (mj_NE + 0), .long (lI DM), mj_u, .int (iI 0), mj_u], [], Wd xs L A2 V2 Y, 0, 0)) ok_W_digest 28 [] rfl trivial)
  have s8 := r_tr s7 (r_to (g' := (45, [.ref (mj_NE + 0), .long (lI DM), mj_u, .int (iI 0), mj_u], [.int (mj_s2 (iI 0).toNatClampNeg), .ref (mj_NE + 22)], Wd xs L A2 V2 Y, 0, 0)) ok_W_digest 9999 [false] rfl ⟨by show ¬ (iI 3 ≤ iI 0); rw [iI_le ⟨by omega, by omega⟩ ⟨by omega, by omega⟩]; omega, by show vp_in (iI 0) 3; exact in_nat (n := 0) (by omega) (by omega), trivial⟩)
  rw [show mj_s2 (iI 0).toNatClampNeg = iI 100 by decide +kernel] at s8
  obtain ⟨A3, V3, ka0, kv0, v60, v70, v80, hct3⟩ := c_draw0 (xs := xs) (L := L) (A := A2) (V := V2) (Y := Y) (c := 100) hd0.1 hd0.2.1 hw hh hnw hd0.2.2 ⟨by omega, by omega⟩ (fun j hj => by have := hle j hj; omega)
  have s9 := r_tr s8 (q_V ok_W_digest ok_Contours_draw se_Contours_draw (hct3) rfl rfl rfl rfl rfl ⟨rfl, rfl, rfl⟩)
  have hd1 : V3 0 = iI w ∧ V3 1 = iI h ∧ Hts (A3 0) n H := ⟨by rw [kv0 0 (by omega) (by omega) (by omega)]; exact hd0.1, by rw [kv0 1 (by omega) (by omega) (by omega)]; exact hd0.2.1, by rw [ka0 0 (by omega) (by omega)]; exact hd0.2.2⟩
  have s10 := r_tr s9 (r_to (g' := (51, [.ref (mj_NE + 0), .long (lI DM), mj_u, .int (iI 0), .int (iI 0)], [], Wd xs L A3 V3 Y, 0, 0)) ok_W_digest 51 [] rfl trivial)
  have s11 := r_tr s10 (r_to (g' := (68, [.ref (mj_NE + 0), .long (lI DM), mj_u, .int (iI 0), .int (iI 0)], [.int (iI 0), .ref (mj_NE + 22), .long (lI DM * lI 31)], Wd xs L A3 V3 Y, 0, 0)) ok_W_digest 9999 [false] rfl ⟨by show ¬ (iI 2 < iI 0); rw [iI_lt ⟨by omega, by omega⟩ ⟨by omega, by omega⟩]; omega, trivial⟩)
  rw [lI_mul] at s11
  have s12 := r_tr s11 (q_V ok_W_digest ok_Contours_told se_Contours_told (c_Ctold0 v60 v70 v80 ⟨by omega, by omega⟩) rfl rfl rfl rfl rfl ⟨rfl, rfl, rfl⟩)
  have s13 := r_tr s12 (r_to (g' := (51, [.ref (mj_NE + 0), .long (lI (DM * 31) + (iI 0).toInt64), mj_u, .int (iI 0), .int (iI 0 + 1)], [], Wd xs L A3 V3 Y, 0, 0)) ok_W_digest 51 [] rfl trivial)
  rw [iI_l ⟨by omega, by omega⟩, lI_add, iI_1, show (0 : Int) + 1 = 1 from rfl, Int.add_zero] at s13
  generalize hC00 : DM * 31 = C00 at *
  have s14 := r_tr s13 (r_to (g' := (68, [.ref (mj_NE + 0), .long (lI C00), mj_u, .int (iI 0), .int (iI 1)], [.int (iI 1), .ref (mj_NE + 22), .long (lI C00 * lI 31)], Wd xs L A3 V3 Y, 0, 0)) ok_W_digest 9999 [false] rfl ⟨by show ¬ (iI 2 < iI 1); rw [iI_lt ⟨by omega, by omega⟩ ⟨by omega, by omega⟩]; omega, trivial⟩)
  rw [lI_mul] at s14
  have s15 := r_tr s14 (q_V ok_W_digest ok_Contours_told se_Contours_told (c_Ctold0 v60 v70 v80 ⟨by omega, by omega⟩) rfl rfl rfl rfl rfl ⟨rfl, rfl, rfl⟩)
  have s16 := r_tr s15 (r_to (g' := (51, [.ref (mj_NE + 0), .long (lI (C00 * 31) + (iI 0).toInt64), mj_u, .int (iI 0), .int (iI 1 + 1)], [], Wd xs L A3 V3 Y, 0, 0)) ok_W_digest 51 [] rfl trivial)
  rw [iI_l ⟨by omega, by omega⟩, lI_add, iI_1, show (1 : Int) + 1 = 2 from rfl, Int.add_zero] at s16
  generalize hC01 : C00 * 31 = C01 at *
  have s17 := r_tr s16 (r_to (g' := (68, [.ref (mj_NE + 0), .long (lI C01), mj_u, .int (iI 0), .int (iI 2)], [.int (iI 2), .ref (mj_NE + 22), .long (lI C01 * lI 31)], Wd xs L A3 V3 Y, 0, 0)) ok_W_digest 9999 [false] rfl ⟨by show ¬ (iI 2 < iI 2); rw [iI_lt ⟨by omega, by omega⟩ ⟨by omega, by omega⟩]; omega, trivial⟩)
  rw [lI_mul] at s17
  have s18 := r_tr s17 (q_V ok_W_digest ok_Contours_told se_Contours_told (c_Ctold0 v60 v70 v80 ⟨by omega, by omega⟩) rfl rfl rfl rfl rfl ⟨rfl, rfl, rfl⟩)
  have s19 := r_tr s18 (r_to (g' := (51, [.ref (mj_NE + 0), .long (lI (C01 * 31) + (iI 0).toInt64), mj_u, .int (iI 0), .int (iI 2 + 1)], [], Wd xs L A3 V3 Y, 0, 0)) ok_W_digest 51 [] rfl trivial)
  rw [iI_l ⟨by omega, by omega⟩, lI_add, iI_1, show (2 : Int) + 1 = 3 from rfl, Int.add_zero] at s19
  generalize hC02 : C01 * 31 = C02 at *
  have s20 := r_tr s19 (r_to (g' := (28, [.ref (mj_NE + 0), .long (lI C02), mj_u, .int (iI 0 + 1), .int (iI 3)], [], Wd xs L A3 V3 Y, 0, 0)) ok_W_digest 28 [true] rfl ⟨by show iI 2 < iI 3; rw [iI_lt ⟨by omega, by omega⟩ ⟨by omega, by omega⟩]; omega, trivial⟩)
  rw [iI_1, show (0 : Int) + 1 = 1 from rfl] at s20
  have s21 := r_tr s20 (r_to (g' := (45, [.ref (mj_NE + 0), .long (lI C02), mj_u, .int (iI 1), .int (iI 3)], [.int (mj_s2 (iI 1).toNatClampNeg), .ref (mj_NE + 22)], Wd xs L A3 V3 Y, 0, 0)) ok_W_digest 9999 [false] rfl ⟨by show ¬ (iI 3 ≤ iI 1); rw [iI_le ⟨by omega, by omega⟩ ⟨by omega, by omega⟩]; omega, by show vp_in (iI 1) 3; exact in_nat (n := 1) (by omega) (by omega), trivial⟩)
  rw [show mj_s2 (iI 1).toNatClampNeg = iI 200 by decide +kernel] at s21
  obtain ⟨A4, V4, ka1, kv1, v61, v71, v81, hct4⟩ := c_draw0 (xs := xs) (L := L) (A := A3) (V := V3) (Y := Y) (c := 200) hd1.1 hd1.2.1 hw hh hnw hd1.2.2 ⟨by omega, by omega⟩ (fun j hj => by have := hle j hj; omega)
  have s22 := r_tr s21 (q_V ok_W_digest ok_Contours_draw se_Contours_draw (hct4) rfl rfl rfl rfl rfl ⟨rfl, rfl, rfl⟩)
  have hd2 : V4 0 = iI w ∧ V4 1 = iI h ∧ Hts (A4 0) n H := ⟨by rw [kv1 0 (by omega) (by omega) (by omega)]; exact hd1.1, by rw [kv1 1 (by omega) (by omega) (by omega)]; exact hd1.2.1, by rw [ka1 0 (by omega) (by omega)]; exact hd1.2.2⟩
  have s23 := r_tr s22 (r_to (g' := (51, [.ref (mj_NE + 0), .long (lI C02), mj_u, .int (iI 1), .int (iI 0)], [], Wd xs L A4 V4 Y, 0, 0)) ok_W_digest 51 [] rfl trivial)
  have s24 := r_tr s23 (r_to (g' := (68, [.ref (mj_NE + 0), .long (lI C02), mj_u, .int (iI 1), .int (iI 0)], [.int (iI 0), .ref (mj_NE + 22), .long (lI C02 * lI 31)], Wd xs L A4 V4 Y, 0, 0)) ok_W_digest 9999 [false] rfl ⟨by show ¬ (iI 2 < iI 0); rw [iI_lt ⟨by omega, by omega⟩ ⟨by omega, by omega⟩]; omega, trivial⟩)
  rw [lI_mul] at s24
  have s25 := r_tr s24 (q_V ok_W_digest ok_Contours_told se_Contours_told (c_Ctold0 v61 v71 v81 ⟨by omega, by omega⟩) rfl rfl rfl rfl rfl ⟨rfl, rfl, rfl⟩)
  have s26 := r_tr s25 (r_to (g' := (51, [.ref (mj_NE + 0), .long (lI (C02 * 31) + (iI 0).toInt64), mj_u, .int (iI 1), .int (iI 0 + 1)], [], Wd xs L A4 V4 Y, 0, 0)) ok_W_digest 51 [] rfl trivial)
  rw [iI_l ⟨by omega, by omega⟩, lI_add, iI_1, show (0 : Int) + 1 = 1 from rfl, Int.add_zero] at s26
  generalize hC10 : C02 * 31 = C10 at *
  have s27 := r_tr s26 (r_to (g' := (68, [.ref (mj_NE + 0), .long (lI C10), mj_u, .int (iI 1), .int (iI 1)], [.int (iI 1), .ref (mj_NE + 22), .long (lI C10 * lI 31)], Wd xs L A4 V4 Y, 0, 0)) ok_W_digest 9999 [false] rfl ⟨by show ¬ (iI 2 < iI 1); rw [iI_lt ⟨by omega, by omega⟩ ⟨by omega, by omega⟩]; omega, trivial⟩)
  rw [lI_mul] at s27
  have s28 := r_tr s27 (q_V ok_W_digest ok_Contours_told se_Contours_told (c_Ctold0 v61 v71 v81 ⟨by omega, by omega⟩) rfl rfl rfl rfl rfl ⟨rfl, rfl, rfl⟩)
  have s29 := r_tr s28 (r_to (g' := (51, [.ref (mj_NE + 0), .long (lI (C10 * 31) + (iI 0).toInt64), mj_u, .int (iI 1), .int (iI 1 + 1)], [], Wd xs L A4 V4 Y, 0, 0)) ok_W_digest 51 [] rfl trivial)
  rw [iI_l ⟨by omega, by omega⟩, lI_add, iI_1, show (1 : Int) + 1 = 2 from rfl, Int.add_zero] at s29
  generalize hC11 : C10 * 31 = C11 at *
  have s30 := r_tr s29 (r_to (g' := (68, [.ref (mj_NE + 0), .long (lI C11), mj_u, .int (iI 1), .int (iI 2)], [.int (iI 2), .ref (mj_NE + 22), .long (lI C11 * lI 31)], Wd xs L A4 V4 Y, 0, 0)) ok_W_digest 9999 [false] rfl ⟨by show ¬ (iI 2 < iI 2); rw [iI_lt ⟨by omega, by omega⟩ ⟨by omega, by omega⟩]; omega, trivial⟩)
  rw [lI_mul] at s30
  have s31 := r_tr s30 (q_V ok_W_digest ok_Contours_told se_Contours_told (c_Ctold0 v61 v71 v81 ⟨by omega, by omega⟩) rfl rfl rfl rfl rfl ⟨rfl, rfl, rfl⟩)
  have s32 := r_tr s31 (r_to (g' := (51, [.ref (mj_NE + 0), .long (lI (C11 * 31) + (iI 0).toInt64), mj_u, .int (iI 1), .int (iI 2 + 1)], [], Wd xs L A4 V4 Y, 0, 0)) ok_W_digest 51 [] rfl trivial)
  rw [iI_l ⟨by omega, by omega⟩, lI_add, iI_1, show (2 : Int) + 1 = 3 from rfl, Int.add_zero] at s32
  generalize hC12 : C11 * 31 = C12 at *
  have s33 := r_tr s32 (r_to (g' := (28, [.ref (mj_NE + 0), .long (lI C12), mj_u, .int (iI 1 + 1), .int (iI 3)], [], Wd xs L A4 V4 Y, 0, 0)) ok_W_digest 28 [true] rfl ⟨by show iI 2 < iI 3; rw [iI_lt ⟨by omega, by omega⟩ ⟨by omega, by omega⟩]; omega, trivial⟩)
  rw [iI_1, show (1 : Int) + 1 = 2 from rfl] at s33
  have s34 := r_tr s33 (r_to (g' := (45, [.ref (mj_NE + 0), .long (lI C12), mj_u, .int (iI 2), .int (iI 3)], [.int (mj_s2 (iI 2).toNatClampNeg), .ref (mj_NE + 22)], Wd xs L A4 V4 Y, 0, 0)) ok_W_digest 9999 [false] rfl ⟨by show ¬ (iI 3 ≤ iI 2); rw [iI_le ⟨by omega, by omega⟩ ⟨by omega, by omega⟩]; omega, by show vp_in (iI 2) 3; exact in_nat (n := 2) (by omega) (by omega), trivial⟩)
  rw [show mj_s2 (iI 2).toNatClampNeg = iI 400 by decide +kernel] at s34
  obtain ⟨A5, V5, ka2, kv2, v62, v72, v82, hct5⟩ := c_draw0 (xs := xs) (L := L) (A := A4) (V := V4) (Y := Y) (c := 400) hd2.1 hd2.2.1 hw hh hnw hd2.2.2 ⟨by omega, by omega⟩ (fun j hj => by have := hle j hj; omega)
  have s35 := r_tr s34 (q_V ok_W_digest ok_Contours_draw se_Contours_draw (hct5) rfl rfl rfl rfl rfl ⟨rfl, rfl, rfl⟩)
  have hd3 : V5 0 = iI w ∧ V5 1 = iI h ∧ Hts (A5 0) n H := ⟨by rw [kv2 0 (by omega) (by omega) (by omega)]; exact hd2.1, by rw [kv2 1 (by omega) (by omega) (by omega)]; exact hd2.2.1, by rw [ka2 0 (by omega) (by omega)]; exact hd2.2.2⟩
  have s36 := r_tr s35 (r_to (g' := (51, [.ref (mj_NE + 0), .long (lI C12), mj_u, .int (iI 2), .int (iI 0)], [], Wd xs L A5 V5 Y, 0, 0)) ok_W_digest 51 [] rfl trivial)
  have s37 := r_tr s36 (r_to (g' := (68, [.ref (mj_NE + 0), .long (lI C12), mj_u, .int (iI 2), .int (iI 0)], [.int (iI 0), .ref (mj_NE + 22), .long (lI C12 * lI 31)], Wd xs L A5 V5 Y, 0, 0)) ok_W_digest 9999 [false] rfl ⟨by show ¬ (iI 2 < iI 0); rw [iI_lt ⟨by omega, by omega⟩ ⟨by omega, by omega⟩]; omega, trivial⟩)
  rw [lI_mul] at s37
  have s38 := r_tr s37 (q_V ok_W_digest ok_Contours_told se_Contours_told (c_Ctold0 v62 v72 v82 ⟨by omega, by omega⟩) rfl rfl rfl rfl rfl ⟨rfl, rfl, rfl⟩)
  have s39 := r_tr s38 (r_to (g' := (51, [.ref (mj_NE + 0), .long (lI (C12 * 31) + (iI 0).toInt64), mj_u, .int (iI 2), .int (iI 0 + 1)], [], Wd xs L A5 V5 Y, 0, 0)) ok_W_digest 51 [] rfl trivial)
  rw [iI_l ⟨by omega, by omega⟩, lI_add, iI_1, show (0 : Int) + 1 = 1 from rfl, Int.add_zero] at s39
  generalize hC20 : C12 * 31 = C20 at *
  have s40 := r_tr s39 (r_to (g' := (68, [.ref (mj_NE + 0), .long (lI C20), mj_u, .int (iI 2), .int (iI 1)], [.int (iI 1), .ref (mj_NE + 22), .long (lI C20 * lI 31)], Wd xs L A5 V5 Y, 0, 0)) ok_W_digest 9999 [false] rfl ⟨by show ¬ (iI 2 < iI 1); rw [iI_lt ⟨by omega, by omega⟩ ⟨by omega, by omega⟩]; omega, trivial⟩)
  rw [lI_mul] at s40
  have s41 := r_tr s40 (q_V ok_W_digest ok_Contours_told se_Contours_told (c_Ctold0 v62 v72 v82 ⟨by omega, by omega⟩) rfl rfl rfl rfl rfl ⟨rfl, rfl, rfl⟩)
  have s42 := r_tr s41 (r_to (g' := (51, [.ref (mj_NE + 0), .long (lI (C20 * 31) + (iI 0).toInt64), mj_u, .int (iI 2), .int (iI 1 + 1)], [], Wd xs L A5 V5 Y, 0, 0)) ok_W_digest 51 [] rfl trivial)
  rw [iI_l ⟨by omega, by omega⟩, lI_add, iI_1, show (1 : Int) + 1 = 2 from rfl, Int.add_zero] at s42
  generalize hC21 : C20 * 31 = C21 at *
  have s43 := r_tr s42 (r_to (g' := (68, [.ref (mj_NE + 0), .long (lI C21), mj_u, .int (iI 2), .int (iI 2)], [.int (iI 2), .ref (mj_NE + 22), .long (lI C21 * lI 31)], Wd xs L A5 V5 Y, 0, 0)) ok_W_digest 9999 [false] rfl ⟨by show ¬ (iI 2 < iI 2); rw [iI_lt ⟨by omega, by omega⟩ ⟨by omega, by omega⟩]; omega, trivial⟩)
  rw [lI_mul] at s43
  have s44 := r_tr s43 (q_V ok_W_digest ok_Contours_told se_Contours_told (c_Ctold0 v62 v72 v82 ⟨by omega, by omega⟩) rfl rfl rfl rfl rfl ⟨rfl, rfl, rfl⟩)
  have s45 := r_tr s44 (r_to (g' := (51, [.ref (mj_NE + 0), .long (lI (C21 * 31) + (iI 0).toInt64), mj_u, .int (iI 2), .int (iI 2 + 1)], [], Wd xs L A5 V5 Y, 0, 0)) ok_W_digest 51 [] rfl trivial)
  rw [iI_l ⟨by omega, by omega⟩, lI_add, iI_1, show (2 : Int) + 1 = 3 from rfl, Int.add_zero] at s45
  generalize hC22 : C21 * 31 = C22 at *
  have s46 := r_tr s45 (r_to (g' := (28, [.ref (mj_NE + 0), .long (lI C22), mj_u, .int (iI 2 + 1), .int (iI 3)], [], Wd xs L A5 V5 Y, 0, 0)) ok_W_digest 28 [true] rfl ⟨by show iI 2 < iI 3; rw [iI_lt ⟨by omega, by omega⟩ ⟨by omega, by omega⟩]; omega, trivial⟩)
  rw [iI_1, show (2 : Int) + 1 = 3 from rfl] at s46
  have s47 := r_tr s46 (r_to (g' := (88, [.ref (mj_NE + 0), .long (lI C22), mj_u, .int (iI 3), .int (iI 3)], [.long (lI C22), .ref (mj_NE + 0)], Wd xs L A5 V5 Y, 0, 0)) ok_W_digest 9999 [true] rfl ⟨by show iI 3 ≤ iI 3; exact Int32.le_refl _, trivial⟩)
  have k5 : ∀ k, k ≠ 16 → k ≠ 17 → A5 k = A2 k := fun k k1 k2 => by rw [ka2 k k1 k2, ka1 k k1 k2, ka0 k k1 k2]
  have q5 : ∀ k, k ≠ 6 → k ≠ 7 → k ≠ 8 → V5 k = V2 k := fun k k1 k2 k3 => by rw [kv2 k k1 k2 k3, kv1 k k1 k2 k3, kv0 k k1 k2 k3]
  have r5 : ∀ k, k < 13 → A5 k = A1 k := fun k hk => by rw [k5 k (by omega) (by omega), ka k (by omega) (by omega) (by omega)]
  have hL5 : LdOK w h n H A5 V5 := LdOK.keep (A := A) (V := V) ⟨h0, h1, hV, hnw, hw, hh, hN, hH⟩ (by rw [r5 0 (by omega)]; exact k1 0 (by omega)) (by rw [r5 2 (by omega)]; exact k1 2 (by omega)) (by rw [q5 0 (by omega) (by omega) (by omega), kv 0 (by omega) (by omega)]; exact q1 0 (by omega)) (by rw [q5 1 (by omega) (by omega) (by omega), kv 1 (by omega) (by omega)]; exact q1 1 (by omega)) (by rw [q5 2 (by omega) (by omega) (by omega), kv 2 (by omega) (by omega)]; exact q1 2 (by omega))
  have sl := fun hq => r_tr s47 (q_V ok_W_digest ok_W_digestOfFields se_W_digestOfFields (c_digestOfFields (lv := H) (tv := tvF w h H b od n) hL5 hq) rfl rfl rfl rfl rfl ⟨rfl, rfl, rfl⟩)
  refine ⟨A5, V5, od, hR.1, ?_⟩
  have ed : digF w h H b od n = dfF H H (tvF w h H b od n) C22 n := by
    unfold digF
    rw [hDM, hC00, hC01, hC02, hC10, hC11, hC12, hC20, hC21, hC22]
  rw [ed]
  refine ct_of ok_W_digest rfl (sl ?_) rfl rfl rfl rfl rfl
  intro i hi
  have c := hR.2.2.1 i hi
  have dE := (hR.2.2.2 i hi).1 (hfl i hi)
  have bp := hpd i hi
  have bD := hdrb i hi
  have bH := (hH i hi).2
  refine ⟨⟨?_, ?_, ?_, ?_, ?_, ?_⟩, fun k hk => ?_, by omega, by omega⟩
  · rw [r5 3 (by omega)]; exact (hR.2.1 i hi).1
  · rw [r5 5 (by omega)]; exact c.1
  · rw [r5 6 (by omega)]; exact dE.1
  · rw [r5 8 (by omega)]; exact c.2.1
  · rw [r5 7 (by omega)]; exact dE.2
  · rw [k5 13 (by omega) (by omega)]; exact hl i hi
  · unfold tvF
    split <;> omega
end DIG
