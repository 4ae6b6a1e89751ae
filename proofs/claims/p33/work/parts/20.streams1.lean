/-! Streams: one FIELD's direction, the small ones -/
theorem upd_upd {f : Nat → Int32} {i : Nat} {x y : Int32} : upd (upd f i x) i y = upd f i y := by
  funext j
  by_cases h : j = i <;> simp [upd, h]
theorem upd_eq {f : Nat → Int32} {i : Nat} {x : Int32} : upd f i x i = x := by simp [upd]
theorem upd_ne {f : Nat → Int32} {i j : Nat} {x : Int32} (h : j ≠ i) : upd f i x j = f j := by simp [upd, h]
/-- the greatest FALL so far, its DIRECTION (8 OUT, 9 a PIT), where it goes -/
def chD (w h : Int) (H : Nat → Int) (i : Nat) : Nat → Int × Int × Int
  | 0 => (0, if edgeB w h i = true then 8 else 9, -1)
  | d + 1 => if nbi w h i d < 0 then chD w h H i d else if (chD w h H i d).1 < (H i - H (nbi w h i d).toNat) * (if d % 2 = 1 then 7 else 10) then ((H i - H (nbi w h i d).toNat) * (if d % 2 = 1 then 7 else 10), d, nbi w h i d) else chD w h H i d
theorem chD_bd {w h : Int} {H : Nat → Int} {N i : Nat} (hw : 2 ≤ w ∧ w ≤ 16) (hh : 2 ≤ h ∧ h ≤ 16) (hN : (N : Int) = w * h) (hH : ∀ j, j < N → 0 ≤ H j ∧ H j ≤ 999) (hi : i < N) : ∀ d : Nat, d ≤ 8 → 0 ≤ (chD w h H i d).1 ∧ (chD w h H i d).1 ≤ 10000 ∧ 0 ≤ (chD w h H i d).2.1 ∧ (chD w h H i d).2.1 ≤ 9 ∧ -1 ≤ (chD w h H i d).2.2 ∧ (chD w h H i d).2.2 < N := by
  intro d
  induction d with
  | zero => intro _; unfold chD; dsimp only; split <;> omega
  | succ d ih =>
    intro hd
    have := ih (by omega)
    have bd := nbi_bd hw hh i d
    have a1 := hH i hi
    have cc : (if d % 2 = 1 then (7 : Int) else 10) = 7 ∨ (if d % 2 = 1 then (7 : Int) else 10) = 10 := by
      by_cases h1 : d % 2 = 1
      · rw [if_pos h1]; omega
      · rw [if_neg h1]; omega
    unfold chD
    generalize (if d % 2 = 1 then (7 : Int) else 10) = c at *
    by_cases hneg : nbi w h i d < 0
    · rw [if_pos hneg]
      exact this
    · rw [if_neg hneg]
      have a2 := hH (nbi w h i d).toNat (by omega)
      by_cases hf : (chD w h H i d).1 < (H i - H (nbi w h i d).toNat) * c
      · rw [if_pos hf]
        dsimp only
        rcases cc with rfl | rfl <;> omega
      · rw [if_neg hf]
        exact this
section STR1
variable {xs : Nat → Int32} {L : Nat} {A : Nat → Nat → Int32} {V : Nat → Int32} {Y : mj_H}
variable {w h : Int} {n : Nat} {H : Nat → Int}
set_option maxHeartbeats 1000000 in
theorem c_chooseDirection {i : Nat} (hw : 2 ≤ w ∧ w ≤ 16) (hh : 2 ≤ h ∧ h ≤ 16) (hnw : (n : Int) = w * h) (hN : nbOK w h (A 2) n) (hH : Hts (A 0) n H) (hi : i < n) : mj_Ct m_Streams_chooseDirection [.ref (mj_NE + 5), .int (iI i)] (Wd xs L A V Y) none (Wd xs L (wA (wA A 3 (upd (A 3) i (iI (chD w h H i 8).2.1))) 4 (upd (A 4) i (iI (chD w h H i 8).2.2))) V Y) 0 0 2 := by
  have wh := wh_bd hw hh
  have hH2 : ∀ j, j < n → 0 ≤ H j ∧ H j ≤ 999 := fun j hj => (hH j hj).2
  have hb := chD_bd hw hh hnw hH2 hi
  have hc : (iI i).toNatClampNeg = i := cl_nat (by omega)
  have hin : vp_in (iI i) 256 := in_nat (by omega) (by omega)
  have s1 := r_to (RC := 0) (RS := 0) (dd := 2) (g := (0, [.ref (mj_NE + 5), .int (iI i), mj_u, mj_u, mj_u, mj_u], [], Wd xs L A V Y, 0, 0)) (g' := (12, [.ref (mj_NE + 5), .int (iI i), .int (iI 0), mj_u, mj_u, mj_u], [.int (iI i), .ref (mj_NE + 1), .int (iI i), .ref (mj_NE + 6)], Wd xs L A V Y, 0, 0)) ok_Streams_chooseDirection 9999 [] rfl trivial
  have s2 := r_tr s1 (q_V ok_Streams_chooseDirection ok_Land_atEdge se_Land_atEdge (c_atEdge hw hh hN hi (by omega)) rfl rfl rfl rfl rfl ⟨rfl, rfl, rfl⟩)
  have s3 : mj_Rc m_Streams_chooseDirection 0 0 2 (15, [.ref (mj_NE + 5), .int (iI i), .int (iI 0), mj_u, mj_u, mj_u], [.int (bI (edgeB w h i)), .int (iI i), .ref (mj_NE + 6)], Wd xs L A V Y, 0, 0) (35, [.ref (mj_NE + 5), .int (iI i), .int (iI 0), .int 0, mj_u, mj_u], [], Wd xs L (wA (wA A 3 (upd (A 3) i (iI (chD w h H i 0).2.1))) 4 (upd (A 4) i (iI (chD w h H i 0).2.2))) V Y, 0, 0) := by
    have e0 : (chD w h H i 0).2.1 = if edgeB w h i = true then 8 else 9 := rfl
    have e1 : (chD w h H i 0).2.2 = -1 := rfl
    rw [e0, e1, ← iI_neg1]
    cases hE : edgeB w h i with
    | true =>
      have q : mj_Rc m_Streams_chooseDirection 0 0 2 (15, [.ref (mj_NE + 5), .int (iI i), .int (iI 0), mj_u, mj_u, mj_u], [.int (bI true), .int (iI i), .ref (mj_NE + 6)], Wd xs L A V Y, 0, 0) (35, [.ref (mj_NE + 5), .int (iI i), .int (iI 0), .int 0, mj_u, mj_u], [], Wd xs L (wA (wA A 3 (upd (A 3) (iI i).toNatClampNeg (iI (if true = true then 8 else 9)))) 4 (upd (A 4) (iI i).toNatClampNeg (-1))) V Y, 0, 0) := r_to ok_Streams_chooseDirection 35 [false] rfl ⟨by show ¬ ((1 : Int32) = 0); decide, hin, hin, trivial⟩
      rw [hc] at q
      exact q
    | false =>
      have q : mj_Rc m_Streams_chooseDirection 0 0 2 (15, [.ref (mj_NE + 5), .int (iI i), .int (iI 0), mj_u, mj_u, mj_u], [.int (bI false), .int (iI i), .ref (mj_NE + 6)], Wd xs L A V Y, 0, 0) (35, [.ref (mj_NE + 5), .int (iI i), .int (iI 0), .int 0, mj_u, mj_u], [], Wd xs L (wA (wA A 3 (upd (A 3) (iI i).toNatClampNeg (iI (if false = true then 8 else 9)))) 4 (upd (A 4) (iI i).toNatClampNeg (-1))) V Y, 0, 0) := r_to ok_Streams_chooseDirection 35 [true] rfl ⟨by show ((0 : Int32) = 0); rfl, hin, hin, trivial⟩
      rw [hc] at q
      exact q
  have lp : ∀ d : Nat, d ≤ 8 → ∃ u4 u5 : Value, mj_Rc m_Streams_chooseDirection 0 0 2 (35, [.ref (mj_NE + 5), .int (iI i), .int (iI 0), .int 0, mj_u, mj_u], [], Wd xs L (wA (wA A 3 (upd (A 3) i (iI (chD w h H i 0).2.1))) 4 (upd (A 4) i (iI (chD w h H i 0).2.2))) V Y, 0, 0) (35, [.ref (mj_NE + 5), .int (iI i), .int (iI (chD w h H i d).1), .int (iI d), u4, u5], [], Wd xs L (wA (wA A 3 (upd (A 3) i (iI (chD w h H i d).2.1))) 4 (upd (A 4) i (iI (chD w h H i d).2.2))) V Y, 0, 0) := by
    intro d
    induction d with
    | zero => intro _; exact ⟨_, _, r_rf⟩
    | succ d ih =>
      intro hd
      obtain ⟨u4, u5, hr⟩ := ih (by omega)
      have b := hb d (by omega)
      have bd := nbi_bd hw hh i d
      obtain ⟨e0, b1, b2⟩ := hH i hi
      generalize hA1 : (wA (wA A 3 (upd (A 3) i (iI (chD w h H i d).2.1))) 4 (upd (A 4) i (iI (chD w h H i d).2.2))) = A1 at hr
      have ha0 : A1 0 = A 0 := by rw [← hA1]; rfl
      have ha2 : A1 2 = A 2 := by rw [← hA1]; rfl
      have s1 := r_tr hr (r_to (g' := (47, [.ref (mj_NE + 5), .int (iI i), .int (iI (chD w h H i d).1), .int (iI d), u4, u5], [.int (iI d), .int (iI i), .ref (mj_NE + 1)], Wd xs L A1 V Y, 0, 0)) ok_Streams_chooseDirection 9999 [false] rfl ⟨by
        show ¬ (iI 8 ≤ iI d)
        rw [iI_le ⟨by omega, by omega⟩ ⟨by omega, by omega⟩]
        omega, trivial⟩)
      have s2 := r_tr s1 (q_V ok_Streams_chooseDirection ok_Land_neighbour se_Land_neighbour (c_nbr (by rw [ha2]; exact hN) hi (by omega) (by omega)) rfl rfl rfl rfl rfl ⟨rfl, rfl, rfl⟩)
      by_cases hneg : nbi w h i d < 0
      · have s3 := r_tr s2 (r_to (g' := (35, [.ref (mj_NE + 5), .int (iI i), .int (iI (chD w h H i d).1), .int (iI d + 1), .int (iI (nbi w h i d)), u5], [], Wd xs L A1 V Y, 0, 0)) ok_Streams_chooseDirection 35 [true] rfl ⟨by
          show iI (nbi w h i d) < iI 0
          rw [iI_lt ⟨by omega, by omega⟩ ⟨by omega, by omega⟩]
          exact hneg, trivial⟩)
        rw [iI_1] at s3
        have e : chD w h H i (d + 1) = chD w h H i d := by rw [chD, if_pos hneg]
        rw [e, hA1]
        exact ⟨_, _, s3⟩
      · obtain ⟨j, hj⟩ : ∃ j : Nat, (j : Int) = nbi w h i d := ⟨(nbi w h i d).toNat, by omega⟩
        have hj2 : (nbi w h i d).toNat = j := by omega
        obtain ⟨e1, b3, b4⟩ := hH j (by omega)
        rw [← hj] at s2
        have s3 : mj_Rc m_Streams_chooseDirection 0 0 2 (50, [.ref (mj_NE + 5), .int (iI i), .int (iI (chD w h H i d).1), .int (iI d), u4, u5], [.int (iI j)], Wd xs L A1 V Y, 0, 0) (78, [.ref (mj_NE + 5), .int (iI i), .int (iI (chD w h H i d).1), .int (iI d), .int (iI j), u5], [.int (iI d), .int (A1 0 (iI i).toNatClampNeg - A1 0 (iI j).toNatClampNeg)], Wd xs L A1 V Y, 0, 0) := r_to ok_Streams_chooseDirection 9999 [false] rfl ⟨by
          show ¬ (iI j < iI 0)
          rw [iI_lt ⟨by omega, by omega⟩ ⟨by omega, by omega⟩]
          omega, hin, in_nat (by omega) (by omega), trivial⟩
        rw [hc, cl_nat (by omega), ha0, e0, e1, iI_sub] at s3
        have s4 := r_tr (r_tr s2 s3) (q_S ok_Streams_chooseDirection ok_Land_slanted st_Land_slanted (c_slanted (d := d) (by omega)) rfl rfl rfl rfl ⟨rfl, rfl, rfl⟩)
        have s5 : mj_Rc m_Streams_chooseDirection 0 0 2 (81, [.ref (mj_NE + 5), .int (iI i), .int (iI (chD w h H i d).1), .int (iI d), .int (iI j), u5], [.int (bI (decide (d % 2 = 1))), .int (iI (H i - H j))], Wd xs L A1 V Y, 0, 0) (94, [.ref (mj_NE + 5), .int (iI i), .int (iI (chD w h H i d).1), .int (iI d), .int (iI j), .int (iI (H i - H j) * iI (if d % 2 = 1 then 7 else 10))], [], Wd xs L A1 V Y, 0, 0) := by
          by_cases ho : d % 2 = 1
          · rw [decide_eq_true ho, if_pos ho]
            exact r_to ok_Streams_chooseDirection 94 [false] rfl ⟨by show ¬ ((1 : Int32) = 0); decide, trivial⟩
          · rw [decide_eq_false ho, if_neg ho]
            exact r_to ok_Streams_chooseDirection 94 [true] rfl ⟨by show ((0 : Int32) = 0); rfl, trivial⟩
        rw [iI_mul] at s5
        have s6 := r_tr s4 s5
        have bf : -10000 ≤ (H i - H j) * (if d % 2 = 1 then 7 else 10) ∧ (H i - H j) * (if d % 2 = 1 then 7 else 10) ≤ 10000 := by split <;> omega
        by_cases hf : (chD w h H i d).1 < (H i - H j) * (if d % 2 = 1 then 7 else 10)
        · have e : chD w h H i (d + 1) = ((H i - H j) * (if d % 2 = 1 then 7 else 10), (d : Int), (j : Int)) := by rw [chD, if_neg hneg, hj2, if_pos hf, ← hj]
          have s7 : mj_Rc m_Streams_chooseDirection 0 0 2 (94, [.ref (mj_NE + 5), .int (iI i), .int (iI (chD w h H i d).1), .int (iI d), .int (iI j), .int (iI ((H i - H j) * (if d % 2 = 1 then 7 else 10)))], [], Wd xs L A1 V Y, 0, 0) (35, [.ref (mj_NE + 5), .int (iI i), .int (iI ((H i - H j) * (if d % 2 = 1 then 7 else 10))), .int (iI d + 1), .int (iI j), .int (iI ((H i - H j) * (if d % 2 = 1 then 7 else 10)))], [], Wd xs L (wA (wA A1 3 (upd (A1 3) (iI i).toNatClampNeg (iI d))) 4 (upd (A1 4) (iI i).toNatClampNeg (iI j))) V Y, 0, 0) := r_to ok_Streams_chooseDirection 35 [false] rfl ⟨by
            show ¬ (iI ((H i - H j) * (if d % 2 = 1 then 7 else 10)) ≤ iI (chD w h H i d).1)
            rw [iI_le ⟨by omega, by omega⟩ ⟨by omega, by omega⟩]
            omega, hin, hin, trivial⟩
          rw [iI_1, hc] at s7
          subst hA1
          have e2 : (wA (wA (wA (wA A 3 (upd (A 3) i (iI (chD w h H i d).2.1))) 4 (upd (A 4) i (iI (chD w h H i d).2.2))) 3 (upd ((wA (wA A 3 (upd (A 3) i (iI (chD w h H i d).2.1))) 4 (upd (A 4) i (iI (chD w h H i d).2.2))) 3) i (iI d))) 4 (upd ((wA (wA A 3 (upd (A 3) i (iI (chD w h H i d).2.1))) 4 (upd (A 4) i (iI (chD w h H i d).2.2))) 4) i (iI j))) = (wA (wA A 3 (upd (A 3) i (iI (chD w h H i (d + 1)).2.1))) 4 (upd (A 4) i (iI (chD w h H i (d + 1)).2.2))) := by
            rw [e]
            funext k
            by_cases k4 : k = 4
            · subst k4; show upd (upd (A 4) i _) i _ = upd (A 4) i _; rw [upd_upd]
            · by_cases k3 : k = 3
              · subst k3; show upd (upd (A 3) i _) i _ = upd (A 3) i _; rw [upd_upd]
              · simp [va_up, k3, k4]
          rw [e2] at s7
          have s8 := r_tr s6 s7
          rw [show (H i - H j) * (if d % 2 = 1 then 7 else 10) = (chD w h H i (d + 1)).1 by rw [e]] at s8
          exact ⟨_, _, s8⟩
        · have e : chD w h H i (d + 1) = chD w h H i d := by rw [chD, if_neg hneg, hj2, if_neg hf]
          have s7 := r_tr s6 (r_to (g' := (35, [.ref (mj_NE + 5), .int (iI i), .int (iI (chD w h H i d).1), .int (iI d + 1), .int (iI j), .int (iI ((H i - H j) * (if d % 2 = 1 then 7 else 10)))], [], Wd xs L A1 V Y, 0, 0)) ok_Streams_chooseDirection 35 [true] rfl ⟨by
            show iI ((H i - H j) * (if d % 2 = 1 then 7 else 10)) ≤ iI (chD w h H i d).1
            rw [iI_le ⟨by omega, by omega⟩ ⟨by omega, by omega⟩]
            omega, trivial⟩)
          rw [iI_1] at s7
          rw [e, hA1]
          exact ⟨_, _, s7⟩
  obtain ⟨u4, u5, hr⟩ := lp 8 (Nat.le_refl _)
  exact ct_of ok_Streams_chooseDirection rfl (r_tr (r_tr s2 s3) (r_tr hr (r_to ok_Streams_chooseDirection 9999 [true] rfl ⟨by show iI 8 ≤ iI 8; exact Int32.le_refl _, trivial⟩))) rfl rfl rfl rfl rfl
/-- what putNext leaves -/
def pnA (A : Nat → Nat → Int32) (c i : Nat) : Nat → Nat → Int32 := wA (wA (wA (wA (wA A 12 (upd (A 12) c (iI i))) 5 (upd (A 5) i (iI 1))) 8 (upd (A 8) i (iI 0))) 9 (upd (A 9) i (iI 0))) 11 (upd (A 11) i (iI 0))
theorem c_putNext {i c : Nat} (hV : V 3 = iI c) (hc : c < 256) (hi : i < 256) : mj_Ct m_Streams_putNext [.ref (mj_NE + 5), .int (iI i)] (Wd xs L A V Y) none (Wd xs L (pnA A c i) (wV V 3 (iI (c + 1))) Y) 0 0 0 := by
  have e1 : (iI i).toNatClampNeg = i := cl_nat (by omega)
  have e2 : (V 3).toNatClampNeg = c := by rw [hV]; exact cl_nat (by omega)
  have hin : vp_in (iI i) 256 := in_nat (by omega) (by omega)
  have hin2 : vp_in (V 3) 256 := by rw [hV]; exact in_nat (by omega) (by omega)
  have e3 : iI ((c : Int) + 1) = V 3 + 1 := by rw [hV, iI_1]
  unfold pnA
  rw [e3, ← e2]
  have s1 : mj_Rc m_Streams_putNext 0 0 0 (0, [.ref (mj_NE + 5), .int (iI i)], [], Wd xs L A V Y, 0, 0) (58, [.ref (mj_NE + 5), .int (iI i)], [], Wd xs L (wA (wA (wA (wA (wA A 12 (upd (A 12) (V 3).toNatClampNeg (iI i))) 5 (upd (A 5) (iI i).toNatClampNeg (iI 1))) 8 (upd (A 8) (iI i).toNatClampNeg (iI 0))) 9 (upd (A 9) (iI i).toNatClampNeg (iI 0))) 11 (upd (A 11) (iI i).toNatClampNeg (iI 0))) (wV V 3 (V 3 + 1)) Y, 0, 0) := r_to ok_Streams_putNext 9999 [false] rfl ⟨by
    show ¬ (iI 256 ≤ V 3)
    rw [hV, iI_le ⟨by omega, by omega⟩ ⟨by omega, by omega⟩]
    omega, hin2, hin, hin, hin, hin, trivial⟩
  rw [e1] at s1
  exact ct_of ok_Streams_putNext rfl s1 rfl rfl rfl rfl rfl
/-- a FIELD whose water goes nowhere -/
theorem c_findEnd0 {i : Nat} {nx : Int} (hi : i < 256) (hn : A 4 i = iI nx) (hx : nx = -1) : mj_Ct m_Streams_findEnd [.ref (mj_NE + 5), .int (iI i)] (Wd xs L A V Y) none (Wd xs L (wA (wA A 6 (upd (A 6) i (iI i))) 7 (upd (A 7) i (iI 0))) V Y) 0 0 0 := by
  have e1 : (iI i).toNatClampNeg = i := cl_nat (by omega)
  have hin : vp_in (iI i) 256 := in_nat (by omega) (by omega)
  have s1 : mj_Rc m_Streams_findEnd 0 0 0 (0, [.ref (mj_NE + 5), .int (iI i), mj_u], [], Wd xs L A V Y, 0, 0) (49, [.ref (mj_NE + 5), .int (iI i), .int (A 4 (iI i).toNatClampNeg)], [], Wd xs L (wA (wA A 6 (upd (A 6) (iI i).toNatClampNeg (iI i))) 7 (upd (A 7) (iI i).toNatClampNeg (iI 0))) V Y, 0, 0) := r_to ok_Streams_findEnd 9999 [false, false] rfl ⟨hin, by
    show ¬ (iI 0 ≤ A 4 (iI i).toNatClampNeg)
    rw [e1, hn, iI_le ⟨by omega, by omega⟩ ⟨by omega, by omega⟩]
    omega, hin, by
    show ¬ (iI 0 ≤ A 4 (iI i).toNatClampNeg)
    rw [e1, hn, iI_le ⟨by omega, by omega⟩ ⟨by omega, by omega⟩]
    omega, hin, trivial⟩
  rw [e1] at s1
  exact ct_of ok_Streams_findEnd rfl s1 rfl rfl rfl rfl rfl
theorem c_findEnd1 {i t : Nat} (hi : i < 256) (ht : t < 256) (hn : A 4 i = iI t) : mj_Ct m_Streams_findEnd [.ref (mj_NE + 5), .int (iI i)] (Wd xs L A V Y) none (Wd xs L (wA (wA A 6 (upd (A 6) i (A 6 t))) 7 (upd (A 7) i (A 7 t + 1))) V Y) 0 0 0 := by
  have e1 : (iI i).toNatClampNeg = i := cl_nat (by omega)
  have hin : vp_in (iI i) 256 := in_nat (by omega) (by omega)
  have e2 : (A 4 (iI i).toNatClampNeg).toNatClampNeg = t := by rw [e1, hn]; exact cl_nat (by omega)
  have hin2 : vp_in (A 4 (iI i).toNatClampNeg) 256 := by rw [e1, hn]; exact in_nat (by omega) (by omega)
  have s1 : mj_Rc m_Streams_findEnd 0 0 0 (0, [.ref (mj_NE + 5), .int (iI i), mj_u], [], Wd xs L A V Y, 0, 0) (49, [.ref (mj_NE + 5), .int (iI i), .int (A 4 (iI i).toNatClampNeg)], [], Wd xs L (wA (wA A 6 (upd (A 6) (iI i).toNatClampNeg (A 6 (A 4 (iI i).toNatClampNeg).toNatClampNeg))) 7 (upd (A 7) (iI i).toNatClampNeg (A 7 (A 4 (iI i).toNatClampNeg).toNatClampNeg + 1))) V Y, 0, 0) := r_to ok_Streams_findEnd 9999 [true, true] rfl ⟨hin, by
    show iI 0 ≤ A 4 (iI i).toNatClampNeg
    rw [e1, hn, iI_le ⟨by omega, by omega⟩ ⟨by omega, by omega⟩]
    omega, hin2, hin, by
    show iI 0 ≤ A 4 (iI i).toNatClampNeg
    rw [e1, hn, iI_le ⟨by omega, by omega⟩ ⟨by omega, by omega⟩]
    omega, hin2, hin, trivial⟩
  rw [e1] at s1
  rw [e1] at e2
  rw [e2] at s1
  exact ct_of ok_Streams_findEnd rfl s1 rfl rfl rfl rfl rfl
theorem c_count {dr : Nat → Int} {k : Int} (hV : V 2 = iI n) (hn : n ≤ 256) (hd : ∀ i : Nat, i < n → A 3 i = iI (dr i) ∧ 0 ≤ dr i ∧ dr i ≤ 9) (hk : 0 ≤ k ∧ k ≤ 9) : mj_Ct m_Streams_count [.ref (mj_NE + 5), .int (iI k)] (Wd xs L A V Y) (some (.int (iI (cnt (fun j => decide (dr j = k)) n)))) (Wd xs L A V Y) 0 0 0 := by
  have lp : ∀ i : Nat, i ≤ n → mj_Rc m_Streams_count 0 0 0 (4, [.ref (mj_NE + 5), .int (iI k), .int 0, .int 0], [], Wd xs L A V Y, 0, 0) (4, [.ref (mj_NE + 5), .int (iI k), .int (iI (cnt (fun j => decide (dr j = k)) i)), .int (iI i)], [], Wd xs L A V Y, 0, 0) := by
    intro i
    induction i with
    | zero => intro _; exact r_rf
    | succ i ih =>
      intro hi
      obtain ⟨e0, b1, b2⟩ := hd i (by omega)
      have cb := cnt_bd (fun j => decide (dr j = k)) i
      have hc : (iI i).toNatClampNeg = i := cl_nat (by omega)
      have hin : vp_in (iI i) 256 := in_nat (by omega) (by omega)
      have ec : cnt (fun j => decide (dr j = k)) (i + 1) = cnt (fun j => decide (dr j = k)) i + (if decide (dr i = k) = true then 1 else 0) := rfl
      by_cases he : dr i = k
      · have s1 := r_tr (ih (by omega)) (r_to (g' := (4, [.ref (mj_NE + 5), .int (iI k), .int (iI (cnt (fun j => decide (dr j = k)) i) + iI 1), .int (iI i + 1)], [], Wd xs L A V Y, 0, 0)) ok_Streams_count 4 [false, false] rfl ⟨br_ge hV ⟨by omega, by omega⟩ ⟨by omega, by omega⟩ (by omega), hin, by
          show ¬ ¬ (A 3 (iI i).toNatClampNeg = iI k)
          rw [hc, e0, he]
          exact fun q => q rfl, trivial⟩)
        rw [iI_1, iI_add, show cnt (fun j => decide (dr j = k)) i + 1 = cnt (fun j => decide (dr j = k)) (i + 1) by rw [ec, if_pos (by simp [he])]] at s1
        exact s1
      · have s1 := r_tr (ih (by omega)) (r_to (g' := (4, [.ref (mj_NE + 5), .int (iI k), .int (iI (cnt (fun j => decide (dr j = k)) i) + iI 0), .int (iI i + 1)], [], Wd xs L A V Y, 0, 0)) ok_Streams_count 4 [false, true] rfl ⟨br_ge hV ⟨by omega, by omega⟩ ⟨by omega, by omega⟩ (by omega), hin, by
          show ¬ (A 3 (iI i).toNatClampNeg = iI k)
          rw [hc, e0, iI_eq ⟨by omega, by omega⟩ ⟨by omega, by omega⟩]
          exact he, trivial⟩)
        rw [iI_1, iI_add, show cnt (fun j => decide (dr j = k)) i + 0 = cnt (fun j => decide (dr j = k)) (i + 1) by rw [ec, if_neg (by simp [he])]] at s1
        exact s1
  exact ct_of ok_Streams_count rfl (r_tr (r_to ok_Streams_count 4 [] rfl trivial) (r_tr (lp n (Nat.le_refl _)) (r_to ok_Streams_count 9999 [true] rfl ⟨br_lt hV ⟨by omega, by omega⟩ ⟨by omega, by omega⟩ (by omega), trivial⟩))) rfl rfl rfl rfl rfl
theorem c_greatestOf_8 {G : Nat → Int} (hV : V 2 = iI n) (hn : n ≤ 256) (hG : Hts (A 8) n G) : mj_Ct m_Streams_greatestOf [.ref (mj_NE + 5), .ref (mj_NE + 11)] (Wd xs L A V Y) (some (.int (iI (mxH G n)))) (Wd xs L A V Y) 0 0 1 := by
  have hb := mxH_bd (H := G) (N := n) (fun j hj => (hG j hj).2)
  have lp : ∀ k : Nat, k ≤ n → mj_Rc m_Streams_greatestOf 0 0 1 (4, [.ref (mj_NE + 5), .ref (mj_NE + 11), .int 0, .int 0], [], Wd xs L A V Y, 0, 0) (4, [.ref (mj_NE + 5), .ref (mj_NE + 11), .int (iI (mxH G k)), .int (iI k)], [], Wd xs L A V Y, 0, 0) := by
    intro k
    induction k with
    | zero => intro _; exact r_rf
    | succ k ih =>
      intro hk
      have b1 := hb k (by omega)
      obtain ⟨e1, h1, h2⟩ := hG k (by omega)
      have hc : (iI k).toNatClampNeg = k := cl_nat (by omega)
      have s1 : mj_Rc m_Streams_greatestOf 0 0 1 (4, [.ref (mj_NE + 5), .ref (mj_NE + 11), .int (iI (mxH G k)), .int (iI k)], [], Wd xs L A V Y, 0, 0) (19, [.ref (mj_NE + 5), .ref (mj_NE + 11), .int (iI (mxH G k)), .int (iI k)], [.int (A 8 (iI k).toNatClampNeg), .int (iI (mxH G k))], Wd xs L A V Y, 0, 0) := r_to ok_Streams_greatestOf 9999 [false] rfl ⟨br_ge hV ⟨by omega, by omega⟩ ⟨by omega, by omega⟩ (by omega), in_nat (by omega) (by omega), trivial⟩
      rw [hc, e1] at s1
      have s2 := r_tr (ih (by omega)) (r_tr s1 (q_S ok_Streams_greatestOf ok_Math_max st_Math_max (c_max ⟨by omega, by omega⟩ ⟨by omega, by omega⟩) rfl rfl rfl rfl ⟨rfl, rfl, rfl⟩))
      have s3 := r_tr s2 (r_to (g' := (4, [.ref (mj_NE + 5), .ref (mj_NE + 11), .int (iI (mxH G (k + 1))), .int (iI k + 1)], [], Wd xs L A V Y, 0, 0)) ok_Streams_greatestOf 4 [] rfl trivial)
      rw [iI_1] at s3
      exact s3
  exact ct_of ok_Streams_greatestOf rfl (r_tr (r_to ok_Streams_greatestOf 4 [] rfl trivial) (r_tr (lp n (Nat.le_refl _)) (r_to ok_Streams_greatestOf 9999 [true] rfl ⟨br_lt hV ⟨by omega, by omega⟩ ⟨by omega, by omega⟩ (by omega), trivial⟩))) rfl rfl rfl rfl rfl
theorem c_greatestOf_9 {G : Nat → Int} (hV : V 2 = iI n) (hn : n ≤ 256) (hG : Hts (A 9) n G) : mj_Ct m_Streams_greatestOf [.ref (mj_NE + 5), .ref (mj_NE + 12)] (Wd xs L A V Y) (some (.int (iI (mxH G n)))) (Wd xs L A V Y) 0 0 1 := by
  have hb := mxH_bd (H := G) (N := n) (fun j hj => (hG j hj).2)
  have lp : ∀ k : Nat, k ≤ n → mj_Rc m_Streams_greatestOf 0 0 1 (4, [.ref (mj_NE + 5), .ref (mj_NE + 12), .int 0, .int 0], [], Wd xs L A V Y, 0, 0) (4, [.ref (mj_NE + 5), .ref (mj_NE + 12), .int (iI (mxH G k)), .int (iI k)], [], Wd xs L A V Y, 0, 0) := by
    intro k
    induction k with
    | zero => intro _; exact r_rf
    | succ k ih =>
      intro hk
      have b1 := hb k (by omega)
      obtain ⟨e1, h1, h2⟩ := hG k (by omega)
      have hc : (iI k).toNatClampNeg = k := cl_nat (by omega)
      have s1 : mj_Rc m_Streams_greatestOf 0 0 1 (4, [.ref (mj_NE + 5), .ref (mj_NE + 12), .int (iI (mxH G k)), .int (iI k)], [], Wd xs L A V Y, 0, 0) (19, [.ref (mj_NE + 5), .ref (mj_NE + 12), .int (iI (mxH G k)), .int (iI k)], [.int (A 9 (iI k).toNatClampNeg), .int (iI (mxH G k))], Wd xs L A V Y, 0, 0) := r_to ok_Streams_greatestOf 9999 [false] rfl ⟨br_ge hV ⟨by omega, by omega⟩ ⟨by omega, by omega⟩ (by omega), in_nat (by omega) (by omega), trivial⟩
      rw [hc, e1] at s1
      have s2 := r_tr (ih (by omega)) (r_tr s1 (q_S ok_Streams_greatestOf ok_Math_max st_Math_max (c_max ⟨by omega, by omega⟩ ⟨by omega, by omega⟩) rfl rfl rfl rfl ⟨rfl, rfl, rfl⟩))
      have s3 := r_tr s2 (r_to (g' := (4, [.ref (mj_NE + 5), .ref (mj_NE + 12), .int (iI (mxH G (k + 1))), .int (iI k + 1)], [], Wd xs L A V Y, 0, 0)) ok_Streams_greatestOf 4 [] rfl trivial)
      rw [iI_1] at s3
      exact s3
  exact ct_of ok_Streams_greatestOf rfl (r_tr (r_to ok_Streams_greatestOf 4 [] rfl trivial) (r_tr (lp n (Nat.le_refl _)) (r_to ok_Streams_greatestOf 9999 [true] rfl ⟨br_lt hV ⟨by omega, by omega⟩ ⟨by omega, by omega⟩ (by omega), trivial⟩))) rfl rfl rfl rfl rfl
end STR1
