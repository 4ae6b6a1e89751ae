/-! THE REFERENCE: way -/
/-- each FIELD further back has fewer FIELDS with a smaller sum -/
theorem gbF_cnt {w h : Int} {n st e : Nat} {H T : Nat → Int} (hw : 2 ≤ w ∧ w ≤ 16) (hh : 2 ≤ h ∧ h ≤ 16) (hnw : (n : Int) = w * h) (he : e < n) : ∀ k : Nat, 0 ≤ gbF w h st H T e k → cnt (fun v => decide (T v < T (gbF w h st H T e k).toNat)) n + k + 1 ≤ n := by
  intro k
  induction k with
  | zero =>
    intro _
    have h1 : gbF w h st H T e 0 = e := rfl
    rw [h1, Int.toNat_natCast]
    have := cnt_lt (p := fun v => decide (T v < T e)) (v := e) n he (by simp)
    omega
  | succ k ih =>
    intro hk
    have hk0 : 0 ≤ gbF w h st H T e k := by
      rcases Int.lt_or_le (gbF w h st H T e k) 0 with q | q
      · have := gbF_neg q 1
        omega
      · exact q
    have hb := gbF_bd (st := st) (H := H) (T := T) hw hh (e := e) (by omega) k
    have i := ih hk0
    have e1 : gbF w h st H T e (k + 1) = if gbF w h st H T e k < 0 then gbF w h st H T e k else if gbF w h st H T e k = st then -1 else faF w h H T (gbF w h st H T e k).toNat 8 := rfl
    rw [if_neg (by omega)] at e1
    split at e1
    · omega
    · rw [e1] at hk ⊢
      obtain ⟨d, d1, d2, d3⟩ := faF_hit 8 hk
      have hlt : T (faF w h H T (gbF w h st H T e k).toNat 8).toNat < T (gbF w h st H T e k).toNat := by
        rw [← d2, ← d3]
        exact WyOK_lt
      have fb := faF_bd (H := H) (T := T) hw hh (gbF w h st H T e k).toNat 8
      have hu := cnt_up (p := fun v => decide (T v < T (gbF w h st H T e k).toNat) && !decide (v = (faF w h H T (gbF w h st H T e k).toNat 8).toNat)) (q := fun v => decide (T v < T (gbF w h st H T e k).toNat)) (v := (faF w h H T (gbF w h st H T e k).toNat 8).toNat) n (by omega) (by simp) (by simp [hlt]) (fun j _ hj => by simp [hj])
      have hl := cnt_le (p := fun v => decide (T v < T (faF w h H T (gbF w h st H T e k).toNat 8).toNat)) (q := fun v => decide (T v < T (gbF w h st H T e k).toNat) && !decide (v = (faF w h H T (gbF w h st H T e k).toNat 8).toNat)) n (fun j _ hj => by
        simp only [decide_eq_true_eq] at hj
        have h1 : j ≠ (faF w h H T (gbF w h st H T e k).toNat 8).toNat := fun q => by rw [← q] at hj; omega
        have h2 : T j < T (gbF w h st H T e k).toNat := by omega
        simp [h1, h2])
      omega
theorem gbF_end {w h : Int} {n st e : Nat} {H T : Nat → Int} (hw : 2 ≤ w ∧ w ≤ 16) (hh : 2 ≤ h ∧ h ≤ 16) (hnw : (n : Int) = w * h) (he : e < n) : gbF w h st H T e n = -1 := by
  have hb := gbF_bd (st := st) (H := H) (T := T) hw hh (e := e) (by omega) n
  rcases Int.lt_or_le (gbF w h st H T e n) 0 with q | q
  · omega
  · have := gbF_cnt (st := st) (H := H) (T := T) hw hh hnw he n q
    have := cnt_bd (fun v => decide (T v < T (gbF w h st H T e n).toNat)) n
    omega
section REF16
variable {xs : Nat → Int32} {L : Nat} {A : Nat → Nat → Int32} {V : Nat → Int32} {t b : Int32} {ld : Nat} {f : Nat → Int32} {o : Nat → Int64} {H : Nat → Int} {Z : mj_H}
set_option maxHeartbeats 2000000 in
theorem c_MLway {st e bk : Nat} (hf : Hts f 144 H) (hst : st < 144) (he : e < 144) (hbk : bk ≤ 144) : ∃ (TT : Nat → Int) (fm fd : Nat → Int32), WyOK 12 12 144 st H TT ∧ mj_Ct m_ML_way [.ref (mj_NE + 33), .int (iI (st : Int)), .int (iI (e : Int)), .int (iI (bk : Int))] (Wd xs L A V (mY t b ld f [zO o])) (some (.int (iI (gbF 12 12 st H TT e bk)))) (Wd xs L A V (mY t b ld f [zO o, zI fm, zB fd])) 2 288 3 := by
  have g12 : (2 : Int) ≤ 12 ∧ (12 : Int) ≤ 16 := ⟨by omega, by omega⟩
  have hnw : ((144 : Nat) : Int) = 12 * 12 := rfl
  have hH2 : ∀ j, j < 144 → 0 ≤ H j ∧ H j ≤ 999 := fun j hj => (hf j hj).2
  obtain ⟨TT, fm, fd, hWy, hfm, hct⟩ := c_ML_takes (xs := xs) (L := L) (A := A) (V := V) (t := t) (b := b) (ld := ld) (o := o) hst hf
  refine ⟨TT, fm, fd, hWy, ?_⟩
  have r1 := r_to (RC := 2) (RS := 288) (dd := 3) (g := (0, [.ref (mj_NE + 33), .int (iI (st : Int)), .int (iI (e : Int)), .int (iI (bk : Int)), mj_u, mj_u, mj_u, mj_u, mj_u, mj_u], [], Wd xs L A V (mY t b ld f [zO o]), 0, 0)) (g' := (2, [.ref (mj_NE + 33), .int (iI (st : Int)), .int (iI (e : Int)), .int (iI (bk : Int)), mj_u, mj_u, mj_u, mj_u, mj_u, mj_u], [.int (iI (st : Int)), .ref (mj_NE + 33)], Wd xs L A V (mY t b ld f [zO o]), 0, 0)) ok_ML_way 9999 [] rfl trivial
  have r2 := r_tr r1 (q_V ok_ML_way ok_ML_takes se_ML_takes (hct) rfl rfl rfl rfl rfl ⟨rfl, rfl, rfl⟩)
  have r3 := r_tr r2 (r_to (g' := (13, [.ref (mj_NE + 33), .int (iI (st : Int)), .int (iI (e : Int)), .int (iI (bk : Int)), .ref (mj_NE + 36), .int (iI (gbF 12 12 st H TT e 0)), .int (iI ((0 : Nat) : Int)), mj_u, mj_u, mj_u], [], Wd xs L A V (mY t b ld f [zO o, zI fm, zB fd]), 2, 288)) ok_ML_way 13 [] rfl trivial)
  have lp : ∀ k : Nat, k ≤ bk → (0 ≤ gbF 12 12 st H TT e k ∧ ∃ u7 u8 u9 : Value, mj_Rc m_ML_way 2 288 3 (0, [.ref (mj_NE + 33), .int (iI (st : Int)), .int (iI (e : Int)), .int (iI (bk : Int)), mj_u, mj_u, mj_u, mj_u, mj_u, mj_u], [], Wd xs L A V (mY t b ld f [zO o]), 0, 0) (13, [.ref (mj_NE + 33), .int (iI (st : Int)), .int (iI (e : Int)), .int (iI (bk : Int)), .ref (mj_NE + 36), .int (iI (gbF 12 12 st H TT e k)), .int (iI (k : Int)), u7, u8, u9], [], Wd xs L A V (mY t b ld f [zO o, zI fm, zB fd]), 2, 288)) ∨ (gbF 12 12 st H TT e k < 0 ∧ ∃ L9 : List Value, mj_Rc m_ML_way 2 288 3 (0, [.ref (mj_NE + 33), .int (iI (st : Int)), .int (iI (e : Int)), .int (iI (bk : Int)), mj_u, mj_u, mj_u, mj_u, mj_u, mj_u], [], Wd xs L A V (mY t b ld f [zO o]), 0, 0) (26, L9, [.int (iI (-1))], Wd xs L A V (mY t b ld f [zO o, zI fm, zB fd]), 2, 288)) := by
    intro k
    induction k with
    | zero => intro _; exact Or.inl ⟨by show (0 : Int) ≤ e; omega, _, _, _, r3⟩
    | succ k ih =>
      intro hk
      have e1 : gbF 12 12 st H TT e (k + 1) = if gbF 12 12 st H TT e k < 0 then gbF 12 12 st H TT e k else if gbF 12 12 st H TT e k = st then -1 else faF 12 12 H TT (gbF 12 12 st H TT e k).toNat 8 := rfl
      rcases ih (by omega) with ⟨h0, u7, u8, u9, hr⟩ | ⟨h0, L9, hr⟩
      · have hb := gbF_bd (st := st) (H := H) (T := TT) g12 g12 (e := e) (by omega) k
        rw [if_neg (by omega)] at e1
        have c0 : ¬ (iI (bk : Int) ≤ iI (k : Int)) := by rw [iI_le ⟨by omega, by omega⟩ ⟨by omega, by omega⟩]; omega
        by_cases hs : gbF 12 12 st H TT e k = st
        · rw [if_pos hs] at e1
          rw [e1]
          refine Or.inr ⟨by omega, _, r_tr hr (r_to (g' := (26, [.ref (mj_NE + 33), .int (iI (st : Int)), .int (iI (e : Int)), .int (iI (bk : Int)), .ref (mj_NE + 36), .int (iI (gbF 12 12 st H TT e k)), .int (iI (k : Int)), u7, u8, u9], [.int (iI (-1))], Wd xs L A V (mY t b ld f [zO o, zI fm, zB fd]), 2, 288)) ok_ML_way 9999 [false, false] rfl ⟨c0, fun z => z (by
            show iI (gbF 12 12 st H TT e k) = iI (st : Int)
            rw [hs]), trivial⟩)⟩
        · rw [if_neg hs] at e1
          obtain ⟨v, hv⟩ : ∃ v : Nat, (v : Int) = gbF 12 12 st H TT e k := ⟨(gbF 12 12 st H TT e k).toNat, by omega⟩
          have hv2 : (gbF 12 12 st H TT e k).toNat = v := by omega
          have hvn : v < 144 := by omega
          rw [hv2] at e1
          have hpos := faF_is g12 g12 hnw hWy hvn (by omega)
          rw [e1]
          rw [← hv] at hr
          have s1 := r_tr hr (r_to (g' := (33, [.ref (mj_NE + 33), .int (iI (st : Int)), .int (iI (e : Int)), .int (iI (bk : Int)), .ref (mj_NE + 36), .int (iI (v : Int)), .int (iI (k : Int)), .int (iI (-1)), .int (iI ((0 : Nat) : Int)), u9], [], Wd xs L A V (mY t b ld f [zO o, zI fm, zB fd]), 2, 288)) ok_ML_way 33 [false, true] rfl ⟨c0, by
            show ¬ (iI (v : Int) = iI (st : Int))
            rw [iI_eq ⟨by omega, by omega⟩ ⟨by omega, by omega⟩]
            omega, trivial⟩)
          have hcv : (iI (v : Int)).toNatClampNeg = v := cl_nat (by omega)
          have hinv : vp_in (iI (v : Int)) 144 := in_nat (by omega) (by omega)
          have lq : ∀ d : Nat, d ≤ 8 → ∃ u9 : Value, mj_Rc m_ML_way 2 288 3 (0, [.ref (mj_NE + 33), .int (iI (st : Int)), .int (iI (e : Int)), .int (iI (bk : Int)), mj_u, mj_u, mj_u, mj_u, mj_u, mj_u], [], Wd xs L A V (mY t b ld f [zO o]), 0, 0) (33, [.ref (mj_NE + 33), .int (iI (st : Int)), .int (iI (e : Int)), .int (iI (bk : Int)), .ref (mj_NE + 36), .int (iI (v : Int)), .int (iI (k : Int)), .int (iI (faF 12 12 H TT v d)), .int (iI (d : Int)), u9], [], Wd xs L A V (mY t b ld f [zO o, zI fm, zB fd]), 2, 288) := by
            intro d
            induction d with
            | zero => intro _; exact ⟨_, s1⟩
            | succ d ih2 =>
              intro hd
              obtain ⟨u9, hr2⟩ := ih2 (by omega)
              have bd := nbi_bd (w := 12) (h := 12) g12 g12 v d
              have fb := faF_bd (H := H) (T := TT) g12 g12 v d
              have s2 := r_tr hr2 (r_to (g' := (45, [.ref (mj_NE + 33), .int (iI (st : Int)), .int (iI (e : Int)), .int (iI (bk : Int)), .ref (mj_NE + 36), .int (iI (v : Int)), .int (iI (k : Int)), .int (iI (faF 12 12 H TT v d)), .int (iI (d : Int)), u9], [.int (iI (d : Int)), .int (iI (v : Int)), .ref (mj_NE + 33)], Wd xs L A V (mY t b ld f [zO o, zI fm, zB fd]), 2, 288)) ok_ML_way 9999 [false] rfl ⟨by show ¬ (iI 8 ≤ iI (d : Int)); rw [iI_le ⟨by omega, by omega⟩ ⟨by omega, by omega⟩]; omega, trivial⟩)
              have s3 := r_tr s2 (q_V ok_ML_way ok_ML_next se_ML_next (c_MLnext (d := d) hvn (by omega)) rfl rfl rfl rfl rfl ⟨rfl, rfl, rfl⟩)
              have ef : faF 12 12 H TT v (d + 1) = if 0 ≤ nbi 12 12 v d ∧ TT (nbi 12 12 v d).toNat + wg H (nbi 12 12 v d).toNat d v = TT v ∧ (faF 12 12 H TT v d < 0 ∨ nbi 12 12 v d < faF 12 12 H TT v d) then nbi 12 12 v d else faF 12 12 H TT v d := rfl
              by_cases hneg : nbi 12 12 v d < 0
              · rw [if_neg (by omega)] at ef
                rw [ef]
                have s4 := r_tr s3 (r_to (g' := (33, [.ref (mj_NE + 33), .int (iI (st : Int)), .int (iI (e : Int)), .int (iI (bk : Int)), .ref (mj_NE + 36), .int (iI (v : Int)), .int (iI (k : Int)), .int (iI (faF 12 12 H TT v d)), .int (iI (d : Int) + 1), .int (iI (nbi 12 12 v d))], [], Wd xs L A V (mY t b ld f [zO o, zI fm, zB fd]), 2, 288)) ok_ML_way 33 [true] rfl ⟨by show iI (nbi 12 12 v d) < iI 0; rw [iI_lt ⟨by omega, by omega⟩ ⟨by omega, by omega⟩]; omega, trivial⟩)
                rw [iI_1] at s4
                exact ⟨_, s4⟩
              · obtain ⟨j, hj⟩ : ∃ j : Nat, (j : Int) = nbi 12 12 v d := ⟨(nbi 12 12 v d).toNat, by omega⟩
                have hj2 : (nbi 12 12 v d).toNat = j := by omega
                have hjn : j < 144 := by omega
                rw [hj2, ← hj] at ef
                rw [← hj] at s3
                have hcj : (iI (j : Int)).toNatClampNeg = j := cl_nat (by omega)
                have hinj : vp_in (iI (j : Int)) 144 := in_nat (by omega) (by omega)
                have hwb := wg_bd (H := H) (u := j) (d := d) (v := v) (hH2 j hjn) (hH2 v hvn)
                have t1 := (hWy.2.1 j hjn)
                have t2 := (hWy.2.1 v hvn)
                have q1 : ¬ (iI (j : Int) < iI 0) := by rw [iI_lt ⟨by omega, by omega⟩ ⟨by omega, by omega⟩]; omega
                have s4 := r_tr s3 (r_to (g' := (67, [.ref (mj_NE + 33), .int (iI (st : Int)), .int (iI (e : Int)), .int (iI (bk : Int)), .ref (mj_NE + 36), .int (iI (v : Int)), .int (iI (k : Int)), .int (iI (faF 12 12 H TT v d)), .int (iI (d : Int)), .int (iI (j : Int))], [.int (iI (v : Int)), .int (iI (d : Int)), .int (iI (j : Int)), .ref (mj_NE + 33), .int (fm (iI (j : Int)).toNatClampNeg)], Wd xs L A V (mY t b ld f [zO o, zI fm, zB fd]), 2, 288)) ok_ML_way 9999 [false] rfl ⟨q1, hinj, trivial⟩)
                rw [hcj, hfm j hjn] at s4
                have s5 := r_tr s4 (q_V ok_ML_way ok_ML_step se_ML_step (c_MLstep hf hjn (by omega) hvn) rfl rfl rfl rfl rfl ⟨rfl, rfl, rfl⟩)
                by_cases heq : TT j + wg H j d v = TT v
                · have c1 : ¬ (¬ (iI (TT j) + iI (wg H j d v) = fm (iI (v : Int)).toNatClampNeg)) := fun z => z (by rw [hcv, hfm v hvn, iI_add, heq])
                  by_cases hb1 : faF 12 12 H TT v d < 0
                  · rw [if_pos ⟨by omega, heq, Or.inl hb1⟩] at ef
                    rw [ef]
                    have s6 := r_tr s5 (r_to (g' := (33, [.ref (mj_NE + 33), .int (iI (st : Int)), .int (iI (e : Int)), .int (iI (bk : Int)), .ref (mj_NE + 36), .int (iI (v : Int)), .int (iI (k : Int)), .int (iI (j : Int)), .int (iI (d : Int) + 1), .int (iI (j : Int))], [], Wd xs L A V (mY t b ld f [zO o, zI fm, zB fd]), 2, 288)) ok_ML_way 33 [false, true] rfl ⟨hinv, c1, by show iI (faF 12 12 H TT v d) < iI 0; rw [iI_lt ⟨by omega, by omega⟩ ⟨by omega, by omega⟩]; omega, trivial⟩)
                    rw [iI_1] at s6
                    exact ⟨_, s6⟩
                  · have c2 : ¬ (iI (faF 12 12 H TT v d) < iI 0) := by rw [iI_lt ⟨by omega, by omega⟩ ⟨by omega, by omega⟩]; omega
                    by_cases hb2 : (j : Int) < faF 12 12 H TT v d
                    · rw [if_pos ⟨by omega, heq, Or.inr hb2⟩] at ef
                      rw [ef]
                      have s6 := r_tr s5 (r_to (g' := (33, [.ref (mj_NE + 33), .int (iI (st : Int)), .int (iI (e : Int)), .int (iI (bk : Int)), .ref (mj_NE + 36), .int (iI (v : Int)), .int (iI (k : Int)), .int (iI (j : Int)), .int (iI (d : Int) + 1), .int (iI (j : Int))], [], Wd xs L A V (mY t b ld f [zO o, zI fm, zB fd]), 2, 288)) ok_ML_way 33 [false, false, false] rfl ⟨hinv, c1, c2, by show ¬ (iI (faF 12 12 H TT v d) ≤ iI (j : Int)); rw [iI_le ⟨by omega, by omega⟩ ⟨by omega, by omega⟩]; omega, trivial⟩)
                      rw [iI_1] at s6
                      exact ⟨_, s6⟩
                    · rw [if_neg (fun z => by omega)] at ef
                      rw [ef]
                      have s6 := r_tr s5 (r_to (g' := (33, [.ref (mj_NE + 33), .int (iI (st : Int)), .int (iI (e : Int)), .int (iI (bk : Int)), .ref (mj_NE + 36), .int (iI (v : Int)), .int (iI (k : Int)), .int (iI (faF 12 12 H TT v d)), .int (iI (d : Int) + 1), .int (iI (j : Int))], [], Wd xs L A V (mY t b ld f [zO o, zI fm, zB fd]), 2, 288)) ok_ML_way 33 [false, false, true] rfl ⟨hinv, c1, c2, by show iI (faF 12 12 H TT v d) ≤ iI (j : Int); rw [iI_le ⟨by omega, by omega⟩ ⟨by omega, by omega⟩]; omega, trivial⟩)
                      rw [iI_1] at s6
                      exact ⟨_, s6⟩
                · rw [if_neg (fun z => heq z.2.1)] at ef
                  rw [ef]
                  have s6 := r_tr s5 (r_to (g' := (33, [.ref (mj_NE + 33), .int (iI (st : Int)), .int (iI (e : Int)), .int (iI (bk : Int)), .ref (mj_NE + 36), .int (iI (v : Int)), .int (iI (k : Int)), .int (iI (faF 12 12 H TT v d)), .int (iI (d : Int) + 1), .int (iI (j : Int))], [], Wd xs L A V (mY t b ld f [zO o, zI fm, zB fd]), 2, 288)) ok_ML_way 33 [true] rfl ⟨hinv, by
                    show ¬ (iI (TT j) + iI (wg H j d v) = fm (iI (v : Int)).toNatClampNeg)
                    rw [hcv, hfm v hvn, iI_add, iI_eq ⟨by omega, by omega⟩ ⟨by omega, by omega⟩]
                    exact heq, trivial⟩)
                  rw [iI_1] at s6
                  exact ⟨_, s6⟩
          obtain ⟨u9', hr3⟩ := lq 8 (Nat.le_refl _)
          have s7 := r_tr hr3 (r_to (g' := (13, [.ref (mj_NE + 33), .int (iI (st : Int)), .int (iI (e : Int)), .int (iI (bk : Int)), .ref (mj_NE + 36), .int (iI (faF 12 12 H TT v 8)), .int (iI (k : Int) + 1), .int (iI (faF 12 12 H TT v 8)), .int (iI ((8 : Nat) : Int)), u9'], [], Wd xs L A V (mY t b ld f [zO o, zI fm, zB fd]), 2, 288)) ok_ML_way 13 [true] rfl ⟨by show iI 8 ≤ iI ((8 : Nat) : Int); rw [iI_le ⟨by omega, by omega⟩ ⟨by omega, by omega⟩]; omega, trivial⟩)
          rw [iI_1] at s7
          exact Or.inl ⟨hpos, _, _, _, s7⟩
      · rw [if_pos h0] at e1
        rw [e1]
        exact Or.inr ⟨h0, L9, hr⟩
  have hb := gbF_bd (st := st) (H := H) (T := TT) g12 g12 (e := e) (by omega) bk
  rcases lp bk (Nat.le_refl _) with ⟨h0, u7, u8, u9, hr⟩ | ⟨h0, L9, hr⟩
  · exact ct_of ok_ML_way rfl (r_tr hr (r_to (g' := (113, [.ref (mj_NE + 33), .int (iI (st : Int)), .int (iI (e : Int)), .int (iI (bk : Int)), .ref (mj_NE + 36), .int (iI (gbF 12 12 st H TT e bk)), .int (iI (bk : Int)), u7, u8, u9], [.int (iI (gbF 12 12 st H TT e bk))], Wd xs L A V (mY t b ld f [zO o, zI fm, zB fd]), 2, 288)) ok_ML_way 9999 [true] rfl ⟨by show iI (bk : Int) ≤ iI (bk : Int); exact Int32.le_refl _, trivial⟩)) rfl rfl rfl rfl rfl
  · rw [show gbF 12 12 st H TT e bk = -1 by omega]
    exact ct_of ok_ML_way rfl hr rfl rfl rfl rfl rfl
end REF16
