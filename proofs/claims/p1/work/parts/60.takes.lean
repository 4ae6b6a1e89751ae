/-! THE REFERENCE: step, takes -/
section REF14
variable {xs : Nat → Int32} {L : Nat} {A : Nat → Nat → Int32} {V : Nat → Int32} {t b : Int32} {ld : Nat} {f : Nat → Int32} {o : Nat → Int64} {H : Nat → Int} {Z : mj_H}
theorem c_MLstep {u d v : Nat} (hf : Hts f 144 H) (hu : u < 144) (hd : d < 8) (hv : v < 144) : mj_Ct m_ML_step [.ref (mj_NE + 33), .int (iI (u : Int)), .int (iI (d : Int)), .int (iI (v : Int))] (Wd xs L A V (mY t b ld f (Z))) (some (.int (iI (wg H u d v)))) (Wd xs L A V (mY t b ld f (Z))) 0 0 1 := by
  have hcu : (iI (u : Int)).toNatClampNeg = u := cl_nat (by omega)
  have hcv : (iI (v : Int)).toNatClampNeg = v := cl_nat (by omega)
  obtain ⟨e1, b1, b2⟩ := hf u hu
  obtain ⟨e2, b3, b4⟩ := hf v hv
  have n2 : ¬ (iI 2 = 0) := by decide +kernel
  have md : iI (d : Int) - iI (d : Int) / iI 2 * iI 2 = iI ((d : Int) % 2) := by rw [iI_rem ⟨by omega, by omega⟩ ⟨by omega, by omega⟩, Int.tmod_eq_emod_of_nonneg (by omega)]
  have t1 : mj_Rc m_ML_step 0 0 1 (0, [.ref (mj_NE + 33), .int (iI (u : Int)), .int (iI (d : Int)), .int (iI (v : Int))], [], Wd xs L A V (mY t b ld f (Z)), 0, 0) (26, [.ref (mj_NE + 33), .int (iI (u : Int)), .int (iI (d : Int)), .int (iI (v : Int))], [.int (f (iI (u : Int)).toNatClampNeg - f (iI (v : Int)).toNatClampNeg), .int (iI (if d % 2 = 1 then 14 else 10))], Wd xs L A V (mY t b ld f (Z)), 0, 0) := by
    by_cases q : d % 2 = 1
    · rw [if_pos q]
      exact r_to ok_ML_step 9999 [true] rfl ⟨n2, by
        show ¬ (iI (d : Int) - iI (d : Int) / iI 2 * iI 2 = iI 0)
        rw [md, iI_eq ⟨by omega, by omega⟩ ⟨by omega, by omega⟩]
        omega, in_nat (by omega) (by omega), in_nat (by omega) (by omega), trivial⟩
    · rw [if_neg q]
      exact r_to ok_ML_step 9999 [false] rfl ⟨n2, fun z => z (by
        show iI (d : Int) - iI (d : Int) / iI 2 * iI 2 = iI 0
        rw [md, iI_eq ⟨by omega, by omega⟩ ⟨by omega, by omega⟩]
        omega), in_nat (by omega) (by omega), in_nat (by omega) (by omega), trivial⟩
  rw [hcu, hcv, e1, e2, iI_sub] at t1
  have t2 := r_tr t1 (q_S ok_ML_step ok_Math_abs st_Math_abs (c_abs (a := H u - H v) ⟨by omega, by omega⟩) rfl rfl rfl rfl ⟨rfl, rfl, rfl⟩)
  have t3 := r_tr t2 (r_to (g' := (30, [.ref (mj_NE + 33), .int (iI (u : Int)), .int (iI (d : Int)), .int (iI (v : Int))], [.int (iI (if d % 2 = 1 then 14 else 10) + iI ((H u - H v).natAbs : Int))], Wd xs L A V (mY t b ld f (Z)), 0, 0)) ok_ML_step 9999 [] rfl trivial)
  rw [iI_add] at t3
  exact ct_of ok_ML_step rfl t3 rfl rfl rfl rfl rfl
set_option maxHeartbeats 1000000 in
theorem pk_takes {st : Nat} {lev : Nat → Int} {dn : Nat → Bool} {fm fd : Nat → Int32} {u4 u5 u7 : Value} {r3 : Int32} (hm : ∀ j, j < 144 → fm j = iI (lev j)) (hb : ∀ j, j < 144 → 0 ≤ lev j ∧ lev j ≤ 2147483647) (hd : ∀ j, j < 144 → fd j = bI (dn j)) (hex : ∃ v, v < 144 ∧ dn v = false) : ∃ p : Nat, p < 144 ∧ dn p = false ∧ (∀ v, v < 144 → dn v = false → lev p ≤ lev v) ∧ mj_Rc m_ML_takes 2 288 2 (60, [.ref (mj_NE + 33), .int (iI (st : Int)), .ref (mj_NE + 36), .ref (mj_NE + 37), .int r3, u4, u5, u7], [], Wd xs L A V (mY t b ld f [zO o, zI fm, zB fd]), 2, 288) (108, [.ref (mj_NE + 33), .int (iI (st : Int)), .ref (mj_NE + 36), .ref (mj_NE + 37), .int r3, .int (iI (p : Int)), .int (iI ((144 : Nat) : Int)), u7], [], Wd xs L A V (mY t b ld f [zO o, zI fm, zB fd]), 2, 288) := by
  have r0 : mj_Rc m_ML_takes 2 288 2 (60, [.ref (mj_NE + 33), .int (iI (st : Int)), .ref (mj_NE + 36), .ref (mj_NE + 37), .int r3, u4, u5, u7], [], Wd xs L A V (mY t b ld f [zO o, zI fm, zB fd]), 2, 288) (66, [.ref (mj_NE + 33), .int (iI (st : Int)), .ref (mj_NE + 36), .ref (mj_NE + 37), .int r3, .int (iI (-1)), .int (iI ((0 : Nat) : Int)), u7], [], Wd xs L A V (mY t b ld f [zO o, zI fm, zB fd]), 2, 288) := r_to ok_ML_takes 66 [] rfl trivial
  have hsz : ∀ (n : Nat) (bb : Int), mj_Rc m_ML_takes 2 288 2 (66, [.ref (mj_NE + 33), .int (iI (st : Int)), .ref (mj_NE + 36), .ref (mj_NE + 37), .int r3, .int (iI bb), .int (iI (n : Int)), u7], [], Wd xs L A V (mY t b ld f [zO o, zI fm, zB fd]), 2, 288) (72, [.ref (mj_NE + 33), .int (iI (st : Int)), .ref (mj_NE + 36), .ref (mj_NE + 37), .int r3, .int (iI bb), .int (iI (n : Int)), u7], [.int (iI 144), .int (iI (n : Int))], Wd xs L A V (mY t b ld f [zO o, zI fm, zB fd]), 2, 288) := fun n bb => by
    have s1 := r_to (RC := 2) (RS := 288) (dd := 2) (g := (66, [.ref (mj_NE + 33), .int (iI (st : Int)), .ref (mj_NE + 36), .ref (mj_NE + 37), .int r3, .int (iI bb), .int (iI (n : Int)), u7], [], Wd xs L A V (mY t b ld f [zO o, zI fm, zB fd]), 2, 288)) (g' := (69, [.ref (mj_NE + 33), .int (iI (st : Int)), .ref (mj_NE + 36), .ref (mj_NE + 37), .int r3, .int (iI bb), .int (iI (n : Int)), u7], [.ref (mj_NE + 33), .int (iI (n : Int))], Wd xs L A V (mY t b ld f [zO o, zI fm, zB fd]), 2, 288)) ok_ML_takes 9999 [] rfl trivial
    exact r_tr s1 (q_V ok_ML_takes ok_ML_size se_ML_size (c_MLsize) rfl rfl rfl rfl rfl ⟨rfl, rfl, rfl⟩)
  have lp : ∀ k : Nat, k ≤ 144 → ∃ bb : Int, ((bb = -1 ∧ ∀ j, j < k → dn j = true) ∨ ∃ p : Nat, bb = p ∧ p < k ∧ dn p = false ∧ ∀ j, j < k → dn j = false → lev p ≤ lev j) ∧ mj_Rc m_ML_takes 2 288 2 (60, [.ref (mj_NE + 33), .int (iI (st : Int)), .ref (mj_NE + 36), .ref (mj_NE + 37), .int r3, u4, u5, u7], [], Wd xs L A V (mY t b ld f [zO o, zI fm, zB fd]), 2, 288) (66, [.ref (mj_NE + 33), .int (iI (st : Int)), .ref (mj_NE + 36), .ref (mj_NE + 37), .int r3, .int (iI bb), .int (iI (k : Int)), u7], [], Wd xs L A V (mY t b ld f [zO o, zI fm, zB fd]), 2, 288) := by
    intro k
    induction k with
    | zero => intro _; exact ⟨-1, Or.inl ⟨rfl, fun j hj => absurd hj (by omega)⟩, r0⟩
    | succ k ih =>
      intro hk
      obtain ⟨bb, hbb, hr⟩ := ih (by omega)
      have hc : (iI (k : Int)).toNatClampNeg = k := cl_nat (by omega)
      have hin : vp_in (iI (k : Int)) 144 := in_nat (by omega) (by omega)
      have c0 : ¬ (iI 144 ≤ iI (k : Int)) := by rw [iI_le ⟨by omega, by omega⟩ ⟨by omega, by omega⟩]; omega
      have hr2 := r_tr hr (hsz k bb)
      have hbk := hb k (by omega)
      cases hdk : dn k with
      | true =>
        have s := r_tr hr2 (r_to (g' := (66, [.ref (mj_NE + 33), .int (iI (st : Int)), .ref (mj_NE + 36), .ref (mj_NE + 37), .int r3, .int (iI bb), .int (iI (k : Int) + 1), u7], [], Wd xs L A V (mY t b ld f [zO o, zI fm, zB fd]), 2, 288)) ok_ML_takes 66 [false, true] rfl ⟨c0, hin, by
          show ¬ (fd (iI (k : Int)).toNatClampNeg = 0)
          rw [hc, hd k (by omega), hdk]
          show ¬ ((1 : Int32) = 0)
          decide, trivial⟩)
        rw [iI_1] at s
        refine ⟨bb, ?_, s⟩
        rcases hbb with ⟨q1, q2⟩ | ⟨p, q1, q2, q3, q4⟩
        · exact Or.inl ⟨q1, fun j hj => by
            by_cases e : j = k
            · subst e; exact hdk
            · exact q2 j (by omega)⟩
        · exact Or.inr ⟨p, q1, by omega, q3, fun j hj hjd => by
            by_cases e : j = k
            · subst e; rw [hdk] at hjd; exact Bool.noConfusion hjd
            · exact q4 j (by omega) hjd⟩
      | false =>
        have c1 : ¬ ¬ (fd (iI (k : Int)).toNatClampNeg = 0) := fun q => q (by rw [hc, hd k (by omega), hdk]; rfl)
        rcases hbb with ⟨q1, q2⟩ | ⟨p, q1, q2, q3, q4⟩
        · subst q1
          have s := r_tr hr2 (r_to (g' := (66, [.ref (mj_NE + 33), .int (iI (st : Int)), .ref (mj_NE + 36), .ref (mj_NE + 37), .int r3, .int (iI (k : Int)), .int (iI (k : Int) + 1), u7], [], Wd xs L A V (mY t b ld f [zO o, zI fm, zB fd]), 2, 288)) ok_ML_takes 66 [false, false, true] rfl ⟨c0, hin, c1, by
            show iI (-1) < iI 0
            rw [iI_lt ⟨by omega, by omega⟩ ⟨by omega, by omega⟩]; omega, trivial⟩)
          rw [iI_1] at s
          exact ⟨k, Or.inr ⟨k, rfl, by omega, hdk, fun j hj hjd => by
            by_cases e : j = k
            · subst e; exact Int.le_refl _
            · have := q2 j (by omega)
              rw [hjd] at this
              exact Bool.noConfusion this⟩, s⟩
        · subst q1
          have c2 : ¬ (iI (p : Int) < iI 0) := by rw [iI_lt ⟨by omega, by omega⟩ ⟨by omega, by omega⟩]; omega
          have hcp : (iI (p : Int)).toNatClampNeg = p := cl_nat (by omega)
          have hinp : vp_in (iI (p : Int)) 144 := in_nat (by omega) (by omega)
          have hbp := hb p (by omega)
          by_cases q : lev k < lev p
          · have s := r_tr hr2 (r_to (g' := (66, [.ref (mj_NE + 33), .int (iI (st : Int)), .ref (mj_NE + 36), .ref (mj_NE + 37), .int r3, .int (iI (k : Int)), .int (iI (k : Int) + 1), u7], [], Wd xs L A V (mY t b ld f [zO o, zI fm, zB fd]), 2, 288)) ok_ML_takes 66 [false, false, false, false] rfl ⟨c0, hin, c1, c2, hin, hinp, by
              show ¬ (fm (iI (p : Int)).toNatClampNeg ≤ fm (iI (k : Int)).toNatClampNeg)
              rw [hc, hcp, hm k (by omega), hm p (by omega)]
              rw [iI_le ⟨by omega, by omega⟩ ⟨by omega, by omega⟩]; omega, trivial⟩)
            rw [iI_1] at s
            exact ⟨k, Or.inr ⟨k, rfl, by omega, hdk, fun j hj hjd => by
              by_cases e : j = k
              · subst e; exact Int.le_refl _
              · have := q4 j (by omega) hjd
                omega⟩, s⟩
          · have s := r_tr hr2 (r_to (g' := (66, [.ref (mj_NE + 33), .int (iI (st : Int)), .ref (mj_NE + 36), .ref (mj_NE + 37), .int r3, .int (iI (p : Int)), .int (iI (k : Int) + 1), u7], [], Wd xs L A V (mY t b ld f [zO o, zI fm, zB fd]), 2, 288)) ok_ML_takes 66 [false, false, false, true] rfl ⟨c0, hin, c1, c2, hin, hinp, by
              show fm (iI (p : Int)).toNatClampNeg ≤ fm (iI (k : Int)).toNatClampNeg
              rw [hc, hcp, hm k (by omega), hm p (by omega)]
              rw [iI_le ⟨by omega, by omega⟩ ⟨by omega, by omega⟩]; omega, trivial⟩)
            rw [iI_1] at s
            exact ⟨p, Or.inr ⟨p, rfl, by omega, q3, fun j hj hjd => by
              by_cases e : j = k
              · subst e; omega
              · exact q4 j (by omega) hjd⟩, s⟩
  obtain ⟨bb, hbb, hr⟩ := lp 144 (Nat.le_refl _)
  rcases hbb with ⟨q1, q2⟩ | ⟨p, q1, q2, q3, q4⟩
  · obtain ⟨v, h1, h2⟩ := hex
    rw [q2 v h1] at h2
    exact Bool.noConfusion h2
  · subst q1
    exact ⟨p, q2, q3, q4, r_tr (r_tr hr (hsz 144 _)) (r_to ok_ML_takes 108 [true] rfl ⟨by
      show iI 144 ≤ iI ((144 : Nat) : Int)
      rw [iI_le ⟨by omega, by omega⟩ ⟨by omega, by omega⟩]; omega, trivial⟩)⟩
set_option maxHeartbeats 2000000 in
theorem c_ML_takes {st : Nat} (hst : st < 144) (hf : Hts f 144 H) : ∃ (T : Nat → Int) (fm fd : Nat → Int32), WyOK 12 12 144 st H T ∧ (∀ j, j < 144 → fm j = iI (T j)) ∧ mj_Ct m_ML_takes [.ref (mj_NE + 33), .int (iI (st : Int))] (Wd xs L A V (mY t b ld f [zO o])) (some (.ref (mj_NE + 36))) (Wd xs L A V (mY t b ld f [zO o, zI fm, zB fd])) 2 288 2 := by
  have hH2 : ∀ j, j < 144 → 0 ≤ H j ∧ H j ≤ 999 := fun j hj => (hf j hj).2
  have g12 : (2 : Int) ≤ 12 ∧ (12 : Int) ≤ 16 := ⟨by omega, by omega⟩
  have hnw : ((144 : Nat) : Int) = 12 * 12 := rfl
  have b1 : vp_nar .boolean (iI 1) = bI true := by decide +kernel
  have r1 := r_to (RC := 2) (RS := 288) (dd := 2) (g := (0, [.ref (mj_NE + 33), .int (iI (st : Int)), mj_u, mj_u, mj_u, mj_u, mj_u, mj_u], [], Wd xs L A V (mY t b ld f [zO o]), 0, 0)) (g' := (1, [.ref (mj_NE + 33), .int (iI (st : Int)), mj_u, mj_u, mj_u, mj_u, mj_u, mj_u], [.ref (mj_NE + 33)], Wd xs L A V (mY t b ld f [zO o]), 0, 0)) ok_ML_takes 9999 [] rfl trivial
  have r2 := r_tr r1 (q_V ok_ML_takes ok_ML_size se_ML_size (c_MLsize) rfl rfl rfl rfl rfl ⟨rfl, rfl, rfl⟩)
  have r3 := r_tr r2 (r_to (g' := (8, [.ref (mj_NE + 33), .int (iI (st : Int)), .ref (mj_NE + 36), mj_u, mj_u, mj_u, mj_u, mj_u], [.ref (mj_NE + 33)], Wd xs L A V (mY t b ld f [zO o, zI (fun _ => 0)]), 1, 144)) ok_ML_takes 9999 [] rfl ⟨⟨n144.2, by rw [n144.1]; decide, by decide, by rw [n144.1]; decide⟩, trivial⟩)
  have r4 := r_tr r3 (q_V ok_ML_takes ok_ML_size se_ML_size (c_MLsize) rfl rfl rfl rfl rfl ⟨rfl, rfl, rfl⟩)
  have r5 : mj_Rc m_ML_takes 2 288 2 (11, [.ref (mj_NE + 33), .int (iI (st : Int)), .ref (mj_NE + 36), mj_u, mj_u, mj_u, mj_u, mj_u], [.int (iI 144)], Wd xs L A V (mY t b ld f [zO o, zI (fun _ => 0)]), 1, 144) (17, [.ref (mj_NE + 33), .int (iI (st : Int)), .ref (mj_NE + 36), .ref (mj_NE + 37), .int (iI ((0 : Nat) : Int)), mj_u, mj_u, mj_u], [], Wd xs L A V (mY t b ld f [zO o, zI (pw (fun j => iI (if j = st then 0 else 2147483647)) (fun _ => 0) 0), zB (fun _ => 0)]), 2, 288) := by
    rw [pw_0]
    exact r_to ok_ML_takes 17 [] rfl ⟨⟨n144.2, by rw [n144.1]; decide, by decide, by rw [n144.1]; decide⟩, trivial⟩
  have hs1 : ∀ (n : Nat) (fm : Nat → Int32), mj_Rc m_ML_takes 2 288 2 (17, [.ref (mj_NE + 33), .int (iI (st : Int)), .ref (mj_NE + 36), .ref (mj_NE + 37), .int (iI (n : Int)), mj_u, mj_u, mj_u], [], Wd xs L A V (mY t b ld f [zO o, zI fm, zB (fun _ => 0)]), 2, 288) (23, [.ref (mj_NE + 33), .int (iI (st : Int)), .ref (mj_NE + 36), .ref (mj_NE + 37), .int (iI (n : Int)), mj_u, mj_u, mj_u], [.int (iI 144), .int (iI (n : Int))], Wd xs L A V (mY t b ld f [zO o, zI fm, zB (fun _ => 0)]), 2, 288) := fun n fm => by
    have s1 := r_to (RC := 2) (RS := 288) (dd := 2) (g := (17, [.ref (mj_NE + 33), .int (iI (st : Int)), .ref (mj_NE + 36), .ref (mj_NE + 37), .int (iI (n : Int)), mj_u, mj_u, mj_u], [], Wd xs L A V (mY t b ld f [zO o, zI fm, zB (fun _ => 0)]), 2, 288)) (g' := (20, [.ref (mj_NE + 33), .int (iI (st : Int)), .ref (mj_NE + 36), .ref (mj_NE + 37), .int (iI (n : Int)), mj_u, mj_u, mj_u], [.ref (mj_NE + 33), .int (iI (n : Int))], Wd xs L A V (mY t b ld f [zO o, zI fm, zB (fun _ => 0)]), 2, 288)) ok_ML_takes 9999 [] rfl trivial
    exact r_tr s1 (q_V ok_ML_takes ok_ML_size se_ML_size (c_MLsize) rfl rfl rfl rfl rfl ⟨rfl, rfl, rfl⟩)
  have lp1 : ∀ n : Nat, n ≤ 144 → mj_Rc m_ML_takes 2 288 2 (0, [.ref (mj_NE + 33), .int (iI (st : Int)), mj_u, mj_u, mj_u, mj_u, mj_u, mj_u], [], Wd xs L A V (mY t b ld f [zO o]), 0, 0) (17, [.ref (mj_NE + 33), .int (iI (st : Int)), .ref (mj_NE + 36), .ref (mj_NE + 37), .int (iI (n : Int)), mj_u, mj_u, mj_u], [], Wd xs L A V (mY t b ld f [zO o, zI (pw (fun j => iI (if j = st then 0 else 2147483647)) (fun _ => 0) n), zB (fun _ => 0)]), 2, 288) := by
    intro n
    induction n with
    | zero => intro _; exact r_tr r4 r5
    | succ n ih =>
      intro hn
      have hc : (iI (n : Int)).toNatClampNeg = n := cl_nat (by omega)
      have hin : vp_in (iI (n : Int)) 144 := in_nat (by omega) (by omega)
      have c0 : ¬ (iI 144 ≤ iI (n : Int)) := by rw [iI_le ⟨by omega, by omega⟩ ⟨by omega, by omega⟩]; omega
      have s2 := r_tr (ih (by omega)) (hs1 n _)
      by_cases he : n = st
      · have s4 := r_tr s2 (r_to (g' := (17, [.ref (mj_NE + 33), .int (iI (st : Int)), .ref (mj_NE + 36), .ref (mj_NE + 37), .int (iI (n : Int) + 1), mj_u, mj_u, mj_u], [], Wd xs L A V (mY t b ld f [zO o, zI (upd (pw (fun j => iI (if j = st then 0 else 2147483647)) (fun _ => 0) n) (iI (n : Int)).toNatClampNeg (iI 0)), zB (fun _ => 0)]), 2, 288)) ok_ML_takes 17 [false, false] rfl ⟨c0, fun z => z (by show iI (n : Int) = iI (st : Int); rw [he]), hin, trivial⟩)
        rw [hc, iI_1, pw_s (by rw [if_pos he])] at s4
        exact s4
      · have s4 := r_tr s2 (r_to (g' := (17, [.ref (mj_NE + 33), .int (iI (st : Int)), .ref (mj_NE + 36), .ref (mj_NE + 37), .int (iI (n : Int) + 1), mj_u, mj_u, mj_u], [], Wd xs L A V (mY t b ld f [zO o, zI (upd (pw (fun j => iI (if j = st then 0 else 2147483647)) (fun _ => 0) n) (iI (n : Int)).toNatClampNeg (iI 2147483647)), zB (fun _ => 0)]), 2, 288)) ok_ML_takes 17 [false, true] rfl ⟨c0, by show ¬ (iI (n : Int) = iI (st : Int)); rw [iI_eq ⟨by omega, by omega⟩ ⟨by omega, by omega⟩]; omega, hin, trivial⟩)
        rw [hc, iI_1, pw_s (by rw [if_neg he])] at s4
        exact s4
  have r6 := r_tr (r_tr (lp1 144 (Nat.le_refl _)) (hs1 144 _)) (r_to (g' := (51, [.ref (mj_NE + 33), .int (iI (st : Int)), .ref (mj_NE + 36), .ref (mj_NE + 37), .int (iI ((0 : Nat) : Int)), mj_u, mj_u, mj_u], [], Wd xs L A V (mY t b ld f [zO o, zI (pw (fun j => iI (if j = st then 0 else 2147483647)) (fun _ => 0) 144), zB (fun _ => 0)]), 2, 288)) ok_ML_takes 51 [true] rfl ⟨by show iI 144 ≤ iI ((144 : Nat) : Int); rw [iI_le ⟨by omega, by omega⟩ ⟨by omega, by omega⟩]; omega, trivial⟩)
  have hs2 : ∀ (n : Nat) (fm fd : Nat → Int32) (u5 u6 u7 : Value), mj_Rc m_ML_takes 2 288 2 (51, [.ref (mj_NE + 33), .int (iI (st : Int)), .ref (mj_NE + 36), .ref (mj_NE + 37), .int (iI (n : Int)), u5, u6, u7], [], Wd xs L A V (mY t b ld f [zO o, zI fm, zB fd]), 2, 288) (57, [.ref (mj_NE + 33), .int (iI (st : Int)), .ref (mj_NE + 36), .ref (mj_NE + 37), .int (iI (n : Int)), u5, u6, u7], [.int (iI 144), .int (iI (n : Int))], Wd xs L A V (mY t b ld f [zO o, zI fm, zB fd]), 2, 288) := fun n fm fd u5 u6 u7 => by
    have s1 := r_to (RC := 2) (RS := 288) (dd := 2) (g := (51, [.ref (mj_NE + 33), .int (iI (st : Int)), .ref (mj_NE + 36), .ref (mj_NE + 37), .int (iI (n : Int)), u5, u6, u7], [], Wd xs L A V (mY t b ld f [zO o, zI fm, zB fd]), 2, 288)) (g' := (54, [.ref (mj_NE + 33), .int (iI (st : Int)), .ref (mj_NE + 36), .ref (mj_NE + 37), .int (iI (n : Int)), u5, u6, u7], [.ref (mj_NE + 33), .int (iI (n : Int))], Wd xs L A V (mY t b ld f [zO o, zI fm, zB fd]), 2, 288)) ok_ML_takes 9999 [] rfl trivial
    exact r_tr s1 (q_V ok_ML_takes ok_ML_size se_ML_size (c_MLsize) rfl rfl rfl rfl rfl ⟨rfl, rfl, rfl⟩)
  have lp2 : ∀ n : Nat, n ≤ 144 → ∃ (lev : Nat → Int) (dn : Nat → Bool) (K : Int) (fm fd : Nat → Int32) (u5 u6 u7 : Value), (MwI 12 12 144 st H lev dn K ∧ MwC 12 12 144 H lev dn ∧ cnt dn 144 = n ∧ (∀ j, j < 144 → fm j = iI (lev j)) ∧ (∀ j, j < 144 → fd j = bI (dn j))) ∧ mj_Rc m_ML_takes 2 288 2 (0, [.ref (mj_NE + 33), .int (iI (st : Int)), mj_u, mj_u, mj_u, mj_u, mj_u, mj_u], [], Wd xs L A V (mY t b ld f [zO o]), 0, 0) (51, [.ref (mj_NE + 33), .int (iI (st : Int)), .ref (mj_NE + 36), .ref (mj_NE + 37), .int (iI (n : Int)), u5, u6, u7], [], Wd xs L A V (mY t b ld f [zO o, zI fm, zB fd]), 2, 288) := by
    intro n
    induction n with
    | zero =>
      intro _
      exact ⟨_, fun _ => false, 0, _, _, _, _, _, ⟨MwI_0 hst, fun u hu hd => Bool.noConfusion hd, cnt_0 144 (fun _ _ => rfl), fun j hj => pw_lt hj, fun j hj => rfl⟩, r6⟩
    | succ n ih =>
      intro hn
      obtain ⟨lev, dn, K, fm, fd, u5, u6, u7, ⟨hI, hC, hcn, hfm, hfd⟩, hr⟩ := ih (by omega)
      have c0 : ¬ (iI 144 ≤ iI (n : Int)) := by rw [iI_le ⟨by omega, by omega⟩ ⟨by omega, by omega⟩]; omega
      have hbd := MwI_bd (by omega) hI
      obtain ⟨p, hp, hpd, hmin, hpk⟩ := pk_takes (xs := xs) (L := L) (A := A) (V := V) (t := t) (b := b) (ld := ld) (f := f) (o := o) (st := st) (r3 := iI (n : Int)) (u4 := u5) (u5 := u6) (u7 := u7) hfm hbd hfd (cnt_one 144 (by omega))
      have s1 := r_tr (r_tr hr (hs2 n fm fd u5 u6 u7)) (r_to (g' := (60, [.ref (mj_NE + 33), .int (iI (st : Int)), .ref (mj_NE + 36), .ref (mj_NE + 37), .int (iI (n : Int)), u5, u6, u7], [], Wd xs L A V (mY t b ld f [zO o, zI fm, zB fd]), 2, 288)) ok_ML_takes 60 [false] rfl ⟨c0, trivial⟩)
      obtain ⟨hfin, hKp, hcu, hI2⟩ := MwI_pick g12 g12 hnw hst hH2 hI hC hp hpd hmin
      have hTc : 0 ≤ lev p ∧ lev p + 1013 ≤ 1013 * cnt (sup dn p) 144 := by omega
      have hcp : (iI (p : Int)).toNatClampNeg = p := cl_nat (by omega)
      have hinp : vp_in (iI (p : Int)) 144 := in_nat (by omega) (by omega)
      have s2 := r_tr (r_tr s1 hpk) (r_to (g' := (116, [.ref (mj_NE + 33), .int (iI (st : Int)), .ref (mj_NE + 36), .ref (mj_NE + 37), .int (iI (n : Int)), .int (iI (p : Int)), .int (iI ((0 : Nat) : Int)), u7], [], Wd xs L A V (mY t b ld f [zO o, zI fm, zB (upd fd (iI (p : Int)).toNatClampNeg (vp_nar .boolean (iI 1)))]), 2, 288)) ok_ML_takes 116 [] rfl ⟨hinp, trivial⟩)
      rw [hcp, b1] at s2
      have hfd2 : ∀ j, j < 144 → upd fd p (bI true) j = bI (sup dn p j) := fun j hj => by
        by_cases e : j = p
        · subst e; rw [upd_eq, sup_eq]
        · rw [upd_ne e, sup_ne e]; exact hfd j hj
      have lp3 : ∀ i : Nat, i ≤ 8 → ∃ (lev1 : Nat → Int) (fm1 : Nat → Int32) (u7 : Value), (MwI 12 12 144 st H lev1 (sup dn p) (lev p) ∧ (∀ u, u < 144 → sup dn p u = true → lev1 u = lev u) ∧ (∀ v, v < 144 → lev1 v ≤ lev v) ∧ (∀ d, d < i → 0 ≤ nbi 12 12 p d → lev1 (nbi 12 12 p d).toNat ≤ lev p + wg H p d (nbi 12 12 p d).toNat) ∧ (∀ j, j < 144 → fm1 j = iI (lev1 j))) ∧ mj_Rc m_ML_takes 2 288 2 (0, [.ref (mj_NE + 33), .int (iI (st : Int)), mj_u, mj_u, mj_u, mj_u, mj_u, mj_u], [], Wd xs L A V (mY t b ld f [zO o]), 0, 0) (116, [.ref (mj_NE + 33), .int (iI (st : Int)), .ref (mj_NE + 36), .ref (mj_NE + 37), .int (iI (n : Int)), .int (iI (p : Int)), .int (iI (i : Int)), u7], [], Wd xs L A V (mY t b ld f [zO o, zI fm1, zB (upd fd p (bI true))]), 2, 288) := by
        intro i
        induction i with
        | zero => intro _; exact ⟨lev, fm, _, ⟨hI2, fun _ _ _ => rfl, fun _ _ => Int.le_refl _, fun d hd => absurd hd (by omega), hfm⟩, s2⟩
        | succ i ih3 =>
          intro hi
          obtain ⟨lev1, fm1, u7, ⟨hJ, hs, hle, hdd, hfm1⟩, hr3⟩ := ih3 (by omega)
          have bd := nbi_bd (w := 12) (h := 12) g12 g12 p i
          have q0 : ¬ (iI 8 ≤ iI (i : Int)) := by rw [iI_le ⟨by omega, by omega⟩ ⟨by omega, by omega⟩]; omega
          have e1 := r_tr hr3 (r_to (g' := (128, [.ref (mj_NE + 33), .int (iI (st : Int)), .ref (mj_NE + 36), .ref (mj_NE + 37), .int (iI (n : Int)), .int (iI (p : Int)), .int (iI (i : Int)), u7], [.int (iI (i : Int)), .int (iI (p : Int)), .ref (mj_NE + 33)], Wd xs L A V (mY t b ld f [zO o, zI fm1, zB (upd fd p (bI true))]), 2, 288)) ok_ML_takes 9999 [false] rfl ⟨q0, trivial⟩)
          have e2 := r_tr e1 (q_V ok_ML_takes ok_ML_next se_ML_next (c_MLnext (d := i) hp (by omega)) rfl rfl rfl rfl rfl ⟨rfl, rfl, rfl⟩)
          have hext : ∀ (lev2 : Nat → Int), (∀ v, v < 144 → lev2 v ≤ lev1 v) → (0 ≤ nbi 12 12 p i → lev2 (nbi 12 12 p i).toNat ≤ lev p + wg H p i (nbi 12 12 p i).toNat) → ∀ d, d < i + 1 → 0 ≤ nbi 12 12 p d → lev2 (nbi 12 12 p d).toNat ≤ lev p + wg H p d (nbi 12 12 p d).toNat := fun lev2 h1 h2 d hd hp0 => by
            by_cases e : d = i
            · subst e; exact h2 hp0
            · have bd2 := nbi_bd (w := 12) (h := 12) g12 g12 p d
              have := hdd d (by omega) hp0
              have := h1 (nbi 12 12 p d).toNat (by omega)
              omega
          by_cases hneg : nbi 12 12 p i < 0
          · have e3 := r_tr e2 (r_to (g' := (116, [.ref (mj_NE + 33), .int (iI (st : Int)), .ref (mj_NE + 36), .ref (mj_NE + 37), .int (iI (n : Int)), .int (iI (p : Int)), .int (iI (i : Int) + 1), .int (iI (nbi 12 12 p i))], [], Wd xs L A V (mY t b ld f [zO o, zI fm1, zB (upd fd p (bI true))]), 2, 288)) ok_ML_takes 116 [true] rfl ⟨by
              show iI (nbi 12 12 p i) < iI 0
              rw [iI_lt ⟨by omega, by omega⟩ ⟨by omega, by omega⟩]; omega, trivial⟩)
            rw [iI_1] at e3
            exact ⟨lev1, fm1, _, ⟨hJ, hs, hle, hext lev1 (fun _ _ => Int.le_refl _) (fun q => by omega), hfm1⟩, e3⟩
          · obtain ⟨j, hj⟩ : ∃ j : Nat, (j : Int) = nbi 12 12 p i := ⟨(nbi 12 12 p i).toNat, by omega⟩
            have hj2 : (nbi 12 12 p i).toNat = j := by omega
            have hjn : j < 144 := by omega
            have hcj : (iI (j : Int)).toNatClampNeg = j := cl_nat (by omega)
            have hinj : vp_in (iI (j : Int)) 144 := in_nat (by omega) (by omega)
            rw [← hj] at e2
            have q1 : ¬ (iI (j : Int) < iI 0) := by rw [iI_lt ⟨by omega, by omega⟩ ⟨by omega, by omega⟩]; omega
            have l1p : lev1 p = lev p := hs p hp sup_eq
            have hwb := wg_bd (H := H) (u := p) (d := i) (v := j) (hH2 p hp) (hH2 j hjn)
            have e3 := r_tr e2 (r_to (g' := (156, [.ref (mj_NE + 33), .int (iI (st : Int)), .ref (mj_NE + 36), .ref (mj_NE + 37), .int (iI (n : Int)), .int (iI (p : Int)), .int (iI (i : Int)), .int (iI (j : Int))], [.int (iI (j : Int)), .int (iI (i : Int)), .int (iI (p : Int)), .ref (mj_NE + 33), .int (fm1 (iI (p : Int)).toNatClampNeg), .int (fm1 (iI (j : Int)).toNatClampNeg), .int (iI (j : Int)), .ref (mj_NE + 36)], Wd xs L A V (mY t b ld f [zO o, zI fm1, zB (upd fd p (bI true))]), 2, 288)) ok_ML_takes 9999 [false] rfl ⟨q1, hinj, hinp, trivial⟩)
            rw [hcj, hcp, hfm1 p hp, hfm1 j hjn, l1p] at e3
            have e4 := r_tr e3 (q_V ok_ML_takes ok_ML_step se_ML_step (c_MLstep hf hp (by omega) hjn) rfl rfl rfl rfl rfl ⟨rfl, rfl, rfl⟩)
            have e5 := r_tr e4 (r_to (g' := (160, [.ref (mj_NE + 33), .int (iI (st : Int)), .ref (mj_NE + 36), .ref (mj_NE + 37), .int (iI (n : Int)), .int (iI (p : Int)), .int (iI (i : Int)), .int (iI (j : Int))], [.int (iI (lev p) + iI (wg H p i j)), .int (iI (lev1 j)), .int (iI (j : Int)), .ref (mj_NE + 36)], Wd xs L A V (mY t b ld f [zO o, zI fm1, zB (upd fd p (bI true))]), 2, 288)) ok_ML_takes 9999 [] rfl trivial)
            rw [iI_add] at e5
            have hb2 := MwI_bd (by omega) hJ j hjn
            have e6 := r_tr e5 (q_S ok_ML_takes ok_Math_min st_Math_min (c_min (a := lev1 j) (b := lev p + wg H p i j) ⟨by omega, by omega⟩ ⟨by omega, by omega⟩) rfl rfl rfl rfl ⟨rfl, rfl, rfl⟩)
            have e7 := r_tr e6 (r_to (g' := (116, [.ref (mj_NE + 33), .int (iI (st : Int)), .ref (mj_NE + 36), .ref (mj_NE + 37), .int (iI (n : Int)), .int (iI (p : Int)), .int (iI (i : Int) + 1), .int (iI (j : Int))], [], Wd xs L A V (mY t b ld f [zO o, zI (upd fm1 (iI (j : Int)).toNatClampNeg (iI (min (lev1 j) (lev p + wg H p i j)))), zB (upd fd p (bI true))]), 2, 288)) ok_ML_takes 116 [] rfl ⟨hinj, trivial⟩)
            rw [iI_1, hcj] at e7
            have hset := MwI_set (T := lev1) (dn := sup dn p) (p := p) (d := i) g12 g12 hnw hH2 (by rw [l1p]; exact hJ) hp sup_eq (by rw [l1p]; exact hTc) (by omega) (by omega)
            rw [hj2, l1p] at hset
            have hlow : ∀ v, v < 144 → supI lev1 j (min (lev1 j) (lev p + wg H p i j)) v ≤ lev1 v := fun v hv => by
              by_cases e : v = j
              · subst e; rw [supI_eq]; omega
              · rw [supI_ne e]; exact Int.le_refl _
            refine ⟨supI lev1 j (min (lev1 j) (lev p + wg H p i j)), _, _, ⟨hset.1, fun u hu hdu => ?_, fun v hv => ?_, hext _ hlow (fun q => ?_), fun k hk => ?_⟩, e7⟩
            · rw [hset.2 u hu hdu]
              exact hs u hu hdu
            · have := hlow v hv
              have := hle v hv
              omega
            · rw [hj2, supI_eq]
              omega
            · by_cases e : k = j
              · subst e; rw [upd_eq, supI_eq]
              · rw [upd_ne e, supI_ne e]; exact hfm1 k hk
      obtain ⟨lev1, fm1, u7', ⟨hJ, hs, hle, hdd, hfm1⟩, hr3⟩ := lp3 8 (Nat.le_refl _)
      have s3 := r_tr hr3 (r_to (g' := (51, [.ref (mj_NE + 33), .int (iI (st : Int)), .ref (mj_NE + 36), .ref (mj_NE + 37), .int (iI (n : Int) + 1), .int (iI (p : Int)), .int (iI ((8 : Nat) : Int)), u7'], [], Wd xs L A V (mY t b ld f [zO o, zI fm1, zB (upd fd p (bI true))]), 2, 288)) ok_ML_takes 51 [true] rfl ⟨by show iI 8 ≤ iI ((8 : Nat) : Int); rw [iI_le ⟨by omega, by omega⟩ ⟨by omega, by omega⟩]; omega, trivial⟩)
      rw [iI_1] at s3
      refine ⟨lev1, sup dn p, lev p, fm1, _, _, _, _, ⟨hJ, fun u hu hdu d hd hp0 => ?_, ?_, hfm1, hfd2⟩, s3⟩
      · have bd := nbi_bd (w := 12) (h := 12) g12 g12 u d
        by_cases e : u = p
        · subst e
          rw [hs u hu sup_eq]
          exact hdd d hd hp0
        · have hdu2 := hdu
          rw [sup_ne e] at hdu
          have h1 := hC u hu hdu d hd hp0
          have h2 := hle (nbi 12 12 u d).toNat (by omega)
          rw [hs u hu hdu2]
          omega
      · rw [hcu, hcn]
        omega
  obtain ⟨lev, dn, K, fm, fd, u5, u6, u7, ⟨hI, hC, hcn, hfm, hfd⟩, hr⟩ := lp2 144 (Nat.le_refl _)
  exact ⟨lev, fm, fd, MwI_end (by omega) hI hC (cnt_all hcn), hfm, ct_of ok_ML_takes rfl (r_tr (r_tr hr (hs2 144 fm fd u5 u6 u7)) (r_to ok_ML_takes 9999 [true] rfl ⟨by show iI 144 ≤ iI ((144 : Nat) : Int); rw [iI_le ⟨by omega, by omega⟩ ⟨by omega, by omega⟩]; omega, trivial⟩)) rfl rfl rfl rfl rfl⟩
end REF14
