/-! Groups: leaderOf, join, as they are -/
section GRP
variable {xs : Nat → Int32} {L : Nat} {A : Nat → Nat → Int32} {V : Nat → Int32} {Y : mj_H} {K : Nat} {f : Nat → Nat}
theorem c_leaderOfH {m : Nat} (hK : K = 512) (hf : ∀ j, j < 512 → A 15 j = iI (f j) ∧ f j < 512) (hm : m < 512) : ∃ A1 : Nat → Nat → Int32, (∀ j, j < 512 → A1 15 j = iI ((ldF K f m).2 j)) ∧ (∀ k, k ≠ 15 → A1 k = A k) ∧ mj_Ct m_Groups_leaderOf [.ref (mj_NE + 20), .int (iI m)] (Wd xs L A V Y) (some (.int (iI (ldF K f m).1))) (Wd xs L A1 V Y) 0 0 0 := by
  have lp : ∀ (r k t : Nat), k + r = 512 → t < 512 → ∃ u3 : Value, mj_Rc m_Groups_leaderOf 0 0 0 (4, [.ref (mj_NE + 20), .int (iI m), .int (iI t), .int (iI k)], [], Wd xs L A V Y, 0, 0) (34, [.ref (mj_NE + 20), .int (iI m), .int (iI (itf f r t)),  u3], [], Wd xs L A V Y, 0, 0) := by
    intro r
    induction r with
    | zero =>
      intro k t hk ht
      exact ⟨_, r_to ok_Groups_leaderOf 34 [true] rfl ⟨by
        show iI 512 ≤ iI k
        rw [iI_le ⟨by omega, by omega⟩ ⟨by omega, by omega⟩]
        omega, trivial⟩⟩
    | succ r ih =>
      intro k t hk ht
      have n1 : ¬ (iI 512 ≤ iI k) := by rw [iI_le ⟨by omega, by omega⟩ ⟨by omega, by omega⟩]; omega
      have hin : vp_in (iI t) 512 := in_nat ht (by omega)
      have hc : (iI t).toNatClampNeg = t := cl_nat (by omega)
      obtain ⟨e1, e2⟩ := hf t ht
      have ea : A 15 (iI t).toNatClampNeg = iI (f t) := by rw [hc, e1]
      by_cases e : f t = t
      · have ei : itf f (r + 1) t = t := itf_fix e (r + 1)
        rw [ei]
        exact ⟨_, r_to ok_Groups_leaderOf 34 [false, true] rfl ⟨n1, hin, by
          show A 15 (iI t).toNatClampNeg = iI t
          rw [ea, e], trivial⟩⟩
      · obtain ⟨u3, hr⟩ := ih (k + 1) (f t) (by omega) e2
        have t1 := r_to (RC := 0) (RS := 0) (dd := 0) (g := (4, [.ref (mj_NE + 20), .int (iI m), .int (iI t), .int (iI k)], [], Wd xs L A V Y, 0, 0)) (g' := (4, [.ref (mj_NE + 20), .int (iI m), .int (A 15 (iI t).toNatClampNeg), .int (iI k + 1)], [], Wd xs L A V Y, 0, 0)) ok_Groups_leaderOf 4 [false, false] rfl ⟨n1, hin, by
          show ¬ (A 15 (iI t).toNatClampNeg = iI t)
          rw [ea, iI_eq ⟨by omega, by omega⟩ ⟨by omega, by omega⟩]
          omega, hin, trivial⟩
        rw [ea, iI_1] at t1
        exact ⟨u3, r_tr t1 hr⟩
  obtain ⟨u3, hr⟩ := lp 512 0 m (by omega) hm
  have er : itf f 512 m = (ldF K f m).1 := by
    rw [← hK]
    rfl
  rw [er] at hr
  have hcm : (iI m).toNatClampNeg = m := cl_nat (by omega)
  have t1 := r_tr (r_to (RC := 0) (RS := 0) (dd := 0) (g := (0, [.ref (mj_NE + 20), .int (iI m), mj_u, mj_u], [], Wd xs L A V Y, 0, 0)) (g' := (4, [.ref (mj_NE + 20), .int (iI m), .int (iI m), .int (iI ((0 : Nat) : Int))], [], Wd xs L A V Y, 0, 0)) ok_Groups_leaderOf 4 [] rfl trivial) hr
  have t2 := r_tr t1 (r_to (g' := (42, [.ref (mj_NE + 20), .int (iI m), .int (iI (ldF K f m).1), u3], [.int (iI (ldF K f m).1)], Wd xs L (wA A 15 (upd (A 15) (iI m).toNatClampNeg (iI (ldF K f m).1))) V Y, 0, 0)) ok_Groups_leaderOf 9999 [] rfl ⟨in_nat hm (by omega), trivial⟩)
  rw [hcm] at t2
  refine ⟨_, fun j hj => ?_, fun k hk => wA_n hk, ct_of ok_Groups_leaderOf rfl t2 rfl rfl rfl rfl rfl⟩
  rw [wA_s]
  show upd (A 15) m (iI (ldF K f m).1) j = iI ((supI f m (ldF K f m).1 j : Nat) : Int)
  by_cases e : j = m
  · rw [e, upd_eq, supI_eq]
  · rw [upd_ne e, supI_ne e, (hf j hj).1]
theorem c_joinH {m b : Nat} (hK : K = 512) (hf : ∀ j, j < 512 → A 15 j = iI (f j) ∧ f j < 512) (hm : m < 512) (hb : b < 512) : ∃ A1 : Nat → Nat → Int32, (∀ j, j < 512 → A1 15 j = iI ((jnF K f m b).2 j)) ∧ (∀ k, k ≠ 15 → A1 k = A k) ∧ mj_Ct m_Groups_join [.ref (mj_NE + 20), .int (iI m), .int (iI b)] (Wd xs L A V Y) (some (.int (bI (jnF K f m b).1))) (Wd xs L A1 V Y) 0 0 1 := by
  have l1 := ldF_lt (K := K) (fun j hj => (hf j hj).2) hm
  obtain ⟨A1, g1, g2, c1⟩ := c_leaderOfH (xs := xs) (L := L) (V := V) (Y := Y) hK hf hm
  have l2 := ldF_lt (K := K) l1.2 hb
  obtain ⟨A2, h1, h2, c2⟩ := c_leaderOfH (xs := xs) (L := L) (V := V) (Y := Y) (A := A1) (f := (ldF K f m).2) hK (fun j hj => ⟨g1 j hj, l1.2 j hj⟩) hb
  have t1 := r_to (RC := 0) (RS := 0) (dd := 1) (g := (0, [.ref (mj_NE + 20), .int (iI m), .int (iI b), mj_u, mj_u], [], Wd xs L A V Y, 0, 0)) (g' := (2, [.ref (mj_NE + 20), .int (iI m), .int (iI b), mj_u, mj_u], [.int (iI m), .ref (mj_NE + 20)], Wd xs L A V Y, 0, 0)) ok_Groups_join 9999 [] rfl trivial
  have t2 := r_tr t1 (q_V ok_Groups_join ok_Groups_leaderOf se_Groups_leaderOf c1 rfl rfl rfl rfl rfl ⟨rfl, rfl, rfl⟩)
  have t3 := r_tr t2 (r_to (g' := (8, [.ref (mj_NE + 20), .int (iI m), .int (iI b), .int (iI (ldF K f m).1), mj_u], [.int (iI b), .ref (mj_NE + 20)], Wd xs L A1 V Y, 0, 0)) ok_Groups_join 9999 [] rfl trivial)
  have t4 := r_tr t3 (q_V ok_Groups_join ok_Groups_leaderOf se_Groups_leaderOf c2 rfl rfl rfl rfl rfl ⟨rfl, rfl, rfl⟩)
  have hcb : (iI (ldF K (ldF K f m).2 b).1).toNatClampNeg = (ldF K (ldF K f m).2 b).1 := cl_nat (by omega)
  have hin : vp_in (iI (ldF K (ldF K f m).2 b).1) 512 := in_nat l2.1 (by omega)
  have hq : (jnF K f m b).1 = decide ((ldF K (ldF K f m).2 b).1 ≠ (ldF K f m).1) := rfl
  have row : ∀ j, j < 512 → (wA A2 15 (upd (A2 15) (ldF K (ldF K f m).2 b).1 (iI (ldF K f m).1))) 15 j = iI ((jnF K f m b).2 j) := by
    intro j hj
    rw [wA_s]
    show upd (A2 15) (ldF K (ldF K f m).2 b).1 (iI (ldF K f m).1) j = iI ((supI (ldF K (ldF K f m).2 b).2 (ldF K (ldF K f m).2 b).1 (ldF K f m).1 j : Nat) : Int)
    by_cases e : j = (ldF K (ldF K f m).2 b).1
    · rw [e, upd_eq, supI_eq]
    · rw [upd_ne e, supI_ne e, h1 j hj]
  refine ⟨wA A2 15 (upd (A2 15) (ldF K (ldF K f m).2 b).1 (iI (ldF K f m).1)), row, fun k hk => by rw [wA_n hk, h2 k hk, g2 k hk], ?_⟩
  by_cases e : (ldF K (ldF K f m).2 b).1 = (ldF K f m).1
  · have t5 := r_tr t4 (r_to (g' := (32, [.ref (mj_NE + 20), .int (iI m), .int (iI b), .int (iI (ldF K f m).1), .int (iI (ldF K (ldF K f m).2 b).1)], [.int (bI false)], Wd xs L (wA A2 15 (upd (A2 15) (iI (ldF K (ldF K f m).2 b).1).toNatClampNeg (iI (ldF K f m).1))) V Y, 0, 0)) ok_Groups_join 9999 [true] rfl ⟨hin, by
      show iI (ldF K (ldF K f m).2 b).1 = iI (ldF K f m).1
      rw [e], trivial⟩)
    rw [hcb] at t5
    rw [hq, decide_eq_false (fun z => z e)]
    exact ct_of ok_Groups_join rfl t5 rfl rfl ⟨rfl, bI_nar false⟩ rfl rfl
  · have t5 := r_tr t4 (r_to (g' := (32, [.ref (mj_NE + 20), .int (iI m), .int (iI b), .int (iI (ldF K f m).1), .int (iI (ldF K (ldF K f m).2 b).1)], [.int (bI true)], Wd xs L (wA A2 15 (upd (A2 15) (iI (ldF K (ldF K f m).2 b).1).toNatClampNeg (iI (ldF K f m).1))) V Y, 0, 0)) ok_Groups_join 9999 [false] rfl ⟨hin, by
      show ¬ (iI (ldF K (ldF K f m).2 b).1 = iI (ldF K f m).1)
      rw [iI_eq ⟨by omega, by omega⟩ ⟨by omega, by omega⟩]
      omega, trivial⟩)
    rw [hcb] at t5
    rw [hq, decide_eq_true e]
    exact ct_of ok_Groups_join rfl t5 rfl rfl ⟨rfl, bI_nar true⟩ rfl rfl
theorem c_leaderOfC {m : Nat} (hK : K = 512) (hf : ∀ j, j < 512 → A 17 j = iI (f j) ∧ f j < 512) (hm : m < 512) : ∃ A1 : Nat → Nat → Int32, (∀ j, j < 512 → A1 17 j = iI ((ldF K f m).2 j)) ∧ (∀ k, k ≠ 17 → A1 k = A k) ∧ mj_Ct m_Groups_leaderOf [.ref (mj_NE + 24), .int (iI m)] (Wd xs L A V Y) (some (.int (iI (ldF K f m).1))) (Wd xs L A1 V Y) 0 0 0 := by
  have lp : ∀ (r k t : Nat), k + r = 512 → t < 512 → ∃ u3 : Value, mj_Rc m_Groups_leaderOf 0 0 0 (4, [.ref (mj_NE + 24), .int (iI m), .int (iI t), .int (iI k)], [], Wd xs L A V Y, 0, 0) (34, [.ref (mj_NE + 24), .int (iI m), .int (iI (itf f r t)),  u3], [], Wd xs L A V Y, 0, 0) := by
    intro r
    induction r with
    | zero =>
      intro k t hk ht
      exact ⟨_, r_to ok_Groups_leaderOf 34 [true] rfl ⟨by
        show iI 512 ≤ iI k
        rw [iI_le ⟨by omega, by omega⟩ ⟨by omega, by omega⟩]
        omega, trivial⟩⟩
    | succ r ih =>
      intro k t hk ht
      have n1 : ¬ (iI 512 ≤ iI k) := by rw [iI_le ⟨by omega, by omega⟩ ⟨by omega, by omega⟩]; omega
      have hin : vp_in (iI t) 512 := in_nat ht (by omega)
      have hc : (iI t).toNatClampNeg = t := cl_nat (by omega)
      obtain ⟨e1, e2⟩ := hf t ht
      have ea : A 17 (iI t).toNatClampNeg = iI (f t) := by rw [hc, e1]
      by_cases e : f t = t
      · have ei : itf f (r + 1) t = t := itf_fix e (r + 1)
        rw [ei]
        exact ⟨_, r_to ok_Groups_leaderOf 34 [false, true] rfl ⟨n1, hin, by
          show A 17 (iI t).toNatClampNeg = iI t
          rw [ea, e], trivial⟩⟩
      · obtain ⟨u3, hr⟩ := ih (k + 1) (f t) (by omega) e2
        have t1 := r_to (RC := 0) (RS := 0) (dd := 0) (g := (4, [.ref (mj_NE + 24), .int (iI m), .int (iI t), .int (iI k)], [], Wd xs L A V Y, 0, 0)) (g' := (4, [.ref (mj_NE + 24), .int (iI m), .int (A 17 (iI t).toNatClampNeg), .int (iI k + 1)], [], Wd xs L A V Y, 0, 0)) ok_Groups_leaderOf 4 [false, false] rfl ⟨n1, hin, by
          show ¬ (A 17 (iI t).toNatClampNeg = iI t)
          rw [ea, iI_eq ⟨by omega, by omega⟩ ⟨by omega, by omega⟩]
          omega, hin, trivial⟩
        rw [ea, iI_1] at t1
        exact ⟨u3, r_tr t1 hr⟩
  obtain ⟨u3, hr⟩ := lp 512 0 m (by omega) hm
  have er : itf f 512 m = (ldF K f m).1 := by
    rw [← hK]
    rfl
  rw [er] at hr
  have hcm : (iI m).toNatClampNeg = m := cl_nat (by omega)
  have t1 := r_tr (r_to (RC := 0) (RS := 0) (dd := 0) (g := (0, [.ref (mj_NE + 24), .int (iI m), mj_u, mj_u], [], Wd xs L A V Y, 0, 0)) (g' := (4, [.ref (mj_NE + 24), .int (iI m), .int (iI m), .int (iI ((0 : Nat) : Int))], [], Wd xs L A V Y, 0, 0)) ok_Groups_leaderOf 4 [] rfl trivial) hr
  have t2 := r_tr t1 (r_to (g' := (42, [.ref (mj_NE + 24), .int (iI m), .int (iI (ldF K f m).1), u3], [.int (iI (ldF K f m).1)], Wd xs L (wA A 17 (upd (A 17) (iI m).toNatClampNeg (iI (ldF K f m).1))) V Y, 0, 0)) ok_Groups_leaderOf 9999 [] rfl ⟨in_nat hm (by omega), trivial⟩)
  rw [hcm] at t2
  refine ⟨_, fun j hj => ?_, fun k hk => wA_n hk, ct_of ok_Groups_leaderOf rfl t2 rfl rfl rfl rfl rfl⟩
  rw [wA_s]
  show upd (A 17) m (iI (ldF K f m).1) j = iI ((supI f m (ldF K f m).1 j : Nat) : Int)
  by_cases e : j = m
  · rw [e, upd_eq, supI_eq]
  · rw [upd_ne e, supI_ne e, (hf j hj).1]
theorem c_joinC {m b : Nat} (hK : K = 512) (hf : ∀ j, j < 512 → A 17 j = iI (f j) ∧ f j < 512) (hm : m < 512) (hb : b < 512) : ∃ A1 : Nat → Nat → Int32, (∀ j, j < 512 → A1 17 j = iI ((jnF K f m b).2 j)) ∧ (∀ k, k ≠ 17 → A1 k = A k) ∧ mj_Ct m_Groups_join [.ref (mj_NE + 24), .int (iI m), .int (iI b)] (Wd xs L A V Y) (some (.int (bI (jnF K f m b).1))) (Wd xs L A1 V Y) 0 0 1 := by
  have l1 := ldF_lt (K := K) (fun j hj => (hf j hj).2) hm
  obtain ⟨A1, g1, g2, c1⟩ := c_leaderOfC (xs := xs) (L := L) (V := V) (Y := Y) hK hf hm
  have l2 := ldF_lt (K := K) l1.2 hb
  obtain ⟨A2, h1, h2, c2⟩ := c_leaderOfC (xs := xs) (L := L) (V := V) (Y := Y) (A := A1) (f := (ldF K f m).2) hK (fun j hj => ⟨g1 j hj, l1.2 j hj⟩) hb
  have t1 := r_to (RC := 0) (RS := 0) (dd := 1) (g := (0, [.ref (mj_NE + 24), .int (iI m), .int (iI b), mj_u, mj_u], [], Wd xs L A V Y, 0, 0)) (g' := (2, [.ref (mj_NE + 24), .int (iI m), .int (iI b), mj_u, mj_u], [.int (iI m), .ref (mj_NE + 24)], Wd xs L A V Y, 0, 0)) ok_Groups_join 9999 [] rfl trivial
  have t2 := r_tr t1 (q_V ok_Groups_join ok_Groups_leaderOf se_Groups_leaderOf c1 rfl rfl rfl rfl rfl ⟨rfl, rfl, rfl⟩)
  have t3 := r_tr t2 (r_to (g' := (8, [.ref (mj_NE + 24), .int (iI m), .int (iI b), .int (iI (ldF K f m).1), mj_u], [.int (iI b), .ref (mj_NE + 24)], Wd xs L A1 V Y, 0, 0)) ok_Groups_join 9999 [] rfl trivial)
  have t4 := r_tr t3 (q_V ok_Groups_join ok_Groups_leaderOf se_Groups_leaderOf c2 rfl rfl rfl rfl rfl ⟨rfl, rfl, rfl⟩)
  have hcb : (iI (ldF K (ldF K f m).2 b).1).toNatClampNeg = (ldF K (ldF K f m).2 b).1 := cl_nat (by omega)
  have hin : vp_in (iI (ldF K (ldF K f m).2 b).1) 512 := in_nat l2.1 (by omega)
  have hq : (jnF K f m b).1 = decide ((ldF K (ldF K f m).2 b).1 ≠ (ldF K f m).1) := rfl
  have row : ∀ j, j < 512 → (wA A2 17 (upd (A2 17) (ldF K (ldF K f m).2 b).1 (iI (ldF K f m).1))) 17 j = iI ((jnF K f m b).2 j) := by
    intro j hj
    rw [wA_s]
    show upd (A2 17) (ldF K (ldF K f m).2 b).1 (iI (ldF K f m).1) j = iI ((supI (ldF K (ldF K f m).2 b).2 (ldF K (ldF K f m).2 b).1 (ldF K f m).1 j : Nat) : Int)
    by_cases e : j = (ldF K (ldF K f m).2 b).1
    · rw [e, upd_eq, supI_eq]
    · rw [upd_ne e, supI_ne e, h1 j hj]
  refine ⟨wA A2 17 (upd (A2 17) (ldF K (ldF K f m).2 b).1 (iI (ldF K f m).1)), row, fun k hk => by rw [wA_n hk, h2 k hk, g2 k hk], ?_⟩
  by_cases e : (ldF K (ldF K f m).2 b).1 = (ldF K f m).1
  · have t5 := r_tr t4 (r_to (g' := (32, [.ref (mj_NE + 24), .int (iI m), .int (iI b), .int (iI (ldF K f m).1), .int (iI (ldF K (ldF K f m).2 b).1)], [.int (bI false)], Wd xs L (wA A2 17 (upd (A2 17) (iI (ldF K (ldF K f m).2 b).1).toNatClampNeg (iI (ldF K f m).1))) V Y, 0, 0)) ok_Groups_join 9999 [true] rfl ⟨hin, by
      show iI (ldF K (ldF K f m).2 b).1 = iI (ldF K f m).1
      rw [e], trivial⟩)
    rw [hcb] at t5
    rw [hq, decide_eq_false (fun z => z e)]
    exact ct_of ok_Groups_join rfl t5 rfl rfl ⟨rfl, bI_nar false⟩ rfl rfl
  · have t5 := r_tr t4 (r_to (g' := (32, [.ref (mj_NE + 24), .int (iI m), .int (iI b), .int (iI (ldF K f m).1), .int (iI (ldF K (ldF K f m).2 b).1)], [.int (bI true)], Wd xs L (wA A2 17 (upd (A2 17) (iI (ldF K (ldF K f m).2 b).1).toNatClampNeg (iI (ldF K f m).1))) V Y, 0, 0)) ok_Groups_join 9999 [false] rfl ⟨hin, by
      show ¬ (iI (ldF K (ldF K f m).2 b).1 = iI (ldF K f m).1)
      rw [iI_eq ⟨by omega, by omega⟩ ⟨by omega, by omega⟩]
      omega, trivial⟩)
    rw [hcb] at t5
    rw [hq, decide_eq_true e]
    exact ct_of ok_Groups_join rfl t5 rfl rfl ⟨rfl, bI_nar true⟩ rfl rfl
end GRP
