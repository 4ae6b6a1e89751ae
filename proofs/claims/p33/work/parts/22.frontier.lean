/-! Frontier, Groups.part, Streams.told, the depths -/
section FRO
variable {xs : Nat → Int32} {L : Nat} {A : Nat → Nat → Int32} {V : Nat → Int32} {Y : mj_H}
variable {w h : Int} {n : Nat} {H : Nat → Int}
theorem c_clearH : mj_Ct m_Frontier_clear [.ref (mj_NE + 18)] (Wd xs L A V Y) none (Wd xs L A (wV V 5 (iI 0)) Y) 0 0 0 :=
  ct_of ok_Frontier_clear rfl (r_to ok_Frontier_clear 9999 [] rfl trivial) rfl rfl rfl rfl rfl
theorem c_addH {s i : Nat} (hV : V 5 = iI s) (hs : s < 256) : mj_Ct m_Frontier_add [.ref (mj_NE + 18), .int (iI i)] (Wd xs L A V Y) none (Wd xs L (wA A 14 (upd (A 14) s (iI i))) (wV V 5 (iI ((s : Int) + 1))) Y) 0 0 0 := by
  have e1 : (V 5).toNatClampNeg = s := by rw [hV]; exact cl_nat (by omega)
  have s1 : mj_Rc m_Frontier_add 0 0 0 (0, [.ref (mj_NE + 18), .int (iI i)], [], Wd xs L A V Y, 0, 0) (30, [.ref (mj_NE + 18), .int (iI i)], [], Wd xs L (wA A 14 (upd (A 14) (V 5).toNatClampNeg (iI i))) (wV V 5 (V 5 + 1)) Y, 0, 0) := r_to ok_Frontier_add 9999 [false] rfl ⟨by
    show ¬ (iI 256 ≤ V 5)
    rw [hV, iI_le ⟨by omega, by omega⟩ ⟨by omega, by omega⟩]
    omega, by rw [hV]; exact in_nat (by omega) (by omega), trivial⟩
  rw [e1, hV, iI_1] at s1
  exact ct_of ok_Frontier_add rfl s1 rfl rfl rfl rfl rfl
theorem c_take0H (hV : V 5 = iI 0) : mj_Ct m_Frontier_takeLeast [.ref (mj_NE + 18), .ref (mj_NE + 17)] (Wd xs L A V Y) (some (.int (iI (-1)))) (Wd xs L A V Y) 0 0 0 := by
  rw [← iI_neg1]
  exact ct_of ok_Frontier_takeLeast rfl (r_to ok_Frontier_takeLeast 9999 [false] rfl ⟨by show ¬ (¬ (V 5 = 0)); rw [hV]; exact fun q => q rfl, trivial⟩) rfl rfl rfl rfl rfl
theorem c_takeH {s : Nat} {mm : Nat → Nat} {K : Nat → Int} (hV : V 5 = iI s) (hs : 0 < s ∧ s ≤ 256) (hm : ∀ j : Nat, j < s → A 14 j = iI (mm j) ∧ mm j < 256 ∧ A 13 (mm j) = iI (K (mm j)) ∧ -1 ≤ K (mm j) ∧ K (mm j) ≤ 1000000) : ∃ p : Nat, p < s ∧ (∀ j : Nat, j < s → K (mm p) ≤ K (mm j)) ∧ mj_Ct m_Frontier_takeLeast [.ref (mj_NE + 18), .ref (mj_NE + 17)] (Wd xs L A V Y) (some (.int (iI (mm p)))) (Wd xs L (wA A 14 (upd (A 14) p (iI (mm (s - 1))))) (wV V 5 (iI ((s : Int) - 1))) Y) 0 0 0 := by
  have s0 : mj_Rc m_Frontier_takeLeast 0 0 0 (0, [.ref (mj_NE + 18), .ref (mj_NE + 17), mj_u, mj_u], [], Wd xs L A V Y, 0, 0) (13, [.ref (mj_NE + 18), .ref (mj_NE + 17), .int (iI 0), .int (iI 1)], [], Wd xs L A V Y, 0, 0) := r_to ok_Frontier_takeLeast 13 [true] rfl ⟨by
    show ¬ (V 5 = 0)
    rw [hV, show (0 : Int32) = iI 0 from rfl, iI_eq ⟨by omega, by omega⟩ ⟨by omega, by omega⟩]
    omega, trivial⟩
  have lp : ∀ k : Nat, k + 1 ≤ s → ∃ p : Nat, p < k + 1 ∧ (∀ j : Nat, j < k + 1 → K (mm p) ≤ K (mm j)) ∧ mj_Rc m_Frontier_takeLeast 0 0 0 (0, [.ref (mj_NE + 18), .ref (mj_NE + 17), mj_u, mj_u], [], Wd xs L A V Y, 0, 0) (13, [.ref (mj_NE + 18), .ref (mj_NE + 17), .int (iI p), .int (iI ((k : Int) + 1))], [], Wd xs L A V Y, 0, 0) := by
    intro k
    induction k with
    | zero => intro _; exact ⟨0, by omega, fun j hj => by rw [show j = 0 by omega]; exact Int.le_refl _, s0⟩
    | succ k ih =>
      intro hk
      obtain ⟨p, hp, hle, hr⟩ := ih (by omega)
      obtain ⟨e1, b1, e2, b2, b3⟩ := hm (k + 1) (by omega)
      obtain ⟨e3, b4, e4, b5, b6⟩ := hm p (by omega)
      have c1 : (iI ((k : Int) + 1)).toNatClampNeg = k + 1 := cl_nat (n := k + 1) (by omega)
      have c2 : (iI p).toNatClampNeg = p := cl_nat (by omega)
      have c3 : (iI (mm (k + 1))).toNatClampNeg = mm (k + 1) := cl_nat (by omega)
      have c4 : (iI (mm p)).toNatClampNeg = mm p := cl_nat (by omega)
      have k1 : ¬ (V 5 ≤ iI ((k : Int) + 1)) := br_ge hV ⟨by omega, by omega⟩ ⟨by omega, by omega⟩ (by omega)
      have i1 : vp_in (iI ((k : Int) + 1)) 256 := in_nat (n := k + 1) (by omega) (by omega)
      have i2 : vp_in (A 14 (iI ((k : Int) + 1)).toNatClampNeg) 256 := by rw [c1, e1]; exact in_nat b1 (by omega)
      have i3 : vp_in (iI p) 256 := in_nat (by omega) (by omega)
      have i4 : vp_in (A 14 (iI p).toNatClampNeg) 256 := by rw [c2, e3]; exact in_nat b4 (by omega)
      have v1 : A 13 (A 14 (iI ((k : Int) + 1)).toNatClampNeg).toNatClampNeg = iI (K (mm (k + 1))) := by rw [c1, e1, c3, e2]
      have v2 : A 13 (A 14 (iI p).toNatClampNeg).toNatClampNeg = iI (K (mm p)) := by rw [c2, e3, c4, e4]
      by_cases hlt : K (mm (k + 1)) < K (mm p)
      · have s2 := r_tr hr (r_to (g' := (13, [.ref (mj_NE + 18), .ref (mj_NE + 17), .int (iI ((k : Int) + 1)), .int (iI ((k : Int) + 1) + 1)], [], Wd xs L A V Y, 0, 0)) ok_Frontier_takeLeast 13 [false, false] rfl ⟨k1, i1, i2, i3, i4, by
          show ¬ (A 13 (A 14 (iI p).toNatClampNeg).toNatClampNeg ≤ A 13 (A 14 (iI ((k : Int) + 1)).toNatClampNeg).toNatClampNeg)
          rw [v1, v2, iI_le ⟨by omega, by omega⟩ ⟨by omega, by omega⟩]
          omega, trivial⟩)
        rw [iI_1] at s2
        refine ⟨k + 1, by omega, fun j hj => ?_, s2⟩
        by_cases hj2 : j < k + 1
        · exact Int.le_trans (Int.le_of_lt hlt) (hle j hj2)
        · rw [show j = k + 1 by omega]
          exact Int.le_refl _
      · have s2 := r_tr hr (r_to (g' := (13, [.ref (mj_NE + 18), .ref (mj_NE + 17), .int (iI p), .int (iI ((k : Int) + 1) + 1)], [], Wd xs L A V Y, 0, 0)) ok_Frontier_takeLeast 13 [false, true] rfl ⟨k1, i1, i2, i3, i4, by
          show A 13 (A 14 (iI p).toNatClampNeg).toNatClampNeg ≤ A 13 (A 14 (iI ((k : Int) + 1)).toNatClampNeg).toNatClampNeg
          rw [v1, v2, iI_le ⟨by omega, by omega⟩ ⟨by omega, by omega⟩]
          omega, trivial⟩)
        rw [iI_1] at s2
        refine ⟨p, by omega, fun j hj => ?_, s2⟩
        by_cases hj2 : j < k + 1
        · exact hle j hj2
        · rw [show j = k + 1 by omega]
          omega
  obtain ⟨p, hp, hle, hr⟩ := lp (s - 1) (by omega)
  refine ⟨p, by omega, fun j hj => hle j (by omega), ?_⟩
  obtain ⟨e3, b4, e4, b5, b6⟩ := hm p (by omega)
  obtain ⟨e5, -⟩ := hm (s - 1) (by omega)
  have c2 : (iI p).toNatClampNeg = p := cl_nat (by omega)
  have e0 : V 5 - 1 = iI ((s : Int) - 1) := by rw [hV, show (1 : Int32) = iI 1 from rfl, iI_sub]
  have c5 : (V 5 - 1).toNatClampNeg = s - 1 := by rw [e0, show (s : Int) - 1 = ((s - 1 : Nat) : Int) by omega]; exact cl_nat (by omega)
  have s3 : mj_Rc m_Frontier_takeLeast 0 0 0 (13, [.ref (mj_NE + 18), .ref (mj_NE + 17), .int (iI p), .int (iI (((s - 1 : Nat) : Int) + 1))], [], Wd xs L A V Y, 0, 0) (81, [.ref (mj_NE + 18), .ref (mj_NE + 17), .int (iI p), .int (A 14 (iI p).toNatClampNeg)], [.int (A 14 (iI p).toNatClampNeg)], Wd xs L (wA A 14 (upd (A 14) (iI p).toNatClampNeg (A 14 (V 5 - 1).toNatClampNeg))) (wV V 5 (V 5 - 1)) Y, 0, 0) := r_to ok_Frontier_takeLeast 9999 [true] rfl ⟨br_lt hV ⟨by omega, by omega⟩ ⟨by omega, by omega⟩ (by omega), in_nat (by omega) (by omega), by
    show vp_in (V 5 - 1) 256
    rw [e0, show (s : Int) - 1 = ((s - 1 : Nat) : Int) by omega]
    exact in_nat (by omega) (by omega), in_nat (by omega) (by omega), trivial⟩
  rw [c5, e5, c2, e3, e0] at s3
  exact ct_of ok_Frontier_takeLeast rfl (r_tr hr s3) rfl rfl rfl rfl rfl
theorem c_clearW : mj_Ct m_Frontier_clear [.ref (mj_NE + 29)] (Wd xs L A V Y) none (Wd xs L A (wV V 9 (iI 0)) Y) 0 0 0 :=
  ct_of ok_Frontier_clear rfl (r_to ok_Frontier_clear 9999 [] rfl trivial) rfl rfl rfl rfl rfl
theorem c_addW {s i : Nat} (hV : V 9 = iI s) (hs : s < 256) : mj_Ct m_Frontier_add [.ref (mj_NE + 29), .int (iI i)] (Wd xs L A V Y) none (Wd xs L (wA A 19 (upd (A 19) s (iI i))) (wV V 9 (iI ((s : Int) + 1))) Y) 0 0 0 := by
  have e1 : (V 9).toNatClampNeg = s := by rw [hV]; exact cl_nat (by omega)
  have s1 : mj_Rc m_Frontier_add 0 0 0 (0, [.ref (mj_NE + 29), .int (iI i)], [], Wd xs L A V Y, 0, 0) (30, [.ref (mj_NE + 29), .int (iI i)], [], Wd xs L (wA A 19 (upd (A 19) (V 9).toNatClampNeg (iI i))) (wV V 9 (V 9 + 1)) Y, 0, 0) := r_to ok_Frontier_add 9999 [false] rfl ⟨by
    show ¬ (iI 256 ≤ V 9)
    rw [hV, iI_le ⟨by omega, by omega⟩ ⟨by omega, by omega⟩]
    omega, by rw [hV]; exact in_nat (by omega) (by omega), trivial⟩
  rw [e1, hV, iI_1] at s1
  exact ct_of ok_Frontier_add rfl s1 rfl rfl rfl rfl rfl
theorem c_take0W (hV : V 9 = iI 0) : mj_Ct m_Frontier_takeLeast [.ref (mj_NE + 29), .ref (mj_NE + 28)] (Wd xs L A V Y) (some (.int (iI (-1)))) (Wd xs L A V Y) 0 0 0 := by
  rw [← iI_neg1]
  exact ct_of ok_Frontier_takeLeast rfl (r_to ok_Frontier_takeLeast 9999 [false] rfl ⟨by show ¬ (¬ (V 9 = 0)); rw [hV]; exact fun q => q rfl, trivial⟩) rfl rfl rfl rfl rfl
theorem c_takeW {s : Nat} {mm : Nat → Nat} {K : Nat → Int} (hV : V 9 = iI s) (hs : 0 < s ∧ s ≤ 256) (hm : ∀ j : Nat, j < s → A 19 j = iI (mm j) ∧ mm j < 256 ∧ A 18 (mm j) = iI (K (mm j)) ∧ -1 ≤ K (mm j) ∧ K (mm j) ≤ 1000000) : ∃ p : Nat, p < s ∧ (∀ j : Nat, j < s → K (mm p) ≤ K (mm j)) ∧ mj_Ct m_Frontier_takeLeast [.ref (mj_NE + 29), .ref (mj_NE + 28)] (Wd xs L A V Y) (some (.int (iI (mm p)))) (Wd xs L (wA A 19 (upd (A 19) p (iI (mm (s - 1))))) (wV V 9 (iI ((s : Int) - 1))) Y) 0 0 0 := by
  have s0 : mj_Rc m_Frontier_takeLeast 0 0 0 (0, [.ref (mj_NE + 29), .ref (mj_NE + 28), mj_u, mj_u], [], Wd xs L A V Y, 0, 0) (13, [.ref (mj_NE + 29), .ref (mj_NE + 28), .int (iI 0), .int (iI 1)], [], Wd xs L A V Y, 0, 0) := r_to ok_Frontier_takeLeast 13 [true] rfl ⟨by
    show ¬ (V 9 = 0)
    rw [hV, show (0 : Int32) = iI 0 from rfl, iI_eq ⟨by omega, by omega⟩ ⟨by omega, by omega⟩]
    omega, trivial⟩
  have lp : ∀ k : Nat, k + 1 ≤ s → ∃ p : Nat, p < k + 1 ∧ (∀ j : Nat, j < k + 1 → K (mm p) ≤ K (mm j)) ∧ mj_Rc m_Frontier_takeLeast 0 0 0 (0, [.ref (mj_NE + 29), .ref (mj_NE + 28), mj_u, mj_u], [], Wd xs L A V Y, 0, 0) (13, [.ref (mj_NE + 29), .ref (mj_NE + 28), .int (iI p), .int (iI ((k : Int) + 1))], [], Wd xs L A V Y, 0, 0) := by
    intro k
    induction k with
    | zero => intro _; exact ⟨0, by omega, fun j hj => by rw [show j = 0 by omega]; exact Int.le_refl _, s0⟩
    | succ k ih =>
      intro hk
      obtain ⟨p, hp, hle, hr⟩ := ih (by omega)
      obtain ⟨e1, b1, e2, b2, b3⟩ := hm (k + 1) (by omega)
      obtain ⟨e3, b4, e4, b5, b6⟩ := hm p (by omega)
      have c1 : (iI ((k : Int) + 1)).toNatClampNeg = k + 1 := cl_nat (n := k + 1) (by omega)
      have c2 : (iI p).toNatClampNeg = p := cl_nat (by omega)
      have c3 : (iI (mm (k + 1))).toNatClampNeg = mm (k + 1) := cl_nat (by omega)
      have c4 : (iI (mm p)).toNatClampNeg = mm p := cl_nat (by omega)
      have k1 : ¬ (V 9 ≤ iI ((k : Int) + 1)) := br_ge hV ⟨by omega, by omega⟩ ⟨by omega, by omega⟩ (by omega)
      have i1 : vp_in (iI ((k : Int) + 1)) 256 := in_nat (n := k + 1) (by omega) (by omega)
      have i2 : vp_in (A 19 (iI ((k : Int) + 1)).toNatClampNeg) 256 := by rw [c1, e1]; exact in_nat b1 (by omega)
      have i3 : vp_in (iI p) 256 := in_nat (by omega) (by omega)
      have i4 : vp_in (A 19 (iI p).toNatClampNeg) 256 := by rw [c2, e3]; exact in_nat b4 (by omega)
      have v1 : A 18 (A 19 (iI ((k : Int) + 1)).toNatClampNeg).toNatClampNeg = iI (K (mm (k + 1))) := by rw [c1, e1, c3, e2]
      have v2 : A 18 (A 19 (iI p).toNatClampNeg).toNatClampNeg = iI (K (mm p)) := by rw [c2, e3, c4, e4]
      by_cases hlt : K (mm (k + 1)) < K (mm p)
      · have s2 := r_tr hr (r_to (g' := (13, [.ref (mj_NE + 29), .ref (mj_NE + 28), .int (iI ((k : Int) + 1)), .int (iI ((k : Int) + 1) + 1)], [], Wd xs L A V Y, 0, 0)) ok_Frontier_takeLeast 13 [false, false] rfl ⟨k1, i1, i2, i3, i4, by
          show ¬ (A 18 (A 19 (iI p).toNatClampNeg).toNatClampNeg ≤ A 18 (A 19 (iI ((k : Int) + 1)).toNatClampNeg).toNatClampNeg)
          rw [v1, v2, iI_le ⟨by omega, by omega⟩ ⟨by omega, by omega⟩]
          omega, trivial⟩)
        rw [iI_1] at s2
        refine ⟨k + 1, by omega, fun j hj => ?_, s2⟩
        by_cases hj2 : j < k + 1
        · exact Int.le_trans (Int.le_of_lt hlt) (hle j hj2)
        · rw [show j = k + 1 by omega]
          exact Int.le_refl _
      · have s2 := r_tr hr (r_to (g' := (13, [.ref (mj_NE + 29), .ref (mj_NE + 28), .int (iI p), .int (iI ((k : Int) + 1) + 1)], [], Wd xs L A V Y, 0, 0)) ok_Frontier_takeLeast 13 [false, true] rfl ⟨k1, i1, i2, i3, i4, by
          show A 18 (A 19 (iI p).toNatClampNeg).toNatClampNeg ≤ A 18 (A 19 (iI ((k : Int) + 1)).toNatClampNeg).toNatClampNeg
          rw [v1, v2, iI_le ⟨by omega, by omega⟩ ⟨by omega, by omega⟩]
          omega, trivial⟩)
        rw [iI_1] at s2
        refine ⟨p, by omega, fun j hj => ?_, s2⟩
        by_cases hj2 : j < k + 1
        · exact hle j hj2
        · rw [show j = k + 1 by omega]
          omega
  obtain ⟨p, hp, hle, hr⟩ := lp (s - 1) (by omega)
  refine ⟨p, by omega, fun j hj => hle j (by omega), ?_⟩
  obtain ⟨e3, b4, e4, b5, b6⟩ := hm p (by omega)
  obtain ⟨e5, -⟩ := hm (s - 1) (by omega)
  have c2 : (iI p).toNatClampNeg = p := cl_nat (by omega)
  have e0 : V 9 - 1 = iI ((s : Int) - 1) := by rw [hV, show (1 : Int32) = iI 1 from rfl, iI_sub]
  have c5 : (V 9 - 1).toNatClampNeg = s - 1 := by rw [e0, show (s : Int) - 1 = ((s - 1 : Nat) : Int) by omega]; exact cl_nat (by omega)
  have s3 : mj_Rc m_Frontier_takeLeast 0 0 0 (13, [.ref (mj_NE + 29), .ref (mj_NE + 28), .int (iI p), .int (iI (((s - 1 : Nat) : Int) + 1))], [], Wd xs L A V Y, 0, 0) (81, [.ref (mj_NE + 29), .ref (mj_NE + 28), .int (iI p), .int (A 19 (iI p).toNatClampNeg)], [.int (A 19 (iI p).toNatClampNeg)], Wd xs L (wA A 19 (upd (A 19) (iI p).toNatClampNeg (A 19 (V 9 - 1).toNatClampNeg))) (wV V 9 (V 9 - 1)) Y, 0, 0) := r_to ok_Frontier_takeLeast 9999 [true] rfl ⟨br_lt hV ⟨by omega, by omega⟩ ⟨by omega, by omega⟩ (by omega), in_nat (by omega) (by omega), by
    show vp_in (V 9 - 1) 256
    rw [e0, show (s : Int) - 1 = ((s - 1 : Nat) : Int) by omega]
    exact in_nat (by omega) (by omega), in_nat (by omega) (by omega), trivial⟩
  rw [c5, e5, c2, e3, e0] at s3
  exact ct_of ok_Frontier_takeLeast rfl (r_tr hr s3) rfl rfl rfl rfl rfl
theorem c_partH : mj_Ct m_Groups_part [.ref (mj_NE + 20)] (Wd xs L A V Y) none (Wd xs L (wA A 15 (pw (fun j => iI j) (A 15) 512)) V Y) 0 0 0 := by
  have lp : ∀ k : Nat, k ≤ 512 → mj_Rc m_Groups_part 0 0 0 (2, [.ref (mj_NE + 20), .int 0], [], Wd xs L A V Y, 0, 0) (2, [.ref (mj_NE + 20), .int (iI k)], [], Wd xs L (wA A 15 (pw (fun j => iI j) (A 15) k)) V Y, 0, 0) := by
    intro k
    induction k with
    | zero => intro _; rw [pw_0, wA_id]; exact r_rf
    | succ k ih =>
      intro hk
      have hc : (iI k).toNatClampNeg = k := cl_nat (by omega)
      have s1 : mj_Rc m_Groups_part 0 0 0 (2, [.ref (mj_NE + 20), .int (iI k)], [], Wd xs L (wA A 15 (pw (fun j => iI j) (A 15) k)) V Y, 0, 0) (2, [.ref (mj_NE + 20), .int (iI k + 1)], [], Wd xs L (wA (wA A 15 (pw (fun j => iI j) (A 15) k)) 15 (upd ((wA A 15 (pw (fun j => iI j) (A 15) k)) 15) (iI k).toNatClampNeg (iI k))) V Y, 0, 0) := r_to ok_Groups_part 2 [false] rfl ⟨by
        show ¬ (iI 512 ≤ iI k)
        rw [iI_le ⟨by omega, by omega⟩ ⟨by omega, by omega⟩]
        omega, in_nat (by omega) (by omega), trivial⟩
      rw [hc, wA_s, wA_f, iI_1, pw_s rfl] at s1
      exact r_tr (ih (by omega)) s1
  exact ct_of ok_Groups_part rfl (r_tr (r_to ok_Groups_part 2 [] rfl trivial) (r_tr (lp 512 (Nat.le_refl _)) (r_to ok_Groups_part 9999 [true] rfl ⟨by show iI 512 ≤ iI 512; exact Int32.le_refl _, trivial⟩))) rfl rfl rfl rfl rfl
theorem c_partC : mj_Ct m_Groups_part [.ref (mj_NE + 24)] (Wd xs L A V Y) none (Wd xs L (wA A 17 (pw (fun j => iI j) (A 17) 512)) V Y) 0 0 0 := by
  have lp : ∀ k : Nat, k ≤ 512 → mj_Rc m_Groups_part 0 0 0 (2, [.ref (mj_NE + 24), .int 0], [], Wd xs L A V Y, 0, 0) (2, [.ref (mj_NE + 24), .int (iI k)], [], Wd xs L (wA A 17 (pw (fun j => iI j) (A 17) k)) V Y, 0, 0) := by
    intro k
    induction k with
    | zero => intro _; rw [pw_0, wA_id]; exact r_rf
    | succ k ih =>
      intro hk
      have hc : (iI k).toNatClampNeg = k := cl_nat (by omega)
      have s1 : mj_Rc m_Groups_part 0 0 0 (2, [.ref (mj_NE + 24), .int (iI k)], [], Wd xs L (wA A 17 (pw (fun j => iI j) (A 17) k)) V Y, 0, 0) (2, [.ref (mj_NE + 24), .int (iI k + 1)], [], Wd xs L (wA (wA A 17 (pw (fun j => iI j) (A 17) k)) 17 (upd ((wA A 17 (pw (fun j => iI j) (A 17) k)) 17) (iI k).toNatClampNeg (iI k))) V Y, 0, 0) := r_to ok_Groups_part 2 [false] rfl ⟨by
        show ¬ (iI 512 ≤ iI k)
        rw [iI_le ⟨by omega, by omega⟩ ⟨by omega, by omega⟩]
        omega, in_nat (by omega) (by omega), trivial⟩
      rw [hc, wA_s, wA_f, iI_1, pw_s rfl] at s1
      exact r_tr (ih (by omega)) s1
  exact ct_of ok_Groups_part rfl (r_tr (r_to ok_Groups_part 2 [] rfl trivial) (r_tr (lp 512 (Nat.le_refl _)) (r_to ok_Groups_part 9999 [true] rfl ⟨by show iI 512 ≤ iI 512; exact Int32.le_refl _, trivial⟩))) rfl rfl rfl rfl rfl
theorem c_told0 {i : Nat} (hi : i < 256) : mj_Ct m_Streams_told [.ref (mj_NE + 5), .int (iI i), .int (iI 0)] (Wd xs L A V Y) (some (.int (A 3 i))) (Wd xs L A V Y) 0 0 0 := by
  have hc : (iI i).toNatClampNeg = i := cl_nat (by omega)
  have s2 : mj_Rc m_Streams_told 0 0 0 (32, [.ref (mj_NE + 5), .int (iI i), .int (iI 0)], [], Wd xs L A V Y, 0, 0) (38, [.ref (mj_NE + 5), .int (iI i), .int (iI 0)], [.int (A 3 (iI i).toNatClampNeg)], Wd xs L A V Y, 0, 0) := r_to ok_Streams_told 9999 [] rfl ⟨in_nat (by omega) (by omega), trivial⟩
  rw [hc] at s2
  exact ct_of ok_Streams_told rfl (r_tr (r_to ok_Streams_told 9999 [] rfl trivial) (r_tr (r_swI ok_Streams_told (tgt := 32) rfl (by omega) (by omega) (by omega) rfl rfl) s2)) rfl rfl rfl rfl rfl
theorem c_told1 {i : Nat} (hi : i < 256) : mj_Ct m_Streams_told [.ref (mj_NE + 5), .int (iI i), .int (iI 1)] (Wd xs L A V Y) (some (.int (A 5 i))) (Wd xs L A V Y) 0 0 0 := by
  have hc : (iI i).toNatClampNeg = i := cl_nat (by omega)
  have s2 : mj_Rc m_Streams_told 0 0 0 (39, [.ref (mj_NE + 5), .int (iI i), .int (iI 1)], [], Wd xs L A V Y, 0, 0) (45, [.ref (mj_NE + 5), .int (iI i), .int (iI 1)], [.int (A 5 (iI i).toNatClampNeg)], Wd xs L A V Y, 0, 0) := r_to ok_Streams_told 9999 [] rfl ⟨in_nat (by omega) (by omega), trivial⟩
  rw [hc] at s2
  exact ct_of ok_Streams_told rfl (r_tr (r_to ok_Streams_told 9999 [] rfl trivial) (r_tr (r_swI ok_Streams_told (tgt := 39) rfl (by omega) (by omega) (by omega) rfl rfl) s2)) rfl rfl rfl rfl rfl
theorem c_told2 {i : Nat} (hi : i < 256) : mj_Ct m_Streams_told [.ref (mj_NE + 5), .int (iI i), .int (iI 2)] (Wd xs L A V Y) (some (.int (A 6 i))) (Wd xs L A V Y) 0 0 0 := by
  have hc : (iI i).toNatClampNeg = i := cl_nat (by omega)
  have s2 : mj_Rc m_Streams_told 0 0 0 (46, [.ref (mj_NE + 5), .int (iI i), .int (iI 2)], [], Wd xs L A V Y, 0, 0) (52, [.ref (mj_NE + 5), .int (iI i), .int (iI 2)], [.int (A 6 (iI i).toNatClampNeg)], Wd xs L A V Y, 0, 0) := r_to ok_Streams_told 9999 [] rfl ⟨in_nat (by omega) (by omega), trivial⟩
  rw [hc] at s2
  exact ct_of ok_Streams_told rfl (r_tr (r_to ok_Streams_told 9999 [] rfl trivial) (r_tr (r_swI ok_Streams_told (tgt := 46) rfl (by omega) (by omega) (by omega) rfl rfl) s2)) rfl rfl rfl rfl rfl
theorem c_told3 {i : Nat} (hi : i < 256) : mj_Ct m_Streams_told [.ref (mj_NE + 5), .int (iI i), .int (iI 3)] (Wd xs L A V Y) (some (.int (A 8 i))) (Wd xs L A V Y) 0 0 0 := by
  have hc : (iI i).toNatClampNeg = i := cl_nat (by omega)
  have s2 : mj_Rc m_Streams_told 0 0 0 (53, [.ref (mj_NE + 5), .int (iI i), .int (iI 3)], [], Wd xs L A V Y, 0, 0) (59, [.ref (mj_NE + 5), .int (iI i), .int (iI 3)], [.int (A 8 (iI i).toNatClampNeg)], Wd xs L A V Y, 0, 0) := r_to ok_Streams_told 9999 [] rfl ⟨in_nat (by omega) (by omega), trivial⟩
  rw [hc] at s2
  exact ct_of ok_Streams_told rfl (r_tr (r_to ok_Streams_told 9999 [] rfl trivial) (r_tr (r_swI ok_Streams_told (tgt := 53) rfl (by omega) (by omega) (by omega) rfl rfl) s2)) rfl rfl rfl rfl rfl
theorem c_told4 {i : Nat} (hi : i < 256) : mj_Ct m_Streams_told [.ref (mj_NE + 5), .int (iI i), .int (iI 4)] (Wd xs L A V Y) (some (.int (A 7 i))) (Wd xs L A V Y) 0 0 0 := by
  have hc : (iI i).toNatClampNeg = i := cl_nat (by omega)
  have s2 : mj_Rc m_Streams_told 0 0 0 (60, [.ref (mj_NE + 5), .int (iI i), .int (iI 4)], [], Wd xs L A V Y, 0, 0) (66, [.ref (mj_NE + 5), .int (iI i), .int (iI 4)], [.int (A 7 (iI i).toNatClampNeg)], Wd xs L A V Y, 0, 0) := r_to ok_Streams_told 9999 [] rfl ⟨in_nat (by omega) (by omega), trivial⟩
  rw [hc] at s2
  exact ct_of ok_Streams_told rfl (r_tr (r_to ok_Streams_told 9999 [] rfl trivial) (r_tr (r_swO ok_Streams_told (tgt := 60) rfl (by omega) (by omega) rfl) s2)) rfl rfl rfl rfl rfl
theorem c_depth {i : Nat} {z g : Int} (hi : i < 256) (h1 : A 13 i = iI z) (h2 : A 0 i = iI g) : mj_Ct m_Hollows_depth [.ref (mj_NE + 16), .int (iI i)] (Wd xs L A V Y) (some (.int (iI (z - g)))) (Wd xs L A V Y) 0 0 0 := by
  have hc : (iI i).toNatClampNeg = i := cl_nat (by omega)
  have hin : vp_in (iI i) 256 := in_nat (by omega) (by omega)
  have s2 : mj_Rc m_Hollows_depth 0 0 0 (0, [.ref (mj_NE + 16), .int (iI i)], [], Wd xs L A V Y, 0, 0) (16, [.ref (mj_NE + 16), .int (iI i)], [.int (A 13 (iI i).toNatClampNeg - A 0 (iI i).toNatClampNeg)], Wd xs L A V Y, 0, 0) := r_to ok_Hollows_depth 9999 [] rfl ⟨hin, hin, trivial⟩
  rw [hc, h1, h2, iI_sub] at s2
  exact ct_of ok_Hollows_depth rfl s2 rfl rfl rfl rfl rfl
theorem c_inLake {i : Nat} {z g : Int} (hi : i < 256) (h1 : A 13 i = iI z) (h2 : A 0 i = iI g) (hz : -10000 ≤ z ∧ z ≤ 10000 ∧ -10000 ≤ g ∧ g ≤ 10000) : mj_Ct m_Hollows_inLake [.ref (mj_NE + 16), .int (iI i)] (Wd xs L A V Y) (some (.int (bI (decide (g < z))))) (Wd xs L A V Y) 0 0 1 := by
  have s1 := r_to (RC := 0) (RS := 0) (dd := 1) (g := (0, [.ref (mj_NE + 16), .int (iI i)], [], Wd xs L A V Y, 0, 0)) (g' := (2, [.ref (mj_NE + 16), .int (iI i)], [.int (iI i), .ref (mj_NE + 16)], Wd xs L A V Y, 0, 0)) ok_Hollows_inLake 9999 [] rfl trivial
  have s2 := r_tr s1 (q_V ok_Hollows_inLake ok_Hollows_depth se_Hollows_depth (c_depth hi h1 h2) rfl rfl rfl rfl rfl ⟨rfl, rfl, rfl⟩)
  by_cases hlt : g < z
  · rw [decide_eq_true hlt]
    exact ct_of ok_Hollows_inLake rfl (r_tr s2 (r_to ok_Hollows_inLake 9999 [false] rfl ⟨by
      show ¬ (iI (z - g) ≤ iI 0)
      rw [iI_le ⟨by omega, by omega⟩ ⟨by omega, by omega⟩]
      omega, trivial⟩)) rfl rfl ⟨rfl, bI_nar _⟩ rfl rfl
  · rw [decide_eq_false hlt]
    exact ct_of ok_Hollows_inLake rfl (r_tr s2 (r_to ok_Hollows_inLake 9999 [true] rfl ⟨by
      show iI (z - g) ≤ iI 0
      rw [iI_le ⟨by omega, by omega⟩ ⟨by omega, by omega⟩]
      omega, trivial⟩)) rfl rfl ⟨rfl, bI_nar _⟩ rfl rfl
end FRO
