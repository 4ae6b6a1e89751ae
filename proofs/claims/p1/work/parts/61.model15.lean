/-! THE REFERENCE: sees, seen, steepness -/
section REF15
variable {xs : Nat → Int32} {L : Nat} {A : Nat → Nat → Int32} {V : Nat → Int32} {t b : Int32} {ld : Nat} {f : Nat → Int32} {o : Nat → Int64} {H : Nat → Int} {Z : mj_H}
set_option maxHeartbeats 1000000 in
theorem c_MLsees {i j : Nat} {u : Int} (hf : Hts f 144 H) (hi : i < 144) (hj : j < 144) (hu : 0 ≤ u ∧ u ≤ 500) : mj_Ct m_ML_sees [.ref (mj_NE + 33), .int (iI (i : Int)), .int (iI u), .int (iI (j : Int))] (Wd xs L A V (mY t b ld f (Z))) (some (.int (bI (seeB 12 H ((i : Int) % 12) ((i : Int) / 12) u ((j : Int) % 12) ((j : Int) / 12))))) (Wd xs L A V (mY t b ld f (Z))) 0 0 2 := by
  obtain ⟨e1, b1, b2⟩ := hf i hi
  obtain ⟨e2, b3, b4⟩ := hf j hj
  have z1 : (((i : Int) / 12) * 12 + ((i : Int) % 12)).toNat = i := by omega
  have z2 : (((j : Int) / 12) * 12 + ((j : Int) % 12)).toNat = j := by omega
  have hci : (iI (i : Int)).toNatClampNeg = i := cl_nat (by omega)
  have hcj : (iI (j : Int)).toNatClampNeg = j := cl_nat (by omega)
  have s1 : mj_Rc m_ML_sees 0 0 2 (0, [.ref (mj_NE + 33), .int (iI (i : Int)), .int (iI u), .int (iI (j : Int)), mj_u, mj_u, mj_u], [], Wd xs L A V (mY t b ld f (Z)), 0, 0) (3, [.ref (mj_NE + 33), .int (iI (i : Int)), .int (iI u), .int (iI (j : Int)), mj_u, mj_u, mj_u], [.int (iI (j : Int)), .int (iI (i : Int)), .ref (mj_NE + 33)], Wd xs L A V (mY t b ld f (Z)), 0, 0) := r_to ok_ML_sees 9999 [] rfl trivial
  have s2 := r_tr s1 (q_V ok_ML_sees ok_ML_far se_ML_far (c_MLfar hi hj) rfl rfl rfl rfl rfl ⟨rfl, rfl, rfl⟩)
  obtain ⟨Nn, hN⟩ : ∃ Nn : Int, Nn = max ((((j : Int) % 12) - ((i : Int) % 12)).natAbs : Int) ((((j : Int) / 12) - ((i : Int) / 12)).natAbs : Int) := ⟨_, rfl⟩
  rw [← hN] at s2
  have hNb : 0 ≤ Nn ∧ Nn ≤ 15 ∧ ((j : Int) % 12) - ((i : Int) % 12) ≤ Nn ∧ ((i : Int) % 12) - ((j : Int) % 12) ≤ Nn ∧ ((j : Int) / 12) - ((i : Int) / 12) ≤ Nn ∧ ((i : Int) / 12) - ((j : Int) / 12) ≤ Nn := by omega
  have s3 : mj_Rc m_ML_sees 0 0 2 (6, [.ref (mj_NE + 33), .int (iI (i : Int)), .int (iI u), .int (iI (j : Int)), mj_u, mj_u, mj_u], [.int (iI Nn)], Wd xs L A V (mY t b ld f (Z)), 0, 0) (21, [.ref (mj_NE + 33), .int (iI (i : Int)), .int (iI u), .int (iI (j : Int)), .int (iI Nn), .int (f (iI (i : Int)).toNatClampNeg + iI u), .int (iI 1)], [], Wd xs L A V (mY t b ld f (Z)), 0, 0) := r_to ok_ML_sees 21 [] rfl ⟨in_nat (by omega) (by omega), trivial⟩
  rw [hci, e1, iI_add] at s3
  have s8 := r_tr s2 s3
  obtain ⟨E, hE⟩ : ∃ E : Int, E = H i + u := ⟨_, rfl⟩
  obtain ⟨O, hO⟩ : ∃ O : Int, O = H j := ⟨_, rfl⟩
  rw [← hE] at s8
  have one : ∀ k : Nat, (k : Int) + 1 < Nn → ∃ g : Nat, g = hidF 12 ((i : Int) % 12) ((i : Int) / 12) ((j : Int) % 12) ((j : Int) / 12) ((k : Int) + 1) ∧ 0 ≤ H g ∧ H g ≤ 999 ∧ vp_in (iI (g : Int)) 144 ∧ f (iI (g : Int)).toNatClampNeg = iI (H g) ∧ mj_Rc m_ML_sees 0 0 2 (21, [.ref (mj_NE + 33), .int (iI (i : Int)), .int (iI u), .int (iI (j : Int)), .int (iI Nn), .int (iI E), .int (iI ((k : Int) + 1))], [], Wd xs L A V (mY t b ld f (Z)), 0, 0) (40, [.ref (mj_NE + 33), .int (iI (i : Int)), .int (iI u), .int (iI (j : Int)), .int (iI Nn), .int (iI E), .int (iI ((k : Int) + 1))], [.int (iI (g : Int)), .ref (mj_NE + 34)], Wd xs L A V (mY t b ld f (Z)), 0, 0) := by
    intro k hk
    have b1 := btw_in (p := ((i : Int) % 12)) (q := ((j : Int) % 12)) (k := (k : Int) + 1) (n := Nn) (by omega) (by omega) (by omega) (by omega)
    have b2 := btw_in (p := ((i : Int) / 12)) (q := ((j : Int) / 12)) (k := (k : Int) + 1) (n := Nn) (by omega) (by omega) (by omega) (by omega)
    have t1 := r_to (RC := 0) (RS := 0) (dd := 2) (g := (21, [.ref (mj_NE + 33), .int (iI (i : Int)), .int (iI u), .int (iI (j : Int)), .int (iI Nn), .int (iI E), .int (iI ((k : Int) + 1))], [], Wd xs L A V (mY t b ld f (Z)), 0, 0)) (g' := (37, [.ref (mj_NE + 33), .int (iI (i : Int)), .int (iI u), .int (iI (j : Int)), .int (iI Nn), .int (iI E), .int (iI ((k : Int) + 1))], [.int (iI ((k : Int) + 1)), .int (iI (j : Int)), .int (iI (i : Int)), .ref (mj_NE + 33), .ref (mj_NE + 34)], Wd xs L A V (mY t b ld f (Z)), 0, 0)) ok_ML_sees 9999 [false] rfl ⟨by
      show ¬ (iI Nn ≤ iI ((k : Int) + 1))
      rw [iI_le ⟨by omega, by omega⟩ ⟨by omega, by omega⟩]
      omega, trivial⟩
    have t2 := r_tr t1 (q_V ok_ML_sees ok_ML_between se_ML_between (c_MLbetween (k := (k : Int) + 1) hi hj ⟨by omega, by omega⟩) rfl rfl rfl rfl rfl ⟨rfl, rfl, rfl⟩)
    rw [← hN] at t2
    have bx : 0 ≤ btw ((i : Int) % 12) ((j : Int) % 12) ((k : Int) + 1) Nn ∧ btw ((i : Int) % 12) ((j : Int) % 12) ((k : Int) + 1) Nn < 12 := by omega
    have bY : 0 ≤ btw ((i : Int) / 12) ((j : Int) / 12) ((k : Int) + 1) Nn ∧ btw ((i : Int) / 12) ((j : Int) / 12) ((k : Int) + 1) Nn < 12 := by omega
    have hg : hidF 12 ((i : Int) % 12) ((i : Int) / 12) ((j : Int) % 12) ((j : Int) / 12) ((k : Int) + 1) = (btw ((i : Int) / 12) ((j : Int) / 12) ((k : Int) + 1) Nn * 12 + btw ((i : Int) % 12) ((j : Int) % 12) ((k : Int) + 1) Nn).toNat := by unfold hidF; rw [← hN]
    rw [hg]
    generalize btw ((i : Int) % 12) ((j : Int) % 12) ((k : Int) + 1) Nn = X at t2 bx ⊢
    generalize btw ((i : Int) / 12) ((j : Int) / 12) ((k : Int) + 1) Nn = Y1 at t2 bY ⊢
    obtain ⟨g, hgj⟩ : ∃ g : Nat, (g : Int) = Y1 * 12 + X := ⟨(Y1 * 12 + X).toNat, by omega⟩
    rw [← hgj] at t2
    obtain ⟨e0, b3, b4⟩ := hf g (by omega)
    exact ⟨g, by omega, b3, b4, in_nat (by omega) (by omega), by rw [cl_nat (by omega)]; exact e0, t2⟩
  have sq : ∀ k : Nat, seB 12 H ((i : Int) % 12) ((i : Int) / 12) u ((j : Int) % 12) ((j : Int) / 12) (k + 1) = (seB 12 H ((i : Int) % 12) ((i : Int) / 12) u ((j : Int) % 12) ((j : Int) / 12) k && decide (H (hidF 12 ((i : Int) % 12) ((i : Int) / 12) ((j : Int) % 12) ((j : Int) / 12) (k + 1)) * Nn ≤ E * (Nn - (k + 1)) + O * (k + 1))) := fun k => by rw [seB, ← hN, z1, z2, hE, hO]
  have cv : ∀ (k g : Nat), (k : Int) + 1 < Nn → 0 ≤ H g → H g ≤ 999 → (iI (H g) * iI Nn ≤ iI E * (iI Nn - iI ((k : Int) + 1)) + iI O * iI ((k : Int) + 1) ↔ H g * Nn ≤ E * (Nn - (k + 1)) + O * (k + 1)) := by
    intro k g hk h1 h2
    have m1 := mul_bd (p := H g) (q := Nn) (P := 999) (Q := 15) ⟨by omega, by omega⟩ ⟨by omega, by omega⟩
    have m2 := mul_bd (p := E) (q := Nn - (k + 1)) (P := 1500) (Q := 15) ⟨by omega, by omega⟩ ⟨by omega, by omega⟩
    have m3 := mul_bd (p := O) (q := (k : Int) + 1) (P := 999) (Q := 15) ⟨by omega, by omega⟩ ⟨by omega, by omega⟩
    rw [iI_mul, iI_sub, iI_mul, iI_mul, iI_add, iI_le ⟨by omega, by omega⟩ ⟨by omega, by omega⟩]
  have fw : ∀ k : Nat, (k : Int) + 1 ≤ max Nn 1 → seB 12 H ((i : Int) % 12) ((i : Int) / 12) u ((j : Int) % 12) ((j : Int) / 12) k = true → mj_Rc m_ML_sees 0 0 2 (21, [.ref (mj_NE + 33), .int (iI (i : Int)), .int (iI u), .int (iI (j : Int)), .int (iI Nn), .int (iI E), .int (iI (1))], [], Wd xs L A V (mY t b ld f (Z)), 0, 0) (21, [.ref (mj_NE + 33), .int (iI (i : Int)), .int (iI u), .int (iI (j : Int)), .int (iI Nn), .int (iI E), .int (iI ((k : Int) + 1))], [], Wd xs L A V (mY t b ld f (Z)), 0, 0) := by
    intro k
    induction k with
    | zero => intro _ _; exact r_rf
    | succ k ih =>
      intro hk hs
      rw [sq k, Bool.and_eq_true, decide_eq_true_eq] at hs
      have hr := ih (by omega) hs.1
      obtain ⟨g, g1, g2, g3, g4, g5, g6⟩ := one k (by omega)
      have t1 : mj_Rc m_ML_sees 0 0 2 (40, [.ref (mj_NE + 33), .int (iI (i : Int)), .int (iI u), .int (iI (j : Int)), .int (iI Nn), .int (iI E), .int (iI ((k : Int) + 1))], [.int (iI (g : Int)), .ref (mj_NE + 34)], Wd xs L A V (mY t b ld f (Z)), 0, 0) (21, [.ref (mj_NE + 33), .int (iI (i : Int)), .int (iI u), .int (iI (j : Int)), .int (iI Nn), .int (iI E), .int (iI ((k : Int) + 1) + 1)], [], Wd xs L A V (mY t b ld f (Z)), 0, 0) := r_to ok_ML_sees 21 [true] rfl ⟨g4, in_nat (by omega) (by omega), by
        show f (iI (g : Int)).toNatClampNeg * iI Nn ≤ iI E * (iI Nn - iI ((k : Int) + 1)) + f (iI (j : Int)).toNatClampNeg * iI ((k : Int) + 1)
        rw [g5, hcj, e2, ← hO, cv k g (by omega) g2 g3, g1]
        exact hs.2, trivial⟩
      rw [iI_1, show ((k : Int) + 1) = ((k + 1 : Nat) : Int) by omega] at t1
      rw [show ((k : Int) + 1) = ((k + 1 : Nat) : Int) by omega] at g6
      exact r_tr hr (r_tr g6 t1)
  cases hse : seeB 12 H ((i : Int) % 12) ((i : Int) / 12) u ((j : Int) % 12) ((j : Int) / 12) with
  | true =>
    unfold seeB at hse
    rw [← hN] at hse
    have hr := fw (Nn - 1).toNat (by omega) hse
    exact ct_of ok_ML_sees rfl (r_tr s8 (r_tr hr (r_to ok_ML_sees 9999 [true] rfl ⟨by
      show iI Nn ≤ iI (((Nn - 1).toNat : Int) + 1)
      rw [iI_le ⟨by omega, by omega⟩ ⟨by omega, by omega⟩]
      omega, trivial⟩))) rfl rfl ⟨rfl, bI_nar true⟩ rfl rfl
  | false =>
    unfold seeB at hse
    rw [← hN] at hse
    obtain ⟨k, k1, k2, k3⟩ := seB_first _ hse
    have hr := fw k (by omega) k2
    obtain ⟨g, g1, g2, g3, g4, g5, g6⟩ := one k (by omega)
    rw [sq k, k2, Bool.true_and, decide_eq_false_iff_not] at k3
    exact ct_of ok_ML_sees rfl (r_tr s8 (r_tr hr (r_tr g6 (r_to ok_ML_sees 9999 [false] rfl ⟨g4, in_nat (by omega) (by omega), by
      show ¬ (f (iI (g : Int)).toNatClampNeg * iI Nn ≤ iI E * (iI Nn - iI ((k : Int) + 1)) + f (iI (j : Int)).toNatClampNeg * iI ((k : Int) + 1))
      rw [g5, hcj, e2, ← hO, cv k g (by omega) g2 g3, g1]
      exact k3, trivial⟩)))) rfl rfl ⟨rfl, bI_nar false⟩ rfl rfl
theorem c_MLseen {i : Nat} {u : Int} (hf : Hts f 144 H) (hi : i < 144) (hu : 0 ≤ u ∧ u ≤ 500) : mj_Ct m_ML_seen [.ref (mj_NE + 33), .int (iI (i : Int)), .int (iI u)] (Wd xs L A V (mY t b ld f (Z))) (some (.int (iI (cnt (fun j => seeB 12 H ((i : Int) % 12) ((i : Int) / 12) u ((j : Int) % 12) ((j : Int) / 12)) 144)))) (Wd xs L A V (mY t b ld f (Z))) 0 0 3 := by
  have r0 := r_to (RC := 0) (RS := 0) (dd := 3) (g := (0, [.ref (mj_NE + 33), .int (iI (i : Int)), .int (iI u), mj_u, mj_u], [], Wd xs L A V (mY t b ld f (Z)), 0, 0)) (g' := (5, [.ref (mj_NE + 33), .int (iI (i : Int)), .int (iI u), .int (iI (cnt (fun j => seeB 12 H ((i : Int) % 12) ((i : Int) / 12) u ((j : Int) % 12) ((j : Int) / 12)) (0 : Nat))), .int (iI ((0 : Nat) : Int))], [], Wd xs L A V (mY t b ld f (Z)), 0, 0)) ok_ML_seen 5 [] rfl trivial
  have hsz : ∀ n : Nat, mj_Rc m_ML_seen 0 0 3 (5, [.ref (mj_NE + 33), .int (iI (i : Int)), .int (iI u), .int (iI (cnt (fun j => seeB 12 H ((i : Int) % 12) ((i : Int) / 12) u ((j : Int) % 12) ((j : Int) / 12)) n)), .int (iI (n : Int))], [], Wd xs L A V (mY t b ld f (Z)), 0, 0) (11, [.ref (mj_NE + 33), .int (iI (i : Int)), .int (iI u), .int (iI (cnt (fun j => seeB 12 H ((i : Int) % 12) ((i : Int) / 12) u ((j : Int) % 12) ((j : Int) / 12)) n)), .int (iI (n : Int))], [.int (iI 144), .int (iI (n : Int))], Wd xs L A V (mY t b ld f (Z)), 0, 0) := fun n => by
    have s1 := r_to (RC := 0) (RS := 0) (dd := 3) (g := (5, [.ref (mj_NE + 33), .int (iI (i : Int)), .int (iI u), .int (iI (cnt (fun j => seeB 12 H ((i : Int) % 12) ((i : Int) / 12) u ((j : Int) % 12) ((j : Int) / 12)) n)), .int (iI (n : Int))], [], Wd xs L A V (mY t b ld f (Z)), 0, 0)) (g' := (8, [.ref (mj_NE + 33), .int (iI (i : Int)), .int (iI u), .int (iI (cnt (fun j => seeB 12 H ((i : Int) % 12) ((i : Int) / 12) u ((j : Int) % 12) ((j : Int) / 12)) n)), .int (iI (n : Int))], [.ref (mj_NE + 33), .int (iI (n : Int))], Wd xs L A V (mY t b ld f (Z)), 0, 0)) ok_ML_seen 9999 [] rfl trivial
    exact r_tr s1 (q_V ok_ML_seen ok_ML_size se_ML_size (c_MLsize) rfl rfl rfl rfl rfl ⟨rfl, rfl, rfl⟩)
  have lp : ∀ n : Nat, n ≤ 144 → mj_Rc m_ML_seen 0 0 3 (0, [.ref (mj_NE + 33), .int (iI (i : Int)), .int (iI u), mj_u, mj_u], [], Wd xs L A V (mY t b ld f (Z)), 0, 0) (5, [.ref (mj_NE + 33), .int (iI (i : Int)), .int (iI u), .int (iI (cnt (fun j => seeB 12 H ((i : Int) % 12) ((i : Int) / 12) u ((j : Int) % 12) ((j : Int) / 12)) n)), .int (iI (n : Int))], [], Wd xs L A V (mY t b ld f (Z)), 0, 0) := by
    intro n
    induction n with
    | zero => intro _; exact r0
    | succ n ih =>
      intro hn
      have c0 : ¬ (iI 144 ≤ iI (n : Int)) := by rw [iI_le ⟨by omega, by omega⟩ ⟨by omega, by omega⟩]; omega
      have s2 := r_tr (r_tr (ih (by omega)) (hsz n)) (r_to (g' := (20, [.ref (mj_NE + 33), .int (iI (i : Int)), .int (iI u), .int (iI (cnt (fun j => seeB 12 H ((i : Int) % 12) ((i : Int) / 12) u ((j : Int) % 12) ((j : Int) / 12)) n)), .int (iI (n : Int))], [.int (iI (n : Int)), .int (iI u), .int (iI (i : Int)), .ref (mj_NE + 33), .int (iI (cnt (fun j => seeB 12 H ((i : Int) % 12) ((i : Int) / 12) u ((j : Int) % 12) ((j : Int) / 12)) n))], Wd xs L A V (mY t b ld f (Z)), 0, 0)) ok_ML_seen 9999 [false] rfl ⟨c0, trivial⟩)
      have s3 := r_tr s2 (q_V ok_ML_seen ok_ML_sees se_ML_sees (c_MLsees (j := n) hf hi (by omega) hu) rfl rfl rfl rfl rfl ⟨rfl, rfl, rfl⟩)
      have cs : cnt (fun j => seeB 12 H ((i : Int) % 12) ((i : Int) / 12) u ((j : Int) % 12) ((j : Int) / 12)) (n + 1) = cnt (fun j => seeB 12 H ((i : Int) % 12) ((i : Int) / 12) u ((j : Int) % 12) ((j : Int) / 12)) n + (if seeB 12 H ((i : Int) % 12) ((i : Int) / 12) u ((n : Int) % 12) ((n : Int) / 12) = true then 1 else 0) := rfl
      cases hse : seeB 12 H ((i : Int) % 12) ((i : Int) / 12) u ((n : Int) % 12) ((n : Int) / 12) with
      | true =>
        rw [hse] at s3 cs
        have s4 := r_tr s3 (r_to (g' := (5, [.ref (mj_NE + 33), .int (iI (i : Int)), .int (iI u), .int (iI (cnt (fun j => seeB 12 H ((i : Int) % 12) ((i : Int) / 12) u ((j : Int) % 12) ((j : Int) / 12)) n) + iI 1), .int (iI (n : Int) + 1)], [], Wd xs L A V (mY t b ld f (Z)), 0, 0)) ok_ML_seen 5 [false] rfl ⟨by show ¬ ((1 : Int32) = 0); decide, trivial⟩)
        rw [iI_1, iI_add, show cnt (fun j => seeB 12 H ((i : Int) % 12) ((i : Int) / 12) u ((j : Int) % 12) ((j : Int) / 12)) n + 1 = cnt (fun j => seeB 12 H ((i : Int) % 12) ((i : Int) / 12) u ((j : Int) % 12) ((j : Int) / 12)) (n + 1) by rw [cs]; rfl] at s4
        exact s4
      | false =>
        rw [hse] at s3 cs
        have s4 := r_tr s3 (r_to (g' := (5, [.ref (mj_NE + 33), .int (iI (i : Int)), .int (iI u), .int (iI (cnt (fun j => seeB 12 H ((i : Int) % 12) ((i : Int) / 12) u ((j : Int) % 12) ((j : Int) / 12)) n) + iI 0), .int (iI (n : Int) + 1)], [], Wd xs L A V (mY t b ld f (Z)), 0, 0)) ok_ML_seen 5 [true] rfl ⟨by show ((0 : Int32) = 0); rfl, trivial⟩)
        rw [iI_1, iI_add, show cnt (fun j => seeB 12 H ((i : Int) % 12) ((i : Int) / 12) u ((j : Int) % 12) ((j : Int) / 12)) n + 0 = cnt (fun j => seeB 12 H ((i : Int) % 12) ((i : Int) / 12) u ((j : Int) % 12) ((j : Int) / 12)) (n + 1) by rw [cs]; rfl] at s4
        exact s4
  exact ct_of ok_ML_seen rfl (r_tr (r_tr (lp 144 (Nat.le_refl _)) (hsz 144)) (r_to ok_ML_seen 9999 [true] rfl ⟨by show iI 144 ≤ iI ((144 : Nat) : Int); rw [iI_le ⟨by omega, by omega⟩ ⟨by omega, by omega⟩]; omega, trivial⟩)) rfl rfl rfl rfl rfl
set_option maxHeartbeats 1000000 in
theorem c_MLsteepness0 (hz : ∀ j : Nat, j < 144 → f j = iI 0) : mj_Ct m_ML_steepness [.ref (mj_NE + 33)] (Wd xs L A V (mY t b ld f (Z))) (some (.double (FP.ddiv (FP.i2d (iI 0)) (FP.i2d (iI 144))))) (Wd xs L A V (mY t b ld f (Z))) 0 0 1 := by
  have g12 : (2 : Int) ≤ 12 ∧ (12 : Int) ≤ 16 := ⟨by omega, by omega⟩
  have r0 := r_to (RC := 0) (RS := 0) (dd := 1) (g := (0, [.ref (mj_NE + 33), mj_u, mj_u, mj_u, mj_u], [], Wd xs L A V (mY t b ld f (Z)), 0, 0)) (g' := (4, [.ref (mj_NE + 33), .int (iI 0), .int (iI ((0 : Nat) : Int)), mj_u, mj_u], [], Wd xs L A V (mY t b ld f (Z)), 0, 0)) ok_ML_steepness 4 [] rfl trivial
  have hsz : ∀ (n : Nat) (u3 u4 : Value), mj_Rc m_ML_steepness 0 0 1 (4, [.ref (mj_NE + 33), .int (iI 0), .int (iI (n : Int)), u3, u4], [], Wd xs L A V (mY t b ld f (Z)), 0, 0) (9, [.ref (mj_NE + 33), .int (iI 0), .int (iI (n : Int)), u3, u4], [.int (iI 144), .int (iI (n : Int))], Wd xs L A V (mY t b ld f (Z)), 0, 0) := fun n u3 u4 => by
    have s1 := r_to (RC := 0) (RS := 0) (dd := 1) (g := (4, [.ref (mj_NE + 33), .int (iI 0), .int (iI (n : Int)), u3, u4], [], Wd xs L A V (mY t b ld f (Z)), 0, 0)) (g' := (6, [.ref (mj_NE + 33), .int (iI 0), .int (iI (n : Int)), u3, u4], [.ref (mj_NE + 33), .int (iI (n : Int))], Wd xs L A V (mY t b ld f (Z)), 0, 0)) ok_ML_steepness 9999 [] rfl trivial
    exact r_tr s1 (q_V ok_ML_steepness ok_ML_size se_ML_size (c_MLsize) rfl rfl rfl rfl rfl ⟨rfl, rfl, rfl⟩)
  have lp : ∀ n : Nat, n ≤ 144 → ∃ u3 u4 : Value, mj_Rc m_ML_steepness 0 0 1 (0, [.ref (mj_NE + 33), mj_u, mj_u, mj_u, mj_u], [], Wd xs L A V (mY t b ld f (Z)), 0, 0) (4, [.ref (mj_NE + 33), .int (iI 0), .int (iI (n : Int)), u3, u4], [], Wd xs L A V (mY t b ld f (Z)), 0, 0) := by
    intro n
    induction n with
    | zero => intro _; exact ⟨_, _, r0⟩
    | succ n ih =>
      intro hn
      obtain ⟨u3, u4, hr⟩ := ih (by omega)
      have c0 : ¬ (iI 144 ≤ iI (n : Int)) := by rw [iI_le ⟨by omega, by omega⟩ ⟨by omega, by omega⟩]; omega
      have hc : (iI (n : Int)).toNatClampNeg = n := cl_nat (by omega)
      have hin : vp_in (iI (n : Int)) 144 := in_nat (by omega) (by omega)
      have s2 := r_tr (r_tr hr (hsz n u3 u4)) (r_to (g' := (17, [.ref (mj_NE + 33), .int (iI 0), .int (iI (n : Int)), .int (iI 0), .int (iI ((0 : Nat) : Int))], [], Wd xs L A V (mY t b ld f (Z)), 0, 0)) ok_ML_steepness 17 [false] rfl ⟨c0, trivial⟩)
      have lq : ∀ d : Nat, d ≤ 8 → mj_Rc m_ML_steepness 0 0 1 (0, [.ref (mj_NE + 33), mj_u, mj_u, mj_u, mj_u], [], Wd xs L A V (mY t b ld f (Z)), 0, 0) (17, [.ref (mj_NE + 33), .int (iI 0), .int (iI (n : Int)), .int (iI 0), .int (iI (d : Int))], [], Wd xs L A V (mY t b ld f (Z)), 0, 0) := by
        intro d
        induction d with
        | zero => intro _; exact s2
        | succ d ih2 =>
          intro hd
          have bd := nbi_bd (w := 12) (h := 12) g12 g12 n d
          have s3 := r_tr (ih2 (by omega)) (r_to (g' := (28, [.ref (mj_NE + 33), .int (iI 0), .int (iI (n : Int)), .int (iI 0), .int (iI (d : Int))], [.int (iI (d : Int)), .int (iI (n : Int)), .ref (mj_NE + 33)], Wd xs L A V (mY t b ld f (Z)), 0, 0)) ok_ML_steepness 9999 [false] rfl ⟨by show ¬ (iI 8 ≤ iI (d : Int)); rw [iI_le ⟨by omega, by omega⟩ ⟨by omega, by omega⟩]; omega, trivial⟩)
          have s4 := r_tr s3 (q_V ok_ML_steepness ok_ML_next se_ML_next (c_MLnext (d := d) (show n < 144 by omega) (by omega)) rfl rfl rfl rfl rfl ⟨rfl, rfl, rfl⟩)
          by_cases hneg : nbi 12 12 n d < 0
          · have s5 := r_tr s4 (r_to (g' := (17, [.ref (mj_NE + 33), .int (iI 0), .int (iI (n : Int)), .int (iI 0), .int (iI (d : Int) + 1)], [], Wd xs L A V (mY t b ld f (Z)), 0, 0)) ok_ML_steepness 17 [true] rfl ⟨by show iI (nbi 12 12 n d) < iI 0; rw [iI_lt ⟨by omega, by omega⟩ ⟨by omega, by omega⟩]; omega, trivial⟩)
            rw [iI_1] at s5
            exact s5
          · obtain ⟨j, hj⟩ : ∃ j : Nat, (j : Int) = nbi 12 12 n d := ⟨(nbi 12 12 n d).toNat, by omega⟩
            have hcj : (iI (j : Int)).toNatClampNeg = j := cl_nat (by omega)
            rw [← hj] at s4
            have s5 : mj_Rc m_ML_steepness 0 0 1 (31, [.ref (mj_NE + 33), .int (iI 0), .int (iI (n : Int)), .int (iI 0), .int (iI (d : Int))], [.int (iI (j : Int))], Wd xs L A V (mY t b ld f (Z)), 0, 0) (49, [.ref (mj_NE + 33), .int (iI 0), .int (iI (n : Int)), .int (iI 0), .int (iI (d : Int))], [.int (iI (d : Int)), .int (iI (n : Int)), .ref (mj_NE + 33), .ref (mj_NE + 34), .int (f (iI (n : Int)).toNatClampNeg), .int (iI 0)], Wd xs L A V (mY t b ld f (Z)), 0, 0) := r_to ok_ML_steepness 9999 [false] rfl ⟨by show ¬ (iI (j : Int) < iI 0); rw [iI_lt ⟨by omega, by omega⟩ ⟨by omega, by omega⟩]; omega, hin, trivial⟩
            have s6 := r_tr (r_tr s4 s5) (q_V ok_ML_steepness ok_ML_next se_ML_next (c_MLnext (d := d) (show n < 144 by omega) (by omega)) rfl rfl rfl rfl rfl ⟨rfl, rfl, rfl⟩)
            rw [← hj] at s6
            have s7 := r_tr s6 (r_to (g' := (54, [.ref (mj_NE + 33), .int (iI 0), .int (iI (n : Int)), .int (iI 0), .int (iI (d : Int))], [.int (f (iI (n : Int)).toNatClampNeg - f (iI (j : Int)).toNatClampNeg), .int (iI 0)], Wd xs L A V (mY t b ld f (Z)), 0, 0)) ok_ML_steepness 9999 [] rfl ⟨in_nat (by omega) (by omega), trivial⟩)
            rw [hc, hcj, hz n (by omega), hz j (by omega), iI_sub] at s7
            have s8 := r_tr s7 (q_S ok_ML_steepness ok_Math_abs st_Math_abs (c_abs (a := 0 - 0) ⟨by omega, by omega⟩) rfl rfl rfl rfl ⟨rfl, rfl, rfl⟩)
            have s9 := r_tr s8 (q_S ok_ML_steepness ok_Math_max st_Math_max (c_max (a := 0) (b := ((0 - 0 : Int).natAbs : Int)) ⟨by omega, by omega⟩ ⟨by omega, by omega⟩) rfl rfl rfl rfl ⟨rfl, rfl, rfl⟩)
            have s10 := r_tr s9 (r_to (g' := (17, [.ref (mj_NE + 33), .int (iI 0), .int (iI (n : Int)), .int (iI 0), .int (iI (d : Int) + 1)], [], Wd xs L A V (mY t b ld f (Z)), 0, 0)) ok_ML_steepness 17 [] rfl trivial)
            rw [iI_1] at s10
            exact s10
      have s11 := r_tr (lq 8 (Nat.le_refl _)) (r_to (g' := (4, [.ref (mj_NE + 33), .int (iI 0 + iI 0), .int (iI (n : Int) + 1), .int (iI 0), .int (iI ((8 : Nat) : Int))], [], Wd xs L A V (mY t b ld f (Z)), 0, 0)) ok_ML_steepness 4 [true] rfl ⟨by show iI 8 ≤ iI ((8 : Nat) : Int); rw [iI_le ⟨by omega, by omega⟩ ⟨by omega, by omega⟩]; omega, trivial⟩)
      rw [iI_1, iI_add, Int.add_zero] at s11
      exact ⟨_, _, s11⟩
  obtain ⟨u3, u4, hr⟩ := lp 144 (Nat.le_refl _)
  have s1 := r_tr (r_tr hr (hsz 144 u3 u4)) (r_to (g' := (80, [.ref (mj_NE + 33), .int (iI 0), .int (iI ((144 : Nat) : Int)), u3, u4], [.ref (mj_NE + 33), .double (FP.i2d (iI 0))], Wd xs L A V (mY t b ld f (Z)), 0, 0)) ok_ML_steepness 9999 [true] rfl ⟨by show iI 144 ≤ iI ((144 : Nat) : Int); rw [iI_le ⟨by omega, by omega⟩ ⟨by omega, by omega⟩]; omega, trivial⟩)
  have s2 := r_tr s1 (q_V ok_ML_steepness ok_ML_size se_ML_size (c_MLsize) rfl rfl rfl rfl rfl ⟨rfl, rfl, rfl⟩)
  exact ct_of ok_ML_steepness rfl (r_tr s2 (r_to ok_ML_steepness 9999 [] rfl ⟨ddiv0, trivial⟩)) rfl rfl rfl rfl rfl
end REF15
