/-! Sight -/
/-- the FIELD k STEPS on the straight way -/
def hidF (w x y p q : Int) (k : Int) : Nat := (btw y q k (max ((p - x).natAbs : Int) ((q - y).natAbs : Int)) * w + btw x p k (max ((p - x).natAbs : Int) ((q - y).natAbs : Int))).toNat
/-- whether none of the first k hides -/
def seB (w : Int) (H : Nat → Int) (x y u p q : Int) : Nat → Bool
  | 0 => true
  | k + 1 => seB w H x y u p q k && decide (H (hidF w x y p q (k + 1)) * max ((p - x).natAbs : Int) ((q - y).natAbs : Int) ≤ (H (y * w + x).toNat + u) * (max ((p - x).natAbs : Int) ((q - y).natAbs : Int) - (k + 1)) + H (q * w + p).toNat * (k + 1))
theorem seB_first {w : Int} {H : Nat → Int} {x y u p q : Int} : ∀ m : Nat, seB w H x y u p q m = false → ∃ k, k < m ∧ seB w H x y u p q k = true ∧ seB w H x y u p q (k + 1) = false := by
  intro m
  induction m with
  | zero => intro h; exact Bool.noConfusion h
  | succ m ih =>
    intro hq
    cases hm : seB w H x y u p q m with
    | true => exact ⟨m, by omega, hm, hq⟩
    | false =>
      obtain ⟨k, h1, h2, h3⟩ := ih hm
      exact ⟨k, by omega, h2, h3⟩
theorem seB_up {w : Int} {H : Nat → Int} {x y u p q : Int} {m : Nat} (h : seB w H x y u p q m = false) : ∀ r : Nat, seB w H x y u p q (m + r) = false := by
  intro r
  induction r with
  | zero => exact h
  | succ r ih => rw [← Nat.add_assoc, seB, ih]; rfl
/-- whether the eye at (x, y), u up, sees (p, q) -/
def seeB (w : Int) (H : Nat → Int) (x y u p q : Int) : Bool := seB w H x y u p q (max ((p - x).natAbs : Int) ((q - y).natAbs : Int) - 1).toNat
section SIGHT
variable {xs : Nat → Int32} {L : Nat} {A : Nat → Nat → Int32} {V : Nat → Int32} {Y : mj_H}
variable {w h : Int} {H : Nat → Int}
set_option maxHeartbeats 1000000 in
theorem c_reaches {x y u p q : Int} (h0 : V 0 = iI w) (hw : 2 ≤ w ∧ w ≤ 16) (hh : 2 ≤ h ∧ h ≤ 16) (hH : Hts (A 0) (w * h).toNat H) (hx : 0 ≤ x ∧ x < w) (hy : 0 ≤ y ∧ y < h) (hp : 0 ≤ p ∧ p < w) (hq : 0 ≤ q ∧ q < h) (hu : 0 ≤ u ∧ u ≤ 500) : mj_Ct m_Sight_reaches [.ref (mj_NE + 26), .int (iI x), .int (iI y), .int (iI u), .int (iI p), .int (iI q)] (Wd xs L A V Y) (some (.int (bI (seeB w H x y u p q)))) (Wd xs L A V Y) 0 0 2 := by
  have wh := wh_bd hw hh
  have n1 := num_bd hw hh hx hy
  have n2 := num_bd hw hh hp hq
  obtain ⟨i1, hi1⟩ : ∃ i : Nat, (i : Int) = y * w + x := ⟨(y * w + x).toNat, by omega⟩
  obtain ⟨i2, hi2⟩ : ∃ i : Nat, (i : Int) = q * w + p := ⟨(q * w + p).toNat, by omega⟩
  obtain ⟨e1, b1, b2⟩ := hH i1 (by omega)
  obtain ⟨e2, b3, b4⟩ := hH i2 (by omega)
  have z1 : (y * w + x).toNat = i1 := by omega
  have z2 : (q * w + p).toNat = i2 := by omega
  have s1 : mj_Rc m_Sight_reaches 0 0 2 (0, [.ref (mj_NE + 26), .int (iI x), .int (iI y), .int (iI u), .int (iI p), .int (iI q), mj_u, mj_u, mj_u, mj_u, mj_u], [], Wd xs L A V Y, 0, 0) (6, [.ref (mj_NE + 26), .int (iI x), .int (iI y), .int (iI u), .int (iI p), .int (iI q), mj_u, mj_u, mj_u, mj_u, mj_u], [.int (iI q), .int (iI p), .int (iI y), .int (iI x)], Wd xs L A V Y, 0, 0) := r_to ok_Sight_reaches 9999 [] rfl trivial
  have s2 := r_tr s1 (q_S ok_Sight_reaches ok_Land_stepsBetween st_Land_stepsBetween (c_stepsBetween (x := x) (y := y) (p := p) (q := q) ⟨by omega, by omega, by omega, by omega, by omega, by omega, by omega, by omega⟩) rfl rfl rfl rfl ⟨rfl, rfl, rfl⟩)
  obtain ⟨N, hN⟩ : ∃ N : Int, N = (max ((p - x).natAbs : Int) ((q - y).natAbs : Int)) := ⟨_, rfl⟩
  rw [← hN] at s2
  have hNb : 0 ≤ N ∧ N ≤ 15 ∧ p - x ≤ N ∧ x - p ≤ N ∧ q - y ≤ N ∧ y - q ≤ N := by omega
  have s3 := r_tr s2 (r_to (g' := (24, [.ref (mj_NE + 26), .int (iI x), .int (iI y), .int (iI u), .int (iI p), .int (iI q), .int (iI N), mj_u, mj_u, mj_u, mj_u], [.int (iI y), .int (iI x), .ref (mj_NE + 1), .ref (mj_NE + 2)], Wd xs L A V Y, 0, 0)) ok_Sight_reaches 9999 [] rfl trivial)
  have s4 := r_tr s3 (q_V ok_Sight_reaches ok_Land_numberOf se_Land_numberOf (c_num h0) rfl rfl rfl rfl rfl ⟨rfl, rfl, rfl⟩)
  rw [← hi1] at s4
  have s5 : mj_Rc m_Sight_reaches 0 0 2 (27, [.ref (mj_NE + 26), .int (iI x), .int (iI y), .int (iI u), .int (iI p), .int (iI q), .int (iI N), mj_u, mj_u, mj_u, mj_u], [.int (iI i1), .ref (mj_NE + 2)], Wd xs L A V Y, 0, 0) (47, [.ref (mj_NE + 26), .int (iI x), .int (iI y), .int (iI u), .int (iI p), .int (iI q), .int (iI N), .int (A 0 (iI i1).toNatClampNeg + iI u), mj_u, mj_u, mj_u], [.int (iI q), .int (iI p), .ref (mj_NE + 1), .ref (mj_NE + 2)], Wd xs L A V Y, 0, 0) := r_to ok_Sight_reaches 9999 [] rfl ⟨in_nat (by omega) (by omega), trivial⟩
  rw [cl_nat (by omega), e1, iI_add] at s5
  have s6 := r_tr (r_tr s4 s5) (q_V ok_Sight_reaches ok_Land_numberOf se_Land_numberOf (c_num h0) rfl rfl rfl rfl rfl ⟨rfl, rfl, rfl⟩)
  rw [← hi2] at s6
  have s7 : mj_Rc m_Sight_reaches 0 0 2 (50, [.ref (mj_NE + 26), .int (iI x), .int (iI y), .int (iI u), .int (iI p), .int (iI q), .int (iI N), .int (iI (H i1 + u)), mj_u, mj_u, mj_u], [.int (iI i2), .ref (mj_NE + 2)], Wd xs L A V Y, 0, 0) (56, [.ref (mj_NE + 26), .int (iI x), .int (iI y), .int (iI u), .int (iI p), .int (iI q), .int (iI N), .int (iI (H i1 + u)), .int (A 0 (iI i2).toNatClampNeg), .int (iI 1), mj_u], [], Wd xs L A V Y, 0, 0) := r_to ok_Sight_reaches 56 [] rfl ⟨in_nat (by omega) (by omega), trivial⟩
  rw [cl_nat (by omega), e2] at s7
  have s8 := r_tr s6 s7
  obtain ⟨E, hE⟩ : ∃ E : Int, E = H i1 + u := ⟨_, rfl⟩
  obtain ⟨O, hO⟩ : ∃ O : Int, O = H i2 := ⟨_, rfl⟩
  rw [← hE, ← hO] at s8
  -- one STEP
  have one : ∀ (k : Nat) (v : Value), (k : Int) + 1 < N → ∃ g : Nat, g = hidF w x y p q ((k : Int) + 1) ∧ 0 ≤ H g ∧ H g ≤ 999 ∧ vp_in (iI g) 256 ∧ A 0 (iI g).toNatClampNeg = iI (H g) ∧ mj_Rc m_Sight_reaches 0 0 2 (56, [.ref (mj_NE + 26), .int (iI x), .int (iI y), .int (iI u), .int (iI p), .int (iI q), .int (iI N), .int (iI E), .int (iI O), .int (iI ((k : Int) + 1)), v], [], Wd xs L A V Y, 0, 0) (92, [.ref (mj_NE + 26), .int (iI x), .int (iI y), .int (iI u), .int (iI p), .int (iI q), .int (iI N), .int (iI E), .int (iI O), .int (iI ((k : Int) + 1)), .int (iI g)], [], Wd xs L A V Y, 0, 0) := by
    intro k v hk
    have b1 := btw_in (p := x) (q := p) (k := (k : Int) + 1) (n := N) (by omega) (by omega) (by omega) (by omega)
    have b2 := btw_in (p := y) (q := q) (k := (k : Int) + 1) (n := N) (by omega) (by omega) (by omega) (by omega)
    have t1 := r_to (RC := 0) (RS := 0) (dd := 2) (g := (56, [.ref (mj_NE + 26), .int (iI x), .int (iI y), .int (iI u), .int (iI p), .int (iI q), .int (iI N), .int (iI E), .int (iI O), .int (iI ((k : Int) + 1)), v], [], Wd xs L A V Y, 0, 0)) (g' := (74, [.ref (mj_NE + 26), .int (iI x), .int (iI y), .int (iI u), .int (iI p), .int (iI q), .int (iI N), .int (iI E), .int (iI O), .int (iI ((k : Int) + 1)), v], [.int (iI N), .int (iI ((k : Int) + 1)), .int (iI p), .int (iI x), .ref (mj_NE + 1)], Wd xs L A V Y, 0, 0)) ok_Sight_reaches 9999 [false] rfl ⟨by
      show ¬ (iI N ≤ iI ((k : Int) + 1))
      rw [iI_le ⟨by omega, by omega⟩ ⟨by omega, by omega⟩]
      omega, trivial⟩
    have t2 := r_tr t1 (q_S ok_Sight_reaches ok_Land_between st_Land_between (c_between (p := x) (q := p) (k := (k : Int) + 1) (n := N) ⟨by omega, by omega, by omega, by omega, by omega, by omega, by omega, by omega⟩) rfl rfl rfl rfl ⟨rfl, rfl, rfl⟩)
    have t3 := r_tr t2 (r_to (g' := (84, [.ref (mj_NE + 26), .int (iI x), .int (iI y), .int (iI u), .int (iI p), .int (iI q), .int (iI N), .int (iI E), .int (iI O), .int (iI ((k : Int) + 1)), v], [.int (iI N), .int (iI ((k : Int) + 1)), .int (iI q), .int (iI y), .int (iI (btw x p ((k : Int) + 1) N)), .ref (mj_NE + 1)], Wd xs L A V Y, 0, 0)) ok_Sight_reaches 9999 [] rfl trivial)
    have t4 := r_tr t3 (q_S ok_Sight_reaches ok_Land_between st_Land_between (c_between (p := y) (q := q) (k := (k : Int) + 1) (n := N) ⟨by omega, by omega, by omega, by omega, by omega, by omega, by omega, by omega⟩) rfl rfl rfl rfl ⟨rfl, rfl, rfl⟩)
    have bx : 0 ≤ btw x p ((k : Int) + 1) N ∧ btw x p ((k : Int) + 1) N < w := by omega
    have bY : 0 ≤ btw y q ((k : Int) + 1) N ∧ btw y q ((k : Int) + 1) N < h := by omega
    have hg : hidF w x y p q ((k : Int) + 1) = (btw y q ((k : Int) + 1) N * w + btw x p ((k : Int) + 1) N).toNat := by unfold hidF; rw [← hN]
    rw [hg]
    generalize btw x p ((k : Int) + 1) N = X at t4 bx ⊢
    generalize btw y q ((k : Int) + 1) N = Y1 at t4 bY ⊢
    have t5 := r_tr t4 (q_V ok_Sight_reaches ok_Land_numberOf se_Land_numberOf (c_num h0) rfl rfl rfl rfl rfl ⟨rfl, rfl, rfl⟩)
    have hb := num_bd hw hh bx bY
    obtain ⟨j, hj⟩ : ∃ j : Nat, (j : Int) = Y1 * w + X := ⟨(Y1 * w + X).toNat, by omega⟩
    rw [← hj] at t5
    obtain ⟨e0, b3, b4⟩ := hH j (by omega)
    exact ⟨j, by omega, b3, b4, in_nat (by omega) (by omega), by rw [cl_nat (by omega)]; exact e0, r_tr t5 (r_to ok_Sight_reaches 92 [] rfl trivial)⟩
  have sq : ∀ k : Nat, seB w H x y u p q (k + 1) = (seB w H x y u p q k && decide (H (hidF w x y p q (k + 1)) * N ≤ E * (N - (k + 1)) + O * (k + 1))) := fun k => by rw [seB, ← hN, z1, z2, hE, hO]
  have cv : ∀ (k g : Nat), (k : Int) + 1 < N → 0 ≤ H g → H g ≤ 999 → (iI (H g) * iI N ≤ iI E * (iI N - iI ((k : Int) + 1)) + iI O * iI ((k : Int) + 1) ↔ H g * N ≤ E * (N - (k + 1)) + O * (k + 1)) := by
    intro k g hk h1 h2
    have m1 := mul_bd (p := H g) (q := N) (P := 999) (Q := 15) ⟨by omega, by omega⟩ ⟨by omega, by omega⟩
    have m2 := mul_bd (p := E) (q := N - (k + 1)) (P := 1500) (Q := 15) ⟨by omega, by omega⟩ ⟨by omega, by omega⟩
    have m3 := mul_bd (p := O) (q := (k : Int) + 1) (P := 999) (Q := 15) ⟨by omega, by omega⟩ ⟨by omega, by omega⟩
    rw [iI_mul, iI_sub, iI_mul, iI_mul, iI_add, iI_le ⟨by omega, by omega⟩ ⟨by omega, by omega⟩]
  have fw : ∀ k : Nat, (k : Int) + 1 ≤ max N 1 → seB w H x y u p q k = true → ∃ v : Value, mj_Rc m_Sight_reaches 0 0 2 (56, [.ref (mj_NE + 26), .int (iI x), .int (iI y), .int (iI u), .int (iI p), .int (iI q), .int (iI N), .int (iI E), .int (iI O), .int (iI 1), mj_u], [], Wd xs L A V Y, 0, 0) (56, [.ref (mj_NE + 26), .int (iI x), .int (iI y), .int (iI u), .int (iI p), .int (iI q), .int (iI N), .int (iI E), .int (iI O), .int (iI ((k : Int) + 1)), v], [], Wd xs L A V Y, 0, 0) := by
    intro k
    induction k with
    | zero => intro _ _; exact ⟨_, r_rf⟩
    | succ k ih =>
      intro hk hs
      rw [sq k, Bool.and_eq_true, decide_eq_true_eq] at hs
      obtain ⟨v, hr⟩ := ih (by omega) hs.1
      obtain ⟨g, g1, g2, g3, g4, g5, g6⟩ := one k v (by omega)
      have t1 : mj_Rc m_Sight_reaches 0 0 2 (92, [.ref (mj_NE + 26), .int (iI x), .int (iI y), .int (iI u), .int (iI p), .int (iI q), .int (iI N), .int (iI E), .int (iI O), .int (iI ((k : Int) + 1)), .int (iI g)], [], Wd xs L A V Y, 0, 0) (56, [.ref (mj_NE + 26), .int (iI x), .int (iI y), .int (iI u), .int (iI p), .int (iI q), .int (iI N), .int (iI E), .int (iI O), .int (iI ((k : Int) + 1) + 1), .int (iI g)], [], Wd xs L A V Y, 0, 0) := r_to ok_Sight_reaches 56 [true] rfl ⟨g4, by
        show A 0 (iI g).toNatClampNeg * iI N ≤ iI E * (iI N - iI ((k : Int) + 1)) + iI O * iI ((k : Int) + 1)
        rw [g5, cv k g (by omega) g2 g3, g1]
        exact hs.2, trivial⟩
      rw [iI_1, show ((k : Int) + 1) = ((k + 1 : Nat) : Int) by omega] at t1
      rw [show ((k : Int) + 1) = ((k + 1 : Nat) : Int) by omega] at g6
      exact ⟨_, r_tr hr (r_tr g6 t1)⟩
  cases hse : seeB w H x y u p q with
  | true =>
    unfold seeB at hse
    rw [← hN] at hse
    obtain ⟨v, hr⟩ := fw (N - 1).toNat (by omega) hse
    exact ct_of ok_Sight_reaches rfl (r_tr s8 (r_tr hr (r_to ok_Sight_reaches 9999 [true] rfl ⟨by
      show iI N ≤ iI (((N - 1).toNat : Int) + 1)
      rw [iI_le ⟨by omega, by omega⟩ ⟨by omega, by omega⟩]
      omega, trivial⟩))) rfl rfl ⟨rfl, bI_nar true⟩ rfl rfl
  | false =>
    unfold seeB at hse
    rw [← hN] at hse
    obtain ⟨k, k1, k2, k3⟩ := seB_first _ hse
    obtain ⟨v, hr⟩ := fw k (by omega) k2
    obtain ⟨g, g1, g2, g3, g4, g5, g6⟩ := one k v (by omega)
    rw [sq k, k2, Bool.true_and, decide_eq_false_iff_not] at k3
    exact ct_of ok_Sight_reaches rfl (r_tr s8 (r_tr hr (r_tr g6 (r_to ok_Sight_reaches 9999 [false] rfl ⟨g4, by
      show ¬ (A 0 (iI g).toNatClampNeg * iI N ≤ iI E * (iI N - iI ((k : Int) + 1)) + iI O * iI ((k : Int) + 1))
      rw [g5, cv k g (by omega) g2 g3, g1]
      exact k3, trivial⟩)))) rfl rfl ⟨rfl, bI_nar false⟩ rfl rfl
set_option maxHeartbeats 1000000 in
theorem c_countFrom {x y u : Int} (h0 : V 0 = iI w) (h1 : V 1 = iI h) (hw : 2 ≤ w ∧ w ≤ 16) (hh : 2 ≤ h ∧ h ≤ 16) (hH : Hts (A 0) (w * h).toNat H) (hX : 0 ≤ x ∧ x < w) (hY : 0 ≤ y ∧ y < h) (hu : 0 ≤ u ∧ u ≤ 500) : mj_Ct m_Sight_countFrom [.ref (mj_NE + 26), .int (iI x), .int (iI y), .int (iI u)] (Wd xs L A V Y) (some (.int (iI (cnt (fun j => seeB w H x y u ((j : Int) % w) ((j : Int) / w)) (w * h).toNat)))) (Wd xs L A V Y) 0 0 3 := by
  have wh := wh_bd hw hh
  have row : ∀ (g0 : mj_S) (y1 : Int) (k0 : Nat), 0 ≤ y1 ∧ y1 < h → (k0 : Int) = y1 * w → (∃ (c4 : Int32), c4 = iI (cnt (fun j => seeB w H x y u ((j : Int) % w) ((j : Int) / w)) k0) ∧ mj_Rc m_Sight_countFrom 0 0 3 g0 (21, [.ref (mj_NE + 26), .int (iI x), .int (iI y), .int (iI u), .int c4, .int (iI y1), .int 0], [], Wd xs L A V Y, 0, 0)) → ∀ n : Nat, (n : Int) ≤ w → ∃ (c4 : Int32), c4 = iI (cnt (fun j => seeB w H x y u ((j : Int) % w) ((j : Int) / w)) (k0 + n)) ∧ mj_Rc m_Sight_countFrom 0 0 3 g0 (21, [.ref (mj_NE + 26), .int (iI x), .int (iI y), .int (iI u), .int c4, .int (iI y1), .int (iI n)], [], Wd xs L A V Y, 0, 0) := by
    intro g0 y1 k0 hy hk0 hs n
    induction n with
    | zero => intro _; exact hs
    | succ n ih =>
      intro hn
      obtain ⟨c4, hp, hr⟩ := ih (by omega)
      have hx : 0 ≤ (n : Int) ∧ (n : Int) < w := ⟨by omega, by omega⟩
      have hb := num_bd hw hh hx hy
      have hk : ((k0 + n : Nat) : Int) = y1 * w + n := by omega
      have hxy := num_xy (w := w) (y := y1) (by omega) hx
      have cnd : ¬ (V 0 ≤ iI n) := br_ge h0 ⟨by omega, by omega⟩ ⟨by omega, by omega⟩ (by omega)
      subst hp
      have s1 := r_tr hr (r_to (g' := (43, [.ref (mj_NE + 26), .int (iI x), .int (iI y), .int (iI u), .int (iI (cnt (fun j => seeB w H x y u ((j : Int) % w) ((j : Int) / w)) (k0 + n))), .int (iI y1), .int (iI n)], [.int (iI y1), .int (iI n), .int (iI u), .int (iI y), .int (iI x), .ref (mj_NE + 26), .int (iI (cnt (fun j => seeB w H x y u ((j : Int) % w) ((j : Int) / w)) (k0 + n)))], Wd xs L A V Y, 0, 0)) ok_Sight_countFrom 9999 [false] rfl ⟨cnd, trivial⟩)
      have s2 := r_tr s1 (q_V ok_Sight_countFrom ok_Sight_reaches se_Sight_reaches (c_reaches (p := (n : Int)) (q := y1) h0 hw hh hH hX hY hx hy hu) rfl rfl rfl rfl rfl ⟨rfl, rfl, rfl⟩)
      have ev : seeB w H x y u n y1 = (fun j => seeB w H x y u ((j : Int) % w) ((j : Int) / w)) (k0 + n) := by
        show _ = seeB w H x y u (((k0 + n : Nat) : Int) % w) (((k0 + n : Nat) : Int) / w)
        rw [hk, hxy.1, hxy.2]
      rw [ev] at s2
      have ec : cnt (fun j => seeB w H x y u ((j : Int) % w) ((j : Int) / w)) (k0 + n + 1) = cnt (fun j => seeB w H x y u ((j : Int) % w) ((j : Int) / w)) (k0 + n) + (if (fun j => seeB w H x y u ((j : Int) % w) ((j : Int) / w)) (k0 + n) = true then 1 else 0) := rfl
      cases hse : (fun j => seeB w H x y u ((j : Int) % w) ((j : Int) / w)) (k0 + n) with
      | true =>
        rw [hse] at s2
        have s3 := r_tr s2 (r_to (g' := (21, [.ref (mj_NE + 26), .int (iI x), .int (iI y), .int (iI u), .int (iI (cnt (fun j => seeB w H x y u ((j : Int) % w) ((j : Int) / w)) (k0 + n)) + iI 1), .int (iI y1), .int (iI n + 1)], [], Wd xs L A V Y, 0, 0)) ok_Sight_countFrom 21 [false] rfl ⟨by show ¬ ((1 : Int32) = 0); decide, trivial⟩)
        rw [iI_1, iI_add, show cnt (fun j => seeB w H x y u ((j : Int) % w) ((j : Int) / w)) (k0 + n) + 1 = cnt (fun j => seeB w H x y u ((j : Int) % w) ((j : Int) / w)) (k0 + n + 1) by rw [ec, if_pos hse]] at s3
        exact ⟨_, rfl, s3⟩
      | false =>
        rw [hse] at s2
        have s3 := r_tr s2 (r_to (g' := (21, [.ref (mj_NE + 26), .int (iI x), .int (iI y), .int (iI u), .int (iI (cnt (fun j => seeB w H x y u ((j : Int) % w) ((j : Int) / w)) (k0 + n)) + iI 0), .int (iI y1), .int (iI n + 1)], [], Wd xs L A V Y, 0, 0)) ok_Sight_countFrom 21 [true] rfl ⟨by show ((0 : Int32) = 0); rfl, trivial⟩)
        rw [iI_1, iI_add, show cnt (fun j => seeB w H x y u ((j : Int) % w) ((j : Int) / w)) (k0 + n) + 0 = cnt (fun j => seeB w H x y u ((j : Int) % w) ((j : Int) / w)) (k0 + n + 1) by rw [ec, if_neg (by rw [hse]; decide)]] at s3
        exact ⟨_, rfl, s3⟩
  have rows : ∀ n : Nat, (n : Int) ≤ h → ∃ (c4 : Int32) (u6 : Value), c4 = iI (cnt (fun j => seeB w H x y u ((j : Int) % w) ((j : Int) / w)) ((n : Int) * w).toNat) ∧ mj_Rc m_Sight_countFrom 0 0 3 (6, [.ref (mj_NE + 26), .int (iI x), .int (iI y), .int (iI u), .int 0, .int 0, mj_u], [], Wd xs L A V Y, 0, 0) (6, [.ref (mj_NE + 26), .int (iI x), .int (iI y), .int (iI u), .int c4, .int (iI n), u6], [], Wd xs L A V Y, 0, 0) := by
    intro n
    induction n with
    | zero => intro _; exact ⟨iI 0, mj_u, by rw [show ((0 : Nat) : Int) * w = 0 by simp]; rfl, r_rf⟩
    | succ n ih =>
      intro hn
      obtain ⟨c4, u6, hp, hr⟩ := ih (by omega)
      have hnw : 0 ≤ (n : Int) * w := Int.mul_nonneg (by omega) (by omega)
      have t1 := r_tr hr (r_to (g' := (21, [.ref (mj_NE + 26), .int (iI x), .int (iI y), .int (iI u), .int c4, .int (iI n), .int 0], [], Wd xs L A V Y, 0, 0)) ok_Sight_countFrom 21 [false] rfl ⟨br_ge h1 ⟨by omega, by omega⟩ ⟨by omega, by omega⟩ (by omega), trivial⟩)
      obtain ⟨c4, hp, hr2⟩ := row _ n ((n : Int) * w).toNat ⟨by omega, by omega⟩ (by omega) ⟨_, hp, t1⟩ w.toNat (by omega)
      have t2 := r_tr hr2 (r_to (g' := (6, [.ref (mj_NE + 26), .int (iI x), .int (iI y), .int (iI u), .int c4, .int (iI n + 1), .int (iI w.toNat)], [], Wd xs L A V Y, 0, 0)) ok_Sight_countFrom 6 [true] rfl ⟨br_lt h0 ⟨by omega, by omega⟩ ⟨by omega, by omega⟩ (by omega), trivial⟩)
      rw [iI_1] at t2
      have e : (((n + 1 : Nat) : Int) * w).toNat = ((n : Int) * w).toNat + w.toNat := by
        rw [Int.natCast_add, Int.add_mul]
        omega
      rw [e]
      exact ⟨_, _, hp, t2⟩
  obtain ⟨c4, u6, hp, hr⟩ := rows h.toNat (by omega)
  have hwh : ((h.toNat : Nat) : Int) * w = w * h := by rw [Int.mul_comm]; congr 1; omega
  rw [hwh] at hp
  subst hp
  exact ct_of ok_Sight_countFrom rfl (r_tr (r_to ok_Sight_countFrom 6 [] rfl trivial) (r_tr hr (r_to ok_Sight_countFrom 9999 [true] rfl ⟨br_lt h1 ⟨by omega, by omega⟩ ⟨by omega, by omega⟩ (by omega), trivial⟩))) rfl rfl rfl rfl rfl
end SIGHT
