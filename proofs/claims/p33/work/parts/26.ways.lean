/-! Ways: the least sums -/
/-- all that is reached from one FIELD is all there is -/
theorem all_nb8 {w h : Int} {n st : Nat} (hw : 2 ≤ w ∧ w ≤ 16) (hh : 2 ≤ h ∧ h ≤ 16) (hnw : (n : Int) = w * h) (hst : st < n) {P : Nat → Prop} (h0 : P st) (hs : ∀ u d : Nat, u < n → d < 8 → d % 2 = 0 → 0 ≤ nbi w h u d → P u → P (nbi w h u d).toNat) : ∀ v, v < n → P v := by
  have stp : ∀ (x y : Int) (d : Nat), (0 ≤ x ∧ x < w) → (0 ≤ y ∧ y < h) → d < 8 → d % 2 = 0 → (0 ≤ x + sxI d ∧ x + sxI d < w) → (0 ≤ y + syI d ∧ y + syI d < h) → P (y * w + x).toNat → P ((y + syI d) * w + (x + sxI d)).toNat := by
    intro x y d hx hy hd h2 hx2 hy2 hp
    have hb := num_bd hw hh hx hy
    have hb2 := num_bd hw hh hx2 hy2
    have e : (((y * w + x).toNat : Nat) : Int) = y * w + x := by omega
    have hxy := num_xy (w := w) (x := x) (y := y) (by omega) hx
    have e0 : nbi w h (y * w + x).toNat d = (y + syI d) * w + (x + sxI d) := by
      unfold nbi nb
      rw [e, hxy.1, hxy.2, if_pos ⟨hx2.1, hx2.2, hy2.1, hy2.2⟩]
    have := hs _ d (by omega) hd h2 (by rw [e0]; omega) hp
    rw [e0] at this
    exact this
  have sx := i_xy (i := st) hw hh (by omega)
  have d4 : sxI 4 = -1 ∧ syI 4 = 0 := ⟨rfl, rfl⟩
  have d6 : sxI 6 = 0 ∧ syI 6 = -1 := ⟨rfl, rfl⟩
  have d0 : sxI 0 = 1 ∧ syI 0 = 0 := ⟨rfl, rfl⟩
  have d2 : sxI 2 = 0 ∧ syI 2 = 1 := ⟨rfl, rfl⟩
  have g1 : ∀ k : Nat, (k : Int) ≤ (st : Int) % w → P ((st : Int) / w * w + ((st : Int) % w - k)).toNat := by
    intro k
    induction k with
    | zero => intro _; rw [show ((st : Int) / w * w + ((st : Int) % w - ((0 : Nat) : Int))).toNat = st by omega]; exact h0
    | succ k ih =>
      intro hk
      have := stp ((st : Int) % w - k) ((st : Int) / w) 4 ⟨by omega, by omega⟩ ⟨by omega, by omega⟩ (by omega) rfl ⟨by omega, by omega⟩ ⟨by omega, by omega⟩ (ih (by omega))
      rw [d4.1, d4.2, Int.add_zero, show (st : Int) % w - (k : Int) + -1 = (st : Int) % w - ((k + 1 : Nat) : Int) by omega] at this
      exact this
  have g2 : ∀ k : Nat, (k : Int) ≤ (st : Int) / w → P (((st : Int) / w - k) * w + 0).toNat := by
    intro k
    induction k with
    | zero =>
      intro _
      have := g1 ((st : Int) % w).toNat (by omega)
      rw [show (st : Int) % w - ((((st : Int) % w).toNat : Nat) : Int) = 0 by omega] at this
      rw [show (st : Int) / w - ((0 : Nat) : Int) = (st : Int) / w by omega]
      exact this
    | succ k ih =>
      intro hk
      have := stp 0 ((st : Int) / w - k) 6 ⟨by omega, by omega⟩ ⟨by omega, by omega⟩ (by omega) rfl ⟨by omega, by omega⟩ ⟨by omega, by omega⟩ (ih (by omega))
      rw [d6.1, d6.2, Int.add_zero, show (st : Int) / w - (k : Int) + -1 = (st : Int) / w - ((k + 1 : Nat) : Int) by omega] at this
      exact this
  intro v hv
  have vx := i_xy (i := v) hw hh (by omega)
  have g3 : ∀ k : Nat, (k : Int) < h → P ((k : Int) * w + 0).toNat := by
    intro k
    induction k with
    | zero =>
      intro _
      have := g2 ((st : Int) / w).toNat (by omega)
      rw [show (st : Int) / w - ((((st : Int) / w).toNat : Nat) : Int) = ((0 : Nat) : Int) by omega] at this
      exact this
    | succ k ih =>
      intro hk
      have := stp 0 k 2 ⟨by omega, by omega⟩ ⟨by omega, by omega⟩ (by omega) rfl ⟨by omega, by omega⟩ ⟨by omega, by omega⟩ (ih (by omega))
      rw [d2.1, d2.2, Int.add_zero, show (k : Int) + 1 = ((k + 1 : Nat) : Int) by omega] at this
      exact this
  have g4 : ∀ k : Nat, (k : Int) < w → P ((v : Int) / w * w + k).toNat := by
    intro k
    induction k with
    | zero =>
      intro _
      have := g3 ((v : Int) / w).toNat (by omega)
      rw [show ((((v : Int) / w).toNat : Nat) : Int) = (v : Int) / w by omega] at this
      exact this
    | succ k ih =>
      intro hk
      have := stp k ((v : Int) / w) 0 ⟨by omega, by omega⟩ ⟨by omega, by omega⟩ (by omega) rfl ⟨by omega, by omega⟩ ⟨by omega, by omega⟩ (ih (by omega))
      rw [d0.1, d0.2, Int.add_zero, show (k : Int) + 1 = ((k + 1 : Nat) : Int) by omega] at this
      exact this
  have := g4 ((v : Int) % w).toNat (by omega)
  rw [show ((v : Int) / w * w + ((((v : Int) % w).toNat : Nat) : Int)).toNat = v by omega] at this
  exact this
/-- what a STEP takes -/
def wg (H : Nat → Int) (u d v : Nat) : Int := (if d % 2 = 1 then 14 else 10) + ((H u - H v).natAbs : Int)
theorem wg_bd {H : Nat → Int} {u d v : Nat} (hu : 0 ≤ H u ∧ H u ≤ 999) (hv : 0 ≤ H v ∧ H v ≤ 999) : 10 ≤ wg H u d v ∧ wg H u d v ≤ 1013 := by
  unfold wg
  split <;> omega
/-- the sums of the visited FIELDS -/
def DjI (w h : Int) (n st : Nat) (H T : Nat → Int) (vs dn : Nat → Bool) : Prop := (∀ v, v < n → vs v = true → 0 ≤ T v ∧ T v ≤ 1013 * cnt dn n ∧ (v = st ∨ ∃ u d, u < n ∧ d < 8 ∧ dn u = true ∧ 0 ≤ nbi w h u d ∧ (nbi w h u d).toNat = v ∧ T v = T u + wg H u d v)) ∧ (∀ v, v < n → vs v = false → T v = 1000000) ∧ vs st = true ∧ T st = 0
/-- what lies in the cells -/
def StW (A0 : Nat → Nat → Int32) (V0 : Nat → Int32) (n : Nat) (A : Nat → Nat → Int32) (V : Nat → Int32) (T : Nat → Int) (s : Nat) (m : Nat → Nat) : Prop := (∀ j, j < n → A 18 j = iI (T j)) ∧ (∀ j, j < s → A 19 j = iI (m j)) ∧ V 9 = iI s ∧ (∀ k, k ≠ 18 → k ≠ 19 → A k = A0 k) ∧ (∀ k, k ≠ 9 → V k = V0 k)
theorem StW_add {A0 : Nat → Nat → Int32} {V0 : Nat → Int32} {n : Nat} {A : Nat → Nat → Int32} {V : Nat → Int32} {T : Nat → Int} {s : Nat} {m : Nat → Nat} {v : Nat} {z : Int} (h : StW A0 V0 n A V T s m) : StW A0 V0 n (wA (wA A 19 (upd (A 19) s (iI v))) 18 (upd (A 18) v (iI z))) (wV V 9 (iI ((s : Int) + 1))) (supI T v z) (s + 1) (supI m s v) := by
  obtain ⟨h1, h2, h3, h4, h5⟩ := h
  refine ⟨fun j hj => ?_, fun j hj => ?_, wV_s, fun k k1 k2 => ?_, fun k k1 => ?_⟩
  · rw [wA_s]
    by_cases e : j = v
    · subst e; rw [upd_eq, supI_eq]
    · rw [upd_ne e, supI_ne e, h1 j hj]
  · rw [wA_n (by omega), wA_s]
    by_cases e : j = s
    · subst e; rw [upd_eq, supI_eq]
    · rw [upd_ne e, supI_ne e, h2 j (by omega)]
  · rw [wA_n k1, wA_n k2, h4 k k1 k2]
  · rw [wV_n k1, h5 k k1]
theorem StW_set {A0 : Nat → Nat → Int32} {V0 : Nat → Int32} {n : Nat} {A : Nat → Nat → Int32} {V : Nat → Int32} {T : Nat → Int} {s : Nat} {m : Nat → Nat} {v : Nat} {z : Int} (h : StW A0 V0 n A V T s m) : StW A0 V0 n (wA A 18 (upd (A 18) v (iI z))) V (supI T v z) s m := by
  obtain ⟨h1, h2, h3, h4, h5⟩ := h
  refine ⟨fun j hj => ?_, fun j hj => ?_, h3, fun k k1 k2 => ?_, h5⟩
  · rw [wA_s]
    by_cases e : j = v
    · subst e; rw [upd_eq, supI_eq]
    · rw [upd_ne e, supI_ne e, h1 j hj]
  · rw [wA_n (by omega), h2 j hj]
  · rw [wA_n k1, h4 k k1 k2]
theorem StW_take {A0 : Nat → Nat → Int32} {V0 : Nat → Int32} {n : Nat} {A : Nat → Nat → Int32} {V : Nat → Int32} {T : Nat → Int} {s : Nat} {m : Nat → Nat} {p : Nat} (h : StW A0 V0 n A V T s m) (hs : 0 < s) : StW A0 V0 n (wA A 19 (upd (A 19) p (iI (m (s - 1))))) (wV V 9 (iI ((s : Int) - 1))) T (s - 1) (supI m p (m (s - 1))) := by
  obtain ⟨h1, h2, h3, h4, h5⟩ := h
  refine ⟨fun j hj => ?_, fun j hj => ?_, ?_, fun k k1 k2 => ?_, fun k k1 => ?_⟩
  · rw [wA_n (by omega), h1 j hj]
  · rw [wA_s]
    by_cases e : j = p
    · subst e; rw [upd_eq, supI_eq]
    · rw [upd_ne e, supI_ne e, h2 j (by omega)]
  · rw [wV_s, show (s : Int) - 1 = ((s - 1 : Nat) : Int) by omega]
  · rw [wA_n k2, h4 k k1 k2]
  · rw [wV_n k1, h5 k k1]
section WAY
variable {xs : Nat → Int32} {L : Nat} {A : Nat → Nat → Int32} {V : Nat → Int32} {Y : mj_H}
variable {w h : Int} {n : Nat} {H : Nat → Int}
theorem c_step {u v d : Nat} (hn : n ≤ 256) (hH : Hts (A 0) n H) (hu : u < n) (hv : v < n) (hd : d < 8) : mj_Ct m_Ways_step [.ref (mj_NE + 27), .int (iI u), .int (iI v), .int (iI d)] (Wd xs L A V Y) (some (.int (iI (wg H u d v)))) (Wd xs L A V Y) 0 0 2 := by
  obtain ⟨e1, b1, b2⟩ := hH u hu
  obtain ⟨e2, b3, b4⟩ := hH v hv
  have P : mj_Rc m_Ways_step 0 0 2 (0, [.ref (mj_NE + 27), .int (iI u), .int (iI v), .int (iI d)], [], Wd xs L A V Y, 0, 0) (20, [.ref (mj_NE + 27), .int (iI u), .int (iI v), .int (iI d)], [.int (iI v), .int (iI u), .ref (mj_NE + 1), .int (iI (if d % 2 = 1 then 14 else 10))], Wd xs L A V Y, 0, 0) := by
    have t1 := r_to (RC := 0) (RS := 0) (dd := 2) (g := (0, [.ref (mj_NE + 27), .int (iI u), .int (iI v), .int (iI d)], [], Wd xs L A V Y, 0, 0)) (g' := (1, [.ref (mj_NE + 27), .int (iI u), .int (iI v), .int (iI d)], [.int (iI d)], Wd xs L A V Y, 0, 0)) ok_Ways_step 9999 [] rfl trivial
    have t2 := r_tr t1 (q_S ok_Ways_step ok_Land_slanted st_Land_slanted (c_slanted hd) rfl rfl rfl rfl ⟨rfl, rfl, rfl⟩)
    by_cases ho : d % 2 = 1
    · rw [decide_eq_true ho] at t2
      rw [if_pos ho]
      exact r_tr t2 (r_to ok_Ways_step 9999 [false] rfl ⟨by show ¬ ((1 : Int32) = 0); decide, trivial⟩)
    · rw [decide_eq_false ho] at t2
      rw [if_neg ho]
      exact r_tr t2 (r_to ok_Ways_step 9999 [true] rfl ⟨by show ((0 : Int32) = 0); rfl, trivial⟩)
  have t3 := r_tr P (q_V ok_Ways_step ok_Land_difference se_Land_difference (c_difference (i := (u : Int)) (j := (v : Int)) ⟨by omega, by omega⟩ ⟨by omega, by omega⟩ e1 e2 ⟨b1, b2⟩ ⟨b3, b4⟩) rfl rfl rfl rfl rfl ⟨rfl, rfl, rfl⟩)
  have t4 : mj_Rc m_Ways_step 0 0 2 (23, [.ref (mj_NE + 27), .int (iI u), .int (iI v), .int (iI d)], [.int (iI ((H u - H v).natAbs : Int)), .int (iI (if d % 2 = 1 then 14 else 10))], Wd xs L A V Y, 0, 0) (24, [.ref (mj_NE + 27), .int (iI u), .int (iI v), .int (iI d)], [.int (iI (if d % 2 = 1 then 14 else 10) + iI ((H u - H v).natAbs : Int))], Wd xs L A V Y, 0, 0) := r_to ok_Ways_step 9999 [] rfl trivial
  rw [iI_add] at t4
  exact ct_of ok_Ways_step rfl (r_tr t3 t4) rfl rfl rfl rfl rfl
set_option maxHeartbeats 1000000 in
theorem c_spreadW {A0 : Nat → Nat → Int32} {V0 : Nat → Int32} {u s st : Nat} {T : Nat → Int} {vs dn : Nat → Bool} {mm : Nat → Nat} (hw : 2 ≤ w ∧ w ≤ 16) (hh : 2 ≤ h ∧ h ≤ 16) (hnw : (n : Int) = w * h) (hN : nbOK w h (A0 2) n) (hH : Hts (A0 0) n H) (hu : u < n) (hdu : dn u = true) (hTu : 0 ≤ T u ∧ T u + 1013 ≤ 1013 * cnt dn n) (hle : ∀ v, v < n → dn v = true → T v ≤ T u) (hF : Fro n vs dn s mm) (hL : DjI w h n st H T vs dn) (hfr : ∀ j, j < s → T u ≤ T (mm j)) (hS : StW A0 V0 n A V T s mm) : ∃ (A1 : Nat → Nat → Int32) (V1 : Nat → Int32) (T1 : Nat → Int) (vs1 : Nat → Bool) (s1 : Nat) (m1 : Nat → Nat), (Fro n vs1 dn s1 m1 ∧ DjI w h n st H T1 vs1 dn ∧ (∀ j, j < s1 → T u ≤ T1 (m1 j)) ∧ StW A0 V0 n A1 V1 T1 s1 m1 ∧ (∀ v, v < n → dn v = true → T1 v = T v) ∧ (∀ v, v < n → vs v = true → vs1 v = true) ∧ (∀ v, v < n → T1 v ≤ T v)) ∧ (∀ d, d < 8 → 0 ≤ nbi w h u d → vs1 (nbi w h u d).toNat = true ∧ T1 (nbi w h u d).toNat ≤ T u + wg H u d (nbi w h u d).toNat) ∧ mj_Ct m_Ways_spread [.ref (mj_NE + 27), .int (iI u)] (Wd xs L A V Y) none (Wd xs L A1 V1 Y) 0 0 3 := by
  have wh := wh_bd hw hh
  have cb := cnt_bd dn n
  have lp : ∀ i : Nat, i ≤ 8 → ∃ (A1 : Nat → Nat → Int32) (V1 : Nat → Int32) (T1 : Nat → Int) (vs1 : Nat → Bool) (s1 : Nat) (m1 : Nat → Nat) (u3 : Value), (Fro n vs1 dn s1 m1 ∧ DjI w h n st H T1 vs1 dn ∧ (∀ j, j < s1 → T u ≤ T1 (m1 j)) ∧ StW A0 V0 n A1 V1 T1 s1 m1 ∧ (∀ v, v < n → dn v = true → T1 v = T v) ∧ (∀ v, v < n → vs v = true → vs1 v = true) ∧ (∀ v, v < n → T1 v ≤ T v)) ∧ (∀ d, d < i → 0 ≤ nbi w h u d → vs1 (nbi w h u d).toNat = true ∧ T1 (nbi w h u d).toNat ≤ T u + wg H u d (nbi w h u d).toNat) ∧ mj_Rc m_Ways_spread 0 0 3 (2, [.ref (mj_NE + 27), .int (iI u), .int 0, mj_u], [], Wd xs L A V Y, 0, 0) (2, [.ref (mj_NE + 27), .int (iI u), .int (iI i), u3], [], Wd xs L A1 V1 Y, 0, 0) := by
    intro i
    induction i with
    | zero => intro _; exact ⟨A, V, T, vs, s, mm, _, ⟨hF, hL, hfr, hS, fun v hv q => rfl, fun v hv q => q, fun v hv => Int.le_refl _⟩, fun d hd => absurd hd (by omega), r_rf⟩
    | succ i ih =>
      intro hi
      obtain ⟨A1, V1, T1, vs1, s1, m1, u3, ⟨hF, hL, hfr, hS, hx1, hx2, hx3⟩, hd1, hr⟩ := ih (by omega)
      obtain ⟨g1, g2, g3, g4, g5⟩ := hS
      have bd := nbi_bd hw hh u i
      have t1 := r_tr hr (r_to (g' := (14, [.ref (mj_NE + 27), .int (iI u), .int (iI i), u3], [.int (iI i), .int (iI u), .ref (mj_NE + 1)], Wd xs L A1 V1 Y, 0, 0)) ok_Ways_spread 9999 [false] rfl ⟨by
        show ¬ (iI 8 ≤ iI i)
        rw [iI_le ⟨by omega, by omega⟩ ⟨by omega, by omega⟩]
        omega, trivial⟩)
      have t2 := r_tr t1 (q_V ok_Ways_spread ok_Land_neighbour se_Land_neighbour (c_nbr (d := i) (by rw [g4 2 (by omega) (by omega)]; exact hN) hu (by omega) (by omega)) rfl rfl rfl rfl rfl ⟨rfl, rfl, rfl⟩)
      by_cases hneg : nbi w h u i < 0
      · have t3 := r_tr t2 (r_to (g' := (2, [.ref (mj_NE + 27), .int (iI u), .int (iI i + 1), .int (iI (nbi w h u i))], [], Wd xs L A1 V1 Y, 0, 0)) ok_Ways_spread 2 [true] rfl ⟨by
          show iI (nbi w h u i) < iI 0
          rw [iI_lt ⟨by omega, by omega⟩ ⟨by omega, by omega⟩]
          exact hneg, trivial⟩)
        rw [iI_1] at t3
        refine ⟨A1, V1, T1, vs1, s1, m1, _, ⟨hF, hL, hfr, ⟨g1, g2, g3, g4, g5⟩, hx1, hx2, hx3⟩, fun d hd hp => ?_, t3⟩
        by_cases e : d = i
        · subst e; omega
        · exact hd1 d (by omega) hp
      · obtain ⟨j, hj⟩ : ∃ j : Nat, (j : Int) = nbi w h u i := ⟨(nbi w h u i).toNat, by omega⟩
        have hj2 : (nbi w h u i).toNat = j := by omega
        have hjn : j < n := by omega
        have hc : (iI j).toNatClampNeg = j := cl_nat (by omega)
        have hcu : (iI u).toNatClampNeg = u := cl_nat (by omega)
        have hin : vp_in (iI j) 256 := in_nat (by omega) (by omega)
        have hinu : vp_in (iI u) 256 := in_nat (by omega) (by omega)
        rw [← hj] at t2
        have nn : ¬ (iI j < iI 0) := by rw [iI_lt ⟨by omega, by omega⟩ ⟨by omega, by omega⟩]; omega
        have hTu1 := hx1 u hu hdu
        have hwb := wg_bd (H := H) (u := u) (d := i) (v := j) (hH u hu).2 (hH j hjn).2
        have hH1 : Hts (A1 0) n H := by rw [g4 0 (by omega) (by omega)]; exact hH
        have hTj : 0 ≤ T1 j ∧ T1 j ≤ 1000000 := by
          cases hv : vs1 j with
          | true => have := hL.1 j hjn hv; omega
          | false => have := hL.2.1 j hjn hv; omega
        have t3 : mj_Rc m_Ways_spread 0 0 3 (17, [.ref (mj_NE + 27), .int (iI u), .int (iI i), u3], [.int (iI j)], Wd xs L A1 V1 Y, 0, 0) (32, [.ref (mj_NE + 27), .int (iI u), .int (iI i), .int (iI j)], [.int (iI i), .int (iI j), .int (iI u), .ref (mj_NE + 27), .int (A1 18 (iI u).toNatClampNeg)], Wd xs L A1 V1 Y, 0, 0) := r_to ok_Ways_spread 9999 [false] rfl ⟨nn, hinu, trivial⟩
        rw [hcu, g1 u hu, hTu1] at t3
        have t4 := r_tr (r_tr t2 t3) (q_V ok_Ways_spread ok_Ways_step se_Ways_step (c_step (d := i) (by omega) hH1 hu hjn (by omega)) rfl rfl rfl rfl rfl ⟨rfl, rfl, rfl⟩)
        by_cases hlt : T u + wg H u i j < T1 j
        · have hnd : dn j = false := by
            cases q : dn j with
            | false => rfl
            | true => have := hx1 j hjn q; have := hle j hjn q; omega
          have hne : ∀ v, v < n → dn v = true → v ≠ j := fun v hv q e => by rw [e, hnd] at q; exact Bool.noConfusion q
          have c1 : ¬ (A1 18 (iI j).toNatClampNeg ≤ iI (T u) + iI (wg H u i j)) := by
            rw [hc, g1 j hjn, iI_add, iI_le ⟨by omega, by omega⟩ ⟨by omega, by omega⟩]
            omega
          -- the new sums
          have hLn : ∀ vsn : Nat → Bool, vsn j = true → (∀ v, v ≠ j → vsn v = vs1 v) → DjI w h n st H (supI T1 j (T u + wg H u i j)) vsn dn := by
            intro vsn q1 q2
            have hst : st ≠ j := fun e => by
              have := hL.2.2.2
              rw [e] at this
              omega
            refine ⟨fun v hv hvv => ?_, fun v hv hvv => ?_, by rw [q2 st hst]; exact hL.2.2.1, by rw [supI_ne hst]; exact hL.2.2.2⟩
            · by_cases e : v = j
              · subst e
                rw [supI_eq]
                refine ⟨by omega, by omega, Or.inr ⟨u, i, hu, by omega, hdu, by omega, hj2, ?_⟩⟩
                rw [supI_ne (hne u hu hdu), hTu1]
              · rw [q2 v e] at hvv
                rw [supI_ne e]
                obtain ⟨a1, a2, a3⟩ := hL.1 v hv hvv
                refine ⟨a1, a2, ?_⟩
                rcases a3 with a3 | ⟨u', d', a4, a5, a6, a7, a8, a9⟩
                · exact Or.inl a3
                · exact Or.inr ⟨u', d', a4, a5, a6, a7, a8, by rw [supI_ne (hne u' a4 a6)]; exact a9⟩
            · by_cases e : v = j
              · subst e; rw [q1] at hvv; exact Bool.noConfusion hvv
              · rw [q2 v e] at hvv
                rw [supI_ne e]
                exact hL.2.1 v hv hvv
          have hx1n : ∀ v, v < n → dn v = true → supI T1 j (T u + wg H u i j) v = T v := fun v hv q => by rw [supI_ne (hne v hv q)]; exact hx1 v hv q
          have hx3n : ∀ v, v < n → supI T1 j (T u + wg H u i j) v ≤ T v := fun v hv => by
            by_cases e : v = j
            · subst e; rw [supI_eq]; have := hx3 v hv; omega
            · rw [supI_ne e]; exact hx3 v hv
          have hd1n : ∀ vsn : Nat → Bool, vsn j = true → (∀ v, v ≠ j → vsn v = vs1 v) → ∀ d, d < i + 1 → 0 ≤ nbi w h u d → vsn (nbi w h u d).toNat = true ∧ supI T1 j (T u + wg H u i j) (nbi w h u d).toNat ≤ T u + wg H u d (nbi w h u d).toNat := by
            intro vsn q1 q2 d hd hp
            by_cases e : d = i
            · subst e; rw [hj2, supI_eq]; exact ⟨q1, Int.le_refl _⟩
            · obtain ⟨a1, a2⟩ := hd1 d (by omega) hp
              by_cases e2 : (nbi w h u d).toNat = j
              · rw [e2] at a2 ⊢
                rw [supI_eq]
                exact ⟨q1, by omega⟩
              · rw [supI_ne e2, q2 _ e2]
                exact ⟨a1, a2⟩
          cases hv : vs1 j with
          | true =>
            obtain ⟨j1, j2, j3⟩ := hL.1 j hjn hv
            have t5 : mj_Rc m_Ways_spread 0 0 3 (35, [.ref (mj_NE + 27), .int (iI u), .int (iI i), .int (iI j)], [.int (iI (wg H u i j)), .int (iI (T u))], Wd xs L A1 V1 Y, 0, 0) (79, [.ref (mj_NE + 27), .int (iI u), .int (iI i), .int (iI j)], [.int (iI i), .int (iI j), .int (iI u), .ref (mj_NE + 27), .int (A1 18 (iI u).toNatClampNeg), .int (iI j), .ref (mj_NE + 28)], Wd xs L A1 V1 Y, 0, 0) := r_to ok_Ways_spread 9999 [false, true] rfl ⟨hin, c1, hin, by
              show ¬ (A1 18 (iI j).toNatClampNeg = iI 1000000)
              rw [hc, g1 j hjn, iI_eq ⟨by omega, by omega⟩ ⟨by omega, by omega⟩]
              omega, hinu, trivial⟩
            rw [hcu, g1 u hu, hTu1] at t5
            have t6 := r_tr (r_tr t4 t5) (q_V ok_Ways_spread ok_Ways_step se_Ways_step (c_step (d := i) (by omega) hH1 hu hjn (by omega)) rfl rfl rfl rfl rfl ⟨rfl, rfl, rfl⟩)
            have t7 : mj_Rc m_Ways_spread 0 0 3 (82, [.ref (mj_NE + 27), .int (iI u), .int (iI i), .int (iI j)], [.int (iI (wg H u i j)), .int (iI (T u)), .int (iI j), .ref (mj_NE + 28)], Wd xs L A1 V1 Y, 0, 0) (2, [.ref (mj_NE + 27), .int (iI u), .int (iI i + 1), .int (iI j)], [], Wd xs L (wA A1 18 (upd (A1 18) (iI j).toNatClampNeg (iI (T u) + iI (wg H u i j)))) V1 Y, 0, 0) := r_to ok_Ways_spread 2 [] rfl ⟨hin, trivial⟩
            rw [iI_1, hc, iI_add] at t7
            refine ⟨_, _, supI T1 j (T u + wg H u i j), vs1, s1, m1, _, ⟨hF, hLn vs1 hv (fun _ _ => rfl), fun k hk => ?_, StW_set ⟨g1, g2, g3, g4, g5⟩, hx1n, hx2, hx3n⟩, hd1n vs1 hv (fun _ _ => rfl), r_tr t6 t7⟩
            by_cases e : m1 k = j
            · rw [e, supI_eq]; omega
            · rw [supI_ne e]; exact hfr k hk
          | false =>
            have hlj := hL.2.1 j hjn hv
            have hsl := Fro_lt hF hjn hv
            have t5 : mj_Rc m_Ways_spread 0 0 3 (35, [.ref (mj_NE + 27), .int (iI u), .int (iI i), .int (iI j)], [.int (iI (wg H u i j)), .int (iI (T u))], Wd xs L A1 V1 Y, 0, 0) (61, [.ref (mj_NE + 27), .int (iI u), .int (iI i), .int (iI j)], [.int (iI j), .ref (mj_NE + 29)], Wd xs L A1 V1 Y, 0, 0) := r_to ok_Ways_spread 9999 [false, false] rfl ⟨hin, c1, hin, by
              show ¬ (¬ (A1 18 (iI j).toNatClampNeg = iI 1000000))
              rw [hc, g1 j hjn, hlj]
              exact fun q => q rfl, trivial⟩
            have t6 := r_tr (r_tr t4 t5) (q_V ok_Ways_spread ok_Frontier_add se_Frontier_add (c_addW (i := j) g3 (by omega)) rfl rfl rfl rfl rfl ⟨rfl, rfl, rfl⟩)
            have t7 : mj_Rc m_Ways_spread 0 0 3 (64, [.ref (mj_NE + 27), .int (iI u), .int (iI i), .int (iI j)], [], Wd xs L (wA A1 19 (upd (A1 19) s1 (iI j))) (wV V1 9 (iI ((s1 : Int) + 1))) Y, 0, 0) (79, [.ref (mj_NE + 27), .int (iI u), .int (iI i), .int (iI j)], [.int (iI i), .int (iI j), .int (iI u), .ref (mj_NE + 27), .int (A1 18 (iI u).toNatClampNeg), .int (iI j), .ref (mj_NE + 28)], Wd xs L (wA A1 19 (upd (A1 19) s1 (iI j))) (wV V1 9 (iI ((s1 : Int) + 1))) Y, 0, 0) := r_to ok_Ways_spread 9999 [] rfl ⟨hinu, trivial⟩
            rw [hcu, g1 u hu, hTu1] at t7
            have t8 := r_tr (r_tr t6 t7) (q_V ok_Ways_spread ok_Ways_step se_Ways_step (c_step (d := i) (by omega) (by rw [wA_n (by omega)]; exact hH1) hu hjn (by omega)) rfl rfl rfl rfl rfl ⟨rfl, rfl, rfl⟩)
            have t9 : mj_Rc m_Ways_spread 0 0 3 (82, [.ref (mj_NE + 27), .int (iI u), .int (iI i), .int (iI j)], [.int (iI (wg H u i j)), .int (iI (T u)), .int (iI j), .ref (mj_NE + 28)], Wd xs L (wA A1 19 (upd (A1 19) s1 (iI j))) (wV V1 9 (iI ((s1 : Int) + 1))) Y, 0, 0) (2, [.ref (mj_NE + 27), .int (iI u), .int (iI i + 1), .int (iI j)], [], Wd xs L (wA (wA A1 19 (upd (A1 19) s1 (iI j))) 18 (upd (A1 18) (iI j).toNatClampNeg (iI (T u) + iI (wg H u i j)))) (wV V1 9 (iI ((s1 : Int) + 1))) Y, 0, 0) := r_to ok_Ways_spread 2 [] rfl ⟨hin, trivial⟩
            rw [iI_1, hc, iI_add] at t9
            refine ⟨_, _, supI T1 j (T u + wg H u i j), sup vs1 j, s1 + 1, supI m1 s1 j, _, ⟨Fro_add hF hjn hv, hLn _ sup_eq (fun _ q => sup_ne q), fun k hk => ?_, StW_add ⟨g1, g2, g3, g4, g5⟩, hx1n, fun v hv2 q => sup_mo (hx2 v hv2 q), hx3n⟩, hd1n _ sup_eq (fun _ q => sup_ne q), r_tr t8 t9⟩
            by_cases e : k = s1
            · subst e; rw [supI_eq, supI_eq]; omega
            · rw [supI_ne e]
              have hne2 : m1 k ≠ j := fun q => by
                have := (hF.1 k (by omega)).2.1
                rw [q, hv] at this
                exact Bool.noConfusion this
              rw [supI_ne hne2]
              exact hfr k (by omega)
        · have t5 := r_tr t4 (r_to (g' := (2, [.ref (mj_NE + 27), .int (iI u), .int (iI i + 1), .int (iI j)], [], Wd xs L A1 V1 Y, 0, 0)) ok_Ways_spread 2 [true] rfl ⟨hin, by
            show A1 18 (iI j).toNatClampNeg ≤ iI (T u) + iI (wg H u i j)
            rw [hc, g1 j hjn, iI_add, iI_le ⟨by omega, by omega⟩ ⟨by omega, by omega⟩]
            omega, trivial⟩)
          rw [iI_1] at t5
          have hv : vs1 j = true := by
            cases q : vs1 j with
            | true => rfl
            | false => have := hL.2.1 j hjn q; omega
          refine ⟨A1, V1, T1, vs1, s1, m1, _, ⟨hF, hL, hfr, ⟨g1, g2, g3, g4, g5⟩, hx1, hx2, hx3⟩, fun d hd hp => ?_, t5⟩
          by_cases e : d = i
          · subst e; rw [hj2]; exact ⟨hv, by omega⟩
          · exact hd1 d (by omega) hp
  obtain ⟨A1, V1, T1, vs1, s1, m1, u3, hTT, hd1, hr⟩ := lp 8 (Nat.le_refl _)
  exact ⟨A1, V1, T1, vs1, s1, m1, hTT, hd1, ct_of ok_Ways_spread rfl (r_tr (r_to ok_Ways_spread 2 [] rfl trivial) (r_tr hr (r_to ok_Ways_spread 9999 [true] rfl ⟨by show iI 8 ≤ iI 8; exact Int32.le_refl _, trivial⟩))) rfl rfl rfl rfl rfl⟩
/-- what the least sums are: from the start in STEPS, none greater than a STEP more than a NEIGHBOUR's -/
def WyOK (w h : Int) (n st : Nat) (H T : Nat → Int) : Prop := T st = 0 ∧ (∀ v, v < n → 0 ≤ T v ∧ T v ≤ 259328 ∧ (v = st ∨ ∃ u d, u < n ∧ d < 8 ∧ 0 ≤ nbi w h u d ∧ (nbi w h u d).toNat = v ∧ T v = T u + wg H u d v)) ∧ (∀ u, u < n → ∀ d, d < 8 → 0 ≤ nbi w h u d → T (nbi w h u d).toNat ≤ T u + wg H u d (nbi w h u d).toNat)
set_option maxHeartbeats 1000000 in
theorem c_spreadFrom {st : Nat} (hst : st < n) (hV : V 2 = iI n) (hw : 2 ≤ w ∧ w ≤ 16) (hh : 2 ≤ h ∧ h ≤ 16) (hnw : (n : Int) = w * h) (hN : nbOK w h (A 2) n) (hH : Hts (A 0) n H) : ∃ (A1 : Nat → Nat → Int32) (V1 : Nat → Int32) (T : Nat → Int), WyOK w h n st H T ∧ (∀ j, j < n → A1 18 j = iI (T j)) ∧ (∀ k, k ≠ 18 → k ≠ 19 → A1 k = A k) ∧ (∀ k, k ≠ 9 → V1 k = V k) ∧ mj_Ct m_Ways_spreadFrom [.ref (mj_NE + 27), .int (iI st)] (Wd xs L A V Y) none (Wd xs L A1 V1 Y) 0 0 4 := by
  have wh := wh_bd hw hh
  have hcs : (iI st).toNatClampNeg = st := cl_nat (by omega)
  have r0 := r_tr (r_to (RC := 0) (RS := 0) (dd := 4) (g := (0, [.ref (mj_NE + 27), .int (iI st), mj_u, mj_u], [], Wd xs L A V Y, 0, 0)) (g' := (6, [.ref (mj_NE + 27), .int (iI st), mj_u, mj_u], [.int (iI 1000000), .ref (mj_NE + 28)], Wd xs L A V Y, 0, 0)) ok_Ways_spreadFrom 9999 [] rfl trivial) (q_S ok_Ways_spreadFrom ok_Arr_fill st_Arr_fill (c_fill_18) rfl rfl rfl rfl ⟨rfl, rfl, rfl⟩)
  have r1 := r_tr (r_tr r0 (r_to (g' := (13, [.ref (mj_NE + 27), .int (iI st), mj_u, mj_u], [.ref (mj_NE + 29)], Wd xs L (wA A 18 (fl (A 18) (iI 1000000) 256)) V Y, 0, 0)) ok_Ways_spreadFrom 9999 [] rfl trivial)) (q_V ok_Ways_spreadFrom ok_Frontier_clear se_Frontier_clear (c_clearW) rfl rfl rfl rfl rfl ⟨rfl, rfl, rfl⟩)
  have r2 : mj_Rc m_Ways_spreadFrom 0 0 4 (16, [.ref (mj_NE + 27), .int (iI st), mj_u, mj_u], [], Wd xs L (wA A 18 (fl (A 18) (iI 1000000) 256)) (wV V 9 (iI 0)) Y, 0, 0) (28, [.ref (mj_NE + 27), .int (iI st), mj_u, mj_u], [.int (iI st), .ref (mj_NE + 29)], Wd xs L (wA (wA A 18 (fl (A 18) (iI 1000000) 256)) 18 (upd ((wA A 18 (fl (A 18) (iI 1000000) 256)) 18) (iI st).toNatClampNeg (iI 0))) (wV V 9 (iI 0)) Y, 0, 0) := r_to ok_Ways_spreadFrom 9999 [] rfl ⟨in_nat (by omega) (by omega), trivial⟩
  rw [hcs, wA_s, wA_f] at r2
  have r3 := r_tr (r_tr r1 r2) (q_V ok_Ways_spreadFrom ok_Frontier_add se_Frontier_add (c_addW (s := 0) (i := st) wV_s (by omega)) rfl rfl rfl rfl rfl ⟨rfl, rfl, rfl⟩)
  have r4 := r_tr r3 (r_to (g' := (33, [.ref (mj_NE + 27), .int (iI st), .int (iI 0), mj_u], [], Wd xs L (wA (wA A 18 (upd (fl (A 18) (iI 1000000) 256) st (iI 0))) 19 (upd ((wA A 18 (upd (fl (A 18) (iI 1000000) 256) st (iI 0))) 19) 0 (iI st))) (wV (wV V 9 (iI 0)) 9 (iI (((0 : Nat) : Int) + 1))) Y, 0, 0)) ok_Ways_spreadFrom 33 [] rfl trivial)
  have lp2 : ∀ t : Nat, t ≤ n → ∃ (A1 : Nat → Nat → Int32) (V1 : Nat → Int32) (T1 : Nat → Int) (vs1 dn : Nat → Bool) (s1 : Nat) (m1 : Nat → Nat) (K : Int) (u2 : Value), (Fro n vs1 dn s1 m1 ∧ DjI w h n st H T1 vs1 dn ∧ (∀ j, j < s1 → K ≤ T1 (m1 j)) ∧ (∀ v, v < n → dn v = true → T1 v ≤ K) ∧ StW A V n A1 V1 T1 s1 m1 ∧ (∀ u, u < n → dn u = true → ∀ d, d < 8 → 0 ≤ nbi w h u d → vs1 (nbi w h u d).toNat = true ∧ T1 (nbi w h u d).toNat ≤ T1 u + wg H u d (nbi w h u d).toNat)) ∧ (cnt dn n = t ∨ s1 = 0) ∧ mj_Rc m_Ways_spreadFrom 0 0 4 (0, [.ref (mj_NE + 27), .int (iI st), mj_u, mj_u], [], Wd xs L A V Y, 0, 0) (33, [.ref (mj_NE + 27), .int (iI st), .int (iI t), u2], [], Wd xs L A1 V1 Y, 0, 0) := by
    intro t
    induction t with
    | zero =>
      intro _
      refine ⟨_, _, supI (fun _ => 1000000) st 0, sup (fun _ => false) st, fun _ => false, 0 + 1, supI (fun _ => 0) 0 st, 0, _, ⟨Fro_add Fro_0 hst rfl, ⟨fun v hv hvv => ?_, fun v hv hvv => ?_, sup_eq, supI_eq⟩, fun j hj => ?_, fun v hv hd => Bool.noConfusion hd, ⟨fun j hj => ?_, fun j hj => ?_, ?_, fun k k1 k2 => ?_, fun k k1 => ?_⟩, fun u hu hd => Bool.noConfusion hd⟩, Or.inl (cnt_0 n (fun _ _ => rfl)), r4⟩
      · have cb := cnt_bd (fun _ => false) n
        by_cases e : v = st
        · subst e; rw [supI_eq]; exact ⟨Int.le_refl _, by omega, Or.inl rfl⟩
        · rw [sup_ne e] at hvv; exact Bool.noConfusion hvv
      · by_cases e : v = st
        · subst e; rw [sup_eq] at hvv; exact Bool.noConfusion hvv
        · rw [supI_ne e]
      · rw [show j = 0 by omega, supI_eq, supI_eq]; exact Int.le_refl _
      · rw [wA_n (by omega), wA_s]
        by_cases e : j = st
        · subst e; rw [upd_eq, supI_eq]
        · rw [upd_ne e, supI_ne e]
          show fl (A 18) (iI 1000000) 256 j = _
          unfold fl
          rw [if_pos (by omega)]
      · rw [show j = 0 by omega, wA_s, upd_eq, supI_eq]
      · rw [wV_s]; rfl
      · rw [wA_n k2, wA_n k1]
      · rw [wV_n k1, wV_n k1]
    | succ t ih =>
      intro ht
      obtain ⟨A1, V1, T1, vs1, dn, s1, m1, K, u2, ⟨hF, hL, hfr, hle, ⟨g1, g2, g3, g4, g5⟩, hdn⟩, hcn, hr⟩ := ih (by omega)
      have hV1 : V1 2 = iI n := by rw [g5 2 (by omega)]; exact hV
      have hsn := Fro_s hF
      have cb := cnt_bd dn n
      have t1 := r_tr hr (r_to (g' := (52, [.ref (mj_NE + 27), .int (iI st), .int (iI t), u2], [.ref (mj_NE + 28), .ref (mj_NE + 29)], Wd xs L A1 V1 Y, 0, 0)) ok_Ways_spreadFrom 9999 [false] rfl ⟨br_ge hV1 ⟨by omega, by omega⟩ ⟨by omega, by omega⟩ (by omega), trivial⟩)
      by_cases hs0 : s1 = 0
      · subst hs0
        have t2 := r_tr t1 (q_V ok_Ways_spreadFrom ok_Frontier_takeLeast se_Frontier_takeLeast (c_take0W g3) rfl rfl rfl rfl rfl ⟨rfl, rfl, rfl⟩)
        have t3 := r_tr t2 (r_to (g' := (33, [.ref (mj_NE + 27), .int (iI st), .int (iI t + 1), .int (iI (-1))], [], Wd xs L A1 V1 Y, 0, 0)) ok_Ways_spreadFrom 33 [true] rfl ⟨by show iI (-1) < iI 0; rw [iI_lt ⟨by omega, by omega⟩ ⟨by omega, by omega⟩]; omega, trivial⟩)
        rw [iI_1] at t3
        exact ⟨A1, V1, T1, vs1, dn, 0, m1, K, _, ⟨hF, hL, hfr, hle, ⟨g1, g2, g3, g4, g5⟩, hdn⟩, Or.inr rfl, t3⟩
      · obtain ⟨p, hp, hmin, hct⟩ := c_takeW (xs := xs) (L := L) (A := A1) (V := V1) (Y := Y) (s := s1) (mm := m1) (K := T1) g3 ⟨by omega, by omega⟩ (fun j hj => by
          obtain ⟨a1, a2, a3⟩ := hF.1 j hj
          obtain ⟨l1, l2, l3⟩ := hL.1 (m1 j) a1 a2
          exact ⟨g2 j hj, by omega, g1 _ a1, by omega, by omega⟩)
        have t2 := r_tr t1 (q_V ok_Ways_spreadFrom ok_Frontier_takeLeast se_Frontier_takeLeast (hct) rfl rfl rfl rfl rfl ⟨rfl, rfl, rfl⟩)
        obtain ⟨p1, p2, p3⟩ := hF.1 p hp
        obtain ⟨l1, l2, l3⟩ := hL.1 (m1 p) p1 p2
        have hKp := hfr p hp
        have cup := cnt_up (p := dn) (q := sup dn (m1 p)) n p1 p3 sup_eq (fun j _ hj => sup_ne hj)
        have t3 := r_tr t2 (r_to (g' := (62, [.ref (mj_NE + 27), .int (iI st), .int (iI t), .int (iI (m1 p))], [.int (iI (m1 p)), .ref (mj_NE + 27)], Wd xs L (wA A1 19 (upd (A1 19) p (iI (m1 (s1 - 1))))) (wV V1 9 (iI ((s1 : Int) - 1))) Y, 0, 0)) ok_Ways_spreadFrom 9999 [false] rfl ⟨by show ¬ (iI (m1 p) < iI 0); rw [iI_lt ⟨by omega, by omega⟩ ⟨by omega, by omega⟩]; omega, trivial⟩)
        obtain ⟨A2, V2, T2, vs2, s2, m2, ⟨hF2, hL2, hfr2, hS2, hx1, hx2, hx3⟩, hd2, hct2⟩ := c_spreadW (xs := xs) (L := L) (Y := Y) (A0 := A) (V0 := V) (st := st) hw hh hnw hN hH p1 sup_eq ⟨l1, by omega⟩ (fun v hv hd => by
            by_cases e : v = m1 p
            · subst e; exact Int.le_refl _
            · rw [sup_ne e] at hd
              have := hle v hv hd
              omega) (Fro_take hF hp) (⟨fun v hv hvv => by
            obtain ⟨q1, q2, q3⟩ := hL.1 v hv hvv
            refine ⟨q1, by omega, ?_⟩
            rcases q3 with q3 | ⟨u', d', a4, a5, a6, a7⟩
            · exact Or.inl q3
            · exact Or.inr ⟨u', d', a4, a5, sup_mo a6, a7⟩, hL.2⟩) (fun j hj => by
            by_cases e : j = p
            · subst e; rw [supI_eq]; exact hmin _ (by omega)
            · rw [supI_ne e]; exact hmin _ (by omega)) (StW_take (p := p) ⟨g1, g2, g3, g4, g5⟩ (by omega))
        have t4 := r_tr t3 (q_V ok_Ways_spreadFrom ok_Ways_spread se_Ways_spread (hct2) rfl rfl rfl rfl rfl ⟨rfl, rfl, rfl⟩)
        have t5 := r_tr t4 (r_to (g' := (33, [.ref (mj_NE + 27), .int (iI st), .int (iI t + 1), .int (iI (m1 p))], [], Wd xs L A2 V2 Y, 0, 0)) ok_Ways_spreadFrom 33 [] rfl trivial)
        rw [iI_1] at t5
        refine ⟨A2, V2, T2, vs2, sup dn (m1 p), s2, m2, T1 (m1 p), _, ⟨hF2, hL2, hfr2, fun v hv hd => ?_, hS2, fun u hu hd d hd8 hp0 => ?_⟩, ?_, t5⟩
        · rw [hx1 v hv hd]
          by_cases e : v = m1 p
          · subst e; exact Int.le_refl _
          · rw [sup_ne e] at hd
            have := hle v hv hd
            omega
        · have bd := nbi_bd hw hh u d
          rw [hx1 u hu hd]
          by_cases e : u = m1 p
          · subst e
            exact hd2 d hd8 hp0
          · rw [sup_ne e] at hd
            obtain ⟨q1, q2⟩ := hdn u hu hd d hd8 hp0
            have := hx3 _ (show (nbi w h u d).toNat < n by omega)
            exact ⟨hx2 _ (by omega) q1, by omega⟩
        · left
          rw [cup]
          rcases hcn with q | q
          · omega
          · omega
  obtain ⟨A1, V1, T1, vs1, dn, s1, m1, K, u2, ⟨hF, hL, hfr, hle, ⟨g1, g2, g3, g4, g5⟩, hdn⟩, hcn, hr⟩ := lp2 n (Nat.le_refl _)
  have hV1 : V1 2 = iI n := by rw [g5 2 (by omega)]; exact hV
  have cb := cnt_bd dn n
  have hall : ∀ v, v < n → dn v = true := by
    rcases hcn with q | q
    · exact cnt_all q
    · subst q
      have vd : ∀ v, v < n → vs1 v = true → dn v = true := fun v hv hvv => by
        rcases hF.2.2.1 v hv hvv with q | ⟨j, hj, _⟩
        · exact q
        · omega
      refine all_nb8 (P := fun v => dn v = true) hw hh hnw hst (vd st hst hL.2.2.1) (fun u d hu hd h2 hp hdu => ?_)
      have bd := nbi_bd hw hh u d
      exact vd _ (by omega) (hdn u hu hdu d hd hp).1
  refine ⟨A1, V1, T1, ⟨hL.2.2.2, fun j hj => ?_, fun u hu d hd hp => (hdn u hu (hall u hu) d hd hp).2⟩, g1, g4, g5, ct_of ok_Ways_spreadFrom rfl (r_tr hr (r_to ok_Ways_spreadFrom 9999 [true] rfl ⟨br_lt hV1 ⟨by omega, by omega⟩ ⟨by omega, by omega⟩ (by omega), trivial⟩)) rfl rfl rfl rfl rfl⟩
  obtain ⟨q1, q2, q3⟩ := hL.1 j hj (hF.2.2.2.1 j hj (hall j hj))
  refine ⟨q1, by omega, ?_⟩
  rcases q3 with q3 | ⟨u', d', a4, a5, a6, a7⟩
  · exact Or.inl q3
  · exact Or.inr ⟨u', d', a4, a5, a7⟩
end WAY
