/-! Hollows: the LEVELS -/
/-- the numbers that come from the EDGE inwards -/
def lvR (w h : Int) (H : Nat → Int) (n v : Nat) (a : Int) : Prop := ∀ P : Nat → Int → Prop, (∀ j, j < n → edgeB w h j = true → P j (H j)) → (∀ (u d : Nat) (b : Int), u < n → d < 8 → d % 2 = 0 → 0 ≤ nbi w h u d → P u b → P (nbi w h u d).toNat (max b (H (nbi w h u d).toNat))) → P v a
theorem lvR_e {w h : Int} {H : Nat → Int} {n j : Nat} (hj : j < n) (he : edgeB w h j = true) : lvR w h H n j (H j) := fun _ h1 _ => h1 j hj he
theorem lvR_s {w h : Int} {H : Nat → Int} {n u d : Nat} {b : Int} (hu : u < n) (hd : d < 8) (h2 : d % 2 = 0) (hn : 0 ≤ nbi w h u d) (hp : lvR w h H n u b) : lvR w h H n (nbi w h u d).toNat (max b (H (nbi w h u d).toNat)) := fun P h1 h3 => h3 u d b hu hd h2 hn (hp P h1 h3)
/-- the numbers of the visited FIELDS, where K is the greatest of those that are done -/
def LvI (w h : Int) (n : Nat) (H lev : Nat → Int) (vs : Nat → Bool) (K : Int) : Prop := (∀ v, v < n → vs v = true → H v ≤ lev v ∧ lev v ≤ 999 ∧ lev v ≤ max K (H v) ∧ lvR w h H n v (lev v)) ∧ (∀ v, v < n → vs v = false → lev v = -1)
/-- what lies in the cells -/
def StH (A0 : Nat → Nat → Int32) (V0 : Nat → Int32) (n : Nat) (A : Nat → Nat → Int32) (V : Nat → Int32) (lev : Nat → Int) (s : Nat) (m : Nat → Nat) : Prop := (∀ j, j < n → A 13 j = iI (lev j)) ∧ (∀ j, j < s → A 14 j = iI (m j)) ∧ V 5 = iI s ∧ (∀ k, k ≠ 13 → k ≠ 14 → A k = A0 k) ∧ (∀ k, k ≠ 5 → V k = V0 k)
theorem wA_n {A : Nat → Nat → Int32} {k l : Nat} {f : Nat → Int32} (h : l ≠ k) : (wA A k f) l = A l := by simp [va_up, h]
theorem wV_s {V : Nat → Int32} {k : Nat} {x : Int32} : (wV V k x) k = x := by simp [va_up]
theorem wV_n {V : Nat → Int32} {k l : Nat} {x : Int32} (h : l ≠ k) : (wV V k x) l = V l := by simp [va_up, h]
theorem StH_add {A0 : Nat → Nat → Int32} {V0 : Nat → Int32} {n : Nat} {A : Nat → Nat → Int32} {V : Nat → Int32} {lev : Nat → Int} {s : Nat} {m : Nat → Nat} {v : Nat} {z : Int} (h : StH A0 V0 n A V lev s m) : StH A0 V0 n (wA (wA A 13 (upd (A 13) v (iI z))) 14 (upd ((wA A 13 (upd (A 13) v (iI z))) 14) s (iI v))) (wV V 5 (iI ((s : Int) + 1))) (supI lev v z) (s + 1) (supI m s v) := by
  obtain ⟨h1, h2, h3, h4, h5⟩ := h
  refine ⟨fun j hj => ?_, fun j hj => ?_, wV_s, fun k k1 k2 => ?_, fun k k1 => ?_⟩
  · rw [wA_n (by omega), wA_s]
    by_cases e : j = v
    · subst e; rw [upd_eq, supI_eq]
    · rw [upd_ne e, supI_ne e, h1 j hj]
  · rw [wA_s]
    by_cases e : j = s
    · subst e; rw [upd_eq, supI_eq]
    · rw [upd_ne e, supI_ne e, wA_n (by omega), h2 j (by omega)]
  · rw [wA_n k2, wA_n k1, h4 k k1 k2]
  · rw [wV_n k1, h5 k k1]
theorem StH_take {A0 : Nat → Nat → Int32} {V0 : Nat → Int32} {n : Nat} {A : Nat → Nat → Int32} {V : Nat → Int32} {lev : Nat → Int} {s : Nat} {m : Nat → Nat} {p : Nat} (h : StH A0 V0 n A V lev s m) (hs : 0 < s) : StH A0 V0 n (wA A 14 (upd (A 14) p (iI (m (s - 1))))) (wV V 5 (iI ((s : Int) - 1))) lev (s - 1) (supI m p (m (s - 1))) := by
  obtain ⟨h1, h2, h3, h4, h5⟩ := h
  refine ⟨fun j hj => ?_, fun j hj => ?_, ?_, fun k k1 k2 => ?_, fun k k1 => ?_⟩
  · rw [wA_n (by omega), h1 j hj]
  · rw [wA_s]
    by_cases e : j = p
    · subst e; rw [upd_eq, supI_eq]
    · rw [upd_ne e, supI_ne e, h2 j (by omega)]
  · rw [wV_s, show (s : Int) - 1 = ((s - 1 : Nat) : Int) by omega]
  · rw [wA_n k2, h4 k k1 k2]
  · rw [wV_n k1, h5 k k1]
section LEV
variable {xs : Nat → Int32} {L : Nat} {A : Nat → Nat → Int32} {V : Nat → Int32} {Y : mj_H}
variable {w h : Int} {n : Nat} {H : Nat → Int}
set_option maxHeartbeats 1000000 in
theorem c_spread {A0 : Nat → Nat → Int32} {V0 : Nat → Int32} {u s : Nat} {lev : Nat → Int} {vs dn : Nat → Bool} {mm : Nat → Nat} (hw : 2 ≤ w ∧ w ≤ 16) (hh : 2 ≤ h ∧ h ≤ 16) (hnw : (n : Int) = w * h) (hN : nbOK w h (A0 2) n) (hH : Hts (A0 0) n H) (hu : u < n) (hvu : vs u = true) (hF : Fro n vs dn s mm) (hL : LvI w h n H lev vs (lev u)) (hfr : ∀ j, j < s → lev u ≤ lev (mm j)) (hS : StH A0 V0 n A V lev s mm) : ∃ (A1 : Nat → Nat → Int32) (V1 : Nat → Int32) (lev1 : Nat → Int) (vs1 : Nat → Bool) (s1 : Nat) (m1 : Nat → Nat), Fro n vs1 dn s1 m1 ∧ LvI w h n H lev1 vs1 (lev u) ∧ (∀ j, j < s1 → lev u ≤ lev1 (m1 j)) ∧ StH A0 V0 n A1 V1 lev1 s1 m1 ∧ (∀ v, v < n → vs v = true → vs1 v = true ∧ lev1 v = lev v) ∧ (∀ d, d < 8 → d % 2 = 0 → 0 ≤ nbi w h u d → vs1 (nbi w h u d).toNat = true) ∧ mj_Ct m_Hollows_spread [.ref (mj_NE + 16), .int (iI u)] (Wd xs L A V Y) none (Wd xs L A1 V1 Y) 0 0 2 := by
  have wh := wh_bd hw hh
  have lp : ∀ i : Nat, i ≤ 4 → ∃ (A1 : Nat → Nat → Int32) (V1 : Nat → Int32) (lev1 : Nat → Int) (vs1 : Nat → Bool) (s1 : Nat) (m1 : Nat → Nat) (u3 : Value), Fro n vs1 dn s1 m1 ∧ LvI w h n H lev1 vs1 (lev u) ∧ (∀ j, j < s1 → lev u ≤ lev1 (m1 j)) ∧ StH A0 V0 n A1 V1 lev1 s1 m1 ∧ (∀ v, v < n → vs v = true → vs1 v = true ∧ lev1 v = lev v) ∧ (∀ d, d < 2 * i → d % 2 = 0 → 0 ≤ nbi w h u d → vs1 (nbi w h u d).toNat = true) ∧ mj_Rc m_Hollows_spread 0 0 2 (2, [.ref (mj_NE + 16), .int (iI u), .int 0, mj_u], [], Wd xs L A V Y, 0, 0) (2, [.ref (mj_NE + 16), .int (iI u), .int (iI ((2 * i : Nat) : Int)), u3], [], Wd xs L A1 V1 Y, 0, 0) := by
    intro i
    induction i with
    | zero => intro _; exact ⟨A, V, lev, vs, s, mm, _, hF, hL, hfr, hS, fun v hv q => ⟨q, rfl⟩, fun d hd => absurd hd (by omega), r_rf⟩
    | succ i ih =>
      intro hi
      obtain ⟨A1, V1, lev1, vs1, s1, m1, u3, hF, hL, hfr, hS, hx, hd1, hr⟩ := ih (by omega)
      obtain ⟨g1, g2, g3, g4, g5⟩ := hS
      have bd := nbi_bd hw hh u (2 * i)
      have t1 := r_tr hr (r_to (g' := (14, [.ref (mj_NE + 16), .int (iI u), .int (iI ((2 * i : Nat) : Int)), u3], [.int (iI ((2 * i : Nat) : Int)), .int (iI u), .ref (mj_NE + 1)], Wd xs L A1 V1 Y, 0, 0)) ok_Hollows_spread 9999 [false] rfl ⟨by
        show ¬ (iI 8 ≤ iI ((2 * i : Nat) : Int))
        rw [iI_le ⟨by omega, by omega⟩ ⟨by omega, by omega⟩]
        omega, trivial⟩)
      have t2 := r_tr t1 (q_V ok_Hollows_spread ok_Land_neighbour se_Land_neighbour (c_nbr (d := 2 * i) (by rw [g4 2 (by omega) (by omega)]; exact hN) hu (by omega) (by omega)) rfl rfl rfl rfl rfl ⟨rfl, rfl, rfl⟩)
      have nx : iI ((2 * i : Nat) : Int) + iI 2 = iI ((2 * (i + 1) : Nat) : Int) := by rw [iI_add]; congr 1
      by_cases hneg : nbi w h u (2 * i) < 0
      · have t3 := r_tr t2 (r_to (g' := (2, [.ref (mj_NE + 16), .int (iI u), .int (iI ((2 * i : Nat) : Int) + iI 2), .int (iI (nbi w h u (2 * i)))], [], Wd xs L A1 V1 Y, 0, 0)) ok_Hollows_spread 2 [true] rfl ⟨by
          show iI (nbi w h u (2 * i)) < iI 0
          rw [iI_lt ⟨by omega, by omega⟩ ⟨by omega, by omega⟩]
          exact hneg, trivial⟩)
        rw [nx] at t3
        refine ⟨A1, V1, lev1, vs1, s1, m1, _, hF, hL, hfr, ⟨g1, g2, g3, g4, g5⟩, hx, fun d hd h2 hp => ?_, t3⟩
        by_cases e : d = 2 * i
        · subst e; omega
        · exact hd1 d (by omega) h2 hp
      · obtain ⟨j, hj⟩ : ∃ j : Nat, (j : Int) = nbi w h u (2 * i) := ⟨(nbi w h u (2 * i)).toNat, by omega⟩
        have hj2 : (nbi w h u (2 * i)).toNat = j := by omega
        have hjn : j < n := by omega
        have hc : (iI j).toNatClampNeg = j := cl_nat (by omega)
        have hcu : (iI u).toNatClampNeg = u := cl_nat (by omega)
        have hin : vp_in (iI j) 256 := in_nat (by omega) (by omega)
        have hinu : vp_in (iI u) 256 := in_nat (by omega) (by omega)
        rw [← hj] at t2
        have nn : ¬ (iI j < iI 0) := by rw [iI_lt ⟨by omega, by omega⟩ ⟨by omega, by omega⟩]; omega
        obtain ⟨e0, b1, b2⟩ := hH j hjn
        obtain ⟨eu, bu1, bu2⟩ := hH u hu
        have hlu := hx u hu hvu
        obtain ⟨l1, l2, l3, l4⟩ := hL.1 u hu hlu.1
        rw [hlu.2] at l1 l2 l3 l4
        cases hv : vs1 j with
        | true =>
          obtain ⟨j1, j2, j3, j4⟩ := hL.1 j hjn hv
          have t3 := r_tr t2 (r_to (g' := (2, [.ref (mj_NE + 16), .int (iI u), .int (iI ((2 * i : Nat) : Int) + iI 2), .int (iI j)], [], Wd xs L A1 V1 Y, 0, 0)) ok_Hollows_spread 2 [false, true] rfl ⟨nn, hin, by
            show ¬ (A1 13 (iI j).toNatClampNeg = -1)
            rw [hc, g1 j hjn, iI_neg1, iI_eq ⟨by omega, by omega⟩ ⟨by omega, by omega⟩]
            omega, trivial⟩)
          rw [nx] at t3
          refine ⟨A1, V1, lev1, vs1, s1, m1, _, hF, hL, hfr, ⟨g1, g2, g3, g4, g5⟩, hx, fun d hd h2 hp => ?_, t3⟩
          by_cases e : d = 2 * i
          · subst e; rw [hj2]; exact hv
          · exact hd1 d (by omega) h2 hp
        | false =>
          have hlj := hL.2 j hjn hv
          have hsl := Fro_lt hF hjn hv
          have t3 := r_tr t2 (r_to (g' := (52, [.ref (mj_NE + 16), .int (iI u), .int (iI ((2 * i : Nat) : Int)), .int (iI j)], [.int (A1 0 (iI j).toNatClampNeg), .int (A1 13 (iI u).toNatClampNeg), .int (iI j), .ref (mj_NE + 17)], Wd xs L A1 V1 Y, 0, 0)) ok_Hollows_spread 9999 [false, false] rfl ⟨nn, hin, by
            show ¬ (¬ (A1 13 (iI j).toNatClampNeg = -1))
            rw [hc, g1 j hjn, iI_neg1, hlj]
            exact fun q => q rfl, hinu, hin, trivial⟩)
          rw [hc, hcu, g1 u hu, g4 0 (by omega) (by omega), e0, hlu.2] at t3
          have t4 := r_tr t3 (q_S ok_Hollows_spread ok_Math_max st_Math_max (c_max (a := lev u) (b := H j) ⟨by omega, by omega⟩ ⟨by omega, by omega⟩) rfl rfl rfl rfl ⟨rfl, rfl, rfl⟩)
          have t5 : mj_Rc m_Hollows_spread 0 0 2 (55, [.ref (mj_NE + 16), .int (iI u), .int (iI ((2 * i : Nat) : Int)), .int (iI j)], [.int (iI (max (lev u) (H j))), .int (iI j), .ref (mj_NE + 17)], Wd xs L A1 V1 Y, 0, 0) (61, [.ref (mj_NE + 16), .int (iI u), .int (iI ((2 * i : Nat) : Int)), .int (iI j)], [.int (iI j), .ref (mj_NE + 18)], Wd xs L (wA A1 13 (upd (A1 13) (iI j).toNatClampNeg (iI (max (lev u) (H j))))) V1 Y, 0, 0) := r_to ok_Hollows_spread 9999 [] rfl ⟨hin, trivial⟩
          rw [hc] at t5
          have t6 := r_tr (r_tr t4 t5) (q_V ok_Hollows_spread ok_Frontier_add se_Frontier_add (c_addH (i := j) g3 (by omega)) rfl rfl rfl rfl rfl ⟨rfl, rfl, rfl⟩)
          have t7 := r_tr t6 (r_to (g' := (2, [.ref (mj_NE + 16), .int (iI u), .int (iI ((2 * i : Nat) : Int) + iI 2), .int (iI j)], [], Wd xs L (wA (wA A1 13 (upd (A1 13) j (iI (max (lev u) (H j))))) 14 (upd ((wA A1 13 (upd (A1 13) j (iI (max (lev u) (H j))))) 14) s1 (iI j))) (wV V1 5 (iI ((s1 : Int) + 1))) Y, 0, 0)) ok_Hollows_spread 2 [] rfl trivial)
          rw [nx] at t7
          refine ⟨_, _, supI lev1 j (max (lev u) (H j)), sup vs1 j, s1 + 1, supI m1 s1 j, _, Fro_add hF hjn hv, ⟨fun v hv2 hvv => ?_, fun v hv2 hvv => ?_⟩, fun k hk => ?_, StH_add ⟨g1, g2, g3, g4, g5⟩, fun v hv2 hvv => ?_, fun d hd h2 hp => ?_, t7⟩
          · by_cases e : v = j
            · subst e
              rw [supI_eq]
              refine ⟨by omega, by omega, by omega, ?_⟩
              have := lvR_s (d := 2 * i) hu (by omega) (by omega) (by omega) l4
              rw [hj2] at this
              exact this
            · rw [sup_ne e] at hvv
              rw [supI_ne e]
              exact hL.1 v hv2 hvv
          · by_cases e : v = j
            · subst e; rw [sup_eq] at hvv; exact Bool.noConfusion hvv
            · rw [sup_ne e] at hvv
              rw [supI_ne e]
              exact hL.2 v hv2 hvv
          · by_cases e : k = s1
            · subst e
              rw [supI_eq, supI_eq]
              omega
            · rw [supI_ne e]
              have hne : m1 k ≠ j := fun q => by
                have := (hF.1 k (by omega)).2.1
                rw [q, hv] at this
                exact Bool.noConfusion this
              rw [supI_ne hne]
              exact hfr k (by omega)
          · have hne : v ≠ j := fun q => by
              have := (hx v hv2 hvv).1
              rw [q, hv] at this
              exact Bool.noConfusion this
            rw [supI_ne hne, sup_ne hne]
            exact hx v hv2 hvv
          · by_cases e : d = 2 * i
            · subst e; rw [hj2]; exact sup_eq
            · exact sup_mo (hd1 d (by omega) h2 hp)
  obtain ⟨A1, V1, lev1, vs1, s1, m1, u3, hF, hL, hfr, hS, hx, hd1, hr⟩ := lp 4 (Nat.le_refl _)
  exact ⟨A1, V1, lev1, vs1, s1, m1, hF, hL, hfr, hS, hx, hd1, ct_of ok_Hollows_spread rfl (r_tr (r_to ok_Hollows_spread 2 [] rfl trivial) (r_tr hr (r_to ok_Hollows_spread 9999 [true] rfl ⟨by show iI 8 ≤ iI 8; exact Int32.le_refl _, trivial⟩))) rfl rfl rfl rfl rfl⟩
/-- what LEVELS are: no lower than HEIGHTS, at the EDGE just that, each no higher than its NEIGHBOURS' and its HEIGHT let it be -/
def LvOK (w h : Int) (n : Nat) (H lev : Nat → Int) : Prop := (∀ j, j < n → H j ≤ lev j ∧ lev j ≤ 999 ∧ lvR w h H n j (lev j)) ∧ (∀ j, j < n → edgeB w h j = true → lev j = H j) ∧ (∀ u, u < n → ∀ d, d < 8 → d % 2 = 0 → 0 ≤ nbi w h u d → lev (nbi w h u d).toNat ≤ max (lev u) (H (nbi w h u d).toNat))
set_option maxHeartbeats 1000000 in
theorem c_findLevels (hV : V 2 = iI n) (hw : 2 ≤ w ∧ w ≤ 16) (hh : 2 ≤ h ∧ h ≤ 16) (hnw : (n : Int) = w * h) (hN : nbOK w h (A 2) n) (hH : Hts (A 0) n H) : ∃ (A1 : Nat → Nat → Int32) (V1 : Nat → Int32) (lev : Nat → Int), LvOK w h n H lev ∧ (∀ j, j < n → A1 13 j = iI (lev j)) ∧ (∀ k, k ≠ 13 → k ≠ 14 → A1 k = A k) ∧ (∀ k, k ≠ 5 → V1 k = V k) ∧ mj_Ct m_Hollows_findLevels [.ref (mj_NE + 16)] (Wd xs L A V Y) none (Wd xs L A1 V1 Y) 0 0 3 := by
  have wh := wh_bd hw hh
  have r0 := r_tr (r_to (RC := 0) (RS := 0) (dd := 3) (g := (0, [.ref (mj_NE + 16), mj_u, mj_u], [], Wd xs L A V Y, 0, 0)) (g' := (4, [.ref (mj_NE + 16), mj_u, mj_u], [.ref (mj_NE + 18)], Wd xs L A V Y, 0, 0)) ok_Hollows_findLevels 9999 [] rfl trivial) (q_V ok_Hollows_findLevels ok_Frontier_clear se_Frontier_clear (c_clearH) rfl rfl rfl rfl rfl ⟨rfl, rfl, rfl⟩)
  have r1 := r_tr r0 (r_to (g' := (9, [.ref (mj_NE + 16), .int (iI 0), mj_u], [], Wd xs L A (wV V 5 (iI 0)) Y, 0, 0)) ok_Hollows_findLevels 9 [] rfl trivial)
  have lp1 : ∀ k : Nat, k ≤ n → ∃ (A1 : Nat → Nat → Int32) (V1 : Nat → Int32) (s1 : Nat) (m1 : Nat → Nat), Fro n (fun j => decide (j < k) && edgeB w h j) (fun _ => false) s1 m1 ∧ (∀ j, j < k → A1 13 j = iI (if edgeB w h j = true then H j else -1)) ∧ (∀ j, j < s1 → A1 14 j = iI (m1 j)) ∧ V1 5 = iI s1 ∧ (∀ k, k ≠ 13 → k ≠ 14 → A1 k = A k) ∧ (∀ k, k ≠ 5 → V1 k = V k) ∧ mj_Rc m_Hollows_findLevels 0 0 3 (0, [.ref (mj_NE + 16), mj_u, mj_u], [], Wd xs L A V Y, 0, 0) (9, [.ref (mj_NE + 16), .int (iI k), mj_u], [], Wd xs L A1 V1 Y, 0, 0) := by
    intro k
    induction k with
    | zero =>
      intro _
      refine ⟨A, wV V 5 (iI 0), 0, fun _ => 0, ?_, fun j hj => absurd hj (by omega), fun j hj => absurd hj (by omega), wV_s, fun _ _ _ => rfl, fun k hk => wV_n hk, r1⟩
      have e : (fun j => decide (j < 0) && edgeB w h j) = fun _ => false := by funext j; simp
      rw [e]
      exact Fro_0
    | succ k ih =>
      intro hk
      obtain ⟨A1, V1, s1, m1, hF, f1, f2, f3, f4, f5, hr⟩ := ih (by omega)
      have hc : (iI k).toNatClampNeg = k := cl_nat (by omega)
      have hin : vp_in (iI k) 256 := in_nat (by omega) (by omega)
      obtain ⟨e0, b1, b2⟩ := hH k (by omega)
      have hV1 : V1 2 = iI n := by rw [f5 2 (by omega)]; exact hV
      have t1 : mj_Rc m_Hollows_findLevels 0 0 3 (9, [.ref (mj_NE + 16), .int (iI k), mj_u], [], Wd xs L A1 V1 Y, 0, 0) (32, [.ref (mj_NE + 16), .int (iI k), mj_u], [.int (iI k), .ref (mj_NE + 1)], Wd xs L (wA A1 13 (upd (A1 13) (iI k).toNatClampNeg (iI (-1)))) V1 Y, 0, 0) := r_to ok_Hollows_findLevels 9999 [false] rfl ⟨br_ge hV1 ⟨by omega, by omega⟩ ⟨by omega, by omega⟩ (by omega), hin, trivial⟩
      rw [hc] at t1
      have t2 := r_tr (r_tr hr t1) (q_V ok_Hollows_findLevels ok_Land_atEdge se_Land_atEdge (c_atEdge hw hh (by rw [wA_n (by omega), f4 2 (by omega) (by omega)]; exact hN) (by omega) (by omega)) rfl rfl rfl rfl rfl ⟨rfl, rfl, rfl⟩)
      have vk : (fun j => decide (j < k) && edgeB w h j) k = false := by simp
      cases hE : edgeB w h k with
      | false =>
        rw [hE] at t2
        have t3 := r_tr t2 (r_to (g' := (9, [.ref (mj_NE + 16), .int (iI k + 1), mj_u], [], Wd xs L (wA A1 13 (upd (A1 13) k (iI (-1)))) V1 Y, 0, 0)) ok_Hollows_findLevels 9 [true] rfl ⟨by show ((0 : Int32) = 0); rfl, trivial⟩)
        rw [iI_1] at t3
        refine ⟨_, V1, s1, m1, ?_, fun j hj => ?_, fun j hj => ?_, f3, fun l l1 l2 => ?_, f5, t3⟩
        · have e : (fun j => decide (j < k + 1) && edgeB w h j) = fun j => decide (j < k) && edgeB w h j := by
            funext j
            by_cases e : j = k
            · subst e; simp [hE]
            · have : decide (j < k + 1) = decide (j < k) := by rw [decide_eq_decide]; omega
              rw [this]
          rw [e]
          exact hF
        · rw [wA_s]
          by_cases e : j = k
          · subst e; rw [upd_eq, if_neg (by rw [hE]; decide)]
          · rw [upd_ne e]; exact f1 j (by omega)
        · rw [wA_n (by omega)]; exact f2 j hj
        · rw [wA_n l1]; exact f4 l l1 l2
      | true =>
        rw [hE] at t2
        have hsl := Fro_lt hF (show k < n by omega) vk
        have t3 : mj_Rc m_Hollows_findLevels 0 0 3 (35, [.ref (mj_NE + 16), .int (iI k), mj_u], [.int (bI true)], Wd xs L (wA A1 13 (upd (A1 13) k (iI (-1)))) V1 Y, 0, 0) (58, [.ref (mj_NE + 16), .int (iI k), mj_u], [.int (iI k), .ref (mj_NE + 18)], Wd xs L (wA (wA A1 13 (upd (A1 13) k (iI (-1)))) 13 (upd ((wA A1 13 (upd (A1 13) k (iI (-1)))) 13) (iI k).toNatClampNeg (A1 0 (iI k).toNatClampNeg))) V1 Y, 0, 0) := r_to ok_Hollows_findLevels 9999 [false] rfl ⟨by show ¬ ((1 : Int32) = 0); decide, hin, hin, trivial⟩
        rw [hc, wA_s, wA_f, upd_upd, f4 0 (by omega) (by omega), e0] at t3
        have t4 := r_tr (r_tr t2 t3) (q_V ok_Hollows_findLevels ok_Frontier_add se_Frontier_add (c_addH (i := k) f3 (by omega)) rfl rfl rfl rfl rfl ⟨rfl, rfl, rfl⟩)
        have t5 := r_tr t4 (r_to (g' := (9, [.ref (mj_NE + 16), .int (iI k + 1), mj_u], [], Wd xs L (wA (wA A1 13 (upd (A1 13) k (iI (H k)))) 14 (upd ((wA A1 13 (upd (A1 13) k (iI (H k)))) 14) s1 (iI k))) (wV V1 5 (iI ((s1 : Int) + 1))) Y, 0, 0)) ok_Hollows_findLevels 9 [] rfl trivial)
        rw [iI_1] at t5
        refine ⟨_, _, s1 + 1, supI m1 s1 k, ?_, fun j hj => ?_, fun j hj => ?_, wV_s, fun l l1 l2 => ?_, fun l l1 => ?_, t5⟩
        · have e : (fun j => decide (j < k + 1) && edgeB w h j) = sup (fun j => decide (j < k) && edgeB w h j) k := by
            funext j
            by_cases e : j = k
            · subst e; rw [sup_eq]; simp [hE]
            · rw [sup_ne e]
              have : decide (j < k + 1) = decide (j < k) := by rw [decide_eq_decide]; omega
              rw [this]
          rw [e]
          exact Fro_add hF (by omega) vk
        · rw [wA_n (by omega), wA_s]
          by_cases e : j = k
          · subst e; rw [upd_eq, if_pos hE]
          · rw [upd_ne e]; exact f1 j (by omega)
        · rw [wA_s]
          by_cases e : j = s1
          · subst e; rw [upd_eq, supI_eq]
          · rw [upd_ne e, supI_ne e, wA_n (by omega)]; exact f2 j (by omega)
        · rw [wA_n l2, wA_n l1]; exact f4 l l1 l2
        · rw [wV_n l1]; exact f5 l l1
  obtain ⟨A1, V1, s1, m1, hF, f1, f2, f3, f4, f5, hr⟩ := lp1 n (Nat.le_refl _)
  have hV1 : V1 2 = iI n := by rw [f5 2 (by omega)]; exact hV
  have r2 := r_tr hr (r_to (g' := (69, [.ref (mj_NE + 16), .int (iI 0), mj_u], [], Wd xs L A1 V1 Y, 0, 0)) ok_Hollows_findLevels 69 [true] rfl ⟨br_lt hV1 ⟨by omega, by omega⟩ ⟨by omega, by omega⟩ (by omega), trivial⟩)
  have lp2 : ∀ t : Nat, t ≤ n → ∃ (A1 : Nat → Nat → Int32) (V1 : Nat → Int32) (lev1 : Nat → Int) (vs1 dn : Nat → Bool) (s1 : Nat) (m1 : Nat → Nat) (K : Int) (u2 : Value), (Fro n vs1 dn s1 m1 ∧ LvI w h n H lev1 vs1 K ∧ 0 ≤ K ∧ (∀ j, j < s1 → K ≤ lev1 (m1 j)) ∧ StH A V n A1 V1 lev1 s1 m1 ∧ (∀ v, v < n → edgeB w h v = true → vs1 v = true ∧ lev1 v = H v) ∧ (∀ u, u < n → dn u = true → ∀ d, d < 8 → d % 2 = 0 → 0 ≤ nbi w h u d → vs1 (nbi w h u d).toNat = true ∧ lev1 (nbi w h u d).toNat ≤ max (lev1 u) (H (nbi w h u d).toNat))) ∧ (cnt dn n = t ∨ s1 = 0) ∧ mj_Rc m_Hollows_findLevels 0 0 3 (0, [.ref (mj_NE + 16), mj_u, mj_u], [], Wd xs L A V Y, 0, 0) (69, [.ref (mj_NE + 16), .int (iI t), u2], [], Wd xs L A1 V1 Y, 0, 0) := by
    intro t
    induction t with
    | zero =>
      intro _
      refine ⟨A1, V1, fun j => if edgeB w h j = true then H j else -1, fun j => decide (j < n) && edgeB w h j, fun _ => false, s1, m1, 0, _, ⟨hF, ⟨fun v hv hvv => ?_, fun v hv hvv => ?_⟩, Int.le_refl _, fun j hj => ?_, ⟨f1, f2, f3, f4, f5⟩, fun v hv he => ?_, fun u hu hd => Bool.noConfusion hd⟩, Or.inl (cnt_0 n (fun _ _ => rfl)), r2⟩
      · obtain ⟨e0, b1, b2⟩ := hH v hv
        have he : edgeB w h v = true := by simp [hv] at hvv; exact hvv
        show H v ≤ (if edgeB w h v = true then H v else -1) ∧ (if edgeB w h v = true then H v else -1) ≤ 999 ∧ (if edgeB w h v = true then H v else -1) ≤ max 0 (H v) ∧ lvR w h H n v (if edgeB w h v = true then H v else -1)
        rw [if_pos he]
        exact ⟨by omega, by omega, by omega, lvR_e hv he⟩
      · have he : edgeB w h v = false := by simp [hv] at hvv; exact hvv
        show (if edgeB w h v = true then H v else -1) = -1
        rw [if_neg (by rw [he]; decide)]
      · obtain ⟨a1, a2, a3⟩ := hF.1 j hj
        have he : edgeB w h (m1 j) = true := by simp [a1] at a2; exact a2
        obtain ⟨e0, b1, b2⟩ := hH (m1 j) a1
        show 0 ≤ (if edgeB w h (m1 j) = true then H (m1 j) else -1)
        rw [if_pos he]
        exact b1
      · show (decide (v < n) && edgeB w h v) = true ∧ (if edgeB w h v = true then H v else -1) = H v
        rw [if_pos he]
        exact ⟨by simp [hv, he], rfl⟩
    | succ t ih =>
      intro ht
      obtain ⟨A1, V1, lev1, vs1, dn, s1, m1, K, u2, ⟨hF, hL, hK, hfr, ⟨g1, g2, g3, g4, g5⟩, hed, hdn⟩, hcn, hr⟩ := ih (by omega)
      have hV1 : V1 2 = iI n := by rw [g5 2 (by omega)]; exact hV
      have hsn := Fro_s hF
      have t1 := r_tr hr (r_to (g' := (88, [.ref (mj_NE + 16), .int (iI t), u2], [.ref (mj_NE + 17), .ref (mj_NE + 18)], Wd xs L A1 V1 Y, 0, 0)) ok_Hollows_findLevels 9999 [false] rfl ⟨br_ge hV1 ⟨by omega, by omega⟩ ⟨by omega, by omega⟩ (by omega), trivial⟩)
      by_cases hs0 : s1 = 0
      · subst hs0
        have t2 := r_tr t1 (q_V ok_Hollows_findLevels ok_Frontier_takeLeast se_Frontier_takeLeast (c_take0H g3) rfl rfl rfl rfl rfl ⟨rfl, rfl, rfl⟩)
        have t3 := r_tr t2 (r_to (g' := (69, [.ref (mj_NE + 16), .int (iI t + 1), .int (iI (-1))], [], Wd xs L A1 V1 Y, 0, 0)) ok_Hollows_findLevels 69 [true] rfl ⟨by show iI (-1) < iI 0; rw [iI_lt ⟨by omega, by omega⟩ ⟨by omega, by omega⟩]; omega, trivial⟩)
        rw [iI_1] at t3
        exact ⟨A1, V1, lev1, vs1, dn, 0, m1, K, _, ⟨hF, hL, hK, hfr, ⟨g1, g2, g3, g4, g5⟩, hed, hdn⟩, Or.inr rfl, t3⟩
      · obtain ⟨p, hp, hmin, hct⟩ := c_takeH (xs := xs) (L := L) (A := A1) (V := V1) (Y := Y) (s := s1) (mm := m1) (K := lev1) g3 ⟨by omega, by omega⟩ (fun j hj => by
          obtain ⟨a1, a2, a3⟩ := hF.1 j hj
          obtain ⟨l1, l2, l3, l4⟩ := hL.1 (m1 j) a1 a2
          obtain ⟨e0, b1, b2⟩ := hH (m1 j) a1
          exact ⟨g2 j hj, by omega, g1 _ a1, by omega, by omega⟩)
        have t2 := r_tr t1 (q_V ok_Hollows_findLevels ok_Frontier_takeLeast se_Frontier_takeLeast (hct) rfl rfl rfl rfl rfl ⟨rfl, rfl, rfl⟩)
        obtain ⟨p1, p2, p3⟩ := hF.1 p hp
        obtain ⟨l1, l2, l3, l4⟩ := hL.1 (m1 p) p1 p2
        have hKp := hfr p hp
        have t3 := r_tr t2 (r_to (g' := (98, [.ref (mj_NE + 16), .int (iI t), .int (iI (m1 p))], [.int (iI (m1 p)), .ref (mj_NE + 16)], Wd xs L (wA A1 14 (upd (A1 14) p (iI (m1 (s1 - 1))))) (wV V1 5 (iI ((s1 : Int) - 1))) Y, 0, 0)) ok_Hollows_findLevels 9999 [false] rfl ⟨by show ¬ (iI (m1 p) < iI 0); rw [iI_lt ⟨by omega, by omega⟩ ⟨by omega, by omega⟩]; omega, trivial⟩)
        obtain ⟨A2, V2, lev2, vs2, s2, m2, hF2, hL2, hfr2, hS2, hx2, hd2, hct2⟩ := c_spread (xs := xs) (L := L) (Y := Y) (A0 := A) (V0 := V) hw hh hnw hN hH p1 p2 (Fro_take hF hp) (⟨fun v hv hvv => by
            obtain ⟨q1, q2, q3, q4⟩ := hL.1 v hv hvv
            exact ⟨q1, q2, by omega, q4⟩, hL.2⟩) (fun j hj => by
            by_cases e : j = p
            · subst e; rw [supI_eq]; exact hmin _ (by omega)
            · rw [supI_ne e]; exact hmin _ (by omega)) (StH_take (p := p) ⟨g1, g2, g3, g4, g5⟩ (by omega))
        have t4 := r_tr t3 (q_V ok_Hollows_findLevels ok_Hollows_spread se_Hollows_spread (hct2) rfl rfl rfl rfl rfl ⟨rfl, rfl, rfl⟩)
        have t5 := r_tr t4 (r_to (g' := (69, [.ref (mj_NE + 16), .int (iI t + 1), .int (iI (m1 p))], [], Wd xs L A2 V2 Y, 0, 0)) ok_Hollows_findLevels 69 [] rfl trivial)
        rw [iI_1] at t5
        refine ⟨A2, V2, lev2, vs2, sup dn (m1 p), s2, m2, lev1 (m1 p), _, ⟨hF2, hL2, by omega, hfr2, hS2, fun v hv he => ?_, fun u hu hd d hd8 h2 hp0 => ?_⟩, ?_, t5⟩
        · obtain ⟨q1, q2⟩ := hed v hv he
          obtain ⟨q3, q4⟩ := hx2 v hv q1
          exact ⟨q3, by rw [q4, q2]⟩
        · have bd := nbi_bd hw hh u d
          by_cases e : u = m1 p
          · subst e
            have hvis := hd2 d hd8 h2 hp0
            obtain ⟨q1, q2, q3, q4⟩ := hL2.1 _ (show (nbi w h (m1 p) d).toNat < n by omega) hvis
            rw [(hx2 _ p1 p2).2]
            exact ⟨hvis, q3⟩
          · rw [sup_ne e] at hd
            obtain ⟨q1, q2⟩ := hdn u hu hd d hd8 h2 hp0
            obtain ⟨q3, q4⟩ := hx2 _ (show (nbi w h u d).toNat < n by omega) q1
            rw [q4, (hx2 u hu (hF.2.2.2.1 u hu hd)).2]
            exact ⟨q3, q2⟩
        · left
          rw [cnt_up (p := dn) (q := sup dn (m1 p)) n p1 p3 sup_eq (fun j _ hj => sup_ne hj)]
          rcases hcn with q | q
          · omega
          · omega
  obtain ⟨A1, V1, lev1, vs1, dn, s1, m1, K, u2, ⟨hF, hL, hK, hfr, ⟨g1, g2, g3, g4, g5⟩, hed, hdn⟩, hcn, hr⟩ := lp2 n (Nat.le_refl _)
  have hV1 : V1 2 = iI n := by rw [g5 2 (by omega)]; exact hV
  have hall : ∀ v, v < n → dn v = true := by
    rcases hcn with q | q
    · exact cnt_all q
    · subst q
      have vd : ∀ v, v < n → vs1 v = true → dn v = true := fun v hv hvv => by
        rcases hF.2.2.1 v hv hvv with q | ⟨j, hj, _⟩
        · exact q
        · omega
      refine all_nb (P := fun v => dn v = true) hw hh hnw (fun j hj he => vd j hj (hed j hj he).1) (fun u d hu hd h2 hp hdu => ?_)
      have bd := nbi_bd hw hh u d
      exact vd _ (by omega) (hdn u hu hdu d hd h2 hp).1
  refine ⟨A1, V1, lev1, ⟨fun j hj => ?_, fun j hj he => (hed j hj he).2, fun u hu d hd h2 hp => (hdn u hu (hall u hu) d hd h2 hp).2⟩, g1, g4, g5, ct_of ok_Hollows_findLevels rfl (r_tr hr (r_to ok_Hollows_findLevels 9999 [true] rfl ⟨br_lt hV1 ⟨by omega, by omega⟩ ⟨by omega, by omega⟩ (by omega), trivial⟩)) rfl rfl rfl rfl rfl⟩
  obtain ⟨q1, q2, q3, q4⟩ := hL.1 j hj (hF.2.2.2.1 j hj (hall j hj))
  exact ⟨q1, q2, q4⟩
end LEV
