/-! run, the order told exactly -/
def odF (w h : Int) (n : Nat) (H : Nat → Int) : Nat → Nat := (oqF n (nxF w h H) n).2.2.2
section RUNX
variable {xs : Nat → Int32} {L : Nat} {A : Nat → Nat → Int32} {V : Nat → Int32} {Y : mj_H}
variable {w h : Int} {n : Nat} {H : Nat → Int}
set_option maxHeartbeats 1000000 in
theorem c_runX {b : Int} (hV : V 2 = iI n) (hw : 2 ≤ w ∧ w ≤ 16) (hh : 2 ≤ h ∧ h ≤ 16) (hnw : (n : Int) = w * h) (hN : nbOK w h (A 2) n) (hH : Hts (A 0) n H) (hb : 0 ≤ b ∧ b ≤ 100) : ∃ (A1 : Nat → Nat → Int32) (V1 : Nat → Int32), RunOK w h n H b A1 (odF w h n H) ∧ (∀ k, k < 3 ∨ 12 < k → A1 k = A k) ∧ (∀ k, k ≠ 3 → V1 k = V k) ∧ mj_Ct m_Streams_run [.ref (mj_NE + 5), .int (iI b)] (Wd xs L A V Y) none (Wd xs L A1 V1 Y) 0 0 3 := by
  have wh := wh_bd hw hh
  have hn : 0 < n ∧ n ≤ 256 := by omega
  have hH2 : ∀ j, j < n → 0 ≤ H j ∧ H j ≤ 999 := fun j hj => (hH j hj).2
  have hnx : ∀ j, j < n → -1 ≤ nxF w h H j ∧ nxF w h H j < n := fun j hj => by
    have := chD_bd hw hh hnw hH2 hj 8 (Nat.le_refl _)
    unfold nxF
    omega
  have hdw : ∀ u v : Nat, u < n → v < n → nxF w h H u = v → H v < H u := fun u v hu hv he => by
    have := (chD_dn (w := w) (h := h) (H := H) (u := u) 8).2
    unfold nxF at he
    rw [he, Int.toNat_natCast] at this
    exact this (by omega)
  have r0 := r_to (RC := 0) (RS := 0) (dd := 3) (g := (0, [.ref (mj_NE + 5), .int (iI b), mj_u], [], Wd xs L A V Y, 0, 0)) (g' := (2, [.ref (mj_NE + 5), .int (iI b), .int (iI 0)], [], Wd xs L A V Y, 0, 0)) ok_Streams_run 2 [] rfl trivial
  have lp1 : ∀ i : Nat, i ≤ n → ∃ A1 : Nat → Nat → Int32, (∀ j, j < i → A1 3 j = iI (drF w h H j) ∧ A1 4 j = iI (nxF w h H j)) ∧ (∀ k, k ≠ 3 → k ≠ 4 → A1 k = A k) ∧ mj_Rc m_Streams_run 0 0 3 (0, [.ref (mj_NE + 5), .int (iI b), mj_u], [], Wd xs L A V Y, 0, 0) (2, [.ref (mj_NE + 5), .int (iI b), .int (iI i)], [], Wd xs L A1 V Y, 0, 0) := by
    intro i
    induction i with
    | zero => intro _; exact ⟨A, fun j hj => absurd hj (by omega), fun _ _ _ => rfl, r0⟩
    | succ i ih =>
      intro hi
      obtain ⟨A1, g1, g2, hr⟩ := ih (by omega)
      have t1 := r_tr hr (r_to (g' := (15, [.ref (mj_NE + 5), .int (iI b), .int (iI i)], [.int (iI i), .ref (mj_NE + 5)], Wd xs L A1 V Y, 0, 0)) ok_Streams_run 9999 [false] rfl ⟨br_ge hV ⟨by omega, by omega⟩ ⟨by omega, by omega⟩ (by omega), trivial⟩)
      have t2 := r_tr t1 (q_V ok_Streams_run ok_Streams_chooseDirection se_Streams_chooseDirection (c_chooseDirection hw hh hnw (by rw [g2 2 (by omega) (by omega)]; exact hN) (by rw [g2 0 (by omega) (by omega)]; exact hH) (by omega)) rfl rfl rfl rfl rfl ⟨rfl, rfl, rfl⟩)
      have t3 := r_tr t2 (r_to (g' := (2, [.ref (mj_NE + 5), .int (iI b), .int (iI i + 1)], [], Wd xs L (wA (wA A1 3 (upd (A1 3) i (iI (chD w h H i 8).2.1))) 4 (upd (A1 4) i (iI (chD w h H i 8).2.2))) V Y, 0, 0)) ok_Streams_run 2 [] rfl trivial)
      rw [iI_1] at t3
      refine ⟨_, fun j hj => ?_, fun k k3 k4 => by rw [wA_n k4, wA_n k3]; exact g2 k k3 k4, t3⟩
      rw [wA_s, wA_n (by omega), wA_s]
      by_cases e : j = i
      · subst e; rw [upd_eq, upd_eq]; exact ⟨rfl, rfl⟩
      · rw [upd_ne e, upd_ne e]; exact g1 j (by omega)
  obtain ⟨A1, g1, g2, hr1⟩ := lp1 n (Nat.le_refl _)
  have t1 := r_tr hr1 (r_to (g' := (25, [.ref (mj_NE + 5), .int (iI b), .int (iI n)], [.ref (mj_NE + 5)], Wd xs L A1 V Y, 0, 0)) ok_Streams_run 9999 [true] rfl ⟨br_lt hV ⟨by omega, by omega⟩ ⟨by omega, by omega⟩ (by omega), trivial⟩)
  obtain ⟨A2, V2, od, hod, hO, o1, o2, o3, o4, o5, hct⟩ := c_putInOrderX (xs := xs) (L := L) (Y := Y) (A := A1) (V := V) (H := H) hV hn (fun j hj => ⟨(g1 j hj).2, hnx j hj⟩) hH2 hdw
  have t2 := r_tr t1 (q_V ok_Streams_run ok_Streams_putInOrder se_Streams_putInOrder (hct) rfl rfl rfl rfl rfl ⟨rfl, rfl, rfl⟩)
  have t3 := r_tr t2 (r_to (g' := (30, [.ref (mj_NE + 5), .int (iI b), .int (iI 0)], [], Wd xs L A2 V2 Y, 0, 0)) ok_Streams_run 30 [] rfl trivial)
  have hinv := fun k hk => (pd_inv (b := b) hO hnx k hk).2
  have c3 : A2 3 = A1 3 := o4 3 (by omega) (by omega) (by omega) (by omega) (by omega) (by omega)
  have c4 : A2 4 = A1 4 := o4 4 (by omega) (by omega) (by omega) (by omega) (by omega) (by omega)
  have lp2 : ∀ k : Nat, k ≤ n → ∃ A3 : Nat → Nat → Int32, StQ n A3 (pdK b (nxF w h H) od k) ∧ (∀ k, k ≠ 5 → k ≠ 8 → k ≠ 9 → k ≠ 11 → A3 k = A2 k) ∧ mj_Rc m_Streams_run 0 0 3 (0, [.ref (mj_NE + 5), .int (iI b), mj_u], [], Wd xs L A V Y, 0, 0) (30, [.ref (mj_NE + 5), .int (iI b), .int (iI k)], [], Wd xs L A3 V2 Y, 0, 0) := by
    intro k
    induction k with
    | zero => intro _; exact ⟨A2, fun j hj => o3 j hj, fun _ _ _ _ _ => rfl, t3⟩
    | succ k ih =>
      intro hk
      obtain ⟨A3, q1, q2, hr⟩ := ih (by omega)
      have hok := hO.1 k (by omega)
      have e12 : A3 12 (iI k).toNatClampNeg = iI (od k) := by rw [cl_nat (by omega), q2 12 (by omega) (by omega) (by omega) (by omega), o1 k (by omega)]
      have t1 : mj_Rc m_Streams_run 0 0 3 (30, [.ref (mj_NE + 5), .int (iI b), .int (iI k)], [], Wd xs L A3 V2 Y, 0, 0) (46, [.ref (mj_NE + 5), .int (iI b), .int (iI k)], [.int (iI b), .int (A3 12 (iI k).toNatClampNeg), .ref (mj_NE + 5)], Wd xs L A3 V2 Y, 0, 0) := r_to ok_Streams_run 9999 [false] rfl ⟨by
        show ¬ (V2 3 ≤ iI k)
        rw [o2, iI_le ⟨by omega, by omega⟩ ⟨by omega, by omega⟩]
        omega, in_nat (by omega) (by omega), trivial⟩
      rw [e12] at t1
      obtain ⟨A4, p1, p2, hct4⟩ := c_passDown (xs := xs) (L := L) (V := V2) (Y := Y) (A := A3) (nx := nxF w h H) (i := od k) hok hn.2 (by rw [q2 4 (by omega) (by omega) (by omega) (by omega), c4]; exact (g1 _ hok).2) ⟨(hnx _ hok).1, (hnx _ hok).2, fun e => by have := hdw _ _ hok hok e; omega⟩ hb q1 (fun v hv => by
        obtain ⟨a1, a2, a3⟩ := hinv k (by omega) v hv
        exact ⟨by omega, by omega, by omega⟩)
      have t2 := r_tr (r_tr hr t1) (q_V ok_Streams_run ok_Streams_passDown se_Streams_passDown (hct4) rfl rfl rfl rfl rfl ⟨rfl, rfl, rfl⟩)
      have t3 := r_tr t2 (r_to (g' := (30, [.ref (mj_NE + 5), .int (iI b), .int (iI k + 1)], [], Wd xs L A4 V2 Y, 0, 0)) ok_Streams_run 30 [] rfl trivial)
      rw [iI_1] at t3
      exact ⟨A4, p1, fun k k5 k8 k9 k11 => by rw [p2 k k5 k8 k9 k11]; exact q2 k k5 k8 k9 k11, t3⟩
  obtain ⟨A3, q1, q2, hr2⟩ := lp2 n (Nat.le_refl _)
  have t4 : mj_Rc m_Streams_run 0 0 3 (30, [.ref (mj_NE + 5), .int (iI b), .int (iI n)], [], Wd xs L A3 V2 Y, 0, 0) (62, [.ref (mj_NE + 5), .int (iI b), .int (V2 3 - iI 1)], [], Wd xs L A3 V2 Y, 0, 0) := r_to ok_Streams_run 62 [true] rfl ⟨by
    show V2 3 ≤ iI n
    rw [o2]
    exact Int32.le_refl _, trivial⟩
  rw [o2, iI_sub] at t4
  have lp3 : ∀ r : Nat, r ≤ n → ∃ A4 : Nat → Nat → Int32, (∀ p, n - r ≤ p → p < n → (nxF w h H (od p) < 0 → A4 6 (od p) = iI (od p) ∧ A4 7 (od p) = iI 0) ∧ (∀ t : Nat, nxF w h H (od p) = t → A4 6 (od p) = A4 6 t ∧ A4 7 (od p) = A4 7 t + 1)) ∧ (∀ k, k ≠ 6 → k ≠ 7 → A4 k = A3 k) ∧ mj_Rc m_Streams_run 0 0 3 (0, [.ref (mj_NE + 5), .int (iI b), mj_u], [], Wd xs L A V Y, 0, 0) (62, [.ref (mj_NE + 5), .int (iI b), .int (iI ((n : Int) - 1 - r))], [], Wd xs L A4 V2 Y, 0, 0) := by
    intro r
    induction r with
    | zero => intro _; exact ⟨A3, fun p h1 h2 => absurd h1 (by omega), fun _ _ _ => rfl, by rw [show (n : Int) - 1 - ((0 : Nat) : Int) = (n : Int) - 1 by omega]; exact r_tr hr2 t4⟩
    | succ r ih =>
      intro hr0
      obtain ⟨A4, p1, p2, hr⟩ := ih (by omega)
      obtain ⟨k, hk⟩ : ∃ k : Nat, (k : Int) = (n : Int) - 1 - r := ⟨n - 1 - r, by omega⟩
      rw [← hk] at hr
      have hok := hO.1 k (by omega)
      have e12 : A4 12 (iI k).toNatClampNeg = iI (od k) := by rw [cl_nat (by omega), p2 12 (by omega) (by omega), q2 12 (by omega) (by omega) (by omega) (by omega), o1 k (by omega)]
      have e4 : A4 4 (od k) = iI (nxF w h H (od k)) := by rw [p2 4 (by omega) (by omega), q2 4 (by omega) (by omega) (by omega) (by omega), c4]; exact (g1 _ hok).2
      have t1 : mj_Rc m_Streams_run 0 0 3 (62, [.ref (mj_NE + 5), .int (iI b), .int (iI k)], [], Wd xs L A4 V2 Y, 0, 0) (73, [.ref (mj_NE + 5), .int (iI b), .int (iI k)], [.int (A4 12 (iI k).toNatClampNeg), .ref (mj_NE + 5)], Wd xs L A4 V2 Y, 0, 0) := r_to ok_Streams_run 9999 [false] rfl ⟨by
        show ¬ (iI k < iI 0)
        rw [iI_lt ⟨by omega, by omega⟩ ⟨by omega, by omega⟩]
        omega, in_nat (by omega) (by omega), trivial⟩
      rw [e12] at t1
      have hb2 := hnx _ hok
      -- those behind it and where they go are others
      have oth : ∀ p, n - r ≤ p → p < n → od p ≠ od k := fun p h1 h2 e => by have := hO.2.1 p k h2 (by omega) e; omega
      have oth2 : ∀ p, n - r ≤ p → p < n → ∀ t : Nat, nxF w h H (od p) = t → t ≠ od k := fun p h1 h2 t ht e => by
        obtain ⟨q, hq, hm⟩ := hO.2.2.2 k (by omega) (od p) (hO.1 p h2) (by rw [ht, e])
        have := hO.2.1 q p (by omega) h2 hm
        omega
      by_cases hneg : nxF w h H (od k) < 0
      · have t2 := r_tr (r_tr hr t1) (q_V ok_Streams_run ok_Streams_findEnd se_Streams_findEnd (c_findEnd0 (by omega) e4 (by omega)) rfl rfl rfl rfl rfl ⟨rfl, rfl, rfl⟩)
        have t3 := r_tr t2 (r_to (g' := (62, [.ref (mj_NE + 5), .int (iI b), .int (iI k + (-1))], [], Wd xs L (wA (wA A4 6 (upd (A4 6) (od k) (iI (od k)))) 7 (upd (A4 7) (od k) (iI 0))) V2 Y, 0, 0)) ok_Streams_run 62 [] rfl trivial)
        rw [iI_m1, show (k : Int) - 1 = (n : Int) - 1 - ((r + 1 : Nat) : Int) by omega] at t3
        refine ⟨_, fun p h1 h2 => ?_, fun k k6 k7 => by rw [wA_n k7, wA_n k6]; exact p2 k k6 k7, t3⟩
        rw [wA_n (l := 6) (by omega), wA_s, wA_s]
        by_cases e : p = k
        · subst e
          rw [upd_eq, upd_eq]
          exact ⟨fun _ => ⟨rfl, rfl⟩, fun t ht => absurd hneg (by omega)⟩
        · have h1' : n - r ≤ p := by omega
          rw [upd_ne (oth p h1' h2), upd_ne (oth p h1' h2)]
          refine ⟨(p1 p h1' h2).1, fun t ht => ?_⟩
          rw [upd_ne (oth2 p h1' h2 t ht), upd_ne (oth2 p h1' h2 t ht)]
          exact (p1 p h1' h2).2 t ht
      · obtain ⟨t0, ht0⟩ : ∃ t0 : Nat, (t0 : Int) = nxF w h H (od k) := ⟨(nxF w h H (od k)).toNat, by omega⟩
        have htk : t0 ≠ od k := fun e => by have := hdw _ _ hok (show t0 < n by omega) ht0.symm; rw [e] at this; omega
        have t2 := r_tr (r_tr hr t1) (q_V ok_Streams_run ok_Streams_findEnd se_Streams_findEnd (c_findEnd1 (t := t0) (by omega) (by omega) (by rw [e4, ht0])) rfl rfl rfl rfl rfl ⟨rfl, rfl, rfl⟩)
        have t3 := r_tr t2 (r_to (g' := (62, [.ref (mj_NE + 5), .int (iI b), .int (iI k + (-1))], [], Wd xs L (wA (wA A4 6 (upd (A4 6) (od k) (A4 6 t0))) 7 (upd (A4 7) (od k) (A4 7 t0 + 1))) V2 Y, 0, 0)) ok_Streams_run 62 [] rfl trivial)
        rw [iI_m1, show (k : Int) - 1 = (n : Int) - 1 - ((r + 1 : Nat) : Int) by omega] at t3
        refine ⟨_, fun p h1 h2 => ?_, fun k k6 k7 => by rw [wA_n k7, wA_n k6]; exact p2 k k6 k7, t3⟩
        rw [wA_n (l := 6) (by omega), wA_s, wA_s]
        by_cases e : p = k
        · subst e
          rw [upd_eq, upd_eq]
          refine ⟨fun q => absurd q hneg, fun t ht => ?_⟩
          have : t = t0 := by omega
          subst this
          rw [upd_ne htk, upd_ne htk]
          exact ⟨rfl, rfl⟩
        · have h1' : n - r ≤ p := by omega
          rw [upd_ne (oth p h1' h2), upd_ne (oth p h1' h2)]
          refine ⟨(p1 p h1' h2).1, fun t ht => ?_⟩
          rw [upd_ne (oth2 p h1' h2 t ht), upd_ne (oth2 p h1' h2 t ht)]
          exact (p1 p h1' h2).2 t ht
  obtain ⟨A4, p1, p2, hr3⟩ := lp3 n (Nat.le_refl _)
  rw [show (n : Int) - 1 - (n : Int) = -1 by omega] at hr3
  rw [show odF w h n H = od from hod.symm]
  refine ⟨A4, V2, ⟨hO, fun j hj => ?_, fun j hj => ?_, fun v hv => ?_⟩, fun k hk => ?_, o5, ct_of ok_Streams_run rfl (r_tr hr3 (r_to ok_Streams_run 9999 [true] rfl ⟨by show iI (-1) < iI 0; rw [iI_lt ⟨by omega, by omega⟩ ⟨by omega, by omega⟩]; omega, trivial⟩)) rfl rfl rfl rfl rfl⟩
  · rw [p2 3 (by omega) (by omega), p2 4 (by omega) (by omega), q2 3 (by omega) (by omega) (by omega) (by omega), q2 4 (by omega) (by omega) (by omega) (by omega), c3, c4]
    exact g1 j hj
  · rw [p2 5 (by omega) (by omega), p2 8 (by omega) (by omega), p2 9 (by omega) (by omega), p2 11 (by omega) (by omega)]
    exact q1 j hj
  · obtain ⟨p, hp, hm⟩ := hO.2.2.1 v hv
    rw [← hm]
    exact p1 p (by omega) hp
  · rw [p2 k (by omega) (by omega), q2 k (by omega) (by omega) (by omega) (by omega), o4 k (by omega) (by omega) (by omega) (by omega) (by omega) (by omega), g2 k (by omega) (by omega)]
end RUNX
