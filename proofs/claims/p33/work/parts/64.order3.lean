/-! the order of run, told exactly -/
/-- those to which nothing goes, by their NUMBERS -/
def oiF (n : Nat) (nx : Nat → Int) : Nat → Nat × (Nat → Nat)
  | 0 => (0, fun _ => 0)
  | i + 1 => if awC n nx (fun _ => false) i = 0 then ((oiF n nx i).1 + 1, supI (oiF n nx i).2 (oiF n nx i).1 i) else oiF n nx i
/-- one more is done -/
def oqS (n : Nat) (nx : Nat → Int) (S : (Nat → Bool) × Nat × Nat × (Nat → Nat)) : (Nat → Bool) × Nat × Nat × (Nat → Nat) := if S.2.2.1 = S.2.1 then S else if nx (S.2.2.2 S.2.2.1) < 0 then (sup S.1 (S.2.2.2 S.2.2.1), S.2.1, S.2.2.1 + 1, S.2.2.2) else if awC n nx (sup S.1 (S.2.2.2 S.2.2.1)) (nx (S.2.2.2 S.2.2.1)).toNat = 0 then (sup S.1 (S.2.2.2 S.2.2.1), S.2.1 + 1, S.2.2.1 + 1, supI S.2.2.2 S.2.1 (nx (S.2.2.2 S.2.2.1)).toNat) else (sup S.1 (S.2.2.2 S.2.2.1), S.2.1, S.2.2.1 + 1, S.2.2.2)
def oqF (n : Nat) (nx : Nat → Int) : Nat → (Nat → Bool) × Nat × Nat × (Nat → Nat)
  | 0 => (fun _ => false, (oiF n nx n).1, 0, (oiF n nx n).2)
  | t + 1 => oqS n nx (oqF n nx t)
section ORX
variable {xs : Nat → Int32} {L : Nat} {A : Nat → Nat → Int32} {V : Nat → Int32} {Y : mj_H} {n : Nat} {nx H : Nat → Int}
set_option maxHeartbeats 1000000 in
theorem c_putInOrderX (hV : V 2 = iI n) (hn : 0 < n ∧ n ≤ 256) (hx : ∀ j, j < n → A 4 j = iI (nx j) ∧ -1 ≤ nx j ∧ nx j < n) (hH : ∀ j, j < n → 0 ≤ H j ∧ H j ≤ 999) (hdw : ∀ u v : Nat, u < n → v < n → nx u = v → H v < H u) : ∃ (A1 : Nat → Nat → Int32) (V1 : Nat → Int32) (od : Nat → Nat), od = (oqF n nx n).2.2.2 ∧ OrdOK n nx od ∧ (∀ p, p < n → A1 12 p = iI (od p)) ∧ V1 3 = iI n ∧ (∀ v, v < n → A1 5 v = iI 1 ∧ A1 8 v = iI 0 ∧ A1 9 v = iI 0 ∧ A1 11 v = iI 0) ∧ (∀ k, k ≠ 5 → k ≠ 8 → k ≠ 9 → k ≠ 10 → k ≠ 11 → k ≠ 12 → A1 k = A k) ∧ (∀ k, k ≠ 3 → V1 k = V k) ∧ mj_Ct m_Streams_putInOrder [.ref (mj_NE + 5)] (Wd xs L A V Y) none (Wd xs L A1 V1 Y) 0 0 1 := by
  have s1 := r_to (RC := 0) (RS := 0) (dd := 1) (g := (0, [.ref (mj_NE + 5), mj_u, mj_u], [], Wd xs L A V Y, 0, 0)) (g' := (5, [.ref (mj_NE + 5), mj_u, mj_u], [.int 0, .ref (mj_NE + 13)], Wd xs L A V Y, 0, 0)) ok_Streams_putInOrder 9999 [] rfl trivial
  have s2 := r_tr s1 (q_S ok_Streams_putInOrder ok_Arr_fill st_Arr_fill c_fill_10 rfl rfl rfl rfl ⟨rfl, rfl, rfl⟩)
  have s3 := r_tr s2 (r_to (g' := (10, [.ref (mj_NE + 5), .int (iI 0), mj_u], [], Wd xs L (wA A 10 (fl (A 10) 0 256)) V Y, 0, 0)) ok_Streams_putInOrder 10 [] rfl trivial)
  have ln : ∀ i : Nat, i < n → (iI i).toNatClampNeg = i := fun i hi => cl_nat (by omega)
  have inn : ∀ i : Nat, i < n → vp_in (iI i) 256 := fun i hi => in_nat (by omega) (by omega)
  -- how many go to each
  have lp1 : ∀ i : Nat, i ≤ n → ∃ A1 : Nat → Nat → Int32, (∀ j, j < n → A1 10 j = iI (cnt (fun u => decide (nx u = j)) i)) ∧ (∀ k, k ≠ 10 → A1 k = A k) ∧ mj_Rc m_Streams_putInOrder 0 0 1 (0, [.ref (mj_NE + 5), mj_u, mj_u], [], Wd xs L A V Y, 0, 0) (10, [.ref (mj_NE + 5), .int (iI i), mj_u], [], Wd xs L A1 V Y, 0, 0) := by
    intro i
    induction i with
    | zero => intro _; exact ⟨_, fun j hj => by rw [wA_s]; exact if_pos (by omega), fun k hk => wA_n hk, s3⟩
    | succ i ih =>
      intro hi
      obtain ⟨A1, g1, g2, hr⟩ := ih (by omega)
      obtain ⟨e0, b1, b2⟩ := hx i (by omega)
      have hc := ln i (by omega)
      have hin := inn i (by omega)
      have e4 : A1 4 (iI i).toNatClampNeg = iI (nx i) := by rw [hc, g2 4 (by omega), e0]
      have cs : ∀ j : Nat, cnt (fun u => decide (nx u = j)) (i + 1) = cnt (fun u => decide (nx u = j)) i + (if decide (nx i = j) = true then 1 else 0) := fun _ => rfl
      by_cases hneg : nx i < 0
      · have t := r_tr hr (r_to (g' := (10, [.ref (mj_NE + 5), .int (iI i + 1), mj_u], [], Wd xs L A1 V Y, 0, 0)) ok_Streams_putInOrder 10 [false, true] rfl ⟨br_ge hV ⟨by omega, by omega⟩ ⟨by omega, by omega⟩ (by omega), hin, by
          show A1 4 (iI i).toNatClampNeg < iI 0
          rw [e4, iI_lt ⟨by omega, by omega⟩ ⟨by omega, by omega⟩]
          exact hneg, trivial⟩)
        rw [iI_1] at t
        refine ⟨A1, fun j hj => ?_, g2, t⟩
        rw [g1 j hj, cs, if_neg (by simp; omega), Int.add_zero]
      · obtain ⟨t0, ht0⟩ : ∃ t0 : Nat, (t0 : Int) = nx i := ⟨(nx i).toNat, by omega⟩
        have hct := ln t0 (by omega)
        have t : mj_Rc m_Streams_putInOrder 0 0 1 (10, [.ref (mj_NE + 5), .int (iI i), mj_u], [], Wd xs L A1 V Y, 0, 0) (10, [.ref (mj_NE + 5), .int (iI i + 1), mj_u], [], Wd xs L (wA A1 10 (upd (A1 10) (A1 4 (iI i).toNatClampNeg).toNatClampNeg (A1 10 (A1 4 (iI i).toNatClampNeg).toNatClampNeg + 1))) V Y, 0, 0) := r_to ok_Streams_putInOrder 10 [false, false] rfl ⟨br_ge hV ⟨by omega, by omega⟩ ⟨by omega, by omega⟩ (by omega), hin, by
          show ¬ (A1 4 (iI i).toNatClampNeg < iI 0)
          rw [e4, iI_lt ⟨by omega, by omega⟩ ⟨by omega, by omega⟩]
          exact hneg, hin, by
          show vp_in (A1 4 (iI i).toNatClampNeg) 256
          rw [e4, ← ht0]
          exact inn t0 (by omega), by
          show vp_in (A1 4 (iI i).toNatClampNeg) 256
          rw [e4, ← ht0]
          exact inn t0 (by omega), trivial⟩
        rw [e4, ← ht0, hct, g1 t0 (by omega), iI_1, iI_1] at t
        refine ⟨_, fun j hj => ?_, fun k hk => by rw [wA_n hk]; exact g2 k hk, r_tr hr t⟩
        rw [wA_s, cs]
        by_cases e : j = t0
        · subst e; rw [upd_eq, if_pos (by simp; omega)]
        · rw [upd_ne e, g1 j hj, if_neg (by simp; omega), Int.add_zero]
  obtain ⟨A1, g1, g2, hr1⟩ := lp1 n (Nat.le_refl _)
  have aw0 : ∀ j : Nat, cnt (fun u => decide (nx u = j)) n = awC n nx (fun _ => false) j := fun j => cnt_cg n (fun u _ => by simp)
  have s4 := r_tr hr1 (r_to (g' := (58, [.ref (mj_NE + 5), .int (iI 0), mj_u], [], Wd xs L A1 (wV V 3 (iI 0)) Y, 0, 0)) ok_Streams_putInOrder 58 [true] rfl ⟨br_lt hV ⟨by omega, by omega⟩ ⟨by omega, by omega⟩ (by omega), trivial⟩)
  -- those to which nothing goes
  have lp2 : ∀ i : Nat, i ≤ n → ∃ (A1 : Nat → Nat → Int32) (V1 : Nat → Int32) (ls : Nat → Bool) (c : Nat) (od : Nat → Nat), (c, od) = oiF n nx i ∧ KI n nx ls (fun _ => false) c 0 i od ∧ StP A V n A1 V1 ls c od (awC n nx (fun _ => false)) ∧ mj_Rc m_Streams_putInOrder 0 0 1 (0, [.ref (mj_NE + 5), mj_u, mj_u], [], Wd xs L A V Y, 0, 0) (58, [.ref (mj_NE + 5), .int (iI i), mj_u], [], Wd xs L A1 V1 Y, 0, 0) := by
    intro i
    induction i with
    | zero =>
      intro _
      refine ⟨A1, wV V 3 (iI 0), fun _ => false, 0, fun _ => 0, rfl, ⟨fun p hp => absurd hp (by omega), fun p q hp => absurd hp (by omega), fun v hv hl => Bool.noConfusion hl, ⟨Nat.le_refl _, fun p hp => absurd hp (by omega), fun v hv hl => Bool.noConfusion hl⟩, (cnt_0 n (fun _ _ => rfl)).symm, fun v hv hl => Bool.noConfusion hl, fun v hv hv0 => absurd hv0 (by omega), fun q hq => absurd hq (by omega)⟩, ⟨fun j hj => by rw [g1 j hj, aw0], fun p hp => absurd hp (by omega), wV_s, fun v hv hl => Bool.noConfusion hl, fun k _ _ _ k10 _ _ => g2 k k10, fun k hk => wV_n hk⟩, s4⟩
    | succ i ih =>
      intro hi
      obtain ⟨A1, V1, ls, c, od, he, hK, hS, hr⟩ := ih (by omega)
      have eo : oiF n nx (i + 1) = if awC n nx (fun _ => false) i = 0 then ((oiF n nx i).1 + 1, supI (oiF n nx i).2 (oiF n nx i).1 i) else oiF n nx i := rfl
      rw [← he] at eo
      obtain ⟨q1, q2, q3, q4, q5, q6⟩ := hS
      have hV1 : V1 2 = iI n := by rw [q6 2 (by omega)]; exact hV
      have hli : ls i = false := by
        cases q : ls i with
        | false => rfl
        | true => have := (hK.2.2.2.2.2.1 i (by omega) q).2; omega
      have hcn := KI_lt hK (show i < n by omega) hli
      have hab := cnt_bd (fun u => decide (nx u = i) && !(fun _ => false : Nat → Bool) u) n
      have e10 : A1 10 (iI i).toNatClampNeg = iI (awC n nx (fun _ => false) i) := by rw [ln i (by omega), q1 i (by omega)]
      by_cases hz : awC n nx (fun _ => false) i = 0
      · have t := r_tr hr (r_to (g' := (80, [.ref (mj_NE + 5), .int (iI i), mj_u], [.int (iI i), .ref (mj_NE + 5)], Wd xs L A1 V1 Y, 0, 0)) ok_Streams_putInOrder 9999 [false, false] rfl ⟨br_ge hV1 ⟨by omega, by omega⟩ ⟨by omega, by omega⟩ (by omega), inn i (by omega), by
          show ¬ (¬ (A1 10 (iI i).toNatClampNeg = 0))
          rw [e10, hz]
          exact fun q => q rfl, trivial⟩)
        have t2 := r_tr t (q_V ok_Streams_putInOrder ok_Streams_putNext se_Streams_putNext (c_putNext q3 (by omega) (by omega)) rfl rfl rfl rfl rfl ⟨rfl, rfl, rfl⟩)
        have t3 := r_tr t2 (r_to (g' := (58, [.ref (mj_NE + 5), .int (iI i + 1), mj_u], [], Wd xs L (pnA A1 c i) (wV V1 3 (iI (c + 1))) Y, 0, 0)) ok_Streams_putInOrder 58 [] rfl trivial)
        rw [iI_1] at t3
        exact ⟨_, _, sup ls i, c + 1, supI od c i, by rw [eo, if_pos hz], KI_add hK (by omega) hli hz ⟨by omega, by omega⟩ (fun u hu hui hne ha => hK.2.2.2.2.2.2.1 u hu (by omega) ha), StP_add ⟨q1, q2, q3, q4, q5, q6⟩, t3⟩
      · have t := r_tr hr (r_to (g' := (58, [.ref (mj_NE + 5), .int (iI i + 1), mj_u], [], Wd xs L A1 V1 Y, 0, 0)) ok_Streams_putInOrder 58 [false, true] rfl ⟨br_ge hV1 ⟨by omega, by omega⟩ ⟨by omega, by omega⟩ (by omega), inn i (by omega), by
          show ¬ (A1 10 (iI i).toNatClampNeg = 0)
          rw [e10]
          exact iI_nz ⟨by unfold awC; omega, by unfold awC; omega⟩ hz, trivial⟩)
        rw [iI_1] at t
        refine ⟨A1, V1, ls, c, od, by rw [eo, if_neg hz], ?_, ⟨q1, q2, q3, q4, q5, q6⟩, t⟩
        obtain ⟨k1, k2, k3, k4, k5, k6, k7, k8⟩ := hK
        refine ⟨k1, k2, k3, k4, k5, fun v hv hl => ?_, fun v hv hvi ha => ?_, k8⟩
        · obtain ⟨a1, a2⟩ := k6 v hv hl
          exact ⟨a1, by omega⟩
        · by_cases e : v = i
          · subst e; exact absurd ha hz
          · exact k7 v hv (by omega) ha
  obtain ⟨A2, V2, ls2, c2, od2, he2, hK2, hS2, hr2⟩ := lp2 n (Nat.le_refl _)
  have hV2 : V2 2 = iI n := by rw [hS2.2.2.2.2.2 2 (by omega)]; exact hV
  have s5 := r_tr hr2 (r_to (g' := (91, [.ref (mj_NE + 5), .int (iI 0), mj_u], [], Wd xs L A2 V2 Y, 0, 0)) ok_Streams_putInOrder 91 [true] rfl ⟨br_lt hV2 ⟨by omega, by omega⟩ ⟨by omega, by omega⟩ (by omega), trivial⟩)
  -- the others, as their turn comes
  have lp3 : ∀ t : Nat, t ≤ n → ∃ (A1 : Nat → Nat → Int32) (V1 : Nat → Int32) (ls dn : Nat → Bool) (c k : Nat) (od : Nat → Nat) (u2 : Value), (dn, c, k, od) = oqF n nx t ∧ KI n nx ls dn c k n od ∧ StP A V n A1 V1 ls c od (awC n nx dn) ∧ (k = t ∨ k = c) ∧ mj_Rc m_Streams_putInOrder 0 0 1 (0, [.ref (mj_NE + 5), mj_u, mj_u], [], Wd xs L A V Y, 0, 0) (91, [.ref (mj_NE + 5), .int (iI k), u2], [], Wd xs L A1 V1 Y, 0, 0) := by
    intro t
    induction t with
    | zero => intro _; exact ⟨A2, V2, ls2, fun _ => false, c2, 0, od2, _, by show _ = (_, (oiF n nx n).1, 0, (oiF n nx n).2); rw [← he2], hK2, hS2, Or.inl rfl, s5⟩
    | succ t ih =>
      intro ht
      obtain ⟨A1, V1, ls, dn, c, k, od, u2, he, hK, hS, hkt, hr⟩ := ih (by omega)
      have eq : oqF n nx (t + 1) = oqS n nx (oqF n nx t) := rfl
      rw [← he] at eq
      by_cases hkc : k = c
      · exact ⟨A1, V1, ls, dn, c, k, od, u2, by rw [eq]; exact (if_pos hkc).symm, hK, hS, Or.inr hkc, hr⟩
      · have hk : k < c := by have := hK.2.2.2.1.1; omega
        have hcn := KI_c hK
        obtain ⟨d1, d2, d3, d4⟩ := KI_do hK hk
        have hnd := KI_nd hK hk
        have hok := (hK.1 k hk).1
        obtain ⟨q1, q2, q3, q4, q5, q6⟩ := hS
        obtain ⟨e0, b1, b2⟩ := hx (od k) hok
        have hdo := fun u => awC_do (nx := nx) hok hnd u
        have eo : A1 12 (iI k).toNatClampNeg = iI (od k) := by rw [ln k (by omega), q2 k hk]
        have e4 : A1 4 (A1 12 (iI k).toNatClampNeg).toNatClampNeg = iI (nx (od k)) := by rw [eo, ln _ hok, q5 4 (by omega) (by omega) (by omega) (by omega) (by omega) (by omega), e0]
        have cn1 : ¬ (V1 3 ≤ iI k) := by rw [q3, iI_le ⟨by omega, by omega⟩ ⟨by omega, by omega⟩]; omega
        have cn2 : ¬ (iI 256 ≤ iI k) := by rw [iI_le ⟨by omega, by omega⟩ ⟨by omega, by omega⟩]; omega
        have io : vp_in (A1 12 (iI k).toNatClampNeg) 256 := by rw [eo]; exact inn _ hok
        by_cases hneg : nx (od k) < 0
        · have t1 := r_tr hr (r_to (g' := (91, [.ref (mj_NE + 5), .int (iI k + 1), .int (A1 4 (A1 12 (iI k).toNatClampNeg).toNatClampNeg)], [], Wd xs L A1 V1 Y, 0, 0)) ok_Streams_putInOrder 91 [false, false, true] rfl ⟨cn1, cn2, inn k (by omega), io, by
            show A1 4 (A1 12 (iI k).toNatClampNeg).toNatClampNeg < iI 0
            rw [e4, iI_lt ⟨by omega, by omega⟩ ⟨by omega, by omega⟩]
            exact hneg, trivial⟩)
          rw [iI_1] at t1
          refine ⟨A1, V1, ls, sup dn (od k), c, k + 1, od, _, by rw [eq]; exact ((if_neg hkc).trans (if_pos hneg)).symm, d3 (fun u hu he => by omega), ⟨fun j hj => ?_, q2, q3, q4, q5, q6⟩, ?_, t1⟩
          · rw [hdo, if_neg (by omega), Int.sub_zero]; exact q1 j hj
          · omega
        · obtain ⟨t0, ht0⟩ : ∃ t0 : Nat, (t0 : Int) = nx (od k) := ⟨(nx (od k)).toNat, by omega⟩
          have hct := ln t0 (by omega)
          have a1 : awC n nx (sup dn (od k)) t0 = awC n nx dn t0 - 1 := by rw [hdo, if_pos ht0.symm]
          have hab := cnt_bd (fun u => decide (nx u = t0) && !(sup dn (od k)) u) n
          have e4' : A1 4 (A1 12 (iI k).toNatClampNeg).toNatClampNeg = iI t0 := by rw [e4, ht0]
          have i4 : vp_in (A1 4 (A1 12 (iI k).toNatClampNeg).toNatClampNeg) 256 := by rw [e4']; exact inn t0 (by omega)
          have n4 : ¬ (A1 4 (A1 12 (iI k).toNatClampNeg).toNatClampNeg < iI 0) := by rw [e4', iI_lt ⟨by omega, by omega⟩ ⟨by omega, by omega⟩]; omega
          have e10 : A1 10 (A1 4 (A1 12 (iI k).toNatClampNeg).toNatClampNeg).toNatClampNeg - 1 = iI (awC n nx (sup dn (od k)) t0) := by
            rw [e4', hct, q1 t0 (by omega), show (1 : Int32) = iI 1 from rfl, iI_sub, a1]
          have SS := StP_aw (t := t0) (aw2 := awC n nx (sup dn (od k))) (z := awC n nx (sup dn (od k)) t0) ⟨q1, q2, q3, q4, q5, q6⟩ rfl (fun u hu hne => by rw [hdo, if_neg (by omega), Int.sub_zero])
          by_cases hz : awC n nx (sup dn (od k)) t0 = 0
          · have t1 : mj_Rc m_Streams_putInOrder 0 0 1 (91, [.ref (mj_NE + 5), .int (iI k), u2], [], Wd xs L A1 V1 Y, 0, 0) (143, [.ref (mj_NE + 5), .int (iI k), .int (A1 4 (A1 12 (iI k).toNatClampNeg).toNatClampNeg)], [.int (A1 4 (A1 12 (iI k).toNatClampNeg).toNatClampNeg), .ref (mj_NE + 5)], Wd xs L (wA A1 10 (upd (A1 10) (A1 4 (A1 12 (iI k).toNatClampNeg).toNatClampNeg).toNatClampNeg (A1 10 (A1 4 (A1 12 (iI k).toNatClampNeg).toNatClampNeg).toNatClampNeg - 1))) V1 Y, 0, 0) := r_to ok_Streams_putInOrder 9999 [false, false, false, false] rfl ⟨cn1, cn2, inn k (by omega), io, n4, i4, i4, i4, by
              show ¬ (¬ ((upd (A1 10) (A1 4 (A1 12 (iI k).toNatClampNeg).toNatClampNeg).toNatClampNeg (A1 10 (A1 4 (A1 12 (iI k).toNatClampNeg).toNatClampNeg).toNatClampNeg - 1)) (A1 4 (A1 12 (iI k).toNatClampNeg).toNatClampNeg).toNatClampNeg = 0))
              rw [upd_eq, e10, hz]
              exact fun q => q rfl, trivial⟩
            rw [e10, e4', hct] at t1
            have t2 := r_tr (r_tr hr t1) (q_V ok_Streams_putInOrder ok_Streams_putNext se_Streams_putNext (c_putNext (i := t0) q3 (by have := KI_lt hK (show t0 < n by omega) (d2 t0 (by omega) ht0); omega) (by omega)) rfl rfl rfl rfl rfl ⟨rfl, rfl, rfl⟩)
            have t3 := r_tr t2 (r_to (g' := (91, [.ref (mj_NE + 5), .int (iI k + 1), .int (iI t0)], [], Wd xs L (pnA (wA A1 10 (upd (A1 10) t0 (iI (awC n nx (sup dn (od k)) t0)))) c t0) (wV V1 3 (iI (c + 1))) Y, 0, 0)) ok_Streams_putInOrder 91 [] rfl trivial)
            rw [iI_1] at t3
            exact ⟨_, _, sup ls t0, sup dn (od k), c + 1, k + 1, supI od c t0, _, by
              have et : (nx (od k)).toNat = t0 := by omega
              rw [eq]
              refine ((if_neg hkc).trans ((if_neg hneg).trans ?_)).symm
              dsimp only
              rw [et]
              exact if_pos hz, d4 t0 (by omega) ht0 hz, StP_add SS, by omega, t3⟩
          · have t1 : mj_Rc m_Streams_putInOrder 0 0 1 (91, [.ref (mj_NE + 5), .int (iI k), u2], [], Wd xs L A1 V1 Y, 0, 0) (91, [.ref (mj_NE + 5), .int (iI k + 1), .int (A1 4 (A1 12 (iI k).toNatClampNeg).toNatClampNeg)], [], Wd xs L (wA A1 10 (upd (A1 10) (A1 4 (A1 12 (iI k).toNatClampNeg).toNatClampNeg).toNatClampNeg (A1 10 (A1 4 (A1 12 (iI k).toNatClampNeg).toNatClampNeg).toNatClampNeg - 1))) V1 Y, 0, 0) := r_to ok_Streams_putInOrder 91 [false, false, false, true] rfl ⟨cn1, cn2, inn k (by omega), io, n4, i4, i4, i4, by
              show ¬ ((upd (A1 10) (A1 4 (A1 12 (iI k).toNatClampNeg).toNatClampNeg).toNatClampNeg (A1 10 (A1 4 (A1 12 (iI k).toNatClampNeg).toNatClampNeg).toNatClampNeg - 1)) (A1 4 (A1 12 (iI k).toNatClampNeg).toNatClampNeg).toNatClampNeg = 0)
              rw [upd_eq, e10]
              exact iI_nz ⟨by unfold awC; omega, by unfold awC; omega⟩ hz, trivial⟩
            rw [e10, e4', hct, iI_1] at t1
            exact ⟨_, _, ls, sup dn (od k), c, k + 1, od, _, by
              have et : (nx (od k)).toNat = t0 := by omega
              rw [eq]
              refine ((if_neg hkc).trans ((if_neg hneg).trans ?_)).symm
              dsimp only
              rw [et]
              exact if_neg hz, d3 (fun u hu he => by rw [show u = t0 by omega]; exact hz), SS, by omega, r_tr hr t1⟩
  obtain ⟨A3, V3, ls, dn, c, k, od, u2, he3, hK, ⟨q1, q2, q3, q4, q5, q6⟩, hkt, hr⟩ := lp3 n (Nat.le_refl _)
  have hcn := KI_c hK
  have hkc : k = c := by have := hK.2.2.2.1.1; omega
  subst hkc
  have hall := KI_all hK hH hdw
  have hce := hK.2.2.2.2.1
  rw [cnt_full n hall] at hce
  have hkn : k = n := by omega
  subst hkn
  refine ⟨A3, V3, od, by rw [← he3], ⟨fun p hp => (hK.1 p hp).1, hK.2.1, fun v hv => hK.2.2.1 v hv (hall v hv), hK.2.2.2.2.2.2.2⟩, q2, q3, fun v hv => q4 v hv (hall v hv), q5, q6, ct_of ok_Streams_putInOrder rfl (r_tr hr (r_to ok_Streams_putInOrder 9999 [true] rfl ⟨by
    show V3 3 ≤ iI k
    rw [q3]
    exact Int32.le_refl _, trivial⟩)) rfl rfl rfl rfl rfl⟩
end ORX
