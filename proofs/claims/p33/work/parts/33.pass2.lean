/-! Streams: passDown and run on the machine -/
def StQ (n : Nat) (A : Nat → Nat → Int32) (S : PD) : Prop := ∀ j, j < n → A 5 j = iI (S.1 j) ∧ A 8 j = iI (S.2.1 j) ∧ A 9 j = iI (S.2.2.1 j) ∧ A 11 j = bI (S.2.2.2 j)
/-- where the water of a FIELD goes; its DIRECTION -/
def nxF (w h : Int) (H : Nat → Int) (j : Nat) : Int := (chD w h H j 8).2.2
def drF (w h : Int) (H : Nat → Int) (j : Nat) : Int := (chD w h H j 8).2.1
theorem chD_dn {w h : Int} {H : Nat → Int} {u : Nat} : ∀ d : Nat, 0 ≤ (chD w h H u d).1 ∧ (0 ≤ (chD w h H u d).2.2 → H (chD w h H u d).2.2.toNat < H u) := by
  intro d
  induction d with
  | zero => unfold chD; exact ⟨Int.le_refl _, fun q => absurd q (by show ¬ ((0 : Int) ≤ -1); omega)⟩
  | succ d ih =>
    unfold chD
    by_cases hneg : nbi w h u d < 0
    · rw [if_pos hneg]; exact ih
    · rw [if_neg hneg]
      have cc : (if d % 2 = 1 then (7 : Int) else 10) = 7 ∨ (if d % 2 = 1 then (7 : Int) else 10) = 10 := by
        by_cases h1 : d % 2 = 1
        · rw [if_pos h1]; omega
        · rw [if_neg h1]; omega
      generalize (if d % 2 = 1 then (7 : Int) else 10) = c at *
      by_cases hf : (chD w h H u d).1 < (H u - H (nbi w h u d).toNat) * c
      · rw [if_pos hf]
        refine ⟨by show 0 ≤ (H u - H (nbi w h u d).toNat) * c; omega, fun _ => ?_⟩
        show H (nbi w h u d).toNat < H u
        rcases cc with rfl | rfl <;> omega
      · rw [if_neg hf]; exact ih
section RUN
variable {xs : Nat → Int32} {L : Nat} {A : Nat → Nat → Int32} {V : Nat → Int32} {Y : mj_H}
variable {w h : Int} {n : Nat} {H nx : Nat → Int}
theorem c_passA {i : Nat} {b : Int} {S : PD} (hi : i < n) (hn : n ≤ 256) (hb : 0 ≤ b ∧ b ≤ 100) (hS : StQ n A S) (hbd : ∀ v, v < n → (0 ≤ S.1 v ∧ S.1 v ≤ 256) ∧ (0 ≤ S.2.1 v ∧ S.2.1 v ≤ 256) ∧ (0 ≤ S.2.2.1 v ∧ S.2.2.1 v ≤ 256)) : ∃ (A1 : Nat → Nat → Int32) (u3 : Value), (∀ j, j < n → A1 8 j = iI (pdR b S i j) ∧ A1 9 j = iI (pdL b S i j)) ∧ (∀ k, k ≠ 8 → k ≠ 9 → A1 k = A k) ∧ mj_Rc m_Streams_passDown 0 0 1 (0, [.ref (mj_NE + 5), .int (iI i), .int (iI b), mj_u], [], Wd xs L A V Y, 0, 0) (62, [.ref (mj_NE + 5), .int (iI i), .int (iI b), u3], [], Wd xs L A1 V Y, 0, 0) := by
  obtain ⟨e5, e8, e9, e11⟩ := hS i hi
  obtain ⟨b5, b8, b9⟩ := hbd i hi
  have hc : (iI i).toNatClampNeg = i := cl_nat (by omega)
  have hin : vp_in (iI i) 256 := in_nat (by omega) (by omega)
  by_cases hf : S.1 i < b
  · refine ⟨A, _, fun j hj => ?_, fun _ _ _ => rfl, r_to ok_Streams_passDown 62 [true] rfl ⟨hin, by
      show A 5 (iI i).toNatClampNeg < iI b
      rw [hc, e5, iI_lt ⟨by omega, by omega⟩ ⟨by omega, by omega⟩]
      exact hf, trivial⟩⟩
    obtain ⟨f5, f8, f9, f11⟩ := hS j hj
    unfold pdR pdL
    rw [if_pos hf, if_pos hf]
    by_cases e : j = i
    · subst e; rw [supI_eq, supI_eq]; exact ⟨f8, f9⟩
    · rw [supI_ne e, supI_ne e]; exact ⟨f8, f9⟩
  · have nf : ¬ (A 5 (iI i).toNatClampNeg < iI b) := by rw [hc, e5, iI_lt ⟨by omega, by omega⟩ ⟨by omega, by omega⟩]; exact hf
    have fin : ∀ (z : Int) (u3 : Value), (if S.2.2.2 i = true ∨ S.2.1 i = 0 then S.2.1 i + 1 else S.2.1 i) = z → mj_Rc m_Streams_passDown 0 0 1 (0, [.ref (mj_NE + 5), .int (iI i), .int (iI b), mj_u], [], Wd xs L A V Y, 0, 0) (62, [.ref (mj_NE + 5), .int (iI i), .int (iI b), u3], [], Wd xs L (wA (wA A 8 (upd (A 8) i (iI z))) 9 (upd (A 9) i (iI (S.2.2.1 i + 1)))) V Y, 0, 0) → ∃ (A1 : Nat → Nat → Int32) (u3 : Value), (∀ j, j < n → A1 8 j = iI (pdR b S i j) ∧ A1 9 j = iI (pdL b S i j)) ∧ (∀ k, k ≠ 8 → k ≠ 9 → A1 k = A k) ∧ mj_Rc m_Streams_passDown 0 0 1 (0, [.ref (mj_NE + 5), .int (iI i), .int (iI b), mj_u], [], Wd xs L A V Y, 0, 0) (62, [.ref (mj_NE + 5), .int (iI i), .int (iI b), u3], [], Wd xs L A1 V Y, 0, 0) := by
      intro z u3 hz hr
      refine ⟨_, _, fun j hj => ?_, fun k k1 k2 => by rw [wA_n k2, wA_n k1], hr⟩
      obtain ⟨f5, f8, f9, f11⟩ := hS j hj
      rw [wA_n (by omega), wA_s, wA_s]
      unfold pdR pdL
      rw [if_neg hf, if_neg hf, hz]
      by_cases e : j = i
      · subst e; rw [supI_eq, supI_eq, upd_eq, upd_eq]; exact ⟨rfl, rfl⟩
      · rw [supI_ne e, supI_ne e, upd_ne e, upd_ne e]; exact ⟨f8, f9⟩
    have W8 : A 8 (iI i).toNatClampNeg = iI (S.2.1 i) := by rw [hc]; exact e8
    have W9 : A 9 (iI i).toNatClampNeg = iI (S.2.2.1 i) := by rw [hc]; exact e9
    have W11 : A 11 (iI i).toNatClampNeg = bI (S.2.2.2 i) := by rw [hc]; exact e11
    cases hsh : S.2.2.2 i with
    | true =>
      have t : mj_Rc m_Streams_passDown 0 0 1 (0, [.ref (mj_NE + 5), .int (iI i), .int (iI b), mj_u], [], Wd xs L A V Y, 0, 0) (62, [.ref (mj_NE + 5), .int (iI i), .int (iI b), .int 1], [], Wd xs L (wA (wA A 8 (upd (A 8) (iI i).toNatClampNeg (A 8 (iI i).toNatClampNeg + 1))) 9 (upd (A 9) (iI i).toNatClampNeg (A 9 (iI i).toNatClampNeg + 1))) V Y, 0, 0) := r_to ok_Streams_passDown 62 [false, true, false] rfl ⟨hin, nf, hin, by
        show ¬ (A 11 (iI i).toNatClampNeg = 0)
        rw [W11, hsh]
        decide, hin, by show ¬ ((1 : Int32) = 0); decide, hin, hin, hin, trivial⟩
      rw [W8, W9, iI_1, iI_1, hc] at t
      exact fin _ _ (by rw [if_pos (Or.inl hsh)]) t
    | false =>
      have n11 : ¬ (¬ (A 11 (iI i).toNatClampNeg = 0)) := by rw [W11, hsh]; exact fun q => q rfl
      by_cases hr0 : S.2.1 i = 0
      · have t : mj_Rc m_Streams_passDown 0 0 1 (0, [.ref (mj_NE + 5), .int (iI i), .int (iI b), mj_u], [], Wd xs L A V Y, 0, 0) (62, [.ref (mj_NE + 5), .int (iI i), .int (iI b), .int 1], [], Wd xs L (wA (wA A 8 (upd (A 8) (iI i).toNatClampNeg (A 8 (iI i).toNatClampNeg + 1))) 9 (upd (A 9) (iI i).toNatClampNeg (A 9 (iI i).toNatClampNeg + 1))) V Y, 0, 0) := r_to ok_Streams_passDown 62 [false, false, false, false] rfl ⟨hin, nf, hin, n11, hin, by
          show ¬ (¬ (A 8 (iI i).toNatClampNeg = 0))
          rw [W8, hr0]
          exact fun q => q rfl, hin, by show ¬ ((1 : Int32) = 0); decide, hin, hin, hin, trivial⟩
        rw [W8, W9, iI_1, iI_1, hc] at t
        exact fin _ _ (by rw [if_pos (Or.inr hr0)]) t
      · have t : mj_Rc m_Streams_passDown 0 0 1 (0, [.ref (mj_NE + 5), .int (iI i), .int (iI b), mj_u], [], Wd xs L A V Y, 0, 0) (62, [.ref (mj_NE + 5), .int (iI i), .int (iI b), .int 0], [], Wd xs L (wA (wA A 8 (upd (A 8) (iI i).toNatClampNeg (A 8 (iI i).toNatClampNeg + iI 0))) 9 (upd (A 9) (iI i).toNatClampNeg (A 9 (iI i).toNatClampNeg + 1))) V Y, 0, 0) := r_to ok_Streams_passDown 62 [false, false, true, true] rfl ⟨hin, nf, hin, n11, hin, by
          show ¬ (A 8 (iI i).toNatClampNeg = 0)
          rw [W8]
          exact iI_nz ⟨by omega, by omega⟩ hr0, hin, by show ((0 : Int32) = 0); rfl, hin, hin, hin, trivial⟩
        rw [W8, W9, iI_add, iI_1, hc, Int.add_zero] at t
        exact fin _ _ (by rw [if_neg (by rw [hsh]; simp [hr0])]) t
set_option maxHeartbeats 1000000 in
theorem c_passDown {i : Nat} {b : Int} {S : PD} (hi : i < n) (hn : n ≤ 256) (h4 : A 4 i = iI (nx i)) (hnx : -1 ≤ nx i ∧ nx i < n ∧ nx i ≠ i) (hb : 0 ≤ b ∧ b ≤ 100) (hS : StQ n A S) (hbd : ∀ v, v < n → (0 ≤ S.1 v ∧ S.1 v ≤ 256) ∧ (0 ≤ S.2.1 v ∧ S.2.1 v ≤ 256) ∧ (0 ≤ S.2.2.1 v ∧ S.2.2.1 v ≤ 256)) : ∃ A1 : Nat → Nat → Int32, StQ n A1 (pdS b nx S i) ∧ (∀ k, k ≠ 5 → k ≠ 8 → k ≠ 9 → k ≠ 11 → A1 k = A k) ∧ mj_Ct m_Streams_passDown [.ref (mj_NE + 5), .int (iI i), .int (iI b)] (Wd xs L A V Y) none (Wd xs L A1 V Y) 0 0 1 := by
  obtain ⟨A1, u3, g1, g2, hr⟩ := c_passA (xs := xs) (L := L) (V := V) (Y := Y) hi hn hb hS hbd
  have hc : (iI i).toNatClampNeg = i := cl_nat (by omega)
  have hin : vp_in (iI i) 256 := in_nat (by omega) (by omega)
  have e4 : A1 4 (iI i).toNatClampNeg = iI (nx i) := by rw [hc, g2 4 (by omega) (by omega)]; exact h4
  have bR : ∀ v, v < n → 0 ≤ pdR b S i v ∧ pdR b S i v ≤ 257 := by
    intro v hv
    have := (hbd v hv).2.1
    unfold pdR
    by_cases e : v = i
    · subst e; rw [supI_eq]; repeat' split
      all_goals omega
    · rw [supI_ne e]; omega
  have bL : ∀ v, v < n → 0 ≤ pdL b S i v ∧ pdL b S i v ≤ 257 := by
    intro v hv
    have := (hbd v hv).2.2
    unfold pdL
    by_cases e : v = i
    · subst e; rw [supI_eq]; split <;> omega
    · rw [supI_ne e]; omega
  by_cases hneg : nx i < 0
  · refine ⟨A1, fun j hj => ?_, fun k k5 k8 k9 k11 => g2 k k8 k9, ct_of ok_Streams_passDown rfl (r_tr hr (r_to ok_Streams_passDown 9999 [true] rfl ⟨hin, by
      show A1 4 (iI i).toNatClampNeg < iI 0
      rw [e4, iI_lt ⟨by omega, by omega⟩ ⟨by omega, by omega⟩]
      exact hneg, trivial⟩)) rfl rfl rfl rfl rfl⟩
    obtain ⟨f5, f8, f9, f11⟩ := hS j hj
    unfold pdS
    rw [if_pos hneg]
    exact ⟨by rw [g2 5 (by omega) (by omega)]; exact f5, (g1 j hj).1, (g1 j hj).2, by rw [g2 11 (by omega) (by omega)]; exact f11⟩
  · obtain ⟨t, ht⟩ : ∃ t : Nat, (t : Int) = nx i := ⟨(nx i).toNat, by omega⟩
    have ht2 : (nx i).toNat = t := by omega
    have htn : t < n := by omega
    have hti : t ≠ i := by omega
    have hct : (iI t).toNatClampNeg = t := cl_nat (by omega)
    have hit : vp_in (iI t) 256 := in_nat (by omega) (by omega)
    rw [← ht] at e4
    obtain ⟨r1, l1⟩ := g1 i hi
    obtain ⟨r2, l2⟩ := g1 t htn
    have f1 : A1 5 i = iI (S.1 i) := by rw [g2 5 (by omega) (by omega)]; exact (hS i hi).1
    have f2 : A1 5 t = iI (S.1 t) := by rw [g2 5 (by omega) (by omega)]; exact (hS t htn).1
    have sh2 : A1 11 t = bI (S.2.2.2 t) := by rw [g2 11 (by omega) (by omega)]; exact (hS t htn).2.2.2
    have bi := bR i hi
    have bt := bR t htn
    have bi2 := bL i hi
    have bt2 := bL t htn
    have t1 : mj_Rc m_Streams_passDown 0 0 1 (62, [.ref (mj_NE + 5), .int (iI i), .int (iI b), u3], [], Wd xs L A1 V Y, 0, 0) (73, [.ref (mj_NE + 5), .int (iI i), .int (iI b), .int (A1 4 (iI i).toNatClampNeg)], [], Wd xs L A1 V Y, 0, 0) := r_to ok_Streams_passDown 73 [false] rfl ⟨hin, by
      show ¬ (A1 4 (iI i).toNatClampNeg < iI 0)
      rw [e4, iI_lt ⟨by omega, by omega⟩ ⟨by omega, by omega⟩]
      omega, trivial⟩
    rw [e4] at t1
    have t2 : mj_Rc m_Streams_passDown 0 0 1 (73, [.ref (mj_NE + 5), .int (iI i), .int (iI b), .int (iI t)], [], Wd xs L A1 V Y, 0, 0) (105, [.ref (mj_NE + 5), .int (iI i), .int (iI b), .int (iI t)], [.int (A1 9 (iI i).toNatClampNeg), .int (A1 9 (iI t).toNatClampNeg), .int (iI t), .ref (mj_NE + 12)], Wd xs L (wA A1 5 (upd (A1 5) (iI t).toNatClampNeg (A1 5 (iI t).toNatClampNeg + A1 5 (iI i).toNatClampNeg))) V Y, 0, 0) := r_to ok_Streams_passDown 9999 [] rfl ⟨hit, hin, hit, hit, hin, trivial⟩
    rw [hct, hc, l1, l2, f1, f2, iI_add] at t2
    have t3 := r_tr (r_tr t1 t2) (q_S ok_Streams_passDown ok_Math_max st_Math_max (c_max (a := pdL b S i t) (b := pdL b S i i) ⟨by omega, by omega⟩ ⟨by omega, by omega⟩) rfl rfl rfl rfl ⟨rfl, rfl, rfl⟩)
    have t4 : mj_Rc m_Streams_passDown 0 0 1 (108, [.ref (mj_NE + 5), .int (iI i), .int (iI b), .int (iI t)], [.int (iI (max (pdL b S i t) (pdL b S i i))), .int (iI t), .ref (mj_NE + 12)], Wd xs L (wA A1 5 (upd (A1 5) t (iI (S.1 t + S.1 i)))) V Y, 0, 0) (109, [.ref (mj_NE + 5), .int (iI i), .int (iI b), .int (iI t)], [], Wd xs L (wA (wA A1 5 (upd (A1 5) t (iI (S.1 t + S.1 i)))) 9 (upd (A1 9) (iI t).toNatClampNeg (iI (max (pdL b S i t) (pdL b S i i))))) V Y, 0, 0) := r_to ok_Streams_passDown 109 [] rfl ⟨hit, trivial⟩
    rw [hct] at t4
    have t5 := r_tr t3 t4
    obtain ⟨A3, hA3⟩ : ∃ A3, A3 = wA (wA A1 5 (upd (A1 5) t (iI (S.1 t + S.1 i)))) 9 (upd (A1 9) t (iI (max (pdL b S i t) (pdL b S i i)))) := ⟨_, rfl⟩
    rw [← hA3] at t5
    have v8 : ∀ j, A3 8 j = A1 8 j := fun j => by rw [hA3, wA_n (by omega), wA_n (by omega)]
    have v11 : ∀ j, A3 11 j = A1 11 j := fun j => by rw [hA3, wA_n (by omega), wA_n (by omega)]
    have x1 : A3 8 (iI i).toNatClampNeg = iI (pdR b S i i) := by rw [hc, v8, r1]
    have x2 : A3 8 (iI t).toNatClampNeg = iI (pdR b S i t) := by rw [hct, v8, r2]
    have x3 : A3 11 (iI t).toNatClampNeg = bI (S.2.2.2 t) := by rw [hct, v11, sh2]
    have SH : ∀ z : Bool, z = (decide (pdR b S i i = pdR b S i t) || (S.2.2.2 t && decide (pdR b S i i < pdR b S i t))) → mj_Rc m_Streams_passDown 0 0 1 (109, [.ref (mj_NE + 5), .int (iI i), .int (iI b), .int (iI t)], [], Wd xs L A3 V Y, 0, 0) (176, [.ref (mj_NE + 5), .int (iI i), .int (iI b), .int (iI t)], [.int (iI (pdR b S i i)), .int (iI (pdR b S i t)), .int (iI t), .ref (mj_NE + 11)], Wd xs L (wA A3 11 (upd (A3 11) t (bI z))) V Y, 0, 0) := by
      intro z hz
      by_cases heq : pdR b S i i = pdR b S i t
      · have e : z = true := by rw [hz, decide_eq_true heq]; rfl
        have q : mj_Rc m_Streams_passDown 0 0 1 (109, [.ref (mj_NE + 5), .int (iI i), .int (iI b), .int (iI t)], [], Wd xs L A3 V Y, 0, 0) (176, [.ref (mj_NE + 5), .int (iI i), .int (iI b), .int (iI t)], [.int (A3 8 (iI i).toNatClampNeg), .int (A3 8 (iI t).toNatClampNeg), .int (iI t), .ref (mj_NE + 11)], Wd xs L (wA A3 11 (upd (A3 11) (iI t).toNatClampNeg (bI true))) V Y, 0, 0) := r_to ok_Streams_passDown 9999 [true] rfl ⟨hin, hit, by
          show A3 8 (iI i).toNatClampNeg = A3 8 (iI t).toNatClampNeg
          rw [x1, x2, heq], hit, hit, hin, trivial⟩
        rw [x1, x2, hct, ← e] at q
        exact q
      · have c1 : ¬ (A3 8 (iI i).toNatClampNeg = A3 8 (iI t).toNatClampNeg) := by
          rw [x1, x2, iI_eq ⟨by omega, by omega⟩ ⟨by omega, by omega⟩]
          exact heq
        cases hsh : S.2.2.2 t with
        | false =>
          have e : z = false := by rw [hz, hsh, decide_eq_false heq]; rfl
          have q : mj_Rc m_Streams_passDown 0 0 1 (109, [.ref (mj_NE + 5), .int (iI i), .int (iI b), .int (iI t)], [], Wd xs L A3 V Y, 0, 0) (176, [.ref (mj_NE + 5), .int (iI i), .int (iI b), .int (iI t)], [.int (A3 8 (iI i).toNatClampNeg), .int (A3 8 (iI t).toNatClampNeg), .int (iI t), .ref (mj_NE + 11)], Wd xs L (wA A3 11 (upd (A3 11) (iI t).toNatClampNeg (bI false))) V Y, 0, 0) := r_to ok_Streams_passDown 9999 [false, true] rfl ⟨hin, hit, c1, hit, by
            show A3 11 (iI t).toNatClampNeg = 0
            rw [x3, hsh]
            rfl, hit, hit, hin, trivial⟩
          rw [x1, x2, hct, ← e] at q
          exact q
        | true =>
          have c2 : ¬ (A3 11 (iI t).toNatClampNeg = 0) := by rw [x3, hsh]; decide
          by_cases hlt : pdR b S i i < pdR b S i t
          · have e : z = true := by rw [hz, hsh, decide_eq_true hlt]; simp
            have q : mj_Rc m_Streams_passDown 0 0 1 (109, [.ref (mj_NE + 5), .int (iI i), .int (iI b), .int (iI t)], [], Wd xs L A3 V Y, 0, 0) (176, [.ref (mj_NE + 5), .int (iI i), .int (iI b), .int (iI t)], [.int (A3 8 (iI i).toNatClampNeg), .int (A3 8 (iI t).toNatClampNeg), .int (iI t), .ref (mj_NE + 11)], Wd xs L (wA A3 11 (upd (A3 11) (iI t).toNatClampNeg (bI true))) V Y, 0, 0) := r_to ok_Streams_passDown 9999 [false, false, false] rfl ⟨hin, hit, c1, hit, c2, hin, hit, by
              show ¬ (A3 8 (iI t).toNatClampNeg ≤ A3 8 (iI i).toNatClampNeg)
              rw [x1, x2, iI_le ⟨by omega, by omega⟩ ⟨by omega, by omega⟩]
              omega, hit, hit, hin, trivial⟩
            rw [x1, x2, hct, ← e] at q
            exact q
          · have e : z = false := by rw [hz, hsh, decide_eq_false hlt, decide_eq_false heq]; rfl
            have q : mj_Rc m_Streams_passDown 0 0 1 (109, [.ref (mj_NE + 5), .int (iI i), .int (iI b), .int (iI t)], [], Wd xs L A3 V Y, 0, 0) (176, [.ref (mj_NE + 5), .int (iI i), .int (iI b), .int (iI t)], [.int (A3 8 (iI i).toNatClampNeg), .int (A3 8 (iI t).toNatClampNeg), .int (iI t), .ref (mj_NE + 11)], Wd xs L (wA A3 11 (upd (A3 11) (iI t).toNatClampNeg (bI false))) V Y, 0, 0) := r_to ok_Streams_passDown 9999 [false, false, true] rfl ⟨hin, hit, c1, hit, c2, hin, hit, by
              show A3 8 (iI t).toNatClampNeg ≤ A3 8 (iI i).toNatClampNeg
              rw [x1, x2, iI_le ⟨by omega, by omega⟩ ⟨by omega, by omega⟩]
              omega, hit, hit, hin, trivial⟩
            rw [x1, x2, hct, ← e] at q
            exact q
    have t6 := r_tr (r_tr t5 (SH _ rfl)) (q_S ok_Streams_passDown ok_Math_max st_Math_max (c_max (a := pdR b S i t) (b := pdR b S i i) ⟨by omega, by omega⟩ ⟨by omega, by omega⟩) rfl rfl rfl rfl ⟨rfl, rfl, rfl⟩)
    generalize hz : (decide (pdR b S i i = pdR b S i t) || (S.2.2.2 t && decide (pdR b S i i < pdR b S i t))) = z at t6
    have t7 : mj_Rc m_Streams_passDown 0 0 1 (179, [.ref (mj_NE + 5), .int (iI i), .int (iI b), .int (iI t)], [.int (iI (max (pdR b S i t) (pdR b S i i))), .int (iI t), .ref (mj_NE + 11)], Wd xs L (wA A3 11 (upd (A3 11) t (bI z))) V Y, 0, 0) (180, [.ref (mj_NE + 5), .int (iI i), .int (iI b), .int (iI t)], [], Wd xs L (wA (wA A3 11 (upd (A3 11) t (bI z))) 8 (upd (A3 8) (iI t).toNatClampNeg (iI (max (pdR b S i t) (pdR b S i i))))) V Y, 0, 0) := r_to ok_Streams_passDown 9999 [] rfl ⟨hit, trivial⟩
    rw [hct] at t7
    refine ⟨_, fun j hj => ?_, fun k k5 k8 k9 k11 => ?_, ct_of ok_Streams_passDown rfl (r_tr hr (r_tr t6 t7)) rfl rfl rfl rfl rfl⟩
    · obtain ⟨f5, f8, f9, f11⟩ := hS j hj
      unfold pdS
      rw [if_neg hneg, ht2, hz]
      show (wA (wA A3 11 _) 8 _) 5 j = iI (supI S.1 t _ j) ∧ (wA (wA A3 11 _) 8 _) 8 j = iI (supI (pdR b S i) t _ j) ∧ (wA (wA A3 11 _) 8 _) 9 j = iI (supI (pdL b S i) t _ j) ∧ (wA (wA A3 11 _) 8 _) 11 j = bI (supI S.2.2.2 t z j)
      rw [wA_n (l := 5) (by omega), wA_n (l := 5) (by omega), wA_s, wA_n (l := 9) (by omega), wA_n (l := 9) (by omega), wA_n (l := 11) (by omega), wA_s]
      have a5 : A3 5 = upd (A1 5) t (iI (S.1 t + S.1 i)) := by rw [hA3, wA_n (by omega), wA_s]
      have a9 : A3 9 = upd (A1 9) t (iI (max (pdL b S i t) (pdL b S i i))) := by rw [hA3, wA_s]
      rw [a5, a9]
      by_cases e : j = t
      · subst e
        rw [supI_eq, supI_eq, supI_eq, supI_eq, upd_eq, upd_eq, upd_eq, upd_eq]
        exact ⟨rfl, rfl, rfl, rfl⟩
      · rw [supI_ne e, supI_ne e, supI_ne e, supI_ne e, upd_ne e, upd_ne e, upd_ne e, upd_ne e, v8, v11]
        exact ⟨by rw [g2 5 (by omega) (by omega)]; exact f5, (g1 j hj).1, (g1 j hj).2, by rw [g2 11 (by omega) (by omega)]; exact f11⟩
    · rw [wA_n k8, wA_n k11, hA3, wA_n k9, wA_n k5]
      exact g2 k k8 k9
end RUN
