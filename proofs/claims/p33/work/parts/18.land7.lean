/-! Land: ditches where nothing is higher, filling, smoothing, wearing -/
section LAND7
variable {xs : Nat → Int32} {L : Nat} {A : Nat → Nat → Int32} {V : Nat → Int32} {Y : mj_H}
variable {w h : Int} {n : Nat} {H : Nat → Int}
def adH (G H : Nat → Int) : Nat → Int
  | 0 => 0
  | n + 1 => adH G H n + (G n - H n)
theorem adH_bd {G H : Nat → Int} {N : Nat} (h : ∀ j, j < N → 0 ≤ H j ∧ H j ≤ 999) (g : ∀ j, j < N → 0 ≤ G j ∧ G j ≤ 999) : ∀ n : Nat, n ≤ N → -(999 * n) ≤ adH G H n ∧ adH G H n ≤ 999 * n := by
  intro n
  induction n with
  | zero => intro _; unfold adH; omega
  | succ n ih => intro hn; have := ih (by omega); have := h n (by omega); have := g n (by omega); unfold adH; omega
theorem clH_id {z : Int} (h : 0 ≤ z ∧ z ≤ 999) : clH z = z := by
  unfold clH
  rw [if_neg (by omega), if_neg (by omega)]
theorem c_raiseTo {G : Nat → Int} (hV : V 2 = iI n) (hn : n ≤ 256) (hH : Hts (A 0) n H) (hG : Hts (A 13) n G) : mj_Ct m_Land_raiseTo [.ref (mj_NE + 1), .ref (mj_NE + 17)] (Wd xs L A V Y) (some (.int (iI (adH G H n)))) (Wd xs L (wA A 0 (pw (fun j => iI (G j)) (A 0) n)) V Y) 0 0 1 := by
  have hb := adH_bd (G := G) (H := H) (N := n) (fun j hj => (hH j hj).2) (fun j hj => (hG j hj).2)
  have lp : ∀ k : Nat, k ≤ n → mj_Rc m_Land_raiseTo 0 0 1 (4, [.ref (mj_NE + 1), .ref (mj_NE + 17), .int 0, .int 0], [], Wd xs L A V Y, 0, 0) (4, [.ref (mj_NE + 1), .ref (mj_NE + 17), .int (iI (adH G H k)), .int (iI k)], [], Wd xs L (wA A 0 (pw (fun j => iI (G j)) (A 0) k)) V Y, 0, 0) := by
    intro k
    induction k with
    | zero => intro _; rw [pw_0, wA_id]; exact r_rf
    | succ k ih =>
      intro hk
      have b1 := hb k (by omega)
      obtain ⟨e1, h1, h2⟩ := hH k (by omega)
      obtain ⟨e2, h3, h4⟩ := hG k (by omega)
      have hc : (iI k).toNatClampNeg = k := cl_nat (by omega)
      have hin : vp_in (iI k) 256 := in_nat (by omega) (by omega)
      have s1 : mj_Rc m_Land_raiseTo 0 0 1 (4, [.ref (mj_NE + 1), .ref (mj_NE + 17), .int (iI (adH G H k)), .int (iI k)], [], Wd xs L (wA A 0 (pw (fun j => iI (G j)) (A 0) k)) V Y, 0, 0) (21, [.ref (mj_NE + 1), .ref (mj_NE + 17), .int (iI (adH G H k)), .int (iI k)], [.int (A 13 (iI k).toNatClampNeg), .int (iI k), .ref (mj_NE + 1), .int (A 13 (iI k).toNatClampNeg), .int (iI (adH G H k))], Wd xs L (wA A 0 (pw (fun j => iI (G j)) (A 0) k)) V Y, 0, 0) := r_to ok_Land_raiseTo 9999 [false] rfl ⟨br_ge hV ⟨by omega, by omega⟩ ⟨by omega, by omega⟩ (by omega), hin, hin, trivial⟩
      rw [hc, e2] at s1
      have s2 := r_tr (r_tr (ih (by omega)) s1) (q_V ok_Land_raiseTo ok_Land_exchange se_Land_exchange (c_exchange (i := (k : Int)) ⟨by omega, by omega⟩ ⟨by omega, by omega⟩) rfl rfl rfl rfl rfl ⟨rfl, rfl, rfl⟩)
      rw [wA_s, wA_f, Int.toNat_natCast, pw_ge (Nat.lt_irrefl _), e1, pw_s (by rw [clH_id ⟨h3, h4⟩])] at s2
      have s3 := r_tr s2 (r_to (g' := (4, [.ref (mj_NE + 1), .ref (mj_NE + 17), .int (iI (adH G H k) + (iI (G k) - iI (H k))), .int (iI k + 1)], [], Wd xs L (wA A 0 (pw (fun j => iI (G j)) (A 0) (k + 1))) V Y, 0, 0)) ok_Land_raiseTo 4 [] rfl trivial)
      rw [iI_1, iI_sub, iI_add] at s3
      exact s3
  exact ct_of ok_Land_raiseTo rfl (r_tr (r_to ok_Land_raiseTo 4 [] rfl trivial) (r_tr (lp n (Nat.le_refl _)) (r_to ok_Land_raiseTo 9999 [true] rfl ⟨br_lt hV ⟨by omega, by omega⟩ ⟨by omega, by omega⟩ (by omega), trivial⟩))) rfl rfl rfl rfl rfl
/-- the HEIGHT of the NEIGHBOUR in a direction, its own where there is none -/
def nvH (w h : Int) (H : Nat → Int) (i d : Nat) : Int := if nbi w h i d < 0 then H i else H (nbi w h i d).toNat
def sfH (w h : Int) (H : Nat → Int) (i : Nat) : Int := (4 * H i + nvH w h H i 0 + nvH w h H i 2 + nvH w h H i 4 + nvH w h H i 6) / 8
theorem nvH_bd {N : Nat} (hw : 2 ≤ w ∧ w ≤ 16) (hh : 2 ≤ h ∧ h ≤ 16) (hN : (N : Int) = w * h) (hH : ∀ j, j < N → 0 ≤ H j ∧ H j ≤ 999) {i : Nat} (hi : i < N) (d : Nat) : 0 ≤ nvH w h H i d ∧ nvH w h H i d ≤ 999 := by
  unfold nvH
  have bd := nbi_bd hw hh i d
  split
  · exact hH i hi
  · exact hH _ (by omega)
theorem sfH_bd {N : Nat} (hw : 2 ≤ w ∧ w ≤ 16) (hh : 2 ≤ h ∧ h ≤ 16) (hN : (N : Int) = w * h) (hH : ∀ j, j < N → 0 ≤ H j ∧ H j ≤ 999) {i : Nat} (hi : i < N) : 0 ≤ sfH w h H i ∧ sfH w h H i ≤ 999 := by
  have a0 := nvH_bd hw hh hN hH hi 0
  have a2 := nvH_bd hw hh hN hH hi 2
  have a4 := nvH_bd hw hh hN hH hi 4
  have a6 := nvH_bd hw hh hN hH hi 6
  have a := hH i hi
  unfold sfH
  omega
set_option maxHeartbeats 1000000 in
theorem c_soften (hV : V 2 = iI n) (hw : 2 ≤ w ∧ w ≤ 16) (hh : 2 ≤ h ∧ h ≤ 16) (hnw : (n : Int) = w * h) (hN : nbOK w h (A 2) n) (hH : Hts (A 0) n H) : mj_Ct m_Land_soften [.ref (mj_NE + 1)] (Wd xs L A V Y) (some (.int (iI (cnt (fun j => decide (H j ≠ sfH w h H j)) n)))) (Wd xs L (wA (wA A 1 (pw (fun j => iI (sfH w h H j)) (A 1) n)) 0 (pw (fun j => iI (sfH w h H j)) (A 0) n)) V Y) 0 0 1 := by
  have wh := wh_bd hw hh
  have hH2 : ∀ j, j < n → 0 ≤ H j ∧ H j ≤ 999 := fun j hj => (hH j hj).2
  -- one direction
  have dir : ∀ (A1 : Nat → Nat → Int32), A1 0 = A 0 → A1 2 = A 2 → ∀ (i : Nat), i < n → ∀ (dI s : Int) (d : Nat), dI = d → d < 8 → (0 ≤ s ∧ s ≤ 10000) → ∀ u : Value, ∃ u' : Value, mj_Rc m_Land_soften 0 0 1 (21, [.ref (mj_NE + 1), .int (iI i), .int (iI s), .int (iI dI), u], [], Wd xs L A1 V Y, 0, 0) (21, [.ref (mj_NE + 1), .int (iI i), .int (iI (s + nvH w h H i d)), .int (iI (dI + 2)), u'], [], Wd xs L A1 V Y, 0, 0) := by
    intro A1 ha0 ha2 i hi dI s d hdI hd hs u
    have bd := nbi_bd hw hh i d
    have cnd : ¬ (iI 8 ≤ iI dI) := by rw [iI_le ⟨by omega, by omega⟩ ⟨by omega, by omega⟩]; omega
    have s1 : mj_Rc m_Land_soften 0 0 1 (21, [.ref (mj_NE + 1), .int (iI i), .int (iI s), .int (iI dI), u], [], Wd xs L A1 V Y, 0, 0) (30, [.ref (mj_NE + 1), .int (iI i), .int (iI s), .int (iI dI), u], [.int (iI dI), .int (iI i), .ref (mj_NE + 1)], Wd xs L A1 V Y, 0, 0) := r_to ok_Land_soften 9999 [false] rfl ⟨cnd, trivial⟩
    rw [hdI] at s1
    have s2 := r_tr s1 (q_V ok_Land_soften ok_Land_neighbour se_Land_neighbour (c_nbr (by rw [ha2]; exact hN) hi (by omega) hd) rfl rfl rfl rfl rfl ⟨rfl, rfl, rfl⟩)
    rw [← hdI] at s2
    have fin : ∀ j : Nat, j < n → H j = nvH w h H i d → mj_Rc m_Land_soften 0 0 1 (51, [.ref (mj_NE + 1), .int (iI i), .int (iI s), .int (iI dI), .int (iI (nbi w h i d))], [.int (iI j), .ref (mj_NE + 2), .int (iI s)], Wd xs L A1 V Y, 0, 0) (21, [.ref (mj_NE + 1), .int (iI i), .int (iI (s + nvH w h H i d)), .int (iI (dI + 2)), .int (iI (nbi w h i d))], [], Wd xs L A1 V Y, 0, 0) := by
      intro j hj hv
      obtain ⟨e0, b1, b2⟩ := hH j hj
      have s3 : mj_Rc m_Land_soften 0 0 1 (51, [.ref (mj_NE + 1), .int (iI i), .int (iI s), .int (iI dI), .int (iI (nbi w h i d))], [.int (iI j), .ref (mj_NE + 2), .int (iI s)], Wd xs L A1 V Y, 0, 0) (21, [.ref (mj_NE + 1), .int (iI i), .int (iI s + A1 0 (iI j).toNatClampNeg), .int (iI dI + iI 2), .int (iI (nbi w h i d))], [], Wd xs L A1 V Y, 0, 0) := r_to ok_Land_soften 21 [] rfl ⟨in_nat (by omega) (by omega), trivial⟩
      rw [cl_nat (by omega), ha0, e0, iI_add, iI_add, hv] at s3
      exact s3
    by_cases hnb : nbi w h i d < 0
    · have s3 := r_tr s2 (r_to (g' := (51, [.ref (mj_NE + 1), .int (iI i), .int (iI s), .int (iI dI), .int (iI (nbi w h i d))], [.int (iI i), .ref (mj_NE + 2), .int (iI s)], Wd xs L A1 V Y, 0, 0)) ok_Land_soften 51 [false] rfl ⟨by
        show ¬ (iI 0 ≤ iI (nbi w h i d))
        rw [iI_le ⟨by omega, by omega⟩ ⟨by omega, by omega⟩]
        omega, trivial⟩)
      exact ⟨_, r_tr s3 (fin i hi (by unfold nvH; rw [if_pos hnb]))⟩
    · obtain ⟨j, hj⟩ : ∃ j : Nat, (j : Int) = nbi w h i d := ⟨(nbi w h i d).toNat, by omega⟩
      have s3 := r_tr s2 (r_to (g' := (51, [.ref (mj_NE + 1), .int (iI i), .int (iI s), .int (iI dI), .int (iI (nbi w h i d))], [.int (iI (nbi w h i d)), .ref (mj_NE + 2), .int (iI s)], Wd xs L A1 V Y, 0, 0)) ok_Land_soften 51 [true] rfl ⟨by
        show iI 0 ≤ iI (nbi w h i d)
        rw [iI_le ⟨by omega, by omega⟩ ⟨by omega, by omega⟩]
        omega, trivial⟩)
      have s4 := fin j (by omega) (by unfold nvH; rw [if_neg hnb, ← hj]; rfl)
      rw [← hj] at s3 s4
      exact ⟨_, r_tr s3 s4⟩
  have lp1 : ∀ k : Nat, k ≤ n → ∃ u2 u3 u4 : Value, mj_Rc m_Land_soften 0 0 1 (2, [.ref (mj_NE + 1), .int 0, mj_u, mj_u, mj_u], [], Wd xs L A V Y, 0, 0) (2, [.ref (mj_NE + 1), .int (iI k), u2, u3, u4], [], Wd xs L (wA A 1 (pw (fun j => iI (sfH w h H j)) (A 1) k)) V Y, 0, 0) := by
    intro k
    induction k with
    | zero => intro _; rw [pw_0, wA_id]; exact ⟨_, _, _, r_rf⟩
    | succ k ih =>
      intro hk
      obtain ⟨u2, u3, u4, hr⟩ := ih (by omega)
      obtain ⟨e0, b1, b2⟩ := hH k (by omega)
      have hc : (iI k).toNatClampNeg = k := cl_nat (by omega)
      have hin : vp_in (iI k) 256 := in_nat (by omega) (by omega)
      generalize hA1 : wA A 1 (pw (fun j => iI (sfH w h H j)) (A 1) k) = A1 at hr
      have ha0 : A1 0 = A 0 := by rw [← hA1]; rfl
      have ha2 : A1 2 = A 2 := by rw [← hA1]; rfl
      have s1 : mj_Rc m_Land_soften 0 0 1 (2, [.ref (mj_NE + 1), .int (iI k), u2, u3, u4], [], Wd xs L A1 V Y, 0, 0) (21, [.ref (mj_NE + 1), .int (iI k), .int (iI 4 * A1 0 (iI k).toNatClampNeg), .int (iI 0), u4], [], Wd xs L A1 V Y, 0, 0) := r_to ok_Land_soften 21 [false] rfl ⟨br_ge hV ⟨by omega, by omega⟩ ⟨by omega, by omega⟩ (by omega), hin, trivial⟩
      rw [hc, ha0, e0, iI_mul] at s1
      have n0 := nvH_bd hw hh hnw hH2 (i := k) (by omega) 0
      have n2 := nvH_bd hw hh hnw hH2 (i := k) (by omega) 2
      have n4 := nvH_bd hw hh hnw hH2 (i := k) (by omega) 4
      have n6 := nvH_bd hw hh hnw hH2 (i := k) (by omega) 6
      obtain ⟨v1, t1⟩ := dir A1 ha0 ha2 k (by omega) 0 (4 * H k) 0 rfl (by omega) ⟨by omega, by omega⟩ u4
      obtain ⟨v2, t2⟩ := dir A1 ha0 ha2 k (by omega) (0 + 2) (4 * H k + nvH w h H k 0) 2 rfl (by omega) ⟨by omega, by omega⟩ v1
      obtain ⟨v3, t3⟩ := dir A1 ha0 ha2 k (by omega) (0 + 2 + 2) (4 * H k + nvH w h H k 0 + nvH w h H k 2) 4 rfl (by omega) ⟨by omega, by omega⟩ v2
      obtain ⟨v4, t4⟩ := dir A1 ha0 ha2 k (by omega) (0 + 2 + 2 + 2) (4 * H k + nvH w h H k 0 + nvH w h H k 2 + nvH w h H k 4) 6 rfl (by omega) ⟨by omega, by omega⟩ v3
      have t5 := r_tr hr (r_tr s1 (r_tr t1 (r_tr t2 (r_tr t3 t4))))
      have s2 : mj_Rc m_Land_soften 0 0 1 (21, [.ref (mj_NE + 1), .int (iI k), .int (iI (4 * H k + nvH w h H k 0 + nvH w h H k 2 + nvH w h H k 4 + nvH w h H k 6)), .int (iI (0 + 2 + 2 + 2 + 2)), v4], [], Wd xs L A1 V Y, 0, 0) (2, [.ref (mj_NE + 1), .int (iI k + 1), .int (iI (4 * H k + nvH w h H k 0 + nvH w h H k 2 + nvH w h H k 4 + nvH w h H k 6)), .int (iI (0 + 2 + 2 + 2 + 2)), v4], [], Wd xs L (wA A1 1 (upd (A1 1) (iI k).toNatClampNeg (iI (4 * H k + nvH w h H k 0 + nvH w h H k 2 + nvH w h H k 4 + nvH w h H k 6) / iI 8))) V Y, 0, 0) := r_to ok_Land_soften 2 [true] rfl ⟨by show iI 8 ≤ iI 8; exact Int32.le_refl _, by show ¬ (iI 8 = iI 0); decide +kernel, hin, trivial⟩
      rw [iI_1, hc, iI_div ⟨by omega, by omega⟩ ⟨by omega, by omega⟩, Int.tdiv_eq_ediv_of_nonneg (by omega)] at s2
      subst hA1
      rw [wA_s, wA_f, pw_s (by rfl)] at s2
      exact ⟨_, _, _, r_tr t5 s2⟩
  obtain ⟨u2, u3, u4, hr⟩ := lp1 n (Nat.le_refl _)
  generalize hA1 : wA A 1 (pw (fun j => iI (sfH w h H j)) (A 1) n) = A1 at hr ⊢
  have ha0 : A1 0 = A 0 := by rw [← hA1]; rfl
  have ha1 : ∀ j, j < n → A1 1 j = iI (sfH w h H j) := fun j hj => by rw [← hA1, wA_s, pw_lt hj]
  have t0 := r_tr hr (r_to (g' := (80, [.ref (mj_NE + 1), .int 0, .int 0, u3, u4], [], Wd xs L A1 V Y, 0, 0)) ok_Land_soften 80 [true] rfl ⟨br_lt hV ⟨by omega, by omega⟩ ⟨by omega, by omega⟩ (by omega), trivial⟩)
  have lp2 : ∀ k : Nat, k ≤ n → mj_Rc m_Land_soften 0 0 1 (80, [.ref (mj_NE + 1), .int 0, .int 0, u3, u4], [], Wd xs L A1 V Y, 0, 0) (80, [.ref (mj_NE + 1), .int (iI (cnt (fun j => decide (H j ≠ sfH w h H j)) k)), .int (iI k), u3, u4], [], Wd xs L (wA A1 0 (pw (fun j => iI (sfH w h H j)) (A 0) k)) V Y, 0, 0) := by
    intro k
    induction k with
    | zero => intro _; rw [pw_0, ← ha0, wA_id]; exact r_rf
    | succ k ih =>
      intro hk
      obtain ⟨e0, b1, b2⟩ := hH k (by omega)
      have sb := sfH_bd hw hh hnw hH2 (i := k) (by omega)
      have cb := cnt_bd (fun j => decide (H j ≠ sfH w h H j)) k
      have hc : (iI k).toNatClampNeg = k := cl_nat (by omega)
      have hin : vp_in (iI k) 256 := in_nat (by omega) (by omega)
      have s1 : mj_Rc m_Land_soften 0 0 1 (80, [.ref (mj_NE + 1), .int (iI (cnt (fun j => decide (H j ≠ sfH w h H j)) k)), .int (iI k), u3, u4], [], Wd xs L (wA A1 0 (pw (fun j => iI (sfH w h H j)) (A 0) k)) V Y, 0, 0) (97, [.ref (mj_NE + 1), .int (iI (cnt (fun j => decide (H j ≠ sfH w h H j)) k)), .int (iI k), u3, u4], [.int (A1 1 (iI k).toNatClampNeg), .int (iI k), .ref (mj_NE + 1), .int (iI (cnt (fun j => decide (H j ≠ sfH w h H j)) k))], Wd xs L (wA A1 0 (pw (fun j => iI (sfH w h H j)) (A 0) k)) V Y, 0, 0) := r_to ok_Land_soften 9999 [false] rfl ⟨br_ge hV ⟨by omega, by omega⟩ ⟨by omega, by omega⟩ (by omega), hin, trivial⟩
      rw [hc, ha1 k (by omega)] at s1
      have s2 := r_tr (r_tr (ih (by omega)) s1) (q_V ok_Land_soften ok_Land_exchange se_Land_exchange (c_exchange (i := (k : Int)) ⟨by omega, by omega⟩ ⟨by omega, by omega⟩) rfl rfl rfl rfl rfl ⟨rfl, rfl, rfl⟩)
      rw [wA_s, wA_f, Int.toNat_natCast, pw_ge (Nat.lt_irrefl _), e0, pw_s (by rw [clH_id sb])] at s2
      have ec : cnt (fun j => decide (H j ≠ sfH w h H j)) (k + 1) = cnt (fun j => decide (H j ≠ sfH w h H j)) k + (if decide (H k ≠ sfH w h H k) = true then 1 else 0) := rfl
      by_cases hne : H k = sfH w h H k
      · have s3 := r_tr s2 (r_to (g' := (80, [.ref (mj_NE + 1), .int (iI (cnt (fun j => decide (H j ≠ sfH w h H j)) k) + iI 0), .int (iI k + 1), u3, u4], [], Wd xs L (wA A1 0 (pw (fun j => iI (sfH w h H j)) (A 0) (k + 1))) V Y, 0, 0)) ok_Land_soften 80 [true] rfl ⟨hin, by
          show iI (H k) = A1 1 (iI k).toNatClampNeg
          rw [hc, ha1 k (by omega), ← hne], trivial⟩)
        rw [iI_1, iI_add, show cnt (fun j => decide (H j ≠ sfH w h H j)) k + 0 = cnt (fun j => decide (H j ≠ sfH w h H j)) (k + 1) by rw [ec, if_neg (by simp; exact hne)]] at s3
        exact s3
      · have s3 := r_tr s2 (r_to (g' := (80, [.ref (mj_NE + 1), .int (iI (cnt (fun j => decide (H j ≠ sfH w h H j)) k) + iI 1), .int (iI k + 1), u3, u4], [], Wd xs L (wA A1 0 (pw (fun j => iI (sfH w h H j)) (A 0) (k + 1))) V Y, 0, 0)) ok_Land_soften 80 [false] rfl ⟨hin, by
          show ¬ (iI (H k) = A1 1 (iI k).toNatClampNeg)
          rw [hc, ha1 k (by omega), iI_eq ⟨by omega, by omega⟩ ⟨by omega, by omega⟩]
          exact hne, trivial⟩)
        rw [iI_1, iI_add, show cnt (fun j => decide (H j ≠ sfH w h H j)) k + 1 = cnt (fun j => decide (H j ≠ sfH w h H j)) (k + 1) by rw [ec, if_pos (by simp; exact hne)]] at s3
        exact s3
  exact ct_of ok_Land_soften rfl (r_tr (r_to ok_Land_soften 2 [] rfl trivial) (r_tr t0 (r_tr (lp2 n (Nat.le_refl _)) (r_to ok_Land_soften 9999 [true] rfl ⟨br_lt hV ⟨by omega, by omega⟩ ⟨by omega, by omega⟩ (by omega), trivial⟩)))) rfl rfl rfl rfl rfl
end LAND7
