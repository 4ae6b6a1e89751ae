/-! LAKES in general: what is in one; the face -/
theorem jlF_cg {K : Nat} {lk lk' : Nat → Bool} {S : Int × (Nat → Nat)} {i n : Nat} {o : Int} (h : ∀ j, j < n → lk j = lk' j) (ho : o < n) : jlF K lk S i o = jlF K lk' S i o := by
  unfold jlF
  by_cases q : 0 ≤ o
  · rw [h o.toNat (by omega)]
  · rw [if_neg (fun z => q z.1), if_neg (fun z => q z.1)]
theorem fdF_cg {K : Nat} {w h : Int} {n : Nat} {lk lk' : Nat → Bool} (hw : 2 ≤ w ∧ w ≤ 16) (hh : 2 ≤ h ∧ h ≤ 16) (hnw : (n : Int) = w * h) (he : ∀ j, j < n → lk j = lk' j) : ∀ i : Nat, i ≤ n → fdF K w h lk i = fdF K w h lk' i := by
  intro i
  induction i with
  | zero => intro _; rfl
  | succ i ih =>
    intro hi
    have b0 := nbi_bd hw hh i 0
    have b2 := nbi_bd hw hh i 2
    have e1 : ∀ lk : Nat → Bool, fdF K w h lk (i + 1) = if lk i = true then jlF K lk (jlF K lk ((fdF K w h lk i).1 + 1, (fdF K w h lk i).2) i (nbi w h i 0)) i (nbi w h i 2) else fdF K w h lk i := fun _ => rfl
    rw [e1, e1, ih (by omega), he i (by omega), jlF_cg he (show nbi w h i 0 < n by omega), jlF_cg he (show nbi w h i 2 < n by omega)]
theorem olF_lt {K : Nat} {lk : Nat → Bool} {f : Nat → Nat} {a b : Nat} (hf : ∀ j, j < 512 → f j < 512) (ha : a < 512) (hb : b < 512) : ∀ j, j < 512 → (olF K lk f a b).2 j < 512 := by
  unfold olF
  by_cases q : lk a = true ∧ lk b = true
  · rw [if_pos q]
    exact (ldF_lt (ldF_lt hf ha).2 hb).2
  · rw [if_neg q]
    exact hf
theorem coF_lt {K : Nat} {lk : Nat → Bool} {dp : Nat → Int} {f : Nat → Nat} {m : Nat} (hf : ∀ j, j < 512 → f j < 512) (hm : m < 512) : ∀ i : Nat, i ≤ 512 → ∀ j, j < 512 → (coF K lk dp f m i).2 j < 512 := by
  intro i
  induction i with
  | zero => intro _; exact hf
  | succ i ih => intro hi; exact olF_lt (ih (by omega)) hm (by omega)
section LKG
variable {xs : Nat → Int32} {L : Nat} {A : Nat → Nat → Int32} {V : Nat → Int32} {Y : mj_H} {K : Nat} {w h : Int} {n : Nat} {H lev : Nat → Int} {f : Nat → Nat}
theorem c_findL (hK : K = 512) (hV : V 2 = iI n) (hw : 2 ≤ w ∧ w ≤ 16) (hh : 2 ≤ h ∧ h ≤ 16) (hnw : (n : Int) = w * h) (hN : nbOK w h (A 2) n) (hH : Hts (A 0) n H) (hLv : LvOK w h n H lev) : ∃ (A1 : Nat → Nat → Int32) (V1 : Nat → Int32), (∀ j, j < n → A1 13 j = iI (lev j)) ∧ (∀ j, j < 512 → A1 15 j = iI ((fdF K w h (fun j => decide (H j < lev j)) n).2 j)) ∧ V1 4 = iI (fdF K w h (fun j => decide (H j < lev j)) n).1 ∧ (∀ k, k ≠ 13 → k ≠ 14 → k ≠ 15 → A1 k = A k) ∧ (∀ k, k ≠ 4 → k ≠ 5 → V1 k = V k) ∧ mj_Ct m_Hollows_find [.ref (mj_NE + 16)] (Wd xs L A V Y) none (Wd xs L A1 V1 Y) 0 0 4 := by
  obtain ⟨A1, V1, l, hl, g1, g2, g3, g4, g5, hct⟩ := c_findG (xs := xs) (L := L) (A := A) (V := V) (Y := Y) (K := K) hK hV hw hh hnw hN hH
  have e : ∀ j, j < n → l j = lev j := fun j hj => LvOK_eq hLv hl hj
  have ef := fdF_cg (K := K) (lk := fun j => decide (H j < l j)) (lk' := (fun j => decide (H j < lev j))) hw hh hnw (fun j hj => by rw [e j hj]) n (Nat.le_refl _)
  rw [ef] at g2 g3
  exact ⟨A1, V1, fun j hj => by rw [g1 j hj, e j hj], g2, g3, g4, g5, hct⟩
theorem c_inOneLakeG {m i : Nat} (hK : K = 512) (hn : n ≤ 256) (h13 : ∀ j, j < n → A 13 j = iI (lev j)) (h0 : ∀ j, j < n → A 0 j = iI (H j)) (hb : ∀ j, j < n → 0 ≤ H j ∧ H j ≤ 999 ∧ 0 ≤ lev j ∧ lev j ≤ 999) (hf : ∀ j, j < 512 → A 15 j = iI (f j) ∧ f j < 512) (hm : m < n) (hi : i < n) : ∃ A1 : Nat → Nat → Int32, (∀ j, j < 512 → A1 15 j = iI ((olF K (fun j => decide (H j < lev j)) f m i).2 j)) ∧ (∀ k, k ≠ 15 → A1 k = A k) ∧ mj_Ct m_Hollows_inOneLake [.ref (mj_NE + 16), .int (iI (m : Int)), .int (iI (i : Int))] (Wd xs L A V Y) (some (.int (bI (olF K (fun j => decide (H j < lev j)) f m i).1))) (Wd xs L A1 V Y) 0 0 2 := by
  have bm := hb m hm
  have bi := hb i hi
  have t1 := r_to (RC := 0) (RS := 0) (dd := 2) (g := (0, [.ref (mj_NE + 16), .int (iI (m : Int)), .int (iI (i : Int))], [], Wd xs L A V Y, 0, 0)) (g' := (2, [.ref (mj_NE + 16), .int (iI (m : Int)), .int (iI (i : Int))], [.int (iI (m : Int)), .ref (mj_NE + 16)], Wd xs L A V Y, 0, 0)) ok_Hollows_inOneLake 9999 [] rfl trivial
  have t2 := r_tr t1 (q_V ok_Hollows_inOneLake ok_Hollows_inLake se_Hollows_inLake (c_inLake (by omega) (h13 m hm) (h0 m hm) ⟨by omega, by omega, by omega, by omega⟩) rfl rfl rfl rfl rfl ⟨rfl, rfl, rfl⟩)
  by_cases q1 : H m < lev m
  · rw [decide_eq_true q1] at t2
    have t3 := r_tr t2 (r_to (g' := (10, [.ref (mj_NE + 16), .int (iI (m : Int)), .int (iI (i : Int))], [.int (iI (i : Int)), .ref (mj_NE + 16)], Wd xs L A V Y, 0, 0)) ok_Hollows_inOneLake 9999 [false] rfl ⟨by show ¬ ((1 : Int32) = 0); decide, trivial⟩)
    have t4 := r_tr t3 (q_V ok_Hollows_inOneLake ok_Hollows_inLake se_Hollows_inLake (c_inLake (by omega) (h13 i hi) (h0 i hi) ⟨by omega, by omega, by omega, by omega⟩) rfl rfl rfl rfl rfl ⟨rfl, rfl, rfl⟩)
    by_cases q2 : H i < lev i
    · rw [decide_eq_true q2] at t4
      have e : olF K (fun j => decide (H j < lev j)) f m i = (decide ((ldF K f m).1 = (ldF K (ldF K f m).2 i).1), (ldF K (ldF K f m).2 i).2) := if_pos ⟨decide_eq_true q1, decide_eq_true q2⟩
      rw [e]
      have l1 := ldF_lt (K := K) (fun j hj => (hf j hj).2) (show m < 512 by omega)
      obtain ⟨A1, g1, g2, c1⟩ := c_leaderOfH (xs := xs) (L := L) (V := V) (Y := Y) hK hf (show m < 512 by omega)
      have l2 := ldF_lt (K := K) l1.2 (show i < 512 by omega)
      obtain ⟨A2, u1, u2, c2⟩ := c_leaderOfH (xs := xs) (L := L) (V := V) (Y := Y) (A := A1) (f := (ldF K f m).2) hK (fun j hj => ⟨g1 j hj, l1.2 j hj⟩) (show i < 512 by omega)
      have t5 := r_tr t4 (r_to (g' := (21, [.ref (mj_NE + 16), .int (iI (m : Int)), .int (iI (i : Int))], [.int (iI (m : Int)), .ref (mj_NE + 20)], Wd xs L A V Y, 0, 0)) ok_Hollows_inOneLake 9999 [false] rfl ⟨by show ¬ ((1 : Int32) = 0); decide, trivial⟩)
      have t6 := r_tr t5 (q_V ok_Hollows_inOneLake ok_Groups_leaderOf se_Groups_leaderOf c1 rfl rfl rfl rfl rfl ⟨rfl, rfl, rfl⟩)
      have t7 := r_tr t6 (r_to (g' := (29, [.ref (mj_NE + 16), .int (iI (m : Int)), .int (iI (i : Int))], [.int (iI (i : Int)), .ref (mj_NE + 20), .int (iI (ldF K f m).1)], Wd xs L A1 V Y, 0, 0)) ok_Hollows_inOneLake 9999 [] rfl trivial)
      have t8 := r_tr t7 (q_V ok_Hollows_inOneLake ok_Groups_leaderOf se_Groups_leaderOf c2 rfl rfl rfl rfl rfl ⟨rfl, rfl, rfl⟩)
      refine ⟨A2, u1, fun k hk => by rw [u2 k hk, g2 k hk], ?_⟩
      by_cases q3 : (ldF K f m).1 = (ldF K (ldF K f m).2 i).1
      · have t9 := r_tr t8 (r_to (g' := (40, [.ref (mj_NE + 16), .int (iI (m : Int)), .int (iI (i : Int))], [.int (bI true)], Wd xs L A2 V Y, 0, 0)) ok_Hollows_inOneLake 9999 [false] rfl ⟨by
          show ¬ (¬ (iI (ldF K f m).1 = iI (ldF K (ldF K f m).2 i).1))
          rw [q3]
          exact fun z => z rfl, trivial⟩)
        rw [decide_eq_true q3]
        exact ct_of ok_Hollows_inOneLake rfl t9 rfl rfl ⟨rfl, bI_nar true⟩ rfl rfl
      · have t9 := r_tr t8 (r_to (g' := (40, [.ref (mj_NE + 16), .int (iI (m : Int)), .int (iI (i : Int))], [.int (bI false)], Wd xs L A2 V Y, 0, 0)) ok_Hollows_inOneLake 9999 [true] rfl ⟨by
          show ¬ (iI (ldF K f m).1 = iI (ldF K (ldF K f m).2 i).1)
          rw [iI_eq ⟨by omega, by omega⟩ ⟨by omega, by omega⟩]
          omega, trivial⟩)
        rw [decide_eq_false q3]
        exact ct_of ok_Hollows_inOneLake rfl t9 rfl rfl ⟨rfl, bI_nar false⟩ rfl rfl
    · rw [decide_eq_false q2] at t4
      have e : olF K (fun j => decide (H j < lev j)) f m i = (false, f) := if_neg (fun z => q2 (of_decide_eq_true z.2))
      rw [e]
      have t5 := r_tr t4 (r_to (g' := (40, [.ref (mj_NE + 16), .int (iI (m : Int)), .int (iI (i : Int))], [.int (bI false)], Wd xs L A V Y, 0, 0)) ok_Hollows_inOneLake 9999 [true] rfl ⟨by show ((0 : Int32) = 0); rfl, trivial⟩)
      exact ⟨A, fun j hj => (hf j hj).1, fun _ _ => rfl, ct_of ok_Hollows_inOneLake rfl t5 rfl rfl ⟨rfl, bI_nar false⟩ rfl rfl⟩
  · rw [decide_eq_false q1] at t2
    have e : olF K (fun j => decide (H j < lev j)) f m i = (false, f) := if_neg (fun z => q1 (of_decide_eq_true z.1))
    rw [e]
    have t3 := r_tr t2 (r_to (g' := (40, [.ref (mj_NE + 16), .int (iI (m : Int)), .int (iI (i : Int))], [.int (bI false)], Wd xs L A V Y, 0, 0)) ok_Hollows_inOneLake 9999 [true] rfl ⟨by show ((0 : Int32) = 0); rfl, trivial⟩)
    exact ⟨A, fun j hj => (hf j hj).1, fun _ _ => rfl, ct_of ok_Hollows_inOneLake rfl t3 rfl rfl ⟨rfl, bI_nar false⟩ rfl rfl⟩
theorem c_contentOfLakeG {m : Nat} (hK : K = 512) (hV : V 2 = iI n) (hn : n ≤ 256) (h13 : ∀ j, j < n → A 13 j = iI (lev j)) (h0 : ∀ j, j < n → A 0 j = iI (H j)) (hb : ∀ j, j < n → 0 ≤ H j ∧ H j ≤ 999 ∧ 0 ≤ lev j ∧ lev j ≤ 999) (hf : ∀ j, j < 512 → A 15 j = iI (f j) ∧ f j < 512) (hm : m < n) : ∃ A1 : Nat → Nat → Int32, (∀ k, k ≠ 15 → A1 k = A k) ∧ mj_Ct m_Hollows_contentOfLake [.ref (mj_NE + 16), .int (iI (m : Int))] (Wd xs L A V Y) (some (.int (iI (coF K (fun j => decide (H j < lev j)) (fun j => lev j - H j) f m n).1))) (Wd xs L A1 V Y) 0 0 3 := by
  have lp : ∀ k : Nat, k ≤ n → ∃ A1 : Nat → Nat → Int32, (∀ j, j < 512 → A1 15 j = iI ((coF K (fun j => decide (H j < lev j)) (fun j => lev j - H j) f m k).2 j)) ∧ (∀ k, k ≠ 15 → A1 k = A k) ∧ mj_Rc m_Hollows_contentOfLake 0 0 3 (4, [.ref (mj_NE + 16), .int (iI (m : Int)), .int (iI 0), .int (iI ((0 : Nat) : Int))], [], Wd xs L A V Y, 0, 0) (4, [.ref (mj_NE + 16), .int (iI (m : Int)), .int (iI (coF K (fun j => decide (H j < lev j)) (fun j => lev j - H j) f m k).1), .int (iI (k : Int))], [], Wd xs L A1 V Y, 0, 0) := by
    intro k
    induction k with
    | zero => intro _; exact ⟨A, fun j hj => (hf j hj).1, fun _ _ => rfl, r_rf⟩
    | succ k ih =>
      intro hk
      obtain ⟨A1, g1, g2, hr⟩ := ih (by omega)
      have e1 : (coF K (fun j => decide (H j < lev j)) (fun j => lev j - H j) f m (k + 1)).1 = (coF K (fun j => decide (H j < lev j)) (fun j => lev j - H j) f m k).1 + (if (olF K (fun j => decide (H j < lev j)) (coF K (fun j => decide (H j < lev j)) (fun j => lev j - H j) f m k).2 m k).1 = true then lev k - H k else 0) := rfl
      have fl := coF_lt (K := K) (lk := (fun j => decide (H j < lev j))) (dp := (fun j => lev j - H j)) (fun j hj => (hf j hj).2) (show m < 512 by omega) k (by omega)
      obtain ⟨A2, u1, u2, c2⟩ := c_inOneLakeG (xs := xs) (L := L) (V := V) (Y := Y) (A := A1) (H := H) (lev := lev) (n := n) (f := (coF K (fun j => decide (H j < lev j)) (fun j => lev j - H j) f m k).2) (m := m) (i := k) hK hn (fun j hj => by rw [g2 13 (by omega)]; exact h13 j hj) (fun j hj => by rw [g2 0 (by omega)]; exact h0 j hj) hb (fun j hj => ⟨g1 j hj, fl j hj⟩) hm (by omega)
      have t1 := r_tr hr (r_to (g' := (19, [.ref (mj_NE + 16), .int (iI (m : Int)), .int (iI (coF K (fun j => decide (H j < lev j)) (fun j => lev j - H j) f m k).1), .int (iI (k : Int))], [.int (iI (k : Int)), .int (iI (m : Int)), .ref (mj_NE + 16), .int (iI (coF K (fun j => decide (H j < lev j)) (fun j => lev j - H j) f m k).1)], Wd xs L A1 V Y, 0, 0)) ok_Hollows_contentOfLake 9999 [false] rfl ⟨br_ge hV ⟨by omega, by omega⟩ ⟨by omega, by omega⟩ (by omega), trivial⟩)
      have t2 := r_tr t1 (q_V ok_Hollows_contentOfLake ok_Hollows_inOneLake se_Hollows_inOneLake c2 rfl rfl rfl rfl rfl ⟨rfl, rfl, rfl⟩)
      refine ⟨A2, u1, fun j hj => by rw [u2 j hj, g2 j hj], ?_⟩
      rw [e1]
      cases q : (olF K (fun j => decide (H j < lev j)) (coF K (fun j => decide (H j < lev j)) (fun j => lev j - H j) f m k).2 m k).1 with
      | true =>
        rw [q] at t2
        have t3 := r_tr t2 (r_to (g' := (27, [.ref (mj_NE + 16), .int (iI (m : Int)), .int (iI (coF K (fun j => decide (H j < lev j)) (fun j => lev j - H j) f m k).1), .int (iI (k : Int))], [.int (iI (k : Int)), .ref (mj_NE + 16), .int (iI (coF K (fun j => decide (H j < lev j)) (fun j => lev j - H j) f m k).1)], Wd xs L A2 V Y, 0, 0)) ok_Hollows_contentOfLake 9999 [false] rfl ⟨by show ¬ ((1 : Int32) = 0); decide, trivial⟩)
        have t4 := r_tr t3 (q_V ok_Hollows_contentOfLake ok_Hollows_depth se_Hollows_depth (c_depth (i := k) (z := lev k) (g := H k) (by omega) (by rw [u2 13 (by omega), g2 13 (by omega)]; exact h13 k (by omega)) (by rw [u2 0 (by omega), g2 0 (by omega)]; exact h0 k (by omega))) rfl rfl rfl rfl rfl ⟨rfl, rfl, rfl⟩)
        have t5 := r_tr t4 (r_to (g' := (4, [.ref (mj_NE + 16), .int (iI (m : Int)), .int (iI (coF K (fun j => decide (H j < lev j)) (fun j => lev j - H j) f m k).1 + iI (lev k - H k)), .int (iI (k : Int) + 1)], [], Wd xs L A2 V Y, 0, 0)) ok_Hollows_contentOfLake 4 [] rfl trivial)
        rw [iI_1, iI_add] at t5
        rw [if_pos rfl]
        exact t5
      | false =>
        rw [q] at t2
        have t3 := r_tr t2 (r_to (g' := (4, [.ref (mj_NE + 16), .int (iI (m : Int)), .int (iI (coF K (fun j => decide (H j < lev j)) (fun j => lev j - H j) f m k).1 + iI 0), .int (iI (k : Int) + 1)], [], Wd xs L A2 V Y, 0, 0)) ok_Hollows_contentOfLake 4 [true] rfl ⟨by show ((0 : Int32) = 0); rfl, trivial⟩)
        rw [iI_1, iI_add] at t3
        rw [if_neg Bool.false_ne_true]
        exact t3
  obtain ⟨A1, g1, g2, hr⟩ := lp n (Nat.le_refl _)
  exact ⟨A1, g2, ct_of ok_Hollows_contentOfLake rfl (r_tr (r_to ok_Hollows_contentOfLake 4 [] rfl trivial) (r_tr hr (r_to ok_Hollows_contentOfLake 9999 [true] rfl ⟨br_lt hV ⟨by omega, by omega⟩ ⟨by omega, by omega⟩ (by omega), trivial⟩))) rfl rfl rfl rfl rfl⟩
theorem f_levelG (hK : K = 512) (hLv : LvOK w h n H lev) {x y : Int} (hx : 0 ≤ x ∧ x < w) (hy : 0 ≤ y ∧ y < h) (hL : LdOK w h n H A V) : ∃ (A1 : Nat → Nat → Int32) (V1 : Nat → Int32), (∀ k, k ≠ 13 → k ≠ 14 → k ≠ 15 → A1 k = A k) ∧ (∀ k, k ≠ 4 → k ≠ 5 → V1 k = V k) ∧ mj_Ct m_W_level [.ref (mj_NE + 0), .int (iI x), .int (iI y)] (Wd xs L A V Y) (some (.int (iI (lev (y * w + x).toNat)))) (Wd xs L A1 V1 Y) 0 0 6 := by
  have hL2 := hL
  obtain ⟨h0, h1, hV, hnw, hw, hh, hN, hH⟩ := hL2
  have wh := wh_bd hw hh
  have nbj := num_bd hw hh hx hy
  obtain ⟨j, hj⟩ : ∃ i : Nat, (i : Int) = y * w + x := ⟨(y * w + x).toNat, by omega⟩
  have hj2 : (y * w + x).toNat = j := by omega
  have hjn : j < n := by omega
  have cj : (iI (j : Int)).toNatClampNeg = j := cl_nat (by omega)
  have ij : vp_in (iI (j : Int)) 256 := in_nat (by omega) (by omega)
  rw [hj2]
  have t1 := r_to (RC := 0) (RS := 0) (dd := 6) (g := (0, [.ref (mj_NE + 0), .int (iI x), .int (iI y)], [], Wd xs L A V Y, 0, 0)) (g' := (3, [.ref (mj_NE + 0), .int (iI x), .int (iI y)], [.int (iI y), .int (iI x), .ref (mj_NE + 0)], Wd xs L A V Y, 0, 0)) ok_W_level 9999 [] rfl trivial
  have t2 := r_tr t1 (q_V ok_W_level ok_W_checkField se_W_checkField (f_checkField hL hx hy) rfl rfl rfl rfl rfl ⟨rfl, rfl, rfl⟩)
  obtain ⟨A1, V1, hl, hld, h4, ka, kv, hct⟩ := c_findL (xs := xs) (L := L) (A := A) (V := V) (Y := Y) (K := K) (lev := lev) hK hV hw hh hnw hN hH hLv
  have t3 := r_tr t2 (r_to (g' := (10, [.ref (mj_NE + 0), .int (iI x), .int (iI y)], [.ref (mj_NE + 16)], Wd xs L A V Y, 0, 0)) ok_W_level 9999 [] rfl trivial)
  have t4 := r_tr t3 (q_V ok_W_level ok_Hollows_find se_Hollows_find (hct) rfl rfl rfl rfl rfl ⟨rfl, rfl, rfl⟩)
  have hV1 : V1 2 = iI n := by rw [kv 2 (by omega) (by omega)]; exact hV
  have k0 : A1 0 = A 0 := ka 0 (by omega) (by omega) (by omega)
  have v0 : V1 0 = iI w := by rw [kv 0 (by omega) (by omega)]; exact h0
  have t5 := r_tr t4 (r_to (g' := (26, [.ref (mj_NE + 0), .int (iI x), .int (iI y)], [.int (iI y), .int (iI x), .ref (mj_NE + 1), .ref (mj_NE + 17)], Wd xs L A1 V1 Y, 0, 0)) ok_W_level 9999 [] rfl trivial)
  have t6 := r_tr t5 (q_V ok_W_level ok_Land_numberOf se_Land_numberOf (c_num v0) rfl rfl rfl rfl rfl ⟨rfl, rfl, rfl⟩)
  rw [← hj] at t6
  have t7 := r_tr t6 (r_to (g' := (30, [.ref (mj_NE + 0), .int (iI x), .int (iI y)], [.int (A1 13 (iI (j : Int)).toNatClampNeg)], Wd xs L A1 V1 Y, 0, 0)) ok_W_level 9999 [] rfl ⟨ij, trivial⟩)
  rw [cj, hl j hjn] at t7
  exact ⟨A1, V1, ka, kv, ct_of ok_W_level rfl t7 rfl rfl rfl rfl rfl⟩
theorem f_lakesG (hK : K = 512) (hLv : LvOK w h n H lev) (hL : LdOK w h n H A V) : ∃ (A1 : Nat → Nat → Int32) (V1 : Nat → Int32), (∀ k, k ≠ 13 → k ≠ 14 → k ≠ 15 → A1 k = A k) ∧ (∀ k, k ≠ 4 → k ≠ 5 → V1 k = V k) ∧ mj_Ct m_W_lakes [.ref (mj_NE + 0)] (Wd xs L A V Y) (some (.int (iI (fdF K w h (fun j => decide (H j < lev j)) n).1))) (Wd xs L A1 V1 Y) 0 0 6 := by
  have hL2 := hL
  obtain ⟨h0, h1, hV, hnw, hw, hh, hN, hH⟩ := hL2
  have wh := wh_bd hw hh
  obtain ⟨A1, V1, hl, hld, h4, ka, kv, hct⟩ := c_findL (xs := xs) (L := L) (A := A) (V := V) (Y := Y) (K := K) (lev := lev) hK hV hw hh hnw hN hH hLv
  have t1 := r_to (RC := 0) (RS := 0) (dd := 6) (g := (0, [.ref (mj_NE + 0)], [], Wd xs L A V Y, 0, 0)) (g' := (4, [.ref (mj_NE + 0)], [.ref (mj_NE + 16)], Wd xs L A V Y, 0, 0)) ok_W_lakes 9999 [] rfl trivial
  have t2 := r_tr t1 (q_V ok_W_lakes ok_Hollows_find se_Hollows_find (hct) rfl rfl rfl rfl rfl ⟨rfl, rfl, rfl⟩)
  have hV1 : V1 2 = iI n := by rw [kv 2 (by omega) (by omega)]; exact hV
  have k0 : A1 0 = A 0 := ka 0 (by omega) (by omega) (by omega)
  have v0 : V1 0 = iI w := by rw [kv 0 (by omega) (by omega)]; exact h0
  have t3 := r_tr t2 (r_to (g' := (14, [.ref (mj_NE + 0)], [.int (V1 4)], Wd xs L A1 V1 Y, 0, 0)) ok_W_lakes 9999 [] rfl trivial)
  rw [h4] at t3
  exact ⟨A1, V1, ka, kv, ct_of ok_W_lakes rfl t3 rfl rfl rfl rfl rfl⟩
theorem f_volumeG (hK : K = 512) (hLv : LvOK w h n H lev) (hL : LdOK w h n H A V) : ∃ (A1 : Nat → Nat → Int32) (V1 : Nat → Int32), (∀ k, k ≠ 13 → k ≠ 14 → k ≠ 15 → A1 k = A k) ∧ (∀ k, k ≠ 4 → k ≠ 5 → V1 k = V k) ∧ mj_Ct m_W_volume [.ref (mj_NE + 0)] (Wd xs L A V Y) (some (.int (iI (smH (fun j => lev j - H j) n)))) (Wd xs L A1 V1 Y) 0 0 6 := by
  have hL2 := hL
  obtain ⟨h0, h1, hV, hnw, hw, hh, hN, hH⟩ := hL2
  have wh := wh_bd hw hh
  obtain ⟨A1, V1, hl, hld, h4, ka, kv, hct⟩ := c_findL (xs := xs) (L := L) (A := A) (V := V) (Y := Y) (K := K) (lev := lev) hK hV hw hh hnw hN hH hLv
  have t1 := r_to (RC := 0) (RS := 0) (dd := 6) (g := (0, [.ref (mj_NE + 0)], [], Wd xs L A V Y, 0, 0)) (g' := (4, [.ref (mj_NE + 0)], [.ref (mj_NE + 16)], Wd xs L A V Y, 0, 0)) ok_W_volume 9999 [] rfl trivial
  have t2 := r_tr t1 (q_V ok_W_volume ok_Hollows_find se_Hollows_find (hct) rfl rfl rfl rfl rfl ⟨rfl, rfl, rfl⟩)
  have hV1 : V1 2 = iI n := by rw [kv 2 (by omega) (by omega)]; exact hV
  have k0 : A1 0 = A 0 := ka 0 (by omega) (by omega) (by omega)
  have v0 : V1 0 = iI w := by rw [kv 0 (by omega) (by omega)]; exact h0
  have t3 := r_tr t2 (r_to (g' := (11, [.ref (mj_NE + 0)], [.ref (mj_NE + 16)], Wd xs L A1 V1 Y, 0, 0)) ok_W_volume 9999 [] rfl trivial)
  have t4 := r_tr t3 (q_V ok_W_volume ok_Hollows_content se_Hollows_content (c_content (lev := lev) (H := H) hV1 (by omega) hl (fun j hj => by rw [k0]; exact (hH j hj).1)) rfl rfl rfl rfl rfl ⟨rfl, rfl, rfl⟩)
  exact ⟨A1, V1, ka, kv, ct_of ok_W_volume rfl t4 rfl rfl rfl rfl rfl⟩
theorem f_lake1G (hK : K = 512) (hLv : LvOK w h n H lev) {x y : Int} (hx : 0 ≤ x ∧ x < w) (hy : 0 ≤ y ∧ y < h) (hL : LdOK w h n H A V) : ∃ (A1 : Nat → Nat → Int32) (V1 : Nat → Int32), (∀ k, k ≠ 13 → k ≠ 14 → k ≠ 15 → A1 k = A k) ∧ (∀ k, k ≠ 4 → k ≠ 5 → V1 k = V k) ∧ mj_Ct m_W_lake [.ref (mj_NE + 0), .int (iI x), .int (iI y), .int (iI 1)] (Wd xs L A V Y) (some (.int (iI (coF K (fun j => decide (H j < lev j)) (fun j => lev j - H j) (fdF K w h (fun j => decide (H j < lev j)) n).2 (y * w + x).toNat n).1))) (Wd xs L A1 V1 Y) 0 0 6 := by
  have hL2 := hL
  obtain ⟨h0, h1, hV, hnw, hw, hh, hN, hH⟩ := hL2
  have wh := wh_bd hw hh
  have nbj := num_bd hw hh hx hy
  obtain ⟨j, hj⟩ : ∃ i : Nat, (i : Int) = y * w + x := ⟨(y * w + x).toNat, by omega⟩
  have hj2 : (y * w + x).toNat = j := by omega
  have hjn : j < n := by omega
  have cj : (iI (j : Int)).toNatClampNeg = j := cl_nat (by omega)
  have ij : vp_in (iI (j : Int)) 256 := in_nat (by omega) (by omega)
  rw [hj2]
  have hlb : ∀ j, j < n → 0 ≤ H j ∧ H j ≤ 999 ∧ 0 ≤ lev j ∧ lev j ≤ 999 := fun j hj => by
    have h1 := (hH j hj).2
    have h2 := hLv.1 j hj
    omega
  have t1 := r_to (RC := 0) (RS := 0) (dd := 6) (g := (0, [.ref (mj_NE + 0), .int (iI x), .int (iI y), .int (iI 1), mj_u], [], Wd xs L A V Y, 0, 0)) (g' := (3, [.ref (mj_NE + 0), .int (iI x), .int (iI y), .int (iI 1), mj_u], [.int (iI y), .int (iI x), .ref (mj_NE + 0)], Wd xs L A V Y, 0, 0)) ok_W_lake 9999 [] rfl trivial
  have t2 := r_tr t1 (q_V ok_W_lake ok_W_checkField se_W_checkField (f_checkField hL hx hy) rfl rfl rfl rfl rfl ⟨rfl, rfl, rfl⟩)
  have t3 := r_tr t2 (r_to (g' := (9, [.ref (mj_NE + 0), .int (iI x), .int (iI y), .int (iI 1), mj_u], [.int (iI 1), .int (iI 0), .int (iI 1)], Wd xs L A V Y, 0, 0)) ok_W_lake 9999 [] rfl trivial)
  have t4 := r_tr t3 (q_S ok_W_lake ok_W_checkRange st_W_checkRange (f_checkRange ⟨by omega, by omega⟩ ⟨by omega, by omega⟩) rfl rfl rfl rfl ⟨rfl, rfl, rfl⟩)
  obtain ⟨A1, V1, hl, hld, h4, ka, kv, hct⟩ := c_findL (xs := xs) (L := L) (A := A) (V := V) (Y := Y) (K := K) (lev := lev) hK hV hw hh hnw hN hH hLv
  have t5 := r_tr t4 (r_to (g' := (16, [.ref (mj_NE + 0), .int (iI x), .int (iI y), .int (iI 1), mj_u], [.ref (mj_NE + 16)], Wd xs L A V Y, 0, 0)) ok_W_lake 9999 [] rfl trivial)
  have t6 := r_tr t5 (q_V ok_W_lake ok_Hollows_find se_Hollows_find (hct) rfl rfl rfl rfl rfl ⟨rfl, rfl, rfl⟩)
  have hV1 : V1 2 = iI n := by rw [kv 2 (by omega) (by omega)]; exact hV
  have k0 : A1 0 = A 0 := ka 0 (by omega) (by omega) (by omega)
  have v0 : V1 0 = iI w := by rw [kv 0 (by omega) (by omega)]; exact h0
  have t7 := r_tr t6 (r_to (g' := (25, [.ref (mj_NE + 0), .int (iI x), .int (iI y), .int (iI 1), mj_u], [.int (iI y), .int (iI x), .ref (mj_NE + 1)], Wd xs L A1 V1 Y, 0, 0)) ok_W_lake 9999 [] rfl trivial)
  have t8 := r_tr t7 (q_V ok_W_lake ok_Land_numberOf se_Land_numberOf (c_num v0) rfl rfl rfl rfl rfl ⟨rfl, rfl, rfl⟩)
  rw [← hj] at t8
  have t9 := r_tr t8 (r_to (g' := (52, [.ref (mj_NE + 0), .int (iI x), .int (iI y), .int (iI 1), .int (iI j)], [.int (iI j), .ref (mj_NE + 16)], Wd xs L A1 V1 Y, 0, 0)) ok_W_lake 9999 [true] rfl ⟨by show ¬ (iI 1 = 0); decide, trivial⟩)
  obtain ⟨A2, u2, c2⟩ := c_contentOfLakeG (xs := xs) (L := L) (V := V1) (Y := Y) (A := A1) (H := H) (lev := lev) (n := n) (f := (fdF K w h (fun j => decide (H j < lev j)) n).2) (m := j) hK hV1 (by omega) hl (fun i hi => by rw [k0]; exact (hH i hi).1) hlb (fun i hi => ⟨hld i hi, (fdF_bd hw hh hnw n (Nat.le_refl _)).1 i hi⟩) hjn
  have t10 := r_tr t9 (q_V ok_W_lake ok_Hollows_contentOfLake se_Hollows_contentOfLake c2 rfl rfl rfl rfl rfl ⟨rfl, rfl, rfl⟩)
  exact ⟨A2, V1, fun k k1 k2 k3 => by rw [u2 k k3, ka k k1 k2 k3], kv, ct_of ok_W_lake rfl t10 rfl rfl rfl rfl rfl⟩
end LKG
