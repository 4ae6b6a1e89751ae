/-! Hollows.find in general -/
theorem jlF_bd {K : Nat} {lk : Nat → Bool} {S : Int × (Nat → Nat)} {i : Nat} {o : Int} (hf : ∀ j, j < 512 → S.2 j < 512) (hi : i < 512) (ho : o < 512) : (∀ j, j < 512 → (jlF K lk S i o).2 j < 512) ∧ S.1 - 1 ≤ (jlF K lk S i o).1 ∧ (jlF K lk S i o).1 ≤ S.1 := by
  unfold jlF
  by_cases q : 0 ≤ o ∧ lk o.toNat = true
  · rw [if_pos q]
    refine ⟨jnF_lt hf hi (by omega), ?_, ?_⟩
    · dsimp only; split <;> omega
    · dsimp only; split <;> omega
  · rw [if_neg q]
    exact ⟨hf, by omega, by omega⟩
theorem fdF_bd {K : Nat} {w h : Int} {n : Nat} {lk : Nat → Bool} (hw : 2 ≤ w ∧ w ≤ 16) (hh : 2 ≤ h ∧ h ≤ 16) (hnw : (n : Int) = w * h) : ∀ i : Nat, i ≤ n → (∀ j, j < 512 → (fdF K w h lk i).2 j < 512) ∧ -(2 * (i : Int)) ≤ (fdF K w h lk i).1 ∧ (fdF K w h lk i).1 ≤ i := by
  have wh := wh_bd hw hh
  intro i
  induction i with
  | zero => intro _; exact ⟨fun j hj => hj, by show -(2 * ((0 : Nat) : Int)) ≤ 0; omega, by show (0 : Int) ≤ ((0 : Nat) : Int); omega⟩
  | succ i ih =>
    intro hi
    obtain ⟨i1, i2, i3⟩ := ih (by omega)
    have ef : fdF K w h lk (i + 1) = if lk i = true then jlF K lk (jlF K lk ((fdF K w h lk i).1 + 1, (fdF K w h lk i).2) i (nbi w h i 0)) i (nbi w h i 2) else fdF K w h lk i := rfl
    have b0 := nbi_bd hw hh i 0
    have b2 := nbi_bd hw hh i 2
    by_cases q : lk i = true
    · rw [ef, if_pos q]
      obtain ⟨j1, j2, j3⟩ := jlF_bd (K := K) (lk := lk) (S := ((fdF K w h lk i).1 + 1, (fdF K w h lk i).2)) (i := i) (o := nbi w h i 0) i1 (by omega) (by omega)
      obtain ⟨k1, k2, k3⟩ := jlF_bd (K := K) (lk := lk) (i := i) (o := nbi w h i 2) j1 (by omega) (by omega)
      dsimp only at j2 j3
      exact ⟨k1, by omega, by omega⟩
    · rw [ef, if_neg q]
      exact ⟨i1, by omega, by omega⟩
section FND
variable {xs : Nat → Int32} {L : Nat} {A : Nat → Nat → Int32} {V : Nat → Int32} {Y : mj_H} {K : Nat} {w h : Int} {n : Nat} {H lev : Nat → Int}
theorem c_joinLakes {S : Int × (Nat → Nat)} {i : Nat} {o : Int} (hK : K = 512) (hn : n ≤ 256) (h13 : ∀ j, j < n → A 13 j = iI (lev j)) (h0 : ∀ j, j < n → A 0 j = iI (H j)) (hb : ∀ j, j < n → 0 ≤ H j ∧ H j ≤ 999 ∧ 0 ≤ lev j ∧ lev j ≤ 999) (hf : ∀ j, j < 512 → A 15 j = iI (S.2 j) ∧ S.2 j < 512) (h4 : V 4 = iI S.1) (hS : -2000 ≤ S.1 ∧ S.1 ≤ 2000) (hi : i < n) (ho : -1 ≤ o ∧ o < n) : ∃ (A1 : Nat → Nat → Int32) (V1 : Nat → Int32), (∀ j, j < 512 → A1 15 j = iI ((jlF K (fun j => decide (H j < lev j)) S i o).2 j)) ∧ V1 4 = iI (jlF K (fun j => decide (H j < lev j)) S i o).1 ∧ (∀ k, k ≠ 15 → A1 k = A k) ∧ (∀ k, k ≠ 4 → V1 k = V k) ∧ mj_Ct m_Hollows_joinLakes [.ref (mj_NE + 16), .int (iI (i : Int)), .int (iI o)] (Wd xs L A V Y) none (Wd xs L A1 V1 Y) 0 0 2 := by
  by_cases hneg : o < 0
  · have e : jlF K (fun j => decide (H j < lev j)) S i o = S := if_neg (fun z => by omega)
    rw [e]
    exact ⟨A, V, fun j hj => (hf j hj).1, h4, fun _ _ => rfl, fun _ _ => rfl, ct_of ok_Hollows_joinLakes rfl (r_to ok_Hollows_joinLakes 9999 [true] rfl ⟨by
      show iI o < iI 0
      rw [iI_lt ⟨by omega, by omega⟩ ⟨by omega, by omega⟩]
      exact hneg, trivial⟩) rfl rfl rfl rfl rfl⟩
  · obtain ⟨t, rfl⟩ := Int.eq_ofNat_of_zero_le (show 0 ≤ o by omega)
    have ht : t < n := by omega
    have hbt := hb t ht
    have nn : ¬ (iI (t : Int) < iI 0) := by rw [iI_lt ⟨by omega, by omega⟩ ⟨by omega, by omega⟩]; omega
    have t1 := r_to (RC := 0) (RS := 0) (dd := 2) (g := (0, [.ref (mj_NE + 16), .int (iI (i : Int)), .int (iI (t : Int))], [], Wd xs L A V Y, 0, 0)) (g' := (6, [.ref (mj_NE + 16), .int (iI (i : Int)), .int (iI (t : Int))], [.int (iI (t : Int)), .ref (mj_NE + 16)], Wd xs L A V Y, 0, 0)) ok_Hollows_joinLakes 9999 [false] rfl ⟨nn, trivial⟩
    have t2 := r_tr t1 (q_V ok_Hollows_joinLakes ok_Hollows_inLake se_Hollows_inLake (c_inLake (by omega) (h13 t ht) (h0 t ht) ⟨by omega, by omega, by omega, by omega⟩) rfl rfl rfl rfl rfl ⟨rfl, rfl, rfl⟩)
    by_cases hq : H t < lev t
    · rw [decide_eq_true hq] at t2
      have e : jlF K (fun j => decide (H j < lev j)) S i (t : Int) = (S.1 - (if (jnF K S.2 i t).1 = true then 1 else 0), (jnF K S.2 i t).2) := if_pos ⟨by omega, decide_eq_true hq⟩
      obtain ⟨A1, g1, g2, cj⟩ := c_joinH (xs := xs) (L := L) (V := V) (Y := Y) hK hf (show i < 512 by omega) (show t < 512 by omega)
      have t3 := r_tr t2 (r_to (g' := (18, [.ref (mj_NE + 16), .int (iI (i : Int)), .int (iI (t : Int))], [.int (iI (t : Int)), .int (iI (i : Int)), .ref (mj_NE + 20)], Wd xs L A V Y, 0, 0)) ok_Hollows_joinLakes 9999 [false] rfl ⟨by show ¬ ((1 : Int32) = 0); decide, trivial⟩)
      have t4 := r_tr t3 (q_V ok_Hollows_joinLakes ok_Groups_join se_Groups_join cj rfl rfl rfl rfl rfl ⟨rfl, rfl, rfl⟩)
      rw [e]
      cases hj : (jnF K S.2 i t).1 with
      | true =>
        rw [hj] at t4
        have t5 := r_tr t4 (r_to (g' := (34, [.ref (mj_NE + 16), .int (iI (i : Int)), .int (iI (t : Int))], [], Wd xs L A1 (wV V 4 (V 4 - 1)) Y, 0, 0)) ok_Hollows_joinLakes 9999 [false] rfl ⟨by show ¬ ((1 : Int32) = 0); decide, trivial⟩)
        refine ⟨A1, wV V 4 (V 4 - 1), g1, ?_, g2, fun k hk => wV_n hk, ct_of ok_Hollows_joinLakes rfl t5 rfl rfl rfl rfl rfl⟩
        rw [wV_s, h4, if_pos rfl, show (1 : Int32) = iI 1 from rfl, iI_sub]
      | false =>
        rw [hj] at t4
        have t5 := r_tr t4 (r_to (g' := (34, [.ref (mj_NE + 16), .int (iI (i : Int)), .int (iI (t : Int))], [], Wd xs L A1 V Y, 0, 0)) ok_Hollows_joinLakes 9999 [true] rfl ⟨by show ((0 : Int32) = 0); rfl, trivial⟩)
        refine ⟨A1, V, g1, ?_, g2, fun k hk => rfl, ct_of ok_Hollows_joinLakes rfl t5 rfl rfl rfl rfl rfl⟩
        rw [if_neg Bool.false_ne_true, Int.sub_zero]
        exact h4
    · rw [decide_eq_false hq] at t2
      have e : jlF K (fun j => decide (H j < lev j)) S i (t : Int) = S := if_neg (fun z => hq (of_decide_eq_true z.2))
      rw [e]
      have t3 := r_tr t2 (r_to (g' := (34, [.ref (mj_NE + 16), .int (iI (i : Int)), .int (iI (t : Int))], [], Wd xs L A V Y, 0, 0)) ok_Hollows_joinLakes 9999 [true] rfl ⟨by show ((0 : Int32) = 0); rfl, trivial⟩)
      exact ⟨A, V, fun j hj => (hf j hj).1, h4, fun _ _ => rfl, fun _ _ => rfl, ct_of ok_Hollows_joinLakes rfl t3 rfl rfl rfl rfl rfl⟩
set_option maxHeartbeats 1000000 in
theorem c_findG (hK : K = 512) (hV : V 2 = iI n) (hw : 2 ≤ w ∧ w ≤ 16) (hh : 2 ≤ h ∧ h ≤ 16) (hnw : (n : Int) = w * h) (hN : nbOK w h (A 2) n) (hH : Hts (A 0) n H) : ∃ (A1 : Nat → Nat → Int32) (V1 : Nat → Int32) (lev : Nat → Int), LvOK w h n H lev ∧ (∀ j, j < n → A1 13 j = iI (lev j)) ∧ (∀ j, j < 512 → A1 15 j = iI ((fdF K w h (fun j => decide (H j < lev j)) n).2 j)) ∧ V1 4 = iI (fdF K w h (fun j => decide (H j < lev j)) n).1 ∧ (∀ k, k ≠ 13 → k ≠ 14 → k ≠ 15 → A1 k = A k) ∧ (∀ k, k ≠ 4 → k ≠ 5 → V1 k = V k) ∧ mj_Ct m_Hollows_find [.ref (mj_NE + 16)] (Wd xs L A V Y) none (Wd xs L A1 V1 Y) 0 0 4 := by
  have wh := wh_bd hw hh
  obtain ⟨A1, V1, lev, hL, g1, g2, g3, hct⟩ := c_findLevels (xs := xs) (L := L) (Y := Y) hV hw hh hnw hN hH
  have r0 := r_tr (r_to (RC := 0) (RS := 0) (dd := 4) (g := (0, [.ref (mj_NE + 16), mj_u], [], Wd xs L A V Y, 0, 0)) (g' := (1, [.ref (mj_NE + 16), mj_u], [.ref (mj_NE + 16)], Wd xs L A V Y, 0, 0)) ok_Hollows_find 9999 [] rfl trivial) (q_V ok_Hollows_find ok_Hollows_findLevels se_Hollows_findLevels (hct) rfl rfl rfl rfl rfl ⟨rfl, rfl, rfl⟩)
  have r1 := r_tr (r_tr r0 (r_to (g' := (8, [.ref (mj_NE + 16), mj_u], [.ref (mj_NE + 20)], Wd xs L A1 V1 Y, 0, 0)) ok_Hollows_find 9999 [] rfl trivial)) (q_V ok_Hollows_find ok_Groups_part se_Groups_part (c_partH) rfl rfl rfl rfl rfl ⟨rfl, rfl, rfl⟩)
  have r2 := r_tr r1 (r_to (g' := (18, [.ref (mj_NE + 16), .int (iI ((0 : Nat) : Int))], [], Wd xs L (wA A1 15 (pw (fun j => iI j) (A1 15) 512)) (wV V1 4 (iI 0)) Y, 0, 0)) ok_Hollows_find 18 [] rfl trivial)
  have hb : ∀ j, j < n → 0 ≤ H j ∧ H j ≤ 999 ∧ 0 ≤ lev j ∧ lev j ≤ 999 := fun j hj => by
    have h1 := (hH j hj).2
    have h2 := hL.1 j hj
    omega
  have lp : ∀ k : Nat, k ≤ n → ∃ (A2 : Nat → Nat → Int32) (V2 : Nat → Int32), (∀ j, j < 512 → A2 15 j = iI ((fdF K w h (fun j => decide (H j < lev j)) k).2 j)) ∧ V2 4 = iI (fdF K w h (fun j => decide (H j < lev j)) k).1 ∧ (∀ k, k ≠ 15 → A2 k = A1 k) ∧ (∀ k, k ≠ 4 → V2 k = V1 k) ∧ mj_Rc m_Hollows_find 0 0 4 (0, [.ref (mj_NE + 16), mj_u], [], Wd xs L A V Y, 0, 0) (18, [.ref (mj_NE + 16), .int (iI (k : Int))], [], Wd xs L A2 V2 Y, 0, 0) := by
    intro k
    induction k with
    | zero =>
      intro _
      refine ⟨_, _, fun j hj => ?_, wV_s, fun k hk => wA_n hk, fun k hk => wV_n hk, r2⟩
      rw [wA_s]
      show pw (fun j => iI j) (A1 15) 512 j = iI (j : Int)
      unfold pw
      rw [if_pos hj]
    | succ k ih =>
      intro hk
      obtain ⟨A2, V2, q1, q2, q3, q4, hr⟩ := ih (by omega)
      obtain ⟨b1, b2, b3⟩ := fdF_bd (K := K) (lk := (fun j => decide (H j < lev j))) hw hh hnw k (by omega)
      have hV2 : V2 2 = iI n := by rw [q4 2 (by omega), g3 2 (by omega)]; exact hV
      have a13 : ∀ j, j < n → A2 13 j = iI (lev j) := fun j hj => by rw [q3 13 (by omega), g1 j hj]
      have a0 : ∀ j, j < n → A2 0 j = iI (H j) := fun j hj => by rw [q3 0 (by omega), g2 0 (by omega) (by omega), (hH j hj).1]
      have hN2 : nbOK w h (A2 2) n := by rw [q3 2 (by omega), g2 2 (by omega) (by omega)]; exact hN
      have hbk := hb k (by omega)
      have ef : fdF K w h (fun j => decide (H j < lev j)) (k + 1) = if (fun j => decide (H j < lev j)) k = true then jlF K (fun j => decide (H j < lev j)) (jlF K (fun j => decide (H j < lev j)) ((fdF K w h (fun j => decide (H j < lev j)) k).1 + 1, (fdF K w h (fun j => decide (H j < lev j)) k).2) k (nbi w h k 0)) k (nbi w h k 2) else (fdF K w h (fun j => decide (H j < lev j)) k) := rfl
      have t1 := r_tr hr (r_to (g' := (31, [.ref (mj_NE + 16), .int (iI (k : Int))], [.int (iI (k : Int)), .ref (mj_NE + 16)], Wd xs L A2 V2 Y, 0, 0)) ok_Hollows_find 9999 [false] rfl ⟨br_ge hV2 ⟨by omega, by omega⟩ ⟨by omega, by omega⟩ (by omega), trivial⟩)
      have t2 := r_tr t1 (q_V ok_Hollows_find ok_Hollows_inLake se_Hollows_inLake (c_inLake (by omega) (a13 k (by omega)) (a0 k (by omega)) ⟨by omega, by omega, by omega, by omega⟩) rfl rfl rfl rfl rfl ⟨rfl, rfl, rfl⟩)
      by_cases hq : H k < lev k
      · rw [decide_eq_true hq] at t2
        rw [ef, if_pos (decide_eq_true hq)]
        have t3 := r_tr t2 (r_to (g' := (55, [.ref (mj_NE + 16), .int (iI (k : Int))], [.int (iI ((0 : Nat) : Int)), .int (iI (k : Int)), .ref (mj_NE + 1), .int (iI (k : Int)), .ref (mj_NE + 16)], Wd xs L A2 (wV V2 4 (V2 4 + 1)) Y, 0, 0)) ok_Hollows_find 9999 [false] rfl ⟨by show ¬ ((1 : Int32) = 0); decide, trivial⟩)
        have v4 : (wV V2 4 (V2 4 + 1)) 4 = iI ((fdF K w h (fun j => decide (H j < lev j)) k).1 + 1) := by rw [wV_s, q2, iI_1]
        have t4 := r_tr t3 (q_V ok_Hollows_find ok_Land_neighbour se_Land_neighbour (c_nbr (d := 0) hN2 (by omega) (by omega) (by omega)) rfl rfl rfl rfl rfl ⟨rfl, rfl, rfl⟩)
        have bd0 := nbi_bd hw hh k 0
        have bd2 := nbi_bd hw hh k 2
        obtain ⟨A3, V3, p1, p2, p3, p4, c3⟩ := c_joinLakes (xs := xs) (L := L) (Y := Y) (A := A2) (V := wV V2 4 (V2 4 + 1)) (H := H) (lev := lev) (n := n) (S := ((fdF K w h (fun j => decide (H j < lev j)) k).1 + 1, (fdF K w h (fun j => decide (H j < lev j)) k).2)) (i := k) (o := nbi w h k 0) hK (by omega) a13 a0 hb (fun j hj => ⟨q1 j hj, b1 j hj⟩) v4 ⟨by dsimp only; omega, by dsimp only; omega⟩ (by omega) ⟨by omega, by omega⟩
        have t5 := r_tr t4 (q_V ok_Hollows_find ok_Hollows_joinLakes se_Hollows_joinLakes c3 rfl rfl rfl rfl rfl ⟨rfl, rfl, rfl⟩)
        have t6 := r_tr t5 (r_to (g' := (69, [.ref (mj_NE + 16), .int (iI (k : Int))], [.int (iI ((2 : Nat) : Int)), .int (iI (k : Int)), .ref (mj_NE + 1), .int (iI (k : Int)), .ref (mj_NE + 16)], Wd xs L A3 V3 Y, 0, 0)) ok_Hollows_find 9999 [] rfl trivial)
        have t7 := r_tr t6 (q_V ok_Hollows_find ok_Land_neighbour se_Land_neighbour (c_nbr (d := 2) (by rw [p3 2 (by omega)]; exact hN2) (by omega) (by omega) (by omega)) rfl rfl rfl rfl rfl ⟨rfl, rfl, rfl⟩)
        obtain ⟨d1, d2, d3⟩ := jlF_bd (K := K) (lk := (fun j => decide (H j < lev j))) (S := ((fdF K w h (fun j => decide (H j < lev j)) k).1 + 1, (fdF K w h (fun j => decide (H j < lev j)) k).2)) (i := k) (o := nbi w h k 0) b1 (by omega) (by omega)
        dsimp only at d2 d3
        obtain ⟨A4, V4, u1, u2, u3, u4, c4⟩ := c_joinLakes (xs := xs) (L := L) (Y := Y) (A := A3) (V := V3) (H := H) (lev := lev) (n := n) (S := jlF K (fun j => decide (H j < lev j)) ((fdF K w h (fun j => decide (H j < lev j)) k).1 + 1, (fdF K w h (fun j => decide (H j < lev j)) k).2) k (nbi w h k 0)) (i := k) (o := nbi w h k 2) hK (by omega) (fun j hj => by rw [p3 13 (by omega)]; exact a13 j hj) (fun j hj => by rw [p3 0 (by omega)]; exact a0 j hj) hb (fun j hj => ⟨p1 j hj, d1 j hj⟩) p2 ⟨by omega, by omega⟩ (by omega) ⟨by omega, by omega⟩
        have t8 := r_tr t7 (q_V ok_Hollows_find ok_Hollows_joinLakes se_Hollows_joinLakes c4 rfl rfl rfl rfl rfl ⟨rfl, rfl, rfl⟩)
        have t9 := r_tr t8 (r_to (g' := (18, [.ref (mj_NE + 16), .int (iI (k : Int) + 1)], [], Wd xs L A4 V4 Y, 0, 0)) ok_Hollows_find 18 [] rfl trivial)
        rw [iI_1] at t9
        exact ⟨A4, V4, u1, u2, fun j hj => by rw [u3 j hj, p3 j hj, q3 j hj], fun j hj => by rw [u4 j hj, p4 j hj, wV_n hj, q4 j hj], t9⟩
      · rw [decide_eq_false hq] at t2
        rw [ef, if_neg (fun z => hq (of_decide_eq_true z))]
        have t3 := r_tr t2 (r_to (g' := (18, [.ref (mj_NE + 16), .int (iI (k : Int) + 1)], [], Wd xs L A2 V2 Y, 0, 0)) ok_Hollows_find 18 [true] rfl ⟨by show ((0 : Int32) = 0); rfl, trivial⟩)
        rw [iI_1] at t3
        exact ⟨A2, V2, q1, q2, q3, q4, t3⟩
  obtain ⟨A2, V2, q1, q2, q3, q4, hr⟩ := lp n (Nat.le_refl _)
  have hV2 : V2 2 = iI n := by rw [q4 2 (by omega), g3 2 (by omega)]; exact hV
  exact ⟨A2, V2, lev, hL, fun j hj => by rw [q3 13 (by omega), g1 j hj], q1, q2, fun k k1 k2 k3 => by rw [q3 k k3, g2 k k1 k2], fun k k1 k2 => by rw [q4 k k1, g3 k k2], ct_of ok_Hollows_find rfl (r_tr hr (r_to ok_Hollows_find 9999 [true] rfl ⟨br_lt hV2 ⟨by omega, by omega⟩ ⟨by omega, by omega⟩ (by omega), trivial⟩)) rfl rfl rfl rfl rfl⟩
end FND
