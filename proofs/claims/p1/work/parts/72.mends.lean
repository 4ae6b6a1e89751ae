/-! THE REFERENCE's endsWith of a flat land, its constructor -/
theorem chD_fall {w h : Int} {H : Nat → Int} {i : Nat} : ∀ d : Nat, 0 ≤ (chD w h H i d).1 ∧ (0 ≤ (chD w h H i d).2.2 → H ((chD w h H i d).2.2).toNat < H i) := by
  intro d
  induction d with
  | zero => exact ⟨Int.le_refl _, fun q => absurd q (by show ¬ ((0 : Int) ≤ -1); omega)⟩
  | succ d ih =>
    rw [chD]
    by_cases h1 : nbi w h i d < 0
    · rw [if_pos h1]; exact ih
    · rw [if_neg h1]
      by_cases h2 : (chD w h H i d).1 < (H i - H (nbi w h i d).toNat) * (if d % 2 = 1 then 7 else 10)
      · rw [if_pos h2]
        refine ⟨by show 0 ≤ (H i - H (nbi w h i d).toNat) * (if d % 2 = 1 then 7 else 10); omega, fun _ => ?_⟩
        show H (nbi w h i d).toNat < H i
        have h3 := ih.1
        by_cases h4 : H (nbi w h i d).toNat < H i
        · exact h4
        · exfalso
          split at h2 <;> omega
      · rw [if_neg h2]; exact ih
/-- where one FIELD alone is high, water goes from that one at most, and no further -/
theorem nx_one {j : Nat} {z : Int} (hj : j < 144) (hz : 0 ≤ z ∧ z ≤ 999) {i : Nat} (hi : i < 144) : -1 ≤ nxF 12 12 (supI (fun _ => 0) j z) i ∧ nxF 12 12 (supI (fun _ => 0) j z) i < 144 ∧ (0 ≤ nxF 12 12 (supI (fun _ => 0) j z) i → i = j ∧ nxF 12 12 (supI (fun _ => 0) j z) i ≠ j ∧ nxF 12 12 (supI (fun _ => 0) j z) (nxF 12 12 (supI (fun _ => 0) j z) i).toNat = -1) := by
  have hH : ∀ k, k < 144 → 0 ≤ supI (fun _ => (0 : Int)) j z k ∧ supI (fun _ => (0 : Int)) j z k ≤ 999 := fun k _ => by
    unfold supI
    split
    · exact hz
    · exact ⟨Int.le_refl _, by show (0 : Int) ≤ 999; decide⟩
  have bd : ∀ k, k < 144 → -1 ≤ nxF 12 12 (supI (fun _ => 0) j z) k ∧ nxF 12 12 (supI (fun _ => 0) j z) k < 144 := fun k hk => by
    have := chD_bd (w := 12) (h := 12) (N := 144) (i := k) ⟨by omega, by omega⟩ ⟨by omega, by omega⟩ rfl hH hk 8 (Nat.le_refl _)
    unfold nxF
    omega
  have fl : ∀ k, 0 ≤ nxF 12 12 (supI (fun _ => 0) j z) k → supI (fun _ => (0 : Int)) j z (nxF 12 12 (supI (fun _ => 0) j z) k).toNat < supI (fun _ => (0 : Int)) j z k := fun k q => (chD_fall 8).2 q
  have b1 := bd i hi
  refine ⟨b1.1, b1.2, fun q => ?_⟩
  have f1 := fl i q
  have h1 := hH (nxF 12 12 (supI (fun _ => 0) j z) i).toNat (by omega)
  have e1 : i = j := by
    by_cases e : i = j
    · exact e
    · rw [supI_ne e] at f1; omega
  have e2 : (nxF 12 12 (supI (fun _ => 0) j z) i).toNat ≠ j := fun e => by rw [e, e1] at f1; omega
  refine ⟨e1, by omega, ?_⟩
  have b2 := bd (nxF 12 12 (supI (fun _ => 0) j z) i).toNat (by omega)
  by_cases q2 : 0 ≤ nxF 12 12 (supI (fun _ => 0) j z) (nxF 12 12 (supI (fun _ => 0) j z) i).toNat
  · have f2 := fl _ q2
    rw [supI_ne e2] at f2
    have h2 := hH (nxF 12 12 (supI (fun _ => 0) j z) (nxF 12 12 (supI (fun _ => 0) j z) i).toNat).toNat (by omega)
    omega
  · omega
section REF26
variable {xs : Nat → Int32} {L : Nat} {A : Nat → Nat → Int32} {V : Nat → Int32} {t b : Int32} {ld : Nat} {f : Nat → Int32} {o : Nat → Int64} {H : Nat → Int} {Z : mj_H} {z1 z2 z3 : mj_Cl}
set_option maxHeartbeats 1000000 in
theorem m_endsWithA {x y z : Int} (rx : -2147483648 ≤ x ∧ x ≤ 2147483647) (ry : -2147483648 ≤ y ∧ y ≤ 2147483647) (hx : 0 ≤ x ∧ x < 12) (hy : 0 ≤ y ∧ y < 12) (rz : -2147483648 ≤ z ∧ z ≤ 2147483647) (hz : 0 ≤ z ∧ z ≤ 999) (hf : Hts f 144 (fun _ => 0)) : ∃ f2 gW : Nat → Int32, mj_Ct m_M_endsWith [.ref (mj_NE + 32), .int (iI x), .int (iI y), .int (iI z)] (Wd xs L A V (mY t b (mj_NE + 33) f [zO o])) (some (.int (iI (cnt (fun i => decide (0 ≤ nxF 12 12 (supI (fun _ => 0) (y * 12 + x).toNat z) i)) 144)))) (Wd xs L A V (mY (iI 0) b (mj_NE + 33) f [zO o, zI gT, zI f2, zL (mj_NE + 37), zI gW])) 4 435 3 := by
  obtain ⟨j, hj⟩ : ∃ j : Nat, (j : Int) = y * 12 + x := ⟨(y * 12 + x).toNat, by omega⟩
  have hj2 : (y * 12 + x).toNat = j := by omega
  have hj3 : j < 144 := by omega
  rw [hj2]
  have hf2 : Hts (upd f j (iI z)) 144 (supI (fun _ => 0) j z) := fun i hi => by
    by_cases e : i = j
    · subst e; rw [upd_eq, supI_eq]; exact ⟨rfl, hz⟩
    · rw [upd_ne e, supI_ne e]; exact hf i hi
  have hto := c_toW (xs := xs) (L := L) (A := A) (V := V) (t := iI 0) (b := b) (f := f) (o := o) (g := gT) hf2
  obtain ⟨gW, hgWe⟩ : ∃ g : Nat → Int32, g = pw (fun i => iI (nxF 12 12 (supI (fun _ => 0) j z) i)) (fun _ => 0) 144 := ⟨_, rfl⟩
  rw [← hgWe] at hto
  have hgW : ∀ i, i < 144 → gW i = iI (nxF 12 12 (supI (fun _ => 0) j z) i) := fun i hi => by rw [hgWe, pw_lt hi]
  refine ⟨(upd f j (iI z)), gW, ?_⟩
  have s1 := r_to (RC := 4) (RS := 435) (dd := 3) (g := (0, [.ref (mj_NE + 32), .int (iI x), .int (iI y), .int (iI z), mj_u, mj_u, mj_u, mj_u], [], Wd xs L A V (mY t b (mj_NE + 33) f [zO o]), 0, 0)) (g' := (3, [.ref (mj_NE + 32), .int (iI x), .int (iI y), .int (iI z), mj_u, mj_u, mj_u, mj_u], [.int (iI y), .int (iI x), .ref (mj_NE + 32)], Wd xs L A V (mY t b (mj_NE + 33) f [zO o]), 0, 0)) ok_M_endsWith 9999 [] rfl trivial
  have s2 := r_tr s1 (q_V ok_M_endsWith ok_M_isNoField se_M_isNoField (c_isNoField rx ry) rfl rfl rfl rfl rfl ⟨rfl, rfl, rfl⟩)
  rw [noB_f hx hy, if_neg Bool.false_ne_true] at s2
  have s3 := r_tr s2 (r_to (RC := 4) (RS := 435) (dd := 3) (g := (6, [.ref (mj_NE + 32), .int (iI x), .int (iI y), .int (iI z), mj_u, mj_u, mj_u, mj_u], [.int (bI false)], Wd xs L A V (mY (iI 0) b (mj_NE + 33) f [zO o]), 0, 0)) (g' := (15, [.ref (mj_NE + 32), .int (iI x), .int (iI y), .int (iI z), mj_u, mj_u, mj_u, mj_u], [.int (iI 999), .int (iI 0), .int (iI z), .ref (mj_NE + 32)], Wd xs L A V (mY (iI 0) b (mj_NE + 33) f [zO o]), 0, 0)) ok_M_endsWith 9999 [false] rfl ⟨fun q => q rfl, trivial⟩)
  have s4 := r_tr s3 (q_S ok_M_endsWith ok_M_isIn st_M_isIn (c_isIn (v := z) (lo := 0) (hi := 999) rz ⟨by omega, by omega, by omega, by omega⟩) rfl rfl rfl rfl ⟨rfl, rfl, rfl⟩)
  rw [decide_eq_true hz] at s4
  have s5 := r_tr s4 (r_to (RC := 4) (RS := 435) (dd := 3) (g := (18, [.ref (mj_NE + 32), .int (iI x), .int (iI y), .int (iI z), mj_u, mj_u, mj_u, mj_u], [.int (bI true), .ref (mj_NE + 32)], Wd xs L A V (mY (iI 0) b (mj_NE + 33) f [zO o]), 0, 0)) (g' := (27, [.ref (mj_NE + 32), .int (iI x), .int (iI y), .int (iI z), mj_u, mj_u, mj_u, mj_u], [.int (iI 2), .int (bI false), .ref (mj_NE + 32)], Wd xs L A V (mY (iI 0) b (mj_NE + 33) f [zO o]), 0, 0)) ok_M_endsWith 9999 [true] rfl ⟨by show ¬ ((1 : Int32) = 0); decide, trivial⟩)
  have s6 := r_tr s5 (q_V ok_M_endsWith ok_M_refuse se_M_refuse (c_refuse (q := false) (k := 2) ⟨by omega, by omega⟩) rfl rfl rfl rfl rfl ⟨rfl, rfl, rfl⟩)
  rw [if_neg Bool.false_ne_true] at s6
  have s7 := r_tr s6 (r_to (RC := 4) (RS := 435) (dd := 3) (g := (30, [.ref (mj_NE + 32), .int (iI x), .int (iI y), .int (iI z), mj_u, mj_u, mj_u, mj_u], [.int (bI false)], Wd xs L A V (mY (iI 0) b (mj_NE + 33) f [zO o]), 0, 0)) (g' := (39, [.ref (mj_NE + 32), .int (iI x), .int (iI y), .int (iI z), mj_u, mj_u, mj_u, mj_u], [.ref (mj_NE + 33)], Wd xs L A V (mY (iI 0) b (mj_NE + 33) f [zO o]), 0, 0)) ok_M_endsWith 9999 [true] rfl ⟨by show ((0 : Int32) = 0); rfl, trivial⟩)
  have s8 := r_tr s7 (q_V ok_M_endsWith ok_ML_to se_ML_to (c_ML_to1 hf) rfl rfl rfl rfl rfl ⟨rfl, rfl, rfl⟩)
  have s9 := r_tr s8 (r_to (RC := 4) (RS := 435) (dd := 3) (g := (42, [.ref (mj_NE + 32), .int (iI x), .int (iI y), .int (iI z), mj_u, mj_u, mj_u, mj_u], [.ref (mj_NE + 36)], Wd xs L A V (mY (iI 0) b (mj_NE + 33) f [zO o, zI gT]), 1, 144)) (g' := (51, [.ref (mj_NE + 32), .int (iI x), .int (iI y), .int (iI z), .ref (mj_NE + 36), mj_u, mj_u, mj_u], [.int (iI y), .int (iI x), .ref (mj_NE + 32), .ref (mj_NE + 33)], Wd xs L A V (mY (iI 0) b (mj_NE + 33) f [zO o, zI gT]), 1, 144)) ok_M_endsWith 9999 [] rfl trivial)
  have s10 := r_tr s9 (q_V ok_M_endsWith ok_M_number se_M_number (c_number) rfl rfl rfl rfl rfl ⟨rfl, rfl, rfl⟩)
  rw [← hj] at s10
  have s11 := r_tr s10 (r_to (RC := 4) (RS := 435) (dd := 3) (g := (54, [.ref (mj_NE + 32), .int (iI x), .int (iI y), .int (iI z), .ref (mj_NE + 36), mj_u, mj_u, mj_u], [.int (iI (j : Int)), .ref (mj_NE + 33)], Wd xs L A V (mY (iI 0) b (mj_NE + 33) f [zO o, zI gT]), 1, 144)) (g' := (55, [.ref (mj_NE + 32), .int (iI x), .int (iI y), .int (iI z), .ref (mj_NE + 36), mj_u, mj_u, mj_u], [.int (iI z), .int (iI (j : Int)), .ref (mj_NE + 33)], Wd xs L A V (mY (iI 0) b (mj_NE + 33) f [zO o, zI gT]), 1, 144)) ok_M_endsWith 9999 [] rfl trivial)
  have s12 := r_tr s11 (q_V ok_M_endsWith ok_ML_with se_ML_with (c_ML_with2 hj3) rfl rfl rfl rfl rfl ⟨rfl, rfl, rfl⟩)
  have s13 := r_tr s12 (q_V ok_M_endsWith ok_ML_to se_ML_to (hto) rfl rfl rfl rfl rfl ⟨rfl, rfl, rfl⟩)
  have s14 := r_tr s13 (r_to (RC := 4) (RS := 435) (dd := 3) (g := (61, [.ref (mj_NE + 32), .int (iI x), .int (iI y), .int (iI z), .ref (mj_NE + 36), mj_u, mj_u, mj_u], [.ref (mj_NE + 39)], Wd xs L A V (mY (iI 0) b (mj_NE + 33) f [zO o, zI gT, zI (upd f j (iI z)), zL (mj_NE + 37), zI gW]), 4, 435)) (g' := (69, [.ref (mj_NE + 32), .int (iI x), .int (iI y), .int (iI z), .ref (mj_NE + 36), .ref (mj_NE + 39), .int (iI 0), .int (iI 0)], [], Wd xs L A V (mY (iI 0) b (mj_NE + 33) f [zO o, zI gT, zI (upd f j (iI z)), zL (mj_NE + 37), zI gW]), 4, 435)) ok_M_endsWith 69 [] rfl trivial)
  have lp : ∀ n : Nat, n ≤ 144 → mj_Rc m_M_endsWith 4 435 3 (0, [.ref (mj_NE + 32), .int (iI x), .int (iI y), .int (iI z), mj_u, mj_u, mj_u, mj_u], [], Wd xs L A V (mY t b (mj_NE + 33) f [zO o]), 0, 0) (69, [.ref (mj_NE + 32), .int (iI x), .int (iI y), .int (iI z), .ref (mj_NE + 36), .ref (mj_NE + 39), .int (iI (cnt (fun i => decide (0 ≤ nxF 12 12 (supI (fun _ => 0) j z) i)) n)), .int (iI (n : Int))], [], Wd xs L A V (mY (iI 0) b (mj_NE + 33) f [zO o, zI gT, zI (upd f j (iI z)), zL (mj_NE + 37), zI gW]), 4, 435) := by
    intro n
    induction n with
    | zero => intro _; exact s14
    | succ n ih =>
      intro hn
      have hn2 : n < 144 := by omega
      have c0 : ¬ (iI 144 ≤ iI (n : Int)) := by rw [iI_le ⟨by omega, by omega⟩ ⟨by omega, by omega⟩]; omega
      have cs : cnt (fun i => decide (0 ≤ nxF 12 12 (supI (fun _ => 0) j z) i)) (n + 1) = cnt (fun i => decide (0 ≤ nxF 12 12 (supI (fun _ => 0) j z) i)) n + (if decide (0 ≤ nxF 12 12 (supI (fun _ => 0) j z) n) = true then 1 else 0) := rfl
      have n1 := nx_one hj3 hz hn2
      have q1 := r_tr (ih (by omega)) (r_to (RC := 4) (RS := 435) (dd := 3) (g := (69, [.ref (mj_NE + 32), .int (iI x), .int (iI y), .int (iI z), .ref (mj_NE + 36), .ref (mj_NE + 39), .int (iI (cnt (fun i => decide (0 ≤ nxF 12 12 (supI (fun _ => 0) j z) i)) n)), .int (iI (n : Int))], [], Wd xs L A V (mY (iI 0) b (mj_NE + 33) f [zO o, zI gT, zI (upd f j (iI z)), zL (mj_NE + 37), zI gW]), 4, 435)) (g' := (83, [.ref (mj_NE + 32), .int (iI x), .int (iI y), .int (iI z), .ref (mj_NE + 36), .ref (mj_NE + 39), .int (iI (cnt (fun i => decide (0 ≤ nxF 12 12 (supI (fun _ => 0) j z) i)) n)), .int (iI (n : Int))], [.int (iI (n : Int)), .ref (mj_NE + 36), .int (iI (cnt (fun i => decide (0 ≤ nxF 12 12 (supI (fun _ => 0) j z) i)) n))], Wd xs L A V (mY (iI 0) b (mj_NE + 33) f [zO o, zI gT, zI (upd f j (iI z)), zL (mj_NE + 37), zI gW]), 4, 435)) ok_M_endsWith 9999 [false] rfl ⟨c0, trivial⟩)
      have q2 := r_tr q1 (q_S ok_M_endsWith ok_ML_end st_ML_end (c_ML_end0_36 hn2 (gT_v hn2)) rfl rfl rfl rfl ⟨rfl, rfl, rfl⟩)
      have q3 := r_tr q2 (r_to (RC := 4) (RS := 435) (dd := 3) (g := (86, [.ref (mj_NE + 32), .int (iI x), .int (iI y), .int (iI z), .ref (mj_NE + 36), .ref (mj_NE + 39), .int (iI (cnt (fun i => decide (0 ≤ nxF 12 12 (supI (fun _ => 0) j z) i)) n)), .int (iI (n : Int))], [.int (iI (n : Int)), .int (iI (cnt (fun i => decide (0 ≤ nxF 12 12 (supI (fun _ => 0) j z) i)) n))], Wd xs L A V (mY (iI 0) b (mj_NE + 33) f [zO o, zI gT, zI (upd f j (iI z)), zL (mj_NE + 37), zI gW]), 4, 435)) (g' := (90, [.ref (mj_NE + 32), .int (iI x), .int (iI y), .int (iI z), .ref (mj_NE + 36), .ref (mj_NE + 39), .int (iI (cnt (fun i => decide (0 ≤ nxF 12 12 (supI (fun _ => 0) j z) i)) n)), .int (iI (n : Int))], [.int (iI (n : Int)), .ref (mj_NE + 39), .int (iI (n : Int)), .int (iI (cnt (fun i => decide (0 ≤ nxF 12 12 (supI (fun _ => 0) j z) i)) n))], Wd xs L A V (mY (iI 0) b (mj_NE + 33) f [zO o, zI gT, zI (upd f j (iI z)), zL (mj_NE + 37), zI gW]), 4, 435)) ok_M_endsWith 9999 [] rfl trivial)
      by_cases hp : 0 ≤ nxF 12 12 (supI (fun _ => 0) j z) n
      · obtain ⟨m, hm⟩ : ∃ m : Nat, nxF 12 12 (supI (fun _ => 0) j z) n = (m : Int) := ⟨(nxF 12 12 (supI (fun _ => 0) j z) n).toNat, by omega⟩
        have n2 := n1.2.2 hp
        have hm2 : m < 144 := by omega
        have hm3 : nxF 12 12 (supI (fun _ => 0) j z) m = -1 := by have := n2.2.2; rw [hm, Int.toNat_natCast] at this; exact this
        have ec : cnt (fun i => decide (0 ≤ nxF 12 12 (supI (fun _ => 0) j z) i)) n + 1 = cnt (fun i => decide (0 ≤ nxF 12 12 (supI (fun _ => 0) j z) i)) (n + 1) := by rw [cs, if_pos (decide_eq_true hp)]
        have v1 := r_tr q3 (q_S ok_M_endsWith ok_ML_end st_ML_end (c_ML_end1_39 hn2 hm2 (by rw [hgW n hn2, hm]) (by rw [hgW m hm2, hm3])) rfl rfl rfl rfl ⟨rfl, rfl, rfl⟩)
        have v2 := r_tr v1 (r_to (RC := 4) (RS := 435) (dd := 3) (g := (93, [.ref (mj_NE + 32), .int (iI x), .int (iI y), .int (iI z), .ref (mj_NE + 36), .ref (mj_NE + 39), .int (iI (cnt (fun i => decide (0 ≤ nxF 12 12 (supI (fun _ => 0) j z) i)) n)), .int (iI (n : Int))], [.int (iI (m : Int)), .int (iI (n : Int)), .int (iI (cnt (fun i => decide (0 ≤ nxF 12 12 (supI (fun _ => 0) j z) i)) n))], Wd xs L A V (mY (iI 0) b (mj_NE + 33) f [zO o, zI gT, zI (upd f j (iI z)), zL (mj_NE + 37), zI gW]), 4, 435)) (g' := (69, [.ref (mj_NE + 32), .int (iI x), .int (iI y), .int (iI z), .ref (mj_NE + 36), .ref (mj_NE + 39), .int ((iI (cnt (fun i => decide (0 ≤ nxF 12 12 (supI (fun _ => 0) j z) i)) n)) + (iI 1)), .int ((iI (n : Int)) + 1)], [], Wd xs L A V (mY (iI 0) b (mj_NE + 33) f [zO o, zI gT, zI (upd f j (iI z)), zL (mj_NE + 37), zI gW]), 4, 435)) ok_M_endsWith 69 [false] rfl ⟨by show ¬ (iI (n : Int) = iI (m : Int)); rw [iI_eq ⟨by omega, by omega⟩ ⟨by omega, by omega⟩]; omega, trivial⟩)
        rw [iI_1, iI_add, ec] at v2
        exact v2
      · have hnx : nxF 12 12 (supI (fun _ => 0) j z) n = -1 := by omega
        have ec : cnt (fun i => decide (0 ≤ nxF 12 12 (supI (fun _ => 0) j z) i)) n + 0 = cnt (fun i => decide (0 ≤ nxF 12 12 (supI (fun _ => 0) j z) i)) (n + 1) := by rw [cs, if_neg (by rw [decide_eq_false hp]; decide)]
        have v1 := r_tr q3 (q_S ok_M_endsWith ok_ML_end st_ML_end (c_ML_end0_39 hn2 (by rw [hgW n hn2, hnx])) rfl rfl rfl rfl ⟨rfl, rfl, rfl⟩)
        have v2 := r_tr v1 (r_to (RC := 4) (RS := 435) (dd := 3) (g := (93, [.ref (mj_NE + 32), .int (iI x), .int (iI y), .int (iI z), .ref (mj_NE + 36), .ref (mj_NE + 39), .int (iI (cnt (fun i => decide (0 ≤ nxF 12 12 (supI (fun _ => 0) j z) i)) n)), .int (iI (n : Int))], [.int (iI (n : Int)), .int (iI (n : Int)), .int (iI (cnt (fun i => decide (0 ≤ nxF 12 12 (supI (fun _ => 0) j z) i)) n))], Wd xs L A V (mY (iI 0) b (mj_NE + 33) f [zO o, zI gT, zI (upd f j (iI z)), zL (mj_NE + 37), zI gW]), 4, 435)) (g' := (69, [.ref (mj_NE + 32), .int (iI x), .int (iI y), .int (iI z), .ref (mj_NE + 36), .ref (mj_NE + 39), .int ((iI (cnt (fun i => decide (0 ≤ nxF 12 12 (supI (fun _ => 0) j z) i)) n)) + (iI 0)), .int ((iI (n : Int)) + 1)], [], Wd xs L A V (mY (iI 0) b (mj_NE + 33) f [zO o, zI gT, zI (upd f j (iI z)), zL (mj_NE + 37), zI gW]), 4, 435)) ok_M_endsWith 69 [true] rfl ⟨by show iI (n : Int) = iI (n : Int); rfl, trivial⟩)
        rw [iI_1, iI_add, ec] at v2
        exact v2
  have z1 := r_tr (lp 144 (Nat.le_refl _)) (r_to (RC := 4) (RS := 435) (dd := 3) (g := (69, [.ref (mj_NE + 32), .int (iI x), .int (iI y), .int (iI z), .ref (mj_NE + 36), .ref (mj_NE + 39), .int (iI (cnt (fun i => decide (0 ≤ nxF 12 12 (supI (fun _ => 0) j z) i)) 144)), .int (iI ((144 : Nat) : Int))], [], Wd xs L A V (mY (iI 0) b (mj_NE + 33) f [zO o, zI gT, zI (upd f j (iI z)), zL (mj_NE + 37), zI gW]), 4, 435)) (g' := (112, [.ref (mj_NE + 32), .int (iI x), .int (iI y), .int (iI z), .ref (mj_NE + 36), .ref (mj_NE + 39), .int (iI (cnt (fun i => decide (0 ≤ nxF 12 12 (supI (fun _ => 0) j z) i)) 144)), .int (iI ((144 : Nat) : Int))], [.int (iI (cnt (fun i => decide (0 ≤ nxF 12 12 (supI (fun _ => 0) j z) i)) 144))], Wd xs L A V (mY (iI 0) b (mj_NE + 33) f [zO o, zI gT, zI (upd f j (iI z)), zL (mj_NE + 37), zI gW]), 4, 435)) ok_M_endsWith 9999 [true] rfl ⟨by show iI 144 ≤ iI ((144 : Nat) : Int); rw [iI_le ⟨by omega, by omega⟩ ⟨by omega, by omega⟩]; omega, trivial⟩)
  exact ct_of ok_M_endsWith rfl z1 rfl rfl rfl rfl rfl
theorem c_MLinit_0 {w h : Int32} : mj_Ct m_ML_init [.ref (mj_NE + 33), .int w, .int h, .ref (mj_NE + 34)] (Wd xs L A V [.inr (10, [.int 0, .null, .int 0]), .inr (9, [.int 0, .int 0, .null]), zI (fun _ => 0)]) none (Wd xs L A V [.inr (10, [.int 0, .null, .int 0]), .inr (9, [.int w, .int h, .ref (mj_NE + 34)]), zI (fun _ => 0)]) 0 0 1 := by
  have t1 := r_to (RC := 0) (RS := 0) (dd := 1) (g := (0, [.ref (mj_NE + 33), .int w, .int h, .ref (mj_NE + 34)], [], Wd xs L A V [.inr (10, [.int 0, .null, .int 0]), .inr (9, [.int 0, .int 0, .null]), zI (fun _ => 0)], 0, 0)) (g' := (1, [.ref (mj_NE + 33), .int w, .int h, .ref (mj_NE + 34)], [.ref (mj_NE + 33)], Wd xs L A V [.inr (10, [.int 0, .null, .int 0]), .inr (9, [.int 0, .int 0, .null]), zI (fun _ => 0)], 0, 0)) ok_ML_init 9999 [] rfl trivial
  have t2 := r_tr t1 (r_O ok_ML_init rfl rfl rfl)
  exact ct_of ok_ML_init rfl (r_tr t2 (r_to ok_ML_init 9999 [] rfl trivial)) rfl rfl rfl rfl rfl
theorem i_M : mj_Ct m_M_init [.ref (mj_NE + 32)] (Wd xs L A V [.inr (10, [.int 0, .null, .int 0])]) none (Wd xs L A V (mY 0 5 (mj_NE + 33) (fun _ => 0) [])) 2 147 2 := by
  have t1 := r_to (RC := 2) (RS := 147) (dd := 2) (g := (0, [.ref (mj_NE + 32)], [], Wd xs L A V [.inr (10, [.int 0, .null, .int 0])], 0, 0)) (g' := (1, [.ref (mj_NE + 32)], [.ref (mj_NE + 32)], Wd xs L A V [.inr (10, [.int 0, .null, .int 0])], 0, 0)) ok_M_init 9999 [] rfl trivial
  have t2 := r_tr t1 (r_O ok_M_init rfl rfl rfl)
  have t3 := r_tr t2 (r_to (g' := (18, [.ref (mj_NE + 32)], [.ref (mj_NE + 34), .int (iI 12), .int (iI 12), .ref (mj_NE + 33), .ref (mj_NE + 33), .ref (mj_NE + 32)], Wd xs L A V [.inr (10, [.int 0, .null, .int 0]), .inr (9, [.int 0, .int 0, .null]), zI (fun _ => 0)], 2, 147)) ok_M_init 9999 [] rfl ⟨⟨by decide, by decide⟩, ⟨by decide +kernel, by decide +kernel, by decide +kernel, by decide +kernel⟩, trivial⟩)
  have t4 := r_tr t3 (q_I ok_M_init ok_ML_init in_ML_init (c_MLinit_0) rfl rfl rfl rfl ⟨rfl, rfl, rfl⟩)
  exact ct_of ok_M_init rfl (r_tr t4 (r_to ok_M_init 9999 [] rfl trivial)) rfl rfl rfl rfl rfl
end REF26
