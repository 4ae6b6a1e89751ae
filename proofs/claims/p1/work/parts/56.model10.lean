/-! THE REFERENCE: others, to, flows, end, steps, rank -/
theorem n144 : (iI 144).toNatClampNeg = 144 ∧ ¬ (iI 144 < 0) := by decide +kernel
theorem chD_nx {w h : Int} {H : Nat → Int} {i : Nat} : ∀ d : Nat, d ≤ 8 → (8 ≤ (chD w h H i d).2.1 → (chD w h H i d).2.2 = -1) ∧ ((chD w h H i d).2.1 < 8 → ∃ e : Nat, e < 8 ∧ (chD w h H i d).2.1 = e ∧ (chD w h H i d).2.2 = nbi w h i e ∧ 0 ≤ nbi w h i e) := by
  intro d
  induction d with
  | zero =>
    intro _
    refine ⟨fun _ => rfl, fun q => ?_⟩
    have e0 : (chD w h H i 0).2.1 = if edgeB w h i = true then 8 else 9 := rfl
    rw [e0] at q
    split at q <;> omega
  | succ d ih =>
    intro hd
    obtain ⟨i1, i2⟩ := ih (by omega)
    rw [chD]
    by_cases h1 : nbi w h i d < 0
    · rw [if_pos h1]; exact ⟨i1, i2⟩
    · rw [if_neg h1]
      by_cases h2 : (chD w h H i d).1 < (H i - H (nbi w h i d).toNat) * (if d % 2 = 1 then 7 else 10)
      · rw [if_pos h2]
        exact ⟨fun q => by have q2 : (8 : Int) ≤ d := q; omega, fun _ => ⟨d, by omega, rfl, rfl, by omega⟩⟩
      · rw [if_neg h2]; exact ⟨i1, i2⟩
theorem chD_flat {w h : Int} {H : Nat → Int} {i : Nat} {c : Int} (hc : ∀ j, H j = c) : ∀ d : Nat, chD w h H i d = (0, if edgeB w h i = true then 8 else 9, -1) := by
  intro d
  induction d with
  | zero => rfl
  | succ d ih =>
    rw [chD, ih]
    split
    · rfl
    · rw [hc, hc, if_neg (by dsimp only; omega)]
section REF11
variable {xs : Nat → Int32} {L : Nat} {A : Nat → Nat → Int32} {V : Nat → Int32} {t b : Int32} {ld : Nat} {f g g2 : Nat → Int32} {Z : mj_H} {o : Nat → Int64} {H F G : Nat → Int} {z1 z2 z3 : mj_Cl}
theorem c_ML_others (hf : Hts f 144 F) (hg : Hts g 144 G) : mj_Ct m_ML_others [.ref (mj_NE + 33), .ref (mj_NE + 36)] (Wd xs L A V (mY t b ld f (zO o :: zI g :: Z))) (some (.int (iI (cnt (fun j => decide (F j ≠ G j)) 144)))) (Wd xs L A V (mY t b ld f (zO o :: zI g :: Z))) 0 0 1 := by
  have r0 := r_to (RC := 0) (RS := 0) (dd := 1) (g := (0, [.ref (mj_NE + 33), .ref (mj_NE + 36), mj_u, mj_u], [], Wd xs L A V (mY t b ld f (zO o :: zI g :: Z)), 0, 0)) (g' := (4, [.ref (mj_NE + 33), .ref (mj_NE + 36), .int (iI (cnt (fun j => decide (F j ≠ G j)) 0)), .int (iI 0)], [], Wd xs L A V (mY t b ld f (zO o :: zI g :: Z)), 0, 0)) ok_ML_others 4 [] rfl trivial
  have hsz : ∀ n : Nat, n ≤ 144 → mj_Rc m_ML_others 0 0 1 (4, [.ref (mj_NE + 33), .ref (mj_NE + 36), .int (iI (cnt (fun j => decide (F j ≠ G j)) n)), .int (iI (n : Int))], [], Wd xs L A V (mY t b ld f (zO o :: zI g :: Z)), 0, 0) (9, [.ref (mj_NE + 33), .ref (mj_NE + 36), .int (iI (cnt (fun j => decide (F j ≠ G j)) n)), .int (iI (n : Int))], [.int (iI 144), .int (iI (n : Int))], Wd xs L A V (mY t b ld f (zO o :: zI g :: Z)), 0, 0) := fun n hn => by
    have s1 := r_to (RC := 0) (RS := 0) (dd := 1) (g := (4, [.ref (mj_NE + 33), .ref (mj_NE + 36), .int (iI (cnt (fun j => decide (F j ≠ G j)) n)), .int (iI (n : Int))], [], Wd xs L A V (mY t b ld f (zO o :: zI g :: Z)), 0, 0)) (g' := (6, [.ref (mj_NE + 33), .ref (mj_NE + 36), .int (iI (cnt (fun j => decide (F j ≠ G j)) n)), .int (iI (n : Int))], [.ref (mj_NE + 33), .int (iI (n : Int))], Wd xs L A V (mY t b ld f (zO o :: zI g :: Z)), 0, 0)) ok_ML_others 9999 [] rfl trivial
    exact r_tr s1 (q_V ok_ML_others ok_ML_size se_ML_size (c_MLsize) rfl rfl rfl rfl rfl ⟨rfl, rfl, rfl⟩)
  have lp : ∀ n : Nat, n ≤ 144 → mj_Rc m_ML_others 0 0 1 (0, [.ref (mj_NE + 33), .ref (mj_NE + 36), mj_u, mj_u], [], Wd xs L A V (mY t b ld f (zO o :: zI g :: Z)), 0, 0) (4, [.ref (mj_NE + 33), .ref (mj_NE + 36), .int (iI (cnt (fun j => decide (F j ≠ G j)) n)), .int (iI (n : Int))], [], Wd xs L A V (mY t b ld f (zO o :: zI g :: Z)), 0, 0) := by
    intro n
    induction n with
    | zero => intro _; exact r0
    | succ n ih =>
      intro hn
      obtain ⟨e1, b1, b2⟩ := hf n (by omega)
      obtain ⟨e2, b3, b4⟩ := hg n (by omega)
      have hc : (iI (n : Int)).toNatClampNeg = n := cl_nat (by omega)
      have hin : vp_in (iI (n : Int)) 144 := in_nat (by omega) (by omega)
      have c0 : ¬ (iI 144 ≤ iI (n : Int)) := by rw [iI_le ⟨by omega, by omega⟩ ⟨by omega, by omega⟩]; omega
      have cs : cnt (fun j => decide (F j ≠ G j)) (n + 1) = cnt (fun j => decide (F j ≠ G j)) n + (if decide (F n ≠ G n) = true then 1 else 0) := rfl
      by_cases q : F n = G n
      · have s4 := r_tr (r_tr (ih (by omega)) (hsz n (by omega))) (r_to (g' := (4, [.ref (mj_NE + 33), .ref (mj_NE + 36), .int (iI (cnt (fun j => decide (F j ≠ G j)) n) + iI 0), .int (iI (n : Int) + 1)], [], Wd xs L A V (mY t b ld f (zO o :: zI g :: Z)), 0, 0)) ok_ML_others 4 [false, true] rfl ⟨c0, hin, hin, by
          show f (iI (n : Int)).toNatClampNeg = g (iI (n : Int)).toNatClampNeg
          rw [hc, e1, e2, q], trivial⟩)
        rw [iI_1, iI_add, show cnt (fun j => decide (F j ≠ G j)) n + 0 = cnt (fun j => decide (F j ≠ G j)) (n + 1) by rw [cs, if_neg (by simp [q])]] at s4
        exact s4
      · have s4 := r_tr (r_tr (ih (by omega)) (hsz n (by omega))) (r_to (g' := (4, [.ref (mj_NE + 33), .ref (mj_NE + 36), .int (iI (cnt (fun j => decide (F j ≠ G j)) n) + iI 1), .int (iI (n : Int) + 1)], [], Wd xs L A V (mY t b ld f (zO o :: zI g :: Z)), 0, 0)) ok_ML_others 4 [false, false] rfl ⟨c0, hin, hin, by
          show ¬ (f (iI (n : Int)).toNatClampNeg = g (iI (n : Int)).toNatClampNeg)
          rw [hc, e1, e2, iI_eq ⟨by omega, by omega⟩ ⟨by omega, by omega⟩]
          exact q, trivial⟩)
        rw [iI_1, iI_add, show cnt (fun j => decide (F j ≠ G j)) n + 1 = cnt (fun j => decide (F j ≠ G j)) (n + 1) by rw [cs, if_pos (by simp [q])]] at s4
        exact s4
  exact ct_of ok_ML_others rfl (r_tr (r_tr (lp 144 (Nat.le_refl _)) (hsz 144 (Nat.le_refl _))) (r_to ok_ML_others 9999 [true] rfl ⟨by show iI 144 ≤ iI ((144 : Nat) : Int); rw [iI_le ⟨by omega, by omega⟩ ⟨by omega, by omega⟩]; omega, trivial⟩)) rfl rfl rfl rfl rfl
set_option maxHeartbeats 1000000 in
theorem c_ML_to1 (hf : Hts f 144 H) : mj_Ct m_ML_to [.ref (mj_NE + 33)] (Wd xs L A V (mY t b ld f [zO o])) (some (.ref (mj_NE + 36))) (Wd xs L A V (mY t b ld f [zO o, zI (pw (fun j => iI (nxF 12 12 H j)) (fun _ => 0) 144)])) 1 144 2 := by
  have hH2 : ∀ j, j < 144 → 0 ≤ H j ∧ H j ≤ 999 := fun j hj => (hf j hj).2
  have r00 := r_to (RC := 1) (RS := 144) (dd := 2) (g := (0, [.ref (mj_NE + 33), mj_u, mj_u], [], Wd xs L A V (mY t b ld f [zO o]), 0, 0)) (g' := (1, [.ref (mj_NE + 33), mj_u, mj_u], [.ref (mj_NE + 33)], Wd xs L A V (mY t b ld f [zO o]), 0, 0)) ok_ML_to 9999 [] rfl trivial
  have r01 := r_tr r00 (q_V ok_ML_to ok_ML_size se_ML_size (c_MLsize) rfl rfl rfl rfl rfl ⟨rfl, rfl, rfl⟩)
  have r0 : mj_Rc m_ML_to 1 144 2 (4, [.ref (mj_NE + 33), mj_u, mj_u], [.int (iI 144)], Wd xs L A V (mY t b ld f [zO o]), 0, 0) (9, [.ref (mj_NE + 33), .ref (mj_NE + 36), .int (iI ((0 : Nat) : Int))], [], Wd xs L A V (mY t b ld f [zO o, zI (pw (fun j => iI (nxF 12 12 H j)) (fun _ => 0) 0)]), 1, 144) := by
    rw [pw_0]
    exact r_to ok_ML_to 9 [] rfl ⟨⟨n144.2, by rw [n144.1]; decide, by decide, by rw [n144.1]; decide⟩, trivial⟩
  have hsz : ∀ n : Nat, n ≤ 144 → mj_Rc m_ML_to 1 144 2 (9, [.ref (mj_NE + 33), .ref (mj_NE + 36), .int (iI (n : Int))], [], Wd xs L A V (mY t b ld f [zO o, zI (pw (fun j => iI (nxF 12 12 H j)) (fun _ => 0) n)]), 1, 144) (14, [.ref (mj_NE + 33), .ref (mj_NE + 36), .int (iI (n : Int))], [.int (iI 144), .int (iI (n : Int))], Wd xs L A V (mY t b ld f [zO o, zI (pw (fun j => iI (nxF 12 12 H j)) (fun _ => 0) n)]), 1, 144) := fun n hn => by
    have s1 := r_to (RC := 1) (RS := 144) (dd := 2) (g := (9, [.ref (mj_NE + 33), .ref (mj_NE + 36), .int (iI (n : Int))], [], Wd xs L A V (mY t b ld f [zO o, zI (pw (fun j => iI (nxF 12 12 H j)) (fun _ => 0) n)]), 1, 144)) (g' := (11, [.ref (mj_NE + 33), .ref (mj_NE + 36), .int (iI (n : Int))], [.ref (mj_NE + 33), .int (iI (n : Int))], Wd xs L A V (mY t b ld f [zO o, zI (pw (fun j => iI (nxF 12 12 H j)) (fun _ => 0) n)]), 1, 144)) ok_ML_to 9999 [] rfl trivial
    exact r_tr s1 (q_V ok_ML_to ok_ML_size se_ML_size (c_MLsize) rfl rfl rfl rfl rfl ⟨rfl, rfl, rfl⟩)
  have lp : ∀ n : Nat, n ≤ 144 → mj_Rc m_ML_to 1 144 2 (0, [.ref (mj_NE + 33), mj_u, mj_u], [], Wd xs L A V (mY t b ld f [zO o]), 0, 0) (9, [.ref (mj_NE + 33), .ref (mj_NE + 36), .int (iI (n : Int))], [], Wd xs L A V (mY t b ld f [zO o, zI (pw (fun j => iI (nxF 12 12 H j)) (fun _ => 0) n)]), 1, 144) := by
    intro n
    induction n with
    | zero => intro _; exact r_tr r01 r0
    | succ n ih =>
      intro hn
      have hc : (iI (n : Int)).toNatClampNeg = n := cl_nat (by omega)
      have hin : vp_in (iI (n : Int)) 144 := in_nat (by omega) (by omega)
      have c0 : ¬ (iI 144 ≤ iI (n : Int)) := by rw [iI_le ⟨by omega, by omega⟩ ⟨by omega, by omega⟩]; omega
      have bd := chD_bd (w := 12) (h := 12) (N := 144) (i := n) ⟨by omega, by omega⟩ ⟨by omega, by omega⟩ rfl hH2 (by omega) 8 (Nat.le_refl _)
      obtain ⟨x1, x2⟩ := chD_nx (w := 12) (h := 12) (H := H) (i := n) 8 (Nat.le_refl _)
      have s2 := r_tr (r_tr (ih (by omega)) (hsz n (by omega))) (r_to (g' := (21, [.ref (mj_NE + 33), .ref (mj_NE + 36), .int (iI (n : Int))], [.int (iI (n : Int)), .ref (mj_NE + 33), .int (iI (n : Int)), .ref (mj_NE + 36)], Wd xs L A V (mY t b ld f [zO o, zI (pw (fun j => iI (nxF 12 12 H j)) (fun _ => 0) n)]), 1, 144)) ok_ML_to 9999 [false] rfl ⟨c0, trivial⟩)
      have s3 := r_tr s2 (q_V ok_ML_to ok_ML_goes se_ML_goes (c_MLgoes hf (by omega)) rfl rfl rfl rfl rfl ⟨rfl, rfl, rfl⟩)
      by_cases hd : drF 12 12 H n < 8
      · obtain ⟨e, e1, e2, e3, e4⟩ := x2 hd
        have s4 := r_tr s3 (r_to (g' := (33, [.ref (mj_NE + 33), .ref (mj_NE + 36), .int (iI (n : Int))], [.int (iI (n : Int)), .ref (mj_NE + 33), .int (iI (n : Int)), .ref (mj_NE + 33), .int (iI (n : Int)), .ref (mj_NE + 36)], Wd xs L A V (mY t b ld f [zO o, zI (pw (fun j => iI (nxF 12 12 H j)) (fun _ => 0) n)]), 1, 144)) ok_ML_to 9999 [false] rfl ⟨by
          show ¬ (iI 8 ≤ iI (drF 12 12 H n))
          rw [iI_le ⟨by omega, by omega⟩ ⟨by unfold drF; omega, by unfold drF; omega⟩]
          omega, trivial⟩)
        have s5 := r_tr s4 (q_V ok_ML_to ok_ML_goes se_ML_goes (c_MLgoes hf (by omega)) rfl rfl rfl rfl rfl ⟨rfl, rfl, rfl⟩)
        have e5 : drF 12 12 H n = (e : Int) := e2
        have e6 : nxF 12 12 H n = nbi 12 12 n e := e3
        rw [e5] at s5
        have s6 := r_tr s5 (q_V ok_ML_to ok_ML_next se_ML_next (c_MLnext (by omega) e1) rfl rfl rfl rfl rfl ⟨rfl, rfl, rfl⟩)
        have s7 := r_tr s6 (r_to (g' := (9, [.ref (mj_NE + 33), .ref (mj_NE + 36), .int (iI (n : Int) + 1)], [], Wd xs L A V (mY t b ld f [zO o, zI (upd (pw (fun j => iI (nxF 12 12 H j)) (fun _ => 0) n) (iI (n : Int)).toNatClampNeg (iI (nbi 12 12 n e)))]), 1, 144)) ok_ML_to 9 [] rfl ⟨hin, trivial⟩)
        rw [hc, iI_1, pw_s (by rw [e6])] at s7
        exact s7
      · have s4 := r_tr s3 (r_to (g' := (9, [.ref (mj_NE + 33), .ref (mj_NE + 36), .int (iI (n : Int) + 1)], [], Wd xs L A V (mY t b ld f [zO o, zI (upd (pw (fun j => iI (nxF 12 12 H j)) (fun _ => 0) n) (iI (n : Int)).toNatClampNeg (iI (-1)))]), 1, 144)) ok_ML_to 9 [true] rfl ⟨by
          show iI 8 ≤ iI (drF 12 12 H n)
          rw [iI_le ⟨by omega, by omega⟩ ⟨by unfold drF; omega, by unfold drF; omega⟩]
          omega, hin, trivial⟩)
        have e6 : nxF 12 12 H n = -1 := x1 (by unfold drF at hd; omega)
        rw [hc, iI_1, pw_s (by rw [e6])] at s4
        exact s4
  exact ct_of ok_ML_to rfl (r_tr (r_tr (lp 144 (Nat.le_refl _)) (hsz 144 (Nat.le_refl _))) (r_to ok_ML_to 9999 [true] rfl ⟨by show iI 144 ≤ iI ((144 : Nat) : Int); rw [iI_le ⟨by omega, by omega⟩ ⟨by omega, by omega⟩]; omega, trivial⟩)) rfl rfl rfl rfl rfl
set_option maxHeartbeats 1000000 in
theorem c_ML_to4 (hf : Hts f 144 H) : mj_Ct m_ML_to [.ref (mj_NE + 33)] (Wd xs L A V (mY t b ld f [zO o, z1, z2, z3])) (some (.ref (mj_NE + 39))) (Wd xs L A V (mY t b ld f [zO o, z1, z2, z3, zI (pw (fun j => iI (nxF 12 12 H j)) (fun _ => 0) 144)])) 1 144 2 := by
  have hH2 : ∀ j, j < 144 → 0 ≤ H j ∧ H j ≤ 999 := fun j hj => (hf j hj).2
  have r00 := r_to (RC := 1) (RS := 144) (dd := 2) (g := (0, [.ref (mj_NE + 33), mj_u, mj_u], [], Wd xs L A V (mY t b ld f [zO o, z1, z2, z3]), 0, 0)) (g' := (1, [.ref (mj_NE + 33), mj_u, mj_u], [.ref (mj_NE + 33)], Wd xs L A V (mY t b ld f [zO o, z1, z2, z3]), 0, 0)) ok_ML_to 9999 [] rfl trivial
  have r01 := r_tr r00 (q_V ok_ML_to ok_ML_size se_ML_size (c_MLsize) rfl rfl rfl rfl rfl ⟨rfl, rfl, rfl⟩)
  have r0 : mj_Rc m_ML_to 1 144 2 (4, [.ref (mj_NE + 33), mj_u, mj_u], [.int (iI 144)], Wd xs L A V (mY t b ld f [zO o, z1, z2, z3]), 0, 0) (9, [.ref (mj_NE + 33), .ref (mj_NE + 39), .int (iI ((0 : Nat) : Int))], [], Wd xs L A V (mY t b ld f [zO o, z1, z2, z3, zI (pw (fun j => iI (nxF 12 12 H j)) (fun _ => 0) 0)]), 1, 144) := by
    rw [pw_0]
    exact r_to ok_ML_to 9 [] rfl ⟨⟨n144.2, by rw [n144.1]; decide, by decide, by rw [n144.1]; decide⟩, trivial⟩
  have hsz : ∀ n : Nat, n ≤ 144 → mj_Rc m_ML_to 1 144 2 (9, [.ref (mj_NE + 33), .ref (mj_NE + 39), .int (iI (n : Int))], [], Wd xs L A V (mY t b ld f [zO o, z1, z2, z3, zI (pw (fun j => iI (nxF 12 12 H j)) (fun _ => 0) n)]), 1, 144) (14, [.ref (mj_NE + 33), .ref (mj_NE + 39), .int (iI (n : Int))], [.int (iI 144), .int (iI (n : Int))], Wd xs L A V (mY t b ld f [zO o, z1, z2, z3, zI (pw (fun j => iI (nxF 12 12 H j)) (fun _ => 0) n)]), 1, 144) := fun n hn => by
    have s1 := r_to (RC := 1) (RS := 144) (dd := 2) (g := (9, [.ref (mj_NE + 33), .ref (mj_NE + 39), .int (iI (n : Int))], [], Wd xs L A V (mY t b ld f [zO o, z1, z2, z3, zI (pw (fun j => iI (nxF 12 12 H j)) (fun _ => 0) n)]), 1, 144)) (g' := (11, [.ref (mj_NE + 33), .ref (mj_NE + 39), .int (iI (n : Int))], [.ref (mj_NE + 33), .int (iI (n : Int))], Wd xs L A V (mY t b ld f [zO o, z1, z2, z3, zI (pw (fun j => iI (nxF 12 12 H j)) (fun _ => 0) n)]), 1, 144)) ok_ML_to 9999 [] rfl trivial
    exact r_tr s1 (q_V ok_ML_to ok_ML_size se_ML_size (c_MLsize) rfl rfl rfl rfl rfl ⟨rfl, rfl, rfl⟩)
  have lp : ∀ n : Nat, n ≤ 144 → mj_Rc m_ML_to 1 144 2 (0, [.ref (mj_NE + 33), mj_u, mj_u], [], Wd xs L A V (mY t b ld f [zO o, z1, z2, z3]), 0, 0) (9, [.ref (mj_NE + 33), .ref (mj_NE + 39), .int (iI (n : Int))], [], Wd xs L A V (mY t b ld f [zO o, z1, z2, z3, zI (pw (fun j => iI (nxF 12 12 H j)) (fun _ => 0) n)]), 1, 144) := by
    intro n
    induction n with
    | zero => intro _; exact r_tr r01 r0
    | succ n ih =>
      intro hn
      have hc : (iI (n : Int)).toNatClampNeg = n := cl_nat (by omega)
      have hin : vp_in (iI (n : Int)) 144 := in_nat (by omega) (by omega)
      have c0 : ¬ (iI 144 ≤ iI (n : Int)) := by rw [iI_le ⟨by omega, by omega⟩ ⟨by omega, by omega⟩]; omega
      have bd := chD_bd (w := 12) (h := 12) (N := 144) (i := n) ⟨by omega, by omega⟩ ⟨by omega, by omega⟩ rfl hH2 (by omega) 8 (Nat.le_refl _)
      obtain ⟨x1, x2⟩ := chD_nx (w := 12) (h := 12) (H := H) (i := n) 8 (Nat.le_refl _)
      have s2 := r_tr (r_tr (ih (by omega)) (hsz n (by omega))) (r_to (g' := (21, [.ref (mj_NE + 33), .ref (mj_NE + 39), .int (iI (n : Int))], [.int (iI (n : Int)), .ref (mj_NE + 33), .int (iI (n : Int)), .ref (mj_NE + 39)], Wd xs L A V (mY t b ld f [zO o, z1, z2, z3, zI (pw (fun j => iI (nxF 12 12 H j)) (fun _ => 0) n)]), 1, 144)) ok_ML_to 9999 [false] rfl ⟨c0, trivial⟩)
      have s3 := r_tr s2 (q_V ok_ML_to ok_ML_goes se_ML_goes (c_MLgoes hf (by omega)) rfl rfl rfl rfl rfl ⟨rfl, rfl, rfl⟩)
      by_cases hd : drF 12 12 H n < 8
      · obtain ⟨e, e1, e2, e3, e4⟩ := x2 hd
        have s4 := r_tr s3 (r_to (g' := (33, [.ref (mj_NE + 33), .ref (mj_NE + 39), .int (iI (n : Int))], [.int (iI (n : Int)), .ref (mj_NE + 33), .int (iI (n : Int)), .ref (mj_NE + 33), .int (iI (n : Int)), .ref (mj_NE + 39)], Wd xs L A V (mY t b ld f [zO o, z1, z2, z3, zI (pw (fun j => iI (nxF 12 12 H j)) (fun _ => 0) n)]), 1, 144)) ok_ML_to 9999 [false] rfl ⟨by
          show ¬ (iI 8 ≤ iI (drF 12 12 H n))
          rw [iI_le ⟨by omega, by omega⟩ ⟨by unfold drF; omega, by unfold drF; omega⟩]
          omega, trivial⟩)
        have s5 := r_tr s4 (q_V ok_ML_to ok_ML_goes se_ML_goes (c_MLgoes hf (by omega)) rfl rfl rfl rfl rfl ⟨rfl, rfl, rfl⟩)
        have e5 : drF 12 12 H n = (e : Int) := e2
        have e6 : nxF 12 12 H n = nbi 12 12 n e := e3
        rw [e5] at s5
        have s6 := r_tr s5 (q_V ok_ML_to ok_ML_next se_ML_next (c_MLnext (by omega) e1) rfl rfl rfl rfl rfl ⟨rfl, rfl, rfl⟩)
        have s7 := r_tr s6 (r_to (g' := (9, [.ref (mj_NE + 33), .ref (mj_NE + 39), .int (iI (n : Int) + 1)], [], Wd xs L A V (mY t b ld f [zO o, z1, z2, z3, zI (upd (pw (fun j => iI (nxF 12 12 H j)) (fun _ => 0) n) (iI (n : Int)).toNatClampNeg (iI (nbi 12 12 n e)))]), 1, 144)) ok_ML_to 9 [] rfl ⟨hin, trivial⟩)
        rw [hc, iI_1, pw_s (by rw [e6])] at s7
        exact s7
      · have s4 := r_tr s3 (r_to (g' := (9, [.ref (mj_NE + 33), .ref (mj_NE + 39), .int (iI (n : Int) + 1)], [], Wd xs L A V (mY t b ld f [zO o, z1, z2, z3, zI (upd (pw (fun j => iI (nxF 12 12 H j)) (fun _ => 0) n) (iI (n : Int)).toNatClampNeg (iI (-1)))]), 1, 144)) ok_ML_to 9 [true] rfl ⟨by
          show iI 8 ≤ iI (drF 12 12 H n)
          rw [iI_le ⟨by omega, by omega⟩ ⟨by unfold drF; omega, by unfold drF; omega⟩]
          omega, hin, trivial⟩)
        have e6 : nxF 12 12 H n = -1 := x1 (by unfold drF at hd; omega)
        rw [hc, iI_1, pw_s (by rw [e6])] at s4
        exact s4
  exact ct_of ok_ML_to rfl (r_tr (r_tr (lp 144 (Nat.le_refl _)) (hsz 144 (Nat.le_refl _))) (r_to ok_ML_to 9999 [true] rfl ⟨by show iI 144 ≤ iI ((144 : Nat) : Int); rw [iI_le ⟨by omega, by omega⟩ ⟨by omega, by omega⟩]; omega, trivial⟩)) rfl rfl rfl rfl rfl
theorem c_ML_flows0 (hg : ∀ j, j < 144 → g j = iI (-1)) : mj_Ct m_ML_flows [.ref (mj_NE + 33), .ref (mj_NE + 36)] (Wd xs L A V (mY t b ld f [zO o, zI g])) (some (.ref (mj_NE + 37))) (Wd xs L A V (mY t b ld f [zO o, zI g, zI (pw (fun _ => iI 1) (fun _ => 0) 144)])) 1 144 1 := by
  have r00 := r_to (RC := 1) (RS := 144) (dd := 1) (g := (0, [.ref (mj_NE + 33), .ref (mj_NE + 36), mj_u, mj_u, mj_u], [], Wd xs L A V (mY t b ld f [zO o, zI g]), 0, 0)) (g' := (1, [.ref (mj_NE + 33), .ref (mj_NE + 36), mj_u, mj_u, mj_u], [.ref (mj_NE + 33)], Wd xs L A V (mY t b ld f [zO o, zI g]), 0, 0)) ok_ML_flows 9999 [] rfl trivial
  have r01 := r_tr r00 (q_V ok_ML_flows ok_ML_size se_ML_size (c_MLsize) rfl rfl rfl rfl rfl ⟨rfl, rfl, rfl⟩)
  have r0 : mj_Rc m_ML_flows 1 144 1 (4, [.ref (mj_NE + 33), .ref (mj_NE + 36), mj_u, mj_u, mj_u], [.int (iI 144)], Wd xs L A V (mY t b ld f [zO o, zI g]), 0, 0) (9, [.ref (mj_NE + 33), .ref (mj_NE + 36), .ref (mj_NE + 37), .int (iI ((0 : Nat) : Int)), mj_u], [], Wd xs L A V (mY t b ld f [zO o, zI g, zI (pw (fun _ => iI 1) (fun _ => 0) 0)]), 1, 144) := by
    rw [pw_0]
    exact r_to ok_ML_flows 9 [] rfl ⟨⟨n144.2, by rw [n144.1]; decide, by decide, by rw [n144.1]; decide⟩, trivial⟩
  have hsz : ∀ (n : Nat) (u : Value), n ≤ 144 → mj_Rc m_ML_flows 1 144 1 (9, [.ref (mj_NE + 33), .ref (mj_NE + 36), .ref (mj_NE + 37), .int (iI (n : Int)), u], [], Wd xs L A V (mY t b ld f [zO o, zI g, zI (pw (fun _ => iI 1) (fun _ => 0) n)]), 1, 144) (14, [.ref (mj_NE + 33), .ref (mj_NE + 36), .ref (mj_NE + 37), .int (iI (n : Int)), u], [.int (iI 144), .int (iI (n : Int))], Wd xs L A V (mY t b ld f [zO o, zI g, zI (pw (fun _ => iI 1) (fun _ => 0) n)]), 1, 144) := fun n u hn => by
    have s1 := r_to (RC := 1) (RS := 144) (dd := 1) (g := (9, [.ref (mj_NE + 33), .ref (mj_NE + 36), .ref (mj_NE + 37), .int (iI (n : Int)), u], [], Wd xs L A V (mY t b ld f [zO o, zI g, zI (pw (fun _ => iI 1) (fun _ => 0) n)]), 1, 144)) (g' := (11, [.ref (mj_NE + 33), .ref (mj_NE + 36), .ref (mj_NE + 37), .int (iI (n : Int)), u], [.ref (mj_NE + 33), .int (iI (n : Int))], Wd xs L A V (mY t b ld f [zO o, zI g, zI (pw (fun _ => iI 1) (fun _ => 0) n)]), 1, 144)) ok_ML_flows 9999 [] rfl trivial
    exact r_tr s1 (q_V ok_ML_flows ok_ML_size se_ML_size (c_MLsize) rfl rfl rfl rfl rfl ⟨rfl, rfl, rfl⟩)
  have lp : ∀ n : Nat, n ≤ 144 → ∃ u : Value, mj_Rc m_ML_flows 1 144 1 (0, [.ref (mj_NE + 33), .ref (mj_NE + 36), mj_u, mj_u, mj_u], [], Wd xs L A V (mY t b ld f [zO o, zI g]), 0, 0) (9, [.ref (mj_NE + 33), .ref (mj_NE + 36), .ref (mj_NE + 37), .int (iI (n : Int)), u], [], Wd xs L A V (mY t b ld f [zO o, zI g, zI (pw (fun _ => iI 1) (fun _ => 0) n)]), 1, 144) := by
    intro n
    induction n with
    | zero => intro _; exact ⟨_, r_tr r01 r0⟩
    | succ n ih =>
      intro hn
      obtain ⟨u, hr⟩ := ih (by omega)
      have hc : (iI (n : Int)).toNatClampNeg = n := cl_nat (by omega)
      have hin : vp_in (iI (n : Int)) 144 := in_nat (by omega) (by omega)
      have c0 : ¬ (iI 144 ≤ iI (n : Int)) := by rw [iI_le ⟨by omega, by omega⟩ ⟨by omega, by omega⟩]; omega
      have c1 : ¬ (iI (n : Int) < iI 0) := by rw [iI_lt ⟨by omega, by omega⟩ ⟨by omega, by omega⟩]; omega
      have s2 := r_tr (r_tr hr (hsz n u (by omega))) (r_to (g' := (9, [.ref (mj_NE + 33), .ref (mj_NE + 36), .ref (mj_NE + 37), .int (iI (n : Int) + 1), .int (g (iI (n : Int)).toNatClampNeg)], [], Wd xs L A V (mY t b ld f [zO o, zI g, zI (upd (pw (fun _ => iI 1) (fun _ => 0) n) (iI (n : Int)).toNatClampNeg ((pw (fun _ => iI 1) (fun _ => 0) n) (iI (n : Int)).toNatClampNeg + iI 1))]), 1, 144)) ok_ML_flows 9 [false, false, true] rfl ⟨c0, c1, hin, hin, hin, by
        show g (iI (n : Int)).toNatClampNeg < iI 0
        rw [hc, hg n (by omega), iI_lt ⟨by omega, by omega⟩ ⟨by omega, by omega⟩]
        omega, trivial⟩)
      rw [hc, iI_1, pw_ge (show ¬ n < n by omega), show (0 : Int32) + iI 1 = iI 1 by decide +kernel, pw_s rfl] at s2
      exact ⟨_, s2⟩
  obtain ⟨u, hr⟩ := lp 144 (Nat.le_refl _)
  exact ct_of ok_ML_flows rfl (r_tr (r_tr hr (hsz 144 u (Nat.le_refl _))) (r_to ok_ML_flows 9999 [true] rfl ⟨by show iI 144 ≤ iI ((144 : Nat) : Int); rw [iI_le ⟨by omega, by omega⟩ ⟨by omega, by omega⟩]; omega, trivial⟩)) rfl rfl rfl rfl rfl
theorem c_ML_end0_36 {i : Nat} (hi : i < 144) (hg : g i = iI (-1)) : mj_Ct m_ML_end [.ref (mj_NE + 36), .int (iI (i : Int))] (Wd xs L A V (mY t b ld f (zO o :: zI g :: Z))) (some (.int (iI (i : Int)))) (Wd xs L A V (mY t b ld f (zO o :: zI g :: Z))) 0 0 0 := by
  have hc : (iI (i : Int)).toNatClampNeg = i := cl_nat (by omega)
  exact ct_of ok_ML_end rfl (r_to ok_ML_end 9999 [true] rfl ⟨in_nat (by omega) (by omega), by
    show g (iI (i : Int)).toNatClampNeg < iI 0
    rw [hc, hg, iI_lt ⟨by omega, by omega⟩ ⟨by omega, by omega⟩]
    omega, trivial⟩) rfl rfl rfl rfl rfl
theorem c_ML_end1_36 {i j : Nat} (hi : i < 144) (hj : j < 144) (hg : g i = iI (j : Int)) (hg2 : g j = iI (-1)) : mj_Ct m_ML_end [.ref (mj_NE + 36), .int (iI (i : Int))] (Wd xs L A V (mY t b ld f (zO o :: zI g :: Z))) (some (.int (iI (j : Int)))) (Wd xs L A V (mY t b ld f (zO o :: zI g :: Z))) 0 0 0 := by
  have hc : (iI (i : Int)).toNatClampNeg = i := cl_nat (by omega)
  have hc2 : (iI (j : Int)).toNatClampNeg = j := cl_nat (by omega)
  have t1 : mj_Rc m_ML_end 0 0 0 (0, [.ref (mj_NE + 36), .int (iI (i : Int)), mj_u], [], Wd xs L A V (mY t b ld f (zO o :: zI g :: Z)), 0, 0) (2, [.ref (mj_NE + 36), .int (iI (i : Int)), .int (g (iI (i : Int)).toNatClampNeg)], [], Wd xs L A V (mY t b ld f (zO o :: zI g :: Z)), 0, 0) := r_to ok_ML_end 2 [false] rfl ⟨in_nat (by omega) (by omega), by
    show ¬ (g (iI (i : Int)).toNatClampNeg < iI 0)
    rw [hc, hg, iI_lt ⟨by omega, by omega⟩ ⟨by omega, by omega⟩]
    omega, in_nat (by omega) (by omega), trivial⟩
  rw [hc, hg] at t1
  exact ct_of ok_ML_end rfl (r_tr t1 (r_to ok_ML_end 9999 [true] rfl ⟨in_nat (by omega) (by omega), by
    show g (iI (j : Int)).toNatClampNeg < iI 0
    rw [hc2, hg2, iI_lt ⟨by omega, by omega⟩ ⟨by omega, by omega⟩]
    omega, trivial⟩)) rfl rfl rfl rfl rfl
theorem c_ML_end0_39 {i : Nat} (hi : i < 144) (hg : g i = iI (-1)) : mj_Ct m_ML_end [.ref (mj_NE + 39), .int (iI (i : Int))] (Wd xs L A V (mY t b ld f (zO o :: z1 :: z2 :: z3 :: zI g :: Z))) (some (.int (iI (i : Int)))) (Wd xs L A V (mY t b ld f (zO o :: z1 :: z2 :: z3 :: zI g :: Z))) 0 0 0 := by
  have hc : (iI (i : Int)).toNatClampNeg = i := cl_nat (by omega)
  exact ct_of ok_ML_end rfl (r_to ok_ML_end 9999 [true] rfl ⟨in_nat (by omega) (by omega), by
    show g (iI (i : Int)).toNatClampNeg < iI 0
    rw [hc, hg, iI_lt ⟨by omega, by omega⟩ ⟨by omega, by omega⟩]
    omega, trivial⟩) rfl rfl rfl rfl rfl
theorem c_ML_end1_39 {i j : Nat} (hi : i < 144) (hj : j < 144) (hg : g i = iI (j : Int)) (hg2 : g j = iI (-1)) : mj_Ct m_ML_end [.ref (mj_NE + 39), .int (iI (i : Int))] (Wd xs L A V (mY t b ld f (zO o :: z1 :: z2 :: z3 :: zI g :: Z))) (some (.int (iI (j : Int)))) (Wd xs L A V (mY t b ld f (zO o :: z1 :: z2 :: z3 :: zI g :: Z))) 0 0 0 := by
  have hc : (iI (i : Int)).toNatClampNeg = i := cl_nat (by omega)
  have hc2 : (iI (j : Int)).toNatClampNeg = j := cl_nat (by omega)
  have t1 : mj_Rc m_ML_end 0 0 0 (0, [.ref (mj_NE + 39), .int (iI (i : Int)), mj_u], [], Wd xs L A V (mY t b ld f (zO o :: z1 :: z2 :: z3 :: zI g :: Z)), 0, 0) (2, [.ref (mj_NE + 39), .int (iI (i : Int)), .int (g (iI (i : Int)).toNatClampNeg)], [], Wd xs L A V (mY t b ld f (zO o :: z1 :: z2 :: z3 :: zI g :: Z)), 0, 0) := r_to ok_ML_end 2 [false] rfl ⟨in_nat (by omega) (by omega), by
    show ¬ (g (iI (i : Int)).toNatClampNeg < iI 0)
    rw [hc, hg, iI_lt ⟨by omega, by omega⟩ ⟨by omega, by omega⟩]
    omega, in_nat (by omega) (by omega), trivial⟩
  rw [hc, hg] at t1
  exact ct_of ok_ML_end rfl (r_tr t1 (r_to ok_ML_end 9999 [true] rfl ⟨in_nat (by omega) (by omega), by
    show g (iI (j : Int)).toNatClampNeg < iI 0
    rw [hc2, hg2, iI_lt ⟨by omega, by omega⟩ ⟨by omega, by omega⟩]
    omega, trivial⟩)) rfl rfl rfl rfl rfl
theorem c_ML_steps0 {i : Nat} (hi : i < 144) (hg : g i = iI (-1)) : mj_Ct m_ML_steps [.ref (mj_NE + 36), .int (iI (i : Int))] (Wd xs L A V (mY t b ld f (zO o :: zI g :: Z))) (some (.int (iI 0))) (Wd xs L A V (mY t b ld f (zO o :: zI g :: Z))) 0 0 0 := by
  have hc : (iI (i : Int)).toNatClampNeg = i := cl_nat (by omega)
  exact ct_of ok_ML_steps rfl (r_to ok_ML_steps 9999 [true] rfl ⟨in_nat (by omega) (by omega), by
    show g (iI (i : Int)).toNatClampNeg < iI 0
    rw [hc, hg, iI_lt ⟨by omega, by omega⟩ ⟨by omega, by omega⟩]
    omega, trivial⟩) rfl rfl rfl rfl rfl
theorem c_ML_rank0 {i : Nat} (hi : i < 144) (hg : g2 i = iI 1) : mj_Ct m_ML_rank [.ref (mj_NE + 33), .ref (mj_NE + 36), .ref (mj_NE + 37), .int (iI 5), .int (iI (i : Int))] (Wd xs L A V (mY t b ld f (zO o :: zI g :: zI g2 :: Z))) (some (.int (iI 0))) (Wd xs L A V (mY t b ld f (zO o :: zI g :: zI g2 :: Z))) 0 0 0 := by
  have hc : (iI (i : Int)).toNatClampNeg = i := cl_nat (by omega)
  exact ct_of ok_ML_rank rfl (r_to ok_ML_rank 9999 [false] rfl ⟨in_nat (by omega) (by omega), by
    show ¬ (iI 5 ≤ g2 (iI (i : Int)).toNatClampNeg)
    rw [hc, hg]
    decide +kernel, trivial⟩) rfl rfl rfl rfl rfl
end REF11
