/-! THE REFERENCE: volume, lakes where no LAKE is -/
section REF13
variable {xs : Nat → Int32} {L : Nat} {A : Nat → Nat → Int32} {V : Nat → Int32} {t b : Int32} {ld : Nat} {f : Nat → Int32} {o : Nat → Int64} {H : Nat → Int} {z1 z2 z3 : mj_Cl}
theorem c_ML_volume1 (hno : ∀ lev, LvOK 12 12 144 H lev → ∀ j, j < 144 → lev j = H j) (hf : Hts f 144 H) : ∃ fm fd : Nat → Int32, mj_Ct m_ML_volume [.ref (mj_NE + 33)] (Wd xs L A V (mY t b ld f [zO o])) (some (.int (iI 0))) (Wd xs L A V (mY t b ld f [zO o, zI fm, zB fd])) 2 288 2 := by
  obtain ⟨lev, fm, fd, hlv, hfm, hct⟩ := c_ML_levels1 (xs := xs) (L := L) (A := A) (V := V) (t := t) (b := b) (ld := ld) (o := o)  hf
  refine ⟨fm, fd, ?_⟩
  have r1 := r_to (RC := 2) (RS := 288) (dd := 2) (g := (0, [.ref (mj_NE + 33), mj_u, mj_u, mj_u], [], Wd xs L A V (mY t b ld f [zO o]), 0, 0)) (g' := (3, [.ref (mj_NE + 33), .int (iI 0), mj_u, mj_u], [.ref (mj_NE + 33)], Wd xs L A V (mY t b ld f [zO o]), 0, 0)) ok_ML_volume 9999 [] rfl trivial
  have r2 := r_tr r1 (q_V ok_ML_volume ok_ML_levels se_ML_levels (hct) rfl rfl rfl rfl rfl ⟨rfl, rfl, rfl⟩)
  have r3 := r_tr r2 (r_to (g' := (9, [.ref (mj_NE + 33), .int (iI 0), .ref (mj_NE + 36), .int (iI ((0 : Nat) : Int))], [], Wd xs L A V (mY t b ld f [zO o, zI fm, zB fd]), 2, 288)) ok_ML_volume 9 [] rfl trivial)
  have hsz : ∀ n : Nat, mj_Rc m_ML_volume 2 288 2 (9, [.ref (mj_NE + 33), .int (iI 0), .ref (mj_NE + 36), .int (iI (n : Int))], [], Wd xs L A V (mY t b ld f [zO o, zI fm, zB fd]), 2, 288) (14, [.ref (mj_NE + 33), .int (iI 0), .ref (mj_NE + 36), .int (iI (n : Int))], [.int (iI 144), .int (iI (n : Int))], Wd xs L A V (mY t b ld f [zO o, zI fm, zB fd]), 2, 288) := fun n => by
    have s1 := r_to (RC := 2) (RS := 288) (dd := 2) (g := (9, [.ref (mj_NE + 33), .int (iI 0), .ref (mj_NE + 36), .int (iI (n : Int))], [], Wd xs L A V (mY t b ld f [zO o, zI fm, zB fd]), 2, 288)) (g' := (11, [.ref (mj_NE + 33), .int (iI 0), .ref (mj_NE + 36), .int (iI (n : Int))], [.ref (mj_NE + 33), .int (iI (n : Int))], Wd xs L A V (mY t b ld f [zO o, zI fm, zB fd]), 2, 288)) ok_ML_volume 9999 [] rfl trivial
    exact r_tr s1 (q_V ok_ML_volume ok_ML_size se_ML_size (c_MLsize) rfl rfl rfl rfl rfl ⟨rfl, rfl, rfl⟩)
  have lp : ∀ n : Nat, n ≤ 144 → mj_Rc m_ML_volume 2 288 2 (0, [.ref (mj_NE + 33), mj_u, mj_u, mj_u], [], Wd xs L A V (mY t b ld f [zO o]), 0, 0) (9, [.ref (mj_NE + 33), .int (iI 0), .ref (mj_NE + 36), .int (iI (n : Int))], [], Wd xs L A V (mY t b ld f [zO o, zI fm, zB fd]), 2, 288) := by
    intro n
    induction n with
    | zero => intro _; exact r3
    | succ n ih =>
      intro hn
      have hc : (iI (n : Int)).toNatClampNeg = n := cl_nat (by omega)
      have hin : vp_in (iI (n : Int)) 144 := in_nat (by omega) (by omega)
      have c0 : ¬ (iI 144 ≤ iI (n : Int)) := by rw [iI_le ⟨by omega, by omega⟩ ⟨by omega, by omega⟩]; omega
      have s := r_tr (r_tr (ih (by omega)) (hsz n)) (r_to (g' := (9, [.ref (mj_NE + 33), .int (iI 0 + (fm (iI (n : Int)).toNatClampNeg - f (iI (n : Int)).toNatClampNeg)), .ref (mj_NE + 36), .int (iI (n : Int) + 1)], [], Wd xs L A V (mY t b ld f [zO o, zI fm, zB fd]), 2, 288)) ok_ML_volume 9 [false] rfl ⟨c0, hin, hin, trivial⟩)
      rw [hc, hfm n (by omega), hno lev hlv n (by omega), (hf n (by omega)).1, iI_sub, Int.sub_self, iI_add, Int.add_zero, iI_1] at s
      exact s
  exact ct_of ok_ML_volume rfl (r_tr (r_tr (lp 144 (Nat.le_refl _)) (hsz 144)) (r_to ok_ML_volume 9999 [true] rfl ⟨by show iI 144 ≤ iI ((144 : Nat) : Int); rw [iI_le ⟨by omega, by omega⟩ ⟨by omega, by omega⟩]; omega, trivial⟩)) rfl rfl rfl rfl rfl
theorem c_ML_volume3 (hno : ∀ lev, LvOK 12 12 144 H lev → ∀ j, j < 144 → lev j = H j) (hf : Hts f 144 H) : ∃ fm fd : Nat → Int32, mj_Ct m_ML_volume [.ref (mj_NE + 33)] (Wd xs L A V (mY t b ld f [zO o, z1, z2])) (some (.int (iI 0))) (Wd xs L A V (mY t b ld f [zO o, z1, z2, zI fm, zB fd])) 2 288 2 := by
  obtain ⟨lev, fm, fd, hlv, hfm, hct⟩ := c_ML_levels3 (xs := xs) (L := L) (A := A) (V := V) (t := t) (b := b) (ld := ld) (o := o) (z1 := z1) (z2 := z2) hf
  refine ⟨fm, fd, ?_⟩
  have r1 := r_to (RC := 2) (RS := 288) (dd := 2) (g := (0, [.ref (mj_NE + 33), mj_u, mj_u, mj_u], [], Wd xs L A V (mY t b ld f [zO o, z1, z2]), 0, 0)) (g' := (3, [.ref (mj_NE + 33), .int (iI 0), mj_u, mj_u], [.ref (mj_NE + 33)], Wd xs L A V (mY t b ld f [zO o, z1, z2]), 0, 0)) ok_ML_volume 9999 [] rfl trivial
  have r2 := r_tr r1 (q_V ok_ML_volume ok_ML_levels se_ML_levels (hct) rfl rfl rfl rfl rfl ⟨rfl, rfl, rfl⟩)
  have r3 := r_tr r2 (r_to (g' := (9, [.ref (mj_NE + 33), .int (iI 0), .ref (mj_NE + 38), .int (iI ((0 : Nat) : Int))], [], Wd xs L A V (mY t b ld f [zO o, z1, z2, zI fm, zB fd]), 2, 288)) ok_ML_volume 9 [] rfl trivial)
  have hsz : ∀ n : Nat, mj_Rc m_ML_volume 2 288 2 (9, [.ref (mj_NE + 33), .int (iI 0), .ref (mj_NE + 38), .int (iI (n : Int))], [], Wd xs L A V (mY t b ld f [zO o, z1, z2, zI fm, zB fd]), 2, 288) (14, [.ref (mj_NE + 33), .int (iI 0), .ref (mj_NE + 38), .int (iI (n : Int))], [.int (iI 144), .int (iI (n : Int))], Wd xs L A V (mY t b ld f [zO o, z1, z2, zI fm, zB fd]), 2, 288) := fun n => by
    have s1 := r_to (RC := 2) (RS := 288) (dd := 2) (g := (9, [.ref (mj_NE + 33), .int (iI 0), .ref (mj_NE + 38), .int (iI (n : Int))], [], Wd xs L A V (mY t b ld f [zO o, z1, z2, zI fm, zB fd]), 2, 288)) (g' := (11, [.ref (mj_NE + 33), .int (iI 0), .ref (mj_NE + 38), .int (iI (n : Int))], [.ref (mj_NE + 33), .int (iI (n : Int))], Wd xs L A V (mY t b ld f [zO o, z1, z2, zI fm, zB fd]), 2, 288)) ok_ML_volume 9999 [] rfl trivial
    exact r_tr s1 (q_V ok_ML_volume ok_ML_size se_ML_size (c_MLsize) rfl rfl rfl rfl rfl ⟨rfl, rfl, rfl⟩)
  have lp : ∀ n : Nat, n ≤ 144 → mj_Rc m_ML_volume 2 288 2 (0, [.ref (mj_NE + 33), mj_u, mj_u, mj_u], [], Wd xs L A V (mY t b ld f [zO o, z1, z2]), 0, 0) (9, [.ref (mj_NE + 33), .int (iI 0), .ref (mj_NE + 38), .int (iI (n : Int))], [], Wd xs L A V (mY t b ld f [zO o, z1, z2, zI fm, zB fd]), 2, 288) := by
    intro n
    induction n with
    | zero => intro _; exact r3
    | succ n ih =>
      intro hn
      have hc : (iI (n : Int)).toNatClampNeg = n := cl_nat (by omega)
      have hin : vp_in (iI (n : Int)) 144 := in_nat (by omega) (by omega)
      have c0 : ¬ (iI 144 ≤ iI (n : Int)) := by rw [iI_le ⟨by omega, by omega⟩ ⟨by omega, by omega⟩]; omega
      have s := r_tr (r_tr (ih (by omega)) (hsz n)) (r_to (g' := (9, [.ref (mj_NE + 33), .int (iI 0 + (fm (iI (n : Int)).toNatClampNeg - f (iI (n : Int)).toNatClampNeg)), .ref (mj_NE + 38), .int (iI (n : Int) + 1)], [], Wd xs L A V (mY t b ld f [zO o, z1, z2, zI fm, zB fd]), 2, 288)) ok_ML_volume 9 [false] rfl ⟨c0, hin, hin, trivial⟩)
      rw [hc, hfm n (by omega), hno lev hlv n (by omega), (hf n (by omega)).1, iI_sub, Int.sub_self, iI_add, Int.add_zero, iI_1] at s
      exact s
  exact ct_of ok_ML_volume rfl (r_tr (r_tr (lp 144 (Nat.le_refl _)) (hsz 144)) (r_to ok_ML_volume 9999 [true] rfl ⟨by show iI 144 ≤ iI ((144 : Nat) : Int); rw [iI_le ⟨by omega, by omega⟩ ⟨by omega, by omega⟩]; omega, trivial⟩)) rfl rfl rfl rfl rfl
set_option maxHeartbeats 1000000 in
theorem c_ML_lakes0 (hno : ∀ lev, LvOK 12 12 144 H lev → ∀ j, j < 144 → lev j = H j) (hf : Hts f 144 H) : ∃ fm fd : Nat → Int32, mj_Ct m_ML_lakes [.ref (mj_NE + 33)] (Wd xs L A V (mY t b ld f [zO o])) (some (.ref (mj_NE + 38))) (Wd xs L A V (mY t b ld f [zO o, zI fm, zB fd, zI (pw (fun _ => iI (-1)) (fun _ => 0) 144)])) 3 432 2 := by
  obtain ⟨lev, fm, fd, hlv, hfm, hct⟩ := c_ML_levels1 (xs := xs) (L := L) (A := A) (V := V) (t := t) (b := b) (ld := ld) (o := o) hf
  refine ⟨fm, fd, ?_⟩
  have r1 := r_to (RC := 3) (RS := 432) (dd := 2) (g := (0, [.ref (mj_NE + 33), mj_u, mj_u, mj_u, mj_u, mj_u, mj_u], [], Wd xs L A V (mY t b ld f [zO o]), 0, 0)) (g' := (1, [.ref (mj_NE + 33), mj_u, mj_u, mj_u, mj_u, mj_u, mj_u], [.ref (mj_NE + 33)], Wd xs L A V (mY t b ld f [zO o]), 0, 0)) ok_ML_lakes 9999 [] rfl trivial
  have r2 := r_tr r1 (q_V ok_ML_lakes ok_ML_levels se_ML_levels (hct) rfl rfl rfl rfl rfl ⟨rfl, rfl, rfl⟩)
  have r3 := r_tr r2 (r_to (g' := (6, [.ref (mj_NE + 33), .ref (mj_NE + 36), mj_u, mj_u, mj_u, mj_u, mj_u], [.ref (mj_NE + 33)], Wd xs L A V (mY t b ld f [zO o, zI fm, zB fd]), 2, 288)) ok_ML_lakes 9999 [] rfl trivial)
  have r4 := r_tr r3 (q_V ok_ML_lakes ok_ML_size se_ML_size (c_MLsize) rfl rfl rfl rfl rfl ⟨rfl, rfl, rfl⟩)
  have r5 : mj_Rc m_ML_lakes 3 432 2 (9, [.ref (mj_NE + 33), .ref (mj_NE + 36), mj_u, mj_u, mj_u, mj_u, mj_u], [.int (iI 144)], Wd xs L A V (mY t b ld f [zO o, zI fm, zB fd]), 2, 288) (14, [.ref (mj_NE + 33), .ref (mj_NE + 36), .ref (mj_NE + 38), .int (iI ((0 : Nat) : Int)), mj_u, mj_u, mj_u], [], Wd xs L A V (mY t b ld f [zO o, zI fm, zB fd, zI (pw (fun _ => iI (-1)) (fun _ => 0) 0)]), 3, 432) := by
    rw [pw_0]
    exact r_to ok_ML_lakes 14 [] rfl ⟨⟨n144.2, by rw [n144.1]; decide, by decide, by rw [n144.1]; decide⟩, trivial⟩
  have hs1 : ∀ (n : Nat) (g : Nat → Int32), mj_Rc m_ML_lakes 3 432 2 (14, [.ref (mj_NE + 33), .ref (mj_NE + 36), .ref (mj_NE + 38), .int (iI (n : Int)), mj_u, mj_u, mj_u], [], Wd xs L A V (mY t b ld f [zO o, zI fm, zB fd, zI g]), 3, 432) (19, [.ref (mj_NE + 33), .ref (mj_NE + 36), .ref (mj_NE + 38), .int (iI (n : Int)), mj_u, mj_u, mj_u], [.int (iI 144), .int (iI (n : Int))], Wd xs L A V (mY t b ld f [zO o, zI fm, zB fd, zI g]), 3, 432) := fun n g => by
    have s1 := r_to (RC := 3) (RS := 432) (dd := 2) (g := (14, [.ref (mj_NE + 33), .ref (mj_NE + 36), .ref (mj_NE + 38), .int (iI (n : Int)), mj_u, mj_u, mj_u], [], Wd xs L A V (mY t b ld f [zO o, zI fm, zB fd, zI g]), 3, 432)) (g' := (16, [.ref (mj_NE + 33), .ref (mj_NE + 36), .ref (mj_NE + 38), .int (iI (n : Int)), mj_u, mj_u, mj_u], [.ref (mj_NE + 33), .int (iI (n : Int))], Wd xs L A V (mY t b ld f [zO o, zI fm, zB fd, zI g]), 3, 432)) ok_ML_lakes 9999 [] rfl trivial
    exact r_tr s1 (q_V ok_ML_lakes ok_ML_size se_ML_size (c_MLsize) rfl rfl rfl rfl rfl ⟨rfl, rfl, rfl⟩)
  have lp : ∀ n : Nat, n ≤ 144 → mj_Rc m_ML_lakes 3 432 2 (0, [.ref (mj_NE + 33), mj_u, mj_u, mj_u, mj_u, mj_u, mj_u], [], Wd xs L A V (mY t b ld f [zO o]), 0, 0) (14, [.ref (mj_NE + 33), .ref (mj_NE + 36), .ref (mj_NE + 38), .int (iI (n : Int)), mj_u, mj_u, mj_u], [], Wd xs L A V (mY t b ld f [zO o, zI fm, zB fd, zI (pw (fun _ => iI (-1)) (fun _ => 0) n)]), 3, 432) := by
    intro n
    induction n with
    | zero => intro _; exact r_tr r4 r5
    | succ n ih =>
      intro hn
      have hc : (iI (n : Int)).toNatClampNeg = n := cl_nat (by omega)
      have hin : vp_in (iI (n : Int)) 144 := in_nat (by omega) (by omega)
      have c0 : ¬ (iI 144 ≤ iI (n : Int)) := by rw [iI_le ⟨by omega, by omega⟩ ⟨by omega, by omega⟩]; omega
      have s := r_tr (r_tr (ih (by omega)) (hs1 n _)) (r_to (g' := (14, [.ref (mj_NE + 33), .ref (mj_NE + 36), .ref (mj_NE + 38), .int (iI (n : Int) + 1), mj_u, mj_u, mj_u], [], Wd xs L A V (mY t b ld f [zO o, zI fm, zB fd, zI (upd (pw (fun _ => iI (-1)) (fun _ => 0) n) (iI (n : Int)).toNatClampNeg (iI (-1)))]), 3, 432)) ok_ML_lakes 14 [false, true] rfl ⟨c0, hin, hin, by
        show fm (iI (n : Int)).toNatClampNeg ≤ f (iI (n : Int)).toNatClampNeg
        rw [hc, hfm n (by omega), hno lev hlv n (by omega), (hf n (by omega)).1]
        exact Int32.le_refl _, hin, trivial⟩)
      rw [hc, iI_1, pw_s rfl] at s
      exact s
  have r6 := r_tr (r_tr (lp 144 (Nat.le_refl _)) (hs1 144 _)) (r_to (g' := (59, [.ref (mj_NE + 33), .ref (mj_NE + 36), .ref (mj_NE + 38), .int (iI 0), .int (iI ((0 : Nat) : Int)), mj_u, mj_u], [], Wd xs L A V (mY t b ld f [zO o, zI fm, zB fd, zI (pw (fun _ => iI (-1)) (fun _ => 0) 144)]), 3, 432)) ok_ML_lakes 59 [true, false] rfl ⟨by show iI 144 ≤ iI ((144 : Nat) : Int); rw [iI_le ⟨by omega, by omega⟩ ⟨by omega, by omega⟩]; omega, by show ¬ ((1 : Int32) = 0); decide, trivial⟩)
  have hs2 : ∀ (n : Nat) (u5 : Value), mj_Rc m_ML_lakes 3 432 2 (59, [.ref (mj_NE + 33), .ref (mj_NE + 36), .ref (mj_NE + 38), .int (iI 0), .int (iI (n : Int)), u5, mj_u], [], Wd xs L A V (mY t b ld f [zO o, zI fm, zB fd, zI (pw (fun _ => iI (-1)) (fun _ => 0) 144)]), 3, 432) (65, [.ref (mj_NE + 33), .ref (mj_NE + 36), .ref (mj_NE + 38), .int (iI 0), .int (iI (n : Int)), u5, mj_u], [.int (iI 144), .int (iI (n : Int))], Wd xs L A V (mY t b ld f [zO o, zI fm, zB fd, zI (pw (fun _ => iI (-1)) (fun _ => 0) 144)]), 3, 432) := fun n u5 => by
    have s1 := r_to (RC := 3) (RS := 432) (dd := 2) (g := (59, [.ref (mj_NE + 33), .ref (mj_NE + 36), .ref (mj_NE + 38), .int (iI 0), .int (iI (n : Int)), u5, mj_u], [], Wd xs L A V (mY t b ld f [zO o, zI fm, zB fd, zI (pw (fun _ => iI (-1)) (fun _ => 0) 144)]), 3, 432)) (g' := (62, [.ref (mj_NE + 33), .ref (mj_NE + 36), .ref (mj_NE + 38), .int (iI 0), .int (iI (n : Int)), u5, mj_u], [.ref (mj_NE + 33), .int (iI (n : Int))], Wd xs L A V (mY t b ld f [zO o, zI fm, zB fd, zI (pw (fun _ => iI (-1)) (fun _ => 0) 144)]), 3, 432)) ok_ML_lakes 9999 [] rfl trivial
    exact r_tr s1 (q_V ok_ML_lakes ok_ML_size se_ML_size (c_MLsize) rfl rfl rfl rfl rfl ⟨rfl, rfl, rfl⟩)
  have lp2 : ∀ n : Nat, n ≤ 144 → ∃ u5 : Value, mj_Rc m_ML_lakes 3 432 2 (0, [.ref (mj_NE + 33), mj_u, mj_u, mj_u, mj_u, mj_u, mj_u], [], Wd xs L A V (mY t b ld f [zO o]), 0, 0) (59, [.ref (mj_NE + 33), .ref (mj_NE + 36), .ref (mj_NE + 38), .int (iI 0), .int (iI (n : Int)), u5, mj_u], [], Wd xs L A V (mY t b ld f [zO o, zI fm, zB fd, zI (pw (fun _ => iI (-1)) (fun _ => 0) 144)]), 3, 432) := by
    intro n
    induction n with
    | zero => intro _; exact ⟨_, r6⟩
    | succ n ih =>
      intro hn
      obtain ⟨u5, hr⟩ := ih (by omega)
      have hc : (iI (n : Int)).toNatClampNeg = n := cl_nat (by omega)
      have hin : vp_in (iI (n : Int)) 144 := in_nat (by omega) (by omega)
      have c0 : ¬ (iI 144 ≤ iI (n : Int)) := by rw [iI_le ⟨by omega, by omega⟩ ⟨by omega, by omega⟩]; omega
      have s := r_tr (r_tr hr (hs2 n u5)) (r_to (g' := (59, [.ref (mj_NE + 33), .ref (mj_NE + 36), .ref (mj_NE + 38), .int (iI 0), .int (iI (n : Int) + 1), .int (iI 0), mj_u], [], Wd xs L A V (mY t b ld f [zO o, zI fm, zB fd, zI (pw (fun _ => iI (-1)) (fun _ => 0) 144)]), 3, 432)) ok_ML_lakes 59 [false, false, true] rfl ⟨c0, by show ¬ ((8 : Int32) ≤ 0); decide, hin, by
        show (pw (fun _ => iI (-1)) (fun _ => 0) 144) (iI (n : Int)).toNatClampNeg < iI 0
        rw [hc, pw_lt (by omega)]
        rw [iI_lt ⟨by omega, by omega⟩ ⟨by omega, by omega⟩]; omega, trivial⟩)
      rw [iI_1] at s
      exact ⟨_, s⟩
  obtain ⟨u5, hr⟩ := lp2 144 (Nat.le_refl _)
  exact ct_of ok_ML_lakes rfl (r_tr (r_tr hr (hs2 144 u5)) (r_to ok_ML_lakes 9999 [true, true] rfl ⟨by show iI 144 ≤ iI ((144 : Nat) : Int); rw [iI_le ⟨by omega, by omega⟩ ⟨by omega, by omega⟩]; omega, by show (iI 0 : Int32) = 0; rfl, trivial⟩)) rfl rfl rfl rfl rfl
end REF13
