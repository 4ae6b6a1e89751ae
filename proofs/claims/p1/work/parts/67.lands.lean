/-! THE REFERENCE: lands that were made: volume, to, others, greatest of them; take -/
section REF21
variable {xs : Nat → Int32} {L : Nat} {A : Nat → Nat → Int32} {V : Nat → Int32} {t b : Int32} {ld : Nat} {f : Nat → Int32} {o : Nat → Int64} {H : Nat → Int} {Z : mj_H} {z1 z2 z3 : mj_Cl}
variable {g f2 : Nat → Int32} {F G : Nat → Int}
theorem c_ML_others38 (hf : Hts f 144 F) (hg : Hts g 144 G) : mj_Ct m_ML_others [.ref (mj_NE + 33), .ref (mj_NE + 38)] (Wd xs L A V (mY t b ld f (zO o :: z1 :: z2 :: zI g :: Z))) (some (.int (iI (cnt (fun j => decide (F j ≠ G j)) 144)))) (Wd xs L A V (mY t b ld f (zO o :: z1 :: z2 :: zI g :: Z))) 0 0 1 := by
  have r0 := r_to (RC := 0) (RS := 0) (dd := 1) (g := (0, [.ref (mj_NE + 33), .ref (mj_NE + 38), mj_u, mj_u], [], Wd xs L A V (mY t b ld f (zO o :: z1 :: z2 :: zI g :: Z)), 0, 0)) (g' := (4, [.ref (mj_NE + 33), .ref (mj_NE + 38), .int (iI (cnt (fun j => decide (F j ≠ G j)) 0)), .int (iI 0)], [], Wd xs L A V (mY t b ld f (zO o :: z1 :: z2 :: zI g :: Z)), 0, 0)) ok_ML_others 4 [] rfl trivial
  have hsz : ∀ n : Nat, n ≤ 144 → mj_Rc m_ML_others 0 0 1 (4, [.ref (mj_NE + 33), .ref (mj_NE + 38), .int (iI (cnt (fun j => decide (F j ≠ G j)) n)), .int (iI (n : Int))], [], Wd xs L A V (mY t b ld f (zO o :: z1 :: z2 :: zI g :: Z)), 0, 0) (9, [.ref (mj_NE + 33), .ref (mj_NE + 38), .int (iI (cnt (fun j => decide (F j ≠ G j)) n)), .int (iI (n : Int))], [.int (iI 144), .int (iI (n : Int))], Wd xs L A V (mY t b ld f (zO o :: z1 :: z2 :: zI g :: Z)), 0, 0) := fun n hn => by
    have s1 := r_to (RC := 0) (RS := 0) (dd := 1) (g := (4, [.ref (mj_NE + 33), .ref (mj_NE + 38), .int (iI (cnt (fun j => decide (F j ≠ G j)) n)), .int (iI (n : Int))], [], Wd xs L A V (mY t b ld f (zO o :: z1 :: z2 :: zI g :: Z)), 0, 0)) (g' := (6, [.ref (mj_NE + 33), .ref (mj_NE + 38), .int (iI (cnt (fun j => decide (F j ≠ G j)) n)), .int (iI (n : Int))], [.ref (mj_NE + 33), .int (iI (n : Int))], Wd xs L A V (mY t b ld f (zO o :: z1 :: z2 :: zI g :: Z)), 0, 0)) ok_ML_others 9999 [] rfl trivial
    exact r_tr s1 (q_V ok_ML_others ok_ML_size se_ML_size (c_MLsize) rfl rfl rfl rfl rfl ⟨rfl, rfl, rfl⟩)
  have lp : ∀ n : Nat, n ≤ 144 → mj_Rc m_ML_others 0 0 1 (0, [.ref (mj_NE + 33), .ref (mj_NE + 38), mj_u, mj_u], [], Wd xs L A V (mY t b ld f (zO o :: z1 :: z2 :: zI g :: Z)), 0, 0) (4, [.ref (mj_NE + 33), .ref (mj_NE + 38), .int (iI (cnt (fun j => decide (F j ≠ G j)) n)), .int (iI (n : Int))], [], Wd xs L A V (mY t b ld f (zO o :: z1 :: z2 :: zI g :: Z)), 0, 0) := by
    intro n
    induction n with
    | zero => intro _; exact r0
    | succ n ih =>
      intro hn
      obtain ⟨e1, b1, b2⟩ := hf n (by omega)
      obtain ⟨e2, b3, b4⟩ := hg n (by omega)
      have hc : (iI (n : Int)).toNatClampNeg = n := cl_nat (by omega)
      have hin : vp_in (iI (n : Int)) 144 := in_nat (by omega) (by omega)
      have c0 : ¬ (iI 144 ≤ iI (n : Int)) := by rw [iI_le ⟨by omega, by omega⟩ ⟨by omega, by omega⟩]; omega
      have cs : cnt (fun j => decide (F j ≠ G j)) (n + 1) = cnt (fun j => decide (F j ≠ G j)) n + (if decide (F n ≠ G n) = true then 1 else 0) := rfl
      by_cases q : F n = G n
      · have s4 := r_tr (r_tr (ih (by omega)) (hsz n (by omega))) (r_to (g' := (4, [.ref (mj_NE + 33), .ref (mj_NE + 38), .int (iI (cnt (fun j => decide (F j ≠ G j)) n) + iI 0), .int (iI (n : Int) + 1)], [], Wd xs L A V (mY t b ld f (zO o :: z1 :: z2 :: zI g :: Z)), 0, 0)) ok_ML_others 4 [false, true] rfl ⟨c0, hin, hin, by
          show f (iI (n : Int)).toNatClampNeg = g (iI (n : Int)).toNatClampNeg
          rw [hc, e1, e2, q], trivial⟩)
        rw [iI_1, iI_add, show cnt (fun j => decide (F j ≠ G j)) n + 0 = cnt (fun j => decide (F j ≠ G j)) (n + 1) by rw [cs, if_neg (by simp [q])]] at s4
        exact s4
      · have s4 := r_tr (r_tr (ih (by omega)) (hsz n (by omega))) (r_to (g' := (4, [.ref (mj_NE + 33), .ref (mj_NE + 38), .int (iI (cnt (fun j => decide (F j ≠ G j)) n) + iI 1), .int (iI (n : Int) + 1)], [], Wd xs L A V (mY t b ld f (zO o :: z1 :: z2 :: zI g :: Z)), 0, 0)) ok_ML_others 4 [false, false] rfl ⟨c0, hin, hin, by
          show ¬ (f (iI (n : Int)).toNatClampNeg = g (iI (n : Int)).toNatClampNeg)
          rw [hc, e1, e2, iI_eq ⟨by omega, by omega⟩ ⟨by omega, by omega⟩]
          exact q, trivial⟩)
        rw [iI_1, iI_add, show cnt (fun j => decide (F j ≠ G j)) n + 1 = cnt (fun j => decide (F j ≠ G j)) (n + 1) by rw [cs, if_pos (by simp [q])]] at s4
        exact s4
  exact ct_of ok_ML_others rfl (r_tr (r_tr (lp 144 (Nat.le_refl _)) (hsz 144 (Nat.le_refl _))) (r_to ok_ML_others 9999 [true] rfl ⟨by show iI 144 ≤ iI ((144 : Nat) : Int); rw [iI_le ⟨by omega, by omega⟩ ⟨by omega, by omega⟩]; omega, trivial⟩)) rfl rfl rfl rfl rfl
set_option maxRecDepth 10000 in
theorem c_volW (hno : ∀ lev, LvOK 12 12 144 H lev → ∀ j, j < 144 → lev j = H j) (hf : Hts f2 144 H) : ∃ fm fd : Nat → Int32, mj_Ct m_ML_volume [.ref (mj_NE + 37)] (Wd xs L A V (mY t b (mj_NE + 33) f [zO o, zI f2, zL (mj_NE + 36)])) (some (.int (iI 0))) (Wd xs L A V (mY t b (mj_NE + 33) f [zO o, zI f2, zL (mj_NE + 36), zI fm, zB fd])) 2 288 2 := by
  obtain ⟨fm, fd, h⟩ := c_ML_volume3 (xs := xs) (L := L) (A := A) (V := V) (t := t) (b := b) (ld := mj_NE + 37) (f := f2) (o := o) (z1 := zI f) (z2 := zL (mj_NE + 36)) hno hf
  exact ⟨fm, fd, ct_rn (fun i => swp (mj_NE + 33) (mj_NE + 37) (swp (mj_NE + 34) (mj_NE + 36) i)) (fun i => swp (mj_NE + 34) (mj_NE + 36) (swp (mj_NE + 33) (mj_NE + 37) i)) (h) (swp_ok rfl rfl rfl rfl) (swp_ok rfl rfl rfl rfl) rfl rfl rfl rfl rfl rfl rfl rfl⟩
set_option maxRecDepth 10000 in
theorem c_toW (hf : Hts f2 144 H) : mj_Ct m_ML_to [.ref (mj_NE + 38)] (Wd xs L A V (mY t b (mj_NE + 33) f [zO o, zI g, zI f2, zL (mj_NE + 37)])) (some (.ref (mj_NE + 39))) (Wd xs L A V (mY t b (mj_NE + 33) f [zO o, zI g, zI f2, zL (mj_NE + 37), zI (pw (fun j => iI (nxF 12 12 H j)) (fun _ => 0) 144)])) 1 144 2 := by
  have h := c_ML_to4 (xs := xs) (L := L) (A := A) (V := V) (t := t) (b := b) (ld := mj_NE + 38) (f := f2) (o := o) (z1 := zI g) (z2 := zI f) (z3 := zL (mj_NE + 37)) hf
  exact ct_rn (fun i => swp (mj_NE + 33) (mj_NE + 38) (swp (mj_NE + 34) (mj_NE + 37) i)) (fun i => swp (mj_NE + 34) (mj_NE + 37) (swp (mj_NE + 33) (mj_NE + 38) i)) (h) (swp_ok rfl rfl rfl rfl) (swp_ok rfl rfl rfl rfl) rfl rfl rfl rfl rfl rfl rfl rfl
set_option maxRecDepth 10000 in
theorem c_oth_a {r : Nat → Int32} (hr : Hts r 144 F) (hf : Hts f 144 G) : mj_Ct m_ML_others [.ref (mj_NE + 37), .ref (mj_NE + 34)] (Wd xs L A V (mY t b (mj_NE + 37) f [zO o, zI r, zL (mj_NE + 36)])) (some (.int (iI (cnt (fun j => decide (F j ≠ G j)) 144)))) (Wd xs L A V (mY t b (mj_NE + 37) f [zO o, zI r, zL (mj_NE + 36)])) 0 0 1 := by
  exact ct_rn (fun i => swp (mj_NE + 33) (mj_NE + 37) (swp (mj_NE + 34) (mj_NE + 36) i)) (fun i => swp (mj_NE + 34) (mj_NE + 36) (swp (mj_NE + 33) (mj_NE + 37) i)) (c_ML_others (xs := xs) (L := L) (A := A) (V := V) (t := t) (b := b) (ld := mj_NE + 33) (f := r) (o := o) (g := f) (Z := [zL (mj_NE + 36)]) hr hf) (swp_ok rfl rfl rfl rfl) (swp_ok rfl rfl rfl rfl) rfl rfl rfl rfl rfl rfl rfl rfl
set_option maxHeartbeats 1000000 in
theorem c_take_a {r : Nat → Int32} (hr : Hts r 144 F) (hf : Hts f 144 G) : mj_Ct m_M_take [.ref (mj_NE + 32), .ref (mj_NE + 36)] (Wd xs L A V (mY t b (mj_NE + 33) f [zO o, zI r])) (some (.int (iI (cnt (fun j => decide (F j ≠ G j)) 144)))) (Wd xs L A V (mY t b (mj_NE + 37) f [zO o, zI r, zL (mj_NE + 36)])) 1 3 2 := by
  have s1 := r_to (RC := 1) (RS := 3) (dd := 2) (g := (0, [.ref (mj_NE + 32), .ref (mj_NE + 36), mj_u], [], Wd xs L A V (mY t b (mj_NE + 33) f [zO o, zI r]), 0, 0)) (g' := (28, [.ref (mj_NE + 32), .ref (mj_NE + 36), .ref (mj_NE + 34)], [.ref (mj_NE + 36), .int (iI 12), .int (iI 12), .ref (mj_NE + 37), .ref (mj_NE + 37), .ref (mj_NE + 32)], Wd xs L A V (mY t b (mj_NE + 33) f [zO o, zI r, .inr (9, [.int 0, .int 0, .null])]), 1, 3)) ok_M_take 9999 [] rfl ⟨⟨by decide, by decide⟩, trivial⟩
  have s2 := r_tr s1 (q_I ok_M_take ok_ML_init in_ML_init (c_MLinit_2_36) rfl rfl rfl rfl ⟨rfl, rfl, rfl⟩)
  have s3 := r_tr s2 (r_to (RC := 1) (RS := 3) (dd := 2) (g := (31, [.ref (mj_NE + 32), .ref (mj_NE + 36), .ref (mj_NE + 34)], [.ref (mj_NE + 37), .ref (mj_NE + 32)], Wd xs L A V (mY t b (mj_NE + 33) f [zO o, zI r, zL (mj_NE + 36)]), 1, 3)) (g' := (39, [.ref (mj_NE + 32), .ref (mj_NE + 36), .ref (mj_NE + 34)], [.ref (mj_NE + 34), .ref (mj_NE + 37)], Wd xs L A V (mY t b (mj_NE + 37) f [zO o, zI r, zL (mj_NE + 36)]), 1, 3)) ok_M_take 9999 [] rfl trivial)
  have s4 := r_tr s3 (q_V ok_M_take ok_ML_others se_ML_others (c_oth_a hr hf) rfl rfl rfl rfl rfl ⟨rfl, rfl, rfl⟩)
  exact ct_of ok_M_take rfl s4 rfl rfl rfl rfl rfl
set_option maxRecDepth 10000 in
theorem c_oth_b {r : Nat → Int32} (hr : Hts r 144 F) (hf : Hts f 144 G) : mj_Ct m_ML_others [.ref (mj_NE + 39), .ref (mj_NE + 34)] (Wd xs L A V (mY t b (mj_NE + 39) f [zO o, zI g, zI f2, zI r, zL (mj_NE + 38)])) (some (.int (iI (cnt (fun j => decide (F j ≠ G j)) 144)))) (Wd xs L A V (mY t b (mj_NE + 39) f [zO o, zI g, zI f2, zI r, zL (mj_NE + 38)])) 0 0 1 := by
  exact ct_rn (fun i => swp (mj_NE + 33) (mj_NE + 39) (swp (mj_NE + 34) (mj_NE + 38) i)) (fun i => swp (mj_NE + 34) (mj_NE + 38) (swp (mj_NE + 33) (mj_NE + 39) i)) (c_ML_others38 (xs := xs) (L := L) (A := A) (V := V) (t := t) (b := b) (ld := mj_NE + 33) (f := r) (o := o) (g := f) (z1 := zI g) (z2 := zI f2) (Z := [zL (mj_NE + 38)]) hr hf) (swp_ok rfl rfl rfl rfl) (swp_ok rfl rfl rfl rfl) rfl rfl rfl rfl rfl rfl rfl rfl
set_option maxHeartbeats 1000000 in
theorem c_take_b {r : Nat → Int32} (hr : Hts r 144 F) (hf : Hts f 144 G) : mj_Ct m_M_take [.ref (mj_NE + 32), .ref (mj_NE + 38)] (Wd xs L A V (mY t b (mj_NE + 33) f [zO o, zI g, zI f2, zI r])) (some (.int (iI (cnt (fun j => decide (F j ≠ G j)) 144)))) (Wd xs L A V (mY t b (mj_NE + 39) f [zO o, zI g, zI f2, zI r, zL (mj_NE + 38)])) 1 3 2 := by
  have s1 := r_to (RC := 1) (RS := 3) (dd := 2) (g := (0, [.ref (mj_NE + 32), .ref (mj_NE + 38), mj_u], [], Wd xs L A V (mY t b (mj_NE + 33) f [zO o, zI g, zI f2, zI r]), 0, 0)) (g' := (28, [.ref (mj_NE + 32), .ref (mj_NE + 38), .ref (mj_NE + 34)], [.ref (mj_NE + 38), .int (iI 12), .int (iI 12), .ref (mj_NE + 39), .ref (mj_NE + 39), .ref (mj_NE + 32)], Wd xs L A V (mY t b (mj_NE + 33) f [zO o, zI g, zI f2, zI r, .inr (9, [.int 0, .int 0, .null])]), 1, 3)) ok_M_take 9999 [] rfl ⟨⟨by decide, by decide⟩, trivial⟩
  have s2 := r_tr s1 (q_I ok_M_take ok_ML_init in_ML_init (c_MLinit_4_38) rfl rfl rfl rfl ⟨rfl, rfl, rfl⟩)
  have s3 := r_tr s2 (r_to (RC := 1) (RS := 3) (dd := 2) (g := (31, [.ref (mj_NE + 32), .ref (mj_NE + 38), .ref (mj_NE + 34)], [.ref (mj_NE + 39), .ref (mj_NE + 32)], Wd xs L A V (mY t b (mj_NE + 33) f [zO o, zI g, zI f2, zI r, zL (mj_NE + 38)]), 1, 3)) (g' := (39, [.ref (mj_NE + 32), .ref (mj_NE + 38), .ref (mj_NE + 34)], [.ref (mj_NE + 34), .ref (mj_NE + 39)], Wd xs L A V (mY t b (mj_NE + 39) f [zO o, zI g, zI f2, zI r, zL (mj_NE + 38)]), 1, 3)) ok_M_take 9999 [] rfl trivial)
  have s4 := r_tr s3 (q_V ok_M_take ok_ML_others se_ML_others (c_oth_b hr hf) rfl rfl rfl rfl rfl ⟨rfl, rfl, rfl⟩)
  exact ct_of ok_M_take rfl s4 rfl rfl rfl rfl rfl
set_option maxRecDepth 10000 in
theorem c_oth_c {r : Nat → Int32} {z9 : Nat → Int32} (hr : Hts r 144 F) (hf : Hts f 144 G) : mj_Ct m_ML_others [.ref (mj_NE + 40), .ref (mj_NE + 34)] (Wd xs L A V (mY t b (mj_NE + 40) f [zO o, zI g, zB f2, zI r, zB z9, zL (mj_NE + 38)])) (some (.int (iI (cnt (fun j => decide (F j ≠ G j)) 144)))) (Wd xs L A V (mY t b (mj_NE + 40) f [zO o, zI g, zB f2, zI r, zB z9, zL (mj_NE + 38)])) 0 0 1 := by
  exact ct_rn (fun i => swp (mj_NE + 33) (mj_NE + 40) (swp (mj_NE + 34) (mj_NE + 38) i)) (fun i => swp (mj_NE + 34) (mj_NE + 38) (swp (mj_NE + 33) (mj_NE + 40) i)) (c_ML_others38 (xs := xs) (L := L) (A := A) (V := V) (t := t) (b := b) (ld := mj_NE + 33) (f := r) (o := o) (g := f) (z1 := zI g) (z2 := zB f2) (Z := [zB z9, zL (mj_NE + 38)]) hr hf) (swp_ok rfl rfl rfl rfl) (swp_ok rfl rfl rfl rfl) rfl rfl rfl rfl rfl rfl rfl rfl
theorem c_MLinit_5_38 {z0 z1 z2 z3 z4 : mj_Cl} {w h : Int32} : mj_Ct m_ML_init [.ref (mj_NE + 40), .int w, .int h, .ref (mj_NE + 38)] (Wd xs L A V (mY t b ld f [z0, z1, z2, z3, z4, .inr (9, [.int 0, .int 0, .null])])) none (Wd xs L A V (mY t b ld f [z0, z1, z2, z3, z4, .inr (9, [.int w, .int h, .ref (mj_NE + 38)])])) 0 0 1 := by
  have t1 := r_to (RC := 0) (RS := 0) (dd := 1) (g := (0, [.ref (mj_NE + 40), .int w, .int h, .ref (mj_NE + 38)], [], Wd xs L A V (mY t b ld f [z0, z1, z2, z3, z4, .inr (9, [.int 0, .int 0, .null])]), 0, 0)) (g' := (1, [.ref (mj_NE + 40), .int w, .int h, .ref (mj_NE + 38)], [.ref (mj_NE + 40)], Wd xs L A V (mY t b ld f [z0, z1, z2, z3, z4, .inr (9, [.int 0, .int 0, .null])]), 0, 0)) ok_ML_init 9999 [] rfl trivial
  have t2 := r_tr t1 (r_O ok_ML_init rfl rfl rfl)
  exact ct_of ok_ML_init rfl (r_tr t2 (r_to ok_ML_init 9999 [] rfl trivial)) rfl rfl rfl rfl rfl
set_option maxHeartbeats 1000000 in
theorem c_take_c {r : Nat → Int32} {z9 : Nat → Int32} (hr : Hts r 144 F) (hf : Hts f 144 G) : mj_Ct m_M_take [.ref (mj_NE + 32), .ref (mj_NE + 38)] (Wd xs L A V (mY t b (mj_NE + 33) f [zO o, zI g, zB f2, zI r, zB z9])) (some (.int (iI (cnt (fun j => decide (F j ≠ G j)) 144)))) (Wd xs L A V (mY t b (mj_NE + 40) f [zO o, zI g, zB f2, zI r, zB z9, zL (mj_NE + 38)])) 1 3 2 := by
  have s1 := r_to (RC := 1) (RS := 3) (dd := 2) (g := (0, [.ref (mj_NE + 32), .ref (mj_NE + 38), mj_u], [], Wd xs L A V (mY t b (mj_NE + 33) f [zO o, zI g, zB f2, zI r, zB z9]), 0, 0)) (g' := (28, [.ref (mj_NE + 32), .ref (mj_NE + 38), .ref (mj_NE + 34)], [.ref (mj_NE + 38), .int (iI 12), .int (iI 12), .ref (mj_NE + 40), .ref (mj_NE + 40), .ref (mj_NE + 32)], Wd xs L A V (mY t b (mj_NE + 33) f [zO o, zI g, zB f2, zI r, zB z9, .inr (9, [.int 0, .int 0, .null])]), 1, 3)) ok_M_take 9999 [] rfl ⟨⟨by decide, by decide⟩, trivial⟩
  have s2 := r_tr s1 (q_I ok_M_take ok_ML_init in_ML_init (c_MLinit_5_38) rfl rfl rfl rfl ⟨rfl, rfl, rfl⟩)
  have s3 := r_tr s2 (r_to (RC := 1) (RS := 3) (dd := 2) (g := (31, [.ref (mj_NE + 32), .ref (mj_NE + 38), .ref (mj_NE + 34)], [.ref (mj_NE + 40), .ref (mj_NE + 32)], Wd xs L A V (mY t b (mj_NE + 33) f [zO o, zI g, zB f2, zI r, zB z9, zL (mj_NE + 38)]), 1, 3)) (g' := (39, [.ref (mj_NE + 32), .ref (mj_NE + 38), .ref (mj_NE + 34)], [.ref (mj_NE + 34), .ref (mj_NE + 40)], Wd xs L A V (mY t b (mj_NE + 40) f [zO o, zI g, zB f2, zI r, zB z9, zL (mj_NE + 38)]), 1, 3)) ok_M_take 9999 [] rfl trivial)
  have s4 := r_tr s3 (q_V ok_M_take ok_ML_others se_ML_others (c_oth_c hr hf) rfl rfl rfl rfl rfl ⟨rfl, rfl, rfl⟩)
  exact ct_of ok_M_take rfl s4 rfl rfl rfl rfl rfl
set_option maxRecDepth 10000 in
theorem c_greW (hf : Hts f2 144 H) : mj_Ct m_ML_greatest [.ref (mj_NE + 37)] (Wd xs L A V (mY t b (mj_NE + 37) f [zO o, zI f2, zL (mj_NE + 36)])) (some (.int (iI (mxH H 144)))) (Wd xs L A V (mY t b (mj_NE + 37) f [zO o, zI f2, zL (mj_NE + 36)])) 0 0 1 := by
  have h := c_ML_greatest (xs := xs) (L := L) (A := A) (V := V) (t := t) (b := b) (ld := mj_NE + 33) (f := f2) (Z := [zO o, zI f, zL (mj_NE + 36)]) hf
  exact ct_rn (fun i => swp (mj_NE + 33) (mj_NE + 37) (swp (mj_NE + 34) (mj_NE + 36) i)) (fun i => swp (mj_NE + 34) (mj_NE + 36) (swp (mj_NE + 33) (mj_NE + 37) i)) (h) (swp_ok rfl rfl rfl rfl) (swp_ok rfl rfl rfl rfl) rfl rfl rfl rfl rfl rfl rfl rfl
end REF21
