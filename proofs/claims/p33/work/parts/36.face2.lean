/-! the face: steepness, lookout, digest -/
/-- the best FIELD of a row so far and what is seen from it -/
def lkF (w : Int) (n : Nat) (H : Nat → Int) (y u : Int) : Nat → Int × Int
  | 0 => (0, 0)
  | x + 1 => if (lkF w n H y u x).2 < cnt (fun j => seeB w H x y u ((j : Int) % w) ((j : Int) / w)) n then ((x : Int), cnt (fun j => seeB w H x y u ((j : Int) % w) ((j : Int) / w)) n) else lkF w n H y u x
theorem lkF_bd {w : Int} {n : Nat} {H : Nat → Int} {y u : Int} : ∀ x : Nat, 0 ≤ (lkF w n H y u x).1 ∧ (lkF w n H y u x).1 ≤ x ∧ 0 ≤ (lkF w n H y u x).2 ∧ (lkF w n H y u x).2 ≤ n := by
  intro x
  induction x with
  | zero => unfold lkF; exact ⟨Int.le_refl _, Int.le_refl _, Int.le_refl _, by show (0 : Int) ≤ n; omega⟩
  | succ x ih =>
    have cb := cnt_bd (fun j => seeB w H x y u ((j : Int) % w) ((j : Int) / w)) n
    unfold lkF
    split
    · exact ⟨by show 0 ≤ (x : Int); omega, by show (x : Int) ≤ ((x + 1 : Nat) : Int); omega, cb.1, cb.2⟩
    · omega
section FACE2
variable {xs : Nat → Int32} {L : Nat} {A : Nat → Nat → Int32} {V : Nat → Int32} {Y : mj_H}
variable {w h : Int} {n : Nat} {H : Nat → Int}
theorem f_lookout {y u : Int} (hy : 0 ≤ y ∧ y < h) (hu : 0 ≤ u ∧ u ≤ 500) (hL : LdOK w h n H A V) : mj_Ct m_W_lookout [.ref (mj_NE + 0), .int (iI y), .int (iI u)] (Wd xs L A V Y) (some (.int (iI (lkF w n H y u w.toNat).1))) (Wd xs L A V Y) 0 0 6 := by
  have hL2 := hL
  obtain ⟨h0, h1, hV, hnw, hw, hh, hN, hH⟩ := hL2
  have wh := wh_bd hw hh
  have hn2 : (w * h).toNat = n := by omega
  have t1 := r_to (RC := 0) (RS := 0) (dd := 6) (g := (0, [.ref (mj_NE + 0), .int (iI y), .int (iI u), mj_u, mj_u, mj_u, mj_u], [], Wd xs L A V Y, 0, 0)) (g' := (3, [.ref (mj_NE + 0), .int (iI y), .int (iI u), mj_u, mj_u, mj_u, mj_u], [.int (iI y), .int (iI 0), .ref (mj_NE + 0)], Wd xs L A V Y, 0, 0)) ok_W_lookout 9999 [] rfl trivial
  have t2 := r_tr t1 (q_V ok_W_lookout ok_W_checkField se_W_checkField (f_checkField hL ⟨by omega, by omega⟩ hy) rfl rfl rfl rfl rfl ⟨rfl, rfl, rfl⟩)
  have t3 := r_tr t2 (r_to (g' := (11, [.ref (mj_NE + 0), .int (iI y), .int (iI u), mj_u, mj_u, mj_u, mj_u], [.int (iI 500), .int (iI 0), .int (iI u)], Wd xs L A V Y, 0, 0)) ok_W_lookout 9999 [] rfl trivial)
  have t4 := r_tr t3 (q_S ok_W_lookout ok_W_checkRange st_W_checkRange (f_checkRange hu ⟨by omega, by omega⟩) rfl rfl rfl rfl ⟨rfl, rfl, rfl⟩)
  have t5 := r_tr t4 (r_to (g' := (22, [.ref (mj_NE + 0), .int (iI y), .int (iI u), .int (iI (lkF w n H y u 0).1), .int (iI (lkF w n H y u 0).2), .int (iI 0), mj_u], [], Wd xs L A V Y, 0, 0)) ok_W_lookout 22 [] rfl trivial)
  have lp : ∀ x : Nat, (x : Int) ≤ w → ∃ u6 : Value, mj_Rc m_W_lookout 0 0 6 (0, [.ref (mj_NE + 0), .int (iI y), .int (iI u), mj_u, mj_u, mj_u, mj_u], [], Wd xs L A V Y, 0, 0) (22, [.ref (mj_NE + 0), .int (iI y), .int (iI u), .int (iI (lkF w n H y u x).1), .int (iI (lkF w n H y u x).2), .int (iI x), u6], [], Wd xs L A V Y, 0, 0) := by
    intro x
    induction x with
    | zero => intro _; exact ⟨_, t5⟩
    | succ x ih =>
      intro hx
      obtain ⟨u6, hr⟩ := ih (by omega)
      have lb := lkF_bd (w := w) (n := n) (H := H) (y := y) (u := u) x
      have cb := cnt_bd (fun j => seeB w H (x : Int) y u ((j : Int) % w) ((j : Int) / w)) n
      have s1 := r_tr hr (r_to (g' := (42, [.ref (mj_NE + 0), .int (iI y), .int (iI u), .int (iI (lkF w n H y u x).1), .int (iI (lkF w n H y u x).2), .int (iI x), u6], [.int (iI u), .int (iI y), .int (iI x), .ref (mj_NE + 26)], Wd xs L A V Y, 0, 0)) ok_W_lookout 9999 [false] rfl ⟨br_ge h0 ⟨by omega, by omega⟩ ⟨by omega, by omega⟩ (by omega), trivial⟩)
      have s2 := r_tr s1 (q_V ok_W_lookout ok_Sight_countFrom se_Sight_countFrom (c_countFrom h0 h1 hw hh (by rw [hn2]; exact hH) ⟨by omega, by omega⟩ hy hu) rfl rfl rfl rfl rfl ⟨rfl, rfl, rfl⟩)
      rw [hn2] at s2
      by_cases hlt : (lkF w n H y u x).2 < cnt (fun j => seeB w H (x : Int) y u ((j : Int) % w) ((j : Int) / w)) n
      · have e : lkF w n H y u (x + 1) = ((x : Int), cnt (fun j => seeB w H (x : Int) y u ((j : Int) % w) ((j : Int) / w)) n) := by rw [lkF, if_pos hlt]
        have s3 := r_tr s2 (r_to (g' := (22, [.ref (mj_NE + 0), .int (iI y), .int (iI u), .int (iI x), .int (iI (cnt (fun j => seeB w H (x : Int) y u ((j : Int) % w) ((j : Int) / w)) n)), .int (iI x + 1), .int (iI (cnt (fun j => seeB w H (x : Int) y u ((j : Int) % w) ((j : Int) / w)) n))], [], Wd xs L A V Y, 0, 0)) ok_W_lookout 22 [false] rfl ⟨by
          show ¬ (iI (cnt (fun j => seeB w H (x : Int) y u ((j : Int) % w) ((j : Int) / w)) n) ≤ iI (lkF w n H y u x).2)
          rw [iI_le ⟨by omega, by omega⟩ ⟨by omega, by omega⟩]
          omega, trivial⟩)
        rw [iI_1] at s3
        rw [e]
        exact ⟨_, s3⟩
      · have e : lkF w n H y u (x + 1) = lkF w n H y u x := by rw [lkF, if_neg hlt]
        have s3 := r_tr s2 (r_to (g' := (22, [.ref (mj_NE + 0), .int (iI y), .int (iI u), .int (iI (lkF w n H y u x).1), .int (iI (lkF w n H y u x).2), .int (iI x + 1), .int (iI (cnt (fun j => seeB w H (x : Int) y u ((j : Int) % w) ((j : Int) / w)) n))], [], Wd xs L A V Y, 0, 0)) ok_W_lookout 22 [true] rfl ⟨by
          show iI (cnt (fun j => seeB w H (x : Int) y u ((j : Int) % w) ((j : Int) / w)) n) ≤ iI (lkF w n H y u x).2
          rw [iI_le ⟨by omega, by omega⟩ ⟨by omega, by omega⟩]
          omega, trivial⟩)
        rw [iI_1] at s3
        rw [e]
        exact ⟨_, s3⟩
  obtain ⟨u6, hr⟩ := lp w.toNat (by omega)
  exact ct_of ok_W_lookout rfl (r_tr hr (r_to ok_W_lookout 9999 [true] rfl ⟨br_lt h0 ⟨by omega, by omega⟩ ⟨by omega, by omega⟩ (by omega), trivial⟩)) rfl rfl rfl rfl rfl
/-- the checksum: k numbers f told one after another -/
def dgF (f : Nat → Int) (d : Int) : Nat → Int
  | 0 => d
  | k + 1 => dgF f d k * 31 + f k
theorem toldH_bd {k : Int} (hw : 2 ≤ w ∧ w ≤ 16) (hh : 2 ≤ h ∧ h ≤ 16) (hn : n ≤ 256) (hH : ∀ j, j < n → 0 ≤ H j ∧ H j ≤ 999) : 0 ≤ toldH w h H n k ∧ toldH w h H n k ≤ 300000 := by
  have a1 := mnH_bd hH n (Nat.le_refl _)
  have a2 := mxH_bd hH n (Nat.le_refl _)
  have a3 := smH_bd hH n (Nat.le_refl _)
  unfold toldH
  repeat' split
  all_goals omega
set_option maxHeartbeats 1000000 in
theorem c_digestOfMap {d : Int} {dr R0 L0 : Nat → Int} {lc ct : Int} (hL : LdOK w h n H A V) (hdr : ∀ i : Nat, i < n → A 3 i = iI (dr i) ∧ 0 ≤ dr i ∧ dr i ≤ 9) (hR : Hts (A 8) n R0) (hLn : Hts (A 9) n L0) (hlc : V 4 = iI lc) (hlb : 0 ≤ lc ∧ lc ≤ 1000) (hct : mj_Ct m_Hollows_content [.ref (mj_NE + 16)] (Wd xs L A V Y) (some (.int (iI ct))) (Wd xs L A V Y) 0 0 1) (hcb : -1000000 ≤ ct ∧ ct ≤ 1000000) : mj_Ct m_W_digestOfMap [.ref (mj_NE + 0), .long (lI d)] (Wd xs L A V Y) (some (.long (lI ((((((dgF (fun k => toldH w h H n k) d 5 * 31 + cnt (fun j => decide (dr j = 8)) n + cnt (fun j => decide (dr j = 9)) n) * 31 + cnt (fun j => decide (dr j = 9)) n) * 31 + mxH R0 n) * 31 + mxH L0 n) * 31 + lc) * 31 + ct)))) (Wd xs L A V Y) 0 0 4 := by
  obtain ⟨h0, h1, hV, hnw, hw, hh, hN, hH⟩ := hL
  have wh := wh_bd hw hh
  have hH2 : ∀ j, j < n → 0 ≤ H j ∧ H j ≤ 999 := fun j hj => (hH j hj).2
  have r0 := r_to (RC := 0) (RS := 0) (dd := 4) (g := (0, [.ref (mj_NE + 0), .long (lI d), mj_u, mj_u, mj_u, mj_u], [], Wd xs L A V Y, 0, 0)) (g' := (5, [.ref (mj_NE + 0), .long (lI d), mj_u, .long (lI (dgF (fun k => toldH w h H n k) d 0)), mj_u, .int (iI 0)], [], Wd xs L A V Y, 0, 0)) ok_W_digestOfMap 5 [] rfl trivial
  have lp : ∀ k : Nat, k ≤ 5 → mj_Rc m_W_digestOfMap 0 0 4 (0, [.ref (mj_NE + 0), .long (lI d), mj_u, mj_u, mj_u, mj_u], [], Wd xs L A V Y, 0, 0) (5, [.ref (mj_NE + 0), .long (lI d), mj_u, .long (lI (dgF (fun k => toldH w h H n k) d k)), mj_u, .int (iI (k : Int))], [], Wd xs L A V Y, 0, 0) := by
    intro k
    induction k with
    | zero => intro _; exact r0
    | succ k ih =>
      intro hk
      have tb := toldH_bd (k := (k : Int)) hw hh (show n ≤ 256 by omega) hH2
      have s1 := r_tr (ih (by omega)) (r_to (g' := (22, [.ref (mj_NE + 0), .long (lI d), mj_u, .long (lI (dgF (fun k => toldH w h H n k) d k)), mj_u, .int (iI (k : Int))], [.int (iI (k : Int)), .ref (mj_NE + 1), .long (lI (dgF (fun k => toldH w h H n k) d k) * lI 31)], Wd xs L A V Y, 0, 0)) ok_W_digestOfMap 9999 [false] rfl ⟨by
        show ¬ (iI 4 < iI (k : Int))
        rw [iI_lt ⟨by omega, by omega⟩ ⟨by omega, by omega⟩]
        omega, trivial⟩)
      have s2 := r_tr s1 (q_V ok_W_digestOfMap ok_Land_told se_Land_told (c_Ltold h0 h1 hV (by omega) hH ⟨by omega, by omega⟩) rfl rfl rfl rfl rfl ⟨rfl, rfl, rfl⟩)
      have s3 := r_tr s2 (r_to (g' := (5, [.ref (mj_NE + 0), .long (lI d), mj_u, .long (lI (dgF (fun k => toldH w h H n k) d k) * lI 31 + (iI (toldH w h H n k)).toInt64), mj_u, .int (iI (k : Int) + 1)], [], Wd xs L A V Y, 0, 0)) ok_W_digestOfMap 5 [] rfl trivial)
      rw [iI_1, iI_l ⟨by omega, by omega⟩, lI_mul, lI_add] at s3
      exact s3
  have cb8 := cnt_bd (fun j => decide (dr j = 8)) n
  have cb9 := cnt_bd (fun j => decide (dr j = 9)) n
  have mR := mxH_bd (H := R0) (N := n) (fun j hj => (hR j hj).2) n (Nat.le_refl _)
  have mL := mxH_bd (H := L0) (N := n) (fun j hj => (hLn j hj).2) n (Nat.le_refl _)
  have s0 := lp 5 (Nat.le_refl _)
  have s1 := r_tr s0 (r_to (g' := (45, [.ref (mj_NE + 0), .long (lI d), mj_u, .long (lI (dgF (fun k => toldH w h H n k) d 5)), mj_u, .int (iI ((5 : Nat) : Int))], [.int (iI 8), .ref (mj_NE + 5), .long (lI (dgF (fun k => toldH w h H n k) d 5) * lI 31)], Wd xs L A V Y, 0, 0)) ok_W_digestOfMap 9999 [true] rfl ⟨by show iI 4 < iI ((5 : Nat) : Int); rw [iI_lt ⟨by omega, by omega⟩ ⟨by omega, by omega⟩]; omega, trivial⟩)
  rw [lI_mul] at s1
  have s2 := r_tr s1 (q_V ok_W_digestOfMap ok_Streams_count se_Streams_count (c_count hV (by omega) hdr ⟨by omega, by omega⟩) rfl rfl rfl rfl rfl ⟨rfl, rfl, rfl⟩)
  generalize hX0 : dgF (fun k => toldH w h H n k) d 5 * 31 = X0 at *
  generalize cnt (fun j => decide (dr j = 8)) n = c8 at *
  have s3 := r_tr s2 (r_to (g' := (56, [.ref (mj_NE + 0), .long (lI d), mj_u, .long (lI (dgF (fun k => toldH w h H n k) d 5)), mj_u, .int (iI ((5 : Nat) : Int))], [.int (iI 9), .ref (mj_NE + 5), .long (lI X0 + (iI c8).toInt64)], Wd xs L A V Y, 0, 0)) ok_W_digestOfMap 9999 [] rfl trivial)
  rw [iI_l ⟨by omega, by omega⟩, lI_add] at s3
  have s4 := r_tr s3 (q_V ok_W_digestOfMap ok_Streams_count se_Streams_count (c_count hV (by omega) hdr ⟨by omega, by omega⟩) rfl rfl rfl rfl rfl ⟨rfl, rfl, rfl⟩)
  generalize hc9 : cnt (fun j => decide (dr j = 9)) n = c9 at *
  have s5 := r_tr s4 (r_to (g' := (73, [.ref (mj_NE + 0), .long (lI d), mj_u, .long (lI (X0 + c8) + (iI c9).toInt64), mj_u, .int (iI ((5 : Nat) : Int))], [.int (iI 9), .ref (mj_NE + 5), .long ((lI (X0 + c8) + (iI c9).toInt64) * lI 31)], Wd xs L A V Y, 0, 0)) ok_W_digestOfMap 9999 [] rfl trivial)
  rw [iI_l ⟨by omega, by omega⟩, lI_add, lI_mul] at s5
  have s6 := r_tr s5 (q_V ok_W_digestOfMap ok_Streams_count se_Streams_count (c_count hV (by omega) hdr ⟨by omega, by omega⟩) rfl rfl rfl rfl rfl ⟨rfl, rfl, rfl⟩)
  rw [hc9] at s6
  have s7 := r_tr s6 (r_to (g' := (95, [.ref (mj_NE + 0), .long (lI d), mj_u, .long (lI ((X0 + c8 + c9) * 31) + (iI c9).toInt64), mj_u, .int (iI ((5 : Nat) : Int))], [.ref (mj_NE + 11), .ref (mj_NE + 5), .long ((lI ((X0 + c8 + c9) * 31) + (iI c9).toInt64) * lI 31)], Wd xs L A V Y, 0, 0)) ok_W_digestOfMap 9999 [] rfl trivial)
  rw [iI_l ⟨by omega, by omega⟩, lI_add, lI_mul] at s7
  have s8 := r_tr s7 (q_V ok_W_digestOfMap ok_Streams_greatestOf se_Streams_greatestOf (c_greatestOf_8 hV (by omega) hR) rfl rfl rfl rfl rfl ⟨rfl, rfl, rfl⟩)
  have s9 := r_tr s8 (r_to (g' := (117, [.ref (mj_NE + 0), .long (lI d), mj_u, .long (lI (((X0 + c8 + c9) * 31 + c9) * 31) + (iI (mxH R0 n)).toInt64), mj_u, .int (iI ((5 : Nat) : Int))], [.ref (mj_NE + 12), .ref (mj_NE + 5), .long ((lI (((X0 + c8 + c9) * 31 + c9) * 31) + (iI (mxH R0 n)).toInt64) * lI 31)], Wd xs L A V Y, 0, 0)) ok_W_digestOfMap 9999 [] rfl trivial)
  rw [iI_l ⟨by omega, by omega⟩, lI_add, lI_mul] at s9
  have s10 := r_tr s9 (q_V ok_W_digestOfMap ok_Streams_greatestOf se_Streams_greatestOf (c_greatestOf_9 hV (by omega) hLn) rfl rfl rfl rfl rfl ⟨rfl, rfl, rfl⟩)
  have s11 := r_tr s10 (r_to (g' := (123, [.ref (mj_NE + 0), .long (lI d), mj_u, .long (lI ((((X0 + c8 + c9) * 31 + c9) * 31 + mxH R0 n) * 31) + (iI (mxH L0 n)).toInt64), mj_u, .int (iI ((5 : Nat) : Int))], [], Wd xs L A V Y, 0, 0)) ok_W_digestOfMap 123 [] rfl trivial)
  rw [iI_l ⟨by omega, by omega⟩, lI_add] at s11
  generalize hX5 : (((X0 + c8 + c9) * 31 + c9) * 31 + mxH R0 n) * 31 + mxH L0 n = X5 at *
  have s12 := r_tr s11 (r_to (g' := (147, [.ref (mj_NE + 0), .long (lI d), mj_u, .long (lI X5 * lI 31 + (V 4).toInt64), mj_u, .int (iI ((5 : Nat) : Int))], [.ref (mj_NE + 16), .long ((lI X5 * lI 31 + (V 4).toInt64) * lI 31)], Wd xs L A V Y, 0, 0)) ok_W_digestOfMap 9999 [] rfl trivial)
  rw [hlc, iI_l ⟨by omega, by omega⟩, lI_mul, lI_add, lI_mul] at s12
  have s13 := r_tr s12 (q_V ok_W_digestOfMap ok_Hollows_content se_Hollows_content (hct) rfl rfl rfl rfl rfl ⟨rfl, rfl, rfl⟩)
  have s14 := r_tr s13 (r_to (g' := (152, [.ref (mj_NE + 0), .long (lI d), mj_u, .long (lI (X5 * 31 + lc)), mj_u, .int (iI ((5 : Nat) : Int))], [.long (lI ((X5 * 31 + lc) * 31) + (iI ct).toInt64)], Wd xs L A V Y, 0, 0)) ok_W_digestOfMap 9999 [] rfl trivial)
  rw [iI_l ⟨by omega, by omega⟩, lI_add] at s14
  exact ct_of ok_W_digestOfMap rfl s14 rfl rfl rfl rfl rfl
end FACE2
