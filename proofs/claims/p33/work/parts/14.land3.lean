/-! tableswitch; Land: what it tells of its heights -/
theorem r_swI {M : mj_M} {RC RS dd : Nat} (hA : mj_okA M = true) {pc tgt : Nat} {L rest : List Value} {h : mj_H} {cc cs : Nat} {df lo hi : Int} {offs : Array Int} {len a b w : Nat} {v : Value} (hcd : mj_cd M pc = some (.tableswitch df lo hi offs, len, a, b, w, v)) {x off : Int} (hx : -2147483648 ≤ x ∧ x ≤ 2147483647) (h1 : lo ≤ x) (h2 : x ≤ hi) (ho : offs[(x - lo).toNat]? = some off) (ht : (pc : Int) + off = (tgt : Int)) : mj_Rc M RC RS dd (pc, L, .int (iI x) :: rest, h, cc, cs) (tgt, L, rest, h, cc, cs) := by
  intro κ hX k
  have hdg := mj_dec hA hcd
  obtain ⟨p, l, e, R, s, m, args, below, meth, c, Q, σ, D, cT, base⟩ := κ
  obtain ⟨hx', hb, -⟩ := hX
  intro H locs ls hR hl
  exact lv_tableIn hx' hb hdg (by rw [iI_toInt hx.1 hx.2]; omega) (by rw [iI_toInt hx.1 hx.2]; omega) (by rw [iI_toInt hx.1 hx.2]; exact ho) ht (k H locs ls hR hl)
theorem r_swO {M : mj_M} {RC RS dd : Nat} (hA : mj_okA M = true) {pc tgt : Nat} {L rest : List Value} {h : mj_H} {cc cs : Nat} {df lo hi : Int} {offs : Array Int} {len a b w : Nat} {v : Value} (hcd : mj_cd M pc = some (.tableswitch df lo hi offs, len, a, b, w, v)) {x : Int} (hx : -2147483648 ≤ x ∧ x ≤ 2147483647) (h1 : x < lo ∨ hi < x) (ht : (pc : Int) + df = (tgt : Int)) : mj_Rc M RC RS dd (pc, L, .int (iI x) :: rest, h, cc, cs) (tgt, L, rest, h, cc, cs) := by
  intro κ hX k
  have hdg := mj_dec hA hcd
  obtain ⟨p, l, e, R, s, m, args, below, meth, c, Q, σ, D, cT, base⟩ := κ
  obtain ⟨hx', hb, -⟩ := hX
  intro H locs ls hR hl
  exact lv_tableOut hx' hb hdg (by rw [iI_toInt hx.1 hx.2]; exact h1) ht (k H locs ls hR hl)
theorem cl_nat {n : Nat} (h : n ≤ 2147483647) : (iI n).toNatClampNeg = n := by rw [iI_cl (by omega) (by omega), Int.toNat_natCast]
theorem in_nat {n N : Nat} (h : n < N) (hN : N ≤ 2147483647) : vp_in (iI n) N := (iI_in ⟨by omega, by omega⟩).mpr ⟨by omega, by omega⟩
theorem br_ge {V : Int32} {n m : Int} (hV : V = iI m) (hn : -2147483648 ≤ n ∧ n ≤ 2147483647) (hm : -2147483648 ≤ m ∧ m ≤ 2147483647) (h : n < m) : ¬ (V ≤ iI n) := by rw [hV, iI_le hm hn]; omega
theorem br_lt {V : Int32} {n m : Int} (hV : V = iI m) (hn : -2147483648 ≤ n ∧ n ≤ 2147483647) (hm : -2147483648 ≤ m ∧ m ≤ 2147483647) (h : m ≤ n) : V ≤ iI n := by rw [hV, iI_le hm hn]; exact h
/-- the heights: n of them, each as H says -/
def Hts (f : Nat → Int32) (n : Nat) (H : Nat → Int) : Prop := ∀ j : Nat, j < n → f j = iI (H j) ∧ 0 ≤ H j ∧ H j ≤ 999
def mxH (H : Nat → Int) : Nat → Int
  | 0 => 0
  | n + 1 => max (mxH H n) (H n)
def mnH (H : Nat → Int) : Nat → Int
  | 0 => 999
  | n + 1 => min (mnH H n) (H n)
def smH (H : Nat → Int) : Nat → Int
  | 0 => 0
  | n + 1 => smH H n + H n
theorem mxH_bd {H : Nat → Int} {N : Nat} (h : ∀ j, j < N → 0 ≤ H j ∧ H j ≤ 999) : ∀ n, n ≤ N → 0 ≤ mxH H n ∧ mxH H n ≤ 999 := by
  intro n
  induction n with
  | zero => intro _; unfold mxH; omega
  | succ n ih => intro hn; have := ih (by omega); have := h n (by omega); unfold mxH; omega
theorem mnH_bd {H : Nat → Int} {N : Nat} (h : ∀ j, j < N → 0 ≤ H j ∧ H j ≤ 999) : ∀ n, n ≤ N → 0 ≤ mnH H n ∧ mnH H n ≤ 999 := by
  intro n
  induction n with
  | zero => intro _; unfold mnH; omega
  | succ n ih => intro hn; have := ih (by omega); have := h n (by omega); unfold mnH; omega
theorem smH_bd {H : Nat → Int} {N : Nat} (h : ∀ j, j < N → 0 ≤ H j ∧ H j ≤ 999) : ∀ n : Nat, n ≤ N → 0 ≤ smH H n ∧ smH H n ≤ 999 * n := by
  intro n
  induction n with
  | zero => intro _; unfold smH; omega
  | succ n ih => intro hn; have := ih (by omega); have := h n (by omega); unfold smH; omega

section LAND3
variable {xs : Nat → Int32} {L : Nat} {A : Nat → Nat → Int32} {V : Nat → Int32} {Y : mj_H}
variable {n : Nat} {H : Nat → Int}
theorem c_greatest (hV : V 2 = iI n) (hn : n ≤ 256) (hH : Hts (A 0) n H) : mj_Ct m_Land_greatest [.ref (mj_NE + 1)] (Wd xs L A V Y) (some (.int (iI (mxH H n)))) (Wd xs L A V Y) 0 0 1 := by
  have hb := mxH_bd (H := H) (N := n) (fun j hj => (hH j hj).2)
  have lp : ∀ k : Nat, k ≤ n → mj_Rc m_Land_greatest 0 0 1 (4, [.ref (mj_NE + 1), .int 0, .int 0], [], Wd xs L A V Y, 0, 0) (4, [.ref (mj_NE + 1), .int (iI (mxH H k)), .int (iI k)], [], Wd xs L A V Y, 0, 0) := by
    intro k
    induction k with
    | zero => intro _; exact r_rf
    | succ k ih =>
      intro hk
      have b1 := hb k (by omega)
      obtain ⟨e1, h1, h2⟩ := hH k (by omega)
      have hc : (iI k).toNatClampNeg = k := cl_nat (by omega)
      have cnd : ¬ (V 2 ≤ iI k) := br_ge hV ⟨by omega, by omega⟩ ⟨by omega, by omega⟩ (by omega)
      have hin : vp_in (iI k) 256 := in_nat (by omega) (by omega)
      have s1 : mj_Rc m_Land_greatest 0 0 1 (4, [.ref (mj_NE + 1), .int (iI (mxH H k)), .int (iI k)], [], Wd xs L A V Y, 0, 0) (19, [.ref (mj_NE + 1), .int (iI (mxH H k)), .int (iI k)], [.int (A 0 (iI k).toNatClampNeg), .int (iI (mxH H k))], Wd xs L A V Y, 0, 0) := r_to ok_Land_greatest 9999 [false] rfl ⟨cnd, hin, trivial⟩
      rw [hc, e1] at s1
      have s2 := r_tr (ih (by omega)) (r_tr s1 (q_S ok_Land_greatest ok_Math_max st_Math_max (c_max ⟨by omega, by omega⟩ ⟨by omega, by omega⟩) rfl rfl rfl rfl ⟨rfl, rfl, rfl⟩))
      have s3 := r_tr s2 (r_to (g' := (4, [.ref (mj_NE + 1), .int (iI (mxH H (k + 1))), .int (iI k + 1)], [], Wd xs L A V Y, 0, 0)) ok_Land_greatest 4 [] rfl trivial)
      rw [iI_1] at s3
      exact s3
  exact ct_of ok_Land_greatest rfl (r_tr (r_to ok_Land_greatest 4 [] rfl trivial) (r_tr (lp n (Nat.le_refl _)) (r_to ok_Land_greatest 9999 [true] rfl ⟨br_lt hV ⟨by omega, by omega⟩ ⟨by omega, by omega⟩ (by omega), trivial⟩))) rfl rfl rfl rfl rfl
theorem c_lowest (hV : V 2 = iI n) (hn : n ≤ 256) (hH : Hts (A 0) n H) : mj_Ct m_Land_lowest [.ref (mj_NE + 1)] (Wd xs L A V Y) (some (.int (iI (mnH H n)))) (Wd xs L A V Y) 0 0 1 := by
  have hb := mnH_bd (H := H) (N := n) (fun j hj => (hH j hj).2)
  have lp : ∀ k : Nat, k ≤ n → mj_Rc m_Land_lowest 0 0 1 (6, [.ref (mj_NE + 1), .int 999, .int 0], [], Wd xs L A V Y, 0, 0) (6, [.ref (mj_NE + 1), .int (iI (mnH H k)), .int (iI k)], [], Wd xs L A V Y, 0, 0) := by
    intro k
    induction k with
    | zero => intro _; exact r_rf
    | succ k ih =>
      intro hk
      have b1 := hb k (by omega)
      obtain ⟨e1, h1, h2⟩ := hH k (by omega)
      have hc : (iI k).toNatClampNeg = k := cl_nat (by omega)
      have cnd : ¬ (V 2 ≤ iI k) := br_ge hV ⟨by omega, by omega⟩ ⟨by omega, by omega⟩ (by omega)
      have hin : vp_in (iI k) 256 := in_nat (by omega) (by omega)
      have s1 : mj_Rc m_Land_lowest 0 0 1 (6, [.ref (mj_NE + 1), .int (iI (mnH H k)), .int (iI k)], [], Wd xs L A V Y, 0, 0) (21, [.ref (mj_NE + 1), .int (iI (mnH H k)), .int (iI k)], [.int (A 0 (iI k).toNatClampNeg), .int (iI (mnH H k))], Wd xs L A V Y, 0, 0) := r_to ok_Land_lowest 9999 [false] rfl ⟨cnd, hin, trivial⟩
      rw [hc, e1] at s1
      have s2 := r_tr (ih (by omega)) (r_tr s1 (q_S ok_Land_lowest ok_Math_min st_Math_min (c_min ⟨by omega, by omega⟩ ⟨by omega, by omega⟩) rfl rfl rfl rfl ⟨rfl, rfl, rfl⟩))
      have s3 := r_tr s2 (r_to (g' := (6, [.ref (mj_NE + 1), .int (iI (mnH H (k + 1))), .int (iI k + 1)], [], Wd xs L A V Y, 0, 0)) ok_Land_lowest 6 [] rfl trivial)
      rw [iI_1] at s3
      exact s3
  exact ct_of ok_Land_lowest rfl (r_tr (r_to ok_Land_lowest 6 [] rfl trivial) (r_tr (lp n (Nat.le_refl _)) (r_to ok_Land_lowest 9999 [true] rfl ⟨br_lt hV ⟨by omega, by omega⟩ ⟨by omega, by omega⟩ (by omega), trivial⟩))) rfl rfl rfl rfl rfl
theorem c_sum (hV : V 2 = iI n) (hn : n ≤ 256) (hH : Hts (A 0) n H) : mj_Ct m_Land_sum [.ref (mj_NE + 1)] (Wd xs L A V Y) (some (.int (iI (smH H n)))) (Wd xs L A V Y) 0 0 1 := by
  have hb := smH_bd (H := H) (N := n) (fun j hj => (hH j hj).2)
  have lp : ∀ k : Nat, k ≤ n → mj_Rc m_Land_sum 0 0 1 (4, [.ref (mj_NE + 1), .int 0, .int 0], [], Wd xs L A V Y, 0, 0) (4, [.ref (mj_NE + 1), .int (iI (smH H k)), .int (iI k)], [], Wd xs L A V Y, 0, 0) := by
    intro k
    induction k with
    | zero => intro _; exact r_rf
    | succ k ih =>
      intro hk
      have b1 := hb k (by omega)
      obtain ⟨e1, h1, h2⟩ := hH k (by omega)
      have hc : (iI k).toNatClampNeg = k := cl_nat (by omega)
      have cnd : ¬ (V 2 ≤ iI k) := br_ge hV ⟨by omega, by omega⟩ ⟨by omega, by omega⟩ (by omega)
      have hin : vp_in (iI k) 256 := in_nat (by omega) (by omega)
      have s1 : mj_Rc m_Land_sum 0 0 1 (4, [.ref (mj_NE + 1), .int (iI (smH H k)), .int (iI k)], [], Wd xs L A V Y, 0, 0) (4, [.ref (mj_NE + 1), .int (iI (smH H k) + A 0 (iI k).toNatClampNeg), .int (iI k + 1)], [], Wd xs L A V Y, 0, 0) := r_to ok_Land_sum 4 [false] rfl ⟨cnd, hin, trivial⟩
      rw [hc, e1, iI_1, iI_add] at s1
      exact r_tr (ih (by omega)) s1
  exact ct_of ok_Land_sum rfl (r_tr (r_to ok_Land_sum 4 [] rfl trivial) (r_tr (lp n (Nat.le_refl _)) (r_to ok_Land_sum 9999 [true] rfl ⟨br_lt hV ⟨by omega, by omega⟩ ⟨by omega, by omega⟩ (by omega), trivial⟩))) rfl rfl rfl rfl rfl
/-- what told answers -/
def toldH (w h : Int) (H : Nat → Int) (n : Nat) (k : Int) : Int := if k = 0 then w else if k = 1 then h else if k = 2 then mnH H n else if k = 3 then mxH H n else smH H n
theorem c_Ltold {w h k : Int} (h0 : V 0 = iI w) (h1 : V 1 = iI h) (hV : V 2 = iI n) (hn : n ≤ 256) (hH : Hts (A 0) n H) (hk : 0 ≤ k ∧ k ≤ 4) : mj_Ct m_Land_told [.ref (mj_NE + 1), .int (iI k)] (Wd xs L A V Y) (some (.int (iI (toldH w h H n k)))) (Wd xs L A V Y) 0 0 2 := by
  have st := r_to (RC := 0) (RS := 0) (dd := 2) (g := (0, [.ref (mj_NE + 1), .int (iI k)], [], Wd xs L A V Y, 0, 0)) (g' := (1, [.ref (mj_NE + 1), .int (iI k)], [.int (iI k)], Wd xs L A V Y, 0, 0)) ok_Land_told 9999 [] rfl trivial
  rcases (show k = 0 ∨ k = 1 ∨ k = 2 ∨ k = 3 ∨ k = 4 by omega) with rfl | rfl | rfl | rfl | rfl
  · have e : iI (toldH w h H n 0) = V 0 := h0.symm
    rw [e]
    exact ct_of ok_Land_told rfl (r_tr (r_tr st (r_swI (tgt := 32) ok_Land_told rfl ⟨by omega, by omega⟩ (by omega) (by omega) rfl rfl)) (r_to ok_Land_told 9999 [] rfl trivial)) rfl rfl rfl rfl rfl
  · have e : iI (toldH w h H n 1) = V 1 := h1.symm
    rw [e]
    exact ct_of ok_Land_told rfl (r_tr (r_tr st (r_swI (tgt := 37) ok_Land_told rfl ⟨by omega, by omega⟩ (by omega) (by omega) rfl rfl)) (r_to ok_Land_told 9999 [] rfl trivial)) rfl rfl rfl rfl rfl
  · exact ct_of ok_Land_told rfl (r_tr (r_tr (r_tr st (r_swI (tgt := 42) ok_Land_told rfl ⟨by omega, by omega⟩ (by omega) (by omega) rfl rfl)) (r_to (g' := (43, [.ref (mj_NE + 1), .int (iI 2)], [.ref (mj_NE + 1)], Wd xs L A V Y, 0, 0)) ok_Land_told 9999 [] rfl trivial)) (q_V ok_Land_told ok_Land_lowest se_Land_lowest (c_lowest hV hn hH) rfl rfl rfl rfl rfl ⟨rfl, rfl, rfl⟩)) rfl rfl rfl rfl rfl
  · exact ct_of ok_Land_told rfl (r_tr (r_tr (r_tr st (r_swI (tgt := 47) ok_Land_told rfl ⟨by omega, by omega⟩ (by omega) (by omega) rfl rfl)) (r_to (g' := (48, [.ref (mj_NE + 1), .int (iI 3)], [.ref (mj_NE + 1)], Wd xs L A V Y, 0, 0)) ok_Land_told 9999 [] rfl trivial)) (q_V ok_Land_told ok_Land_greatest se_Land_greatest (c_greatest hV hn hH) rfl rfl rfl rfl rfl ⟨rfl, rfl, rfl⟩)) rfl rfl rfl rfl rfl
  · exact ct_of ok_Land_told rfl (r_tr (r_tr (r_tr st (r_swO (tgt := 52) ok_Land_told rfl ⟨by omega, by omega⟩ (by omega) rfl)) (r_to (g' := (53, [.ref (mj_NE + 1), .int (iI 4)], [.ref (mj_NE + 1)], Wd xs L A V Y, 0, 0)) ok_Land_told 9999 [] rfl trivial)) (q_V ok_Land_told ok_Land_sum se_Land_sum (c_sum hV hn hH) rfl rfl rfl rfl rfl ⟨rfl, rfl, rfl⟩)) rfl rfl rfl rfl rfl
/-- a HEIGHT as it is taken -/
def clH (z : Int) : Int := if z < 0 then 0 else if 999 < z then 999 else z
theorem c_exchange {i z : Int} (hi : 0 ≤ i ∧ i < 256) (hz : -2147483648 ≤ z ∧ z ≤ 2147483647) : mj_Ct m_Land_exchange [.ref (mj_NE + 1), .int (iI i), .int (iI z)] (Wd xs L A V Y) (some (.int (A 0 i.toNat))) (Wd xs L (wA A 0 (upd (A 0) i.toNat (iI (clH z)))) V Y) 0 0 0 := by
  have hc : (iI i).toNatClampNeg = i.toNat := iI_cl (by omega) (by omega)
  have hin : vp_in (iI i) 256 := (iI_in ⟨by omega, by omega⟩).mpr ⟨by omega, by omega⟩
  rw [← hc]
  by_cases h1 : z < 0
  · have e : clH z = 0 := by unfold clH; rw [if_pos h1]
    rw [e]
    exact ct_of ok_Land_exchange rfl (r_to ok_Land_exchange 9999 [false] rfl ⟨hin, by
      show ¬ (iI 0 ≤ iI z)
      rw [iI_le ⟨by omega, by omega⟩ hz]
      omega, hin, trivial⟩) rfl rfl rfl rfl rfl
  have c1 : iI 0 ≤ iI z := by rw [iI_le ⟨by omega, by omega⟩ hz]; omega
  by_cases h2 : 999 < z
  · have e : clH z = 999 := by unfold clH; rw [if_neg h1, if_pos h2]
    rw [e]
    exact ct_of ok_Land_exchange rfl (r_to ok_Land_exchange 9999 [true, false] rfl ⟨hin, c1, by
      show ¬ (iI z ≤ iI 999)
      rw [iI_le hz ⟨by omega, by omega⟩]
      omega, hin, trivial⟩) rfl rfl rfl rfl rfl
  · have e : clH z = z := by unfold clH; rw [if_neg h1, if_neg h2]
    rw [e]
    exact ct_of ok_Land_exchange rfl (r_to ok_Land_exchange 9999 [true, true] rfl ⟨hin, c1, by
      show iI z ≤ iI 999
      rw [iI_le hz ⟨by omega, by omega⟩]
      omega, hin, trivial⟩) rfl rfl rfl rfl rfl
theorem c_difference {i j b c : Int} (hi : 0 ≤ i ∧ i < 256) (hj : 0 ≤ j ∧ j < 256) (e1 : A 0 i.toNat = iI b) (e2 : A 0 j.toNat = iI c) (hb : 0 ≤ b ∧ b ≤ 999) (hc : 0 ≤ c ∧ c ≤ 999) : mj_Ct m_Land_difference [.ref (mj_NE + 1), .int (iI i), .int (iI j)] (Wd xs L A V Y) (some (.int (iI ((b - c).natAbs : Int)))) (Wd xs L A V Y) 0 0 1 := by
  have ci : (iI i).toNatClampNeg = i.toNat := iI_cl (by omega) (by omega)
  have cj : (iI j).toNatClampNeg = j.toNat := iI_cl (by omega) (by omega)
  have hin1 : vp_in (iI i) 256 := (iI_in ⟨by omega, by omega⟩).mpr ⟨by omega, by omega⟩
  have hin2 : vp_in (iI j) 256 := (iI_in ⟨by omega, by omega⟩).mpr ⟨by omega, by omega⟩
  have s1 : mj_Rc m_Land_difference 0 0 1 (0, [.ref (mj_NE + 1), .int (iI i), .int (iI j)], [], Wd xs L A V Y, 0, 0) (13, [.ref (mj_NE + 1), .int (iI i), .int (iI j)], [.int (A 0 (iI i).toNatClampNeg - A 0 (iI j).toNatClampNeg)], Wd xs L A V Y, 0, 0) := r_to ok_Land_difference 9999 [] rfl ⟨hin1, hin2, trivial⟩
  rw [ci, cj, e1, e2, iI_sub] at s1
  exact ct_of ok_Land_difference rfl (r_tr s1 (q_S ok_Land_difference ok_Math_abs st_Math_abs (c_abs ⟨by omega, by omega⟩) rfl rfl rfl rfl ⟨rfl, rfl, rfl⟩)) rfl rfl rfl rfl rfl
/-- a FIELD at the EDGE -/
def edge (w h : Int) (i : Nat) : Prop := (i : Int) % w = 0 ∨ (i : Int) % w = w - 1 ∨ (i : Int) / w = 0 ∨ (i : Int) / w = h - 1
theorem i_xy {w h : Int} {i : Nat} (hw : 2 ≤ w ∧ w ≤ 16) (hh : 2 ≤ h ∧ h ≤ 16) (hi : (i : Int) < w * h) : 0 ≤ (i : Int) % w ∧ (i : Int) % w < w ∧ 0 ≤ (i : Int) / w ∧ (i : Int) / w < h ∧ (i : Int) / w * w + (i : Int) % w = i ∧ (i : Int) < 256 := by
  have h1 := Int.emod_nonneg (i : Int) (show w ≠ 0 by omega)
  have h2 := Int.emod_lt_of_pos (i : Int) (show 0 < w by omega)
  have h3 := Int.mul_ediv_add_emod (i : Int) w
  have h4 : 0 ≤ (i : Int) / w := Int.ediv_nonneg (by omega) (by omega)
  have h5 : (i : Int) / w < h := Int.ediv_lt_of_lt_mul (by omega) (by rw [Int.mul_comm]; exact hi)
  have h6 : w * h ≤ 16 * h := Int.mul_le_mul_of_nonneg_right hw.2 (by omega)
  rw [Int.mul_comm] at h3
  omega
end LAND3
