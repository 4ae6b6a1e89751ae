/-! THE REFERENCE: pieces where nothing is high -/
/-- locals, some of them forgotten -/
def mj_fg : List Bool → List Value → List Value
  | true :: bs, v :: r => v :: mj_fg bs r
  | false :: bs, _ :: r => mj_u :: mj_fg bs r
  | _, _ => []
theorem mj_fg_at : ∀ (bs : List Bool) (L : List Value) (i : Nat) (v : Value), (mj_fg bs L)[i]? = some v → v ≠ mj_u → L[i]? = some v := by
  intro bs
  induction bs with
  | nil => intro L i v h _; unfold mj_fg at h; simp at h
  | cons c bs ih =>
    intro L i v h hv
    cases L with
    | nil => cases c <;> (unfold mj_fg at h; simp at h)
    | cons w r =>
      cases c with
      | true =>
        unfold mj_fg at h
        match i, h with
        | 0, h => exact h
        | i + 1, h => exact ih r i v h hv
      | false =>
        unfold mj_fg at h
        match i, h with
        | 0, h => exact absurd (Option.some.inj h).symm hv
        | i + 1, h => exact ih r i v h hv
theorem r_fg {M : mj_M} {RC RS dd : Nat} (bs : List Bool) {pc : Nat} {L st : List Value} {h : mj_H} {cc cs : Nat} : mj_Rc M RC RS dd (pc, L, st, h, cc, cs) (pc, mj_fg bs L, st, h, cc, cs) := fun κ _ k => by
  obtain ⟨p, l, e, R, s, m, args, below, meth, c, Q, σ, D, cT, base⟩ := κ
  intro H locs ls hR hl
  exact k H locs ls hR ⟨hl.1, hl.2.1, fun i v hi hv => hl.2.2 i v (mj_fg_at bs L i v hi hv) hv⟩
theorem d_end {M : mj_M} {RC RS dd n : Nat} {g g1 g2 : mj_S} (h : mj_Rd M RC RS dd n g g1) (e : g1 = g2) : mj_Rd M RC RS dd n g g2 := e ▸ h
abbrev zA : mj_Cl := .inr (11, [.int 0, .ref 5, .int 0])
abbrev zA0 : mj_Cl := .inr (11, [.int 0, .null, .int 0])
abbrev zC (f : Nat → Int32) : mj_Cl := mj_ia 4 f
theorem n4 : (iI 4).toNatClampNeg = 4 ∧ ¬ (iI 4 < 0) := by decide +kernel
section REF17
variable {xs : Nat → Int32} {L : Nat} {A : Nat → Nat → Int32} {V : Nat → Int32} {t b : Int32} {ld : Nat} {f : Nat → Int32} {o : Nat → Int64} {H : Nat → Int} {Z : mj_H} {z1 z2 z3 : mj_Cl}
theorem c_ACinit36 : mj_Ct m_AbstractCollection_init [.ref (mj_NE + 36)] (Wd xs L A V (mY t b ld f [zO o, zA0])) none (Wd xs L A V (mY t b ld f [zO o, zA0])) 0 0 1 := ct_of ok_AbstractCollection_init rfl (r_tr (r_to ok_AbstractCollection_init 1 [] rfl trivial) (r_tr (r_O ok_AbstractCollection_init rfl rfl rfl) r_rf)) rfl rfl rfl rfl rfl
theorem c_ABinit36 : mj_Ct m_AbstractList_init [.ref (mj_NE + 36)] (Wd xs L A V (mY t b ld f [zO o, zA0])) none (Wd xs L A V (mY t b ld f [zO o, zA0])) 0 0 2 := by
  have t1 := r_to (RC := 0) (RS := 0) (dd := 2) (g := (0, [.ref (mj_NE + 36)], [], Wd xs L A V (mY t b ld f [zO o, zA0]), 0, 0)) (g' := (1, [.ref (mj_NE + 36)], [.ref (mj_NE + 36)], Wd xs L A V (mY t b ld f [zO o, zA0]), 0, 0)) ok_AbstractList_init 9999 [] rfl trivial
  have t2 := r_tr t1 (q_I ok_AbstractList_init ok_AbstractCollection_init in_AbstractCollection_init (c_ACinit36) rfl rfl rfl rfl ⟨rfl, rfl, rfl⟩)
  exact ct_of ok_AbstractList_init rfl (r_tr t2 (r_to ok_AbstractList_init 9999 [] rfl trivial)) rfl rfl rfl rfl rfl
theorem c_ALinit36 : mj_Ct m_ArrayList_init [.ref (mj_NE + 36)] (Wd xs L A V (mY t b ld f [zO o, zA0])) none (Wd xs L A V (mY t b ld f [zO o, zA])) 0 0 3 := by
  have t1 := r_to (RC := 0) (RS := 0) (dd := 3) (g := (0, [.ref (mj_NE + 36)], [], Wd xs L A V (mY t b ld f [zO o, zA0]), 0, 0)) (g' := (1, [.ref (mj_NE + 36)], [.ref (mj_NE + 36)], Wd xs L A V (mY t b ld f [zO o, zA0]), 0, 0)) ok_ArrayList_init 9999 [] rfl trivial
  have t2 := r_tr t1 (q_I ok_ArrayList_init ok_AbstractList_init in_AbstractList_init (c_ABinit36) rfl rfl rfl rfl ⟨rfl, rfl, rfl⟩)
  exact ct_of ok_ArrayList_init rfl (r_tr t2 (r_to ok_ArrayList_init 9999 [] rfl trivial)) rfl rfl rfl rfl rfl
theorem c_ACinit39 : mj_Ct m_AbstractCollection_init [.ref (mj_NE + 39)] (Wd xs L A V (mY t b ld f [zO o, z1, z2, z3, zA0])) none (Wd xs L A V (mY t b ld f [zO o, z1, z2, z3, zA0])) 0 0 1 := ct_of ok_AbstractCollection_init rfl (r_tr (r_to ok_AbstractCollection_init 1 [] rfl trivial) (r_tr (r_O ok_AbstractCollection_init rfl rfl rfl) r_rf)) rfl rfl rfl rfl rfl
theorem c_ABinit39 : mj_Ct m_AbstractList_init [.ref (mj_NE + 39)] (Wd xs L A V (mY t b ld f [zO o, z1, z2, z3, zA0])) none (Wd xs L A V (mY t b ld f [zO o, z1, z2, z3, zA0])) 0 0 2 := by
  have t1 := r_to (RC := 0) (RS := 0) (dd := 2) (g := (0, [.ref (mj_NE + 39)], [], Wd xs L A V (mY t b ld f [zO o, z1, z2, z3, zA0]), 0, 0)) (g' := (1, [.ref (mj_NE + 39)], [.ref (mj_NE + 39)], Wd xs L A V (mY t b ld f [zO o, z1, z2, z3, zA0]), 0, 0)) ok_AbstractList_init 9999 [] rfl trivial
  have t2 := r_tr t1 (q_I ok_AbstractList_init ok_AbstractCollection_init in_AbstractCollection_init (c_ACinit39) rfl rfl rfl rfl ⟨rfl, rfl, rfl⟩)
  exact ct_of ok_AbstractList_init rfl (r_tr t2 (r_to ok_AbstractList_init 9999 [] rfl trivial)) rfl rfl rfl rfl rfl
theorem c_ALinit39 : mj_Ct m_ArrayList_init [.ref (mj_NE + 39)] (Wd xs L A V (mY t b ld f [zO o, z1, z2, z3, zA0])) none (Wd xs L A V (mY t b ld f [zO o, z1, z2, z3, zA])) 0 0 3 := by
  have t1 := r_to (RC := 0) (RS := 0) (dd := 3) (g := (0, [.ref (mj_NE + 39)], [], Wd xs L A V (mY t b ld f [zO o, z1, z2, z3, zA0]), 0, 0)) (g' := (1, [.ref (mj_NE + 39)], [.ref (mj_NE + 39)], Wd xs L A V (mY t b ld f [zO o, z1, z2, z3, zA0]), 0, 0)) ok_ArrayList_init 9999 [] rfl trivial
  have t2 := r_tr t1 (q_I ok_ArrayList_init ok_AbstractList_init in_AbstractList_init (c_ABinit39) rfl rfl rfl rfl ⟨rfl, rfl, rfl⟩)
  exact ct_of ok_ArrayList_init rfl (r_tr t2 (r_to ok_ArrayList_init 9999 [] rfl trivial)) rfl rfl rfl rfl rfl
theorem c_ALsize36 : mj_Ct m_ArrayList_size [.ref (mj_NE + 36)] (Wd xs L A V (mY t b ld f (zO o :: zA :: Z))) (some (.int (iI 0))) (Wd xs L A V (mY t b ld f (zO o :: zA :: Z))) 0 0 0 := ct_of ok_ArrayList_size rfl (r_to ok_ArrayList_size 9999 [] rfl trivial) rfl rfl rfl rfl rfl
theorem c_ALsize39 : mj_Ct m_ArrayList_size [.ref (mj_NE + 39)] (Wd xs L A V (mY t b ld f [zO o, z1, z2, z3, zA])) (some (.int (iI 0))) (Wd xs L A V (mY t b ld f [zO o, z1, z2, z3, zA])) 0 0 0 := ct_of ok_ArrayList_size rfl (r_to ok_ArrayList_size 9999 [] rfl trivial) rfl rfl rfl rfl rfl
theorem c_MLisHigh0 {i : Nat} {c : Int} (hz : ∀ j : Nat, j < 144 → f j = iI 0) (hi : i < 144) (hc : 0 ≤ c ∧ c ≤ 999) : mj_Ct m_ML_isHigh [.ref (mj_NE + 33), .int (iI (i : Int)), .int (iI c)] (Wd xs L A V (mY t b ld f (Z))) (some (.int (bI false))) (Wd xs L A V (mY t b ld f (Z))) 0 0 0 := ct_of ok_ML_isHigh rfl (r_to ok_ML_isHigh 9999 [true] rfl ⟨in_nat (by omega) (by omega), by
  show f (iI (i : Int)).toNatClampNeg ≤ iI c
  rw [cl_nat (by omega), hz i hi, iI_le ⟨by omega, by omega⟩ ⟨by omega, by omega⟩]
  exact hc.1, trivial⟩) rfl rfl ⟨rfl, bI_nar false⟩ rfl rfl
theorem pc_sq {c : Int} {co si : Nat → Int32} {y x fs : Int32} {cc cs : Nat} (hcc : cc ≤ 364) (hcs : cs ≤ 1334) (hz : ∀ j : Nat, j < 144 → f j = iI 0) (hc : 0 ≤ c ∧ c ≤ 999) (hco : ∀ q, q < 4 → ∃ i : Nat, i < 144 ∧ co q = iI (i : Int)) : mj_Rc m_ML_pieces 364 1334 4 (143, [.ref (mj_NE + 33), .int (iI c), .ref (mj_NE + 36), .int y, .int x, .int fs, .ref (mj_NE + 37), .ref (mj_NE + 38), .ref (mj_NE + 39), .int (iI 0), .int (iI ((0 : Nat) : Int)), mj_u], [], Wd xs L A V (mY t b ld f [zO o, zA, zC co, zC si, zA]), cc, cs) (23, [.ref (mj_NE + 33), .int (iI c), .ref (mj_NE + 36), .int y, .int (x + 1), .int fs, .ref (mj_NE + 37), .ref (mj_NE + 38), .ref (mj_NE + 39), .int (iI 0), .int (iI ((4 : Nat) : Int)), mj_u], [], Wd xs L A V (mY t b ld f [zO o, zA, zC co, zC si, zA]), cc, cs) := by
  have lp : ∀ q : Nat, q ≤ 4 → mj_Rc m_ML_pieces 364 1334 4 (143, [.ref (mj_NE + 33), .int (iI c), .ref (mj_NE + 36), .int y, .int x, .int fs, .ref (mj_NE + 37), .ref (mj_NE + 38), .ref (mj_NE + 39), .int (iI 0), .int (iI ((0 : Nat) : Int)), mj_u], [], Wd xs L A V (mY t b ld f [zO o, zA, zC co, zC si, zA]), cc, cs) (143, [.ref (mj_NE + 33), .int (iI c), .ref (mj_NE + 36), .int y, .int x, .int fs, .ref (mj_NE + 37), .ref (mj_NE + 38), .ref (mj_NE + 39), .int (iI 0), .int (iI (q : Int)), mj_u], [], Wd xs L A V (mY t b ld f [zO o, zA, zC co, zC si, zA]), cc, cs) := by
    intro q
    induction q with
    | zero => intro _; exact r_rf
    | succ q ih =>
      intro hq
      obtain ⟨i, hi, ei⟩ := hco q (by omega)
      obtain ⟨j, hj, ej⟩ := hco ((q + 1) % 4) (by omega)
      have hcq : (iI (q : Int)).toNatClampNeg = q := cl_nat (by omega)
      have hcr : (iI (((q + 1) % 4 : Nat) : Int)).toNatClampNeg = (q + 1) % 4 := cl_nat (by omega)
      have inq : vp_in (iI (q : Int)) 4 := in_nat (by omega) (by omega)
      have c0 : ¬ (iI 4 ≤ iI (q : Int)) := by rw [iI_le ⟨by omega, by omega⟩ ⟨by omega, by omega⟩]; omega
      have rm : iI (q : Int) + iI 1 - (iI (q : Int) + iI 1) / iI 4 * iI 4 = iI (((q + 1) % 4 : Nat) : Int) := by
        rw [iI_add, iI_rem ⟨by omega, by omega⟩ ⟨by omega, by omega⟩, Int.tmod_eq_emod_of_nonneg (by omega)]
        congr 1
      have nn4 : ¬ (iI 4 = 0) := by decide +kernel
      have s1 := r_tr (ih (by omega)) (r_to (g' := (156, [.ref (mj_NE + 33), .int (iI c), .ref (mj_NE + 36), .int y, .int x, .int fs, .ref (mj_NE + 37), .ref (mj_NE + 38), .ref (mj_NE + 39), .int (iI 0), .int (iI (q : Int)), mj_u], [.int (iI c), .int (co (iI (q : Int)).toNatClampNeg), .ref (mj_NE + 33)], Wd xs L A V (mY t b ld f [zO o, zA, zC co, zC si, zA]), cc, cs)) ok_ML_pieces 9999 [false] rfl ⟨c0, inq, trivial⟩)
      rw [hcq, ei] at s1
      have s2 := r_tr s1 (q_V ok_ML_pieces ok_ML_isHigh se_ML_isHigh (c_MLisHigh0 hz hi hc) rfl rfl rfl rfl rfl ⟨Nat.ble_eq_true_of_le (by omega), Nat.ble_eq_true_of_le (by omega), rfl⟩)
      have s3 : mj_Rc m_ML_pieces 364 1334 4 (159, [.ref (mj_NE + 33), .int (iI c), .ref (mj_NE + 36), .int y, .int x, .int fs, .ref (mj_NE + 37), .ref (mj_NE + 38), .ref (mj_NE + 39), .int (iI 0), .int (iI (q : Int)), mj_u], [.int (bI false)], Wd xs L A V (mY t b ld f [zO o, zA, zC co, zC si, zA]), cc, cs) (170, [.ref (mj_NE + 33), .int (iI c), .ref (mj_NE + 36), .int y, .int x, .int fs, .ref (mj_NE + 37), .ref (mj_NE + 38), .ref (mj_NE + 39), .int (iI 0), .int (iI (q : Int)), mj_u], [.int (iI c), .int (co (iI (q : Int) + iI 1 - (iI (q : Int) + iI 1) / iI 4 * iI 4).toNatClampNeg), .ref (mj_NE + 33), .int (bI false)], Wd xs L A V (mY t b ld f [zO o, zA, zC co, zC si, zA]), cc, cs) := r_to ok_ML_pieces 9999 [] rfl ⟨nn4, by
        show vp_in (iI (q : Int) + iI 1 - (iI (q : Int) + iI 1) / iI 4 * iI 4) 4
        rw [rm]
        exact in_nat (by omega) (by omega), trivial⟩
      rw [rm, hcr, ej] at s3
      have s4 := r_tr (r_tr s2 s3) (q_V ok_ML_pieces ok_ML_isHigh se_ML_isHigh (c_MLisHigh0 hz hj hc) rfl rfl rfl rfl rfl ⟨Nat.ble_eq_true_of_le (by omega), Nat.ble_eq_true_of_le (by omega), rfl⟩)
      have s5 : mj_Rc m_ML_pieces 364 1334 4 (173, [.ref (mj_NE + 33), .int (iI c), .ref (mj_NE + 36), .int y, .int x, .int fs, .ref (mj_NE + 37), .ref (mj_NE + 38), .ref (mj_NE + 39), .int (iI 0), .int (iI (q : Int)), mj_u], [.int (bI false), .int (bI false)], Wd xs L A V (mY t b ld f [zO o, zA, zC co, zC si, zA]), cc, cs) (143, [.ref (mj_NE + 33), .int (iI c), .ref (mj_NE + 36), .int y, .int x, .int fs, .ref (mj_NE + 37), .ref (mj_NE + 38), .ref (mj_NE + 39), .int (iI 0 + f (co (iI (q : Int)).toNatClampNeg).toNatClampNeg), .int (iI (q : Int) + 1), mj_u], [], Wd xs L A V (mY t b ld f [zO o, zA, zC co, zC si, zA]), cc, cs) := r_to ok_ML_pieces 143 [true] rfl ⟨by show bI false = bI false; rfl, inq, by
        show vp_in (co (iI (q : Int)).toNatClampNeg) 144
        rw [hcq, ei]
        exact in_nat (by omega) (by omega), trivial⟩
      rw [hcq, ei, cl_nat (show i ≤ 2147483647 by omega), hz i hi, iI_add, Int.add_zero, iI_1] at s5
      exact r_tr s4 s5
  have s6 := r_tr (lp 4 (Nat.le_refl _)) (r_to (g' := (213, [.ref (mj_NE + 33), .int (iI c), .ref (mj_NE + 36), .int y, .int x, .int fs, .ref (mj_NE + 37), .ref (mj_NE + 38), .ref (mj_NE + 39), .int (iI 0), .int (iI ((4 : Nat) : Int)), mj_u], [.ref (mj_NE + 39)], Wd xs L A V (mY t b ld f [zO o, zA, zC co, zC si, zA]), cc, cs)) ok_ML_pieces 9999 [true] rfl ⟨by show iI 4 ≤ iI ((4 : Nat) : Int); rw [iI_le ⟨by omega, by omega⟩ ⟨by omega, by omega⟩]; omega, trivial⟩)
  have s7 := r_tr s6 (q_V ok_ML_pieces ok_ArrayList_size se_ArrayList_size (c_ALsize39) rfl rfl rfl rfl rfl ⟨Nat.ble_eq_true_of_le (by omega), Nat.ble_eq_true_of_le (by omega), rfl⟩)
  have s8 := r_tr s7 (r_to (g' := (260, [.ref (mj_NE + 33), .int (iI c), .ref (mj_NE + 36), .int y, .int x, .int fs, .ref (mj_NE + 37), .ref (mj_NE + 38), .ref (mj_NE + 39), .int (iI 0), .int (iI ((4 : Nat) : Int)), mj_u], [.ref (mj_NE + 39)], Wd xs L A V (mY t b ld f [zO o, zA, zC co, zC si, zA]), cc, cs)) ok_ML_pieces 9999 [true] rfl ⟨by show ¬ (iI 0 = iI 2); decide +kernel, trivial⟩)
  have s9 := r_tr s8 (q_V ok_ML_pieces ok_ArrayList_size se_ArrayList_size (c_ALsize39) rfl rfl rfl rfl rfl ⟨Nat.ble_eq_true_of_le (by omega), Nat.ble_eq_true_of_le (by omega), rfl⟩)
  exact r_tr s9 (r_to ok_ML_pieces 23 [false] rfl ⟨by show ¬ (iI 4 ≤ iI 0); decide +kernel, trivial⟩)
set_option maxHeartbeats 2000000 in
set_option maxRecDepth 10000 in
theorem c_MLpieces0 {c : Int} (hz : ∀ j : Nat, j < 144 → f j = iI 0) (hc : 0 ≤ c ∧ c ≤ 999) : mj_Cd 44 m_ML_pieces [.ref (mj_NE + 33), .int (iI c)] (Wd xs L A V (mY t b (mj_NE + 33) f [zO o])) (some (.ref (mj_NE + 36))) (Wd xs L A V (mY t b (mj_NE + 33) f [zO o, zA])) 364 1334 4 := by
  have v0 : vp_in (iI 0) 4 := (iI_in ⟨by omega, by omega⟩).mpr ⟨by omega, by omega⟩
  have v1 : vp_in (iI 1) 4 := (iI_in ⟨by omega, by omega⟩).mpr ⟨by omega, by omega⟩
  have v2 : vp_in (iI 2) 4 := (iI_in ⟨by omega, by omega⟩).mpr ⟨by omega, by omega⟩
  have v3 : vp_in (iI 3) 4 := (iI_in ⟨by omega, by omega⟩).mpr ⟨by omega, by omega⟩
  have r1 := r_to (RC := 364) (RS := 1334) (dd := 4) (g := (0, [.ref (mj_NE + 33), .int (iI c), mj_u, mj_u, mj_u, mj_u, mj_u, mj_u, mj_u, mj_u, mj_u, mj_u], [], Wd xs L A V (mY t b (mj_NE + 33) f [zO o]), 0, 0)) (g' := (4, [.ref (mj_NE + 33), .int (iI c), mj_u, mj_u, mj_u, mj_u, mj_u, mj_u, mj_u, mj_u, mj_u, mj_u], [.ref (mj_NE + 36), .ref (mj_NE + 36)], Wd xs L A V (mY t b (mj_NE + 33) f [zO o, zA0]), 1, 3)) ok_ML_pieces 9999 [] rfl ⟨⟨by decide, by decide⟩, trivial⟩
  have r2 := r_tr r1 (q_I ok_ML_pieces ok_ArrayList_init in_ArrayList_init (c_ALinit36) rfl rfl rfl rfl ⟨rfl, rfl, rfl⟩)
  have r3 := r_tr r2 (r_to (g' := (10, [.ref (mj_NE + 33), .int (iI c), .ref (mj_NE + 36), .int (iI ((0 : Nat) : Int)), mj_u, mj_u, mj_u, mj_u, mj_u, mj_u, mj_u, mj_u], [], Wd xs L A V (mY t b (mj_NE + 33) f [zO o, zA]), 1 + 3 * (11 * 0), 3 + 11 * (11 * 0))) ok_ML_pieces 10 [] rfl trivial)
  have sq : ∀ y x : Nat, y < 11 → x < 11 → mj_Rd m_ML_pieces 364 1334 4 44 (23, [.ref (mj_NE + 33), .int (iI c), .ref (mj_NE + 36), .int (iI (y : Int)), .int (iI (x : Int)), mj_u, mj_u, mj_u, mj_u, mj_u, mj_u, mj_u], [], Wd xs L A V (mY t b (mj_NE + 33) f [zO o, zA]), (1 + 3 * (11 * y + x)), (3 + 11 * (11 * y + x))) (23, [.ref (mj_NE + 33), .int (iI c), .ref (mj_NE + 36), .int (iI (y : Int)), .int (iI (x : Int) + 1), mj_u, mj_u, mj_u, mj_u, mj_u, mj_u, mj_u], [], Wd xs L A V (mY t b (mj_NE + 33) f [zO o, zA]), (1 + 3 * (11 * y + (x + 1))), (3 + 11 * (11 * y + (x + 1)))) := by
    intro y x hy hx
    have s1 := r_to (RC := 364) (RS := 1334) (dd := 4) (g := (23, [.ref (mj_NE + 33), .int (iI c), .ref (mj_NE + 36), .int (iI (y : Int)), .int (iI (x : Int)), mj_u, mj_u, mj_u, mj_u, mj_u, mj_u, mj_u], [], Wd xs L A V (mY t b (mj_NE + 33) f [zO o, zA]), (1 + 3 * (11 * y + x)), (3 + 11 * (11 * y + x)))) (g' := (45, [.ref (mj_NE + 33), .int (iI c), .ref (mj_NE + 36), .int (iI (y : Int)), .int (iI (x : Int)), .int (iI (y : Int) * iI 12 + iI (x : Int)), mj_u, mj_u, mj_u, mj_u, mj_u, mj_u], [], Wd xs L A V (mY t b (mj_NE + 33) f [zO o, zA]), (1 + 3 * (11 * y + x)), (3 + 11 * (11 * y + x)))) ok_ML_pieces 45 [false] rfl ⟨by
      show ¬ (iI 12 ≤ iI (x : Int) + iI 1)
      rw [iI_add, iI_le ⟨by omega, by omega⟩ ⟨by omega, by omega⟩]
      omega, trivial⟩
    rw [iI_mul, iI_add, show (y : Int) * 12 + (x : Int) = ((y * 12 + x : Nat) : Int) by omega] at s1
    have s2 := r_tr s1 (r_to (g' := (128, [.ref (mj_NE + 33), .int (iI c), .ref (mj_NE + 36), .int (iI (y : Int)), .int (iI (x : Int)), .int (iI ((y * 12 + x : Nat) : Int)), .ref (mj_NE + 37), .ref (mj_NE + 38), mj_u, mj_u, mj_u, mj_u], [], Wd xs L A V (mY t b (mj_NE + 33) f [zO o, zA, zC (upd (upd (upd (upd (fun _ => 0) 0 (iI ((y * 12 + x : Nat) : Int))) 1 (iI ((y * 12 + x : Nat) : Int) + iI 1)) 2 (iI ((y * 12 + x : Nat) : Int) + iI 12 + iI 1)) 3 (iI ((y * 12 + x : Nat) : Int) + iI 12)), zC (upd (upd (upd (upd (fun _ => 0) 0 (iI 2 * iI ((y * 12 + x : Nat) : Int))) 1 (iI 2 * (iI ((y * 12 + x : Nat) : Int) + iI 1) + iI 1)) 2 (iI 2 * (iI ((y * 12 + x : Nat) : Int) + iI 12))) 3 (iI 2 * iI ((y * 12 + x : Nat) : Int) + iI 1))]), (1 + 3 * (11 * y + x)) + 1 + 1, (3 + 11 * (11 * y + x)) + 4 + 4)) ok_ML_pieces 128 [] rfl ⟨⟨n4.2, by decide +kernel, by omega, by show _ + (iI 4).toNatClampNeg ≤ _; rw [n4.1]; omega⟩, v0, v1, v2, v3, ⟨n4.2, by decide +kernel, by omega, by show _ + 4 + (iI 4).toNatClampNeg ≤ _; rw [n4.1]; omega⟩, v0, v1, v2, v3, trivial⟩)
    have s3 := r_tr s2 (r_to (g' := (132, [.ref (mj_NE + 33), .int (iI c), .ref (mj_NE + 36), .int (iI (y : Int)), .int (iI (x : Int)), .int (iI ((y * 12 + x : Nat) : Int)), .ref (mj_NE + 37), .ref (mj_NE + 38), mj_u, mj_u, mj_u, mj_u], [.ref (mj_NE + 39), .ref (mj_NE + 39)], Wd xs L A V (mY t b (mj_NE + 33) f [zO o, zA, zC (upd (upd (upd (upd (fun _ => 0) 0 (iI ((y * 12 + x : Nat) : Int))) 1 (iI ((y * 12 + x : Nat) : Int) + iI 1)) 2 (iI ((y * 12 + x : Nat) : Int) + iI 12 + iI 1)) 3 (iI ((y * 12 + x : Nat) : Int) + iI 12)), zC (upd (upd (upd (upd (fun _ => 0) 0 (iI 2 * iI ((y * 12 + x : Nat) : Int))) 1 (iI 2 * (iI ((y * 12 + x : Nat) : Int) + iI 1) + iI 1)) 2 (iI 2 * (iI ((y * 12 + x : Nat) : Int) + iI 12))) 3 (iI 2 * iI ((y * 12 + x : Nat) : Int) + iI 1)), zA0]), (1 + 3 * (11 * y + x)) + 1 + 1 + 1, (3 + 11 * (11 * y + x)) + 4 + 4 + 3)) ok_ML_pieces 9999 [] rfl ⟨⟨by omega, by show _ + 4 + 4 + 3 ≤ _; omega⟩, trivial⟩)
    have s4 := r_tr s3 (q_I ok_ML_pieces ok_ArrayList_init in_ArrayList_init (c_ALinit39) rfl rfl rfl rfl ⟨Nat.ble_eq_true_of_le (by omega), Nat.ble_eq_true_of_le (by omega), rfl⟩)
    have s5 := r_tr s4 (r_to (g' := (143, [.ref (mj_NE + 33), .int (iI c), .ref (mj_NE + 36), .int (iI (y : Int)), .int (iI (x : Int)), .int (iI ((y * 12 + x : Nat) : Int)), .ref (mj_NE + 37), .ref (mj_NE + 38), .ref (mj_NE + 39), .int (iI 0), .int (iI ((0 : Nat) : Int)), mj_u], [], Wd xs L A V (mY t b (mj_NE + 33) f [zO o, zA, zC (upd (upd (upd (upd (fun _ => 0) 0 (iI ((y * 12 + x : Nat) : Int))) 1 (iI ((y * 12 + x : Nat) : Int) + iI 1)) 2 (iI ((y * 12 + x : Nat) : Int) + iI 12 + iI 1)) 3 (iI ((y * 12 + x : Nat) : Int) + iI 12)), zC (upd (upd (upd (upd (fun _ => 0) 0 (iI 2 * iI ((y * 12 + x : Nat) : Int))) 1 (iI 2 * (iI ((y * 12 + x : Nat) : Int) + iI 1) + iI 1)) 2 (iI 2 * (iI ((y * 12 + x : Nat) : Int) + iI 12))) 3 (iI 2 * iI ((y * 12 + x : Nat) : Int) + iI 1)), zA]), (1 + 3 * (11 * y + x)) + 1 + 1 + 1, (3 + 11 * (11 * y + x)) + 4 + 4 + 3)) ok_ML_pieces 143 [] rfl trivial)
    have s6 := r_tr s5 (pc_sq (by omega) (by omega) hz hc (fun q hq => by
      have q4 : q = 0 ∨ q = 1 ∨ q = 2 ∨ q = 3 := by omega
      rcases q4 with rfl | rfl | rfl | rfl
      · exact ⟨y * 12 + x, by omega, rfl⟩
      · refine ⟨y * 12 + x + 1, by omega, ?_⟩
        show iI ((y * 12 + x : Nat) : Int) + iI 1 = _
        rw [iI_add]; congr 1
      · refine ⟨y * 12 + x + 12 + 1, by omega, ?_⟩
        show iI ((y * 12 + x : Nat) : Int) + iI 12 + iI 1 = _
        rw [iI_add, iI_add]; congr 1
      · refine ⟨y * 12 + x + 12, by omega, ?_⟩
        show iI ((y * 12 + x : Nat) : Int) + iI 12 = _
        rw [iI_add]; congr 1))
    have s7 := r_tr s6 (r_fg [true, true, true, true, true, false, false, false, false, false, false, false])
    have s8 := d_tr (d_of s7) (d_drop (n := 44) (P := Wd xs L A V (mY t b (mj_NE + 33) f [zO o, zA])) (Z := [zC (upd (upd (upd (upd (fun _ => 0) 0 (iI ((y * 12 + x : Nat) : Int))) 1 (iI ((y * 12 + x : Nat) : Int) + iI 1)) 2 (iI ((y * 12 + x : Nat) : Int) + iI 12 + iI 1)) 3 (iI ((y * 12 + x : Nat) : Int) + iI 12)), zC (upd (upd (upd (upd (fun _ => 0) 0 (iI 2 * iI ((y * 12 + x : Nat) : Int))) 1 (iI 2 * (iI ((y * 12 + x : Nat) : Int) + iI 1) + iI 1)) 2 (iI 2 * (iI ((y * 12 + x : Nat) : Int) + iI 12))) 3 (iI 2 * iI ((y * 12 + x : Nat) : Int) + iI 1)), zA]) rfl rfl rfl rfl rfl)
    exact d_end s8 (by congr 4)
  have lpx : ∀ y : Nat, y < 11 → mj_Rd m_ML_pieces 364 1334 4 44 (0, [.ref (mj_NE + 33), .int (iI c), mj_u, mj_u, mj_u, mj_u, mj_u, mj_u, mj_u, mj_u, mj_u, mj_u], [], Wd xs L A V (mY t b (mj_NE + 33) f [zO o]), 0, 0) (23, [.ref (mj_NE + 33), .int (iI c), .ref (mj_NE + 36), .int (iI (y : Int)), .int (iI ((0 : Nat) : Int)), mj_u, mj_u, mj_u, mj_u, mj_u, mj_u, mj_u], [], Wd xs L A V (mY t b (mj_NE + 33) f [zO o, zA]), (1 + 3 * (11 * y + 0)), (3 + 11 * (11 * y + 0))) → ∀ x : Nat, x ≤ 11 → mj_Rd m_ML_pieces 364 1334 4 44 (0, [.ref (mj_NE + 33), .int (iI c), mj_u, mj_u, mj_u, mj_u, mj_u, mj_u, mj_u, mj_u, mj_u, mj_u], [], Wd xs L A V (mY t b (mj_NE + 33) f [zO o]), 0, 0) (23, [.ref (mj_NE + 33), .int (iI c), .ref (mj_NE + 36), .int (iI (y : Int)), .int (iI (x : Int)), mj_u, mj_u, mj_u, mj_u, mj_u, mj_u, mj_u], [], Wd xs L A V (mY t b (mj_NE + 33) f [zO o, zA]), (1 + 3 * (11 * y + x)), (3 + 11 * (11 * y + x))) := by
    intro y hy h0 x
    induction x with
    | zero => intro _; exact h0
    | succ x ih =>
      intro hx
      have s := sq y x hy (by omega)
      rw [iI_1] at s
      exact d_tr (ih (by omega)) s
  have lpy : ∀ y : Nat, y ≤ 11 → mj_Rd m_ML_pieces 364 1334 4 44 (0, [.ref (mj_NE + 33), .int (iI c), mj_u, mj_u, mj_u, mj_u, mj_u, mj_u, mj_u, mj_u, mj_u, mj_u], [], Wd xs L A V (mY t b (mj_NE + 33) f [zO o]), 0, 0) (10, [.ref (mj_NE + 33), .int (iI c), .ref (mj_NE + 36), .int (iI (y : Int)), mj_u, mj_u, mj_u, mj_u, mj_u, mj_u, mj_u, mj_u], [], Wd xs L A V (mY t b (mj_NE + 33) f [zO o, zA]), (1 + 3 * (11 * y)), (3 + 11 * (11 * y))) := by
    intro y
    induction y with
    | zero => intro _; exact d_of r3
    | succ y ih =>
      intro hy
      have s1 := d_rc (ih (by omega)) (r_to (g' := (23, [.ref (mj_NE + 33), .int (iI c), .ref (mj_NE + 36), .int (iI (y : Int)), .int (iI ((0 : Nat) : Int)), mj_u, mj_u, mj_u, mj_u, mj_u, mj_u, mj_u], [], Wd xs L A V (mY t b (mj_NE + 33) f [zO o, zA]), (1 + 3 * (11 * y + 0)), (3 + 11 * (11 * y + 0)))) ok_ML_pieces 23 [false] rfl ⟨by
        show ¬ (iI 12 ≤ iI (y : Int) + iI 1)
        rw [iI_add, iI_le ⟨by omega, by omega⟩ ⟨by omega, by omega⟩]
        omega, trivial⟩)
      have s2 := lpx y (by omega) s1 11 (Nat.le_refl _)
      have s3 := d_rc s2 (r_to (g' := (10, [.ref (mj_NE + 33), .int (iI c), .ref (mj_NE + 36), .int (iI (y : Int) + 1), .int (iI ((11 : Nat) : Int)), mj_u, mj_u, mj_u, mj_u, mj_u, mj_u, mj_u], [], Wd xs L A V (mY t b (mj_NE + 33) f [zO o, zA]), (1 + 3 * (11 * y + 11)), (3 + 11 * (11 * y + 11)))) ok_ML_pieces 10 [true] rfl ⟨by
        show iI 12 ≤ iI ((11 : Nat) : Int) + iI 1
        rw [iI_add, iI_le ⟨by omega, by omega⟩ ⟨by omega, by omega⟩]
        omega, trivial⟩)
      have s4 := d_rc s3 (r_fg [true, true, true, true, false, false, false, false, false, false, false, false])
      rw [iI_1] at s4
      exact s4
  have fin := d_rc (lpy 11 (Nat.le_refl _)) (r_to (g' := (356, [.ref (mj_NE + 33), .int (iI c), .ref (mj_NE + 36), .int (iI ((11 : Nat) : Int)), mj_u, mj_u, mj_u, mj_u, mj_u, mj_u, mj_u, mj_u], [.ref (mj_NE + 36)], Wd xs L A V (mY t b (mj_NE + 33) f [zO o, zA]), (1 + 3 * (11 * 11)), (3 + 11 * (11 * 11)))) ok_ML_pieces 9999 [true] rfl ⟨by
    show iI 12 ≤ iI ((11 : Nat) : Int) + iI 1
    rw [iI_add, iI_le ⟨by omega, by omega⟩ ⟨by omega, by omega⟩]
    omega, trivial⟩)
  exact ct_d ok_ML_pieces rfl fin rfl rfl rfl rfl rfl
end REF17
