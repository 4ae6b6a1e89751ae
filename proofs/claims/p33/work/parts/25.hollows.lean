/-! Hollows where there is no LAKE; a flat land with one FIELD of another HEIGHT has none -/
theorem lv_row {w h M : Int} {n : Nat} {H lev : Nat → Int} (hw : 2 ≤ w ∧ w ≤ 16) (hh : 2 ≤ h ∧ h ≤ 16) (hnw : (n : Int) = w * h) (hL : LvOK w h n H lev) {y : Int} (hy : 0 ≤ y ∧ y < h) : ∀ x : Nat, (x : Int) < w → (∀ z : Nat, z ≤ x → H (y * w + z).toNat ≤ M) → lev (y * w + x).toNat ≤ M := by
  intro x
  induction x with
  | zero =>
    intro hx hM
    have hb := num_bd (x := 0) hw hh ⟨by omega, by omega⟩ hy
    have e : (((y * w + ((0 : Nat) : Int)).toNat : Nat) : Int) = y * w + 0 := by omega
    have hxy := num_xy (w := w) (x := 0) (y := y) (by omega) ⟨by omega, by omega⟩
    have e4 : nbi w h (y * w + ((0 : Nat) : Int)).toNat 4 < 0 := by
      unfold nbi nb
      rw [e, hxy.1, hxy.2, if_neg (by simp [sxI])]
      omega
    rw [hL.2.1 _ (by omega) (by unfold edgeB; rw [decide_eq_true e4]; simp)]
    exact hM 0 (Nat.le_refl _)
  | succ x ih =>
    intro hx hM
    have hp := ih (by omega) (fun z hz => hM z (by omega))
    have hb := num_bd (x := (x : Int)) hw hh ⟨by omega, by omega⟩ hy
    have e : (((y * w + (x : Int)).toNat : Nat) : Int) = y * w + x := by omega
    have hxy := num_xy (w := w) (x := (x : Int)) (y := y) (by omega) ⟨by omega, by omega⟩
    have e0 : nbi w h (y * w + (x : Int)).toNat 0 = y * w + ((x + 1 : Nat) : Int) := by
      unfold nbi nb
      rw [e, hxy.1, hxy.2, if_pos (by simp [sxI, syI]; omega)]
      simp [sxI, syI]
    have := hL.2.2 _ (show (y * w + (x : Int)).toNat < n by omega) 0 (by omega) rfl (by rw [e0]; omega)
    rw [e0] at this
    have := hM (x + 1) (Nat.le_refl _)
    omega
theorem lv_rowR {w h M : Int} {n : Nat} {H lev : Nat → Int} (hw : 2 ≤ w ∧ w ≤ 16) (hh : 2 ≤ h ∧ h ≤ 16) (hnw : (n : Int) = w * h) (hL : LvOK w h n H lev) {y : Int} (hy : 0 ≤ y ∧ y < h) : ∀ x : Nat, (x : Int) < w → (∀ z : Nat, z ≤ x → H (y * w + (w - 1 - z)).toNat ≤ M) → lev (y * w + (w - 1 - x)).toNat ≤ M := by
  intro x
  induction x with
  | zero =>
    intro hx hM
    have hb := num_bd (x := w - 1) hw hh ⟨by omega, by omega⟩ hy
    have e : (((y * w + (w - 1 - ((0 : Nat) : Int))).toNat : Nat) : Int) = y * w + (w - 1) := by omega
    have hxy := num_xy (w := w) (x := w - 1) (y := y) (by omega) ⟨by omega, by omega⟩
    have e4 : nbi w h (y * w + (w - 1 - ((0 : Nat) : Int))).toNat 0 < 0 := by
      unfold nbi nb
      rw [e, hxy.1, hxy.2, if_neg (by simp [sxI])]
      omega
    rw [hL.2.1 _ (by omega) (by unfold edgeB; rw [decide_eq_true e4]; simp)]
    exact hM 0 (Nat.le_refl _)
  | succ x ih =>
    intro hx hM
    have hp := ih (by omega) (fun z hz => hM z (by omega))
    have hb := num_bd (x := w - 1 - (x : Int)) hw hh ⟨by omega, by omega⟩ hy
    have hyw : 0 ≤ y * w := Int.mul_nonneg hy.1 (by omega)
    have e : (((y * w + (w - 1 - (x : Int))).toNat : Nat) : Int) = y * w + (w - 1 - x) := by omega
    have hxy := num_xy (w := w) (x := w - 1 - (x : Int)) (y := y) (by omega) ⟨by omega, by omega⟩
    have e0 : nbi w h (y * w + (w - 1 - (x : Int))).toNat 4 = y * w + (w - 1 - ((x + 1 : Nat) : Int)) := by
      unfold nbi nb
      rw [e, hxy.1, hxy.2, if_pos (by simp [sxI, syI]; omega)]
      simp [sxI, syI]
      omega
    have := hL.2.2 _ (show (y * w + (w - 1 - (x : Int))).toNat < n by omega) 4 (by omega) rfl (by rw [e0]; omega)
    rw [e0] at this
    have := hM (x + 1) (Nat.le_refl _)
    omega
/-- one FIELD f of the HEIGHT z in a flat land -/
def oneH (f : Nat) (z : Int) : Nat → Int := supI (fun _ => 0) f z
theorem oneH_eq {f : Nat} {z : Int} : oneH f z f = z := supI_eq
theorem oneH_ne {f j : Nat} {z : Int} (h : j ≠ f) : oneH f z j = 0 := supI_ne h
theorem lv_one {w h z : Int} {n f : Nat} {lev : Nat → Int} (hw : 2 ≤ w ∧ w ≤ 16) (hh : 2 ≤ h ∧ h ≤ 16) (hnw : (n : Int) = w * h) (hf : f < n) (hz : 0 ≤ z) (hL : LvOK w h n (oneH f z) lev) : ∀ v, v < n → lev v = oneH f z v := by
  intro v hv
  obtain ⟨l1, -, -⟩ := hL.1 v hv
  have vx := i_xy (i := v) hw hh (by omega)
  have fx := i_xy (i := f) hw hh (by omega)
  have hle : ∀ j, oneH f z j ≤ z := fun j => by
    by_cases e : j = f
    · rw [e, oneH_eq]; exact Int.le_refl _
    · rw [oneH_ne e]; exact hz
  have ev : ((v : Int) / w * w + (((v : Int) % w).toNat : Int)).toNat = v := by omega
  by_cases e : v = f
  · have := lv_row (M := z) hw hh hnw hL (y := (v : Int) / w) ⟨by omega, by omega⟩ ((v : Int) % w).toNat (by omega) (fun j _ => hle _)
    rw [ev] at this
    rw [e, oneH_eq] at l1
    rw [e, oneH_eq]
    rw [e] at this
    omega
  · rw [oneH_ne e] at l1
    rw [oneH_ne e]
    by_cases c : (v : Int) / w = (f : Int) / w ∧ (f : Int) % w < (v : Int) % w
    · have := lv_rowR (M := 0) hw hh hnw hL (y := (v : Int) / w) ⟨by omega, by omega⟩ (w - 1 - (v : Int) % w).toNat (by omega) (fun j hj => by
        rw [oneH_ne (fun q => ?_)]
        · exact Int.le_refl _
        · have hb := num_bd (x := w - 1 - (j : Int)) (y := (v : Int) / w) hw hh ⟨by omega, by omega⟩ ⟨by omega, by omega⟩
          rw [c.1] at q hb
          omega)
      have e2 : ((v : Int) / w * w + (w - 1 - ((w - 1 - (v : Int) % w).toNat : Int))).toNat = v := by omega
      rw [e2] at this
      omega
    · have := lv_row (M := 0) hw hh hnw hL (y := (v : Int) / w) ⟨by omega, by omega⟩ ((v : Int) % w).toNat (by omega) (fun j hj => by
        rw [oneH_ne (fun q => ?_)]
        · exact Int.le_refl _
        · have hb := num_bd (x := (j : Int)) (y := (v : Int) / w) hw hh ⟨by omega, by omega⟩ ⟨by omega, by omega⟩
          have hxy := num_xy (w := w) (x := (j : Int)) (y := (v : Int) / w) (by omega) ⟨by omega, by omega⟩
          rw [show (v : Int) / w * w + (j : Int) = f by omega] at hxy
          have h3 : ¬ ((v : Int) % w = (f : Int) % w) := fun q3 => by
            apply e
            have : (v : Int) = f := by rw [← vx.2.2.2.2.1, ← fx.2.2.2.2.1, q3, hxy.2]
            omega
          apply c
          exact ⟨hxy.2.symm, by omega⟩)
      rw [ev] at this
      omega
section HOL
variable {xs : Nat → Int32} {L : Nat} {A : Nat → Nat → Int32} {V : Nat → Int32} {Y : mj_H}
variable {w h : Int} {n : Nat} {H lev : Nat → Int}
/-- the LEVELS where there is no LAKE -/
theorem c_find0 (hV : V 2 = iI n) (hw : 2 ≤ w ∧ w ≤ 16) (hh : 2 ≤ h ∧ h ≤ 16) (hnw : (n : Int) = w * h) (hN : nbOK w h (A 2) n) (hH : Hts (A 0) n H) (hno : ∀ lev, LvOK w h n H lev → ∀ j, j < n → lev j = H j) : ∃ (A1 : Nat → Nat → Int32) (V1 : Nat → Int32), (∀ j, j < n → A1 13 j = iI (H j)) ∧ (∀ k, k ≠ 13 → k ≠ 14 → k ≠ 15 → A1 k = A k) ∧ (∀ k, k ≠ 4 → k ≠ 5 → V1 k = V k) ∧ V1 4 = iI 0 ∧ mj_Ct m_Hollows_find [.ref (mj_NE + 16)] (Wd xs L A V Y) none (Wd xs L A1 V1 Y) 0 0 4 := by
  have wh := wh_bd hw hh
  obtain ⟨A1, V1, lev, hL, g1, g2, g3, hct⟩ := c_findLevels (xs := xs) (L := L) (Y := Y) hV hw hh hnw hN hH
  have hlev := hno lev hL
  refine ⟨wA A1 15 (pw (fun j => iI j) (A1 15) 512), wV V1 4 (iI 0), fun j hj => by rw [wA_n (by omega), g1 j hj, hlev j hj], fun k k1 k2 k3 => by rw [wA_n k3, g2 k k1 k2], fun k k1 k2 => by rw [wV_n k1, g3 k k2], wV_s, ?_⟩
  have r0 := r_tr (r_to (RC := 0) (RS := 0) (dd := 4) (g := (0, [.ref (mj_NE + 16), mj_u], [], Wd xs L A V Y, 0, 0)) (g' := (1, [.ref (mj_NE + 16), mj_u], [.ref (mj_NE + 16)], Wd xs L A V Y, 0, 0)) ok_Hollows_find 9999 [] rfl trivial) (q_V ok_Hollows_find ok_Hollows_findLevels se_Hollows_findLevels (hct) rfl rfl rfl rfl rfl ⟨rfl, rfl, rfl⟩)
  have r1 := r_tr (r_tr r0 (r_to (g' := (8, [.ref (mj_NE + 16), mj_u], [.ref (mj_NE + 20)], Wd xs L A1 V1 Y, 0, 0)) ok_Hollows_find 9999 [] rfl trivial)) (q_V ok_Hollows_find ok_Groups_part se_Groups_part (c_partH) rfl rfl rfl rfl rfl ⟨rfl, rfl, rfl⟩)
  generalize hA2 : wA A1 15 (pw (fun j => iI j) (A1 15) 512) = A2 at r1
  have r2 := r_tr r1 (r_to (g' := (18, [.ref (mj_NE + 16), .int (iI 0)], [], Wd xs L A2 (wV V1 4 (iI 0)) Y, 0, 0)) ok_Hollows_find 18 [] rfl trivial)
  have hV2 : (wV V1 4 (iI 0)) 2 = iI n := by rw [wV_n (by omega), g3 2 (by omega)]; exact hV
  generalize wV V1 4 (iI 0) = V2 at r2 hV2
  have lp : ∀ k : Nat, k ≤ n → mj_Rc m_Hollows_find 0 0 4 (0, [.ref (mj_NE + 16), mj_u], [], Wd xs L A V Y, 0, 0) (18, [.ref (mj_NE + 16), .int (iI k)], [], Wd xs L A2 V2 Y, 0, 0) := by
    intro k
    induction k with
    | zero => intro _; exact r2
    | succ k ih =>
      intro hk
      obtain ⟨e0, b1, b2⟩ := hH k (by omega)
      have e13 : A2 13 k = iI (H k) := by rw [← hA2, wA_n (by omega), g1 k (by omega), hlev k (by omega)]
      have e00 : A2 0 k = iI (H k) := by rw [← hA2, wA_n (by omega), g2 0 (by omega) (by omega), e0]
      have t1 := r_tr (ih (by omega)) (r_to (g' := (31, [.ref (mj_NE + 16), .int (iI k)], [.int (iI k), .ref (mj_NE + 16)], Wd xs L A2 V2 Y, 0, 0)) ok_Hollows_find 9999 [false] rfl ⟨br_ge hV2 ⟨by omega, by omega⟩ ⟨by omega, by omega⟩ (by omega), trivial⟩)
      have t2 := r_tr t1 (q_V ok_Hollows_find ok_Hollows_inLake se_Hollows_inLake (c_inLake (by omega) e13 e00 ⟨by omega, by omega, by omega, by omega⟩) rfl rfl rfl rfl rfl ⟨rfl, rfl, rfl⟩)
      rw [decide_eq_false (Int.lt_irrefl _)] at t2
      have t3 := r_tr t2 (r_to (g' := (18, [.ref (mj_NE + 16), .int (iI k + 1)], [], Wd xs L A2 V2 Y, 0, 0)) ok_Hollows_find 18 [true] rfl ⟨by show ((0 : Int32) = 0); rfl, trivial⟩)
      rw [iI_1] at t3
      exact t3
  exact ct_of ok_Hollows_find rfl (r_tr (lp n (Nat.le_refl _)) (r_to ok_Hollows_find 9999 [true] rfl ⟨br_lt hV2 ⟨by omega, by omega⟩ ⟨by omega, by omega⟩ (by omega), trivial⟩)) rfl rfl rfl rfl rfl
theorem c_content (hV : V 2 = iI n) (hn : n ≤ 256) (h1 : ∀ j, j < n → A 13 j = iI (lev j)) (h2 : ∀ j, j < n → A 0 j = iI (H j)) : mj_Ct m_Hollows_content [.ref (mj_NE + 16)] (Wd xs L A V Y) (some (.int (iI (smH (fun j => lev j - H j) n)))) (Wd xs L A V Y) 0 0 1 := by
  have lp : ∀ k : Nat, k ≤ n → mj_Rc m_Hollows_content 0 0 1 (4, [.ref (mj_NE + 16), .int 0, .int 0], [], Wd xs L A V Y, 0, 0) (4, [.ref (mj_NE + 16), .int (iI (smH (fun j => lev j - H j) k)), .int (iI k)], [], Wd xs L A V Y, 0, 0) := by
    intro k
    induction k with
    | zero => intro _; exact r_rf
    | succ k ih =>
      intro hk
      have t1 := r_tr (ih (by omega)) (r_to (g' := (18, [.ref (mj_NE + 16), .int (iI (smH (fun j => lev j - H j) k)), .int (iI k)], [.int (iI k), .ref (mj_NE + 16), .int (iI (smH (fun j => lev j - H j) k))], Wd xs L A V Y, 0, 0)) ok_Hollows_content 9999 [false] rfl ⟨br_ge hV ⟨by omega, by omega⟩ ⟨by omega, by omega⟩ (by omega), trivial⟩)
      have t2 := r_tr t1 (q_V ok_Hollows_content ok_Hollows_depth se_Hollows_depth (c_depth (by omega) (h1 k (by omega)) (h2 k (by omega))) rfl rfl rfl rfl rfl ⟨rfl, rfl, rfl⟩)
      have t3 := r_tr t2 (r_to (g' := (4, [.ref (mj_NE + 16), .int (iI (smH (fun j => lev j - H j) k) + iI (lev k - H k)), .int (iI k + 1)], [], Wd xs L A V Y, 0, 0)) ok_Hollows_content 4 [] rfl trivial)
      rw [iI_1, iI_add] at t3
      exact t3
  exact ct_of ok_Hollows_content rfl (r_tr (r_to ok_Hollows_content 4 [] rfl trivial) (r_tr (lp n (Nat.le_refl _)) (r_to ok_Hollows_content 9999 [true] rfl ⟨br_lt hV ⟨by omega, by omega⟩ ⟨by omega, by omega⟩ (by omega), trivial⟩))) rfl rfl rfl rfl rfl
theorem smH_z {f : Nat → Int} : ∀ n : Nat, (∀ j, j < n → f j = 0) → smH f n = 0 := by
  intro n
  induction n with
  | zero => intro _; rfl
  | succ n ih => intro hq; unfold smH; rw [ih (fun j hj => hq j (by omega)), hq n (by omega)]; rfl
theorem c_inOneLake0 {i j : Nat} {g : Int} (hi : i < 256) (h1 : A 13 i = iI g) (h2 : A 0 i = iI g) (hg : 0 ≤ g ∧ g ≤ 999) : mj_Ct m_Hollows_inOneLake [.ref (mj_NE + 16), .int (iI i), .int (iI j)] (Wd xs L A V Y) (some (.int (bI false))) (Wd xs L A V Y) 0 0 2 := by
  have t1 := r_to (RC := 0) (RS := 0) (dd := 2) (g := (0, [.ref (mj_NE + 16), .int (iI i), .int (iI j)], [], Wd xs L A V Y, 0, 0)) (g' := (2, [.ref (mj_NE + 16), .int (iI i), .int (iI j)], [.int (iI i), .ref (mj_NE + 16)], Wd xs L A V Y, 0, 0)) ok_Hollows_inOneLake 9999 [] rfl trivial
  have t2 := r_tr t1 (q_V ok_Hollows_inOneLake ok_Hollows_inLake se_Hollows_inLake (c_inLake hi h1 h2 ⟨by omega, by omega, by omega, by omega⟩) rfl rfl rfl rfl rfl ⟨rfl, rfl, rfl⟩)
  rw [decide_eq_false (Int.lt_irrefl _)] at t2
  exact ct_of ok_Hollows_inOneLake rfl (r_tr t2 (r_to ok_Hollows_inOneLake 9999 [true] rfl ⟨by show ((0 : Int32) = 0); rfl, trivial⟩)) rfl rfl ⟨rfl, bI_nar _⟩ rfl rfl
theorem c_sizeOfLake0 {i : Nat} {g : Int} (hV : V 2 = iI n) (hn : n ≤ 256) (hi : i < 256) (h1 : A 13 i = iI g) (h2 : A 0 i = iI g) (hg : 0 ≤ g ∧ g ≤ 999) : mj_Ct m_Hollows_sizeOfLake [.ref (mj_NE + 16), .int (iI i)] (Wd xs L A V Y) (some (.int (iI 0))) (Wd xs L A V Y) 0 0 3 := by
  have lp : ∀ k : Nat, k ≤ n → mj_Rc m_Hollows_sizeOfLake 0 0 3 (4, [.ref (mj_NE + 16), .int (iI i), .int 0, .int 0], [], Wd xs L A V Y, 0, 0) (4, [.ref (mj_NE + 16), .int (iI i), .int (iI 0), .int (iI k)], [], Wd xs L A V Y, 0, 0) := by
    intro k
    induction k with
    | zero => intro _; exact r_rf
    | succ k ih =>
      intro hk
      have t1 := r_tr (ih (by omega)) (r_to (g' := (19, [.ref (mj_NE + 16), .int (iI i), .int (iI 0), .int (iI k)], [.int (iI k), .int (iI i), .ref (mj_NE + 16), .int (iI 0)], Wd xs L A V Y, 0, 0)) ok_Hollows_sizeOfLake 9999 [false] rfl ⟨br_ge hV ⟨by omega, by omega⟩ ⟨by omega, by omega⟩ (by omega), trivial⟩)
      have t2 := r_tr t1 (q_V ok_Hollows_sizeOfLake ok_Hollows_inOneLake se_Hollows_inOneLake (c_inOneLake0 hi h1 h2 hg) rfl rfl rfl rfl rfl ⟨rfl, rfl, rfl⟩)
      have t3 := r_tr t2 (r_to (g' := (4, [.ref (mj_NE + 16), .int (iI i), .int (iI 0 + iI 0), .int (iI k + 1)], [], Wd xs L A V Y, 0, 0)) ok_Hollows_sizeOfLake 4 [true] rfl ⟨by show ((0 : Int32) = 0); rfl, trivial⟩)
      rw [iI_1, iI_add] at t3
      exact t3
  exact ct_of ok_Hollows_sizeOfLake rfl (r_tr (r_to ok_Hollows_sizeOfLake 4 [] rfl trivial) (r_tr (lp n (Nat.le_refl _)) (r_to ok_Hollows_sizeOfLake 9999 [true] rfl ⟨br_lt hV ⟨by omega, by omega⟩ ⟨by omega, by omega⟩ (by omega), trivial⟩))) rfl rfl rfl rfl rfl
theorem c_contentOfLake0 {i : Nat} {g : Int} (hV : V 2 = iI n) (hn : n ≤ 256) (hi : i < 256) (h1 : A 13 i = iI g) (h2 : A 0 i = iI g) (hg : 0 ≤ g ∧ g ≤ 999) : mj_Ct m_Hollows_contentOfLake [.ref (mj_NE + 16), .int (iI i)] (Wd xs L A V Y) (some (.int (iI 0))) (Wd xs L A V Y) 0 0 3 := by
  have lp : ∀ k : Nat, k ≤ n → mj_Rc m_Hollows_contentOfLake 0 0 3 (4, [.ref (mj_NE + 16), .int (iI i), .int 0, .int 0], [], Wd xs L A V Y, 0, 0) (4, [.ref (mj_NE + 16), .int (iI i), .int (iI 0), .int (iI k)], [], Wd xs L A V Y, 0, 0) := by
    intro k
    induction k with
    | zero => intro _; exact r_rf
    | succ k ih =>
      intro hk
      have t1 := r_tr (ih (by omega)) (r_to (g' := (19, [.ref (mj_NE + 16), .int (iI i), .int (iI 0), .int (iI k)], [.int (iI k), .int (iI i), .ref (mj_NE + 16), .int (iI 0)], Wd xs L A V Y, 0, 0)) ok_Hollows_contentOfLake 9999 [false] rfl ⟨br_ge hV ⟨by omega, by omega⟩ ⟨by omega, by omega⟩ (by omega), trivial⟩)
      have t2 := r_tr t1 (q_V ok_Hollows_contentOfLake ok_Hollows_inOneLake se_Hollows_inOneLake (c_inOneLake0 hi h1 h2 hg) rfl rfl rfl rfl rfl ⟨rfl, rfl, rfl⟩)
      have t3 := r_tr t2 (r_to (g' := (4, [.ref (mj_NE + 16), .int (iI i), .int (iI 0 + iI 0), .int (iI k + 1)], [], Wd xs L A V Y, 0, 0)) ok_Hollows_contentOfLake 4 [true] rfl ⟨by show ((0 : Int32) = 0); rfl, trivial⟩)
      rw [iI_1, iI_add] at t3
      exact t3
  exact ct_of ok_Hollows_contentOfLake rfl (r_tr (r_to ok_Hollows_contentOfLake 4 [] rfl trivial) (r_tr (lp n (Nat.le_refl _)) (r_to ok_Hollows_contentOfLake 9999 [true] rfl ⟨br_lt hV ⟨by omega, by omega⟩ ⟨by omega, by omega⟩ (by omega), trivial⟩))) rfl rfl rfl rfl rfl
end HOL
