/-! CALLS AS THE LAW MAKES THEM: the world is told by its land alone -/
theorem chD_lo {w h : Int} {H : Nat → Int} {i : Nat} : ∀ d : Nat, d ≤ 8 → (chD w h H i d).2.1 < 8 → 0 ≤ (chD w h H i d).2.2 := by
  intro d
  induction d with
  | zero =>
    intro _ h8
    have h8 : (if edgeB w h i = true then (8 : Int) else 9) < 8 := h8
    split at h8 <;> omega
  | succ d ih =>
    intro hd h8
    have e : chD w h H i (d + 1) = if nbi w h i d < 0 then chD w h H i d else if (chD w h H i d).1 < (H i - H (nbi w h i d).toNat) * (if d % 2 = 1 then 7 else 10) then ((H i - H (nbi w h i d).toNat) * (if d % 2 = 1 then 7 else 10), (d : Int), nbi w h i d) else chD w h H i d := rfl
    rw [e] at h8 ⊢
    by_cases q : nbi w h i d < 0
    · rw [if_pos q] at h8 ⊢
      exact ih (by omega) h8
    · rw [if_neg q] at h8 ⊢
      by_cases r : (chD w h H i d).1 < (H i - H (nbi w h i d).toNat) * (if d % 2 = 1 then 7 else 10)
      · rw [if_pos r]
        show 0 ≤ nbi w h i d
        omega
      · rw [if_neg r] at h8 ⊢
        exact ih (by omega) h8
/-- water goes on from a FIELD just where its DIRECTION is one of the eight -/
theorem dr_nx {w h : Int} {H : Nat → Int} {i : Nat} : (8 ≤ drF w h H i ↔ nxF w h H i < 0) ∧ (8 ≤ drF w h H i → drF w h H i = if edgeB w h i = true then 8 else 9) := by
  have h1 := chD_hi (w := w) (h := h) (H := H) (i := i) 8 (Nat.le_refl _)
  have h2 := chD_lo (w := w) (h := h) (H := H) (i := i) 8 (Nat.le_refl _)
  unfold drF nxF
  refine ⟨⟨fun q => by rw [(h1 q).2]; decide, fun q => ?_⟩, fun q => (h1 q).1⟩
  rcases Int.lt_or_le (chD w h H i 8).2.1 8 with z | z
  · have := h2 z
    omega
  · exact z
theorem coF_le {K : Nat} {lk : Nat → Bool} {dp : Nat → Int} {f : Nat → Nat} {m N : Nat} (h : ∀ j, j < N → 0 ≤ dp j ∧ dp j ≤ 999) : ∀ i : Nat, i ≤ N → (coF K lk dp f m i).1 ≤ 999 * (i : Int) := by
  intro i
  induction i with
  | zero => intro _; show (0 : Int) ≤ 999 * ((0 : Nat) : Int); omega
  | succ i ih =>
    intro hi
    have h1 := ih (by omega)
    have h2 := h i (by omega)
    show (coF K lk dp f m i).1 + (if (olF K lk (coF K lk dp f m i).2 m i).1 = true then dp i else 0) ≤ 999 * ((i + 1 : Nat) : Int)
    split <;> omega
theorem supI_self {f : Nat → Int} {j : Nat} : supI f j (f j) = f := by
  funext i
  unfold supI
  split
  · rename_i e; rw [e]
  · rfl
theorem mnH_le {H : Nat → Int} : ∀ n j : Nat, j < n → mnH H n ≤ H j := by
  intro n
  induction n with
  | zero => intro j hj; omega
  | succ n ih =>
    intro j hj
    have e : mnH H (n + 1) = min (mnH H n) (H n) := rfl
    by_cases q : j = n
    · subst q; omega
    · have := ih j (by omega)
      omega
theorem mxH_ge {H : Nat → Int} : ∀ n j : Nat, j < n → H j ≤ mxH H n := by
  intro n
  induction n with
  | zero => intro j hj; omega
  | succ n ih =>
    intro j hj
    have e : mxH H (n + 1) = max (mxH H n) (H n) := rfl
    by_cases q : j = n
    · subst q; omega
    · have := ih j (by omega)
      omega
theorem adH_sm {G H : Nat → Int} : ∀ n : Nat, adH G H n = smH (fun j => G j - H j) n := by
  intro n
  induction n with
  | zero => rfl
  | succ n ih =>
    show adH G H n + (G n - H n) = smH (fun j => G j - H j) n + (G n - H n)
    rw [ih]
/-- the class's cells, and the land that they tell -/
def Wst (xs : Nat → Int32) (L : Nat) (w h : Int) (n : Nat) (H : Nat → Int) (b : Int) (hp : mj_H) : Prop := ∃ (A : Nat → Nat → Int32) (V : Nat → Int32), hp = Wd xs L A V [] ∧ LdOK w h n H A V ∧ V 10 = iI b
section LCALL
variable {xs : Nat → Int32} {L : Nat} {w h : Int} {n : Nat} {H : Nat → Int} {b : Int} {hp : mj_H}
theorem Wst.ld (hW : Wst xs L w h n H b hp) : (n : Int) = w * h ∧ (2 ≤ w ∧ w ≤ 16) ∧ (2 ≤ h ∧ h ≤ 16) ∧ (∀ j, j < n → 0 ≤ H j ∧ H j ≤ 999) := by
  obtain ⟨A, V, rfl, ⟨-, -, -, hnw, hw, hh, -, hH⟩, hbr⟩ := hW
  exact ⟨hnw, hw, hh, fun j hj => (hH j hj).2⟩
theorem l_height {x y : Int} (hx : 0 ≤ x ∧ x < w) (hy : 0 ≤ y ∧ y < h) (hW : Wst xs L w h n H b hp) : ∃ hp', Wst xs L w h n H b hp' ∧ mj_Ct m_W_height [.ref (mj_NE + 0), .int (iI x), .int (iI y)] hp (some (.int (iI (H (y * w + x).toNat)))) hp' 0 0 6 := by
  obtain ⟨A, V, rfl, hL, hbr⟩ := hW
  exact ⟨_, ⟨A, V, rfl, hL, hbr⟩, f_height hx hy hL⟩
theorem l_map {k : Int} (hk : 0 ≤ k ∧ k ≤ 4) (hW : Wst xs L w h n H b hp) : ∃ hp', Wst xs L w h n H b hp' ∧ mj_Ct m_W_map [.ref (mj_NE + 0), .int (iI k)] hp (some (.int (iI (toldH w h H n k)))) hp' 0 0 6 := by
  obtain ⟨A, V, rfl, hL, hbr⟩ := hW
  exact ⟨_, ⟨A, V, rfl, hL, hbr⟩, f_map hk hL⟩
theorem l_sees {x y : Int} (hx : 0 ≤ x ∧ x < w) (hy : 0 ≤ y ∧ y < h) (hW : Wst xs L w h n H b hp) : ∃ hp', Wst xs L w h n H b hp' ∧ mj_Ct m_W_sees [.ref (mj_NE + 0), .int (iI x), .int (iI y), .int (iI 500), .int (iI x), .int (iI y)] hp (some (.int (iI 1))) hp' 0 0 6 := by
  obtain ⟨A, V, rfl, hL, hbr⟩ := hW
  have := f_sees (xs := xs) (L := L) (Y := []) (u := 500) hx hy hx hy ⟨by omega, by omega⟩ hL
  rw [seeB_self] at this
  exact ⟨_, ⟨A, V, rfl, hL, hbr⟩, this⟩
theorem l_seen {x y u : Int} (hx : 0 ≤ x ∧ x < w) (hy : 0 ≤ y ∧ y < h) (hu : 0 ≤ u ∧ u ≤ 500) (hW : Wst xs L w h n H b hp) : ∃ hp', Wst xs L w h n H b hp' ∧ mj_Ct m_W_seen [.ref (mj_NE + 0), .int (iI x), .int (iI y), .int (iI u)] hp (some (.int (iI (cnt (fun j => seeB w H x y u ((j : Int) % w) ((j : Int) / w)) n)))) hp' 0 0 6 := by
  obtain ⟨A, V, rfl, hL, hbr⟩ := hW
  exact ⟨_, ⟨A, V, rfl, hL, hbr⟩, f_seen hx hy hu hL⟩
theorem l_lookout {y u : Int} (hy : 0 ≤ y ∧ y < h) (hu : 0 ≤ u ∧ u ≤ 500) (hW : Wst xs L w h n H b hp) : ∃ hp', Wst xs L w h n H b hp' ∧ mj_Ct m_W_lookout [.ref (mj_NE + 0), .int (iI y), .int (iI u)] hp (some (.int (iI (lkF w n H y u w.toNat).1))) hp' 0 0 6 := by
  obtain ⟨A, V, rfl, hL, hbr⟩ := hW
  exact ⟨_, ⟨A, V, rfl, hL, hbr⟩, f_lookout hy hu hL⟩
theorem l_water0 (hb : 1 ≤ b ∧ b ≤ 100) {x y : Int} (hx : 0 ≤ x ∧ x < w) (hy : 0 ≤ y ∧ y < h) (hW : Wst xs L w h n H b hp) : ∃ hp', Wst xs L w h n H b hp' ∧ mj_Ct m_W_water [.ref (mj_NE + 0), .int (iI x), .int (iI y), .int (iI 0)] hp (some (.int (iI (drF w h H (y * w + x).toNat)))) hp' 0 0 6 := by
  obtain ⟨hnw, hw, hh, hH2⟩ := hW.ld
  obtain ⟨q1, q2, q3⟩ := nx_ok (w := w) (h := h) (H := H) hw hh hnw hH2
  have nbj := num_bd hw hh hx hy
  have hj : (y * w + x).toNat < n := by omega
  obtain ⟨A, V, rfl, hL, hbr⟩ := hW
  obtain ⟨A1, V1, hR, ka, kv, hct⟩ := x_water0 (xs := xs) (L := L) (Y := []) hbr hb hx hy hL
  rw [(hR.2.1 _ hj).1] at hct
  exact ⟨_, ⟨A1, V1, rfl, hL.keep (ka 0 (by omega)) (ka 2 (by omega)) (kv 0 (by omega)) (kv 1 (by omega)) (kv 2 (by omega)), by rw [kv 10 (by omega)]; exact hbr⟩, hct⟩
theorem l_water1 (hb : 1 ≤ b ∧ b ≤ 100) {x y : Int} (hx : 0 ≤ x ∧ x < w) (hy : 0 ≤ y ∧ y < h) (hW : Wst xs L w h n H b hp) : ∃ hp', Wst xs L w h n H b hp' ∧ mj_Ct m_W_water [.ref (mj_NE + 0), .int (iI x), .int (iI y), .int (iI 1)] hp (some (.int (iI ((pdK b (nxF w h H) (odF w h n H) n).1 (y * w + x).toNat)))) hp' 0 0 6 := by
  obtain ⟨hnw, hw, hh, hH2⟩ := hW.ld
  obtain ⟨q1, q2, q3⟩ := nx_ok (w := w) (h := h) (H := H) hw hh hnw hH2
  have nbj := num_bd hw hh hx hy
  have hj : (y * w + x).toNat < n := by omega
  obtain ⟨A, V, rfl, hL, hbr⟩ := hW
  obtain ⟨A1, V1, hR, ka, kv, hct⟩ := x_water1 (xs := xs) (L := L) (Y := []) hbr hb hx hy hL
  rw [(hR.2.2.1 _ hj).1] at hct
  exact ⟨_, ⟨A1, V1, rfl, hL.keep (ka 0 (by omega)) (ka 2 (by omega)) (kv 0 (by omega)) (kv 1 (by omega)) (kv 2 (by omega)), by rw [kv 10 (by omega)]; exact hbr⟩, hct⟩
theorem l_water2 (hb : 1 ≤ b ∧ b ≤ 100) {x y : Int} (hx : 0 ≤ x ∧ x < w) (hy : 0 ≤ y ∧ y < h) (hW : Wst xs L w h n H b hp) : ∃ hp', Wst xs L w h n H b hp' ∧ mj_Ct m_W_water [.ref (mj_NE + 0), .int (iI x), .int (iI y), .int (iI 2)] hp (some (.int (iI ((enF (nxF w h H) n (y * w + x).toNat : Int))))) hp' 0 0 6 := by
  obtain ⟨hnw, hw, hh, hH2⟩ := hW.ld
  obtain ⟨q1, q2, q3⟩ := nx_ok (w := w) (h := h) (H := H) hw hh hnw hH2
  have nbj := num_bd hw hh hx hy
  have hj : (y * w + x).toNat < n := by omega
  obtain ⟨A, V, rfl, hL, hbr⟩ := hW
  obtain ⟨A1, V1, hR, ka, kv, hct⟩ := x_water2 (xs := xs) (L := L) (Y := []) hbr hb hx hy hL
  rw [(run_en hR q1 q2 hj).1] at hct
  exact ⟨_, ⟨A1, V1, rfl, hL.keep (ka 0 (by omega)) (ka 2 (by omega)) (kv 0 (by omega)) (kv 1 (by omega)) (kv 2 (by omega)), by rw [kv 10 (by omega)]; exact hbr⟩, hct⟩
theorem l_water3 (hb : 1 ≤ b ∧ b ≤ 100) {x y : Int} (hx : 0 ≤ x ∧ x < w) (hy : 0 ≤ y ∧ y < h) (hW : Wst xs L w h n H b hp) : ∃ hp', Wst xs L w h n H b hp' ∧ mj_Ct m_W_water [.ref (mj_NE + 0), .int (iI x), .int (iI y), .int (iI 3)] hp (some (.int (iI ((pdK b (nxF w h H) (odF w h n H) n).2.1 (y * w + x).toNat)))) hp' 0 0 6 := by
  obtain ⟨hnw, hw, hh, hH2⟩ := hW.ld
  obtain ⟨q1, q2, q3⟩ := nx_ok (w := w) (h := h) (H := H) hw hh hnw hH2
  have nbj := num_bd hw hh hx hy
  have hj : (y * w + x).toNat < n := by omega
  obtain ⟨A, V, rfl, hL, hbr⟩ := hW
  obtain ⟨A1, V1, hR, ka, kv, hct⟩ := x_water3 (xs := xs) (L := L) (Y := []) hbr hb hx hy hL
  rw [(hR.2.2.1 _ hj).2.1] at hct
  exact ⟨_, ⟨A1, V1, rfl, hL.keep (ka 0 (by omega)) (ka 2 (by omega)) (kv 0 (by omega)) (kv 1 (by omega)) (kv 2 (by omega)), by rw [kv 10 (by omega)]; exact hbr⟩, hct⟩
theorem l_water4 (hb : 1 ≤ b ∧ b ≤ 100) {x y : Int} (hx : 0 ≤ x ∧ x < w) (hy : 0 ≤ y ∧ y < h) (hW : Wst xs L w h n H b hp) : ∃ hp', Wst xs L w h n H b hp' ∧ mj_Ct m_W_water [.ref (mj_NE + 0), .int (iI x), .int (iI y), .int (iI 4)] hp (some (.int (iI (dsF (nxF w h H) n (y * w + x).toNat)))) hp' 0 0 6 := by
  obtain ⟨hnw, hw, hh, hH2⟩ := hW.ld
  obtain ⟨q1, q2, q3⟩ := nx_ok (w := w) (h := h) (H := H) hw hh hnw hH2
  have nbj := num_bd hw hh hx hy
  have hj : (y * w + x).toNat < n := by omega
  obtain ⟨A, V, rfl, hL, hbr⟩ := hW
  obtain ⟨A1, V1, hR, ka, kv, hct⟩ := x_water4 (xs := xs) (L := L) (Y := []) hbr hb hx hy hL
  rw [(run_en hR q1 q2 hj).2.1] at hct
  exact ⟨_, ⟨A1, V1, rfl, hL.keep (ka 0 (by omega)) (ka 2 (by omega)) (kv 0 (by omega)) (kv 1 (by omega)) (kv 2 (by omega)), by rw [kv 10 (by omega)]; exact hbr⟩, hct⟩
theorem l_basins (hb : 1 ≤ b ∧ b ≤ 100) (hW : Wst xs L w h n H b hp) : ∃ hp', Wst xs L w h n H b hp' ∧ mj_Ct m_W_basins [.ref (mj_NE + 0)] hp (some (.int (iI (cnt (fun j => decide (drF w h H j = 8)) n + cnt (fun j => decide (drF w h H j = 9)) n)))) hp' 0 0 6 := by
  obtain ⟨A, V, rfl, hL, hbr⟩ := hW
  obtain ⟨A1, V1, hR, ka, kv, hct⟩ := x_basins (xs := xs) (L := L) (Y := []) hbr hb hL
  exact ⟨_, ⟨A1, V1, rfl, hL.keep (ka 0 (by omega)) (ka 2 (by omega)) (kv 0 (by omega)) (kv 1 (by omega)) (kv 2 (by omega)), by rw [kv 10 (by omega)]; exact hbr⟩, hct⟩
theorem l_pits (hb : 1 ≤ b ∧ b ≤ 100) (hW : Wst xs L w h n H b hp) : ∃ hp', Wst xs L w h n H b hp' ∧ mj_Ct m_W_pits [.ref (mj_NE + 0)] hp (some (.int (iI (cnt (fun j => decide (drF w h H j = 9)) n)))) hp' 0 0 6 := by
  obtain ⟨A, V, rfl, hL, hbr⟩ := hW
  obtain ⟨A1, V1, hR, ka, kv, hct⟩ := x_pits (xs := xs) (L := L) (Y := []) hbr hb hL
  exact ⟨_, ⟨A1, V1, rfl, hL.keep (ka 0 (by omega)) (ka 2 (by omega)) (kv 0 (by omega)) (kv 1 (by omega)) (kv 2 (by omega)), by rw [kv 10 (by omega)]; exact hbr⟩, hct⟩
theorem l_mostRank (hb : 1 ≤ b ∧ b ≤ 100) (hW : Wst xs L w h n H b hp) : ∃ hp', Wst xs L w h n H b hp' ∧ mj_Ct m_W_mostRank [.ref (mj_NE + 0)] hp (some (.int (iI (mxH (pdK b (nxF w h H) (odF w h n H) n).2.1 n)))) hp' 0 0 6 := by
  obtain ⟨A, V, rfl, hL, hbr⟩ := hW
  obtain ⟨A1, V1, hR, ka, kv, hct⟩ := x_mostRank (xs := xs) (L := L) (Y := []) hbr hb hL
  exact ⟨_, ⟨A1, V1, rfl, hL.keep (ka 0 (by omega)) (ka 2 (by omega)) (kv 0 (by omega)) (kv 1 (by omega)) (kv 2 (by omega)), by rw [kv 10 (by omega)]; exact hbr⟩, hct⟩
section LV
variable {K : Nat} {lev : Nat → Int}
theorem l_level (hK : K = 512) (hLv : LvOK w h n H lev) {x y : Int} (hx : 0 ≤ x ∧ x < w) (hy : 0 ≤ y ∧ y < h) (hW : Wst xs L w h n H b hp) : ∃ hp', Wst xs L w h n H b hp' ∧ mj_Ct m_W_level [.ref (mj_NE + 0), .int (iI x), .int (iI y)] hp (some (.int (iI (lev (y * w + x).toNat)))) hp' 0 0 6 := by
  obtain ⟨A, V, rfl, hL, hbr⟩ := hW
  obtain ⟨A1, V1, ka, kv, hct⟩ := f_levelG (xs := xs) (L := L) (Y := []) hK hLv hx hy hL
  exact ⟨_, ⟨A1, V1, rfl, hL.keep (ka 0 (by omega) (by omega) (by omega)) (ka 2 (by omega) (by omega) (by omega)) (kv 0 (by omega) (by omega)) (kv 1 (by omega) (by omega)) (kv 2 (by omega) (by omega)), by rw [kv 10 (by omega) (by omega)]; exact hbr⟩, hct⟩
theorem l_volume (hK : K = 512) (hLv : LvOK w h n H lev) (hW : Wst xs L w h n H b hp) : ∃ hp', Wst xs L w h n H b hp' ∧ mj_Ct m_W_volume [.ref (mj_NE + 0)] hp (some (.int (iI (smH (fun j => lev j - H j) n)))) hp' 0 0 6 := by
  obtain ⟨A, V, rfl, hL, hbr⟩ := hW
  obtain ⟨A1, V1, ka, kv, hct⟩ := f_volumeG (xs := xs) (L := L) (Y := []) hK hLv hL
  exact ⟨_, ⟨A1, V1, rfl, hL.keep (ka 0 (by omega) (by omega) (by omega)) (ka 2 (by omega) (by omega) (by omega)) (kv 0 (by omega) (by omega)) (kv 1 (by omega) (by omega)) (kv 2 (by omega) (by omega)), by rw [kv 10 (by omega) (by omega)]; exact hbr⟩, hct⟩
theorem lv_dp (hLv : LvOK w h n H lev) (hH2 : ∀ j, j < n → 0 ≤ H j ∧ H j ≤ 999) : ∀ j, j < n → 0 ≤ lev j - H j ∧ lev j - H j ≤ 999 := fun j hj => by
  have h1 := hH2 j hj
  have h2 := hLv.1 j hj
  omega
/-- some LAKE there is just where the levels are above the heights -/
theorem l_lakes (hK : K = 512) (hLv : LvOK w h n H lev) (hW : Wst xs L w h n H b hp) : ∃ (hp' : mj_H) (z : Int), Wst xs L w h n H b hp' ∧ (0 ≤ z ∧ z ≤ n) ∧ (0 < z ↔ 0 < smH (fun j => lev j - H j) n) ∧ mj_Ct m_W_lakes [.ref (mj_NE + 0)] hp (some (.int (iI z))) hp' 0 0 6 := by
  obtain ⟨hnw, hw, hh, hH2⟩ := hW.ld
  have hdp := lv_dp hLv hH2
  obtain ⟨A, V, rfl, hL, hbr⟩ := hW
  obtain ⟨A1, V1, ka, kv, hct⟩ := f_lakesG (xs := xs) (L := L) (Y := []) hK hLv hL
  obtain ⟨c1, c2, c3, c4⟩ := fd_count (K := K) (w := w) (h := h) (n := n) (lk := fun j => decide (H j < lev j)) (by omega) hw hh hnw
  obtain ⟨s1, s2, s3⟩ := sm_pos (f := fun j => lev j - H j) n (fun j hj => (hdp j hj).1)
  refine ⟨_, _, ⟨A1, V1, rfl, hL.keep (ka 0 (by omega) (by omega) (by omega)) (ka 2 (by omega) (by omega) (by omega)) (kv 0 (by omega) (by omega)) (kv 1 (by omega) (by omega)) (kv 2 (by omega) (by omega)), by rw [kv 10 (by omega) (by omega)]; exact hbr⟩, ⟨c1, c2⟩, ⟨fun q => ?_, fun q => ?_⟩, hct⟩
  · rcases Int.lt_or_le 0 (smH (fun j => lev j - H j) n) with z | z
    · exact z
    · have h0 : (fdF K w h (fun j => decide (H j < lev j)) n).1 = 0 := c4 (fun v hv => decide_eq_false (fun y => by have := s2 v hv (by omega); omega))
      omega
  · rcases Int.lt_or_le 0 (fdF K w h (fun j => decide (H j < lev j)) n).1 with z | z
    · exact z
    · have h0 : smH (fun j => lev j - H j) n = 0 := s3 (fun v hv => by
        have h1 := hdp v hv
        rcases Int.lt_or_le (H v) (lev v) with y | y
        · have := c3 v hv (decide_eq_true y)
          omega
        · omega)
      omega
theorem l_lake1 (hK : K = 512) (hLv : LvOK w h n H lev) {x y : Int} (hx : 0 ≤ x ∧ x < w) (hy : 0 ≤ y ∧ y < h) (hW : Wst xs L w h n H b hp) : ∃ (hp' : mj_H) (z : Int), Wst xs L w h n H b hp' ∧ (0 ≤ z ∧ z ≤ 300000) ∧ (0 < z ↔ H (y * w + x).toNat < lev (y * w + x).toNat) ∧ mj_Ct m_W_lake [.ref (mj_NE + 0), .int (iI x), .int (iI y), .int (iI 1)] hp (some (.int (iI z))) hp' 0 0 6 := by
  obtain ⟨hnw, hw, hh, hH2⟩ := hW.ld
  have wh := wh_bd hw hh
  have hdp := lv_dp hLv hH2
  have nbj := num_bd hw hh hx hy
  have hj : (y * w + x).toNat < n := by omega
  obtain ⟨A, V, rfl, hL, hbr⟩ := hW
  obtain ⟨A1, V1, ka, kv, hct⟩ := f_lake1G (xs := xs) (L := L) (Y := []) hK hLv hx hy hL
  have hG := (FdI_fd (K := K) (w := w) (h := h) (n := n) (lk := fun j => decide (H j < lev j)) (by omega) hw hh hnw n (Nat.le_refl _)).1
  obtain ⟨-, p1, p2, p3⟩ := co_pos (K := K) (dp := fun j => lev j - H j) hG (by omega) hj (fun i hi => ⟨(hdp i hi).1, fun q => by have := of_decide_eq_true q; omega⟩) n (Nat.le_refl _)
  have p4 := coF_le (K := K) (lk := fun j => decide (H j < lev j)) (dp := fun j => lev j - H j) (f := (fdF K w h (fun j => decide (H j < lev j)) n).2) (m := (y * w + x).toNat) hdp n (Nat.le_refl _)
  refine ⟨_, _, ⟨A1, V1, rfl, hL.keep (ka 0 (by omega) (by omega) (by omega)) (ka 2 (by omega) (by omega) (by omega)) (kv 0 (by omega) (by omega)) (kv 1 (by omega) (by omega)) (kv 2 (by omega) (by omega)), by rw [kv 10 (by omega) (by omega)]; exact hbr⟩, ⟨p1, by omega⟩, ⟨fun q => ?_, fun q => p2 (decide_eq_true q) hj⟩, hct⟩
  rcases Int.lt_or_le (H (y * w + x).toNat) (lev (y * w + x).toNat) with z | z
  · exact z
  · have := p3 (decide_eq_false (by omega))
    omega
theorem l_volumeWith (hK : K = 512) (hLv : LvOK w h n H lev) {x y : Int} (hx : 0 ≤ x ∧ x < w) (hy : 0 ≤ y ∧ y < h) (hW : Wst xs L w h n H b hp) : ∃ hp', Wst xs L w h n H b hp' ∧ mj_Ct m_W_volumeWith [.ref (mj_NE + 0), .int (iI x), .int (iI y), .int (iI (H (y * w + x).toNat))] hp (some (.int (iI (smH (fun j => lev j - H j) n)))) hp' 0 0 6 := by
  obtain ⟨hnw, hw, hh, hH2⟩ := hW.ld
  have nbj := num_bd hw hh hx hy
  have hj : (y * w + x).toNat < n := by omega
  obtain ⟨A, V, rfl, hL, hbr⟩ := hW
  obtain ⟨A1, V1, hL1, v10, hct⟩ := f_volumeWithG (xs := xs) (L := L) (Y := []) (lev := lev) hK hx hy (hH2 _ hj) (by rw [supI_self]; exact hLv) hL
  rw [supI_self] at hct
  exact ⟨_, ⟨A1, V1, rfl, hL1, v10.trans hbr⟩, hct⟩
end LV
theorem cnt_no {p : Nat → Bool} : ∀ n : Nat, (∀ j, j < n → p j = false) → cnt p n = 0 := by
  intro n
  induction n with
  | zero => intro _; rfl
  | succ n ih =>
    intro hp
    show cnt p n + (if p n = true then 1 else 0) = 0
    rw [ih fun j hj => hp j (by omega), hp n (by omega), if_neg Bool.false_ne_true]
    rfl
theorem l_endsWith (hb : 1 ≤ b ∧ b ≤ 100) {x y : Int} (hx : 0 ≤ x ∧ x < w) (hy : 0 ≤ y ∧ y < h) (hW : Wst xs L w h n H b hp) : ∃ hp', Wst xs L w h n H b hp' ∧ mj_Ct m_W_endsWith [.ref (mj_NE + 0), .int (iI x), .int (iI y), .int (iI (H (y * w + x).toNat))] hp (some (.int (iI 0))) hp' 0 0 6 := by
  obtain ⟨hnw, hw, hh, hH2⟩ := hW.ld
  obtain ⟨q1, q2, q3⟩ := nx_ok (w := w) (h := h) (H := H) hw hh hnw hH2
  have nbj := num_bd hw hh hx hy
  have hj : (y * w + x).toNat < n := by omega
  obtain ⟨A, V, rfl, hL, hbr⟩ := hW
  obtain ⟨A1, A2, A4, V2, od1, od2, hR1, hR2, hL4, v10, hct⟩ := f_endsWithG (xs := xs) (L := L) (Y := []) hbr hb hx hy (hH2 _ hj) hL
  rw [supI_self] at hR2
  rw [cnt_no n (fun i hi => by rw [(run_en hR1 q1 q2 hi).1, (run_en hR2 q1 q2 hi).1]; simp)] at hct
  exact ⟨_, ⟨A4, V2, rfl, hL4, v10.trans hbr⟩, hct⟩
theorem l_wy {s : Nat} (hs : s < n) (hW : Wst xs L w h n H b hp) : ∃ T : Nat → Int, WyOK w h n s H T := by
  obtain ⟨A, V, rfl, ⟨h0, h1, hV, hnw, hw, hh, hN, hH⟩, hbr⟩ := hW
  obtain ⟨A1, V1, T, hT, -⟩ := c_spreadFrom (xs := xs) (L := L) (A := A) (V := V) (Y := []) hs hV hw hh hnw hN hH
  exact ⟨T, hT⟩
theorem l_lev (hW : Wst xs L w h n H b hp) : ∃ lev : Nat → Int, LvOK w h n H lev := by
  obtain ⟨A, V, rfl, ⟨h0, h1, hV, hnw, hw, hh, hN, hH⟩, hbr⟩ := hW
  obtain ⟨A1, V1, lev, hl, -⟩ := c_findLevels (xs := xs) (L := L) (A := A) (V := V) (Y := []) hV hw hh hnw hN hH
  exact ⟨lev, hl⟩
theorem l_takes {T : Nat → Int} {x y p q : Int} (hx : 0 ≤ x ∧ x < w) (hy : 0 ≤ y ∧ y < h) (hp0 : 0 ≤ p ∧ p < w) (hq : 0 ≤ q ∧ q < h) (hT : WyOK w h n (y * w + x).toNat H T) (hW : Wst xs L w h n H b hp) : ∃ hp', Wst xs L w h n H b hp' ∧ mj_Ct m_W_takes [.ref (mj_NE + 0), .int (iI x), .int (iI y), .int (iI p), .int (iI q)] hp (some (.int (iI (T (q * w + p).toNat)))) hp' 0 0 6 := by
  obtain ⟨hnw, hw, hh, hH2⟩ := hW.ld
  have nbj := num_bd hw hh hp0 hq
  have hj : (q * w + p).toNat < n := by omega
  obtain ⟨A, V, rfl, hL, hbr⟩ := hW
  obtain ⟨A1, V1, T', hT', ka, kv, hct⟩ := f_takes (xs := xs) (L := L) (Y := []) hx hy hp0 hq hL
  rw [WyOK_eq hT' hT hj] at hct
  exact ⟨_, ⟨A1, V1, rfl, hL.keep (ka 0 (by omega) (by omega)) (ka 2 (by omega) (by omega)) (kv 0 (by omega)) (kv 1 (by omega)) (kv 2 (by omega)), by rw [kv 10 (by omega)]; exact hbr⟩, hct⟩
theorem l_way {T : Nat → Int} {x y p q : Int} {bk : Nat} (hx : 0 ≤ x ∧ x < w) (hy : 0 ≤ y ∧ y < h) (hp0 : 0 ≤ p ∧ p < w) (hq : 0 ≤ q ∧ q < h) (hbk : bk ≤ 2147483647) (hT : WyOK w h n (y * w + x).toNat H T) (hW : Wst xs L w h n H b hp) : ∃ hp', Wst xs L w h n H b hp' ∧ mj_Ct m_W_way [.ref (mj_NE + 0), .int (iI x), .int (iI y), .int (iI p), .int (iI q), .int (iI (bk : Int))] hp (some (.int (iI (gbF w h (y * w + x).toNat H T (q * w + p).toNat bk)))) hp' 0 0 6 := by
  obtain ⟨hnw, hw, hh, hH2⟩ := hW.ld
  have nbj := num_bd hw hh hp0 hq
  have hj : (q * w + p).toNat < n := by omega
  obtain ⟨A, V, rfl, hL, hbr⟩ := hW
  obtain ⟨A1, V1, T', hT', ka, kv, hct⟩ := f_way (xs := xs) (L := L) (Y := []) (b := bk) hx hy hp0 hq hbk hL
  rw [way_val hw hh hnw hj, gbF_cg hw hh hnw (fun j hj => WyOK_eq hT' hT hj) hj] at hct
  exact ⟨_, ⟨A1, V1, rfl, hL.keep (ka 0 (by omega) (by omega)) (ka 2 (by omega) (by omega)) (kv 0 (by omega)) (kv 1 (by omega)) (kv 2 (by omega)), by rw [kv 10 (by omega)]; exact hbr⟩, hct⟩
theorem l_contour {K wn hn : Nat} {c k : Int} (hK : K = 512) (hh15 : h ≤ 15) (ew : w = (wn : Int)) (eh : h = (hn : Int)) (hc : 0 ≤ c ∧ c ≤ 999) (hk : 0 ≤ k ∧ k ≤ 2) (hW : Wst xs L w h n H b hp) : ∃ hp', Wst xs L w h n H b hp' ∧ mj_Ct m_W_contour [.ref (mj_NE + 0), .int (iI c), .int (iI k)] hp (some (.int (iI (if k = 0 then (dwF K wn H c (hn - 1)).2.2.1 else if k = 1 then (dwF K wn H c (hn - 1)).2.2.2.1 else (dwF K wn H c (hn - 1)).2.2.2.2)))) hp' 0 0 6 := by
  obtain ⟨A, V, rfl, hL, hbr⟩ := hW
  obtain ⟨A1, V1, ka, kv, hct⟩ := f_contourG (xs := xs) (L := L) (Y := []) hK hh15 ew eh hc hk hL
  exact ⟨_, ⟨A1, V1, rfl, hL.keep (ka 0 (by omega) (by omega)) (ka 2 (by omega) (by omega)) (kv 0 (by omega) (by omega) (by omega)) (kv 1 (by omega) (by omega) (by omega)) (kv 2 (by omega) (by omega) (by omega)), by rw [kv 10 (by omega) (by omega) (by omega)]; exact hbr⟩, hct⟩
theorem l_digest {K wn hn : Nat} {lev : Nat → Int} (hb : 1 ≤ b ∧ b ≤ 100) (hK : K = 512) (hh15 : h ≤ 15) (ew : w = (wn : Int)) (eh : h = (hn : Int)) (hLv : LvOK w h n H lev) (hW : Wst xs L w h n H b hp) : ∃ hp', Wst xs L w h n H b hp' ∧ mj_Ct m_W_digest [.ref (mj_NE + 0)] hp (some (.long (lI (digX K w h wn hn n H lev b)))) hp' 0 0 6 := by
  obtain ⟨A, V, rfl, hL, hbr⟩ := hW
  obtain ⟨A1, V1, hL1, v10, hct⟩ := f_digestX (xs := xs) (L := L) (Y := []) hK hh15 ew eh hbr hb hLv hL
  exact ⟨_, ⟨A1, V1, rfl, hL1, v10.trans hbr⟩, hct⟩
/-! calls that change the land -/
theorem LdOK.pw {A A1 : Nat → Nat → Int32} {V V1 : Nat → Int32} {G : Nat → Int} (hL : LdOK w h n H A V) (hG : ∀ j, j < n → 0 ≤ G j ∧ G j ≤ 999) (a0 : A1 0 = pw (fun j => iI (G j)) (A 0) n) (a2 : A1 2 = A 2) (v0 : V1 0 = V 0) (v1 : V1 1 = V 1) (v2 : V1 2 = V 2) : LdOK w h n G A1 V1 := by
  obtain ⟨h0, h1, hV, hnw, hw, hh, hN, hH⟩ := hL
  refine ⟨v0.trans h0, v1.trans h1, v2.trans hV, hnw, hw, hh, by rw [a2]; exact hN, fun j hj => ⟨?_, hG j hj⟩⟩
  rw [a0, pw_lt hj]
/-- the same, the BROOK untold -/
def Ws0 (xs : Nat → Int32) (L : Nat) (w h : Int) (n : Nat) (H : Nat → Int) (hp : mj_H) : Prop := ∃ (A : Nat → Nat → Int32) (V : Nat → Int32), hp = Wd xs L A V [] ∧ LdOK w h n H A V
theorem Wst.z (hW : Wst xs L w h n H b hp) : Ws0 xs L w h n H hp := by
  obtain ⟨A, V, e, hL, -⟩ := hW
  exact ⟨A, V, e, hL⟩
theorem Ws0.ld (hW : Ws0 xs L w h n H hp) : (n : Int) = w * h ∧ (2 ≤ w ∧ w ≤ 16) ∧ (2 ≤ h ∧ h ≤ 16) ∧ (∀ j, j < n → 0 ≤ H j ∧ H j ≤ 999) := by
  obtain ⟨A, V, rfl, ⟨-, -, -, hnw, hw, hh, -, hH⟩⟩ := hW
  exact ⟨hnw, hw, hh, fun j hj => (hH j hj).2⟩
theorem Ws0.rc {M : mj_M} (hW : Ws0 xs L w h n H hp) (hC : mj_rcv (Wd (fun _ => 0) 0 (fun _ _ => 0) (fun _ => 0) []) (mj_NE + 0) M = true) : mj_rcv hp (mj_NE + 0) M = true := by
  obtain ⟨A, V, rfl, -⟩ := hW
  unfold mj_rcv at hC ⊢
  cases hm : mj_cl[M.2.2.2.2.1]? with
  | none => rw [hm] at hC; exact hC
  | some c => rw [hm] at hC; exact hC
theorem l_cell {k : Nat} (hL : L ≤ 260) (hk : k ≤ 1000) (hW : Ws0 xs L w h n H hp) : mj_Ct m_WatershedMapLaw_cell [.ref 3, .int (iI (k : Int))] hp (some (.int (clF xs L k))) hp 0 0 0 := by
  obtain ⟨A, V, rfl, -⟩ := hW
  exact c_cell hL hk
theorem l_reset {p q : Int} (hp0 : 2 ≤ p ∧ p ≤ 16) (hq : 2 ≤ q ∧ q ≤ 16) (hW : Ws0 xs L w h n H hp) : ∃ hp', Ws0 xs L p q (p * q).toNat (fun _ => 0) hp' ∧ mj_Ct m_W_reset [.ref (mj_NE + 0), .int (iI p), .int (iI q)] hp (some (.int (iI (p * q)))) hp' 0 0 6 := by
  obtain ⟨A, V, rfl, hL⟩ := hW
  obtain ⟨A1, V1, hL1, hct⟩ := f_reset (xs := xs) (L := L) (Y := []) hp0 hq hL
  exact ⟨_, ⟨A1, V1, rfl, hL1⟩, hct⟩
theorem l_hill {x y : Int} (hx : 0 ≤ x ∧ x < w) (hy : 0 ≤ y ∧ y < h) (hW : Ws0 xs L w h n H hp) : ∃ (hp' : mj_H) (H' : Nat → Int) (z : Int32), Ws0 xs L w h n H' hp' ∧ mj_Ct m_W_hill [.ref (mj_NE + 0), .int (iI x), .int (iI y), .int (iI 8), .int (iI 500)] hp (some (.int z)) hp' 0 0 6 := by
  obtain ⟨-, -, -, hH2⟩ := hW.ld
  obtain ⟨A, V, rfl, hL⟩ := hW
  refine ⟨_, raH w x y 8 500 H, _, ⟨_, V, rfl, hL.pw (fun j hj => ?_) wA_s (wA_n (by omega)) rfl rfl rfl⟩, f_hill hx hy ⟨by omega, by omega⟩ ⟨by omega, by omega⟩ hL⟩
  unfold raH
  split
  · exact clH_bd _
  · exact hH2 j hj
theorem l_tilt {p q r : Int} (hp0 : -100 ≤ p ∧ p ≤ 100) (hq : -100 ≤ q ∧ q ≤ 100) (hr : -100 ≤ r ∧ r ≤ 100) (hW : Ws0 xs L w h n H hp) : ∃ (hp' : mj_H) (H' : Nat → Int) (z : Int32), Ws0 xs L w h n H' hp' ∧ mj_Ct m_W_tilt [.ref (mj_NE + 0), .int (iI p), .int (iI q), .int (iI r)] hp (some (.int z)) hp' 0 0 6 := by
  obtain ⟨A, V, rfl, hL⟩ := hW
  exact ⟨_, slH w p q r H, _, ⟨_, V, rfl, hL.pw (fun j hj => clH_bd _) wA_s (wA_n (by omega)) rfl rfl rfl⟩, f_tilt hp0 hq hr hL⟩
theorem l_set {x y z : Int} (hx : 0 ≤ x ∧ x < w) (hy : 0 ≤ y ∧ y < h) (hz : 0 ≤ z ∧ z ≤ 999) (hW : Ws0 xs L w h n H hp) : ∃ (hp' : mj_H) (H' : Nat → Int) (z1 : Int32), Ws0 xs L w h n H' hp' ∧ mj_Ct m_W_set [.ref (mj_NE + 0), .int (iI x), .int (iI y), .int (iI z)] hp (some (.int z1)) hp' 0 0 6 := by
  obtain ⟨A, V, rfl, hL⟩ := hW
  exact ⟨_, _, _, ⟨_, V, rfl, hL.set hz⟩, f_set hx hy hz hL⟩
theorem l_setBrook {c : Int} (hc : 1 ≤ c ∧ c ≤ 100) (hW : Ws0 xs L w h n H hp) : ∃ (hp' : mj_H) (z : Int32), Wst xs L w h n H c hp' ∧ mj_Ct m_W_setBrook [.ref (mj_NE + 0), .int (iI c)] hp (some (.int z)) hp' 0 0 6 := by
  obtain ⟨A, V, rfl, hL⟩ := hW
  exact ⟨_, _, ⟨A, wV V 10 (iI c), rfl, hL.keep rfl rfl (wV_n (by omega)) (wV_n (by omega)) (wV_n (by omega)), wV_s⟩, f_setBrook hc hL⟩
theorem l_wear (hb : 1 ≤ b ∧ b ≤ 100) {k : Int} (hk : 1 ≤ k ∧ k ≤ 50) (hW : Wst xs L w h n H b hp) : ∃ (hp' : mj_H) (H' : Nat → Int) (z : Int), Wst xs L w h n H' b hp' ∧ 0 ≤ z ∧ smH H' n = smH H n - z ∧ mj_Ct m_W_wear [.ref (mj_NE + 0), .int (iI k)] hp (some (.int (iI z))) hp' 0 0 6 := by
  obtain ⟨hnw, hw, hh, hH2⟩ := hW.ld
  obtain ⟨q1, q2, q3⟩ := nx_ok (w := w) (h := h) (H := H) hw hh hnw hH2
  obtain ⟨A, V, rfl, hL, hbr⟩ := hW
  obtain ⟨A1, V1, hR, ka, kv, hct⟩ := x_wear (xs := xs) (L := L) (Y := []) hbr hb hk hL
  have hpd := (pd_inv (b := b) hR.1 q1 n (Nat.le_refl _)).2
  have hlo : ∀ j, j < n → 0 ≤ losH k H (nxF w h H) (pdK b (nxF w h H) (odF w h n H) n).1 j ∧ losH k H (nxF w h H) (pdK b (nxF w h H) (odF w h n H) n).1 j ≤ H j := fun j hj => los_bd (by omega) hH2 q1 q2 (fun i hi => (hpd i hi).1.1) hj
  obtain ⟨s1, s2⟩ := wear_sum (b := k) (H := H) (nx := nxF w h H) (fw := (pdK b (nxF w h H) (odF w h n H) n).1) n (fun j hj => ⟨(hlo j hj).1, (hlo j hj).2, (hH2 j hj).2⟩)
  have hL1 : LdOK w h n H A1 V1 := hL.keep (ka 0 (by omega)) (ka 2 (by omega)) (kv 0 (by omega)) (kv 1 (by omega)) (kv 2 (by omega))
  exact ⟨_, fun j => clH (H j - losH k H (nxF w h H) (pdK b (nxF w h H) (odF w h n H) n).1 j), _, ⟨_, V1, rfl, hL1.pw (fun j hj => clH_bd _) wA_s ((wA_n (by omega)).trans (wA_n (by omega))) rfl rfl rfl, by rw [kv 10 (by omega)]; exact hbr⟩, s2, s1, hct⟩
/-- what is filled has no LAKE -/
theorem l_fill {K : Nat} {lev : Nat → Int} (hK : K = 512) (hLv : LvOK w h n H lev) (hW : Wst xs L w h n H b hp) : ∃ (hp' : mj_H) (H' : Nat → Int) (z : Int), Wst xs L w h n H' b hp' ∧ (0 ≤ z ∧ z ≤ 300000) ∧ smH H' n = smH H n + z ∧ LvOK w h n H' H' ∧ mj_Ct m_W_fill [.ref (mj_NE + 0)] hp (some (.int (iI z))) hp' 0 0 6 := by
  obtain ⟨hnw, hw, hh, hH2⟩ := hW.ld
  have wh := wh_bd hw hh
  have hdp := lv_dp hLv hH2
  obtain ⟨A, V, rfl, hL, hbr⟩ := hW
  obtain ⟨A1, V1, ka, kv, hct⟩ := f_fillG (xs := xs) (L := L) (Y := []) hK hLv hL
  have hL1 : LdOK w h n H A1 V1 := hL.keep (ka 0 (by omega) (by omega) (by omega)) (ka 2 (by omega) (by omega) (by omega)) (kv 0 (by omega) (by omega)) (kv 1 (by omega) (by omega)) (kv 2 (by omega) (by omega))
  have sb := smH_bd (H := fun j => lev j - H j) hdp n (Nat.le_refl _)
  rw [adH_sm] at hct
  exact ⟨_, lev, _, ⟨_, V1, rfl, hL1.pw (fun j hj => by have := hdp j hj; have := hH2 j hj; have := hLv.1 j hj; omega) wA_s (wA_n (by omega)) rfl rfl rfl, by rw [kv 10 (by omega) (by omega)]; exact hbr⟩, ⟨sb.1, by omega⟩, sm_add n, LvOK_fill hLv, hct⟩
theorem l_smooth (hW : Wst xs L w h n H b hp) : ∃ (hp' : mj_H) (z : Int), (0 ≤ z ∧ z ≤ n) ∧ mj_Ct m_W_smooth [.ref (mj_NE + 0)] hp (some (.int (iI z))) hp' 0 0 6 := by
  obtain ⟨A, V, rfl, hL, hbr⟩ := hW
  exact ⟨_, _, cnt_bd _ n, f_smooth hL⟩
end LCALL
