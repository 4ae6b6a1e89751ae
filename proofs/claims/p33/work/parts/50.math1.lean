/-! WHAT IS TRUE OF THE ANSWERS, without the machine: levels, ways, sight -/
/-- each FIELD further back has fewer FIELDS with a smaller sum -/
theorem gbF_cnt {w h : Int} {n st e : Nat} {H T : Nat → Int} (hw : 2 ≤ w ∧ w ≤ 16) (hh : 2 ≤ h ∧ h ≤ 16) (hnw : (n : Int) = w * h) (he : e < n) : ∀ k : Nat, 0 ≤ gbF w h st H T e k → cnt (fun v => decide (T v < T (gbF w h st H T e k).toNat)) n + k + 1 ≤ n := by
  intro k
  induction k with
  | zero =>
    intro _
    have h1 : gbF w h st H T e 0 = e := rfl
    rw [h1, Int.toNat_natCast]
    have := cnt_lt (p := fun v => decide (T v < T e)) (v := e) n he (by simp)
    omega
  | succ k ih =>
    intro hk
    have hk0 : 0 ≤ gbF w h st H T e k := by
      rcases Int.lt_or_le (gbF w h st H T e k) 0 with q | q
      · have := gbF_neg q 1
        omega
      · exact q
    have hb := gbF_bd (st := st) (H := H) (T := T) hw hh (e := e) (by omega) k
    have i := ih hk0
    have e1 : gbF w h st H T e (k + 1) = if gbF w h st H T e k < 0 then gbF w h st H T e k else if gbF w h st H T e k = st then -1 else faF w h H T (gbF w h st H T e k).toNat 8 := rfl
    rw [if_neg (by omega)] at e1
    split at e1
    · omega
    · rw [e1] at hk ⊢
      obtain ⟨d, d1, d2, d3⟩ := faF_hit 8 hk
      have hlt : T (faF w h H T (gbF w h st H T e k).toNat 8).toNat < T (gbF w h st H T e k).toNat := by
        rw [← d2, ← d3]
        exact WyOK_lt
      have fb := faF_bd (H := H) (T := T) hw hh (gbF w h st H T e k).toNat 8
      have hu := cnt_up (p := fun v => decide (T v < T (gbF w h st H T e k).toNat) && !decide (v = (faF w h H T (gbF w h st H T e k).toNat 8).toNat)) (q := fun v => decide (T v < T (gbF w h st H T e k).toNat)) (v := (faF w h H T (gbF w h st H T e k).toNat 8).toNat) n (by omega) (by simp) (by simp [hlt]) (fun j _ hj => by simp [hj])
      have hl := cnt_le (p := fun v => decide (T v < T (faF w h H T (gbF w h st H T e k).toNat 8).toNat)) (q := fun v => decide (T v < T (gbF w h st H T e k).toNat) && !decide (v = (faF w h H T (gbF w h st H T e k).toNat 8).toNat)) n (fun j _ hj => by
        simp only [decide_eq_true_eq] at hj
        have h1 : j ≠ (faF w h H T (gbF w h st H T e k).toNat 8).toNat := fun q => by rw [← q] at hj; omega
        have h2 : T j < T (gbF w h st H T e k).toNat := by omega
        simp [h1, h2])
      omega
theorem gbF_end {w h : Int} {n st e : Nat} {H T : Nat → Int} (hw : 2 ≤ w ∧ w ≤ 16) (hh : 2 ≤ h ∧ h ≤ 16) (hnw : (n : Int) = w * h) (he : e < n) : gbF w h st H T e n = -1 := by
  have hb := gbF_bd (st := st) (H := H) (T := T) hw hh (e := e) (by omega) n
  rcases Int.lt_or_le (gbF w h st H T e n) 0 with q | q
  · omega
  · have := gbF_cnt (st := st) (H := H) (T := T) hw hh hnw he n q
    have := cnt_bd (fun v => decide (T v < T (gbF w h st H T e n).toNat)) n
    omega
theorem LvOK_le {w h : Int} {n : Nat} {H lev lev' : Nat → Int} (h1 : LvOK w h n H lev) (h2 : LvOK w h n H lev') {v : Nat} (hv : v < n) : lev' v ≤ lev v :=
  (h1.1 v hv).2.2 (fun v a => lev' v ≤ a) (fun j hj he => by rw [h2.2.1 j hj he]; exact Int.le_refl _) (fun u d b hu hd h2d hp hb => by
    have := h2.2.2 u hu d hd h2d hp
    omega)
theorem LvOK_eq {w h : Int} {n : Nat} {H lev lev' : Nat → Int} (h1 : LvOK w h n H lev) (h2 : LvOK w h n H lev') {v : Nat} (hv : v < n) : lev' v = lev v := Int.le_antisymm (LvOK_le h1 h2 hv) (LvOK_le h2 h1 hv)
/-- what is filled up to its LEVELS has them for heights, and no LAKE is left -/
theorem LvOK_fill {w h : Int} {n : Nat} {H lev : Nat → Int} (hL : LvOK w h n H lev) : LvOK w h n lev lev := by
  refine ⟨fun j hj => ⟨Int.le_refl _, (hL.1 j hj).2.1, ?_⟩, fun j hj he => rfl, fun u hu d hd h2 hp => by omega⟩
  obtain ⟨b, hb1, hb2, hb3⟩ := (hL.1 j hj).2.2 (fun v a => ∃ b, lvR w h lev n v b ∧ b ≤ a ∧ lev v ≤ b) (fun i hi he => ⟨lev i, lvR_e hi he, by rw [hL.2.1 i hi he]; exact Int.le_refl _, Int.le_refl _⟩) (fun u d a hu hd h2 hp ⟨b, q1, q2, q3⟩ => ⟨max b (lev (nbi w h u d).toNat), lvR_s hu hd h2 hp q1, by have := hL.2.2 u hu d hd h2 hp; omega, by omega⟩)
  have e : b = lev j := by omega
  exact e ▸ hb1
theorem LvOK_cg {w h : Int} {n : Nat} {H H' lev : Nat → Int} (hw : 2 ≤ w ∧ w ≤ 16) (hh : 2 ≤ h ∧ h ≤ 16) (hnw : (n : Int) = w * h) (he : ∀ j, j < n → H j = H' j) (hL : LvOK w h n H lev) : LvOK w h n H' lev := by
  have bd : ∀ u d, 0 ≤ nbi w h u d → (nbi w h u d).toNat < n := fun u d hp => by
    have := nbi_bd hw hh u d
    omega
  refine ⟨fun j hj => ⟨by rw [← he j hj]; exact (hL.1 j hj).1, (hL.1 j hj).2.1, ?_⟩, fun j hj hq => (hL.2.1 j hj hq).trans (he j hj), fun u hu d hd h2 hp => by rw [← he _ (bd u d hp)]; exact hL.2.2 u hu d hd h2 hp⟩
  refine (hL.1 j hj).2.2 (fun v a => lvR w h H' n v a) (fun i hi hq => ?_) (fun u d a hu hd h2 hp q => ?_)
  · rw [he i hi]
    exact lvR_e hi hq
  · rw [he _ (bd u d hp)]
    exact lvR_s hu hd h2 hp q
/-- behind a fill nothing lies under its LEVEL -/
theorem fill_no {w h : Int} {n : Nat} {H lev : Nat → Int} (hL : LvOK w h n H lev) : ∀ l, LvOK w h n lev l → ∀ j, j < n → l j = lev j := fun _ h j hj => LvOK_eq (LvOK_fill hL) h hj
/-! ways -/
theorem wg_sym {H : Nat → Int} {u v d : Nat} : wg H v ((d + 4) % 8) u = wg H u d v := by
  have e : (d + 4) % 8 % 2 = d % 2 := by omega
  have e2 : (H v - H u).natAbs = (H u - H v).natAbs := by omega
  unfold wg
  rw [e, e2]
theorem wg_10 {H : Nat → Int} {u v d : Nat} : 10 ≤ wg H u d v := by
  unfold wg
  split <;> omega
theorem WyOK_cross {w h : Int} {n s t : Nat} {H T T' : Nat → Int} (hw : 2 ≤ w ∧ w ≤ 16) (hh : 2 ≤ h ∧ h ≤ 16) (hnw : (n : Int) = w * h) (hT : WyOK w h n s H T) (hT' : WyOK w h n t H T') : ∀ (k : Nat) (v : Nat), v < n → T v ≤ k → T' s ≤ T' v + T v := by
  intro k
  induction k with
  | zero =>
    intro v hv hk
    obtain ⟨t0, tb, hp⟩ := hT.2.1 v hv
    rcases hp with e | ⟨u, d, hu, hd, hn0, hn1, he⟩
    · rw [e, hT.1]
      omega
    · have h1 := (hT.2.1 u hu).1
      have h2 := wg_10 (H := H) (u := u) (v := v) (d := d)
      omega
  | succ k ih =>
    intro v hv hk
    obtain ⟨t0, tb, hp⟩ := hT.2.1 v hv
    rcases hp with e | ⟨u, d, hu, hd, hn0, hn1, he⟩
    · rw [e, hT.1]
      omega
    · have h2 := wg_10 (H := H) (u := u) (v := v) (d := d)
      have ih2 := ih u hu (by omega)
      have eo := nbi_op hw hh hnw hu hd hn0
      rw [hn1] at eo
      have tri := hT'.2.2 v hv ((d + 4) % 8) (by omega) (by rw [eo]; omega)
      rw [eo, Int.toNat_natCast, wg_sym] at tri
      omega
theorem takes_sym {w h : Int} {n s t : Nat} {H T T' : Nat → Int} (hw : 2 ≤ w ∧ w ≤ 16) (hh : 2 ≤ h ∧ h ≤ 16) (hnw : (n : Int) = w * h) (hs : s < n) (ht : t < n) (hT : WyOK w h n s H T) (hT' : WyOK w h n t H T') : T t = T' s := by
  have h1 := WyOK_cross hw hh hnw hT hT' (T t).toNat t ht (by have := (hT.2.1 t ht).1; omega)
  have h2 := WyOK_cross hw hh hnw hT' hT (T' s).toNat s hs (by have := (hT'.2.1 s hs).1; omega)
  rw [hT'.1] at h1
  rw [hT.1] at h2
  omega
/-- one FIELD further back -/
theorem wy_next {w h : Int} {n st e k v : Nat} {H T : Nat → Int} (hw : 2 ≤ w ∧ w ≤ 16) (hh : 2 ≤ h ∧ h ≤ 16) (hnw : (n : Int) = w * h) (hT : WyOK w h n st H T) (hv : v < n) (hg : gbF w h st H T e k = v) (hne : v ≠ st) : ∃ d u : Nat, d < 8 ∧ u < n ∧ nbi w h v d = u ∧ gbF w h st H T e (k + 1) = u ∧ T u + wg H u d v = T v := by
  have e1 : gbF w h st H T e (k + 1) = faF w h H T v 8 := by
    show (if gbF w h st H T e k < 0 then gbF w h st H T e k else if gbF w h st H T e k = st then -1 else faF w h H T (gbF w h st H T e k).toNat 8) = _
    rw [hg, if_neg (by omega), if_neg (by omega), Int.toNat_natCast]
  obtain ⟨d, hd, h1, h2⟩ := faF_hit 8 (faF_is hw hh hnw hT hv hne)
  have bd := nbi_bd hw hh v d
  have h0 := faF_is hw hh hnw hT hv hne
  refine ⟨d, (nbi w h v d).toNat, hd, by omega, by omega, by rw [e1, ← h1]; omega, h2⟩
theorem wy_stop {w h : Int} {n st e k v : Nat} {H T : Nat → Int} (hw : 2 ≤ w ∧ w ≤ 16) (hh : 2 ≤ h ∧ h ≤ 16) (hnw : (n : Int) = w * h) (hT : WyOK w h n st H T) (hv : v < n) (hg : gbF w h st H T e k = v) (hs : gbF w h st H T e (k + 1) < 0) : v = st := by
  by_cases q : v = st
  · exact q
  · obtain ⟨d, u, -, -, -, hu, -⟩ := wy_next hw hh hnw hT hv hg q
    omega
theorem way_val {w h : Int} {n st e b : Nat} {H T : Nat → Int} (hw : 2 ≤ w ∧ w ≤ 16) (hh : 2 ≤ h ∧ h ≤ 16) (hnw : (n : Int) = w * h) (he : e < n) : (if n ≤ b then -1 else gbF w h st H T e b) = gbF w h st H T e b := by
  by_cases q : n ≤ b
  · have e1 := gbF_end (st := st) (H := H) (T := T) hw hh hnw he
    have e2 := gbF_neg (w := w) (h := h) (st := st) (e := e) (k := n) (H := H) (T := T) (by omega) (b - n)
    rw [show n + (b - n) = b by omega] at e2
    rw [if_pos q, e2, e1]
  · rw [if_neg q]
/-! sight -/
theorem seB_mono {w : Int} {H : Nat → Int} {x y u u' p q : Int} (hu : u ≤ u') : ∀ m : Nat, (m : Int) ≤ max ((p - x).natAbs : Int) ((q - y).natAbs : Int) → seB w H x y u p q m = true → seB w H x y u' p q m = true := by
  intro m
  induction m with
  | zero => intro _ _; rfl
  | succ m ih =>
    intro hm hs
    have e : ∀ u : Int, seB w H x y u p q (m + 1) = (seB w H x y u p q m && decide (H (hidF w x y p q (m + 1)) * max ((p - x).natAbs : Int) ((q - y).natAbs : Int) ≤ (H (y * w + x).toNat + u) * (max ((p - x).natAbs : Int) ((q - y).natAbs : Int) - (m + 1)) + H (q * w + p).toNat * (m + 1))) := fun _ => rfl
    rw [e, Bool.and_eq_true, decide_eq_true_eq] at hs
    rw [e, Bool.and_eq_true, decide_eq_true_eq]
    refine ⟨ih (by omega) hs.1, Int.le_trans hs.2 (Int.add_le_add_right (Int.mul_le_mul_of_nonneg_right (by omega) (by omega)) _)⟩
theorem seeB_mono {w : Int} {H : Nat → Int} {x y u u' p q : Int} (hu : u ≤ u') (h : seeB w H x y u p q = true) : seeB w H x y u' p q = true := by
  unfold seeB at h ⊢
  exact seB_mono hu _ (by omega) h
theorem seeB_self {w : Int} {H : Nat → Int} {x y u : Int} : seeB w H x y u x y = true := by
  unfold seeB
  rw [show (max ((x - x).natAbs : Int) ((y - y).natAbs : Int) - 1).toNat = 0 by omega]
  rfl
theorem cnt_mono {p q : Nat → Bool} : ∀ n : Nat, (∀ j, j < n → p j = true → q j = true) → cnt p n ≤ cnt q n := by
  intro n
  induction n with
  | zero => intro _; exact Int.le_refl _
  | succ n ih =>
    intro h
    have i1 := ih fun j hj => h j (by omega)
    have i2 := h n (by omega)
    show cnt p n + (if p n = true then 1 else 0) ≤ cnt q n + (if q n = true then 1 else 0)
    by_cases e : p n = true
    · rw [if_pos e, if_pos (i2 e)]; omega
    · rw [if_neg e]
      split <;> omega
theorem lk_best {w : Int} {n : Nat} {H : Nat → Int} {y u : Int} : ∀ m : Nat, (lkF w n H y u m).2 ≤ cnt (fun j => seeB w H (lkF w n H y u m).1 y u ((j : Int) % w) ((j : Int) / w)) n ∧ ∀ x : Nat, x < m → cnt (fun j => seeB w H x y u ((j : Int) % w) ((j : Int) / w)) n ≤ (lkF w n H y u m).2 := by
  intro m
  induction m with
  | zero => exact ⟨(cnt_bd _ n).1, fun x hx => absurd hx (Nat.not_lt_zero x)⟩
  | succ m ih =>
    have e : lkF w n H y u (m + 1) = if (lkF w n H y u m).2 < cnt (fun j => seeB w H m y u ((j : Int) % w) ((j : Int) / w)) n then ((m : Int), cnt (fun j => seeB w H m y u ((j : Int) % w) ((j : Int) / w)) n) else lkF w n H y u m := rfl
    by_cases q : (lkF w n H y u m).2 < cnt (fun j => seeB w H m y u ((j : Int) % w) ((j : Int) / w)) n
    · rw [e, if_pos q]
      refine ⟨Int.le_refl _, fun x hx => ?_⟩
      by_cases e2 : x = m
      · rw [e2]; exact Int.le_refl _
      · exact Int.le_trans (ih.2 x (by omega)) (Int.le_of_lt q)
    · rw [e, if_neg q]
      refine ⟨ih.1, fun x hx => ?_⟩
      by_cases e2 : x = m
      · rw [e2]; exact Int.not_lt.mp q
      · exact ih.2 x (by omega)
