/-! WHAT IS TRUE OF THE ANSWERS: streams, wearing, filling -/
/-- where the water of v comes to, and in how many STEPS, as far as k go -/
def enF (nx : Nat → Int) : Nat → Nat → Nat
  | 0, v => v
  | k + 1, v => if nx v < 0 then v else enF nx k (nx v).toNat
def dsF (nx : Nat → Int) : Nat → Nat → Int
  | 0, _ => 0
  | k + 1, v => if nx v < 0 then 0 else dsF nx k (nx v).toNat + 1
theorem Ord_up {n : Nat} {nx : Nat → Int} {od : Nat → Nat} (h : OrdOK n nx od) {p q : Nat} (hp : p < n) (hq : q < n) (he : nx (od p) = od q) : p < q := by
  obtain ⟨r, hr, hm⟩ := h.2.2.2 q hq (od p) (h.1 p hp) he
  have := h.2.1 r p (by omega) hp hm
  omega
theorem run_ends {w h b : Int} {n : Nat} {H : Nat → Int} {A : Nat → Nat → Int32} {od : Nat → Nat} (hR : RunOK w h n H b A od) (hnx : ∀ j, j < n → -1 ≤ nxF w h H j ∧ nxF w h H j < n) (hdw : ∀ u v : Nat, u < n → v < n → nxF w h H u = v → H v < H u) : ∀ (k p : Nat), p < n → n - p ≤ k → A 6 (od p) = iI (enF (nxF w h H) k (od p)) ∧ A 7 (od p) = iI (dsF (nxF w h H) k (od p)) ∧ enF (nxF w h H) k (od p) < n ∧ nxF w h H (enF (nxF w h H) k (od p)) < 0 ∧ (nxF w h H (od p) < 0 → enF (nxF w h H) k (od p) = od p ∧ dsF (nxF w h H) k (od p) = 0) ∧ (0 ≤ nxF w h H (od p) → H (enF (nxF w h H) k (od p)) < H (od p) ∧ 0 < dsF (nxF w h H) k (od p)) ∧ 0 ≤ dsF (nxF w h H) k (od p) ∧ dsF (nxF w h H) k (od p) + p < n := by
  obtain ⟨hO, -, -, hE⟩ := hR
  intro k
  induction k with
  | zero => intro p hp hk; omega
  | succ k ih =>
    intro p hp hk
    have hv := hO.1 p hp
    have e1 : enF (nxF w h H) (k + 1) (od p) = if nxF w h H (od p) < 0 then od p else enF (nxF w h H) k (nxF w h H (od p)).toNat := rfl
    have e2 : dsF (nxF w h H) (k + 1) (od p) = if nxF w h H (od p) < 0 then 0 else dsF (nxF w h H) k (nxF w h H (od p)).toNat + 1 := rfl
    obtain ⟨b1, b2⟩ := hnx (od p) hv
    by_cases q : nxF w h H (od p) < 0
    · rw [e1, e2, if_pos q, if_pos q]
      obtain ⟨a6, a7⟩ := (hE (od p) hv).1 q
      exact ⟨a6, a7, hv, q, fun _ => ⟨rfl, rfl⟩, fun z => by omega, by omega, by omega⟩
    · rw [e1, e2, if_neg q, if_neg q]
      obtain ⟨t, ht⟩ : ∃ t : Nat, nxF w h H (od p) = t := ⟨(nxF w h H (od p)).toNat, by omega⟩
      obtain ⟨r, hr, hm⟩ := hO.2.2.1 t (by omega)
      have hpr := Ord_up hO hp hr (by rw [ht, hm])
      obtain ⟨i1, i2, i3, i4, i5, i6, i7, i8⟩ := ih r hr (by omega)
      obtain ⟨a6, a7⟩ := (hE (od p) hv).2 t ht
      rw [hm] at i1 i2 i3 i4 i5 i6 i7 i8
      have hlt := hdw (od p) t hv (by omega) ht
      rw [ht, Int.toNat_natCast]
      refine ⟨a6.trans i1, ?_, i3, i4, fun z => by omega, fun _ => ⟨?_, by omega⟩, by omega, by omega⟩
      · rw [a7, i2, show (1 : Int32) = iI 1 from rfl, iI_add]
      · by_cases z : nxF w h H t < 0
        · rw [(i5 z).1]; exact hlt
        · have := (i6 (by omega)).1
          omega
/-- the flows of the ENDS make up all -/
theorem ends_all {n : Nat} {nx : Nat → Int} {od : Nat → Nat} {b : Int} (h : OrdOK n nx od) (hnx : ∀ j, j < n → -1 ≤ nx j ∧ nx j < n) : smH (fun v => if nx v < 0 then (pdK b nx od n).1 v else 0) n = n := by
  have h1 := (pd_inv (b := b) h hnx n (Nat.le_refl _)).1
  refine (smH_cg n fun j hj => ?_).trans h1
  have hd : dnk od n j = true := (dnk_iff n).mpr (by
    obtain ⟨p, hp, hm⟩ := h.2.2.1 j hj
    exact ⟨p, hp, hm⟩)
  by_cases q : nx j < 0
  · rw [if_pos q, if_neg (fun z => by omega)]
  · rw [if_neg q, if_pos ⟨hd, by omega⟩]
theorem chD_hi {w h : Int} {H : Nat → Int} {i : Nat} : ∀ d : Nat, d ≤ 8 → 8 ≤ (chD w h H i d).2.1 → (chD w h H i d).2.1 = (if edgeB w h i = true then 8 else 9) ∧ (chD w h H i d).2.2 = -1 := by
  intro d
  induction d with
  | zero => intro _ _; exact ⟨rfl, rfl⟩
  | succ d ih =>
    intro hd h8
    have e : chD w h H i (d + 1) = if nbi w h i d < 0 then chD w h H i d else if (chD w h H i d).1 < (H i - H (nbi w h i d).toNat) * (if d % 2 = 1 then 7 else 10) then ((H i - H (nbi w h i d).toNat) * (if d % 2 = 1 then 7 else 10), (d : Int), nbi w h i d) else chD w h H i d := rfl
    rw [e] at h8 ⊢
    by_cases q : nbi w h i d < 0
    · rw [if_pos q] at h8 ⊢
      exact ih (by omega) h8
    · rw [if_neg q] at h8 ⊢
      by_cases r : (chD w h H i d).1 < (H i - H (nbi w h i d).toNat) * (if d % 2 = 1 then 7 else 10)
      · rw [if_pos r] at h8
        have h8 : (8 : Int) ≤ (d : Int) := h8
        omega
      · rw [if_neg r] at h8 ⊢
        exact ih (by omega) h8
theorem los_bd {b : Int} {n : Nat} {H nx fw : Nat → Int} (hb : 0 ≤ b) (hH : ∀ j, j < n → 0 ≤ H j ∧ H j ≤ 999) (hnx : ∀ j, j < n → -1 ≤ nx j ∧ nx j < n) (hdw : ∀ u v : Nat, u < n → v < n → nx u = v → H v < H u) (hfw : ∀ j, j < n → 1 ≤ fw j) {j : Nat} (hj : j < n) : 0 ≤ losH b H nx fw j ∧ losH b H nx fw j ≤ H j := by
  have h0 := hH j hj
  have h1 := hnx j hj
  unfold losH
  by_cases q : nx j < 0
  · rw [if_pos q]; omega
  · rw [if_neg q]
    have h2 := hdw j (nx j).toNat hj (by omega) (by omega)
    have h3 := hH (nx j).toNat (by omega)
    have h4 : 0 ≤ b * fw j := Int.mul_nonneg hb (by have := hfw j hj; omega)
    have h5 : 0 ≤ b * fw j / 10 := Int.ediv_nonneg h4 (by omega)
    omega
theorem wear_sum {b : Int} {H nx fw : Nat → Int} : ∀ n : Nat, (∀ j, j < n → 0 ≤ losH b H nx fw j ∧ losH b H nx fw j ≤ H j ∧ H j ≤ 999) → smH (fun j => clH (H j - losH b H nx fw j)) n = smH H n - lsm b H nx fw n ∧ 0 ≤ lsm b H nx fw n := by
  intro n
  induction n with
  | zero => intro _; exact ⟨rfl, Int.le_refl _⟩
  | succ n ih =>
    intro h
    obtain ⟨i1, i2⟩ := ih fun j hj => h j (by omega)
    have hb := h n (by omega)
    have e : clH (H n - losH b H nx fw n) = H n - losH b H nx fw n := by
      unfold clH
      omega
    refine ⟨?_, ?_⟩
    · show smH (fun j => clH (H j - losH b H nx fw j)) n + clH (H n - losH b H nx fw n) = smH H n + H n - (lsm b H nx fw n + losH b H nx fw n)
      rw [i1, e]
      omega
    · show 0 ≤ lsm b H nx fw n + losH b H nx fw n
      omega
theorem sm_add {f g : Nat → Int} : ∀ n : Nat, smH f n = smH g n + smH (fun j => f j - g j) n := by
  intro n
  induction n with
  | zero => rfl
  | succ n ih =>
    show smH f n + f n = smH g n + g n + (smH (fun j => f j - g j) n + (f n - g n))
    rw [ih]
    omega
theorem sm_pos {f : Nat → Int} : ∀ n : Nat, (∀ j, j < n → 0 ≤ f j) → 0 ≤ smH f n ∧ (∀ v, v < n → 0 < f v → 0 < smH f n) ∧ ((∀ v, v < n → f v = 0) → smH f n = 0) := by
  intro n
  induction n with
  | zero => intro _; exact ⟨Int.le_refl _, fun v hv => absurd hv (Nat.not_lt_zero v), fun _ => rfl⟩
  | succ n ih =>
    intro h
    obtain ⟨i1, i2, i3⟩ := ih fun j hj => h j (by omega)
    have hn := h n (by omega)
    have e : smH f (n + 1) = smH f n + f n := rfl
    rw [e]
    refine ⟨by omega, fun v hv hp => ?_, fun hz => by rw [i3 fun v hv => hz v (by omega), hz n (by omega)]; rfl⟩
    by_cases q : v = n
    · subst q; omega
    · have := i2 v (by omega) hp
      omega
