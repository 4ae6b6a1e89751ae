/-! A FRONTIER that grows over the FIELDS: what holds of it, told of numbers alone -/
theorem cnt_le {p q : Nat → Bool} : ∀ n : Nat, (∀ j, j < n → p j = true → q j = true) → cnt p n ≤ cnt q n := by
  intro n
  induction n with
  | zero => intro _; exact Int.le_refl _
  | succ n ih =>
    intro h
    have h1 := ih (fun j hj => h j (by omega))
    have h2 := h n (by omega)
    unfold cnt
    by_cases hp : p n = true
    · rw [if_pos hp, if_pos (h2 hp)]; omega
    · rw [if_neg hp]; split <;> omega
theorem cnt_cg {p q : Nat → Bool} (n : Nat) (h : ∀ j, j < n → p j = q j) : cnt p n = cnt q n := by
  have h1 := cnt_le (p := p) (q := q) n (fun j hj hp => by rw [← h j hj]; exact hp)
  have h2 := cnt_le (p := q) (q := p) n (fun j hj hp => by rw [h j hj]; exact hp)
  omega
theorem cnt_lt {p : Nat → Bool} {v : Nat} : ∀ n : Nat, v < n → p v = false → cnt p n + 1 ≤ n := by
  intro n
  induction n with
  | zero => intro h; omega
  | succ n ih =>
    intro hv hp
    have hb := cnt_bd p n
    unfold cnt
    by_cases h : v = n
    · subst h; rw [if_neg (by rw [hp]; decide)]; omega
    · have := ih (by omega) hp
      split <;> omega
theorem cnt_up {p q : Nat → Bool} {v : Nat} : ∀ n : Nat, v < n → p v = false → q v = true → (∀ j, j < n → j ≠ v → q j = p j) → cnt q n = cnt p n + 1 := by
  intro n
  induction n with
  | zero => intro h; omega
  | succ n ih =>
    intro hv hp hq ho
    unfold cnt
    by_cases h : v = n
    · subst h
      rw [if_pos hq, if_neg (by rw [hp]; decide), cnt_cg (p := q) (q := p) v (fun j hj => ho j (by omega) (by omega))]
      omega
    · rw [ih (by omega) hp hq (fun j hj => ho j (by omega)), ho n (by omega) (fun e => h e.symm)]
      omega
theorem cnt_all {p : Nat → Bool} {n : Nat} (h : cnt p n = n) : ∀ v, v < n → p v = true := by
  intro v hv
  cases hp : p v with
  | true => rfl
  | false => have := cnt_lt n hv hp; omega
/-- a truth table with one more that holds -/
def sup (p : Nat → Bool) (v : Nat) : Nat → Bool := fun j => if j = v then true else p j
theorem sup_eq {p : Nat → Bool} {v : Nat} : sup p v v = true := if_pos rfl
theorem sup_ne {p : Nat → Bool} {v j : Nat} (h : j ≠ v) : sup p v j = p j := if_neg h
theorem sup_mo {p : Nat → Bool} {v j : Nat} (h : p j = true) : sup p v j = true := by
  unfold sup; split
  · rfl
  · exact h
/-- a table of numbers with one written -/
def supI {α : Type} (f : Nat → α) (v : Nat) (z : α) : Nat → α := fun j => if j = v then z else f j
theorem supI_eq {α : Type} {f : Nat → α} {v : Nat} {z : α} : supI f v z v = z := if_pos rfl
theorem supI_ne {α : Type} {f : Nat → α} {v j : Nat} {z : α} (h : j ≠ v) : supI f v z j = f j := if_neg h
/-- s members m: visited, not done, each once; all that are visited are done or members -/
def Fro (n : Nat) (vs dn : Nat → Bool) (s : Nat) (m : Nat → Nat) : Prop :=
  (∀ j, j < s → m j < n ∧ vs (m j) = true ∧ dn (m j) = false) ∧ (∀ i j, i < s → j < s → m i = m j → i = j) ∧ (∀ v, v < n → vs v = true → dn v = true ∨ ∃ j, j < s ∧ m j = v) ∧ (∀ v, v < n → dn v = true → vs v = true) ∧ (s : Int) + cnt dn n = cnt vs n
theorem Fro_0 {n : Nat} {m : Nat → Nat} : Fro n (fun _ => false) (fun _ => false) 0 m :=
  ⟨fun j hj => absurd hj (by omega), fun i j hi => absurd hi (by omega), fun v hv h => Bool.noConfusion h, fun v hv h => Bool.noConfusion h, by have := cnt_bd (fun _ => false) n; omega⟩
theorem Fro_s {n : Nat} {vs dn : Nat → Bool} {s : Nat} {m : Nat → Nat} (h : Fro n vs dn s m) : s ≤ n := by
  have h1 := h.2.2.2.2
  have h2 := cnt_bd vs n
  have h3 := cnt_bd dn n
  omega
theorem Fro_lt {n : Nat} {vs dn : Nat → Bool} {s : Nat} {m : Nat → Nat} (h : Fro n vs dn s m) {v : Nat} (hv : v < n) (hn : vs v = false) : s < n := by
  have h1 := h.2.2.2.2
  have h2 := cnt_lt n hv hn
  have h3 := cnt_bd dn n
  omega
theorem Fro_add {n : Nat} {vs dn : Nat → Bool} {s : Nat} {m : Nat → Nat} (h : Fro n vs dn s m) {v : Nat} (hv : v < n) (hn : vs v = false) : Fro n (sup vs v) dn (s + 1) (supI m s v) := by
  obtain ⟨h1, h2, h3, h4, h5⟩ := h
  have hdn : dn v = false := by
    cases hq : dn v with
    | false => rfl
    | true => rw [h4 v hv hq] at hn; exact absurd hn (by decide)
  refine ⟨fun j hj => ?_, fun i j hi hj he => ?_, fun u hu hvs => ?_, fun u hu hd => sup_mo (h4 u hu hd), ?_⟩
  · by_cases e : j = s
    · subst e; rw [supI_eq]; exact ⟨hv, sup_eq, hdn⟩
    · rw [supI_ne e]
      obtain ⟨a, b, c⟩ := h1 j (by omega)
      exact ⟨a, sup_mo b, c⟩
  · by_cases e : i = s
    · by_cases e2 : j = s
      · omega
      · subst e
        rw [supI_eq, supI_ne e2] at he
        have := (h1 j (by omega)).2.1
        rw [← he, hn] at this
        exact absurd this (by decide)
    · by_cases e2 : j = s
      · subst e2
        rw [supI_eq, supI_ne e] at he
        have := (h1 i (by omega)).2.1
        rw [he, hn] at this
        exact absurd this (by decide)
      · rw [supI_ne e, supI_ne e2] at he
        exact h2 i j (by omega) (by omega) he
  · by_cases e : u = v
    · exact Or.inr ⟨s, by omega, by rw [supI_eq, e]⟩
    · rw [sup_ne e] at hvs
      rcases h3 u hu hvs with a | ⟨j, hj, hm⟩
      · exact Or.inl a
      · exact Or.inr ⟨j, by omega, by rw [supI_ne (by omega)]; exact hm⟩
  · rw [cnt_up (p := vs) (q := sup vs v) n hv hn sup_eq (fun j _ hj => sup_ne hj)]
    omega
theorem Fro_take {n : Nat} {vs dn : Nat → Bool} {s : Nat} {m : Nat → Nat} (h : Fro n vs dn s m) {p : Nat} (hp : p < s) : Fro n vs (sup dn (m p)) (s - 1) (supI m p (m (s - 1))) := by
  obtain ⟨h1, h2, h3, h4, h5⟩ := h
  obtain ⟨p1, p2, p3⟩ := h1 p hp
  refine ⟨fun j hj => ?_, fun i j hi hj he => ?_, fun u hu hvs => ?_, fun u hu hd => ?_, ?_⟩
  · by_cases e : j = p
    · subst e
      rw [supI_eq]
      obtain ⟨a, b, c⟩ := h1 (s - 1) (by omega)
      exact ⟨a, b, by rw [sup_ne (fun q => by have := h2 _ _ (by omega) hp q; omega)]; exact c⟩
    · rw [supI_ne e]
      obtain ⟨a, b, c⟩ := h1 j (by omega)
      exact ⟨a, b, by rw [sup_ne (fun q => by have := h2 _ _ (by omega) hp q; omega)]; exact c⟩
  · by_cases e : i = p
    · by_cases e2 : j = p
      · omega
      · subst e
        rw [supI_eq, supI_ne e2] at he
        have := h2 _ _ (by omega) (by omega) he
        omega
    · by_cases e2 : j = p
      · subst e2
        rw [supI_eq, supI_ne e] at he
        have := h2 _ _ (by omega) (by omega) he
        omega
      · rw [supI_ne e, supI_ne e2] at he
        exact h2 i j (by omega) (by omega) he
  · by_cases e : u = m p
    · subst e; exact Or.inl sup_eq
    · rcases h3 u hu hvs with a | ⟨j, hj, hm⟩
      · exact Or.inl (sup_mo a)
      · by_cases e2 : j = s - 1
        · refine Or.inr ⟨p, ?_, by rw [supI_eq, ← e2]; exact hm⟩
          by_cases e3 : p = s - 1
          · subst e3; subst e2; exact absurd hm.symm e
          · omega
        · exact Or.inr ⟨j, by omega, by rw [supI_ne (fun q => by subst q; exact e hm.symm)]; exact hm⟩
  · by_cases e : u = m p
    · subst e; exact p2
    · rw [sup_ne e] at hd
      exact h4 u hu hd
  · rw [cnt_up (p := dn) (q := sup dn (m p)) n p1 p3 sup_eq (fun j _ hj => sup_ne hj)]
    omega
/-- all that is reached from the EDGE in straight DIRECTIONS is all there is -/
theorem all_nb {w h : Int} {n : Nat} (hw : 2 ≤ w ∧ w ≤ 16) (hh : 2 ≤ h ∧ h ≤ 16) (hnw : (n : Int) = w * h) {P : Nat → Prop} (he : ∀ j, j < n → edgeB w h j = true → P j) (hs : ∀ u d : Nat, u < n → d < 8 → d % 2 = 0 → 0 ≤ nbi w h u d → P u → P (nbi w h u d).toNat) : ∀ v, v < n → P v := by
  have col : ∀ (y : Int), 0 ≤ y ∧ y < h → ∀ x : Nat, (x : Int) < w → P (y * w + x).toNat := by
    intro y hy x
    induction x with
    | zero =>
      intro hx
      have hb := num_bd (x := 0) hw hh ⟨by omega, by omega⟩ hy
      have e : (((y * w + ((0 : Nat) : Int)).toNat : Nat) : Int) = y * w + 0 := by omega
      refine he _ (by omega) ?_
      have hxy := num_xy (w := w) (x := 0) (y := y) (by omega) ⟨by omega, by omega⟩
      have e4 : nbi w h (y * w + ((0 : Nat) : Int)).toNat 4 < 0 := by
        unfold nbi nb
        rw [e, hxy.1, hxy.2, if_neg (by simp [sxI])]
        omega
      unfold edgeB
      rw [decide_eq_true e4]
      simp
    | succ x ih =>
      intro hx
      have hp := ih (by omega)
      have hb := num_bd (x := (x : Int)) hw hh ⟨by omega, by omega⟩ hy
      have hb2 := num_bd (x := (x : Int) + 1) hw hh ⟨by omega, by omega⟩ hy
      have e : (((y * w + (x : Int)).toNat : Nat) : Int) = y * w + x := by omega
      have hxy := num_xy (w := w) (x := (x : Int)) (y := y) (by omega) ⟨by omega, by omega⟩
      have e0 : nbi w h (y * w + (x : Int)).toNat 0 = y * w + ((x : Int) + 1) := by
        unfold nbi nb
        rw [e, hxy.1, hxy.2, if_pos (by simp [sxI, syI]; omega)]
        simp [sxI, syI]
      have := hs _ 0 (by omega) (by omega) rfl (by rw [e0]; omega) hp
      rw [e0] at this
      exact this
  intro v hv
  have hxy := i_xy (i := v) hw hh (by omega)
  have := col ((v : Int) / w) ⟨hxy.2.2.1, hxy.2.2.2.1⟩ ((v : Int) % w).toNat (by omega)
  rw [show ((((v : Int) % w).toNat : Nat) : Int) = (v : Int) % w by omega, hxy.2.2.2.2.1] at this
  exact this
