/-! THE REFERENCE: levels, least sums, told of numbers alone -/
theorem cnt_one {p : Nat → Bool} : ∀ n : Nat, cnt p n < n → ∃ v, v < n ∧ p v = false := by
  intro n
  induction n with
  | zero => intro h; have := cnt_bd p 0; omega
  | succ n ih =>
    intro h
    cases q : p n with
    | false => exact ⟨n, by omega, q⟩
    | true =>
      have e : cnt p (n + 1) = cnt p n + 1 := by rw [show cnt p (n + 1) = cnt p n + (if p n = true then 1 else 0) from rfl, if_pos q]
      obtain ⟨v, h1, h2⟩ := ih (by omega)
      exact ⟨v, by omega, h2⟩
/-- the levels as they stand: 1000 where none is told yet; dn: done, K: the greatest of the done -/
def MvI (w h : Int) (n : Nat) (H lev : Nat → Int) (dn : Nat → Bool) (K : Int) : Prop := (∀ v, v < n → (lev v = 1000 ∧ edgeB w h v = false) ∨ (H v ≤ lev v ∧ lev v ≤ 999 ∧ lev v ≤ max K (H v) ∧ lvR w h H n v (lev v))) ∧ (∀ v, v < n → edgeB w h v = true → lev v = H v) ∧ (∀ u, u < n → dn u = true → lev u ≤ 999 ∧ lev u ≤ K) ∧ (∀ v, v < n → dn v = false → K ≤ lev v)
/-- what those that are done have told their NEIGHBOURS -/
def MvC (w h : Int) (n : Nat) (H lev : Nat → Int) (dn : Nat → Bool) : Prop := ∀ u, u < n → dn u = true → ∀ d, d < 8 → d % 2 = 0 → 0 ≤ nbi w h u d → lev (nbi w h u d).toNat ≤ max (lev u) (H (nbi w h u d).toNat)
section NUM
variable {w h : Int} {n : Nat} {H lev : Nat → Int} {dn : Nat → Bool} {K : Int}
theorem MvI_0 (hH : ∀ j, j < n → 0 ≤ H j ∧ H j ≤ 999) : MvI w h n H (fun j => if edgeB w h j = true then H j else 1000) (fun _ => false) 0 := by
  refine ⟨fun v hv => ?_, fun v hv he => if_pos he, fun u hu hd => Bool.noConfusion hd, fun v hv _ => ?_⟩
  · dsimp only
    have := hH v hv
    cases he : edgeB w h v with
    | true => rw [if_pos rfl]; exact Or.inr ⟨by omega, by omega, by omega, lvR_e hv he⟩
    | false => rw [if_neg (by decide)]; exact Or.inl ⟨rfl, rfl⟩
  · dsimp only
    have := hH v hv
    split <;> omega
theorem MvI_bd (hI : MvI w h n H lev dn K) (hH : ∀ j, j < n → 0 ≤ H j ∧ H j ≤ 999) : ∀ v, v < n → 0 ≤ lev v ∧ lev v ≤ 1000 := fun v hv => by
  have := hH v hv
  rcases hI.1 v hv with q | q <;> omega
theorem MvI_pick (hw : 2 ≤ w ∧ w ≤ 16) (hh : 2 ≤ h ∧ h ≤ 16) (hnw : (n : Int) = w * h) (hH : ∀ j, j < n → 0 ≤ H j ∧ H j ≤ 999) (hI : MvI w h n H lev dn K) (hC : MvC w h n H lev dn) {p : Nat} (hp : p < n) (hpd : dn p = false) (hm : ∀ v, v < n → dn v = false → lev p ≤ lev v) : lev p ≤ 999 ∧ K ≤ lev p ∧ MvI w h n H lev (sup dn p) (lev p) := by
  obtain ⟨i1, i2, i3, i4⟩ := hI
  have h999 : lev p ≤ 999 := by
    rcases i1 p hp with ⟨q, -⟩ | q
    · exfalso
      have hall := all_nb (P := fun v => dn v = true) hw hh hnw (fun j hj he => by
        cases hd : dn j with
        | true => rfl
        | false =>
          have h1 := hm j hj hd
          have h2 := i2 j hj he
          have h3 := hH j hj
          omega) (fun u d hu hd h2 hp0 hdu => by
        have bd := nbi_bd hw hh u d
        have hv : (nbi w h u d).toNat < n := by omega
        cases hd2 : dn (nbi w h u d).toNat with
        | true => rfl
        | false =>
          have h1 := hm _ hv hd2
          have h3 := hC u hu hdu d hd h2 hp0
          have h4 := hH _ hv
          have h5 := i3 u hu hdu
          omega) p hp
      rw [hpd] at hall
      exact Bool.noConfusion hall
    · omega
  refine ⟨h999, i4 p hp hpd, fun v hv => ?_, i2, fun u hu hd => ?_, fun v hv hd => ?_⟩
  · have hK := i4 p hp hpd
    rcases i1 v hv with q | ⟨q1, q2, q3, q4⟩
    · exact Or.inl q
    · exact Or.inr ⟨q1, q2, by omega, q4⟩
  · have hK := i4 p hp hpd
    by_cases e : u = p
    · subst e; exact ⟨h999, Int.le_refl _⟩
    · rw [sup_ne e] at hd
      have := i3 u hu hd
      omega
  · by_cases e : v = p
    · subst e; rw [sup_eq] at hd; exact Bool.noConfusion hd
    · rw [sup_ne e] at hd
      exact hm v hv hd
theorem MvI_set {p d : Nat} (hw : 2 ≤ w ∧ w ≤ 16) (hh : 2 ≤ h ∧ h ≤ 16) (hnw : (n : Int) = w * h) (hH : ∀ j, j < n → 0 ≤ H j ∧ H j ≤ 999) (hI : MvI w h n H lev dn (lev p)) (hp : p < n) (hpd : dn p = true) (hd : d < 8) (h2 : d % 2 = 0) (hp0 : 0 ≤ nbi w h p d) (hvd : dn (nbi w h p d).toNat = false) : MvI w h n H (supI lev (nbi w h p d).toNat (min (lev (nbi w h p d).toNat) (max (lev p) (H (nbi w h p d).toNat)))) dn (lev p) := by
  obtain ⟨i1, i2, i3, i4⟩ := hI
  have bd := nbi_bd hw hh p d
  have hv : (nbi w h p d).toNat < n := by omega
  have hHv := hH _ hv
  have h9 := i3 p hp hpd
  have hHp := hH p hp
  have hRp : lvR w h H n p (lev p) := by
    rcases i1 p hp with q | q
    · omega
    · exact q.2.2.2
  refine ⟨fun u hu => ?_, fun u hu he => ?_, fun u hu hdu => ?_, fun u hu hdu => ?_⟩
  · by_cases e : u = (nbi w h p d).toNat
    · subst e
      rw [supI_eq]
      rcases i1 _ hv with q | ⟨q1, q2, q3, q4⟩
      · rw [Int.min_eq_right (by omega)]
        exact Or.inr ⟨by omega, by omega, by omega, lvR_s hp hd h2 hp0 hRp⟩
      · rw [Int.min_eq_left (by omega)]
        exact Or.inr ⟨q1, q2, q3, q4⟩
    · rw [supI_ne e]
      exact i1 u hu
  · by_cases e : u = (nbi w h p d).toNat
    · subst e
      rw [supI_eq, i2 _ hv he]
      omega
    · rw [supI_ne e]
      exact i2 u hu he
  · have e : u ≠ (nbi w h p d).toNat := fun e => by rw [e, hvd] at hdu; exact Bool.noConfusion hdu
    rw [supI_ne e]
    exact i3 u hu hdu
  · by_cases e : u = (nbi w h p d).toNat
    · subst e
      rw [supI_eq]
      have := i4 _ hv hvd
      omega
    · rw [supI_ne e]
      exact i4 u hu hdu
theorem MvI_end (hI : MvI w h n H lev dn K) (hC : MvC w h n H lev dn) (hall : ∀ v, v < n → dn v = true) : LvOK w h n H lev := by
  obtain ⟨i1, i2, i3, i4⟩ := hI
  refine ⟨fun j hj => ?_, i2, fun u hu d hd h2 hp => hC u hu (hall u hu) d hd h2 hp⟩
  have := i3 j hj (hall j hj)
  rcases i1 j hj with q | ⟨q1, q2, q3, q4⟩
  · omega
  · exact ⟨q1, q2, q4⟩
/-- the sums as they stand: 2147483647 where none is told yet -/
def MwI (w h : Int) (n st : Nat) (H T : Nat → Int) (dn : Nat → Bool) (K : Int) : Prop := (∀ v, v < n → T v = 2147483647 ∨ (0 ≤ T v ∧ T v ≤ 1013 * cnt dn n ∧ (v = st ∨ ∃ u d, u < n ∧ d < 8 ∧ dn u = true ∧ 0 ≤ nbi w h u d ∧ (nbi w h u d).toNat = v ∧ T v = T u + wg H u d v))) ∧ T st = 0 ∧ (∀ u, u < n → dn u = true → T u ≤ 1000000 ∧ T u ≤ K) ∧ (∀ v, v < n → dn v = false → K ≤ T v)
def MwC (w h : Int) (n : Nat) (H T : Nat → Int) (dn : Nat → Bool) : Prop := ∀ u, u < n → dn u = true → ∀ d, d < 8 → 0 ≤ nbi w h u d → T (nbi w h u d).toNat ≤ T u + wg H u d (nbi w h u d).toNat
variable {T : Nat → Int} {st : Nat}
theorem MwI_0 (hst : st < n) : MwI w h n st H (fun j => if j = st then 0 else 2147483647) (fun _ => false) 0 := by
  refine ⟨fun v hv => ?_, if_pos rfl, fun u hu hd => Bool.noConfusion hd, fun v hv _ => ?_⟩
  · dsimp only
    have := cnt_bd (fun _ => false) n
    split
    · exact Or.inr ⟨by omega, by omega, Or.inl (by assumption)⟩
    · exact Or.inl rfl
  · dsimp only
    split <;> omega
theorem MwI_bd (hn : n ≤ 256) (hI : MwI w h n st H T dn K) : ∀ v, v < n → 0 ≤ T v ∧ T v ≤ 2147483647 := fun v hv => by
  have := cnt_bd dn n
  rcases hI.1 v hv with q | q <;> omega
theorem MwI_pick (hw : 2 ≤ w ∧ w ≤ 16) (hh : 2 ≤ h ∧ h ≤ 16) (hnw : (n : Int) = w * h) (hst : st < n) (hH : ∀ j, j < n → 0 ≤ H j ∧ H j ≤ 999) (hI : MwI w h n st H T dn K) (hC : MwC w h n H T dn) {p : Nat} (hp : p < n) (hpd : dn p = false) (hm : ∀ v, v < n → dn v = false → T p ≤ T v) : (0 ≤ T p ∧ T p ≤ 1013 * cnt dn n ∧ T p ≤ 1000000) ∧ K ≤ T p ∧ cnt (sup dn p) n = cnt dn n + 1 ∧ MwI w h n st H T (sup dn p) (T p) := by
  obtain ⟨i1, i2, i3, i4⟩ := hI
  have wh := wh_bd hw hh
  have cb := cnt_bd dn n
  have hfin : 0 ≤ T p ∧ T p ≤ 1013 * cnt dn n ∧ T p ≤ 1000000 := by
    rcases i1 p hp with q | q
    · exfalso
      have hall := all_nb8 (P := fun v => dn v = true) hw hh hnw hst (by
        cases hd : dn st with
        | true => rfl
        | false =>
          have h1 := hm st hst hd
          omega) (fun u d hu hd h2 hp0 hdu => by
        have bd := nbi_bd hw hh u d
        have hv : (nbi w h u d).toNat < n := by omega
        cases hd2 : dn (nbi w h u d).toNat with
        | true => rfl
        | false =>
          have h1 := hm _ hv hd2
          have h3 := hC u hu hdu d hd hp0
          have h4 := wg_bd (d := d) (hH u hu) (hH _ hv)
          have h5 := i3 u hu hdu
          omega) p hp
      rw [hpd] at hall
      exact Bool.noConfusion hall
    · exact ⟨q.1, q.2.1, by omega⟩
  have cup := cnt_up (p := dn) (q := sup dn p) n hp hpd sup_eq (fun j _ hj => sup_ne hj)
  refine ⟨hfin, i4 p hp hpd, cup, fun v hv => ?_, i2, fun u hu hd => ?_, fun v hv hd => ?_⟩
  · rcases i1 v hv with q | ⟨q1, q2, q3⟩
    · exact Or.inl q
    · refine Or.inr ⟨q1, by omega, ?_⟩
      rcases q3 with q3 | ⟨u, d, a4, a5, a6, a7⟩
      · exact Or.inl q3
      · exact Or.inr ⟨u, d, a4, a5, sup_mo a6, a7⟩
  · have hK := i4 p hp hpd
    by_cases e : u = p
    · subst e; exact ⟨hfin.2.2, Int.le_refl _⟩
    · rw [sup_ne e] at hd
      have := i3 u hu hd
      omega
  · by_cases e : v = p
    · subst e; rw [sup_eq] at hd; exact Bool.noConfusion hd
    · rw [sup_ne e] at hd
      exact hm v hv hd
theorem MwI_set {p d : Nat} (hw : 2 ≤ w ∧ w ≤ 16) (hh : 2 ≤ h ∧ h ≤ 16) (hnw : (n : Int) = w * h) (hH : ∀ j, j < n → 0 ≤ H j ∧ H j ≤ 999) (hI : MwI w h n st H T dn (T p)) (hp : p < n) (hpd : dn p = true) (hT : 0 ≤ T p ∧ T p + 1013 ≤ 1013 * cnt dn n) (hd : d < 8) (hp0 : 0 ≤ nbi w h p d) : MwI w h n st H (supI T (nbi w h p d).toNat (min (T (nbi w h p d).toNat) (T p + wg H p d (nbi w h p d).toNat))) dn (T p) ∧ (∀ u, u < n → dn u = true → supI T (nbi w h p d).toNat (min (T (nbi w h p d).toNat) (T p + wg H p d (nbi w h p d).toNat)) u = T u) := by
  obtain ⟨i1, i2, i3, i4⟩ := hI
  have bd := nbi_bd hw hh p d
  have hv : (nbi w h p d).toNat < n := by omega
  have hwg := wg_bd (d := d) (hH p hp) (hH _ hv)
  have hsame : ∀ u, u < n → dn u = true → supI T (nbi w h p d).toNat (min (T (nbi w h p d).toNat) (T p + wg H p d (nbi w h p d).toNat)) u = T u := fun u hu hdu => by
    by_cases e : u = (nbi w h p d).toNat
    · subst e
      rw [supI_eq]
      have := i3 _ hu hdu
      omega
    · rw [supI_ne e]
  refine ⟨⟨fun u hu => ?_, ?_, fun u hu hdu => ?_, fun u hu hdu => ?_⟩, hsame⟩
  · by_cases e : u = (nbi w h p d).toNat
    · subst e
      rw [supI_eq]
      by_cases q : T (nbi w h p d).toNat ≤ T p + wg H p d (nbi w h p d).toNat
      · rw [Int.min_eq_left q]
        rcases i1 _ hv with q | ⟨q1, q2, q3⟩
        · exact Or.inl q
        · refine Or.inr ⟨q1, q2, ?_⟩
          rcases q3 with q3 | ⟨u, d2, a4, a5, a6, a7, a8, a9⟩
          · exact Or.inl q3
          · exact Or.inr ⟨u, d2, a4, a5, a6, a7, a8, by have hs2 := hsame u a4 a6; rw [Int.min_eq_left q] at hs2; rw [hs2]; exact a9⟩
      · rw [Int.min_eq_right (by omega)]
        exact Or.inr ⟨by omega, by omega, Or.inr ⟨p, d, hp, hd, hpd, hp0, rfl, by have hs2 := hsame p hp hpd; rw [Int.min_eq_right (by omega)] at hs2; rw [hs2]⟩⟩
    · rw [supI_ne e]
      rcases i1 u hu with q | ⟨q1, q2, q3⟩
      · exact Or.inl q
      · refine Or.inr ⟨q1, q2, ?_⟩
        rcases q3 with q3 | ⟨u2, d2, a4, a5, a6, a7, a8, a9⟩
        · exact Or.inl q3
        · exact Or.inr ⟨u2, d2, a4, a5, a6, a7, a8, by rw [hsame u2 a4 a6]; exact a9⟩
  · by_cases e : st = (nbi w h p d).toNat
    · rw [← e, supI_eq, i2]
      rw [← e] at hwg
      omega
    · rw [supI_ne e]
      exact i2
  · rw [hsame u hu hdu]
    exact i3 u hu hdu
  · by_cases e : u = (nbi w h p d).toNat
    · subst e
      rw [supI_eq]
      have := i4 _ hv hdu
      omega
    · rw [supI_ne e]
      exact i4 u hu hdu
theorem MwI_end (hn : n ≤ 256) (hI : MwI w h n st H T dn K) (hC : MwC w h n H T dn) (hall : ∀ v, v < n → dn v = true) : WyOK w h n st H T := by
  obtain ⟨i1, i2, i3, i4⟩ := hI
  have cb := cnt_bd dn n
  refine ⟨i2, fun v hv => ?_, fun u hu d hd hp => hC u hu (hall u hu) d hd hp⟩
  have := i3 v hv (hall v hv)
  rcases i1 v hv with q | ⟨q1, q2, q3⟩
  · omega
  · refine ⟨q1, by omega, ?_⟩
    rcases q3 with q3 | ⟨u, d, a4, a5, a6, a7⟩
    · exact Or.inl q3
    · exact Or.inr ⟨u, d, a4, a5, a7⟩
end NUM
