/-! Streams: the order, in general; first told of numbers alone -/
theorem cnt_full {p : Nat → Bool} : ∀ n : Nat, (∀ j, j < n → p j = true) → cnt p n = n := by
  intro n
  induction n with
  | zero => intro _; rfl
  | succ n ih => intro h; unfold cnt; rw [ih (fun j hj => h j (by omega)), if_pos (h n (by omega))]; omega
/-- how many FIELDS that are not done go to v -/
def awC (n : Nat) (nx : Nat → Int) (dn : Nat → Bool) (v : Nat) : Int := cnt (fun i => decide (nx i = v) && !dn i) n
/-- c FIELDS o are listed (ls), the first k of them are done (dn); i: how far the FIELDS have been looked at -/
def KI (n : Nat) (nx : Nat → Int) (ls dn : Nat → Bool) (c k i : Nat) (o : Nat → Nat) : Prop :=
  (∀ p, p < c → o p < n ∧ ls (o p) = true) ∧ (∀ p q, p < c → q < c → o p = o q → p = q) ∧ (∀ v, v < n → ls v = true → ∃ p, p < c ∧ o p = v) ∧ (k ≤ c ∧ (∀ p, p < k → dn (o p) = true) ∧ (∀ v, v < n → dn v = true → ∃ p, p < k ∧ o p = v)) ∧ (c : Int) = cnt ls n ∧ (∀ v, v < n → ls v = true → awC n nx dn v = 0 ∧ v < i) ∧ (∀ v, v < n → v < i → awC n nx dn v = 0 → ls v = true) ∧ (∀ q, q < c → ∀ u, u < n → nx u = o q → ∃ p, p < q ∧ o p = u)
theorem KI_c {n : Nat} {nx : Nat → Int} {ls dn : Nat → Bool} {c k i : Nat} {o : Nat → Nat} (h : KI n nx ls dn c k i o) : c ≤ n := by
  have := h.2.2.2.2.1
  have := cnt_bd ls n
  omega
theorem KI_lt {n : Nat} {nx : Nat → Int} {ls dn : Nat → Bool} {c k i : Nat} {o : Nat → Nat} (h : KI n nx ls dn c k i o) {v : Nat} (hv : v < n) (hn : ls v = false) : c < n := by
  have := h.2.2.2.2.1
  have := cnt_lt n hv hn
  omega
theorem awC_all {n : Nat} {nx : Nat → Int} {dn : Nat → Bool} {v : Nat} (h : awC n nx dn v = 0) : ∀ u, u < n → nx u = v → dn u = true := by
  intro u hu he
  cases q : dn u with
  | true => rfl
  | false =>
    have e := cnt_up (p := fun i => (decide (nx i = v) && !dn i) && decide (i ≠ u)) (q := fun i => decide (nx i = v) && !dn i) (v := u) n hu (by simp) (by simp [he, q]) (fun j _ hj => by simp [hj])
    have b := cnt_bd (fun i => (decide (nx i = v) && !dn i) && decide (i ≠ u)) n
    unfold awC at h
    omega
theorem KI_add {n : Nat} {nx : Nat → Int} {ls dn : Nat → Bool} {c k i i2 : Nat} {o : Nat → Nat} (h : KI n nx ls dn c k i o) {v : Nat} (hv : v < n) (hn : ls v = false) (haw : awC n nx dn v = 0) (hi : i ≤ i2 ∧ v < i2) (hall : ∀ u, u < n → u < i2 → u ≠ v → awC n nx dn u = 0 → ls u = true) : KI n nx (sup ls v) dn (c + 1) k i2 (supI o c v) := by
  obtain ⟨h1, h2, h3, ⟨h4, h5, h6⟩, h7, h8, h9, h10⟩ := h
  refine ⟨fun p hp => ?_, fun p q hp hq he => ?_, fun u hu hl => ?_, ⟨by omega, fun p hp => ?_, fun u hu hd => ?_⟩, ?_, fun u hu hl => ?_, fun u hu hi2 ha => ?_, fun q hq u hu he => ?_⟩
  · by_cases e : p = c
    · subst e; rw [supI_eq]; exact ⟨hv, sup_eq⟩
    · rw [supI_ne e]
      obtain ⟨a1, a2⟩ := h1 p (by omega)
      exact ⟨a1, sup_mo a2⟩
  · by_cases e : p = c
    · by_cases e2 : q = c
      · omega
      · subst e
        rw [supI_eq, supI_ne e2] at he
        have := (h1 q (by omega)).2
        rw [← he, hn] at this
        exact Bool.noConfusion this
    · by_cases e2 : q = c
      · subst e2
        rw [supI_eq, supI_ne e] at he
        have := (h1 p (by omega)).2
        rw [he, hn] at this
        exact Bool.noConfusion this
      · rw [supI_ne e, supI_ne e2] at he
        exact h2 p q (by omega) (by omega) he
  · by_cases e : u = v
    · exact ⟨c, by omega, by rw [supI_eq, e]⟩
    · rw [sup_ne e] at hl
      obtain ⟨p, hp, hm⟩ := h3 u hu hl
      exact ⟨p, by omega, by rw [supI_ne (by omega)]; exact hm⟩
  · rw [supI_ne (by omega)]; exact h5 p hp
  · obtain ⟨p, hp, hm⟩ := h6 u hu hd
    exact ⟨p, hp, by rw [supI_ne (by omega)]; exact hm⟩
  · rw [cnt_up (p := ls) (q := sup ls v) n hv hn sup_eq (fun j _ hj => sup_ne hj)]
    omega
  · by_cases e : u = v
    · subst e; exact ⟨haw, hi.2⟩
    · rw [sup_ne e] at hl
      obtain ⟨a1, a2⟩ := h8 u hu hl
      exact ⟨a1, by omega⟩
  · by_cases e : u = v
    · subst e; exact sup_eq
    · exact sup_mo (hall u hu hi2 e ha)
  · by_cases e : q = c
    · subst e
      rw [supI_eq] at he
      obtain ⟨p, hp, hm⟩ := h6 u hu (awC_all haw u hu he)
      exact ⟨p, by omega, by rw [supI_ne (by omega)]; exact hm⟩
    · rw [supI_ne e] at he
      obtain ⟨p, hp, hm⟩ := h10 q (by omega) u hu he
      exact ⟨p, hp, by rw [supI_ne (by omega)]; exact hm⟩
/-- the next one is done: who it went to awaits one less -/
theorem awC_do {n : Nat} {nx : Nat → Int} {dn : Nat → Bool} {v : Nat} (hv : v < n) (hd : dn v = false) (u : Nat) : awC n nx (sup dn v) u = awC n nx dn u - (if nx v = u then 1 else 0) := by
  unfold awC
  by_cases e : nx v = u
  · rw [if_pos e]
    have := cnt_up (p := fun i => decide (nx i = u) && !sup dn v i) (q := fun i => decide (nx i = u) && !dn i) (v := v) n hv (by simp [sup_eq]) (by simp [e, hd]) (fun j _ hj => by simp [sup_ne hj])
    omega
  · rw [if_neg e, cnt_cg (p := fun i => decide (nx i = u) && !sup dn v i) (q := fun i => decide (nx i = u) && !dn i) n (fun j _ => by
      by_cases q : j = v
      · subst q; simp [e]
      · simp [sup_ne q])]
    omega
theorem KI_nd {n : Nat} {nx : Nat → Int} {ls dn : Nat → Bool} {c k i : Nat} {o : Nat → Nat} (h : KI n nx ls dn c k i o) (hk : k < c) : dn (o k) = false := by
  cases q : dn (o k) with
  | false => rfl
  | true =>
    obtain ⟨p, hp, hm⟩ := h.2.2.2.1.2.2 (o k) (h.1 k hk).1 q
    have := h.2.1 p k (by omega) hk hm
    omega
theorem KI_do {n : Nat} {nx : Nat → Int} {ls dn : Nat → Bool} {c k : Nat} {o : Nat → Nat} (h : KI n nx ls dn c k n o) (hk : k < c) : (∀ u, u < n → u ≠ nx (o k) → awC n nx (sup dn (o k)) u = 0 → ls u = true) ∧ (∀ u : Nat, u < n → (u : Int) = nx (o k) → ls u = false) ∧ ((∀ u : Nat, u < n → (u : Int) = nx (o k) → awC n nx (sup dn (o k)) u ≠ 0) → KI n nx ls (sup dn (o k)) c (k + 1) n o) ∧ (∀ u : Nat, u < n → (u : Int) = nx (o k) → awC n nx (sup dn (o k)) u = 0 → KI n nx (sup ls u) (sup dn (o k)) (c + 1) (k + 1) n (supI o c u)) := by
  have hnd := KI_nd h hk
  have hok := (h.1 k hk).1
  have hdo := awC_do (nx := nx) hok hnd
  have hcc := KI_c h
  have hpos : ∀ u : Nat, u < n → (u : Int) = nx (o k) → ls u = false := fun u hu he => by
    cases q : ls u with
    | false => rfl
    | true =>
      have a1 := (h.2.2.2.2.2.1 u hu q).1
      have := awC_all a1 (o k) hok he.symm
      rw [hnd] at this
      exact Bool.noConfusion this
  have hot : ∀ u, u < n → (u : Int) ≠ nx (o k) → awC n nx (sup dn (o k)) u = 0 → ls u = true := fun u hu he ha => by
    rw [hdo, if_neg (fun q => he q.symm)] at ha
    exact h.2.2.2.2.2.2.1 u hu hu (by omega)
  -- all but the one that it goes to
  obtain ⟨h1, h2, h3, ⟨h4, h5, h6⟩, h7, h8, h9, h10⟩ := h
  have base : ∀ i3 : Nat, (∀ v, v < n → ls v = true → v < i3) → (∀ v, v < n → v < i3 → awC n nx (sup dn (o k)) v = 0 → ls v = true) → KI n nx ls (sup dn (o k)) c (k + 1) i3 o := by
    intro i3 q1 q2
    refine ⟨h1, h2, h3, ⟨by omega, fun p hp => ?_, fun u hu hd => ?_⟩, h7, fun v hv hl => ?_, q2, h10⟩
    · by_cases e : p = k
      · subst e; exact sup_eq
      · exact sup_mo (h5 p (by omega))
    · by_cases e : u = o k
      · exact ⟨k, by omega, e.symm⟩
      · rw [sup_ne e] at hd
        obtain ⟨p, hp, hm⟩ := h6 u hu hd
        exact ⟨p, by omega, hm⟩
    · refine ⟨?_, q1 v hv hl⟩
      rw [hdo, if_neg (fun q => ?_), (h8 v hv hl).1]
      · rfl
      · have := hpos v hv q.symm
        rw [hl] at this
        exact Bool.noConfusion this
  refine ⟨hot, hpos, fun hne => base n (fun v hv _ => hv) (fun v hv _ ha => ?_), fun u hu he ha => ?_⟩
  · by_cases e : (v : Int) = nx (o k)
    · exact absurd ha (hne v hv e)
    · exact hot v hv e ha
  · -- the list without it, then with it
    have hlu := hpos u hu he
    refine ⟨fun p hp => ?_, fun p q hp hq he2 => ?_, fun v hv hl => ?_, ⟨by omega, fun p hp => ?_, fun v hv hd => ?_⟩, ?_, fun v hv hl => ?_, fun v hv _ ha2 => ?_, fun q hq v hv he2 => ?_⟩
    · by_cases e : p = c
      · subst e; rw [supI_eq]; exact ⟨hu, sup_eq⟩
      · rw [supI_ne e]
        obtain ⟨a1, a2⟩ := h1 p (by omega)
        exact ⟨a1, sup_mo a2⟩
    · by_cases e : p = c
      · by_cases e2 : q = c
        · omega
        · subst e
          rw [supI_eq, supI_ne e2] at he2
          have := (h1 q (by omega)).2
          rw [← he2, hlu] at this
          exact Bool.noConfusion this
      · by_cases e2 : q = c
        · subst e2
          rw [supI_eq, supI_ne e] at he2
          have := (h1 p (by omega)).2
          rw [he2, hlu] at this
          exact Bool.noConfusion this
        · rw [supI_ne e, supI_ne e2] at he2
          exact h2 p q (by omega) (by omega) he2
    · by_cases e : v = u
      · exact ⟨c, by omega, by rw [supI_eq, e]⟩
      · rw [sup_ne e] at hl
        obtain ⟨p, hp, hm⟩ := h3 v hv hl
        exact ⟨p, by omega, by rw [supI_ne (by omega)]; exact hm⟩
    · rw [supI_ne (by omega)]
      by_cases e : p = k
      · subst e; exact sup_eq
      · exact sup_mo (h5 p (by omega))
    · by_cases e : v = o k
      · exact ⟨k, by omega, by rw [supI_ne (by omega)]; exact e.symm⟩
      · rw [sup_ne e] at hd
        obtain ⟨p, hp, hm⟩ := h6 v hv hd
        exact ⟨p, by omega, by rw [supI_ne (by omega)]; exact hm⟩
    · rw [cnt_up (p := ls) (q := sup ls u) n hu hlu sup_eq (fun j _ hj => sup_ne hj)]
      omega
    · by_cases e : v = u
      · subst e; exact ⟨ha, hv⟩
      · rw [sup_ne e] at hl
        refine ⟨?_, hv⟩
        rw [hdo, if_neg (fun q => ?_), (h8 v hv hl).1]
        · rfl
        · rw [← he] at q; omega
    · by_cases e : v = u
      · subst e; exact sup_eq
      · exact sup_mo (hot v hv (fun q => by rw [← he] at q; omega) ha2)
    · by_cases e : q = c
      · subst e
        rw [supI_eq] at he2
        have hd := awC_all ha v hv he2
        by_cases e3 : v = o k
        · exact ⟨k, by omega, by rw [supI_ne (by omega)]; exact e3.symm⟩
        · rw [sup_ne e3] at hd
          obtain ⟨p, hp, hm⟩ := h6 v hv hd
          exact ⟨p, by omega, by rw [supI_ne (by omega)]; exact hm⟩
      · rw [supI_ne e] at he2
        obtain ⟨p, hp, hm⟩ := h10 q (by omega) v hv he2
        exact ⟨p, hp, by rw [supI_ne (by omega)]; exact hm⟩
/-- where water goes down all are listed at the end -/
theorem KI_all {n : Nat} {nx H : Nat → Int} {ls dn : Nat → Bool} {c : Nat} {o : Nat → Nat} (h : KI n nx ls dn c c n o) (hH : ∀ j, j < n → 0 ≤ H j ∧ H j ≤ 999) (hdw : ∀ u v : Nat, u < n → v < n → nx u = v → H v < H u) : ∀ v, v < n → ls v = true := by
  have key : ∀ (r : Nat) (v : Nat), v < n → 999 - H v ≤ r → ls v = true := by
    intro r
    induction r with
    | zero =>
      intro v hv hr
      refine h.2.2.2.2.2.2.1 v hv hv (cnt_0 n (fun u hu => ?_))
      by_cases e : nx u = v
      · have := hdw u v hu hv e; have := hH u hu; omega
      · simp [e]
    | succ r ih =>
      intro v hv hr
      refine h.2.2.2.2.2.2.1 v hv hv (cnt_0 n (fun u hu => ?_))
      by_cases e : nx u = v
      · have := hdw u v hu hv e
        obtain ⟨p, hp, hm⟩ := h.2.2.1 u hu (ih u hu (by omega))
        have := h.2.2.2.1.2.1 p hp
        rw [hm] at this
        simp [this]
      · simp [e]
  intro v hv
  exact key 999 v hv (by have := hH v hv; omega)
