/-! Streams: what is passed down, told of numbers alone -/
theorem smH_sup {g : Nat → Int} {v : Nat} {z : Int} : ∀ n : Nat, v < n → smH (supI g v z) n = smH g n + z - g v := by
  have lo : ∀ n : Nat, n ≤ v → smH (supI g v z) n = smH g n := by
    intro n
    induction n with
    | zero => intro _; rfl
    | succ n ih => intro h; unfold smH; rw [ih (by omega), supI_ne (by omega)]
  intro n
  induction n with
  | zero => intro h; omega
  | succ n ih =>
    intro h
    unfold smH
    by_cases e : v = n
    · subst e; rw [lo v (Nat.le_refl _), supI_eq]; omega
    · rw [ih (by omega), supI_ne (by omega)]; omega
theorem smH_nn {g : Nat → Int} : ∀ n : Nat, (∀ j, j < n → 0 ≤ g j) → 0 ≤ smH g n := by
  intro n
  induction n with
  | zero => intro _; exact Int.le_refl _
  | succ n ih => intro h; have := ih (fun j hj => h j (by omega)); have := h n (by omega); unfold smH; omega
theorem smH_le {g : Nat → Int} {v : Nat} : ∀ n : Nat, (∀ j, j < n → 0 ≤ g j) → v < n → g v ≤ smH g n := by
  intro n
  induction n with
  | zero => intro _ h; omega
  | succ n ih =>
    intro h hv
    have h1 := h n (by omega)
    have h2 := smH_nn n (fun j hj => h j (by omega))
    unfold smH
    by_cases e : v = n
    · subst e; omega
    · have := ih (fun j hj => h j (by omega)) (by omega); omega
theorem smH_cg {g f : Nat → Int} : ∀ n : Nat, (∀ j, j < n → g j = f j) → smH g n = smH f n := by
  intro n
  induction n with
  | zero => intro _; rfl
  | succ n ih => intro h; unfold smH; rw [ih (fun j hj => h j (by omega)), h n (by omega)]
theorem smH_1 : ∀ n : Nat, smH (fun _ => 1) n = n := by
  intro n
  induction n with
  | zero => rfl
  | succ n ih => unfold smH; rw [ih]; omega
/-- flows, ranks, lengths, shared -/
abbrev PD : Type := (Nat → Int) × (Nat → Int) × (Nat → Int) × (Nat → Bool)
def pdR (b : Int) (S : PD) (i : Nat) : Nat → Int := supI S.2.1 i (if S.1 i < b then S.2.1 i else if S.2.2.2 i = true ∨ S.2.1 i = 0 then S.2.1 i + 1 else S.2.1 i)
def pdL (b : Int) (S : PD) (i : Nat) : Nat → Int := supI S.2.2.1 i (if S.1 i < b then S.2.2.1 i else S.2.2.1 i + 1)
def pdS (b : Int) (nx : Nat → Int) (S : PD) (i : Nat) : PD :=
  if nx i < 0 then (S.1, pdR b S i, pdL b S i, S.2.2.2) else
  (supI S.1 (nx i).toNat (S.1 (nx i).toNat + S.1 i), supI (pdR b S i) (nx i).toNat (max (pdR b S i (nx i).toNat) (pdR b S i i)), supI (pdL b S i) (nx i).toNat (max (pdL b S i (nx i).toNat) (pdL b S i i)), supI S.2.2.2 (nx i).toNat (decide (pdR b S i i = pdR b S i (nx i).toNat) || (S.2.2.2 (nx i).toNat && decide (pdR b S i i < pdR b S i (nx i).toNat))))
def pdK (b : Int) (nx : Nat → Int) (od : Nat → Nat) : Nat → PD
  | 0 => (fun _ => 1, fun _ => 0, fun _ => 0, fun _ => false)
  | k + 1 => pdS b nx (pdK b nx od k) (od k)
def dnk (od : Nat → Nat) : Nat → Nat → Bool
  | 0 => fun _ => false
  | k + 1 => sup (dnk od k) (od k)
theorem dnk_iff {od : Nat → Nat} {v : Nat} : ∀ k : Nat, dnk od k v = true ↔ ∃ p, p < k ∧ od p = v := by
  intro k
  induction k with
  | zero => exact ⟨fun h => Bool.noConfusion h, fun ⟨p, hp, _⟩ => absurd hp (by omega)⟩
  | succ k ih =>
    show sup (dnk od k) (od k) v = true ↔ _
    by_cases e : v = od k
    · rw [e, sup_eq]
      exact ⟨fun _ => ⟨k, by omega, rfl⟩, fun _ => rfl⟩
    · rw [sup_ne e, ih]
      constructor
      · rintro ⟨p, hp, hm⟩; exact ⟨p, by omega, hm⟩
      · rintro ⟨p, hp, hm⟩
        exact ⟨p, by rcases Nat.lt_succ_iff_lt_or_eq.mp hp with q | q; exact q; subst q; exact absurd hm.symm e, hm⟩
/-- an order: each FIELD once, behind all that go to it -/
theorem Ord_nd {n : Nat} {nx : Nat → Int} {od : Nat → Nat} (h : OrdOK n nx od) {k : Nat} (hk : k < n) : dnk od k (od k) = false := by
  cases q : dnk od k (od k) with
  | false => rfl
  | true =>
    obtain ⟨p, hp, hm⟩ := (dnk_iff k).mp q
    have := h.2.1 p k (by omega) hk hm
    omega
theorem Ord_nt {n : Nat} {nx : Nat → Int} {od : Nat → Nat} (h : OrdOK n nx od) {k t : Nat} (hk : k < n) (ht : t < n) (he : nx (od k) = t) : dnk od (k + 1) t = false := by
  cases q : dnk od (k + 1) t with
  | false => rfl
  | true =>
    obtain ⟨p, hp, hm⟩ := (dnk_iff (k + 1)).mp q
    obtain ⟨r, hr, hm2⟩ := h.2.2.2 p (by omega) (od k) (h.1 k hk) (by rw [he, hm])
    have := h.2.1 r k (by omega) hk hm2
    omega
/-- the flows of what is not passed on make up all -/
theorem pd_inv {n : Nat} {nx : Nat → Int} {od : Nat → Nat} {b : Int} (h : OrdOK n nx od) (hnx : ∀ j, j < n → -1 ≤ nx j ∧ nx j < n) : ∀ k : Nat, k ≤ n → smH (fun v => if dnk od k v = true ∧ 0 ≤ nx v then 0 else (pdK b nx od k).1 v) n = n ∧ ∀ v, v < n → (1 ≤ (pdK b nx od k).1 v ∧ (pdK b nx od k).1 v ≤ n) ∧ (0 ≤ (pdK b nx od k).2.1 v ∧ (pdK b nx od k).2.1 v ≤ k) ∧ (0 ≤ (pdK b nx od k).2.2.1 v ∧ (pdK b nx od k).2.2.1 v ≤ k) := by
  intro k
  induction k with
  | zero =>
    intro _
    refine ⟨?_, fun v hv => ⟨⟨?_, ?_⟩, ⟨?_, ?_⟩, ⟨?_, ?_⟩⟩⟩
    · refine (smH_cg (g := fun v => if dnk od 0 v = true ∧ 0 ≤ nx v then 0 else (pdK b nx od 0).1 v) (f := fun _ => 1) n (fun j _ => ?_)).trans (smH_1 n)
      exact if_neg (fun q => Bool.noConfusion (show false = true from q.1))
    all_goals (simp only [pdK]; omega)
  | succ k ih =>
    intro hk
    obtain ⟨i1, i2⟩ := ih (by omega)
    have hok := h.1 k (by omega)
    have hnd := Ord_nd h (show k < n by omega)
    have hb := hnx (od k) hok
    obtain ⟨f1, r1, l1⟩ := i2 (od k) hok
    have eR : ∀ v, v < n → 0 ≤ pdR b (pdK b nx od k) (od k) v ∧ pdR b (pdK b nx od k) (od k) v ≤ ((k + 1 : Nat) : Int) := by
      intro v hv
      unfold pdR
      by_cases e : v = od k
      · subst e; rw [supI_eq]; repeat' split
        all_goals omega
      · rw [supI_ne e]; have := (i2 v hv).2.1; omega
    have eL : ∀ v, v < n → 0 ≤ pdL b (pdK b nx od k) (od k) v ∧ pdL b (pdK b nx od k) (od k) v ≤ ((k + 1 : Nat) : Int) := by
      intro v hv
      unfold pdL
      by_cases e : v = od k
      · subst e; rw [supI_eq]; split <;> omega
      · rw [supI_ne e]; have := (i2 v hv).2.2; omega
    show smH (fun v => if dnk od (k + 1) v = true ∧ 0 ≤ nx v then 0 else (pdS b nx (pdK b nx od k) (od k)).1 v) n = n ∧ ∀ v, v < n → (1 ≤ (pdS b nx (pdK b nx od k) (od k)).1 v ∧ (pdS b nx (pdK b nx od k) (od k)).1 v ≤ n) ∧ (0 ≤ (pdS b nx (pdK b nx od k) (od k)).2.1 v ∧ (pdS b nx (pdK b nx od k) (od k)).2.1 v ≤ ((k + 1 : Nat) : Int)) ∧ (0 ≤ (pdS b nx (pdK b nx od k) (od k)).2.2.1 v ∧ (pdS b nx (pdK b nx od k) (od k)).2.2.1 v ≤ ((k + 1 : Nat) : Int))
    unfold pdS
    by_cases hneg : nx (od k) < 0
    · rw [if_pos hneg]
      refine ⟨?_, fun v hv => ⟨(i2 v hv).1, eR v hv, eL v hv⟩⟩
      rw [← i1]
      refine smH_cg n (fun j hj => ?_)
      show (if sup (dnk od k) (od k) j = true ∧ 0 ≤ nx j then 0 else (pdK b nx od k).1 j) = (if dnk od k j = true ∧ 0 ≤ nx j then 0 else (pdK b nx od k).1 j)
      by_cases e : j = od k
      · subst e; rw [if_neg (fun q => by omega), if_neg (fun q => by omega)]
      · rw [sup_ne e]
    · rw [if_neg hneg]
      obtain ⟨t, ht⟩ : ∃ t : Nat, (t : Int) = nx (od k) := ⟨(nx (od k)).toNat, by omega⟩
      have ht2 : (nx (od k)).toNat = t := by omega
      rw [ht2]
      have htn : t < n := by omega
      have hnt := Ord_nt h (show k < n by omega) htn ht.symm
      have htk : t ≠ od k := fun e => by
        have : dnk od (k + 1) t = true := by rw [e]; exact sup_eq
        rw [hnt] at this
        exact Bool.noConfusion this
      have hdt : dnk od k t = false := by
        have : sup (dnk od k) (od k) t = false := hnt
        rwa [sup_ne htk] at this
      have gi : (if dnk od k (od k) = true ∧ 0 ≤ nx (od k) then 0 else (pdK b nx od k).1 (od k)) = (pdK b nx od k).1 (od k) := if_neg (fun q => by rw [hnd] at q; exact Bool.noConfusion q.1)
      have gt : (if dnk od k t = true ∧ 0 ≤ nx t then 0 else (pdK b nx od k).1 t) = (pdK b nx od k).1 t := if_neg (fun q => by rw [hdt] at q; exact Bool.noConfusion q.1)
      have e1 : smH (fun v => if dnk od (k + 1) v = true ∧ 0 ≤ nx v then 0 else supI (pdK b nx od k).1 t ((pdK b nx od k).1 t + (pdK b nx od k).1 (od k)) v) n = smH (supI (supI (fun v => if dnk od k v = true ∧ 0 ≤ nx v then 0 else (pdK b nx od k).1 v) (od k) 0) t ((pdK b nx od k).1 t + (pdK b nx od k).1 (od k))) n := by
        refine smH_cg n (fun j hj => ?_)
        show (if sup (dnk od k) (od k) j = true ∧ 0 ≤ nx j then 0 else supI (pdK b nx od k).1 t ((pdK b nx od k).1 t + (pdK b nx od k).1 (od k)) j) = _
        by_cases e : j = t
        · subst e; rw [sup_ne htk, supI_eq, supI_eq, if_neg (fun q => by rw [hdt] at q; exact Bool.noConfusion q.1)]
        · rw [supI_ne e, supI_ne e]
          by_cases e2 : j = od k
          · subst e2; rw [sup_eq, supI_eq, if_pos ⟨rfl, by omega⟩]
          · rw [sup_ne e2, supI_ne e2]
      have e2 := smH_sup (g := fun v => if dnk od k v = true ∧ 0 ≤ nx v then 0 else (pdK b nx od k).1 v) (v := od k) (z := 0) n hok
      have e3 := smH_sup (g := supI (fun v => if dnk od k v = true ∧ 0 ≤ nx v then 0 else (pdK b nx od k).1 v) (od k) 0) (v := t) (z := (pdK b nx od k).1 t + (pdK b nx od k).1 (od k)) n htn
      rw [supI_ne htk] at e3
      simp only [gi, gt] at e2 e3
      have tot : smH (fun v => if dnk od (k + 1) v = true ∧ 0 ≤ nx v then 0 else supI (pdK b nx od k).1 t ((pdK b nx od k).1 t + (pdK b nx od k).1 (od k)) v) n = n := by
        rw [e1, e3, e2, i1]
        omega
      refine ⟨tot, fun v hv => ⟨?_, ?_, ?_⟩⟩
      · by_cases e : v = t
        · subst e
          have hle := smH_le (g := fun u => if dnk od (k + 1) u = true ∧ 0 ≤ nx u then 0 else supI (pdK b nx od k).1 v ((pdK b nx od k).1 v + (pdK b nx od k).1 (od k)) u) (v := v) n (fun j hj => by
            show 0 ≤ (if dnk od (k + 1) j = true ∧ 0 ≤ nx j then 0 else supI (pdK b nx od k).1 v ((pdK b nx od k).1 v + (pdK b nx od k).1 (od k)) j)
            split
            · exact Int.le_refl _
            · by_cases e : j = v
              · subst e; rw [supI_eq]; have := (i2 j hj).1; omega
              · rw [supI_ne e]; have := (i2 j hj).1; omega) hv
          rw [tot] at hle
          simp only [hnt] at hle
          rw [if_neg (fun q => Bool.noConfusion q.1), supI_eq] at hle
          have := (i2 v hv).1
          show 1 ≤ supI _ v _ v ∧ supI _ v _ v ≤ (n : Int)
          rw [supI_eq]
          omega
        · show 1 ≤ supI _ t _ v ∧ supI _ t _ v ≤ (n : Int)
          rw [supI_ne e]; exact (i2 v hv).1
      · show 0 ≤ supI _ t _ v ∧ supI _ t _ v ≤ ((k + 1 : Nat) : Int)
        by_cases e : v = t
        · subst e; rw [supI_eq]; have := eR v hv; have := eR (od k) hok; omega
        · rw [supI_ne e]; exact eR v hv
      · show 0 ≤ supI _ t _ v ∧ supI _ t _ v ≤ ((k + 1 : Nat) : Int)
        by_cases e : v = t
        · subst e; rw [supI_eq]; have := eL v hv; have := eL (od k) hok; omega
        · rw [supI_ne e]; exact eL v hv
