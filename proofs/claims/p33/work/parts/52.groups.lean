/-! GROUPS as they are: leaders as a function, leaderOf, join; what stays true of them -/
def itf (f : Nat → Nat) : Nat → Nat → Nat
  | 0, i => i
  | k + 1, i => itf f k (f i)
theorem itf_fix {f : Nat → Nat} {i : Nat} (h : f i = i) : ∀ k : Nat, itf f k i = i := by
  intro k
  induction k with
  | zero => rfl
  | succ k ih =>
    show itf f k (f i) = i
    rw [h]
    exact ih
theorem itf_add {f : Nat → Nat} : ∀ (k r i : Nat), itf f (k + r) i = itf f r (itf f k i) := by
  intro k
  induction k with
  | zero => intro r i; rw [Nat.zero_add]; rfl
  | succ k ih =>
    intro r i
    rw [show k + 1 + r = (k + r) + 1 by omega]
    exact ih r (f i)
theorem itf_root {f : Nat → Nat} {i k r : Nat} (h : f (itf f k i) = itf f k i) (hk : k ≤ r) : itf f r i = itf f k i := by
  rw [show r = k + (r - k) by omega, itf_add]
  exact itf_fix h _
theorem itf_lt {f : Nat → Nat} {N : Nat} (hf : ∀ j, j < N → f j < N) : ∀ (k i : Nat), i < N → itf f k i < N := by
  intro k
  induction k with
  | zero => intro i hi; exact hi
  | succ k ih => intro i hi; exact ih (f i) (hf i hi)
/-- the leader: 512 STEPS up -/
def rtF (K : Nat) (f : Nat → Nat) (m : Nat) : Nat := itf f K m
theorem rtF_fix {K : Nat} {f : Nat → Nat} {i : Nat} (h : f i = i) : rtF K f i = i := itf_fix h K
theorem rtF_root {K : Nat} {f : Nat → Nat} {i k : Nat} (h : f (itf f k i) = itf f k i) (hk : k ≤ K) : rtF K f i = itf f k i := itf_root h hk
theorem rtF_lt {K : Nat} {f : Nat → Nat} {N i : Nat} (hf : ∀ j, j < N → f j < N) (hi : i < N) : rtF K f i < N := itf_lt hf K i hi
/-- leaderOf: the leader, and the leaders behind it -/
def ldF (K : Nat) (f : Nat → Nat) (m : Nat) : Nat × (Nat → Nat) := (rtF K f m, supI f m (rtF K f m))
/-- join: whether they had been apart, and the leaders behind it -/
def jnF (K : Nat) (f : Nat → Nat) (one other : Nat) : Bool × (Nat → Nat) := (decide ((ldF K (ldF K f one).2 other).1 ≠ (ldF K f one).1), supI (ldF K (ldF K f one).2 other).2 (ldF K (ldF K f one).2 other).1 (ldF K f one).1)
theorem supI_lt {f : Nat → Nat} {N m z : Nat} (hf : ∀ j, j < N → f j < N) (hz : z < N) : ∀ j, j < N → supI f m z j < N := by
  intro j hj
  by_cases e : j = m
  · rw [e, supI_eq]; exact hz
  · rw [supI_ne e]; exact hf j hj
theorem ldF_lt {K : Nat} {f : Nat → Nat} {m : Nat} (hf : ∀ j, j < 512 → f j < 512) (hm : m < 512) : (ldF K f m).1 < 512 ∧ ∀ j, j < 512 → (ldF K f m).2 j < 512 := ⟨rtF_lt hf hm, supI_lt hf (rtF_lt hf hm)⟩
theorem jnF_lt {K : Nat} {f : Nat → Nat} {a b : Nat} (hf : ∀ j, j < 512 → f j < 512) (ha : a < 512) (hb : b < 512) : ∀ j, j < 512 → (jnF K f a b).2 j < 512 := by
  have h1 := ldF_lt (K := K) hf ha
  have h2 := ldF_lt (K := K) h1.2 hb
  exact supI_lt h2.2 h1.1
/-- of the members of lk: each comes to a leader in at most D, and only over members of lk -/
def GpI (n : Nat) (lk : Nat → Bool) (f : Nat → Nat) (D : Nat) : Prop := ∀ j, j < n → lk j = true → (f j < n ∧ lk (f j) = true) ∧ ∃ k, k ≤ D ∧ f (itf f k j) = itf f k j
theorem GpI_it {n D : Nat} {lk : Nat → Bool} {f : Nat → Nat} (h : GpI n lk f D) : ∀ (k j : Nat), j < n → lk j = true → itf f k j < n ∧ lk (itf f k j) = true := by
  intro k
  induction k with
  | zero => intro j hj hl; exact ⟨hj, hl⟩
  | succ k ih => intro j hj hl; exact ih (f j) (h j hj hl).1.1 (h j hj hl).1.2
theorem GpI_rt {K : Nat} {n D j : Nat} {lk : Nat → Bool} {f : Nat → Nat} (h : GpI n lk f D) (hj : j < n) (hl : lk j = true) : rtF K f j < n ∧ lk (rtF K f j) = true := GpI_it h K j hj hl
theorem rt_some {K : Nat} {f : Nat → Nat} {m : Nat} : ∃ k, itf f k m = rtF K f m := ⟨K, rfl⟩
theorem GpI_root {K : Nat} {n D m : Nat} {lk : Nat → Bool} {f : Nat → Nat} (h : GpI n lk f D) (hD : D ≤ K) (hm : m < n) (hl : lk m = true) : (rtF K f m < n ∧ lk (rtF K f m) = true) ∧ f (rtF K f m) = rtF K f m := by
  obtain ⟨k, hk, hf⟩ := (h m hm hl).2
  refine ⟨GpI_rt h hm hl, ?_⟩
  rw [rtF_root hf (show k ≤ K by omega)]
  exact hf
/-- a member told its leader: all leaders stay -/
theorem ld_same {f : Nat → Nat} {m a : Nat} (ha : f a = a) (hma : ∃ k, itf f k m = a) : ∀ (k j : Nat), f (itf f k j) = itf f k j → ∃ k', k' ≤ k ∧ supI f m a (itf (supI f m a) k' j) = itf (supI f m a) k' j ∧ itf (supI f m a) k' j = itf f k j := by
  obtain ⟨km, hkm⟩ := hma
  have ga : supI f m a a = a := by
    by_cases e : a = m
    · rw [e, supI_eq]
    · rw [supI_ne e, ha]
  intro k
  induction k with
  | zero =>
    intro j hf
    have hf : f j = j := hf
    refine ⟨0, Nat.le_refl _, ?_, rfl⟩
    show supI f m a j = j
    by_cases e : j = m
    · subst e
      rw [supI_eq, ← hkm, itf_fix hf]
    · rw [supI_ne e, hf]
  | succ k ih =>
    intro j hf
    have hf : f (itf f k (f j)) = itf f k (f j) := hf
    by_cases e : j = m
    · subst e
      have hr : itf f (k + 1) j = a := by
        rcases Nat.le_total km (k + 1) with q | q
        · rw [itf_root (by rw [hkm, ha]) q, hkm]
        · rw [← hkm]
          exact (itf_root (show f (itf f (k + 1) j) = itf f (k + 1) j from hf) q).symm
      refine ⟨1, by omega, ?_, ?_⟩
      · show supI f j a (supI f j a j) = supI f j a j
        rw [supI_eq, ga]
      · show supI f j a j = itf f (k + 1) j
        rw [supI_eq, hr]
    · obtain ⟨k', h1, h2, h3⟩ := ih (f j) hf
      have e1 : itf (supI f m a) (k' + 1) j = itf (supI f m a) k' (f j) := by
        show itf (supI f m a) k' (supI f m a j) = _
        rw [supI_ne e]
      exact ⟨k' + 1, by omega, by rw [e1]; exact h2, by rw [e1]; exact h3⟩
theorem GpI_ld {K : Nat} {n D m : Nat} {lk : Nat → Bool} {f : Nat → Nat} (h : GpI n lk f D) (hD : D ≤ K) (hm : m < n) (hl : lk m = true) : GpI n lk (ldF K f m).2 D := by
  have hr := GpI_root h hD hm hl
  intro j hj hlj
  refine ⟨?_, ?_⟩
  · show supI f m (rtF K f m) j < n ∧ lk (supI f m (rtF K f m) j) = true
    by_cases e : j = m
    · rw [e, supI_eq]; exact hr.1
    · rw [supI_ne e]; exact (h j hj hlj).1
  · obtain ⟨k, hk, hf⟩ := (h j hj hlj).2
    obtain ⟨k', h1, h2, -⟩ := ld_same hr.2 rt_some k j hf
    exact ⟨k', by omega, h2⟩
/-- ... and m's is the same again -/
theorem ld_again {K : Nat} {n D m : Nat} {lk : Nat → Bool} {f : Nat → Nat} (h : GpI n lk f D) (hD : D ≤ K) (hm : m < n) (hl : lk m = true) : (ldF K (ldF K f m).2 m).1 = (ldF K f m).1 := by
  have hr := GpI_root h hD hm hl
  obtain ⟨k, hk, hf⟩ := (h m hm hl).2
  obtain ⟨k', h1, h2, h3⟩ := ld_same hr.2 rt_some k m hf
  show rtF K (supI f m (rtF K f m)) m = rtF K f m
  rw [rtF_root h2 (show k' ≤ K by omega), h3, rtF_root hf (show k ≤ K by omega)]
/-- a leader put under another -/
theorem un_same {f : Nat → Nat} {b a : Nat} (ha : f a = a) (hb : f b = b) : ∀ (k j : Nat), f (itf f k j) = itf f k j → ∃ k', k' ≤ k + 1 ∧ supI f b a (itf (supI f b a) k' j) = itf (supI f b a) k' j := by
  have base : ∀ j, f j = j → ∃ k', k' ≤ 1 ∧ supI f b a (itf (supI f b a) k' j) = itf (supI f b a) k' j := by
    intro j hj
    by_cases e : j = b
    · by_cases e2 : a = b
      · refine ⟨0, by omega, ?_⟩
        show supI f b a j = j
        rw [e, supI_eq, e2]
      · refine ⟨1, by omega, ?_⟩
        show supI f b a (supI f b a j) = supI f b a j
        rw [e, supI_eq, supI_ne e2, ha]
    · refine ⟨0, by omega, ?_⟩
      show supI f b a j = j
      rw [supI_ne e, hj]
  intro k
  induction k with
  | zero => intro j hf; exact base j hf
  | succ k ih =>
    intro j hf
    by_cases q : f j = j
    · obtain ⟨k', h1, h2⟩ := base j q
      exact ⟨k', by omega, h2⟩
    · have e : j ≠ b := fun e => q (e ▸ hb)
      obtain ⟨k', h1, h2⟩ := ih (f j) hf
      refine ⟨k' + 1, by omega, ?_⟩
      have e1 : itf (supI f b a) (k' + 1) j = itf (supI f b a) k' (f j) := by
        show itf (supI f b a) k' (supI f b a j) = _
        rw [supI_ne e]
      rw [e1]
      exact h2
theorem GpI_jn {K : Nat} {n D a b : Nat} {lk : Nat → Bool} {f : Nat → Nat} (h : GpI n lk f D) (hD : D ≤ K) (ha : a < n ∧ lk a = true) (hb : b < n ∧ lk b = true) : GpI n lk (jnF K f a b).2 (D + 1) := by
  have h1 := GpI_ld h hD ha.1 ha.2
  have r1 := GpI_root h hD ha.1 ha.2
  have r2 := GpI_root h1 hD hb.1 hb.2
  have h2 := GpI_ld h1 hD hb.1 hb.2
  have fa : (ldF K f a).2 (rtF K f a) = rtF K f a := by
    show supI f a (rtF K f a) (rtF K f a) = rtF K f a
    by_cases e : rtF K f a = a
    · rw [e, supI_eq]
    · rw [supI_ne e, r1.2]
  have keep : ∀ z, (ldF K f a).2 z = z → (ldF K (ldF K f a).2 b).2 z = z := by
    intro z hz
    show supI (ldF K f a).2 b (rtF K (ldF K f a).2 b) z = z
    by_cases e : z = b
    · subst e
      rw [supI_eq, rtF_fix hz]
    · rw [supI_ne e, hz]
  have ka := keep _ fa
  have kb := keep _ r2.2
  intro j hj hlj
  refine ⟨?_, ?_⟩
  · show supI (ldF K (ldF K f a).2 b).2 (ldF K (ldF K f a).2 b).1 (ldF K f a).1 j < n ∧ lk (supI (ldF K (ldF K f a).2 b).2 (ldF K (ldF K f a).2 b).1 (ldF K f a).1 j) = true
    by_cases e : j = (ldF K (ldF K f a).2 b).1
    · rw [e, supI_eq]; exact r1.1
    · rw [supI_ne e]; exact (h2 j hj hlj).1
  · obtain ⟨k, hk, hf⟩ := (h2 j hj hlj).2
    obtain ⟨k', q1, q2⟩ := un_same ka kb k j hf
    exact ⟨k', by omega, q2⟩
/-- how many are leaders -/
def rtN (n : Nat) (lk : Nat → Bool) (f : Nat → Nat) : Int := cnt (fun j => lk j && decide (f j = j)) n
theorem rtN_ld {K : Nat} {n D m : Nat} {lk : Nat → Bool} {f : Nat → Nat} (h : GpI n lk f D) (hD : D ≤ K) (hm : m < n) (hl : lk m = true) : rtN n lk (ldF K f m).2 = rtN n lk f := by
  have hr := GpI_root h hD hm hl
  refine cnt_cg n fun j _ => ?_
  show (lk j && decide (supI f m (rtF K f m) j = j)) = (lk j && decide (f j = j))
  by_cases e : j = m
  · subst e
    rw [supI_eq]
    by_cases q : f j = j
    · rw [rtF_fix q, decide_eq_true rfl, decide_eq_true q]
    · rw [decide_eq_false q, decide_eq_false]
      intro z
      rw [z] at hr
      exact q hr.2
  · rw [supI_ne e]
theorem cnt_less {p q : Nat → Bool} {v : Nat} : ∀ n : Nat, v < n → p v = true → q v = false → (∀ j, j < n → j ≠ v → q j = p j) → cnt q n = cnt p n - 1 := by
  intro n
  induction n with
  | zero => intro hv; exact absurd hv (Nat.not_lt_zero v)
  | succ n ih =>
    intro hv h1 h2 h3
    show cnt q n + (if q n = true then 1 else 0) = cnt p n + (if p n = true then 1 else 0) - 1
    by_cases e : v = n
    · subst e
      rw [cnt_cg v (fun j hj => h3 j (by omega) (by omega)), h1, h2, if_neg Bool.false_ne_true, if_pos rfl]
      omega
    · rw [ih (by omega) h1 h2 (fun j hj hne => h3 j (by omega) hne), h3 n (by omega) (fun q => e q.symm)]
      omega
theorem rtN_jn {K : Nat} {n D a b : Nat} {lk : Nat → Bool} {f : Nat → Nat} (h : GpI n lk f D) (hD : D ≤ K) (ha : a < n ∧ lk a = true) (hb : b < n ∧ lk b = true) : rtN n lk (jnF K f a b).2 = rtN n lk f - (if (jnF K f a b).1 = true then 1 else 0) := by
  have h1 := GpI_ld h hD ha.1 ha.2
  have r1 := GpI_root h hD ha.1 ha.2
  have r2 := GpI_root h1 hD hb.1 hb.2
  have e0 : rtN n lk (ldF K (ldF K f a).2 b).2 = rtN n lk f := (rtN_ld h1 hD hb.1 hb.2).trans (rtN_ld h hD ha.1 ha.2)
  have kb : (ldF K (ldF K f a).2 b).2 (ldF K (ldF K f a).2 b).1 = (ldF K (ldF K f a).2 b).1 := by
    show supI (ldF K f a).2 b (rtF K (ldF K f a).2 b) (rtF K (ldF K f a).2 b) = rtF K (ldF K f a).2 b
    by_cases e : rtF K (ldF K f a).2 b = b
    · rw [e, supI_eq]
    · rw [supI_ne e, r2.2]
  by_cases q : (ldF K (ldF K f a).2 b).1 = (ldF K f a).1
  · have ej : (jnF K f a b).1 = false := decide_eq_false (fun z => z q)
    rw [ej, if_neg Bool.false_ne_true, Int.sub_zero, ← e0]
    refine cnt_cg n fun j _ => ?_
    show (lk j && decide (supI (ldF K (ldF K f a).2 b).2 (ldF K (ldF K f a).2 b).1 (ldF K f a).1 j = j)) = _
    by_cases e : j = (ldF K (ldF K f a).2 b).1
    · rw [e, supI_eq, kb, ← q]
    · rw [supI_ne e]
  · have ej : (jnF K f a b).1 = true := decide_eq_true q
    rw [ej, if_pos rfl, ← e0]
    refine cnt_less (v := (ldF K (ldF K f a).2 b).1) n r2.1.1 ?_ ?_ (fun j _ hne => ?_)
    · show (lk (ldF K (ldF K f a).2 b).1 && decide ((ldF K (ldF K f a).2 b).2 (ldF K (ldF K f a).2 b).1 = (ldF K (ldF K f a).2 b).1)) = true
      rw [kb, decide_eq_true rfl, Bool.and_true]
      exact r2.1.2
    · show (lk (ldF K (ldF K f a).2 b).1 && decide (supI (ldF K (ldF K f a).2 b).2 (ldF K (ldF K f a).2 b).1 (ldF K f a).1 (ldF K (ldF K f a).2 b).1 = (ldF K (ldF K f a).2 b).1)) = false
      rw [supI_eq, decide_eq_false (fun z => q z.symm), Bool.and_false]
    · show (lk j && decide (supI (ldF K (ldF K f a).2 b).2 (ldF K (ldF K f a).2 b).1 (ldF K f a).1 j = j)) = _
      rw [supI_ne hne]
/-! LAKES -/
/-- joinLakes: how many LAKES, the leaders -/
def jlF (K : Nat) (lk : Nat → Bool) (S : Int × (Nat → Nat)) (one : Nat) (other : Int) : Int × (Nat → Nat) := if 0 ≤ other ∧ lk other.toNat = true then (S.1 - (if (jnF K S.2 one other.toNat).1 = true then 1 else 0), (jnF K S.2 one other.toNat).2) else S
/-- find: what the first i FIELDS give -/
def fdF (K : Nat) (w h : Int) (lk : Nat → Bool) : Nat → Int × (Nat → Nat)
  | 0 => (0, fun i => i)
  | i + 1 => if lk i = true then jlF K lk (jlF K lk ((fdF K w h lk i).1 + 1, (fdF K w h lk i).2) i (nbi w h i 0)) i (nbi w h i 2) else fdF K w h lk i
/-- that many are found as there are leaders, but for those that wait -/
def FdI (n : Nat) (lk : Nat → Bool) (S : Int × (Nat → Nat)) (D : Nat) (wait : Int) : Prop := GpI n lk S.2 D ∧ S.1 + wait = rtN n lk S.2
theorem FdI_jl {K : Nat} {w h : Int} {n D i d : Nat} {lk : Nat → Bool} {S : Int × (Nat → Nat)} {wait : Int} (hw : 2 ≤ w ∧ w ≤ 16) (hh : 2 ≤ h ∧ h ≤ 16) (hnw : (n : Int) = w * h) (hS : FdI n lk S D wait) (hD : D ≤ K) (hi : i < n ∧ lk i = true) : FdI n lk (jlF K lk S i (nbi w h i d)) (D + 1) wait := by
  have bd := nbi_bd hw hh i d
  unfold jlF
  by_cases q : 0 ≤ nbi w h i d ∧ lk (nbi w h i d).toNat = true
  · rw [if_pos q]
    refine ⟨GpI_jn hS.1 hD hi ⟨by omega, q.2⟩, ?_⟩
    have e := rtN_jn hS.1 hD hi ⟨show (nbi w h i d).toNat < n by omega, q.2⟩
    have e2 := hS.2
    dsimp only
    omega
  · rw [if_neg q]
    refine ⟨fun j hj hl => ⟨(hS.1 j hj hl).1, ?_⟩, hS.2⟩
    obtain ⟨k, hk, hf⟩ := (hS.1 j hj hl).2
    exact ⟨k, by omega, hf⟩
theorem FdI_fd {K : Nat} {w h : Int} {n : Nat} {lk : Nat → Bool} (hK : 512 ≤ K) (hw : 2 ≤ w ∧ w ≤ 16) (hh : 2 ≤ h ∧ h ≤ 16) (hnw : (n : Int) = w * h) : ∀ i : Nat, i ≤ n → FdI n lk (fdF K w h lk i) (2 * i) (cnt lk n - cnt lk i) := by
  have wh := wh_bd hw hh
  intro i
  induction i with
  | zero =>
    intro _
    refine ⟨fun j hj hl => ⟨⟨hj, hl⟩, 0, by omega, rfl⟩, ?_⟩
    show (0 : Int) + (cnt lk n - 0) = cnt (fun j => lk j && decide (j = j)) n
    have ec : cnt (fun j => lk j && decide (j = j)) n = cnt lk n := cnt_cg n (fun j _ => by rw [decide_eq_true rfl, Bool.and_true])
    omega
  | succ i ih =>
    intro hi
    have hS := ih (by omega)
    have ec : cnt lk (i + 1) = cnt lk i + (if lk i = true then 1 else 0) := rfl
    have ef : fdF K w h lk (i + 1) = if lk i = true then jlF K lk (jlF K lk ((fdF K w h lk i).1 + 1, (fdF K w h lk i).2) i (nbi w h i 0)) i (nbi w h i 2) else fdF K w h lk i := rfl
    by_cases q : lk i = true
    · rw [ef, if_pos q, ec, if_pos q]
      have s0 : FdI n lk ((fdF K w h lk i).1 + 1, (fdF K w h lk i).2) (2 * i) (cnt lk n - (cnt lk i + 1)) := ⟨hS.1, by have := hS.2; dsimp only; omega⟩
      have s1 := FdI_jl (K := K) (d := 0) hw hh hnw s0 (by omega) ⟨by omega, q⟩
      exact FdI_jl (K := K) (d := 2) (D := 2 * i + 1) hw hh hnw s1 (by omega) ⟨by omega, q⟩
    · rw [ef, if_neg q, ec, if_neg q, Int.add_zero]
      refine ⟨fun j hj hl => ⟨(hS.1 j hj hl).1, ?_⟩, hS.2⟩
      obtain ⟨k, hk, hf⟩ := (hS.1 j hj hl).2
      exact ⟨k, by omega, hf⟩
theorem cnt_some {p : Nat → Bool} {v : Nat} : ∀ n : Nat, v < n → p v = true → 1 ≤ cnt p n := by
  intro n
  induction n with
  | zero => intro hv; exact absurd hv (Nat.not_lt_zero v)
  | succ n ih =>
    intro hv hp
    show 1 ≤ cnt p n + (if p n = true then 1 else 0)
    by_cases e : v = n
    · subst e
      have := (cnt_bd p v).1
      rw [if_pos hp]
      omega
    · have := ih (by omega) hp
      split <;> omega
/-- as many LAKES as the count says: some where one FIELD lies under its LEVEL, none where none does, never more than FIELDS -/
theorem fd_count {K : Nat} {w h : Int} {n : Nat} {lk : Nat → Bool} (hK : 512 ≤ K) (hw : 2 ≤ w ∧ w ≤ 16) (hh : 2 ≤ h ∧ h ≤ 16) (hnw : (n : Int) = w * h) : 0 ≤ (fdF K w h lk n).1 ∧ (fdF K w h lk n).1 ≤ n ∧ (∀ v, v < n → lk v = true → 1 ≤ (fdF K w h lk n).1) ∧ ((∀ v, v < n → lk v = false) → (fdF K w h lk n).1 = 0) := by
  have wh := wh_bd hw hh
  obtain ⟨h1, h2⟩ := FdI_fd (K := K) (lk := lk) hK hw hh hnw n (Nat.le_refl _)
  have e : (fdF K w h lk n).1 = rtN n lk (fdF K w h lk n).2 := by omega
  have bd := cnt_bd (fun j => lk j && decide ((fdF K w h lk n).2 j = j)) n
  rw [e]
  refine ⟨bd.1, bd.2, fun v hv hl => ?_, fun hno => cnt_0 n (fun j hj => by rw [hno j hj]; rfl)⟩
  have hr := GpI_root (K := K) h1 (by omega) hv hl
  refine cnt_some (v := rtF K (fdF K w h lk n).2 v) n hr.1.1 ?_
  show (lk (rtF K (fdF K w h lk n).2 v) && decide ((fdF K w h lk n).2 (rtF K (fdF K w h lk n).2 v) = rtF K (fdF K w h lk n).2 v)) = true
  rw [hr.2, decide_eq_true rfl, Bool.and_true]
  exact hr.1.2
/-- inOneLake, the leaders behind it -/
def olF (K : Nat) (lk : Nat → Bool) (f : Nat → Nat) (one other : Nat) : Bool × (Nat → Nat) := if lk one = true ∧ lk other = true then (decide ((ldF K f one).1 = (ldF K (ldF K f one).2 other).1), (ldF K (ldF K f one).2 other).2) else (false, f)
/-- contentOfLake over the first i FIELDS, the leaders behind it -/
def coF (K : Nat) (lk : Nat → Bool) (dp : Nat → Int) (f : Nat → Nat) (m : Nat) : Nat → Int × (Nat → Nat)
  | 0 => (0, f)
  | i + 1 => ((coF K lk dp f m i).1 + (if (olF K lk (coF K lk dp f m i).2 m i).1 = true then dp i else 0), (olF K lk (coF K lk dp f m i).2 m i).2)
theorem GpI_ol {K : Nat} {n D a b : Nat} {lk : Nat → Bool} {f : Nat → Nat} (h : GpI n lk f D) (hD : D ≤ K) (ha : a < n) (hb : b < n) : GpI n lk (olF K lk f a b).2 D := by
  unfold olF
  by_cases q : lk a = true ∧ lk b = true
  · rw [if_pos q]
    exact GpI_ld (GpI_ld h hD ha q.1) hD hb q.2
  · rw [if_neg q]
    exact h
theorem co_pos {K : Nat} {n D m : Nat} {lk : Nat → Bool} {dp : Nat → Int} {f : Nat → Nat} (h : GpI n lk f D) (hD : D ≤ K) (hm : m < n) (hdp : ∀ j, j < n → 0 ≤ dp j ∧ (lk j = true → 0 < dp j)) : ∀ i : Nat, i ≤ n → GpI n lk (coF K lk dp f m i).2 D ∧ 0 ≤ (coF K lk dp f m i).1 ∧ (lk m = true → m < i → 0 < (coF K lk dp f m i).1) ∧ (lk m = false → (coF K lk dp f m i).1 = 0) := by
  intro i
  induction i with
  | zero => intro _; exact ⟨h, Int.le_refl _, fun _ hi => absurd hi (Nat.not_lt_zero m), fun _ => rfl⟩
  | succ i ih =>
    intro hi
    obtain ⟨i1, i2, i3, i4⟩ := ih (by omega)
    have e : (coF K lk dp f m (i + 1)).1 = (coF K lk dp f m i).1 + (if (olF K lk (coF K lk dp f m i).2 m i).1 = true then dp i else 0) := rfl
    have d0 := (hdp i (by omega)).1
    refine ⟨GpI_ol i1 hD hm (by omega), ?_, fun hl hmi => ?_, fun hl => ?_⟩
    · rw [e]; split <;> omega
    · rw [e]
      by_cases q : m = i
      · subst q
        have eo : (olF K lk (coF K lk dp f m m).2 m m).1 = true := by
          unfold olF
          rw [if_pos ⟨hl, hl⟩]
          exact decide_eq_true (ld_again i1 hD hm hl).symm
        rw [if_pos eo]
        have := (hdp m hm).2 hl
        omega
      · have := i3 hl (by omega)
        split <;> omega
    · rw [e, i4 hl]
      have eo : (olF K lk (coF K lk dp f m i).2 m i).1 = false := by
        unfold olF
        rw [if_neg (fun z => by rw [hl] at z; exact Bool.false_ne_true z.1)]
      rw [eo, if_neg Bool.false_ne_true]
      rfl
