/-! THE FLAT LAND: what the class answers and what the reference answers, compared -/
abbrev zF : Nat → Int := fun _ => 0
theorem x_int (x : Int32) : ∃ z : Int, x = iI z ∧ -2147483648 ≤ z ∧ z ≤ 2147483647 := ⟨x.toInt, (Int32.ofInt_toInt x).symm, by have := Int32.le_toInt x; omega, by have := Int32.toInt_lt x; omega⟩
theorem up0 {o : Nat → Int64} {v : Int64} : vp_updL o 0 v 0 = v := if_pos rfl
theorem up0i {o : Nat → Int64} {v w : Int32} (h : v = w) : vp_updL o 0 v.toInt64 0 = w.toInt64 := h ▸ up0
theorem iI_00 : iI 0 = (0 : Int32) := by decide +kernel
theorem nx_flat0 : ∀ v, v < 144 → nxF 12 12 zF v < 0 := by decide +kernel
theorem hno0 : ∀ lev, LvOK 12 12 144 zF lev → ∀ j, j < 144 → lev j = zF j := by
  have e : zF = oneH 0 0 := by
    funext j
    unfold oneH supI
    split <;> rfl
  intro lev h j hj
  rw [e] at h ⊢
  exact lv_one (w := 12) (h := 12) (n := 144) ⟨by omega, by omega⟩ ⟨by omega, by omega⟩ (by omega) (by omega) (by omega) h j hj
theorem hno1 {f : Nat} {z : Int} (hf : f < 144) (hz : 0 ≤ z) : ∀ lev, LvOK 12 12 144 (supI zF f z) lev → ∀ j, j < 144 → lev j = supI zF f z j := fun _ h j hj => lv_one (w := 12) (h := 12) (n := 144) ⟨by omega, by omega⟩ ⟨by omega, by omega⟩ (by omega) hf hz h j hj
theorem supI_0 {i : Nat} : supI (fun _ : Nat => (0 : Int)) i 0 = fun _ => 0 := by
  funext j
  unfold supI
  split <;> rfl
theorem pd_flat {nx : Nat → Int} {od : Nat → Nat} {n : Nat} {b : Int} (hb : 1 < b) (hod : ∀ p, p < n → od p < n) (hnx : ∀ v, v < n → nx v < 0) : ∀ k : Nat, k ≤ n → (pdK b nx od k).1 = (fun _ => 1) ∧ (pdK b nx od k).2.1 = (fun _ => 0) ∧ (pdK b nx od k).2.2.1 = (fun _ => 0) := by
  intro k
  induction k with
  | zero => intro _; exact ⟨rfl, rfl, rfl⟩
  | succ k ih =>
    intro hk
    obtain ⟨i1, i2, i3⟩ := ih (by omega)
    have e : pdK b nx od (k + 1) = pdS b nx (pdK b nx od k) (od k) := rfl
    have e2 : pdS b nx (pdK b nx od k) (od k) = ((pdK b nx od k).1, pdR b (pdK b nx od k) (od k), pdL b (pdK b nx od k) (od k), (pdK b nx od k).2.2.2) := by
      unfold pdS
      rw [if_pos (hnx _ (hod k (by omega)))]
    rw [e, e2]
    refine ⟨i1, ?_, ?_⟩
    · show pdR b (pdK b nx od k) (od k) = fun _ => 0
      unfold pdR
      rw [i1, i2]
      dsimp only
      rw [if_pos hb]
      exact supI_0
    · show pdL b (pdK b nx od k) (od k) = fun _ => 0
      unfold pdL
      rw [i1, i3]
      dsimp only
      rw [if_pos hb]
      exact supI_0
theorem pd_flat0 {od : Nat → Nat} (h : OrdOK 144 (nxF 12 12 zF) od) : (pdK 5 (nxF 12 12 zF) od 144).1 = (fun _ => 1) ∧ (pdK 5 (nxF 12 12 zF) od 144).2.1 = (fun _ => 0) ∧ (pdK 5 (nxF 12 12 zF) od 144).2.2.1 = (fun _ => 0) := pd_flat (by omega) h.1 nx_flat0 144 (Nat.le_refl _)
theorem mx_flat : mxH (fun _ => 0) 144 = 0 := by decide +kernel
theorem ba_flat : cnt (fun j => decide (drF 12 12 zF j = 8)) 144 + cnt (fun j => decide (drF 12 12 zF j = 9)) 144 = cnt (fun j => decide (8 ≤ drF 12 12 zF j)) 144 := by decide +kernel
theorem pi_flat : cnt (fun j => decide (drF 12 12 zF j = 9)) 144 = cnt (fun j => decide (9 ≤ drF 12 12 zF j)) 144 := by decide +kernel
theorem sm_flat : cnt (fun j => decide (zF j ≠ sfH 12 12 zF j)) 144 = 0 := by decide +kernel
theorem lsm_flat {k : Int} {fw : Nat → Int} : ∀ n : Nat, n ≤ 144 → lsm k zF (nxF 12 12 zF) fw n = 0 := by
  intro n
  induction n with
  | zero => intro _; rfl
  | succ n ih =>
    intro hn
    have e : losH k zF (nxF 12 12 zF) fw n = 0 := by
      unfold losH
      rw [if_pos (nx_flat0 n (by omega))]
    show lsm k zF (nxF 12 12 zF) fw n + losH k zF (nxF 12 12 zF) fw n = 0
    rw [ih (by omega), e]
    rfl
theorem lk_rk {y u : Int} : ∀ m : Nat, lkF 12 144 zF y u (m + 1) = (rkF zF y u m, cnt (fun j => seeB 12 zF (rkF zF y u m) y u ((j : Int) % 12) ((j : Int) / 12)) 144) := by
  intro m
  induction m with
  | zero =>
    have cb := cnt_bd (fun j => seeB 12 zF ((0 : Nat) : Int) y u ((j : Int) % 12) ((j : Int) / 12)) 144
    show (if (lkF 12 144 zF y u 0).2 < cnt (fun j => seeB 12 zF ((0 : Nat) : Int) y u ((j : Int) % 12) ((j : Int) / 12)) 144 then (((0 : Nat) : Int), cnt (fun j => seeB 12 zF ((0 : Nat) : Int) y u ((j : Int) % 12) ((j : Int) / 12)) 144) else lkF 12 144 zF y u 0) = (0, cnt (fun j => seeB 12 zF ((0 : Nat) : Int) y u ((j : Int) % 12) ((j : Int) / 12)) 144)
    by_cases q : (lkF 12 144 zF y u 0).2 < cnt (fun j => seeB 12 zF ((0 : Nat) : Int) y u ((j : Int) % 12) ((j : Int) / 12)) 144
    · rw [if_pos q]; rfl
    · rw [if_neg q]
      have q2 : ¬ ((0 : Int) < cnt (fun j => seeB 12 zF ((0 : Nat) : Int) y u ((j : Int) % 12) ((j : Int) / 12)) 144) := q
      have e : cnt (fun j => seeB 12 zF ((0 : Nat) : Int) y u ((j : Int) % 12) ((j : Int) / 12)) 144 = 0 := by omega
      rw [e]
      rfl
  | succ m ih =>
    show (if (lkF 12 144 zF y u (m + 1)).2 < cnt (fun j => seeB 12 zF ((m + 1 : Nat) : Int) y u ((j : Int) % 12) ((j : Int) / 12)) 144 then (((m + 1 : Nat) : Int), cnt (fun j => seeB 12 zF ((m + 1 : Nat) : Int) y u ((j : Int) % 12) ((j : Int) / 12)) 144) else lkF 12 144 zF y u (m + 1)) = _
    rw [ih]
    have er : rkF zF y u (m + 1) = if cnt (fun j => seeB 12 zF (rkF zF y u m) y u ((j : Int) % 12) ((j : Int) / 12)) 144 < cnt (fun j => seeB 12 zF ((m + 1 : Nat) : Int) y u ((j : Int) % 12) ((j : Int) / 12)) 144 then ((m + 1 : Nat) : Int) else rkF zF y u m := rfl
    dsimp only
    by_cases q : cnt (fun j => seeB 12 zF (rkF zF y u m) y u ((j : Int) % 12) ((j : Int) / 12)) 144 < cnt (fun j => seeB 12 zF ((m + 1 : Nat) : Int) y u ((j : Int) % 12) ((j : Int) / 12)) 144
    · rw [er, if_pos q, if_pos q]
    · rw [er, if_neg q, if_neg q]
theorem lk_rk12 {y u : Int} : (lkF 12 144 zF y u ((12 : Int).toNat)).1 = rkF zF y u 11 := by
  rw [show (12 : Int).toNat = 11 + 1 by decide, lk_rk]
theorem dfF_cg {H lv : Nat → Int} {tv tv' : Nat → Nat → Int} {d : Int} {n : Nat} (h : ∀ i, i < n → ∀ k, k < 5 → tv k i = tv' k i) : ∀ m : Nat, m ≤ n → dfF H lv tv d m = dfF H lv tv' d m := by
  intro m
  induction m with
  | zero => intro _; rfl
  | succ m ih =>
    intro hm
    show ((((((dfF H lv tv d m * 31 + H m) * 31 + tv 0 m) * 31 + tv 1 m) * 31 + tv 2 m) * 31 + tv 3 m) * 31 + tv 4 m) * 31 + lv m = ((((((dfF H lv tv' d m * 31 + H m) * 31 + tv' 0 m) * 31 + tv' 1 m) * 31 + tv' 2 m) * 31 + tv' 3 m) * 31 + tv' 4 m) * 31 + lv m
    rw [ih (by omega), h m (by omega) 0 (by omega), h m (by omega) 1 (by omega), h m (by omega) 2 (by omega), h m (by omega) 3 (by omega), h m (by omega) 4 (by omega)]
theorem dg_flat {od : Nat → Nat} (h : OrdOK 144 (nxF 12 12 zF) od) : digF 12 12 zF 5 od 144 = dfF zF zF tv0 ((((((((((((((((dgF (fun k : Nat => toldH 12 12 zF 144 (k : Int)) 58078 5) * 31 + cnt (fun j => decide (8 ≤ drF 12 12 zF j)) 144) * 31 + cnt (fun j => decide (9 ≤ drF 12 12 zF j)) 144) * 31 + 0) * 31 + 0) * 31 + 0) * 31 + 0) * 31 + 0) * 31 + 0) * 31 + 0) * 31 + 0) * 31 + 0) * 31 + 0) * 31 + 0) * 31 + 0) * 31 + 0) 144 := by
  obtain ⟨p1, p2, p3⟩ := pd_flat0 h
  have e := ba_flat
  have e2 := pi_flat
  unfold digF
  rw [p2, p3, mx_flat, ← ba_flat, ← pi_flat]
  rw [dfF_cg (n := 144) (tv' := tv0) (fun i hi k hk => ?_) 144 (Nat.le_refl _)]
  · exact congrArg (fun d => dfF zF zF tv0 d 144) (by omega)
  · match k, hk with
    | 0, _ => rfl
    | 1, _ => show (pdK 5 (nxF 12 12 zF) od 144).1 i = 1; rw [p1]
    | 2, _ => rfl
    | 3, _ => show (pdK 5 (nxF 12 12 zF) od 144).2.1 i = 0; rw [p2]
    | 4, _ => rfl
    | k + 5, hk => omega
theorem en_flat {A1 A2 : Nat → Nat → Int32} {od1 od2 : Nat → Nat} {j : Nat} {z : Int} (hj : j < 144) (hz : 0 ≤ z ∧ z ≤ 999) (h1 : RunOK 12 12 144 zF 5 A1 od1) (h2 : RunOK 12 12 144 (supI zF j z) 5 A2 od2) : cnt (fun i => !decide (A2 6 i = A1 6 i)) 144 = cnt (fun i => decide (0 ≤ nxF 12 12 (supI zF j z) i)) 144 := by
  have key : ∀ i, i < 144 → (!decide (A2 6 i = A1 6 i)) = decide (0 ≤ nxF 12 12 (supI zF j z) i) := by
    intro i hi
    have a1 : A1 6 i = iI i := ((h1.2.2.2 i hi).1 (nx_flat0 i hi)).1
    have n1 : -1 ≤ nxF 12 12 (supI zF j z) i := (nx_one hj hz hi).1
    have n2 : nxF 12 12 (supI zF j z) i < 144 := (nx_one hj hz hi).2.1
    have n3 : 0 ≤ nxF 12 12 (supI zF j z) i → i = j ∧ nxF 12 12 (supI zF j z) i ≠ j ∧ nxF 12 12 (supI zF j z) (nxF 12 12 (supI zF j z) i).toNat = -1 := (nx_one hj hz hi).2.2
    by_cases q : 0 ≤ nxF 12 12 (supI zF j z) i
    · obtain ⟨m1, m2, m3⟩ := n3 q
      have ht : nxF 12 12 (supI zF j z) i = (((nxF 12 12 (supI zF j z) i).toNat : Nat) : Int) := by omega
      have a2 : A2 6 i = A2 6 (nxF 12 12 (supI zF j z) i).toNat := ((h2.2.2.2 i hi).2 _ ht).1
      have a3 : A2 6 (nxF 12 12 (supI zF j z) i).toNat = iI ((nxF 12 12 (supI zF j z) i).toNat : Int) := ((h2.2.2.2 (nxF 12 12 (supI zF j z) i).toNat (by omega)).1 (by rw [m3]; omega)).1
      rw [a1, a2, a3, decide_eq_true q, decide_eq_false]
      · rfl
      · intro e
        have := (iI_eq ⟨by omega, by omega⟩ ⟨by omega, by omega⟩).mp e
        omega
    · have a2 : A2 6 i = iI i := ((h2.2.2.2 i hi).1 (by omega)).1
      rw [a1, a2, decide_eq_false q, decide_eq_true rfl]
      rfl
  have cg : ∀ n : Nat, n ≤ 144 → cnt (fun i => !decide (A2 6 i = A1 6 i)) n = cnt (fun i => decide (0 ≤ nxF 12 12 (supI zF j z) i)) n := by
    intro n
    induction n with
    | zero => intro _; rfl
    | succ n ih =>
      intro hn
      show cnt (fun i => !decide (A2 6 i = A1 6 i)) n + (if (!decide (A2 6 n = A1 6 n)) = true then 1 else 0) = cnt (fun i => decide (0 ≤ nxF 12 12 (supI zF j z) i)) n + (if decide (0 ≤ nxF 12 12 (supI zF j z) n) = true then 1 else 0)
      rw [ih (by omega), key n (by omega)]
  exact cg 144 (Nat.le_refl _)
theorem wy_flat {T TT : Nat → Int} {st e b : Nat} (hT : WyOK 12 12 144 st zF T) (hTT : WyOK 12 12 144 st zF TT) (he : e < 144) : (if 144 ≤ b then -1 else gbF 12 12 st zF T e b) = gbF 12 12 st zF TT e (min (b : Int) 144).toNat := by
  have hcg := gbF_cg (w := 12) (h := 12) (n := 144) (st := st) (e := e) (H := zF) (T := T) (T' := TT) ⟨by omega, by omega⟩ ⟨by omega, by omega⟩ (by omega) (fun j hj => WyOK_eq hT hTT hj) he
  by_cases q : 144 ≤ b
  · rw [if_pos q, show (min (b : Int) 144).toNat = 144 by omega]
    exact (gbF_end (w := 12) (h := 12) (n := 144) ⟨by omega, by omega⟩ ⟨by omega, by omega⟩ (by omega) he).symm
  · rw [if_neg q, show (min (b : Int) 144).toNat = b by omega]
    exact hcg b
theorem nm_bd {x y : Int} (hx : 0 ≤ x ∧ x < 12) (hy : 0 ≤ y ∧ y < 12) : (y * 12 + x).toNat < 144 := by omega
