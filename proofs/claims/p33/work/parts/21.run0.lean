/-! Streams.run where no water goes anywhere -/
theorem wV_f {V : Nat → Int32} {k : Nat} {x y : Int32} : wV (wV V k x) k y = wV V k y := by
  funext j
  by_cases h : j = k <;> simp [va_up, h]
theorem wA_c {A : Nat → Nat → Int32} {k l : Nat} {f g : Nat → Int32} (h : k ≠ l) : wA (wA A k f) l g = wA (wA A l g) k f := by
  funext j
  by_cases h1 : j = k
  · subst h1
    simp [va_up, h]
  · by_cases h2 : j = l
    · subst h2
      simp [va_up, h1]
    · simp [va_up, h1, h2]
/-- what putInOrder has written of the first k FIELDS -/
def prA (A : Nat → Nat → Int32) (k : Nat) : Nat → Nat → Int32 := wA (wA (wA (wA (wA A 12 (pw (fun j => iI j) (A 12) k)) 5 (pw (fun _ => iI 1) (A 5) k)) 8 (pw (fun _ => iI 0) (A 8) k)) 9 (pw (fun _ => iI 0) (A 9) k)) 11 (pw (fun _ => iI 0) (A 11) k)
theorem prA_0 {A : Nat → Nat → Int32} : prA A 0 = A := by
  unfold prA
  simp only [pw_0]
  funext j
  by_cases h1 : j = 11
  · subst h1; simp [va_up]
  by_cases h2 : j = 9
  · subst h2; simp [va_up]
  by_cases h3 : j = 8
  · subst h3; simp [va_up]
  by_cases h4 : j = 5
  · subst h4; simp [va_up]
  by_cases h5 : j = 12
  · subst h5; simp [va_up]
  simp [va_up, h1, h2, h3, h4, h5]
theorem prA_s {A : Nat → Nat → Int32} {k : Nat} : pnA (prA A k) k k = prA A (k + 1) := by
  funext j
  by_cases h1 : j = 11
  · subst h1; exact pw_s rfl
  by_cases h2 : j = 9
  · subst h2; exact pw_s rfl
  by_cases h3 : j = 8
  · subst h3; exact pw_s rfl
  by_cases h4 : j = 5
  · subst h4; exact pw_s rfl
  by_cases h5 : j = 12
  · subst h5; exact pw_s rfl
  simp [pnA, prA, va_up, h1, h2, h3, h4, h5]
/-- the places k to n - 1 of f are g's -/
def sw (g f : Nat → Int32) (k n : Nat) : Nat → Int32 := fun j => if k ≤ j ∧ j < n then g j else f j
theorem sw_n {g f : Nat → Int32} {n : Nat} : sw g f n n = f := by
  funext j
  unfold sw
  rw [if_neg (by omega)]
theorem sw_s {g f : Nat → Int32} {k n : Nat} {x : Int32} (hk : k < n) (h : x = g k) : upd (sw g f (k + 1) n) k x = sw g f k n := by
  funext j
  simp only [upd, sw]
  by_cases h1 : j = k
  · subst h1; rw [if_pos rfl, if_pos ⟨Nat.le_refl _, hk⟩, h]
  · rw [if_neg h1]
    by_cases h2 : k + 1 ≤ j ∧ j < n
    · rw [if_pos h2, if_pos (by omega)]
    · rw [if_neg h2, if_neg (by omega)]
section STR2
variable {xs : Nat → Int32} {L : Nat} {A : Nat → Nat → Int32} {V : Nat → Int32} {Y : mj_H}
variable {w h : Int} {n : Nat} {H : Nat → Int}
set_option maxHeartbeats 1000000 in
theorem c_putInOrder0 (hV : V 2 = iI n) (hn : n ≤ 256) (hx : ∀ j, j < n → A 4 j = iI (-1)) : mj_Ct m_Streams_putInOrder [.ref (mj_NE + 5)] (Wd xs L A V Y) none (Wd xs L (prA (wA A 10 (fl (A 10) 0 256)) n) (wV V 3 (iI n)) Y) 0 0 1 := by
  have s1 := r_to (RC := 0) (RS := 0) (dd := 1) (g := (0, [.ref (mj_NE + 5), mj_u, mj_u], [], Wd xs L A V Y, 0, 0)) (g' := (5, [.ref (mj_NE + 5), mj_u, mj_u], [.int 0, .ref (mj_NE + 13)], Wd xs L A V Y, 0, 0)) ok_Streams_putInOrder 9999 [] rfl trivial
  have s2 := r_tr s1 (q_S ok_Streams_putInOrder ok_Arr_fill st_Arr_fill c_fill_10 rfl rfl rfl rfl ⟨rfl, rfl, rfl⟩)
  generalize hA0 : (wA A 10 (fl (A 10) 0 256)) = A0 at s2 ⊢
  have h4 : ∀ j, j < n → A0 4 j = iI (-1) := fun j hj => by rw [← hA0]; exact hx j hj
  have h10 : ∀ j, j < 256 → A0 10 j = 0 := fun j hj => by rw [← hA0, wA_s]; exact if_pos hj
  have s3 := r_tr s2 (r_to (g' := (10, [.ref (mj_NE + 5), .int 0, mj_u], [], Wd xs L A0 V Y, 0, 0)) ok_Streams_putInOrder 10 [] rfl trivial)
  have cnd : ∀ V' : Nat → Int32, V' 2 = V 2 → ∀ i, i < n → ¬ (V' 2 ≤ iI i) := fun V' hv i hi => br_ge (hv.trans hV) ⟨by omega, by omega⟩ ⟨by omega, by omega⟩ (by omega)
  have lp1 : ∀ i : Nat, i ≤ n → mj_Rc m_Streams_putInOrder 0 0 1 (10, [.ref (mj_NE + 5), .int 0, mj_u], [], Wd xs L A0 V Y, 0, 0) (10, [.ref (mj_NE + 5), .int (iI i), mj_u], [], Wd xs L A0 V Y, 0, 0) := by
    intro i
    induction i with
    | zero => intro _; exact r_rf
    | succ i ih =>
      intro hi
      have t := r_tr (ih (by omega)) (r_to (g' := (10, [.ref (mj_NE + 5), .int (iI i + 1), mj_u], [], Wd xs L A0 V Y, 0, 0)) ok_Streams_putInOrder 10 [false, true] rfl ⟨cnd V rfl i (by omega), in_nat (by omega) (by omega), by
        show A0 4 (iI i).toNatClampNeg < iI 0
        rw [cl_nat (by omega), h4 i (by omega), iI_lt ⟨by omega, by omega⟩ ⟨by omega, by omega⟩]
        omega, trivial⟩)
      rw [iI_1] at t
      exact t
  have s4 := r_tr (r_tr s3 (lp1 n (Nat.le_refl _))) (r_to (g' := (58, [.ref (mj_NE + 5), .int 0, mj_u], [], Wd xs L A0 (wV V 3 (iI 0)) Y, 0, 0)) ok_Streams_putInOrder 58 [true] rfl ⟨br_lt hV ⟨by omega, by omega⟩ ⟨by omega, by omega⟩ (by omega), trivial⟩)
  have lp2 : ∀ i : Nat, i ≤ n → mj_Rc m_Streams_putInOrder 0 0 1 (58, [.ref (mj_NE + 5), .int 0, mj_u], [], Wd xs L A0 (wV V 3 (iI 0)) Y, 0, 0) (58, [.ref (mj_NE + 5), .int (iI i), mj_u], [], Wd xs L (prA A0 i) (wV V 3 (iI i)) Y, 0, 0) := by
    intro i
    induction i with
    | zero => intro _; rw [prA_0]; exact r_rf
    | succ i ih =>
      intro hi
      have t := r_tr (ih (by omega)) (r_to (g' := (80, [.ref (mj_NE + 5), .int (iI i), mj_u], [.int (iI i), .ref (mj_NE + 5)], Wd xs L (prA A0 i) (wV V 3 (iI i)) Y, 0, 0)) ok_Streams_putInOrder 9999 [false, false] rfl ⟨cnd _ rfl i (by omega), in_nat (by omega) (by omega), by
        show ¬ ¬ ((prA A0 i) 10 (iI i).toNatClampNeg = 0)
        rw [cl_nat (by omega)]
        exact fun q => q (h10 i (by omega)), trivial⟩)
      have t2 := r_tr t (q_V ok_Streams_putInOrder ok_Streams_putNext se_Streams_putNext (c_putNext (V := wV V 3 (iI i)) (c := i) (i := i) rfl (by omega) (by omega)) rfl rfl rfl rfl rfl ⟨rfl, rfl, rfl⟩)
      rw [prA_s, wV_f] at t2
      have t3 := r_tr t2 (r_to (g' := (58, [.ref (mj_NE + 5), .int (iI i + 1), mj_u], [], Wd xs L (prA A0 (i + 1)) (wV V 3 (iI (i + 1))) Y, 0, 0)) ok_Streams_putInOrder 58 [] rfl trivial)
      rw [iI_1] at t3
      exact t3
  have s5 := r_tr (r_tr s4 (lp2 n (Nat.le_refl _))) (r_to (g' := (91, [.ref (mj_NE + 5), .int 0, mj_u], [], Wd xs L (prA A0 n) (wV V 3 (iI n)) Y, 0, 0)) ok_Streams_putInOrder 91 [true] rfl ⟨br_lt (V := (wV V 3 (iI n)) 2) hV ⟨by omega, by omega⟩ ⟨by omega, by omega⟩ (by omega), trivial⟩)
  have lp3 : ∀ i : Nat, i ≤ n → ∃ u : Value, mj_Rc m_Streams_putInOrder 0 0 1 (91, [.ref (mj_NE + 5), .int 0, mj_u], [], Wd xs L (prA A0 n) (wV V 3 (iI n)) Y, 0, 0) (91, [.ref (mj_NE + 5), .int (iI i), u], [], Wd xs L (prA A0 n) (wV V 3 (iI n)) Y, 0, 0) := by
    intro i
    induction i with
    | zero => intro _; exact ⟨_, r_rf⟩
    | succ i ih =>
      intro hi
      obtain ⟨u, hr⟩ := ih (by omega)
      have e1 : (iI i).toNatClampNeg = i := cl_nat (by omega)
      have eo : (prA A0 n) 12 (iI i).toNatClampNeg = iI i := by
        rw [e1]
        show pw (fun j : Nat => iI j) _ n i = _
        rw [pw_lt (by omega)]
      have t := r_tr hr (r_to (g' := (91, [.ref (mj_NE + 5), .int (iI i + 1), .int (A0 4 ((prA A0 n) 12 (iI i).toNatClampNeg).toNatClampNeg)], [], Wd xs L (prA A0 n) (wV V 3 (iI n)) Y, 0, 0)) ok_Streams_putInOrder 91 [false, false, true] rfl ⟨by
        show ¬ (iI n ≤ iI i)
        rw [iI_le ⟨by omega, by omega⟩ ⟨by omega, by omega⟩]
        omega, by
        show ¬ (iI 256 ≤ iI i)
        rw [iI_le ⟨by omega, by omega⟩ ⟨by omega, by omega⟩]
        omega, in_nat (by omega) (by omega), by rw [eo]; exact in_nat (by omega) (by omega), by
        show A0 4 ((prA A0 n) 12 (iI i).toNatClampNeg).toNatClampNeg < iI 0
        rw [eo, e1, h4 i (by omega), iI_lt ⟨by omega, by omega⟩ ⟨by omega, by omega⟩]
        omega, trivial⟩)
      rw [iI_1] at t
      exact ⟨_, t⟩
  obtain ⟨u, hr⟩ := lp3 n (Nat.le_refl _)
  exact ct_of ok_Streams_putInOrder rfl (r_tr s5 (r_tr hr (r_to ok_Streams_putInOrder 9999 [true] rfl ⟨by show iI n ≤ iI n; exact Int32.le_refl _, trivial⟩))) rfl rfl rfl rfl rfl
theorem c_passDown0 {i : Nat} {b : Int} (hi : i < 256) (hf : A 5 i = iI 1) (hb : 1 < b ∧ b ≤ 100) (hx : A 4 i = iI (-1)) : mj_Ct m_Streams_passDown [.ref (mj_NE + 5), .int (iI i), .int (iI b)] (Wd xs L A V Y) none (Wd xs L A V Y) 0 0 1 := by
  have e1 : (iI i).toNatClampNeg = i := cl_nat (by omega)
  have hin : vp_in (iI i) 256 := in_nat (by omega) (by omega)
  exact ct_of ok_Streams_passDown rfl (r_to ok_Streams_passDown 9999 [true, true] rfl ⟨hin, by
    show A 5 (iI i).toNatClampNeg < iI b
    rw [e1, hf, iI_lt ⟨by omega, by omega⟩ ⟨by omega, by omega⟩]
    omega, hin, by
    show A 4 (iI i).toNatClampNeg < iI 0
    rw [e1, hx, iI_lt ⟨by omega, by omega⟩ ⟨by omega, by omega⟩]
    omega, trivial⟩) rfl rfl rfl rfl rfl
set_option maxHeartbeats 1000000 in
theorem c_run0 {b : Int} (hV : V 2 = iI n) (hw : 2 ≤ w ∧ w ≤ 16) (hh : 2 ≤ h ∧ h ≤ 16) (hnw : (n : Int) = w * h) (hN : nbOK w h (A 2) n) (hH : Hts (A 0) n H) (hb : 1 < b ∧ b ≤ 100) (hx : ∀ j, j < n → (chD w h H j 8).2.2 = -1) : ∃ A' : Nat → Nat → Int32, (∀ j, j < n → A' 3 j = iI (chD w h H j 8).2.1 ∧ A' 4 j = iI (-1) ∧ A' 5 j = iI 1 ∧ A' 6 j = iI j ∧ A' 7 j = iI 0 ∧ A' 8 j = iI 0 ∧ A' 9 j = iI 0) ∧ A' 0 = A 0 ∧ A' 2 = A 2 ∧ A' 13 = A 13 ∧ mj_Ct m_Streams_run [.ref (mj_NE + 5), .int (iI b)] (Wd xs L A V Y) none (Wd xs L A' (wV V 3 (iI n)) Y) 0 0 3 := by
  have wh := wh_bd hw hh
  have lp1 : ∀ k : Nat, k ≤ n → mj_Rc m_Streams_run 0 0 3 (2, [.ref (mj_NE + 5), .int (iI b), .int 0], [], Wd xs L A V Y, 0, 0) (2, [.ref (mj_NE + 5), .int (iI b), .int (iI k)], [], Wd xs L (wA (wA A 3 (pw (fun j => iI (chD w h H j 8).2.1) (A 3) k)) 4 (pw (fun j => iI (chD w h H j 8).2.2) (A 4) k)) V Y, 0, 0) := by
    intro k
    induction k with
    | zero => intro _; rw [pw_0, pw_0, wA_id, wA_id]; exact r_rf
    | succ k ih =>
      intro hk
      have t := r_tr (ih (by omega)) (r_to (g' := (15, [.ref (mj_NE + 5), .int (iI b), .int (iI k)], [.int (iI k), .ref (mj_NE + 5)], Wd xs L (wA (wA A 3 (pw (fun j => iI (chD w h H j 8).2.1) (A 3) k)) 4 (pw (fun j => iI (chD w h H j 8).2.2) (A 4) k)) V Y, 0, 0)) ok_Streams_run 9999 [false] rfl ⟨br_ge hV ⟨by omega, by omega⟩ ⟨by omega, by omega⟩ (by omega), trivial⟩)
      have t2 := r_tr t (q_V ok_Streams_run ok_Streams_chooseDirection se_Streams_chooseDirection (c_chooseDirection (A := (wA (wA A 3 (pw (fun j => iI (chD w h H j 8).2.1) (A 3) k)) 4 (pw (fun j => iI (chD w h H j 8).2.2) (A 4) k))) hw hh hnw hN hH (i := k) (by omega)) rfl rfl rfl rfl rfl ⟨rfl, rfl, rfl⟩)
      have e : wA (wA (wA (wA A 3 (pw (fun j => iI (chD w h H j 8).2.1) (A 3) k)) 4 (pw (fun j => iI (chD w h H j 8).2.2) (A 4) k)) 3 (upd ((wA (wA A 3 (pw (fun j => iI (chD w h H j 8).2.1) (A 3) k)) 4 (pw (fun j => iI (chD w h H j 8).2.2) (A 4) k)) 3) k (iI (chD w h H k 8).2.1))) 4 (upd ((wA (wA A 3 (pw (fun j => iI (chD w h H j 8).2.1) (A 3) k)) 4 (pw (fun j => iI (chD w h H j 8).2.2) (A 4) k)) 4) k (iI (chD w h H k 8).2.2)) = (wA (wA A 3 (pw (fun j => iI (chD w h H j 8).2.1) (A 3) (k + 1))) 4 (pw (fun j => iI (chD w h H j 8).2.2) (A 4) (k + 1))) := by
        funext j
        by_cases h1 : j = 4
        · subst h1; exact pw_s rfl
        by_cases h2 : j = 3
        · subst h2; exact pw_s rfl
        simp [va_up, h1, h2]
      rw [e] at t2
      have t3 := r_tr t2 (r_to (g' := (2, [.ref (mj_NE + 5), .int (iI b), .int (iI k + 1)], [], Wd xs L (wA (wA A 3 (pw (fun j => iI (chD w h H j 8).2.1) (A 3) (k + 1))) 4 (pw (fun j => iI (chD w h H j 8).2.2) (A 4) (k + 1))) V Y, 0, 0)) ok_Streams_run 2 [] rfl trivial)
      rw [iI_1] at t3
      exact t3
  have s1 := r_tr (r_tr (r_to (RC := 0) (RS := 0) (dd := 3) (g := (0, [.ref (mj_NE + 5), .int (iI b), mj_u], [], Wd xs L A V Y, 0, 0)) ok_Streams_run 2 [] rfl trivial) (lp1 n (Nat.le_refl _))) (r_to (g' := (25, [.ref (mj_NE + 5), .int (iI b), .int (iI n)], [.ref (mj_NE + 5)], Wd xs L (wA (wA A 3 (pw (fun j => iI (chD w h H j 8).2.1) (A 3) n)) 4 (pw (fun j => iI (chD w h H j 8).2.2) (A 4) n)) V Y, 0, 0)) ok_Streams_run 9999 [true] rfl ⟨br_lt hV ⟨by omega, by omega⟩ ⟨by omega, by omega⟩ (by omega), trivial⟩)
  generalize hA1 : (wA (wA A 3 (pw (fun j => iI (chD w h H j 8).2.1) (A 3) n)) 4 (pw (fun j => iI (chD w h H j 8).2.2) (A 4) n)) = A1 at s1
  have a4 : ∀ j, j < n → A1 4 j = iI (-1) := fun j hj => by
    have e : A1 4 j = iI (chD w h H j 8).2.2 := by rw [← hA1]; show pw (fun j => iI (chD w h H j 8).2.2) _ n j = _; rw [pw_lt hj]
    rw [e, hx j hj]
  have s2 := r_tr s1 (q_V ok_Streams_run ok_Streams_putInOrder se_Streams_putInOrder (c_putInOrder0 hV (by omega) a4) rfl rfl rfl rfl rfl ⟨rfl, rfl, rfl⟩)
  generalize hA2 : prA (wA A1 10 (fl (A1 10) 0 256)) n = A2 at s2
  have b4 : ∀ j, j < n → A2 4 j = iI (-1) := fun j hj => by rw [← hA2]; exact a4 j hj
  have b12 : ∀ j, j < n → A2 12 j = iI j := fun j hj => by rw [← hA2]; show pw (fun j : Nat => iI j) _ n j = _; rw [pw_lt hj]
  have b5 : ∀ j, j < n → A2 5 j = iI 1 := fun j hj => by rw [← hA2]; show pw (fun _ => iI 1) _ n j = _; rw [pw_lt hj]
  have b8 : ∀ j, j < n → A2 8 j = iI 0 := fun j hj => by rw [← hA2]; show pw (fun _ => iI 0) _ n j = _; rw [pw_lt hj]
  have b9 : ∀ j, j < n → A2 9 j = iI 0 := fun j hj => by rw [← hA2]; show pw (fun _ => iI 0) _ n j = _; rw [pw_lt hj]
  have b3 : ∀ j, j < n → A2 3 j = iI (chD w h H j 8).2.1 := fun j hj => by rw [← hA2, ← hA1]; show pw (fun j => iI (chD w h H j 8).2.1) _ n j = _; rw [pw_lt hj]
  have bo : A2 0 = A 0 ∧ A2 2 = A 2 ∧ A2 13 = A 13 := by rw [← hA2, ← hA1]; exact ⟨rfl, rfl, rfl⟩
  have s3 := r_tr s2 (r_to (g' := (30, [.ref (mj_NE + 5), .int (iI b), .int 0], [], Wd xs L A2 (wV V 3 (iI n)) Y, 0, 0)) ok_Streams_run 30 [] rfl trivial)
  have lp2 : ∀ k : Nat, k ≤ n → mj_Rc m_Streams_run 0 0 3 (30, [.ref (mj_NE + 5), .int (iI b), .int 0], [], Wd xs L A2 (wV V 3 (iI n)) Y, 0, 0) (30, [.ref (mj_NE + 5), .int (iI b), .int (iI k)], [], Wd xs L A2 (wV V 3 (iI n)) Y, 0, 0) := by
    intro k
    induction k with
    | zero => intro _; exact r_rf
    | succ k ih =>
      intro hk
      have t := r_tr (ih (by omega)) (r_to (g' := (46, [.ref (mj_NE + 5), .int (iI b), .int (iI k)], [.int (iI b), .int (A2 12 (iI k).toNatClampNeg), .ref (mj_NE + 5)], Wd xs L A2 (wV V 3 (iI n)) Y, 0, 0)) ok_Streams_run 9999 [false] rfl ⟨by
        show ¬ (iI n ≤ iI k)
        rw [iI_le ⟨by omega, by omega⟩ ⟨by omega, by omega⟩]
        omega, in_nat (by omega) (by omega), trivial⟩)
      rw [cl_nat (by omega), b12 k (by omega)] at t
      have t2 := r_tr t (q_V ok_Streams_run ok_Streams_passDown se_Streams_passDown (c_passDown0 (i := k) (by omega) (b5 k (by omega)) hb (b4 k (by omega))) rfl rfl rfl rfl rfl ⟨rfl, rfl, rfl⟩)
      have t3 := r_tr t2 (r_to (g' := (30, [.ref (mj_NE + 5), .int (iI b), .int (iI k + 1)], [], Wd xs L A2 (wV V 3 (iI n)) Y, 0, 0)) ok_Streams_run 30 [] rfl trivial)
      rw [iI_1] at t3
      exact t3
  have s4 : mj_Rc m_Streams_run 0 0 3 (30, [.ref (mj_NE + 5), .int (iI b), .int (iI n)], [], Wd xs L A2 (wV V 3 (iI n)) Y, 0, 0) (62, [.ref (mj_NE + 5), .int (iI b), .int (iI n - iI 1)], [], Wd xs L A2 (wV V 3 (iI n)) Y, 0, 0) := r_to ok_Streams_run 62 [true] rfl ⟨by show iI n ≤ iI n; exact Int32.le_refl _, trivial⟩
  rw [iI_sub] at s4
  have lp3 : ∀ k : Nat, k ≤ n → mj_Rc m_Streams_run 0 0 3 (62, [.ref (mj_NE + 5), .int (iI b), .int (iI (n - 1))], [], Wd xs L A2 (wV V 3 (iI n)) Y, 0, 0) (62, [.ref (mj_NE + 5), .int (iI b), .int (iI ((n - k : Nat) - 1))], [], Wd xs L (wA (wA A2 6 (sw (fun j => iI j) (A2 6) (n - k) n)) 7 (sw (fun _ => iI 0) (A2 7) (n - k) n)) (wV V 3 (iI n)) Y, 0, 0) := by
    intro k
    induction k with
    | zero => intro _; rw [Nat.sub_zero, sw_n, sw_n, wA_id, wA_id]; exact r_rf
    | succ k ih =>
      intro hk
      obtain ⟨i, hi⟩ : ∃ i : Nat, i = n - (k + 1) := ⟨_, rfl⟩
      have hi2 : n - k = i + 1 := by omega
      have ih2 := ih (by omega)
      rw [hi2] at ih2
      rw [← hi]
      have e0 : (((i + 1 : Nat) : Int) - 1) = (i : Int) := by omega
      rw [e0] at ih2
      generalize hA3 : (wA (wA A2 6 (sw (fun j => iI j) (A2 6) (i + 1) n)) 7 (sw (fun _ => iI 0) (A2 7) (i + 1) n)) = A3 at ih2
      have c12 : A3 12 = A2 12 := by rw [← hA3]; rfl
      have c4 : A3 4 = A2 4 := by rw [← hA3]; rfl
      have t := r_tr ih2 (r_to (g' := (73, [.ref (mj_NE + 5), .int (iI b), .int (iI i)], [.int (A3 12 (iI i).toNatClampNeg), .ref (mj_NE + 5)], Wd xs L A3 (wV V 3 (iI n)) Y, 0, 0)) ok_Streams_run 9999 [false] rfl ⟨by
        show ¬ (iI i < iI 0)
        rw [iI_lt ⟨by omega, by omega⟩ ⟨by omega, by omega⟩]
        omega, in_nat (by omega) (by omega), trivial⟩)
      rw [cl_nat (by omega), c12, b12 i (by omega)] at t
      have t2 := r_tr t (q_V ok_Streams_run ok_Streams_findEnd se_Streams_findEnd (c_findEnd0 (i := i) (nx := -1) (by omega) (by rw [c4]; exact b4 i (by omega)) rfl) rfl rfl rfl rfl rfl ⟨rfl, rfl, rfl⟩)
      have e : (wA (wA A3 6 (upd (A3 6) i (iI i))) 7 (upd (A3 7) i (iI 0))) = (wA (wA A2 6 (sw (fun j => iI j) (A2 6) i n)) 7 (sw (fun _ => iI 0) (A2 7) i n)) := by
        subst hA3
        funext j
        by_cases h1 : j = 7
        · subst h1; exact sw_s (by omega) rfl
        by_cases h2 : j = 6
        · subst h2; exact sw_s (by omega) rfl
        simp [va_up, h1, h2]
      rw [e] at t2
      have t3 := r_tr t2 (r_to (g' := (62, [.ref (mj_NE + 5), .int (iI b), .int (iI i + (-1))], [], Wd xs L (wA (wA A2 6 (sw (fun j => iI j) (A2 6) i n)) 7 (sw (fun _ => iI 0) (A2 7) i n)) (wV V 3 (iI n)) Y, 0, 0)) ok_Streams_run 62 [] rfl trivial)
      rw [iI_m1] at t3
      exact t3
  have s5 := lp3 n (Nat.le_refl _)
  rw [Nat.sub_self] at s5
  have s6 := r_tr (r_tr (r_tr (r_tr s3 (lp2 n (Nat.le_refl _))) s4) s5) (r_to (g' := (82, [.ref (mj_NE + 5), .int (iI b), .int (iI ((0 : Nat) - 1))], [], Wd xs L (wA (wA A2 6 (sw (fun j => iI j) (A2 6) 0 n)) 7 (sw (fun _ => iI 0) (A2 7) 0 n)) (wV V 3 (iI n)) Y, 0, 0)) ok_Streams_run 9999 [true] rfl ⟨by
    show iI (((0 : Nat) : Int) - 1) < iI 0
    rw [iI_lt ⟨by omega, by omega⟩ ⟨by omega, by omega⟩]
    omega, trivial⟩)
  refine ⟨wA (wA A2 6 (sw (fun j => iI j) (A2 6) 0 n)) 7 (sw (fun _ => iI 0) (A2 7) 0 n), fun j hj => ⟨b3 j hj, b4 j hj, b5 j hj, ?_, ?_, b8 j hj, b9 j hj⟩, bo.1, bo.2.1, bo.2.2, ct_of ok_Streams_run rfl s6 rfl rfl rfl rfl rfl⟩
  · show sw (fun j : Nat => iI j) _ 0 n j = _
    unfold sw
    rw [if_pos ⟨Nat.zero_le _, hj⟩]
  · show sw (fun _ => iI 0) _ 0 n j = _
    unfold sw
    rw [if_pos ⟨Nat.zero_le _, hj⟩]
end STR2
