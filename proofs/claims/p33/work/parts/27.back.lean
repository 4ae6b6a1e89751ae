/-! Ways: going back -/
/-- the FIELD ahead of v: the least NUMBER of those from whose sum a STEP leads to v's -/
def faF (w h : Int) (H T : Nat → Int) (v : Nat) : Nat → Int
  | 0 => -1
  | d + 1 => if 0 ≤ nbi w h v d ∧ T (nbi w h v d).toNat + wg H (nbi w h v d).toNat d v = T v ∧ (faF w h H T v d < 0 ∨ nbi w h v d < faF w h H T v d) then nbi w h v d else faF w h H T v d
theorem faF_bd {w h : Int} {H T : Nat → Int} (hw : 2 ≤ w ∧ w ≤ 16) (hh : 2 ≤ h ∧ h ≤ 16) (v : Nat) : ∀ d : Nat, -1 ≤ faF w h H T v d ∧ faF w h H T v d < w * h := by
  intro d
  have wh := wh_bd hw hh
  induction d with
  | zero => unfold faF; omega
  | succ d ih =>
    have := nbi_bd hw hh v d
    unfold faF
    split <;> omega
/-- k FIELDS back -/
def gbF (w h : Int) (st : Nat) (H T : Nat → Int) (e : Nat) : Nat → Int
  | 0 => e
  | k + 1 => if gbF w h st H T e k < 0 then gbF w h st H T e k else if gbF w h st H T e k = st then -1 else faF w h H T (gbF w h st H T e k).toNat 8
theorem gbF_bd {w h : Int} {st e : Nat} {H T : Nat → Int} (hw : 2 ≤ w ∧ w ≤ 16) (hh : 2 ≤ h ∧ h ≤ 16) (he : (e : Int) < w * h) : ∀ k : Nat, -1 ≤ gbF w h st H T e k ∧ gbF w h st H T e k < w * h := by
  intro k
  have wh := wh_bd hw hh
  induction k with
  | zero => unfold gbF; omega
  | succ k ih =>
    have := faF_bd (H := H) (T := T) hw hh (gbF w h st H T e k).toNat 8
    unfold gbF
    split
    · exact ih
    · split <;> omega
theorem gbF_neg {w h : Int} {st e k : Nat} {H T : Nat → Int} (hk : gbF w h st H T e k < 0) : ∀ r : Nat, gbF w h st H T e (k + r) = gbF w h st H T e k := by
  intro r
  induction r with
  | zero => rfl
  | succ r ih => rw [← Nat.add_assoc, gbF, ih, if_pos hk]
/-- the other way round -/
theorem nbi_op {w h : Int} {n u d : Nat} (hw : 2 ≤ w ∧ w ≤ 16) (hh : 2 ≤ h ∧ h ≤ 16) (hnw : (n : Int) = w * h) (hu : u < n) (hd : d < 8) (hp : 0 ≤ nbi w h u d) : nbi w h (nbi w h u d).toNat ((d + 4) % 8) = u := by
  have ux := i_xy (i := u) hw hh (by omega)
  have op : ∀ d, d < 8 → sxI ((d + 4) % 8) = - sxI d ∧ syI ((d + 4) % 8) = - syI d := by decide
  obtain ⟨o1, o2⟩ := op d hd
  have e : nbi w h u d = ((u : Int) / w + syI d) * w + ((u : Int) % w + sxI d) := by
    unfold nbi nb at hp ⊢
    split at hp
    · rename_i hc; rw [if_pos hc]
    · omega
  have c : 0 ≤ (u : Int) % w + sxI d ∧ (u : Int) % w + sxI d < w ∧ 0 ≤ (u : Int) / w + syI d ∧ (u : Int) / w + syI d < h := by
    unfold nbi nb at hp
    split at hp
    · rename_i hc; exact hc
    · omega
  have hb := num_bd hw hh ⟨c.1, c.2.1⟩ c.2.2
  have hxy := num_xy (w := w) (x := (u : Int) % w + sxI d) (y := (u : Int) / w + syI d) (by omega) ⟨c.1, c.2.1⟩
  have e2 : (((nbi w h u d).toNat : Nat) : Int) = ((u : Int) / w + syI d) * w + ((u : Int) % w + sxI d) := by omega
  unfold nbi at e2 ⊢
  rw [e2]
  unfold nb
  rw [hxy.1, hxy.2, o1, o2, show (u : Int) % w + sxI d + -sxI d = (u : Int) % w by omega, show (u : Int) / w + syI d + -syI d = (u : Int) / w by omega, if_pos ⟨by omega, by omega, by omega, by omega⟩]
  omega
theorem faF_max {w h : Int} {H T : Nat → Int} {v : Nat} : ∀ k d : Nat, d < k → 0 ≤ nbi w h v d → T (nbi w h v d).toNat + wg H (nbi w h v d).toNat d v = T v → 0 ≤ faF w h H T v k := by
  intro k
  induction k with
  | zero => intro d hd; omega
  | succ k ih =>
    intro d hd hp he
    unfold faF
    split
    · rename_i hc; exact hc.1
    · rename_i hc
      by_cases e : d = k
      · subst e
        by_cases q : faF w h H T v d < 0
        · exact absurd ⟨hp, he, Or.inl q⟩ hc
        · omega
      · exact ih d (by omega) hp he
theorem faF_hit {w h : Int} {H T : Nat → Int} {v : Nat} : ∀ k : Nat, 0 ≤ faF w h H T v k → ∃ d, d < k ∧ nbi w h v d = faF w h H T v k ∧ T (nbi w h v d).toNat + wg H (nbi w h v d).toNat d v = T v := by
  intro k
  induction k with
  | zero => intro hq; unfold faF at hq; omega
  | succ k ih =>
    intro hq
    unfold faF at hq ⊢
    split at hq
    · rename_i hc
      rw [if_pos hc]
      exact ⟨k, by omega, rfl, hc.2.1⟩
    · rename_i hc
      rw [if_neg hc]
      obtain ⟨d, h1, h2, h3⟩ := ih hq
      exact ⟨d, by omega, h2, h3⟩
/-- there is one ahead of each but the start -/
theorem faF_is {w h : Int} {n st v : Nat} {H T : Nat → Int} (hw : 2 ≤ w ∧ w ≤ 16) (hh : 2 ≤ h ∧ h ≤ 16) (hnw : (n : Int) = w * h) (hT : WyOK w h n st H T) (hv : v < n) (hne : v ≠ st) : 0 ≤ faF w h H T v 8 := by
  rcases (hT.2.1 v hv).2.2 with e | ⟨u, d, hu, hd, hp, he, ht⟩
  · exact absurd e hne
  · have ho := nbi_op hw hh hnw hu hd hp
    rw [he] at ho
    refine faF_max 8 ((d + 4) % 8) (by omega) (by omega) ?_
    rw [ho, Int.toNat_natCast, ht]
    unfold wg
    have : ((d + 4) % 8) % 2 = d % 2 := by omega
    rw [this]
theorem WyOK_lt {u d v : Nat} {H T : Nat → Int} : T u < T u + wg H u d v := by
  unfold wg
  split <;> omega
theorem WyOK_le {w h : Int} {n st : Nat} {H T T' : Nat → Int} (hT : WyOK w h n st H T) (hT' : WyOK w h n st H T') : ∀ (k : Nat) (v : Nat), v < n → T' v ≤ k → T v ≤ T' v := by
  intro k
  induction k with
  | zero =>
    intro v hv hk
    rcases (hT'.2.1 v hv).2.2 with e | ⟨u, d, hu, hd, hp, he, ht⟩
    · rw [e, hT.1, hT'.1]; exact Int.le_refl _
    · have := (hT'.2.1 u hu).1
      have := WyOK_lt (u := u) (d := d) (H := H) (T := T') (v := v)
      omega
  | succ k ih =>
    intro v hv hk
    rcases (hT'.2.1 v hv).2.2 with e | ⟨u, d, hu, hd, hp, he, ht⟩
    · rw [e, hT.1, hT'.1]; exact Int.le_refl _
    · have h1 := WyOK_lt (u := u) (d := d) (H := H) (T := T') (v := v)
      have h2 := ih u hu (by omega)
      have h3 := hT.2.2 u hu d hd hp
      rw [he] at h3
      omega
theorem WyOK_eq {w h : Int} {n st : Nat} {H T T' : Nat → Int} (hT : WyOK w h n st H T) (hT' : WyOK w h n st H T') {v : Nat} (hv : v < n) : T v = T' v := by
  have h1 := WyOK_le hT hT' (T' v).toNat v hv (by have := (hT'.2.1 v hv).1; omega)
  have h2 := WyOK_le hT' hT (T v).toNat v hv (by have := (hT.2.1 v hv).1; omega)
  omega
theorem faF_cg {w h : Int} {H T T' : Nat → Int} {n v : Nat} (hw : 2 ≤ w ∧ w ≤ 16) (hh : 2 ≤ h ∧ h ≤ 16) (hnw : (n : Int) = w * h) (he : ∀ j, j < n → T j = T' j) (hv : v < n) : ∀ d : Nat, faF w h H T v d = faF w h H T' v d := by
  intro d
  induction d with
  | zero => rfl
  | succ d ih =>
    have bd := nbi_bd hw hh v d
    unfold faF
    rw [ih]
    by_cases hp : 0 ≤ nbi w h v d
    · rw [he _ (show (nbi w h v d).toNat < n by omega), he v hv]
    · rw [if_neg (fun q => hp q.1), if_neg (fun q => hp q.1)]
theorem gbF_cg {w h : Int} {H T T' : Nat → Int} {n st e : Nat} (hw : 2 ≤ w ∧ w ≤ 16) (hh : 2 ≤ h ∧ h ≤ 16) (hnw : (n : Int) = w * h) (he : ∀ j, j < n → T j = T' j) (hv : e < n) : ∀ k : Nat, gbF w h st H T e k = gbF w h st H T' e k := by
  intro k
  induction k with
  | zero => rfl
  | succ k ih =>
    have bd := gbF_bd (st := st) (e := e) (H := H) (T := T') hw hh (by omega) k
    unfold gbF
    rw [ih]
    by_cases hp : gbF w h st H T' e k < 0
    · rw [if_pos hp, if_pos hp]
    · rw [faF_cg hw hh hnw he (show (gbF w h st H T' e k).toNat < n by omega)]
section BACK
variable {xs : Nat → Int32} {L : Nat} {A : Nat → Nat → Int32} {V : Nat → Int32} {Y : mj_H}
variable {w h : Int} {n : Nat} {H T : Nat → Int}
set_option maxHeartbeats 1000000 in
theorem c_fieldAhead {v : Nat} (hw : 2 ≤ w ∧ w ≤ 16) (hh : 2 ≤ h ∧ h ≤ 16) (hnw : (n : Int) = w * h) (hN : nbOK w h (A 2) n) (hH : Hts (A 0) n H) (hT : ∀ j, j < n → A 18 j = iI (T j) ∧ 0 ≤ T j ∧ T j ≤ 259328) (hv : v < n) : mj_Ct m_Ways_fieldAhead [.ref (mj_NE + 27), .int (iI v)] (Wd xs L A V Y) (some (.int (iI (faF w h H T v 8)))) (Wd xs L A V Y) 0 0 3 := by
  have wh := wh_bd hw hh
  obtain ⟨ev, bv1, bv2⟩ := hT v hv
  have hcv : (iI v).toNatClampNeg = v := cl_nat (by omega)
  have hinv : vp_in (iI v) 256 := in_nat (by omega) (by omega)
  have r0 : mj_Rc m_Ways_fieldAhead 0 0 3 (0, [.ref (mj_NE + 27), .int (iI v), mj_u, mj_u, mj_u], [], Wd xs L A V Y, 0, 0) (4, [.ref (mj_NE + 27), .int (iI v), .int (-1), .int (iI 0), mj_u], [], Wd xs L A V Y, 0, 0) := r_to ok_Ways_fieldAhead 4 [] rfl trivial
  rw [iI_neg1] at r0
  have lp : ∀ d : Nat, d ≤ 8 → ∃ u4 : Value, mj_Rc m_Ways_fieldAhead 0 0 3 (0, [.ref (mj_NE + 27), .int (iI v), mj_u, mj_u, mj_u], [], Wd xs L A V Y, 0, 0) (4, [.ref (mj_NE + 27), .int (iI v), .int (iI (faF w h H T v d)), .int (iI d), u4], [], Wd xs L A V Y, 0, 0) := by
    intro d
    induction d with
    | zero => intro _; exact ⟨_, r0⟩
    | succ d ih =>
      intro hd
      obtain ⟨u4, hr⟩ := ih (by omega)
      have bf := faF_bd (H := H) (T := T) hw hh v d
      have bd := nbi_bd hw hh v d
      have t1 := r_tr hr (r_to (g' := (16, [.ref (mj_NE + 27), .int (iI v), .int (iI (faF w h H T v d)), .int (iI d), u4], [.int (iI d), .int (iI v), .ref (mj_NE + 1)], Wd xs L A V Y, 0, 0)) ok_Ways_fieldAhead 9999 [false] rfl ⟨by
        show ¬ (iI 8 ≤ iI d)
        rw [iI_le ⟨by omega, by omega⟩ ⟨by omega, by omega⟩]
        omega, trivial⟩)
      have t2 := r_tr t1 (q_V ok_Ways_fieldAhead ok_Land_neighbour se_Land_neighbour (c_nbr hN hv (by omega) (by omega)) rfl rfl rfl rfl rfl ⟨rfl, rfl, rfl⟩)
      by_cases hneg : nbi w h v d < 0
      · have e : faF w h H T v (d + 1) = faF w h H T v d := by rw [faF, if_neg (fun q => by omega)]
        have t3 := r_tr t2 (r_to (g' := (4, [.ref (mj_NE + 27), .int (iI v), .int (iI (faF w h H T v d)), .int (iI d + 1), .int (iI (nbi w h v d))], [], Wd xs L A V Y, 0, 0)) ok_Ways_fieldAhead 4 [true] rfl ⟨by
          show iI (nbi w h v d) < iI 0
          rw [iI_lt ⟨by omega, by omega⟩ ⟨by omega, by omega⟩]
          exact hneg, trivial⟩)
        rw [iI_1] at t3
        rw [e]
        exact ⟨_, t3⟩
      · obtain ⟨j, hj⟩ : ∃ j : Nat, (j : Int) = nbi w h v d := ⟨(nbi w h v d).toNat, by omega⟩
        have hj2 : (nbi w h v d).toNat = j := by omega
        have hjn : j < n := by omega
        obtain ⟨ej, bj1, bj2⟩ := hT j hjn
        have hc : (iI j).toNatClampNeg = j := cl_nat (by omega)
        have hin : vp_in (iI j) 256 := in_nat (by omega) (by omega)
        have hwb := wg_bd (H := H) (u := j) (d := d) (v := v) (hH j hjn).2 (hH v hv).2
        rw [← hj] at t2
        have t3 : mj_Rc m_Ways_fieldAhead 0 0 3 (19, [.ref (mj_NE + 27), .int (iI v), .int (iI (faF w h H T v d)), .int (iI d), u4], [.int (iI j)], Wd xs L A V Y, 0, 0) (38, [.ref (mj_NE + 27), .int (iI v), .int (iI (faF w h H T v d)), .int (iI d), .int (iI j)], [.int (iI d), .int (iI v), .int (iI j), .ref (mj_NE + 27), .int (A 18 (iI j).toNatClampNeg)], Wd xs L A V Y, 0, 0) := r_to ok_Ways_fieldAhead 9999 [false] rfl ⟨by
          show ¬ (iI j < iI 0)
          rw [iI_lt ⟨by omega, by omega⟩ ⟨by omega, by omega⟩]
          omega, hin, trivial⟩
        rw [hc, ej] at t3
        have t4 := r_tr (r_tr t2 t3) (q_V ok_Ways_fieldAhead ok_Ways_step se_Ways_step (c_step (d := d) (by omega) hH hjn hv (by omega)) rfl rfl rfl rfl rfl ⟨rfl, rfl, rfl⟩)
        by_cases heq : T j + wg H j d v = T v
        · have q1 : ¬ (¬ (iI (T j) + iI (wg H j d v) = A 18 (iI v).toNatClampNeg)) := by
            rw [hcv, ev, iI_add, heq]
            exact fun q => q rfl
          by_cases hf : faF w h H T v d < 0
          · have e : faF w h H T v (d + 1) = j := by rw [faF, hj2, if_pos ⟨by omega, heq, Or.inl hf⟩, hj]
            have t5 := r_tr t4 (r_to (g' := (4, [.ref (mj_NE + 27), .int (iI v), .int (iI j), .int (iI d + 1), .int (iI j)], [], Wd xs L A V Y, 0, 0)) ok_Ways_fieldAhead 4 [false, true] rfl ⟨hinv, q1, by
              show iI (faF w h H T v d) < iI 0
              rw [iI_lt ⟨by omega, by omega⟩ ⟨by omega, by omega⟩]
              exact hf, trivial⟩)
            rw [iI_1] at t5
            rw [e]
            exact ⟨_, t5⟩
          · by_cases hl : (j : Int) < faF w h H T v d
            · have e : faF w h H T v (d + 1) = j := by rw [faF, hj2, if_pos ⟨by omega, heq, Or.inr (by omega)⟩, hj]
              have t5 := r_tr t4 (r_to (g' := (4, [.ref (mj_NE + 27), .int (iI v), .int (iI j), .int (iI d + 1), .int (iI j)], [], Wd xs L A V Y, 0, 0)) ok_Ways_fieldAhead 4 [false, false, false] rfl ⟨hinv, q1, by
                show ¬ (iI (faF w h H T v d) < iI 0)
                rw [iI_lt ⟨by omega, by omega⟩ ⟨by omega, by omega⟩]
                exact hf, by
                show ¬ (iI (faF w h H T v d) ≤ iI j)
                rw [iI_le ⟨by omega, by omega⟩ ⟨by omega, by omega⟩]
                omega, trivial⟩)
              rw [iI_1] at t5
              rw [e]
              exact ⟨_, t5⟩
            · have e : faF w h H T v (d + 1) = faF w h H T v d := by rw [faF, hj2, if_neg (fun q => by omega)]
              have t5 := r_tr t4 (r_to (g' := (4, [.ref (mj_NE + 27), .int (iI v), .int (iI (faF w h H T v d)), .int (iI d + 1), .int (iI j)], [], Wd xs L A V Y, 0, 0)) ok_Ways_fieldAhead 4 [false, false, true] rfl ⟨hinv, q1, by
                show ¬ (iI (faF w h H T v d) < iI 0)
                rw [iI_lt ⟨by omega, by omega⟩ ⟨by omega, by omega⟩]
                exact hf, by
                show iI (faF w h H T v d) ≤ iI j
                rw [iI_le ⟨by omega, by omega⟩ ⟨by omega, by omega⟩]
                omega, trivial⟩)
              rw [iI_1] at t5
              rw [e]
              exact ⟨_, t5⟩
        · have e : faF w h H T v (d + 1) = faF w h H T v d := by rw [faF, hj2, if_neg (fun q => heq q.2.1)]
          have t5 := r_tr t4 (r_to (g' := (4, [.ref (mj_NE + 27), .int (iI v), .int (iI (faF w h H T v d)), .int (iI d + 1), .int (iI j)], [], Wd xs L A V Y, 0, 0)) ok_Ways_fieldAhead 4 [true] rfl ⟨hinv, by
            show ¬ (iI (T j) + iI (wg H j d v) = A 18 (iI v).toNatClampNeg)
            rw [hcv, ev, iI_add, iI_eq ⟨by omega, by omega⟩ ⟨by omega, by omega⟩]
            exact heq, trivial⟩)
          rw [iI_1] at t5
          rw [e]
          exact ⟨_, t5⟩
  obtain ⟨u4, hr⟩ := lp 8 (Nat.le_refl _)
  exact ct_of ok_Ways_fieldAhead rfl (r_tr hr (r_to ok_Ways_fieldAhead 9999 [true] rfl ⟨by show iI 8 ≤ iI 8; exact Int32.le_refl _, trivial⟩)) rfl rfl rfl rfl rfl
theorem c_goBack {st e : Nat} {b : Nat} (hV : V 2 = iI n) (hw : 2 ≤ w ∧ w ≤ 16) (hh : 2 ≤ h ∧ h ≤ 16) (hnw : (n : Int) = w * h) (hN : nbOK w h (A 2) n) (hH : Hts (A 0) n H) (hT : ∀ j, j < n → A 18 j = iI (T j) ∧ 0 ≤ T j ∧ T j ≤ 259328) (hst : st < n) (he : e < n) (hb : b ≤ 2147483647) : mj_Ct m_Ways_goBack [.ref (mj_NE + 27), .int (iI st), .int (iI e), .int (iI b)] (Wd xs L A V Y) (some (.int (iI (if n ≤ b then -1 else gbF w h st H T e b)))) (Wd xs L A V Y) 0 0 4 := by
  have wh := wh_bd hw hh
  by_cases hnb : n ≤ b
  · rw [if_pos hnb, ← iI_neg1]
    exact ct_of ok_Ways_goBack rfl (r_to ok_Ways_goBack 9999 [false] rfl ⟨by
      show ¬ (iI b < V 2)
      rw [hV, iI_lt ⟨by omega, by omega⟩ ⟨by omega, by omega⟩]
      omega, trivial⟩) rfl rfl rfl rfl rfl
  · rw [if_neg hnb]
    have r0 : mj_Rc m_Ways_goBack 0 0 4 (0, [.ref (mj_NE + 27), .int (iI st), .int (iI e), .int (iI b), mj_u, mj_u], [], Wd xs L A V Y, 0, 0) (19, [.ref (mj_NE + 27), .int (iI st), .int (iI e), .int (iI b), .int (iI (gbF w h st H T e 0)), .int (iI 0)], [], Wd xs L A V Y, 0, 0) := r_to ok_Ways_goBack 19 [true] rfl ⟨by
      show iI b < V 2
      rw [hV, iI_lt ⟨by omega, by omega⟩ ⟨by omega, by omega⟩]
      omega, trivial⟩
    have lp : ∀ r k : Nat, k + r = b → ∃ u5 : Value, mj_Rc m_Ways_goBack 0 0 4 (19, [.ref (mj_NE + 27), .int (iI st), .int (iI e), .int (iI b), .int (iI (gbF w h st H T e k)), .int (iI k)], [], Wd xs L A V Y, 0, 0) (54, [.ref (mj_NE + 27), .int (iI st), .int (iI e), .int (iI b), .int (iI (gbF w h st H T e b)), u5], [], Wd xs L A V Y, 0, 0) := by
      intro r
      induction r with
      | zero =>
        intro k hk
        rw [show k = b by omega]
        exact ⟨_, r_to ok_Ways_goBack 54 [true] rfl ⟨by show iI b ≤ iI b; exact Int32.le_refl _, trivial⟩⟩
      | succ r ih =>
        intro k hk
        have bg := gbF_bd (st := st) (e := e) (H := H) (T := T) hw hh (by omega) k
        have c1 : ¬ (iI b ≤ iI k) := by rw [iI_le ⟨by omega, by omega⟩ ⟨by omega, by omega⟩]; omega
        by_cases hneg : gbF w h st H T e k < 0
        · have e1 : gbF w h st H T e b = gbF w h st H T e k := by
            have := gbF_neg hneg (b - k)
            rw [show k + (b - k) = b by omega] at this
            exact this
          rw [e1]
          exact ⟨_, r_to ok_Ways_goBack 54 [false, true] rfl ⟨c1, by
            show iI (gbF w h st H T e k) < iI 0
            rw [iI_lt ⟨by omega, by omega⟩ ⟨by omega, by omega⟩]
            exact hneg, trivial⟩⟩
        · have c2 : ¬ (iI (gbF w h st H T e k) < iI 0) := by rw [iI_lt ⟨by omega, by omega⟩ ⟨by omega, by omega⟩]; exact hneg
          by_cases hq : gbF w h st H T e k = st
          · have e1 : gbF w h st H T e (k + 1) = -1 := by rw [gbF, if_neg hneg, if_pos hq]
            have t1 : mj_Rc m_Ways_goBack 0 0 4 (19, [.ref (mj_NE + 27), .int (iI st), .int (iI e), .int (iI b), .int (iI (gbF w h st H T e k)), .int (iI k)], [], Wd xs L A V Y, 0, 0) (19, [.ref (mj_NE + 27), .int (iI st), .int (iI e), .int (iI b), .int (-1), .int (iI k + 1)], [], Wd xs L A V Y, 0, 0) := r_to ok_Ways_goBack 19 [false, false, false] rfl ⟨c1, c2, by
              show ¬ (¬ (iI (gbF w h st H T e k) = iI st))
              rw [hq]
              exact fun q => q rfl, trivial⟩
            rw [iI_1, iI_neg1, ← e1, show ((k : Int) + 1) = ((k + 1 : Nat) : Int) by omega] at t1
            obtain ⟨u5, hu⟩ := ih (k + 1) (by omega)
            exact ⟨u5, r_tr t1 hu⟩
          · have e1 : gbF w h st H T e (k + 1) = faF w h H T (gbF w h st H T e k).toNat 8 := by rw [gbF, if_neg hneg, if_neg hq]
            obtain ⟨g, hg⟩ : ∃ g : Nat, gbF w h st H T e k = (g : Int) := ⟨(gbF w h st H T e k).toNat, by omega⟩
            rw [hg] at e1 c2 hq bg ⊢
            rw [Int.toNat_natCast] at e1
            have t1 := r_to (RC := 0) (RS := 0) (dd := 4) (g := (19, [.ref (mj_NE + 27), .int (iI st), .int (iI e), .int (iI b), .int (iI g), .int (iI k)], [], Wd xs L A V Y, 0, 0)) (g' := (43, [.ref (mj_NE + 27), .int (iI st), .int (iI e), .int (iI b), .int (iI g), .int (iI k)], [.int (iI g), .ref (mj_NE + 27)], Wd xs L A V Y, 0, 0)) ok_Ways_goBack 9999 [false, false, true] rfl ⟨c1, c2, by
              show ¬ (iI g = iI st)
              rw [iI_eq ⟨by omega, by omega⟩ ⟨by omega, by omega⟩]
              exact hq, trivial⟩
            have t2 := r_tr t1 (q_V ok_Ways_goBack ok_Ways_fieldAhead se_Ways_fieldAhead (c_fieldAhead hw hh hnw hN hH hT (by omega)) rfl rfl rfl rfl rfl ⟨rfl, rfl, rfl⟩)
            rw [← e1] at t2
            have t3 := r_tr t2 (r_to (g' := (19, [.ref (mj_NE + 27), .int (iI st), .int (iI e), .int (iI b), .int (iI (gbF w h st H T e (k + 1))), .int (iI k + 1)], [], Wd xs L A V Y, 0, 0)) ok_Ways_goBack 19 [] rfl trivial)
            rw [iI_1, show ((k : Int) + 1) = ((k + 1 : Nat) : Int) by omega] at t3
            obtain ⟨u5, hu⟩ := ih (k + 1) (by omega)
            exact ⟨u5, r_tr t3 hu⟩
    obtain ⟨u5, hr⟩ := lp b 0 (by omega)
    exact ct_of ok_Ways_goBack rfl (r_tr r0 (r_tr hr (r_to ok_Ways_goBack 9999 [] rfl trivial))) rfl rfl rfl rfl rfl
end BACK
