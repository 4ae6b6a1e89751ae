/-! Land.layOut -/
/-- the NUMBER i told by its x and y -/
theorem num_xy {w x y : Int} (hw : 0 < w) (hx : 0 ≤ x ∧ x < w) : (y * w + x) % w = x ∧ (y * w + x) / w = y := by
  constructor
  · rw [Int.add_comm, Int.add_mul_emod_self_right]
    exact Int.emod_eq_of_lt hx.1 hx.2
  · rw [Int.add_comm, Int.add_mul_ediv_right _ _ (by omega), Int.ediv_eq_zero_of_lt hx.1 hx.2]
    omega
def nbi (w h : Int) (i d : Nat) : Int := nb w h ((i : Int) % w) ((i : Int) / w) d
/-- the table of NEIGHBOURS, written for the first k FIELDS -/
def nbOK (w h : Int) (f : Nat → Int32) (k : Nat) : Prop := ∀ i : Nat, i < k → ∀ d : Nat, d < 8 → f (i * 8 + d) = iI (nbi w h i d)
theorem nbOK_s {w h x y : Int} {f : Nat → Int32} (hw : 2 ≤ w ∧ w ≤ 16) (hh : 2 ≤ h ∧ h ≤ 16) (hx : 0 ≤ x ∧ x < w) (hy : 0 ≤ y ∧ y < h) {k : Nat} (hk : (k : Int) = y * w + x) (hf : nbOK w h f k) : nbOK w h (nbw w h x y f 8) (k + 1) := by
  intro i hi d hd
  have e : ((y * w + x) * 8).toNat = k * 8 := by rw [← hk]; omega
  unfold nbw
  rw [e]
  by_cases h1 : i = k
  · subst h1
    rw [if_pos (by omega)]
    have e2 := num_xy (y := y) (by omega) hx
    unfold nbi
    rw [hk, e2.1, e2.2, show i * 8 + d - i * 8 = d by omega]
  · rw [if_neg (by omega)]
    exact hf i (by omega) d hd
section LAYOUT
variable {xs : Nat → Int32} {L : Nat} {A : Nat → Nat → Int32} {V : Nat → Int32} {Y : mj_H} {w h : Int}
set_option maxHeartbeats 1000000 in
theorem c_layOut (hw : 2 ≤ w ∧ w ≤ 16) (hh : 2 ≤ h ∧ h ≤ 16) : ∃ f : Nat → Int32, nbOK w h f (w * h).toNat ∧ mj_Ct m_Land_layOut [.ref (mj_NE + 1), .int (iI w), .int (iI h)] (Wd xs L A V Y) none (Wd xs L (wA (wA A 0 (fl (A 0) 0 256)) 2 f) (wV (wV (wV V 0 (iI w)) 1 (iI h)) 2 (iI (w * h))) Y) 0 0 2 := by
  generalize hA0 : wA A 0 (fl (A 0) 0 256) = A0
  generalize hV' : wV (wV (wV V 0 (iI w)) 1 (iI h)) 2 (iI (w * h)) = V'
  have v0 : V' 0 = iI w := by rw [← hV']; rfl
  have v1 : V' 1 = iI h := by rw [← hV']; rfl
  have s1 : mj_Rc m_Land_layOut 0 0 2 (0, [.ref (mj_NE + 1), .int (iI w), .int (iI h), mj_u, mj_u], [], Wd xs L A V Y, 0, 0) (22, [.ref (mj_NE + 1), .int (iI w), .int (iI h), mj_u, mj_u], [.int 0, .ref (mj_NE + 2)], Wd xs L A (wV (wV (wV V 0 (iI w)) 1 (iI h)) 2 (iI w * iI h)) Y, 0, 0) := r_to ok_Land_layOut 9999 [] rfl trivial
  rw [iI_mul, hV'] at s1
  have s2 := r_tr s1 (q_S ok_Land_layOut ok_Arr_fill st_Arr_fill c_fill_0 rfl rfl rfl rfl ⟨rfl, rfl, rfl⟩)
  rw [hA0] at s2
  have s3 := r_tr s2 (r_to (g' := (27, [.ref (mj_NE + 1), .int (iI w), .int (iI h), .int 0, mj_u], [], Wd xs L A0 V' Y, 0, 0)) ok_Land_layOut 27 [] rfl trivial)
  -- a row
  have row : ∀ (y : Int) (f : Nat → Int32) (k0 : Nat) (u : Value), 0 ≤ y ∧ y < h → (k0 : Int) = y * w → nbOK w h f k0 → ∀ n : Nat, (n : Int) ≤ w → ∃ g : Nat → Int32, nbOK w h g (k0 + n) ∧ mj_Rc m_Land_layOut 0 0 2 (38, [.ref (mj_NE + 1), .int (iI w), .int (iI h), .int (iI y), .int 0], [], Wd xs L (wA A0 2 f) V' Y, 0, 0) (38, [.ref (mj_NE + 1), .int (iI w), .int (iI h), .int (iI y), .int (iI n)], [], Wd xs L (wA A0 2 g) V' Y, 0, 0) := by
    intro y f k0 u hy hk0 hf n
    induction n with
    | zero => intro _; exact ⟨f, hf, r_rf⟩
    | succ n ih =>
      intro hn
      obtain ⟨g, hg, hr⟩ := ih (by omega)
      have t1 := r_tr hr (r_to (g' := (51, [.ref (mj_NE + 1), .int (iI w), .int (iI h), .int (iI y), .int (iI n)], [.int (iI y), .int (iI n), .ref (mj_NE + 1)], Wd xs L (wA A0 2 g) V' Y, 0, 0)) ok_Land_layOut 9999 [false] rfl ⟨by
        show ¬ (V' 0 ≤ iI n)
        rw [v0, iI_le ⟨by omega, by omega⟩ ⟨by omega, by omega⟩]
        omega, trivial⟩)
      have t2 := r_tr t1 (q_V ok_Land_layOut ok_Land_findNeighbours se_Land_findNeighbours (c_findNeighbours v0 v1 hw hh ⟨by omega, by omega⟩ hy) rfl rfl rfl rfl rfl ⟨rfl, rfl, rfl⟩)
      rw [wA_s, wA_f] at t2
      have t3 := r_tr t2 (r_to (g' := (38, [.ref (mj_NE + 1), .int (iI w), .int (iI h), .int (iI y), .int (iI n + 1)], [], Wd xs L (wA A0 2 (nbw w h n y g 8)) V' Y, 0, 0)) ok_Land_layOut 38 [] rfl trivial)
      rw [iI_1] at t3
      exact ⟨_, nbOK_s (k := k0 + n) hw hh ⟨by omega, by omega⟩ hy (by omega) hg, t3⟩
  have rows : ∀ n : Nat, (n : Int) ≤ h → ∃ (f : Nat → Int32) (u : Value), nbOK w h f ((n : Int) * w).toNat ∧ mj_Rc m_Land_layOut 0 0 2 (27, [.ref (mj_NE + 1), .int (iI w), .int (iI h), .int 0, mj_u], [], Wd xs L A0 V' Y, 0, 0) (27, [.ref (mj_NE + 1), .int (iI w), .int (iI h), .int (iI n), u], [], Wd xs L (wA A0 2 f) V' Y, 0, 0) := by
    intro n
    induction n with
    | zero => intro _; exact ⟨A0 2, mj_u, fun i hi => absurd hi (by simp), by rw [wA_id]; exact r_rf⟩
    | succ n ih =>
      intro hn
      obtain ⟨f, u, hf, hr⟩ := ih (by omega)
      have hnw : 0 ≤ (n : Int) * w := Int.mul_nonneg (by omega) (by omega)
      have t1 := r_tr hr (r_to (g' := (38, [.ref (mj_NE + 1), .int (iI w), .int (iI h), .int (iI n), .int 0], [], Wd xs L (wA A0 2 f) V' Y, 0, 0)) ok_Land_layOut 38 [false] rfl ⟨by
        show ¬ (V' 1 ≤ iI n)
        rw [v1, iI_le ⟨by omega, by omega⟩ ⟨by omega, by omega⟩]
        omega, trivial⟩)
      obtain ⟨g, hg, hr2⟩ := row n f ((n : Int) * w).toNat u ⟨by omega, by omega⟩ (by omega) hf w.toNat (by omega)
      have t2 := r_tr (r_tr t1 hr2) (r_to (g' := (27, [.ref (mj_NE + 1), .int (iI w), .int (iI h), .int (iI n + 1), .int (iI w.toNat)], [], Wd xs L (wA A0 2 g) V' Y, 0, 0)) ok_Land_layOut 27 [true] rfl ⟨by
        show V' 0 ≤ iI w.toNat
        rw [v0, iI_le ⟨by omega, by omega⟩ ⟨by omega, by omega⟩]
        omega, trivial⟩)
      rw [iI_1] at t2
      refine ⟨g, _, ?_, t2⟩
      have e : (((n + 1 : Nat) : Int) * w).toNat = ((n : Int) * w).toNat + w.toNat := by
        rw [Int.natCast_add, Int.add_mul]
        omega
      rw [e]
      exact hg
  obtain ⟨f, u, hf, hr⟩ := rows h.toNat (by omega)
  refine ⟨f, ?_, ct_of ok_Land_layOut rfl (r_tr (r_tr s3 hr) (r_to ok_Land_layOut 9999 [true] rfl ⟨?_, trivial⟩)) rfl rfl rfl rfl rfl⟩
  · have e : ((h.toNat : Nat) : Int) * w = w * h := by rw [Int.mul_comm]; congr 1; omega
    rw [e] at hf
    exact hf
  · show V' 1 ≤ iI h.toNat
    rw [v1, iI_le ⟨by omega, by omega⟩ ⟨by omega, by omega⟩]
    omega
end LAYOUT
