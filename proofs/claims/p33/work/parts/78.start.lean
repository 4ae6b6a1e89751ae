/-! THE START: what stands at the law's entry -/
abbrev st_fl : List Cond := flatC (Jvm.Cond.and given_1 narrow_1)
section STARTS
variable {s : State} {args : Array Value}
theorem st_tbl (hts : ∀ w ∈ lw_tbl, w.before args s = true) : ∀ w ∈ mj_tbl, w.before args s = true := fun w hw => hts w (List.mem_filter.mp hw).1
theorem st_arr (hts : ∀ w ∈ lw_tbl, w.before args s = true) : ∃ cT : FieldType → ClassId, ∀ ty, ty ∈ mj_tyl → ArrOfT s (cT ty) ty ∧ va_RA s (cT ty) ty := by
  have key : ∀ ty : FieldType, ∃ c : ClassId, ty ∈ mj_tyl → ArrOfT s c ty ∧ va_RA s c ty := by
    intro ty
    by_cases hty : ty ∈ mj_tyl
    · obtain ⟨c, k, comp, h1, h2, h3⟩ := Cond.arrayClass_spec (st_tbl hts _ (mj_arr hty))
      refine ⟨c, fun _ => ⟨fun n z => ⟨(fun k h => by cases h), k, h2, comp, h3⟩, ?_⟩⟩
      simp only [mj_tyl, List.mem_cons, List.not_mem_nil, or_false] at hty
      rcases hty with rfl | rfl
      · exact h1
      · exact h1
    · exact ⟨0, fun h => absurd h hty⟩
  exact Classical.axiomOfChoice key
theorem st_npOK : (mj_cl.zip mj_np).all (fun z => decide (lw_tbl[z.2.1]? = some (Cond.instantiable z.1.1 z.1.2.2))) = true ∧ mj_cl.length = mj_np.length := by decide +kernel
theorem st_cls (hts : ∀ w ∈ lw_tbl, w.before args s = true) : ∃ D : va_G, ∀ (c : Nat) (q : vw_C), mj_cl[c]? = some q → u_Kn s q.1 q.2.1 q.2.2 (D.1 c) (D.2 c) := by
  have key : ∀ c : Nat, ∃ d : ClassId × (Nat → Nat), ∀ q : vw_C, mj_cl[c]? = some q → u_Kn s q.1 q.2.1 q.2.2 d.1 d.2 := by
    intro c
    cases hq : mj_cl[c]? with
    | none => exact ⟨(0, fun _ => 0), fun q h => by cases h⟩
    | some q =>
      obtain ⟨C, T, N⟩ := q
      obtain ⟨h0, hlen⟩ := st_npOK
      have hci : c < mj_np.length := by rw [← hlen]; exact (List.getElem?_eq_some_iff.mp hq).1
      have hz : (mj_cl.zip mj_np)[c]? = some ((C, T, N), mj_np[c]) := List.getElem?_zip_eq_some.mpr ⟨hq, List.getElem?_eq_getElem hci⟩
      have h1 := of_decide_eq_true (List.all_eq_true.mp h0 _ (List.mem_of_getElem? hz))
      obtain ⟨cC, iS, hK⟩ := u_known (ws := mj_tbl) (C := C) (T := T) (N := N) (n := N) (st_tbl hts) (mj_cls hq).1 (hts _ (List.mem_of_getElem? h1))
      exact ⟨(cC, iS), fun q h => by cases h; exact hK⟩
  obtain ⟨d, hd⟩ := Classical.axiomOfChoice key
  exact ⟨(fun c => (d c).1, fun c => (d c).2), fun c q h => hd c q h⟩
theorem st_nest : ∀ w ∈ mj_nest, w ∈ lw_tbl ∧ w.onTables = true := by decide +kernel
theorem st_flat (hgv : (Jvm.Cond.and given_1 narrow_1).before args s = true) : ∀ w ∈ st_fl, w.before args s = true := flat_of_before _ hgv
/-- a static row of ints -/
theorem st_row {C n : String} {N : Nat} {f : Nat → Int32} (hs : ∀ w ∈ st_fl, w.before args s = true) (hN : N < 2 ^ 31) (hw : Cond.arrayOf (.static C n "[I") .int ∈ st_fl ∧ Cond.eq (.length (.static C n "[I")) (.int (Int32.ofNat N)) ∈ st_fl ∧ ∀ j, j < N → Cond.eq (.elem (.static C n "[I") (.int (Int32.ofNat j))) (.int (f j)) ∈ st_fl) : ∃ t : Nat, (Term.static C n "[I").eval args s none [] s = some (.ref t) ∧ va_T .int t N (fun j => .int (f j)) (fun q => s.heap.size ≤ q) s s.heap :=
  va_Tof hN (hs _ hw.1) (va_eqt (hs _ hw.2.1)) (fun j hj => va_eqt (hs _ (hw.2.2 j hj))) (fun _ h => Nat.not_le.mpr h)
/-- the names of the cells at the law's entry -/
def st_nm (t0 t1 t2 b base : Nat) (i : Nat) : Nat := match i with
  | 0 => t0
  | 1 => t1
  | 2 => t2
  | 3 => b
  | i + 4 => base + i
theorem st_E (hts : ∀ w ∈ lw_tbl, w.before args s = true) (hgv : (Jvm.Cond.and given_1 narrow_1).before args s = true) {b L : Nat} {xs : Nat → Int32} (hX : va_X b L xs s s.heap) (hbl : b < s.heap.size) : ∃ (σ : Nat → Nat) (D : va_G) (cT : FieldType → ClassId), σ 3 = b ∧ mj_E σ D cT s.heap.size s ∧ mj_R σ D cT s.heap.size s (mj_pre xs L []) s.heap [] := by
  have hs := st_flat hgv
  obtain ⟨D, hD⟩ := st_cls hts
  obtain ⟨cT, hcT⟩ := st_arr hts
  obtain ⟨t0, e0, h0⟩ := st_row (C := "WatershedMap") (n := "STEP_X") (N := 8) (f := mj_s0) hs (by decide) (by decide +kernel)
  obtain ⟨t1, e1, h1⟩ := st_row (C := "WatershedMap") (n := "STEP_Y") (N := 8) (f := mj_s1) hs (by decide) (by decide +kernel)
  obtain ⟨t2, e2, h2⟩ := st_row (C := "WatershedMap") (n := "DIGEST_CONTOURS") (N := 3) (f := mj_s2) hs (by decide) (by decide +kernel)
  have hA : ∀ q : Nat, q < s.heap.size → ¬ (fun q => s.heap.size ≤ q) q := fun _ h => Nat.not_le.mpr h
  have hb6 : va_T .int b L (fun j => .int (xs j)) (fun q => s.heap.size ≤ q) s s.heap := by
    obtain ⟨scr, x1, x2, x3, x4, x5⟩ := hX
    exact ⟨scr, x1, x2, x3, by omega, by rw [x4], x5, Nat.not_le.mpr hbl⟩
  refine ⟨st_nm t0 t1 t2 b s.heap.size, D, cT, rfl, ⟨⟨hD, fun k q hk => ?_⟩, fun w hw => va_Nw.of (st_nest w hw).2 (hts w (st_nest w hw).1), fun i q hi => ?_, Nat.le_refl _, fun i hi => ?_, fun i j hi hj e => ?_⟩, fun i c hi => ?_, fun j => ?_, ?_, va_S.rf⟩
  · have hm := List.mem_of_getElem? hk
    obtain ⟨ty, hty, rfl⟩ := List.mem_map.mp hm
    exact hcT ty hty
  · match i, hi with
    | 0, hi => cases hi; exact va_Zof (hts _ (by decide +kernel)) (hts _ (by decide +kernel)) e0 hA
    | 1, hi => cases hi; exact va_Zof (hts _ (by decide +kernel)) (hts _ (by decide +kernel)) e1 hA
    | 2, hi => cases hi; exact va_Zof (hts _ (by decide +kernel)) (hts _ (by decide +kernel)) e2 hA
    | i + 3, hi => exact absurd (List.getElem?_eq_some_iff.mp hi).1 (by show ¬ i + 3 < 3; omega)
  · have h7 : 4 ≤ i := Nat.le_of_ble_eq_true hi
    obtain ⟨j, rfl⟩ : ∃ j, i = j + 4 := ⟨i - 4, by omega⟩
    show s.heap.size ≤ s.heap.size + j
    omega
  · have h7 : 4 ≤ i := Nat.le_of_ble_eq_true hi
    have h8 : 4 ≤ j := Nat.le_of_ble_eq_true hj
    obtain ⟨i, rfl⟩ : ∃ k, i = k + 4 := ⟨i - 4, by omega⟩
    obtain ⟨j, rfl⟩ : ∃ k, j = k + 4 := ⟨j - 4, by omega⟩
    have e : s.heap.size + i = s.heap.size + j := e
    omega
  · match i, hi with
    | 0, hi => cases hi; exact h0
    | 1, hi => cases hi; exact h1
    | 2, hi => cases hi; exact h2
    | 3, hi => cases hi; exact hb6
    | i + 4, hi => exact absurd (List.getElem?_eq_some_iff.mp hi).1 (by show ¬ i + 4 < 4; omega)
  · show st_nm t0 t1 t2 b s.heap.size (4 + j) = s.heap.size + j
    rw [Nat.add_comm 4 j]
    rfl
  · show 4 ≤ 4
    omega
end STARTS
