/-! REACHING one configuration from another; the class's cells as they lie after its constructor -/
def mj_Rc (M : mj_M) (RC RS dd : Nat) (g g' : mj_S) : Prop := ∀ κ : mj_K, mj_X M RC RS dd κ → mj_G κ g' → mj_G κ g
theorem r_rf {M : mj_M} {RC RS dd : Nat} {g : mj_S} : mj_Rc M RC RS dd g g := fun _ _ h => h
theorem r_tr {M : mj_M} {RC RS dd : Nat} {g1 g2 g3 : mj_S} (h1 : mj_Rc M RC RS dd g1 g2) (h2 : mj_Rc M RC RS dd g2 g3) : mj_Rc M RC RS dd g1 g3 := fun κ hX k => h1 κ hX (h2 κ hX k)
theorem r_to {M : mj_M} {RC RS dd : Nat} (hA : mj_okA M = true) (stop : Nat) (ds : List Bool) {g g' : mj_S} {P : Prop} (h : mj_run (mj_cd M) RC RS stop 200 ds g = some (P, g')) (hP : P) : mj_Rc M RC RS dd g g' := fun _ hX k => g_to hX hA stop ds h hP k
theorem r_V {M M' : mj_M} {RC RS dd : Nat} (hA : mj_okA M = true) (hA' : mj_okA M' = true) (hsel : lw_tbl[mM_p3 M']? = some (Cond.selects (mM_y M').cls (mM_y M') (mM_y M')) ∧ lw_tbl[mM_p2 M']? = some (Cond.instanceMethod (mM_y M'))) {pc q : Nat} {L As rest : List Value} {h h' : mj_H} {cc cs mc ms d : Nat} {r : Option Value} (hC : mj_Ct M' (.ref q :: As) h r h' mc ms d) (hi : mj_isV (mj_cd M pc) M' = true) (hn : As.length = mM_np M') (hrc : mj_rcv h q M' = true) (hw : Nat.ble ((rest.map fun v => v.category).sum) 8 = true) (hroom : Nat.ble (cc + mc) RC = true ∧ Nat.ble (cs + ms) RS = true ∧ Nat.blt d dd = true) : mj_Rc M RC RS dd (pc, L, As.reverse ++ .ref q :: rest, h, cc, cs) (pc + 3, L, r.toList ++ rest, h', cc + mc, cs + ms) := fun _ hX k => g_callV hX hA hA' hC hi hsel rfl hn hrc hw hroom k
theorem r_S {M M' : mj_M} {RC RS dd : Nat} (hA : mj_okA M = true) (hA' : mj_okA M' = true) (hsta : lw_tbl[mM_p2 M']? = some (Cond.static (mM_y M'))) {pc : Nat} {L As rest : List Value} {h h' : mj_H} {cc cs mc ms d : Nat} {r : Option Value} (hC : mj_Ct M' As h r h' mc ms d) (hi : mj_isS (mj_cd M pc) M' = true) (hn : As.length = mM_np M') (hw : Nat.ble ((rest.map fun v => v.category).sum) 8 = true) (hroom : Nat.ble (cc + mc) RC = true ∧ Nat.ble (cs + ms) RS = true ∧ Nat.blt d dd = true) : mj_Rc M RC RS dd (pc, L, As.reverse ++ rest, h, cc, cs) (pc + 3, L, r.toList ++ rest, h', cc + mc, cs + ms) := fun _ hX k => g_callS hX hA hA' hC hi hsta rfl hn hw hroom k
theorem r_I {M M' : mj_M} {RC RS dd : Nat} (hA : mj_okA M = true) (hA' : mj_okA M' = true) (hin : lw_tbl[mM_p2 M']? = some (Cond.instanceMethod (mM_y M')) ∧ mM_ret M' = none ∧ mj_ini M' = true) {pc q : Nat} {L As rest : List Value} {h h' : mj_H} {cc cs mc ms d : Nat} (hC : mj_Ct M' (.ref q :: As) h none h' mc ms d) (hi : mj_isI (mj_cd M pc) M' = true) (hn : As.length = mM_np M') (hw : Nat.ble ((rest.map fun v => v.category).sum) 8 = true) (hroom : Nat.ble (cc + mc) RC = true ∧ Nat.ble (cs + ms) RS = true ∧ Nat.blt d dd = true) : mj_Rc M RC RS dd (pc, L, As.reverse ++ .ref q :: rest, h, cc, cs) (pc + 3, L, rest, h', cc + mc, cs + ms) := fun _ hX k => g_callI hX hA hA' hC hi hin.1 hin.2.1 hin.2.2 rfl hn hw hroom k
theorem r_O {M : mj_M} {RC RS dd : Nat} (hA : mj_okA M = true) {pc q : Nat} {L rest : List Value} {h : mj_H} {cc cs : Nat} (hi : mj_isO (mj_cd M pc) = true) (hw : Nat.ble ((rest.map fun v => v.category).sum) 8 = true) (hd : Nat.blt 0 dd = true) : mj_Rc M RC RS dd (pc, L, .ref q :: rest, h, cc, cs) (pc + 3, L, rest, h, cc, cs) := fun _ hX k => g_obj hX hA hi hw hd k
theorem ct_of {M : mj_M} (hA : mj_okA M = true) {as : List Value} {h : mj_H} {r : Option Value} {h' : mj_H} {mc ms d : Nat} {pc : Nat} {L st : List Value} {cc cs : Nat} {i : mj_I} (hl : Nat.ble (lg_sl as).length (mM_nl M) = true) (hR : mj_Rc M mc ms d (0, mj_ent as (mM_nl M), [], h, 0, 0) (pc, L, st, h', cc, cs)) (hst : st = r.toList) (hi : mj_cd M pc = some i) (hr : mj_isR (mM_ret M) r i) (hc : Nat.ble cc mc = true) (hs : Nat.ble cs ms = true) : mj_Ct M as h r h' mc ms d := mj_intro hA hl fun κ hX hF => hR κ hX (g_ret hF hi hr hst hc hs)
/-- as they lie: the static arrays and the script, then the class's objects and arrays in the order in which its constructor makes them; A: what the arrays hold, V: what the fields hold -/
abbrev mj_ia (N : Nat) (f : Nat → Int32) : mj_Cl := .inl (.int, N, .inl f)
def Wd (xs : Nat → Int32) (L : Nat) (A : Nat → Nat → Int32) (V : Nat → Int32) (Y : mj_H) : mj_H :=
  mj_pre xs L (
  .inr (8, [.ref (mj_NE + 1), .ref (mj_NE + 5), .ref (mj_NE + 16), .ref (mj_NE + 22), .ref (mj_NE + 26), .ref (mj_NE + 27), .ref (mj_NE + 31), .int (V 10)]) ::
  .inr (4, [.ref (mj_NE + 2), .ref (mj_NE + 3), .ref (mj_NE + 4), .int (V 0), .int (V 1), .int (V 2)]) ::
  mj_ia 256 (A 0) :: mj_ia 256 (A 1) :: mj_ia 2048 (A 2) ::
  .inr (6, [.ref (mj_NE + 1), .ref (mj_NE + 6), .ref (mj_NE + 7), .ref (mj_NE + 8), .ref (mj_NE + 9), .ref (mj_NE + 10), .ref (mj_NE + 11), .ref (mj_NE + 12), .ref (mj_NE + 13), .ref (mj_NE + 14), .ref (mj_NE + 15), .int (V 3)]) ::
  mj_ia 256 (A 3) :: mj_ia 256 (A 4) :: mj_ia 256 (A 5) :: mj_ia 256 (A 6) :: mj_ia 256 (A 7) :: mj_ia 256 (A 8) :: mj_ia 256 (A 9) :: mj_ia 256 (A 10) :: .inl (.boolean, 256, .inl (A 11)) :: mj_ia 256 (A 12) ::
  .inr (3, [.ref (mj_NE + 1), .ref (mj_NE + 17), .ref (mj_NE + 18), .ref (mj_NE + 20), .int (V 4)]) ::
  mj_ia 256 (A 13) :: .inr (1, [.ref (mj_NE + 19), .int (V 5)]) :: mj_ia 256 (A 14) :: .inr (2, [.ref (mj_NE + 21)]) :: mj_ia 512 (A 15) ::
  .inr (0, [.ref (mj_NE + 1), .ref (mj_NE + 23), .ref (mj_NE + 24), .int (V 6), .int (V 7), .int (V 8)]) ::
  mj_ia 512 (A 16) :: .inr (2, [.ref (mj_NE + 25)]) :: mj_ia 512 (A 17) ::
  .inr (5, [.ref (mj_NE + 1)]) ::
  .inr (7, [.ref (mj_NE + 1), .ref (mj_NE + 28), .ref (mj_NE + 29)]) :: mj_ia 256 (A 18) :: .inr (1, [.ref (mj_NE + 30), .int (V 9)]) :: mj_ia 256 (A 19) ::
  mj_ia 256 (A 20) :: Y)
abbrev wA (A : Nat → Nat → Int32) (k : Nat) (f : Nat → Int32) : Nat → Nat → Int32 := va_up A k f
abbrev wV (V : Nat → Int32) (k : Nat) (x : Int32) : Nat → Int32 := va_up V k x
section LAND
variable {xs : Nat → Int32} {L : Nat} {A : Nat → Nat → Int32} {V : Nat → Int32} {Y : mj_H}
theorem c_numberOf {x y : Int32} : mj_Ct m_Land_numberOf [.ref (mj_NE + 1), .int x, .int y] (Wd xs L A V Y) (some (.int (y * V 0 + x))) (Wd xs L A V Y) 0 0 0 :=
  ct_of ok_Land_numberOf rfl (r_to ok_Land_numberOf 9999 [] rfl trivial) rfl rfl rfl rfl rfl
theorem c_neighbour {x d : Int32} (h : vp_in (x * 8 + d) 2048) : mj_Ct m_Land_neighbour [.ref (mj_NE + 1), .int x, .int d] (Wd xs L A V Y) (some (.int (A 2 (x * 8 + d).toNatClampNeg))) (Wd xs L A V Y) 0 0 0 :=
  ct_of ok_Land_neighbour rfl (r_to ok_Land_neighbour 9999 [] rfl ⟨h, trivial⟩) rfl rfl rfl rfl rfl
end LAND
