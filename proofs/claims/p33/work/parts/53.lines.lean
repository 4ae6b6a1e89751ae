/-! LINES as they are: pieces, lines, closed ones -/
/-- the piece at each POINT, the leaders, how many pieces, lines, closed ones -/
abbrev CtS : Type := (Nat → Int) × (Nat → Nat) × Int × Int × Int
def tieF (K : Nat) (S : CtS) (pt : Nat) (piece : Nat) : CtS := if 0 ≤ S.1 pt then (if (jnF K S.2.1 (S.1 pt).toNat piece).1 = true then (supI S.1 pt (piece : Int), (jnF K S.2.1 (S.1 pt).toNat piece).2, S.2.2.1, S.2.2.2.1 - 1, S.2.2.2.2) else (supI S.1 pt (piece : Int), (jnF K S.2.1 (S.1 pt).toNat piece).2, S.2.2.1, S.2.2.2.1, S.2.2.2.2 + 1)) else (supI S.1 pt (piece : Int), S.2.1, S.2.2.1, S.2.2.2.1, S.2.2.2.2)
def apF (K : Nat) (S : CtS) (one other : Int) : CtS := if 0 ≤ one ∧ 0 ≤ other then tieF K (tieF K (S.1, S.2.1, S.2.2.1 + 1, S.2.2.2.1 + 1, S.2.2.2.2) one.toNat S.2.2.1.toNat) other.toNat S.2.2.1.toNat else S
def hiB (H : Nat → Int) (c : Int) (j : Nat) : Bool := decide (c < H j)
def sdF (p q : Bool) (z : Int) : Int := if p = q then -1 else z
/-- a square: a its corner, b the FIELD below -/
def sqF (K : Nat) (H : Nat → Int) (c : Int) (a b : Nat) (S : CtS) : CtS :=
  if hiB H c a = hiB H c (b + 1) ∧ hiB H c (a + 1) = hiB H c b ∧ hiB H c a ≠ hiB H c (a + 1) then
    (if decide (H a + H (a + 1) + H b + H (b + 1) ≤ 4 * c) = hiB H c a then apF K (apF K S (2 * a) (2 * a + 1)) (2 * b) (2 * (a + 1) + 1) else apF K (apF K S (2 * a) (2 * (a + 1) + 1)) (2 * b) (2 * a + 1))
  else apF K S (if hiB H c a ≠ hiB H c (a + 1) then 2 * a else if hiB H c (a + 1) ≠ hiB H c (b + 1) then 2 * (a + 1) + 1 else sdF (hiB H c b) (hiB H c (b + 1)) (2 * b))
    (if hiB H c a ≠ hiB H c b then 2 * a + 1 else if hiB H c b ≠ hiB H c (b + 1) then 2 * b else sdF (hiB H c (a + 1)) (hiB H c (b + 1)) (2 * (a + 1) + 1))
def rwF (K : Nat) (wn : Nat) (H : Nat → Int) (c : Int) (y : Nat) (S : CtS) : Nat → CtS
  | 0 => S
  | x + 1 => sqF K H c (y * wn + x) (y * wn + x + wn) (rwF K wn H c y S x)
def dwF (K : Nat) (wn : Nat) (H : Nat → Int) (c : Int) : Nat → CtS
  | 0 => (fun _ => -1, fun i => i, 0, 0, 0)
  | y + 1 => rwF K wn H c y (dwF K wn H c y) (wn - 1)
/-- o: the POINTS at which one piece ends; W: what a tie takes away -/
def CtW (S : CtS) (o : Nat → Bool) (z : Int) : Prop := 2 * S.2.2.2.1 - 2 * S.2.2.2.2 = cnt o 512 + z ∧ 0 ≤ S.2.2.2.2 ∧ S.2.2.2.1 ≤ S.2.2.1 ∧ 0 ≤ S.2.2.1 ∧ ∀ p, o p = true → 0 ≤ S.1 p
theorem cnt_more {p q : Nat → Bool} {v : Nat} (n : Nat) (hv : v < n) (h1 : p v = false) (h2 : q v = true) (h3 : ∀ j, j < n → j ≠ v → q j = p j) : cnt q n = cnt p n + 1 := by
  have := cnt_less (p := q) (q := p) (v := v) n hv h2 h1 (fun j hj hne => (h3 j hj hne).symm)
  omega
theorem tie_W {K : Nat} {S : CtS} {o : Nat → Bool} {z : Int} {pt piece : Nat} (h : CtW S o z) (hp : pt < 512) (ho : 0 ≤ S.1 pt → o pt = true) : ∃ o' : Nat → Bool, CtW (tieF K S pt piece) o' (z - 1) ∧ (∀ p, p ≠ pt → o' p = o p ∧ (tieF K S pt piece).1 p = S.1 p) ∧ (S.1 pt < 0 → o' pt = true) ∧ (tieF K S pt piece).1 pt = piece ∧ (tieF K S pt piece).2.2.1 = S.2.2.1 := by
  obtain ⟨h1, h2, h3, h4, h5⟩ := h
  by_cases q : 0 ≤ S.1 pt
  · have ec : cnt (sup o pt) 512 = cnt o 512 := cnt_cg 512 (fun j _ => by
      by_cases e : j = pt
      · rw [e, sup_eq, ho q]
      · rw [sup_ne e])
    have ec2 := cnt_less (p := o) (q := supI o pt false) (v := pt) 512 hp (ho q) supI_eq (fun j _ hne => supI_ne hne)
    have hx : ∀ p, supI o pt false p = true → 0 ≤ supI S.1 pt (piece : Int) p := fun p hpo => by
      by_cases e : p = pt
      · rw [e, supI_eq]; omega
      · rw [supI_ne e] at hpo ⊢; exact h5 p hpo
    unfold tieF
    rw [if_pos q]
    by_cases r : (jnF K S.2.1 (S.1 pt).toNat piece).1 = true
    · rw [if_pos r]
      exact ⟨supI o pt false, ⟨by dsimp only; omega, h2, by dsimp only; omega, h4, hx⟩, fun p hne => ⟨supI_ne hne, supI_ne hne⟩, fun hn => absurd hn (by omega), supI_eq, rfl⟩
    · rw [if_neg r]
      exact ⟨supI o pt false, ⟨by dsimp only; omega, by dsimp only; omega, h3, h4, hx⟩, fun p hne => ⟨supI_ne hne, supI_ne hne⟩, fun hn => absurd hn (by omega), supI_eq, rfl⟩
  · have hf : o pt = false := by
      cases e : o pt with
      | false => rfl
      | true => exact absurd (h5 pt e) q
    have ec2 := cnt_more (p := o) (q := supI o pt true) (v := pt) 512 hp hf supI_eq (fun j _ hne => supI_ne hne)
    have hx : ∀ p, supI o pt true p = true → 0 ≤ supI S.1 pt (piece : Int) p := fun p hpo => by
      by_cases e : p = pt
      · rw [e, supI_eq]; omega
      · rw [supI_ne e] at hpo ⊢; exact h5 p hpo
    unfold tieF
    rw [if_neg q]
    exact ⟨supI o pt true, ⟨by dsimp only; omega, h2, h3, h4, hx⟩, fun p hne => ⟨supI_ne hne, supI_ne hne⟩, fun _ => supI_eq, supI_eq, rfl⟩
theorem ap_W {K : Nat} {S : CtS} {o : Nat → Bool} {p1 p2 : Nat} (h : CtW S o 0) (h1 : p1 < 512) (h2 : p2 < 512) (hne : p1 ≠ p2) (o1 : 0 ≤ S.1 p1 → o p1 = true) (o2 : 0 ≤ S.1 p2 → o p2 = true) : ∃ o' : Nat → Bool, CtW (apF K S (p1 : Int) (p2 : Int)) o' 0 ∧ (∀ p, p ≠ p1 → p ≠ p2 → o' p = o p ∧ (apF K S (p1 : Int) (p2 : Int)).1 p = S.1 p) ∧ (S.1 p1 < 0 → o' p1 = true) ∧ (S.1 p2 < 0 → o' p2 = true) ∧ (apF K S (p1 : Int) (p2 : Int)).2.2.1 = S.2.2.1 + 1 := by
  obtain ⟨g1, g2, g3, g4, g5⟩ := h
  have hS0 : CtW (S.1, S.2.1, S.2.2.1 + 1, S.2.2.2.1 + 1, S.2.2.2.2) o 2 := ⟨by dsimp only; omega, g2, by dsimp only; omega, by dsimp only; omega, g5⟩
  obtain ⟨oa, a1, a2, a3, a4, a5⟩ := tie_W (piece := S.2.2.1.toNat) hS0 h1 o1
  obtain ⟨ob, b1, b2, b3, b4, b5⟩ := tie_W (pt := p2) (piece := S.2.2.1.toNat) a1 h2 (fun q => by
    rw [(a2 p2 (fun e => hne e.symm)).2] at q
    rw [(a2 p2 (fun e => hne e.symm)).1]
    exact o2 q)
  have e : apF K S (p1 : Int) (p2 : Int) = tieF K (tieF K (S.1, S.2.1, S.2.2.1 + 1, S.2.2.2.1 + 1, S.2.2.2.2) p1 S.2.2.1.toNat) p2 S.2.2.1.toNat := by
    unfold apF
    rw [if_pos ⟨by omega, by omega⟩, Int.toNat_natCast, Int.toNat_natCast]
  rw [e]
  refine ⟨ob, by have := b1; exact this, fun p q1 q2 => ⟨(b2 p q2).1.trans (a2 p q1).1, (b2 p q2).2.trans (a2 p q1).2⟩, fun q => ?_, fun q => b3 ?_, b5.trans a5⟩
  · rw [(b2 p1 hne).1]
    exact a3 q
  · rw [(a2 p2 (fun e => hne e.symm)).2]
    exact q
/-- what is known as the square at the corner a is reached -/
def CtI (wn : Nat) (S : CtS) (a : Nat) : Prop := ∃ o : Nat → Bool, CtW S o 0 ∧ (∀ q, a < q → S.1 (2 * q + 1) < 0) ∧ (∀ q, a + wn ≤ q → S.1 (2 * q) < 0) ∧ (0 ≤ S.1 (2 * a + 1) → o (2 * a + 1) = true) ∧ (∀ q, a ≤ q → q < a + wn → 0 ≤ S.1 (2 * q) → o (2 * q) = true)
theorem CtI_skip {wn a : Nat} {S : CtS} (hw : 2 ≤ wn) (h : CtI wn S a) (hs : S.1 (2 * a + 1) < 0) : CtI wn S (a + 1) := by
  obtain ⟨o, h1, h2, h3, h4, h5⟩ := h
  refine ⟨o, h1, fun q hq => h2 q (by omega), fun q hq => h3 q (by omega), fun q => absurd q (by have := h2 (a + 1) (by omega); omega), fun q q1 q2 q3 => ?_⟩
  by_cases e : q = a + wn
  · have := h3 q (by omega)
    omega
  · exact h5 q (by omega) (by omega) q3
/-- a side is no POINT further on -/
theorem sd_ne {wn a p : Nat} (hw : 2 ≤ wn) (hb : 2 * (a + wn) + 3 < 512) (hp : p = 2 * a ∨ p = 2 * (a + 1) + 1 ∨ p = 2 * (a + wn) ∨ p = 2 * a + 1) : (∀ q, a + 1 < q → 2 * q + 1 ≠ p) ∧ (∀ q, a + 1 + wn ≤ q → 2 * q ≠ p) ∧ (∀ q, a + 1 ≤ q → q < a + wn → 2 * q ≠ p) ∧ p < 512 := by
  rcases hp with rfl | rfl | rfl | rfl
  · exact ⟨fun q hq => by omega, fun q hq => by omega, fun q h1 h2 => by omega, by omega⟩
  · exact ⟨fun q hq => by omega, fun q hq => by omega, fun q h1 h2 => by omega, by omega⟩
  · exact ⟨fun q hq => by omega, fun q hq => by omega, fun q h1 h2 => by omega, by omega⟩
  · exact ⟨fun q hq => by omega, fun q hq => by omega, fun q h1 h2 => by omega, by omega⟩
/-- one piece, between two of the four sides -/
theorem CtI_one {K : Nat} {wn a p1 p2 : Nat} {S : CtS} (hw : 2 ≤ wn) (hb : 2 * (a + wn) + 3 < 512) (h : CtI wn S a) (h1 : p1 = 2 * a ∨ p1 = 2 * (a + 1) + 1 ∨ p1 = 2 * (a + wn) ∨ p1 = 2 * a + 1) (h2 : p2 = 2 * a ∨ p2 = 2 * (a + 1) + 1 ∨ p2 = 2 * (a + wn) ∨ p2 = 2 * a + 1) (hne : p1 ≠ p2) : CtI wn (apF K S (p1 : Int) (p2 : Int)) (a + 1) ∧ (apF K S (p1 : Int) (p2 : Int)).2.2.1 = S.2.2.1 + 1 := by
  obtain ⟨o, g1, g2, g3, g4, g5⟩ := h
  obtain ⟨x1, y1, z1, l1⟩ := sd_ne hw hb h1
  obtain ⟨x2, y2, z2, l2⟩ := sd_ne hw hb h2
  have sd : ∀ p, (p = 2 * a ∨ p = 2 * (a + 1) + 1 ∨ p = 2 * (a + wn) ∨ p = 2 * a + 1) → 0 ≤ S.1 p → o p = true := by
    intro p hp q
    rcases hp with rfl | rfl | rfl | rfl
    · exact g5 a (by omega) (by omega) q
    · exact absurd (g2 (a + 1) (by omega)) (by omega)
    · exact absurd (g3 (a + wn) (by omega)) (by omega)
    · exact g4 q
  obtain ⟨o', b1, b2, b3, b4, b5⟩ := ap_W g1 l1 l2 hne (sd p1 h1) (sd p2 h2)
  have fresh : ∀ p, S.1 p < 0 → 0 ≤ (apF K S (p1 : Int) (p2 : Int)).1 p → o' p = true := by
    intro p hp q
    by_cases e1 : p = p1
    · rw [e1]; exact b3 (e1 ▸ hp)
    · by_cases e2 : p = p2
      · rw [e2]; exact b4 (e2 ▸ hp)
      · rw [(b2 p e1 e2).2] at q
        omega
  refine ⟨⟨o', b1, fun q hq => ?_, fun q hq => ?_, fun q => fresh _ (g2 (a + 1) (by omega)) q, fun q q1 q2 q3 => ?_⟩, b5⟩
  · rw [(b2 (2 * q + 1) (x1 q hq) (x2 q hq)).2]
    exact g2 q (Nat.lt_of_succ_lt hq)
  · rw [(b2 (2 * q) (y1 q hq) (y2 q hq)).2]
    exact g3 q (by clear h1 h2; omega)
  · by_cases e : q = a + wn
    · exact fresh _ (g3 q (by omega)) q3
    · have q4 : q < a + wn := by clear h1 h2; omega
      rw [(b2 (2 * q) (z1 q q1 q4) (z2 q q1 q4)).2] at q3
      rw [(b2 (2 * q) (z1 q q1 q4) (z2 q q1 q4)).1]
      exact g5 q (Nat.le_of_succ_le q1) q4 q3
/-- none -/
theorem CtI_none {wn a : Nat} {S : CtS} (hw : 2 ≤ wn) (h : CtI wn S a) : CtI wn S (a + 1) := by
  obtain ⟨o, g1, g2, g3, g4, g5⟩ := h
  refine ⟨o, g1, fun q hq => g2 q (by omega), fun q hq => g3 q (by omega), fun q => absurd (g2 (a + 1) (by omega)) (by omega), fun q q1 q2 q3 => ?_⟩
  by_cases e : q = a + wn
  · exact absurd (g3 q (by omega)) (by omega)
  · exact g5 q (by omega) (by omega) q3
/-- two, between the four sides -/
theorem CtI_two {K : Nat} {wn a p1 p2 p3 p4 : Nat} {S : CtS} (hw : 2 ≤ wn) (hb : 2 * (a + wn) + 3 < 512) (h : CtI wn S a) (h1 : p1 = 2 * a ∨ p1 = 2 * (a + 1) + 1 ∨ p1 = 2 * (a + wn) ∨ p1 = 2 * a + 1) (h2 : p2 = 2 * a ∨ p2 = 2 * (a + 1) + 1 ∨ p2 = 2 * (a + wn) ∨ p2 = 2 * a + 1) (h3 : p3 = 2 * a ∨ p3 = 2 * (a + 1) + 1 ∨ p3 = 2 * (a + wn) ∨ p3 = 2 * a + 1) (h4 : p4 = 2 * a ∨ p4 = 2 * (a + 1) + 1 ∨ p4 = 2 * (a + wn) ∨ p4 = 2 * a + 1) (n12 : p1 ≠ p2) (n34 : p3 ≠ p4) (n13 : p1 ≠ p3 ∧ p1 ≠ p4 ∧ p2 ≠ p3 ∧ p2 ≠ p4) : CtI wn (apF K (apF K S (p1 : Int) (p2 : Int)) (p3 : Int) (p4 : Int)) (a + 1) ∧ (apF K (apF K S (p1 : Int) (p2 : Int)) (p3 : Int) (p4 : Int)).2.2.1 = S.2.2.1 + 2 := by
  obtain ⟨o, g1, g2, g3, g4, g5⟩ := h
  obtain ⟨x1, y1, z1, l1⟩ := sd_ne hw hb h1
  obtain ⟨x2, y2, z2, l2⟩ := sd_ne hw hb h2
  obtain ⟨x3, y3, z3, l3⟩ := sd_ne hw hb h3
  obtain ⟨x4, y4, z4, l4⟩ := sd_ne hw hb h4
  have sd : ∀ p, (p = 2 * a ∨ p = 2 * (a + 1) + 1 ∨ p = 2 * (a + wn) ∨ p = 2 * a + 1) → 0 ≤ S.1 p → o p = true := by
    intro p hp q
    rcases hp with rfl | rfl | rfl | rfl
    · exact g5 a (by omega) (by omega) q
    · exact absurd (g2 (a + 1) (by omega)) (by omega)
    · exact absurd (g3 (a + wn) (by omega)) (by omega)
    · exact g4 q
  obtain ⟨oa, b1, b2, b3, b4, b5⟩ := ap_W g1 l1 l2 n12 (sd p1 h1) (sd p2 h2)
  have sd2 : ∀ p, (p = 2 * a ∨ p = 2 * (a + 1) + 1 ∨ p = 2 * (a + wn) ∨ p = 2 * a + 1) → p ≠ p1 → p ≠ p2 → 0 ≤ (apF K S (p1 : Int) (p2 : Int)).1 p → oa p = true := by
    intro p hp e1 e2 q
    rw [(b2 p e1 e2).2] at q
    rw [(b2 p e1 e2).1]
    exact sd p hp q
  have s3 := sd2 p3 h3 (fun e => n13.1 e.symm) (fun e => n13.2.2.1 e.symm)
  have s4 := sd2 p4 h4 (fun e => n13.2.1 e.symm) (fun e => n13.2.2.2 e.symm)
  obtain ⟨o', c1, c2, c3, c4, c5⟩ := ap_W b1 l3 l4 n34 s3 s4
  have fresh : ∀ p, S.1 p < 0 → 0 ≤ (apF K (apF K S (p1 : Int) (p2 : Int)) (p3 : Int) (p4 : Int)).1 p → o' p = true := by
    intro p hp q
    by_cases e3 : p = p3
    · rw [e3]
      refine c3 ?_
      rw [(b2 p3 (fun e => n13.1 e.symm) (fun e => n13.2.2.1 e.symm)).2, ← e3]
      exact hp
    · by_cases e4 : p = p4
      · rw [e4]
        refine c4 ?_
        rw [(b2 p4 (fun e => n13.2.1 e.symm) (fun e => n13.2.2.2 e.symm)).2, ← e4]
        exact hp
      · rw [(c2 p e3 e4).1]
        rw [(c2 p e3 e4).2] at q
        by_cases e1 : p = p1
        · rw [e1]; exact b3 (e1 ▸ hp)
        · by_cases e2 : p = p2
          · rw [e2]; exact b4 (e2 ▸ hp)
          · rw [(b2 p e1 e2).2] at q
            omega
  clear sd sd2 s3 s4 h1 h2 h3 h4 n12 n34
  refine ⟨⟨o', c1, fun q hq => ?_, fun q hq => ?_, fun q => fresh _ (g2 (a + 1) (by omega)) q, fun q q1 q2 q3 => ?_⟩, by rw [c5, b5]; omega⟩
  · rw [(c2 (2 * q + 1) (x3 q hq) (x4 q hq)).2, (b2 (2 * q + 1) (x1 q hq) (x2 q hq)).2]
    exact g2 q (Nat.lt_of_succ_lt hq)
  · rw [(c2 (2 * q) (y3 q hq) (y4 q hq)).2, (b2 (2 * q) (y1 q hq) (y2 q hq)).2]
    exact g3 q (by omega)
  · by_cases e : q = a + wn
    · exact fresh _ (g3 q (by omega)) q3
    · have q4 : q < a + wn := by omega
      rw [(c2 (2 * q) (z3 q q1 q4) (z4 q q1 q4)).2, (b2 (2 * q) (z1 q q1 q4) (z2 q q1 q4)).2] at q3
      rw [(c2 (2 * q) (z3 q q1 q4) (z4 q q1 q4)).1, (b2 (2 * q) (z1 q q1 q4) (z2 q q1 q4)).1]
      exact g5 q (Nat.le_of_succ_le q1) q4 q3
theorem ap_none {K : Nat} {S : CtS} {one other : Int} (h : ¬ (0 ≤ one ∧ 0 ≤ other)) : apF K S one other = S := if_neg h
theorem CtI_sq {K : Nat} {wn a : Nat} {S : CtS} {H : Nat → Int} {c : Int} (hw : 2 ≤ wn) (hb : 2 * (a + wn) + 3 < 512) (h : CtI wn S a) : CtI wn (sqF K H c a (a + wn) S) (a + 1) ∧ S.2.2.1 ≤ (sqF K H c a (a + wn) S).2.2.1 ∧ (sqF K H c a (a + wn) S).2.2.1 ≤ S.2.2.1 + 2 := by
  have fin1 : ∀ p1 p2 : Nat, sqF K H c a (a + wn) S = apF K S (p1 : Int) (p2 : Int) → (p1 = 2 * a ∨ p1 = 2 * (a + 1) + 1 ∨ p1 = 2 * (a + wn) ∨ p1 = 2 * a + 1) → (p2 = 2 * a ∨ p2 = 2 * (a + 1) + 1 ∨ p2 = 2 * (a + wn) ∨ p2 = 2 * a + 1) → p1 ≠ p2 → CtI wn (sqF K H c a (a + wn) S) (a + 1) ∧ S.2.2.1 ≤ (sqF K H c a (a + wn) S).2.2.1 ∧ (sqF K H c a (a + wn) S).2.2.1 ≤ S.2.2.1 + 2 := fun p1 p2 e h1 h2 hne => by
    rw [e]
    obtain ⟨q1, q2⟩ := CtI_one hw hb h h1 h2 hne
    exact ⟨q1, by omega, by omega⟩
  have fin0 : sqF K H c a (a + wn) S = S → CtI wn (sqF K H c a (a + wn) S) (a + 1) ∧ S.2.2.1 ≤ (sqF K H c a (a + wn) S).2.2.1 ∧ (sqF K H c a (a + wn) S).2.2.1 ≤ S.2.2.1 + 2 := fun e => by
    rw [e]
    exact ⟨CtI_none hw h, by omega, by omega⟩
  have fin2 : ∀ p1 p2 p3 p4 : Nat, sqF K H c a (a + wn) S = apF K (apF K S (p1 : Int) (p2 : Int)) (p3 : Int) (p4 : Int) → (p1 = 2 * a ∧ p2 = 2 * a + 1 ∧ p3 = 2 * (a + wn) ∧ p4 = 2 * (a + 1) + 1 ∨ p1 = 2 * a ∧ p2 = 2 * (a + 1) + 1 ∧ p3 = 2 * (a + wn) ∧ p4 = 2 * a + 1) → CtI wn (sqF K H c a (a + wn) S) (a + 1) ∧ S.2.2.1 ≤ (sqF K H c a (a + wn) S).2.2.1 ∧ (sqF K H c a (a + wn) S).2.2.1 ≤ S.2.2.1 + 2 := fun p1 p2 p3 p4 e hp => by
    rw [e]
    obtain ⟨q1, q2⟩ := CtI_two (p1 := p1) (p2 := p2) (p3 := p3) (p4 := p4) hw hb h (by omega) (by omega) (by omega) (by omega) (by omega) (by omega) ⟨by omega, by omega, by omega, by omega⟩
    exact ⟨q1, by omega, by omega⟩
  cases e0 : hiB H c a with
  | false =>
    cases e1 : hiB H c (a + 1) with
    | false =>
      cases e2 : hiB H c (a + wn) with
      | false =>
        cases e3 : hiB H c (a + wn + 1) with
        | false =>
          exact fin0 (by unfold sqF sdF; rw [e0, e1, e2, e3, if_neg (by decide)]; exact ap_none (show ¬ ((0 : Int) ≤ -1 ∧ (0 : Int) ≤ -1) by omega))
        | true =>
          exact fin1 (2 * (a + 1) + 1) (2 * (a + wn)) (by unfold sqF sdF; rw [e0, e1, e2, e3, if_neg (by decide)]; simp only [Int.natCast_add, Int.natCast_mul]; rfl) (by omega) (by omega) (by omega)
      | true =>
        cases e3 : hiB H c (a + wn + 1) with
        | false =>
          exact fin1 (2 * (a + wn)) (2 * a + 1) (by unfold sqF sdF; rw [e0, e1, e2, e3, if_neg (by decide)]; simp only [Int.natCast_add, Int.natCast_mul]; rfl) (by omega) (by omega) (by omega)
        | true =>
          exact fin1 (2 * (a + 1) + 1) (2 * a + 1) (by unfold sqF sdF; rw [e0, e1, e2, e3, if_neg (by decide)]; simp only [Int.natCast_add, Int.natCast_mul]; rfl) (by omega) (by omega) (by omega)
    | true =>
      cases e2 : hiB H c (a + wn) with
      | false =>
        cases e3 : hiB H c (a + wn + 1) with
        | false =>
          exact fin1 (2 * a) (2 * (a + 1) + 1) (by unfold sqF sdF; rw [e0, e1, e2, e3, if_neg (by decide)]; simp only [Int.natCast_add, Int.natCast_mul]; rfl) (by omega) (by omega) (by omega)
        | true =>
          exact fin1 (2 * a) (2 * (a + wn)) (by unfold sqF sdF; rw [e0, e1, e2, e3, if_neg (by decide)]; simp only [Int.natCast_add, Int.natCast_mul]; rfl) (by omega) (by omega) (by omega)
      | true =>
        cases e3 : hiB H c (a + wn + 1) with
        | false =>
          by_cases q : decide (H a + H (a + 1) + H (a + wn) + H (a + wn + 1) ≤ 4 * c) = false
          · exact fin2 (2 * a) (2 * a + 1) (2 * (a + wn)) (2 * (a + 1) + 1) (by unfold sqF; rw [e0, e1, e2, e3, if_pos ⟨rfl, rfl, by decide⟩, if_pos q]; simp only [Int.natCast_add, Int.natCast_mul]; rfl) (Or.inl ⟨rfl, rfl, rfl, rfl⟩)
          · exact fin2 (2 * a) (2 * (a + 1) + 1) (2 * (a + wn)) (2 * a + 1) (by unfold sqF; rw [e0, e1, e2, e3, if_pos ⟨rfl, rfl, by decide⟩, if_neg q]; simp only [Int.natCast_add, Int.natCast_mul]; rfl) (Or.inr ⟨rfl, rfl, rfl, rfl⟩)
        | true =>
          exact fin1 (2 * a) (2 * a + 1) (by unfold sqF sdF; rw [e0, e1, e2, e3, if_neg (by decide)]; simp only [Int.natCast_add, Int.natCast_mul]; rfl) (by omega) (by omega) (by omega)
  | true =>
    cases e1 : hiB H c (a + 1) with
    | false =>
      cases e2 : hiB H c (a + wn) with
      | false =>
        cases e3 : hiB H c (a + wn + 1) with
        | false =>
          exact fin1 (2 * a) (2 * a + 1) (by unfold sqF sdF; rw [e0, e1, e2, e3, if_neg (by decide)]; simp only [Int.natCast_add, Int.natCast_mul]; rfl) (by omega) (by omega) (by omega)
        | true =>
          by_cases q : decide (H a + H (a + 1) + H (a + wn) + H (a + wn + 1) ≤ 4 * c) = true
          · exact fin2 (2 * a) (2 * a + 1) (2 * (a + wn)) (2 * (a + 1) + 1) (by unfold sqF; rw [e0, e1, e2, e3, if_pos ⟨rfl, rfl, by decide⟩, if_pos q]; simp only [Int.natCast_add, Int.natCast_mul]; rfl) (Or.inl ⟨rfl, rfl, rfl, rfl⟩)
          · exact fin2 (2 * a) (2 * (a + 1) + 1) (2 * (a + wn)) (2 * a + 1) (by unfold sqF; rw [e0, e1, e2, e3, if_pos ⟨rfl, rfl, by decide⟩, if_neg q]; simp only [Int.natCast_add, Int.natCast_mul]; rfl) (Or.inr ⟨rfl, rfl, rfl, rfl⟩)
      | true =>
        cases e3 : hiB H c (a + wn + 1) with
        | false =>
          exact fin1 (2 * a) (2 * (a + wn)) (by unfold sqF sdF; rw [e0, e1, e2, e3, if_neg (by decide)]; simp only [Int.natCast_add, Int.natCast_mul]; rfl) (by omega) (by omega) (by omega)
        | true =>
          exact fin1 (2 * a) (2 * (a + 1) + 1) (by unfold sqF sdF; rw [e0, e1, e2, e3, if_neg (by decide)]; simp only [Int.natCast_add, Int.natCast_mul]; rfl) (by omega) (by omega) (by omega)
    | true =>
      cases e2 : hiB H c (a + wn) with
      | false =>
        cases e3 : hiB H c (a + wn + 1) with
        | false =>
          exact fin1 (2 * (a + 1) + 1) (2 * a + 1) (by unfold sqF sdF; rw [e0, e1, e2, e3, if_neg (by decide)]; simp only [Int.natCast_add, Int.natCast_mul]; rfl) (by omega) (by omega) (by omega)
        | true =>
          exact fin1 (2 * (a + wn)) (2 * a + 1) (by unfold sqF sdF; rw [e0, e1, e2, e3, if_neg (by decide)]; simp only [Int.natCast_add, Int.natCast_mul]; rfl) (by omega) (by omega) (by omega)
      | true =>
        cases e3 : hiB H c (a + wn + 1) with
        | false =>
          exact fin1 (2 * (a + 1) + 1) (2 * (a + wn)) (by unfold sqF sdF; rw [e0, e1, e2, e3, if_neg (by decide)]; simp only [Int.natCast_add, Int.natCast_mul]; rfl) (by omega) (by omega) (by omega)
        | true =>
          exact fin0 (by unfold sqF sdF; rw [e0, e1, e2, e3, if_neg (by decide)]; exact ap_none (show ¬ ((0 : Int) ≤ -1 ∧ (0 : Int) ≤ -1) by omega))
theorem CtI_rw {K : Nat} {wn hn y : Nat} {S : CtS} {H : Nat → Int} {c : Int} (hw : 2 ≤ wn ∧ wn ≤ 16) (hh : y + 1 < hn ∧ hn ≤ 15) (h : CtI wn S (y * wn)) : ∀ x : Nat, x < wn → CtI wn (rwF K wn H c y S x) (y * wn + x) ∧ S.2.2.1 ≤ (rwF K wn H c y S x).2.2.1 ∧ (rwF K wn H c y S x).2.2.1 ≤ S.2.2.1 + 2 * x := by
  have hm : (y + 1) * wn ≤ (hn - 1) * wn := Nat.mul_le_mul_right _ (by omega)
  have hm2 : (hn - 1) * wn ≤ 14 * wn := Nat.mul_le_mul_right _ (by omega)
  rw [Nat.add_mul, Nat.one_mul] at hm
  intro x
  induction x with
  | zero => intro _; exact ⟨h, Int.le_refl _, by show S.2.2.1 ≤ S.2.2.1 + 2 * ((0 : Nat) : Int); omega⟩
  | succ x ih =>
    intro hx
    obtain ⟨i1, i2, i3⟩ := ih (by omega)
    obtain ⟨j1, j2, j3⟩ := CtI_sq (H := H) (c := c) hw.1 (by omega) i1
    exact ⟨j1, Int.le_trans i2 j2, by show (sqF K H c (y * wn + x) (y * wn + x + wn) (rwF K wn H c y S x)).2.2.1 ≤ _; omega⟩
theorem CtI_dw {K : Nat} {wn hn : Nat} {H : Nat → Int} {c : Int} (hw : 2 ≤ wn ∧ wn ≤ 16) (hh : 2 ≤ hn ∧ hn ≤ 15) : ∀ y : Nat, y < hn → CtI wn (dwF K wn H c y) (y * wn) ∧ 0 ≤ (dwF K wn H c y).2.2.1 ∧ (dwF K wn H c y).2.2.1 ≤ 2 * ((wn : Int) - 1) * y := by
  intro y
  induction y with
  | zero =>
    intro _
    refine ⟨⟨fun _ => false, ⟨?_, Int.le_refl _, Int.le_refl _, Int.le_refl _, fun p hp => Bool.noConfusion hp⟩, fun q _ => by show (-1 : Int) < 0; omega, fun q _ => by show (-1 : Int) < 0; omega, fun q => absurd (show (0 : Int) ≤ -1 from q) (by omega), fun q _ _ z => absurd (show (0 : Int) ≤ -1 from z) (by omega)⟩, Int.le_refl _, by show (0 : Int) ≤ 2 * ((wn : Int) - 1) * ((0 : Nat) : Int); simp⟩
    show (2 * 0 - 2 * 0 : Int) = cnt (fun _ => false) 512 + 0
    rw [cnt_0 512 (fun _ _ => rfl)]
    rfl
  | succ y ih =>
    intro hy
    obtain ⟨i1, i2, i3⟩ := ih (by omega)
    obtain ⟨j1, j2, j3⟩ := CtI_rw (hn := hn) (H := H) (c := c) hw ⟨by omega, hh.2⟩ i1 (wn - 1) (by omega)
    have k := CtI_skip hw.1 (CtI_none hw.1 j1) (by
      obtain ⟨o, g1, g2, g3, g4, g5⟩ := j1
      exact g2 (y * wn + (wn - 1) + 1) (by omega))
    refine ⟨?_, Int.le_trans i2 j2, ?_⟩
    · have e : (y + 1) * wn = y * wn + (wn - 1) + 1 := by rw [Nat.add_mul, Nat.one_mul]; omega
      rw [e]
      exact CtI_none hw.1 j1
    · show (rwF K wn H c y (dwF K wn H c y) (wn - 1)).2.2.1 ≤ 2 * ((wn : Int) - 1) * ((y + 1 : Nat) : Int)
      rw [Int.natCast_add, Int.mul_add]
      omega
/-- closed ones are no more than lines, lines no more than pieces, pieces no more than two to a square -/
theorem dw_bd {K : Nat} {wn hn : Nat} {H : Nat → Int} {c : Int} (hw : 2 ≤ wn ∧ wn ≤ 16) (hh : 2 ≤ hn ∧ hn ≤ 15) : 0 ≤ (dwF K wn H c (hn - 1)).2.2.2.2 ∧ (dwF K wn H c (hn - 1)).2.2.2.2 ≤ (dwF K wn H c (hn - 1)).2.2.2.1 ∧ (dwF K wn H c (hn - 1)).2.2.2.1 ≤ (dwF K wn H c (hn - 1)).2.2.1 ∧ (dwF K wn H c (hn - 1)).2.2.1 ≤ 2 * ((wn : Int) - 1) * ((hn - 1 : Nat) : Int) := by
  obtain ⟨⟨o, ⟨g1, g2, g3, g4, g5⟩, -⟩, h2, h3⟩ := CtI_dw (H := H) (c := c) hw hh (hn - 1) (by omega)
  have := (cnt_bd o 512).1
  exact ⟨g2, by omega, g3, h3⟩
/-- where all is high, or nothing, there are none -/
theorem sq_same {K : Nat} {a b : Nat} {S : CtS} {H : Nat → Int} {c : Int} {v : Bool} (h0 : hiB H c a = v) (h1 : hiB H c (a + 1) = v) (h2 : hiB H c b = v) (h3 : hiB H c (b + 1) = v) : sqF K H c a b S = S := by
  unfold sqF sdF
  rw [h0, h1, h2, h3, if_neg (fun q => q.2.2 rfl), if_neg (fun q => q rfl), if_neg (fun q => q rfl), if_pos rfl, if_neg (fun q => q rfl), if_neg (fun q => q rfl), if_pos rfl]
  exact ap_none (by omega)
theorem dw_same {K : Nat} {wn hn : Nat} {H : Nat → Int} {c : Int} {v : Bool} (hw : 2 ≤ wn) (hv : ∀ j, j < wn * hn → hiB H c j = v) : ∀ y : Nat, y < hn → (dwF K wn H c y).2.2.1 = 0 := by
  intro y
  induction y with
  | zero => intro _; rfl
  | succ y ih =>
    intro hy
    have i1 := ih (by omega)
    have hm : wn * (y + 2) ≤ wn * hn := Nat.mul_le_mul_left _ (by omega)
    have em : wn * (y + 2) = y * wn + 2 * wn := by rw [Nat.mul_add, Nat.mul_comm wn y]; omega
    have row : ∀ x : Nat, x < wn → rwF K wn H c y (dwF K wn H c y) x = dwF K wn H c y := by
      intro x
      induction x with
      | zero => intro _; rfl
      | succ x ihx =>
        intro hx
        show sqF K H c (y * wn + x) (y * wn + x + wn) (rwF K wn H c y (dwF K wn H c y) x) = _
        rw [ihx (by omega)]
        exact sq_same (hv _ (by omega)) (hv _ (by omega)) (hv _ (by omega)) (hv _ (by omega))
    show (rwF K wn H c y (dwF K wn H c y) (wn - 1)).2.2.1 = 0
    rw [row (wn - 1) (by omega)]
    exact i1
