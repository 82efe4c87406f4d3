/-! the class solves -/
section SLV
variable {I : Nat → Int32} {A : Nat → List Int32} {L : Nat → List Int64} {F : Nat → Int64} {E : MH}
theorem cs_x {wt : Nat → Nat} {sl lim level aw m : Nat} (hsl : sl ≤ 5) (hlim : lim ≤ 6) (hlv : level < lim) (haw : aw ≤ 25) (h0 : I 5400 = nI sl) (h1 : I 5401 = nI lim) (h3 : I 5403 = nI aw) (hS : Shp A L) (h5 : ∀ i, i < 5 → (A 55).getD i 0 = nI (wt i)) (hw : ∀ i, i < 5 → wt i ≤ 5) (hm : Bm lim m (A 58)) (hml : m.testBit level = true) (hcl : ∀ l, l < lim → m.testBit l = true → ∀ i, i < 5 → 0 < wt i → m.testBit (tt sl lim l i) = true) (hM : Mm (yy wt sl lim aw (fun l => m.testBit l)) lim xw) :
    ∃ (A' : Nat → List Int32) (L' : Nat → List Int64) (F' : Nat → Int64) (o : Nat → Nat) (s : Nat), mm_call G0 8 [.ref 54, .int (nI level)] (HP I A L F E) = some (none, HP I A' L' F' E) ∧ o 7 = 7 ∧ 1 ≤ s ∧ s ≤ lim ∧ o (s - 1) = level ∧ (∀ i, i < s → o i < lim) ∧ (∀ i j, i < s → j < s → o i = o j → i = j) ∧ (∀ j, j < lim → m.testBit j = true → ∃ i, i < s ∧ o i = j) ∧ (∀ i, i < s → m.testBit (o i) = true) ∧ (F' 5404).toInt = vv (sel o (yy wt sl lim aw (fun l => m.testBit l))) (s - 1) (s - 1) 7 ∧ (F' 5405).toInt = vv (sel o (yy wt sl lim aw (fun l => m.testBit l))) (s - 1) (s - 1) (s - 1) ∧ (∀ x, x ≠ 60 → x ≠ 61 → A' x = A x) ∧ (∀ x, (A' x).length = (A x).length) ∧ (∀ a, (∀ q, q < 6 → a ≠ 63 + q) → L' a = L a) ∧ (∀ x, (L' x).length = (L x).length) := by
  have l55 := hS.i (a := 55) (n := 5) (by decide)
  have l60 := hS.i (a := 60) (n := 6) (by decide)
  have l61 := hS.i (a := 61) (n := 6) (by decide)
  have lL : ∀ x, x < 6 → (L (63 + x)).length = 7 := fun x hx => by
    match x, hx with
    | 0, _ => exact hS.l (a := 63) (n := 7) (by decide)
    | 1, _ => exact hS.l (a := 64) (n := 7) (by decide)
    | 2, _ => exact hS.l (a := 65) (n := 7) (by decide)
    | 3, _ => exact hS.l (a := 66) (n := 7) (by decide)
    | 4, _ => exact hS.l (a := 67) (n := 7) (by decide)
    | 5, _ => exact hS.l (a := 68) (n := 7) (by decide)
  obtain ⟨A1, s, o1, x1, s1, s2, os, o2, o3, o4, fr, m60, m61⟩ := rk_4 (I := I) (L := L) (F := F) (E := E) hlim hlv h1 hm hml lim 0 0 (fun _ => 0) A (by omega) rfl l60 l61 ⟨fun i h => absurd h (Nat.not_lt_zero _), fun i j h => absurd h (Nat.not_lt_zero _), fun j h => absurd h (Nat.not_lt_zero _), Nat.le_refl 0, fun q => absurd q (Nat.not_lt_zero _)⟩
  obtain ⟨o, ho⟩ : ∃ o : Nat → Nat, o = fun i => if i = 7 then 7 else o1 i := ⟨_, rfl⟩
  have o7 : o 7 = 7 := by rw [ho]; rfl
  have oe : ∀ i, i < s → o i = o1 i := fun i hi => by
    rw [ho]
    show (if i = 7 then 7 else o1 i) = o1 i
    rw [if_neg (by omega)]
  have ol : ∀ i, i < s → o i < lim := fun i hi => by rw [oe i hi]; exact (o2 i hi).1
  have oi : ∀ i j, i < s → j < s → o i = o j → i = j := fun i j hi hj e => o3 i j hi hj (by rw [← oe i hi, ← oe j hj]; exact e)
  have om : ∀ i, i < s → m.testBit (o i) = true := fun i hi => by rw [oe i hi]; exact (o2 i hi).2.1
  have hX : Mm (sel o (yy wt sl lim aw (fun l => m.testBit l))) s (fun i => xw (o i)) := hM.sub o7 ol oi
  obtain ⟨L1, y1, y2, y3, y4⟩ := fs_2 (I := I) (A := A1) (F := F) (E := E) (wt := wt) (o := o) hsl hlim s2 haw h0 h1 h3 (by rw [fr _ (by decide) (by decide)]; exact l55) m60 m61 (by rw [fr _ (by decide) (by decide)]; exact h5) hw (fun r hr => by rw [oe r hr]; exact (o2 r hr).2.2) ol oi o7 (fun r i hr hi hp ht => by
    obtain ⟨c, c1, c2, c3⟩ := o4 _ ht (hcl (o r) (ol r hr) (om r hr) i hi hp)
    exact ⟨c, c1, by rw [oe c c1]; exact c2, c3⟩) s 0 L none none (by omega) lL (fun q h => absurd h (Nat.not_lt_zero _))
  obtain ⟨L2, z1, z2, z3, z4⟩ := el_5 (I := I) (A := A1) (F := F) (E := E) hX (by omega) s1 (s - 1) 0 L1 1 none none (by omega) rfl (fun q _ hq => by
    have e : (fun c => yf wt (tt sl lim (o q)) lim (yb (o q) aw aw) 5 (o c)) = vv (sel o (yy wt sl lim aw (fun l => m.testBit l))) 0 q := by
      funext c
      show _ = yy wt sl lim aw (fun l => m.testBit l) (o q) (o c)
      unfold yy
      rw [if_pos (om q hq)]
    rw [← e]
    exact y2 q hq)
  obtain ⟨f1, f2, f3⟩ := z2
  have hpos := (hX.all (s - 1) (by omega) (by omega)).dg hX.wx (Nat.le_refl (s - 1)) (by omega)
  have hb := f2 (s - 1) (Nat.le_refl _) (by omega)
  have e1 : (1 : Int64).toInt = 1 := rfl
  have hmx : lmax 1 ((L2 (63 + (s - 1))).getD (s - 1) 0) = (L2 (63 + (s - 1))).getD (s - 1) 0 := by
    unfold lmax
    rw [if_neg (fun q => by
      rw [l_lt, e1, hb] at q
      omega)]
  have es : nI s - 1 = nI (s - 1) := by
    have i1 : (1 : Int32).toInt = 1 := rfl
    rw [i_eq, i_sub (by rw [nI_toInt (by omega)]; omega) (by rw [nI_toInt (by omega)]; omega), nI_toInt (by omega), nI_toInt (by omega)]
    omega
  refine ⟨A1, L2, fu (fu F 5404 ((L2 (63 + (s - 1))).getD s 0)) 5405 ((L2 (63 + (s - 1))).getD (s - 1) 0), o, s, ?_, o7, s1, s2, by rw [oe _ (by omega)]; exact os, ol, oi, fun j hj hb => by
    obtain ⟨i, i1, i2, -⟩ := o4 j hj hb
    exact ⟨i, i1, by rw [oe i i1]; exact i2⟩, om, by rw [fu_n _ _ (by decide), fu_s]; exact f3, by rw [fu_s]; exact hb, fr, fun x => ?_, fun a ha => by rw [z3 a ha, y4 a ha], fun x => ?_⟩
  · have c9 : mm_call G0 9 [.ref 54, .int (nI level)] (HP I A L F E) = some (some (.int (nI s)), HP I A1 L F E) := by
      rw [sg_X0_rankReached_0]
      exact x1
    have c10 : mm_call G0 10 [.ref 54, .int (nI s)] (HP I A1 L F E) = some (none, HP I A1 L1 F E) := by
      rw [sg_X0_fillSystem_0]
      exact y1
    have c11 : mm_call G0 11 [.ref 54, .int (nI s)] (HP I A1 L1 F E) = some (none, HP I A1 L2 F E) := by
      rw [sg_X0_eliminate_0]
      exact z1
    rw [sg_X0_solve_0, c9, Option.bind_some]
    refine (sg_X0_solve_5 (nI level) (nI s)).trans ?_
    rw [c10, Option.bind_some]
    refine (sg_X0_solve_11 (nI level) (nI s)).trans ?_
    rw [c11, Option.bind_some]
    refine (sg_X0_solve_16 (nI level) (nI s)).trans ?_
    rw [es, ld63 (by omega), Option.bind_some, ldL_d (by omega) (by omega), Option.bind_some, Option.bind_some, ldL_d (by omega) (by omega), Option.bind_some, hmx]
  · by_cases e : x = 60
    · rw [e, m60, l60]
    · by_cases e2 : x = 61
      · rw [e2, m61, l61]
      · rw [fr x e e2]
  · by_cases e : ∃ q, q < 6 ∧ x = 63 + q
    · obtain ⟨q, hq, rfl⟩ := e
      rw [z4, y3 q hq, lL q hq]
    · have : ∀ q, q < 6 → x ≠ 63 + q := fun q hq e2 => e ⟨q, hq, e2⟩
      rw [z3 x this, y4 x this]
end SLV
