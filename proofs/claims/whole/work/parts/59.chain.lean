/-! chains: laid, and walked by the class -/
section LOW
variable {I : Nat → Int32} {A : Nat → List Int32} {L : Nat → List Int64} {F : Nat → Int64} {E : MH}
theorem low_ok2 {a b : Int64} (p : Int32) (h1 : -9223372036854775808 < a.toInt) (h3 : 0 < b.toInt) (hpr : a.toInt.natAbs * b.toInt.natAbs < 2 ^ 98) : mm_call G0 103 [.long a, .long b, .int p] (HP I A L F E) = some (some (.long (lwt a b p)), HP I A L F E) := by
  have ha := labs_nat (v := a) h1
  obtain ⟨x, hx⟩ : ∃ x, a.toInt.natAbs = x := ⟨_, rfl⟩
  obtain ⟨y, hy⟩ : ∃ y : Nat, b.toInt.natAbs = y := ⟨_, rfl⟩
  have hb : b.toInt = (y : Int) := by omega
  rw [hx, hy] at hpr
  rw [sg_X7_lowest_0]
  unfold lwt
  rw [hx, hy]
  rw [hx] at ha
  by_cases hle : y ≤ x
  · have e100 : (2 : Nat) ^ 98 < 2 ^ 100 := by decide
    exact low_loop a b p 100 0 x y (labs a) b none (by decide) ha hb hle (by omega) (by omega)
  · have hb0 : ¬ b = 0 := fun z => by have := (l_0 hb).mp z; omega
    have e : mm_run G0 103 12 [some (.long a), none, some (.long b), none, some (.int p), some (.long (labs a)), none, some (.long b), none, some (.int 0), none, none] [] (HP I A L F E) = mm_run G0 103 12 [some (.long a), none, some (.long b), none, some (.int p), some (.long b), none, some (.long (labs a - labs a / b * b)), none, some (.int (nI 1)), (some (labs a - labs a / b * b)).map Value.long, none] [] (HP I A L F E) := by
      refine (sg_X7_lowest_12 a b p (labs a) b 0 none).trans ?_
      rw [if_neg (by decide), if_neg (fun z => hb0 ((lg_cmp_eq _ _).mp z)), if_neg hb0]
      rfl
    rw [e, low_loop a b p 99 1 y (x % y) b (labs a - labs a / b * b) _ (by decide) hb (l_rem ha hb (by omega)) (Nat.le_of_lt (Nat.mod_lt x (by omega))) (by
      rw [Nat.mod_eq_of_lt (by omega), Nat.mul_comm]
      have : (2 : Nat) ^ 98 < 2 ^ 99 := by decide
      omega) (by omega), gcd_step]
theorem part_ok2 {a b : Int64} (p : Int32) (h1 : -9223372036854775808 < a.toInt) (h3 : 0 < b.toInt) : mm_call G0 152 [.long a, .long b, .int p] (HP I A L F E) = some (some (.long (lwt a b p)), HP I A L F E) := by
  have e0 : (0 : Int64).toInt = 0 := rfl
  have hg : 0 < Nat.gcd a.toInt.natAbs b.toInt.natAbs := Nat.gcd_pos_of_pos_right _ (by omega)
  have hgl : Nat.gcd a.toInt.natAbs b.toInt.natAbs ≤ b.toInt.natAbs := Nat.gcd_le_right _ (by omega)
  have hbl := Int64.toInt_lt b
  have hn : ¬ Int64.ofNat (Nat.gcd a.toInt.natAbs b.toInt.natAbs) = 0 := by
    rw [l_eq, lg_ofNat_toInt (by omega), e0]
    omega
  rw [sg_X8_partOf_0, if_pos ((lg_cmp_ge _ _).mpr (by rw [l_le, e0]; omega)), com_ok (by omega) (by omega), Option.bind_some]
  refine (sg_X8_partOf_20 a b p _).trans ?_
  unfold lwt
  rw [if_neg hn, if_neg hn]
  split <;> rfl
end LOW
def wn (w : Nat → Int32) (i : Nat) : Nat := (w (180 + i)).toNatClampNeg
def aP (w : Nat → Int32) : Nat → Nat
  | 0 => 0
  | i + 1 => aP w i + wn w i
/-- where a step leads -/
def tt (sl lim l i : Nat) : Nat := min lim (l + i - (2 + sl))
theorem tt_le (sl lim l i : Nat) : tt sl lim l i ≤ lim := Nat.min_le_left _ _
theorem Vw.wt {w : Nat → Int32} (h : Vw w) {i : Nat} (hi : i < 5) : wn w i ≤ 5 ∧ w (180 + i) = nI (wn w i) := by
  have q := h.2.1 i hi
  obtain ⟨k, hk, e⟩ := to_n (x := w (180 + i)) (n := 5) q.1 q.2 (by decide)
  have : wn w i = k := by
    unfold wn
    rw [e, nI_clamp (by omega)]
  rw [this]
  exact ⟨hk, e⟩
theorem Vw.aw {w : Nat → Int32} (h : Vw w) : ∀ i, i ≤ 5 → aP w i ≤ 5 * i
  | 0, _ => Nat.le_refl _
  | i + 1, hi => by
    have := h.aw i (by omega)
    have := (h.wt (i := i) (by omega)).1
    show aP w i + wn w i ≤ _
    omega
theorem tt_eq {sl lim l i : Nat} (hsl : sl ≤ 5) (hlim : lim ≤ 12) (hl : l ≤ 12) (hi : i ≤ 5) : imin (nI lim) (imax 0 (nI l + nI i - 2 - nI sl)) = nI (tt sl lim l i) := by
  have e2 : (2 : Int32).toInt = 2 := rfl
  have a : (nI l + nI i - 2 - nI sl).toInt = (l : Int) + i - 2 - sl := by
    have b1 : (nI l + nI i).toInt = (l : Int) + i := by rw [nI_add, nI_toInt (by omega)]; omega
    have b2 : (nI l + nI i - 2).toInt = (l : Int) + i - 2 := by rw [i_sub (by omega) (by omega), b1, e2]
    rw [i_sub (by rw [b2, nI_toInt (by omega)]; omega) (by rw [b2, nI_toInt (by omega)]; omega), b2, nI_toInt (by omega)]
  have m : imax 0 (nI l + nI i - 2 - nI sl) = nI (l + i - (2 + sl)) := by
    unfold imax
    by_cases h : 0 < nI l + nI i - 2 - nI sl
    · rw [if_pos h]
      rw [i_lt, a, ii0] at h
      rw [i_eq, a, nI_toInt (by omega)]
      omega
    · rw [if_neg h]
      rw [i_lt, a, ii0] at h
      rw [show l + i - (2 + sl) = 0 by omega]
      rfl
  rw [m]
  unfold imin tt
  by_cases h : l + i - (2 + sl) < lim
  · rw [if_pos (nI_lt (a := l + i - (2 + sl)) (b := lim) h (by omega)), Nat.min_eq_right (by omega)]
  · rw [if_neg (nI_nlt (a := l + i - (2 + sl)) (b := lim) (by omega) (by omega)), Nat.min_eq_left (by omega)]
def KC (I : Nat → Int32) (A : Nat → List Int32) (I' : Nat → Int32) (A' : Nat → List Int32) : Prop := (∀ x, ¬ (5400 ≤ x ∧ x ≤ 5403) → I' x = I x) ∧ (∀ a, a ≠ 55 → A' a = A a) ∧ ∀ a, (A' a).length = (A a).length
theorem KC.sim {I I1 : Nat → Int32} {A A1 : Nat → List Int32} {L : Nat → List Int64} (h : KC I A I1 A1) (hS : Sim I A L) : Sim I1 A1 L := sim_scr hS h.2.2 (fun _ => rfl) (fun x h1 h2 => h.1 x (by omega)) (fun a h1 h2 h3 => h.2.1 a (by omega)) (fun _ _ _ => rfl)
/-- there is a chain with such a level -/
def Okc (w : Nat → Int32) (lim : Nat) (level : Int32) : Prop := 0 ≤ level.toInt ∧ level.toInt < lim ∧ lim ≤ 6 ∧ 0 < aP w 5
section CHN
variable {I : Nat → Int32} {A : Nat → List Int32} {L : Nat → List Int64} {F : Nat → Int64} {E : MH}
theorem lay_fill {w : Nat → Int32} (hV : Vw w) (v1 v2 : Int32) : ∀ (d i : Nat) (I : Nat → Int32) (A : Nat → List Int32), i + d = 5 → (A 4).length = 5 → (A 55).length = 5 → (∀ j, j < 5 → (A 4).getD j 0 = w (180 + j)) → I 5403 = nI (aP w i) → (∀ j, j < i → (A 55).getD j 0 = w (180 + j)) → ∃ (I' : Nat → Int32) (A' : Nat → List Int32), mm_run G0 2 18 [some (.ref 54), some (.int v1), some (.int v2), some (.ref 4), some (.int (nI i))] [] (HP I A L F E) = some (none, HP I' A' L F E) ∧ I' 5403 = nI (aP w 5) ∧ (∀ j, j < 5 → (A' 55).getD j 0 = w (180 + j)) ∧ (∀ x, x ≠ 5403 → I' x = I x) ∧ (∀ a, a ≠ 55 → A' a = A a) ∧ ∀ a, (A' a).length = (A a).length := by
  intro d
  induction d with
  | zero =>
    intro i I A hi l4 l55 h4 h3 h5
    have e : i = 5 := by omega
    subst e
    exact ⟨I, A, by rw [sg_X0_lay_18, if_pos (by decide)], h3, h5, fun _ _ => rfl, fun _ _ => rfl, fun _ => rfl⟩
  | succ d ih =>
    intro i I A hi l4 l55 h4 h3 h5
    have hw := hV.wt (i := i) (by omega)
    obtain ⟨I', A', x1, x2, x3, x4, x5, x6⟩ := ih (i + 1) (fu I 5403 (nI (aP w (i + 1)))) (fu A 55 ((A 55).set i (w (180 + i)))) (by omega) (by rw [fu_n _ _ (by decide)]; exact l4) (by rw [fu_s, List.length_set]; exact l55) (fun j hj => by rw [fu_n _ _ (by decide)]; exact h4 j hj) (fu_s _ _ _) (fun j hj => by
      rw [fu_s, getD_set (by omega)]
      by_cases e : j = i
      · rw [if_pos e, e]
      · rw [if_neg e]
        exact h5 j (by omega))
    refine ⟨I', A', ?_, x2, x3, fun x hx => by rw [x4 x hx, fu_n _ _ hx], fun a ha => by rw [x5 a ha, fu_n _ _ ha], fun a => ?_⟩
    · rw [sg_X0_lay_18, if_neg (show ¬ (5 : Int32) ≤ nI i from n_nle (a := i) (b := 5) (by omega) (by decide)), ldI_d (by omega) (by omega), Option.bind_some, h4 i (by omega), stI_n (by omega) (by omega), Option.bind_some, ldI_d (by rw [List.length_set]; omega) (by rw [List.length_set]; omega), getD_set (by omega), if_pos rfl, Option.bind_some, in1, h3, hw.2, nI_add]
      rw [hw.2] at x1
      exact x1
    · rw [x6]
      by_cases e : a = 55
      · rw [e, fu_s, List.length_set]
      · rw [fu_n _ _ e]
theorem lay_x {k lim sl : Nat} (hk : k < 4) (hS : Sim I A L) (h3 : gs A k 3 = nI lim) (hl12 : lim ≤ 12) (h2 : gs A k 2 = nI sl) (level : Int32) : ∃ (I' : Nat → Int32) (A' : Nat → List Int32) (z : Int32), mm_call G0 110 [.ref 1, .int (nI k), .int level] (HP I A L F E) = some (some (.int z), HP I' A' L F E) ∧ KC I A I' A' ∧ (z ≠ 0 ↔ Okc (gw A 85) lim level) ∧ (z ≠ 0 → I' 5400 = nI sl ∧ I' 5401 = nI lim ∧ I' 5403 = nI (aP (gw A 85) 5) ∧ ∀ i, i < 5 → (A' 55).getD i 0 = nI (wn (gw A 85) i)) := by
  have hV := hS.2.2.1
  have f3 : I (100 * (14 + 2 * k) + 3) = nI lim := (hS.fld hk (show 3 < 5 by decide)).trans h3
  have f2 : I (100 * (14 + 2 * k) + 2) = nI sl := (hS.fld hk (show 2 < 5 by decide)).trans h2
  have kr : KC I A I A := ⟨fun _ _ => rfl, fun _ _ => rfl, fun _ => rfl⟩
  have el : (nI lim).toInt = lim := nI_toInt (by omega)
  rw [sg_X7_layChain_0, now_at hk, Option.bind_some, f3, f2]
  by_cases a1 : level < 0
  · refine ⟨I, A, 0, by rw [if_pos a1], kr, ⟨fun q => absurd rfl q, fun q => ?_⟩, fun q => absurd rfl q⟩
    have := q.1
    rw [i_lt, ii0] at a1
    omega
  by_cases a2 : nI lim ≤ level
  · refine ⟨I, A, 0, by rw [if_neg a1, if_pos a2], kr, ⟨fun q => absurd rfl q, fun q => ?_⟩, fun q => absurd rfl q⟩
    have := q.2.1
    rw [i_le, el] at a2
    omega
  by_cases a3 : nI lim ≤ 6
  rotate_left 1
  · refine ⟨I, A, 0, by rw [if_neg a1, if_neg a2, if_neg a3], kr, ⟨fun q => absurd rfl q, fun q => ?_⟩, fun q => absurd rfl q⟩
    exact absurd (show nI lim ≤ (6 : Int32) from n_le (a := lim) (b := 6) q.2.2.1 (by decide)) a3
  rw [if_neg a1, if_neg a2, if_pos a3]
  obtain ⟨I', A', x1, x2, x3, x4, x5, x6⟩ := lay_fill (L := L) (F := F) (E := E) hV (nI sl) (nI lim) 5 0 (fu (fu (fu I 5400 (nI sl)) 5401 (nI lim)) 5403 0) A (by decide) (hS.1.i (a := 4) (n := 5) (by decide)) (hS.1.i (a := 55) (n := 5) (by decide)) (fun j hj => hS.2.1.2.1 j hj) (fu_s _ _ _) (fun j hj => absurd hj (Nat.not_lt_zero _))
  have haw := hV.aw 5 (Nat.le_refl _)
  have kc : KC I A I' A' := ⟨fun x hx => by rw [x4 x (by omega)]; simp (disch := omega) only [fu_n], x5, x6⟩
  have hcall : mm_call G0 2 [.ref 54, .int (nI sl), .int (nI lim), .ref 4] (HP I A L F E) = some (none, HP I' A' L F E) := by
    rw [sg_X0_lay_0]
    exact x1
  rw [hcall, Option.bind_some]
  refine ⟨I', A', if nI (aP (gw A 85) 5) ≤ 0 then 0 else 1, ?_, kc, ?_, fun _ => ⟨?_, ?_, x2, fun i hi => by rw [x3 i hi]; exact (hV.wt hi).2⟩⟩
  · refine (sg_X7_layChain_55 (nI k) level (isS_now hk)).trans ?_
    rw [x2]
    split <;> rfl
  · have lev : 0 ≤ level.toInt ∧ level.toInt < lim ∧ lim ≤ 6 := by
      rw [i_lt, ii0] at a1
      rw [i_le, el] at a2 a3
      have e6 : (6 : Int32).toInt = 6 := rfl
      omega
    by_cases h : aP (gw A 85) 5 = 0
    · rw [if_pos (show nI (aP (gw A 85) 5) ≤ 0 by rw [h]; decide)]
      refine ⟨fun q => absurd rfl q, fun q => ?_⟩
      have := q.2.2.2
      omega
    · rw [if_neg (show ¬ nI (aP (gw A 85) 5) ≤ (0 : Int32) from n_nle (a := 0) (b := aP (gw A 85) 5) (by omega) (by omega))]
      exact ⟨fun _ => ⟨lev.1, lev.2.1, lev.2.2, by omega⟩, fun _ => by decide⟩
  · rw [x4 _ (by decide), fu_n _ _ (by decide), fu_n _ _ (by decide), fu_s]
  · rw [x4 _ (by decide), fu_n _ _ (by decide), fu_s]
theorem aw_m (hS : Sim I A L) : mm_call G0 156 [.ref 84] (HP I A L F E) = some (some (.int (nI (aP (gw A 85) 5))), HP I A L F E) := by
  have hV := hS.2.2.1
  have r (i : Nat) (hi : i < 5) : ldI (A 85) (nI (180 + i)) = some (nI (wn (gw A 85) i)) := by rw [hS.w (by omega), (hV.wt hi).2]
  rw [sg_X8_allWeights_0, show (180 : Int32) = nI (180 + 0) from rfl, r 0 (by decide), Option.bind_some, show (181 : Int32) = nI (180 + 1) from rfl, r 1 (by decide), Option.bind_some, show (182 : Int32) = nI (180 + 2) from rfl, r 2 (by decide), Option.bind_some, show (183 : Int32) = nI (180 + 3) from rfl, r 3 (by decide), Option.bind_some, show (184 : Int32) = nI (180 + 4) from rfl, r 4 (by decide), Option.bind_some, show (0 : Int32) = nI 0 from rfl, nI_add, nI_add, nI_add, nI_add, nI_add]
  rfl
theorem isChain_m {k lim : Nat} (hk : k < 4) (hS : Sim I A L) (h3 : gs A k 3 = nI lim) (hl12 : lim ≤ 12) (hl1 : 1 ≤ lim) (level : Int32) : ∃ z : Int32, mm_call G0 159 [.ref 84, .int (nI k), .int level] (HP I A L F E) = some (some (.int z), HP I A L F E) ∧ (z ≠ 0 ↔ Okc (gw A 85) lim level) := by
  have hV := hS.2.2.1
  have haw := hV.aw 5 (Nat.le_refl _)
  have el : (nI lim).toInt = lim := nI_toInt (by omega)
  have i1 : (1 : Int32).toInt = 1 := rfl
  have e6 : (6 : Int32).toInt = 6 := rfl
  have el1 : (nI lim - 1).toInt = (lim : Int) - 1 := by rw [i_sub (by omega) (by omega), el, i1]
  have r (i : Nat) (hi : i < 5) : ldI (A 85) (nI (180 + i)) = some (nI (wn (gw A 85) i)) := by rw [hS.w (by omega), (hV.wt hi).2]
  have r3 : ldI (A 85) (45 * nI k + 3) = some (nI lim) := by
    rw [ix3, hS.w (by omega)]
    exact congrArg some h3
  rw [sg_X8_isChain_0, if_pos (show ¬ nI k < 0 ∧ ¬ 3 < nI k from ⟨nI_nneg (by omega), nI_nlt (a := 3) (b := k) (by omega) (by decide)⟩), r3, Option.bind_some]
  by_cases a3 : 6 < nI lim
  · refine ⟨0, by rw [if_pos a3], fun q => absurd rfl q, fun q => ?_⟩
    have := q.2.2.1
    rw [i_lt, el, e6] at a3
    omega
  rw [if_neg a3, Option.bind_some]
  by_cases a1 : ¬ level < 0 ∧ ¬ (nI lim - 1) < level
  rotate_left 1
  · refine ⟨0, by rw [if_neg a1], fun q => absurd rfl q, fun q => absurd ⟨?_, ?_⟩ a1⟩
    · rw [i_lt, ii0]
      have := q.1
      omega
    · rw [i_lt, el1]
      have := q.2.1
      omega
  rw [if_pos a1, show (180 : Int32) = nI (180 + 0) from rfl, r 0 (by decide), Option.bind_some, show (181 : Int32) = nI (180 + 1) from rfl, r 1 (by decide), Option.bind_some, show (182 : Int32) = nI (180 + 2) from rfl, r 2 (by decide), Option.bind_some, show (183 : Int32) = nI (180 + 3) from rfl, r 3 (by decide), Option.bind_some, show (184 : Int32) = nI (180 + 4) from rfl, r 4 (by decide), Option.bind_some]
  have es : (0 : Int32) + nI (wn (gw A 85) 0) + nI (wn (gw A 85) 1) + nI (wn (gw A 85) 2) + nI (wn (gw A 85) 3) + nI (wn (gw A 85) 4) = nI (aP (gw A 85) 5) := by
    rw [show (0 : Int32) = nI 0 from rfl, nI_add, nI_add, nI_add, nI_add, nI_add]
    rfl
  rw [es]
  have lev : 0 ≤ level.toInt ∧ level.toInt < lim ∧ lim ≤ 6 := by
    rw [i_lt, i_lt, ii0, el1] at a1
    rw [i_lt, el, e6] at a3
    omega
  by_cases h : aP (gw A 85) 5 = 0
  · refine ⟨0, by rw [if_pos (by rw [h]; decide)], fun q => absurd rfl q, fun q => ?_⟩
    have := q.2.2.2
    omega
  · refine ⟨1, by rw [if_neg (show ¬ nI (aP (gw A 85) 5) ≤ (0 : Int32) from n_nle (a := 0) (b := aP (gw A 85) 5) (by omega) (by omega))], fun _ => ⟨lev.1, lev.2.1, lev.2.2, by omega⟩, fun _ => by decide⟩
end CHN
/-! a walk along a chain, apart from any heap -/
def wi (wt : Nat → Nat) (to : Nat → Nat → Nat) (h : Nat → Nat) (l : Nat) : Nat → Nat → (Nat → Nat) → Nat → Nat
  | 0, _, acc => acc
  | d + 1, i, acc => wi wt to h l d (i + 1) (fu acc (to l i) (acc (to l i) + h l * wt i))
def wl (wt : Nat → Nat) (to : Nat → Nat → Nat) (h : Nat → Nat) : Nat → Nat → (Nat → Nat) → Nat → Nat
  | 0, _, acc => acc
  | d + 1, l, acc => wl wt to h d (l + 1) (wi wt to h l 5 0 acc)
def w0 (h : Nat → Nat) (lim aw : Nat) : Nat → Nat := fun j => if j = lim then h lim * aw else 0
def ws (wt : Nat → Nat) (to : Nat → Nat → Nat) (lim aw : Nat) (h : Nat → Nat) : Nat → Nat := wl wt to h lim 0 (w0 h lim aw)
def wk (wt : Nat → Nat) (to : Nat → Nat → Nat) (lim aw : Nat) : Nat → (Nat → Nat) → Nat → Nat
  | 0, h => h
  | t + 1, h => wk wt to lim aw t (ws wt to lim aw h)
def Bd (lim B : Nat) (h : Nat → Nat) : Prop := ∀ j, j ≤ lim → h j ≤ B
theorem wi_bd {wt : Nat → Nat} {to : Nat → Nat → Nat} {h : Nat → Nat} {l lim B : Nat} (hw : ∀ i, i < 5 → wt i ≤ 5) (hB : h l ≤ B) : ∀ (d i C : Nat) (acc : Nat → Nat), i + d = 5 → Bd lim C acc → Bd lim (C + 5 * B * d) (wi wt to h l d i acc)
  | 0, i, C, acc, _, hC => hC
  | d + 1, i, C, acc, hi, hC => by
    have hm : h l * wt i ≤ B * 5 := Nat.mul_le_mul hB (hw i (by omega))
    have key : Bd lim (C + 5 * B) (fu acc (to l i) (acc (to l i) + h l * wt i)) := fun j hj => by
      by_cases e : j = to l i
      · rw [e, fu_s]
        rw [e] at hj
        have := hC _ hj
        omega
      · rw [fu_n _ _ e]
        have := hC j hj
        omega
    have r := wi_bd (to := to) hw hB d (i + 1) (C + 5 * B) _ (by omega) key
    rw [Nat.add_assoc, show 5 * B + 5 * B * d = 5 * B * (d + 1) by rw [Nat.mul_succ, Nat.add_comm]] at r
    exact r
theorem wl_bd {wt : Nat → Nat} {to : Nat → Nat → Nat} {h : Nat → Nat} {lim B : Nat} (hw : ∀ i, i < 5 → wt i ≤ 5) (hB : Bd lim B h) : ∀ (d l C : Nat) (acc : Nat → Nat), l + d ≤ lim → Bd lim C acc → Bd lim (C + 25 * B * d) (wl wt to h d l acc)
  | 0, l, C, acc, _, hC => hC
  | d + 1, l, C, acc, hl, hC => by
    have k := wi_bd (to := to) (lim := lim) hw (hB l (by omega)) 5 0 C acc (by decide) hC
    have r := wl_bd (to := to) hw hB d (l + 1) (C + 5 * B * 5) _ (by omega) k
    rw [Nat.add_assoc, show 5 * B * 5 + 25 * B * d = 25 * B * (d + 1) by rw [Nat.mul_succ (25 * B) d]; omega] at r
    exact r
theorem w0_bd {h : Nat → Nat} {lim aw B : Nat} (ha : aw ≤ 25) (hB : Bd lim B h) : Bd lim (25 * B) (w0 h lim aw) := fun j hj => by
  unfold w0
  split
  · have : h lim * aw ≤ B * 25 := Nat.mul_le_mul (hB lim (Nat.le_refl _)) ha
    omega
  · exact Nat.zero_le _
theorem ws_bd {wt : Nat → Nat} {to : Nat → Nat → Nat} {h : Nat → Nat} {lim aw B : Nat} (hw : ∀ i, i < 5 → wt i ≤ 5) (ha : aw ≤ 25) (hl : lim ≤ 6) (hB : Bd lim B h) : Bd lim (175 * B) (ws wt to lim aw h) := fun j hj => by
  have r := wl_bd (to := to) hw hB lim 0 (25 * B) _ (by omega) (w0_bd ha hB) j hj
  have : 25 * B * lim ≤ 25 * B * 6 := Nat.mul_le_mul_left _ hl
  unfold ws
  omega
