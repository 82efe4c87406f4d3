/-! equal fractions have the same parts -/
theorem lwt_part {a b : Int64} (hb : 0 < b.toInt) : ∃ (g : Nat) (x y : Int), 0 < g ∧ a.toInt = (g : Int) * x ∧ b.toInt = (g : Int) * y ∧ Int.gcd x y = 1 ∧ 0 < y ∧ ∀ p : Int32, (lwt a b p).toInt = if p ≠ 0 then y else x := by
  have hbl := Int64.toInt_lt b
  have hal := Int64.toInt_lt a
  have hag := Int64.le_toInt a
  have hg : 0 < Nat.gcd a.toInt.natAbs b.toInt.natAbs := Nat.gcd_pos_of_pos_right _ (by omega)
  have hgl : Nat.gcd a.toInt.natAbs b.toInt.natAbs ≤ b.toInt.natAbs := Nat.gcd_le_right _ (by omega)
  obtain ⟨x, hx⟩ : ((Nat.gcd a.toInt.natAbs b.toInt.natAbs : Nat) : Int) ∣ a.toInt := Int.ofNat_dvd_left.mpr (Nat.gcd_dvd_left _ _)
  obtain ⟨y, hy⟩ : ((Nat.gcd a.toInt.natAbs b.toInt.natAbs : Nat) : Int) ∣ b.toInt := Int.ofNat_dvd_left.mpr (Nat.gcd_dvd_right _ _)
  obtain ⟨g, hgg⟩ : ∃ g, Nat.gcd a.toInt.natAbs b.toInt.natAbs = g := ⟨_, rfl⟩
  rw [hgg] at hg hgl hx hy
  have hy0 : 0 < y := by
    rw [hy] at hb
    exact Int.pos_of_mul_pos_right hb (by omega)
  have hgt : (Int64.ofNat g).toInt = (g : Int) := lg_ofNat_toInt (by omega)
  have hcop : Int.gcd x y = 1 := by
    have e : g = g * Int.gcd x y := by
      have e1 : Int.gcd ((g : Int) * x) ((g : Int) * y) = (g : Int).natAbs * Int.gcd x y := Int.gcd_mul_left ..
      rw [← hx, ← hy] at e1
      have e2 : Int.gcd a.toInt b.toInt = g := hgg
      rw [e2] at e1
      simpa using e1
    have e2 : g * 1 = g * Int.gcd x y := by omega
    exact (Nat.eq_of_mul_eq_mul_left hg e2).symm
  have hxb : x.natAbs ≤ a.toInt.natAbs := by
    rw [hx, Int.natAbs_mul]
    exact Nat.le_mul_of_pos_left _ (by omega)
  have hyb : y.natAbs ≤ b.toInt.natAbs := by
    rw [hy, Int.natAbs_mul]
    exact Nat.le_mul_of_pos_left _ (by omega)
  have hxs : 0 < x → 0 < a.toInt := fun q => by
    rw [hx]
    exact Int.mul_pos (by omega) q
  refine ⟨g, x, y, hg, hx, hy, hcop, hy0, fun p => ?_⟩
  unfold lwt
  rw [hgg]
  split
  · exact l_dive (by rw [hgt]; exact hy) (by omega) (by omega) (by omega)
  · exact l_dive (by rw [hgt]; exact hx) (by omega) (by omega) (by omega)
theorem lwt_eq {a b a' b' : Int64} (p : Int32) (hb : 0 < b.toInt) (hb' : 0 < b'.toInt) (h : b.toInt * a'.toInt = b'.toInt * a.toInt) : lwt a b p = lwt a' b' p := by
  obtain ⟨g, x, y, g0, ha, hbb, hc, hy, hp⟩ := lwt_part (a := a) hb
  obtain ⟨g', x', y', g0', ha', hbb', hc', hy', hp'⟩ := lwt_part (a := a') hb'
  have e : ((g : Int) * g') * (y * x') = ((g : Int) * g') * (y' * x) := by
    rw [ha, hbb, ha', hbb'] at h
    grind
  have e2 : y * x' = y' * x := Int.eq_of_mul_eq_mul_left (by
    have := Int.mul_pos (show (0 : Int) < g by omega) (show (0 : Int) < g' by omega)
    omega) e
  have d1 : y.natAbs ∣ y'.natAbs := by
    have q : y.natAbs ∣ y'.natAbs * x.natAbs := by
      rw [← Int.natAbs_mul, ← e2, Int.natAbs_mul]
      exact Nat.dvd_mul_right _ _
    exact Nat.Coprime.dvd_of_dvd_mul_right (show Nat.Coprime y.natAbs x.natAbs from by rw [Nat.Coprime, Nat.gcd_comm]; exact hc) q
  have d2 : y'.natAbs ∣ y.natAbs := by
    have q : y'.natAbs ∣ y.natAbs * x'.natAbs := by
      rw [← Int.natAbs_mul, e2, Int.natAbs_mul]
      exact Nat.dvd_mul_right _ _
    exact Nat.Coprime.dvd_of_dvd_mul_right (show Nat.Coprime y'.natAbs x'.natAbs from by rw [Nat.Coprime, Nat.gcd_comm]; exact hc') q
  have ey : y = y' := by
    have := Nat.dvd_antisymm d1 d2
    omega
  have ex : x = x' := by
    rw [← ey] at e2
    exact (Int.eq_of_mul_eq_mul_left (by omega) e2).symm
  rw [l_eq, hp, hp', ey, ex]
section RN0
variable {I : Nat → Int32} {A : Nat → List Int32} {L : Nat → List Int64} {F : Nat → Int64} {E : MH}
theorem p01 {p : Int32} : (p = 0 ∨ p = 1) ↔ (¬ p < 0 ∧ ¬ 1 < p) := by
  have i1 : (1 : Int32).toInt = 1 := rfl
  rw [i_eq, i_eq, i_lt, i_lt, ii0, i1]
  omega
theorem rn_0 {k lim : Nat} (hk : k < 4) (hS : Sim I A L) (h3 : gs A k 3 = nI lim) (hl12 : lim ≤ 12) (hl1 : 1 ≤ lim) (level p3 : Int32) : mm_call G0 163 [.ref 84, .int (nI k), .int level, .int p3] (HP I A L F E) = if (0 ≤ level.toInt ∧ level.toInt < lim ∧ lim ≤ 6 ∧ 0 < aP (gw A 85) 5) ∧ (p3 = 0 ∨ p3 = 1) then ((mm_call G0 158 [.ref 84, .int (nI k), .int level] (HP I A L F E)).bind fun q => mm_run G0 163 41 [some (.ref 84), some (.int (nI k)), some (.int level), some (.int p3), some (.int (nI lim)), none, none] (q.1.toList ++ []) q.2) else some (some (.long (-9223372036854775808)), HP I A L F E) := by
  have hV := hS.2.2.1
  have haw := hV.aw 5 (Nat.le_refl _)
  have el : (nI lim).toInt = lim := nI_toInt (by omega)
  have i1 : (1 : Int32).toInt = 1 := rfl
  have e6 : (6 : Int32).toInt = 6 := rfl
  have el1 : (nI lim - 1).toInt = (lim : Int) - 1 := by rw [i_sub (by omega) (by omega), el, i1]
  have r (i : Nat) (hi : i < 5) : ldI (A 85) (nI (180 + i)) = some (nI (wn (gw A 85) i)) := by rw [hS.w (by omega), (hV.wt hi).2]
  have r3 : ldI (A 85) (45 * nI k + 3) = some (nI lim) := by
    rw [ix3, hS.w (by omega)]
    exact congrArg some h3
  rw [sg_X8_run_0, if_pos (show ¬ nI k < 0 ∧ ¬ 3 < nI k from ⟨nI_nneg (by omega), nI_nlt (a := 3) (b := k) (by omega) (by decide)⟩), r3, Option.bind_some]
  by_cases a3 : 6 < nI lim
  · rw [if_pos a3, if_neg (fun q => by
      have := q.1.2.2.1
      rw [i_lt, el, e6] at a3
      omega)]
  rw [if_neg a3, Option.bind_some]
  by_cases a1 : ¬ level < 0 ∧ ¬ (nI lim - 1) < level
  rotate_left 1
  · rw [if_neg a1, if_neg (fun q => a1 ⟨by
      rw [i_lt, ii0]
      have := q.1.1
      omega, by
      rw [i_lt, el1]
      have := q.1.2.1
      omega⟩)]
  rw [if_pos a1, show (180 : Int32) = nI (180 + 0) from rfl, r 0 (by decide), Option.bind_some, show (181 : Int32) = nI (180 + 1) from rfl, r 1 (by decide), Option.bind_some, show (182 : Int32) = nI (180 + 2) from rfl, r 2 (by decide), Option.bind_some, show (183 : Int32) = nI (180 + 3) from rfl, r 3 (by decide), Option.bind_some, show (184 : Int32) = nI (180 + 4) from rfl, r 4 (by decide), Option.bind_some]
  have es : (0 : Int32) + nI (wn (gw A 85) 0) + nI (wn (gw A 85) 1) + nI (wn (gw A 85) 2) + nI (wn (gw A 85) 3) + nI (wn (gw A 85) 4) = nI (aP (gw A 85) 5) := by
    rw [show (0 : Int32) = nI 0 from rfl, nI_add, nI_add, nI_add, nI_add, nI_add]
    rfl
  rw [es]
  have lev : 0 ≤ level.toInt ∧ level.toInt < lim ∧ lim ≤ 6 := by
    rw [i_lt, i_lt, ii0, el1] at a1
    rw [i_lt, el, e6] at a3
    omega
  by_cases h : aP (gw A 85) 5 = 0
  · rw [if_pos (show nI (aP (gw A 85) 5) ≤ 0 by rw [h]; decide), if_neg (fun q => by
      have := q.1.2.2.2
      omega)]
  · rw [if_neg (show ¬ nI (aP (gw A 85) 5) ≤ (0 : Int32) from n_nle (a := 0) (b := aP (gw A 85) 5) (by omega) (by omega))]
    by_cases hp : p3 = 0 ∨ p3 = 1
    · rw [if_pos (p01.mp hp), if_pos ⟨⟨lev.1, lev.2.1, lev.2.2, by omega⟩, hp⟩, Option.bind_some]
    · rw [if_neg (fun q => hp (p01.mpr q)), if_neg (fun q => hp q.2)]
end RN0
