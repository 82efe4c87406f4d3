/-! likely: the class walks -/
theorem ln_mul {x y : Int64} {m n : Nat} (hx : x.toInt = m) (hy : y.toInt = n) (h : m * n < 9223372036854775808) : (x * y).toInt = ((m * n : Nat) : Int) := by
  rw [l_mul (by rw [hx, hy, ← Int.natCast_mul]; omega) (by rw [hx, hy, ← Int.natCast_mul]; omega), hx, hy, Int.natCast_mul]
theorem ln_add {x y : Int64} {m n : Nat} (hx : x.toInt = m) (hy : y.toInt = n) (h : m + n < 9223372036854775808) : (x + y).toInt = ((m + n : Nat) : Int) := by
  rw [l_add (by rw [hx, hy]; omega) (by rw [hx, hy]; omega), hx, hy, Int.natCast_add]
/-- what the class holds of a walk: a row for the levels, apart from the alarms -/
def Wx (R : List Int64) (ab : Int64) (lim : Nat) (h : Nat → Nat) : Prop := R.length = 6 ∧ (∀ j, j < lim → (R.getD j 0).toInt = (h j : Int)) ∧ ab.toInt = (h lim : Int)
section WLK
variable {I : Nat → Int32} {A : Nat → List Int32} {E : MH}
theorem wx_i {wt : Nat → Nat} {sl lim B : Nat} (hsl : sl ≤ 5) (hlim : lim ≤ 6) (h0 : I 5400 = nI sl) (h1 : I 5401 = nI lim) (l55 : (A 55).length = 5) (h5 : ∀ i, i < 5 → (A 55).getD i 0 = nI (wt i)) (hw : ∀ i, i < 5 → wt i ≤ 5) (hB : 175 * B < 9223372036854775808) (h : Nat → Nat) (hh : Bd lim B h) {l : Nat} (hl : l < lim) : ∀ (d i C : Nat) (L : Nat → List Int64) (F : Nat → Int64) (acc : Nat → Nat) (o3 : Option Int32) (o4 : Option Int64), i + d = 5 → C + 5 * B * d ≤ 175 * B → (L 56).length = 6 → (∀ j, j < lim → ((L 56).getD j 0).toInt = (h j : Int)) → Wx (L 57) (F 5404) lim acc → Bd lim C acc →
    ∃ (L' : Nat → List Int64) (F' : Nat → Int64) (o3' : Option Int32) (o4' : Option Int64), mm_run G0 5 35 [some (.ref 54), some (.int (nI l)), some (.int (nI i)), (o3.map Value.int), (o4.map Value.long), none] [] (HP I A L F E) = mm_run G0 5 25 [some (.ref 54), some (.int (nI (l + 1))), ((some (nI 5)).map Value.int), (o3'.map Value.int), (o4'.map Value.long), none] [] (HP I A L' F' E) ∧ Wx (L' 57) (F' 5404) lim (wi wt (tt sl lim) h l d i acc) ∧ (∀ a, a ≠ 57 → L' a = L a) ∧ ∀ x, x ≠ 5404 → F' x = F x := by
  intro d
  induction d with
  | zero =>
    intro i C L F acc o3 o4 hi hC l56 h56 hW hb
    have e : i = 5 := by omega
    subst e
    refine ⟨L, F, o3, o4, ?_, hW, fun _ _ => rfl, fun _ _ => rfl⟩
    rw [sg_X0_walkOneStep_35, if_pos (by decide), in1]
    rfl
  | succ d ih =>
    intro i C L F acc o3 o4 hi hC l56 h56 hW hb
    have htt := tt_le sl lim l i
    have hx1 := h56 l hl
    have hx2 := l_nI (n := wt i) (by have := hw i (by omega); omega)
    have hm : h l * wt i ≤ B * 5 := Nat.mul_le_mul (hh l (by omega)) (hw i (by omega))
    have hC' : C + 5 * B + 5 * B * d ≤ 175 * B := by
      rw [Nat.mul_succ] at hC
      omega
    have hmore := ln_mul hx1 hx2 (by omega)
    have hacc := hb (tt sl lim l i) htt
    have hbd : Bd lim (C + 5 * B) (fu acc (tt sl lim l i) (acc (tt sl lim l i) + h l * wt i)) := fun j hj => by
      by_cases e : j = tt sl lim l i
      · rw [e, fu_s]
        omega
      · rw [fu_n _ _ e]
        have := hb j hj
        omega
    rw [sg_X0_walkOneStep_35, if_neg (show ¬ (5 : Int32) ≤ nI i from n_nle (a := i) (b := 5) (by omega) (by decide)), ldL_d (by omega) (by omega), Option.bind_some, ldI_d (by omega) (by omega), Option.bind_some, h5 i (by omega), h0, h1, tt_eq hsl (by omega) (by omega) (by omega), in1]
    by_cases hto : tt sl lim l i = lim
    · rw [if_pos (n_le (a := lim) (b := tt sl lim l i) (by omega) (by omega))]
      have hab : (F 5404 + (L 56).getD l 0 * (nI (wt i)).toInt64).toInt = ((fu acc (tt sl lim l i) (acc (tt sl lim l i) + h l * wt i)) lim : Nat) := by
        rw [hto, fu_s]
        rw [hto] at hacc
        exact ln_add hW.2.2 hmore (by omega)
      obtain ⟨L', F', o3', o4', x1, x2, x3, x4⟩ := ih (i + 1) (C + 5 * B) L (fu F 5404 (F 5404 + (L 56).getD l 0 * (nI (wt i)).toInt64)) (fu acc (tt sl lim l i) (acc (tt sl lim l i) + h l * wt i)) (some (nI (tt sl lim l i))) (some ((L 56).getD l 0 * (nI (wt i)).toInt64)) (by omega) hC' l56 h56 ⟨hW.1, fun j hj => by rw [fu_n _ _ (by omega)]; exact hW.2.1 j hj, by rw [fu_s]; exact hab⟩ hbd
      exact ⟨L', F', o3', o4', x1, x2, x3, fun x hx => by rw [x4 x hx, fu_n _ _ hx]⟩
    · rw [if_neg (n_nle (a := tt sl lim l i) (b := lim) (by omega) (by omega)), ldL_d (by have := hW.1; omega) (by have := hW.1; omega), Option.bind_some, stL_n (by have := hW.1; omega) (by have := hW.1; omega), Option.bind_some]
      have l57 := hW.1
      obtain ⟨L', F', o3', o4', x1, x2, x3, x4⟩ := ih (i + 1) (C + 5 * B) (fu L 57 ((L 57).set (tt sl lim l i) ((L 57).getD (tt sl lim l i) 0 + (L 56).getD l 0 * (nI (wt i)).toInt64))) F (fu acc (tt sl lim l i) (acc (tt sl lim l i) + h l * wt i)) (some (nI (tt sl lim l i))) (some ((L 56).getD l 0 * (nI (wt i)).toInt64)) (by omega) hC' (by rw [fu_n _ _ (by decide)]; exact l56) (fun j hj => by rw [fu_n _ _ (by decide)]; exact h56 j hj) ⟨by rw [fu_s, List.length_set]; exact l57, fun j hj => by
        rw [fu_s, getD_set (by omega)]
        by_cases e : j = tt sl lim l i
        · rw [if_pos e, e, fu_s]
          exact ln_add (hW.2.1 _ (by omega)) hmore (by omega)
        · rw [if_neg e, fu_n _ _ e]
          exact hW.2.1 j hj, by rw [fu_n _ _ (fun q => hto q.symm)]; exact hW.2.2⟩ hbd
      exact ⟨L', F', o3', o4', x1, x2, fun a ha => by rw [x3 a ha, fu_n _ _ ha], x4⟩
theorem wx_l {wt : Nat → Nat} {sl lim B : Nat} (hsl : sl ≤ 5) (hlim : lim ≤ 6) (h0 : I 5400 = nI sl) (h1 : I 5401 = nI lim) (l55 : (A 55).length = 5) (h5 : ∀ i, i < 5 → (A 55).getD i 0 = nI (wt i)) (hw : ∀ i, i < 5 → wt i ≤ 5) (hB : 175 * B < 9223372036854775808) (h : Nat → Nat) (hh : Bd lim B h) : ∀ (d l C : Nat) (L : Nat → List Int64) (F : Nat → Int64) (acc : Nat → Nat) (o2 o3 : Option Int32) (o4 : Option Int64), l + d = lim → C + 25 * B * d ≤ 175 * B → (L 56).length = 6 → (∀ j, j < lim → ((L 56).getD j 0).toInt = (h j : Int)) → Wx (L 57) (F 5404) lim acc → Bd lim C acc →
    ∃ (L' : Nat → List Int64) (F' : Nat → Int64), mm_run G0 5 25 [some (.ref 54), some (.int (nI l)), (o2.map Value.int), (o3.map Value.int), (o4.map Value.long), none] [] (HP I A L F E) = some (none, HP I A L' F' E) ∧ Wx (L' 56) (F' 5404) lim (wl wt (tt sl lim) h d l acc) ∧ (L' 57).length = 6 ∧ (∀ a, a ≠ 56 → a ≠ 57 → L' a = L a) ∧ ∀ x, x ≠ 5404 → F' x = F x := by
  intro d
  induction d with
  | zero =>
    intro l C L F acc o2 o3 o4 hl hC l56 h56 hW hb
    have hcp : cpL (L 57) (L 56) 0 0 6 = some (L 57) := by
      have z := cpL_n (l0 := L 57) (l1 := L 56) (sp := 0) (dp := 0) (n := 6) (by have := hW.1; omega) (by omega) (by have := hW.1; omega) (by omega)
      have e : mm_cpy 0 (L 57) (L 56) 0 0 6 = L 57 := by
        apply List.ext_getElem (by rw [cpy_len, l56, hW.1])
        intro i q1 q2
        have q3 : i < 6 := by have := hW.1; omega
        have g := cpy_get (l0 := L 57) (l1 := L 56) (sp := 0) (dp := 0) (n := 6) (k := i) (by omega)
        rw [if_pos (by omega), show 0 + (i - 0) = i by omega, List.getD_eq_getElem?_getD, List.getD_eq_getElem?_getD, List.getElem?_eq_getElem q1, List.getElem?_eq_getElem q2] at g
        exact g
      rw [e] at z
      exact z
    refine ⟨fu L 56 (L 57), F, ?_, by rw [fu_s]; exact hW, by rw [fu_n _ _ (by decide)]; exact hW.1, fun a h1 _ => fu_n _ _ h1, fun _ _ => rfl⟩
    rw [sg_X0_walkOneStep_25, h1, if_pos (n_le (a := lim) (b := l) (by omega) (by omega)), hcp, Option.bind_some]
  | succ d ih =>
    intro l C L F acc o2 o3 o4 hl hC l56 h56 hW hb
    have hC2 : C + 5 * B * 5 + 25 * B * d ≤ 175 * B := by
      rw [Nat.mul_succ] at hC
      omega
    obtain ⟨L1, F1, p3, p4, y1, y2, y3, y4⟩ := wx_i (I := I) (A := A) (E := E) hsl hlim h0 h1 l55 h5 hw hB h hh (show l < lim by omega) 5 0 C L F acc o3 o4 (by decide) (by omega) l56 h56 hW hb
    obtain ⟨L', F', x1, x2, x3, x4, x5⟩ := ih (l + 1) (C + 5 * B * 5) L1 F1 (wi wt (tt sl lim) h l 5 0 acc) (some (nI 5)) p3 p4 (by omega) hC2 (by rw [y3 _ (by decide)]; exact l56) (fun j hj => by rw [y3 _ (by decide)]; exact h56 j hj) y2 (wi_bd hw (hh l (by omega)) 5 0 C acc (by decide) hb)
    refine ⟨L', F', ?_, x2, x3, fun a h1 h2 => by rw [x4 a h1 h2, y3 a h2], fun x hx => by rw [x5 x hx, y4 x hx]⟩
    rw [sg_X0_walkOneStep_25, h1, if_neg (n_nle (a := l) (b := lim) (by omega) (by omega))]
    exact y1.trans x1
theorem wx_z {lim : Nat} (hlim : lim ≤ 6) (h1 : I 5401 = nI lim) {F : Nat → Int64} : ∀ (d l : Nat) (L : Nat → List Int64), l + d = lim → (L 57).length = 6 → (∀ j, j < l → (L 57).getD j 0 = 0) → ∃ X : List Int64, mm_run G0 5 2 [some (.ref 54), some (.int (nI l)), none, none, none, none] [] (HP I A L F E) = mm_run G0 5 25 [some (.ref 54), some (.int 0), none, none, none, none] [] (HP I A (fu L 57 X) F E) ∧ X.length = 6 ∧ ∀ j, j < lim → X.getD j 0 = 0 := by
  intro d
  induction d with
  | zero =>
    intro l L hl l57 hz
    have e : l = lim := by omega
    subst e
    exact ⟨L 57, by rw [sg_X0_walkOneStep_2, h1, if_pos (n_le (a := l) (b := l) (by omega) (by omega)), fu_id], l57, hz⟩
  | succ d ih =>
    intro l L hl l57 hz
    obtain ⟨X, x1, x2, x3⟩ := ih (l + 1) (fu L 57 ((L 57).set l 0)) (by omega) (by rw [fu_s, List.length_set]; exact l57) (fun j hj => by
      rw [fu_s, getD_set (by omega)]
      by_cases e : j = l
      · rw [if_pos e]
      · rw [if_neg e]
        exact hz j (by omega))
    refine ⟨X, ?_, x2, x3⟩
    rw [fu_fu] at x1
    rw [sg_X0_walkOneStep_2, h1, if_neg (n_nle (a := l) (b := lim) (by omega) (by omega)), stL_n (by omega) (by omega), Option.bind_some, in1]
    exact x1
/-- steps of a walk -/
theorem wx_k {wt : Nat → Nat} {sl lim aw n : Nat} (hsl : sl ≤ 5) (hlim : lim ≤ 6) (haw : aw ≤ 25) (hn : n ≤ 8) (h0 : I 5400 = nI sl) (h1 : I 5401 = nI lim) (h3 : I 5403 = nI aw) (l55 : (A 55).length = 5) (h5 : ∀ i, i < 5 → (A 55).getD i 0 = nI (wt i)) (hw : ∀ i, i < 5 → wt i ≤ 5) (v1 : Int32) : ∀ (d t : Nat) (L : Nat → List Int64) (F : Nat → Int64) (h : Nat → Nat), t + d = n → Wx (L 56) (F 5404) lim h → (L 57).length = 6 → Bd lim (175 ^ t) h → (F 5405).toInt = ((aw ^ t : Nat) : Int) →
    ∃ (L' : Nat → List Int64) (F' : Nat → Int64), mm_run G0 4 44 [some (.ref 54), some (.int v1), some (.int (nI n)), some (.int (nI t))] [] (HP I A L F E) = some (none, HP I A L' F' E) ∧ (F' 5404).toInt = (wk wt (tt sl lim) lim aw d h lim : Int) ∧ wk wt (tt sl lim) lim aw d h lim ≤ 175 ^ n ∧ (F' 5405).toInt = ((aw ^ n : Nat) : Int) ∧ (L' 56).length = 6 ∧ (L' 57).length = 6 ∧ (∀ a, a ≠ 56 → a ≠ 57 → L' a = L a) := by
  intro d
  induction d with
  | zero =>
    intro t L F h ht hW l57 hb hF
    have e : t = n := by omega
    subst e
    exact ⟨L, F, by rw [sg_X0_walk_44, if_pos (n_le (a := t) (b := t) (by omega) (by omega))], hW.2.2, hb lim (Nat.le_refl _), hF, hW.1, l57, fun _ _ _ => rfl⟩
  | succ d ih =>
    intro t L F h ht hW l57 hb hF
    have hB : 175 * 175 ^ t < 9223372036854775808 := by
      have h1 : 175 ^ t ≤ 175 ^ 7 := Nat.pow_le_pow_right (by decide) (by omega)
      have h2 : 175 * 175 ^ 7 < 9223372036854775808 := by decide
      omega
    have ha7 : aw ^ t ≤ 25 ^ 7 := Nat.le_trans (Nat.pow_le_pow_left haw t) (Nat.pow_le_pow_right (by decide) (by omega))
    have e3 := l_nI (n := aw) (by omega)
    have hmul : aw ^ t * aw ≤ 25 ^ 7 * 25 := Nat.mul_le_mul ha7 haw
    have hlm : h lim * aw ≤ 175 ^ t * 25 := Nat.mul_le_mul (hb lim (Nat.le_refl _)) haw
    have hab := ln_mul hW.2.2 e3 (by omega)
    have hbe := ln_mul hF e3 (by
      have : (25 : Nat) ^ 7 * 25 < 9223372036854775808 := by decide
      omega)
    obtain ⟨X, z1, z2, z3⟩ := wx_z (I := I) (A := A) (E := E) (F := fu (fu F 5404 (F 5404 * (nI aw).toInt64)) 5405 (F 5405 * (nI aw).toInt64)) hlim h1 lim 0 L (by omega) l57 (fun j hj => absurd hj (Nat.not_lt_zero _))
    obtain ⟨L1, F1, y1, y2, y3, y4, y5⟩ := wx_l (I := I) (A := A) (E := E) hsl hlim h0 h1 l55 h5 hw hB h hb lim 0 (25 * 175 ^ t) (fu L 57 X) (fu (fu F 5404 (F 5404 * (nI aw).toInt64)) 5405 (F 5405 * (nI aw).toInt64)) (w0 h lim aw) none none none (by omega) (by
      have : 25 * 175 ^ t * lim ≤ 25 * 175 ^ t * 6 := Nat.mul_le_mul_left _ hlim
      omega) (by rw [fu_n _ _ (by decide)]; exact hW.1) (fun j hj => by rw [fu_n _ _ (by decide)]; exact hW.2.1 j hj) ⟨by rw [fu_s]; exact z2, fun j hj => by
        rw [fu_s, z3 j hj]
        unfold w0
        rw [if_neg (by omega)]
        rfl, by
        rw [fu_n _ _ (by decide), fu_s, hab]
        unfold w0
        rw [if_pos rfl]⟩ (w0_bd haw hb)
    obtain ⟨L', F', x1, x2, x3, x4, x5, x6, x7⟩ := ih (t + 1) L1 F1 (ws wt (tt sl lim) lim aw h) (by omega) y2 y3 (by rw [Nat.pow_succ, Nat.mul_comm]; exact ws_bd hw haw hlim hb) (by rw [y5 _ (by decide), fu_s, hbe, Nat.pow_succ])
    refine ⟨L', F', ?_, x2, x3, x4, x5, x6, fun a q1 q2 => by rw [x7 a q1 q2, y4 a q1 q2, fu_n _ _ q2]⟩
    have hc : mm_call G0 5 [.ref 54] (HP I A L (fu (fu F 5404 (F 5404 * (I 5403).toInt64)) 5405 (F 5405 * (I 5403).toInt64)) E) = some (none, HP I A L1 F1 E) := by
      rw [sg_X0_walkOneStep_0, h3]
      exact z1.trans y1
    rw [sg_X0_walk_44, if_neg (n_nle (a := t) (b := n) (by omega) (by omega)), hc, Option.bind_some]
    refine (sg_X0_walk_81 v1 (nI n) (nI t)).trans ?_
    rw [in1]
    exact x1
def hst (level : Nat) : Nat → Nat := fun j => if j = level then 1 else 0
theorem wx_s {lim level n : Nat} (hlim : lim ≤ 6) (hlv : level < lim) (h1 : I 5401 = nI lim) {F : Nat → Int64} : ∀ (d l : Nat) (L : Nat → List Int64), l + d = lim → (L 56).length = 6 → (∀ j, j < l → ((L 56).getD j 0).toInt = (hst level j : Int)) → ∃ X : List Int64, mm_run G0 4 12 [some (.ref 54), some (.int (nI level)), some (.int (nI n)), some (.int (nI l))] [] (HP I A L F E) = mm_run G0 4 44 [some (.ref 54), some (.int (nI level)), some (.int (nI n)), some (.int 0)] [] (HP I A (fu L 56 X) F E) ∧ X.length = 6 ∧ ∀ j, j < lim → (X.getD j 0).toInt = (hst level j : Int) := by
  intro d
  induction d with
  | zero =>
    intro l L hl l56 hz
    have e : l = lim := by omega
    subst e
    exact ⟨L 56, by rw [sg_X0_walk_12, h1, if_pos (n_le (a := l) (b := l) (by omega) (by omega)), fu_id], l56, hz⟩
  | succ d ih =>
    intro l L hl l56 hz
    have st : ∀ x : Int64, x.toInt = (hst level l : Int) → ∃ X : List Int64, mm_run G0 4 12 [some (.ref 54), some (.int (nI level)), some (.int (nI n)), some (.int (nI (l + 1)))] [] (HP I A (fu L 56 ((L 56).set l x)) F E) = mm_run G0 4 44 [some (.ref 54), some (.int (nI level)), some (.int (nI n)), some (.int 0)] [] (HP I A (fu L 56 X) F E) ∧ X.length = 6 ∧ ∀ j, j < lim → (X.getD j 0).toInt = (hst level j : Int) := fun x hx => by
      obtain ⟨X, x1, x2, x3⟩ := ih (l + 1) (fu L 56 ((L 56).set l x)) (by omega) (by rw [fu_s, List.length_set]; exact l56) (fun j hj => by
        rw [fu_s, getD_set (by omega)]
        by_cases e : j = l
        · rw [if_pos e, e]
          exact hx
        · rw [if_neg e]
          exact hz j (by omega))
      rw [fu_fu] at x1
      exact ⟨X, x1, x2, x3⟩
    rw [sg_X0_walk_12, h1, if_neg (n_nle (a := l) (b := lim) (by omega) (by omega)), in1]
    by_cases e : l = level
    · rw [if_neg (show ¬ nI l ≠ nI level from fun z => z (by rw [e])), stL_n (by omega) (by omega), Option.bind_some]
      exact st 1 (by unfold hst; rw [if_pos e]; rfl)
    · rw [if_pos (nI_ne (a := l) (b := level) (by omega) (by omega) e), stL_n (by omega) (by omega), Option.bind_some]
      exact st 0 (by unfold hst; rw [if_neg e]; rfl)
theorem walk_x {wt : Nat → Nat} {sl lim aw n level : Nat} {L : Nat → List Int64} {F : Nat → Int64} (hsl : sl ≤ 5) (hlim : lim ≤ 6) (hlv : level < lim) (haw : aw ≤ 25) (hn : n ≤ 8) (h0 : I 5400 = nI sl) (h1 : I 5401 = nI lim) (h3 : I 5403 = nI aw) (hs : Shp A L) (h5 : ∀ i, i < 5 → (A 55).getD i 0 = nI (wt i)) (hw : ∀ i, i < 5 → wt i ≤ 5) : ∃ (L' : Nat → List Int64) (F' : Nat → Int64), mm_call G0 4 [.ref 54, .int (nI level), .int (nI n)] (HP I A L F E) = some (none, HP I A L' F' E) ∧ (F' 5404).toInt = (wk wt (tt sl lim) lim aw n (hst level) lim : Int) ∧ wk wt (tt sl lim) lim aw n (hst level) lim ≤ 175 ^ n ∧ (F' 5405).toInt = ((aw ^ n : Nat) : Int) ∧ (∀ a, a ≠ 56 → a ≠ 57 → L' a = L a) ∧ ∀ a, (L' a).length = (L a).length := by
  have l56 := hs.l (a := 56) (n := 6) (by decide)
  have l57 := hs.l (a := 57) (n := 6) (by decide)
  have l55 := hs.i (a := 55) (n := 5) (by decide)
  obtain ⟨X, y1, y2, y3⟩ := wx_s (I := I) (A := A) (E := E) (F := fu (fu F 5404 0) 5405 1) (n := n) hlim hlv h1 lim 0 L (by omega) l56 (fun j hj => absurd hj (Nat.not_lt_zero _))
  obtain ⟨L', F', x1, x2, x3, x4, x5, x6, x7⟩ := wx_k (I := I) (A := A) (E := E) hsl hlim haw hn h0 h1 h3 l55 h5 hw (nI level) n 0 (fu L 56 X) (fu (fu F 5404 0) 5405 1) (hst level) (by omega) ⟨by rw [fu_s]; exact y2, fun j hj => by rw [fu_s]; exact y3 j hj, by
    rw [fu_n _ _ (by decide), fu_s]
    unfold hst
    rw [if_neg (by omega)]
    rfl⟩ (by rw [fu_n _ _ (by decide)]; exact l57) (fun j hj => by
    unfold hst
    split
    · decide
    · exact Nat.zero_le _) (by rw [fu_s]; rfl)
  refine ⟨L', F', ?_, x2, x3, x4, fun a q1 q2 => by rw [x7 a q1 q2, fu_n _ _ q1], fun a => ?_⟩
  · rw [sg_X0_walk_0]
    exact y1.trans x1
  · by_cases e : a = 56
    · rw [e, x5, l56]
    · by_cases e2 : a = 57
      · rw [e2, x6, l57]
      · rw [x7 a e e2, fu_n _ _ e]
end WLK
