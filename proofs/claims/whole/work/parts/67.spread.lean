/-! the class's way to where steps lead -/
def Bm (lim m : Nat) (X : List Int32) : Prop := X.length = 6 ∧ ∀ j, j < lim → X.getD j 0 = if m.testBit j then 1 else 0
theorem Bm.or {lim m t : Nat} {X : List Int32} (h : Bm lim m X) (ht : t < 6) : Bm lim (m ||| (1 <<< t)) (X.set t 1) := by
  refine ⟨by rw [List.length_set]; exact h.1, fun j hj => ?_⟩
  rw [getD_set (by have := h.1; omega), or_tb]
  by_cases e : j = t
  · rw [if_pos e, decide_eq_true e.symm, Bool.or_true, if_pos rfl]
  · rw [if_neg e, decide_eq_false (fun q => e q.symm), Bool.or_false]
    exact h.2 j hj
theorem Bm.big {lim m t : Nat} {X : List Int32} (h : Bm lim m X) (ht : lim ≤ t) : Bm lim (m ||| (1 <<< t)) X := by
  refine ⟨h.1, fun j hj => ?_⟩
  rw [or_tb, decide_eq_false (by omega), Bool.or_false]
  exact h.2 j hj
section SPR
variable {I : Nat → Int32} {L : Nat → List Int64} {F : Nat → Int64} {E : MH}
theorem sp_1 {pos : Nat → Bool} {sl lim l : Nat} {W : List Int32} (hsl : sl ≤ 5) (hlim : lim ≤ 6) (hl : l < lim) (h0 : I 5400 = nI sl) (h1 : I 5401 = nI lim) (hW : W.length = 5) (hp : ∀ i, i < 5 → (W.getD i 0 ≠ 0 ↔ pos i = true)) {i m a : Nat} {A : Nat → List Int32} {o3 : Option Int32} (hi : i < 5) (h55 : A 55 = W) (hm : Bm lim m (A 58)) (ha : Bm lim a (A 59)) :
    ∃ (A' : Nat → List Int32) (o3' : Option Int32), mm_run G0 7 12 [some (.ref 54), some (.int (nI l)), some (.int (nI i)), (o3.map Value.int)] [] (HP I A L F E) = mm_run G0 7 12 [some (.ref 54), some (.int (nI l)), some (.int (nI (i + 1))), (o3'.map Value.int)] [] (HP I A' L F E) ∧ Bm lim (qms pos (tt sl lim) l i m) (A' 58) ∧ Bm lim (qas pos (tt sl lim) lim l i a) (A' 59) ∧ ∀ x, x ≠ 58 → x ≠ 59 → A' x = A x := by
  have l58 := hm.1
  have l59 := ha.1
  have htt := tt_le sl lim l i
  rw [sg_X0_spread_12, if_neg (show ¬ (5 : Int32) ≤ nI i from n_nle (a := i) (b := 5) hi (by decide)), h55, ldI_d (by omega) (by omega), Option.bind_some, h0, h1, tt_eq hsl (by omega) (by omega) (by omega), in1]
  by_cases hpos : pos i = true
  rotate_left 1
  · refine ⟨A, o3, ?_, ?_, ?_, fun _ _ _ => rfl⟩
    · rw [if_neg (fun q => hpos ((hp i hi).mp q))]
    · unfold qms
      have : pos i = false := by simpa using hpos
      rw [this, Bool.and_false, if_neg (by decide)]
      exact hm
    · unfold qas
      have : pos i = false := by simpa using hpos
      rw [this, Bool.false_and, if_neg (by decide)]
      exact ha
  rw [if_pos ((hp i hi).mpr hpos)]
  by_cases hto : lim ≤ tt sl lim l i
  · refine ⟨fu A 59 ((A 59).set l 1), some (nI (tt sl lim l i)), ?_, ?_, ?_, fun x _ q => fu_n _ _ q⟩
    · rw [if_pos (n_le (a := lim) (b := tt sl lim l i) hto (by omega)), stI_n (by omega) (by omega), Option.bind_some, if_pos (n_le (a := lim) (b := tt sl lim l i) hto (by omega))]
      rfl
    · rw [fu_n _ _ (by decide)]
      unfold qms
      split
      · exact hm.big hto
      · exact hm
    · rw [fu_s]
      unfold qas
      rw [hpos, decide_eq_true hto, Bool.true_or, Bool.true_and, if_pos rfl]
      exact ha.or (by omega)
  have hnl := n_nle (a := tt sl lim l i) (b := lim) (by omega) (by omega)
  have e58 := hm.2 l hl
  have e59 := ha.2 (tt sl lim l i) (by omega)
  -- the second half, over any alarms
  have half : ∀ (A1 : Nat → List Int32), A1 58 = A 58 → ∃ A' : Nat → List Int32, (if (A 58).getD l 0 = 0 then mm_run G0 7 12 [some (.ref 54), some (.int (nI l)), some (.int (nI (i + 1))), some (.int (nI (tt sl lim l i)))] [] (HP I A1 L F E) else (stI (A 58) (nI (tt sl lim l i)) 1).bind fun X => mm_run G0 7 12 [some (.ref 54), some (.int (nI l)), some (.int (nI (i + 1))), some (.int (nI (tt sl lim l i)))] [] (HP I (fu A1 58 X) L F E)) = mm_run G0 7 12 [some (.ref 54), some (.int (nI l)), some (.int (nI (i + 1))), some (.int (nI (tt sl lim l i)))] [] (HP I A' L F E) ∧ Bm lim (qms pos (tt sl lim) l i m) (A' 58) ∧ (∀ x, x ≠ 58 → A' x = A1 x) := fun A1 hA1 => by
    by_cases hb : m.testBit l = true
    · refine ⟨fu A1 58 ((A 58).set (tt sl lim l i) 1), ?_, ?_, fun x q => fu_n _ _ q⟩
      · rw [e58, if_pos hb, if_neg (by decide), stI_n (by omega) (by omega), Option.bind_some]
      · rw [fu_s]
        unfold qms
        rw [hb, hpos, Bool.true_and, if_pos rfl]
        exact hm.or (by omega)
    · refine ⟨A1, ?_, ?_, fun _ _ => rfl⟩
      · rw [e58, if_neg hb, if_pos rfl]
      · rw [hA1]
        unfold qms
        have : m.testBit l = false := by simpa using hb
        rw [this, Bool.false_and, if_neg (by decide)]
        exact hm
  by_cases hb : a.testBit (tt sl lim l i) = true
  · obtain ⟨A', x1, x2, x3⟩ := half (fu A 59 ((A 59).set l 1)) (fu_n _ _ (by decide))
    refine ⟨A', some (nI (tt sl lim l i)), ?_, x2, ?_, fun x q1 q2 => by rw [x3 x q1, fu_n _ _ q2]⟩
    · rw [if_neg hnl, ldI_d (by omega) (by omega), Option.bind_some, e59, if_pos hb, if_neg (by decide), stI_n (by omega) (by omega), Option.bind_some, if_neg hnl, ldI_d (by omega) (by omega), Option.bind_some]
      exact x1
    · rw [x3 59 (by decide), fu_s]
      unfold qas
      rw [hpos, hb, Bool.or_true, Bool.true_and, if_pos rfl]
      exact ha.or (by omega)
  · obtain ⟨A', x1, x2, x3⟩ := half A rfl
    refine ⟨A', some (nI (tt sl lim l i)), ?_, x2, ?_, fun x q1 q2 => x3 x q1⟩
    · rw [if_neg hnl, ldI_d (by omega) (by omega), Option.bind_some, e59, if_neg hb, if_pos rfl, if_neg hnl, ldI_d (by omega) (by omega), Option.bind_some]
      exact x1
    · rw [x3 59 (by decide)]
      unfold qas
      have : a.testBit (tt sl lim l i) = false := by simpa using hb
      rw [this, decide_eq_false hto, Bool.or_false, Bool.and_false, if_neg (by decide)]
      exact ha
theorem sp_i {pos : Nat → Bool} {sl lim l : Nat} {W : List Int32} (hsl : sl ≤ 5) (hlim : lim ≤ 6) (hl : l < lim) (h0 : I 5400 = nI sl) (h1 : I 5401 = nI lim) (hW : W.length = 5) (hp : ∀ i, i < 5 → (W.getD i 0 ≠ 0 ↔ pos i = true)) : ∀ (d i m a : Nat) (A : Nat → List Int32) (o3 : Option Int32), i + d = 5 → A 55 = W → Bm lim m (A 58) → Bm lim a (A 59) →
    ∃ (A' : Nat → List Int32) (o3' : Option Int32), mm_run G0 7 12 [some (.ref 54), some (.int (nI l)), some (.int (nI i)), (o3.map Value.int)] [] (HP I A L F E) = mm_run G0 7 12 [some (.ref 54), some (.int (nI l)), some (.int (nI 5)), (o3'.map Value.int)] [] (HP I A' L F E) ∧ Bm lim (qmi pos (tt sl lim) l d i m) (A' 58) ∧ Bm lim (qai pos (tt sl lim) lim l d i a) (A' 59) ∧ ∀ x, x ≠ 58 → x ≠ 59 → A' x = A x
  | 0, i, m, a, A, o3, hi, h55, hm, ha => by
    obtain rfl : i = 5 := by omega
    exact ⟨A, o3, rfl, hm, ha, fun _ _ _ => rfl⟩
  | d + 1, i, m, a, A, o3, hi, h55, hm, ha => by
    obtain ⟨A1, o1, y1, y2, y3, y4⟩ := sp_1 (L := L) (F := F) (E := E) (o3 := o3) hsl hlim hl h0 h1 hW hp (i := i) (by omega) h55 hm ha
    obtain ⟨A2, o2, z1, z2, z3, z4⟩ := sp_i hsl hlim hl h0 h1 hW hp d (i + 1) _ _ A1 o1 (by omega) (by rw [y4 _ (by decide) (by decide)]; exact h55) y2 y3
    exact ⟨A2, o2, y1.trans z1, z2, z3, fun x q1 q2 => by rw [z4 x q1 q2, y4 x q1 q2]⟩
theorem sp_l {pos : Nat → Bool} {sl lim : Nat} {W : List Int32} (hsl : sl ≤ 5) (hlim : lim ≤ 6) (h0 : I 5400 = nI sl) (h1 : I 5401 = nI lim) (hW : W.length = 5) (hp : ∀ i, i < 5 → (W.getD i 0 ≠ 0 ↔ pos i = true)) : ∀ (d l m a : Nat) (A : Nat → List Int32) (o2 o3 : Option Int32), l + d = lim → A 55 = W → Bm lim m (A 58) → Bm lim a (A 59) →
    ∃ (A' : Nat → List Int32), mm_run G0 7 2 [some (.ref 54), some (.int (nI l)), (o2.map Value.int), (o3.map Value.int)] [] (HP I A L F E) = some (none, HP I A' L F E) ∧ Bm lim (qml pos (tt sl lim) d l m) (A' 58) ∧ Bm lim (qal pos (tt sl lim) lim d l a) (A' 59) ∧ ∀ x, x ≠ 58 → x ≠ 59 → A' x = A x
  | 0, l, m, a, A, o2, o3, hi, h55, hm, ha => by
    obtain rfl : l = lim := by omega
    exact ⟨A, by rw [sg_X0_spread_2, h1, if_pos (n_le (a := l) (b := l) (by omega) (by omega))], hm, ha, fun _ _ _ => rfl⟩
  | d + 1, l, m, a, A, o2, o3, hi, h55, hm, ha => by
    obtain ⟨A1, o1, y1, y2, y3, y4⟩ := sp_i (L := L) (F := F) (E := E) hsl hlim (show l < lim by omega) h0 h1 hW hp 5 0 m a A o3 (by omega) h55 hm ha
    obtain ⟨A2, z1, z2, z3, z4⟩ := sp_l hsl hlim h0 h1 hW hp d (l + 1) _ _ A1 (some 5) o1 (by omega) (by rw [y4 _ (by decide) (by decide)]; exact h55) y2 y3
    refine ⟨A2, ?_, z2, z3, fun x q1 q2 => by rw [z4 x q1 q2, y4 x q1 q2]⟩
    rw [sg_X0_spread_2, h1, if_neg (n_nle (a := l) (b := lim) (by omega) (by omega))]
    refine (y1 : _ = _).trans ?_
    rw [sg_X0_spread_12, if_pos (show (5 : Int32) ≤ nI 5 by decide), in1]
    exact z1
theorem se_41 {pos : Nat → Bool} {sl lim : Nat} {W : List Int32} (hsl : sl ≤ 5) (hlim : lim ≤ 6) (h0 : I 5400 = nI sl) (h1 : I 5401 = nI lim) (hW : W.length = 5) (hp : ∀ i, i < 5 → (W.getD i 0 ≠ 0 ↔ pos i = true)) (v1 : Int32) : ∀ (d t m a : Nat) (A : Nat → List Int32), t + d = lim → A 55 = W → Bm lim m (A 58) → Bm lim a (A 59) →
    ∃ (A' : Nat → List Int32), mm_run G0 6 41 [some (.ref 54), some (.int v1), some (.int (nI t))] [] (HP I A L F E) = mm_run G0 6 61 [some (.ref 54), some (.int v1), some (.int (nI 0))] [] (HP I A' L F E) ∧ Bm lim (qmk pos (tt sl lim) lim d m) (A' 58) ∧ Bm lim (qak pos (tt sl lim) lim d a) (A' 59) ∧ ∀ x, x ≠ 58 → x ≠ 59 → A' x = A x
  | 0, t, m, a, A, ht, h55, hm, ha => by
    obtain rfl : t = lim := by omega
    exact ⟨A, by rw [sg_X0_surelyEnds_41, h1, if_pos (n_le (a := t) (b := t) (by omega) (by omega))]; rfl, hm, ha, fun _ _ _ => rfl⟩
  | d + 1, t, m, a, A, ht, h55, hm, ha => by
    obtain ⟨A1, y1, y2, y3, y4⟩ := sp_l (L := L) (F := F) (E := E) hsl hlim h0 h1 hW hp lim 0 m a A none none (by omega) h55 hm ha
    obtain ⟨A2, z1, z2, z3, z4⟩ := se_41 hsl hlim h0 h1 hW hp v1 d (t + 1) _ _ A1 (by omega) (by rw [y4 _ (by decide) (by decide)]; exact h55) y2 y3
    refine ⟨A2, ?_, z2, z3, fun x q1 q2 => by rw [z4 x q1 q2, y4 x q1 q2]⟩
    have hc : mm_call G0 7 [.ref 54] (HP I A L F E) = some (none, HP I A1 L F E) := by
      rw [sg_X0_spread_0]
      exact y1
    rw [sg_X0_surelyEnds_41, h1, if_neg (n_nle (a := t) (b := lim) (by omega) (by omega)), hc, Option.bind_some]
    refine (sg_X0_surelyEnds_53 v1 (nI t)).trans ?_
    rw [in1]
    exact z1
theorem se_2 {lim level : Nat} (hlim : lim ≤ 6) (hlv : level < lim) (h1 : I 5401 = nI lim) : ∀ (d l : Nat) (A : Nat → List Int32), l + d = lim → (A 58).length = 6 → (A 59).length = 6 → (∀ j, j < l → (A 58).getD j 0 = if (1 <<< level).testBit j then 1 else 0) → (∀ j, j < l → (A 59).getD j 0 = 0) →
    ∃ (A' : Nat → List Int32), mm_run G0 6 2 [some (.ref 54), some (.int (nI level)), some (.int (nI l))] [] (HP I A L F E) = mm_run G0 6 41 [some (.ref 54), some (.int (nI level)), some (.int (nI 0))] [] (HP I A' L F E) ∧ Bm lim (1 <<< level) (A' 58) ∧ Bm lim 0 (A' 59) ∧ ∀ x, x ≠ 58 → x ≠ 59 → A' x = A x
  | 0, l, A, hl, l58, l59, hm, ha => by
    obtain rfl : l = lim := by omega
    exact ⟨A, by rw [sg_X0_surelyEnds_2, h1, if_pos (n_le (a := l) (b := l) (by omega) (by omega))]; rfl, ⟨l58, hm⟩, ⟨l59, fun j hj => by rw [ha j hj, Nat.zero_testBit]; rfl⟩, fun _ _ _ => rfl⟩
  | d + 1, l, A, hl, l58, l59, hm, ha => by
    have go : ∀ v : Int32, v = (if (1 <<< level).testBit l then 1 else 0) → ∃ (A' : Nat → List Int32), mm_run G0 6 2 [some (.ref 54), some (.int (nI level)), some (.int (nI (l + 1)))] [] (HP I (fu (fu A 58 ((A 58).set l v)) 59 ((A 59).set l 0)) L F E) = mm_run G0 6 41 [some (.ref 54), some (.int (nI level)), some (.int (nI 0))] [] (HP I A' L F E) ∧ Bm lim (1 <<< level) (A' 58) ∧ Bm lim 0 (A' 59) ∧ ∀ x, x ≠ 58 → x ≠ 59 → A' x = A x := fun v hv => by
      obtain ⟨A', x1, x2, x3, x4⟩ := se_2 hlim hlv h1 d (l + 1) (fu (fu A 58 ((A 58).set l v)) 59 ((A 59).set l 0)) (by omega) (by rw [fu_n _ _ (by decide), fu_s, List.length_set]; exact l58) (by rw [fu_s, List.length_set]; exact l59) (fun j hj => by
        rw [fu_n _ _ (by decide), fu_s, getD_set (by omega)]
        by_cases e : j = l
        · rw [if_pos e, hv, e]
        · rw [if_neg e]
          exact hm j (by omega)) (fun j hj => by
        rw [fu_s, getD_set (by omega)]
        by_cases e : j = l
        · rw [if_pos e]
        · rw [if_neg e]
          exact ha j (by omega))
      exact ⟨A', x1, x2, x3, fun x q1 q2 => by rw [x4 x q1 q2, fu_n _ _ q2, fu_n _ _ q1]⟩
    rw [sg_X0_surelyEnds_2, h1, if_neg (n_nle (a := l) (b := lim) (by omega) (by omega)), in1]
    by_cases e : l = level
    · rw [if_neg (show ¬ nI l ≠ nI level from fun z => z (by rw [e])), stI_n (by omega) (by omega), Option.bind_some, stI_n (by omega) (by omega), Option.bind_some]
      refine go 1 ?_
      rw [Nat.one_shiftLeft, Nat.testBit_two_pow, decide_eq_true e.symm, if_pos rfl]
    · rw [if_pos (nI_ne (a := l) (b := level) (by omega) (by omega) e), stI_n (by omega) (by omega), Option.bind_some, stI_n (by omega) (by omega), Option.bind_some]
      refine go 0 ?_
      rw [Nat.one_shiftLeft, Nat.testBit_two_pow, decide_eq_false (fun q => e q.symm), if_neg (by decide)]
theorem se_61 {lim m a : Nat} {A : Nat → List Int32} (hlim : lim ≤ 6) (h1 : I 5401 = nI lim) (hm : Bm lim m (A 58)) (ha : Bm lim a (A 59)) (v1 : Int32) : ∀ (d l : Nat), l + d = lim → ∃ z : Int32, mm_run G0 6 61 [some (.ref 54), some (.int v1), some (.int (nI l))] [] (HP I A L F E) = some (some (.int z), HP I A L F E) ∧ (z ≠ 0 ↔ ∀ j, l ≤ j → j < lim → m.testBit j = true → a.testBit j = true)
  | 0, l, hl => by
    obtain rfl : l = lim := by omega
    exact ⟨1, by rw [sg_X0_surelyEnds_61, h1, if_pos (n_le (a := l) (b := l) (by omega) (by omega))], fun _ j h1 h2 => by omega, fun _ => by decide⟩
  | d + 1, l, hl => by
    have l58 := hm.1
    have l59 := ha.1
    obtain ⟨z, z1, z2⟩ := se_61 hlim h1 hm ha v1 d (l + 1) (by omega)
    rw [sg_X0_surelyEnds_61, h1, if_neg (n_nle (a := l) (b := lim) (by omega) (by omega)), ldI_d (by omega) (by omega), Option.bind_some, hm.2 l (by omega), in1]
    by_cases e : m.testBit l = true
    · rw [if_pos e, if_neg (by decide), ldI_d (by omega) (by omega), Option.bind_some, ha.2 l (by omega)]
      by_cases e2 : a.testBit l = true
      · rw [if_pos e2, if_pos (by decide)]
        refine ⟨z, z1, fun q j q1 q2 q3 => ?_, fun q => z2.mpr (fun j q1 q2 q3 => q j (by omega) q2 q3)⟩
        by_cases e3 : j = l
        · rw [e3]; exact e2
        · exact z2.mp q j (by omega) q2 q3
      · rw [if_neg e2, if_neg (fun q => q rfl)]
        exact ⟨0, rfl, fun q => absurd rfl q, fun q => absurd (q l (Nat.le_refl l) (by omega) e) e2⟩
    · rw [if_neg e, if_pos rfl]
      refine ⟨z, z1, fun q j q1 q2 q3 => ?_, fun q => z2.mpr (fun j q1 q2 q3 => q j (by omega) q2 q3)⟩
      by_cases e3 : j = l
      · rw [e3] at q3
        exact absurd q3 e
      · exact z2.mp q j (by omega) q2 q3
theorem se_x {pos : Nat → Bool} {sl lim level : Nat} {A : Nat → List Int32} (hsl : sl ≤ 5) (hlim : lim ≤ 6) (hlv : level < lim) (h0 : I 5400 = nI sl) (h1 : I 5401 = nI lim) (l55 : (A 55).length = 5) (l58 : (A 58).length = 6) (l59 : (A 59).length = 6) (hp : ∀ i, i < 5 → ((A 55).getD i 0 ≠ 0 ↔ pos i = true)) :
    ∃ (A' : Nat → List Int32) (z : Int32), mm_call G0 6 [.ref 54, .int (nI level)] (HP I A L F E) = some (some (.int z), HP I A' L F E) ∧ (z ≠ 0 ↔ ∀ j, j < lim → (qmk pos (tt sl lim) lim lim (1 <<< level)).testBit j = true → (qak pos (tt sl lim) lim lim 0).testBit j = true) ∧ Bm lim (qmk pos (tt sl lim) lim lim (1 <<< level)) (A' 58) ∧ (A' 59).length = 6 ∧ ∀ x, x ≠ 58 → x ≠ 59 → A' x = A x := by
  obtain ⟨A1, x1, x2, x3, x4⟩ := se_2 (I := I) (L := L) (F := F) (E := E) hlim hlv h1 lim 0 A (by omega) l58 l59 (fun j hj => absurd hj (Nat.not_lt_zero _)) (fun j hj => absurd hj (Nat.not_lt_zero _))
  obtain ⟨A2, y1, y2, y3, y4⟩ := se_41 (I := I) (L := L) (F := F) (E := E) hsl hlim h0 h1 l55 hp (nI level) lim 0 _ _ A1 (by omega) (x4 _ (by decide) (by decide)) x2 x3
  obtain ⟨z, z1, z2⟩ := se_61 (I := I) (L := L) (F := F) (E := E) hlim h1 y2 y3 (nI level) lim 0 (by omega)
  refine ⟨A2, z, ?_, z2.trans ⟨fun q j => q j (Nat.zero_le j), fun q j _ => q j⟩, y2, y3.1, fun x q1 q2 => by rw [y4 x q1 q2, x4 x q1 q2]⟩
  rw [sg_X0_surelyEnds_0]
  exact (x1.trans y1).trans z1
end SPR
