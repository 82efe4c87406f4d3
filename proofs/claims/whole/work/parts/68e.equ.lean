/-! the reference's equations -/
theorem ld96 {r : Nat} (h : r < 6) : ldR [some 96, some 97, some 98, some 99, some 100, some 101] (nI r) = some (96 + r) := by
  rw [ldR_n (by omega)]
  match r, h with
  | 0, _ => rfl
  | 1, _ => rfl
  | 2, _ => rfl
  | 3, _ => rfl
  | 4, _ => rfl
  | 5, _ => rfl
section EQU
variable {I : Nat → Int32} {A : Nat → List Int32} {F : Nat → Int64} {E : MH}
theorem eq_1 {wt : Nat → Nat} {sl lim l k aw : Nat} {m : Int32} {L : Nat → List Int64} {o6 : Option Int32} (hsl : sl ≤ 5) (hlim : lim ≤ 6) (hl : l < lim) (haw : aw ≤ 25) (h3 : ldI (A 85) (45 * nI k + 3) = some (nI lim)) (h2 : ldI (A 85) (45 * nI k + 2) = some (nI sl)) (hwl : ∀ i, i < 5 → ldI (A 85) (nI (180 + i)) = some (nI (wt i))) (hw : ∀ i, i < 5 → wt i ≤ 5) {i : Nat} (hi : i < 5) (hR : Rq lim 0 (yf wt (tt sl lim l) lim (yb l aw aw) i) (L (96 + l))) :
    ∃ (X : List Int64) (o6' : Option Int32), mm_run G0 160 105 [some (.ref 84), some (.int (nI k)), some (.int m), some (.int (nI lim)), some (.int (nI l)), some (.int (nI i)), (o6.map Value.int)] [] (HP I A L F E) = mm_run G0 160 105 [some (.ref 84), some (.int (nI k)), some (.int m), some (.int (nI lim)), some (.int (nI l)), some (.int (nI (i + 1))), (o6'.map Value.int)] [] (HP I A (fu L (96 + l) X) F E) ∧ Rq lim 0 (yf wt (tt sl lim l) lim (yb l aw aw) (i + 1)) X := by
  obtain ⟨r1, r2, r3⟩ := hR
  have htt := tt_le sl lim l i
  have hwi := hw i hi
  rw [sg_X8_equations_105, if_neg (show ¬ (5 : Int32) ≤ nI i from n_nle (a := i) (b := 5) hi (by decide)), h3, Option.bind_some, h2, Option.bind_some, tt_eq hsl (by omega) (by omega) (by omega), in1]
  by_cases hto : lim ≤ tt sl lim l i
  · rw [if_pos (n_le (a := lim) (b := tt sl lim l i) hto (by omega))]
    refine ⟨L (96 + l), some (nI (tt sl lim l i)), by rw [fu_id]; rfl, ?_⟩
    have e : yf wt (tt sl lim l) lim (yb l aw aw) (i + 1) = yf wt (tt sl lim l) lim (yb l aw aw) i := by rw [yf, if_neg (show ¬ tt sl lim l i < lim by omega)]
    rw [e]
    exact ⟨r1, r2, r3⟩
  rw [if_neg (n_nle (a := tt sl lim l i) (b := lim) (by omega) (by omega)), ld96 (by omega), Option.bind_some, ldL_d (by omega) (by omega), Option.bind_some, show (180 : Int32) + nI i = nI (180 + i) by rw [show (180 : Int32) = nI 180 from rfl, nI_add], hwl i hi, Option.bind_some, stL_n (by omega) (by omega), Option.bind_some]
  have hv := r2 (tt sl lim l i) (Nat.zero_le _) (by omega)
  have hle := yf_le (wt := wt) (to := tt sl lim l) (lim := lim) (f := yb l aw aw) (tt sl lim l i) i
  have hge := yf_ge (wt := wt) (to := tt sl lim l) (lim := lim) (f := yb l aw aw) (tt sl lim l i) i
  have hsw : sw wt i ≤ 25 := by
    have g0 := hw 0 (by omega)
    have g1 := hw 1 (by omega)
    have g2 := hw 2 (by omega)
    have g3 := hw 3 (by omega)
    have : i = 0 ∨ i = 1 ∨ i = 2 ∨ i = 3 ∨ i = 4 := by omega
    rcases this with rfl | rfl | rfl | rfl | rfl <;> simp only [sw] <;> omega
  have hyb : 0 ≤ yb l (aw : Int) aw (tt sl lim l i) ∧ yb l (aw : Int) aw (tt sl lim l i) ≤ 25 := by
    unfold yb
    repeat' split
    all_goals omega
  have hsub : ((L (96 + l)).getD (tt sl lim l i) 0 - (nI (wt i)).toInt64).toInt = yf wt (tt sl lim l) lim (yb l aw aw) i (tt sl lim l i) - (wt i : Int) := by
    rw [l_sub (by rw [hv, l_nI (by omega)]; omega) (by rw [hv, l_nI (by omega)]; omega), hv, l_nI (by omega)]
  refine ⟨(L (96 + l)).set (tt sl lim l i) ((L (96 + l)).getD (tt sl lim l i) 0 - (nI (wt i)).toInt64), some (nI (tt sl lim l i)), rfl, by rw [List.length_set]; exact r1, fun c q1 q2 => ?_, ?_⟩
  · rw [getD_set (by omega), yf, if_pos (show tt sl lim l i < lim by omega)]
    by_cases e : c = tt sl lim l i
    · rw [if_pos e, e, hsub, fu_s]
    · rw [if_neg e, fu_n _ _ e]
      exact r2 c q1 q2
  · rw [getD_set (by omega), if_neg (by omega), r3, yf_7 hlim, yf_7 hlim]
theorem eq_105 {wt : Nat → Nat} {sl lim l k aw : Nat} {m : Int32} (hsl : sl ≤ 5) (hlim : lim ≤ 6) (hl : l < lim) (haw : aw ≤ 25) (h3 : ldI (A 85) (45 * nI k + 3) = some (nI lim)) (h2 : ldI (A 85) (45 * nI k + 2) = some (nI sl)) (hwl : ∀ i, i < 5 → ldI (A 85) (nI (180 + i)) = some (nI (wt i))) (hw : ∀ i, i < 5 → wt i ≤ 5) : ∀ (d i : Nat) (L : Nat → List Int64) (o6 : Option Int32), i + d = 5 → Rq lim 0 (yf wt (tt sl lim l) lim (yb l aw aw) i) (L (96 + l)) →
    ∃ (X : List Int64) (o6' : Option Int32), mm_run G0 160 105 [some (.ref 84), some (.int (nI k)), some (.int m), some (.int (nI lim)), some (.int (nI l)), some (.int (nI i)), (o6.map Value.int)] [] (HP I A L F E) = mm_run G0 160 15 [some (.ref 84), some (.int (nI k)), some (.int m), some (.int (nI lim)), some (.int (nI (l + 1))), some (.int 5), (o6'.map Value.int)] [] (HP I A (fu L (96 + l) X) F E) ∧ Rq lim 0 (yf wt (tt sl lim l) lim (yb l aw aw) 5) X
  | 0, i, L, o6, hi, hR => by
    obtain rfl : i = 5 := by omega
    refine ⟨L (96 + l), o6, ?_, hR⟩
    rw [sg_X8_equations_105, if_pos (by decide), in1, fu_id]
    rfl
  | d + 1, i, L, o6, hi, hR => by
    obtain ⟨X, o5, y1, y2⟩ := eq_1 (F := F) (E := E) (o6 := o6) (m := m) hsl hlim hl haw h3 h2 hwl hw (i := i) (by omega) hR
    obtain ⟨X2, o7, z1, z2⟩ := eq_105 hsl hlim hl haw h3 h2 hwl hw d (i + 1) (fu L (96 + l) X) o5 (by omega) (by rw [fu_s]; exact y2)
    rw [fu_fu] at z1
    exact ⟨X2, o7, y1.trans z1, z2⟩
theorem eq_24 {wt : Nat → Nat} {sl lim l k aw m : Nat} (hsl : sl ≤ 5) (hlim : lim ≤ 6) (hl : l < lim) (haw : aw ≤ 25) (hm : m < 128) (h3 : ldI (A 85) (45 * nI k + 3) = some (nI lim)) (h2 : ldI (A 85) (45 * nI k + 2) = some (nI sl)) (hwl : ∀ i, i < 5 → ldI (A 85) (nI (180 + i)) = some (nI (wt i))) (hw : ∀ i, i < 5 → wt i ≤ 5) (hsum : 0 + nI (wt 0) + nI (wt 1) + nI (wt 2) + nI (wt 3) + nI (wt 4) = nI aw) : ∀ (d j : Nat) (L : Nat → List Int64) (o6 : Option Int32), j + d = lim + 1 → (L (96 + l)).length = 7 → (∀ c, c < j → (L (96 + l)).getD c 0 = 0) →
    ∃ (X : List Int64) (o5' o6' : Option Int32), mm_run G0 160 24 [some (.ref 84), some (.int (nI k)), some (.int (nI m)), some (.int (nI lim)), some (.int (nI l)), some (.int (nI j)), (o6.map Value.int)] [] (HP I A L F E) = mm_run G0 160 15 [some (.ref 84), some (.int (nI k)), some (.int (nI m)), some (.int (nI lim)), some (.int (nI (l + 1))), (o5'.map Value.int), (o6'.map Value.int)] [] (HP I A (fu L (96 + l) X) F E) ∧ Rq lim 0 (yy wt sl lim aw (fun l => m.testBit l) l) X
  | 0, j, L, o6, hj, hlen, hz => by
    obtain rfl : j = lim + 1 := by omega
    have ea : (nI aw).toInt64.toInt = (aw : Int) := l_nI (by omega)
    have w0 : ldI (A 85) 180 = some (nI (wt 0)) := hwl 0 (by decide)
    have w1 : ldI (A 85) 181 = some (nI (wt 1)) := hwl 1 (by decide)
    have w2 : ldI (A 85) 182 = some (nI (wt 2)) := hwl 2 (by decide)
    have w3 : ldI (A 85) 183 = some (nI (wt 3)) := hwl 3 (by decide)
    have w4 : ldI (A 85) 184 = some (nI (wt 4)) := hwl 4 (by decide)
    rw [sg_X8_equations_24, if_pos (nI_lt (a := lim) (b := lim + 1) (by omega) (by omega)), ld96 (by omega), Option.bind_some, bt m hm l (by omega)]
    by_cases e : m.testBit l = true
    · rw [if_pos e, if_neg (fun q => q rfl), w0, Option.bind_some, w1, Option.bind_some, w2, Option.bind_some, w3, Option.bind_some, w4, Option.bind_some, hsum, stL_n (by omega) (by omega), Option.bind_some, if_pos (by decide), Option.bind_some, Option.bind_some, Option.bind_some, Option.bind_some, Option.bind_some, Option.bind_some, hsum, fu_s, stL_n (by rw [List.length_set]; omega) (by rw [List.length_set]; omega), Option.bind_some, fu_fu]
      obtain ⟨X, p6, x1, x2⟩ := eq_105 (I := I) (A := A) (F := F) (E := E) (m := nI m) hsl hlim hl haw h3 h2 hwl hw 5 0 (fu L (96 + l) (((L (96 + l)).set l (nI aw).toInt64).set lim (nI aw).toInt64)) o6 (by omega) (by
        rw [fu_s]
        refine ⟨by rw [List.length_set, List.length_set]; exact hlen, fun c _ hc => ?_, ?_⟩
        · rw [getD_set (by rw [List.length_set]; omega), if_neg (by omega), getD_set (by omega)]
          show _ = yb l aw aw c
          unfold yb
          by_cases e : c = l
          · rw [if_pos e, if_pos e, ea]
          · rw [if_neg e, if_neg e, if_neg (by omega), hz c (by omega)]
            rfl
        · rw [getD_set (by rw [List.length_set]; omega), if_pos rfl, ea]
          show _ = yb l aw aw 7
          unfold yb
          rw [if_neg (by omega), if_pos rfl])
      rw [fu_fu] at x1
      refine ⟨X, some 5, p6, x1, ?_⟩
      unfold yy
      rw [if_pos e]
      exact x2
    · rw [if_neg e, if_pos (by decide), stL_n (by omega) (by omega), Option.bind_some, if_neg (fun q => q rfl), in1]
      refine ⟨(L (96 + l)).set l 1, some (nI (lim + 1)), o6, rfl, by rw [List.length_set]; exact hlen, fun c _ hc => ?_, ?_⟩
      · unfold yy
        rw [if_neg e, getD_set (by omega)]
        unfold yb
        by_cases e2 : c = l
        · rw [if_pos e2, if_pos e2]
          rfl
        · rw [if_neg e2, if_neg e2, if_neg (by omega), hz c (by omega)]
          rfl
      · unfold yy
        rw [if_neg e, getD_set (by omega), if_neg (by omega), hz lim (by omega)]
        unfold yb
        rw [if_neg (by omega), if_pos rfl]
        rfl
  | d + 1, j, L, o6, hj, hlen, hz => by
    obtain ⟨X, p5, p6, x1, x2⟩ := eq_24 hsl hlim hl haw hm h3 h2 hwl hw hsum d (j + 1) (fu L (96 + l) ((L (96 + l)).set j 0)) o6 (by omega) (by rw [fu_s, List.length_set]; exact hlen) (fun c hc => by
      rw [fu_s, getD_set (by omega)]
      by_cases e : c = j
      · rw [if_pos e]
      · rw [if_neg e]
        exact hz c (by omega))
    refine ⟨X, p5, p6, ?_, x2⟩
    rw [fu_fu] at x1
    rw [sg_X8_equations_24, if_neg (nI_nlt (a := lim) (b := j) (by omega) (by omega)), ld96 (by omega), Option.bind_some, stL_n (by omega) (by omega), Option.bind_some, in1]
    exact x1
theorem eq_15 {wt : Nat → Nat} {sl lim k aw m : Nat} (hsl : sl ≤ 5) (hlim : lim ≤ 6) (haw : aw ≤ 25) (hm : m < 128) (h3 : ldI (A 85) (45 * nI k + 3) = some (nI lim)) (h2 : ldI (A 85) (45 * nI k + 2) = some (nI sl)) (hwl : ∀ i, i < 5 → ldI (A 85) (nI (180 + i)) = some (nI (wt i))) (hw : ∀ i, i < 5 → wt i ≤ 5) (hsum : 0 + nI (wt 0) + nI (wt 1) + nI (wt 2) + nI (wt 3) + nI (wt 4) = nI aw) : ∀ (d l : Nat) (L : Nat → List Int64) (o5 o6 : Option Int32), l + d = lim → (∀ x, x < 6 → (L (96 + x)).length = 7) → (∀ q, q < l → Rq lim 0 (yy wt sl lim aw (fun l => m.testBit l) q) (L (96 + q))) →
    ∃ (L' : Nat → List Int64), mm_run G0 160 15 [some (.ref 84), some (.int (nI k)), some (.int (nI m)), some (.int (nI lim)), some (.int (nI l)), (o5.map Value.int), (o6.map Value.int)] [] (HP I A L F E) = some (none, HP I A L' F E) ∧ (∀ q, q < lim → Rq lim 0 (yy wt sl lim aw (fun l => m.testBit l) q) (L' (96 + q))) ∧ (∀ x, x < 6 → (L' (96 + x)).length = 7) ∧ ∀ a, (∀ q, q < 6 → a ≠ 96 + q) → L' a = L a
  | 0, l, L, o5, o6, hl, hlen, hq => by
    obtain rfl : l = lim := by omega
    exact ⟨L, by rw [sg_X8_equations_15, if_pos (n_le (a := l) (b := l) (by omega) (by omega))], hq, hlen, fun _ _ => rfl⟩
  | d + 1, l, L, o5, o6, hl, hlen, hq => by
    obtain ⟨X, p5, p6, x1, x2⟩ := eq_24 (I := I) (A := A) (F := F) (E := E) hsl hlim (show l < lim by omega) haw hm h3 h2 hwl hw hsum (lim + 1) 0 L o6 (by omega) (hlen l (by omega)) (fun j hj => absurd hj (Nat.not_lt_zero _))
    obtain ⟨L', z1, z2, z3, z4⟩ := eq_15 hsl hlim haw hm h3 h2 hwl hw hsum d (l + 1) (fu L (96 + l) X) p5 p6 (by omega) (fun x hx => by
      by_cases e : x = l
      · rw [e, fu_s]; exact x2.1
      · rw [fu_n _ _ (by omega)]; exact hlen x hx) (fun q hq2 => by
      by_cases e : q = l
      · rw [e, fu_s]; exact x2
      · rw [fu_n _ _ (by omega)]; exact hq q (by omega))
    refine ⟨L', ?_, z2, z3, fun a ha => by rw [z4 a ha, fu_n _ _ (ha l (by omega))]⟩
    rw [sg_X8_equations_15, if_neg (n_nle (a := l) (b := lim) (by omega) (by omega))]
    exact (x1 : _ = _).trans z1
end EQU
