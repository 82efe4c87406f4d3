/-! charts: what sums and alarms are, apart from any heap -/
/-- up, down, how many alarms, ahead of place i -/
def ch (o : Nat → Int32) (sl lm st : Int32) (on : Bool) : Nat → Int32 × Int32 × Nat
  | 0 => (st, st, 0)
  | i + 1 => if on = true ∧ 0 < (ch o sl lm st on i).2.2 then (0, 0, (ch o sl lm st on i).2.2)
    else if imax 0 ((ch o sl lm st on i).1 + o i - sl) < lm ∧ imax 0 ((ch o sl lm st on i).2.1 - o i - sl) < lm then (imax 0 ((ch o sl lm st on i).1 + o i - sl), imax 0 ((ch o sl lm st on i).2.1 - o i - sl), (ch o sl lm st on i).2.2)
    else (st, st, (ch o sl lm st on i).2.2 + 1)
def ch_F (o : Nat → Int32) (sl lm st : Int32) (on : Bool) (i : Nat) : Prop := ¬ (on = true ∧ 0 < (ch o sl lm st on i).2.2) ∧ ¬ (imax 0 ((ch o sl lm st on i).1 + o i - sl) < lm ∧ imax 0 ((ch o sl lm st on i).2.1 - o i - sl) < lm)
def Rc (o : Nat → Int32) (sl lm st : Int32) (on : Bool) (U D P S Z : List Int32) (n : Nat) : Prop := ∀ i, i < n → U.getD i 0 = (ch o sl lm st on (i + 1)).1 ∧ D.getD i 0 = (ch o sl lm st on (i + 1)).2.1 ∧ (ch_F o sl lm st on i → P.getD (ch o sl lm st on i).2.2 0 = nI i ∧ S.getD (ch o sl lm st on i).2.2 0 = (if lm ≤ imax 0 ((ch o sl lm st on i).1 + o i - sl) then 0 else 1) ∧ Z.getD (ch o sl lm st on i).2.2 0 = (if lm ≤ imax 0 ((ch o sl lm st on i).1 + o i - sl) then imax 0 ((ch o sl lm st on i).1 + o i - sl) else imax 0 ((ch o sl lm st on i).2.1 - o i - sl)))
section CHP
variable {o : Nat → Int32} {sl lm st : Int32} {on : Bool}
theorem ch_over {i : Nat} (h : on = true ∧ 0 < (ch o sl lm st on i).2.2) : ch o sl lm st on (i + 1) = (0, 0, (ch o sl lm st on i).2.2) := by
  show (if _ then _ else _) = _
  rw [if_pos h]
theorem ch_quiet {i : Nat} (h : ¬ (on = true ∧ 0 < (ch o sl lm st on i).2.2)) (h2 : imax 0 ((ch o sl lm st on i).1 + o i - sl) < lm ∧ imax 0 ((ch o sl lm st on i).2.1 - o i - sl) < lm) : ch o sl lm st on (i + 1) = (imax 0 ((ch o sl lm st on i).1 + o i - sl), imax 0 ((ch o sl lm st on i).2.1 - o i - sl), (ch o sl lm st on i).2.2) := by
  show (if _ then _ else if _ then _ else _) = _
  rw [if_neg h, if_pos h2]
theorem ch_fire {i : Nat} (h : ch_F o sl lm st on i) : ch o sl lm st on (i + 1) = (st, st, (ch o sl lm st on i).2.2 + 1) := by
  show (if _ then _ else if _ then _ else _) = _
  rw [if_neg h.1, if_neg h.2]
theorem ch_cases (i : Nat) : (ch_F o sl lm st on i ∧ (ch o sl lm st on (i + 1)).2.2 = (ch o sl lm st on i).2.2 + 1) ∨ (¬ ch_F o sl lm st on i ∧ (ch o sl lm st on (i + 1)).2.2 = (ch o sl lm st on i).2.2) := by
  by_cases h : on = true ∧ 0 < (ch o sl lm st on i).2.2
  · exact Or.inr ⟨fun q => q.1 h, by rw [ch_over h]⟩
  · by_cases h2 : imax 0 ((ch o sl lm st on i).1 + o i - sl) < lm ∧ imax 0 ((ch o sl lm st on i).2.1 - o i - sl) < lm
    · exact Or.inr ⟨fun q => q.2 h2, by rw [ch_quiet h h2]⟩
    · exact Or.inl ⟨⟨h, h2⟩, by rw [ch_fire ⟨h, h2⟩]⟩
theorem ch_le : ∀ n, (ch o sl lm st on n).2.2 ≤ n
  | 0 => Nat.le_refl 0
  | n + 1 => by
    have h := ch_le n
    rcases ch_cases (o := o) (sl := sl) (lm := lm) (st := st) (on := on) n with q | q <;> omega
theorem ch_mono {i : Nat} : ∀ d, (ch o sl lm st on i).2.2 ≤ (ch o sl lm st on (i + d)).2.2
  | 0 => Nat.le_refl _
  | d + 1 => by
    have h := ch_mono (i := i) d
    rcases ch_cases (o := o) (sl := sl) (lm := lm) (st := st) (on := on) (i + d) with q | q
    · rw [show i + (d + 1) = i + d + 1 by omega]
      omega
    · rw [show i + (d + 1) = i + d + 1 by omega]
      omega
theorem ch_lt {i j : Nat} (h : ch_F o sl lm st on j) (hj : j < i) : (ch o sl lm st on j).2.2 < (ch o sl lm st on i).2.2 := by
  have h1 := ch_mono (o := o) (sl := sl) (lm := lm) (st := st) (on := on) (i := j + 1) (i - (j + 1))
  rw [show j + 1 + (i - (j + 1)) = i by omega, ch_fire h] at h1
  exact h1
theorem ch_surj {k : Nat} (n : Nat) (h : k < (ch o sl lm st on n).2.2) : ∃ i, i < n ∧ ch_F o sl lm st on i ∧ (ch o sl lm st on i).2.2 = k := by
  induction n with
  | zero => exact absurd h (Nat.not_lt_zero _)
  | succ n ih =>
    rcases ch_cases (o := o) (sl := sl) (lm := lm) (st := st) (on := on) n with q | q
    · by_cases e : k = (ch o sl lm st on n).2.2
      · exact ⟨n, by omega, q.1, e.symm⟩
      · obtain ⟨i, h1, h2⟩ := ih (by omega)
        exact ⟨i, by omega, h2⟩
    · obtain ⟨i, h1, h2⟩ := ih (by omega)
      exact ⟨i, by omega, h2⟩
theorem ch_zero (h0 : on = true) (hz : st = 0) : ∀ i, 0 < (ch o sl lm st on i).2.2 → (ch o sl lm st on i).1 = 0 ∧ (ch o sl lm st on i).2.1 = 0
  | 0, h => absurd h (Nat.lt_irrefl _)
  | i + 1, h => by
    by_cases h1 : on = true ∧ 0 < (ch o sl lm st on i).2.2
    · rw [ch_over h1]
      exact ⟨rfl, rfl⟩
    · rcases ch_cases (o := o) (sl := sl) (lm := lm) (st := st) (on := on) i with q | q
      · rw [ch_fire q.1]
        exact ⟨hz, hz⟩
      · exact absurd ⟨h0, by omega⟩ h1
theorem Rc.quiet {U D P S Z : List Int32} {i : Nat} (h : Rc o sl lm st on U D P S Z i) (hF : ¬ ch_F o sl lm st on i) (hU : i < U.length) (hD : i < D.length) {x y : Int32} (hx : x = (ch o sl lm st on (i + 1)).1) (hy : y = (ch o sl lm st on (i + 1)).2.1) : Rc o sl lm st on (U.set i x) (D.set i y) P S Z (i + 1) := by
  intro j hj
  rw [getD_set hU, getD_set hD]
  by_cases e : j = i
  · subst e
    rw [if_pos rfl, if_pos rfl]
    exact ⟨hx, hy, fun q => absurd q hF⟩
  · rw [if_neg e, if_neg e]
    exact h j (by omega)
theorem Rc.fire {U D P S Z : List Int32} {i : Nat} (h : Rc o sl lm st on U D P S Z i) (hF : ch_F o sl lm st on i) (hU : i < U.length) (hD : i < D.length) (hP : i < P.length) (hS : i < S.length) (hZ : i < Z.length) {x y s z : Int32} (hx : x = (ch o sl lm st on (i + 1)).1) (hy : y = (ch o sl lm st on (i + 1)).2.1) (hs : s = (if lm ≤ imax 0 ((ch o sl lm st on i).1 + o i - sl) then 0 else 1)) (hz : z = (if lm ≤ imax 0 ((ch o sl lm st on i).1 + o i - sl) then imax 0 ((ch o sl lm st on i).1 + o i - sl) else imax 0 ((ch o sl lm st on i).2.1 - o i - sl))) : Rc o sl lm st on (U.set i x) (D.set i y) (P.set (ch o sl lm st on i).2.2 (nI i)) (S.set (ch o sl lm st on i).2.2 s) (Z.set (ch o sl lm st on i).2.2 z) (i + 1) := by
  have hle := ch_le (o := o) (sl := sl) (lm := lm) (st := st) (on := on) i
  intro j hj
  rw [getD_set hU, getD_set hD, getD_set (by omega), getD_set (by omega), getD_set (by omega)]
  by_cases e : j = i
  · subst e
    simp only [if_true]
    exact ⟨hx, hy, fun _ => ⟨trivial, hs, hz⟩⟩
  · rw [if_neg e, if_neg e]
    have hh := h j (by omega)
    refine ⟨hh.1, hh.2.1, fun q => ?_⟩
    have hlt := ch_lt q (show j < i by omega)
    have hne : ¬ (ch o sl lm st on j).2.2 = (ch o sl lm st on i).2.2 := by omega
    simp only [if_neg hne]
    exact hh.2.2 q
theorem nlt_le {x y : Int32} (h : x ≤ y) : ¬ y < x := by
  rw [i_le] at h
  rw [i_lt]
  omega
theorem nle_lt' {x y : Int32} (h : ¬ x ≤ y) : y < x := by
  rw [i_le] at h
  rw [i_lt]
  omega
theorem ch_FD {i : Nat} (h : ch_F o sl lm st on i) (h1 : ¬ lm ≤ imax 0 ((ch o sl lm st on i).1 + o i - sl)) : lm ≤ imax 0 ((ch o sl lm st on i).2.1 - o i - sl) := by
  by_cases h2 : lm ≤ imax 0 ((ch o sl lm st on i).2.1 - o i - sl)
  · exact h2
  · exact absurd ⟨nle_lt' h1, nle_lt' h2⟩ h.2
end CHP
section CHX
variable {L : Nat → List Int64} {F : Nat → Int64} {E : MH}
/-- the class's chart, along its row of offsets -/
theorem fol_loop {o : Nat → Int32} {sl lm st : Int32} {on : Bool} {n : Nat} (hn : n ≤ 40) : ∀ (d i : Nat) (I : Nat → Int32) (A : Nat → List Int32), i + d = n → Shp A L → I 4800 = sl → I 4801 = lm → I 4802 = st → I 4803 = (if on = true then 1 else 0) → I 4806 = nI (ch o sl lm st on i).2.2 → (∀ j, j < n → (A 71).getD j 0 = o j) → Rc o sl lm st on (A 49) (A 50) (A 51) (A 52) (A 53) i →
    ∃ (I' : Nat → Int32) (A' : Nat → List Int32), mm_run G0 14 14 [some (.ref 48), some (.ref 71), some (.int (nI n)), some (.int (ch o sl lm st on i).1), some (.int (ch o sl lm st on i).2.1), some (.int (nI i))] [] (HP I A L F E) = some (none, HP I' A' L F E) ∧ I' 4806 = nI (ch o sl lm st on n).2.2 ∧ Rc o sl lm st on (A' 49) (A' 50) (A' 51) (A' 52) (A' 53) n ∧ (∀ x, x ≠ 4806 → I' x = I x) ∧ (∀ a, ¬ (49 ≤ a ∧ a ≤ 53) → A' a = A a) ∧ ∀ a, (A' a).length = (A a).length := by
  intro d
  induction d with
  | zero =>
    intro i I A hi hs h0 h1 h2 h3 h6 ho hR
    have e : i = n := by omega
    subst e
    refine ⟨I, A, ?_, h6, hR, fun _ _ => rfl, fun _ _ => rfl, fun _ => rfl⟩
    rw [sg_X1_follow_14, if_pos (n_le (a := i) (b := i) (by omega) (by omega))]
  | succ d ih =>
    intro i I A hi hs h0 h1 h2 h3 h6 ho hR
    have hle := ch_le (o := o) (sl := sl) (lm := lm) (st := st) (on := on) i
    have l49 := hs.i (a := 49) (n := 40) (by decide)
    have l50 := hs.i (a := 50) (n := 40) (by decide)
    have l51 := hs.i (a := 51) (n := 40) (by decide)
    have l52 := hs.i (a := 52) (n := 40) (by decide)
    have l53 := hs.i (a := 53) (n := 40) (by decide)
    have l71 := hs.i (a := 71) (n := 40) (by decide)
    have s49 (x : Int32) : stI (A 49) (nI i) x = some ((A 49).set i x) := stI_n (by omega) (by omega)
    have s50 (x : Int32) : stI (A 50) (nI i) x = some ((A 50).set i x) := stI_n (by omega) (by omega)
    have ex : ldI (A 71) (nI i) = some (o i) := by rw [ldI_d (by omega) (by omega), ho i (by omega)]
    have hni := n_nle (a := i) (b := n) (by omega) (by omega)
    by_cases hov : on = true ∧ 0 < (ch o sl lm st on i).2.2
    · have hF : ¬ ch_F o sl lm st on i := fun q => q.1 hov
      have hc := ch_over hov
      have y := ih (i + 1) I (fu (fu A 49 ((A 49).set i 0)) 50 ((A 50).set i 0)) (by omega) ((hs.fuI (by rw [List.length_set])).fuI (by rw [List.length_set, fu_n _ _ (by decide)])) h0 h1 h2 h3 (by rw [hc]; exact h6) (fun j hj => by rw [fu_n _ _ (by decide), fu_n _ _ (by decide)]; exact ho j hj) (by
        rw [fu_n (k := 50) _ _ (by decide), fu_s, fu_s, fu_n (k := 50) _ _ (by decide), fu_n (k := 49) _ _ (by decide), fu_n (k := 50) _ _ (by decide), fu_n (k := 49) _ _ (by decide), fu_n (k := 50) _ _ (by decide), fu_n (k := 49) _ _ (by decide)]
        exact hR.quiet hF (by omega) (by omega) (by rw [hc]) (by rw [hc]))
      obtain ⟨I', A', x1, x2, x3, x4, x5, x6⟩ := y
      refine ⟨I', A', ?_, x2, x3, x4, fun a ha => by rw [x5 a ha, fu_n _ _ (by omega), fu_n _ _ (by omega)], fun a => ?_⟩
      · rw [sg_X1_follow_14, if_neg hni, if_neg (by rw [h3, if_pos hov.1]; decide), if_neg (by rw [h6]; exact n_nle (a := 0) (b := (ch o sl lm st on i).2.2) hov.2 (by omega)), s49, Option.bind_some, s50, Option.bind_some, in1]
        rw [hc] at x1
        exact x1
      · rw [x6]
        by_cases e1 : a = 50
        · rw [e1, fu_s, List.length_set]
        · rw [fu_n _ _ e1]
          by_cases e2 : a = 49
          · rw [e2, fu_s, List.length_set]
          · rw [fu_n _ _ e2]
    · have hnov : I 4803 = 0 ∨ (¬ I 4803 = 0 ∧ I 4806 ≤ 0) := by
        cases on with
        | false => exact Or.inl h3
        | true =>
          refine Or.inr ⟨by rw [h3]; decide, ?_⟩
          have e : (ch o sl lm st true i).2.2 = 0 := by
            by_cases e : (ch o sl lm st true i).2.2 = 0
            · exact e
            · exact absurd ⟨rfl, by omega⟩ hov
          rw [h6, e]
          decide
      by_cases hq : imax 0 ((ch o sl lm st on i).1 + o i - sl) < lm ∧ imax 0 ((ch o sl lm st on i).2.1 - o i - sl) < lm
      · have hF : ¬ ch_F o sl lm st on i := fun q => q.2 hq
        have hc := ch_quiet hov hq
        have y := ih (i + 1) I (fu (fu A 49 ((A 49).set i (imax 0 ((ch o sl lm st on i).1 + o i - sl)))) 50 ((A 50).set i (imax 0 ((ch o sl lm st on i).2.1 - o i - sl)))) (by omega) ((hs.fuI (by rw [List.length_set])).fuI (by rw [List.length_set, fu_n _ _ (by decide)])) h0 h1 h2 h3 (by rw [hc]; exact h6) (fun j hj => by rw [fu_n _ _ (by decide), fu_n _ _ (by decide)]; exact ho j hj) (by
          rw [fu_n (k := 50) _ _ (by decide), fu_s, fu_s, fu_n (k := 50) _ _ (by decide), fu_n (k := 49) _ _ (by decide), fu_n (k := 50) _ _ (by decide), fu_n (k := 49) _ _ (by decide), fu_n (k := 50) _ _ (by decide), fu_n (k := 49) _ _ (by decide)]
          exact hR.quiet hF (by omega) (by omega) (by rw [hc]) (by rw [hc]))
        obtain ⟨I', A', x1, x2, x3, x4, x5, x6⟩ := y
        refine ⟨I', A', ?_, x2, x3, x4, fun a ha => by rw [x5 a ha, fu_n _ _ (by omega), fu_n _ _ (by omega)], fun a => ?_⟩
        · have a1 : ¬ lm ≤ imax 0 ((ch o sl lm st on i).1 + o i - sl) := fun q => nlt_le q hq.1
          have a2 : ¬ lm ≤ imax 0 ((ch o sl lm st on i).2.1 - o i - sl) := fun q => nlt_le q hq.2
          rw [hc] at x1
          rw [sg_X1_follow_14, if_neg hni]
          rcases hnov with q | q
          · rw [if_pos q]
            simp only [ex, Option.bind_some, h0, h1, if_neg a1, if_neg a2, s49, s50, in1]
            exact x1
          · rw [if_neg q.1, if_pos q.2]
            simp only [ex, Option.bind_some, h0, h1, if_neg a1, if_neg a2, s49, s50, in1]
            exact x1
        · rw [x6]
          by_cases e1 : a = 50
          · rw [e1, fu_s, List.length_set]
          · rw [fu_n _ _ e1]
            by_cases e2 : a = 49
            · rw [e2, fu_s, List.length_set]
            · rw [fu_n _ _ e2]
      · have hF : ch_F o sl lm st on i := ⟨hov, hq⟩
        have hc := ch_fire hF
        obtain ⟨f, hf⟩ : ∃ f, (ch o sl lm st on i).2.2 = f := ⟨_, rfl⟩
        rw [hf] at h6 hle hc
        have s51 (x : Int32) : stI (A 51) (nI f) x = some ((A 51).set f x) := stI_n (by omega) (by omega)
        have s52 (x : Int32) : stI (A 52) (nI f) x = some ((A 52).set f x) := stI_n (by omega) (by omega)
        have s53 (x : Int32) : stI (A 53) (nI f) x = some ((A 53).set f x) := stI_n (by omega) (by omega)
        have el : ∀ (X51 X52 X53 X49 X50 : List Int32), X51.length = 40 → X52.length = 40 → X53.length = 40 → X49.length = 40 → X50.length = 40 → ∀ a, ((fu (fu (fu (fu (fu A 51 X51) 52 X52) 53 X53) 49 X49) 50 X50) a).length = (A a).length := fun X51 X52 X53 X49 X50 g1 g2 g3 g4 g5 a => by
          by_cases e1 : a = 50
          · rw [e1, fu_s]
            omega
          · rw [fu_n _ _ e1]
            by_cases e2 : a = 49
            · rw [e2, fu_s]
              omega
            · rw [fu_n _ _ e2]
              by_cases e3 : a = 53
              · rw [e3, fu_s]
                omega
              · rw [fu_n _ _ e3]
                by_cases e4 : a = 52
                · rw [e4, fu_s]
                  omega
                · rw [fu_n _ _ e4]
                  by_cases e5 : a = 51
                  · rw [e5, fu_s]
                    omega
                  · rw [fu_n _ _ e5]
        have key : ∀ s z : Int32, s = (if lm ≤ imax 0 ((ch o sl lm st on i).1 + o i - sl) then 0 else 1) → z = (if lm ≤ imax 0 ((ch o sl lm st on i).1 + o i - sl) then imax 0 ((ch o sl lm st on i).1 + o i - sl) else imax 0 ((ch o sl lm st on i).2.1 - o i - sl)) → ∃ (I' : Nat → Int32) (A' : Nat → List Int32), mm_run G0 14 14 [some (.ref 48), some (.ref 71), some (.int (nI n)), some (.int st), some (.int st), some (.int (nI (i + 1)))] [] (HP (fu I 4806 (nI (f + 1))) (fu (fu (fu (fu (fu A 51 ((A 51).set f (nI i))) 52 ((A 52).set f s)) 53 ((A 53).set f z)) 49 ((A 49).set i st)) 50 ((A 50).set i st)) L F E) = some (none, HP I' A' L F E) ∧ I' 4806 = nI (ch o sl lm st on n).2.2 ∧ Rc o sl lm st on (A' 49) (A' 50) (A' 51) (A' 52) (A' 53) n ∧ (∀ x, x ≠ 4806 → I' x = I x) ∧ (∀ a, ¬ (49 ≤ a ∧ a ≤ 53) → A' a = A a) ∧ ∀ a, (A' a).length = (A a).length := by
          intro s z hsd hzd
          have el' := el ((A 51).set f (nI i)) ((A 52).set f s) ((A 53).set f z) ((A 49).set i st) ((A 50).set i st) (by rw [List.length_set]; omega) (by rw [List.length_set]; omega) (by rw [List.length_set]; omega) (by rw [List.length_set]; omega) (by rw [List.length_set]; omega)
          have y := ih (i + 1) (fu I 4806 (nI (f + 1))) (fu (fu (fu (fu (fu A 51 ((A 51).set f (nI i))) 52 ((A 52).set f s)) 53 ((A 53).set f z)) 49 ((A 49).set i st)) 50 ((A 50).set i st)) (by omega) (hs.cg el') (by rw [fu_n _ _ (by decide)]; exact h0) (by rw [fu_n _ _ (by decide)]; exact h1) (by rw [fu_n _ _ (by decide)]; exact h2) (by rw [fu_n _ _ (by decide)]; exact h3) (by rw [hc, fu_s]) (fun j hj => by simp (disch := decide) only [fu_n]; exact ho j hj) (by
            simp (disch := decide) only [fu_n, fu_s]
            have hh := hR.fire hF (by omega) (by omega) (by omega) (by omega) (by omega) (x := st) (y := st) (by rw [hc]) (by rw [hc]) hsd hzd
            rw [hf] at hh
            exact hh)
          obtain ⟨I', A', x1, x2, x3, x4, x5, x6⟩ := y
          rw [hc] at x1
          exact ⟨I', A', x1, x2, x3, fun x hx => by rw [x4 x hx, fu_n _ _ hx], fun a ha => by rw [x5 a ha]; simp (disch := omega) only [fu_n], fun a => (x6 a).trans (el' a)⟩
        have hi1 : nI i + 1 = nI (i + 1) := in1 i
        have hf1 : nI f + 1 = nI (f + 1) := in1 f
        by_cases a1 : lm ≤ imax 0 ((ch o sl lm st on i).1 + o i - sl)
        · have a1' := nlt_le a1
          obtain ⟨I', A', x1, xr⟩ := key 0 (imax 0 ((ch o sl lm st on i).1 + o i - sl)) (by rw [if_pos a1]) (by rw [if_pos a1])
          refine ⟨I', A', ?_, xr⟩
          rw [sg_X1_follow_14, if_neg hni]
          rcases hnov with q | q
          · rw [if_pos q]
            simp only [ex, Option.bind_some, h0, h1, h2, h6, if_pos a1, if_neg a1', s49, s50, s51, s52, s53, hi1, hf1]
            exact x1
          · rw [if_neg q.1, if_pos q.2]
            simp only [ex, Option.bind_some, h0, h1, h2, h6, if_pos a1, if_neg a1', s49, s50, s51, s52, s53, hi1, hf1]
            exact x1
        · have a1' := nle_lt' a1
          have a2 := ch_FD hF a1
          obtain ⟨I', A', x1, xr⟩ := key 1 (imax 0 ((ch o sl lm st on i).2.1 - o i - sl)) (by rw [if_neg a1]) (by rw [if_neg a1])
          refine ⟨I', A', ?_, xr⟩
          rw [sg_X1_follow_14, if_neg hni]
          rcases hnov with q | q
          · rw [if_pos q]
            simp only [ex, Option.bind_some, h0, h1, h2, h6, if_neg a1, if_pos a1', if_pos a2, s49, s50, s51, s52, s53, hi1, hf1]
            exact x1
          · rw [if_neg q.1, if_pos q.2]
            simp only [ex, Option.bind_some, h0, h1, h2, h6, if_neg a1, if_pos a1', if_pos a2, s49, s50, s51, s52, s53, hi1, hf1]
            exact x1
end CHX
