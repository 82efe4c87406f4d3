/-! charts: the class's draw, the reference's goesThrough -/
/-- a stream object is a picture of a row of numbers -/
def Rst (I : Nat → Int32) (A : Nat → List Int32) (b : Nat) (g : Nat → Int32) : Prop := (∀ k, k < 5 → I (100 * b + k) = g k) ∧ ∀ n p, g 4 = nI n → n ≤ 40 → p < n → (A (b + 1)).getD p 0 = g (5 + p)
def gof (g : Nat → Int32) (i : Nat) : Int32 := ofv (g 0) (g (5 + i) - g 1)
/-- what the class's chart holds, what the reference's holds -/
def Dr (I : Nat → Int32) (A : Nat → List Int32) (o : Nat → Int32) (sl lm st : Int32) (on : Bool) (n : Nat) : Prop := I 4806 = nI (ch o sl lm st on n).2.2 ∧ Rc o sl lm st on (A 49) (A 50) (A 51) (A 52) (A 53) n
def Mr (I : Nat → Int32) (A : Nat → List Int32) (o : Nat → Int32) (sl lm st : Int32) (on : Bool) (n : Nat) : Prop := I 8415 = nI (ch o sl lm st on n).2.2 ∧ Rc o sl lm st on (A 90) (A 91) (A 92) (A 93) (A 94) n
section CHD
variable {I : Nat → Int32} {A : Nat → List Int32} {L : Nat → List Int64} {F : Nat → Int64} {E : MH}
theorem Shp.vals (h : Shp A L) {b : Nat} (hb : isS b) : (A (b + 1)).length = 40 := by
  rcases hb with rfl | rfl | rfl | rfl | rfl | rfl | rfl | rfl | rfl <;> exact h.i (by decide)
theorem on_int {k : Int32} : (if decide (k = 4) = true then (1 : Int32) else 0) = if k = 4 then 1 else 0 := by
  by_cases h : k = 4
  · rw [if_pos h, if_pos (decide_eq_true h)]
  · rw [if_neg h, if_neg (fun q => h (of_decide_eq_true q))]
/-- the class's chart drawn over offsets that lie in their row -/
theorem follow_ok {o : Nat → Int32} {sl lm st : Int32} {on : Bool} {n : Nat} (hn : n ≤ 40) (hs : Shp A L) (h0 : I 4800 = sl) (h1 : I 4801 = lm) (h2 : I 4802 = st) (h3 : I 4803 = (if on = true then 1 else 0)) (h6 : I 4806 = 0) (ho : ∀ j, j < n → (A 71).getD j 0 = o j) : ∃ (I' : Nat → Int32) (A' : Nat → List Int32), mm_call G0 14 [.ref 48, .ref 71, .int (nI n)] (HP I A L F E) = some (none, HP I' A' L F E) ∧ Dr I' A' o sl lm st on n ∧ (∀ x, x ≠ 4806 → I' x = I x) ∧ (∀ a, ¬ (49 ≤ a ∧ a ≤ 53) → A' a = A a) ∧ ∀ a, (A' a).length = (A a).length := by
  obtain ⟨I', A', x1, x2, x3, x4, x5, x6⟩ := fol_loop (o := o) (sl := sl) (lm := lm) (st := st) (on := on) (F := F) (E := E) hn n 0 I A (by omega) hs h0 h1 h2 h3 h6 ho (fun i hi => absurd hi (Nat.not_lt_zero _))
  refine ⟨I', A', ?_, ⟨x2, x3⟩, x4, x5, x6⟩
  rw [sg_X1_follow_0, h2]
  exact x1
theorem off_fill {b : Nat} (hb : isS b) {g : Nat → Int32} {n : Nat} (hn : n ≤ 40) (hg : g 4 = nI n) (sl lm : Int32) : ∀ (d i : Nat) (A : Nat → List Int32), i + d = n → Rst I A b g → Shp A L → (∀ j, j < i → (A 71).getD j 0 = gof g j) → ∃ A' : Nat → List Int32, mm_run G0 106 3 [some (.ref 1), some (.ref b), some (.int sl), some (.int lm), some (.int (nI i))] [] (HP I A L F E) = mm_run G0 106 3 [some (.ref 1), some (.ref b), some (.int sl), some (.int lm), some (.int (nI n))] [] (HP I A' L F E) ∧ (∀ j, j < n → (A' 71).getD j 0 = gof g j) ∧ (∀ a, a ≠ 71 → A' a = A a) ∧ ∀ a, (A' a).length = (A a).length := by
  intro d
  induction d with
  | zero =>
    intro i A hi hR hs hv
    have e : i = n := by omega
    subst e
    exact ⟨A, rfl, hv, fun _ _ => rfl, fun _ => rfl⟩
  | succ d ih =>
    intro i A hi hR hs hv
    have l71 := hs.i (a := 71) (n := 40) (by decide)
    have lb := hs.vals hb
    have hbn : b + 1 ≠ 71 := by rcases hb with rfl | rfl | rfl | rfl | rfl | rfl | rfl | rfl | rfl <;> decide
    have f0 : I (100 * b + 0) = g 0 := hR.1 0 (by decide)
    have f1 : I (100 * b + 1) = g 1 := hR.1 1 (by decide)
    have f4 : I (100 * b + 4) = g 4 := hR.1 4 (by decide)
    have hx : ldI (A (b + 1)) (nI i) = some (g (5 + i)) := by rw [ldI_d (by omega) (by omega), hR.2 n i hg hn (by omega)]
    obtain ⟨A', x1, x2, x3, x4⟩ := ih (i + 1) (fu A 71 ((A 71).set i (ofv (g 0) (g (5 + i) - g 1)))) (by omega) ⟨hR.1, fun m p q1 q2 q3 => by rw [fu_n _ _ hbn]; exact hR.2 m p q1 q2 q3⟩ (hs.fuI (by rw [List.length_set])) (fun j hj => by
      rw [fu_s, getD_set (by omega)]
      by_cases e : j = i
      · rw [if_pos e, e]
        rfl
      · rw [if_neg e]
        exact hv j (by omega))
    refine ⟨A', ?_, x2, fun a ha => by rw [x3 a ha, fu_n _ _ ha], fun a => ?_⟩
    · rw [← x1, sg_X7_draw_3 hb, f4, hg, if_neg (n_nle (a := i) (b := n) (by omega) (by omega)), hx, Option.bind_some, stI_n (by omega) (by omega), Option.bind_some, in1, f0, f1]
    · rw [x4]
      by_cases e : a = 71
      · rw [e, fu_s, List.length_set]
      · rw [fu_n _ _ e]
theorem draw_ok {b n : Nat} (hb : isS b) {g : Nat → Int32} (hR : Rst I A b g) (hn : n ≤ 40) (hg : g 4 = nI n) (hs : Shp A L) (sl lm : Int32) : ∃ (I' : Nat → Int32) (A' : Nat → List Int32), mm_call G0 106 [.ref 1, .ref b, .int sl, .int lm] (HP I A L F E) = some (none, HP I' A' L F E) ∧ Dr I' A' (gof g) sl lm (sby (g 0) lm) (decide (g 0 = 4)) n ∧ (∀ x, ¬ (4800 ≤ x ∧ x < 4807) → I' x = I x) ∧ (∀ a, ¬ (49 ≤ a ∧ a ≤ 53) → a ≠ 71 → A' a = A a) ∧ ∀ a, (A' a).length = (A a).length := by
  obtain ⟨A1, y1, y2, y3, y4⟩ := off_fill (F := F) (E := E) hb hn hg sl lm n 0 A (by omega) hR hs (fun j hj => absurd hj (Nat.not_lt_zero _))
  have f0 : I (100 * b + 0) = g 0 := hR.1 0 (by decide)
  have f4 : I (100 * b + 4) = g 4 := hR.1 4 (by decide)
  have key : ∀ z : Int32, z = (if g 0 = 4 then 1 else 0) → ∃ (I' : Nat → Int32) (A' : Nat → List Int32), mm_call G0 14 [.ref 48, .ref 71, .int (nI n)] (HP (fu (fu (fu (fu (fu I 4800 sl) 4801 lm) 4802 (sby (g 0) lm)) 4803 z) 4806 0) A1 L F E) = some (none, HP I' A' L F E) ∧ Dr I' A' (gof g) sl lm (sby (g 0) lm) (decide (g 0 = 4)) n ∧ (∀ x, ¬ (4800 ≤ x ∧ x < 4807) → I' x = I x) ∧ (∀ a, ¬ (49 ≤ a ∧ a ≤ 53) → a ≠ 71 → A' a = A a) ∧ ∀ a, (A' a).length = (A a).length := by
    intro z hz
    obtain ⟨I', A', x1, x2, x3, x4, x5⟩ := follow_ok (I := fu (fu (fu (fu (fu I 4800 sl) 4801 lm) 4802 (sby (g 0) lm)) 4803 z) 4806 0) (A := A1) (L := L) (F := F) (E := E) (o := gof g) (sl := sl) (lm := lm) (st := sby (g 0) lm) (on := decide (g 0 = 4)) hn (hs.cg y4) (by simp (disch := decide) only [fu_n, fu_s]) (by simp (disch := decide) only [fu_n, fu_s]) (by simp (disch := decide) only [fu_n, fu_s]) (by rw [on_int, ← hz]; simp (disch := decide) only [fu_n, fu_s]) (fu_s _ _ _) y2
    refine ⟨I', A', x1, x2, fun x hx => ?_, fun a h1 h2 => by rw [x4 a h1, y3 a h2], fun a => (x5 a).trans (y4 a)⟩
    rw [x3 x (by omega)]
    simp (disch := omega) only [fu_n]
  rw [sg_X7_draw_0 hb, show (0 : Int32) = nI 0 from rfl, y1, sg_X7_draw_3 hb, f4, hg, if_pos (n_le (a := n) (b := n) (by omega) (by omega))]
  by_cases e : g 0 = 4
  · obtain ⟨I', A', x1, x2⟩ := key 1 (by rw [if_pos e])
    refine ⟨I', A', ?_, x2⟩
    rw [f0, if_neg (fun q => q e)]
    have ea : (fu (fu (fu (fu (fu I 4800 sl) 4801 lm) 4802 (sby (g 0) lm)) 4803 1) 4806 0) (100 * b + 4) = nI n := by
      simp (disch := omega) only [fu_n]
      rw [f4, hg]
    rw [ea, x1, Option.bind_some]
    exact sg_X7_draw_73 hb _ _ _
  · obtain ⟨I', A', x1, x2⟩ := key 0 (by rw [if_neg e])
    refine ⟨I', A', ?_, x2⟩
    rw [f0, if_pos e]
    have ea : (fu (fu (fu (fu (fu I 4800 sl) 4801 lm) 4802 (sby (g 0) lm)) 4803 0) 4806 0) (100 * b + 4) = nI n := by
      simp (disch := omega) only [fu_n]
      rw [f4, hg]
    rw [ea, x1, Option.bind_some]
    exact sg_X7_draw_73 hb _ _ _
/-- the reference goes through a stream of its row of numbers -/
theorem thr_loop {k n : Nat} (hk : k < 4) (hn : n ≤ 40) (g : Nat → Int32) (hgn : g 4 = nI n) (st : Int32) (on : Bool) (hon : on = decide (g 0 = 4)) (hz : on = true → st = 0) : ∀ (d i : Nat) (I : Nat → Int32) (A : Nat → List Int32), i + d = n → Shp A L → (∀ j, j < 45 → gw A 85 (45 * k + j) = g j) → I 8416 = (ch (gof g) (g 2) (g 3) st on i).1 → I 8417 = (ch (gof g) (g 2) (g 3) st on i).2.1 → I 8415 = nI (ch (gof g) (g 2) (g 3) st on i).2.2 → Rc (gof g) (g 2) (g 3) st on (A 90) (A 91) (A 92) (A 93) (A 94) i → ∀ v3 : Int32, v3 = (if on = true ∧ 0 < (ch (gof g) (g 2) (g 3) st on i).2.2 then 1 else 0) →
    ∃ (I' : Nat → Int32) (A' : Nat → List Int32), mm_run G0 138 26 [some (.ref 84), some (.int (nI k)), some (.int st), some (.int v3), some (.int (nI i))] [] (HP I A L F E) = some (none, HP I' A' L F E) ∧ Mr I' A' (gof g) (g 2) (g 3) st on n ∧ (∀ x, x ≠ 8415 → x ≠ 8416 → x ≠ 8417 → I' x = I x) ∧ (∀ a, ¬ (90 ≤ a ∧ a ≤ 94) → A' a = A a) ∧ ∀ a, (A' a).length = (A a).length := by
  intro d
  induction d with
  | zero =>
    intro i I A hi hs hw hu hd hf hR v3 hv3
    have e : i = n := by omega
    subst e
    have l85 := hs.i (a := 85) (n := 232) (by decide)
    have hwl (j : Nat) (hj : j < 45) : ldI (A 85) (nI (45 * k + j)) = some (g j) := by
      rw [ldI_d (by omega) (by omega)]
      exact congrArg some (hw j hj)
    refine ⟨I, A, ?_, ⟨hf, hR⟩, fun _ _ _ _ => rfl, fun _ _ => rfl, fun _ => rfl⟩
    rw [sg_X8_goesThrough_26, ix4, hwl 4 (by decide), Option.bind_some, hgn, if_pos (n_le (a := i) (b := i) (by omega) (by omega))]
  | succ d ih =>
    intro i I A hi hs hw hu hd hf hR v3 hv3
    have hle := ch_le (o := gof g) (sl := g 2) (lm := g 3) (st := st) (on := on) i
    have l90 := hs.i (a := 90) (n := 40) (by decide)
    have l91 := hs.i (a := 91) (n := 40) (by decide)
    have l92 := hs.i (a := 92) (n := 40) (by decide)
    have l93 := hs.i (a := 93) (n := 40) (by decide)
    have l94 := hs.i (a := 94) (n := 40) (by decide)
    have l85 := hs.i (a := 85) (n := 232) (by decide)
    have hwl (j : Nat) (hj : j < 45) : ldI (A 85) (nI (45 * k + j)) = some (g j) := by
      rw [ldI_d (by omega) (by omega)]
      exact congrArg some (hw j hj)
    have r0 : ldI (A 85) (45 * nI k + 0) = some (g 0) := by rw [ix0]; exact hwl 0 (by decide)
    have r1 : ldI (A 85) (45 * nI k + 1) = some (g 1) := by rw [ix1]; exact hwl 1 (by decide)
    have r2 : ldI (A 85) (45 * nI k + 2) = some (g 2) := by rw [ix2]; exact hwl 2 (by decide)
    have r3 : ldI (A 85) (45 * nI k + 3) = some (g 3) := by rw [ix3]; exact hwl 3 (by decide)
    have rv : ldI (A 85) (45 * nI k + 5 + nI i) = some (g (5 + i)) := by rw [ixv, show 45 * k + 5 + i = 45 * k + (5 + i) by omega]; exact hwl (5 + i) (by omega)
    have s90 (x : Int32) : stI (A 90) (nI i) x = some ((A 90).set i x) := stI_n (by omega) (by omega)
    have s91 (x : Int32) : stI (A 91) (nI i) x = some ((A 91).set i x) := stI_n (by omega) (by omega)
    have hni := n_nle (a := i) (b := n) (by omega) (by omega)
    have eo : ofv (g 0) (g (5 + i) - g 1) = gof g i := rfl
    have el2 : ∀ (X Y : List Int32), X.length = 40 → Y.length = 40 → ∀ a, ((fu (fu A 90 X) 91 Y) a).length = (A a).length := fun X Y g1 g2 a => by
      by_cases e1 : a = 91
      · rw [e1, fu_s]
        omega
      · rw [fu_n _ _ e1]
        by_cases e2 : a = 90
        · rw [e2, fu_s]
          omega
        · rw [fu_n _ _ e2]
    by_cases hov : on = true ∧ 0 < (ch (gof g) (g 2) (g 3) st on i).2.2
    · have hF : ¬ ch_F (gof g) (g 2) (g 3) st on i := fun q => q.1 hov
      have hc := ch_over hov
      have hzz := ch_zero (o := gof g) (sl := g 2) (lm := g 3) hov.1 (hz hov.1) i hov.2
      rw [hzz.1] at hu
      rw [hzz.2] at hd
      have ele := el2 ((A 90).set i 0) ((A 91).set i 0) (by rw [List.length_set]; omega) (by rw [List.length_set]; omega)
      obtain ⟨I', A', x1, x2, x3, x4, x5⟩ := ih (i + 1) I (fu (fu A 90 ((A 90).set i 0)) 91 ((A 91).set i 0)) (by omega) (hs.cg ele) (fun j hj => by rw [gw_ne (by decide), gw_ne (by decide)]; exact hw j hj) (by rw [hc]; exact hu) (by rw [hc]; exact hd) (by rw [hc]; exact hf) (by
        simp (disch := decide) only [fu_n, fu_s]
        exact hR.quiet hF (by omega) (by omega) (by rw [hc]) (by rw [hc])) v3 (by rw [hv3, hc])
      refine ⟨I', A', ?_, x2, x3, fun a ha => by rw [x4 a ha, fu_n _ _ (by omega), fu_n _ _ (by omega)], fun a => (x5 a).trans (ele a)⟩
      rw [sg_X8_goesThrough_26, ix4, hwl 4 (by decide), Option.bind_some, hgn, if_neg hni, if_pos (by rw [hv3, if_pos hov]; decide), hu, hd, s90, Option.bind_some, s91, Option.bind_some, in1]
      exact x1
    · have hv30 : v3 = 0 := by rw [hv3, if_neg hov]
      have hnv : ¬ v3 ≠ 0 := fun q => q hv30
      by_cases hq : imax 0 ((ch (gof g) (g 2) (g 3) st on i).1 + gof g i - g 2) < g 3 ∧ imax 0 ((ch (gof g) (g 2) (g 3) st on i).2.1 - gof g i - g 2) < g 3
      · have hF : ¬ ch_F (gof g) (g 2) (g 3) st on i := fun q => q.2 hq
        have hc := ch_quiet hov hq
        have ele := el2 ((A 90).set i (imax 0 ((ch (gof g) (g 2) (g 3) st on i).1 + gof g i - g 2))) ((A 91).set i (imax 0 ((ch (gof g) (g 2) (g 3) st on i).2.1 - gof g i - g 2))) (by rw [List.length_set]; omega) (by rw [List.length_set]; omega)
        obtain ⟨I', A', x1, x2, x3, x4, x5⟩ := ih (i + 1) (fu (fu I 8416 (imax 0 ((ch (gof g) (g 2) (g 3) st on i).1 + gof g i - g 2))) 8417 (imax 0 ((ch (gof g) (g 2) (g 3) st on i).2.1 - gof g i - g 2))) (fu (fu A 90 ((A 90).set i (imax 0 ((ch (gof g) (g 2) (g 3) st on i).1 + gof g i - g 2)))) 91 ((A 91).set i (imax 0 ((ch (gof g) (g 2) (g 3) st on i).2.1 - gof g i - g 2)))) (by omega) (hs.cg ele) (fun j hj => by rw [gw_ne (by decide), gw_ne (by decide)]; exact hw j hj) (by rw [hc, fu_n _ _ (by decide), fu_s]) (by rw [hc, fu_s]) (by rw [hc, fu_n _ _ (by decide), fu_n _ _ (by decide)]; exact hf) (by
          simp (disch := decide) only [fu_n, fu_s]
          exact hR.quiet hF (by omega) (by omega) (by rw [hc]) (by rw [hc])) v3 (by rw [hv3, hc])
        refine ⟨I', A', ?_, x2, fun x h1 h2 h3 => by rw [x3 x h1 h2 h3, fu_n _ _ h3, fu_n _ _ h2], fun a ha => by rw [x4 a ha, fu_n _ _ (by omega), fu_n _ _ (by omega)], fun a => (x5 a).trans (ele a)⟩
        have a1 := fun q => nlt_le q hq.1
        have a2 := fun q => nlt_le q hq.2
        rw [sg_X8_goesThrough_26, ix4, hwl 4 (by decide), Option.bind_some, hgn, if_neg hni, if_neg hnv]
        simp only [r0, r1, r2, r3, rv, Option.bind_some, eo, hu, hd, if_neg a1, if_neg a2, s90, s91, in1]
        exact x1
      · have hF : ch_F (gof g) (g 2) (g 3) st on i := ⟨hov, hq⟩
        have hc := ch_fire hF
        obtain ⟨f, hff⟩ : ∃ f, (ch (gof g) (g 2) (g 3) st on i).2.2 = f := ⟨_, rfl⟩
        rw [hff] at hf hle hc
        have s92 (x : Int32) : stI (A 92) (nI f) x = some ((A 92).set f x) := stI_n (by omega) (by omega)
        have s93 (x : Int32) : stI (A 93) (nI f) x = some ((A 93).set f x) := stI_n (by omega) (by omega)
        have s94 (x : Int32) : stI (A 94) (nI f) x = some ((A 94).set f x) := stI_n (by omega) (by omega)
        have el : ∀ (X92 X93 X94 X90 X91 : List Int32), X92.length = 40 → X93.length = 40 → X94.length = 40 → X90.length = 40 → X91.length = 40 → ∀ a, ((fu (fu (fu (fu (fu A 92 X92) 93 X93) 94 X94) 90 X90) 91 X91) a).length = (A a).length := fun X92 X93 X94 X90 X91 g1 g2 g3 g4 g5 a => by
          by_cases e1 : a = 91
          · rw [e1, fu_s]
            omega
          · rw [fu_n _ _ e1]
            by_cases e2 : a = 90
            · rw [e2, fu_s]
              omega
            · rw [fu_n _ _ e2]
              by_cases e3 : a = 94
              · rw [e3, fu_s]
                omega
              · rw [fu_n _ _ e3]
                by_cases e4 : a = 93
                · rw [e4, fu_s]
                  omega
                · rw [fu_n _ _ e4]
                  by_cases e5 : a = 92
                  · rw [e5, fu_s]
                    omega
                  · rw [fu_n _ _ e5]
        have key : ∀ s z v u1 d1 : Int32, s = (if g 3 ≤ imax 0 ((ch (gof g) (g 2) (g 3) st on i).1 + gof g i - g 2) then 0 else 1) → z = (if g 3 ≤ imax 0 ((ch (gof g) (g 2) (g 3) st on i).1 + gof g i - g 2) then imax 0 ((ch (gof g) (g 2) (g 3) st on i).1 + gof g i - g 2) else imax 0 ((ch (gof g) (g 2) (g 3) st on i).2.1 - gof g i - g 2)) → v = (if on = true then 1 else 0) → ∃ (I' : Nat → Int32) (A' : Nat → List Int32), mm_run G0 138 26 [some (.ref 84), some (.int (nI k)), some (.int st), some (.int v), some (.int (nI (i + 1)))] [] (HP (fu (fu (fu (fu (fu I 8416 u1) 8417 d1) 8415 (nI (f + 1))) 8416 st) 8417 st) (fu (fu (fu (fu (fu A 92 ((A 92).set f (nI i))) 93 ((A 93).set f s)) 94 ((A 94).set f z)) 90 ((A 90).set i st)) 91 ((A 91).set i st)) L F E) = some (none, HP I' A' L F E) ∧ Mr I' A' (gof g) (g 2) (g 3) st on n ∧ (∀ x, x ≠ 8415 → x ≠ 8416 → x ≠ 8417 → I' x = I x) ∧ (∀ a, ¬ (90 ≤ a ∧ a ≤ 94) → A' a = A a) ∧ ∀ a, (A' a).length = (A a).length := by
          intro s z v u1 d1 hsd hzd hv
          have ele := el ((A 92).set f (nI i)) ((A 93).set f s) ((A 94).set f z) ((A 90).set i st) ((A 91).set i st) (by rw [List.length_set]; omega) (by rw [List.length_set]; omega) (by rw [List.length_set]; omega) (by rw [List.length_set]; omega) (by rw [List.length_set]; omega)
          obtain ⟨I', A', x1, x2, x3, x4, x5⟩ := ih (i + 1) (fu (fu (fu (fu (fu I 8416 u1) 8417 d1) 8415 (nI (f + 1))) 8416 st) 8417 st) (fu (fu (fu (fu (fu A 92 ((A 92).set f (nI i))) 93 ((A 93).set f s)) 94 ((A 94).set f z)) 90 ((A 90).set i st)) 91 ((A 91).set i st)) (by omega) (hs.cg ele) (fun j hj => by rw [gw_ne (by decide), gw_ne (by decide), gw_ne (by decide), gw_ne (by decide), gw_ne (by decide)]; exact hw j hj) (by rw [hc, fu_n _ _ (by decide), fu_s]) (by rw [hc, fu_s]) (by rw [hc, fu_n _ _ (by decide), fu_n _ _ (by decide), fu_s]) (by
            simp (disch := decide) only [fu_n, fu_s]
            have hh := hR.fire hF (by omega) (by omega) (by omega) (by omega) (by omega) (x := st) (y := st) (by rw [hc]) (by rw [hc]) hsd hzd
            rw [hff] at hh
            exact hh) v (by
            rw [hv, hc]
            by_cases e : on = true
            · rw [if_pos e, if_pos ⟨e, Nat.succ_pos _⟩]
            · rw [if_neg e, if_neg (fun q => e q.1)])
          exact ⟨I', A', x1, x2, fun x h1 h2 h3 => by rw [x3 x h1 h2 h3]; simp (disch := omega) only [fu_n], fun a ha => by rw [x4 a ha]; simp (disch := omega) only [fu_n], fun a => (x5 a).trans (ele a)⟩
        have hi1 : nI i + 1 = nI (i + 1) := in1 i
        have hf1 : nI f + 1 = nI (f + 1) := in1 f
        by_cases e4 : g 0 = 4
        · have hont : on = true := by rw [hon]; exact decide_eq_true e4
          have e4n : ¬ g 0 ≠ 4 := fun q => q e4
          by_cases a1 : g 3 ≤ imax 0 ((ch (gof g) (g 2) (g 3) st on i).1 + gof g i - g 2)
          · have a1' := nlt_le a1
            obtain ⟨I', A', x1, xr⟩ := key 0 (imax 0 ((ch (gof g) (g 2) (g 3) st on i).1 + gof g i - g 2)) 1 (imax 0 ((ch (gof g) (g 2) (g 3) st on i).1 + gof g i - g 2)) (imax 0 ((ch (gof g) (g 2) (g 3) st on i).2.1 - gof g i - g 2)) (by rw [if_pos a1]) (by rw [if_pos a1]) (by rw [if_pos hont])
            refine ⟨I', A', ?_, xr⟩
            rw [sg_X8_goesThrough_26, ix4, hwl 4 (by decide), Option.bind_some, hgn, if_neg hni, if_neg hnv, r0, Option.bind_some, rv, Option.bind_some, r1, Option.bind_some, r2, Option.bind_some, r3, Option.bind_some, eo, hu, hd, if_pos a1, hf, s92, Option.bind_some, if_neg a1', s93, Option.bind_some, if_neg a1', s94, Option.bind_some]
            simp (disch := decide) only [fu_n, fu_s, r0, Option.bind_some, if_neg e4n, s90, s91, hi1, hf1]
            exact x1
          · have a1' := nle_lt' a1
            have a2 := ch_FD hF a1
            obtain ⟨I', A', x1, xr⟩ := key 1 (imax 0 ((ch (gof g) (g 2) (g 3) st on i).2.1 - gof g i - g 2)) 1 (imax 0 ((ch (gof g) (g 2) (g 3) st on i).1 + gof g i - g 2)) (imax 0 ((ch (gof g) (g 2) (g 3) st on i).2.1 - gof g i - g 2)) (by rw [if_neg a1]) (by rw [if_neg a1]) (by rw [if_pos hont])
            refine ⟨I', A', ?_, xr⟩
            rw [sg_X8_goesThrough_26, ix4, hwl 4 (by decide), Option.bind_some, hgn, if_neg hni, if_neg hnv, r0, Option.bind_some, rv, Option.bind_some, r1, Option.bind_some, r2, Option.bind_some, r3, Option.bind_some, eo, hu, hd, if_neg a1, if_pos a2, hf, s92, Option.bind_some, if_pos a1', s93, Option.bind_some, if_pos a1', s94, Option.bind_some]
            simp (disch := decide) only [fu_n, fu_s, r0, Option.bind_some, if_neg e4n, s90, s91, hi1, hf1]
            exact x1
        · have hont : ¬ on = true := by rw [hon]; exact fun q => e4 (of_decide_eq_true q)
          by_cases a1 : g 3 ≤ imax 0 ((ch (gof g) (g 2) (g 3) st on i).1 + gof g i - g 2)
          · have a1' := nlt_le a1
            obtain ⟨I', A', x1, xr⟩ := key 0 (imax 0 ((ch (gof g) (g 2) (g 3) st on i).1 + gof g i - g 2)) 0 (imax 0 ((ch (gof g) (g 2) (g 3) st on i).1 + gof g i - g 2)) (imax 0 ((ch (gof g) (g 2) (g 3) st on i).2.1 - gof g i - g 2)) (by rw [if_pos a1]) (by rw [if_pos a1]) (by rw [if_neg hont])
            refine ⟨I', A', ?_, xr⟩
            rw [sg_X8_goesThrough_26, ix4, hwl 4 (by decide), Option.bind_some, hgn, if_neg hni, if_neg hnv, r0, Option.bind_some, rv, Option.bind_some, r1, Option.bind_some, r2, Option.bind_some, r3, Option.bind_some, eo, hu, hd, if_pos a1, hf, s92, Option.bind_some, if_neg a1', s93, Option.bind_some, if_neg a1', s94, Option.bind_some]
            simp (disch := decide) only [fu_n, fu_s, r0, Option.bind_some, if_pos e4, s90, s91, hi1, hf1]
            exact x1
          · have a1' := nle_lt' a1
            have a2 := ch_FD hF a1
            obtain ⟨I', A', x1, xr⟩ := key 1 (imax 0 ((ch (gof g) (g 2) (g 3) st on i).2.1 - gof g i - g 2)) 0 (imax 0 ((ch (gof g) (g 2) (g 3) st on i).1 + gof g i - g 2)) (imax 0 ((ch (gof g) (g 2) (g 3) st on i).2.1 - gof g i - g 2)) (by rw [if_neg a1]) (by rw [if_neg a1]) (by rw [if_neg hont])
            refine ⟨I', A', ?_, xr⟩
            rw [sg_X8_goesThrough_26, ix4, hwl 4 (by decide), Option.bind_some, hgn, if_neg hni, if_neg hnv, r0, Option.bind_some, rv, Option.bind_some, r1, Option.bind_some, r2, Option.bind_some, r3, Option.bind_some, eo, hu, hd, if_neg a1, if_pos a2, hf, s92, Option.bind_some, if_pos a1', s93, Option.bind_some, if_pos a1', s94, Option.bind_some]
            simp (disch := decide) only [fu_n, fu_s, r0, Option.bind_some, if_pos e4, s90, s91, hi1, hf1]
            exact x1
theorem thr_ok {k n : Nat} (hk : k < 4) (hn : n ≤ 40) {g : Nat → Int32} (hgn : g 4 = nI n) (hs : Shp A L) (hw : ∀ j, j < 45 → gw A 85 (45 * k + j) = g j) : ∃ (I' : Nat → Int32) (A' : Nat → List Int32), mm_call G0 138 [.ref 84, .int (nI k)] (HP I A L F E) = some (none, HP I' A' L F E) ∧ Mr I' A' (gof g) (g 2) (g 3) (sby (g 0) (g 3)) (decide (g 0 = 4)) n ∧ (∀ x, x ≠ 8415 → x ≠ 8416 → x ≠ 8417 → I' x = I x) ∧ (∀ a, ¬ (90 ≤ a ∧ a ≤ 94) → A' a = A a) ∧ ∀ a, (A' a).length = (A a).length := by
  have l85 := hs.i (a := 85) (n := 232) (by decide)
  have hwl (j : Nat) (hj : j < 45) : ldI (A 85) (nI (45 * k + j)) = some (g j) := by
    rw [ldI_d (by omega) (by omega)]
    exact congrArg some (hw j hj)
  have r0 : ldI (A 85) (45 * nI k + 0) = some (g 0) := by rw [ix0]; exact hwl 0 (by decide)
  have r3 : ldI (A 85) (45 * nI k + 3) = some (g 3) := by rw [ix3]; exact hwl 3 (by decide)
  have key : ∀ st : Int32, st = sby (g 0) (g 3) → ∃ (I' : Nat → Int32) (A' : Nat → List Int32), mm_run G0 138 26 [some (.ref 84), some (.int (nI k)), some (.int st), some (.int 0), some (.int 0)] [] (HP (fu (fu (fu I 8416 st) 8417 st) 8415 0) A L F E) = some (none, HP I' A' L F E) ∧ Mr I' A' (gof g) (g 2) (g 3) (sby (g 0) (g 3)) (decide (g 0 = 4)) n ∧ (∀ x, x ≠ 8415 → x ≠ 8416 → x ≠ 8417 → I' x = I x) ∧ (∀ a, ¬ (90 ≤ a ∧ a ≤ 94) → A' a = A a) ∧ ∀ a, (A' a).length = (A a).length := by
    intro st hst
    subst hst
    obtain ⟨I', A', x1, x2, x3, x4, x5⟩ := thr_loop (L := L) (F := F) (E := E) hk hn g hgn (sby (g 0) (g 3)) (decide (g 0 = 4)) rfl (fun q => by
      have q' := of_decide_eq_true q
      unfold sby
      rw [q', if_neg (by decide)]) n 0 (fu (fu (fu I 8416 (sby (g 0) (g 3))) 8417 (sby (g 0) (g 3))) 8415 0) A (by omega) hs hw (by simp (disch := decide) only [fu_n, fu_s]; rfl) (by simp (disch := decide) only [fu_n, fu_s]; rfl) (fu_s _ _ _) (fun i hi => absurd hi (Nat.not_lt_zero _)) 0 (by rw [if_neg (fun q => absurd q.2 (Nat.lt_irrefl _))])
    exact ⟨I', A', x1, x2, fun x h1 h2 h3 => by rw [x3 x h1 h2 h3]; simp (disch := omega) only [fu_n], x4, x5⟩
  rw [sg_X8_goesThrough_0, r0, Option.bind_some]
  by_cases e1 : g 0 = 1
  · rw [if_pos e1, r3, Option.bind_some]
    exact key _ (by unfold sby; rw [if_pos (Or.inl e1)])
  · rw [if_neg e1]
    by_cases e3 : g 0 = 3
    · rw [if_neg (fun q => q e3), r3, Option.bind_some]
      exact key _ (by unfold sby; rw [if_pos (Or.inr e3)])
    · rw [if_pos e3]
      exact key _ (by unfold sby; rw [if_neg (fun q => q.elim e1 e3)])
end CHD
/-! what both charts tell alike -/
section CHE
variable {I J : Nat → Int32} {A B : Nat → List Int32} {o : Nat → Int32} {sl lm st : Int32} {on : Bool} {n : Nat}
theorem dm_P (hD : Dr I A o sl lm st on n) (hM : Mr J B o sl lm st on n) {k : Nat} (hk : k < (ch o sl lm st on n).2.2) : (A 51).getD k 0 = (B 92).getD k 0 ∧ (A 52).getD k 0 = (B 93).getD k 0 ∧ (A 53).getD k 0 = (B 94).getD k 0 ∧ ∃ p, p < n ∧ (B 92).getD k 0 = nI p := by
  obtain ⟨i, h1, h2, h3⟩ := ch_surj n hk
  have a := (hD.2 i h1).2.2 h2
  have b := (hM.2 i h1).2.2 h2
  rw [h3] at a b
  exact ⟨a.1.trans b.1.symm, a.2.1.trans b.2.1.symm, a.2.2.trans b.2.2.symm, i, h1, b.1⟩
theorem dm_U (hD : Dr I A o sl lm st on n) (hM : Mr J B o sl lm st on n) {i : Nat} (hi : i < n) : (A 49).getD i 0 = (B 90).getD i 0 ∧ (A 50).getD i 0 = (B 91).getD i 0 :=
  ⟨(hD.2 i hi).1.trans (hM.2 i hi).1.symm, (hD.2 i hi).2.1.trans (hM.2 i hi).2.1.symm⟩
end CHE
/-- where only rooms of work have changed, the relation stays -/
theorem sim_scr {I I' : Nat → Int32} {A A' : Nat → List Int32} {L L' : Nat → List Int64} (h : Sim I A L) (hl : ∀ a, (A' a).length = (A a).length) (hL : ∀ a, (L' a).length = (L a).length) (hI : ∀ x, ¬ (4202 ≤ x ∧ x < 6905) → ¬ (8406 ≤ x ∧ x < 8500) → I' x = I x) (hA : ∀ a, ¬ (44 ≤ a ∧ a ≤ 71) → a ≠ 87 → ¬ (89 ≤ a ∧ a ≤ 94) → A' a = A a) (hLL : ∀ a, 73 ≤ a → ¬ (96 ≤ a ∧ a ≤ 101) → L' a = L a) : Sim I' A' L' := by
  have hw : gw A' 85 = gw A 85 := by unfold gw; rw [hA _ (by decide) (by decide) (by decide)]
  refine ⟨⟨fun q hq => (hl q.1).trans (h.1.1 q hq), fun q hq => (hL q.1).trans (h.1.2 q hq)⟩, ?_, by rw [hw]; exact h.2.2.1, ?_, ?_, ?_⟩
  · rw [hw]
    exact h.2.1.cg (fun s k _ _ => hI _ (by omega) (by omega)) (fun s _ => hA _ (by omega) (by omega) (by omega)) (hA _ (by decide) (by decide) (by decide)) ⟨hI _ (by decide) (by decide), hA _ (by decide) (by decide) (by decide), hA _ (by decide) (by decide) (by decide)⟩ ⟨hI _ (by decide) (by decide), hA _ (by decide) (by decide) (by decide), hA _ (by decide) (by decide) (by decide)⟩ ⟨hI _ (by decide) (by decide), hA _ (by decide) (by decide) (by decide), hA _ (by decide) (by decide) (by decide)⟩
  · exact h.2.2.2.1.cg ⟨hI _ (by decide) (by decide), hI _ (by decide) (by decide)⟩ (fun s k _ _ => hI _ (by omega) (by omega)) (fun s _ => hA _ (by omega) (by omega) (by omega)) (hA _ (by decide) (by decide) (by decide)) ⟨hI _ (by decide) (by decide), hA _ (by decide) (by decide) (by decide), hA _ (by decide) (by decide) (by decide)⟩ ⟨hI _ (by decide) (by decide), hA _ (by decide) (by decide) (by decide), hA _ (by decide) (by decide) (by decide)⟩ ⟨hI _ (by decide) (by decide), hA _ (by decide) (by decide) (by decide), hA _ (by decide) (by decide) (by decide)⟩ (hA _ (by decide) (by decide) (by decide))
  · exact h.2.2.2.2.1.cg (hI _ (by decide) (by decide)) (hI _ (by decide) (by decide)) (hA _ (by decide) (by decide) (by decide)) (hA _ (by decide) (by decide) (by decide))
  · exact h.2.2.2.2.2.cg (fun t k _ _ => hI _ (by omega) (by omega)) (hA _ (by decide) (by decide) (by decide)) (hA _ (by decide) (by decide) (by decide)) (fun t _ => hLL _ (by omega) (by omega)) (hLL _ (by decide) (by decide))
