/-! the reference's way to where steps lead -/
theorem bt : ∀ m, m < 128 → ∀ j, j < 7 → ((nI m >>> (nI j &&& 31)) &&& 1) = if m.testBit j then 1 else 0 := by decide +kernel
theorem bo : ∀ m, m < 128 → ∀ t, t < 7 → nI m ||| (1 <<< (nI t &&& 31)) = nI (m ||| (1 <<< t)) := by decide +kernel
theorem bz : ∀ m, m < 128 → nI m ||| 0 = nI m := by decide +kernel
theorem bs : ∀ t, t < 7 → (1 : Int32) <<< (nI t &&& 31) = nI (1 <<< t) := by decide +kernel
def wpos (wt : Nat → Nat) (i : Nat) : Bool := decide (0 < wt i)
theorem wpos_t {wt : Nat → Nat} {i : Nat} (h : 0 < wt i) : wpos wt i = true := decide_eq_true h
theorem wpos_f {wt : Nat → Nat} {i : Nat} (h : ¬ 0 < wt i) : wpos wt i = false := decide_eq_false h
theorem os_lt {t : Nat} (h : t ≤ 6) : 1 <<< t < 128 := by
  rw [Nat.one_shiftLeft]
  exact Nat.pow_lt_pow_right (m := t) (n := 7) (by decide) (by omega)
section RCH
variable {I : Nat → Int32} {A : Nat → List Int32} {L : Nat → List Int64} {F : Nat → Int64} {E : MH}
theorem rc_i {wt : Nat → Nat} {sl lim l k : Nat} (hsl : sl ≤ 5) (hlim : lim ≤ 6) (hl : l < lim) (h3 : ldI (A 85) (45 * nI k + 3) = some (nI lim)) (h2 : ldI (A 85) (45 * nI k + 2) = some (nI sl)) (hw : ∀ i, i < 5 → ldI (A 85) (nI (180 + i)) = some (nI (wt i))) (hw5 : ∀ i, i < 5 → wt i ≤ 5) (v2 v5 : Int32) : ∀ (d i m : Nat), i + d = 5 → m < 128 →
    mm_run G0 158 38 [some (.ref 84), some (.int (nI k)), some (.int v2), some (.int (nI lim)), some (.int (nI m)), some (.int v5), some (.int (nI l)), some (.int (nI i))] [] (HP I A L F E) = mm_run G0 158 29 [some (.ref 84), some (.int (nI k)), some (.int v2), some (.int (nI lim)), some (.int (nI (qmi (wpos wt) (tt sl lim) l d i m))), some (.int v5), some (.int (nI (l + 1))), some (.int (nI 5))] [] (HP I A L F E) ∧ qmi (wpos wt) (tt sl lim) l d i m < 128
  | 0, i, m, hi, hm => by
    obtain rfl : i = 5 := by omega
    refine ⟨?_, hm⟩
    rw [sg_X8_reaches_38, if_pos (by decide), in1]
    rfl
  | d + 1, i, m, hi, hm => by
    have htt := tt_le sl lim l i
    have hm2 := qms_lt (pos := wpos wt) (to := tt sl lim) (l := l) (i := i) (m := m) (by omega) hm
    obtain ⟨y1, y2⟩ := rc_i hsl hlim hl h3 h2 hw hw5 v2 v5 d (i + 1) _ (by omega) hm2
    refine ⟨?_, y2⟩
    rw [sg_X8_reaches_38, if_neg (show ¬ (5 : Int32) ≤ nI i from n_nle (a := i) (b := 5) (by omega) (by decide)), bt m hm l (by omega), in1]
    by_cases e : m.testBit l = true
    · rw [if_pos e, if_neg (fun q => q rfl), show (180 : Int32) + nI i = nI (180 + i) by rw [show (180 : Int32) = nI 180 from rfl, nI_add], hw i (by omega), Option.bind_some]
      by_cases e2 : 0 < wt i
      · have es : qms (wpos wt) (tt sl lim) l i m = m ||| (1 <<< tt sl lim l i) := by
          unfold qms
          rw [e, wpos_t e2, Bool.true_and, if_pos rfl]
        rw [es] at y1
        rw [if_neg (show ¬ nI (wt i) ≤ (0 : Int32) from n_nle (a := 0) (b := wt i) e2 (by have := hw5 i (by omega); omega)), h3, Option.bind_some, h2, Option.bind_some, tt_eq hsl (by omega) (by omega) (by omega), bo m hm _ (by omega)]
        rw [qmi, es]
        exact y1
      · have es : qms (wpos wt) (tt sl lim) l i m = m := by
          unfold qms
          rw [wpos_f e2, Bool.and_false, if_neg (by decide)]
        rw [es] at y1
        rw [if_pos (show nI (wt i) ≤ (0 : Int32) from n_le (a := wt i) (b := 0) (by omega) (by decide)), bz m hm, qmi, es]
        exact y1
    · have es : qms (wpos wt) (tt sl lim) l i m = m := by
        unfold qms
        have : m.testBit l = false := by simpa using e
        rw [this, Bool.false_and, if_neg (by decide)]
      rw [es] at y1
      rw [if_neg e, if_pos (by decide), bz m hm, qmi, es]
      exact y1
theorem rc_l {wt : Nat → Nat} {sl lim k : Nat} (hsl : sl ≤ 5) (hlim : lim ≤ 6) (h3 : ldI (A 85) (45 * nI k + 3) = some (nI lim)) (h2 : ldI (A 85) (45 * nI k + 2) = some (nI sl)) (hw : ∀ i, i < 5 → ldI (A 85) (nI (180 + i)) = some (nI (wt i))) (hw5 : ∀ i, i < 5 → wt i ≤ 5) (v2 v5 : Int32) : ∀ (d l m : Nat) (o7 : Option Int32), l + d = lim → m < 128 →
    ∃ o7' : Option Int32, mm_run G0 158 29 [some (.ref 84), some (.int (nI k)), some (.int v2), some (.int (nI lim)), some (.int (nI m)), some (.int v5), some (.int (nI l)), (o7.map Value.int)] [] (HP I A L F E) = mm_run G0 158 20 [some (.ref 84), some (.int (nI k)), some (.int v2), some (.int (nI lim)), some (.int (nI (qml (wpos wt) (tt sl lim) d l m))), some (.int (v5 + 1)), some (.int (nI lim)), (o7'.map Value.int)] [] (HP I A L F E) ∧ qml (wpos wt) (tt sl lim) d l m < 128
  | 0, l, m, o7, hl, hm => by
    obtain rfl : l = lim := by omega
    exact ⟨o7, by rw [sg_X8_reaches_29, if_pos (n_le (a := l) (b := l) (by omega) (by omega))]; rfl, hm⟩
  | d + 1, l, m, o7, hl, hm => by
    obtain ⟨y1, y2⟩ := rc_i (I := I) (A := A) (L := L) (F := F) (E := E) hsl hlim (show l < lim by omega) h3 h2 hw hw5 v2 v5 5 0 m (by omega) hm
    obtain ⟨o, z1, z2⟩ := rc_l hsl hlim h3 h2 hw hw5 v2 v5 d (l + 1) _ (some (nI 5)) (by omega) y2
    refine ⟨o, ?_, z2⟩
    rw [sg_X8_reaches_29, if_neg (n_nle (a := l) (b := lim) (by omega) (by omega))]
    exact (y1 : _ = _).trans z1
theorem rc_k {wt : Nat → Nat} {sl lim k : Nat} (hsl : sl ≤ 5) (hlim : lim ≤ 6) (h3 : ldI (A 85) (45 * nI k + 3) = some (nI lim)) (h2 : ldI (A 85) (45 * nI k + 2) = some (nI sl)) (hw : ∀ i, i < 5 → ldI (A 85) (nI (180 + i)) = some (nI (wt i))) (hw5 : ∀ i, i < 5 → wt i ≤ 5) (v2 : Int32) : ∀ (d t m : Nat) (o6 o7 : Option Int32), t + d = lim → m < 128 →
    mm_run G0 158 20 [some (.ref 84), some (.int (nI k)), some (.int v2), some (.int (nI lim)), some (.int (nI m)), some (.int (nI t)), (o6.map Value.int), (o7.map Value.int)] [] (HP I A L F E) = some (some (.int (nI (qmk (wpos wt) (tt sl lim) lim d m))), HP I A L F E) ∧ qmk (wpos wt) (tt sl lim) lim d m < 128
  | 0, t, m, o6, o7, ht, hm => by
    obtain rfl : t = lim := by omega
    exact ⟨by rw [sg_X8_reaches_20, if_pos (n_le (a := t) (b := t) (by omega) (by omega))]; rfl, hm⟩
  | d + 1, t, m, o6, o7, ht, hm => by
    obtain ⟨o, y1, y2⟩ := rc_l (I := I) (A := A) (L := L) (F := F) (E := E) hsl hlim h3 h2 hw hw5 v2 (nI t) lim 0 m o7 (by omega) hm
    obtain ⟨z1, z2⟩ := rc_k hsl hlim h3 h2 hw hw5 v2 d (t + 1) _ (some (nI lim)) o (by omega) y2
    refine ⟨?_, z2⟩
    rw [sg_X8_reaches_20, if_neg (n_nle (a := t) (b := lim) (by omega) (by omega))]
    refine (y1 : _ = _).trans ?_
    rw [in1]
    exact z1
theorem rc_x {wt : Nat → Nat} {sl lim k level : Nat} (hsl : sl ≤ 5) (hlim : lim ≤ 6) (hlv : level < lim) (h3 : ldI (A 85) (45 * nI k + 3) = some (nI lim)) (h2 : ldI (A 85) (45 * nI k + 2) = some (nI sl)) (hw : ∀ i, i < 5 → ldI (A 85) (nI (180 + i)) = some (nI (wt i))) (hw5 : ∀ i, i < 5 → wt i ≤ 5) : mm_call G0 158 [.ref 84, .int (nI k), .int (nI level)] (HP I A L F E) = some (some (.int (nI (qmk (wpos wt) (tt sl lim) lim lim (1 <<< level)))), HP I A L F E) ∧ qmk (wpos wt) (tt sl lim) lim lim (1 <<< level) < 128 := by
  obtain ⟨y1, y2⟩ := rc_k (I := I) (A := A) (L := L) (F := F) (E := E) hsl hlim h3 h2 hw hw5 (nI level) lim 0 (1 <<< level) none none (by omega) (os_lt (by omega))
  refine ⟨?_, y2⟩
  rw [sg_X8_reaches_0, h3, Option.bind_some, bs level (by omega)]
  exact y1
/-- every level that can come must have an alarm ahead -/
theorem rn_46 {wt : Nat → Nat} {sl lim k m : Nat} (hsl : sl ≤ 5) (hlim : lim ≤ 6) (h3 : ldI (A 85) (45 * nI k + 3) = some (nI lim)) (h2 : ldI (A 85) (45 * nI k + 2) = some (nI sl)) (hw : ∀ i, i < 5 → ldI (A 85) (nI (180 + i)) = some (nI (wt i))) (hw5 : ∀ i, i < 5 → wt i ≤ 5) (hm : m < 128) (v2 v3 : Int32) : ∀ (d l : Nat), l + d = lim →
    ((∀ j, l ≤ j → j < lim → m.testBit j = true → (qmk (wpos wt) (tt sl lim) lim lim (1 <<< j)).testBit lim = true) → mm_run G0 163 46 [some (.ref 84), some (.int (nI k)), some (.int v2), some (.int v3), some (.int (nI lim)), some (.int (nI m)), some (.int (nI l))] [] (HP I A L F E) = mm_run G0 163 46 [some (.ref 84), some (.int (nI k)), some (.int v2), some (.int v3), some (.int (nI lim)), some (.int (nI m)), some (.int (nI lim))] [] (HP I A L F E)) ∧
    ((∃ j, l ≤ j ∧ j < lim ∧ m.testBit j = true ∧ (qmk (wpos wt) (tt sl lim) lim lim (1 <<< j)).testBit lim = false) → mm_run G0 163 46 [some (.ref 84), some (.int (nI k)), some (.int v2), some (.int v3), some (.int (nI lim)), some (.int (nI m)), some (.int (nI l))] [] (HP I A L F E) = some (some (.long (-9223372036854775808)), HP I A L F E))
  | 0, l, hl => by
    obtain rfl : l = lim := by omega
    exact ⟨fun _ => rfl, fun ⟨j, h1, h2, _⟩ => by omega⟩
  | d + 1, l, hl => by
    obtain ⟨y1, y2⟩ := rn_46 hsl hlim h3 h2 hw hw5 hm v2 v3 d (l + 1) (by omega)
    obtain ⟨c1, c2⟩ := rc_x (I := I) (A := A) (L := L) (F := F) (E := E) hsl hlim (show l < lim by omega) h3 h2 hw hw5
    have go : mm_run G0 163 46 [some (.ref 84), some (.int (nI k)), some (.int v2), some (.int v3), some (.int (nI lim)), some (.int (nI m)), some (.int (nI l))] [] (HP I A L F E) = if m.testBit l = true ∧ (qmk (wpos wt) (tt sl lim) lim lim (1 <<< l)).testBit lim = false then some (some (.long (-9223372036854775808)), HP I A L F E) else mm_run G0 163 46 [some (.ref 84), some (.int (nI k)), some (.int v2), some (.int v3), some (.int (nI lim)), some (.int (nI m)), some (.int (nI (l + 1)))] [] (HP I A L F E) := by
      rw [sg_X8_run_46, if_neg (n_nle (a := l) (b := lim) (by omega) (by omega)), bt m hm l (by omega), in1]
      by_cases e : m.testBit l = true
      · rw [if_pos e, if_neg (fun q => q rfl), c1, Option.bind_some]
        refine (sg_X8_run_71 (nI k) v2 v3 (nI lim) (nI m) (nI l) _).trans ?_
        rw [bt _ c2 lim (by omega), in1]
        by_cases e2 : (qmk (wpos wt) (tt sl lim) lim lim (1 <<< l)).testBit lim = true
        · rw [if_pos e2, if_pos (by decide), if_neg (fun q => by rw [e2] at q; exact absurd q.2 (by decide))]
        · rw [if_neg e2, if_neg (fun q => q rfl), if_pos ⟨e, by simpa using e2⟩]
      · rw [if_neg e, if_pos (by decide), if_neg (fun q => e q.1)]
    constructor
    · intro h
      rw [go, if_neg (fun q => by
        have := h l (Nat.le_refl l) (by omega) q.1
        rw [this] at q
        exact absurd q.2 (by decide))]
      exact y1 (fun j q1 q2 q3 => h j (by omega) q2 q3)
    · rintro ⟨j, q1, q2, q3, q4⟩
      rw [go]
      by_cases e : m.testBit l = true ∧ (qmk (wpos wt) (tt sl lim) lim lim (1 <<< l)).testBit lim = false
      · rw [if_pos e]
      · rw [if_neg e]
        refine y2 ⟨j, ?_, q2, q3, q4⟩
        have : j ≠ l := fun z => e (by rw [← z]; exact ⟨q3, q4⟩)
        omega
end RCH
