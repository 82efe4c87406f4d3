/-! where steps lead, as masks -/
def qms (pos : Nat → Bool) (to : Nat → Nat → Nat) (l i m : Nat) : Nat := if m.testBit l && pos i then m ||| (1 <<< to l i) else m
def qmi (pos : Nat → Bool) (to : Nat → Nat → Nat) (l : Nat) : Nat → Nat → Nat → Nat
  | 0, _, m => m
  | d + 1, i, m => qmi pos to l d (i + 1) (qms pos to l i m)
def qml (pos : Nat → Bool) (to : Nat → Nat → Nat) : Nat → Nat → Nat → Nat
  | 0, _, m => m
  | d + 1, l, m => qml pos to d (l + 1) (qmi pos to l 5 0 m)
def qmk (pos : Nat → Bool) (to : Nat → Nat → Nat) (lim : Nat) : Nat → Nat → Nat
  | 0, m => m
  | t + 1, m => qmk pos to lim t (qml pos to lim 0 m)
def qas (pos : Nat → Bool) (to : Nat → Nat → Nat) (lim l i a : Nat) : Nat := if pos i && (lim ≤ to l i || a.testBit (to l i)) then a ||| (1 <<< l) else a
def qai (pos : Nat → Bool) (to : Nat → Nat → Nat) (lim l : Nat) : Nat → Nat → Nat → Nat
  | 0, _, a => a
  | d + 1, i, a => qai pos to lim l d (i + 1) (qas pos to lim l i a)
def qal (pos : Nat → Bool) (to : Nat → Nat → Nat) (lim : Nat) : Nat → Nat → Nat → Nat
  | 0, _, a => a
  | d + 1, l, a => qal pos to lim d (l + 1) (qai pos to lim l 5 0 a)
def qak (pos : Nat → Bool) (to : Nat → Nat → Nat) (lim : Nat) : Nat → Nat → Nat
  | 0, a => a
  | t + 1, a => qak pos to lim t (qal pos to lim lim 0 a)
def p5 (b0 b1 b2 b3 b4 : Bool) : Nat → Bool
  | 0 => b0
  | 1 => b1
  | 2 => b2
  | 3 => b3
  | _ => b4
def good (pos : Nat → Bool) (sl lim : Nat) : Bool :=
  let a := qak pos (tt sl lim) lim lim 0
  (List.range lim).all fun level =>
    let m := qmk pos (tt sl lim) lim lim (1 <<< level)
    m.testBit level && m.testBit lim && a.testBit level && (List.range lim).all fun l => !m.testBit l || (List.range 5).all fun i => !pos i || m.testBit (tt sl lim l i)
theorem good_all : ∀ b0 b1 b2 b3 b4 : Bool, ∀ sl, sl < 2 → ∀ lim, lim < 7 → (b4 || (b3 && sl == 0)) = true → good (p5 b0 b1 b2 b3 b4) sl lim = true := by decide +kernel

theorem qms_lt {pos : Nat → Bool} {to : Nat → Nat → Nat} {l i m : Nat} (ht : to l i ≤ 6) (h : m < 128) : qms pos to l i m < 128 := by
  unfold qms
  split
  · refine Nat.or_lt_two_pow (n := 7) h ?_
    rw [Nat.one_shiftLeft]
    exact Nat.pow_lt_pow_right (by decide) (by omega)
  · exact h
theorem qms_tb {pos : Nat → Bool} {to : Nat → Nat → Nat} {l i m j : Nat} : (qms pos to l i m).testBit j = (m.testBit j || (m.testBit l && pos i && decide (to l i = j))) := by
  unfold qms
  split
  · rename_i h
    rw [Nat.testBit_or, Nat.one_shiftLeft, Nat.testBit_two_pow, h, Bool.true_and]
  · rename_i h
    have : (m.testBit l && pos i) = false := by simpa using h
    rw [this, Bool.false_and, Bool.or_false]
theorem qas_lt {pos : Nat → Bool} {to : Nat → Nat → Nat} {lim l i a : Nat} (hl : l ≤ 6) (h : a < 128) : qas pos to lim l i a < 128 := by
  unfold qas
  split
  · refine Nat.or_lt_two_pow (n := 7) h ?_
    rw [Nat.one_shiftLeft]
    exact Nat.pow_lt_pow_right (by decide) (by omega)
  · exact h
theorem or_tb {m t j : Nat} : (m ||| (1 <<< t)).testBit j = (m.testBit j || decide (t = j)) := by
  rw [Nat.testBit_or, Nat.one_shiftLeft, Nat.testBit_two_pow]
section NUP
variable {pos : Nat → Bool} {to : Nat → Nat → Nat} {lim : Nat}
/-- no step leads up: no alarm -/
theorem nm_i (hn : ∀ l i, l < lim → i < 5 → pos i = true → to l i < lim) {l : Nat} (hl : l < lim) {v : Nat} : ∀ (d i m : Nat), i + d = 5 → m.testBit lim = false → m.testBit v = true → (qmi pos to l d i m).testBit lim = false ∧ (qmi pos to l d i m).testBit v = true
  | 0, _, _, _, h, h2 => ⟨h, h2⟩
  | d + 1, i, m, hi, h, h2 => by
    refine nm_i hn hl d (i + 1) _ (by omega) ?_ ?_
    · rw [qms_tb, h, Bool.false_or]
      by_cases e : pos i = true
      · have := hn l i hl (by omega) e
        rw [decide_eq_false (by omega), Bool.and_false]
      · have : pos i = false := by simpa using e
        rw [this, Bool.and_false, Bool.false_and]
    · rw [qms_tb, h2, Bool.true_or]
theorem nm_l (hn : ∀ l i, l < lim → i < 5 → pos i = true → to l i < lim) {v : Nat} : ∀ (d l m : Nat), l + d = lim → m.testBit lim = false → m.testBit v = true → (qml pos to d l m).testBit lim = false ∧ (qml pos to d l m).testBit v = true
  | 0, _, _, _, h, h2 => ⟨h, h2⟩
  | d + 1, l, m, hl, h, h2 => by
    have q := nm_i hn (show l < lim by omega) 5 0 m (by omega) h h2
    exact nm_l hn d (l + 1) _ (by omega) q.1 q.2
theorem nm_k (hn : ∀ l i, l < lim → i < 5 → pos i = true → to l i < lim) {v : Nat} : ∀ (t m : Nat), m.testBit lim = false → m.testBit v = true → (qmk pos to lim t m).testBit lim = false ∧ (qmk pos to lim t m).testBit v = true
  | 0, _, h, h2 => ⟨h, h2⟩
  | t + 1, m, h, h2 => by
    have q := nm_l hn lim 0 m (by omega) h h2
    exact nm_k hn t _ q.1 q.2
theorem na_i (hn : ∀ l i, l < lim → i < 5 → pos i = true → to l i < lim) {l : Nat} (hl : l < lim) : ∀ (d i : Nat), i + d = 5 → qai pos to lim l d i 0 = 0
  | 0, _, _ => rfl
  | d + 1, i, hi => by
    rw [qai, show qas pos to lim l i 0 = 0 from ?_]
    · exact na_i hn hl d (i + 1) (by omega)
    · unfold qas
      by_cases e : pos i = true
      · have := hn l i hl (by omega) e
        rw [e, decide_eq_false (by omega), Nat.zero_testBit]
        rfl
      · have : pos i = false := by simpa using e
        rw [this]
        rfl
theorem na_l (hn : ∀ l i, l < lim → i < 5 → pos i = true → to l i < lim) : ∀ (d l : Nat), l + d = lim → qal pos to lim d l 0 = 0
  | 0, _, _ => rfl
  | d + 1, l, hl => by
    rw [qal, na_i hn (show l < lim by omega) 5 0 (by omega)]
    exact na_l hn d (l + 1) (by omega)
theorem na_k (hn : ∀ l i, l < lim → i < 5 → pos i = true → to l i < lim) : ∀ (t : Nat), qak pos to lim t 0 = 0
  | 0 => rfl
  | t + 1 => by
    rw [qak, na_l hn lim 0 (by omega)]
    exact na_k hn t
end NUP
