/-! the equations of a chain -/
def yf (wt : Nat → Nat) (to : Nat → Nat) (lim : Nat) (f : Rw) : Nat → Rw
  | 0 => f
  | i + 1 => if to i < lim then fu (yf wt to lim f i) (to i) (yf wt to lim f i (to i) - (wt i : Int)) else yf wt to lim f i
def yb (l : Nat) (d r : Int) : Rw := fun c => if c = l then d else if c = 7 then r else 0
def yy (wt : Nat → Nat) (sl lim aw : Nat) (R : Nat → Bool) (l : Nat) : Rw := if R l then yf wt (tt sl lim l) lim (yb l aw aw) 5 else yb l 1 0
theorem yf_le {wt to : Nat → Nat} {lim : Nat} {f : Rw} (c : Nat) : ∀ k, yf wt to lim f k c ≤ f c
  | 0 => Int.le_refl _
  | k + 1 => by
    have h := yf_le (wt := wt) (to := to) (lim := lim) (f := f) c k
    rw [yf]
    split
    · by_cases e : c = to k
      · rw [e, fu_s]
        rw [e] at h
        omega
      · rw [fu_n _ _ e]
        exact h
    · exact h
theorem yf_out {wt to : Nat → Nat} {lim : Nat} {f : Rw} {c : Nat} (hc : ∀ i, to i < lim → to i ≠ c) : ∀ k, yf wt to lim f k c = f c
  | 0 => rfl
  | k + 1 => by
    rw [yf]
    split
    · rename_i h
      rw [fu_n _ _ (fun q => hc k h q.symm), yf_out hc k]
    · exact yf_out hc k
def xe (x : Nat → Int) (lim t : Nat) : Int := if t < lim then x t else 0
def stx (wt to : Nat → Nat) (x : Nat → Int) (lim : Nat) : Nat → Int
  | 0 => 0
  | i + 1 => stx wt to x lim i + (wt i : Int) * xe x lim (to i)
theorem yf_su {wt to : Nat → Nat} {lim : Nat} {f : Rw} {x : Nat → Int} : ∀ k, su (fun c => yf wt to lim f k c * x c) lim = su (fun c => f c * x c) lim - stx wt to x lim k
  | 0 => by
    simp only [yf, stx]
    omega
  | k + 1 => by
    have h := yf_su (wt := wt) (to := to) (lim := lim) (f := f) (x := x) k
    rw [yf, stx]
    unfold xe
    split
    · rename_i ht
      have e : su (fun c => fu (yf wt to lim f k) (to k) (yf wt to lim f k (to k) - (wt k : Int)) c * x c) lim = su (fu (fun c => yf wt to lim f k c * x c) (to k) ((yf wt to lim f k (to k) - (wt k : Int)) * x (to k))) lim := su_congr (fun c _ => by
        by_cases e : c = to k
        · rw [e, fu_s, fu_s]
        · rw [fu_n _ _ e, fu_n _ _ e])
      rw [e, su_fu _ ht, h]
      grind
    · rw [h]
      omega
theorem yb_su {l lim : Nat} {d r : Int} {x : Nat → Int} (hl : l < lim) (h6 : lim ≤ 6) : su (fun c => yb l d r c * x c) lim = d * x l := by
  have e : su (fun c => yb l d r c * x c) lim = su (fu (fun _ => 0) l (d * x l)) lim := su_congr (fun c hc => by
    unfold yb
    by_cases e : c = l
    · rw [if_pos e, e, fu_s]
    · rw [if_neg e, if_neg (by omega), fu_n _ _ e]
      omega)
  have z : ∀ n, su (fun _ => 0) n = 0 := fun n => by
    induction n with
    | zero => rfl
    | succ n ih => rw [su, ih]; omega
  rw [e, su_fu _ hl, z]
  omega
def sw (wt : Nat → Nat) : Nat → Nat
  | 0 => 0
  | i + 1 => sw wt i + wt i
/-- a weight that falls steeply towards the limit -/
def xw (t : Nat) : Int := 85766121 - 21 ^ t
theorem xw_n {t : Nat} (h : t ≤ 6) : 0 ≤ xw t ∧ xw t ≤ xw 0 ∧ (t < 6 → 0 < xw t ∧ xw t = xw (t + 1) + 20 * 21 ^ t ∧ 1 ≤ (21 : Int) ^ t) := by
  have : t = 0 ∨ t = 1 ∨ t = 2 ∨ t = 3 ∨ t = 4 ∨ t = 5 ∨ t = 6 := by omega
  rcases this with rfl | rfl | rfl | rfl | rfl | rfl | rfl <;> decide
theorem xw_m {s t : Nat} (h : s ≤ t) (ht : t ≤ 6) : xw t ≤ xw s := by
  induction t with
  | zero =>
    have : s = 0 := by omega
    rw [this]
    exact Int.le_refl _
  | succ t ih =>
    by_cases e : s = t + 1
    · rw [e]; exact Int.le_refl _
    · have h1 := ih (by omega) (by omega)
      have h2 := (xw_n (t := t) (by omega)).2.2 (by omega)
      omega
theorem Mm.of {wt : Nat → Nat} {sl lim aw : Nat} {R : Nat → Bool} (hw : ∀ i, i < 5 → wt i ≤ 5) (h6 : lim ≤ 6) (ha : aw = sw wt 5) {i0 : Nat} (hi : i0 < 5) (hi2 : 2 + sl < i0) (hw0 : 0 < wt i0) : Mm (yy wt sl lim aw R) lim xw := by
  have ha25 : aw ≤ 25 := by
    rw [ha]
    have h0 := hw 0 (by omega)
    have h1 := hw 1 (by omega)
    have h2 := hw 2 (by omega)
    have h3 := hw 3 (by omega)
    have h4 := hw 4 (by omega)
    simp only [sw]
    omega
  refine ⟨fun r c hr hc e => ?_, fun c hc => ((xw_n (by omega)).2.2 (by omega)).1, fun r hr => ?_, fun r hr => ?_, fun r hr => ?_, fun r hr => ?_, fun r hr => ?_⟩
  · unfold yy
    split
    · have := yf_le (wt := wt) (to := tt sl lim r) (lim := lim) (f := yb r aw aw) c 5
      unfold yb at this ⊢
      rw [if_neg e, if_neg (by omega)] at this
      exact this
    · unfold yb
      rw [if_neg e, if_neg (by omega)]
      exact Int.le_refl _
  · unfold yy
    split
    · rw [yf_su, yb_su hr h6, ha]
      have hx := (xw_n (t := r) (by omega)).2.2 (by omega)
      have t0 : ∀ i, i < 5 → 5 * (1 - 21 ^ r) ≤ (wt i : Int) * (xw r - xe xw lim (tt sl lim r i)) := fun i hi => by
        have a1 : xe xw lim (tt sl lim r i) ≤ xw 0 := by
          unfold xe
          split
          · exact (xw_n (by omega)).2.1
          · decide
        have a2 : 1 - 21 ^ r ≤ xw r - xe xw lim (tt sl lim r i) := by
          have e0 : xw 0 = 85766120 := rfl
          have er : xw r = 85766121 - 21 ^ r := rfl
          omega
        have a3 := hw i hi
        have a4 : (wt i : Int) * (1 - 21 ^ r) ≤ (wt i : Int) * (xw r - xe xw lim (tt sl lim r i)) := Int.mul_le_mul_of_nonneg_left a2 (by omega)
        have a5 : (5 - (wt i : Int)) * (1 - 21 ^ r) ≤ 0 := Int.mul_nonpos_of_nonneg_of_nonpos (by omega) (by omega)
        grind
      have t1 : 20 * 21 ^ r ≤ (wt i0 : Int) * (xw r - xe xw lim (tt sl lim r i0)) := by
        have b1 : r + 1 ≤ tt sl lim r i0 := by
          unfold tt
          omega
        have b2 : tt sl lim r i0 ≤ lim := Nat.min_le_left _ _
        have b3 : xe xw lim (tt sl lim r i0) ≤ xw (r + 1) := by
          unfold xe
          split
          · exact xw_m b1 (by omega)
          · exact (xw_n (by omega)).1
        have b4 : 20 * 21 ^ r ≤ xw r - xe xw lim (tt sl lim r i0) := by omega
        have b5 : 1 * (xw r - xe xw lim (tt sl lim r i0)) ≤ (wt i0 : Int) * (xw r - xe xw lim (tt sl lim r i0)) := Int.mul_le_mul_of_nonneg_right (by omega) (by omega)
        omega
      have q0 := t0 0 (by omega)
      have q1 := t0 1 (by omega)
      have q2 := t0 2 (by omega)
      have q3 := t0 3 (by omega)
      have q4 := t0 4 (by omega)
      have e3 : (↑(sw wt 5) : Int) * xw r - stx wt (tt sl lim r) xw lim 5 = (wt 0 : Int) * (xw r - xe xw lim (tt sl lim r 0)) + (wt 1 : Int) * (xw r - xe xw lim (tt sl lim r 1)) + (wt 2 : Int) * (xw r - xe xw lim (tt sl lim r 2)) + (wt 3 : Int) * (xw r - xe xw lim (tt sl lim r 3)) + (wt 4 : Int) * (xw r - xe xw lim (tt sl lim r 4)) := by
        simp only [sw, stx]
        push_cast
        grind
      rw [e3]
      have : i0 = 3 ∨ i0 = 4 := by omega
      rcases this with rfl | rfl <;> omega
    · rw [yb_su hr h6]
      have := ((xw_n (t := r) (by omega)).2.2 (by omega)).1
      omega
  · have e : su (yy wt sl lim aw R r) lim = su (fun c => yy wt sl lim aw R r c * (fun _ => (1 : Int)) c) lim := su_congr (fun c _ => by
      show _ = _ * 1
      omega)
    rw [e]
    unfold yy
    split
    · rw [yf_su, yb_su hr h6, ha]
      have t0 : ∀ i, (wt i : Int) * xe (fun _ => 1) lim (tt sl lim r i) ≤ wt i := fun i => by
        unfold xe
        split
        · show (wt i : Int) * 1 ≤ wt i
          omega
        · omega
      have q0 := t0 0
      have q1 := t0 1
      have q2 := t0 2
      have q3 := t0 3
      have q4 := t0 4
      simp only [sw, stx]
      push_cast
      omega
    · rw [yb_su hr h6]
      decide
  · unfold yy
    split
    · have := yf_le (wt := wt) (to := tt sl lim r) (lim := lim) (f := yb r aw aw) r 5
      unfold yb at this ⊢
      rw [if_pos rfl] at this
      omega
    · unfold yb
      rw [if_pos rfl]
      decide
  all_goals
    unfold yy
    split
    · rw [yf_out (fun i h => by omega)]
      unfold yb
      rw [if_neg (by omega), if_pos rfl]
      omega
    · unfold yb
      rw [if_neg (by omega), if_pos rfl]
      decide
