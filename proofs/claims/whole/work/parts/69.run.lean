/-! run: both answer the same -/
theorem yy_ou {wt : Nat → Nat} {sl lim aw : Nat} {R : Nat → Bool} {l : Nat} (hl : l < lim) : Ou lim (yy wt sl lim aw R l) := fun y h1 h2 => by
  unfold yy
  split
  · rw [yf_out (fun i hi => by omega)]
    unfold yb
    rw [if_neg (by omega), if_neg h2]
  · unfold yb
    rw [if_neg (by omega), if_neg h2]
section MDX
variable {I : Nat → Int32} {A : Nat → List Int32} {L : Nat → List Int64} {F : Nat → Int64} {E : MH}
/-- the reference behind its check -/
theorem md_x {wt : Nat → Nat} {sl lim k level aw m : Nat} {v3 : Int32} (hsl : sl ≤ 5) (hlim : lim ≤ 6) (hlv : level < lim) (haw : aw ≤ 25) (hm : m < 128) (hS : Shp A L) (h3 : ldI (A 85) (45 * nI k + 3) = some (nI lim)) (h2 : ldI (A 85) (45 * nI k + 2) = some (nI sl)) (hwl : ∀ i, i < 5 → ldI (A 85) (nI (180 + i)) = some (nI (wt i))) (hw : ∀ i, i < 5 → wt i ≤ 5) (hsum : 0 + nI (wt 0) + nI (wt 1) + nI (wt 2) + nI (wt 3) + nI (wt 4) = nI aw) (hM : Mm (yy wt sl lim aw (fun l => m.testBit l)) lim xw) :
    ∃ (L' : Nat → List Int64) (a b : Int64) (v : Rw), mm_run G0 163 46 [some (.ref 84), some (.int (nI k)), some (.int (nI level)), some (.int v3), some (.int (nI lim)), some (.int (nI m)), some (.int (nI lim))] [] (HP I A L F E) = some (some (.long (lwt a b v3)), HP I A L' F E) ∧ Gr (yy wt sl lim aw (fun l => m.testBit l)) lim lim level v ∧ a.toInt = v 7 ∧ b.toInt = v level ∧ (∀ x, (∀ q, q < 6 → x ≠ 96 + q) → L' x = L x) ∧ ∀ x, x < 6 → (L' (96 + x)).length = 7 := by
  have lL : ∀ x, x < 6 → (L (96 + x)).length = 7 := fun x hx => by
    match x, hx with
    | 0, _ => exact hS.l (a := 96) (n := 7) (by decide)
    | 1, _ => exact hS.l (a := 97) (n := 7) (by decide)
    | 2, _ => exact hS.l (a := 98) (n := 7) (by decide)
    | 3, _ => exact hS.l (a := 99) (n := 7) (by decide)
    | 4, _ => exact hS.l (a := 100) (n := 7) (by decide)
    | 5, _ => exact hS.l (a := 101) (n := 7) (by decide)
  obtain ⟨L1, x1, x2, x3, x4⟩ := eq_15 (I := I) (A := A) (F := F) (E := E) hsl hlim haw hm h3 h2 hwl hw hsum lim 0 L none none (by omega) lL (fun q h => absurd h (Nat.not_lt_zero _))
  obtain ⟨L2, P, y1, y2, y3, y4⟩ := gs_2 (I := I) (A := A) (F := F) (E := E) hM hlim lim 0 L1 (yy wt sl lim aw (fun l => m.testBit l)) none none none none none none (by omega) (fun q hq => ⟨Rcl.of (x2 q hq), yy_ou hq⟩) (fun q _ => Gr.zero)
  obtain ⟨l1, l2⟩ := y2 level hlv
  have ha := l2 lim (Nat.le_refl _)
  have hb := l2 level (by omega)
  rw [cl_n] at ha
  rw [cl_lt hlv] at hb
  have hp := ((y3 level hlv).prop hM (Nat.le_refl _) hlim hlv hlim).1
  have hbn := (y3 level hlv).pr
  have c160 : mm_call G0 160 [.ref 84, .int (nI k), .int (nI m)] (HP I A L F E) = some (none, HP I A L1 F E) := by
    rw [sg_X8_equations_0, h3, Option.bind_some]
    exact x1
  have c162 : mm_call G0 162 [.ref 84, .int (nI lim)] (HP I A L1 F E) = some (none, HP I A L2 F E) := by
    rw [sg_X8_clears_0]
    exact y1
  -- the answer's row: its right side is above nothing, or small
  have hge : -9223372036854775808 < ((L2 (96 + level)).getD lim 0).toInt := by
    rw [ha]
    obtain ⟨-, w, s, t, hs, ht, e1, w1, -⟩ := (y3 level hlv).prop hM (Nat.le_refl _) hlim hlv hlim
    have u5 := (hM.up (c := lim) hlv (Nat.le_refl _) hlim).2.2.2.2.1
    have e7 := e1 7
    rw [w1 hlv] at e7
    have q := Int.mul_nonneg (Int.le_of_lt ht) u5
    rw [← e7] at q
    have : 0 ≤ P level 7 := by
      by_cases z : P level 7 < 0
      · have := Int.mul_neg_of_pos_of_neg hs z
        omega
      · omega
    omega
  refine ⟨L2, (L2 (96 + level)).getD lim 0, (L2 (96 + level)).getD level 0, P level, ?_, y3 level hlv, ha, hb, fun x hx => by rw [y4 x (fun q hq => hx q (by omega)), x4 x hx], fun x hx => ?_⟩
  · rw [sg_X8_run_46, if_pos (n_le (a := lim) (b := lim) (by omega) (by omega)), c160, Option.bind_some]
    refine (sg_X8_run_96 (nI k) (nI level) v3 (nI lim) (nI m) (nI lim)).trans ?_
    rw [c162, Option.bind_some]
    refine (sg_X8_run_102 (nI k) (nI level) v3 (nI lim) (nI m) (nI lim)).trans ?_
    rw [ld96 (by omega), Option.bind_some, ldL_d (by omega) (by omega), Option.bind_some, Option.bind_some, ldL_d (by omega) (by omega), Option.bind_some, part_ok2 v3 hge (by rw [hb]; exact hp), Option.bind_some]
    exact sg_X8_run_123 _ _ _ _ _ _ _
  · by_cases e : x < lim
    · exact (y2 x e).1
    · rw [y4 (96 + x) (fun q hq => by omega)]
      exact x3 x hx
end MDX
theorem pr_run (p1 p2 p3 : Int32) : Pr tyL 76 163 [.int p1, .int p2, .int p3] := by
  sorry
