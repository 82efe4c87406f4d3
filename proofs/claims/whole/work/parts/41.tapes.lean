/-! tapes: item, peek -/
section TAP
variable {I : Nat → Int32} {A : Nat → List Int32} {L : Nat → List Int64}
def Tq (I : Nat → Int32) (A : Nat → List Int32) (L : Nat → List Int64) (t : Nat) : Prop := I (100 * (72 + 2 * t) + 0) = gw A 102 t ∧ (-1 ≤ (gw A 102 t).toInt ∧ (gw A 102 t).toInt ≤ 4) ∧ ∃ n, n ≤ 60 ∧ I (100 * (72 + 2 * t) + 1) = nI n ∧ gw A 103 t = nI n ∧ (gw A 102 t = -1 → n = 0) ∧ ∀ j, j < n → (L (73 + 2 * t)).getD j 0 = (L 104).getD (60 * t + j) 0
/-- one tape has changed, on both sides -/
theorem sim_tape {I' : Nat → Int32} {A' : Nat → List Int32} {L' : Nat → List Int64} {t : Nat} (ht : t < 6) (h : Sim I A L) (hs : Shp A' L') (hI : ∀ i, ¬ (100 * (72 + 2 * t) ≤ i ∧ i < 100 * (72 + 2 * t) + 2) → I' i = I i) (hA : ∀ a, a ≠ 102 → a ≠ 103 → A' a = A a) (h2 : ∀ q, q ≠ t → gw A' 102 q = gw A 102 q) (h3 : ∀ q, q ≠ t → gw A' 103 q = gw A 103 q) (hL : ∀ a, a ≠ 73 + 2 * t → a ≠ 104 → L' a = L a) (h4 : ∀ q j, q < 6 → q ≠ t → j < 60 → (L' 104).getD (60 * q + j) 0 = (L 104).getD (60 * q + j) 0) (hT : Tq I' A' L' t) : Sim I' A' L' := by
  have hw : gw A' 85 = gw A 85 := by unfold gw; rw [hA _ (by decide) (by decide)]
  refine ⟨hs, ?_, by rw [hw]; exact h.2.2.1, ?_, ?_, fun q hq => ?_⟩
  · rw [hw]
    exact h.2.1.cg (fun s k _ _ => hI _ (by omega)) (fun s _ => hA _ (by omega) (by omega)) (hA _ (by decide) (by decide)) ⟨hI _ (by omega), hA _ (by decide) (by decide), hA _ (by decide) (by decide)⟩ ⟨hI _ (by omega), hA _ (by decide) (by decide), hA _ (by decide) (by decide)⟩ ⟨hI _ (by omega), hA _ (by decide) (by decide), hA _ (by decide) (by decide)⟩
  · exact h.2.2.2.1.cg ⟨hI _ (by omega), hI _ (by omega)⟩ (fun s k _ _ => hI _ (by omega)) (fun s _ => hA _ (by omega) (by omega)) (hA _ (by decide) (by decide)) ⟨hI _ (by omega), hA _ (by decide) (by decide), hA _ (by decide) (by decide)⟩ ⟨hI _ (by omega), hA _ (by decide) (by decide), hA _ (by decide) (by decide)⟩ ⟨hI _ (by omega), hA _ (by decide) (by decide), hA _ (by decide) (by decide)⟩ (hA _ (by decide) (by decide))
  · exact h.2.2.2.2.1.cg (hI _ (by omega)) (hI _ (by omega)) (hA _ (by decide) (by decide)) (hA _ (by decide) (by decide))
  · by_cases e : q = t
    · subst e
      exact hT
    · obtain ⟨a1, a2, n, a3, a4, a5, a6, a7⟩ := h.2.2.2.2.2 q hq
      rw [hI _ (by omega), hI _ (by omega), h2 q e, h3 q e, hL _ (by omega) (by omega)]
      exact ⟨a1, a2, n, a3, a4, a5, a6, fun j hj => by rw [h4 q j hq e (by omega)]; exact a7 j hj⟩
theorem ixt (t j : Nat) : (60 : Int32) * nI t + nI j = nI (60 * t + j) := by
  rw [show (60 : Int32) = nI 60 from rfl, pk_mul, nI_add]
theorem Sim.t2 (h : Sim I A L) {t : Nat} (ht : t < 6) : ldI (A 102) (nI t) = some (gw A 102 t) := by
  have hl := h.1.i (a := 102) (n := 6) (by decide)
  exact ldI_d (by omega) (by omega)
theorem Sim.t3 (h : Sim I A L) {t : Nat} (ht : t < 6) : ldI (A 103) (nI t) = some (gw A 103 t) := by
  have hl := h.1.i (a := 103) (n := 6) (by decide)
  exact ldI_d (by omega) (by omega)
theorem ci1 : (-1 : Int32).toInt = -1 := rfl
/-- within the tape -/
theorem in_tape {n : Nat} {p : Int32} (hn : n ≤ 60) : (¬ p < 0 ∧ ¬ (nI n - 1) < p) ↔ (¬ p < 0 ∧ ¬ nI n ≤ p) := by
  have e : (nI n).toInt = n := nI_toInt (by omega)
  have e1 : (nI n - 1).toInt = (n : Int) - 1 := by
    match n, hn with
    | 0, _ => rfl
    | k + 1, hk =>
      rw [show nI (k + 1) - 1 = nI k from by rw [← in1]; exact Int32.add_sub_cancel _ _, nI_toInt (by omega)]
      omega
  rw [i_lt, i_lt, i_le, e, e1]
  omega
theorem pr_peek (p1 p2 : Int32) : Pr tyL 94 189 [.int p1, .int p2] := by
  intro I A L F E hS
  by_cases h1 : ¬ p1 < 0 ∧ ¬ 6 ≤ p1
  · obtain ⟨t, ht, rfl⟩ := st6 h1
    obtain ⟨a1, a2, n, a3, a4, a5, a6, a7⟩ := hS.2.2.2.2.2 t ht
    have hl := hS.1.tap ht
    have hl104 := hS.1.l (a := 104) (n := 360) (by decide)
    by_cases h2 : ¬ p2 < 0 ∧ ¬ nI n ≤ p2
    · obtain ⟨j, hj, rfl⟩ := ix_lt (by omega) h2.1 h2.2
      refine ⟨.long ((L 104).getD (60 * t + j) 0), I, A, L, F, E, I, A, L, F, E, ⟨_, rfl⟩, ?_, ?_, hS, Nat.le_add_right _ _⟩
      · rw [sg_X7_peek_0, if_pos h1, tape_at ht, Option.bind_some, a4, if_pos h2, Option.bind_some, show 72 + 2 * t + 1 = 73 + 2 * t by omega, ldL_d (by omega) (by omega), Option.bind_some, a7 j hj]
      · rw [sg_X8_peek_0, if_pos (c6.mpr h1), hS.t3 ht, Option.bind_some, a5, if_pos ((in_tape a3).mpr h2), ixt, ldL_d (by omega) (by omega), Option.bind_some]
    · refine ⟨.long (-9223372036854775808), I, A, L, F, E, I, A, L, F, E, ⟨_, rfl⟩, ?_, ?_, hS, Nat.le_add_right _ _⟩
      · rw [sg_X7_peek_0, if_pos h1, tape_at ht, Option.bind_some, a4, if_neg h2]
      · rw [sg_X8_peek_0, if_pos (c6.mpr h1), hS.t3 ht, Option.bind_some, a5, if_neg (fun q => h2 ((in_tape a3).mp q))]
  · refine ⟨.long (-9223372036854775808), I, A, L, F, E, I, A, L, F, E, ⟨_, rfl⟩, ?_, ?_, hS, Nat.le_add_right _ _⟩
    · rw [sg_X7_peek_0, if_neg h1]
    · rw [sg_X8_peek_0, if_neg (fun q => h1 (c6.mp q))]
/-- an item as its sort keeps it -/
def nar (s : Int32) (x : Int64) : Int64 := if s = 0 then x.toInt32.toInt8.toInt32.toInt64 else if s = 1 then x.toInt32.toInt16.toInt32.toInt64 else if s = 2 then x.toInt32.toInt64 else if s = 3 then x else if lg_cmp x 0 = 0 then 0 else 1
theorem so5 {s : Int32} (h : -1 ≤ s.toInt ∧ s.toInt ≤ 4) (h1 : s ≠ -1) : s = 0 ∨ s = 1 ∨ s = 2 ∨ s = 3 ∨ s = 4 := by
  have : s.toInt ≠ -1 := fun q => h1 (i_eq.mpr q)
  have hc : s.toInt = 0 ∨ s.toInt = 1 ∨ s.toInt = 2 ∨ s.toInt = 3 ∨ s.toInt = 4 := by omega
  rcases hc with q | q | q | q | q
  · exact Or.inl (i_eq.mpr q)
  · exact Or.inr (Or.inl (i_eq.mpr q))
  · exact Or.inr (Or.inr (Or.inl (i_eq.mpr q)))
  · exact Or.inr (Or.inr (Or.inr (Or.inl (i_eq.mpr q))))
  · exact Or.inr (Or.inr (Or.inr (Or.inr (i_eq.mpr q))))
theorem pr_item (p1 p2 : Int32) (p3 : Int64) : Pr tyI 93 188 [.int p1, .int p2, .long p3] := by
  intro I A L F E hS
  by_cases h1 : ¬ p1 < 0 ∧ ¬ 6 ≤ p1
  · obtain ⟨t, ht, rfl⟩ := st6 h1
    obtain ⟨a1, a2, n, a3, a4, a5, a6, a7⟩ := hS.2.2.2.2.2 t ht
    have hl := hS.1.tap ht
    have hl104 := hS.1.l (a := 104) (n := 360) (by decide)
    by_cases h0 : gw A 102 t = -1
    · refine ⟨.int (-11), I, A, L, F, E, I, A, L, F, E, ⟨_, rfl⟩, ?_, ?_, hS, Nat.le_add_right _ _⟩
      · rw [sg_X7_item_0, if_pos h1, tape_at ht, Option.bind_some, a1, if_neg (fun q => q h0)]
      · rw [sg_X8_item_0, if_pos (c6.mpr h1), hS.t2 ht, Option.bind_some, h0, if_neg (by decide)]
    · have hs := so5 a2 h0
      have h00 : 0 ≤ gw A 102 t := by
        rcases hs with q | q | q | q | q <;> rw [q] <;> decide
      by_cases h2 : ¬ p2 < 0 ∧ ¬ nI n ≤ p2
      · obtain ⟨j, hj, rfl⟩ := ix_lt (by omega) h2.1 h2.2
        have sx (x : Int64) : stL (L (72 + 2 * t + 1)) (nI j) x = some ((L (73 + 2 * t)).set j x) := by
          rw [show 72 + 2 * t + 1 = 73 + 2 * t by omega]
          exact stL_n (by omega) (by omega)
        have sm (x : Int64) : stL ((fu L (73 + 2 * t) ((L (73 + 2 * t)).set j (nar (gw A 102 t) p3))) 104) (60 * nI t + nI j) x = some ((L 104).set (60 * t + j) x) := by
          rw [fu_n _ _ (by omega), ixt]
          exact stL_n (by omega) (by omega)
        refine ⟨.int 1, I, A, (fu L (73 + 2 * t) ((L (73 + 2 * t)).set j (nar (gw A 102 t) p3))), F, E, I, A, fu (fu L (73 + 2 * t) ((L (73 + 2 * t)).set j (nar (gw A 102 t) p3))) 104 ((L 104).set (60 * t + j) (nar (gw A 102 t) p3)), F, E, ⟨_, rfl⟩, ?_, ?_, ?_, Nat.le_add_right _ _⟩
        · rw [sg_X7_item_0, if_pos h1, tape_at ht, Option.bind_some, a1, if_pos h0, a4, if_pos h2, sx, sx, sx, sx, sx, sx]
          simp only [Option.bind_some]
          rw [show 72 + 2 * t + 1 = 73 + 2 * t by omega]
          unfold nar
          rcases hs with q | q | q | q | q <;> rw [q]
          · rfl
          · rfl
          · rfl
          · rfl
          · show (if lg_cmp p3 0 = 0 then _ else _) = some (_, HP I A (fu L (73 + 2 * t) ((L (73 + 2 * t)).set j (if lg_cmp p3 0 = 0 then 0 else 1))) F E)
            split <;> rfl
        · rw [sg_X8_item_0, if_pos (c6.mpr h1), hS.t2 ht, Option.bind_some, if_pos h00, hS.t3 ht, Option.bind_some, a5, if_pos ((in_tape a3).mpr h2), Option.bind_some, sm, sm, sm, sm, sm, sm]
          simp only [Option.bind_some]
          generalize hL1 : fu L (73 + 2 * t) ((L (73 + 2 * t)).set j (nar (gw A 102 t) p3)) = L1
          unfold nar
          rcases hs with q | q | q | q | q <;> rw [q]
          · rfl
          · rfl
          · rfl
          · rfl
          · show (if lg_cmp p3 0 = 0 then _ else _) = some (_, HP I A (fu L1 104 ((L 104).set (60 * t + j) (if lg_cmp p3 0 = 0 then 0 else 1))) F E)
            split <;> rfl
        · refine sim_tape ht hS ((hS.1.fuL (a := 73 + 2 * t) (by rw [List.length_set])).fuL (a := 104) (by rw [List.length_set, fu_n _ _ (by omega)])) (fun _ _ => rfl) (fun _ _ _ => rfl) (fun _ _ => rfl) (fun _ _ => rfl) (fun a q1 q2 => by rw [fu_n _ _ q2, fu_n _ _ q1]) (fun q j' hq hqt hj' => by rw [fu_s, getD_set (by omega), if_neg (by omega)]) ?_
          refine ⟨a1, a2, n, a3, a4, a5, a6, fun i hi => ?_⟩
          rw [fu_n _ _ (by omega), fu_s, fu_s, getD_set (by omega), getD_set (by omega)]
          by_cases e : i = j
          · rw [if_pos e, if_pos (by omega)]
          · rw [if_neg e, if_neg (by omega)]
            exact a7 i hi
      · refine ⟨.int (-13), I, A, L, F, E, I, A, L, F, E, ⟨_, rfl⟩, ?_, ?_, hS, Nat.le_add_right _ _⟩
        · rw [sg_X7_item_0, if_pos h1, tape_at ht, Option.bind_some, a1, if_pos h0, a4, if_neg h2]
        · rw [sg_X8_item_0, if_pos (c6.mpr h1), hS.t2 ht, Option.bind_some, if_pos h00, hS.t3 ht, Option.bind_some, a5, if_neg (fun q => h2 ((in_tape a3).mp q))]
  · refine ⟨.int (-1), I, A, L, F, E, I, A, L, F, E, ⟨_, rfl⟩, ?_, ?_, hS, Nat.le_add_right _ _⟩
    · rw [sg_X7_item_0, if_neg h1]
    · rw [sg_X8_item_0, if_neg (fun q => h1 (c6.mp q))]
end TAP
