/-! weights, counts, rows told by hand -/
theorem wk5 {p : Int32} (h : ¬ p < -2 ∧ ¬ 2 < p) : ∃ k, k < 5 ∧ p + 2 = nI k ∧ 180 + p + 2 = nI (180 + k) := by
  have h1 := h.1
  have h2 := h.2
  rw [i_lt] at h1 h2
  have e1 : (-2 : Int32).toInt = -2 := rfl
  have e2 : (2 : Int32).toInt = 2 := rfl
  have hc : p.toInt = -2 ∨ p.toInt = -1 ∨ p.toInt = 0 ∨ p.toInt = 1 ∨ p.toInt = 2 := by omega
  rcases hc with q | q | q | q | q
  · have : p = -2 := i_eq.mpr q
    subst this
    exact ⟨0, by decide, by decide, by decide⟩
  · have : p = -1 := i_eq.mpr q
    subst this
    exact ⟨1, by decide, by decide, by decide⟩
  · have : p = 0 := i_eq.mpr q
    subst this
    exact ⟨2, by decide, by decide, by decide⟩
  · have : p = 1 := i_eq.mpr q
    subst this
    exact ⟨3, by decide, by decide, by decide⟩
  · have : p = 2 := i_eq.mpr q
    subst this
    exact ⟨4, by decide, by decide, by decide⟩
theorem sim_weight {I : Nat → Int32} {A : Nat → List Int32} {L : Nat → List Int64} {k : Nat} {v : Int32} (hk : k < 5) (hv : 0 ≤ v.toInt ∧ v.toInt ≤ 5) (h : Sim I A L) : Sim I (fu (fu A 4 ((A 4).set k v)) 85 ((A 85).set (180 + k) v)) L := by
  have hl4 := h.1.i (a := 4) (n := 5) (by decide)
  have hl85 := h.1.i (a := 85) (n := 232) (by decide)
  have hw : gw (fu (fu A 4 ((A 4).set k v)) 85 ((A 85).set (180 + k) v)) 85 = fu (gw A 85) (180 + k) v := by
    funext j
    unfold gw
    rw [fu_s, getD_set (by omega)]
    rfl
  have hs : Shp (fu (fu A 4 ((A 4).set k v)) 85 ((A 85).set (180 + k) v)) L := by
    refine (h.1.fuI (a := 4) (by rw [List.length_set])).fuI ?_
    rw [List.length_set, fu_n _ _ (by decide)]
  obtain ⟨r1, r2, r3, r4, r5⟩ := h.2.1
  refine sim_now h hs (fun _ _ => rfl) (fun a h1 h2 => by rw [fu_n _ _ h2, fu_n _ _ (by omega)]) ?_ ?_
  · rw [hw]
    refine ⟨⟨fun s j hs hj => ?_, fun s n p hs hn0 hn hp => ?_⟩, fun j hj => ?_, ?_, ?_, ?_⟩
    · rw [fu_n _ _ (by omega)]
      exact r1.1 s j hs hj
    · rw [fu_n _ _ (by omega), fu_n _ _ (by omega), fu_n _ _ (by omega)]
      rw [fu_n _ _ (by omega)] at hn0
      exact r1.2 s n p hs hn0 hn hp
    · rw [fu_n _ _ (by omega), fu_s, getD_set (by omega)]
      by_cases e : j = k
      · subst e
        rw [if_pos rfl, fu_s]
      · rw [if_neg e, fu_n _ _ (by omega)]
        exact r2 j hj
    · exact (r3.cg rfl (by rw [fu_n _ _ (by decide), fu_n _ _ (by decide)]) (by rw [fu_n _ _ (by decide), fu_n _ _ (by decide)])).w (fun j _ => fu_n _ _ (by omega))
    · exact (r4.cg rfl (by rw [fu_n _ _ (by decide), fu_n _ _ (by decide)]) (by rw [fu_n _ _ (by decide), fu_n _ _ (by decide)])).w (fun j _ => fu_n _ _ (by omega))
    · exact (r5.cg rfl (by rw [fu_n _ _ (by decide), fu_n _ _ (by decide)]) (by rw [fu_n _ _ (by decide), fu_n _ _ (by decide)])).w (fun j _ => fu_n _ _ (by omega))
  · rw [hw]
    obtain ⟨h1, h2, ⟨n3, a3, b3, c3⟩, ⟨n4, a4, b4, c4⟩, n5, a5, b5, c5⟩ := h.2.2.1
    have e : ∀ j, 185 ≤ j → fu (gw A 85) (180 + k) v j = gw A 85 j := fun j hj => fu_n _ _ (by omega)
    refine ⟨fun s hs => (h1 s hs).cg (fun j hj => fu_n _ _ (by omega)), fun j hj => ?_, ⟨n3, a3, by rw [e _ (by omega)]; exact b3, fun j hj => by rw [e _ (by omega), e _ (by omega)]; exact c3 j hj⟩, ⟨n4, a4, by rw [e _ (by omega)]; exact b4, fun j hj => by rw [e _ (by omega), e _ (by omega)]; exact c4 j hj⟩, n5, a5, by rw [e _ (by omega)]; exact b5, fun j hj => by rw [e _ (by omega)]; exact c5 j hj⟩
    by_cases ej : j = k
    · subst ej
      rw [fu_s]
      exact hv
    · rw [fu_n _ _ (by omega)]
      exact h2 j hj
theorem pr_weighs (p1 : Int32) : Pr tyI 75 155 [.int p1] := by
  intro I A L F E hS
  by_cases h1 : ¬ p1 < -2 ∧ ¬ 2 < p1
  · obtain ⟨k, hk, e1, e2⟩ := wk5 h1
    have hl4 := hS.1.i (a := 4) (n := 5) (by decide)
    refine ⟨.int (gw A 85 (180 + k)), I, A, L, F, E, I, A, L, F, E, ⟨_, rfl⟩, ?_, ?_, hS, Nat.le_add_right _ _⟩
    · rw [sg_X7_weighs_0, if_pos h1, e1, ldI_d (by omega) (by omega), Option.bind_some, hS.2.1.2.1 k hk]
    · rw [sg_X8_weighs_0, if_pos h1, e2, hS.w (by omega), Option.bind_some]
  · refine ⟨.int (-1), I, A, L, F, E, I, A, L, F, E, ⟨_, rfl⟩, ?_, ?_, hS, Nat.le_add_right _ _⟩
    · rw [sg_X7_weighs_0, if_neg h1]
    · rw [sg_X8_weighs_0, if_neg h1]
theorem pr_weight (p1 p2 : Int32) : Pr tyI 74 154 [.int p1, .int p2] := by
  intro I A L F E hS
  by_cases h1 : ¬ p1 < -2 ∧ ¬ 2 < p1
  · obtain ⟨k, hk, e1, e2⟩ := wk5 h1
    have hl4 := hS.1.i (a := 4) (n := 5) (by decide)
    have hl85 := hS.1.i (a := 85) (n := 232) (by decide)
    by_cases h2 : ¬ p2 < 0 ∧ ¬ 5 < p2
    · have hv : 0 ≤ p2.toInt ∧ p2.toInt ≤ 5 := by
        have a := h2.1
        have b := h2.2
        rw [i_lt] at a b
        have e1 : (0 : Int32).toInt = 0 := rfl
        have e2 : (5 : Int32).toInt = 5 := rfl
        omega
      refine ⟨.int (gw A 85 (180 + k)), I, (fu A 4 ((A 4).set k p2)), L, F, E, I, fu (fu A 4 ((A 4).set k p2)) 85 ((A 85).set (180 + k) p2), L, F, E, ⟨_, rfl⟩, ?_, ?_, sim_weight hk hv hS, Nat.le_add_right _ _⟩
      · rw [sg_X7_weight_0, if_pos h1, if_neg h2.1, if_pos (nle_lt h2.2), e1, ldI_d (by omega) (by omega), Option.bind_some, stI_n (by omega) (by omega), Option.bind_some, hS.2.1.2.1 k hk]
      · rw [sg_X8_weight_0, if_pos h1, if_pos h2, e2, fu_n _ _ (by decide), hS.w (by omega), Option.bind_some, stI_n (by omega) (by omega), Option.bind_some]
    · refine ⟨.int (-2), I, A, L, F, E, I, A, L, F, E, ⟨_, rfl⟩, ?_, ?_, hS, Nat.le_add_right _ _⟩
      · rw [sg_X7_weight_0, if_pos h1]
        by_cases a : p2 < 0
        · rw [if_pos a]
        · rw [if_neg a, if_neg (fun q => h2 ⟨a, fun z => by rw [i_le] at q; rw [i_lt] at z; omega⟩)]
      · rw [sg_X8_weight_0, if_pos h1, if_neg h2]
  · refine ⟨.int (-1), I, A, L, F, E, I, A, L, F, E, ⟨_, rfl⟩, ?_, ?_, hS, Nat.le_add_right _ _⟩
    · rw [sg_X7_weight_0, if_neg h1]
    · rw [sg_X8_weight_0, if_neg h1]
theorem pr_count (p1 : Int32) : Pr tyI 91 185 [.int p1] := by
  intro I A L F E hS
  have w4 (s : Nat) (hs : s < 4) : ldI (A 85) (45 * nI s + 4) = some (I (100 * (14 + 2 * s) + 4)) := by
    rw [ix4, hS.w (by omega), hS.fld hs (by decide)]
  have b1 : I 503 = gw A 85 185 := hS.2.1.2.2.1.1
  have b2 : I 803 = gw A 85 198 := hS.2.1.2.2.2.1.1
  have b3 : I 1103 = gw A 85 215 := hS.2.1.2.2.2.2.1
  obtain ⟨n, t1, t2, t3, t4⟩ := hS.2.2.2.2.1
  refine ⟨.int (if p1 = 0 then I 1404 + I 1604 + I 1804 + I 2004 else if p1 = 1 then I 503 else if p1 = 2 then I 803 else if p1 = 3 then I 1103 else if p1 = 4 then I 4201 else -2), I, A, L, F, E, I, A, L, F, E, ⟨_, rfl⟩, ?_, ?_, hS, Nat.le_add_right _ _⟩
  · rw [sg_X7_count_0]
    by_cases h0 : p1 = 0
    · rw [if_pos h0, if_pos h0, Int32.zero_add]
    · by_cases h1 : p1 = 1
      · rw [if_neg h0, if_neg h0, if_pos h1, if_pos h1]
      · by_cases h2 : p1 = 2
        · rw [if_neg h0, if_neg h0, if_neg h1, if_neg h1, if_pos h2, if_pos h2]
        · by_cases h3 : p1 = 3
          · rw [if_neg h0, if_neg h0, if_neg h1, if_neg h1, if_neg h2, if_neg h2, if_pos h3, if_pos h3]
          · rw [if_neg h0, if_neg h0, if_neg h1, if_neg h1, if_neg h2, if_neg h2, if_neg h3, if_neg h3]
            split <;> rfl
  · rw [sg_X8_count_0]
    by_cases h0 : p1 = 0
    · rw [if_pos h0, if_pos h0]
      rw [show ((45 : Int32) * 0 + 4) = 45 * nI 0 + 4 from rfl, show ((45 : Int32) * 1 + 4) = 45 * nI 1 + 4 from rfl, show ((45 : Int32) * 2 + 4) = 45 * nI 2 + 4 from rfl, show ((45 : Int32) * 3 + 4) = 45 * nI 3 + 4 from rfl, w4 0 (by decide), w4 1 (by decide), w4 2 (by decide), w4 3 (by decide)]
      rfl
    · by_cases h1 : p1 = 1
      · rw [if_neg h0, if_neg h0, if_pos h1, if_pos h1, show (185 : Int32) = nI 185 from rfl, hS.w (by decide), b1]
        rfl
      · by_cases h2 : p1 = 2
        · rw [if_neg h0, if_neg h0, if_neg h1, if_neg h1, if_pos h2, if_pos h2, show (198 : Int32) = nI 198 from rfl, hS.w (by decide), b2]
          rfl
        · by_cases h3 : p1 = 3
          · rw [if_neg h0, if_neg h0, if_neg h1, if_neg h1, if_neg h2, if_neg h2, if_pos h3, if_pos h3, show (215 : Int32) = nI 215 from rfl, hS.w (by decide), b3]
            rfl
          · rw [if_neg h0, if_neg h0, if_neg h1, if_neg h1, if_neg h2, if_neg h2, if_neg h3, if_neg h3, t2, t3]
            split <;> rfl
