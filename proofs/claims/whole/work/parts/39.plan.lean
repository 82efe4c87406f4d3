/-! plan: both sides alike -/
theorem pl_push {I : Nat → Int32} {A : Nat → List Int32} {L : Nat → List Int64} {F : Nat → Int64} {E : MH} {p1 p2 : Int32} (hS : Sim I A L) (hq : ∃ s, s < 4 ∧ p1 = nI s ∧ (s < 2 → -20 ≤ p2.toInt ∧ p2.toInt ≤ 20) ∧ (s = 2 → 0 ≤ p2.toInt ∧ p2.toInt ≤ 5) ∧ (s = 3 → ∃ m, m ≤ 40 ∧ p2 = nI m)) :
    ∃ (v : Int32) (I1 I' : Nat → Int32) (A1 A' : Nat → List Int32), xrow I A L F E 8 p1 p2 = some (some (.int v), HP I1 A1 L F E) ∧ mrow I1 A1 L F E 198 8 p1 p2 = some (some (.int v), HP I' A' L F E) ∧ Sim I' A' L := by
  have hr : ((8 : Nat) = 5 ∧ (198 : Nat) = 185 ∧ (8 : Nat) = 6) ∨ ((8 : Nat) = 8 ∧ (198 : Nat) = 198 ∧ (8 : Nat) = 8) ∨ ((8 : Nat) = 11 ∧ (198 : Nat) = 215 ∧ (8 : Nat) = 8) := Or.inr (Or.inl ⟨rfl, rfl, rfl⟩)
  obtain ⟨g1, g2, ⟨n3, a3, b3, c3⟩, ⟨n4, a4, b4, c4⟩, n5, a5, b5, c5⟩ := hS.2.2.1
  have z := row_push (r := 8) (c := 198) (m := 8) (F := F) (E := E) (p1 := p1) (p2 := p2) hr hS ⟨n4, a4, b4⟩ (fun n hn hg => by
    refine ⟨fun s hs => (g1 s hs).cg (fun j hj => by rw [fu_n _ _ (by omega), fu_n _ _ (by omega), fu_n _ _ (by omega)]), fun k hk => by rw [fu_n _ _ (by omega), fu_n _ _ (by omega), fu_n _ _ (by omega)]; exact g2 k hk, ⟨n3, a3, by rw [fu_n _ _ (by omega), fu_n _ _ (by omega), fu_n _ _ (by omega)]; exact b3, fun j hj => by rw [fu_n _ _ (by omega), fu_n _ _ (by omega), fu_n _ _ (by omega), fu_n _ _ (by omega), fu_n _ _ (by omega), fu_n _ _ (by omega)]; exact c3 j hj⟩, ⟨n + 1, by omega, fu_s _ _ _, fun j hj => ?_⟩, n5, a5, by rw [fu_n _ _ (by omega), fu_n _ _ (by omega), fu_n _ _ (by omega)]; exact b5, fun j hj => by rw [fu_n _ _ (by omega), fu_n _ _ (by omega), fu_n _ _ (by omega)]; exact c5 j hj⟩
    by_cases e : j = n
    · subst e
      have e1 : fu (fu (fu (gw A 85) (198 + 1 + 2 * j) p1) (198 + 2 + 2 * j) p2) 198 (nI (j + 1)) (199 + 2 * j) = p1 := by
        rw [fu_n _ _ (by omega), fu_n _ _ (by omega), show 199 + 2 * j = 198 + 1 + 2 * j by omega, fu_s]
      have e2 : fu (fu (fu (gw A 85) (198 + 1 + 2 * j) p1) (198 + 2 + 2 * j) p2) 198 (nI (j + 1)) (200 + 2 * j) = p2 := by
        rw [fu_n _ _ (by omega), show 200 + 2 * j = 198 + 2 + 2 * j by omega, fu_s]
      rw [e1, e2]
      exact hq
    · rw [fu_n _ _ (by omega), fu_n _ _ (by omega), fu_n _ _ (by omega), fu_n _ _ (by omega), fu_n _ _ (by omega), fu_n _ _ (by omega)]
      have : n4 = n := (nI_eq (by omega) (by omega)).mp (b4.symm.trans hg)
      exact c4 j (by omega))
  exact z
theorem rg {v a b : Int32} (h : ¬ v < a ∧ ¬ b < v) : a.toInt ≤ v.toInt ∧ v.toInt ≤ b.toInt := by
  have h1 := h.1
  have h2 := h.2
  rw [i_lt] at h1 h2
  omega
theorem okS_ran {v a b : Int32} : ((if v < a then false else if b < v then false else true) = true) ↔ (¬ v < a ∧ ¬ b < v) := by
  by_cases h1 : v < a
  · rw [if_pos h1]
    exact ⟨fun q => (by cases q), fun q => absurd h1 q.1⟩
  · by_cases h2 : b < v
    · rw [if_neg h1, if_pos h2]
      exact ⟨fun q => (by cases q), fun q => absurd h2 q.2⟩
    · rw [if_neg h1, if_neg h2]
      exact ⟨fun _ => ⟨h1, h2⟩, fun _ => rfl⟩
theorem okS_p1 {v : Int32} : okS (nI 1) v = true ↔ (¬ v < -20 ∧ ¬ 20 < v) := okS_ran
theorem okS_p2 {v : Int32} : okS (nI 2) v = true ↔ (¬ v < 0 ∧ ¬ 5 < v) := okS_ran
theorem pr_plan (p1 p2 : Int32) : Pr tyI 84 175 [.int p1, .int p2] := by
  intro I A L F E hS
  by_cases h0 : p1 ≠ -1
  · by_cases h1 : ¬ p1 < 0 ∧ ¬ 3 < p1
    · obtain ⟨s, hs, es⟩ := st4 (c4.mp h1)
      -- the size of the step is as it must be
      by_cases hok : (s < 2 → ¬ p2 < -20 ∧ ¬ 20 < p2) ∧ (s = 2 → ¬ p2 < 0 ∧ ¬ 5 < p2) ∧ (s = 3 → ¬ p2 < 0 ∧ ¬ 40 < p2)
      · obtain ⟨v, I1, I', A1, A', x1, x2, x3⟩ := pl_push (F := F) (E := E) (p1 := p1) (p2 := p2) hS ⟨s, hs, es, fun q => rg (hok.1 q), fun q => rg (hok.2.1 q), fun q => by
          obtain ⟨m, hm, em⟩ := ix_lt (x := p2) (n := 41) (by decide) (hok.2.2 q).1 (fun z => (hok.2.2 q).2 (by
            rw [i_le] at z
            rw [i_lt]
            have : (nI 41).toInt = 41 := rfl
            have := ii40
            omega))
          exact ⟨m, by omega, em⟩⟩
        refine ⟨.int v, I1, A1, L, F, E, I', A', L, F, E, ⟨_, rfl⟩, ?_, ?_, x3, Nat.le_add_right _ _⟩
        · rw [sg_X7_plan_0, if_pos h0, if_neg h1.1, if_pos (nle_lt h1.2)]
          subst es
          match s, hs, hok with
          | 0, _, hok =>
            rw [if_neg (fun q => q rfl), if_pos (hok.1 (by decide))]
            exact x1
          | 1, _, hok =>
            rw [if_pos (by decide), if_pos (by decide), if_pos (okS_p1.mpr (hok.1 (by decide)))]
            exact x1
          | 2, _, hok =>
            rw [if_pos (by decide), if_pos (by decide), if_pos (okS_p2.mpr (hok.2.1 rfl))]
            exact x1
          | 3, _, hok =>
            rw [if_pos (by decide), if_neg (fun q => q rfl), if_neg (hok.2.2 rfl).1, if_neg (hok.2.2 rfl).2]
            exact x1
        · rw [sg_X8_plan_0, if_pos h0, if_pos h1]
          subst es
          match s, hs, hok with
          | 0, _, hok =>
            rw [if_neg (by decide), if_pos (hok.1 (by decide))]
            exact x2
          | 1, _, hok =>
            rw [if_neg (by decide), if_pos (hok.1 (by decide))]
            exact x2
          | 2, _, hok =>
            rw [if_pos (by decide), if_neg (fun q => q rfl), if_pos (hok.2.1 rfl)]
            exact x2
          | 3, _, hok =>
            rw [if_pos (by decide), if_pos (by decide), if_pos (hok.2.2 rfl)]
            exact x2
      · refine ⟨.int (-2), I, A, L, F, E, I, A, L, F, E, ⟨_, rfl⟩, ?_, ?_, hS, Nat.le_add_right _ _⟩
        · rw [sg_X7_plan_0, if_pos h0, if_neg h1.1, if_pos (nle_lt h1.2)]
          subst es
          match s, hs, hok with
          | 0, _, hok =>
            rw [if_neg (fun q => q rfl), if_neg (fun q => hok ⟨fun _ => q, fun z => (by cases z), fun z => (by cases z)⟩)]
          | 1, _, hok =>
            rw [if_pos (by decide), if_pos (by decide), if_neg (fun q => hok ⟨fun _ => okS_p1.mp q, fun z => (by cases z), fun z => (by cases z)⟩)]
          | 2, _, hok =>
            rw [if_pos (by decide), if_pos (by decide), if_neg (fun q => hok ⟨fun z => by omega, fun _ => okS_p2.mp q, fun z => (by cases z)⟩)]
          | 3, _, hok =>
            rw [if_pos (by decide), if_neg (fun q => q rfl)]
            by_cases a : p2 < 0
            · rw [if_pos a]
            · rw [if_neg a]
              by_cases b : 40 < p2
              · rw [if_pos b]
              · exact absurd ⟨fun z => by omega, fun z => by omega, fun _ => ⟨a, b⟩⟩ hok
        · rw [sg_X8_plan_0, if_pos h0, if_pos h1]
          subst es
          match s, hs, hok with
          | 0, _, hok =>
            rw [if_neg (by decide), if_neg (fun q => hok ⟨fun _ => q, fun z => (by cases z), fun z => (by cases z)⟩)]
          | 1, _, hok =>
            rw [if_neg (by decide), if_neg (fun q => hok ⟨fun _ => q, fun z => (by cases z), fun z => (by cases z)⟩)]
          | 2, _, hok =>
            rw [if_pos (by decide), if_neg (fun q => q rfl), if_neg (fun q => hok ⟨fun z => by omega, fun _ => q, fun z => (by cases z)⟩)]
          | 3, _, hok =>
            rw [if_pos (by decide), if_pos (by decide), if_neg (fun q => hok ⟨fun z => by omega, fun z => by omega, fun _ => q⟩)]
    · refine ⟨.int (-1), I, A, L, F, E, I, A, L, F, E, ⟨_, rfl⟩, ?_, ?_, hS, Nat.le_add_right _ _⟩
      · rw [sg_X7_plan_0, if_pos h0]
        by_cases a : p1 < 0
        · rw [if_pos a]
        · rw [if_neg a, if_neg (fun q => h1 ⟨a, fun z => by rw [i_le] at q; rw [i_lt] at z; omega⟩)]
      · rw [sg_X8_plan_0, if_pos h0, if_neg h1]
  · have hr : ((8 : Nat) = 5 ∧ (198 : Nat) = 185 ∧ (8 : Nat) = 6) ∨ ((8 : Nat) = 8 ∧ (198 : Nat) = 198 ∧ (8 : Nat) = 8) ∨ ((8 : Nat) = 11 ∧ (198 : Nat) = 215 ∧ (8 : Nat) = 8) := Or.inr (Or.inl ⟨rfl, rfl, rfl⟩)
    obtain ⟨y1, y2⟩ := row_clr hr hS
    refine ⟨.int 0, (fu I (100 * 8 + 3) 0), A, L, F, E, fu I (100 * 8 + 3) 0, fu A 85 ((A 85).set 198 0), L, F, E, ⟨_, rfl⟩, ?_, ?_, y2, Nat.le_add_right _ _⟩
    · rw [sg_X7_plan_0, if_neg h0]
    · rw [sg_X8_plan_0, if_neg h0, show (198 : Int32) = nI 198 from rfl, y1, Option.bind_some]
