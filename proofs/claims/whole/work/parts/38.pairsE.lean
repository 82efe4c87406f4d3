/-! see, plan, book: both sides alike -/
theorem ii0 : (0 : Int32).toInt = 0 := rfl
theorem ii39 : (39 : Int32).toInt = 39 := rfl
theorem ii40 : (40 : Int32).toInt = 40 := rfl
theorem ix_in {n : Nat} {s : Int32} (hn : n < 2 ^ 31) (h0 : ¬ s < 0) (h : s < nI n) : ∃ k, k < n ∧ s = nI k := ix_lt hn h0 (fun q => by rw [i_le] at q; rw [i_lt] at h; omega)
theorem pr_see (p1 p2 : Int32) : Pr tyI 80 169 [.int p1, .int p2] := by
  intro I A L F E hS
  have hr : ((5 : Nat) = 5 ∧ (185 : Nat) = 185 ∧ (6 : Nat) = 6) ∨ ((5 : Nat) = 8 ∧ (185 : Nat) = 198 ∧ (6 : Nat) = 8) ∨ ((5 : Nat) = 11 ∧ (185 : Nat) = 215 ∧ (6 : Nat) = 8) := Or.inl ⟨rfl, rfl, rfl⟩
  by_cases h0 : p1 ≠ -1
  · by_cases h1 : ¬ p1 < 0 ∧ ¬ 4 ≤ p1
    · have h1' := c4.mpr h1
      by_cases h2 : ¬ p2 < 0 ∧ ¬ 39 < p2
      · have h2b : p2 < 40 := by
          have := h2.2
          rw [i_lt] at this ⊢
          have := ii39
          have := ii40
          omega
        obtain ⟨s, hs, es⟩ := st4 h1
        obtain ⟨p, hp, ep⟩ := ix_in (n := 40) (by decide) h2.1 h2b
        obtain ⟨g1, g2, ⟨n3, a3, b3, c3⟩, ⟨n4, a4, b4, c4⟩, n5, a5, b5, c5⟩ := hS.2.2.1
        obtain ⟨v, I1, I', A1, A', x1, x2, x3⟩ := row_push (F := F) (E := E) (p1 := p1) (p2 := p2) hr hS ⟨n3, a3, b3⟩ (fun n hn hg => by
          refine ⟨fun s hs => (g1 s hs).cg (fun j hj => by rw [fu_n _ _ (by omega), fu_n _ _ (by omega), fu_n _ _ (by omega)]), fun k hk => by rw [fu_n _ _ (by omega), fu_n _ _ (by omega), fu_n _ _ (by omega)]; exact g2 k hk, ⟨n + 1, by omega, fu_s _ _ _, fun j hj => ?_⟩, ⟨n4, a4, by rw [fu_n _ _ (by omega), fu_n _ _ (by omega), fu_n _ _ (by omega)]; exact b4, fun j hj => by rw [fu_n _ _ (by omega), fu_n _ _ (by omega), fu_n _ _ (by omega), fu_n _ _ (by omega), fu_n _ _ (by omega), fu_n _ _ (by omega)]; exact c4 j hj⟩, n5, a5, by rw [fu_n _ _ (by omega), fu_n _ _ (by omega), fu_n _ _ (by omega)]; exact b5, fun j hj => by rw [fu_n _ _ (by omega), fu_n _ _ (by omega), fu_n _ _ (by omega)]; exact c5 j hj⟩
          by_cases e : j = n
          · subst e
            rw [fu_n _ _ (by omega), fu_n _ _ (by omega), show 186 + 2 * j = 185 + 1 + 2 * j by omega, fu_s, show 187 + 2 * j = 185 + 2 + 2 * j by omega, fu_n (k := 185) _ _ (by omega), fu_s]
            exact ⟨⟨s, hs, es⟩, p, hp, ep⟩
          · rw [fu_n _ _ (by omega), fu_n _ _ (by omega), fu_n _ _ (by omega), fu_n _ _ (by omega), fu_n _ _ (by omega), fu_n _ _ (by omega)]
            have : n3 = n := (nI_eq (by omega) (by omega)).mp (b3.symm.trans hg)
            exact c3 j (by omega))
        refine ⟨.int v, I1, A1, L, F, E, I', A', L, F, E, ⟨_, rfl⟩, ?_, ?_, x3, Nat.le_add_right _ _⟩
        · rw [sg_X7_see_0, if_pos h0, if_pos h1, if_neg h2.1, if_pos h2b]
          exact x1
        · rw [sg_X8_see_0, if_pos h0, if_pos h1', if_pos h2]
          exact x2
      · refine ⟨.int (-2), I, A, L, F, E, I, A, L, F, E, ⟨_, rfl⟩, ?_, ?_, hS, Nat.le_add_right _ _⟩
        · rw [sg_X7_see_0, if_pos h0, if_pos h1]
          by_cases a : p2 < 0
          · rw [if_pos a]
          · rw [if_neg a, if_neg (fun q => h2 ⟨a, fun z => by rw [i_lt] at q z; have := ii39; have := ii40; omega⟩)]
        · rw [sg_X8_see_0, if_pos h0, if_pos h1', if_neg h2]
    · refine ⟨.int (-1), I, A, L, F, E, I, A, L, F, E, ⟨_, rfl⟩, ?_, ?_, hS, Nat.le_add_right _ _⟩
      · rw [sg_X7_see_0, if_pos h0, if_neg h1]
      · rw [sg_X8_see_0, if_pos h0, if_neg (fun q => h1 (c4.mp q))]
  · obtain ⟨y1, y2⟩ := row_clr hr hS
    refine ⟨.int 0, (fu I (100 * 5 + 3) 0), A, L, F, E, fu I (100 * 5 + 3) 0, fu A 85 ((A 85).set 185 0), L, F, E, ⟨_, rfl⟩, ?_, ?_, y2, Nat.le_add_right _ _⟩
    · rw [sg_X7_see_0, if_neg h0]
    · rw [sg_X8_see_0, if_neg h0, show (185 : Int32) = nI 185 from rfl, y1, Option.bind_some]
theorem pr_book (p1 p2 : Int32) : Pr tyI 86 178 [.int p1, .int p2] := by
  intro I A L F E hS
  have hr : ((11 : Nat) = 5 ∧ (215 : Nat) = 185 ∧ (8 : Nat) = 6) ∨ ((11 : Nat) = 8 ∧ (215 : Nat) = 198 ∧ (8 : Nat) = 8) ∨ ((11 : Nat) = 11 ∧ (215 : Nat) = 215 ∧ (8 : Nat) = 8) := Or.inr (Or.inr ⟨rfl, rfl, rfl⟩)
  by_cases h0 : p1 ≠ -1
  · by_cases h1 : ¬ p1 < 0 ∧ ¬ 4 ≤ p1
    · have h1' := c4.mpr h1
      by_cases h2 : ¬ p2 < 0 ∧ ¬ 40 < p2
      · obtain ⟨s, hs, es⟩ := st4 h1
        obtain ⟨g1, g2, ⟨n3, a3, b3, c3⟩, ⟨n4, a4, b4, c4⟩, n5, a5, b5, c5⟩ := hS.2.2.1
        obtain ⟨v, I1, I', A1, A', x1, x2, x3⟩ := row_push (F := F) (E := E) (p1 := p1) (p2 := p2) hr hS ⟨n5, a5, b5⟩ (fun n hn hg => by
          refine ⟨fun s hs => (g1 s hs).cg (fun j hj => by rw [fu_n _ _ (by omega), fu_n _ _ (by omega), fu_n _ _ (by omega)]), fun k hk => by rw [fu_n _ _ (by omega), fu_n _ _ (by omega), fu_n _ _ (by omega)]; exact g2 k hk, ⟨n3, a3, by rw [fu_n _ _ (by omega), fu_n _ _ (by omega), fu_n _ _ (by omega)]; exact b3, fun j hj => by rw [fu_n _ _ (by omega), fu_n _ _ (by omega), fu_n _ _ (by omega), fu_n _ _ (by omega), fu_n _ _ (by omega), fu_n _ _ (by omega)]; exact c3 j hj⟩, ⟨n4, a4, by rw [fu_n _ _ (by omega), fu_n _ _ (by omega), fu_n _ _ (by omega)]; exact b4, fun j hj => by rw [fu_n _ _ (by omega), fu_n _ _ (by omega), fu_n _ _ (by omega), fu_n _ _ (by omega), fu_n _ _ (by omega), fu_n _ _ (by omega)]; exact c4 j hj⟩, n + 1, by omega, fu_s _ _ _, fun j hj => ?_⟩
          by_cases e : j = n
          · subst e
            rw [fu_n _ _ (by omega), fu_n _ _ (by omega), show 216 + 2 * j = 215 + 1 + 2 * j by omega, fu_s]
            exact ⟨s, hs, es⟩
          · rw [fu_n _ _ (by omega), fu_n _ _ (by omega), fu_n _ _ (by omega)]
            have : n5 = n := (nI_eq (by omega) (by omega)).mp (b5.symm.trans hg)
            exact c5 j (by omega))
        refine ⟨.int v, I1, A1, L, F, E, I', A', L, F, E, ⟨_, rfl⟩, ?_, ?_, x3, Nat.le_add_right _ _⟩
        · rw [sg_X7_book_0, if_pos h0, if_pos h1, if_neg h2.1, if_pos (nle_lt h2.2)]
          exact x1
        · rw [sg_X8_book_0, if_pos h0, if_pos h1', if_pos h2]
          exact x2
      · refine ⟨.int (-2), I, A, L, F, E, I, A, L, F, E, ⟨_, rfl⟩, ?_, ?_, hS, Nat.le_add_right _ _⟩
        · rw [sg_X7_book_0, if_pos h0, if_pos h1]
          by_cases a : p2 < 0
          · rw [if_pos a]
          · rw [if_neg a, if_neg (fun q => h2 ⟨a, fun z => by rw [i_le] at q; rw [i_lt] at z; omega⟩)]
        · rw [sg_X8_book_0, if_pos h0, if_pos h1', if_neg h2]
    · refine ⟨.int (-1), I, A, L, F, E, I, A, L, F, E, ⟨_, rfl⟩, ?_, ?_, hS, Nat.le_add_right _ _⟩
      · rw [sg_X7_book_0, if_pos h0, if_neg h1]
      · rw [sg_X8_book_0, if_pos h0, if_neg (fun q => h1 (c4.mp q))]
  · obtain ⟨y1, y2⟩ := row_clr hr hS
    refine ⟨.int 0, (fu I (100 * 11 + 3) 0), A, L, F, E, fu I (100 * 11 + 3) 0, fu A 85 ((A 85).set 215 0), L, F, E, ⟨_, rfl⟩, ?_, ?_, y2, Nat.le_add_right _ _⟩
    · rw [sg_X7_book_0, if_neg h0]
    · rw [sg_X8_book_0, if_neg h0, show (215 : Int32) = nI 215 from rfl, y1, Option.bind_some]
