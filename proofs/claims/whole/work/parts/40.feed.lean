/-! feed: both sides alike -/
theorem pr_feed (p1 : Int32) : Pr tyI 65 129 [.int p1] := by
  intro I A L F E hS
  obtain ⟨n, t1, t2, t3, t4⟩ := hS.2.2.2.2.1
  have hl43 := hS.1.i (a := 43) (n := 100) (by decide)
  have hl88 := hS.1.i (a := 88) (n := 100) (by decide)
  by_cases h1 : ¬ p1 < 0 ∧ ¬ 127 < p1
  · by_cases e : n = 100
    · subst e
      refine ⟨.int (-4), I, A, L, F, E, I, A, L, F, E, ⟨_, rfl⟩, ?_, ?_, hS, Nat.le_add_right _ _⟩
      · rw [sg_X7_feed_0, if_neg h1.1, if_pos (nle_lt h1.2), t2, if_neg (by decide)]
      · rw [sg_X8_feed_0, if_pos h1, t3, if_neg (fun q => q rfl)]
    · have hlt : nI n < 100 := nI_lt (a := n) (b := 100) (by omega) (by omega)
      refine ⟨.int (nI (n + 1)), (fu I 4201 (nI (n + 1))), (fu A 43 ((A 43).set n p1)), L, F, E, fu (fu I 4201 (nI (n + 1))) 8405 (nI (n + 1)), fu (fu A 43 ((A 43).set n p1)) 88 ((A 88).set n p1), L, F, E, ⟨_, rfl⟩, ?_, ?_, ?_, Nat.le_add_right _ _⟩
      · rw [sg_X7_feed_0, if_neg h1.1, if_pos (nle_lt h1.2), t2, if_pos hlt, sg_X6_add_0, t2, if_pos hlt, stI_n (by omega) (by omega), Option.bind_some, Option.bind_some, in1]
        show mm_run G0 65 36 _ [] _ = _
        rw [sg_X7_feed_36, fu_s]
      · rw [sg_X8_feed_0, if_pos h1, fu_n _ _ (by decide), t3, if_pos (show nI n ≠ 100 from nI_ne (b := 100) (by omega) (by decide) e), fu_n _ _ (by decide), stI_n (by omega) (by omega), Option.bind_some, in1]
      · refine ⟨(hS.1.fuI (a := 43) (by rw [List.length_set])).fuI (a := 88) (by rw [List.length_set, fu_n _ _ (by decide)]), ?_, ?_, ?_, ?_, ?_⟩
        · have hw : gw (fu (fu A 43 ((A 43).set n p1)) 88 ((A 88).set n p1)) 85 = gw A 85 := by rw [gw_ne (by decide), gw_ne (by decide)]
          rw [hw]
          have q (a : Nat) (ha : a < 42) : fu (fu A 43 ((A 43).set n p1)) 88 ((A 88).set n p1) a = A a := by rw [fu_n _ _ (by omega), fu_n _ _ (by omega)]
          have q2 (a : Nat) (ha : a < 4200) : fu (fu I 4201 (nI (n + 1))) 8405 (nI (n + 1)) a = I a := by rw [fu_n _ _ (by omega), fu_n _ _ (by omega)]
          exact hS.2.1.cg (fun s k h1 h2 => q2 _ (by omega)) (fun s h1 => q _ (by omega)) (q _ (by omega)) ⟨q2 _ (by omega), q _ (by omega), q _ (by omega)⟩ ⟨q2 _ (by omega), q _ (by omega), q _ (by omega)⟩ ⟨q2 _ (by omega), q _ (by omega), q _ (by omega)⟩
        · have hw : gw (fu (fu A 43 ((A 43).set n p1)) 88 ((A 88).set n p1)) 85 = gw A 85 := by rw [gw_ne (by decide), gw_ne (by decide)]
          rw [hw]
          exact hS.2.2.1
        · have q (a : Nat) (ha : a ≠ 43) (hb : a ≠ 88) : fu (fu A 43 ((A 43).set n p1)) 88 ((A 88).set n p1) a = A a := by rw [fu_n _ _ (by omega), fu_n _ _ (by omega)]
          have q2 (a : Nat) (ha : a ≠ 4201) (hb : a ≠ 8405) : fu (fu I 4201 (nI (n + 1))) 8405 (nI (n + 1)) a = I a := by rw [fu_n _ _ (by omega), fu_n _ _ (by omega)]
          exact hS.2.2.2.1.cg ⟨q2 _ (by omega) (by omega), q2 _ (by omega) (by omega)⟩ (fun s k h1 h2 => q2 _ (by omega) (by omega)) (fun s h1 => q _ (by omega) (by omega)) (q _ (by omega) (by omega)) ⟨q2 _ (by omega) (by omega), q _ (by omega) (by omega), q _ (by omega) (by omega)⟩ ⟨q2 _ (by omega) (by omega), q _ (by omega) (by omega), q _ (by omega) (by omega)⟩ ⟨q2 _ (by omega) (by omega), q _ (by omega) (by omega), q _ (by omega) (by omega)⟩ (q _ (by omega) (by omega))
        · refine ⟨n + 1, by omega, by rw [fu_n _ _ (by decide), fu_s], fu_s _ _ _, fun j hj => ?_⟩
          rw [fu_n _ _ (by decide), fu_s, fu_s, getD_set (by omega), getD_set (by omega)]
          by_cases ej : j = n
          · rw [if_pos ej, if_pos ej]
          · rw [if_neg ej, if_neg ej]
            exact t4 j (by omega)
        · have q (a : Nat) (ha : 100 ≤ a) : fu (fu A 43 ((A 43).set n p1)) 88 ((A 88).set n p1) a = A a := by rw [fu_n _ _ (by omega), fu_n _ _ (by omega)]
          have q2 (a : Nat) (ha : 7200 ≤ a) (hb : a < 8400) : fu (fu I 4201 (nI (n + 1))) 8405 (nI (n + 1)) a = I a := by rw [fu_n _ _ (by omega), fu_n _ _ (by omega)]
          exact hS.2.2.2.2.2.cg (fun t k h1 h2 => q2 _ (by omega) (by omega)) (q _ (by omega)) (q _ (by omega)) (fun _ _ => rfl) rfl
  · refine ⟨.int (-2), I, A, L, F, E, I, A, L, F, E, ⟨_, rfl⟩, ?_, ?_, hS, Nat.le_add_right _ _⟩
    · rw [sg_X7_feed_0]
      by_cases a : p1 < 0
      · rw [if_pos a]
      · rw [if_neg a, if_neg (fun q => h1 ⟨a, fun z => by rw [i_le] at q; rw [i_lt] at z; omega⟩)]
    · rw [sg_X8_feed_0, if_neg h1]
