/-! value, drop, set: both sides alike -/
theorem nI40 {n : Nat} (h : n < 40) : nI n < 40 := nI_lt (b := 40) h (by decide)
theorem pr_drop (p1 : Int32) : Pr tyI 60 120 [.int p1] := by
  intro I A L F E hS
  by_cases h1 : ¬ p1 < 0 ∧ ¬ 4 ≤ p1
  · have h1' := c4.mpr h1
    obtain ⟨k, hk, rfl⟩ := st4 h1
    obtain ⟨n, hn, hIn, hwn⟩ := hS.len hk
    have hl85 := hS.1.i (a := 85) (n := 232) (by decide)
    cases n with
    | zero =>
      refine ⟨.int (-3), I, A, L, F, E, I, A, L, F, E, ⟨_, rfl⟩, ?_, ?_, hS, Nat.le_add_right _ _⟩
      · rw [sg_X7_drop_0, if_pos h1, now_at hk, Option.bind_some]
        show (if _ then _ else _) = _
        rw [hIn, if_neg (fun q => q rfl)]
      · rw [sg_X8_drop_0, if_pos h1', ix4, hS.w (by omega), Option.bind_some]
        show (if _ then _ else _) = _
        rw [hwn, if_neg (fun q => q rfl)]
    | succ n =>
      have hne : nI (n + 1) ≠ 0 := nI_ne (b := 0) (by omega) (by decide) (by omega)
      have em : nI (n + 1) - 1 = nI n := nI_pred n
      refine ⟨.int (nI n), (fu I (100 * (14 + 2 * k) + 4) (nI n)), A, L, F, E, fu I (100 * (14 + 2 * k) + 4) (nI n), fu A 85 ((A 85).set (45 * k + 4) (nI n)), L, F, E, ⟨_, rfl⟩, ?_, ?_, ?_, Nat.le_add_right _ _⟩
      · rw [sg_X7_drop_0, if_pos h1, now_at hk, Option.bind_some]
        show (if _ then _ else _) = _
        rw [hIn, if_pos hne, em, fu_s]
      · rw [sg_X8_drop_0, if_pos h1', ix4, hS.w (by omega), Option.bind_some]
        show (if _ then _ else _) = _
        rw [hwn, if_pos hne, Option.bind_some, em, stI_n (by omega) (by omega), Option.bind_some, fu_s, ldI_d (by rw [List.length_set]; omega) (by rw [List.length_set]; omega), getD_set (by omega), if_pos rfl]
        rfl
      · have hw' := gw_set (A := A) (a := 85) (i := 45 * k + 4) (x := nI n) (by omega)
        refine sim_stream hk hS (hS.1.fuI (by rw [List.length_set])) (fun i hi => fu_n _ _ (by omega)) (fun a _ h2 => fu_n _ _ h2) hw' (fun j hj => fu_n _ _ (by omega)) ?_ (fun j hj => ?_) (fun m p hm hm2 hp => ?_)
        · have vv := hS.2.2.1.1 k hk
          unfold Vst at vv ⊢
          dsimp only at vv ⊢
          obtain ⟨v0, v1, v2, v3, v4, v5⟩ := vv
          refine ⟨by rw [fu_n _ _ (by omega)]; exact v0, by rw [fu_n _ _ (by omega)]; exact v1, by rw [fu_n _ _ (by omega)]; exact v2, by rw [fu_n _ _ (by omega)]; exact v3, ⟨n, by omega, fu_s _ _ _⟩, fun p hp => by rw [fu_n _ _ (by omega)]; exact v5 p hp⟩
        · by_cases e : j = 4
          · subst e
            rw [fu_s, fu_s]
          · rw [fu_n _ _ (by omega), fu_n _ _ (by omega)]
            exact hS.fld hk hj
        · rw [fu_s] at hm
          have : n = m := (nI_eq (by omega) (by omega)).mp hm
          subst this
          rw [fu_n _ _ (by omega), fu_n _ _ (by omega)]
          exact hS.val hk hn hwn (by omega)
  · refine ⟨.int (-1), I, A, L, F, E, I, A, L, F, E, ⟨_, rfl⟩, ?_, ?_, hS, Nat.le_add_right _ _⟩
    · rw [sg_X7_drop_0, if_neg h1]
    · rw [sg_X8_drop_0, if_neg (fun q => h1 (c4.mp q))]
theorem pr_value (p1 p2 : Int32) : Pr tyI 59 119 [.int p1, .int p2] := by
  intro I A L F E hS
  by_cases h1 : ¬ p1 < 0 ∧ ¬ 4 ≤ p1
  · have h1' := c4.mpr h1
    by_cases h2 : ¬ p2 < (-20) ∧ ¬ 20 < p2
    · obtain ⟨k, hk, rfl⟩ := st4 h1
      obtain ⟨n, hn, hIn, hwn⟩ := hS.len hk
      have hl85 := hS.1.i (a := 85) (n := 232) (by decide)
      have hlv := hS.1.val hk
      by_cases h3 : n = 40
      · subst h3
        refine ⟨.int (-4), I, A, L, F, E, I, A, L, F, E, ⟨_, rfl⟩, ?_, ?_, hS, Nat.le_add_right _ _⟩
        · rw [sg_X7_value_0, if_pos h1, if_pos h2, now_at hk, Option.bind_some]
          show (if _ then _ else _) = _
          rw [hIn, if_pos (by decide)]
        · rw [sg_X8_value_0, if_pos h1', if_pos h2, ix4, hS.w (by omega), Option.bind_some]
          show (if _ then _ else _) = _
          rw [hwn, if_neg (fun q => q rfl)]
      · have hlt : n < 40 := by omega
        have e14 : 14 + 2 * k + 1 = 15 + 2 * k := by omega
        have e85 : fu A (15 + 2 * k) ((A (15 + 2 * k)).set n p2) 85 = A 85 := fu_n _ _ (by omega)
        have ne40 : nI n ≠ 40 := nI_ne (b := 40) (by omega) (by decide) h3
        refine ⟨.int (nI (n + 1)), (fu I (100 * (14 + 2 * k) + 4) (nI (n + 1))), (fu A (15 + 2 * k) ((A (15 + 2 * k)).set n p2)), L, F, E, fu I (100 * (14 + 2 * k) + 4) (nI (n + 1)), fu (fu A (15 + 2 * k) ((A (15 + 2 * k)).set n p2)) 85 (((A 85).set (45 * k + 5 + n) p2).set (45 * k + 4) (nI (n + 1))), L, F, E, ⟨_, rfl⟩, ?_, ?_, ?_, Nat.le_add_right _ _⟩
        · rw [sg_X7_value_0, if_pos h1, if_pos h2, now_at hk, Option.bind_some]
          show (if _ then _ else _) = _
          rw [hIn, if_neg (fun q => q (nI40 hlt)), if_neg (fun q => q (nI40 hlt)), e14, stI_n (by omega) (by omega), Option.bind_some, nI_1, fu_s]
        · rw [sg_X8_value_0, if_pos h1', if_pos h2, ix4, e85, hS.w (by omega), Option.bind_some]
          show (if _ then _ else _) = _
          rw [hwn, if_pos ne40, Option.bind_some, ixv, stI_n (by omega) (by omega), Option.bind_some, fu_s, ldI_d (by rw [List.length_set]; omega) (by rw [List.length_set]; omega), getD_set (by omega), if_neg (by omega), Option.bind_some, show (A 85).getD (45 * k + 4) 0 = nI n from hwn, nI_1, stI_n (by rw [List.length_set]; omega) (by rw [List.length_set]; omega), Option.bind_some, fu_s, ldI_d (by rw [List.length_set, List.length_set]; omega) (by rw [List.length_set, List.length_set]; omega), getD_set (by rw [List.length_set]; omega), if_pos rfl, fu_fu]
          rfl
        · have hw' : gw (fu (fu A (15 + 2 * k) ((A (15 + 2 * k)).set n p2)) 85 (((A 85).set (45 * k + 5 + n) p2).set (45 * k + 4) (nI (n + 1)))) 85 = fu (fu (gw A 85) (45 * k + 5 + n) p2) (45 * k + 4) (nI (n + 1)) := by
            have := gw_set2 (A := fu A (15 + 2 * k) ((A (15 + 2 * k)).set n p2)) (a := 85) (i := 45 * k + 5 + n) (j := 45 * k + 4) (x := p2) (y := nI (n + 1)) (by rw [e85]; omega) (by rw [e85]; omega)
            rw [e85] at this
            rw [this, gw_ne (by omega)]
          refine sim_stream hk hS ((hS.1.fuI (by rw [List.length_set])).fuI (by rw [List.length_set, List.length_set, e85])) (fun i hi => fu_n _ _ (by omega)) (fun a h1 h2 => by rw [fu_n _ _ h2, fu_n _ _ h1]) hw' (fun j hj => by rw [fu_n _ _ (by omega), fu_n _ _ (by omega)]) ?_ (fun j hj => ?_) (fun m p hm hm2 hp => ?_)
          · have vv := hS.2.2.1.1 k hk
            unfold Vst at vv ⊢
            dsimp only at vv ⊢
            obtain ⟨v0, v1, v2, v3, v4, v5⟩ := vv
            refine ⟨by rw [fu_n _ _ (by omega), fu_n _ _ (by omega)]; exact v0, by rw [fu_n _ _ (by omega), fu_n _ _ (by omega)]; exact v1, by rw [fu_n _ _ (by omega), fu_n _ _ (by omega)]; exact v2, by rw [fu_n _ _ (by omega), fu_n _ _ (by omega)]; exact v3, ⟨n + 1, by omega, fu_s _ _ _⟩, fun p hp => ?_⟩
            rw [fu_n _ _ (by omega)]
            by_cases e : p = n
            · subst e
              rw [show 45 * k + (5 + p) = 45 * k + 5 + p by omega, fu_s]
              have g1 := h2.1
              have g2 := h2.2
              rw [i_lt] at g1 g2
              have t1 : ((-20 : Int32)).toInt = -20 := rfl
              have t2 : ((20 : Int32)).toInt = 20 := rfl
              omega
            · rw [fu_n _ _ (by omega)]
              exact v5 p hp
          · by_cases e : j = 4
            · subst e
              rw [fu_s, fu_s]
            · rw [fu_n _ _ (by omega), fu_n _ _ (by omega), fu_n _ _ (by omega)]
              exact hS.fld hk hj
          · rw [fu_s] at hm
            have : n + 1 = m := (nI_eq (by omega) (by omega)).mp hm
            subst this
            rw [fu_n _ _ (by omega : 15 + 2 * k ≠ 85), fu_s, fu_n _ _ (by omega : 45 * k + 5 + p ≠ 45 * k + 4), getD_set (by omega)]
            by_cases e : p = n
            · subst e
              rw [if_pos rfl, fu_s]
            · rw [if_neg e, fu_n _ _ (by omega)]
              exact hS.val hk hn hwn (by omega)
    · refine ⟨.int (-2), I, A, L, F, E, I, A, L, F, E, ⟨_, rfl⟩, ?_, ?_, hS, Nat.le_add_right _ _⟩
      · rw [sg_X7_value_0, if_pos h1, if_neg h2]
      · rw [sg_X8_value_0, if_pos h1', if_neg h2]
  · refine ⟨.int (-1), I, A, L, F, E, I, A, L, F, E, ⟨_, rfl⟩, ?_, ?_, hS, Nat.le_add_right _ _⟩
    · rw [sg_X7_value_0, if_neg h1]
    · rw [sg_X8_value_0, if_neg (fun q => h1 (c4.mp q))]
