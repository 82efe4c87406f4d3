/-! set -/
theorem ch4 {β : Type} (X : Nat → β) (Y : β) {j : Nat} (hj : j < 4) : (if nI j = 0 then X 0 else if nI j = 1 then X 1 else if nI j = 2 then X 2 else if nI j = 3 then X 3 else Y) = X j := by
  match j, hj with
  | 0, _ => rfl
  | 1, _ => rfl
  | 2, _ => rfl
  | 3, _ => rfl
theorem nn {v a b : Int32} {x y : Bool} (h : (if v < a then false else if b < v then false else true) = true) : a.toInt ≤ v.toInt ∧ v.toInt ≤ b.toInt := by
  by_cases h1 : v < a
  · rw [if_pos h1] at h; cases h
  · by_cases h2 : b < v
    · rw [if_neg h1, if_pos h2] at h; cases h
    · rw [i_lt] at h1 h2
      omega
theorem okS_0 {v : Int32} (h : okS (nI 0) v = true) : 0 ≤ v.toInt ∧ v.toInt ≤ 4 := nn (a := 0) (b := 4) (x := true) (y := true) h
theorem okS_1 {v : Int32} (h : okS (nI 1) v = true) : -20 ≤ v.toInt ∧ v.toInt ≤ 20 := nn (a := -20) (b := 20) (x := true) (y := true) h
theorem okS_2 {v : Int32} (h : okS (nI 2) v = true) : 0 ≤ v.toInt ∧ v.toInt ≤ 5 := nn (a := 0) (b := 5) (x := true) (y := true) h
theorem okS_3 {v : Int32} (h : okS (nI 3) v = true) : 1 ≤ v.toInt ∧ v.toInt ≤ 12 := nn (a := 1) (b := 12) (x := true) (y := true) h
theorem okSF {j : Nat} (hj : j < 4) {v : Int32} : okF (nI j) v = okS (nI j) v := by
  match j, hj with
  | 0, _ => rfl
  | 1, _ => rfl
  | 2, _ => rfl
  | 3, _ => rfl
theorem okS_in {w v : Int32} (h : okS w v = true) : ¬ w < 0 ∧ ¬ 4 ≤ w := by
  unfold okS at h
  by_cases h0 : w = 0
  · subst h0; decide
  · by_cases h1 : w = 1
    · subst h1; decide
    · by_cases h2 : w = 2
      · subst h2; decide
      · by_cases h3 : w = 3
        · subst h3; decide
        · rw [if_neg h0, if_neg h1, if_neg h2, if_neg h3] at h
          cases h
theorem pr_set (p1 p2 p3 : Int32) : Pr tyL 61 122 [.int p1, .int p2, .int p3] := by
  intro I A L F E hS
  by_cases h1 : ¬ p1 < 0 ∧ ¬ 4 ≤ p1
  · have h1' := c4.mpr h1
    by_cases h2 : okS p2 p3 = true
    · obtain ⟨k, hk, rfl⟩ := st4 h1
      have h3 := okS_in h2
      have h3' := c4.mpr h3
      obtain ⟨j, hj, rfl⟩ := st4 h3
      have hl85 := hS.1.i (a := 85) (n := 232) (by decide)
      have f0 := hS.fld hk (show 0 < 5 by decide)
      have f1 := hS.fld hk (show 1 < 5 by decide)
      have f2 := hS.fld hk (show 2 < 5 by decide)
      have f3 := hS.fld hk (show 3 < 5 by decide)
      have f4 := hS.fld hk (show 4 < 5 by decide)
      refine ⟨.long (gw A 85 (45 * k + j)).toInt64, (fu I (100 * (14 + 2 * k) + j) p3), A, L, F, E, fu I (100 * (14 + 2 * k) + j) p3, fu A 85 ((A 85).set (45 * k + j) p3), L, F, E, ⟨_, rfl⟩, ?_, ?_, ?_, Nat.le_add_right _ _⟩
      · rw [sg_X7_set_0, if_pos h1, if_pos h2, now_at hk, Option.bind_some]
        rw [stg_at (gw A 85) _ _ _ _ _ (45 * k) f0 f1 f2 f3 f4 (by omega)]
        exact ch4 (fun j' => some (some (Value.long (gw A 85 (45 * k + j)).toInt64), HP (fu I (100 * (14 + 2 * k) + j') p3) A L F E)) _ hj
      · rw [sg_X8_set_0, if_pos h1', if_pos h3', okSF hj, if_pos h2, ixw, hS.w (by omega), Option.bind_some, stI_n (by omega) (by omega)]
        rfl
      · have hw' := gw_set (A := A) (a := 85) (i := 45 * k + j) (x := p3) (by omega)
        refine sim_stream hk hS (hS.1.fuI (by rw [List.length_set])) (fun i hi => fu_n _ _ (by omega)) (fun a _ h2 => fu_n _ _ h2) hw' (fun j hj => fu_n _ _ (by omega)) ?_ (fun i hi => ?_) (fun m p hm hm2 hp => ?_)
        · have vv := hS.2.2.1.1 k hk
          unfold Vst at vv ⊢
          dsimp only at vv ⊢
          obtain ⟨v0, v1, v2, v3, v4, v5⟩ := vv
          refine ⟨?_, ?_, ?_, ?_, by rw [fu_n _ _ (by omega)]; exact v4, fun p hp => by rw [fu_n _ _ (by omega)]; exact v5 p hp⟩
          · by_cases e : j = 0
            · subst e; rw [fu_s]; exact okS_0 h2
            · rw [fu_n _ _ (by omega)]; exact v0
          · by_cases e : j = 1
            · subst e; rw [fu_s]; exact okS_1 h2
            · rw [fu_n _ _ (by omega)]; exact v1
          · by_cases e : j = 2
            · subst e; rw [fu_s]; exact okS_2 h2
            · rw [fu_n _ _ (by omega)]; exact v2
          · by_cases e : j = 3
            · subst e; rw [fu_s]; exact okS_3 h2
            · rw [fu_n _ _ (by omega)]; exact v3
        · by_cases e : i = j
          · subst e
            rw [fu_s, fu_s]
          · rw [fu_n _ _ (by omega), fu_n _ _ (by omega)]
            exact hS.fld hk hi
        · rw [fu_n _ _ (by omega)] at hm
          rw [fu_n _ _ (by omega), fu_n _ _ (by omega)]
          exact hS.val hk hm2 hm hp
    · refine ⟨.long (-9223372036854775808), I, A, L, F, E, I, A, L, F, E, ⟨_, rfl⟩, ?_, ?_, hS, Nat.le_add_right _ _⟩
      · rw [sg_X7_set_0, if_pos h1, if_neg h2]
      · rw [sg_X8_set_0, if_pos h1']
        by_cases h3 : ¬ p2 < 0 ∧ ¬ 3 < p2
        · obtain ⟨j, hj, rfl⟩ := st4 (c4.mp h3)
          rw [if_pos h3, okSF hj, if_neg h2]
        · rw [if_neg h3]
  · refine ⟨.long (-9223372036854775808), I, A, L, F, E, I, A, L, F, E, ⟨_, rfl⟩, ?_, ?_, hS, Nat.le_add_right _ _⟩
    · rw [sg_X7_set_0, if_neg h1]
    · rw [sg_X8_set_0, if_neg (fun q => h1 (c4.mp q))]
