/-! tapes: tape -/
theorem fu_id {α : Type} (f : Nat → α) (k : Nat) : fu f k (f k) = f := by
  funext j
  unfold fu
  split
  · next h => rw [h]
  · rfl
theorem n_nle {a b : Nat} (h : a < b) (hb : b < 2 ^ 31) : ¬ nI b ≤ nI a := by
  rw [i_le, nI_toInt hb, nI_toInt (show a < 2 ^ 31 by omega)]
  omega
theorem n_le {a b : Nat} (h : a ≤ b) (hb : b < 2 ^ 31) : nI a ≤ nI b := by
  rw [i_le, nI_toInt (by omega), nI_toInt hb]
  omega
section TAQ
variable {I : Nat → Int32} {A : Nat → List Int32} {F : Nat → Int64} {E : MH}
theorem lay_loop {b0 : Nat} (hb0 : isT b0) (v1 v2 : Int32) (n : Nat) (hn : n ≤ 60) (hI : I (100 * b0 + 1) = nI n) : ∀ (d j : Nat) (L : Nat → List Int64), j + d = n → (L (b0 + 1)).length = 60 → ∃ X : List Int64, X.length = 60 ∧ (∀ i, X.getD i 0 = if j ≤ i ∧ i < n then 0 else (L (b0 + 1)).getD i 0) ∧ mm_run G0 44 21 [some (.ref b0), some (.int v1), some (.int v2), some (.int (nI j))] [] (HP I A L F E) = some (none, HP I A (fu L (b0 + 1) X) F E) := by
  intro d
  induction d with
  | zero =>
    intro j L hj hl
    refine ⟨L (b0 + 1), hl, fun i => by rw [if_neg (by omega)], ?_⟩
    rw [sg_X5_lay_21 hb0, hI, if_pos (n_le (a := n) (b := j) (by omega) (by omega)), fu_id]
  | succ d ih =>
    intro j L hj hl
    obtain ⟨X, h1, h2, h3⟩ := ih (j + 1) (fu L (b0 + 1) ((L (b0 + 1)).set j 0)) (by omega) (by rw [fu_s, List.length_set]; exact hl)
    refine ⟨X, h1, fun i => ?_, ?_⟩
    · rw [h2, fu_s, getD_set (by omega)]
      by_cases e : i = j
      · rw [if_neg (by omega), if_pos e, if_pos (by omega)]
      · by_cases e2 : j + 1 ≤ i ∧ i < n
        · rw [if_pos e2, if_pos (by omega)]
        · rw [if_neg e2, if_neg e, if_neg (by omega)]
    · rw [sg_X5_lay_21 hb0, hI, if_neg (n_nle (a := j) (b := n) (by omega) (by omega)), stL_n (by omega) (by omega), Option.bind_some, in1, h3, fu_fu]
theorem wipe_loop {t : Nat} (ht : t < 6) (v2 v3 : Int32) : ∀ (d j : Nat) (L : Nat → List Int64), j + d = 60 → (L 104).length = 360 → ∃ X : List Int64, X.length = 360 ∧ (∀ i, X.getD i 0 = if 60 * t + j ≤ i ∧ i < 60 * t + 60 then 0 else (L 104).getD i 0) ∧ mm_run G0 186 67 [some (.ref 84), some (.int (nI t)), some (.int v2), some (.int v3), some (.int (nI j))] [] (HP I A L F E) = some (some (.int 1), HP I A (fu L 104 X) F E) := by
  intro d
  induction d with
  | zero =>
    intro j L hj hl
    refine ⟨L 104, hl, fun i => by rw [if_neg (by omega)], ?_⟩
    rw [sg_X8_tape_67, if_pos (show (60 : Int32) ≤ nI j from n_le (a := 60) (b := j) (by omega) (by omega)), fu_id]
  | succ d ih =>
    intro j L hj hl
    obtain ⟨X, h1, h2, h3⟩ := ih (j + 1) (fu L 104 ((L 104).set (60 * t + j) 0)) (by omega) (by rw [fu_s, List.length_set]; exact hl)
    refine ⟨X, h1, fun i => ?_, ?_⟩
    · rw [h2, fu_s, getD_set (by omega)]
      by_cases e : i = 60 * t + j
      · rw [if_neg (by omega), if_pos e, if_pos (by omega)]
      · by_cases e2 : 60 * t + (j + 1) ≤ i ∧ i < 60 * t + 60
        · rw [if_pos e2, if_pos (by omega)]
        · rw [if_neg e2, if_neg e, if_neg (by omega)]
    · rw [sg_X8_tape_67, if_neg (show ¬ (60 : Int32) ≤ nI j from n_nle (a := j) (b := 60) (by omega) (by omega)), ixt, stL_n (by omega) (by omega), Option.bind_some, in1, h3, fu_fu]
end TAQ
/-- a tape is laid on both sides -/
theorem tape_laid {I : Nat → Int32} {A : Nat → List Int32} {L : Nat → List Int64} {F : Nat → Int64} {E : MH} {t n : Nat} (ht : t < 6) (hn : n ≤ 60) (s v3 : Int32) (hs : -1 ≤ s.toInt ∧ s.toInt ≤ 4) (hsn : s = -1 → n = 0) (hS : Sim I A L) (hcl : imax 0 (imin 60 (nI n)) = nI n) : ∃ (I1 : Nat → Int32) (L1 L' : Nat → List Int64), mm_call G0 44 [.ref (72 + 2 * t), .int s, .int (nI n)] (HP I A L F E) = some (none, HP I1 A L1 F E) ∧
    stI (A 102) (nI t) s = some ((A 102).set t s) ∧ stI (A 103) (nI t) (nI n) = some ((A 103).set t (nI n)) ∧ mm_run G0 186 67 [some (.ref 84), some (.int (nI t)), some (.int s), some (.int v3), some (.int 0)] [] (HP I1 (fu (fu A 102 ((A 102).set t s)) 103 ((A 103).set t (nI n))) L1 F E) = some (some (.int 1), HP I1 (fu (fu A 102 ((A 102).set t s)) 103 ((A 103).set t (nI n))) L' F E) ∧ Sim I1 (fu (fu A 102 ((A 102).set t s)) 103 ((A 103).set t (nI n))) L' := by
  have hl := hS.1.tap ht
  have hl104 := hS.1.l (a := 104) (n := 360) (by decide)
  have hl102 := hS.1.i (a := 102) (n := 6) (by decide)
  have hl103 := hS.1.i (a := 103) (n := 6) (by decide)
  have ea : 72 + 2 * t + 1 = 73 + 2 * t := by omega
  obtain ⟨X, x1, x2, x3⟩ := lay_loop (I := fu (fu I (100 * (72 + 2 * t) + 0) s) (100 * (72 + 2 * t) + 1) (nI n)) (A := A) (F := F) (E := E) (isT_at ht) s (nI n) n hn (fu_s _ _ _) n 0 L (by omega) (by rw [ea]; exact hl)
  obtain ⟨Y, y1, y2, y3⟩ := wipe_loop (I := fu (fu I (100 * (72 + 2 * t) + 0) s) (100 * (72 + 2 * t) + 1) (nI n)) (A := fu (fu A 102 ((A 102).set t s)) 103 ((A 103).set t (nI n))) (F := F) (E := E) ht s v3 60 0 (fu L (73 + 2 * t) X) (by omega) (by rw [fu_n _ _ (by omega)]; exact hl104)
  rw [ea] at x2 x3
  refine ⟨fu (fu I (100 * (72 + 2 * t) + 0) s) (100 * (72 + 2 * t) + 1) (nI n), fu L (73 + 2 * t) X, fu (fu L (73 + 2 * t) X) 104 Y, ?_, stI_n (by omega) (by omega), stI_n (by omega) (by omega), y3, ?_⟩
  · rw [sg_X5_lay_0 (isT_at ht), hcl]
    exact x3
  · have g2 : gw (fu (fu A 102 ((A 102).set t s)) 103 ((A 103).set t (nI n))) 102 = fu (gw A 102) t s := by
      rw [gw_ne (by decide), gw_set (by omega)]
    have g3 : gw (fu (fu A 102 ((A 102).set t s)) 103 ((A 103).set t (nI n))) 103 = fu (gw A 103) t (nI n) := by
      funext j
      unfold gw
      rw [fu_s, getD_set (by omega)]
      rfl
    refine sim_tape ht hS ?_ (fun i hi => by rw [fu_n _ _ (by omega), fu_n _ _ (by omega)]) (fun a h1 h2 => by rw [fu_n _ _ h2, fu_n _ _ h1]) (fun q hq => by rw [g2, fu_n _ _ hq]) (fun q hq => by rw [g3, fu_n _ _ hq]) (fun a h1 h2 => by rw [fu_n _ _ h2, fu_n _ _ h1]) (fun q j h1 h2 h3 => by rw [fu_s, y2, if_neg (by omega), fu_n _ _ (by omega)]) ?_
    · refine ⟨((hS.1.fuI (a := 102) (by rw [List.length_set])).fuI (a := 103) (by rw [List.length_set, fu_n _ _ (by decide)])).1, ((hS.1.fuL (a := 73 + 2 * t) (X := X) (by omega)).fuL (a := 104) (X := Y) (by rw [fu_n _ _ (by omega)]; omega)).2⟩
    · refine ⟨by rw [g2, fu_s, fu_n _ _ (by omega), fu_s], by rw [g2, fu_s]; exact hs, n, hn, fu_s _ _ _, by rw [g3, fu_s], by rw [g2, fu_s]; exact hsn, fun j hj => ?_⟩
      rw [fu_n _ _ (by omega), fu_s, fu_s, x2, y2, if_pos (by omega), if_pos (by omega)]
theorem clip60 {n : Nat} (hn : n ≤ 60) : imax 0 (imin 60 (nI n)) = nI n := by
  have e : imin 60 (nI n) = nI n := by
    unfold imin
    by_cases h : nI n < 60
    · rw [if_pos h]
    · rw [if_neg h]
      rw [i_lt, nI_toInt (by omega)] at h
      have : (60 : Int32).toInt = 60 := rfl
      have : n = 60 := by omega
      rw [this]
      rfl
  rw [e]
  unfold imax
  by_cases h : 0 < nI n
  · rw [if_pos h]
  · rw [if_neg h]
    rw [i_lt, nI_toInt (by omega)] at h
    have : (0 : Int32).toInt = 0 := rfl
    have : n = 0 := by omega
    rw [this]
    rfl
theorem pr_tape (p1 p2 p3 : Int32) : Pr tyI 92 186 [.int p1, .int p2, .int p3] := by
  intro I A L F E hS
  by_cases h1 : ¬ p1 < 0 ∧ ¬ 6 ≤ p1
  · obtain ⟨t, ht, rfl⟩ := st6 h1
    by_cases h2 : p2 = -1
    · subst h2
      obtain ⟨I1, L1, L', x1, x2, x3, x4, x5⟩ := tape_laid (F := F) (E := E) ht (show 0 ≤ 60 by decide) (-1) p3 (by decide) (fun _ => rfl) hS (by decide)
      refine ⟨.int 1, I1, A, L1, F, E, I1, _, L', F, E, ⟨_, rfl⟩, ?_, ?_, x5, Nat.le_add_right _ _⟩
      · rw [sg_X7_tape_0, if_pos h1, if_neg (fun q => q rfl), tape_at ht, Option.bind_some, show (0 : Int32) = nI 0 from rfl, x1, Option.bind_some]
        exact sg_X7_tape_25 _ _ _
      · rw [sg_X8_tape_0, if_pos (c6.mpr h1), if_pos (by decide), if_pos (by decide), if_pos (by decide), x2, Option.bind_some, if_neg (by decide), show stI (A 103) (nI t) 0 = _ from x3, Option.bind_some]
        exact x4
    · by_cases h3 : ¬ p2 < 0 ∧ ¬ 4 < p2
      · have h3' : ¬ p2 < -1 ∧ ¬ 4 < p2 := ⟨fun q => h3.1 (by rw [i_lt] at q ⊢; have := ci1; have := ii0; omega), h3.2⟩
        have h30 : 0 ≤ p2 := nle_lt h3.1
        by_cases h4 : p3 ≤ 60
        · by_cases h5 : 0 ≤ p3
          · obtain ⟨n, hn, rfl⟩ := ix_lt (x := p3) (n := 61) (by decide) (fun q => by rw [i_le] at h5; rw [i_lt] at q; omega) (fun q => by
              rw [i_le] at q h4
              have : (nI 61).toInt = 61 := rfl
              have : (60 : Int32).toInt = 60 := rfl
              omega)
            have hr := rg h3
            have e0 := ii0
            have e4 : (4 : Int32).toInt = 4 := rfl
            obtain ⟨I1, L1, L', x1, x2, x3, x4, x5⟩ := tape_laid (F := F) (E := E) ht (show n ≤ 60 by omega) p2 (nI n) (by omega) (fun q => absurd q h2) hS (clip60 (by omega))
            refine ⟨.int 1, I1, A, L1, F, E, I1, _, L', F, E, ⟨_, rfl⟩, ?_, ?_, x5, Nat.le_add_right _ _⟩
            · rw [sg_X7_tape_0, if_pos h1, if_pos h2, if_neg h3.1, if_neg h3.2, if_pos h4, if_pos h5, tape_at ht, Option.bind_some, x1, Option.bind_some]
              exact sg_X7_tape_63 _ _ _
            · rw [sg_X8_tape_0, if_pos (c6.mpr h1), if_pos h3', if_neg h3.1, if_pos h4, if_neg h3.1, if_pos h5, x2, Option.bind_some, if_pos h30, x3, Option.bind_some]
              exact x4
          · refine ⟨.int (-14), I, A, L, F, E, I, A, L, F, E, ⟨_, rfl⟩, ?_, ?_, hS, Nat.le_add_right _ _⟩
            · rw [sg_X7_tape_0, if_pos h1, if_pos h2, if_neg h3.1, if_neg h3.2, if_pos h4, if_neg h5]
            · rw [sg_X8_tape_0, if_pos (c6.mpr h1), if_pos h3', if_neg h3.1, if_pos h4, if_neg h3.1, if_neg h5]
        · refine ⟨.int (-2), I, A, L, F, E, I, A, L, F, E, ⟨_, rfl⟩, ?_, ?_, hS, Nat.le_add_right _ _⟩
          · rw [sg_X7_tape_0, if_pos h1, if_pos h2, if_neg h3.1, if_neg h3.2, if_neg h4]
          · rw [sg_X8_tape_0, if_pos (c6.mpr h1), if_pos h3', if_neg h3.1, if_neg h4]
      · refine ⟨.int (-2), I, A, L, F, E, I, A, L, F, E, ⟨_, rfl⟩, ?_, ?_, hS, Nat.le_add_right _ _⟩
        · rw [sg_X7_tape_0, if_pos h1, if_pos h2]
          by_cases a : p2 < 0
          · rw [if_pos a]
          · rw [if_neg a]
            by_cases b : 4 < p2
            · rw [if_pos b]
            · exact absurd ⟨a, b⟩ h3
        · rw [sg_X8_tape_0, if_pos (c6.mpr h1), if_neg (fun q => h3 ⟨fun z => ?_, q.2⟩)]
          have q1 := q.1
          rw [i_lt] at q1 z
          have := ci1
          have := ii0
          exact h2 (i_eq.mpr (by omega))
  · refine ⟨.int (-1), I, A, L, F, E, I, A, L, F, E, ⟨_, rfl⟩, ?_, ?_, hS, Nat.le_add_right _ _⟩
    · rw [sg_X7_tape_0, if_neg h1]
    · rw [sg_X8_tape_0, if_neg (fun q => h1 (c6.mp q))]
