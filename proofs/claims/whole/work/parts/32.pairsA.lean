/-! reading a stream: both sides alike -/
theorem stg_at (w : Nat → Int32) (f0 f1 f2 f3 f4 : Int32) (b : Nat) (h0 : f0 = w (b + 0)) (h1 : f1 = w (b + 1)) (h2 : f2 = w (b + 2)) (h3 : f3 = w (b + 3)) (h4 : f4 = w (b + 4)) {j : Nat} (hj : j < 5) : stg f0 f1 f2 f3 f4 (nI j) = w (b + j) := by
  match j, hj with
  | 0, _ => exact h0
  | 1, _ => exact h1
  | 2, _ => exact h2
  | 3, _ => exact h3
  | 4, _ => exact h4
theorem nle_lt {x y : Int32} (h : ¬ y < x) : x ≤ y := by
  rw [i_lt] at h
  rw [i_le]
  omega
theorem nI_ne {a b : Nat} (ha : a < 2 ^ 31) (hb : b < 2 ^ 31) (h : a ≠ b) : nI a ≠ nI b := fun q => h ((nI_eq ha hb).mp q)
section PA
variable {I : Nat → Int32} {A : Nat → List Int32} {L : Nat → List Int64} {F : Nat → Int64} {E : MH}
theorem pr_of (p1 p2 : Int32) : Pr tyL 62 124 [.int p1, .int p2] := by
  intro I A L F E hS
  by_cases h1 : ¬ p1 < 0 ∧ ¬ 4 ≤ p1
  · have h1' := c4.mpr h1
    by_cases h2 : ¬ p2 < 0 ∧ ¬ 5 < p2
    · obtain ⟨k, hk, rfl⟩ := st4 h1
      obtain ⟨j, hj, rfl⟩ := st6 (c6.mp h2)
      have f0 := hS.fld hk (show 0 < 5 by decide)
      have f1 := hS.fld hk (show 1 < 5 by decide)
      have f2 := hS.fld hk (show 2 < 5 by decide)
      have f3 := hS.fld hk (show 3 < 5 by decide)
      have f4 := hS.fld hk (show 4 < 5 by decide)
      refine ⟨.long (stg (I (100 * (14 + 2 * k) + 0)) (I (100 * (14 + 2 * k) + 1)) (I (100 * (14 + 2 * k) + 2)) (I (100 * (14 + 2 * k) + 3)) (I (100 * (14 + 2 * k) + 4)) (nI j)).toInt64, I, A, L, F, E, I, A, L, F, E, ⟨_, rfl⟩, ?_, ?_, hS, Nat.le_add_right _ _⟩
      · rw [sg_X7_of_0, if_pos h1, if_neg h2.1, if_pos (nle_lt h2.2), now_at hk]
        rfl
      · rw [sg_X8_of_0, if_pos h1', if_pos h2]
        by_cases e5 : j = 5
        · subst e5
          rw [if_neg (fun q => q rfl), ix0, hS.w (by omega), Option.bind_some]
          show (if _ then _ else _) = _
          rw [ix3, hS.w (by omega)]
          have es : stg (I (100 * (14 + 2 * k) + 0)) (I (100 * (14 + 2 * k) + 1)) (I (100 * (14 + 2 * k) + 2)) (I (100 * (14 + 2 * k) + 3)) (I (100 * (14 + 2 * k) + 4)) (nI 5) = sby (I (100 * (14 + 2 * k) + 0)) (I (100 * (14 + 2 * k) + 3)) := rfl
          rw [es, f0, f3]
          unfold sby
          generalize gw A 85 (45 * k + 0) = x0
          generalize gw A 85 (45 * k + 3) = x3
          by_cases a1 : x0 = 1
          · rw [if_pos a1, if_pos (Or.inl a1)]
            rfl
          · by_cases a3 : x0 = 3
            · rw [if_neg a1, if_neg (fun q => q a3), if_pos (Or.inr a3)]
              rfl
            · rw [if_neg a1, if_pos a3, if_neg (fun q => q.elim a1 a3)]
              rfl
        · rw [if_pos (show nI j ≠ 5 from nI_ne (b := 5) (by omega) (by decide) e5), ixw, hS.w (by omega), stg_at (gw A 85) _ _ _ _ _ (45 * k) f0 f1 f2 f3 f4 (by omega)]
          rfl
    · refine ⟨.long (-9223372036854775808), I, A, L, F, E, I, A, L, F, E, ⟨_, rfl⟩, ?_, ?_, hS, Nat.le_add_right _ _⟩
      · rw [sg_X7_of_0, if_pos h1]
        by_cases a : p2 < 0
        · rw [if_pos a]
        · rw [if_neg a, if_neg (fun q => h2 ⟨a, fun z => by rw [i_le] at q; rw [i_lt] at z; omega⟩)]
      · rw [sg_X8_of_0, if_pos h1', if_neg h2]
  · refine ⟨.long (-9223372036854775808), I, A, L, F, E, I, A, L, F, E, ⟨_, rfl⟩, ?_, ?_, hS, Nat.le_add_right _ _⟩
    · rw [sg_X7_of_0, if_neg h1]
    · rw [sg_X8_of_0, if_neg (fun q => h1 (c4.mp q))]
/-- a place of a stream, as both sides ask it -/
theorem pl_iff {n : Nat} (hn : n ≤ 40) {p : Int32} : (¬ p < 0 ∧ ¬ (nI n - 1) < p) ↔ (¬ p < 0 ∧ ¬ nI n ≤ p) := by
  have e : (nI n - 1).toInt = (n : Int) - 1 := by
    have := pk_sub_toInt (a := n) (b := 1) (by omega) (by decide)
    exact this
  rw [i_lt, i_lt, i_le, e, nI_toInt (by omega), show (0 : Int32).toInt = 0 from rfl]
  omega
theorem pr_at (p1 p2 : Int32) : Pr tyL 63 127 [.int p1, .int p2] := by
  intro I A L F E hS
  by_cases h1 : ¬ p1 < 0 ∧ ¬ 4 ≤ p1
  · have h1' := c4.mpr h1
    obtain ⟨k, hk, rfl⟩ := st4 h1
    obtain ⟨n, hn, hIn, hwn⟩ := hS.len hk
    by_cases h2 : ¬ p2 < 0 ∧ ¬ nI n ≤ p2
    · obtain ⟨p, hp, rfl⟩ := ix_lt (n := n) (by omega) h2.1 h2.2
      have hv := hS.val hk hn hwn hp
      have hl := hS.1.val hk
      refine ⟨.long (gw A 85 (45 * k + 5 + p)).toInt64, I, A, L, F, E, I, A, L, F, E, ⟨_, rfl⟩, ?_, ?_, hS, Nat.le_add_right _ _⟩
      · rw [sg_X7_at_0, if_pos h1, now_at hk, Option.bind_some]
        show (if _ then _ else _) = _
        rw [hIn, if_pos h2, Option.bind_some]
        rw [show 14 + 2 * k + 1 = 15 + 2 * k by omega, ldI_d (by omega) (by omega), hv]
        rfl
      · rw [sg_X8_at_0, if_pos h1', ix4, hS.w (by omega), Option.bind_some]
        show (if _ then _ else _) = _
        rw [hwn, if_pos ((pl_iff hn).mpr h2), ixv, hS.w (by omega)]
        rfl
    · refine ⟨.long (-9223372036854775808), I, A, L, F, E, I, A, L, F, E, ⟨_, rfl⟩, ?_, ?_, hS, Nat.le_add_right _ _⟩
      · rw [sg_X7_at_0, if_pos h1, now_at hk, Option.bind_some]
        show (if _ then _ else _) = _
        rw [hIn, if_neg h2]
      · rw [sg_X8_at_0, if_pos h1', ix4, hS.w (by omega), Option.bind_some]
        show (if _ then _ else _) = _
        rw [hwn, if_neg (fun q => h2 ((pl_iff hn).mp q))]
  · refine ⟨.long (-9223372036854775808), I, A, L, F, E, I, A, L, F, E, ⟨_, rfl⟩, ?_, ?_, hS, Nat.le_add_right _ _⟩
    · rw [sg_X7_at_0, if_neg h1]
    · rw [sg_X8_at_0, if_neg (fun q => h1 (c4.mp q))]
theorem pr_off (p1 p2 : Int32) : Pr tyL 64 128 [.int p1, .int p2] := by
  intro I A L F E hS
  by_cases h1 : ¬ p1 < 0 ∧ ¬ 4 ≤ p1
  · have h1' := c4.mpr h1
    obtain ⟨k, hk, rfl⟩ := st4 h1
    obtain ⟨n, hn, hIn, hwn⟩ := hS.len hk
    have f0 := hS.fld hk (show 0 < 5 by decide)
    have f1 := hS.fld hk (show 1 < 5 by decide)
    by_cases h2 : ¬ p2 < 0 ∧ ¬ nI n ≤ p2
    · obtain ⟨p, hp, rfl⟩ := ix_lt (n := n) (by omega) h2.1 h2.2
      have hv := hS.val hk hn hwn hp
      have hl := hS.1.val hk
      refine ⟨.long (ofv (gw A 85 (45 * k + 0)) (gw A 85 (45 * k + 5 + p) - gw A 85 (45 * k + 1))).toInt64, I, A, L, F, E, I, A, L, F, E, ⟨_, rfl⟩, ?_, ?_, hS, Nat.le_add_right _ _⟩
      · rw [sg_X7_off_0, if_pos h1, now_at hk, Option.bind_some]
        show (if _ then _ else _) = _
        rw [hIn, if_pos h2, Option.bind_some]
        rw [show 14 + 2 * k + 1 = 15 + 2 * k by omega, ldI_d (by omega) (by omega), hv, f0, f1]
        rfl
      · rw [sg_X8_off_0, if_pos h1', ix4, hS.w (by omega), Option.bind_some]
        show (if _ then _ else _) = _
        rw [hwn, if_pos ((pl_iff hn).mpr h2), ix0, hS.w (by omega), Option.bind_some, ixv, hS.w (by omega), Option.bind_some, ix1, hS.w (by omega)]
        rfl
    · refine ⟨.long (-9223372036854775808), I, A, L, F, E, I, A, L, F, E, ⟨_, rfl⟩, ?_, ?_, hS, Nat.le_add_right _ _⟩
      · rw [sg_X7_off_0, if_pos h1, now_at hk, Option.bind_some]
        show (if _ then _ else _) = _
        rw [hIn, if_neg h2]
      · rw [sg_X8_off_0, if_pos h1', ix4, hS.w (by omega), Option.bind_some]
        show (if _ then _ else _) = _
        rw [hwn, if_neg (fun q => h2 ((pl_iff hn).mp q))]
  · refine ⟨.long (-9223372036854775808), I, A, L, F, E, I, A, L, F, E, ⟨_, rfl⟩, ?_, ?_, hS, Nat.le_add_right _ _⟩
    · rw [sg_X7_off_0, if_neg h1]
    · rw [sg_X8_off_0, if_neg (fun q => h1 (c4.mp q))]
end PA
