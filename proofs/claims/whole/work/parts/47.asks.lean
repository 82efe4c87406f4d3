/-! sum, alarms, alarm, latest -/
def gs (A : Nat → List Int32) (k : Nat) : Nat → Int32 := fun j => gw A 85 (45 * k + j)
def DrS (I : Nat → Int32) (A : Nat → List Int32) (g : Nat → Int32) (n : Nat) : Prop := Dr I A (gof g) (g 2) (g 3) (sby (g 0) (g 3)) (decide (g 0 = 4)) n
def MrS (I : Nat → Int32) (A : Nat → List Int32) (g : Nat → Int32) (n : Nat) : Prop := Mr I A (gof g) (g 2) (g 3) (sby (g 0) (g 3)) (decide (g 0 = 4)) n
def fd (g : Nat → Int32) (n : Nat) : Nat := (ch (gof g) (g 2) (g 3) (sby (g 0) (g 3)) (decide (g 0 = 4)) n).2.2
theorem fd_le (g : Nat → Int32) (n : Nat) : fd g n ≤ n := ch_le n
section ASK
variable {I : Nat → Int32} {A : Nat → List Int32} {L : Nat → List Int64} {F : Nat → Int64} {E : MH}
theorem Rs.rst {b : Nat} {w : Nat → Int32} {k : Nat} (h : Rs I A b w) (hk : k < 4) : Rst I A (b + 2 * k) (fun j => w (45 * k + j)) := by
  refine ⟨fun j hj => h.1 k j hk hj, fun n p hn0 hn hp => ?_⟩
  have := h.2 k n p hk hn0 hn hp
  rw [show b + 2 * k + 1 = b + 1 + 2 * k by omega, this]
  show _ = w (45 * k + (5 + p))
  rw [show 45 * k + 5 + p = 45 * k + (5 + p) by omega]
theorem Sim.rst (h : Sim I A L) {k : Nat} (hk : k < 4) : Rst I A (14 + 2 * k) (gs A k) := Rs.rst h.2.1.1 hk
theorem both_now {k : Nat} (hk : k < 4) (hS : Sim I A L) : ∃ n, n ≤ 40 ∧ I (100 * (14 + 2 * k) + 4) = nI n ∧ gw A 85 (45 * k + 4) = nI n ∧ ∃ (I1 I2 : Nat → Int32) (A1 A2 : Nat → List Int32), mm_call G0 105 [.ref 1, .int (nI k)] (HP I A L F E) = some (none, HP I1 A1 L F E) ∧ mm_call G0 138 [.ref 84, .int (nI k)] (HP I1 A1 L F E) = some (none, HP I2 A2 L F E) ∧ DrS I1 A1 (gs A k) n ∧ MrS I2 A2 (gs A k) n ∧ Sim I1 A1 L ∧ Sim I2 A2 L ∧ (∀ x, ¬ (4800 ≤ x ∧ x < 4807) → I1 x = I x) ∧ (∀ a, ¬ (49 ≤ a ∧ a ≤ 53) → a ≠ 71 → A1 a = A a) ∧ ∀ a, ¬ (90 ≤ a ∧ a ≤ 94) → A2 a = A1 a := by
  obtain ⟨n, hn, e1, e2⟩ := hS.len hk
  have hg4 : gs A k 4 = nI n := e2
  obtain ⟨I1, A1, x1, x2, x3, x4, x5⟩ := draw_ok (F := F) (E := E) (isS_now hk) (hS.rst hk) hn hg4 hS.1 (gs A k 2) (gs A k 3)
  have s1 : Sim I1 A1 L := sim_scr hS x5 (fun _ => rfl) (fun x h1 h2 => x3 x (by omega)) (fun a h1 h2 h3 => x4 a (by omega) (by omega)) (fun _ _ _ => rfl)
  have w1 : gw A1 85 = gw A 85 := by unfold gw; rw [x4 _ (by decide) (by decide)]
  obtain ⟨I2, A2, y1, y2, y3, y4, y5⟩ := thr_ok (I := I1) (A := A1) (L := L) (F := F) (E := E) hk hn (g := gs A k) hg4 s1.1 (fun j hj => by rw [w1]; rfl)
  have s2 : Sim I2 A2 L := sim_scr s1 y5 (fun _ => rfl) (fun x h1 h2 => y3 x (by omega) (by omega) (by omega)) (fun a h1 h2 h3 => y4 a (by omega)) (fun _ _ _ => rfl)
  refine ⟨n, hn, e1, e2, I1, I2, A1, A2, ?_, y1, x2, y2, s1, s2, x3, x4, y4⟩
  rw [sg_X7_drawNow_0, now_at hk, Option.bind_some, hS.fld hk (show 2 < 5 by decide), hS.fld hk (show 3 < 5 by decide), show gw A 85 (45 * k + 2) = gs A k 2 from rfl, show gw A 85 (45 * k + 3) = gs A k 3 from rfl, x1, Option.bind_some]
  exact sg_X7_drawNow_23 _ (isS_now hk)
end ASK
theorem in01 {p : Int32} : (¬ p < 0 ∧ ¬ 1 < p) ↔ (p = 0 ∨ p = 1) := by
  have h1 : (1 : Int32).toInt = 1 := rfl
  rw [i_lt, i_lt, i_eq, i_eq, ii0, h1]
  omega
theorem pr_sum (p1 p2 p3 : Int32) : Pr tyI 67 140 [.int p1, .int p2, .int p3] := by
  intro I A L F E hS
  by_cases h1 : ¬ p1 < 0 ∧ ¬ 4 ≤ p1
  · have h1' := c4.mpr h1
    obtain ⟨k, hk, rfl⟩ := st4 h1
    by_cases h2 : ¬ p2 < 0 ∧ ¬ 1 < p2
    · obtain ⟨n, hn, e1, e2, I1, I2, A1, A2, c1, c2, d1, d2, s1, s2, i1, a1, a2⟩ := both_now (F := F) (E := E) hk hS
      have h2b : p2 ≤ 1 := nle_lt h2.2
      by_cases h3 : ¬ p3 < 0 ∧ ¬ nI n ≤ p3
      · have l49 := s1.1.i (a := 49) (n := 40) (by decide)
        have l50 := s1.1.i (a := 50) (n := 40) (by decide)
        have l90 := s2.1.i (a := 90) (n := 40) (by decide)
        have l91 := s2.1.i (a := 91) (n := 40) (by decide)
        have h3' := (pl_iff hn).mpr h3
        obtain ⟨p, hp, rfl⟩ := ix_lt (n := n) (by omega) h3.1 h3.2
        have u := dm_U d1 d2 hp
        refine ⟨.int (if p2 ≠ 0 then (A1 50).getD p 0 else (A1 49).getD p 0), I1, A1, L, F, E, I2, A2, L, F, E, ⟨_, rfl⟩, ?_, ?_, s2, Nat.le_add_right _ _⟩
        · rw [sg_X7_sum_0, if_pos h1, if_neg h2.1, if_pos h2b, now_at hk, Option.bind_some, e1, if_pos h3, c1, Option.bind_some]
          refine (sg_X7_sum_41 (I := I1) (A := A1) (L := L) (F := F) (E := E) (nI k) p2 (nI p)).trans ?_
          rw [ldI_d (by omega) (by omega), ldI_d (by omega) (by omega)]
          split <;> rfl
        · rw [sg_X8_sum_0, if_pos h2, if_pos h1', ix4, s1.w (by omega), Option.bind_some, show gw A1 85 (45 * k + 4) = nI n by rw [← e2]; unfold gw; rw [a1 _ (by decide) (by decide)], if_pos h3', c2, Option.bind_some]
          refine (sg_X8_sum_25 (I := I2) (A := A2) (L := L) (F := F) (E := E) (nI k) p2 (nI p)).trans ?_
          rw [ldI_d (by omega) (by omega), ldI_d (by omega) (by omega), u.1, u.2]
          split <;> rfl
      · refine ⟨.int (-1), I, A, L, F, E, I, A, L, F, E, ⟨_, rfl⟩, ?_, ?_, hS, Nat.le_add_right _ _⟩
        · rw [sg_X7_sum_0, if_pos h1, if_neg h2.1, if_pos h2b, now_at hk, Option.bind_some, e1, if_neg h3]
        · rw [sg_X8_sum_0, if_pos h2, if_pos h1', ix4, hS.w (by omega), Option.bind_some, e2, if_neg (fun q => h3 ((pl_iff hn).mp q))]
    · refine ⟨.int (-1), I, A, L, F, E, I, A, L, F, E, ⟨_, rfl⟩, ?_, ?_, hS, Nat.le_add_right _ _⟩
      · rw [sg_X7_sum_0, if_pos h1]
        by_cases a : p2 < 0
        · rw [if_pos a]
        · rw [if_neg a, if_neg (fun q => h2 ⟨a, nlt_le q⟩)]
      · rw [sg_X8_sum_0, if_neg h2]
  · refine ⟨.int (-1), I, A, L, F, E, I, A, L, F, E, ⟨_, rfl⟩, ?_, ?_, hS, Nat.le_add_right _ _⟩
    · rw [sg_X7_sum_0, if_neg h1]
    · rw [sg_X8_sum_0, if_neg (fun q => h1 (c4.mp q))]
      split <;> rfl
theorem pr_alarms (p1 : Int32) : Pr tyI 68 141 [.int p1] := by
  intro I A L F E hS
  by_cases h1 : ¬ p1 < 0 ∧ ¬ 4 ≤ p1
  · have h1' := c4.mpr h1
    obtain ⟨k, hk, rfl⟩ := st4 h1
    obtain ⟨n, hn, e1, e2, I1, I2, A1, A2, c1, c2, d1, d2, s1, s2, i1, a1, a2⟩ := both_now (F := F) (E := E) hk hS
    refine ⟨.int (I1 4806), I1, A1, L, F, E, I2, A2, L, F, E, ⟨_, rfl⟩, ?_, ?_, s2, Nat.le_add_right _ _⟩
    · rw [sg_X7_alarms_0, if_pos h1, c1, Option.bind_some]
      exact sg_X7_alarms_14 _
    · rw [sg_X8_alarms_0, if_pos h1', c2, Option.bind_some, d1.1, ← d2.1]
      exact sg_X8_alarms_14 _
  · refine ⟨.int (-1), I, A, L, F, E, I, A, L, F, E, ⟨_, rfl⟩, ?_, ?_, hS, Nat.le_add_right _ _⟩
    · rw [sg_X7_alarms_0, if_neg h1]
    · rw [sg_X8_alarms_0, if_neg (fun q => h1 (c4.mp q))]
theorem pr_alarm (p1 p2 p3 : Int32) : Pr tyI 69 142 [.int p1, .int p2, .int p3] := by
  intro I A L F E hS
  by_cases h1 : ¬ p1 < 0 ∧ ¬ 4 ≤ p1
  · have h1' := c4.mpr h1
    obtain ⟨k, hk, rfl⟩ := st4 h1
    obtain ⟨n, hn, e1, e2, I1, I2, A1, A2, c1, c2, d1, d2, s1, s2, i1, a1, a2⟩ := both_now (F := F) (E := E) hk hS
    have l51 := s1.1.i (a := 51) (n := 40) (by decide)
    have l52 := s1.1.i (a := 52) (n := 40) (by decide)
    have l53 := s1.1.i (a := 53) (n := 40) (by decide)
    have l92 := s2.1.i (a := 92) (n := 40) (by decide)
    have l93 := s2.1.i (a := 93) (n := 40) (by decide)
    have l94 := s2.1.i (a := 94) (n := 40) (by decide)
    have hfl := fd_le (gs A k) n
    have f1 : I1 4806 = nI (fd (gs A k) n) := d1.1
    have f2 : I2 8415 = nI (fd (gs A k) n) := d2.1
    by_cases h3 : ¬ p3 < 0 ∧ ¬ 2 < p3
    · by_cases h2 : ¬ p2 < 0 ∧ ¬ nI (fd (gs A k) n) ≤ p2
      · have h2' := (pl_iff (by omega)).mpr h2
        have h2b := nle_lt' h2.2
        obtain ⟨p, hp, rfl⟩ := ix_lt (n := fd (gs A k) n) (by omega) h2.1 h2.2
        obtain ⟨u1, u2, u3, -⟩ := dm_P d1 d2 (k := p) hp
        refine ⟨.int (if p3 = 0 then (A1 51).getD p 0 else if p3 = 1 then (A1 52).getD p 0 else (A1 53).getD p 0), I1, A1, L, F, E, I2, A2, L, F, E, ⟨_, rfl⟩, ?_, ?_, s2, Nat.le_add_right _ _⟩
        · rw [sg_X7_alarm_0, if_pos h1, c1, Option.bind_some]
          refine (sg_X7_alarm_14 (I := I1) (A := A1) (L := L) (F := F) (E := E) (nI k) (nI p) p3).trans ?_
          rw [if_neg h2.1, f1, if_pos h2b, ldI_d (by omega) (by omega), ldI_d (by omega) (by omega), ldI_d (by omega) (by omega)]
          by_cases g0 : p3 = 0
          · rw [if_pos g0, if_pos g0]
            rfl
          · by_cases g1 : p3 = 1
            · rw [if_neg g0, if_neg g0, if_pos g1, if_pos g1]
              rfl
            · rw [if_neg g0, if_neg g0, if_neg g1, if_neg g1, if_pos]
              · rfl
              · have h20 : (2 : Int32).toInt = 2 := rfl
                have h10 : (1 : Int32).toInt = 1 := rfl
                have h00 := ii0
                have q := rg h3
                have q0 : p3.toInt ≠ 0 := fun z => g0 (i_eq.mpr z)
                have q1 : p3.toInt ≠ 1 := fun z => g1 (i_eq.mpr z)
                exact i_eq.mpr (by omega)
        · rw [sg_X8_alarm_0, if_pos h1', if_pos h3, c2, Option.bind_some]
          refine (sg_X8_alarm_23 (I := I2) (A := A2) (L := L) (F := F) (E := E) (nI k) (nI p) p3).trans ?_
          rw [f2, if_pos h2', ldI_d (by omega) (by omega), ldI_d (by omega) (by omega), ldI_d (by omega) (by omega), u1, u2, u3]
          by_cases g0 : p3 = 0
          · rw [if_neg (fun q => q g0), if_pos g0]
            rfl
          · by_cases g1 : p3 = 1
            · rw [if_pos g0, if_neg g0, if_neg (fun q => q g1), if_pos g1]
              rfl
            · rw [if_pos g0, if_neg g0, if_pos g1, if_neg g1]
              rfl
      · refine ⟨.int (-1), I1, A1, L, F, E, I2, A2, L, F, E, ⟨_, rfl⟩, ?_, ?_, s2, Nat.le_add_right _ _⟩
        · rw [sg_X7_alarm_0, if_pos h1, c1, Option.bind_some]
          refine (sg_X7_alarm_14 (I := I1) (A := A1) (L := L) (F := F) (E := E) (nI k) p2 p3).trans ?_
          by_cases a : p2 < 0
          · rw [if_pos a]
          · rw [if_neg a, f1, if_neg (fun q => h2 ⟨a, fun z => nlt_le z q⟩)]
        · rw [sg_X8_alarm_0, if_pos h1', if_pos h3, c2, Option.bind_some]
          refine (sg_X8_alarm_23 (I := I2) (A := A2) (L := L) (F := F) (E := E) (nI k) p2 p3).trans ?_
          rw [f2, if_neg (fun q => h2 ((pl_iff (by omega)).mp q))]
    · refine ⟨.int (-1), I1, A1, L, F, E, I1, A1, L, F, E, ⟨_, rfl⟩, ?_, ?_, s1, Nat.le_add_right _ _⟩
      · rw [sg_X7_alarm_0, if_pos h1, c1, Option.bind_some]
        refine (sg_X7_alarm_14 (I := I1) (A := A1) (L := L) (F := F) (E := E) (nI k) p2 p3).trans ?_
        rw [if_neg (c := p3 = 0) (fun q => h3 (by rw [q]; decide)), if_neg (c := p3 = 1) (fun q => h3 (by rw [q]; decide)), if_neg (c := p3 = 2) (fun q => h3 (by rw [q]; decide))]
        split
        · rfl
        · split <;> rfl
      · rw [sg_X8_alarm_0, if_pos h1', if_neg h3]
  · refine ⟨.int (-1), I, A, L, F, E, I, A, L, F, E, ⟨_, rfl⟩, ?_, ?_, hS, Nat.le_add_right _ _⟩
    · rw [sg_X7_alarm_0, if_neg h1]
    · rw [sg_X8_alarm_0, if_neg (fun q => h1 (c4.mp q))]
/-- the last of some places that isn't behind p -/
def lat (P : Nat → Int32) (p : Int32) : Nat → Nat → Int32 → Int32
  | 0, _, r => r
  | d + 1, i, r => lat P p d (i + 1) (if p < P i then r else P i)
theorem lat_cg {P Q : Nat → Int32} {p : Int32} : ∀ (d i : Nat) (r : Int32), (∀ j, i ≤ j → j < i + d → P j = Q j) → lat P p d i r = lat Q p d i r
  | 0, _, _, _ => rfl
  | d + 1, i, r, h => by
    unfold lat
    rw [h i (by omega) (by omega)]
    exact lat_cg d (i + 1) _ (fun j h1 h2 => h j (by omega) (by omega))
section LAT
variable {I : Nat → Int32} {A : Nat → List Int32} {L : Nat → List Int64} {F : Nat → Int64} {E : MH}
theorem lat_x {f : Nat} (hf : f ≤ 40) (h6 : I 4806 = nI f) (hl : (A 51).length = 40) (v1 p : Int32) : ∀ (d i : Nat) (r : Int32), i + d = f → mm_run G0 70 24 [some (.ref 1), some (.int v1), some (.int p), some (.int r), some (.int (nI i))] [] (HP I A L F E) = some (some (.int (lat (fun j => (A 51).getD j 0) p d i r)), HP I A L F E)
  | 0, i, r, h => by
    rw [sg_X7_latest_24, h6, if_pos (n_le (a := f) (b := i) (by omega) (by omega))]
    rfl
  | d + 1, i, r, h => by
    rw [sg_X7_latest_24, h6, if_neg (n_nle (a := i) (b := f) (by omega) (by omega)), ldI_d (by omega) (by omega), Option.bind_some, Option.bind_some, in1]
    unfold lat
    by_cases e : p < (A 51).getD i 0
    · rw [if_pos e, if_pos e]
      exact lat_x hf h6 hl v1 p d (i + 1) r (by omega)
    · rw [if_neg e, if_neg e]
      exact lat_x hf h6 hl v1 p d (i + 1) _ (by omega)
theorem lat_m {f : Nat} (hf : f ≤ 40) (h6 : I 8415 = nI f) (hl : (A 92).length = 40) (v1 p : Int32) : ∀ (d i : Nat) (r : Int32), i + d = f → mm_run G0 143 24 [some (.ref 84), some (.int v1), some (.int p), some (.int r), some (.int (nI i))] [] (HP I A L F E) = some (some (.int (lat (fun j => (A 92).getD j 0) p d i r)), HP I A L F E)
  | 0, i, r, h => by
    rw [sg_X8_latest_24, h6, if_pos (n_le (a := f) (b := i) (by omega) (by omega))]
    rfl
  | d + 1, i, r, h => by
    rw [sg_X8_latest_24, h6, if_neg (n_nle (a := i) (b := f) (by omega) (by omega)), ldI_d (by omega) (by omega), Option.bind_some, Option.bind_some, in1]
    unfold lat
    by_cases e : p < (A 92).getD i 0
    · rw [if_pos e, if_pos e]
      exact lat_m hf h6 hl v1 p d (i + 1) r (by omega)
    · rw [if_neg e, if_neg e]
      exact lat_m hf h6 hl v1 p d (i + 1) _ (by omega)
end LAT
theorem pr_latest (p1 p2 : Int32) : Pr tyI 70 143 [.int p1, .int p2] := by
  intro I A L F E hS
  by_cases h1 : ¬ p1 < 0 ∧ ¬ 4 ≤ p1
  · have h1' := c4.mpr h1
    obtain ⟨k, hk, rfl⟩ := st4 h1
    by_cases h2 : 0 ≤ p2
    · obtain ⟨n, hn, e1, e2, I1, I2, A1, A2, c1, c2, d1, d2, s1, s2, i1, a1, a2⟩ := both_now (F := F) (E := E) hk hS
      have l51 := s1.1.i (a := 51) (n := 40) (by decide)
      have l92 := s2.1.i (a := 92) (n := 40) (by decide)
      have hfl := fd_le (gs A k) n
      refine ⟨.int (lat (fun j => (A1 51).getD j 0) p2 (fd (gs A k) n) 0 (-5)), I1, A1, L, F, E, I2, A2, L, F, E, ⟨_, rfl⟩, ?_, ?_, s2, Nat.le_add_right _ _⟩
      · rw [sg_X7_latest_0, if_pos h1, if_pos h2, c1, Option.bind_some]
        refine (sg_X7_latest_18 (I := I1) (A := A1) (L := L) (F := F) (E := E) (nI k) p2).trans ?_
        exact lat_x (f := fd (gs A k) n) (by omega) d1.1 l51 (nI k) p2 _ 0 _ (by omega)
      · rw [sg_X8_latest_0, if_pos h1', if_pos h2, c2, Option.bind_some]
        refine (sg_X8_latest_18 (I := I2) (A := A2) (L := L) (F := F) (E := E) (nI k) p2).trans ?_
        have hcg : ∀ j, 0 ≤ j → j < 0 + fd (gs A k) n → (fun j => (A1 51).getD j 0) j = (fun j => (A2 92).getD j 0) j := fun j _ hj => by
          have hj2 : j < fd (gs A k) n := by omega
          exact (dm_P d1 d2 (k := j) hj2).1
        rw [lat_cg (Q := fun j => (A2 92).getD j 0) (fd (gs A k) n) 0 (-5) hcg]
        exact lat_m (f := fd (gs A k) n) (by omega) d2.1 l92 (nI k) p2 _ 0 _ (by omega)
    · refine ⟨.int (-1), I, A, L, F, E, I, A, L, F, E, ⟨_, rfl⟩, ?_, ?_, hS, Nat.le_add_right _ _⟩
      · rw [sg_X7_latest_0, if_pos h1, if_neg h2]
      · rw [sg_X8_latest_0, if_pos h1', if_neg h2]
  · refine ⟨.int (-1), I, A, L, F, E, I, A, L, F, E, ⟨_, rfl⟩, ?_, ?_, hS, Nat.le_add_right _ _⟩
    · rw [sg_X7_latest_0, if_neg h1]
    · rw [sg_X8_latest_0, if_neg (fun q => h1 (c4.mp q))]
