/-! fits, looked, judge -/
section FIT
variable {I : Nat → Int32} {A : Nat → List Int32} {L : Nat → List Int64} {F : Nat → Int64} {E : MH}
theorem drawNowX {k n : Nat} (hk : k < 4) (hS : Sim I A L) (hn : n ≤ 40) (hg : gs A k 4 = nI n) : ∃ (I' : Nat → Int32) (A' : Nat → List Int32), mm_call G0 105 [.ref 1, .int (nI k)] (HP I A L F E) = some (none, HP I' A' L F E) ∧ KX I A I' A' ∧ DrT I' A' (gs A k) (gs A k 2) (gs A k 3) n := by
  obtain ⟨I1, A1, x1, x2, x3⟩ := drawX (F := F) (E := E) hk hS hn hg (gs A k 2) (gs A k 3)
  refine ⟨I1, A1, ?_, x2, x3⟩
  rw [sg_X7_drawNow_0, now_at hk, Option.bind_some, hS.fld hk (show 2 < 5 by decide), hS.fld hk (show 3 < 5 by decide), show gw A 85 (45 * k + 2) = gs A k 2 from rfl, show gw A 85 (45 * k + 3) = gs A k 3 from rfl, x1, Option.bind_some]
  exact sg_X7_drawNow_23 _ (isS_now hk)
theorem thrX {k n : Nat} (hk : k < 4) (hS : Sim I A L) (hn : n ≤ 40) (hg : gs A k 4 = nI n) : ∃ (I' : Nat → Int32) (A' : Nat → List Int32), mm_call G0 138 [.ref 84, .int (nI k)] (HP I A L F E) = some (none, HP I' A' L F E) ∧ KM I A I' A' ∧ MrT I' A' (gs A k) (gs A k 2) (gs A k 3) n := by
  obtain ⟨I1, A1, y1, y2, y3, y4, y5⟩ := thr_ok (I := I) (A := A) (L := L) (F := F) (E := E) hk hn (g := gs A k) hg hS.1 (fun j hj => rfl)
  exact ⟨I1, A1, y1, ⟨y3, y4, y5⟩, y2⟩
/-- an alarm at that place -/
def Al (g : Nat → Int32) (sl lm : Int32) (n : Nat) (pl : Int32) : Prop := ∃ i, i < n ∧ ch_F (gof g) sl lm (sby (g 0) lm) (decide (g 0 = 4)) i ∧ nI i = pl
theorem al_arr {g : Nat → Int32} {sl lm : Int32} {n : Nat} {U D P S Z : List Int32} (hR : Rc (gof g) sl lm (sby (g 0) lm) (decide (g 0 = 4)) U D P S Z n) {pl : Int32} : (∃ j, 0 ≤ j ∧ j < ft g sl lm n ∧ P.getD j 0 = pl) ↔ Al g sl lm n pl := by
  constructor
  · rintro ⟨j, -, hj, e⟩
    obtain ⟨i, h1, h2, h3⟩ := ch_surj n hj
    have b := (hR i h1).2.2 h2
    rw [h3] at b
    exact ⟨i, h1, h2, b.1.symm.trans e⟩
  · rintro ⟨i, h1, h2, e⟩
    have b := (hR i h1).2.2 h2
    exact ⟨_, Nat.zero_le _, ch_lt h2 h1, b.1.trans e⟩
theorem al_x {f : Nat} (hf : f ≤ 40) (h6 : I 4806 = nI f) (hl : (A 51).length = 40) (pl : Int32) : ∀ (d i : Nat), i + d = f → ∃ z : Int32, mm_run G0 17 2 [some (.ref 48), some (.int pl), some (.int (nI i))] [] (HP I A L F E) = some (some (.int z), HP I A L F E) ∧ (z ≠ 0 ↔ ∃ j, i ≤ j ∧ j < f ∧ (A 51).getD j 0 = pl)
  | 0, i, h => ⟨0, by rw [sg_X1_alarmsAt_2, h6, if_pos (n_le (a := f) (b := i) (by omega) (by omega))], fun z => absurd rfl z, fun ⟨j, h1, h2, _⟩ => by omega⟩
  | d + 1, i, h => by
    rw [sg_X1_alarmsAt_2, h6, if_neg (n_nle (a := i) (b := f) (by omega) (by omega)), ldI_d (by omega) (by omega), Option.bind_some, in1]
    by_cases e : (A 51).getD i 0 = pl
    · rw [if_neg (fun z => z e)]
      exact ⟨1, rfl, fun _ => ⟨i, Nat.le_refl _, by omega, e⟩, fun _ => by decide⟩
    · rw [if_pos e]
      obtain ⟨z, z1, z2⟩ := al_x hf h6 hl pl d (i + 1) (by omega)
      refine ⟨z, z1, fun q => ?_, fun q => ?_⟩
      · obtain ⟨j, h1, h2, h3⟩ := z2.mp q
        exact ⟨j, by omega, h2, h3⟩
      · obtain ⟨j, h1, h2, h3⟩ := q
        refine z2.mpr ⟨j, ?_, h2, h3⟩
        rcases Nat.eq_or_lt_of_le h1 with q | q
        · rw [q] at e
          exact absurd h3 e
        · exact q
theorem al_m {f : Nat} (hf : f ≤ 40) (h6 : I 8415 = nI f) (hl : (A 92).length = 40) (pl : Int32) : ∀ (d i : Nat), i + d = f → ∃ z : Int32, mm_run G0 170 2 [some (.ref 84), some (.int pl), some (.int (nI i))] [] (HP I A L F E) = some (some (.int z), HP I A L F E) ∧ (z ≠ 0 ↔ ∃ j, i ≤ j ∧ j < f ∧ (A 92).getD j 0 = pl)
  | 0, i, h => ⟨0, by rw [sg_X8_isAlarmAt_2, h6, if_pos (n_le (a := f) (b := i) (by omega) (by omega))], fun z => absurd rfl z, fun ⟨j, h1, h2, _⟩ => by omega⟩
  | d + 1, i, h => by
    rw [sg_X8_isAlarmAt_2, h6, if_neg (n_nle (a := i) (b := f) (by omega) (by omega)), ldI_d (by omega) (by omega), Option.bind_some, in1]
    by_cases e : (A 92).getD i 0 = pl
    · rw [if_neg (fun z => z e)]
      exact ⟨1, rfl, fun _ => ⟨i, Nat.le_refl _, by omega, e⟩, fun _ => by decide⟩
    · rw [if_pos e]
      obtain ⟨z, z1, z2⟩ := al_m hf h6 hl pl d (i + 1) (by omega)
      refine ⟨z, z1, fun q => ?_, fun q => ?_⟩
      · obtain ⟨j, h1, h2, h3⟩ := z2.mp q
        exact ⟨j, by omega, h2, h3⟩
      · obtain ⟨j, h1, h2, h3⟩ := q
        refine z2.mpr ⟨j, ?_, h2, h3⟩
        rcases Nat.eq_or_lt_of_le h1 with q | q
        · rw [q] at e
          exact absurd h3 e
        · exact q
/-- alarms at all places seen of a stream, from the i-th on -/
def Sn (w g : Nat → Int32) (sl lm : Int32) (n m : Nat) (st : Int32) (i : Nat) : Prop := ∀ r, i ≤ r → r < m → w (186 + 2 * r) = st → Al g sl lm n (w (187 + 2 * r))
theorem Sn.nx {w g : Nat → Int32} {sl lm : Int32} {n m : Nat} {st : Int32} {i : Nat} (hi : i < m) : Sn w g sl lm n m st i ↔ (w (186 + 2 * i) = st → Al g sl lm n (w (187 + 2 * i))) ∧ Sn w g sl lm n m st (i + 1) := by
  constructor
  · intro h
    exact ⟨h i (Nat.le_refl _) hi, fun r h1 h2 => h r (by omega) h2⟩
  · rintro ⟨h1, h2⟩ r h3 h4
    rcases Nat.eq_or_lt_of_le h3 with q | q
    · rw [← q]
      exact h1
    · exact h2 r q h4
theorem shows_x {g : Nat → Int32} {sl lm : Int32} {n m : Nat} (hS : Sim I A L) (hn : n ≤ 40) (hD : DrT I A g sl lm n) (hm : m ≤ 6) (hw : gw A 85 185 = nI m) (st : Int32) : ∃ z : Int32, mm_call G0 108 [.ref 1, .int st] (HP I A L F E) = some (some (.int z), HP I A L F E) ∧ (z ≠ 0 ↔ Sn (gw A 85) g sl lm n m st 0) := by
  have l6 := hS.1.i (a := 6) (n := 6) (by decide)
  have l7 := hS.1.i (a := 7) (n := 6) (by decide)
  have l51 := hS.1.i (a := 51) (n := 40) (by decide)
  have hfl : ft g sl lm n ≤ n := ch_le n
  have b1 : I 503 = nI m := hS.2.1.2.2.1.1.trans hw
  have hr := hS.2.1.2.2.1.2
  have key : ∀ (d i : Nat), i + d = m → ∃ z : Int32, mm_run G0 108 10 [some (.ref 1), some (.int st), some (.ref 5), some (.int (nI i))] [] (HP I A L F E) = some (some (.int z), HP I A L F E) ∧ (z ≠ 0 ↔ Sn (gw A 85) g sl lm n m st i) := by
    intro d
    induction d with
    | zero =>
      intro i hi
      exact ⟨1, by rw [sg_X7_showsSeen_10, b1, if_pos (n_le (a := m) (b := i) (by omega) (by omega))], fun _ r h1 h2 => by omega, fun _ => by decide⟩
    | succ d ih =>
      intro i hi
      obtain ⟨z, z1, z2⟩ := ih (i + 1) (by omega)
      have e1 : (A 6).getD i 0 = gw A 85 (186 + 2 * i) := (hr m i hw (by omega) (by omega)).1
      have e2 : (A 7).getD i 0 = gw A 85 (187 + 2 * i) := (hr m i hw (by omega) (by omega)).2
      rw [sg_X7_showsSeen_10, b1, if_neg (n_nle (a := i) (b := m) (by omega) (by omega)), ldI_d (by omega) (by omega), Option.bind_some, e1, in1]
      by_cases e : gw A 85 (186 + 2 * i) = st
      · obtain ⟨y, y1, y2⟩ := al_x (I := I) (A := A) (L := L) (F := F) (E := E) (f := ft g sl lm n) (by omega) hD.1 l51 (gw A 85 (187 + 2 * i)) (ft g sl lm n) 0 (by omega)
        rw [if_neg (fun q => q e), ldI_d (by omega) (by omega), Option.bind_some, e2, sg_X1_alarmsAt_0, show (0 : Int32) = nI 0 from rfl, y1, Option.bind_some]
        have y3 := y2.trans (al_arr hD.2)
        by_cases ey : y ≠ 0
        · refine ⟨z, ?_, ?_⟩
          · refine (sg_X7_showsSeen_41 st (nI i) y).trans ?_
            rw [if_pos ey, in1]
            exact z1
          · refine z2.trans ?_
            rw [Sn.nx (show i < m by omega)]
            exact ⟨fun q => ⟨fun _ => y3.mp ey, q⟩, fun q => q.2⟩
        · refine ⟨0, ?_, fun q => absurd rfl q, fun q => absurd (y3.mpr ((Sn.nx (show i < m by omega)).mp q |>.1 e)) ey⟩
          refine (sg_X7_showsSeen_41 st (nI i) y).trans ?_
          rw [if_neg ey]
      · rw [if_pos e]
        refine ⟨z, z1, ?_⟩
        rw [z2, Sn.nx (show i < m by omega)]
        exact ⟨fun q => ⟨fun z => absurd z e, q⟩, fun q => q.2⟩
  rw [sg_X7_showsSeen_0]
  exact key m 0 (by omega)
theorem shows_m {g : Nat → Int32} {sl lm : Int32} {n m : Nat} (hS : Sim I A L) (hn : n ≤ 40) (hD : MrT I A g sl lm n) (hm : m ≤ 6) (hw : gw A 85 185 = nI m) (st : Int32) : ∃ z : Int32, mm_call G0 171 [.ref 84, .int st] (HP I A L F E) = some (some (.int z), HP I A L F E) ∧ (z ≠ 0 ↔ Sn (gw A 85) g sl lm n m st 0) := by
  have l92 := hS.1.i (a := 92) (n := 40) (by decide)
  have hfl : ft g sl lm n ≤ n := ch_le n
  have key : ∀ (d i : Nat), i + d = m → ∃ z : Int32, mm_run G0 171 2 [some (.ref 84), some (.int st), some (.int (nI i))] [] (HP I A L F E) = some (some (.int z), HP I A L F E) ∧ (z ≠ 0 ↔ Sn (gw A 85) g sl lm n m st i) := by
    intro d
    induction d with
    | zero =>
      intro i hi
      exact ⟨1, by rw [sg_X8_isAllSeen_2, show (185 : Int32) = nI 185 from rfl, hS.w (by decide), Option.bind_some, hw, if_pos (n_le (a := m) (b := i) (by omega) (by omega))], fun _ r h1 h2 => by omega, fun _ => by decide⟩
    | succ d ih =>
      intro i hi
      obtain ⟨z, z1, z2⟩ := ih (i + 1) (by omega)
      have e1 : (186 : Int32) + 2 * nI i = nI (186 + 2 * i) := by rw [show (186 : Int32) = nI 186 from rfl, show (2 : Int32) = nI 2 from rfl, pk_mul, nI_add]
      have e2 : (187 : Int32) + 2 * nI i = nI (187 + 2 * i) := by rw [show (187 : Int32) = nI 187 from rfl, show (2 : Int32) = nI 2 from rfl, pk_mul, nI_add]
      rw [sg_X8_isAllSeen_2, show (185 : Int32) = nI 185 from rfl, hS.w (by decide), Option.bind_some, hw, if_neg (n_nle (a := i) (b := m) (by omega) (by omega)), e1, hS.w (by omega), Option.bind_some, in1]
      by_cases e : gw A 85 (186 + 2 * i) = st
      · obtain ⟨y, y1, y2⟩ := al_m (I := I) (A := A) (L := L) (F := F) (E := E) (f := ft g sl lm n) (by omega) hD.1 l92 (gw A 85 (187 + 2 * i)) (ft g sl lm n) 0 (by omega)
        rw [if_neg (fun q => q e), e2, hS.w (by omega), Option.bind_some, sg_X8_isAlarmAt_0, show (0 : Int32) = nI 0 from rfl, y1, Option.bind_some]
        have y3 := y2.trans (al_arr hD.2)
        by_cases ey : y ≠ 0
        · refine ⟨z, ?_, ?_⟩
          · refine (sg_X8_isAllSeen_46 st (nI i) y).trans ?_
            rw [if_pos ey, in1]
            exact z1
          · refine z2.trans ?_
            rw [Sn.nx (show i < m by omega)]
            exact ⟨fun q => ⟨fun _ => y3.mp ey, q⟩, fun q => q.2⟩
        · refine ⟨0, ?_, fun q => absurd rfl q, fun q => absurd (y3.mpr ((Sn.nx (show i < m by omega)).mp q |>.1 e)) ey⟩
          refine (sg_X8_isAllSeen_46 st (nI i) y).trans ?_
          rw [if_neg ey]
      · rw [if_pos e]
        refine ⟨z, z1, ?_⟩
        rw [z2, Sn.nx (show i < m by omega)]
        exact ⟨fun q => ⟨fun z => absurd z e, q⟩, fun q => q.2⟩
  rw [sg_X8_isAllSeen_0]
  exact key m 0 (by omega)
end FIT
noncomputable def ftl (Sh : Nat → Prop) : Nat → Int32 → Int32 → Int32 × Int32
  | 0, m, l => (m, l)
  | v + 1, m, l => @ite _ (Sh (v + 1)) (Classical.propDecidable _) (ftl Sh v (m + 1) (nI (v + 1))) (ftl Sh v m l)
section FIU
variable {L : Nat → List Int64} {F : Nat → Int64} {E : MH}
theorem fits_x {k n mm : Nat} (hk : k < 4) (hn : n ≤ 40) (g w : Nat → Int32) (hg : g 4 = nI n) (hmm : mm ≤ 6) (hw : w 185 = nI mm) (p : Int32) : ∀ (v : Nat) (m l : Int32) (I : Nat → Int32) (A : Nat → List Int32), v ≤ 12 → Sim I A L → gs A k = g → gw A 85 = w → ∃ (I' : Nat → Int32) (A' : Nat → List Int32), mm_run G0 81 39 [some (.ref 1), some (.int (nI k)), some (.int p), some (.ref (14 + 2 * k)), some (.int m), some (.int l), some (.int (nI v))] [] (HP I A L F E) = some (some (.int (if p ≠ 0 then (ftl (fun v => Sn w g (g 2) (nI v) n mm (nI k) 0) v m l).2 else (ftl (fun v => Sn w g (g 2) (nI v) n mm (nI k) 0) v m l).1)), HP I' A' L F E) ∧ KX I A I' A' := by
  intro v
  induction v with
  | zero =>
    intro m l I A hv hS hgs hwe
    refine ⟨I, A, ?_, KX.rfl'⟩
    rw [sg_X7_fits_39 _ _ (isS_now hk), if_pos (by decide)]
    unfold ftl
    split <;> rfl
  | succ v ih =>
    intro m l I A hv hS hgs hwe
    obtain ⟨I1, A1, x1, x2, x3⟩ := drawX (F := F) (E := E) hk hS hn (by rw [hgs]; exact hg) (g 2) (nI (v + 1))
    rw [hgs] at x3
    have s1 := x2.sim hS
    obtain ⟨z, z1, z2⟩ := shows_x (F := F) (E := E) s1 hn x3 hmm (by rw [x2.gwe, hwe]; exact hw) (nI k)
    rw [x2.gwe, hwe] at z2
    rw [sg_X7_fits_39 _ _ (isS_now hk), if_neg (show ¬ nI (v + 1) < (1 : Int32) from nI_nlt (a := v + 1) (b := 1) (by omega) (by omega)), hS.fld hk (show 2 < 5 by decide), show gw A 85 (45 * k + 2) = g 2 by rw [← hgs]; rfl, x1, Option.bind_some]
    unfold ftl
    by_cases e : Sn w g (g 2) (nI (v + 1)) n mm (nI k) 0
    · obtain ⟨I2, A2, y1, y2⟩ := ih (m + 1) (nI (v + 1)) I1 A1 (by omega) s1 (by rw [x2.gse, hgs]) (by rw [x2.gwe, hwe])
      refine ⟨I2, A2, ?_, x2.tr y2⟩
      refine (sg_X7_fits_56 (nI k) p (isS_now hk) m l (nI (v + 1))).trans ?_
      rw [z1, Option.bind_some]
      refine (sg_X7_fits_61 (nI k) p (isS_now hk) m l (nI (v + 1)) z).trans ?_
      rw [if_pos (z2.mpr e), pk_m1, if_pos e]
      exact y1
    · obtain ⟨I2, A2, y1, y2⟩ := ih m l I1 A1 (by omega) s1 (by rw [x2.gse, hgs]) (by rw [x2.gwe, hwe])
      refine ⟨I2, A2, ?_, x2.tr y2⟩
      refine (sg_X7_fits_56 (nI k) p (isS_now hk) m l (nI (v + 1))).trans ?_
      rw [z1, Option.bind_some]
      refine (sg_X7_fits_61 (nI k) p (isS_now hk) m l (nI (v + 1)) z).trans ?_
      rw [if_neg (fun q => e (z2.mp q)), pk_m1, if_neg e]
      exact y1
theorem fits_m {k n mm : Nat} (hk : k < 4) (hn : n ≤ 40) (g w : Nat → Int32) (hg : g 4 = nI n) (hmm : mm ≤ 6) (hw : w 185 = nI mm) (p : Int32) : ∀ (v : Nat) (m l : Int32) (I : Nat → Int32) (A : Nat → List Int32), v ≤ 12 → Sim I A L → gs A k = g → gw A 85 = w → ∃ (I' : Nat → Int32) (A' : Nat → List Int32), mm_run G0 172 28 [some (.ref 84), some (.int (nI k)), some (.int p), some (.int m), some (.int l), some (.int (nI v))] [] (HP I A L F E) = some (some (.int (if p ≠ 0 then (ftl (fun v => Sn w g (g 2) (nI v) n mm (nI k) 0) v m l).2 else (ftl (fun v => Sn w g (g 2) (nI v) n mm (nI k) 0) v m l).1)), HP I' A' L F E) ∧ KM I A I' A' := by
  intro v
  induction v with
  | zero =>
    intro m l I A hv hS hgs hwe
    refine ⟨I, A, ?_, KM.rfl'⟩
    rw [sg_X8_fits_28, if_pos (by decide)]
    unfold ftl
    split <;> rfl
  | succ v ih =>
    intro m l I A hv hS hgs hwe
    obtain ⟨I1, A1, x1, x2, x3⟩ := firstBy3 (F := F) (E := E) hk (nI (v + 1)) hS hn (by rw [hgs]; exact hg)
    rw [hgs] at x1 x3
    have s1 := x2.sim hS
    obtain ⟨z, z1, z2⟩ := shows_m (F := F) (E := E) s1 hn x3 hmm (by rw [x2.gwe, hwe]; exact hw) (nI k)
    rw [x2.gwe, hwe] at z2
    rw [sg_X8_fits_28, if_neg (show ¬ nI (v + 1) ≤ (0 : Int32) from n_nle (a := 0) (b := v + 1) (by omega) (by omega)), x1, Option.bind_some]
    unfold ftl
    by_cases e : Sn w g (g 2) (nI (v + 1)) n mm (nI k) 0
    · obtain ⟨I2, A2, y1, y2⟩ := ih (m + 1) (nI (v + 1)) I1 A1 (by omega) s1 (by rw [x2.gse, hgs]) (by rw [x2.gwe, hwe])
      refine ⟨I2, A2, ?_, x2.tr y2⟩
      refine (sg_X8_fits_41 (nI k) p m l (nI (v + 1)) _).trans ?_
      rw [z1, Option.bind_some]
      refine (sg_X8_fits_47 (nI k) p m l (nI (v + 1)) z).trans ?_
      rw [if_pos (z2.mpr e), pk_m1, if_pos e]
      exact y1
    · obtain ⟨I2, A2, y1, y2⟩ := ih m l I1 A1 (by omega) s1 (by rw [x2.gse, hgs]) (by rw [x2.gwe, hwe])
      refine ⟨I2, A2, ?_, x2.tr y2⟩
      refine (sg_X8_fits_41 (nI k) p m l (nI (v + 1)) _).trans ?_
      rw [z1, Option.bind_some]
      refine (sg_X8_fits_47 (nI k) p m l (nI (v + 1)) z).trans ?_
      rw [if_neg (fun q => e (z2.mp q)), pk_m1, if_neg e]
      exact y1
end FIU
theorem pr_fits (p1 p2 : Int32) : Pr tyI 81 172 [.int p1, .int p2] := by
  intro I A L F E hS
  by_cases h1 : ¬ p1 < 0 ∧ ¬ 4 ≤ p1
  · obtain ⟨k, hk, rfl⟩ := st4 h1
    by_cases h2 : ¬ p2 < 0 ∧ ¬ 1 < p2
    · obtain ⟨n, hn, e1, e2⟩ := hS.len hk
      obtain ⟨mm, q1, q2, -⟩ := hS.2.2.1.2.2.1
      obtain ⟨I1, A1, x1, x2⟩ := fits_x (F := F) (E := E) hk hn (gs A k) (gw A 85) e2 q1 q2 p2 12 0 (-5) I A (by decide) hS rfl rfl
      obtain ⟨I2, A2, y1, y2⟩ := fits_m (F := F) (E := E) hk hn (gs A k) (gw A 85) e2 q1 q2 p2 12 0 (-5) I1 A1 (by decide) (x2.sim hS) (x2.gse k) x2.gwe
      refine ⟨_, I1, A1, L, F, E, I2, A2, L, F, E, ⟨_, rfl⟩, (?_ : _ = some (some (Value.int (if p2 ≠ 0 then (ftl (fun v => Sn (gw A 85) (gs A k) (gs A k 2) (nI v) n mm (nI k) 0) 12 0 (-5)).2 else (ftl (fun v => Sn (gw A 85) (gs A k) (gs A k 2) (nI v) n mm (nI k) 0) 12 0 (-5)).1)), _)), ?_, y2.sim (x2.sim hS), Nat.le_add_right _ _⟩
      · rw [sg_X7_fits_0, if_pos h1, if_neg h2.1, if_pos (nle_lt h2.2), now_at hk, Option.bind_some]
        exact x1
      · rw [sg_X8_fits_0, if_pos (c4.mpr h1), if_pos h2]
        exact y1
    · refine ⟨.int (-1), I, A, L, F, E, I, A, L, F, E, ⟨_, rfl⟩, ?_, ?_, hS, Nat.le_add_right _ _⟩
      · rw [sg_X7_fits_0, if_pos h1]
        by_cases a : p2 < 0
        · rw [if_pos a]
        · rw [if_neg a, if_neg (fun q => h2 ⟨a, nlt_le q⟩)]
      · rw [sg_X8_fits_0, if_pos (c4.mpr h1), if_neg h2]
  · refine ⟨.int (-1), I, A, L, F, E, I, A, L, F, E, ⟨_, rfl⟩, ?_, ?_, hS, Nat.le_add_right _ _⟩
    · rw [sg_X7_fits_0, if_neg h1]
    · rw [sg_X8_fits_0, if_neg (fun q => h1 (c4.mp q))]
/-- how many alarms the stream of that number has -/
def fS (w : Nat → Int32) (x : Int32) : Nat := ft (fun j => w (45 * x.toNatClampNeg + j)) (w (45 * x.toNatClampNeg + 2)) (w (45 * x.toNatClampNeg + 3)) (w (45 * x.toNatClampNeg + 4)).toNatClampNeg
def lk (w : Nat → Int32) : Nat → Nat → Int32
  | 0, _ => -5
  | d + 1, r => if nI (fS w (w (216 + 2 * r))) = w (217 + 2 * r) then lk w d (r + 1) else nI r
theorem fS_at {A : Nat → List Int32} {k n : Nat} (hk : k < 4) (hn : n ≤ 40) (hg : gs A k 4 = nI n) : fS (gw A 85) (nI k) = ft (gs A k) (gs A k 2) (gs A k 3) n := by
  have hg' : gw A 85 (45 * k + 4) = nI n := hg
  unfold fS
  rw [nI_clamp (by omega), hg', nI_clamp (by omega)]
  rfl
section LOO
variable {L : Nat → List Int64} {F : Nat → Int64} {E : MH}
theorem looked_x {m : Nat} (hm : m ≤ 8) (w : Nat → Int32) (hw : w 215 = nI m) : ∀ (d r : Nat) (I : Nat → Int32) (A : Nat → List Int32), r + d = m → Sim I A L → gw A 85 = w → ∃ (I' : Nat → Int32) (A' : Nat → List Int32), mm_run G0 87 10 [some (.ref 1), some (.ref 11), some (.int (nI r))] [] (HP I A L F E) = some (some (.int (lk w d r)), HP I' A' L F E) ∧ KX I A I' A' := by
  intro d
  induction d with
  | zero =>
    intro r I A hr hS hwe
    refine ⟨I, A, ?_, KX.rfl'⟩
    have b1 : I 1103 = nI m := hS.2.1.2.2.2.2.1.trans (by rw [hwe]; exact hw)
    rw [sg_X7_looked_10, b1, if_pos (n_le (a := m) (b := r) (by omega) (by omega))]
    rfl
  | succ d ih =>
    intro r I A hr hS hwe
    have hw' : gw A 85 215 = nI m := by rw [hwe]; exact hw
    have b1 : I 1103 = nI m := hS.2.1.2.2.2.2.1.trans hw'
    have l12 := hS.1.i (a := 12) (n := 8) (by decide)
    have e1 : (A 12).getD r 0 = gw A 85 (216 + 2 * r) := (hS.2.1.2.2.2.2.2 m r hw' (by omega) (by omega)).1
    have e2 : (A 13).getD r 0 = gw A 85 (217 + 2 * r) := (hS.2.1.2.2.2.2.2 m r hw' (by omega) (by omega)).2
    obtain ⟨m', q1, q2, q3⟩ := hS.2.2.1.2.2.2.2
    have em : m' = m := (nI_eq (by omega) (by omega)).mp (q2.symm.trans hw')
    obtain ⟨s, hs, es⟩ := q3 r (by omega)
    obtain ⟨n, hn, g1, g2⟩ := hS.len hs
    obtain ⟨I1, A1, x1, x2, x3⟩ := drawNowX (F := F) (E := E) hs hS hn g2
    have s1 := x2.sim hS
    have l13 := s1.1.i (a := 13) (n := 8) (by decide)
    have h6 : I1 4806 = nI (ft (gs A s) (gs A s 2) (gs A s 3) n) := x3.1
    have e3 : (A1 13).getD r 0 = w (217 + 2 * r) := by rw [x2.2.1 _ (by decide) (by decide), e2, hwe]
    have e4 : fS w (w (216 + 2 * r)) = ft (gs A s) (gs A s 2) (gs A s 3) n := by rw [← hwe, es, fS_at hs hn g2]
    rw [sg_X7_looked_10, b1, if_neg (n_nle (a := r) (b := m) (by omega) (by omega)), ldI_d (by omega) (by omega), Option.bind_some, e1, es, x1, Option.bind_some]
    unfold lk
    rw [e4]
    by_cases e : nI (ft (gs A s) (gs A s 2) (gs A s 3) n) = w (217 + 2 * r)
    · obtain ⟨I2, A2, y1, y2⟩ := ih (r + 1) I1 A1 (by omega) s1 (by rw [x2.gwe, hwe])
      refine ⟨I2, A2, ?_, x2.tr y2⟩
      refine (sg_X7_looked_28 (nI r)).trans ?_
      rw [ldI_d (by omega) (by omega), Option.bind_some, h6, e3, if_pos e, if_pos e, in1]
      exact y1
    · refine ⟨I1, A1, ?_, x2⟩
      refine (sg_X7_looked_28 (nI r)).trans ?_
      rw [ldI_d (by omega) (by omega), Option.bind_some, h6, e3, if_neg e, if_neg e]
theorem looked_m {m : Nat} (hm : m ≤ 8) (w : Nat → Int32) (hw : w 215 = nI m) : ∀ (d r : Nat) (I : Nat → Int32) (A : Nat → List Int32), r + d = m → Sim I A L → gw A 85 = w → ∃ (I' : Nat → Int32) (A' : Nat → List Int32), mm_run G0 179 2 [some (.ref 84), some (.int (nI r))] [] (HP I A L F E) = some (some (.int (lk w d r)), HP I' A' L F E) ∧ KM I A I' A' := by
  intro d
  induction d with
  | zero =>
    intro r I A hr hS hwe
    refine ⟨I, A, ?_, KM.rfl'⟩
    rw [sg_X8_looked_2, show (215 : Int32) = nI 215 from rfl, hS.w (by decide), Option.bind_some, hwe, hw, if_pos (n_le (a := m) (b := r) (by omega) (by omega))]
    rfl
  | succ d ih =>
    intro r I A hr hS hwe
    have hw' : gw A 85 215 = nI m := by rw [hwe]; exact hw
    obtain ⟨m', q1, q2, q3⟩ := hS.2.2.1.2.2.2.2
    have em : m' = m := (nI_eq (by omega) (by omega)).mp (q2.symm.trans hw')
    obtain ⟨s, hs, es⟩ := q3 r (by omega)
    obtain ⟨n, hn, g1, g2⟩ := hS.len hs
    obtain ⟨I1, A1, x1, x2, x3⟩ := thrX (F := F) (E := E) hs hS hn g2
    have s1 := x2.sim hS
    have h6 : I1 8415 = nI (ft (gs A s) (gs A s 2) (gs A s 3) n) := x3.1
    have i1 : (216 : Int32) + 2 * nI r = nI (216 + 2 * r) := by rw [show (216 : Int32) = nI 216 from rfl, show (2 : Int32) = nI 2 from rfl, pk_mul, nI_add]
    have i2 : (217 : Int32) + 2 * nI r = nI (217 + 2 * r) := by rw [show (217 : Int32) = nI 217 from rfl, show (2 : Int32) = nI 2 from rfl, pk_mul, nI_add]
    have e4 : fS w (w (216 + 2 * r)) = ft (gs A s) (gs A s 2) (gs A s 3) n := by rw [← hwe, es, fS_at hs hn g2]
    rw [sg_X8_looked_2, show (215 : Int32) = nI 215 from rfl, hS.w (by decide), Option.bind_some, hw', if_neg (n_nle (a := r) (b := m) (by omega) (by omega)), i1, hS.w (by omega), Option.bind_some, es, x1, Option.bind_some]
    unfold lk
    rw [e4]
    by_cases e : nI (ft (gs A s) (gs A s 2) (gs A s 3) n) = w (217 + 2 * r)
    · obtain ⟨I2, A2, y1, y2⟩ := ih (r + 1) I1 A1 (by omega) s1 (by rw [x2.gwe, hwe])
      refine ⟨I2, A2, ?_, x2.tr y2⟩
      refine (sg_X8_looked_30 (nI r)).trans ?_
      rw [i2, s1.w (by omega), Option.bind_some, h6, x2.gwe, hwe, if_pos e, if_pos e, in1]
      exact y1
    · refine ⟨I1, A1, ?_, x2⟩
      refine (sg_X8_looked_30 (nI r)).trans ?_
      rw [i2, s1.w (by omega), Option.bind_some, h6, x2.gwe, hwe, if_neg e, if_neg e]
end LOO
theorem pr_looked : Pr tyI 87 179 [] := by
  intro I A L F E hS
  obtain ⟨m, q1, q2, -⟩ := hS.2.2.1.2.2.2.2
  obtain ⟨I1, A1, x1, x2⟩ := looked_x (F := F) (E := E) q1 (gw A 85) q2 m 0 I A (by omega) hS rfl
  obtain ⟨I2, A2, y1, y2⟩ := looked_m (F := F) (E := E) q1 (gw A 85) q2 m 0 I1 A1 (by omega) (x2.sim hS) x2.gwe
  refine ⟨.int (lk (gw A 85) m 0), I1, A1, L, F, E, I2, A2, L, F, E, ⟨_, rfl⟩, ?_, ?_, y2.sim (x2.sim hS), Nat.le_add_right _ _⟩
  · rw [sg_X7_looked_0]
    exact x1
  · rw [sg_X8_looked_0]
    exact y1
/-- judging: along a tape's items J, at most m of them, from place v on -/
def jd (J : Nat → Int64) (U : Nat → Int32) (m : Nat) (v : Int32) : Nat → Nat → Int32
  | 0, _ => -5
  | d + 1, i => if 0 ≤ v.toInt ∧ v.toInt + i < m then (if J (v.toInt.toNat + i) = (U i).toInt64 then jd J U m v d (i + 1) else nI i) else nI (100 + i)
theorem jd_cg {J J' : Nat → Int64} {U U' : Nat → Int32} {m : Nat} {v : Int32} (hJ : ∀ j, j < m → J j = J' j) : ∀ (d i : Nat), (∀ j, i ≤ j → j < i + d → U j = U' j) → jd J U m v d i = jd J' U' m v d i
  | 0, _, _ => rfl
  | d + 1, i, hU => by
    unfold jd
    rw [hU i (by omega) (by omega), jd_cg hJ d (i + 1) (fun j h1 h2 => hU j (by omega) (by omega))]
    by_cases h : 0 ≤ v.toInt ∧ v.toInt + i < m
    · rw [if_pos h, if_pos h, hJ _ (by omega)]
    · rw [if_neg h, if_neg h]
section JUD
variable {I : Nat → Int32} {A : Nat → List Int32} {L : Nat → List Int64} {F : Nat → Int64} {E : MH}
theorem jud_x {t n m : Nat} (ht : t < 6) (hs : Shp A L) (hn : n ≤ 40) (hm : m ≤ 60) (hI : I (100 * (72 + 2 * t) + 1) = nI m) (v1 v2 v : Int32) : ∀ (d i : Nat), i + d = n → mm_run G0 88 67 [some (.ref 1), some (.int v1), some (.int v2), some (.int v), some (.ref (72 + 2 * t)), some (.int (nI n)), some (.int (nI i))] [] (HP I A L F E) = some (some (.int (jd (fun j => (L (73 + 2 * t)).getD j 0) (fun j => (A 49).getD j 0) m v d i)), HP I A L F E)
  | 0, i, h => by
    rw [sg_X7_judge_67 _ _ _ (isT_at ht), if_pos (n_le (a := n) (b := i) (by omega) (by omega))]
    rfl
  | d + 1, i, h => by
    have l49 := hs.i (a := 49) (n := 40) (by decide)
    have hl := hs.tap ht
    have em : (nI m - nI i).toInt = (m : Int) - i := pk_sub_toInt (by omega) (by omega)
    have hlo := Int32.le_toInt v
    rw [sg_X7_judge_67 _ _ _ (isT_at ht), if_neg (n_nle (a := i) (b := n) (by omega) (by omega)), hI, in1]
    unfold jd
    by_cases c : 0 ≤ v.toInt ∧ v.toInt + i < m
    · obtain ⟨j, hj, rfl⟩ := to_n (x := v) (n := 60) c.1 (by omega) (by decide)
      have c' := c
      rw [nI_toInt (by omega)] at c
      have ej : (nI j).toInt.toNat = j := by rw [nI_toInt (by omega)]; rfl
      rw [if_neg (nI_nneg (n := j) (by omega)), if_pos (show nI j < nI m - nI i by rw [i_lt, em, nI_toInt (by omega)]; omega), nI_add, show 72 + 2 * t + 1 = 73 + 2 * t by omega, ldL_d (by omega) (by omega), Option.bind_some, ldI_d (by omega) (by omega), Option.bind_some, if_pos c', ej]
      by_cases e : (L (73 + 2 * t)).getD (j + i) 0 = ((A 49).getD i 0).toInt64
      · rw [if_pos ((lg_cmp_eq _ _).mpr e), if_pos e]
        exact jud_x ht hs hn hm hI v1 v2 (nI j) d (i + 1) (by omega)
      · rw [if_neg (fun z => e ((lg_cmp_eq _ _).mp z)), if_neg e]
    · rw [if_neg c, show (100 : Int32) = nI 100 from rfl, nI_add]
      by_cases a : v < 0
      · rw [if_pos a]
      · rw [if_neg a, if_neg]
        rw [i_lt, em]
        rw [i_lt, ii0] at a
        omega
theorem jud_m {k t n m : Nat} (hk : k < 4) (ht : t < 6) (hS : Sim I A L) (hn : n ≤ 40) (hg : gw A 85 (45 * k + 4) = nI n) (hm : m ≤ 60) (v lim : Int32) (hlim : ∀ i : Nat, i < n → ((i : Int) < lim.toInt ↔ (0 ≤ v.toInt ∧ v.toInt + i < m))) : ∀ (d i : Nat), i + d = n → mm_run G0 181 73 [some (.ref 84), some (.int (nI k)), some (.int (nI t)), some (.int v), some (.int lim), some (.int (nI i))] [] (HP I A L F E) = some (some (.int (jd (fun j => (L 104).getD (60 * t + j) 0) (fun j => (A 90).getD j 0) m v d i)), HP I A L F E)
  | 0, i, h => by
    rw [sg_X8_judge_73, ix4, hS.w (by omega), Option.bind_some, hg, if_pos (n_le (a := n) (b := i) (by omega) (by omega))]
    rfl
  | d + 1, i, h => by
    have l90 := hS.1.i (a := 90) (n := 40) (by decide)
    have hl104 := hS.1.l (a := 104) (n := 360) (by decide)
    have hl := hlim i (by omega)
    have ei : (nI i).toInt = i := nI_toInt (by omega)
    rw [sg_X8_judge_73, ix4, hS.w (by omega), Option.bind_some, hg, if_neg (n_nle (a := i) (b := n) (by omega) (by omega)), in1]
    unfold jd
    by_cases c : 0 ≤ v.toInt ∧ v.toInt + i < m
    · have c2 : nI i < lim := by
        rw [i_lt, ei]
        exact hl.mpr c
      obtain ⟨j, hj, rfl⟩ := to_n (x := v) (n := 60) c.1 (by omega) (by decide)
      have c' := c
      rw [nI_toInt (by omega)] at c
      have ej : (nI j).toInt.toNat = j := by rw [nI_toInt (by omega)]; rfl
      rw [if_pos c2, ixt, nI_add, ldL_d (by omega) (by omega), Option.bind_some, ldI_d (by omega) (by omega), Option.bind_some, if_pos c', ej, show 60 * t + j + i = 60 * t + (j + i) by omega]
      by_cases e : (L 104).getD (60 * t + (j + i)) 0 = ((A 90).getD i 0).toInt64
      · rw [if_pos ((lg_cmp_eq _ _).mpr e), if_pos e]
        exact jud_m hk ht hS hn hg hm (nI j) lim hlim d (i + 1) (by omega)
      · rw [if_neg (fun z => e ((lg_cmp_eq _ _).mp z)), if_neg e]
    · rw [if_neg c, show (100 : Int32) = nI 100 from rfl, nI_add, if_neg]
      rw [i_lt, ei]
      exact fun q => c (hl.mp q)
end JUD
theorem pr_judge (p1 p2 p3 : Int32) : Pr tyI 88 181 [.int p1, .int p2, .int p3] := by
  intro I A L F E hS
  by_cases h1 : ¬ p1 < 0 ∧ ¬ 4 ≤ p1
  · by_cases h2 : ¬ p2 < 0 ∧ ¬ 6 ≤ p2
    · obtain ⟨k, hk, rfl⟩ := st4 h1
      obtain ⟨t, ht, rfl⟩ := st6 h2
      obtain ⟨a1, a2, m, a3, a4, a5, a6, a7⟩ := hS.2.2.2.2.2 t ht
      by_cases hs : gw A 102 t = -1 ∨ gw A 102 t = 3
      · obtain ⟨n, hn, e1, e2, I1, I2, A1, A2, c1, c2, d1, d2, s1, s2, i1, x1, x2⟩ := both_now (F := F) (E := E) hk hS
        have hI1 : I1 (100 * (72 + 2 * t) + 1) = nI m := by rw [i1 _ (by omega)]; exact a4
        have hf4 : I1 (100 * (14 + 2 * k) + 4) = nI n := by rw [i1 _ (by omega)]; exact e1
        have ew : gw A1 102 = gw A 102 := by unfold gw; rw [x1 _ (by decide) (by decide)]
        have ew2 : gw A2 102 = gw A 102 := by rw [← ew]; unfold gw; rw [x2 _ (by decide)]
        have ew3 : gw A2 103 = gw A 103 := by unfold gw; rw [x2 _ (by decide), x1 _ (by decide) (by decide)]
        have eg : gw A2 85 = gw A 85 := by unfold gw; rw [x2 _ (by decide), x1 _ (by decide) (by decide)]
        have hcg := jd_cg (J := fun j => (L (73 + 2 * t)).getD j 0) (J' := fun j => (L 104).getD (60 * t + j) 0) (U := fun j => (A1 49).getD j 0) (U' := fun j => (A2 90).getD j 0) (m := m) (v := p3) (fun j hj => a7 j hj) n 0 (fun j _ hj => (dm_U d1 d2 (i := j) (by omega)).1)
        have em : (nI m).toInt = m := nI_toInt (by omega)
        have hp3 := Int32.toInt_lt p3
        have hp3l := Int32.le_toInt p3
        have hlm : ∀ lim : Int32, lim = (if gw A 102 t = -1 then 0 else if 0 ≤ p3 then nI m - p3 else 0) → ∀ i : Nat, i < n → ((i : Int) < lim.toInt ↔ (0 ≤ p3.toInt ∧ p3.toInt + i < m)) := by
          intro lim hlim i hi
          subst hlim
          by_cases z1 : gw A 102 t = -1
          · rw [if_pos z1, ii0, a6 z1]
            omega
          · rw [if_neg z1]
            by_cases z2 : 0 ≤ p3
            · rw [if_pos z2]
              rw [i_le, ii0] at z2
              rw [sub_small a3 z2]
              omega
            · rw [if_neg z2, ii0]
              rw [i_le, ii0] at z2
              omega
        refine ⟨.int (jd (fun j => (L (73 + 2 * t)).getD j 0) (fun j => (A1 49).getD j 0) m p3 n 0), I1, A1, L, F, E, I2, A2, L, F, E, ⟨_, rfl⟩, ?_, ?_, s2, Nat.le_add_right _ _⟩
        · have tail : mm_run G0 88 50 [some (.ref 1), some (.int (nI k)), some (.int (nI t)), some (.int p3), some (.ref (72 + 2 * t)), none, none] [] (HP I1 A1 L F E) = some (some (.int (jd (fun j => (L (73 + 2 * t)).getD j 0) (fun j => (A1 49).getD j 0) m p3 n 0)), HP I1 A1 L F E) := by
            rw [sg_X7_judge_50 _ _ _ (isT_at ht), now_at hk, Option.bind_some, hf4]
            exact jud_x ht s1.1 hn a3 hI1 (nI k) (nI t) p3 n 0 (by omega)
          rw [sg_X7_judge_0, if_pos h1, if_pos h2, tape_at ht, Option.bind_some, a1]
          rcases hs with q | q
          · rw [if_pos q, c1, Option.bind_some]
            exact tail
          · rw [if_neg (by rw [q]; decide), if_pos q, c1, Option.bind_some]
            exact tail
        · have l103 := s2.t3 ht
          rw [ew3, a5] at l103
          have l102 := s2.t2 ht
          rw [ew2] at l102
          have tail : mm_run G0 181 43 [some (.ref 84), some (.int (nI k)), some (.int (nI t)), some (.int p3), none, none] [] (HP I2 A2 L F E) = some (some (.int (jd (fun j => (L (73 + 2 * t)).getD j 0) (fun j => (A1 49).getD j 0) m p3 n 0)), HP I2 A2 L F E) := by
            rw [hcg, sg_X8_judge_43, l102, Option.bind_some]
            rcases hs with q | q
            · rw [if_pos (by rw [q]; decide)]
              exact jud_m hk ht s2 hn (by rw [eg]; exact e2) a3 p3 0 (hlm 0 (by rw [if_pos q])) n 0 (by omega)
            · rw [if_neg (by rw [q]; decide)]
              by_cases z2 : 0 ≤ p3
              · rw [if_pos z2, l103, Option.bind_some]
                exact jud_m hk ht s2 hn (by rw [eg]; exact e2) a3 p3 (nI m - p3) (hlm _ (by rw [if_neg (by rw [q]; decide), if_pos z2])) n 0 (by omega)
              · rw [if_neg z2]
                exact jud_m hk ht s2 hn (by rw [eg]; exact e2) a3 p3 0 (hlm _ (by rw [if_neg (by rw [q]; decide), if_neg z2])) n 0 (by omega)
          have m102 := s1.t2 ht
          rw [ew] at m102
          rw [sg_X8_judge_0, if_pos (c4.mpr h1), if_pos (c6.mpr h2), m102, Option.bind_some]
          rcases hs with q | q
          · rw [if_pos (by rw [q]; decide), c2, Option.bind_some]
            exact tail
          · rw [if_neg (by rw [q]; decide), Option.bind_some, if_pos q, c2, Option.bind_some]
            exact tail
      · have hs1 : ¬ gw A 102 t = -1 := fun q => hs (Or.inl q)
        have hs3 : ¬ gw A 102 t = 3 := fun q => hs (Or.inr q)
        have q1 := so5 a2 hs1
        refine ⟨.int (-12), I, A, L, F, E, I, A, L, F, E, ⟨_, rfl⟩, ?_, ?_, hS, Nat.le_add_right _ _⟩
        · rw [sg_X7_judge_0, if_pos h1, if_pos h2, tape_at ht, Option.bind_some, a1, if_neg hs1, if_neg hs3]
        · rw [sg_X8_judge_0, if_pos (c4.mpr h1), if_pos (c6.mpr h2), hS.t2 ht, Option.bind_some, if_neg (by rcases q1 with q | q | q | q | q <;> rw [q] <;> decide), Option.bind_some, if_neg hs3]
    · refine ⟨.int (-1), I, A, L, F, E, I, A, L, F, E, ⟨_, rfl⟩, ?_, ?_, hS, Nat.le_add_right _ _⟩
      · rw [sg_X7_judge_0, if_pos h1, if_neg h2]
      · rw [sg_X8_judge_0, if_pos (c4.mpr h1), if_neg (fun q => h2 (c6.mp q))]
  · refine ⟨.int (-1), I, A, L, F, E, I, A, L, F, E, ⟨_, rfl⟩, ?_, ?_, hS, Nat.le_add_right _ _⟩
    · rw [sg_X7_judge_0, if_neg h1]
    · rw [sg_X8_judge_0, if_neg (fun q => h1 (c4.mp q))]
