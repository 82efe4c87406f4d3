/-! would, quiet, odds, fits -/
def KX (I : Nat → Int32) (A : Nat → List Int32) (I' : Nat → Int32) (A' : Nat → List Int32) : Prop := (∀ x, ¬ (4800 ≤ x ∧ x < 4807) → I' x = I x) ∧ (∀ a, ¬ (49 ≤ a ∧ a ≤ 53) → a ≠ 71 → A' a = A a) ∧ ∀ a, (A' a).length = (A a).length
def KM (I : Nat → Int32) (A : Nat → List Int32) (I' : Nat → Int32) (A' : Nat → List Int32) : Prop := (∀ x, x ≠ 8415 → x ≠ 8416 → x ≠ 8417 → I' x = I x) ∧ (∀ a, ¬ (90 ≤ a ∧ a ≤ 94) → A' a = A a) ∧ ∀ a, (A' a).length = (A a).length
section KXM
variable {I I1 I2 : Nat → Int32} {A A1 A2 : Nat → List Int32} {L : Nat → List Int64}
theorem KX.rfl' : KX I A I A := ⟨fun _ _ => rfl, fun _ _ _ => rfl, fun _ => rfl⟩
theorem KM.rfl' : KM I A I A := ⟨fun _ _ _ _ => rfl, fun _ _ => rfl, fun _ => rfl⟩
theorem KX.tr (h : KX I A I1 A1) (h2 : KX I1 A1 I2 A2) : KX I A I2 A2 := ⟨fun x a => (h2.1 x a).trans (h.1 x a), fun a x y => (h2.2.1 a x y).trans (h.2.1 a x y), fun a => (h2.2.2 a).trans (h.2.2 a)⟩
theorem KM.tr (h : KM I A I1 A1) (h2 : KM I1 A1 I2 A2) : KM I A I2 A2 := ⟨fun x a b c => (h2.1 x a b c).trans (h.1 x a b c), fun a x => (h2.2.1 a x).trans (h.2.1 a x), fun a => (h2.2.2 a).trans (h.2.2 a)⟩
theorem KX.sim (h : KX I A I1 A1) (hS : Sim I A L) : Sim I1 A1 L := sim_scr hS h.2.2 (fun _ => rfl) (fun x h1 h2 => h.1 x (by omega)) (fun a h1 h2 h3 => h.2.1 a (by omega) (by omega)) (fun _ _ _ => rfl)
theorem KM.sim (h : KM I A I1 A1) (hS : Sim I A L) : Sim I1 A1 L := sim_scr hS h.2.2 (fun _ => rfl) (fun x h1 h2 => h.1 x (by omega) (by omega) (by omega)) (fun a h1 h2 h3 => h.2.1 a (by omega)) (fun _ _ _ => rfl)
theorem KX.gwe (h : KX I A I1 A1) : gw A1 85 = gw A 85 := by unfold gw; rw [h.2.1 _ (by decide) (by decide)]
theorem KM.gwe (h : KM I A I1 A1) : gw A1 85 = gw A 85 := by unfold gw; rw [h.2.1 _ (by decide)]
theorem KX.gse (h : KX I A I1 A1) (k : Nat) : gs A1 k = gs A k := by unfold gs; rw [h.gwe]
theorem KM.gse (h : KM I A I1 A1) (k : Nat) : gs A1 k = gs A k := by unfold gs; rw [h.gwe]
end KXM
theorem set_back {l : List Int32} {i : Nat} {v : Int32} (hi : i < l.length) : (l.set i v).set i (l.getD i 0) = l := by
  refine ext_gI (by rw [List.length_set, List.length_set]) (fun j hj => ?_)
  rw [getD_set (by rw [List.length_set]; exact hi), getD_set hi]
  by_cases e : j = i
  · rw [if_pos e, e]
  · rw [if_neg e, if_neg e]
/-- alarms of a stream drawn by another slack, another limit -/
def MrT (I : Nat → Int32) (A : Nat → List Int32) (g : Nat → Int32) (sl lm : Int32) (n : Nat) : Prop := Mr I A (gof g) sl lm (sby (g 0) lm) (decide (g 0 = 4)) n
def DrT (I : Nat → Int32) (A : Nat → List Int32) (g : Nat → Int32) (sl lm : Int32) (n : Nat) : Prop := Dr I A (gof g) sl lm (sby (g 0) lm) (decide (g 0 = 4)) n
def ft (g : Nat → Int32) (sl lm : Int32) (n : Nat) : Nat := (ch (gof g) sl lm (sby (g 0) lm) (decide (g 0 = 4)) n).2.2
theorem gof_fu {g : Nat → Int32} {q : Nat} {v : Int32} (hq : q = 2 ∨ q = 3) : gof (fu g q v) = gof g := by
  funext i
  unfold gof
  rw [fu_n _ _ (by omega), fu_n _ _ (by omega), fu_n _ _ (by omega)]
section WOU
variable {I : Nat → Int32} {A : Nat → List Int32} {L : Nat → List Int64} {F : Nat → Int64} {E : MH}
theorem firstBy {k n q : Nat} (hk : k < 4) (hq : q = 2 ∨ q = 3) (v : Int32) (hS : Sim I A L) (hn : n ≤ 40) (hg : gs A k 4 = nI n) : ∃ (I' : Nat → Int32) (A' : Nat → List Int32), mm_call G0 165 [.ref 84, .int (nI k), .int (nI q), .int v] (HP I A L F E) = some (some (.int (if ft (gs A k) (fu (gs A k) q v 2) (fu (gs A k) q v 3) n = 0 then -5 else (A' 92).getD 0 0)), HP I' A' L F E) ∧ KM I A I' A' ∧ MrT I' A' (gs A k) (fu (gs A k) q v 2) (fu (gs A k) q v 3) n := by
  have l85 := hS.1.i (a := 85) (n := 232) (by decide)
  have hj : 45 * k + q < 232 := by omega
  have s1 : Shp (fu A 85 ((A 85).set (45 * k + q) v)) L := hS.1.fuI (by rw [List.length_set])
  have e0 : fu (gs A k) q v 0 = gs A k 0 := fu_n _ _ (by omega)
  obtain ⟨I2, A2, y1, y2, y3, y4, y5⟩ := thr_ok (I := I) (A := fu A 85 ((A 85).set (45 * k + q) v)) (L := L) (F := F) (E := E) hk hn (g := fu (gs A k) q v) (by rw [fu_n _ _ (by omega)]; exact hg) s1 (fun j hj => by
    rw [gw_set (by omega)]
    by_cases e : j = q
    · rw [e, fu_s, fu_s]
    · rw [fu_n _ _ e, fu_n _ _ (by omega)]
      rfl)
  rw [gof_fu hq, e0] at y2
  have e85 : A2 85 = (A 85).set (45 * k + q) v := by rw [y4 _ (by decide), fu_s]
  have l92 : (A2 92).length = 40 := by rw [y5]; exact s1.i (a := 92) (n := 40) (by decide)
  have hback : stI (A2 85) (45 * nI k + nI q) (gw A 85 (45 * k + q)) = some (A 85) := by
    rw [ixw, e85, stI_n (by rw [List.length_set]; omega) (by rw [List.length_set]; omega)]
    exact congrArg some (set_back (by omega))
  have hfl := ch_le (o := gof (gs A k)) (sl := fu (gs A k) q v 2) (lm := fu (gs A k) q v 3) (st := sby (gs A k 0) (fu (gs A k) q v 3)) (on := decide (gs A k 0 = 4)) n
  refine ⟨I2, fu A2 85 (A 85), ?_, ⟨fun x h1 h2 h3 => y3 x h1 h2 h3, fun a ha => ?_, fun a => ?_⟩, ⟨y2.1, ?_⟩⟩
  · rw [sg_X8_firstBy_0, ixw, hS.w hj, Option.bind_some, stI_n (by omega) (by omega), Option.bind_some, y1, Option.bind_some]
    refine (sg_X8_firstBy_30 (I := I2) (A := A2) (L := L) (F := F) (E := E) (nI k) (nI q) v (gw A 85 (45 * k + q))).trans ?_
    rw [hback, Option.bind_some, y2.1]
    by_cases e : ft (gs A k) (fu (gs A k) q v 2) (fu (gs A k) q v 3) n = 0
    · rw [if_pos e]
      unfold ft at e
      rw [e]
      rfl
    · have e7 : nI (ch (gof (gs A k)) (fu (gs A k) q v 2) (fu (gs A k) q v 3) (sby (gs A k 0) (fu (gs A k) q v 3)) (decide (gs A k 0 = 4)) n).2.2 ≠ 0 := fun z => e ((nI_eq (a := ft (gs A k) (fu (gs A k) q v 2) (fu (gs A k) q v 3) n) (b := 0) (by unfold ft; omega) (by decide)).mp z)
      rw [if_neg e, if_pos e7, fu_n _ _ (by decide), show (0 : Int32) = nI 0 from rfl, ldI_d (by omega) (by omega)]
      rfl
  · by_cases e : a = 85
    · rw [e, fu_s]
    · rw [fu_n _ _ e, y4 a ha, fu_n _ _ e]
  · by_cases e : a = 85
    · rw [e, fu_s]
    · rw [fu_n _ _ e, y5, fu_n _ _ e]
  · rw [fu_n (k := 85) (j := 90) _ _ (by decide), fu_n (k := 85) (j := 91) _ _ (by decide), fu_n (k := 85) (j := 92) _ _ (by decide), fu_n (k := 85) (j := 93) _ _ (by decide), fu_n (k := 85) (j := 94) _ _ (by decide)]
    exact y2.2
theorem firstBy2 {k n : Nat} (hk : k < 4) (v : Int32) (hS : Sim I A L) (hn : n ≤ 40) (hg : gs A k 4 = nI n) : ∃ (I' : Nat → Int32) (A' : Nat → List Int32), mm_call G0 165 [.ref 84, .int (nI k), .int 2, .int v] (HP I A L F E) = some (some (.int (if ft (gs A k) v (gs A k 3) n = 0 then -5 else (A' 92).getD 0 0)), HP I' A' L F E) ∧ KM I A I' A' ∧ MrT I' A' (gs A k) v (gs A k 3) n := by
  have h := firstBy (F := F) (E := E) hk (Or.inl rfl) v hS hn hg
  rw [fu_s, fu_n (k := 2) (j := 3) _ _ (by decide)] at h
  exact h
theorem firstBy3 {k n : Nat} (hk : k < 4) (v : Int32) (hS : Sim I A L) (hn : n ≤ 40) (hg : gs A k 4 = nI n) : ∃ (I' : Nat → Int32) (A' : Nat → List Int32), mm_call G0 165 [.ref 84, .int (nI k), .int 3, .int v] (HP I A L F E) = some (some (.int (if ft (gs A k) (gs A k 2) v n = 0 then -5 else (A' 92).getD 0 0)), HP I' A' L F E) ∧ KM I A I' A' ∧ MrT I' A' (gs A k) (gs A k 2) v n := by
  have h := firstBy (F := F) (E := E) hk (Or.inr rfl) v hS hn hg
  rw [fu_s, fu_n (k := 3) (j := 2) _ _ (by decide)] at h
  exact h
theorem drawX {k n : Nat} (hk : k < 4) (hS : Sim I A L) (hn : n ≤ 40) (hg : gs A k 4 = nI n) (sl lm : Int32) : ∃ (I' : Nat → Int32) (A' : Nat → List Int32), mm_call G0 106 [.ref 1, .ref (14 + 2 * k), .int sl, .int lm] (HP I A L F E) = some (none, HP I' A' L F E) ∧ KX I A I' A' ∧ DrT I' A' (gs A k) sl lm n := by
  obtain ⟨I1, A1, x1, x2, x3, x4, x5⟩ := draw_ok (F := F) (E := E) (isS_now hk) (hS.rst hk) hn hg hS.1 sl lm
  exact ⟨I1, A1, x1, ⟨x3, x4, x5⟩, x2⟩
theorem fst_x {g : Nat → Int32} {sl lm : Int32} {n : Nat} (hn : n ≤ 40) (hD : DrT I A g sl lm n) (hs : Shp A L) : (if (I 4806) ≠ 0 then ((ldI (A 51) 0).bind fun x1 => some (some (.int (x1)), (HP I A L F E))) else some (some (.int ((-5))), (HP I A L F E))) = (some (some (.int (if ft g sl lm n = 0 then -5 else (A 51).getD 0 0)), HP I A L F E) : MO) := by
  have l51 := hs.i (a := 51) (n := 40) (by decide)
  have hfl : ft g sl lm n ≤ n := ch_le n
  have h6 : I 4806 = nI (ft g sl lm n) := hD.1
  rw [h6]
  by_cases e : ft g sl lm n = 0
  · rw [if_pos e, e]
    rfl
  · have e7 : nI (ft g sl lm n) ≠ 0 := fun z => e ((nI_eq (b := 0) (by omega) (by decide)).mp z)
    rw [if_neg e, if_pos e7, show (0 : Int32) = nI 0 from rfl, ldI_d (by omega) (by omega)]
    rfl
theorem fst_eq {J : Nat → Int32} {B : Nat → List Int32} {g : Nat → Int32} {sl lm : Int32} {n : Nat} (hn : n ≤ 40) (hD : DrT I A g sl lm n) (hM : MrT J B g sl lm n) : (if ft g sl lm n = 0 then -5 else (A 51).getD 0 0) = (if ft g sl lm n = 0 then -5 else (B 92).getD 0 0) ∧ ((if ft g sl lm n = 0 then -5 else (B 92).getD 0 0) < 0 ↔ ft g sl lm n = 0) := by
  by_cases e : ft g sl lm n = 0
  · rw [if_pos e, if_pos e]
    exact ⟨rfl, fun _ => e, fun _ => by decide⟩
  · rw [if_neg e, if_neg e]
    obtain ⟨a, -, -, p, hp, h⟩ := dm_P hD hM (k := 0) (Nat.pos_of_ne_zero e)
    exact ⟨a, fun z => absurd z (by rw [h]; exact nI_nneg (by omega)), fun z => absurd z e⟩
theorem mr_neg {J : Nat → Int32} {B : Nat → List Int32} {g : Nat → Int32} {sl lm : Int32} {n : Nat} (hn : n ≤ 40) (hM : MrT J B g sl lm n) : ((if ft g sl lm n = 0 then -5 else (B 92).getD 0 0) < 0 ↔ ft g sl lm n = 0) := by
  by_cases e : ft g sl lm n = 0
  · rw [if_pos e]
    exact ⟨fun _ => e, fun _ => by decide⟩
  · rw [if_neg e]
    obtain ⟨i, h1, h2, h3⟩ := ch_surj n (Nat.pos_of_ne_zero e)
    have b := (hM.2 i h1).2.2 h2
    rw [h3] at b
    rw [b.1]
    exact ⟨fun z => absurd z (nI_nneg (by omega)), fun z => absurd z e⟩
end WOU
theorem pr_would (p1 p2 p3 : Int32) : Pr tyI 78 166 [.int p1, .int p2, .int p3] := by
  intro I A L F E hS
  have i2 : (2 : Int32).toInt = 2 := rfl
  have i3 : (3 : Int32).toInt = 3 := rfl
  by_cases h1 : ¬ p1 < 0 ∧ ¬ 4 ≤ p1
  · have h1' := c4.mpr h1
    obtain ⟨k, hk, rfl⟩ := st4 h1
    obtain ⟨n, hn, e1, e2⟩ := hS.len hk
    by_cases h2 : p2 = 2
    · subst h2
      by_cases h3 : okS 2 p3 = true
      · obtain ⟨I1, A1, x1, x2, x3⟩ := drawX (F := F) (E := E) hk hS hn e2 p3 (gs A k 3)
        have s1 := x2.sim hS
        obtain ⟨I2, A2, y1, y2, y3⟩ := firstBy2 (F := F) (E := E) hk p3 s1 hn (by rw [x2.gse]; exact e2)
        rw [x2.gse] at y1 y3
        have fe := fst_eq hn x3 y3
        refine ⟨.int (if ft (gs A k) p3 (gs A k 3) n = 0 then -5 else (A1 51).getD 0 0), I1, A1, L, F, E, I2, A2, L, F, E, ⟨_, rfl⟩, ?_, ?_, y2.sim s1, Nat.le_add_right _ _⟩
        · rw [sg_X7_would_0, if_pos h1, if_pos rfl, if_pos h3, now_at hk, Option.bind_some, if_neg (fun q => q rfl), hS.fld hk (show 3 < 5 by decide), show gw A 85 (45 * k + 3) = gs A k 3 from rfl, x1, Option.bind_some]
          refine (sg_X7_would_58 (nI k) 2 p3 (isS_now hk)).trans ?_
          exact fst_x hn x3 s1.1
        · rw [sg_X8_would_0, if_pos h1', if_pos (by decide), show okF 2 p3 = okS 2 p3 from okSF (j := 2) (by decide), if_pos h3, y1, Option.bind_some, fe.1]
          exact sg_X8_would_33 _ _ _ _
      · refine ⟨.int (-2), I, A, L, F, E, I, A, L, F, E, ⟨_, rfl⟩, ?_, ?_, hS, Nat.le_add_right _ _⟩
        · rw [sg_X7_would_0, if_pos h1, if_pos rfl, if_neg h3]
        · rw [sg_X8_would_0, if_pos h1', if_pos (by decide), show okF 2 p3 = okS 2 p3 from okSF (j := 2) (by decide), if_neg h3]
    · by_cases h2b : p2 = 3
      · subst h2b
        by_cases h3 : okS 3 p3 = true
        · obtain ⟨I1, A1, x1, x2, x3⟩ := drawX (F := F) (E := E) hk hS hn e2 (gs A k 2) p3
          have s1 := x2.sim hS
          obtain ⟨I2, A2, y1, y2, y3⟩ := firstBy3 (F := F) (E := E) hk p3 s1 hn (by rw [x2.gse]; exact e2)
          rw [x2.gse] at y1 y3
          have fe := fst_eq hn x3 y3
          refine ⟨.int (if ft (gs A k) (gs A k 2) p3 n = 0 then -5 else (A1 51).getD 0 0), I1, A1, L, F, E, I2, A2, L, F, E, ⟨_, rfl⟩, ?_, ?_, y2.sim s1, Nat.le_add_right _ _⟩
          · rw [sg_X7_would_0, if_pos h1, if_neg h2, if_pos rfl, if_pos h3, now_at hk, Option.bind_some, if_pos h2, hS.fld hk (show 2 < 5 by decide), show gw A 85 (45 * k + 2) = gs A k 2 from rfl, x1, Option.bind_some]
            refine (sg_X7_would_73 (nI k) 3 p3 (isS_now hk)).trans ?_
            exact fst_x hn x3 s1.1
          · rw [sg_X8_would_0, if_pos h1', if_pos (by decide), show okF 3 p3 = okS 3 p3 from okSF (j := 3) (by decide), if_pos h3, y1, Option.bind_some, fe.1]
            exact sg_X8_would_33 _ _ _ _
        · refine ⟨.int (-2), I, A, L, F, E, I, A, L, F, E, ⟨_, rfl⟩, ?_, ?_, hS, Nat.le_add_right _ _⟩
          · rw [sg_X7_would_0, if_pos h1, if_neg h2, if_pos rfl, if_neg h3]
          · rw [sg_X8_would_0, if_pos h1', if_pos (by decide), show okF 3 p3 = okS 3 p3 from okSF (j := 3) (by decide), if_neg h3]
      · refine ⟨.int (-1), I, A, L, F, E, I, A, L, F, E, ⟨_, rfl⟩, ?_, ?_, hS, Nat.le_add_right _ _⟩
        · rw [sg_X7_would_0, if_pos h1, if_neg h2, if_neg h2b]
        · rw [sg_X8_would_0, if_pos h1', if_neg]
          intro q
          rw [i_lt, i_lt] at q
          have q2 : p2.toInt ≠ 2 := fun z => h2 (i_eq.mpr z)
          have q3 : p2.toInt ≠ 3 := fun z => h2b (i_eq.mpr z)
          omega
  · refine ⟨.int (-1), I, A, L, F, E, I, A, L, F, E, ⟨_, rfl⟩, ?_, ?_, hS, Nat.le_add_right _ _⟩
    · rw [sg_X7_would_0, if_neg h1]
    · rw [sg_X8_would_0, if_neg (fun q => h1 (c4.mp q))]
/-- the least slack by which it is quiet -/
def qt (f : Nat → Nat) : Nat → Nat → Int32
  | 0, _ => -5
  | d + 1, v => if f v = 0 then nI v else qt f d (v + 1)
def od (f : Nat → Nat) : Nat → Nat → Nat → Nat
  | 0, _, m => m
  | d + 1, v, m => od f d (v + 1) (if f v = 0 then m else m + 1)
theorem od_le (f : Nat → Nat) : ∀ d v m, od f d v m ≤ m + d
  | 0, _, _ => Nat.le_refl _
  | d + 1, v, m => by
    have := od_le f d (v + 1) (if f v = 0 then m else m + 1)
    show od f d (v + 1) (if f v = 0 then m else m + 1) ≤ _
    split at this
    · rename_i h
      rw [if_pos h]
      omega
    · rename_i h
      rw [if_neg h]
      omega
section QUI
variable {L : Nat → List Int64} {F : Nat → Int64} {E : MH}
theorem quiet_x {k n : Nat} (hk : k < 4) (hn : n ≤ 40) (g : Nat → Int32) (hg : g 4 = nI n) : ∀ (d v : Nat) (I : Nat → Int32) (A : Nat → List Int32), v + d = 6 → Sim I A L → gs A k = g → ∃ (I' : Nat → Int32) (A' : Nat → List Int32), mm_run G0 79 21 [some (.ref 1), some (.int (nI k)), some (.ref (14 + 2 * k)), some (.int (nI v))] [] (HP I A L F E) = some (some (.int (qt (fun v => ft g (nI v) (g 3) n) d v)), HP I' A' L F E) ∧ KX I A I' A' := by
  intro d
  induction d with
  | zero =>
    intro v I A hv hS hgs
    refine ⟨I, A, ?_, KX.rfl'⟩
    rw [sg_X7_quiet_21 _ (isS_now hk), if_pos (show (5 : Int32) < nI v from nI_lt (a := 5) (b := v) (by omega) (by omega))]
    rfl
  | succ d ih =>
    intro v I A hv hS hgs
    obtain ⟨I1, A1, x1, x2, x3⟩ := drawX (F := F) (E := E) hk hS hn (by rw [hgs]; exact hg) (nI v) (g 3)
    rw [hgs] at x3
    have h6 : I1 4806 = nI (ft g (nI v) (g 3) n) := x3.1
    have hfl : ft g (nI v) (g 3) n ≤ n := ch_le n
    rw [sg_X7_quiet_21 _ (isS_now hk), if_neg (show ¬ (5 : Int32) < nI v from nI_nlt (a := 5) (b := v) (by omega) (by omega)), hS.fld hk (show 3 < 5 by decide), show gw A 85 (45 * k + 3) = g 3 by rw [← hgs]; rfl, x1, Option.bind_some]
    unfold qt
    by_cases e : ft g (nI v) (g 3) n = 0
    · refine ⟨I1, A1, ?_, x2⟩
      refine (sg_X7_quiet_36 (nI k) (isS_now hk) (nI v)).trans ?_
      have e7 : ¬ (nI (ft g (nI v) (g 3) n) ≠ 0) := fun z => z (by rw [e]; rfl)
      rw [h6, if_neg e7, if_pos e]
    · obtain ⟨I2, A2, y1, y2⟩ := ih (v + 1) I1 A1 (by omega) (x2.sim hS) (by rw [x2.gse, hgs])
      refine ⟨I2, A2, ?_, x2.tr y2⟩
      refine (sg_X7_quiet_36 (nI k) (isS_now hk) (nI v)).trans ?_
      have e7 : nI (ft g (nI v) (g 3) n) ≠ 0 := fun z => e ((nI_eq (b := 0) (by omega) (by decide)).mp z)
      rw [h6, if_pos e7, if_neg e, in1]
      exact y1
theorem quiet_m {k n : Nat} (hk : k < 4) (hn : n ≤ 40) (g : Nat → Int32) (hg : g 4 = nI n) : ∀ (d v : Nat) (I : Nat → Int32) (A : Nat → List Int32), v + d = 6 → Sim I A L → gs A k = g → ∃ (I' : Nat → Int32) (A' : Nat → List Int32), mm_run G0 167 11 [some (.ref 84), some (.int (nI k)), some (.int (nI v))] [] (HP I A L F E) = some (some (.int (qt (fun v => ft g (nI v) (g 3) n) d v)), HP I' A' L F E) ∧ KM I A I' A' := by
  intro d
  induction d with
  | zero =>
    intro v I A hv hS hgs
    refine ⟨I, A, ?_, KM.rfl'⟩
    rw [sg_X8_quiet_11, if_pos (show (5 : Int32) < nI v from nI_lt (a := 5) (b := v) (by omega) (by omega))]
    rfl
  | succ d ih =>
    intro v I A hv hS hgs
    obtain ⟨I1, A1, x1, x2, x3⟩ := firstBy2 (F := F) (E := E) hk (nI v) hS hn (by rw [hgs]; exact hg)
    rw [hgs] at x1 x3
    have hneg := mr_neg hn x3
    rw [sg_X8_quiet_11, if_neg (show ¬ (5 : Int32) < nI v from nI_nlt (a := 5) (b := v) (by omega) (by omega)), x1, Option.bind_some]
    unfold qt
    by_cases e : ft g (nI v) (g 3) n = 0
    · refine ⟨I1, A1, ?_, x2⟩
      refine (sg_X8_quiet_23 (nI k) (nI v) _).trans ?_
      rw [if_neg (fun z => nlt_le z (hneg.mpr e)), if_pos e]
    · obtain ⟨I2, A2, y1, y2⟩ := ih (v + 1) I1 A1 (by omega) (x2.sim hS) (by rw [x2.gse, hgs])
      refine ⟨I2, A2, ?_, x2.tr y2⟩
      refine (sg_X8_quiet_23 (nI k) (nI v) _).trans ?_
      rw [if_pos (nle_lt (fun z => e (hneg.mp z))), if_neg e, in1]
      exact y1
theorem odds_x {k n : Nat} (hk : k < 4) (hn : n ≤ 40) (g : Nat → Int32) (hg : g 4 = nI n) (p : Int32) : ∀ (d v m : Nat) (I : Nat → Int32) (A : Nat → List Int32), v + d = 11 → m ≤ v → Sim I A L → gs A k = g → ∃ (I' : Nat → Int32) (A' : Nat → List Int32), mm_run G0 82 34 [some (.ref 1), some (.int (nI k)), some (.int p), some (.ref (14 + 2 * k)), some (.int (nI m)), some (.int (nI v))] [] (HP I A L F E) = some (some (.long (lwt (nI (od (fun v => ft g (g 2) (nI v) n) d v m)).toInt64 10 p)), HP I' A' L F E) ∧ KX I A I' A' := by
  intro d
  induction d with
  | zero =>
    intro v m I A hv hm hS hgs
    refine ⟨I, A, ?_, KX.rfl'⟩
    have em := l_nI (n := m) (by omega)
    have e10 : (10 : Int64).toInt = 10 := rfl
    rw [sg_X7_odds_34 _ _ (isS_now hk), if_pos (show (10 : Int32) < nI v from nI_lt (a := 10) (b := v) (by omega) (by omega)), low_ok p (by omega) (by omega) (by omega) (by omega), Option.bind_some]
    exact sg_X7_odds_81 _ _ (isS_now hk) _ _ _
  | succ d ih =>
    intro v m I A hv hm hS hgs
    obtain ⟨I1, A1, x1, x2, x3⟩ := drawX (F := F) (E := E) hk hS hn (by rw [hgs]; exact hg) (g 2) (nI v)
    rw [hgs] at x3
    have h6 : I1 4806 = nI (ft g (g 2) (nI v) n) := x3.1
    have hfl : ft g (g 2) (nI v) n ≤ n := ch_le n
    rw [sg_X7_odds_34 _ _ (isS_now hk), if_neg (show ¬ (10 : Int32) < nI v from nI_nlt (a := 10) (b := v) (by omega) (by omega)), hS.fld hk (show 2 < 5 by decide), show gw A 85 (45 * k + 2) = g 2 by rw [← hgs]; rfl, x1, Option.bind_some]
    unfold od
    by_cases e : ft g (g 2) (nI v) n = 0
    · obtain ⟨I2, A2, y1, y2⟩ := ih (v + 1) m I1 A1 (by omega) (by omega) (x2.sim hS) (by rw [x2.gse, hgs])
      refine ⟨I2, A2, ?_, x2.tr y2⟩
      refine (sg_X7_odds_52 (nI k) p (isS_now hk) (nI m) (nI v)).trans ?_
      rw [h6, if_pos (by rw [e]; decide), if_pos e, in1]
      exact y1
    · obtain ⟨I2, A2, y1, y2⟩ := ih (v + 1) (m + 1) I1 A1 (by omega) (by omega) (x2.sim hS) (by rw [x2.gse, hgs])
      refine ⟨I2, A2, ?_, x2.tr y2⟩
      refine (sg_X7_odds_52 (nI k) p (isS_now hk) (nI m) (nI v)).trans ?_
      rw [h6, if_neg (show ¬ nI (ft g (g 2) (nI v) n) ≤ (0 : Int32) from n_nle (a := 0) (b := ft g (g 2) (nI v) n) (by omega) (by omega)), if_neg e, in1, in1]
      exact y1
theorem odds_m {k n : Nat} (hk : k < 4) (hn : n ≤ 40) (g : Nat → Int32) (hg : g 4 = nI n) (p : Int32) : ∀ (d v m : Nat) (I : Nat → Int32) (A : Nat → List Int32), v + d = 11 → m ≤ v → Sim I A L → gs A k = g → ∃ (I' : Nat → Int32) (A' : Nat → List Int32), mm_run G0 173 25 [some (.ref 84), some (.int (nI k)), some (.int p), some (.int (nI m)), some (.int (nI v))] [] (HP I A L F E) = some (some (.long (lwt (nI (od (fun v => ft g (g 2) (nI v) n) d v m)).toInt64 10 p)), HP I' A' L F E) ∧ KM I A I' A' := by
  intro d
  induction d with
  | zero =>
    intro v m I A hv hm hS hgs
    refine ⟨I, A, ?_, KM.rfl'⟩
    have em := l_nI (n := m) (by omega)
    have e10 : (10 : Int64).toInt = 10 := rfl
    rw [sg_X8_odds_25, if_pos (show (10 : Int32) < nI v from nI_lt (a := 10) (b := v) (by omega) (by omega)), part_ok p (by omega) (by omega), Option.bind_some]
    exact sg_X8_odds_66 _ _ _ _ _
  | succ d ih =>
    intro v m I A hv hm hS hgs
    obtain ⟨I1, A1, x1, x2, x3⟩ := firstBy3 (F := F) (E := E) hk (nI v) hS hn (by rw [hgs]; exact hg)
    rw [hgs] at x1 x3
    have hneg := mr_neg hn x3
    rw [sg_X8_odds_25, if_neg (show ¬ (10 : Int32) < nI v from nI_nlt (a := 10) (b := v) (by omega) (by omega)), x1, Option.bind_some]
    unfold od
    by_cases e : ft g (g 2) (nI v) n = 0
    · obtain ⟨I2, A2, y1, y2⟩ := ih (v + 1) m I1 A1 (by omega) (by omega) (x2.sim hS) (by rw [x2.gse, hgs])
      refine ⟨I2, A2, ?_, x2.tr y2⟩
      refine (sg_X8_odds_41 (nI k) p (nI m) (nI v) (nI m) _).trans ?_
      rw [if_pos (hneg.mpr e), if_pos e, in1, Int32.add_zero]
      exact y1
    · obtain ⟨I2, A2, y1, y2⟩ := ih (v + 1) (m + 1) I1 A1 (by omega) (by omega) (x2.sim hS) (by rw [x2.gse, hgs])
      refine ⟨I2, A2, ?_, x2.tr y2⟩
      refine (sg_X8_odds_41 (nI k) p (nI m) (nI v) (nI m) _).trans ?_
      rw [if_neg (fun z => e (hneg.mp z)), if_neg e, in1, in1]
      exact y1
end QUI
theorem pr_quiet (p1 : Int32) : Pr tyI 79 167 [.int p1] := by
  intro I A L F E hS
  by_cases h1 : ¬ p1 < 0 ∧ ¬ 4 ≤ p1
  · obtain ⟨k, hk, rfl⟩ := st4 h1
    obtain ⟨n, hn, e1, e2⟩ := hS.len hk
    obtain ⟨I1, A1, x1, x2⟩ := quiet_x (F := F) (E := E) hk hn (gs A k) e2 6 0 I A (by decide) hS rfl
    obtain ⟨I2, A2, y1, y2⟩ := quiet_m (F := F) (E := E) hk hn (gs A k) e2 6 0 I1 A1 (by decide) (x2.sim hS) (x2.gse k)
    refine ⟨.int (qt (fun v => ft (gs A k) (nI v) (gs A k 3) n) 6 0), I1, A1, L, F, E, I2, A2, L, F, E, ⟨_, rfl⟩, ?_, ?_, y2.sim (x2.sim hS), Nat.le_add_right _ _⟩
    · rw [sg_X7_quiet_0, if_pos h1, now_at hk, Option.bind_some]
      exact x1
    · rw [sg_X8_quiet_0, if_pos (c4.mpr h1)]
      exact y1
  · refine ⟨.int (-1), I, A, L, F, E, I, A, L, F, E, ⟨_, rfl⟩, ?_, ?_, hS, Nat.le_add_right _ _⟩
    · rw [sg_X7_quiet_0, if_neg h1]
    · rw [sg_X8_quiet_0, if_neg (fun q => h1 (c4.mp q))]
theorem pr_odds (p1 p2 : Int32) : Pr tyL 82 173 [.int p1, .int p2] := by
  intro I A L F E hS
  by_cases h1 : ¬ p1 < 0 ∧ ¬ 4 ≤ p1
  · obtain ⟨k, hk, rfl⟩ := st4 h1
    by_cases h3 : p2 = 0 ∨ p2 = 1
    · obtain ⟨n, hn, e1, e2⟩ := hS.len hk
      obtain ⟨I1, A1, x1, x2⟩ := odds_x (F := F) (E := E) hk hn (gs A k) e2 p2 10 1 0 I A (by decide) (by decide) hS rfl
      obtain ⟨I2, A2, y1, y2⟩ := odds_m (F := F) (E := E) hk hn (gs A k) e2 p2 10 1 0 I1 A1 (by decide) (by decide) (x2.sim hS) (x2.gse k)
      refine ⟨.long (lwt (nI (od (fun v => ft (gs A k) (gs A k 2) (nI v) n) 10 1 0)).toInt64 10 p2), I1, A1, L, F, E, I2, A2, L, F, E, ⟨_, rfl⟩, ?_, ?_, y2.sim (x2.sim hS), Nat.le_add_right _ _⟩
      · rw [sg_X7_odds_0, if_pos h1, if_pos h3, now_at hk, Option.bind_some]
        exact x1
      · rw [sg_X8_odds_0, if_pos (c4.mpr h1), if_pos (in01.mpr h3)]
        exact y1
    · refine ⟨.long (-9223372036854775808), I, A, L, F, E, I, A, L, F, E, ⟨_, rfl⟩, ?_, ?_, hS, Nat.le_add_right _ _⟩
      · rw [sg_X7_odds_0, if_pos h1, if_neg h3]
      · rw [sg_X8_odds_0, if_pos (c4.mpr h1), if_neg (fun q => h3 (in01.mp q))]
  · refine ⟨.long (-9223372036854775808), I, A, L, F, E, I, A, L, F, E, ⟨_, rfl⟩, ?_, ?_, hS, Nat.le_add_right _ _⟩
    · rw [sg_X7_odds_0, if_neg h1]
    · rw [sg_X8_odds_0, if_neg (fun q => h1 (c4.mp q))]
