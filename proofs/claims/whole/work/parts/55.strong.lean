/-! value, set, weight and the clauses: each side by itself -/
/-- the class's call on its own cells, the reference's on its row W: alike, and what is left is alike -/
def Ps (T : Value → Prop) (X M : Nat) (as : List Value) : Prop := ∀ (I : Nat → Int32) (A : Nat → List Int32) (L : Nat → List Int64) (W : List Int32) (z : Int32), Sim (fu I 8405 z) (fu A 85 W) L → ∃ (v : Value) (I' : Nat → Int32) (A' : Nat → List Int32) (W' : List Int32), T v ∧ (∀ (F : Nat → Int64) (E : MH), mm_call G0 X (.ref 1 :: as) (HP I A L F E) = some (some v, HP I' A' L F E)) ∧ (∀ (I2 : Nat → Int32) (A2 : Nat → List Int32) (L2 : Nat → List Int64) (F : Nat → Int64) (E : MH), A2 85 = W → mm_call G0 M (.ref 84 :: as) (HP I2 A2 L2 F E) = some (some v, HP I2 (fu A2 85 W') L2 F E)) ∧ Sim (fu I' 8405 z) (fu A' 85 W') L ∧ (∀ a, 22 ≤ a → A' a = A a) ∧ ∀ x, ¬ (500 ≤ x ∧ x < 2100) → I' x = I x
theorem fu_fu3 {α : Type} {f : Nat → α} {a c : Nat} {x y z : α} (h : a ≠ c) : fu (fu (fu f a x) c y) a z = fu (fu f c y) a z := by
  rw [fu_cm f x y h, fu_fu]
theorem fu_same {α : Type} {f : Nat → α} {a : Nat} {x : α} (h : f a = x) : fu f a x = f := by
  rw [← h, fu_id]
section PSS
variable {I : Nat → Int32} {A : Nat → List Int32} {L : Nat → List Int64}
theorem sim_value {k n : Nat} {p2 : Int32} (hk : k < 4) (hS : Sim I A L) (hlt : n < 40) (hwn : gw A 85 (45 * k + 4) = nI n) (h2 : ¬ p2 < (-20) ∧ ¬ 20 < p2) : Sim (fu I (100 * (14 + 2 * k) + 4) (nI (n + 1))) (fu (fu A (15 + 2 * k) ((A (15 + 2 * k)).set n p2)) 85 (((A 85).set (45 * k + 5 + n) p2).set (45 * k + 4) (nI (n + 1)))) L := by
  have hn : n ≤ 40 := by omega
  have hl85 := hS.1.i (a := 85) (n := 232) (by decide)
  have hlv := hS.1.val hk
  have e85 : fu A (15 + 2 * k) ((A (15 + 2 * k)).set n p2) 85 = A 85 := fu_n _ _ (by omega)
  have hw' : gw (fu (fu A (15 + 2 * k) ((A (15 + 2 * k)).set n p2)) 85 (((A 85).set (45 * k + 5 + n) p2).set (45 * k + 4) (nI (n + 1)))) 85 = fu (fu (gw A 85) (45 * k + 5 + n) p2) (45 * k + 4) (nI (n + 1)) := by
    have := gw_set2 (A := fu A (15 + 2 * k) ((A (15 + 2 * k)).set n p2)) (a := 85) (i := 45 * k + 5 + n) (j := 45 * k + 4) (x := p2) (y := nI (n + 1)) (by rw [e85]; omega) (by rw [e85]; omega)
    rw [e85] at this
    rw [this, gw_ne (by omega)]
  refine sim_stream hk hS ((hS.1.fuI (by rw [List.length_set])).fuI (by rw [List.length_set, List.length_set, e85])) (fun i hi => fu_n _ _ (by omega)) (fun a h1 h2 => by rw [fu_n _ _ h2, fu_n _ _ h1]) hw' (fun j hj => by rw [fu_n _ _ (by omega), fu_n _ _ (by omega)]) ?_ (fun j hj => ?_) (fun m p hm hm2 hp => ?_)
  · have vv := hS.2.2.1.1 k hk
    unfold Vst at vv ⊢
    dsimp only at vv ⊢
    obtain ⟨v0, v1, v2, v3, v4, v5⟩ := vv
    refine ⟨by rw [fu_n _ _ (by omega), fu_n _ _ (by omega)]; exact v0, by rw [fu_n _ _ (by omega), fu_n _ _ (by omega)]; exact v1, by rw [fu_n _ _ (by omega), fu_n _ _ (by omega)]; exact v2, by rw [fu_n _ _ (by omega), fu_n _ _ (by omega)]; exact v3, ⟨n + 1, by omega, fu_s _ _ _⟩, fun p hp => ?_⟩
    rw [fu_n _ _ (by omega)]
    by_cases e : p = n
    · subst e
      rw [show 45 * k + (5 + p) = 45 * k + 5 + p by omega, fu_s]
      have g1 := h2.1
      have g2 := h2.2
      rw [i_lt] at g1 g2
      have t1 : ((-20 : Int32)).toInt = -20 := rfl
      have t2 : ((20 : Int32)).toInt = 20 := rfl
      omega
    · rw [fu_n _ _ (by omega)]
      exact v5 p hp
  · by_cases e : j = 4
    · subst e
      rw [fu_s, fu_s]
    · rw [fu_n _ _ (by omega), fu_n _ _ (by omega), fu_n _ _ (by omega)]
      exact hS.fld hk hj
  · rw [fu_s] at hm
    have : n + 1 = m := (nI_eq (by omega) (by omega)).mp hm
    subst this
    rw [fu_n _ _ (by omega : 15 + 2 * k ≠ 85), fu_s, fu_n _ _ (by omega : 45 * k + 5 + p ≠ 45 * k + 4), getD_set (by omega)]
    by_cases e : p = n
    · subst e
      rw [if_pos rfl, fu_s]
    · rw [if_neg e, fu_n _ _ (by omega)]
      exact hS.val hk hn hwn (by omega)
theorem sim_set {k j : Nat} {p3 : Int32} (hk : k < 4) (hj : j < 4) (hS : Sim I A L) (h2 : okS (nI j) p3 = true) : Sim (fu I (100 * (14 + 2 * k) + j) p3) (fu A 85 ((A 85).set (45 * k + j) p3)) L := by
  have hl85 := hS.1.i (a := 85) (n := 232) (by decide)
  have hw' := gw_set (A := A) (a := 85) (i := 45 * k + j) (x := p3) (by omega)
  refine sim_stream hk hS (hS.1.fuI (by rw [List.length_set])) (fun i hi => fu_n _ _ (by omega)) (fun a _ h2 => fu_n _ _ h2) hw' (fun j hj => fu_n _ _ (by omega)) ?_ (fun i hi => ?_) (fun m p hm hm2 hp => ?_)
  · have vv := hS.2.2.1.1 k hk
    unfold Vst at vv ⊢
    dsimp only at vv ⊢
    obtain ⟨v0, v1, v2, v3, v4, v5⟩ := vv
    refine ⟨?_, ?_, ?_, ?_, by rw [fu_n _ _ (by omega)]; exact v4, fun p hp => by rw [fu_n _ _ (by omega)]; exact v5 p hp⟩
    · by_cases e : j = 0
      · subst e; rw [fu_s]; exact okS_0 h2
      · rw [fu_n _ _ (by omega)]; exact v0
    · by_cases e : j = 1
      · subst e; rw [fu_s]; exact okS_1 h2
      · rw [fu_n _ _ (by omega)]; exact v1
    · by_cases e : j = 2
      · subst e; rw [fu_s]; exact okS_2 h2
      · rw [fu_n _ _ (by omega)]; exact v2
    · by_cases e : j = 3
      · subst e; rw [fu_s]; exact okS_3 h2
      · rw [fu_n _ _ (by omega)]; exact v3
  · by_cases e : i = j
    · subst e
      rw [fu_s, fu_s]
    · rw [fu_n _ _ (by omega), fu_n _ _ (by omega)]
      exact hS.fld hk hi
  · rw [fu_n _ _ (by omega)] at hm
    rw [fu_n _ _ (by omega), fu_n _ _ (by omega)]
    exact hS.val hk hm2 hm hp
end PSS
theorem ps_value (p1 p2 : Int32) : Ps tyI 59 119 [.int p1, .int p2] := by
  intro I A L W z hS
  by_cases h1 : ¬ p1 < 0 ∧ ¬ 4 ≤ p1
  · have h1' := c4.mpr h1
    by_cases h2 : ¬ p2 < (-20) ∧ ¬ 20 < p2
    · obtain ⟨k, hk, rfl⟩ := st4 h1
      obtain ⟨n, hn, hIn, hwn⟩ := hS.len hk
      rw [fu_n _ _ (by omega)] at hIn
      have hl85 : W.length = 232 := hS.1.i (a := 85) (n := 232) (by decide)
      have hw4 : W.getD (45 * k + 4) 0 = nI n := hwn
      have hlv := hS.1.val hk
      rw [fu_n _ _ (show 15 + 2 * k ≠ 85 by omega)] at hlv
      by_cases h3 : n = 40
      · subst h3
        refine ⟨.int (-4), I, A, W, ⟨_, rfl⟩, fun F E => ?_, fun I2 A2 L2 F E hW => ?_, hS, fun _ _ => rfl, fun _ _ => rfl⟩
        · rw [sg_X7_value_0, if_pos h1, if_pos h2, now_at hk, Option.bind_some]
          show (if _ then _ else _) = _
          rw [hIn, if_pos (by decide)]
        · rw [sg_X8_value_0, if_pos h1', if_pos h2, ix4, hW, ldI_d (by omega) (by omega), Option.bind_some, hw4, if_neg (fun q => q rfl), fu_same hW]
      · have hlt : n < 40 := by omega
        have e14 : 14 + 2 * k + 1 = 15 + 2 * k := by omega
        have ne40 : nI n ≠ 40 := nI_ne (b := 40) (by omega) (by decide) h3
        have hs' := sim_value (p2 := p2) hk hS hlt hwn h2
        rw [fu_n (k := 85) _ _ (show 15 + 2 * k ≠ 85 by omega), fu_fu3 (show 85 ≠ 15 + 2 * k by omega), fu_cm I z (nI (n + 1)) (show 8405 ≠ 100 * (14 + 2 * k) + 4 by omega)] at hs'
        refine ⟨.int (nI (n + 1)), fu I (100 * (14 + 2 * k) + 4) (nI (n + 1)), fu A (15 + 2 * k) ((A (15 + 2 * k)).set n p2), ((W.set (45 * k + 5 + n) p2).set (45 * k + 4) (nI (n + 1))), ⟨_, rfl⟩, fun F E => ?_, fun I2 A2 L2 F E hW => ?_, hs', fun a ha => fu_n _ _ (by omega), fun x hx => fu_n _ _ (by omega)⟩
        · rw [sg_X7_value_0, if_pos h1, if_pos h2, now_at hk, Option.bind_some]
          show (if _ then _ else _) = _
          rw [hIn, if_neg (fun q => q (nI40 hlt)), if_neg (fun q => q (nI40 hlt)), e14, stI_n (by omega) (by omega), Option.bind_some, nI_1, fu_s]
        · rw [sg_X8_value_0, if_pos h1', if_pos h2, ix4, hW, ldI_d (by omega) (by omega), Option.bind_some]
          show (if _ then _ else _) = _
          rw [hw4, if_pos ne40, Option.bind_some, ixv, stI_n (by omega) (by omega), Option.bind_some, fu_s, ldI_d (by rw [List.length_set]; omega) (by rw [List.length_set]; omega), getD_set (by omega), if_neg (by omega), Option.bind_some, hw4, nI_1, stI_n (by rw [List.length_set]; omega) (by rw [List.length_set]; omega), Option.bind_some, fu_s, ldI_d (by rw [List.length_set, List.length_set]; omega) (by rw [List.length_set, List.length_set]; omega), getD_set (by rw [List.length_set]; omega), if_pos rfl, fu_fu]
          rfl
    · refine ⟨.int (-2), I, A, W, ⟨_, rfl⟩, fun F E => ?_, fun I2 A2 L2 F E hW => ?_, hS, fun _ _ => rfl, fun _ _ => rfl⟩
      · rw [sg_X7_value_0, if_pos h1, if_neg h2]
      · rw [sg_X8_value_0, if_pos h1', if_neg h2, fu_same hW]
  · refine ⟨.int (-1), I, A, W, ⟨_, rfl⟩, fun F E => ?_, fun I2 A2 L2 F E hW => ?_, hS, fun _ _ => rfl, fun _ _ => rfl⟩
    · rw [sg_X7_value_0, if_neg h1]
    · rw [sg_X8_value_0, if_neg (fun q => h1 (c4.mp q)), fu_same hW]
theorem ps_set (p1 p2 p3 : Int32) : Ps tyL 61 122 [.int p1, .int p2, .int p3] := by
  intro I A L W z hS
  by_cases h1 : ¬ p1 < 0 ∧ ¬ 4 ≤ p1
  · have h1' := c4.mpr h1
    by_cases h2 : okS p2 p3 = true
    · obtain ⟨k, hk, rfl⟩ := st4 h1
      have h3 := okS_in h2
      have h3' := c4.mpr h3
      obtain ⟨j, hj, rfl⟩ := st4 h3
      have hl85 : W.length = 232 := hS.1.i (a := 85) (n := 232) (by decide)
      have f0 : I (100 * (14 + 2 * k) + 0) = W.getD (45 * k + 0) 0 := (fu_n _ _ (by omega)).symm.trans (hS.fld hk (show 0 < 5 by decide))
      have f1 : I (100 * (14 + 2 * k) + 1) = W.getD (45 * k + 1) 0 := (fu_n _ _ (by omega)).symm.trans (hS.fld hk (show 1 < 5 by decide))
      have f2 : I (100 * (14 + 2 * k) + 2) = W.getD (45 * k + 2) 0 := (fu_n _ _ (by omega)).symm.trans (hS.fld hk (show 2 < 5 by decide))
      have f3 : I (100 * (14 + 2 * k) + 3) = W.getD (45 * k + 3) 0 := (fu_n _ _ (by omega)).symm.trans (hS.fld hk (show 3 < 5 by decide))
      have f4 : I (100 * (14 + 2 * k) + 4) = W.getD (45 * k + 4) 0 := (fu_n _ _ (by omega)).symm.trans (hS.fld hk (show 4 < 5 by decide))
      have hs' := sim_set (p3 := p3) hk hj hS h2
      rw [fu_fu, fu_cm I z p3 (show 8405 ≠ 100 * (14 + 2 * k) + j by omega)] at hs'
      refine ⟨.long (W.getD (45 * k + j) 0).toInt64, fu I (100 * (14 + 2 * k) + j) p3, A, W.set (45 * k + j) p3, ⟨_, rfl⟩, fun F E => ?_, fun I2 A2 L2 F E hW => ?_, hs', fun _ _ => rfl, fun x hx => fu_n _ _ (by omega)⟩
      · rw [sg_X7_set_0, if_pos h1, if_pos h2, now_at hk, Option.bind_some]
        rw [stg_at (fun i => W.getD i 0) _ _ _ _ _ (45 * k) f0 f1 f2 f3 f4 (by omega)]
        exact ch4 (fun j' => some (some (Value.long (W.getD (45 * k + j) 0).toInt64), HP (fu I (100 * (14 + 2 * k) + j') p3) A L F E)) _ hj
      · rw [sg_X8_set_0, if_pos h1', if_pos h3', okSF hj, if_pos h2, ixw, hW, ldI_d (by omega) (by omega), Option.bind_some, stI_n (by omega) (by omega)]
        rfl
    · refine ⟨.long (-9223372036854775808), I, A, W, ⟨_, rfl⟩, fun F E => ?_, fun I2 A2 L2 F E hW => ?_, hS, fun _ _ => rfl, fun _ _ => rfl⟩
      · rw [sg_X7_set_0, if_pos h1, if_neg h2]
      · rw [sg_X8_set_0, if_pos h1', fu_same hW]
        by_cases h3 : ¬ p2 < 0 ∧ ¬ 3 < p2
        · obtain ⟨j, hj, rfl⟩ := st4 (c4.mp h3)
          rw [if_pos h3, okSF hj, if_neg h2]
        · rw [if_neg h3]
  · refine ⟨.long (-9223372036854775808), I, A, W, ⟨_, rfl⟩, fun F E => ?_, fun I2 A2 L2 F E hW => ?_, hS, fun _ _ => rfl, fun _ _ => rfl⟩
    · rw [sg_X7_set_0, if_neg h1]
    · rw [sg_X8_set_0, if_neg (fun q => h1 (c4.mp q)), fu_same hW]
theorem ps_weight (p1 p2 : Int32) : Ps tyI 74 154 [.int p1, .int p2] := by
  intro I A L W z hS
  by_cases h1 : ¬ p1 < -2 ∧ ¬ 2 < p1
  · obtain ⟨k, hk, e1, e2⟩ := wk5 h1
    have hl4 := hS.1.i (a := 4) (n := 5) (by decide)
    rw [fu_n _ _ (by decide)] at hl4
    have hl85 : W.length = 232 := hS.1.i (a := 85) (n := 232) (by decide)
    by_cases h2 : ¬ p2 < 0 ∧ ¬ 5 < p2
    · have hv : 0 ≤ p2.toInt ∧ p2.toInt ≤ 5 := by
        have a := h2.1
        have b := h2.2
        rw [i_lt] at a b
        have e1 : (0 : Int32).toInt = 0 := rfl
        have e2 : (5 : Int32).toInt = 5 := rfl
        omega
      have hs' := sim_weight hk hv hS
      rw [fu_n (k := 85) (j := 4) _ _ (by decide), fu_fu3 (by decide)] at hs'
      have hr : (A 4).getD k 0 = W.getD (180 + k) 0 := by
        have := hS.2.1.2.1 k hk
        rw [fu_n (k := 85) (j := 4) _ _ (by decide)] at this
        exact this
      refine ⟨.int (W.getD (180 + k) 0), I, fu A 4 ((A 4).set k p2), W.set (180 + k) p2, ⟨_, rfl⟩, fun F E => ?_, fun I2 A2 L2 F E hW => ?_, hs', fun a ha => fu_n _ _ (by omega), fun _ _ => rfl⟩
      · rw [sg_X7_weight_0, if_pos h1, if_neg h2.1, if_pos (nle_lt h2.2), e1, ldI_d (by omega) (by omega), Option.bind_some, stI_n (by omega) (by omega), Option.bind_some, hr]
      · rw [sg_X8_weight_0, if_pos h1, if_pos h2, e2, hW, ldI_d (by omega) (by omega), Option.bind_some, stI_n (by omega) (by omega), Option.bind_some]
    · refine ⟨.int (-2), I, A, W, ⟨_, rfl⟩, fun F E => ?_, fun I2 A2 L2 F E hW => ?_, hS, fun _ _ => rfl, fun _ _ => rfl⟩
      · rw [sg_X7_weight_0, if_pos h1]
        by_cases a : p2 < 0
        · rw [if_pos a]
        · rw [if_neg a, if_neg (fun q => h2 ⟨a, fun z => by rw [i_le] at q; rw [i_lt] at z; omega⟩)]
      · rw [sg_X8_weight_0, if_pos h1, if_neg h2, fu_same hW]
  · refine ⟨.int (-1), I, A, W, ⟨_, rfl⟩, fun F E => ?_, fun I2 A2 L2 F E hW => ?_, hS, fun _ _ => rfl, fun _ _ => rfl⟩
    · rw [sg_X7_weight_0, if_neg h1]
    · rw [sg_X8_weight_0, if_neg h1, fu_same hW]
/-- a letter of a clause -/
def okL (x : Int32) : Prop := x = 118 ∨ x = 116 ∨ x = 108 ∨ x = 107 ∨ x = 115 ∨ x = 100
def rsV : Value → Value
  | .int y => .int (if y ≤ 0 then 0 else 1)
  | v => v
def rsS : Value → Value
  | .long y => .int (if (lg_cmp y (-9223372036854775808)) = 0 then 0 else 1)
  | v => v
def rsW : Value → Value
  | .int y => .int (if y < 0 then 0 else 1)
  | v => v
theorem clause_of {T : Value → Prop} {X M : Nat} {as as' : List Value} (h : Ps T X M as) (res : Value → Value) (hT : ∀ y, T y → tyI (res y))
    (hX : ∀ (I : Nat → Int32) (A : Nat → List Int32) (L : Nat → List Int64) (F : Nat → Int64) (E : MH) (y : Value) (I' : Nat → Int32) (A' : Nat → List Int32), T y → mm_call G0 X (.ref 1 :: as) (HP I A L F E) = some (some y, HP I' A' L F E) → mm_call G0 104 (.ref 1 :: as') (HP I A L F E) = some (some (res y), HP I' A' L F E))
    (hM : ∀ (I : Nat → Int32) (A : Nat → List Int32) (L : Nat → List Int64) (F : Nat → Int64) (E : MH) (y : Value) (I' : Nat → Int32) (A' : Nat → List Int32), T y → mm_call G0 M (.ref 84 :: as) (HP I A L F E) = some (some y, HP I' A' L F E) → mm_call G0 135 (.ref 84 :: as') (HP I A L F E) = some (some (res y), HP I' A' L F E)) : Ps tyI 104 135 as' := by
  intro I A L W z hS
  obtain ⟨v, I', A', W', q0, q1, q2, q3, q4, q5⟩ := h I A L W z hS
  exact ⟨res v, I', A', W', hT v q0, fun F E => hX _ _ _ _ _ _ _ _ q0 (q1 F E), fun I2 A2 L2 F E hW => hM _ _ _ _ _ _ _ _ q0 (q2 I2 A2 L2 F E hW), q3, q4, q5⟩
theorem ps_clause {x : Int32} (hx : okL x) (d v : Int32) : Ps tyI 104 135 [.int x, .int d, .int v] := by
  rcases hx with rfl | rfl | rfl | rfl | rfl | rfl
  · refine clause_of (ps_value d v) rsV (fun y ⟨z, e⟩ => by subst e; exact ⟨_, rfl⟩) (fun I A L F E y I' A' ⟨z, e⟩ h => ?_) (fun I A L F E y I' A' ⟨z, e⟩ h => ?_)
    · subst e
      rw [sg_X7_obey_0]
      repeat rw [if_neg (by decide)]
      rw [if_pos rfl, h, Option.bind_some]
      refine (sg_X7_obey_98 _ _ _ z).trans ?_
      unfold rsV
      dsimp only
      split <;> rfl
    · subst e
      rw [sg_X8_isDone_0]
      repeat rw [if_neg (by decide)]
      rw [if_pos rfl, h, Option.bind_some]
      refine (sg_X8_isDone_70 _ _ _ z).trans ?_
      unfold rsV
      dsimp only
      split <;> rfl
  · refine clause_of (ps_set d 1 v) rsS (fun y ⟨z, e⟩ => by subst e; exact ⟨_, rfl⟩) (fun I A L F E y I' A' ⟨z, e⟩ h => ?_) (fun I A L F E y I' A' ⟨z, e⟩ h => ?_)
    · subst e
      rw [sg_X7_obey_0]
      repeat rw [if_neg (by decide)]
      rw [if_pos rfl, h, Option.bind_some]
      refine (sg_X7_obey_114 _ _ _ z).trans ?_
      unfold rsS
      dsimp only
      split <;> rfl
    · subst e
      rw [sg_X8_isDone_0]
      repeat rw [if_neg (by decide)]
      rw [if_pos rfl, h, Option.bind_some]
      refine (sg_X8_isDone_86 _ _ _ z).trans ?_
      unfold rsS
      dsimp only
      split <;> rfl
  · refine clause_of (ps_set d 3 v) rsS (fun y ⟨z, e⟩ => by subst e; exact ⟨_, rfl⟩) (fun I A L F E y I' A' ⟨z, e⟩ h => ?_) (fun I A L F E y I' A' ⟨z, e⟩ h => ?_)
    · subst e
      rw [sg_X7_obey_0]
      repeat rw [if_neg (by decide)]
      rw [if_pos rfl, h, Option.bind_some]
      refine (sg_X7_obey_174 _ _ _ z).trans ?_
      unfold rsS
      dsimp only
      split <;> rfl
    · subst e
      rw [sg_X8_isDone_0]
      repeat rw [if_neg (by decide)]
      rw [if_pos rfl, h, Option.bind_some]
      refine (sg_X8_isDone_146 _ _ _ z).trans ?_
      unfold rsS
      dsimp only
      split <;> rfl
  · refine clause_of (ps_set d 0 v) rsS (fun y ⟨z, e⟩ => by subst e; exact ⟨_, rfl⟩) (fun I A L F E y I' A' ⟨z, e⟩ h => ?_) (fun I A L F E y I' A' ⟨z, e⟩ h => ?_)
    · subst e
      rw [sg_X7_obey_0]
      repeat rw [if_neg (by decide)]
      rw [if_pos rfl, h, Option.bind_some]
      refine (sg_X7_obey_134 _ _ _ z).trans ?_
      unfold rsS
      dsimp only
      split <;> rfl
    · subst e
      rw [sg_X8_isDone_0]
      rw [if_pos rfl, h, Option.bind_some]
      refine (sg_X8_isDone_106 _ _ _ z).trans ?_
      unfold rsS
      dsimp only
      split <;> rfl
  · refine clause_of (ps_set d 2 v) rsS (fun y ⟨z, e⟩ => by subst e; exact ⟨_, rfl⟩) (fun I A L F E y I' A' ⟨z, e⟩ h => ?_) (fun I A L F E y I' A' ⟨z, e⟩ h => ?_)
    · subst e
      rw [sg_X7_obey_0]
      repeat rw [if_neg (by decide)]
      rw [if_pos rfl, h, Option.bind_some]
      refine (sg_X7_obey_154 _ _ _ z).trans ?_
      unfold rsS
      dsimp only
      split <;> rfl
    · subst e
      rw [sg_X8_isDone_0]
      repeat rw [if_neg (by decide)]
      rw [if_pos rfl, h, Option.bind_some]
      refine (sg_X8_isDone_126 _ _ _ z).trans ?_
      unfold rsS
      dsimp only
      split <;> rfl
  · refine clause_of (ps_weight (d - 2) v) rsW (fun y ⟨z, e⟩ => by subst e; exact ⟨_, rfl⟩) (fun I A L F E y I' A' ⟨z, e⟩ h => ?_) (fun I A L F E y I' A' ⟨z, e⟩ h => ?_)
    · subst e
      rw [sg_X7_obey_0]
      rw [if_pos rfl, h, Option.bind_some]
      refine (sg_X7_obey_195 _ _ _ z).trans ?_
      unfold rsW
      dsimp only
      split <;> rfl
    · subst e
      rw [sg_X8_isDone_0]
      repeat rw [if_neg (by decide)]
      rw [h, Option.bind_some]
      refine (sg_X8_isDone_167 _ _ _ z).trans ?_
      unfold rsW
      dsimp only
      split <;> rfl
