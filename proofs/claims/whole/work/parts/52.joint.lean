/-! joint: several streams as one -/
def mS (w : Nat → Int32) (s : Nat) : Nat := (w (45 * s + 4)).toNatClampNeg
/-- how many places: the fewest values of a stream that has some -/
def jp (m : Nat → Nat) : Nat → Nat → Nat → Nat
  | 0, _, r => r
  | d + 1, s, r => jp m d (s + 1) (if m s = 0 then r else if r = 0 ∨ m s < r then m s else r)
def jmn (m : Nat → Nat) : Nat → Nat → Nat → Nat
  | 0, _, r => r
  | d + 1, s, r => jmn m d (s + 1) (if m s = 0 then r else if m s < r then m s else r)
def js (w : Nat → Int32) (c : Nat) : Nat → Nat → Int32 → Int32
  | 0, _, r => r
  | d + 1, s, r => js w c d (s + 1) (if mS w s = 0 then r else r + w (45 * s + c))
def jt (w : Nat → Int32) (p : Nat) : Nat → Nat → Int32 → Int32
  | 0, _, r => r
  | d + 1, s, r => jt w p d (s + 1) (if mS w s = 0 then r else r + gof (fun j => w (45 * s + j)) p)
theorem jp_le {m : Nat → Nat} : ∀ (d s r : Nat), (∀ q, s ≤ q → q < s + d → m q = 0 ∨ jp m d s r ≤ m q) ∧ (r = 0 ∨ jp m d s r ≤ r)
  | 0, s, r => ⟨fun q h1 h2 => by omega, Or.inr (Nat.le_refl _)⟩
  | d + 1, s, r => by
    unfold jp
    by_cases h0 : m s = 0
    · rw [if_pos h0]
      have ih := jp_le (m := m) d (s + 1) r
      refine ⟨fun q h1 h2 => ?_, ih.2⟩
      by_cases e : q = s
      · exact Or.inl (by rw [e]; exact h0)
      · exact ih.1 q (by omega) (by omega)
    · rw [if_neg h0]
      by_cases h1 : r = 0 ∨ m s < r
      · rw [if_pos h1]
        have ih := jp_le (m := m) d (s + 1) (m s)
        refine ⟨fun q h2 h3 => ?_, by omega⟩
        by_cases e : q = s
        · rw [e]
          exact ih.2
        · exact ih.1 q (by omega) (by omega)
      · rw [if_neg h1]
        have ih := jp_le (m := m) d (s + 1) r
        refine ⟨fun q h2 h3 => ?_, ih.2⟩
        by_cases e : q = s
        · rw [e]
          omega
        · exact ih.1 q (by omega) (by omega)
theorem jp_40 {m : Nat → Nat} : ∀ (d s r : Nat), s + d ≤ 4 → (∀ q, q < 4 → m q ≤ 40) → r ≤ 40 → jp m d s r ≤ 40
  | 0, _, _, _, _, h => h
  | d + 1, s, r, hs, hm, h => by
    unfold jp
    refine jp_40 d (s + 1) _ (by omega) hm ?_
    have := hm s (by omega)
    split
    · exact h
    · split
      · exact this
      · exact h
theorem jp_mn {m : Nat → Nat} : ∀ (d s r r' : Nat), s + d ≤ 4 → (∀ q, q < 4 → m q ≤ 40) → ((r = 0 ∧ r' = 41) ∨ (0 < r ∧ r = r' ∧ r ≤ 40)) → ((jp m d s r = 0 ∧ jmn m d s r' = 41) ∨ (0 < jp m d s r ∧ jp m d s r = jmn m d s r' ∧ jp m d s r ≤ 40))
  | 0, _, _, _, _, _, h => h
  | d + 1, s, r, r', hs, hm, h => by
    unfold jp jmn
    refine jp_mn d (s + 1) _ _ (by omega) hm ?_
    have := hm s (by omega)
    by_cases h0 : m s = 0
    · rw [if_pos h0, if_pos h0]
      exact h
    · rw [if_neg h0, if_neg h0]
      by_cases h1 : r = 0 ∨ m s < r
      · rw [if_pos h1, if_pos (by omega)]
        omega
      · rw [if_neg h1, if_neg (by omega)]
        omega
section JNT
variable {I : Nat → Int32} {A : Nat → List Int32} {L : Nat → List Int64} {F : Nat → Int64} {E : MH}
theorem Sim.len4 (h : Sim I A L) {s : Nat} (hs : s < 4) : mS (gw A 85) s ≤ 40 ∧ I (100 * (14 + 2 * s) + 4) = nI (mS (gw A 85) s) ∧ gw A 85 (45 * s + 4) = nI (mS (gw A 85) s) := by
  obtain ⟨n, hn, e1, e2⟩ := h.len hs
  have e : mS (gw A 85) s = n := by
    unfold mS
    rw [e2, nI_clamp (by omega)]
  rw [e]
  exact ⟨hn, e1, e2⟩
theorem jpl_x (hS : Sim I A L) : ∀ (d s r : Nat) (o : Option Int32), s + d = 4 → r ≤ 40 → mm_run G0 25 4 [some (.ref 2), some (.int (nI r)), some (.int (nI s)), (o.map Value.int)] [] (HP I A L F E) = some (some (.int (nI (jp (mS (gw A 85)) d s r))), HP I A L F E)
  | 0, s, r, o, h, hr => by
    rw [sg_X3_jointPlaces_4, if_pos (show (4 : Int32) ≤ nI s from n_le (a := 4) (b := s) (by omega) (by omega))]
    rfl
  | d + 1, s, r, o, h, hr => by
    obtain ⟨m1, m2, m3⟩ := hS.len4 (show s < 4 by omega)
    rw [sg_X3_jointPlaces_4, if_neg (show ¬ (4 : Int32) ≤ nI s from n_nle (a := s) (b := 4) (by omega) (by omega)), now_at (by omega), Option.bind_some, m2, in1]
    unfold jp
    by_cases h0 : mS (gw A 85) s = 0
    · rw [if_pos (by rw [h0]; decide), if_pos h0]
      exact jpl_x hS d (s + 1) r (some (nI (mS (gw A 85) s))) (by omega) hr
    · rw [if_neg (show ¬ nI (mS (gw A 85) s) ≤ (0 : Int32) from n_nle (a := 0) (b := mS (gw A 85) s) (by omega) (by omega)), if_neg h0]
      by_cases h1 : r = 0
      · rw [if_pos (show nI r = 0 by rw [h1]; rfl), if_pos (Or.inl h1)]
        exact jpl_x hS d (s + 1) (mS (gw A 85) s) (some (nI (mS (gw A 85) s))) (by omega) m1
      · rw [if_neg (show ¬ nI r = (0 : Int32) from fun z => h1 ((nI_eq (a := r) (b := 0) (by omega) (by decide)).mp z))]
        by_cases h2 : mS (gw A 85) s < r
        · rw [if_neg (n_nle (a := mS (gw A 85) s) (b := r) h2 (by omega)), if_pos (Or.inr h2)]
          exact jpl_x hS d (s + 1) (mS (gw A 85) s) (some (nI (mS (gw A 85) s))) (by omega) m1
        · rw [if_pos (n_le (a := r) (b := mS (gw A 85) s) (by omega) (by omega)), if_neg (by omega)]
          exact jpl_x hS d (s + 1) r (some (nI (mS (gw A 85) s))) (by omega) hr
theorem jof_x (hS : Sim I A L) {p : Nat} (hp : p < 40) (hle : ∀ s, s < 4 → mS (gw A 85) s = 0 ∨ p < mS (gw A 85) s) : ∀ (d s : Nat) (r : Int32), s + d = 4 → mm_run G0 26 4 [some (.ref 2), some (.int (nI p)), some (.int r), some (.int (nI s))] [] (HP I A L F E) = some (some (.int (jt (gw A 85) p d s r)), HP I A L F E)
  | 0, s, r, h => by
    rw [sg_X3_jointOffset_4, if_pos (show (4 : Int32) ≤ nI s from n_le (a := 4) (b := s) (by omega) (by omega))]
    rfl
  | d + 1, s, r, h => by
    obtain ⟨m1, m2, m3⟩ := hS.len4 (show s < 4 by omega)
    have lv := hS.1.val (show s < 4 by omega)
    rw [sg_X3_jointOffset_4, if_neg (show ¬ (4 : Int32) ≤ nI s from n_nle (a := s) (b := 4) (by omega) (by omega)), now_at (by omega), Option.bind_some, m2, Option.bind_some, in1]
    unfold jt
    by_cases h0 : mS (gw A 85) s = 0
    · rw [if_neg (fun q => q.2 (by rw [h0]; exact n_le (a := 0) (b := p) (by omega) (by omega))), if_pos h0]
      exact jof_x hS hp hle d (s + 1) r (by omega)
    · have hlt : p < mS (gw A 85) s := (hle s (by omega)).resolve_left h0
      rw [if_pos ⟨nI_nneg (n := p) (by omega), n_nle (a := p) (b := mS (gw A 85) s) hlt (by omega)⟩, if_neg h0, show 14 + 2 * s + 1 = 15 + 2 * s by omega, ldI_d (by omega) (by omega), Option.bind_some, hS.val (by omega) m1 m3 hlt, hS.fld (by omega) (show 0 < 5 by decide), hS.fld (by omega) (show 1 < 5 by decide)]
      have e : gof (fun j => gw A 85 (45 * s + j)) p = ofv (gw A 85 (45 * s + 0)) (gw A 85 (45 * s + 5 + p) - gw A 85 (45 * s + 1)) := by
        rw [show 45 * s + 5 + p = 45 * s + (5 + p) by omega]
        rfl
      rw [← e]
      exact jof_x hS hp hle d (s + 1) _ (by omega)
theorem jse_x (hS : Sim I A L) {c : Nat} (hc : c = 2 ∨ c = 3) : ∀ (d s : Nat) (r : Int32), s + d = 4 → mm_run G0 27 4 [some (.ref 2), some (.int (nI c)), some (.int r), some (.int (nI s))] [] (HP I A L F E) = some (some (.int (js (gw A 85) c d s r)), HP I A L F E)
  | 0, s, r, h => by
    rw [sg_X3_jointSetting_4, if_pos (show (4 : Int32) ≤ nI s from n_le (a := 4) (b := s) (by omega) (by omega))]
    rfl
  | d + 1, s, r, h => by
    obtain ⟨m1, m2, m3⟩ := hS.len4 (show s < 4 by omega)
    rw [sg_X3_jointSetting_4, if_neg (show ¬ (4 : Int32) ≤ nI s from n_nle (a := s) (b := 4) (by omega) (by omega)), now_at (by omega), Option.bind_some, Option.bind_some, in1]
    unfold js
    have es : stg (I (100 * (14 + 2 * s) + 0)) (I (100 * (14 + 2 * s) + 1)) (I (100 * (14 + 2 * s) + 2)) (I (100 * (14 + 2 * s) + 3)) (I (100 * (14 + 2 * s) + 4)) (nI c) = gw A 85 (45 * s + c) := stg_at (gw A 85) _ _ _ _ _ (45 * s) (hS.fld (by omega) (by decide)) (hS.fld (by omega) (by decide)) (hS.fld (by omega) (by decide)) (hS.fld (by omega) (by decide)) (hS.fld (by omega) (by decide)) (by omega)
    rw [es, m2]
    by_cases h0 : mS (gw A 85) s = 0
    · rw [if_pos (by rw [h0]; decide), if_pos h0]
      exact jse_x hS hc d (s + 1) r (by omega)
    · rw [if_neg (show ¬ nI (mS (gw A 85) s) ≤ (0 : Int32) from n_nle (a := 0) (b := mS (gw A 85) s) (by omega) (by omega)), if_neg h0]
      exact jse_x hS hc d (s + 1) _ (by omega)
theorem jfill {N : Nat} (hN : N ≤ 40) (w : Nat → Int32) (hle : ∀ s, s < 4 → mS w s = 0 ∨ N ≤ mS w s) : ∀ (d i : Nat) (A : Nat → List Int32), i + d = N → Sim I A L → gw A 85 = w → (∀ j, j < i → (A 71).getD j 0 = jt w j 4 0 0) → ∃ A' : Nat → List Int32, mm_run G0 107 2 [some (.ref 1), some (.int (nI N)), some (.int (nI i))] [] (HP I A L F E) = mm_run G0 107 2 [some (.ref 1), some (.int (nI N)), some (.int (nI N))] [] (HP I A' L F E) ∧ (∀ j, j < N → (A' 71).getD j 0 = jt w j 4 0 0) ∧ (∀ a, a ≠ 71 → A' a = A a) ∧ ∀ a, (A' a).length = (A a).length := by
  intro d
  induction d with
  | zero =>
    intro i A hi hS hw hv
    have e : i = N := by omega
    subst e
    exact ⟨A, rfl, hv, fun _ _ => rfl, fun _ => rfl⟩
  | succ d ih =>
    intro i A hi hS hw hv
    have l71 := hS.1.i (a := 71) (n := 40) (by decide)
    have hx := jof_x (F := F) (E := E) hS (show i < 40 by omega) (fun s hs => by rw [hw]; have := hle s hs; omega) 4 0 0 (by decide)
    have el : ∀ a, ((fu A 71 ((A 71).set i (jt w i 4 0 0))) a).length = (A a).length := fun a => by
      by_cases e : a = 71
      · rw [e, fu_s, List.length_set]
      · rw [fu_n _ _ e]
    obtain ⟨A', x1, x2, x3, x4⟩ := ih (i + 1) (fu A 71 ((A 71).set i (jt w i 4 0 0))) (by omega) (sim_scr hS el (fun _ => rfl) (fun _ _ _ => rfl) (fun a h1 h2 h3 => fu_n _ _ (by omega)) (fun _ _ _ => rfl)) (by rw [gw_ne (by decide)]; exact hw) (fun j hj => by
      rw [fu_s, getD_set (by omega)]
      by_cases e : j = i
      · rw [if_pos e, e]
      · rw [if_neg e]
        exact hv j (by omega))
    refine ⟨A', ?_, x2, fun a ha => by rw [x3 a ha, fu_n _ _ ha], fun a => (x4 a).trans (el a)⟩
    have hx' : mm_call G0 26 [.ref 2, .int (nI i)] (HP I A L F E) = some (some (.int (jt (gw A 85) i 4 0 0)), HP I A L F E) := by
      rw [sg_X3_jointOffset_0]
      exact hx
    rw [← x1, sg_X7_drawJoint_2, if_neg (n_nle (a := i) (b := N) (by omega) (by omega)), hx', Option.bind_some]
    refine (sg_X7_drawJoint_20 (nI N) (nI i) (nI i) _).trans ?_
    rw [stI_n (by omega) (by omega), Option.bind_some, in1, hw]
theorem djoint {N : Nat} (hN : N ≤ 40) (hS : Sim I A L) (hle : ∀ s, s < 4 → mS (gw A 85) s = 0 ∨ N ≤ mS (gw A 85) s) : ∃ (I' : Nat → Int32) (A' : Nat → List Int32), mm_call G0 107 [.ref 1, .int (nI N)] (HP I A L F E) = some (none, HP I' A' L F E) ∧ KX I A I' A' ∧ Dr I' A' (fun p => jt (gw A 85) p 4 0 0) (js (gw A 85) 2 4 0 0) (js (gw A 85) 3 4 0 0) 0 false N := by
  obtain ⟨A1, y1, y2, y3, y4⟩ := jfill (I := I) (L := L) (F := F) (E := E) hN (gw A 85) hle N 0 A (by omega) hS rfl (fun j hj => absurd hj (Nat.not_lt_zero _))
  have s1 : Sim I A1 L := sim_scr hS y4 (fun _ => rfl) (fun _ _ _ => rfl) (fun a h1 h2 h3 => y3 _ (by omega)) (fun _ _ _ => rfl)
  have w1 : gw A1 85 = gw A 85 := by unfold gw; rw [y3 _ (by decide)]
  have j2 := jse_x (F := F) (E := E) s1 (Or.inl rfl) 4 0 0 (by decide)
  have j3 := jse_x (F := F) (E := E) s1 (Or.inr rfl) 4 0 0 (by decide)
  rw [w1] at j2 j3
  obtain ⟨I', A', x1, x2, x3, x4, x5⟩ := follow_ok (I := fu (fu (fu (fu (fu I 4800 (js (gw A 85) 2 4 0 0)) 4801 (js (gw A 85) 3 4 0 0)) 4802 0) 4803 0) 4806 0) (A := A1) (L := L) (F := F) (E := E) (o := fun p => jt (gw A 85) p 4 0 0) (sl := js (gw A 85) 2 4 0 0) (lm := js (gw A 85) 3 4 0 0) (st := 0) (on := false) hN s1.1 (by simp (disch := decide) only [fu_n, fu_s]) (by simp (disch := decide) only [fu_n, fu_s]) (by simp (disch := decide) only [fu_n, fu_s]) (by simp (disch := decide) only [fu_n, fu_s]; rfl) (fu_s _ _ _) y2
  refine ⟨I', A', ?_, ⟨fun x hx => ?_, fun a h1 h2 => by rw [x4 a h1, y3 a h2], fun a => (x5 a).trans (y4 a)⟩, x2⟩
  · rw [sg_X7_drawJoint_0, show (0 : Int32) = nI 0 from rfl, y1, sg_X7_drawJoint_2, if_pos (n_le (a := N) (b := N) (by omega) (by omega)), sg_X3_jointSetting_0, show mm_run G0 27 4 [some (.ref 2), some (.int 2), some (.int 0), some (.int 0)] [] (HP I A1 L F E) = _ from j2, Option.bind_some]
    refine (sg_X7_drawJoint_39 (nI N) (nI N) _).trans ?_
    rw [sg_X3_jointSetting_0, show mm_run G0 27 4 [some (.ref 2), some (.int 3), some (.int 0), some (.int 0)] [] (HP I A1 L F E) = _ from j3, Option.bind_some]
    refine (sg_X7_drawJoint_47 (nI N) (nI N) _ _).trans ?_
    rw [x1, Option.bind_some]
    exact sg_X7_drawJoint_64 _ _
  · rw [x3 x (by omega)]
    simp (disch := omega) only [fu_n]
/-- the reference: all streams as one -/
theorem gj_min (hS : Sim I A L) (Q : MO) : ∀ (d s r : Nat) (v2 v3 : Int32), s + d = 4 → r ≤ 41 → mm_run G0 144 10 [some (.ref 84), some (.int (nI (jmn (mS (gw A 85)) d s r))), some (.int (js (gw A 85) 2 d s v2)), some (.int (js (gw A 85) 3 d s v3)), some (.int (nI 4)), none, none] [] (HP I A L F E) = Q → mm_run G0 144 10 [some (.ref 84), some (.int (nI r)), some (.int v2), some (.int v3), some (.int (nI s)), none, none] [] (HP I A L F E) = Q
  | 0, s, r, v2, v3, h, hr, hQ => by
    have e : s = 4 := by omega
    subst e
    exact hQ
  | d + 1, s, r, v2, v3, h, hr, hQ => by
    obtain ⟨m1, m2, m3⟩ := hS.len4 (show s < 4 by omega)
    unfold jmn js at hQ
    rw [sg_X8_goesJoint_10, if_neg (show ¬ (4 : Int32) ≤ nI s from n_nle (a := s) (b := 4) (by omega) (by omega)), ix4, hS.w (by omega), Option.bind_some, m3, Option.bind_some, ix2, hS.w (by omega), Option.bind_some, ix3, hS.w (by omega), Option.bind_some, in1]
    by_cases h0 : mS (gw A 85) s = 0
    · rw [if_pos h0, if_pos h0, if_pos h0] at hQ
      rw [if_neg (fun z => z (by rw [h0]; rfl))]
      exact gj_min hS Q d (s + 1) r v2 v3 (by omega) hr hQ
    · rw [if_neg h0, if_neg h0, if_neg h0] at hQ
      rw [if_pos (show nI (mS (gw A 85) s) ≠ 0 from fun z => h0 ((nI_eq (a := mS (gw A 85) s) (b := 0) (by omega) (by decide)).mp z))]
      have em : imin (nI r) (nI (mS (gw A 85) s)) = nI (if mS (gw A 85) s < r then mS (gw A 85) s else r) := by
        unfold imin
        by_cases h1 : mS (gw A 85) s < r
        · rw [if_pos h1, if_pos (nI_lt (a := mS (gw A 85) s) (b := r) h1 (by omega))]
        · rw [if_neg h1, if_neg (nI_nlt (a := mS (gw A 85) s) (b := r) (by omega) (by omega))]
      rw [em]
      exact gj_min hS Q d (s + 1) _ _ _ (by omega) (by split <;> omega) hQ
theorem gj_off (hS : Sim I A L) {p : Nat} (hp : p < 40) (v1 v2 v3 : Int32) (Q : MO) : ∀ (d s : Nat) (r : Int32), s + d = 4 → mm_run G0 144 117 [some (.ref 84), some (.int v1), some (.int v2), some (.int v3), some (.int (nI p)), some (.int (jt (gw A 85) p d s r)), some (.int (nI 4))] [] (HP I A L F E) = Q → mm_run G0 144 117 [some (.ref 84), some (.int v1), some (.int v2), some (.int v3), some (.int (nI p)), some (.int r), some (.int (nI s))] [] (HP I A L F E) = Q
  | 0, s, r, h, hQ => by
    have e : s = 4 := by omega
    subst e
    exact hQ
  | d + 1, s, r, h, hQ => by
    obtain ⟨m1, m2, m3⟩ := hS.len4 (show s < 4 by omega)
    unfold jt at hQ
    rw [sg_X8_goesJoint_117, if_neg (show ¬ (4 : Int32) ≤ nI s from n_nle (a := s) (b := 4) (by omega) (by omega)), ix4, hS.w (by omega), Option.bind_some, m3]
    by_cases h0 : mS (gw A 85) s = 0
    · rw [if_pos h0] at hQ
      rw [if_neg (fun z => z (by rw [h0]; rfl)), in1, Int32.add_zero]
      exact gj_off hS hp v1 v2 v3 Q d (s + 1) r (by omega) hQ
    · rw [if_neg h0] at hQ
      rw [if_pos (show nI (mS (gw A 85) s) ≠ 0 from fun z => h0 ((nI_eq (a := mS (gw A 85) s) (b := 0) (by omega) (by decide)).mp z)), ix0, hS.w (by omega), Option.bind_some, ixv, hS.w (by omega), Option.bind_some, ix1, hS.w (by omega), Option.bind_some, in1]
      have e : gof (fun j => gw A 85 (45 * s + j)) p = ofv (gw A 85 (45 * s + 0)) (gw A 85 (45 * s + 5 + p) - gw A 85 (45 * s + 1)) := by
        rw [show 45 * s + 5 + p = 45 * s + (5 + p) by omega]
        rfl
      rw [← e]
      exact gj_off hS hp v1 v2 v3 Q d (s + 1) _ (by omega) hQ
end JNT
section JNU
variable {L : Nat → List Int64} {F : Nat → Int64} {E : MH}
theorem gj_loop {N : Nat} (hN : N ≤ 40) (w : Nat → Int32) (sl lm : Int32) : ∀ (d i : Nat) (I : Nat → Int32) (A : Nat → List Int32) (U D : List Int32) (o5 o6 : Option Int32), i + d = N → Sim I A L → gw A 85 = w → I 8416 = (ch (fun p => jt w p 4 0 0) sl lm 0 false i).1 → I 8417 = (ch (fun p => jt w p 4 0 0) sl lm 0 false i).2.1 → I 8415 = nI (ch (fun p => jt w p 4 0 0) sl lm 0 false i).2.2 → U.length = 40 → D.length = 40 → Rc (fun p => jt w p 4 0 0) sl lm 0 false U D (A 92) (A 93) (A 94) i →
    ∃ (I' : Nat → Int32) (A' : Nat → List Int32) (U' D' : List Int32), mm_run G0 144 105 [some (.ref 84), some (.int (nI N)), some (.int sl), some (.int lm), some (.int (nI i)), (o5.map Value.int), (o6.map Value.int)] [] (HP I A L F E) = some (some (.int (nI N)), HP I' A' L F E) ∧ KM I A I' A' ∧ I' 8415 = nI (ch (fun p => jt w p 4 0 0) sl lm 0 false N).2.2 ∧ Rc (fun p => jt w p 4 0 0) sl lm 0 false U' D' (A' 92) (A' 93) (A' 94) N := by
  intro d
  induction d with
  | zero =>
    intro i I A U D o5 o6 hi hS hw hu hd hf hU hD hR
    have e : i = N := by omega
    subst e
    refine ⟨I, A, U, D, ?_, KM.rfl', hf, hR⟩
    rw [sg_X8_goesJoint_105, if_pos (n_le (a := i) (b := i) (by omega) (by omega))]
  | succ d ih =>
    intro i I A U D o5 o6 hi hS hw hu hd hf hU hD hR
    have hle := ch_le (o := fun p => jt w p 4 0 0) (sl := sl) (lm := lm) (st := 0) (on := false) i
    have l92 := hS.1.i (a := 92) (n := 40) (by decide)
    have l93 := hS.1.i (a := 93) (n := 40) (by decide)
    have l94 := hS.1.i (a := 94) (n := 40) (by decide)
    have hov : ¬ (false = true ∧ 0 < (ch (fun p => jt w p 4 0 0) sl lm 0 false i).2.2) := fun q => Bool.noConfusion q.1
    rw [sg_X8_goesJoint_105, if_neg (n_nle (a := i) (b := N) (by omega) (by omega))]
    by_cases hq : imax 0 ((ch (fun p => jt w p 4 0 0) sl lm 0 false i).1 + jt w i 4 0 0 - sl) < lm ∧ imax 0 ((ch (fun p => jt w p 4 0 0) sl lm 0 false i).2.1 - jt w i 4 0 0 - sl) < lm
    · have hF : ¬ ch_F (fun p => jt w p 4 0 0) sl lm 0 false i := fun q => q.2 hq
      have hc := ch_quiet (o := fun p => jt w p 4 0 0) hov hq
      have km : KM I A (fu (fu I 8416 (imax 0 ((ch (fun p => jt w p 4 0 0) sl lm 0 false i).1 + jt w i 4 0 0 - sl))) 8417 (imax 0 ((ch (fun p => jt w p 4 0 0) sl lm 0 false i).2.1 - jt w i 4 0 0 - sl))) A := ⟨fun x h1 h2 h3 => by rw [fu_n _ _ h3, fu_n _ _ h2], fun _ _ => rfl, fun _ => rfl⟩
      obtain ⟨I', A', U', D', x1, x2, x3, x4⟩ := ih (i + 1) (fu (fu I 8416 (imax 0 ((ch (fun p => jt w p 4 0 0) sl lm 0 false i).1 + jt w i 4 0 0 - sl))) 8417 (imax 0 ((ch (fun p => jt w p 4 0 0) sl lm 0 false i).2.1 - jt w i 4 0 0 - sl))) A (U.set i (imax 0 ((ch (fun p => jt w p 4 0 0) sl lm 0 false i).1 + jt w i 4 0 0 - sl))) (D.set i (imax 0 ((ch (fun p => jt w p 4 0 0) sl lm 0 false i).2.1 - jt w i 4 0 0 - sl))) (some (jt w i 4 0 0)) (some (nI 4)) (by omega) (km.sim hS) hw (by rw [hc, fu_n _ _ (by decide), fu_s]) (by rw [hc, fu_s]) (by rw [hc, fu_n _ _ (by decide), fu_n _ _ (by decide)]; exact hf) (by rw [List.length_set]; exact hU) (by rw [List.length_set]; exact hD) (hR.quiet hF (by omega) (by omega) (by rw [hc]) (by rw [hc]))
      refine ⟨I', A', U', D', ?_, km.tr x2, x3, x4⟩
      refine gj_off hS (show i < 40 by omega) (nI N) sl lm _ 4 0 0 (by decide) ?_
      have a1 := fun q => nlt_le q hq.1
      have a2 := fun q => nlt_le q hq.2
      rw [hw, sg_X8_goesJoint_117, if_pos (show (4 : Int32) ≤ nI 4 by decide), hu, hd, if_neg a1, if_neg a2, in1]
      exact x1
    · have hF : ch_F (fun p => jt w p 4 0 0) sl lm 0 false i := ⟨hov, hq⟩
      have hc := ch_fire hF
      obtain ⟨f, hff⟩ : ∃ f, (ch (fun p => jt w p 4 0 0) sl lm 0 false i).2.2 = f := ⟨_, rfl⟩
      rw [hff] at hf hle hc
      have s92 (x : Int32) : stI (A 92) (nI f) x = some ((A 92).set f x) := stI_n (by omega) (by omega)
      have s93 (x : Int32) : stI (A 93) (nI f) x = some ((A 93).set f x) := stI_n (by omega) (by omega)
      have s94 (x : Int32) : stI (A 94) (nI f) x = some ((A 94).set f x) := stI_n (by omega) (by omega)
      have key : ∀ s z u1 d1 : Int32, s = (if lm ≤ imax 0 ((ch (fun p => jt w p 4 0 0) sl lm 0 false i).1 + jt w i 4 0 0 - sl) then 0 else 1) → z = (if lm ≤ imax 0 ((ch (fun p => jt w p 4 0 0) sl lm 0 false i).1 + jt w i 4 0 0 - sl) then imax 0 ((ch (fun p => jt w p 4 0 0) sl lm 0 false i).1 + jt w i 4 0 0 - sl) else imax 0 ((ch (fun p => jt w p 4 0 0) sl lm 0 false i).2.1 - jt w i 4 0 0 - sl)) → ∃ (I' : Nat → Int32) (A' : Nat → List Int32) (U' D' : List Int32), mm_run G0 144 105 [some (.ref 84), some (.int (nI N)), some (.int sl), some (.int lm), some (.int (nI (i + 1))), ((some (jt w i 4 0 0)).map Value.int), ((some (nI 4)).map Value.int)] [] (HP (fu (fu (fu (fu (fu I 8416 u1) 8417 d1) 8415 (nI (f + 1))) 8416 0) 8417 0) (fu (fu (fu A 92 ((A 92).set f (nI i))) 93 ((A 93).set f s)) 94 ((A 94).set f z)) L F E) = some (some (.int (nI N)), HP I' A' L F E) ∧ KM I A I' A' ∧ I' 8415 = nI (ch (fun p => jt w p 4 0 0) sl lm 0 false N).2.2 ∧ Rc (fun p => jt w p 4 0 0) sl lm 0 false U' D' (A' 92) (A' 93) (A' 94) N := by
        intro s z u1 d1 hsd hzd
        have km : KM I A (fu (fu (fu (fu (fu I 8416 u1) 8417 d1) 8415 (nI (f + 1))) 8416 0) 8417 0) (fu (fu (fu A 92 ((A 92).set f (nI i))) 93 ((A 93).set f s)) 94 ((A 94).set f z)) := by
          refine ⟨fun x h1 h2 h3 => by simp (disch := omega) only [fu_n], fun a ha => by simp (disch := omega) only [fu_n], fun a => ?_⟩
          by_cases e3 : a = 94
          · rw [e3, fu_s, List.length_set]
          · rw [fu_n _ _ e3]
            by_cases e4 : a = 93
            · rw [e4, fu_s, List.length_set]
            · rw [fu_n _ _ e4]
              by_cases e5 : a = 92
              · rw [e5, fu_s, List.length_set]
              · rw [fu_n _ _ e5]
        obtain ⟨I', A', U', D', x1, x2, x3, x4⟩ := ih (i + 1) (fu (fu (fu (fu (fu I 8416 u1) 8417 d1) 8415 (nI (f + 1))) 8416 0) 8417 0) (fu (fu (fu A 92 ((A 92).set f (nI i))) 93 ((A 93).set f s)) 94 ((A 94).set f z)) (U.set i 0) (D.set i 0) (some (jt w i 4 0 0)) (some (nI 4)) (by omega) (km.sim hS) (by rw [km.gwe]; exact hw) (by rw [hc, fu_n _ _ (by decide), fu_s]) (by rw [hc, fu_s]) (by rw [hc, fu_n _ _ (by decide), fu_n _ _ (by decide), fu_s]) (by rw [List.length_set]; exact hU) (by rw [List.length_set]; exact hD) (by
          simp (disch := decide) only [fu_n, fu_s]
          have hh := hR.fire hF (by omega) (by omega) (by omega) (by omega) (by omega) (x := 0) (y := 0) (by rw [hc]) (by rw [hc]) hsd hzd
          rw [hff] at hh
          exact hh)
        exact ⟨I', A', U', D', x1, km.tr x2, x3, x4⟩
      by_cases a1 : lm ≤ imax 0 ((ch (fun p => jt w p 4 0 0) sl lm 0 false i).1 + jt w i 4 0 0 - sl)
      · have a1' := nlt_le a1
        obtain ⟨I', A', U', D', x1, xr⟩ := key 0 (imax 0 ((ch (fun p => jt w p 4 0 0) sl lm 0 false i).1 + jt w i 4 0 0 - sl)) (imax 0 ((ch (fun p => jt w p 4 0 0) sl lm 0 false i).1 + jt w i 4 0 0 - sl)) (imax 0 ((ch (fun p => jt w p 4 0 0) sl lm 0 false i).2.1 - jt w i 4 0 0 - sl)) (by rw [if_pos a1]) (by rw [if_pos a1])
        refine ⟨I', A', U', D', ?_, xr⟩
        refine gj_off hS (show i < 40 by omega) (nI N) sl lm _ 4 0 0 (by decide) ?_
        rw [hw, sg_X8_goesJoint_117, if_pos (show (4 : Int32) ≤ nI 4 by decide), hu, hd, hf, if_pos a1, s92, Option.bind_some, if_neg a1', s93, Option.bind_some, if_neg a1', s94, Option.bind_some, in1, in1]
        exact x1
      · have a1' := nle_lt' a1
        have a2 := ch_FD hF a1
        obtain ⟨I', A', U', D', x1, xr⟩ := key 1 (imax 0 ((ch (fun p => jt w p 4 0 0) sl lm 0 false i).2.1 - jt w i 4 0 0 - sl)) (imax 0 ((ch (fun p => jt w p 4 0 0) sl lm 0 false i).1 + jt w i 4 0 0 - sl)) (imax 0 ((ch (fun p => jt w p 4 0 0) sl lm 0 false i).2.1 - jt w i 4 0 0 - sl)) (by rw [if_neg a1]) (by rw [if_neg a1])
        refine ⟨I', A', U', D', ?_, xr⟩
        refine gj_off hS (show i < 40 by omega) (nI N) sl lm _ 4 0 0 (by decide) ?_
        rw [hw, sg_X8_goesJoint_117, if_pos (show (4 : Int32) ≤ nI 4 by decide), hu, hd, hf, if_neg a1, if_pos a2, s92, Option.bind_some, if_pos a1', s93, Option.bind_some, if_pos a1', s94, Option.bind_some, in1, in1]
        exact x1
end JNU
theorem rc_P {o : Nat → Int32} {sl lm st : Int32} {on : Bool} {n : Nat} {U D P S Z U' D' P' S' Z' : List Int32} (h1 : Rc o sl lm st on U D P S Z n) (h2 : Rc o sl lm st on U' D' P' S' Z' n) {k : Nat} (hk : k < (ch o sl lm st on n).2.2) : P.getD k 0 = P'.getD k 0 ∧ S.getD k 0 = S'.getD k 0 ∧ Z.getD k 0 = Z'.getD k 0 := by
  obtain ⟨i, q1, q2, q3⟩ := ch_surj n hk
  have a := (h1 i q1).2.2 q2
  have b := (h2 i q1).2.2 q2
  rw [q3] at a b
  exact ⟨a.1.trans b.1.symm, a.2.1.trans b.2.1.symm, a.2.2.trans b.2.2.symm⟩
theorem pr_joint (p1 : Int32) : Pr tyI 71 145 [.int p1] := by
  intro I A L F E hS
  obtain ⟨N, hNe⟩ : ∃ N, jp (mS (gw A 85)) 4 0 0 = N := ⟨_, rfl⟩
  have hm40 : ∀ q, q < 4 → mS (gw A 85) q ≤ 40 := fun q hq => (hS.len4 hq).1
  have hN : N ≤ 40 := by
    rw [← hNe]
    exact jp_40 4 0 0 (by decide) hm40 (by decide)
  have hle : ∀ s, s < 4 → mS (gw A 85) s = 0 ∨ N ≤ mS (gw A 85) s := fun s hs => by
    rw [← hNe]
    exact (jp_le (m := mS (gw A 85)) 4 0 0).1 s (Nat.zero_le _) (by omega)
  have hpl : mm_call G0 25 [.ref 2] (HP I A L F E) = some (some (.int (nI N)), HP I A L F E) := by
    rw [sg_X3_jointPlaces_0, ← hNe]
    exact jpl_x hS 4 0 0 none (by decide) (by decide)
  obtain ⟨I1, A1, x1, x2, x3⟩ := djoint (F := F) (E := E) hN hS hle
  have s1 := x2.sim hS
  have k1 : KM I1 A1 (fu (fu (fu I1 8416 0) 8417 0) 8415 0) A1 := ⟨fun x h1 h2 h3 => by rw [fu_n _ _ h1, fu_n _ _ h3, fu_n _ _ h2], fun _ _ => rfl, fun _ => rfl⟩
  have s1' := k1.sim s1
  obtain ⟨I2, A2, U, D, y1, y2, y3, y4⟩ := gj_loop (L := L) (F := F) (E := E) hN (gw A 85) (js (gw A 85) 2 4 0 0) (js (gw A 85) 3 4 0 0) N 0 (fu (fu (fu I1 8416 0) 8417 0) 8415 0) A1 (List.replicate 40 0) (List.replicate 40 0) none none (by omega) s1' x2.gwe (by rw [fu_n _ _ (by decide), fu_n _ _ (by decide), fu_s]; rfl) (by rw [fu_n _ _ (by decide), fu_s]; rfl) (fu_s _ _ _) rfl rfl (fun i hi => absurd hi (Nat.not_lt_zero _))
  have s2 := y2.sim s1'
  have hgj : mm_call G0 144 [.ref 84] (HP I1 A1 L F E) = some (some (.int (nI N)), HP I2 A2 L F E) := by
    have hmn := jp_mn (m := mS (gw A 85)) 4 0 0 41 (by decide) hm40 (Or.inl ⟨rfl, rfl⟩)
    rw [hNe] at hmn
    rw [sg_X8_goesJoint_0]
    refine gj_min s1 _ 4 0 41 0 0 (by decide) (by decide) ?_
    rw [x2.gwe, sg_X8_goesJoint_10, if_pos (show (4 : Int32) ≤ nI 4 by decide)]
    rcases hmn with q | q
    · rw [q.2, if_neg (by decide)]
      have e0 : nI N = 0 := by rw [q.1]; rfl
      rw [e0] at y1 ⊢
      exact y1
    · rw [← q.2.1, if_pos (show nI N ≤ (40 : Int32) from n_le (a := N) (b := 40) hN (by decide))]
      exact y1
  have l51 := s1.1.i (a := 51) (n := 40) (by decide)
  have l52 := s1.1.i (a := 52) (n := 40) (by decide)
  have l53 := s1.1.i (a := 53) (n := 40) (by decide)
  have l92 := s2.1.i (a := 92) (n := 40) (by decide)
  have l93 := s2.1.i (a := 93) (n := 40) (by decide)
  have l94 := s2.1.i (a := 94) (n := 40) (by decide)
  have hfl := ch_le (o := fun p => jt (gw A 85) p 4 0 0) (sl := js (gw A 85) 2 4 0 0) (lm := js (gw A 85) 3 4 0 0) (st := 0) (on := false) N
  obtain ⟨f, hf⟩ : ∃ f, (ch (fun p => jt (gw A 85) p 4 0 0) (js (gw A 85) 2 4 0 0) (js (gw A 85) 3 4 0 0) 0 false N).2.2 = f := ⟨_, rfl⟩
  have h6 : I1 4806 = nI f := by rw [← hf]; exact x3.1
  have h15 : I2 8415 = nI f := by rw [← hf]; exact y3
  rw [hf] at hfl
  have e51 : ldI (A1 51) 0 = some ((A1 51).getD 0 0) := ldI_d (j := 0) (by omega) (by omega)
  have e52 : ldI (A1 52) 0 = some ((A1 52).getD 0 0) := ldI_d (j := 0) (by omega) (by omega)
  have e53 : ldI (A1 53) 0 = some ((A1 53).getD 0 0) := ldI_d (j := 0) (by omega) (by omega)
  have e92 : ldI (A2 92) 0 = some ((A2 92).getD 0 0) := ldI_d (j := 0) (by omega) (by omega)
  have e93 : ldI (A2 93) 0 = some ((A2 93).getD 0 0) := ldI_d (j := 0) (by omega) (by omega)
  have e94 : ldI (A2 94) 0 = some ((A2 94).getD 0 0) := ldI_d (j := 0) (by omega) (by omega)
  have hx : mm_call G0 71 [.ref 1, .int p1] (HP I A L F E) = mm_run G0 71 13 [some (.ref 1), some (.int p1), some (.int (nI N))] [] (HP I1 A1 L F E) := by
    rw [sg_X7_joint_0, hpl, Option.bind_some]
    refine (sg_X7_joint_7 p1 (nI N)).trans ?_
    rw [x1, Option.bind_some]
    rfl
  by_cases hr : ¬ p1 < 0 ∧ ¬ 4 < p1
  · have hy : mm_call G0 145 [.ref 84, .int p1] (HP I1 A1 L F E) = mm_run G0 145 15 [some (.ref 84), some (.int p1), none] [.int (nI N)] (HP I2 A2 L F E) := by
      rw [sg_X8_joint_0, if_pos hr, hgj, Option.bind_some]
      rfl
    have ab : (A1 51).getD 0 0 = (A2 92).getD 0 0 ∧ (A1 52).getD 0 0 = (A2 93).getD 0 0 ∧ (A1 53).getD 0 0 = (A2 94).getD 0 0 ∨ f = 0 := by
      by_cases e : f = 0
      · exact Or.inr e
      · exact Or.inl (rc_P x3.2 y4 (k := 0) (by omega))
    refine ⟨.int (if p1 = 0 then nI N else if p1 = 1 then nI f else if p1 = 2 then (if nI f ≠ 0 then (A1 51).getD 0 0 else -5) else if p1 = 3 then (if nI f ≠ 0 then (A1 52).getD 0 0 else -5) else (if nI f ≠ 0 then (A1 53).getD 0 0 else -5)), I1, A1, L, F, E, I2, A2, L, F, E, ⟨_, rfl⟩, ?_, ?_, s2, Nat.le_add_right _ _⟩
    · rw [hx, sg_X7_joint_13, h6, e51, e52, e53]
      by_cases g0 : p1 = 0
      · rw [if_pos g0, if_pos g0]
      · by_cases g1 : p1 = 1
        · rw [if_neg g0, if_neg g0, if_pos g1, if_pos g1]
        · by_cases g2 : p1 = 2
          · rw [if_neg g0, if_neg g0, if_neg g1, if_neg g1, if_pos g2, if_pos g2]
            split <;> rfl
          · by_cases g3 : p1 = 3
            · rw [if_neg g0, if_neg g0, if_neg g1, if_neg g1, if_neg g2, if_neg g2, if_pos g3, if_pos g3]
              split <;> rfl
            · have g4 : p1 = 4 := by
                have i0 := ii0
                have i4 : (4 : Int32).toInt = 4 := rfl
                have q := rg hr
                have q0 : p1.toInt ≠ 0 := fun z => g0 (i_eq.mpr z)
                have q1 : p1.toInt ≠ 1 := fun z => g1 (i_eq.mpr z)
                have q2 : p1.toInt ≠ 2 := fun z => g2 (i_eq.mpr z)
                have q3 : p1.toInt ≠ 3 := fun z => g3 (i_eq.mpr z)
                exact i_eq.mpr (by omega)
              rw [if_neg g0, if_neg g0, if_neg g1, if_neg g1, if_neg g2, if_neg g2, if_neg g3, if_neg g3, if_pos g4]
              split <;> rfl
    · rw [hy, sg_X8_joint_15, h15, e92, e93, e94]
      have ab' : ∀ a b c a' b' c' : Int32, ((a = a' ∧ b = b' ∧ c = c') ∨ f = 0) → (if nI f ≠ 0 then a else -5) = (if nI f ≠ 0 then a' else (-5 : Int32)) ∧ (if nI f ≠ 0 then b else -5) = (if nI f ≠ 0 then b' else (-5 : Int32)) ∧ (if nI f ≠ 0 then c else -5) = (if nI f ≠ 0 then c' else (-5 : Int32)) := fun a b c a' b' c' h => by
        rcases h with ⟨rfl, rfl, rfl⟩ | h
        · exact ⟨rfl, rfl, rfl⟩
        · subst h
          exact ⟨rfl, rfl, rfl⟩
      obtain ⟨t1, t2, t3⟩ := ab' _ _ _ _ _ _ ab
      rw [t1, t2, t3]
      by_cases g0 : p1 = 0
      · rw [if_pos g0, if_pos g0]
      · by_cases g1 : p1 = 1
        · rw [if_neg g0, if_neg g0, if_pos g1, if_pos g1]
        · by_cases g2 : p1 = 2
          · rw [if_neg g0, if_neg g0, if_neg g1, if_neg g1, if_pos g2, if_pos g2]
            split <;> rfl
          · by_cases g3 : p1 = 3
            · rw [if_neg g0, if_neg g0, if_neg g1, if_neg g1, if_neg g2, if_neg g2, if_pos g3, if_pos g3]
              split <;> rfl
            · rw [if_neg g0, if_neg g0, if_neg g1, if_neg g1, if_neg g2, if_neg g2, if_neg g3, if_neg g3]
              split <;> rfl
  · refine ⟨.int (-1), I1, A1, L, F, E, I1, A1, L, F, E, ⟨_, rfl⟩, ?_, ?_, s1, Nat.le_add_right _ _⟩
    · rw [hx, sg_X7_joint_13, if_neg (c := p1 = 0) (fun q => hr (by rw [q]; decide)), if_neg (c := p1 = 1) (fun q => hr (by rw [q]; decide)), if_neg (c := p1 = 2) (fun q => hr (by rw [q]; decide)), if_neg (c := p1 = 3) (fun q => hr (by rw [q]; decide)), if_neg (c := p1 = 4) (fun q => hr (by rw [q]; decide))]
    · rw [sg_X8_joint_0, if_neg hr]
