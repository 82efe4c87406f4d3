/-! likely: both sides alike -/
def Wm (N : List Int64) (lim : Nat) (h : Nat → Nat) : Prop := N.length = 7 ∧ ∀ j, j ≤ lim → (N.getD j 0).toInt = (h j : Int)
section WMK
variable {I : Nat → Int32} {A : Nat → List Int32} {L : Nat → List Int64} {F : Nat → Int64}
theorem wm_i {wt : Nat → Nat} {sl lim B k l : Nat} {p1 p2 p3 p4 t : Int32} {wh : Int64} {E : MH} {H : List Int64} (hlim : lim ≤ 6) (hld : ∀ E l i, l < 7 → i < 5 → mm_call G0 157 [.ref 84, .int p1, .int (nI l), .int (nI i)] (HP I A L F E) = some (some (.int (nI (tt sl lim l i))), HP I A L F E)) (hwl : ∀ i, i < 5 → ldI (A 85) (nI (180 + i)) = some (nI (wt i))) (hw : ∀ i, i < 5 → wt i ≤ 5) (hB : 175 * B < 9223372036854775808) (h : Nat → Nat) (hh : Bd lim B h) (hk : k < E.length) (hE : E[k]? = some (lgs H)) (hH : Wm H lim h) (hl : l < lim) : ∀ (d i C : Nat) (N : List Int64) (acc : Nat → Nat), i + d = 5 → C + 5 * B * d ≤ 175 * B → Wm N lim acc → Bd lim C acc →
    ∃ N' : List Int64, mm_run G0 164 104 (lkL p1 p2 p3 p4 (nI lim) k wh t (some (.ref (E.length + 105))) (some (.int (nI l))) (some (.int (nI i)))) [] (HP I A L F (E ++ [lgs N])) = mm_run G0 164 104 (lkL p1 p2 p3 p4 (nI lim) k wh t (some (.ref (E.length + 105))) (some (.int (nI l))) (some (.int 5))) [] (HP I A L F (E ++ [lgs N'])) ∧ Wm N' lim (wi wt (tt sl lim) h l d i acc) := by
  intro d
  induction d with
  | zero =>
    intro i C N acc hi hC hW hb
    have e : i = 5 := by omega
    subst e
    exact ⟨N, rfl, hW⟩
  | succ d ih =>
    intro i C N acc hi hC hW hb
    have htt := tt_le sl lim l i
    have hx2 := l_nI (n := wt i) (by have := hw i (by omega); omega)
    have hm : h l * wt i ≤ B * 5 := Nat.mul_le_mul (hh l (by omega)) (hw i (by omega))
    have hC' : C + 5 * B + 5 * B * d ≤ 175 * B := by
      rw [Nat.mul_succ (5 * B) d] at hC
      omega
    have hmore := ln_mul (hH.2 l (by omega)) hx2 (by omega)
    have hacc := hb (tt sl lim l i) htt
    have hbd : Bd lim (C + 5 * B) (fu acc (tt sl lim l i) (acc (tt sl lim l i) + h l * wt i)) := fun j hj => by
      by_cases e : j = tt sl lim l i
      · rw [e, fu_s]
        omega
      · rw [fu_n _ _ e]
        have := hb j hj
        omega
    have lN := hW.1
    obtain ⟨N', x1, x2⟩ := ih (i + 1) (C + 5 * B) (N.set (tt sl lim l i) (N.getD (tt sl lim l i) 0 + H.getD l 0 * (nI (wt i)).toInt64)) (fu acc (tt sl lim l i) (acc (tt sl lim l i) + h l * wt i)) (by omega) hC' ⟨by rw [List.length_set]; exact lN, fun j hj => by
      rw [getD_set (by omega)]
      by_cases e : j = tt sl lim l i
      · rw [if_pos e, e, fu_s]
        exact ln_add (hW.2 _ htt) hmore (by omega)
      · rw [if_neg e, fu_n _ _ e]
        exact hW.2 j hj⟩ hbd
    refine ⟨N', ?_, x2⟩
    rw [lk_104 (i := i) (by omega) (show l < 7 by omega) (show tt sl lim l i < 7 by omega) hk hE hH.1 lN (fun E => hld E l i (by omega) (by omega)) (hwl i (by omega)), in1]
    exact x1
theorem wm_l {wt : Nat → Nat} {sl lim B k : Nat} {p1 p2 p3 p4 t : Int32} {wh : Int64} {E : MH} {H : List Int64} (hlim : lim ≤ 6) (hld : ∀ E l i, l < 7 → i < 5 → mm_call G0 157 [.ref 84, .int p1, .int (nI l), .int (nI i)] (HP I A L F E) = some (some (.int (nI (tt sl lim l i))), HP I A L F E)) (hwl : ∀ i, i < 5 → ldI (A 85) (nI (180 + i)) = some (nI (wt i))) (hw : ∀ i, i < 5 → wt i ≤ 5) (hB : 175 * B < 9223372036854775808) (h : Nat → Nat) (hh : Bd lim B h) (hk : k < E.length) (hE : E[k]? = some (lgs H)) (hH : Wm H lim h) : ∀ (d l C : Nat) (N : List Int64) (acc : Nat → Nat) (o12 : Option Value), l + d = lim → C + 25 * B * d ≤ 175 * B → Wm N lim acc → Bd lim C acc →
    ∃ (N' : List Int64) (o12' : Option Value), mm_run G0 164 94 (lkL p1 p2 p3 p4 (nI lim) k wh t (some (.ref (E.length + 105))) (some (.int (nI l))) o12) [] (HP I A L F (E ++ [lgs N])) = mm_run G0 164 155 (lkL p1 p2 p3 p4 (nI lim) k wh t (some (.ref (E.length + 105))) (some (.int (nI lim))) o12') [] (HP I A L F (E ++ [lgs N'])) ∧ Wm N' lim (wl wt (tt sl lim) h d l acc) := by
  intro d
  induction d with
  | zero =>
    intro l C N acc o12 hl hC hW hb
    have e : l = lim := by omega
    subst e
    exact ⟨N, o12, by rw [lk_94 hlim hlim, if_pos (Nat.le_refl _)], hW⟩
  | succ d ih =>
    intro l C N acc o12 hl hC hW hb
    have hC2 : C + 5 * B * 5 + 25 * B * d ≤ 175 * B := by
      rw [Nat.mul_succ (25 * B) d] at hC
      omega
    obtain ⟨N1, y1, y2⟩ := wm_i (p2 := p2) (p3 := p3) (p4 := p4) (t := t) (wh := wh) hlim hld hwl hw hB h hh hk hE hH (show l < lim by omega) 5 0 C N acc (by decide) (by omega) hW hb
    obtain ⟨N', o12', x1, x2⟩ := ih (l + 1) (C + 5 * B * 5) N1 (wi wt (tt sl lim) h l 5 0 acc) (some (.int 5)) (by omega) hC2 y2 (wi_bd hw (hh l (by omega)) 5 0 C acc (by decide) hb)
    refine ⟨N', o12', ?_, x2⟩
    rw [lk_94 hlim (by omega), if_neg (by omega)]
    refine (y1 : _ = _).trans ?_
    rw [lk_104e, in1]
    exact x1
theorem wm_k {wt : Nat → Nat} {sl lim aw n : Nat} {p1 p2 p4 : Int32} (hlim : lim ≤ 6) (haw : aw ≤ 25) (haw0 : 0 < aw) (hn : n ≤ 8) (hld : ∀ E l i, l < 7 → i < 5 → mm_call G0 157 [.ref 84, .int p1, .int (nI l), .int (nI i)] (HP I A L F E) = some (some (.int (nI (tt sl lim l i))), HP I A L F E)) (hwl : ∀ i, i < 5 → ldI (A 85) (nI (180 + i)) = some (nI (wt i))) (hw : ∀ i, i < 5 → wt i ≤ 5) (hawc : ∀ E, mm_call G0 156 [.ref 84] (HP I A L F E) = some (some (.int (nI aw)), HP I A L F E)) : ∀ (d t k : Nat) (E : MH) (H : List Int64) (h : Nat → Nat) (wh : Int64) (o10 o11 o12 : Option Value), t + d = n → k < E.length → E[k]? = some (lgs H) → Wm H lim h → Bd lim (175 ^ t) h → wh.toInt = ((aw ^ t : Nat) : Int) →
    ∃ (hv wv : Int64) (E' : MH), mm_run G0 164 63 (lkL p1 p2 (nI n) p4 (nI lim) k wh (nI t) o10 o11 o12) [] (HP I A L F E) = some (some (.long (lwt hv wv p4)), HP I A L F E') ∧ hv.toInt = (wk wt (tt sl lim) lim aw d h lim : Int) ∧ wv.toInt = ((aw ^ n : Nat) : Int) ∧ E'.length = E.length + d := by
  intro d
  induction d with
  | zero =>
    intro t k E H h wh o10 o11 o12 ht hk hE hH hb hwh
    have e : t = n := by omega
    subst e
    have hpos : 0 < aw ^ t := Nat.pow_pos haw0
    have hlm := hH.2 lim (Nat.le_refl _)
    refine ⟨H.getD lim 0, wh, E, ?_, hlm, hwh, rfl⟩
    rw [lk_63 hn hn, if_pos (Nat.le_refl _)]
    exact lk_175 hlim hE hH.1 (part_ok2 p4 (by omega) (by omega))
  | succ d ih =>
    intro t k E H h wh o10 o11 o12 ht hk hE hH hb hwh
    have hB : 175 * 175 ^ t < 9223372036854775808 := by
      have h1 : 175 ^ t ≤ 175 ^ 7 := Nat.pow_le_pow_right (by decide) (by omega)
      have h2 : 175 * 175 ^ 7 < 9223372036854775808 := by decide
      omega
    have ha7 : aw ^ t ≤ 25 ^ 7 := Nat.le_trans (Nat.pow_le_pow_left haw t) (Nat.pow_le_pow_right (by decide) (by omega))
    have e3 := l_nI (n := aw) (by omega)
    have hmul : aw ^ t * aw ≤ 25 ^ 7 * 25 := Nat.mul_le_mul ha7 haw
    have hlm : h lim * aw ≤ 175 ^ t * 25 := Nat.mul_le_mul (hb lim (Nat.le_refl _)) haw
    have hab := ln_mul (hH.2 lim (Nat.le_refl _)) e3 (by omega)
    have hbe := ln_mul hwh e3 (by
      have : (25 : Nat) ^ 7 * 25 < 9223372036854775808 := by decide
      omega)
    obtain ⟨N', o12', y1, y2⟩ := wm_l (p1 := p1) (p2 := p2) (p3 := nI n) (p4 := p4) (t := nI t) (wh := wh) (E := E) hlim hld hwl hw hB h hb hk hE hH lim 0 (25 * 175 ^ t) ((List.replicate 7 0).set lim (H.getD lim 0 * (nI aw).toInt64)) (w0 h lim aw) o12 (by omega) (by
      have : 25 * 175 ^ t * lim ≤ 25 * 175 ^ t * 6 := Nat.mul_le_mul_left _ hlim
      omega) ⟨by rw [List.length_set, List.length_replicate], fun j hj => by
        rw [getD_set (by rw [List.length_replicate]; omega)]
        unfold w0
        by_cases e : j = lim
        · rw [if_pos e, if_pos e]
          exact hab
        · rw [if_neg e, if_neg e, List.getD_eq_getElem?_getD, List.getElem?_replicate, if_pos (by omega)]
          rfl⟩ (w0_bd haw hb)
    obtain ⟨hv, wv, E', x1, x2, x3, x4⟩ := ih (t + 1) E.length (E ++ [lgs N']) N' (ws wt (tt sl lim) lim aw h) (wh * (nI aw).toInt64) (some (.ref (E.length + 105))) (some (.int (nI lim))) o12' (by omega) (by rw [List.length_append]; exact Nat.lt_succ_self _) (get_last E) y2 (by rw [Nat.pow_succ, Nat.mul_comm]; exact ws_bd hw haw hlim hb) (by rw [hbe, Nat.pow_succ])
    refine ⟨hv, wv, E', ?_, x2, x3, by
      rw [x4, List.length_append]
      show E.length + 1 + d = _
      omega⟩
    rw [lk_63 hn (by omega), if_neg (by omega), lk_69 hlim hk hE hH.1 hawc]
    refine (y1 : _ = _).trans ?_
    rw [lk_155 hawc, in1]
    exact x1
end WMK
theorem pr_likely (p1 p2 p3 p4 : Int32) : Pr tyL 77 164 [.int p1, .int p2, .int p3, .int p4] := by
  intro I A L F E hS
  have i8 : (8 : Int32).toInt = 8 := rfl
  by_cases h1 : ¬ p1 < 0 ∧ ¬ 4 ≤ p1
  rotate_left 1
  · refine ⟨.long (-9223372036854775808), I, A, L, F, E, I, A, L, F, E, ⟨_, rfl⟩, ?_, ?_, hS, Nat.le_add_right _ _⟩
    · rw [sg_X7_likely_0, if_neg h1]
    · have hc : mm_call G0 159 [.ref 84, .int p1, .int p2] (HP I A L F E) = some (some (.int 0), HP I A L F E) := by rw [sg_X8_isChain_0, if_neg (fun q => h1 (c4.mp q))]
      rw [lk_0 (lim := 0) hc (fun q => absurd rfl q), if_neg (fun q => q.1 rfl)]
  obtain ⟨k, hk, rfl⟩ := st4 h1
  obtain ⟨v0, v1, v2, v3, v4, v5⟩ := hS.vst hk
  obtain ⟨lim, hl12, hlim⟩ := to_n (x := gs A k 3) (n := 12) (by omega) (by omega) (by decide)
  obtain ⟨sl, hsl, hsle⟩ := to_n (x := gs A k 2) (n := 5) v2.1 v2.2 (by decide)
  have hl1 : 1 ≤ lim := by
    have := v3.1
    rw [hlim, nI_toInt (by omega)] at this
    omega
  obtain ⟨I1, A1, z, x1, x2, x3, x4⟩ := lay_x (F := F) (E := E) hk hS hlim hl12 hsle p2
  have s1 := x2.sim hS
  have w1 : gw A1 85 = gw A 85 := by unfold gw; rw [x2.2.1 _ (by decide)]
  have g1 : gs A1 k = gs A k := by unfold gs; rw [w1]
  by_cases hp : p4 = 0 ∨ p4 = 1
  rotate_left 1
  · obtain ⟨y, y1, y2⟩ := isChain_m (F := F) (E := E) hk hS hlim hl12 hl1 p2
    refine ⟨.long (-9223372036854775808), I, A, L, F, E, I, A, L, F, E, ⟨_, rfl⟩, ?_, ?_, hS, Nat.le_add_right _ _⟩
    · rw [sg_X7_likely_0, if_pos h1, if_neg hp]
    · rw [lk_0 (lim := nI lim) y1 (fun _ => by rw [ix3, hS.w (by omega)]; exact congrArg some hlim), if_neg (fun q => hp q.2.2)]
  by_cases hn : ¬ p3 < 0 ∧ ¬ 8 < p3
  rotate_left 1
  · obtain ⟨y, y1, y2⟩ := isChain_m (F := F) (E := E) hk hS hlim hl12 hl1 p2
    refine ⟨.long (-9223372036854775808), I, A, L, F, E, I, A, L, F, E, ⟨_, rfl⟩, ?_, ?_, hS, Nat.le_add_right _ _⟩
    · rw [sg_X7_likely_0, if_pos h1, if_pos hp]
      by_cases a : p3 < 0
      · rw [if_pos a]
      · rw [if_neg a]
        by_cases b : 8 < p3
        · rw [if_pos b]
        · exact absurd ⟨a, b⟩ hn
    · rw [lk_0 (lim := nI lim) y1 (fun _ => by rw [ix3, hS.w (by omega)]; exact congrArg some hlim), if_neg (fun q => hn q.2.1)]
  obtain ⟨y, y1, y2⟩ := isChain_m (F := F) (E := E) hk s1 (by rw [g1]; exact hlim) hl12 hl1 p2
  rw [w1] at y2
  have hx0 : mm_call G0 77 [.ref 1, .int (nI k), .int p2, .int p3, .int p4] (HP I A L F E) = mm_run G0 77 35 [some (.ref 1), some (.int (nI k)), some (.int p2), some (.int p3), some (.int p4)] [.int z] (HP I1 A1 L F E) := by
    rw [sg_X7_likely_0, if_pos h1, if_pos hp, if_neg hn.1, if_neg hn.2, x1, Option.bind_some]
    rfl
  have hy0 : ∀ (L2 : Nat → List Int64) (F2 : Nat → Int64), Sim I1 A1 L2 → ∃ y : Int32, mm_call G0 159 [.ref 84, .int (nI k), .int p2] (HP I1 A1 L2 F2 E) = some (some (.int y), HP I1 A1 L2 F2 E) ∧ (y ≠ 0 ↔ Okc (gw A 85) lim p2) := fun L2 F2 s2 => by
    have q := isChain_m (F := F2) (E := E) hk s2 (by rw [g1]; exact hlim) hl12 hl1 p2
    rw [w1] at q
    exact q
  by_cases hz : z ≠ 0
  rotate_left 1
  · refine ⟨.long (-9223372036854775808), I1, A1, L, F, E, I1, A1, L, F, E, ⟨_, rfl⟩, ?_, ?_, s1, Nat.le_add_right _ _⟩
    · rw [hx0, sg_X7_likely_35, if_neg hz]
    · rw [lk_0 (lim := nI lim) y1 (fun _ => by rw [ix3, s1.w (by omega), w1]; exact congrArg some hlim), if_neg (fun q => hz (x3.mpr (y2.mp q.1)))]
  · have hok := x3.mp hz
    obtain ⟨c0, c1, c3, c5⟩ := x4 hz
    obtain ⟨ok1, ok2, ok3, ok4⟩ := hok
    have hV := hS.2.2.1
    have haw := hV.aw 5 (Nat.le_refl _)
    obtain ⟨level, hlv, rfl⟩ := to_n (x := p2) (n := 6) ok1 (by omega) (by decide)
    rw [nI_toInt (by omega)] at ok2
    obtain ⟨n, hn8, rfl⟩ := to_n (x := p3) (n := 8) (by have := hn.1; rw [i_lt, ii0] at this; omega) (by have := hn.2; rw [i_lt, i8] at this; omega) (by decide)
    obtain ⟨L2, F2, u1, u2, u3, u4, u5, u6⟩ := walk_x (I := I1) (A := A1) (L := L) (F := F) (E := E) (wt := wn (gw A 85)) (n := n) hsl ok3 (show level < lim by omega) (by omega) hn8 c0 c1 c3 s1.1 c5 (fun i hi => (hV.wt hi).1)
    have s2 : Sim I1 A1 L2 := sim_scr s1 (fun _ => rfl) u6 (fun _ _ _ => rfl) (fun _ _ _ _ => rfl) (fun a h1 h2 => u5 a (by omega) (by omega))
    have hawn : aP (gw A 85) 5 ^ n ≤ 25 ^ 8 := Nat.le_trans (Nat.pow_le_pow_left (by omega) n) (Nat.pow_le_pow_right (by decide) hn8)
    have h175 : 175 ^ n ≤ 175 ^ 8 := Nat.pow_le_pow_right (by decide) hn8
    have hpos : 0 < aP (gw A 85) 5 ^ n := Nat.pow_pos ok4
    have hlow := low_ok2 (I := I1) (A := A1) (L := L2) (F := F2) (E := E) (a := F2 5404) (b := F2 5405) p4 (by omega) (by omega) (by
      have q1 : (F2 5404).toInt.natAbs ≤ 175 ^ 8 := by omega
      have q2 : (F2 5405).toInt.natAbs ≤ 25 ^ 8 := by omega
      have q3 := Nat.mul_le_mul q1 q2
      have q4 : (175 : Nat) ^ 8 * 25 ^ 8 < 2 ^ 98 := by decide
      omega)
    obtain ⟨y', y1', y2'⟩ := hy0 L2 F2 s2
    have s2m := s2
    obtain ⟨hv, wv, E', m1, m2, m3, m4⟩ := wm_k (I := I1) (A := A1) (L := L2) (F := F2) (wt := wn (gw A 85)) (sl := sl) (lim := lim) (aw := aP (gw A 85) 5) (n := n) (p1 := nI k) (p2 := nI level) (p4 := p4) ok3 (by omega) ok4 hn8 (fun E l i hl hi => by
      rw [sg_X8_leads_0, ix3, s2.w (by omega), Option.bind_some, ix2, s2.w (by omega), Option.bind_some, w1, show gw A 85 (45 * k + 3) = nI lim from hlim, show gw A 85 (45 * k + 2) = nI sl from hsle, tt_eq hsl hl12 (by omega) (by omega)]) (fun i hi => by rw [s2.w (by omega), w1, (hV.wt hi).2]) (fun i hi => (hV.wt hi).1) (fun E => by
      have q := aw_m (F := F2) (E := E) s2
      rw [w1] at q
      exact q) n 0 E.length (E ++ [lgs ((List.replicate 7 0).set level 1)]) ((List.replicate 7 0).set level 1) (hst level) 1 none none none (by omega) (by rw [List.length_append]; exact Nat.lt_succ_self _) (get_last E) ⟨by rw [List.length_set, List.length_replicate], fun j hj => by
        rw [getD_set (by rw [List.length_replicate]; omega)]
        unfold hst
        by_cases e : j = level
        · rw [if_pos e, if_pos e]
          rfl
        · rw [if_neg e, if_neg e, List.getD_eq_getElem?_getD, List.getElem?_replicate, if_pos (by omega)]
          rfl⟩ (fun j hj => by
        unfold hst
        split
        · decide
        · exact Nat.zero_le _) rfl
    have eh : hv = F2 5404 := l_eq.mpr (by rw [m2, u2])
    have ew : wv = F2 5405 := l_eq.mpr (by rw [m3, u4])
    refine ⟨.long (lwt (F2 5404) (F2 5405) p4), I1, A1, L2, F2, E, I1, A1, L2, F2, E', ⟨_, rfl⟩, ?_, ?_, s2, ?_⟩
    · rw [hx0, sg_X7_likely_35, if_pos hz, u1, Option.bind_some]
      refine (sg_X7_likely_51 (nI k) (nI level) (nI n) p4).trans ?_
      rw [hlow, Option.bind_some]
      exact sg_X7_likely_70 _ _ _ _ _
    · rw [lk_0 (lim := nI lim) y1' (fun _ => by rw [ix3, s2.w (by omega), w1]; exact congrArg some hlim), if_pos ⟨y2'.mpr ⟨ok1, by rw [nI_toInt (by omega)]; exact ok2, ok3, ok4⟩, hn, hp⟩, lk_46 (by omega), ← eh, ← ew]
      exact m1
    · rw [m4, List.length_append]
      show E.length + 1 + n ≤ _
      omega
