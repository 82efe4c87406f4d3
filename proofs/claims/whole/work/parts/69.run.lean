/-! run: both answer the same -/
theorem yy_ou {wt : Nat → Nat} {sl lim aw : Nat} {R : Nat → Bool} {l : Nat} (hl : l < lim) : Ou lim (yy wt sl lim aw R l) := fun y h1 h2 => by
  unfold yy
  split
  · rw [yf_out (fun i hi => by omega)]
    unfold yb
    rw [if_neg (by omega), if_neg h2]
  · unfold yb
    rw [if_neg (by omega), if_neg h2]
section MDX
variable {I : Nat → Int32} {A : Nat → List Int32} {L : Nat → List Int64} {F : Nat → Int64} {E : MH}
/-- the reference behind its check -/
theorem md_x {wt : Nat → Nat} {sl lim k level aw m : Nat} {v3 : Int32} (hsl : sl ≤ 5) (hlim : lim ≤ 6) (hlv : level < lim) (haw : aw ≤ 25) (hm : m < 128) (hS : Shp A L) (h3 : ldI (A 85) (45 * nI k + 3) = some (nI lim)) (h2 : ldI (A 85) (45 * nI k + 2) = some (nI sl)) (hwl : ∀ i, i < 5 → ldI (A 85) (nI (180 + i)) = some (nI (wt i))) (hw : ∀ i, i < 5 → wt i ≤ 5) (hsum : 0 + nI (wt 0) + nI (wt 1) + nI (wt 2) + nI (wt 3) + nI (wt 4) = nI aw) (hM : Mm (yy wt sl lim aw (fun l => m.testBit l)) lim xw) :
    ∃ (L' : Nat → List Int64) (a b : Int64) (v : Rw), mm_run G0 163 46 [some (.ref 84), some (.int (nI k)), some (.int (nI level)), some (.int v3), some (.int (nI lim)), some (.int (nI m)), some (.int (nI lim))] [] (HP I A L F E) = some (some (.long (lwt a b v3)), HP I A L' F E) ∧ Gr (yy wt sl lim aw (fun l => m.testBit l)) lim lim level v ∧ a.toInt = v 7 ∧ b.toInt = v level ∧ (∀ x, (∀ q, q < 6 → x ≠ 96 + q) → L' x = L x) ∧ ∀ x, x < 6 → (L' (96 + x)).length = 7 := by
  have lL : ∀ x, x < 6 → (L (96 + x)).length = 7 := fun x hx => by
    match x, hx with
    | 0, _ => exact hS.l (a := 96) (n := 7) (by decide)
    | 1, _ => exact hS.l (a := 97) (n := 7) (by decide)
    | 2, _ => exact hS.l (a := 98) (n := 7) (by decide)
    | 3, _ => exact hS.l (a := 99) (n := 7) (by decide)
    | 4, _ => exact hS.l (a := 100) (n := 7) (by decide)
    | 5, _ => exact hS.l (a := 101) (n := 7) (by decide)
  obtain ⟨L1, x1, x2, x3, x4⟩ := eq_15 (I := I) (A := A) (F := F) (E := E) hsl hlim haw hm h3 h2 hwl hw hsum lim 0 L none none (by omega) lL (fun q h => absurd h (Nat.not_lt_zero _))
  obtain ⟨L2, P, y1, y2, y3, y4⟩ := gs_2 (I := I) (A := A) (F := F) (E := E) hM hlim lim 0 L1 (yy wt sl lim aw (fun l => m.testBit l)) none none none none none none (by omega) (fun q hq => ⟨Rcl.of (x2 q hq), yy_ou hq⟩) (fun q _ => Gr.zero)
  obtain ⟨l1, l2⟩ := y2 level hlv
  have ha := l2 lim (Nat.le_refl _)
  have hb := l2 level (by omega)
  rw [cl_n] at ha
  rw [cl_lt hlv] at hb
  have hp := ((y3 level hlv).prop hM (Nat.le_refl _) hlim hlv hlim).1
  have hbn := (y3 level hlv).pr
  have c160 : mm_call G0 160 [.ref 84, .int (nI k), .int (nI m)] (HP I A L F E) = some (none, HP I A L1 F E) := by
    rw [sg_X8_equations_0, h3, Option.bind_some]
    exact x1
  have c162 : mm_call G0 162 [.ref 84, .int (nI lim)] (HP I A L1 F E) = some (none, HP I A L2 F E) := by
    rw [sg_X8_clears_0]
    exact y1
  -- the answer's row: its right side is above nothing, or small
  have hge : -9223372036854775808 < ((L2 (96 + level)).getD lim 0).toInt := by
    rw [ha]
    obtain ⟨-, w, s, t, hs, ht, e1, w1, -⟩ := (y3 level hlv).prop hM (Nat.le_refl _) hlim hlv hlim
    have u5 := (hM.up (c := lim) hlv (Nat.le_refl _) hlim).2.2.2.2.1
    have e7 := e1 7
    rw [w1 hlv] at e7
    have q := Int.mul_nonneg (Int.le_of_lt ht) u5
    rw [← e7] at q
    have : 0 ≤ P level 7 := by
      by_cases z : P level 7 < 0
      · have := Int.mul_neg_of_pos_of_neg hs z
        omega
      · omega
    omega
  refine ⟨L2, (L2 (96 + level)).getD lim 0, (L2 (96 + level)).getD level 0, P level, ?_, y3 level hlv, ha, hb, fun x hx => by rw [y4 x (fun q hq => hx q (by omega)), x4 x hx], fun x hx => ?_⟩
  · rw [sg_X8_run_46, if_pos (n_le (a := lim) (b := lim) (by omega) (by omega)), c160, Option.bind_some]
    refine (sg_X8_run_96 (nI k) (nI level) v3 (nI lim) (nI m) (nI lim)).trans ?_
    rw [c162, Option.bind_some]
    refine (sg_X8_run_102 (nI k) (nI level) v3 (nI lim) (nI m) (nI lim)).trans ?_
    rw [ld96 (by omega), Option.bind_some, ldL_d (by omega) (by omega), Option.bind_some, Option.bind_some, ldL_d (by omega) (by omega), Option.bind_some, part_ok2 v3 hge (by rw [hb]; exact hp), Option.bind_some]
    exact sg_X8_run_123 _ _ _ _ _ _ _
  · by_cases e : x < lim
    · exact (y2 x e).1
    · rw [y4 (96 + x) (fun q hq => by omega)]
      exact x3 x hx
end MDX
theorem yf_out2 {wt to : Nat → Nat} {lim : Nat} {f : Rw} {y : Nat} : ∀ k, (∀ i, i < k → 0 < wt i → to i < lim → to i ≠ y) → yf wt to lim f k y = f y
  | 0, _ => rfl
  | k + 1, h => by
    have ih := yf_out2 (f := f) k (fun i hi => h i (by omega))
    rw [yf]
    split
    · rename_i ht
      by_cases e : y = to k
      · have : ¬ 0 < wt k := fun q => h k (by omega) q ht e.symm
        rw [e, fu_s]
        rw [e] at ih
        omega
      · rw [fu_n _ _ e, ih]
    · exact ih
theorem Shp.l96 {A : Nat → List Int32} {L : Nat → List Int64} (hS : Shp A L) {x : Nat} (hx : x < 6) : (L (96 + x)).length = 7 := by
  match x, hx with
  | 0, _ => exact hS.l (a := 96) (n := 7) (by decide)
  | 1, _ => exact hS.l (a := 97) (n := 7) (by decide)
  | 2, _ => exact hS.l (a := 98) (n := 7) (by decide)
  | 3, _ => exact hS.l (a := 99) (n := 7) (by decide)
  | 4, _ => exact hS.l (a := 100) (n := 7) (by decide)
  | 5, _ => exact hS.l (a := 101) (n := 7) (by decide)
theorem wpos_5 {wt : Nat → Nat} (h : ∀ i, wt i = wt (min i 4)) : wpos wt = p5 (wpos wt 0) (wpos wt 1) (wpos wt 2) (wpos wt 3) (wpos wt 4) := by
  funext i
  match i with
  | 0 => rfl
  | 1 => rfl
  | 2 => rfl
  | 3 => rfl
  | n + 4 =>
    show wpos wt (n + 4) = wpos wt 4
    unfold wpos
    rw [h (n + 4), show min (n + 4) 4 = 4 by omega]
theorem pr_run (p1 p2 p3 : Int32) : Pr tyL 76 163 [.int p1, .int p2, .int p3] := by
  intro I A L F E hS
  by_cases h1 : ¬ p1 < 0 ∧ ¬ 4 ≤ p1
  rotate_left 1
  · refine ⟨.long (-9223372036854775808), I, A, L, F, E, I, A, L, F, E, ⟨_, rfl⟩, ?_, ?_, hS, Nat.le_add_right _ _⟩
    · rw [sg_X7_run_0, if_neg h1]
    · rw [sg_X8_run_0, if_neg (fun q => h1 (c4.mp q))]
  obtain ⟨k, hk, rfl⟩ := st4 h1
  obtain ⟨v0, v1, v2, v3, v4, v5⟩ := hS.vst hk
  obtain ⟨lim, hl12, hlim⟩ := to_n (x := gs A k 3) (n := 12) (by omega) (by omega) (by decide)
  obtain ⟨sl, hsl, hsle⟩ := to_n (x := gs A k 2) (n := 5) v2.1 v2.2 (by decide)
  have hl1 : 1 ≤ lim := by
    have := v3.1
    rw [hlim, nI_toInt (by omega)] at this
    omega
  obtain ⟨I1, A1, z, x1, x2, x3, x4⟩ := lay_x (F := F) (E := E) hk hS hlim hl12 hsle p2
  have s1 := x2.sim hS
  have w1 : gw A1 85 = gw A 85 := by unfold gw; rw [x2.2.1 _ (by decide)]
  have g1 : gs A1 k = gs A k := by unfold gs; rw [w1]
  by_cases hp : p3 = 0 ∨ p3 = 1
  rotate_left 1
  · refine ⟨.long (-9223372036854775808), I, A, L, F, E, I, A, L, F, E, ⟨_, rfl⟩, ?_, ?_, hS, Nat.le_add_right _ _⟩
    · rw [sg_X7_run_0, if_pos h1, if_neg hp]
    · rw [rn_0 hk hS hlim hl12 hl1, if_neg (fun q => hp q.2)]
  have hx0 : mm_call G0 76 [.ref 1, .int (nI k), .int p2, .int p3] (HP I A L F E) = mm_run G0 76 24 [some (.ref 1), some (.int (nI k)), some (.int p2), some (.int p3)] [.int z] (HP I1 A1 L F E) := by
    rw [sg_X7_run_0, if_pos h1, if_pos hp, x1, Option.bind_some]
    rfl
  by_cases hz : z ≠ 0
  rotate_left 1
  · refine ⟨.long (-9223372036854775808), I1, A1, L, F, E, I1, A1, L, F, E, ⟨_, rfl⟩, ?_, ?_, s1, Nat.le_add_right _ _⟩
    · rw [hx0, sg_X7_run_24, if_pos (Decidable.of_not_not hz)]
    · rw [rn_0 hk s1 (by rw [g1]; exact hlim) hl12 hl1, w1, if_neg (fun q => hz (x3.mpr q.1))]
  obtain ⟨c0, c1, c3, c5⟩ := x4 hz
  obtain ⟨ok1, ok2, ok3, ok4⟩ := x3.mp hz
  have hV := hS.2.2.1
  have haw := hV.aw 5 (Nat.le_refl _)
  obtain ⟨level, hlv6, rfl⟩ := to_n (x := p2) (n := 6) ok1 (by omega) (by decide)
  rw [nI_toInt (by omega)] at ok2
  have hlv : level < lim := by omega
  obtain ⟨wt, hwt⟩ : ∃ wt : Nat → Nat, wt = fun i => wn (gw A 85) (min i 4) := ⟨_, rfl⟩
  have hwe : ∀ i, i < 5 → wt i = wn (gw A 85) i := fun i hi => by
    rw [hwt]
    show wn _ (min i 4) = _
    rw [show min i 4 = i by omega]
  have hw : ∀ i, i < 5 → wt i ≤ 5 := fun i hi => by rw [hwe i hi]; exact (hV.wt hi).1
  have hw4 : ∀ i, wt i = wt (min i 4) := fun i => by
    rw [hwt]
    show wn _ (min i 4) = wn _ (min (min i 4) 4)
    rw [show min (min i 4) 4 = min i 4 by omega]
  obtain ⟨aw, hawe⟩ : ∃ aw, aP (gw A 85) 5 = aw := ⟨_, rfl⟩
  have hsw : aw = sw wt 5 := by
    rw [← hawe]
    simp only [aP, sw]
    rw [hwe 0 (by decide), hwe 1 (by decide), hwe 2 (by decide), hwe 3 (by decide), hwe 4 (by decide)]
  have ha25 : aw ≤ 25 := by omega
  have hsum : 0 + nI (wt 0) + nI (wt 1) + nI (wt 2) + nI (wt 3) + nI (wt 4) = nI aw := by
    rw [show (0 : Int32) = nI 0 from rfl, nI_add, nI_add, nI_add, nI_add, nI_add, hsw]
    simp only [sw]
  have h5 : ∀ i, i < 5 → (A1 55).getD i 0 = nI (wt i) := fun i hi => by rw [c5 i hi, hwe i hi]
  obtain ⟨A2, z2, t1, t2, t3, t4, t5⟩ := se_x (I := I1) (A := A1) (L := L) (F := F) (E := E) (pos := wpos wt) hsl ok3 hlv c0 c1 (s1.1.i (a := 55) (n := 5) (by decide)) (s1.1.i (a := 58) (n := 6) (by decide)) (s1.1.i (a := 59) (n := 6) (by decide)) (fun i hi => by
    rw [h5 i hi]
    by_cases e : 0 < wt i
    · rw [wpos_t e]
      exact ⟨fun _ => rfl, fun _ => nI_ne (a := wt i) (b := 0) (by have := hw i hi; omega) (by decide) (by omega)⟩
    · rw [wpos_f e, show wt i = 0 by omega]
      exact ⟨fun q => absurd rfl q, fun q => absurd q (by decide)⟩)
  obtain ⟨m, hme⟩ : ∃ m, qmk (wpos wt) (tt sl lim) lim lim (1 <<< level) = m := ⟨_, rfl⟩
  rw [hme] at t2 t3
  have lA2 : ∀ a, (A2 a).length = (A1 a).length := fun a => by
    by_cases e : a = 58
    · rw [e, t3.1, s1.1.i (a := 58) (n := 6) (by decide)]
    · by_cases e2 : a = 59
      · rw [e2, t4, s1.1.i (a := 59) (n := 6) (by decide)]
      · rw [t5 a e e2]
  have s2 : Sim I1 A2 L := sim_scr s1 lA2 (fun _ => rfl) (fun _ _ _ => rfl) (fun a q1 q2 q3 => t5 a (by omega) (by omega)) (fun _ _ _ => rfl)
  have w2 : gw A2 85 = gw A 85 := by rw [← w1]; unfold gw; rw [t5 _ (by decide) (by decide)]
  have hx2 : mm_call G0 76 [.ref 1, .int (nI k), .int (nI level), .int p3] (HP I A L F E) = mm_run G0 76 35 [some (.ref 1), some (.int (nI k)), some (.int (nI level)), some (.int p3)] [.int z2] (HP I1 A2 L F E) := by
    rw [hx0, sg_X7_run_24, if_neg hz, t1, Option.bind_some]
    rfl
  -- the reference, over any heap that holds the same rows
  have md : ∀ (A3 : Nat → List Int32) (L3 : Nat → List Int64) (F3 : Nat → Int64), Sim I1 A3 L3 → gw A3 85 = gw A 85 → mm_call G0 163 [.ref 84, .int (nI k), .int (nI level), .int p3] (HP I1 A3 L3 F3 E) = mm_run G0 163 46 [some (.ref 84), some (.int (nI k)), some (.int (nI level)), some (.int p3), some (.int (nI lim)), some (.int (nI m)), some (.int (nI 0))] [] (HP I1 A3 L3 F3 E) ∧ m < 128 ∧ ldI (A3 85) (45 * nI k + 3) = some (nI lim) ∧ ldI (A3 85) (45 * nI k + 2) = some (nI sl) ∧ ∀ i, i < 5 → ldI (A3 85) (nI (180 + i)) = some (nI (wt i)) := fun A3 L3 F3 s3 w3 => by
    have q3 : ldI (A3 85) (45 * nI k + 3) = some (nI lim) := by rw [ix3, s3.w (by omega), w3]; exact congrArg some hlim
    have q2 : ldI (A3 85) (45 * nI k + 2) = some (nI sl) := by rw [ix2, s3.w (by omega), w3]; exact congrArg some hsle
    have qw : ∀ i, i < 5 → ldI (A3 85) (nI (180 + i)) = some (nI (wt i)) := fun i hi => by rw [s3.w (by omega), w3, (hV.wt hi).2, hwe i hi]
    obtain ⟨r1, r2⟩ := rc_x (I := I1) (A := A3) (L := L3) (F := F3) (E := E) (level := level) hsl ok3 hlv q3 q2 qw hw
    rw [hme] at r1 r2
    refine ⟨?_, r2, q3, q2, qw⟩
    rw [rn_0 hk s3 (by unfold gs; rw [w3]; exact hlim) hl12 hl1, w3, if_pos ⟨⟨ok1, by rw [nI_toInt (by omega)]; omega, ok3, ok4⟩, hp⟩, r1, Option.bind_some]
    exact sg_X8_run_41 _ _ _ _ _
  by_cases hU : ∃ i0, i0 < 5 ∧ 2 + sl < i0 ∧ 0 < wt i0
  · obtain ⟨i0, u1, u2, u3⟩ := hU
    have hgood : good (wpos wt) sl lim = true := by
      rw [wpos_5 hw4]
      refine good_all _ _ _ _ _ sl (by omega) lim (by omega) ?_
      have : i0 = 3 ∨ i0 = 4 := by omega
      rcases this with rfl | rfl
      · obtain rfl : sl = 0 := by omega
        rw [wpos_t u3]
        simp
      · rw [wpos_t u3]
        rfl
    have hgd : ∀ l, l < lim → (qmk (wpos wt) (tt sl lim) lim lim (1 <<< l)).testBit l = true ∧ (qmk (wpos wt) (tt sl lim) lim lim (1 <<< l)).testBit lim = true ∧ (qak (wpos wt) (tt sl lim) lim lim 0).testBit l = true ∧ ∀ l', l' < lim → (qmk (wpos wt) (tt sl lim) lim lim (1 <<< l)).testBit l' = true → ∀ i, i < 5 → 0 < wt i → (qmk (wpos wt) (tt sl lim) lim lim (1 <<< l)).testBit (tt sl lim l' i) = true := fun l hl => by
      have q := List.all_eq_true.mp hgood l (List.mem_range.mpr hl)
      simp only [Bool.and_eq_true] at q
      obtain ⟨⟨⟨q1, q2⟩, q3⟩, q4⟩ := q
      refine ⟨q1, q2, q3, fun l' hl' hb i hi hpi => ?_⟩
      have r := List.all_eq_true.mp q4 l' (List.mem_range.mpr hl')
      rw [hb] at r
      have r := List.all_eq_true.mp (by simpa using r : ((List.range 5).all fun i => !wpos wt i || (qmk (wpos wt) (tt sl lim) lim lim (1 <<< l)).testBit (tt sl lim l' i)) = true) i (List.mem_range.mpr hi)
      rw [wpos_t hpi] at r
      simpa using r
    have hM : Mm (yy wt sl lim aw (fun l => m.testBit l)) lim xw := Mm.of hw ok3 hsw u1 u2 u3
    have hz2 : z2 ≠ 0 := t2.mpr (fun j hj _ => (hgd j hj).2.2.1)
    have hml := (hgd level hlv).1
    have hcl := (hgd level hlv).2.2.2
    rw [hme] at hml hcl
    obtain ⟨A3, L3, F3, o, s, b1, b2, b3, b4, b5, b6, b7, b8, b9, b10, b11, b12, b13, b14, b15⟩ := cs_x (I := I1) (A := A2) (L := L) (F := F) (E := E) hsl ok3 hlv ha25 c0 c1 (by rw [← hawe]; exact c3) s2.1 (fun i hi => by rw [t5 _ (by decide) (by decide)]; exact h5 i hi) hw t3 hml hcl hM
    have s3 : Sim I1 A3 L3 := sim_scr s2 b13 b15 (fun _ _ _ => rfl) (fun a q1 q2 q3 => b12 a (by omega) (by omega)) (fun a q1 q2 => b14 a (fun q hq => by omega))
    have w3 : gw A3 85 = gw A 85 := by rw [← w2]; unfold gw; rw [b12 _ (by decide) (by decide)]
    obtain ⟨m1, m2, m3, m4, m5⟩ := md A3 L3 F3 s3 w3
    obtain ⟨L4, a, b, v, n1, n2, n3, n4, n5, n6⟩ := md_x (I := I1) (A := A3) (L := L3) (F := F3) (E := E) (level := level) (v3 := p3) hsl ok3 hlv ha25 m2 s3.1 m3 m4 m5 hw hsum hM
    have hcls := cls (v := v) hM ok3 b2 b6 b7 (fun i y hi hy hn => by
      unfold yy
      rw [if_pos (b9 i hi), yf_out2 5 (fun t ht hp1 ht2 q => by
        obtain ⟨j, j1, j2⟩ := b8 _ ht2 (hcl (o i) (b6 i hi) (b9 i hi) t ht hp1)
        exact hn j j1 (by rw [j2, q]))]
      unfold yb
      rw [if_neg (fun q => hn i hi q.symm), if_neg (by omega)]) b3 b4 (by rw [b5]; exact n2)
    rw [b5] at hcls
    obtain ⟨k1, k2, k3⟩ := hcls
    have hX : Mm (sel o (yy wt sl lim aw (fun l => m.testBit l))) s (fun i => xw (o i)) := hM.sub b2 b6 b7
    have r0 := (hX.all (s - 1) (by omega) (by omega)).rh0 (s - 1) (Nat.le_refl _) (by omega)
    have r7 := hX.vb5 (k := s - 1) (r := s - 1) (y := 7) (by omega) (Nat.le_refl _) (by omega) (.inr rfl)
    have rl := hX.vb5 (k := s - 1) (r := s - 1) (y := s - 1) (by omega) (Nat.le_refl _) (by omega) (.inl (by omega))
    have hlow := low_ok2 (I := I1) (A := A3) (L := L3) (F := F3) (E := E) (a := F3 5404) (b := F3 5405) p3 (by omega) (by omega) (by
      have q1 : (F3 5404).toInt.natAbs ≤ 7812500000 := by rw [b10]; exact r7
      have q2 : (F3 5405).toInt.natAbs ≤ 7812500000 := by rw [b11]; exact rl
      exact Nat.lt_of_le_of_lt (Nat.mul_le_mul q1 q2) (by decide))
    have heq : lwt (F3 5404) (F3 5405) p3 = lwt a b p3 := lwt_eq p3 (by omega) (by omega) (by rw [b10, b11, n3, n4]; exact k3)
    have s4 : Sim I1 A3 L4 := sim_scr s3 (fun _ => rfl) (fun x => by
      by_cases e : ∃ q, q < 6 ∧ x = 96 + q
      · obtain ⟨q, hq, rfl⟩ := e
        rw [n6 q hq, s3.1.l96 hq]
      · rw [n5 x (fun q hq e2 => e ⟨q, hq, e2⟩)]) (fun _ _ _ => rfl) (fun _ _ _ _ => rfl) (fun a q1 q2 => n5 a (fun q hq => by omega))
    refine ⟨.long (lwt (F3 5404) (F3 5405) p3), I1, A3, L3, F3, E, I1, A3, L4, F3, E, ⟨_, rfl⟩, ?_, ?_, s4, Nat.le_add_right _ _⟩
    · rw [hx2, sg_X7_run_35, if_pos hz2, b1, Option.bind_some]
      refine (sg_X7_run_50 (nI k) (nI level) p3).trans ?_
      rw [hlow, Option.bind_some]
      exact sg_X7_run_68 _ _ _ _
    · rw [m1, (rn_46 (I := I1) (A := A3) (L := L3) (F := F3) (E := E) hsl ok3 m3 m4 m5 hw m2 (nI level) p3 lim 0 (by omega)).1 (fun j _ hj _ => (hgd j hj).2.1), heq]
      exact n1
  · have hn : ∀ l i, l < lim → i < 5 → wpos wt i = true → tt sl lim l i < lim := fun l i hl hi hpi => by
      have h0 : 0 < wt i := of_decide_eq_true hpi
      have : ¬ 2 + sl < i := fun q => hU ⟨i, hi, q, h0⟩
      unfold tt
      omega
    have hk1 := nm_k hn (v := level) lim (1 <<< level) (by rw [Nat.one_shiftLeft, Nat.testBit_two_pow]; exact decide_eq_false (by omega)) (by rw [Nat.one_shiftLeft, Nat.testBit_two_pow]; exact decide_eq_true rfl)
    have ha := na_k hn lim
    have hk2 := hk1
    rw [hme] at hk2
    have hz2 : z2 = 0 := Decidable.of_not_not (fun q => by
      have := t2.mp q level hlv hk2.2
      rw [ha, Nat.zero_testBit] at this
      exact absurd this (by decide))
    obtain ⟨m1, m2, m3, m4, m5⟩ := md A2 L F s2 w2
    refine ⟨.long (-9223372036854775808), I1, A2, L, F, E, I1, A2, L, F, E, ⟨_, rfl⟩, ?_, ?_, s2, Nat.le_add_right _ _⟩
    · rw [hx2, sg_X7_run_35, if_neg (fun q => q hz2)]
    · rw [m1]
      exact (rn_46 (I := I1) (A := A2) (L := L) (F := F) (E := E) hsl ok3 m3 m4 m5 hw m2 (nI level) p3 lim 0 (by omega)).2 ⟨level, Nat.zero_le _, hlv, hk2.2, hk1.1⟩
