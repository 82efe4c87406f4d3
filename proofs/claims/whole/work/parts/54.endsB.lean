/-! ends: both sides alike -/
section ENC
variable {L : Nat → List Int64} {F : Nat → Int64} {E : MH}
theorem ends_loop {m : Nat} (hm : m ≤ 8) (w : Nat → Int32) (hw : w 198 = nI m) (hq : ∀ r, r < m → ∃ s, w (199 + 2 * r) = nI s ∧ Pq s (w (200 + 2 * r))) (I : Nat → Int32) (v1 : Int32) : ∀ (d r : Nat) (A : Nat → List Int32) (g : Nat → Int32), r + d = m → (A 85).length = 232 → (A 87).length = 232 → gw A 87 = w → (∀ j, j < 45 → gw A 85 j = g j) → Vst g → ∃ A' : Nat → List Int32, mm_run G0 177 24 [some (.ref 84), some (.int v1), some (.int (nI r))] [] (HP I A L F E) = mm_run G0 177 24 [some (.ref 84), some (.int v1), some (.int (nI m))] [] (HP I A' L F E) ∧ KW A A' ∧ ∀ j, j < 45 → gw A' 85 j = pgs w d r g j := by
  intro d
  induction d with
  | zero =>
    intro r A g hr hl hl7 hwe hg hV
    have e : r = m := by omega
    subst e
    exact ⟨A, rfl, ⟨fun _ _ => rfl, fun _ => rfl⟩, hg⟩
  | succ d ih =>
    intro r A g hr hl hl7 hwe hg hV
    obtain ⟨s, es, pq⟩ := hq r (by omega)
    obtain ⟨A1, x1, x2, x3⟩ := go_m (I := I) (L := L) (F := F) (E := E) hl hV hg pq
    obtain ⟨A', y1, y2, y3⟩ := ih (r + 1) A1 (pg g s (w (200 + 2 * r))) (by omega) (by rw [x2.2]; exact hl) (by rw [x2.2]; exact hl7) (by rw [← hwe]; unfold gw; rw [x2.1 _ (by decide)]) x3 (pg_v hV pq)
    have ld (j : Nat) (hj : j < 232) : ldI (A 87) (nI j) = some (w j) := by
      rw [ldI_d (by omega) (by omega), ← hwe]
      rfl
    have i1 : (199 : Int32) + 2 * nI r = nI (199 + 2 * r) := by rw [show (199 : Int32) = nI 199 from rfl, show (2 : Int32) = nI 2 from rfl, pk_mul, nI_add]
    have i2 : (200 : Int32) + 2 * nI r = nI (200 + 2 * r) := by rw [show (200 : Int32) = nI 200 from rfl, show (2 : Int32) = nI 2 from rfl, pk_mul, nI_add]
    have ep : pgs w (d + 1) r g = pgs w d (r + 1) (pg g s (w (200 + 2 * r))) := by
      show pgs w d (r + 1) (pg g (w (199 + 2 * r)).toNatClampNeg (w (200 + 2 * r))) = _
      rw [es, nI_clamp (by have := pq.1; omega)]
    refine ⟨A', ?_, x2.tr y2, by rw [ep]; exact y3⟩
    rw [← y1, sg_X8_ends_24, show (198 : Int32) = nI 198 from rfl, ld 198 (by decide), Option.bind_some, hw, if_neg (n_nle (a := r) (b := m) (by omega) (by omega)), i1, ld _ (by omega), Option.bind_some, i2, ld _ (by omega), Option.bind_some, es, x1, Option.bind_some]
    refine (sg_X8_ends_64 v1 (nI r)).trans ?_
    rw [in1]
end ENC
theorem pr_ends (p1 : Int32) : Pr tyI 85 177 [.int p1] := by
  intro I A L F E hS
  by_cases h1 : ¬ p1 < 0 ∧ ¬ 2 < p1
  · have h1b : p1 ≤ 2 := nle_lt h1.2
    -- the class: the trial stream behind the plan
    obtain ⟨I1, A1, c1, k1, o1, a1, u1, q1⟩ := st_become (I := I) (A := A) (L := L) (F := F) (E := E) (b0 := 69) (b1 := 14) (by unfold isS; omega) (by unfold isS; omega) (by decide) (hS.1.i (a := 70) (n := 40) (by decide)) (hS.1.i (a := 15) (n := 40) (by decide))
    have kt1 : KT I A I1 A1 := ⟨fun x hx => o1 x (by omega), fun a ha => u1 a (by omega), q1⟩
    have r0 := hS.rst (show 0 < 4 by decide)
    have r1 : Rst I1 A1 69 (gs A 0) := ⟨fun k hk => by rw [k1 k hk]; exact r0.1 k hk, fun n p e hn hp => by rw [show A1 (69 + 1) = A (14 + 1) from a1]; exact r0.2 n p e hn hp⟩
    obtain ⟨m, hm, hw, hq'⟩ := hS.2.2.1.2.2.2.1
    have hq : ∀ r, r < m → ∃ s, gw A 85 (199 + 2 * r) = nI s ∧ Pq s (gw A 85 (200 + 2 * r)) := fun r hr => by
      obtain ⟨s, z1, z2, z3, z4, z5⟩ := hq' r hr
      exact ⟨s, z2, z1, z3, z4, z5⟩
    obtain ⟨I2, A2, c2, kt2, r2, v2⟩ := plan_x (L := L) (F := F) (E := E) hm (gw A 85) hw hq m 0 I1 A1 (gs A 0) none (by omega) (kt1.sim hS) kt1.gwe r1 (hS.vst (by decide))
    have kt : KT I A I2 A2 := kt1.tr kt2
    have s2 := kt.sim hS
    obtain ⟨G, hG⟩ : ∃ G, pgs (gw A 85) m 0 (gs A 0) = G := ⟨_, rfl⟩
    rw [hG] at r2 v2
    obtain ⟨n, hn, g4⟩ := v2.2.2.2.2.1
    have hfp : mm_call G0 109 [.ref 1] (HP I A L F E) = some (none, HP I2 A2 L F E) := by
      rw [sg_X7_followPlan_0, c1, Option.bind_some]
      refine (sg_X7_followPlan_16 (I := I1) (A := A1) (L := L) (F := F) (E := E)).trans ?_
      exact c2
    -- the reference, from a heap whose row of numbers is still A's
    have model : ∀ (I3 : Nat → Int32) (A3 : Nat → List Int32), Shp A3 L → A3 85 = A 85 → ∃ (I4 : Nat → Int32) (A4 : Nat → List Int32), mm_call G0 177 [.ref 84, .int p1] (HP I3 A3 L F E) = mm_run G0 177 75 [some (.ref 84), some (.int p1), some (.int (nI m))] [] (HP I4 A4 L F E) ∧ MrT I4 A4 G (G 2) (G 3) n ∧ (∀ j, j < 45 → gw A4 85 (45 * 0 + j) = G j) ∧ (∀ x, x ≠ 8415 → x ≠ 8416 → x ≠ 8417 → I4 x = I3 x) ∧ (∀ a, ¬ (90 ≤ a ∧ a ≤ 94) → a ≠ 85 → a ≠ 87 → A4 a = A3 a) ∧ A4 87 = A 85 ∧ ∀ a, (A4 a).length = (A3 a).length := by
      intro I3 A3 s3 e85
      have cp := passes (I := I3) (A := A3) (L := L) (F := F) (E := E) (b0 := 85) (b1 := 87) (Or.inl rfl) (Or.inr (Or.inr rfl)) (by decide) s3
      have l85 := s3.i (a := 85) (n := 232) (by decide)
      have l87 := s3.i (a := 87) (n := 232) (by decide)
      have el : ∀ a, ((fu A3 87 (A3 85)) a).length = (A3 a).length := fun a => by
        by_cases e : a = 87
        · rw [e, fu_s]
          omega
        · rw [fu_n _ _ e]
      have g87 : gw (fu A3 87 (A3 85)) 87 = gw A 85 := by
        unfold gw
        rw [fu_s, e85]
      have g85 : gw (fu A3 87 (A3 85)) 85 = gw A 85 := by
        unfold gw
        rw [fu_n _ _ (by decide), e85]
      obtain ⟨A4, y1, y2, y3⟩ := ends_loop (L := L) (F := F) (E := E) hm (gw A 85) hw hq I3 p1 m 0 (fu A3 87 (A3 85)) (gs A 0) (by omega) (by rw [el]; exact l85) (by rw [el]; exact l87) g87 (fun j hj => by
        rw [g85]
        unfold gs
        rw [Nat.mul_zero, Nat.zero_add]) (hS.vst (by decide))
      rw [hG] at y3
      have s4 : Shp A4 L := (s3.cg el).cg y2.2
      have hw4 : ∀ j, j < 45 → gw A4 85 (45 * 0 + j) = G j := fun j hj => by
        rw [Nat.mul_zero, Nat.zero_add]
        exact y3 j hj
      obtain ⟨I5, A5, z1, z2, z3, z4, z5⟩ := thr_ok (I := I3) (A := A4) (L := L) (F := F) (E := E) (show 0 < 4 by decide) hn (g := G) g4 s4 hw4
      have e87 : A4 87 = A 85 := by rw [y2.1 _ (by decide), fu_s, e85]
      have l4 : ldI (A4 87) 198 = some (nI m) := by
        rw [show (198 : Int32) = nI 198 from rfl, e87, hS.w (by decide), hw]
      refine ⟨I5, A5, ?_, z2, fun j hj => ?_, z3, fun a h1 h2 h3 => by rw [z4 a h1, y2.1 a h2, fu_n _ _ h3], by rw [z4 _ (by decide), e87], fun a => by rw [z5, y2.2, el]⟩
      · rw [sg_X8_ends_0, if_pos h1, cp, Option.bind_some]
        refine (sg_X8_ends_22 (I := I3) (A := fu A3 87 (A3 85)) (L := L) (F := F) (E := E) p1).trans ?_
        refine (y1 : _ = _).trans ?_
        rw [sg_X8_ends_24, l4, Option.bind_some, if_pos (n_le (a := m) (b := m) (by omega) (by omega)), show (0 : Int32) = nI 0 from rfl, z1, Option.bind_some]
        rfl
      · rw [show gw A5 85 = gw A4 85 by unfold gw; rw [z4 _ (by decide)]]
        exact hw4 j hj
    -- the reference's end: its row of numbers comes back
    have back : ∀ (I3 : Nat → Int32) (A3 : Nat → List Int32), Sim I3 A3 L → A3 85 = A 85 → ∀ (I4 : Nat → Int32) (A4 : Nat → List Int32), (∀ x, x ≠ 8415 → x ≠ 8416 → x ≠ 8417 → I4 x = I3 x) → (∀ a, ¬ (90 ≤ a ∧ a ≤ 94) → a ≠ 85 → a ≠ 87 → A4 a = A3 a) → A4 87 = A 85 → (∀ a, (A4 a).length = (A3 a).length) → ∀ y : Int32, (mm_call G0 117 [.ref 87, .ref 85] (HP I4 A4 L F E)).bind (fun q => mm_run G0 177 115 [some (.ref 84), some (.int p1), some (.int y)] (q.1.toList ++ []) q.2) = some (some (.int y), HP I4 (fu A4 85 (A 85)) L F E) ∧ Sim I4 (fu A4 85 (A 85)) L := by
      intro I3 A3 s3 e85 I4 A4 z1 z2 z3 z4 y
      have s4 : Shp A4 L := s3.1.cg z4
      have cp := passes (I := I4) (A := A4) (L := L) (F := F) (E := E) (b0 := 87) (b1 := 85) (Or.inr (Or.inr rfl)) (Or.inl rfl) (by decide) s4
      rw [z3] at cp
      refine ⟨?_, ?_⟩
      · rw [cp, Option.bind_some]
        exact sg_X8_ends_115 p1 y
      · refine sim_scr s3 (fun a => ?_) (fun _ => rfl) (fun x h1 h2 => z1 x (by omega) (by omega) (by omega)) (fun a h1 h2 h3 => ?_) (fun _ _ _ => rfl)
        · by_cases e : a = 85
          · rw [e, fu_s, e85]
          · rw [fu_n _ _ e, z4]
        · by_cases e : a = 85
          · rw [e, fu_s, e85]
          · rw [fu_n _ _ e, z2 a (by omega) e h2]
    have e2 : A2 85 = A 85 := kt.2.1 _ (by decide)
    by_cases hp2 : p1 = 2
    · subst hp2
      obtain ⟨I4, A4, m1, m2, m3, m4, m5, m6, m7⟩ := model I2 A2 s2.1 e2
      obtain ⟨b1, b2⟩ := back I2 A2 s2 e2 I4 A4 m4 m5 m6 m7 (bres (bst (vg G) n (n - 1) 1 0))
      have hx := chg_x (F := F) (E := E) (b := 69) (by unfold isS; omega) r2 v2 hn g4 s2.1
      have hy := chg_m (I := I4) (A := A4) (L := L) (F := F) (E := E) (show 0 < 4 by decide) m3 v2 hn g4 (s2.1.cg m7)
      refine ⟨.int (bres (bst (vg G) n (n - 1) 1 0)), I2, A2, L, F, E, I4, _, L, F, E, ⟨_, rfl⟩, ?_, ?_, b2, Nat.le_add_right _ _⟩
      · rw [sg_X7_ends_0, if_neg h1.1, if_pos h1b, hfp, Option.bind_some]
        refine (sg_X7_ends_15 (I := I2) (A := A2) (L := L) (F := F) (E := E) 2).trans ?_
        rw [if_neg (by decide), hx, Option.bind_some]
        exact sg_X7_ends_27 2 _
      · rw [m1, sg_X8_ends_75, if_pos (by decide), if_pos (by decide), show (0 : Int32) = nI 0 from rfl, hy, Option.bind_some]
        refine (sg_X8_ends_103 2 (nI m) _).trans ?_
        exact b1
    · have f2 : I2 6902 = G 2 := r2.1 2 (by decide)
      have f3 : I2 6903 = G 3 := r2.1 3 (by decide)
      obtain ⟨I3, A3, x1, x2, x3, x4, x5⟩ := draw_ok (I := I2) (A := A2) (L := L) (F := F) (E := E) (b := 69) (by unfold isS; omega) r2 hn g4 s2.1 (G 2) (G 3)
      have kx : KX I2 A2 I3 A3 := ⟨x3, x4, x5⟩
      have s3 := kx.sim s2
      have e3 : A3 85 = A 85 := by rw [x4 _ (by decide) (by decide), e2]
      obtain ⟨I4, A4, m1, m2, m3, m4, m5, m6, m7⟩ := model I3 A3 s3.1 e3
      have hd : DrT I3 A3 G (G 2) (G 3) n := x2
      have hft : ft G (G 2) (G 3) n ≤ n := ch_le n
      have h6 : I3 4806 = nI (ft G (G 2) (G 3) n) := hd.1
      have h15 : I4 8415 = nI (ft G (G 2) (G 3) n) := m2.1
      have hcall : mm_call G0 85 [.ref 1, .int p1] (HP I A L F E) = mm_run G0 85 50 [some (.ref 1), some (.int p1)] [] (HP I3 A3 L F E) := by
        rw [sg_X7_ends_0, if_neg h1.1, if_pos h1b, hfp, Option.bind_some]
        refine (sg_X7_ends_15 (I := I2) (A := A2) (L := L) (F := F) (E := E) p1).trans ?_
        rw [if_pos hp2, f2, f3, x1, Option.bind_some]
        rfl
      by_cases hp0 : p1 = 0
      · subst hp0
        obtain ⟨b1, b2⟩ := back I3 A3 s3 e3 I4 A4 m4 m5 m6 m7 (I4 8415)
        refine ⟨.int (I4 8415), I3, A3, L, F, E, I4, _, L, F, E, ⟨_, rfl⟩, ?_, ?_, b2, Nat.le_add_right _ _⟩
        · rw [hcall, sg_X7_ends_50, if_neg (by decide), h6, h15]
        · rw [m1, sg_X8_ends_75, if_neg (by decide)]
          exact b1
      · have hp1 : ¬ p1 ≠ 1 := fun z => by
          have i0 := ii0
          have i1 : (1 : Int32).toInt = 1 := rfl
          have i2 : (2 : Int32).toInt = 2 := rfl
          have q := rg h1
          have q0 : p1.toInt ≠ 0 := fun z => hp0 (i_eq.mpr z)
          have q1 : p1.toInt ≠ 1 := fun y => z (i_eq.mpr y)
          have q2 : p1.toInt ≠ 2 := fun z => hp2 (i_eq.mpr z)
          omega
        have fe := fst_eq hn hd m2
        obtain ⟨b1, b2⟩ := back I3 A3 s3 e3 I4 A4 m4 m5 m6 m7 (if ft G (G 2) (G 3) n = 0 then -5 else (A4 92).getD 0 0)
        refine ⟨.int (if ft G (G 2) (G 3) n = 0 then -5 else (A3 51).getD 0 0), I3, A3, L, F, E, I4, _, L, F, E, ⟨_, rfl⟩, ?_, ?_, b2, Nat.le_add_right _ _⟩
        · rw [hcall, sg_X7_ends_50, if_pos hp0]
          exact fst_x hn hd s3.1
        · have l92 := (s3.1.cg m7).i (a := 92) (n := 40) (by decide)
          rw [m1, sg_X8_ends_75, if_pos hp0, if_neg hp1, h15, fe.1]
          by_cases e : ft G (G 2) (G 3) n = 0
          · have e7 : ¬ (nI (ft G (G 2) (G 3) n) ≠ 0) := fun z => z (by rw [e]; rfl)
            rw [if_pos e] at b1 ⊢
            rw [if_neg e7]
            exact b1
          · have e7 : nI (ft G (G 2) (G 3) n) ≠ 0 := fun z => e ((nI_eq (b := 0) (by omega) (by decide)).mp z)
            rw [if_neg e] at b1 ⊢
            rw [if_pos e7, show (0 : Int32) = nI 0 from rfl, ldI_d (by omega) (by omega), Option.bind_some]
            exact b1
  · refine ⟨.int (-1), I, A, L, F, E, I, A, L, F, E, ⟨_, rfl⟩, ?_, ?_, hS, Nat.le_add_right _ _⟩
    · rw [sg_X7_ends_0]
      by_cases a : p1 < 0
      · rw [if_pos a]
      · rw [if_neg a, if_neg (fun q => h1 ⟨a, nlt_le q⟩)]
    · rw [sg_X8_ends_0, if_neg h1]
