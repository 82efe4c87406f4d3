/-! ends: stream 0 behind the plan -/
def lost (g : Nat → Int32) (n v : Nat) : Nat → Int32 := fun j => if j = 4 then nI (n - v) else if 5 ≤ j ∧ j < 5 + (n - v) then g (j + v) else g j
def pg (g : Nat → Int32) (s : Nat) (v : Int32) : Nat → Int32 :=
  if s = 0 then (if (g 4).toNatClampNeg < 40 then fu (fu g (5 + (g 4).toNatClampNeg) v) 4 (nI ((g 4).toNatClampNeg + 1)) else g) else if s = 1 then fu g 1 v else if s = 2 then fu g 2 v else lost g (g 4).toNatClampNeg v.toNatClampNeg
/-- a row of a plan that both sides take -/
def Pq (s : Nat) (v : Int32) : Prop := s < 4 ∧ (s < 2 → -20 ≤ v.toInt ∧ v.toInt ≤ 20) ∧ (s = 2 → 0 ≤ v.toInt ∧ v.toInt ≤ 5) ∧ (s = 3 → ∃ m, m ≤ 40 ∧ v = nI m)
theorem pg_v {g : Nat → Int32} {s : Nat} {v : Int32} (hV : Vst g) (hq : Pq s v) : Vst (pg g s v) := by
  obtain ⟨q0, q1, q2, q3⟩ := hq
  obtain ⟨v0, v1, v2, v3, ⟨n, hn, v4⟩, v5⟩ := hV
  have en : (g 4).toNatClampNeg = n := by rw [v4, nI_clamp (by omega)]
  unfold pg
  rw [en]
  by_cases s0 : s = 0
  · rw [if_pos s0]
    by_cases h : n < 40
    · rw [if_pos h]
      refine ⟨?_, ?_, ?_, ?_, ⟨n + 1, by omega, fu_s _ _ _⟩, fun p hp => ?_⟩
      · rw [fu_n _ _ (by omega), fu_n _ _ (by omega)]
        exact v0
      · rw [fu_n _ _ (by omega), fu_n _ _ (by omega)]
        exact v1
      · rw [fu_n _ _ (by omega), fu_n _ _ (by omega)]
        exact v2
      · rw [fu_n _ _ (by omega), fu_n _ _ (by omega)]
        exact v3
      · rw [fu_n _ _ (by omega)]
        by_cases e : p = n
        · rw [e, fu_s]
          exact q1 (by omega)
        · rw [fu_n _ _ (by omega)]
          exact v5 p hp
    · rw [if_neg h]
      exact ⟨v0, v1, v2, v3, ⟨n, hn, v4⟩, v5⟩
  · rw [if_neg s0]
    by_cases s1 : s = 1
    · rw [if_pos s1]
      refine ⟨?_, ?_, ?_, ?_, ⟨n, hn, by rw [fu_n _ _ (by omega)]; exact v4⟩, fun p hp => by rw [fu_n _ _ (by omega)]; exact v5 p hp⟩
      · rw [fu_n _ _ (by omega)]
        exact v0
      · rw [fu_s]
        exact q1 (by omega)
      · rw [fu_n _ _ (by omega)]
        exact v2
      · rw [fu_n _ _ (by omega)]
        exact v3
    · rw [if_neg s1]
      by_cases s2 : s = 2
      · rw [if_pos s2]
        refine ⟨?_, ?_, ?_, ?_, ⟨n, hn, by rw [fu_n _ _ (by omega)]; exact v4⟩, fun p hp => by rw [fu_n _ _ (by omega)]; exact v5 p hp⟩
        · rw [fu_n _ _ (by omega)]
          exact v0
        · rw [fu_n _ _ (by omega)]
          exact v1
        · rw [fu_s]
          exact q2 s2
        · rw [fu_n _ _ (by omega)]
          exact v3
      · rw [if_neg s2]
        obtain ⟨m, hm, rfl⟩ := q3 (by omega)
        rw [nI_clamp (by omega)]
        refine ⟨v0, v1, v2, v3, ⟨n - m, by omega, if_pos rfl⟩, fun p hp => ?_⟩
        show -20 ≤ ((lost g n m) (5 + p)).toInt ∧ _
        have e : lost g n m (5 + p) = if 5 ≤ 5 + p ∧ 5 + p < 5 + (n - m) then g (5 + p + m) else g (5 + p) := if_neg (by omega)
        rw [e]
        by_cases h : 5 ≤ 5 + p ∧ 5 + p < 5 + (n - m)
        · rw [if_pos h, show 5 + p + m = 5 + (p + m) by omega]
          exact v5 (p + m) (by omega)
        · rw [if_neg h]
          exact v5 p hp
def KT (I : Nat → Int32) (A : Nat → List Int32) (I' : Nat → Int32) (A' : Nat → List Int32) : Prop := (∀ x, ¬ (6900 ≤ x ∧ x < 6905) → I' x = I x) ∧ (∀ a, a ≠ 70 → A' a = A a) ∧ ∀ a, (A' a).length = (A a).length
section KTS
variable {I I1 I2 : Nat → Int32} {A A1 A2 : Nat → List Int32} {L : Nat → List Int64}
theorem KT.rfl' : KT I A I A := ⟨fun _ _ => rfl, fun _ _ => rfl, fun _ => rfl⟩
theorem KT.tr (h : KT I A I1 A1) (h2 : KT I1 A1 I2 A2) : KT I A I2 A2 := ⟨fun x a => (h2.1 x a).trans (h.1 x a), fun a x => (h2.2.1 a x).trans (h.2.1 a x), fun a => (h2.2.2 a).trans (h.2.2 a)⟩
theorem KT.sim (h : KT I A I1 A1) (hS : Sim I A L) : Sim I1 A1 L := sim_scr hS h.2.2 (fun _ => rfl) (fun x h1 h2 => h.1 x (by omega)) (fun a h1 h2 h3 => h.2.1 a (by omega)) (fun _ _ _ => rfl)
theorem KT.gwe (h : KT I A I1 A1) : gw A1 85 = gw A 85 := by unfold gw; rw [h.2.1 _ (by decide)]
end KTS
section END
variable {L : Nat → List Int64} {F : Nat → Int64} {E : MH}
theorem lose_loop {b n v : Nat} (hb : isS b) (hn : n ≤ 40) (hv : v ≤ n) (I : Nat → Int32) (hI : I (100 * b + 4) = nI n) (v1 : Int32) (X0 : List Int32) : ∀ (d i : Nat) (A : Nat → List Int32), i + d = n → v ≤ i → (A (b + 1)).length = 40 → (∀ p, (A (b + 1)).getD p 0 = if p < i - v then X0.getD (p + v) 0 else X0.getD p 0) → ∃ X : List Int32, mm_run G0 32 11 [some (.ref b), some (.int v1), some (.int (nI v)), some (.int (nI i))] [] (HP I A L F E) = some (none, HP (fu I (100 * b + 4) (nI (n - v))) (fu A (b + 1) X) L F E) ∧ X.length = 40 ∧ ∀ p, X.getD p 0 = if p < n - v then X0.getD (p + v) 0 else X0.getD p 0 := by
  intro d
  induction d with
  | zero =>
    intro i A hi hvi hl hp
    have e : i = n := by omega
    subst e
    refine ⟨A (b + 1), ?_, hl, hp⟩
    rw [sg_X4_loseFirst_11 hb, hI, if_pos (n_le (a := i) (b := i) (by omega) (by omega)), pk_sub hv, fu_id]
  | succ d ih =>
    intro i A hi hvi hl hp
    obtain ⟨X, x1, x2, x3⟩ := ih (i + 1) (fu A (b + 1) ((A (b + 1)).set (i - v) ((A (b + 1)).getD i 0))) (by omega) (by omega) (by rw [fu_s, List.length_set]; exact hl) (fun p => by
      rw [fu_s, getD_set (by omega)]
      by_cases e : p = i - v
      · rw [if_pos e, if_pos (by omega), hp, if_neg (by omega), show p + v = i by omega]
      · rw [if_neg e, hp]
        by_cases e2 : p < i - v
        · rw [if_pos e2, if_pos (by omega)]
        · rw [if_neg e2, if_neg (by omega)])
    refine ⟨X, ?_, x2, x3⟩
    rw [fu_fu] at x1
    rw [sg_X4_loseFirst_11 hb, hI, if_neg (n_nle (a := i) (b := n) (by omega) (by omega)), ldI_d (by omega) (by omega), Option.bind_some, pk_sub hvi, stI_n (by omega) (by omega), Option.bind_some, in1]
    exact x1
theorem lose_x {b n v : Nat} {I : Nat → Int32} {A : Nat → List Int32} (hb : isS b) {g : Nat → Int32} (hR : Rst I A b g) (hn : n ≤ 40) (hg : g 4 = nI n) (hv : v ≤ 40) (hs : Shp A L) : ∃ (I' : Nat → Int32) (A' : Nat → List Int32), mm_call G0 32 [.ref b, .int (nI v)] (HP I A L F E) = some (none, HP I' A' L F E) ∧ Rst I' A' b (lost g n v) ∧ (∀ x, x ≠ 100 * b + 4 → I' x = I x) ∧ (∀ a, a ≠ b + 1 → A' a = A a) ∧ ∀ a, (A' a).length = (A a).length := by
  have f4 : I (100 * b + 4) = nI n := (hR.1 4 (by decide)).trans hg
  have lb := hs.vals hb
  obtain ⟨u, hu, hun, hul⟩ : ∃ u, imin (nI v) (nI n) = nI u ∧ u ≤ n ∧ (u = v ∨ (u = n ∧ n ≤ v)) := by
    by_cases h : n < v
    · exact ⟨n, by unfold imin; rw [if_pos (nI_lt (a := n) (b := v) h (by omega))], Nat.le_refl _, Or.inr ⟨rfl, by omega⟩⟩
    · exact ⟨v, by unfold imin; rw [if_neg (nI_nlt (a := n) (b := v) (by omega) (by omega))], by omega, Or.inl rfl⟩
  obtain ⟨X, x1, x2, x3⟩ := lose_loop (L := L) (F := F) (E := E) hb hn hun I f4 (nI v) (A (b + 1)) (n - u) u A (by omega) (Nat.le_refl _) lb (fun p => by rw [if_neg (by omega)])
  refine ⟨fu I (100 * b + 4) (nI (n - u)), fu A (b + 1) X, ?_, ⟨fun k hk => ?_, fun m p hm hm40 hp => ?_⟩, fun x hx => fu_n _ _ hx, fun a ha => fu_n _ _ ha, fun a => ?_⟩
  · rw [sg_X4_loseFirst_0 hb, f4, hu]
    exact x1
  · by_cases e : k = 4
    · subst e
      rw [fu_s]
      show nI (n - u) = nI (n - v)
      congr 1
      omega
    · rw [fu_n _ _ (by omega), hR.1 k hk]
      show g k = if k = 4 then _ else if 5 ≤ k ∧ k < _ then _ else g k
      rw [if_neg e, if_neg (by omega)]
  · have hmn : m = n - v := by
      have : nI (n - v) = nI m := hm
      exact ((nI_eq (by omega) (by omega)).mp this).symm
    subst hmn
    rw [fu_s, x3, if_pos (by omega), hR.2 n (p + u) hg hn (by omega)]
    show _ = if 5 + p = 4 then _ else if 5 ≤ 5 + p ∧ 5 + p < 5 + (n - v) then g (5 + p + v) else g (5 + p)
    rw [if_neg (by omega), if_pos (by omega)]
    congr 1
    omega
  · by_cases e : a = b + 1
    · rw [e, fu_s]
      omega
    · rw [fu_n _ _ e]
/-- the class follows a plan with its trial stream -/
def pgs (w : Nat → Int32) : Nat → Nat → (Nat → Int32) → Nat → Int32
  | 0, _, g => g
  | d + 1, r, g => pgs w d (r + 1) (pg g (w (199 + 2 * r)).toNatClampNeg (w (200 + 2 * r)))
theorem plan_x {m : Nat} (hm : m ≤ 8) (w : Nat → Int32) (hw : w 198 = nI m) (hq : ∀ r, r < m → ∃ s, w (199 + 2 * r) = nI s ∧ Pq s (w (200 + 2 * r))) : ∀ (d r : Nat) (I : Nat → Int32) (A : Nat → List Int32) (g : Nat → Int32) (o : Option Int32), r + d = m → Sim I A L → gw A 85 = w → Rst I A 69 g → Vst g → ∃ (I' : Nat → Int32) (A' : Nat → List Int32), mm_run G0 109 26 [some (.ref 1), some (.ref 8), some (.int (nI r)), (o.map Value.int)] [] (HP I A L F E) = some (none, HP I' A' L F E) ∧ KT I A I' A' ∧ Rst I' A' 69 (pgs w d r g) ∧ Vst (pgs w d r g) := by
  intro d
  induction d with
  | zero =>
    intro r I A g o hr hS hwe hR hV
    have hw' : gw A 85 198 = nI m := by rw [hwe]; exact hw
    have b1 : I 803 = nI m := hS.2.1.2.2.2.1.1.trans hw'
    refine ⟨I, A, ?_, KT.rfl', hR, hV⟩
    rw [sg_X7_followPlan_26, b1, if_pos (n_le (a := m) (b := r) (by omega) (by omega))]
  | succ d ih =>
    intro r I A g o hr hS hwe hR hV
    have hw' : gw A 85 198 = nI m := by rw [hwe]; exact hw
    have b1 : I 803 = nI m := hS.2.1.2.2.2.1.1.trans hw'
    have l9 := hS.1.i (a := 9) (n := 8) (by decide)
    have l10 := hS.1.i (a := 10) (n := 8) (by decide)
    have l70 := hS.1.i (a := 70) (n := 40) (by decide)
    obtain ⟨s, es, pq⟩ := hq r (by omega)
    have e1 : ldI (A 9) (nI r) = some (nI s) := by rw [ldI_d (by omega) (by omega), (hS.2.1.2.2.2.1.2 m r hw' (by omega) (by omega)).1, hwe, ← es]
    have e2 : ldI (A 10) (nI r) = some (w (200 + 2 * r)) := by rw [ldI_d (by omega) (by omega), (hS.2.1.2.2.2.1.2 m r hw' (by omega) (by omega)).2, hwe]
    have hV' := pg_v hV pq
    obtain ⟨n, hn, hg4⟩ := hV.2.2.2.2.1
    have en : (g 4).toNatClampNeg = n := by rw [hg4, nI_clamp (by omega)]
    have f4 : I (100 * 69 + 4) = nI n := (hR.1 4 (by decide)).trans hg4
    have step : ∀ (I1 : Nat → Int32) (A1 : Nat → List Int32), KT I A I1 A1 → Rst I1 A1 69 (pg g s (w (200 + 2 * r))) → ∃ (I' : Nat → Int32) (A' : Nat → List Int32), mm_run G0 109 26 [some (.ref 1), some (.ref 8), some (.int (nI (r + 1))), (some (w (200 + 2 * r))).map Value.int] [] (HP I1 A1 L F E) = some (none, HP I' A' L F E) ∧ KT I A I' A' ∧ Rst I' A' 69 (pgs w (d + 1) r g) ∧ Vst (pgs w (d + 1) r g) := fun I1 A1 k1 r1 => by
      obtain ⟨I', A', x1, x2, x3, x4⟩ := ih (r + 1) I1 A1 (pg g s (w (200 + 2 * r))) (some (w (200 + 2 * r))) (by omega) (k1.sim hS) (by rw [k1.gwe]; exact hwe) r1 hV'
      have ep : pgs w (d + 1) r g = pgs w d (r + 1) (pg g s (w (200 + 2 * r))) := by
        show pgs w d (r + 1) (pg g (w (199 + 2 * r)).toNatClampNeg (w (200 + 2 * r))) = _
        rw [es, nI_clamp (by have := pq.1; omega)]
      rw [ep]
      exact ⟨I', A', x1, k1.tr x2, x3, x4⟩
    rw [sg_X7_followPlan_26, b1, if_neg (n_nle (a := r) (b := m) (by omega) (by omega)), e2, Option.bind_some, e1, Option.bind_some, Option.bind_some, in1]
    obtain ⟨q0, q1, q2, q3⟩ := pq
    match s, q0, es with
    | 0, _, _ =>
      rw [if_neg (by decide), f4]
      unfold pg at step
      rw [en, if_pos rfl] at step
      by_cases h : n < 40
      · rw [if_neg (fun z => z (show nI n < (40 : Int32) from nI_lt (a := n) (b := 40) h (by decide))), stI_n (show n < (A (69 + 1)).length by show n < (A 70).length; omega) (show (A (69 + 1)).length < 2 ^ 31 by show (A 70).length < 2 ^ 31; omega), Option.bind_some, in1]
        rw [if_pos h] at step
        refine step _ _ ⟨fun x hx => fu_n _ _ (by omega), fun a ha => fu_n _ _ (by omega), fun a => ?_⟩ ⟨fun k hk => ?_, fun mm p hmm hm40 hp => ?_⟩
        · by_cases e : a = 69 + 1
          · rw [e, fu_s, List.length_set]
          · rw [fu_n _ _ e]
        · by_cases e : k = 4
          · subst e
            rw [fu_s, fu_s]
          · rw [fu_n _ _ (by omega), fu_n _ _ e, fu_n _ _ (by omega)]
            exact hR.1 k hk
        · rw [fu_s] at hmm
          have hmn : mm = n + 1 := ((nI_eq (by omega) (by omega)).mp hmm).symm
          rw [fu_s, getD_set (show n < (A (69 + 1)).length by show n < (A 70).length; omega), fu_n _ _ (by omega)]
          by_cases e : p = n
          · rw [if_pos e, e, fu_s]
          · rw [if_neg e, fu_n _ _ (by omega)]
            exact hR.2 n p hg4 hn (by omega)
      · rw [if_pos (show ¬ nI n < (40 : Int32) from nI_nlt (a := n) (b := 40) (by omega) (by omega))]
        rw [if_neg h] at step
        exact step I A KT.rfl' hR
    | 1, _, _ =>
      rw [if_pos (by decide), Option.bind_some, if_pos (by decide), if_neg (by decide), if_pos (by decide)]
      refine step _ _ ⟨fun x hx => fu_n _ _ (by omega), fun _ _ => rfl, fun _ => rfl⟩ ⟨fun k hk => ?_, fun mm p hmm hm40 hp => ?_⟩
      rotate_left 1
      · have hmm' : fu g 1 (w (200 + 2 * r)) 4 = nI mm := hmm
        rw [fu_n _ _ (by decide)] at hmm'
        show _ = fu g 1 (w (200 + 2 * r)) (5 + p)
        rw [fu_n _ _ (by omega)]
        exact hR.2 mm p hmm' hm40 hp
      show _ = (fu g 1 (w (200 + 2 * r))) k
      by_cases e : k = 1
      · subst e
        rw [fu_s, fu_s]
      · rw [fu_n _ _ (by omega), fu_n _ _ e]
        exact hR.1 k hk
    | 2, _, _ =>
      rw [if_pos (by decide), Option.bind_some, if_pos (by decide), if_neg (by decide), if_neg (by decide), if_pos (by decide)]
      refine step _ _ ⟨fun x hx => fu_n _ _ (by omega), fun _ _ => rfl, fun _ => rfl⟩ ⟨fun k hk => ?_, fun mm p hmm hm40 hp => ?_⟩
      rotate_left 1
      · have hmm' : fu g 2 (w (200 + 2 * r)) 4 = nI mm := hmm
        rw [fu_n _ _ (by decide)] at hmm'
        show _ = fu g 2 (w (200 + 2 * r)) (5 + p)
        rw [fu_n _ _ (by omega)]
        exact hR.2 mm p hmm' hm40 hp
      show _ = (fu g 2 (w (200 + 2 * r))) k
      by_cases e : k = 2
      · subst e
        rw [fu_s, fu_s]
      · rw [fu_n _ _ (by omega), fu_n _ _ e]
        exact hR.1 k hk
    | 3, _, _ =>
      obtain ⟨mv, hmv, ev⟩ := q3 rfl
      obtain ⟨I1, A1, x1, x2, x3, x4, x5⟩ := lose_x (F := F) (E := E) (b := 69) (v := mv) (by unfold isS; omega) hR hn hg4 hmv hS.1
      have ep : pg g 3 (w (200 + 2 * r)) = lost g n mv := by
        unfold pg
        rw [en, if_neg (by decide), if_neg (by decide), if_neg (by decide), ev, nI_clamp (by omega)]
      rw [if_pos (by decide), Option.bind_some, if_neg (by decide), ev, x1, Option.bind_some, ← ev]
      obtain ⟨I', A', y1, y2⟩ := step I1 A1 ⟨fun x hx => x3 x (by omega), fun a ha => x4 a (by omega), x5⟩ (by rw [ep]; exact x2)
      refine ⟨I', A', ?_, y2⟩
      refine (sg_X7_followPlan_79 (nI r) (w (200 + 2 * r))).trans ?_
      rw [in1]
      exact y1
/-- the reference takes a row of a plan -/
def KW (A A' : Nat → List Int32) : Prop := (∀ a, a ≠ 85 → A' a = A a) ∧ ∀ a, (A' a).length = (A a).length
theorem KW.tr {A A1 A2 : Nat → List Int32} (h : KW A A1) (h2 : KW A1 A2) : KW A A2 := ⟨fun a x => (h2.1 a x).trans (h.1 a x), fun a => (h2.2 a).trans (h.2 a)⟩
theorem KW.fu {A : Nat → List Int32} {X : List Int32} (h : X.length = (A 85).length) : KW A (fu A 85 X) := ⟨fun a ha => fu_n _ _ ha, fun a => by
  by_cases e : a = 85
  · rw [e, fu_s, h]
  · rw [fu_n _ _ e]⟩
theorem go_loop {n v : Nat} (I : Nat → Int32) (hn : n ≤ 40) (hv : v ≤ 40) (v1 : Int32) (w0 : Nat → Int32) : ∀ (d p : Nat) (A : Nat → List Int32), p + d = n - v → (A 85).length = 232 → (∀ j, gw A 85 j = if 5 ≤ j ∧ j < 5 + p then w0 (j + v) else w0 j) → ∃ A' : Nat → List Int32, mm_run G0 176 82 [some (.ref 84), some (.int v1), some (.int (nI v)), some (.int (nI (n - v))), some (.int (nI p))] [] (HP I A L F E) = some (none, HP I A' L F E) ∧ KW A A' ∧ ∀ j, gw A' 85 j = if j = 4 then nI (n - v) else if 5 ≤ j ∧ j < 5 + (n - v) then w0 (j + v) else w0 j := by
  intro d
  induction d with
  | zero =>
    intro p A hp hl hv'
    refine ⟨fu A 85 ((A 85).set 4 (nI (n - v))), ?_, KW.fu (by rw [List.length_set]), fun j => ?_⟩
    · rw [sg_X8_goes_82, if_pos (n_le (a := n - v) (b := p) (by omega) (by omega)), show (4 : Int32) = nI 4 from rfl, stI_n (by omega) (by omega), Option.bind_some]
    · rw [gw_set (by omega)]
      by_cases e : j = 4
      · rw [e, fu_s, if_pos rfl]
      · rw [fu_n _ _ e, if_neg e, hv', show p = n - v by omega]
  | succ d ih =>
    intro p A hp hl hv'
    have i1 : (5 : Int32) + nI p + nI v = nI (5 + p + v) := by rw [show (5 : Int32) = nI 5 from rfl, nI_add, nI_add]
    have i2 : (5 : Int32) + nI p = nI (5 + p) := by rw [show (5 : Int32) = nI 5 from rfl, nI_add]
    obtain ⟨A', x1, x2, x3⟩ := ih (p + 1) (fu A 85 ((A 85).set (5 + p) (gw A 85 (5 + p + v)))) (by omega) (by rw [fu_s, List.length_set]; exact hl) (fun j => by
      rw [gw_set (by omega)]
      by_cases e : j = 5 + p
      · rw [e, fu_s, if_pos (by omega), hv', if_neg (by omega)]
      · rw [fu_n _ _ e, hv']
        by_cases e2 : 5 ≤ j ∧ j < 5 + p
        · rw [if_pos e2, if_pos (by omega)]
        · rw [if_neg e2, if_neg (by omega)])
    refine ⟨A', ?_, (KW.fu (by rw [List.length_set])).tr x2, x3⟩
    rw [sg_X8_goes_82, if_neg (n_nle (a := p) (b := n - v) (by omega) (by omega)), i1, ldI_d (by omega) (by omega), Option.bind_some, i2, stI_n (by omega) (by omega), Option.bind_some, in1]
    exact x1
theorem go_m {I : Nat → Int32} {A : Nat → List Int32} {g : Nat → Int32} {s : Nat} {v : Int32} (hl : (A 85).length = 232) (hV : Vst g) (hw : ∀ j, j < 45 → gw A 85 j = g j) (hq : Pq s v) : ∃ A' : Nat → List Int32, mm_call G0 176 [.ref 84, .int (nI s), .int v] (HP I A L F E) = some (none, HP I A' L F E) ∧ KW A A' ∧ ∀ j, j < 45 → gw A' 85 j = pg g s v j := by
  obtain ⟨n, hn, hg4⟩ := hV.2.2.2.2.1
  have en : (g 4).toNatClampNeg = n := by rw [hg4, nI_clamp (by omega)]
  have h4 : gw A 85 4 = nI n := (hw 4 (by decide)).trans hg4
  have r4 : ldI (A 85) ((45 * 0) + 4) = some (nI n) := by
    rw [show ((45 : Int32) * 0 + 4) = nI 4 from rfl, ldI_d (by omega) (by omega)]
    exact congrArg some h4
  obtain ⟨q0, q1, q2, q3⟩ := hq
  unfold pg
  rw [en]
  match s, q0 with
  | 0, _ =>
    rw [sg_X8_goes_0, if_pos (by decide), r4, Option.bind_some]
    by_cases h : n < 40
    · have i5 : (45 : Int32) * 0 + 5 + nI n = nI (5 + n) := by rw [show (45 : Int32) * 0 + 5 = nI 5 from rfl, nI_add]
      refine ⟨fu A 85 (((A 85).set (5 + n) v).set 4 (nI (n + 1))), ?_, KW.fu (by rw [List.length_set, List.length_set]), fun j hj => ?_⟩
      · rw [if_neg (show ¬ (40 : Int32) ≤ nI n from n_nle (a := n) (b := 40) h (by decide)), Option.bind_some, i5, stI_n (by omega) (by omega), Option.bind_some, fu_s, show ((45 : Int32) * 0 + 4) = nI 4 from rfl, ldI_d (by rw [List.length_set]; omega) (by rw [List.length_set]; omega), getD_set (by omega), if_neg (by omega), show (A 85).getD 4 0 = nI n from h4, Option.bind_some, in1, stI_n (by rw [List.length_set]; omega) (by rw [List.length_set]; omega), Option.bind_some, fu_fu]
      · rw [if_pos rfl, if_pos h, gw_set2 (by omega) (by omega)]
        unfold fu
        by_cases e4 : j = 4
        · rw [if_pos e4, if_pos e4]
        · rw [if_neg e4, if_neg e4]
          by_cases e5 : j = 5 + n
          · rw [if_pos e5, if_pos e5]
          · rw [if_neg e5, if_neg e5]
            exact hw j hj
    · refine ⟨A, ?_, ⟨fun _ _ => rfl, fun _ => rfl⟩, fun j hj => ?_⟩
      · rw [if_pos (show (40 : Int32) ≤ nI n from n_le (a := 40) (b := n) (by omega) (by omega))]
      · rw [if_pos rfl, if_neg h]
        exact hw j hj
  | 1, _ =>
    refine ⟨fu A 85 ((A 85).set 1 v), ?_, KW.fu (by rw [List.length_set]), fun j hj => ?_⟩
    · rw [sg_X8_goes_0, if_neg (by decide), if_pos (by decide), show (1 : Int32) = nI 1 from rfl, stI_n (by omega) (by omega), Option.bind_some]
    · rw [if_neg (by decide), if_pos rfl, gw_set (by omega)]
      unfold fu
      by_cases e : j = 1
      · rw [if_pos e, if_pos e]
      · rw [if_neg e, if_neg e]
        exact hw j hj
  | 2, _ =>
    refine ⟨fu A 85 ((A 85).set 2 v), ?_, KW.fu (by rw [List.length_set]), fun j hj => ?_⟩
    · rw [sg_X8_goes_0, if_neg (by decide), if_neg (by decide), if_pos (by decide), show (2 : Int32) = nI 2 from rfl, stI_n (by omega) (by omega), Option.bind_some]
    · rw [if_neg (by decide), if_neg (by decide), if_pos rfl, gw_set (by omega)]
      unfold fu
      by_cases e : j = 2
      · rw [if_pos e, if_pos e]
      · rw [if_neg e, if_neg e]
        exact hw j hj
  | 3, _ =>
    obtain ⟨m, hm, rfl⟩ := q3 rfl
    have em : imax 0 (nI n - nI m) = nI (n - m) := by
      unfold imax
      have e : (nI n - nI m).toInt = (n : Int) - m := pk_sub_toInt (by omega) (by omega)
      by_cases h : m < n
      · rw [if_pos (by rw [i_lt, e, ii0]; omega), pk_sub (by omega)]
      · rw [if_neg (by rw [i_lt, e, ii0]; omega), show n - m = 0 by omega]
        rfl
    obtain ⟨A', x1, x2, x3⟩ := go_loop (L := L) (F := F) (E := E) I hn hm 3 (gw A 85) (n - m) 0 A (by omega) hl (fun j => by rw [if_neg (by omega)])
    refine ⟨A', ?_, x2, fun j hj => ?_⟩
    · rw [sg_X8_goes_0, if_neg (by decide), if_neg (by decide), if_neg (by decide), r4, Option.bind_some, em]
      exact x1
    · rw [if_neg (by decide), if_neg (by decide), if_neg (by decide), nI_clamp (by omega), x3]
      unfold lost
      by_cases e4 : j = 4
      · rw [if_pos e4, if_pos e4]
      · rw [if_neg e4, if_neg e4]
        by_cases e5 : 5 ≤ j ∧ j < 5 + (n - m)
        · rw [if_pos e5, if_pos e5]
          exact hw _ (by omega)
        · rw [if_neg e5, if_neg e5]
          exact hw j hj
end END
