/-! all rows, all columns -/
def Ou (n : Nat) (v : Rw) : Prop := ∀ y, n ≤ y → y ≠ 7 → v y = 0
theorem cl_lt {n r : Nat} (h : r < n) : cl n r = r := by
  unfold cl
  rw [if_neg (by omega)]
theorem cl_n (n : Nat) : cl n n = 7 := if_pos rfl
section GSS
variable {I : Nat → Int32} {A : Nat → List Int32} {F : Nat → Int64} {E : MH}
theorem gs_row {Y : Nat → Rw} {x : Nat → Int} {n c r : Nat} {u v : Rw} {v3 : Int32} {L : Nat → List Int64} {o5 o7 o9 : Option Int64} {o11 : Option Int32} (hM : Mm Y n x) (hn : n ≤ 6) (hc : c < n) (hr : r < n) (hne : r ≠ c) (hU : Rcl n u (L (96 + c))) (hV : Rcl n v (L (96 + r))) (gU : Gr Y n c c u) (gV : Gr Y n c r v) (ou : Ou n u) (ov : Ou n v) :
    ∃ (X : List Int64) (v' : Rw) (p5 p7 p9 : Option Int64) (p11 : Option Int32), mm_run G0 162 38 [some (.ref 84), some (.int (nI n)), some (.int (nI c)), some (.int v3), some (.int (nI r)), (o5.map Value.long), none, (o7.map Value.long), none, (o9.map Value.long), none, (o11.map Value.int)] [] (HP I A L F E) = mm_run G0 162 38 [some (.ref 84), some (.int (nI n)), some (.int (nI c)), some (.int v3), some (.int (nI (r + 1))), (p5.map Value.long), none, (p7.map Value.long), none, (p9.map Value.long), none, (p11.map Value.int)] [] (HP I A (fu L (96 + r) X) F E) ∧ Rcl n v' X ∧ Gr Y n (c + 1) r v' ∧ Ou n v' := by
  obtain ⟨u1, u2⟩ := hU
  obtain ⟨v1, v2⟩ := hV
  have e0 : (0 : Int64).toInt = 0 := rfl
  have hpu := (gU.prop hM (by omega) (by omega) hc hn).1
  have avc : ((L (96 + r)).getD c 0).toInt = v c := by rw [v2 c (by omega), cl_lt hc]
  have auc : ((L (96 + c)).getD c 0).toInt = u c := by rw [u2 c (by omega), cl_lt hc]
  have h0 : mm_run G0 162 38 [some (.ref 84), some (.int (nI n)), some (.int (nI c)), some (.int v3), some (.int (nI r)), (o5.map Value.long), none, (o7.map Value.long), none, (o9.map Value.long), none, (o11.map Value.int)] [] (HP I A L F E) = if v c = 0 then mm_run G0 162 38 [some (.ref 84), some (.int (nI n)), some (.int (nI c)), some (.int v3), some (.int (nI (r + 1))), (o5.map Value.long), none, (o7.map Value.long), none, (o9.map Value.long), none, (o11.map Value.int)] [] (HP I A L F E) else mm_run G0 162 94 [some (.ref 84), some (.int (nI n)), some (.int (nI c)), some (.int v3), some (.int (nI r)), some (.long ((L (96 + c)).getD c 0)), none, some (.long ((L (96 + r)).getD c 0)), none, some (.long (Int64.ofNat 0)), none, some (.int (nI 0))] [] (HP I A L F E) := by
    rw [sg_X8_clears_38, if_neg (n_nle (a := r) (b := n) (by omega) (by omega)), if_neg (nI_ne (a := r) (b := c) (by omega) (by omega) hne), ld96 (by omega), Option.bind_some, ldL_d (by omega) (by omega), Option.bind_some, ld96 (by omega), Option.bind_some, ldL_d (by omega) (by omega), Option.bind_some, Option.bind_some, ldL_d (by omega) (by omega), Option.bind_some, in1]
    by_cases e : v c = 0
    · rw [if_pos e, if_neg (fun q => q ((lg_cmp_eq _ _).mpr (by rw [l_eq, avc, e, e0])))]
    · rw [if_neg e, if_pos (fun q => e (by
        have q := (lg_cmp_eq _ _).mp q
        rw [l_eq, avc, e0] at q
        exact q))]
      rfl
  rw [h0]
  by_cases e : v c = 0
  · rw [if_pos e]
    exact ⟨L (96 + r), v, o5, o7, o9, o11, by rw [fu_id], ⟨v1, v2⟩, gV.sk e hne, ov⟩
  rw [if_neg e]
  have bu : ∀ y, y < n ∨ y = 7 → (u y).natAbs ≤ 7812500000 := fun y hy => (gU.bnd hM hc hn hc hy).1
  have bv : ∀ y, y < n ∨ y = 7 → (v y).natAbs ≤ 156250000 := fun y hy => (gV.bnd hM hc hn hr hy).2 hne
  obtain ⟨z, hz⟩ : ∃ z : Rw, ∀ y, z y = u c * v y - v c * u y := ⟨fun y => u c * v y - v c * u y, fun _ => rfl⟩
  obtain ⟨X, G, y1, y2, y3⟩ := cr_94 (I := I) (A := A) (F := F) (E := E) (v3 := v3) hn hc hr hne auc avc hz bu bv (n + 1) 0 0 L (by omega) ⟨u1, u2⟩ ⟨v1, fun i h _ => absurd h (Nat.not_lt_zero _), fun i _ h => v2 i h⟩ ⟨by decide, fun i h => absurd h (Nat.not_lt_zero _), fun d _ => Int.dvd_zero d⟩
  have hzr := gV.zr gU hM hc hn hr hne
  rw [← hz] at hzr
  have hG0 : 0 < G := by
    rcases Nat.eq_zero_or_pos G with q | q
    · have := y3.2.1 r (by omega)
      rw [q, cl_lt hr] at this
      obtain ⟨t, ht⟩ := this
      rw [ht] at hzr
      simp at hzr
    · exact q
  have hdv : ∀ y, (G : Int) ∣ z y := fun y => by
    by_cases h7 : y = 7
    · have := y3.2.1 n (by omega)
      rw [cl_n] at this
      rw [h7]; exact this
    · by_cases hy : y < n
      · have := y3.2.1 y (by omega)
        rw [cl_lt hy] at this
        exact this
      · rw [hz, ou y (by omega) h7, ov y (by omega) h7, Int.mul_zero, Int.mul_zero]
        exact ⟨0, rfl⟩
  have hw : ∀ y, (G : Int) * (z y / (G : Int)) = z y := fun y => Int.mul_ediv_cancel' (hdv y)
  have hprm : Prm n (fun y => z y / (G : Int)) := fun d h1 h2 => by
    have h3 : d * (G : Int) ∣ (G : Int) := y3.2.2 (d * G) (fun i hi => by
      have : d ∣ z (cl n i) / (G : Int) := by
        by_cases hi2 : i = n
        · rw [hi2, cl_n]; exact h2
        · rw [cl_lt (by omega)]; exact h1 i (by omega)
      obtain ⟨t, ht⟩ := this
      exact ⟨t, by rw [← hw (cl n i), ht]; grind⟩)
    obtain ⟨t, ht⟩ := h3
    refine ⟨t, ?_⟩
    have : (G : Int) * 1 = (G : Int) * (d * t) := by grind
    exact Int.eq_of_mul_eq_mul_left (by omega) this
  have gN : Gr Y n (c + 1) r (fun y => z y / (G : Int)) := gV.st gU hpu hne (show (0 : Int) < (G : Int) by omega) (fun y => by rw [hw, hz]) hprm
  have oN : Ou n (fun y => z y / (G : Int)) := fun y q1 q2 => by
    show z y / (G : Int) = 0
    rw [hz, ou y q1 q2, ov y q1 q2, Int.mul_zero, Int.mul_zero]
    exact Int.zero_ediv _
  have hGt : (Int64.ofNat G).toInt = (G : Int) := lg_ofNat_toInt (by have := y3.1; omega)
  have e1 : (1 : Int64).toInt = 1 := rfl
  by_cases hG1 : G = 1
  · refine ⟨X, fun y => z y / (G : Int), some ((L (96 + c)).getD c 0), some ((L (96 + r)).getD c 0), some (Int64.ofNat G), some (nI 0), ?_, ⟨y2.1, fun j hj => by
      rw [y2.2 j hj, hG1]
      exact (Int.ediv_one _).symm⟩, gN, oN⟩
    refine y1.trans ?_
    rw [sg_X8_clears_162, if_neg (nI_nlt (a := n) (b := 0) (by omega) (by omega)), if_pos ((lg_cmp_le _ _).mpr (by
      rw [l_le, hGt, e1]
      omega)), in1]
    rfl
  · obtain ⟨X2, o2, z1, z2⟩ := cr_162 (I := I) (A := A) (F := F) (E := E) (c := c) (v3 := v3) (p := (L (96 + c)).getD c 0) (q := (L (96 + r)).getD c 0) (z := z) (w := fun y => z y / (G : Int)) hn hr (show 1 < G by omega) y3.1 hw (fun y hy => by
      have b1 := mul_bd (bu c (.inl hc)) (bv y hy)
      have b2 := mul_bd (bv c (.inl hc)) (bu y hy)
      have hzy := hz y
      have hwy := hw y
      have bz : (z y).natAbs ≤ 2441406250000000000 := by omega
      rw [← hwy, Int.natAbs_mul] at bz
      exact Nat.le_trans (Nat.le_mul_of_pos_left _ (by omega)) bz) (n + 1) 0 (fu L (96 + r) X) (by omega) (by
      rw [fu_s]
      exact ⟨y2.1, fun i h _ => absurd h (Nat.not_lt_zero _), fun i _ h => y2.2 i h⟩)
    rw [fu_fu] at z1
    exact ⟨X2, _, some ((L (96 + c)).getD c 0), some ((L (96 + r)).getD c 0), some (Int64.ofNat G), o2, y1.trans z1, z2, gN, oN⟩
theorem gs_38 {Y : Nat → Rw} {x : Nat → Int} {n c : Nat} {v3 : Int32} (hM : Mm Y n x) (hn : n ≤ 6) (hc : c < n) : ∀ (d r : Nat) (L : Nat → List Int64) (P : Nat → Rw) (o5 o7 o9 : Option Int64) (o11 : Option Int32), r + d = n → (∀ q, q < n → Rcl n (P q) (L (96 + q)) ∧ Ou n (P q)) → Gr Y n c c (P c) → (∀ q, q < r → q ≠ c → Gr Y n (c + 1) q (P q)) → (∀ q, r ≤ q → q < n → q ≠ c → Gr Y n c q (P q)) →
    ∃ (L' : Nat → List Int64) (P' : Nat → Rw) (p3 p4 p11 : Option Int32) (p5 p7 p9 : Option Int64), mm_run G0 162 38 [some (.ref 84), some (.int (nI n)), some (.int (nI c)), some (.int v3), some (.int (nI r)), (o5.map Value.long), none, (o7.map Value.long), none, (o9.map Value.long), none, (o11.map Value.int)] [] (HP I A L F E) = mm_run G0 162 2 [some (.ref 84), some (.int (nI n)), some (.int (nI (c + 1))), (p3.map Value.int), (p4.map Value.int), (p5.map Value.long), none, (p7.map Value.long), none, (p9.map Value.long), none, (p11.map Value.int)] [] (HP I A L' F E) ∧ (∀ q, q < n → Rcl n (P' q) (L' (96 + q)) ∧ Ou n (P' q)) ∧ (∀ q, q < n → Gr Y n (c + 1) q (P' q)) ∧ (∀ a, (∀ q, q < n → a ≠ 96 + q) → L' a = L a)
  | 0, r, L, P, o5, o7, o9, o11, hr, hP, gC, gL, gH => by
    obtain rfl : r = n := by omega
    refine ⟨L, P, some v3, some (nI r), o11, o5, o7, o9, ?_, hP, fun q hq => ?_, fun _ _ => rfl⟩
    · rw [sg_X8_clears_38, if_pos (n_le (a := r) (b := r) (by omega) (by omega)), in1]
      rfl
    · by_cases e : q = c
      · rw [e]
        exact gC.nx (gC.prop hM (by omega) (by omega) hc hn).1
      · exact gL q hq e
  | d + 1, r, L, P, o5, o7, o9, o11, hr, hP, gC, gL, gH => by
    by_cases e : r = c
    · obtain ⟨L', P', p3, p4, p11, p5, p7, p9, x1, x2⟩ := gs_38 (v3 := v3) hM hn hc d (r + 1) L P o5 o7 o9 o11 (by omega) hP gC (fun q q1 q2 => gL q (by omega) q2) (fun q q1 q2 q3 => gH q (by omega) q2 q3)
      refine ⟨L', P', p3, p4, p11, p5, p7, p9, ?_, x2⟩
      rw [sg_X8_clears_38, if_neg (n_nle (a := r) (b := n) (by omega) (by omega)), if_pos (show nI r = nI c by rw [e]), in1]
      exact x1
    · obtain ⟨X, v', p5, p7, p9, p11, y1, y2, y3, y4⟩ := gs_row (I := I) (A := A) (F := F) (E := E) (v3 := v3) (o5 := o5) (o7 := o7) (o9 := o9) (o11 := o11) hM hn hc (show r < n by omega) e (hP c hc).1 (hP r (by omega)).1 gC (gH r (Nat.le_refl r) (by omega) e) (hP c hc).2 (hP r (by omega)).2
      obtain ⟨L', P', q3, q4, q11, q5, q7, q9, z1, z2, z3, z4⟩ := gs_38 (v3 := v3) hM hn hc d (r + 1) (fu L (96 + r) X) (fu P r v') p5 p7 p9 p11 (by omega) (fun q hq => by
        by_cases e2 : q = r
        · rw [e2, fu_s, fu_s]
          exact ⟨y2, y4⟩
        · rw [fu_n _ _ e2, fu_n _ _ (show 96 + q ≠ 96 + r by omega)]
          exact hP q hq) (by rw [fu_n _ _ (fun q => e q.symm)]; exact gC) (fun q q1 q2 => by
        by_cases e2 : q = r
        · rw [e2, fu_s]
          exact y3
        · rw [fu_n _ _ e2]
          exact gL q (by omega) q2) (fun q q1 q2 q3 => by
        rw [fu_n _ _ (by omega)]
        exact gH q (by omega) q2 q3)
      exact ⟨L', P', q3, q4, q11, q5, q7, q9, y1.trans z1, z2, z3, fun a ha => by rw [z4 a ha, fu_n _ _ (ha r (by omega))]⟩
theorem gs_2 {Y : Nat → Rw} {x : Nat → Int} {n : Nat} (hM : Mm Y n x) (hn : n ≤ 6) : ∀ (d c : Nat) (L : Nat → List Int64) (P : Nat → Rw) (o3 o4 : Option Int32) (o5 o7 o9 : Option Int64) (o11 : Option Int32), c + d = n → (∀ q, q < n → Rcl n (P q) (L (96 + q)) ∧ Ou n (P q)) → (∀ q, q < n → Gr Y n c q (P q)) →
    ∃ (L' : Nat → List Int64) (P' : Nat → Rw), mm_run G0 162 2 [some (.ref 84), some (.int (nI n)), some (.int (nI c)), (o3.map Value.int), (o4.map Value.int), (o5.map Value.long), none, (o7.map Value.long), none, (o9.map Value.long), none, (o11.map Value.int)] [] (HP I A L F E) = some (none, HP I A L' F E) ∧ (∀ q, q < n → Rcl n (P' q) (L' (96 + q))) ∧ (∀ q, q < n → Gr Y n n q (P' q)) ∧ (∀ a, (∀ q, q < n → a ≠ 96 + q) → L' a = L a)
  | 0, c, L, P, o3, o4, o5, o7, o9, o11, hc, hP, hG => by
    obtain rfl : c = n := by omega
    exact ⟨L, P, by rw [sg_X8_clears_2, if_pos (n_le (a := c) (b := c) (by omega) (by omega))], fun q hq => (hP q hq).1, hG, fun _ _ => rfl⟩
  | d + 1, c, L, P, o3, o4, o5, o7, o9, o11, hc, hP, hG => by
    have e0 : (0 : Int64).toInt = 0 := rfl
    have hcn : c < n := by omega
    have l1 := (hP c hcn).1.1
    have hpu := ((hG c hcn).prop hM (by omega) (by omega) hcn hn).1
    have auc : ((L (96 + c)).getD c 0).toInt = P c c := by rw [(hP c hcn).1.2 c (by omega), cl_lt hcn]
    obtain ⟨L1, P1, p3, p4, p11, p5, p7, p9, y1, y2, y3, y4⟩ := gs_38 (I := I) (A := A) (F := F) (E := E) (v3 := nI c) hM hn hcn n 0 L P o5 o7 o9 o11 (by omega) hP (hG c hcn) (fun q q1 => absurd q1 (Nat.not_lt_zero _)) (fun q _ q2 _ => hG q q2)
    obtain ⟨L2, P2, z1, z2, z3, z4⟩ := gs_2 hM hn d (c + 1) L1 P1 p3 p4 p5 p7 p9 p11 (by omega) y2 y3
    refine ⟨L2, P2, ?_, z2, z3, fun a ha => by rw [z4 a ha, y4 a ha]⟩
    have hsw : mm_call G0 161 [.ref 84, .int (nI c), .int (nI c), .int (nI n)] (HP I A L F E) = some (none, HP I A L F E) := by
      rw [sg_X8_swaps_0]
      exact sw_3 hn hcn l1 (n + 1) 0 none (by omega)
    rw [sg_X8_clears_2, if_neg (n_nle (a := c) (b := n) (by omega) (by omega)), sg_X8_clears_9, ld96 (by omega), Option.bind_some, ldL_d (by omega) (by omega), Option.bind_some, if_pos (show lg_cmp ((L (96 + c)).getD c 0) 0 ≠ 0 from fun q => by
      have q := (lg_cmp_eq _ _).mp q
      rw [l_eq, auc, e0] at q
      omega), hsw, Option.bind_some]
    refine (sg_X8_clears_35 (nI n) (nI c) (nI c) o4 o5 o7 o9 o11).trans ?_
    exact (y1 : _ = _).trans z1
end GSS
