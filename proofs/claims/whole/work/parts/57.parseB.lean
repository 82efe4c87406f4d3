/-! the text: the reference's clause -/
def MX (I I' : Nat → Int32) : Prop := ∀ x, x ≠ 8406 → x ≠ 8407 → x ≠ 8409 → I' x = I x
theorem MX.tr {I I1 I2 : Nat → Int32} (h : MX I I1) (h2 : MX I1 I2) : MX I I2 := fun x a b c => (h2 x a b c).trans (h x a b c)
theorem MX.rfl' {I : Nat → Int32} : MX I I := fun _ _ _ _ => rfl
section PAM
variable {I : Nat → Int32} {A : Nat → List Int32} {L : Nat → List Int64} {F : Nat → Int64} {E : MH}
theorem digit_ok {n p : Nat} {t : Nat → Int32} (hn : n ≤ 100) (h5 : I 8405 = nI n) (h6 : I 8406 = nI p) (hp : p < n) (l88 : (A 88).length = 100) (ht : ∀ j, j < n → (A 88).getD j 0 = t j) (hd : dgp (t p)) : mm_call G0 131 [.ref 84] (HP I A L F E) = some (some (.int (t p - 48)), HP (fu I 8406 (nI (p + 1))) A L F E) := by
  rw [sg_X8_digit_0, h5, h6, if_neg (n_nle (a := p) (b := n) hp (by omega)), ldI_d (by omega) (by omega), Option.bind_some, ht p hp, if_pos hd, in1, nI_pred, ldI_d (by omega) (by omega), Option.bind_some, ht p hp]
theorem digit_no {n p : Nat} {t : Nat → Int32} (hn : n ≤ 100) (h5 : I 8405 = nI n) (h6 : I 8406 = nI p) (hp : p ≤ n) (l88 : (A 88).length = 100) (ht : ∀ j, j < n → (A 88).getD j 0 = t j) (hd : n ≤ p ∨ ¬ dgp (t p)) : mm_call G0 131 [.ref 84] (HP I A L F E) = some (some (.int (-1)), HP I A L F E) := by
  rw [sg_X8_digit_0, h5, h6]
  by_cases h : n ≤ p
  · rw [if_pos (n_le (a := n) (b := p) h (by omega))]
  · rw [if_neg (n_nle (a := p) (b := n) (by omega) (by omega)), ldI_d (by omega) (by omega), Option.bind_some, ht p (by omega), if_neg (hd.resolve_left h)]
theorem num_tail {n r : Nat} {t : Nat → Int32} (hn : n ≤ 100) (h5 : I 8405 = nI n) (h6 : I 8406 = nI r) (hr : r ≤ n) (l88 : (A 88).length = 100) (ht : ∀ j, j < n → (A 88).getD j 0 = t j) (neg : Bool) {v1 : Int32} (hv : v1 = if neg = true then 1 else 0) :
    match pn2 t n r neg with
    | .inl q => ∃ I' : Nat → Int32, (mm_call G0 131 [.ref 84] (HP I A L F E)).bind (fun q => mm_run G0 132 27 [some (.ref 84), some (.int v1), none] (q.1.toList ++ []) q.2) = some (some (.int 0), HP I' A L F E) ∧ I' 8406 = nI q ∧ I' 8409 = I 8409 ∧ MX I I'
    | .inr (v, q) => ∃ I' : Nat → Int32, (mm_call G0 131 [.ref 84] (HP I A L F E)).bind (fun q => mm_run G0 132 27 [some (.ref 84), some (.int v1), none] (q.1.toList ++ []) q.2) = some (some (.int 1), HP I' A L F E) ∧ I' 8406 = nI q ∧ I' 8407 = v ∧ I' 8409 = I 8409 ∧ MX I I' := by
  have hend : ∀ (I1 : Nat → Int32) (s : Int32), (if v1 = 0 then (some (some (Value.int 1), HP (fu I1 8407 s) A L F E) : MO) else some (some (.int 1), HP (fu I1 8407 (-s)) A L F E)) = some (some (.int 1), HP (fu I1 8407 (sgn neg s)) A L F E) := fun I1 s => by
    subst hv
    unfold sgn
    cases neg with
    | false => rfl
    | true => rfl
  unfold pn2
  by_cases hnr : n ≤ r
  · rw [if_pos hnr]
    refine ⟨I, ?_, h6, rfl, MX.rfl'⟩
    rw [digit_no hn h5 h6 hr l88 ht (Or.inl hnr), Option.bind_some]
    refine (sg_X8_number_27 v1 (-1)).trans ?_
    rw [if_neg (by decide)]
  · rw [if_neg hnr]
    by_cases hd : dgp (t r)
    rotate_left 1
    · rw [if_neg hd]
      refine ⟨I, ?_, h6, rfl, MX.rfl'⟩
      rw [digit_no hn h5 h6 hr l88 ht (Or.inr hd), Option.bind_some]
      refine (sg_X8_number_27 v1 (-1)).trans ?_
      rw [if_neg (by decide)]
    · rw [if_pos hd]
      have e1 := digit_ok (L := L) (F := F) (E := E) hn h5 h6 (by omega) l88 ht hd
      have g5 : (fu I 8406 (nI (r + 1))) 8405 = nI n := by rw [fu_n _ _ (by decide)]; exact h5
      have g6 : (fu I 8406 (nI (r + 1))) 8406 = nI (r + 1) := fu_s _ _ _
      have m1 : MX I (fu I 8406 (nI (r + 1))) := fun x q1 q2 q3 => fu_n _ _ q1
      by_cases h2 : r + 1 < n ∧ dgp (t (r + 1))
      · rw [if_pos h2]
        have e2 := digit_ok (L := L) (F := F) (E := E) hn g5 g6 h2.1 l88 ht h2.2
        rw [fu_fu] at e2
        refine ⟨fu (fu I 8406 (nI (r + 1 + 1))) 8407 (sgn neg (10 * (t r - 48) + (t (r + 1) - 48))), ?_, by rw [fu_n _ _ (by decide), fu_s], fu_s _ _ _, by rw [fu_n _ _ (by decide), fu_n _ _ (by decide)], fun x q1 q2 q3 => by rw [fu_n _ _ q2, fu_n _ _ q1]⟩
        rw [e1, Option.bind_some]
        refine (sg_X8_number_27 v1 (t r - 48)).trans ?_
        rw [if_pos (dg_nn hd), g5, g6, if_neg (n_nle (a := r + 1) (b := n) h2.1 (by omega)), ldI_d (by omega) (by omega), Option.bind_some, ht (r + 1) h2.1, if_pos h2.2, e2, Option.bind_some]
        refine (sg_X8_number_53 v1 (t r - 48) (10 * (t r - 48)) (t (r + 1) - 48)).trans ?_
        exact hend _ _
      · rw [if_neg h2]
        refine ⟨fu (fu I 8406 (nI (r + 1))) 8407 (sgn neg (t r - 48)), ?_, by rw [fu_n _ _ (by decide), fu_s], fu_s _ _ _, by rw [fu_n _ _ (by decide), fu_n _ _ (by decide)], fun x q1 q2 q3 => by rw [fu_n _ _ q2, fu_n _ _ q1]⟩
        rw [e1, Option.bind_some]
        refine (sg_X8_number_27 v1 (t r - 48)).trans ?_
        rw [if_pos (dg_nn hd), g5, g6]
        by_cases h3 : n ≤ r + 1
        · rw [if_pos (n_le (a := n) (b := r + 1) h3 (by omega))]
          exact hend _ _
        · rw [if_neg (n_nle (a := r + 1) (b := n) (by omega) (by omega)), ldI_d (by omega) (by omega), Option.bind_some, ht (r + 1) (by omega), if_neg (fun q => h2 ⟨by omega, q⟩)]
          exact hend _ _
theorem num_m {n p : Nat} {t : Nat → Int32} (hn : n ≤ 100) (h5 : I 8405 = nI n) (h6 : I 8406 = nI p) (hp : p ≤ n) (l88 : (A 88).length = 100) (ht : ∀ j, j < n → (A 88).getD j 0 = t j) :
    match pnm t n p with
    | .inl q => ∃ I' : Nat → Int32, mm_call G0 132 [.ref 84] (HP I A L F E) = some (some (.int 0), HP I' A L F E) ∧ I' 8406 = nI q ∧ I' 8409 = I 8409 ∧ MX I I'
    | .inr (v, q) => ∃ I' : Nat → Int32, mm_call G0 132 [.ref 84] (HP I A L F E) = some (some (.int 1), HP I' A L F E) ∧ I' 8406 = nI q ∧ I' 8407 = v ∧ I' 8409 = I 8409 ∧ MX I I' := by
  unfold pnm
  by_cases hm : p < n ∧ t p = 45
  · rw [if_pos hm]
    have hx := num_tail (I := fu I 8406 (nI (p + 1))) (A := A) (L := L) (F := F) (E := E) (r := p + 1) hn (by rw [fu_n _ _ (by decide)]; exact h5) (fu_s _ _ _) (by omega) l88 ht true (v1 := 1) rfl
    have hc : mm_call G0 132 [.ref 84] (HP I A L F E) = (mm_call G0 131 [.ref 84] (HP (fu I 8406 (nI (p + 1))) A L F E)).bind (fun q => mm_run G0 132 27 [some (.ref 84), some (.int 1), none] (q.1.toList ++ []) q.2) := by
      rw [sg_X8_number_0, h5, h6, if_neg (n_nle (a := p) (b := n) hm.1 (by omega)), ldI_d (by omega) (by omega), Option.bind_some, ht p hm.1, hm.2, if_pos (by decide), in1]
    have m1 : MX I (fu I 8406 (nI (p + 1))) := fun x q1 q2 q3 => fu_n _ _ q1
    have e9 : (fu I 8406 (nI (p + 1))) 8409 = I 8409 := fu_n _ _ (by decide)
    rw [← hc, e9] at hx
    cases hR : pn2 t n (p + 1) true with
    | inl q =>
      rw [hR] at hx
      obtain ⟨I', x1, x2, x3, x4⟩ := hx
      exact ⟨I', x1, x2, x3, m1.tr x4⟩
    | inr vq =>
      obtain ⟨v, q⟩ := vq
      rw [hR] at hx
      obtain ⟨I', x1, x2, x3, x4, x5⟩ := hx
      exact ⟨I', x1, x2, x3, x4, m1.tr x5⟩
  · rw [if_neg hm]
    have hx := num_tail (I := I) (A := A) (L := L) (F := F) (E := E) (r := p) hn h5 h6 hp l88 ht false (v1 := 0) rfl
    have hc : mm_call G0 132 [.ref 84] (HP I A L F E) = (mm_call G0 131 [.ref 84] (HP I A L F E)).bind (fun q => mm_run G0 132 27 [some (.ref 84), some (.int 0), none] (q.1.toList ++ []) q.2) := by
      rw [sg_X8_number_0, h5, h6]
      by_cases h : n ≤ p
      · rw [if_pos (n_le (a := n) (b := p) h (by omega))]
      · rw [if_neg (n_nle (a := p) (b := n) (by omega) (by omega)), ldI_d (by omega) (by omega), Option.bind_some, ht p (by omega), if_neg]
        intro q
        refine hm ⟨by omega, ?_⟩
        have q1 := q.1
        have q2 := q.2
        rw [i_lt] at q1 q2
        exact i_eq.mpr (by omega)
    rw [← hc] at hx
    exact hx
theorem head_m {n p : Nat} {t : Nat → Int32} (hn : n ≤ 100) (h5 : I 8405 = nI n) (h6 : I 8406 = nI p) (hp : p < n) (l88 : (A 88).length = 100) (ht : ∀ j, j < n → (A 88).getD j 0 = t j) (hL : okL (t p)) : mm_call G0 133 [.ref 84] (HP I A L F E) = (mm_call G0 131 [.ref 84] (HP (fu I 8406 (nI (p + 1))) A L F E)).bind fun q => mm_run G0 133 87 [some (.ref 84), some (.int (t p)), some (.int (if okN (t p) = true then 1 else 0)), none] (q.1.toList ++ []) q.2 := by
  rw [sg_X8_readsClause_0, h5, h6, if_neg (n_nle (a := p) (b := n) hp (by omega)), ldI_d (by omega) (by omega), Option.bind_some, ht p hp, in1]
  generalize t p = x at hL
  rcases hL with rfl | rfl | rfl | rfl | rfl | rfl <;> rfl
theorem head_no {n p : Nat} {t : Nat → Int32} (hn : n ≤ 100) (h5 : I 8405 = nI n) (h6 : I 8406 = nI p) (hp : p ≤ n) (l88 : (A 88).length = 100) (ht : ∀ j, j < n → (A 88).getD j 0 = t j) (hL : n ≤ p ∨ ¬ okL (t p)) : mm_call G0 133 [.ref 84] (HP I A L F E) = some (some (.int 0), HP I A L F E) := by
  rw [sg_X8_readsClause_0, h5, h6]
  by_cases h : n ≤ p
  · rw [if_pos (n_le (a := n) (b := p) h (by omega))]
  · have hx := hL.resolve_left h
    rw [if_neg (n_nle (a := p) (b := n) (by omega) (by omega)), ldI_d (by omega) (by omega), Option.bind_some, ht p (by omega), if_neg (fun q => hx (Or.inl q)), if_neg (fun q => hx (Or.inr (Or.inl q))), if_pos (show t p ≠ 108 from fun q => hx (Or.inr (Or.inr (Or.inl q)))), if_neg (fun q => hx (Or.inr (Or.inr (Or.inr (Or.inl q))))), if_neg (fun q => hx (Or.inr (Or.inr (Or.inr (Or.inr (Or.inl q)))))), if_neg (fun q => hx (Or.inr (Or.inr (Or.inr (Or.inr (Or.inr q))))))]
def row3 (l : List Int32) (c : Nat) (cl : Int32 × Int32 × Int32) : List Int32 := ((l.set (3 * c) cl.1).set (3 * c + 1) cl.2.1).set (3 * c + 2) cl.2.2
theorem store3 {c : Nat} {I1 : Nat → Int32} (hc : c < 12) (h9 : I 8409 = nI c) (l89 : (A 89).length = 36) (a b v : Int32) : ((stI (A 89) (3 * (I 8409)) a).bind fun X1 => ((stI X1 ((3 * (I 8409)) + 1) b).bind fun X2 => ((stI X2 ((3 * (I 8409)) + 2) v).bind fun X3 => (some (some (Value.int (1)), (HP I1 (fu (fu (fu A 89 X1) 89 X2) 89 X3) L F E)) : MO)))) = some (some (.int 1), HP I1 (fu A 89 (row3 (A 89) c (a, b, v))) L F E) := by
  have i0 : (3 : Int32) * nI c = nI (3 * c) := by rw [show (3 : Int32) = nI 3 from rfl, pk_mul]
  rw [h9, i0, stI_n (by omega) (by omega), Option.bind_some, show nI (3 * c) + 1 = nI (3 * c + 1) from in1 _, stI_n (by rw [List.length_set]; omega) (by rw [List.length_set]; omega), Option.bind_some, show nI (3 * c) + 2 = nI (3 * c + 2) by rw [show (2 : Int32) = nI 2 from rfl, nI_add], stI_n (by rw [List.length_set, List.length_set]; omega) (by rw [List.length_set, List.length_set]; omega), Option.bind_some, fu_fu, fu_fu]
  rfl
theorem clause_m {n p c : Nat} {t : Nat → Int32} (hn : n ≤ 100) (h5 : I 8405 = nI n) (h6 : I 8406 = nI p) (h9 : I 8409 = nI c) (hc : c < 12) (hp : p ≤ n) (hs : Shp A L) (ht : ∀ j, j < n → (A 88).getD j 0 = t j) :
    match pcl t n p with
    | .inl q => ∃ I' : Nat → Int32, mm_call G0 133 [.ref 84] (HP I A L F E) = some (some (.int 0), HP I' A L F E) ∧ I' 8406 = nI q ∧ MX I I'
    | .inr (cl, q) => ∃ I' : Nat → Int32, mm_call G0 133 [.ref 84] (HP I A L F E) = some (some (.int 1), HP I' (fu A 89 (row3 (A 89) c cl)) L F E) ∧ I' 8406 = nI q ∧ I' 8409 = nI (c + 1) ∧ MX I I' := by
  have l88 := hs.i (a := 88) (n := 100) (by decide)
  have l89 := hs.i (a := 89) (n := 36) (by decide)
  unfold pcl
  by_cases hnp : n ≤ p
  · rw [if_pos hnp]
    exact ⟨I, head_no hn h5 h6 hp l88 ht (Or.inl hnp), h6, MX.rfl'⟩
  rw [if_neg hnp]
  by_cases hL : okL (t p)
  rotate_left 1
  · rw [if_neg hL]
    exact ⟨I, head_no hn h5 h6 hp l88 ht (Or.inr hL), h6, MX.rfl'⟩
  rw [if_pos hL]
  have hh := head_m (L := L) (F := F) (E := E) hn h5 h6 (by omega) l88 ht hL
  have g5 : (fu I 8406 (nI (p + 1))) 8405 = nI n := by rw [fu_n _ _ (by decide)]; exact h5
  have g6 : (fu I 8406 (nI (p + 1))) 8406 = nI (p + 1) := fu_s _ _ _
  have m1 : MX I (fu I 8406 (nI (p + 1))) := fun x q1 q2 q3 => fu_n _ _ q1
  have bad : (n ≤ p + 1 ∨ ¬ dgp (t (p + 1))) → mm_call G0 133 [.ref 84] (HP I A L F E) = some (some (.int 0), HP (fu I 8406 (nI (p + 1))) A L F E) := fun hq => by
    rw [hh, digit_no hn g5 g6 (by omega) l88 ht hq, Option.bind_some]
    refine (sg_X8_readsClause_87 (t p) _ (-1)).trans ?_
    rw [if_neg (by decide)]
  by_cases hnp1 : n ≤ p + 1
  · rw [if_pos hnp1]
    exact ⟨_, bad (Or.inl hnp1), g6, m1⟩
  rw [if_neg hnp1]
  by_cases hD : dgp (t (p + 1))
  rotate_left 1
  · rw [if_neg hD]
    exact ⟨_, bad (Or.inr hD), g6, m1⟩
  rw [if_pos hD]
  have e1 := digit_ok (L := L) (F := F) (E := E) hn g5 g6 (by omega) l88 ht hD
  rw [fu_fu] at e1
  rw [e1, Option.bind_some] at hh
  have k5 : (fu I 8406 (nI (p + 1 + 1))) 8405 = nI n := by rw [fu_n _ _ (by decide)]; exact h5
  have k6 : (fu I 8406 (nI (p + 1 + 1))) 8406 = nI (p + 2) := fu_s _ _ _
  have k9 : (fu I 8406 (nI (p + 1 + 1))) 8409 = nI c := by rw [fu_n _ _ (by decide)]; exact h9
  have m2 : MX I (fu I 8406 (nI (p + 1 + 1))) := fun x q1 q2 q3 => fu_n _ _ q1
  by_cases hN : okN (t p) = true
  · rw [if_pos hN]
    have hc1 : mm_call G0 133 [.ref 84] (HP I A L F E) = (mm_call G0 132 [.ref 84] (HP (fu I 8406 (nI (p + 1 + 1))) A L F E)).bind fun q => mm_run G0 133 102 [some (.ref 84), some (.int (t p)), some (.int (if okN (t p) = true then 1 else 0)), some (.int (t (p + 1) - 48))] (q.1.toList ++ []) q.2 := by
      rw [hh]
      refine (sg_X8_readsClause_87 (t p) _ (t (p + 1) - 48)).trans ?_
      rw [if_pos (dg_nn hD), if_neg (show ¬ (if okN (t p) = true then (1 : Int32) else 0) = 0 by rw [if_pos hN]; decide)]
    have hx := num_m (I := fu I 8406 (nI (p + 1 + 1))) (A := A) (L := L) (F := F) (E := E) (p := p + 2) hn k5 k6 (by omega) l88 ht
    cases hR : pnm t n (p + 2) with
    | inl q =>
      rw [hR] at hx
      obtain ⟨I', x1, x2, x3, x4⟩ := hx
      refine ⟨I', ?_, x2, m2.tr x4⟩
      rw [hc1, x1, Option.bind_some]
      refine (sg_X8_readsClause_102 (t p) _ (t (p + 1) - 48) 0).trans ?_
      rw [if_neg (fun z => z rfl)]
    | inr vq =>
      obtain ⟨v, q⟩ := vq
      rw [hR] at hx
      obtain ⟨I', x1, x2, x3, x4, x5⟩ := hx
      refine ⟨fu I' 8409 (nI (c + 1)), ?_, by rw [fu_n _ _ (by decide)]; exact x2, fu_s _ _ _, fun x q1 q2 q3 => by rw [fu_n _ _ q3, x5 x q1 q2 q3, m2 x q1 q2 q3]⟩
      rw [hc1, x1, Option.bind_some]
      refine (sg_X8_readsClause_102 (t p) _ (t (p + 1) - 48) 1).trans ?_
      rw [if_pos (by decide), x3]
      refine (store3 (I := I') (I1 := fu I' 8409 (I' 8409 + 1)) hc (x4.trans k9) l89 (t p) (t (p + 1) - 48) v).trans ?_
      rw [x4, k9, in1]
  · rw [if_neg hN]
    have hc1 : mm_call G0 133 [.ref 84] (HP I A L F E) = (mm_call G0 131 [.ref 84] (HP (fu I 8406 (nI (p + 1 + 1))) A L F E)).bind fun q => mm_run G0 133 112 [some (.ref 84), some (.int (t p)), some (.int (if okN (t p) = true then 1 else 0)), some (.int (t (p + 1) - 48))] (q.1.toList ++ [.ref 84]) q.2 := by
      rw [hh]
      refine (sg_X8_readsClause_87 (t p) _ (t (p + 1) - 48)).trans ?_
      rw [if_pos (dg_nn hD), if_pos (show (if okN (t p) = true then (1 : Int32) else 0) = 0 by rw [if_neg hN])]
    have bad2 : (n ≤ p + 2 ∨ ¬ dgp (t (p + 2))) → ∃ I' : Nat → Int32, mm_call G0 133 [.ref 84] (HP I A L F E) = some (some (.int 0), HP I' A L F E) ∧ I' 8406 = nI (p + 2) ∧ MX I I' := fun hq => by
      refine ⟨fu (fu I 8406 (nI (p + 1 + 1))) 8407 (-1), ?_, by rw [fu_n _ _ (by decide)]; exact k6, fun x q1 q2 q3 => by rw [fu_n _ _ q2, fu_n _ _ q1]⟩
      rw [hc1, digit_no hn k5 k6 (by omega) l88 ht hq, Option.bind_some]
      refine (sg_X8_readsClause_112 (t p) _ (t (p + 1) - 48) (-1)).trans ?_
      rw [if_neg (by decide)]
    by_cases hn2 : n ≤ p + 2
    · rw [if_pos hn2]
      exact bad2 (Or.inl hn2)
    rw [if_neg hn2]
    by_cases hD2 : dgp (t (p + 2))
    rotate_left 1
    · rw [if_neg hD2]
      exact bad2 (Or.inr hD2)
    rw [if_pos hD2]
    have e2 := digit_ok (L := L) (F := F) (E := E) hn k5 k6 (by omega) l88 ht hD2
    rw [fu_fu] at e2
    refine ⟨fu (fu (fu I 8406 (nI (p + 2 + 1))) 8407 (t (p + 2) - 48)) 8409 (nI (c + 1)), ?_, by rw [fu_n _ _ (by decide), fu_n _ _ (by decide), fu_s], fu_s _ _ _, fun x q1 q2 q3 => by rw [fu_n _ _ q3, fu_n _ _ q2, fu_n _ _ q1]⟩
    rw [hc1, e2, Option.bind_some]
    refine (sg_X8_readsClause_112 (t p) _ (t (p + 1) - 48) (t (p + 2) - 48)).trans ?_
    have z9 : (fu I 8406 (nI (p + 2 + 1))) 8409 = nI c := by rw [fu_n _ _ (by decide)]; exact h9
    rw [if_pos (dg_nn hD2)]
    refine (store3 (I := fu I 8406 (nI (p + 2 + 1))) (I1 := fu (fu (fu I 8406 (nI (p + 2 + 1))) 8407 (t (p + 2) - 48)) 8409 ((fu I 8406 (nI (p + 2 + 1))) 8409 + 1)) hc z9 l89 (t p) (t (p + 1) - 48) (t (p + 2) - 48)).trans ?_
    rw [z9, in1]
end PAM
