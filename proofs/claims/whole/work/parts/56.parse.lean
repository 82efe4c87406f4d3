/-! the text: one clause, apart from any heap and on both sides -/
abbrev dgp (x : Int32) : Prop := ¬ x < 48 ∧ ¬ 57 < x
def sgn (neg : Bool) (x : Int32) : Int32 := if neg = true then -x else x
/-- a number from place r on: where it fails; or its value, and the place behind -/
noncomputable def pn2 (t : Nat → Int32) (n r : Nat) (neg : Bool) : Nat ⊕ (Int32 × Nat) :=
  if n ≤ r then .inl r else @ite _ (dgp (t r)) (Classical.propDecidable _) (@ite _ (r + 1 < n ∧ dgp (t (r + 1))) (Classical.propDecidable _) (.inr (sgn neg (10 * (t r - 48) + (t (r + 1) - 48)), r + 2)) (.inr (sgn neg (t r - 48), r + 1))) (.inl r)
noncomputable def pnm (t : Nat → Int32) (n p : Nat) : Nat ⊕ (Int32 × Nat) := if p < n ∧ t p = 45 then pn2 t n (p + 1) true else pn2 t n p false
/-- a clause from place p on -/
noncomputable def pcl (t : Nat → Int32) (n p : Nat) : Nat ⊕ ((Int32 × Int32 × Int32) × Nat) :=
  if n ≤ p then .inl p else @ite _ (okL (t p)) (Classical.propDecidable _) (if n ≤ p + 1 then .inl (p + 1) else @ite _ (dgp (t (p + 1))) (Classical.propDecidable _)
    (if okN (t p) = true then (match pnm t n (p + 2) with
      | .inl q => .inl q
      | .inr (v, q) => .inr ((t p, t (p + 1) - 48, v), q))
     else if n ≤ p + 2 then .inl (p + 2) else @ite _ (dgp (t (p + 2))) (Classical.propDecidable _) (.inr ((t p, t (p + 1) - 48, t (p + 2) - 48), p + 3)) (.inl (p + 2))) (.inl (p + 1))) (.inl p)
theorem dg_rng {x : Int32} (h : dgp x) : 0 ≤ (x - 48).toInt ∧ (x - 48).toInt ≤ 9 := by
  have h1 := h.1
  have h2 := h.2
  rw [i_lt] at h1 h2
  have e1 : (48 : Int32).toInt = 48 := rfl
  have e2 : (57 : Int32).toInt = 57 := rfl
  rw [i_sub (by omega) (by omega)]
  omega
theorem dg_nn {x : Int32} (h : dgp x) : 0 ≤ x - 48 := by
  have := dg_rng h
  rw [i_le, ii0]
  omega
theorem i_mulb {x y : Int32} {P Q : Nat} (hx : x.toInt.natAbs ≤ P) (hy : y.toInt.natAbs ≤ Q) (h : P * Q < 2147483648) : (x * y).toInt = x.toInt * y.toInt := by
  have hb := mul_bd hx hy
  rw [Int32.toInt_mul]
  exact b32 (by omega) (by omega)
theorem i_negb {x : Int32} (h : -2147483648 < x.toInt) : (-x).toInt = -x.toInt := by
  have := Int32.toInt_lt x
  rw [Int32.toInt_neg]
  exact b32 (by omega) (by omega)
/-- the class's digits one behind another -/
theorem dig_1 {d : Int32} (neg : Bool) (h : 0 ≤ d.toInt ∧ d.toInt ≤ 9) : (if neg = true then ((0 : Int32) * 10 - d) else (0 * 10 + d)) = sgn neg d := by
  have e : (0 : Int32) * 10 = 0 := rfl
  rw [e]
  unfold sgn
  cases neg with
  | false => exact Int32.zero_add d
  | true => exact Int32.zero_sub d
theorem dig_2 {d e : Int32} (neg : Bool) (h : 0 ≤ d.toInt ∧ d.toInt ≤ 9) (h2 : 0 ≤ e.toInt ∧ e.toInt ≤ 9) : (if neg = true then (sgn neg d * 10 - e) else (sgn neg d * 10 + e)) = sgn neg (10 * d + e) := by
  have t10 : (10 : Int32).toInt = 10 := rfl
  have a1 : (10 * d).toInt = 10 * d.toInt := by rw [i_mulb (P := 10) (Q := 9) (by omega) (by omega) (by decide), t10]
  have a2 : (10 * d + e).toInt = 10 * d.toInt + e.toInt := by rw [i_add (by omega) (by omega), a1]
  unfold sgn
  cases neg with
  | false =>
    show d * 10 + e = 10 * d + e
    rw [Int32.mul_comm]
  | true =>
    show -d * 10 - e = -(10 * d + e)
    have a3 : (-d).toInt = -d.toInt := i_negb (by omega)
    have a4 : (-d * 10).toInt = -d.toInt * 10 := by rw [i_mulb (P := 9) (Q := 10) (by omega) (by omega) (by decide), a3, t10]
    rw [i_eq, i_sub (by omega) (by omega), a4, i_negb (by omega), a2]
    omega
/-! the class, place by place -/
def CX (I : Nat → Int32) (A : Nat → List Int32) (I' : Nat → Int32) (A' : Nat → List Int32) : Prop := (∀ x, x ≠ 4202 → x ≠ 4206 → I' x = I x) ∧ (∀ a, a ≠ 44 → a ≠ 45 → a ≠ 46 → A' a = A a) ∧ ∀ a, (A' a).length = (A a).length
theorem CX.tr {I I1 I2 : Nat → Int32} {A A1 A2 : Nat → List Int32} (h : CX I A I1 A1) (h2 : CX I1 A1 I2 A2) : CX I A I2 A2 := ⟨fun x a b => (h2.1 x a b).trans (h.1 x a b), fun a x y z => (h2.2.1 a x y z).trans (h.2.1 a x y z), fun a => (h2.2.2 a).trans (h.2.2 a)⟩
theorem CX.rfl' {I : Nat → Int32} {A : Nat → List Int32} : CX I A I A := ⟨fun _ _ _ => rfl, fun _ _ _ _ => rfl, fun _ => rfl⟩
section PAX
variable {I : Nat → Int32} {A : Nat → List Int32} {L : Nat → List Int64} {F : Nat → Int64} {E : MH}
theorem cx_46 {X : List Int32} (h : X.length = (A 46).length) : CX I A I (fu A 46 X) := ⟨fun _ _ _ => rfl, fun a _ _ h => fu_n _ _ h, fun a => by
  by_cases e : a = 46
  · rw [e, fu_s, h]
  · rw [fu_n _ _ e]⟩
theorem cx_45 {X : List Int32} (h : X.length = (A 45).length) : CX I A I (fu A 45 X) := ⟨fun _ _ _ => rfl, fun a _ h _ => fu_n _ _ h, fun a => by
  by_cases e : a = 45
  · rw [e, fu_s, h]
  · rw [fu_n _ _ e]⟩
/-- the text runs out -/
theorem fx_end {n p : Nat} (hn : n ≤ 100) (h1 : I 4201 = nI n) (h : n ≤ p) (hp : p ≤ 200) {due : Int32} (h5 : due ≠ 5) (h6 : due ≠ 6) : mm_run G0 50 9 [some (.ref 42), some (.int due), some (.int (nI p))] [] (HP I A L F E) = some (some (.int (nI n)), HP I A L F E) := by
  rw [sg_X6_fault_9, h1, if_pos (n_le (a := n) (b := p) h (by omega)), if_neg h5, if_pos h6]
/-- a sign is taken -/
theorem fx_go {n p : Nat} {t : Nat → Int32} (hn : n ≤ 100) (h1 : I 4201 = nI n) (hl : (A 43).length = 100) (ht : ∀ j, j < n → (A 43).getD j 0 = t j) (h : p < n) {due s : Int32} {I' : Nat → Int32} {A' : Nat → List Int32} (hc : mm_call G0 51 [.ref 42, .int due, .int (t p)] (HP I A L F E) = some (some (.int s), HP I' A' L F E)) (hs : s ≠ -1) : mm_run G0 50 9 [some (.ref 42), some (.int due), some (.int (nI p))] [] (HP I A L F E) = mm_run G0 50 9 [some (.ref 42), some (.int s), some (.int (nI (p + 1)))] [] (HP I' A' L F E) := by
  rw [sg_X6_fault_9, h1, if_neg (n_nle (a := p) (b := n) h (by omega)), ldI_d (by omega) (by omega), Option.bind_some, ht p h, hc, Option.bind_some]
  refine (sg_X6_fault_28 due (nI p) s).trans ?_
  rw [if_pos hs, in1]
theorem fx_no {n p : Nat} {t : Nat → Int32} (hn : n ≤ 100) (h1 : I 4201 = nI n) (hl : (A 43).length = 100) (ht : ∀ j, j < n → (A 43).getD j 0 = t j) (h : p < n) {due : Int32} {I' : Nat → Int32} {A' : Nat → List Int32} (hc : mm_call G0 51 [.ref 42, .int due, .int (t p)] (HP I A L F E) = some (some (.int (-1)), HP I' A' L F E)) : mm_run G0 50 9 [some (.ref 42), some (.int due), some (.int (nI p))] [] (HP I A L F E) = some (some (.int (nI p)), HP I' A' L F E) := by
  rw [sg_X6_fault_9, h1, if_neg (n_nle (a := p) (b := n) h (by omega)), ldI_d (by omega) (by omega), Option.bind_some, ht p h, hc, Option.bind_some]
  refine (sg_X6_fault_28 due (nI p) (-1)).trans ?_
  rw [if_neg (fun q => q rfl)]
theorem td_ok {c : Nat} {x th : Int32} (hc : c < 12) (h2 : I 4202 = nI (c + 1)) (hl : (A 46).length = 12) (neg : Bool) (h6 : I 4206 = if neg = true then 1 else 0) (hx : dgp x) : mm_call G0 54 [.ref 42, .int x, .int th] (HP I A L F E) = some (some (.int th), HP I (fu A 46 ((A 46).set c (if neg = true then ((A 46).getD c 0 * 10 - (x - 48)) else ((A 46).getD c 0 * 10 + (x - 48))))) L F E) := by
  rw [sg_X6_takeDigit_0, if_pos hx, h2, nI_pred, ldI_d (by omega) (by omega), Option.bind_some]
  cases neg with
  | false => rw [if_pos (show I 4206 = 0 from h6), stI_n (by omega) (by omega), Option.bind_some]; rfl
  | true => rw [if_neg (show ¬ I 4206 = 0 by rw [h6]; decide), stI_n (by omega) (by omega), Option.bind_some]; rfl
theorem td_no {x th : Int32} (hx : ¬ dgp x) : mm_call G0 54 [.ref 42, .int x, .int th] (HP I A L F E) = some (some (.int (-1)), HP I A L F E) := by
  rw [sg_X6_takeDigit_0, if_neg hx]
theorem tl_ok {c : Nat} {x : Int32} (hc : c < 12) (h2 : I 4202 = nI c) (l44 : (A 44).length = 12) (l46 : (A 46).length = 12) (hx : okL x) : mm_call G0 51 [.ref 42, .int 0, .int x] (HP I A L F E) = some (some (.int 1), HP (fu (fu I 4202 (nI (c + 1))) 4206 0) (fu (fu A 44 ((A 44).set c x)) 46 ((A 46).set c 0)) L F E) := by
  have key : mm_call G0 52 [.ref 42, .int x] (HP I A L F E) = some (some (.int 1), HP (fu (fu I 4202 (nI (c + 1))) 4206 0) (fu (fu A 44 ((A 44).set c x)) 46 ((A 46).set c 0)) L F E) := by
    have s1 (y : Int32) : stI (A 44) (nI c) y = some ((A 44).set c y) := stI_n (by omega) (by omega)
    have s2 (y : Int32) : stI (A 46) (nI c) y = some ((A 46).set c y) := stI_n (by omega) (by omega)
    rw [sg_X6_takeLetter_0, h2, s1, s2, in1]
    rcases hx with rfl | rfl | rfl | rfl | rfl | rfl <;> rfl
  rw [sg_X6_take_0, if_pos rfl, key, Option.bind_some]
  exact sg_X6_take_45 0 x 1
theorem tl_no {x : Int32} (hx : ¬ okL x) : mm_call G0 51 [.ref 42, .int 0, .int x] (HP I A L F E) = some (some (.int (-1)), HP I A L F E) := by
  have h1 : ¬ okN x = true := fun q => hx (by
    unfold okN at q
    by_cases a : x = 118
    · exact Or.inl a
    · rw [if_neg a] at q
      by_cases b : x = 116
      · exact Or.inr (Or.inl b)
      · rw [if_neg b] at q
        by_cases c : x = 108
        · exact Or.inr (Or.inr (Or.inl c))
        · rw [if_pos c] at q
          exact Bool.noConfusion q)
  have key : mm_call G0 52 [.ref 42, .int x] (HP I A L F E) = some (some (.int (-1)), HP I A L F E) := by
    rw [sg_X6_takeLetter_0, if_neg h1, if_neg (fun q => hx (Or.inr (Or.inr (Or.inr (Or.inl q))))), if_neg (fun q => hx (Or.inr (Or.inr (Or.inr (Or.inr (Or.inl q)))))), if_neg (fun q => hx (Or.inr (Or.inr (Or.inr (Or.inr (Or.inr q))))))]
  rw [sg_X6_take_0, if_pos rfl, key, Option.bind_some]
  exact sg_X6_take_45 0 x (-1)
theorem tw_ok {c : Nat} {x : Int32} (hc : c < 12) (h2 : I 4202 = nI (c + 1)) (l44 : (A 44).length = 12) (l45 : (A 45).length = 12) (hx : dgp x) : mm_call G0 51 [.ref 42, .int 1, .int x] (HP I A L F E) = some (some (.int (if okN ((A 44).getD c 0) = true then 3 else 2)), HP I (fu A 45 ((A 45).set c (x - 48))) L F E) := by
  have key : mm_call G0 53 [.ref 42, .int x] (HP I A L F E) = some (some (.int (if okN ((A 44).getD c 0) = true then 3 else 2)), HP I (fu A 45 ((A 45).set c (x - 48))) L F E) := by
    rw [sg_X6_takeWhich_0, if_pos hx, h2, nI_pred, stI_n (by omega) (by omega), Option.bind_some, ldI_d (by omega) (by omega), Option.bind_some]
    split <;> rfl
  rw [sg_X6_take_0, if_neg (by decide), if_pos rfl, key, Option.bind_some]
  exact sg_X6_take_51 1 x _
theorem tw_no {x : Int32} (hx : ¬ dgp x) : mm_call G0 51 [.ref 42, .int 1, .int x] (HP I A L F E) = some (some (.int (-1)), HP I A L F E) := by
  have key : mm_call G0 53 [.ref 42, .int x] (HP I A L F E) = some (some (.int (-1)), HP I A L F E) := by
    rw [sg_X6_takeWhich_0, if_neg hx]
  rw [sg_X6_take_0, if_neg (by decide), if_pos rfl, key, Option.bind_some]
  exact sg_X6_take_51 1 x _
/-- a place where what stands between clauses is due -/
def Dq (due : Int32) (t : Nat → Int32) (n q : Nat) : Prop := due = 6 ∨ (due = 5 ∧ (n ≤ q ∨ ¬ dgp (t q)))
/-- the class has a clause whole -/
def Cw (t : Nat → Int32) (n p c : Nat) (I : Nat → Int32) (A : Nat → List Int32) (L : Nat → List Int64) (F : Nat → Int64) (E : MH) (due0 : Int32) (r : Nat ⊕ ((Int32 × Int32 × Int32) × Nat)) : Prop :=
  match r with
  | .inl q => ∃ (I' : Nat → Int32) (A' : Nat → List Int32), mm_run G0 50 9 [some (.ref 42), some (.int due0), some (.int (nI p))] [] (HP I A L F E) = some (some (.int (nI q)), HP I' A' L F E) ∧ CX I A I' A'
  | .inr (cl, q) => ∃ (I' : Nat → Int32) (A' : Nat → List Int32) (due : Int32), mm_run G0 50 9 [some (.ref 42), some (.int due0), some (.int (nI p))] [] (HP I A L F E) = mm_run G0 50 9 [some (.ref 42), some (.int due), some (.int (nI q))] [] (HP I' A' L F E) ∧ CX I A I' A' ∧ Dq due t n q ∧ q ≤ n ∧ I' 4202 = nI (c + 1) ∧ (A' 44) = (A 44).set c cl.1 ∧ (A' 45) = (A 45).set c cl.2.1 ∧ (A' 46) = (A 46).set c cl.2.2
/-- the class: a number's first digit and what follows -/
theorem num_x {t : Nat → Int32} {n r c : Nat} (hn : n ≤ 100) (h1 : I 4201 = nI n) (hc : c < 12) (h2 : I 4202 = nI (c + 1)) (hs : Shp A L) (ht : ∀ j, j < n → (A 43).getD j 0 = t j) (neg : Bool) (hr : r ≤ n) (h46 : (A 46).getD c 0 = 0) {due : Int32} (hnd : due ≠ 5 ∧ due ≠ 6)
    (htk : r < n → ∃ I1 : Nat → Int32, CX I A I1 A ∧ I1 4202 = nI (c + 1) ∧ I1 4206 = (if neg = true then 1 else 0) ∧ ∀ s (A1 : Nat → List Int32), mm_call G0 54 [.ref 42, .int (t r), .int 5] (HP I1 A L F E) = some (some (.int s), HP I1 A1 L F E) → mm_call G0 51 [.ref 42, .int due, .int (t r)] (HP I A L F E) = some (some (.int s), HP I1 A1 L F E)) :
    match pn2 t n r neg with
    | .inl q => ∃ (I' : Nat → Int32) (A' : Nat → List Int32), mm_run G0 50 9 [some (.ref 42), some (.int due), some (.int (nI r))] [] (HP I A L F E) = some (some (.int (nI q)), HP I' A' L F E) ∧ CX I A I' A'
    | .inr (v, q) => ∃ (I' : Nat → Int32) (A' : Nat → List Int32) (due' : Int32), mm_run G0 50 9 [some (.ref 42), some (.int due), some (.int (nI r))] [] (HP I A L F E) = mm_run G0 50 9 [some (.ref 42), some (.int due'), some (.int (nI q))] [] (HP I' A' L F E) ∧ CX I A I' A' ∧ Dq due' t n q ∧ q ≤ n ∧ I' 4202 = nI (c + 1) ∧ A' 44 = A 44 ∧ A' 45 = A 45 ∧ A' 46 = (A 46).set c v := by
  have l43 := hs.i (a := 43) (n := 100) (by decide)
  have l46 := hs.i (a := 46) (n := 12) (by decide)
  unfold pn2
  by_cases hnr : n ≤ r
  · rw [if_pos hnr]
    have hrn : n = r := by omega
    exact ⟨I, A, by rw [fx_end hn h1 hnr (by omega) hnd.1 hnd.2, hrn], CX.rfl'⟩
  · rw [if_neg hnr]
    obtain ⟨I1, k1, g2, g6, htk'⟩ := htk (by omega)
    have g1 : I1 4201 = nI n := (k1.1 _ (by decide) (by decide)).trans h1
    by_cases hd : dgp (t r)
    · rw [if_pos hd]
      have e54 := td_ok (I := I1) (A := A) (L := L) (F := F) (E := E) (th := 5) hc g2 l46 neg g6 hd
      rw [h46, dig_1 neg (dg_rng hd)] at e54
      have st := fx_go hn h1 l43 ht (show r < n by omega) (htk' _ _ e54) (by decide)
      have k2 : CX I A I1 (fu A 46 ((A 46).set c (sgn neg (t r - 48)))) := k1.tr (cx_46 (by rw [List.length_set]))
      by_cases h2d : r + 1 < n ∧ dgp (t (r + 1))
      · rw [if_pos h2d]
        have ht1 : ∀ j, j < n → ((fu A 46 ((A 46).set c (sgn neg (t r - 48)))) 43).getD j 0 = t j := fun j hj => by rw [fu_n _ _ (by decide)]; exact ht j hj
        have e54b := td_ok (I := I1) (A := fu A 46 ((A 46).set c (sgn neg (t r - 48)))) (L := L) (F := F) (E := E) (th := 6) hc g2 (by rw [fu_s, List.length_set]; exact l46) neg g6 h2d.2
        rw [fu_s, getD_set (by omega), if_pos rfl, dig_2 neg (dg_rng hd) (dg_rng h2d.2), List.set_set, fu_fu] at e54b
        have tk : mm_call G0 51 [.ref 42, .int 5, .int (t (r + 1))] (HP I1 (fu A 46 ((A 46).set c (sgn neg (t r - 48)))) L F E) = some (some (.int 6), HP I1 (fu A 46 ((A 46).set c (sgn neg (10 * (t r - 48) + (t (r + 1) - 48))))) L F E) := by
          rw [sg_X6_take_0, if_neg (by decide), if_neg (by decide), if_neg (by decide), if_neg (by decide), if_neg (by decide), if_pos rfl, if_pos h2d.2, e54b, Option.bind_some]
          exact sg_X6_take_114 5 (t (r + 1)) 6
        have st2 := fx_go hn g1 (by rw [fu_n _ _ (by decide)]; exact l43) ht1 h2d.1 tk (by decide)
        exact ⟨I1, fu A 46 ((A 46).set c (sgn neg (10 * (t r - 48) + (t (r + 1) - 48)))), 6, st.trans st2, k1.tr (cx_46 (by rw [List.length_set])), Or.inl rfl, by omega, g2, fu_n _ _ (by decide), fu_n _ _ (by decide), fu_s _ _ _⟩
      · rw [if_neg h2d]
        refine ⟨I1, fu A 46 ((A 46).set c (sgn neg (t r - 48))), 5, st, k2, Or.inr ⟨rfl, ?_⟩, by omega, g2, fu_n _ _ (by decide), fu_n _ _ (by decide), fu_s _ _ _⟩
        by_cases z : n ≤ r + 1
        · exact Or.inl z
        · exact Or.inr (fun y => h2d ⟨by omega, y⟩)
    · rw [if_neg hd]
      exact ⟨I1, A, fx_no hn h1 l43 ht (show r < n by omega) (htk' _ _ (td_no hd)), k1⟩
theorem clause_x {t : Nat → Int32} {n p c : Nat} (hn : n ≤ 100) (h1 : I 4201 = nI n) (hc : c < 12) (h2 : I 4202 = nI c) (hs : Shp A L) (ht : ∀ j, j < n → (A 43).getD j 0 = t j) (hp : p ≤ n) : Cw t n p c I A L F E 0 (pcl t n p) := by
  have l43 := hs.i (a := 43) (n := 100) (by decide)
  have l44 := hs.i (a := 44) (n := 12) (by decide)
  have l45 := hs.i (a := 45) (n := 12) (by decide)
  have l46 := hs.i (a := 46) (n := 12) (by decide)
  unfold pcl
  by_cases hnp : n ≤ p
  · rw [if_pos hnp]
    have e : n = p := by omega
    exact ⟨I, A, by rw [fx_end hn h1 hnp (by omega) (by decide) (by decide), e], CX.rfl'⟩
  rw [if_neg hnp]
  by_cases hL : okL (t p)
  rotate_left 1
  · rw [if_neg hL]
    exact ⟨I, A, fx_no hn h1 l43 ht (by omega) (tl_no hL), CX.rfl'⟩
  rw [if_pos hL]
  have st1 := fx_go (L := L) (F := F) (E := E) hn h1 l43 ht (show p < n by omega) (tl_ok hc h2 l44 l46 hL) (by decide)
  obtain ⟨I1, hI1⟩ : ∃ I1, fu (fu I 4202 (nI (c + 1))) 4206 0 = I1 := ⟨_, rfl⟩
  obtain ⟨A1, hA1⟩ : ∃ A1, fu (fu A 44 ((A 44).set c (t p))) 46 ((A 46).set c 0) = A1 := ⟨_, rfl⟩
  rw [hI1, hA1] at st1
  have k1 : CX I A I1 A1 := by
    refine ⟨fun x q1 q2 => by rw [← hI1, fu_n _ _ q2, fu_n _ _ q1], fun a q1 q2 q3 => by rw [← hA1, fu_n _ _ q3, fu_n _ _ q1], fun a => ?_⟩
    rw [← hA1]
    by_cases e : a = 46
    · rw [e, fu_s, List.length_set]
    · rw [fu_n _ _ e]
      by_cases e2 : a = 44
      · rw [e2, fu_s, List.length_set]
      · rw [fu_n _ _ e2]
  have g1 : I1 4201 = nI n := (k1.1 _ (by decide) (by decide)).trans h1
  have g2 : I1 4202 = nI (c + 1) := by rw [← hI1, fu_n _ _ (by decide), fu_s]
  have g6 : I1 4206 = 0 := by rw [← hI1, fu_s]
  have s1 : Shp A1 L := hs.cg k1.2.2
  have m43 := s1.i (a := 43) (n := 100) (by decide)
  have m44 := s1.i (a := 44) (n := 12) (by decide)
  have m45 := s1.i (a := 45) (n := 12) (by decide)
  have ht1 : ∀ j, j < n → (A1 43).getD j 0 = t j := fun j hj => by rw [k1.2.1 _ (by decide) (by decide) (by decide)]; exact ht j hj
  have a44 : A1 44 = (A 44).set c (t p) := by rw [← hA1, fu_n _ _ (by decide), fu_s]
  have a45 : A1 45 = A 45 := by rw [← hA1, fu_n _ _ (by decide), fu_n _ _ (by decide)]
  have a46 : A1 46 = (A 46).set c 0 := by rw [← hA1, fu_s]
  have e44 : (A1 44).getD c 0 = t p := by rw [a44, getD_set (by omega), if_pos rfl]
  by_cases hnp1 : n ≤ p + 1
  · rw [if_pos hnp1]
    have e : n = p + 1 := by omega
    exact ⟨I1, A1, by rw [st1, fx_end hn g1 hnp1 (by omega) (by decide) (by decide)]; rw [e], k1⟩
  rw [if_neg hnp1]
  by_cases hD : dgp (t (p + 1))
  rotate_left 1
  · rw [if_neg hD]
    exact ⟨I1, A1, st1.trans (fx_no hn g1 m43 ht1 (by omega) (tw_no hD)), k1⟩
  rw [if_pos hD]
  have st2 := fx_go (L := L) (F := F) (E := E) hn g1 m43 ht1 (show p + 1 < n by omega) (tw_ok hc g2 m44 m45 hD) (by split <;> decide)
  rw [e44, a45] at st2
  obtain ⟨A2, hA2⟩ : ∃ A2, fu A1 45 ((A 45).set c (t (p + 1) - 48)) = A2 := ⟨_, rfl⟩
  rw [hA2] at st2
  have k2' : CX I1 A1 I1 A2 := by
    rw [← hA2]
    exact cx_45 (by rw [List.length_set, a45])
  have k2 : CX I A I1 A2 := k1.tr k2'
  have s2 : Shp A2 L := hs.cg k2.2.2
  have ht2 : ∀ j, j < n → (A2 43).getD j 0 = t j := fun j hj => by rw [k2.2.1 _ (by decide) (by decide) (by decide)]; exact ht j hj
  have b44 : A2 44 = (A 44).set c (t p) := by rw [← hA2, fu_n _ _ (by decide), a44]
  have b45 : A2 45 = (A 45).set c (t (p + 1) - 48) := by rw [← hA2, fu_s]
  have b46 : A2 46 = (A 46).set c 0 := by rw [← hA2, fu_n _ _ (by decide), a46]
  have e46 : (A2 46).getD c 0 = 0 := by rw [b46, getD_set (by omega), if_pos rfl]
  have n43 := s2.i (a := 43) (n := 100) (by decide)
  have n46 := s2.i (a := 46) (n := 12) (by decide)
  have st := st1.trans st2
  by_cases hN : okN (t p) = true
  · rw [if_pos hN] at st ⊢
    -- what a number's end gives the clause
    have fin : ∀ (r : Nat) (neg : Bool) (due : Int32) (I2 : Nat → Int32), CX I A I2 A2 → mm_run G0 50 9 [some (.ref 42), some (.int 0), some (.int (nI p))] [] (HP I A L F E) = mm_run G0 50 9 [some (.ref 42), some (.int due), some (.int (nI r))] [] (HP I2 A2 L F E) → (match pn2 t n r neg with
        | .inl q => ∃ (I' : Nat → Int32) (A' : Nat → List Int32), mm_run G0 50 9 [some (.ref 42), some (.int due), some (.int (nI r))] [] (HP I2 A2 L F E) = some (some (.int (nI q)), HP I' A' L F E) ∧ CX I2 A2 I' A'
        | .inr (v, q) => ∃ (I' : Nat → Int32) (A' : Nat → List Int32) (due' : Int32), mm_run G0 50 9 [some (.ref 42), some (.int due), some (.int (nI r))] [] (HP I2 A2 L F E) = mm_run G0 50 9 [some (.ref 42), some (.int due'), some (.int (nI q))] [] (HP I' A' L F E) ∧ CX I2 A2 I' A' ∧ Dq due' t n q ∧ q ≤ n ∧ I' 4202 = nI (c + 1) ∧ A' 44 = A2 44 ∧ A' 45 = A2 45 ∧ A' 46 = (A2 46).set c v) → pnm t n (p + 2) = pn2 t n r neg → Cw t n p c I A L F E 0 (match pnm t n (p + 2) with
          | .inl q => .inl q
          | .inr (v, q) => .inr ((t p, t (p + 1) - 48, v), q)) := by
      intro r neg due I2 kk stt hx hpn
      rw [hpn]
      cases hR : pn2 t n r neg with
      | inl q =>
        rw [hR] at hx
        obtain ⟨I', A', x1, x2⟩ := hx
        exact ⟨I', A', stt.trans x1, kk.tr x2⟩
      | inr vq =>
        obtain ⟨v, q⟩ := vq
        rw [hR] at hx
        obtain ⟨I', A', due', x1, x2, x3, x4, x5, x6, x7, x8⟩ := hx
        exact ⟨I', A', due', stt.trans x1, kk.tr x2, x3, x4, x5, x6.trans b44, x7.trans b45, by rw [x8, b46, List.set_set]⟩
    by_cases hm : p + 2 < n ∧ t (p + 2) = 45
    · have tk : mm_call G0 51 [.ref 42, .int 3, .int (t (p + 2))] (HP I1 A2 L F E) = some (some (.int 4), HP (fu I1 4206 1) A2 L F E) := by
        rw [sg_X6_take_0, if_neg (by decide), if_neg (by decide), if_neg (by decide), if_pos rfl, if_neg (fun q => q hm.2)]
      have st3 := fx_go (L := L) (F := F) (E := E) hn g1 n43 ht2 hm.1 tk (by decide)
      have k3 : CX I1 A2 (fu I1 4206 1) A2 := ⟨fun x _ q => fu_n _ _ q, fun _ _ _ _ => rfl, fun _ => rfl⟩
      have f2 : (fu I1 4206 1) 4202 = nI (c + 1) := by rw [fu_n _ _ (by decide)]; exact g2
      refine fin (p + 3) true 4 (fu I1 4206 1) (k2.tr k3) (st.trans st3) ?_ (by unfold pnm; rw [if_pos hm])
      refine num_x hn (by rw [fu_n _ _ (by decide)]; exact g1) hc f2 s2 ht2 true (by omega) e46 (by decide) (fun hr => ⟨fu I1 4206 1, CX.rfl', f2, fu_s _ _ _, fun s A3 h => ?_⟩)
      rw [sg_X6_take_0, if_neg (by decide), if_neg (by decide), if_neg (by decide), if_neg (by decide), if_pos rfl, h, Option.bind_some]
      exact sg_X6_take_99 4 _ s
    · refine fin (p + 2) false 3 I1 k2 st ?_ (by unfold pnm; rw [if_neg hm])
      refine num_x hn g1 hc g2 s2 ht2 false (by omega) e46 (by decide) (fun hr => ⟨fu I1 4206 0, ⟨fun x _ q => fu_n _ _ q, fun _ _ _ _ => rfl, fun _ => rfl⟩, by rw [fu_n _ _ (by decide)]; exact g2, fu_s _ _ _, fun s A3 h => ?_⟩)
      rw [sg_X6_take_0, if_neg (by decide), if_neg (by decide), if_neg (by decide), if_pos rfl, if_pos (show t (p + 2) ≠ 45 from fun q => hm ⟨hr, q⟩), h, Option.bind_some]
      exact sg_X6_take_92 3 _ s
  · rw [if_neg hN] at st ⊢
    by_cases hn2 : n ≤ p + 2
    · rw [if_pos hn2]
      have e : n = p + 2 := by omega
      exact ⟨I1, A2, by rw [st, fx_end hn g1 hn2 (by omega) (by decide) (by decide)]; rw [e], k2⟩
    rw [if_neg hn2]
    by_cases hD2 : dgp (t (p + 2))
    · rw [if_pos hD2]
      have e54 := td_ok (I := I1) (A := A2) (L := L) (F := F) (E := E) (th := 6) hc g2 n46 false g6 hD2
      rw [e46, dig_1 false (dg_rng hD2)] at e54
      have tk : mm_call G0 51 [.ref 42, .int 2, .int (t (p + 2))] (HP I1 A2 L F E) = some (some (.int 6), HP I1 (fu A2 46 ((A2 46).set c (t (p + 2) - 48))) L F E) := by
        rw [sg_X6_take_0, if_neg (by decide), if_neg (by decide), if_pos rfl, e54, Option.bind_some]
        exact sg_X6_take_59 2 _ 6
      have st3 := fx_go (L := L) (F := F) (E := E) hn g1 n43 ht2 (show p + 2 < n by omega) tk (by decide)
      exact ⟨I1, fu A2 46 ((A2 46).set c (t (p + 2) - 48)), 6, st.trans st3, k2.tr (cx_46 (by rw [List.length_set])), Or.inl rfl, by omega, g2, by rw [fu_n _ _ (by decide)]; exact b44, by rw [fu_n _ _ (by decide)]; exact b45, by rw [fu_s, b46, List.set_set]⟩
    · rw [if_neg hD2]
      have tk : mm_call G0 51 [.ref 42, .int 2, .int (t (p + 2))] (HP I1 A2 L F E) = some (some (.int (-1)), HP I1 A2 L F E) := by
        rw [sg_X6_take_0, if_neg (by decide), if_neg (by decide), if_pos rfl, td_no hD2, Option.bind_some]
        exact sg_X6_take_59 2 _ (-1)
      exact ⟨I1, A2, st.trans (fx_no hn g1 n43 ht2 (by omega) tk), k2⟩
end PAX
