/-! printed by program: the methods by equations -/
/-- a truth value out of a case distinction -/
theorem bi_not {β : Type} {a : Prop} [Decidable a] {f : Int32 → β} : (if a then f 0 else f 1) = f (bi (decide (¬ a))) := by
  by_cases h : a
  · rw [if_pos h, decide_eq_false (fun q => q h)]; rfl
  · rw [if_neg h, decide_eq_true h]; rfl
theorem bi_and {β : Type} {a b : Prop} [Decidable a] [Decidable b] {f : Int32 → β} : (if a then f 0 else if b then f 0 else f 1) = f (bi (decide (¬ a ∧ ¬ b))) := by
  by_cases h : a
  · rw [if_pos h, decide_eq_false (fun q => q.1 h)]; rfl
  · by_cases h2 : b
    · rw [if_neg h, if_pos h2, decide_eq_false (fun q => q.2 h2)]; rfl
    · rw [if_neg h, if_neg h2, decide_eq_true ⟨h, h2⟩]; rfl
theorem bi_or {β : Type} {a b : Prop} [Decidable a] [Decidable b] {f : Int32 → β} : (if a then f 1 else if ¬ b then f 0 else f 1) = f (bi (decide (a ∨ b))) := by
  by_cases h : a
  · rw [if_pos h, decide_eq_true (Or.inl h)]; rfl
  · by_cases h2 : b
    · rw [if_neg h, if_neg (fun q => q h2), decide_eq_true (Or.inr h2)]; rfl
    · rw [if_neg h, if_pos h2, decide_eq_false (fun q => q.elim h h2)]; rfl
def sby (k l : Int32) : Int32 := if k = 1 ∨ k = 3 then l / 2 else 0
def ofv (k p : Int32) : Int32 := if k = 2 ∨ k = 3 then imax (-5) (imin 5 p) else p
def stg (f0 f1 f2 f3 f4 w : Int32) : Int32 := if w = 0 then f0 else if w = 1 then f1 else if w = 2 then f2 else if w = 3 then f3 else if w = 4 then f4 else sby f0 f3
def okS (w v : Int32) : Bool := if w = 0 then (if v < 0 then false else if 4 < v then false else true) else if w = 1 then (if v < (-20) then false else if 20 < v then false else true) else if w = 2 then (if v < 0 then false else if 5 < v then false else true) else if w = 3 then (if v < 1 then false else if 12 < v then false else true) else false
def okF (w v : Int32) : Bool := if w = 0 then (if v < 0 then false else if 4 < v then false else true) else if w = 1 then (if v < (-20) then false else if 20 < v then false else true) else if w = 2 then (if v < 0 then false else if 5 < v then false else true) else if v < 1 then false else if 12 < v then false else true
def okN (s : Int32) : Bool := if s = 118 then true else if s = 116 then true else if s ≠ 108 then false else true
section SGB
variable {mi : Nat} {t : List (Nat × Act)} {pc n : Nat} {L : ML} {h : MH} {r : List Value}
theorem sg_bnB {b : Bool} (ht : ∀ pc, mm_act G0 mi pc = t.lookup pc) {tg : Nat} (e : t.lookup pc = some (ac_if (fun x => decide (x ≠ 0)) tg n)) : mm_run G0 mi pc L (.int (bi b) :: r) h = if b = true then mm_run G0 mi tg L r h else mm_run G0 mi n L r h := by
  have := sg_bn (c := b = true) (L := L) (h := h) (r := r) ht e
  rw [Bool.decide_eq_true] at this
  exact this
theorem sg_beB {b : Bool} (ht : ∀ pc, mm_act G0 mi pc = t.lookup pc) {tg : Nat} (e : t.lookup pc = some (ac_if (fun x => decide (x = 0)) tg n)) : mm_run G0 mi pc L (.int (bi b) :: r) h = if b = true then mm_run G0 mi n L r h else mm_run G0 mi tg L r h := by
  have := sg_be (c := b = true) (L := L) (h := h) (r := r) ht e
  rw [Bool.decide_eq_true] at this
  exact this
end SGB
set_option maxRecDepth 20000 in
theorem sg_X4_isFull_0 {I : Nat → Int32} {A : Nat → List Int32} {L : Nat → List Int64} {F : Nat → Int64} {E : MH} {b0 : Nat} (hb0 : isS b0) : mm_call G0 29 [.ref b0] (HP I A L F E) = (if (I (100 * b0 + 4)) < 40 then some (some (.int 0), (HP I A L F E)) else some (some (.int 1), (HP I A L F E))) := by
  show mm_run G0 29 0 [some (.ref b0)] [] (HP I A L F E) = _
  refine (sg_go ht_X4_isFull (k := 1) (pc' := 1) (L' := [some (.ref b0)]) (st' := [.ref b0]) (h' := (HP I A L F E)) rfl).trans ?_
  refine (sg_getI ht_X4_isFull rfl (sS_obj hb0) rfl).trans ?_
  refine (sg_go ht_X4_isFull (k := 1) (pc' := 6) (L' := [some (.ref b0)]) (st' := [.int 40, .int (I (100 * b0 + 4))]) (h' := (HP I A L F E)) rfl).trans ?_
  refine (sg_cmp ht_X4_isFull rfl).trans ?_
  refine ite_congr rfl (fun _ => ?_) (fun _ => ?_)
  · refine (sg_go ht_X4_isFull (k := 1) (pc' := 14) (L' := [some (.ref b0)]) (st' := [.int 0]) (h' := (HP I A L F E)) rfl).trans ?_
    exact sg_ret ht_X4_isFull rfl rfl
  · refine (sg_go ht_X4_isFull (k := 2) (pc' := 14) (L' := [some (.ref b0)]) (st' := [.int 1]) (h' := (HP I A L F E)) rfl).trans ?_
    exact sg_ret ht_X4_isFull rfl rfl
theorem sp_X4_isFull {I : Nat → Int32} {A : Nat → List Int32} {L : Nat → List Int64} {F : Nat → Int64} {E : MH} {b0 : Nat} (hb0 : isS b0) : mm_call G0 29 [.ref b0] (HP I A L F E) = some (some (.int (bi (decide (¬ (I (100 * b0 + 4)) < 40)))), (HP I A L F E)) := by
  rw [sg_X4_isFull_0 hb0]
  exact bi_not (f := fun z => some (some (Value.int z), HP I A L F E))
set_option maxRecDepth 20000 in
theorem sg_X4_has_0 {I : Nat → Int32} {A : Nat → List Int32} {L : Nat → List Int64} {F : Nat → Int64} {E : MH} {b0 : Nat} (hb0 : isS b0) (p1 : Int32) : mm_call G0 30 [.ref b0, .int p1] (HP I A L F E) = (if p1 < 0 then some (some (.int 0), (HP I A L F E)) else (if (I (100 * b0 + 4)) ≤ p1 then some (some (.int 0), (HP I A L F E)) else some (some (.int 1), (HP I A L F E)))) := by
  show mm_run G0 30 0 [some (.ref b0), some (.int p1)] [] (HP I A L F E) = _
  refine (sg_go ht_X4_has (k := 1) (pc' := 1) (L' := [some (.ref b0), some (.int p1)]) (st' := [.int p1]) (h' := (HP I A L F E)) rfl).trans ?_
  refine (sg_if ht_X4_has rfl).trans ?_
  refine ite_congr rfl (fun _ => ?_) (fun _ => ?_)
  · refine (sg_go ht_X4_has (k := 1) (pc' := 17) (L' := [some (.ref b0), some (.int p1)]) (st' := [.int 0]) (h' := (HP I A L F E)) rfl).trans ?_
    exact sg_ret ht_X4_has rfl rfl
  · refine (sg_go ht_X4_has (k := 2) (pc' := 6) (L' := [some (.ref b0), some (.int p1)]) (st' := [.ref b0, .int p1]) (h' := (HP I A L F E)) rfl).trans ?_
    refine (sg_getI ht_X4_has rfl (sS_obj hb0) rfl).trans ?_
    refine (sg_cmp ht_X4_has rfl).trans ?_
    refine ite_congr rfl (fun _ => ?_) (fun _ => ?_)
    · refine (sg_go ht_X4_has (k := 1) (pc' := 17) (L' := [some (.ref b0), some (.int p1)]) (st' := [.int 0]) (h' := (HP I A L F E)) rfl).trans ?_
      exact sg_ret ht_X4_has rfl rfl
    · refine (sg_go ht_X4_has (k := 2) (pc' := 17) (L' := [some (.ref b0), some (.int p1)]) (st' := [.int 1]) (h' := (HP I A L F E)) rfl).trans ?_
      exact sg_ret ht_X4_has rfl rfl
theorem sp_X4_has {I : Nat → Int32} {A : Nat → List Int32} {L : Nat → List Int64} {F : Nat → Int64} {E : MH} {b0 : Nat} (hb0 : isS b0) (p1 : Int32) : mm_call G0 30 [.ref b0, .int p1] (HP I A L F E) = some (some (.int (bi (decide (¬ p1 < 0 ∧ ¬ (I (100 * b0 + 4)) ≤ p1)))), (HP I A L F E)) := by
  rw [sg_X4_has_0 hb0 p1]
  exact bi_and (f := fun z => some (some (Value.int z), HP I A L F E))
set_option maxRecDepth 20000 in
theorem sg_X4_add_0 {I : Nat → Int32} {A : Nat → List Int32} {L : Nat → List Int64} {F : Nat → Int64} {E : MH} {b0 : Nat} (hb0 : isS b0) (p1 : Int32) : mm_call G0 31 [.ref b0, .int p1] (HP I A L F E) = (if ¬ (I (100 * b0 + 4)) < 40 then some (none, (HP I A L F E)) else ((stI (A (b0 + 1)) (I (100 * b0 + 4)) p1).bind fun X1 => some (none, (HP (fu I (100 * b0 + 4) ((I (100 * b0 + 4)) + 1)) (fu A (b0 + 1) X1) L F E)))) := by
  show mm_run G0 31 0 [some (.ref b0), some (.int p1)] [] (HP I A L F E) = _
  refine (sg_go ht_X4_add (k := 1) (pc' := 1) (L' := [some (.ref b0), some (.int p1)]) (st' := [.ref b0]) (h' := (HP I A L F E)) rfl).trans ?_
  refine (sg_callV ht_X4_add (mj := 29) (as := [.ref b0]) (rest := []) rfl rfl rfl (Nat.le_of_ble_eq_true rfl) (sS_obj hb0) ⟨by decide, Nat.le_of_ble_eq_true rfl⟩).trans ?_
  refine (bind_eq (sp_X4_isFull hb0)).trans ?_
  show mm_run G0 31 4 [some (.ref b0), some (.int p1)] [.int (bi (decide (¬ (I (100 * b0 + 4)) < 40)))] (HP I A L F E) = _
  refine (sg_be ht_X4_add rfl).trans ?_
  refine ite_congr rfl (fun _ => ?_) (fun _ => ?_)
  · exact sg_ret ht_X4_add rfl rfl
  · refine (sg_go ht_X4_add (k := 1) (pc' := 9) (L' := [some (.ref b0), some (.int p1)]) (st' := [.ref b0]) (h' := (HP I A L F E)) rfl).trans ?_
    refine (sg_getR ht_X4_add rfl (sS_obj hb0) rfl).trans ?_
    refine (sg_go ht_X4_add (k := 1) (pc' := 13) (L' := [some (.ref b0), some (.int p1)]) (st' := [.ref b0, .ref (b0 + 1)]) (h' := (HP I A L F E)) rfl).trans ?_
    refine (sg_getI ht_X4_add rfl (sS_obj hb0) rfl).trans ?_
    refine (sg_go ht_X4_add (k := 1) (pc' := 17) (L' := [some (.ref b0), some (.int p1)]) (st' := [.int p1, .int (I (100 * b0 + 4)), .ref (b0 + 1)]) (h' := (HP I A L F E)) rfl).trans ?_
    refine (sg_stI (hh := fun X1 => (HP I (fu A (b0 + 1) X1) L F E)) ht_X4_add rfl (sS_ar1 hb0) (fun _ => sS_ast1 hb0)).trans ?_
    refine bind_cg fun X1 hX1 => ?_
    refine (sg_go ht_X4_add (k := 2) (pc' := 20) (L' := [some (.ref b0), some (.int p1)]) (st' := [.ref b0, .ref b0]) (h' := (HP I (fu A (b0 + 1) X1) L F E)) rfl).trans ?_
    refine (sg_getI ht_X4_add rfl (sS_obj hb0) rfl).trans ?_
    refine (sg_go ht_X4_add (k := 2) (pc' := 25) (L' := [some (.ref b0), some (.int p1)]) (st' := [.int ((I (100 * b0 + 4)) + 1), .ref b0]) (h' := (HP I (fu A (b0 + 1) X1) L F E)) rfl).trans ?_
    refine (sg_putI (h' := (HP (fu I (100 * b0 + 4) ((I (100 * b0 + 4)) + 1)) (fu A (b0 + 1) X1) L F E)) ht_X4_add rfl (sS_obj hb0) (Nat.le_of_ble_eq_true rfl) (sS_put4 hb0)).trans ?_
    exact sg_ret ht_X4_add rfl rfl
set_option maxRecDepth 20000 in
theorem sg_X4_startBy_0 {I : Nat → Int32} {A : Nat → List Int32} {L : Nat → List Int64} {F : Nat → Int64} {E : MH} {b0 : Nat} (hb0 : isS b0) (p1 : Int32) : mm_call G0 36 [.ref b0, .int p1] (HP I A L F E) = (if (I (100 * b0 + 0)) = 1 then some (some (.int (p1 / 2)), (HP I A L F E)) else (if (I (100 * b0 + 0)) ≠ 3 then some (some (.int 0), (HP I A L F E)) else some (some (.int (p1 / 2)), (HP I A L F E)))) := by
  show mm_run G0 36 0 [some (.ref b0), some (.int p1)] [] (HP I A L F E) = _
  refine (sg_go ht_X4_startBy (k := 1) (pc' := 1) (L' := [some (.ref b0), some (.int p1)]) (st' := [.ref b0]) (h' := (HP I A L F E)) rfl).trans ?_
  refine (sg_getI ht_X4_startBy rfl (sS_obj hb0) rfl).trans ?_
  refine (sg_go ht_X4_startBy (k := 1) (pc' := 5) (L' := [some (.ref b0), some (.int p1)]) (st' := [.int 1, .int (I (100 * b0 + 0))]) (h' := (HP I A L F E)) rfl).trans ?_
  refine (sg_cmp ht_X4_startBy rfl).trans ?_
  refine ite_congr rfl (fun _ => ?_) (fun _ => ?_)
  · refine (sg_go ht_X4_startBy (k := 4) (pc' := 23) (L' := [some (.ref b0), some (.int p1)]) (st' := [.int (p1 / 2)]) (h' := (HP I A L F E)) rfl).trans ?_
    exact sg_ret ht_X4_startBy rfl rfl
  · refine (sg_go ht_X4_startBy (k := 1) (pc' := 9) (L' := [some (.ref b0), some (.int p1)]) (st' := [.ref b0]) (h' := (HP I A L F E)) rfl).trans ?_
    refine (sg_getI ht_X4_startBy rfl (sS_obj hb0) rfl).trans ?_
    refine (sg_go ht_X4_startBy (k := 1) (pc' := 13) (L' := [some (.ref b0), some (.int p1)]) (st' := [.int 3, .int (I (100 * b0 + 0))]) (h' := (HP I A L F E)) rfl).trans ?_
    refine (sg_cmp ht_X4_startBy rfl).trans ?_
    refine ite_congr rfl (fun _ => ?_) (fun _ => ?_)
    · refine (sg_go ht_X4_startBy (k := 1) (pc' := 23) (L' := [some (.ref b0), some (.int p1)]) (st' := [.int 0]) (h' := (HP I A L F E)) rfl).trans ?_
      exact sg_ret ht_X4_startBy rfl rfl
    · refine (sg_go ht_X4_startBy (k := 4) (pc' := 23) (L' := [some (.ref b0), some (.int p1)]) (st' := [.int (p1 / 2)]) (h' := (HP I A L F E)) rfl).trans ?_
      exact sg_ret ht_X4_startBy rfl rfl
theorem sp_X4_startBy {I : Nat → Int32} {A : Nat → List Int32} {L : Nat → List Int64} {F : Nat → Int64} {E : MH} {b0 : Nat} (hb0 : isS b0) (p1 : Int32) : mm_call G0 36 [.ref b0, .int p1] (HP I A L F E) = some (some (.int (sby (I (100 * b0 + 0)) p1)), (HP I A L F E)) := by
  rw [sg_X4_startBy_0 hb0 p1]
  generalize I (100 * b0 + 0) = k0
  unfold sby
  by_cases h1 : k0 = 1 <;> by_cases h3 : k0 = 3 <;> simp [h1, h3]
set_option maxRecDepth 20000 in
theorem sg_X4_setting_0 {I : Nat → Int32} {A : Nat → List Int32} {L : Nat → List Int64} {F : Nat → Int64} {E : MH} {b0 : Nat} (hb0 : isS b0) (p1 : Int32) : mm_call G0 34 [.ref b0, .int p1] (HP I A L F E) = (if p1 = 0 then some (some (.int (I (100 * b0 + 0))), (HP I A L F E)) else (if p1 = 1 then some (some (.int (I (100 * b0 + 1))), (HP I A L F E)) else (if p1 = 2 then some (some (.int (I (100 * b0 + 2))), (HP I A L F E)) else (if p1 = 3 then some (some (.int (I (100 * b0 + 3))), (HP I A L F E)) else (if p1 = 4 then some (some (.int (I (100 * b0 + 4))), (HP I A L F E)) else some (some (.int (sby (I (100 * b0 + 0)) (I (100 * b0 + 3)))), (HP I A L F E))))))) := by
  show mm_run G0 34 0 [some (.ref b0), some (.int p1)] [] (HP I A L F E) = _
  refine (sg_go ht_X4_setting (k := 1) (pc' := 1) (L' := [some (.ref b0), some (.int p1)]) (st' := [.int p1]) (h' := (HP I A L F E)) rfl).trans ?_
  refine (sg_sw ht_X4_setting rfl).trans ?_
  rw [swt_cons (k := 0) (lo' := 1) (by decide) (by decide), run_ite]
  refine ite_congr rfl (fun _ => ?_) (fun _ => ?_)
  · refine (sg_go ht_X4_setting (k := 1) (pc' := 37) (L' := [some (.ref b0), some (.int p1)]) (st' := [.ref b0]) (h' := (HP I A L F E)) rfl).trans ?_
    refine (sg_getI ht_X4_setting rfl (sS_obj hb0) rfl).trans ?_
    exact sg_ret ht_X4_setting rfl rfl
  · rw [swt_cons (k := 1) (lo' := 2) (by decide) (by decide), run_ite]
    refine ite_congr rfl (fun _ => ?_) (fun _ => ?_)
    · refine (sg_go ht_X4_setting (k := 1) (pc' := 42) (L' := [some (.ref b0), some (.int p1)]) (st' := [.ref b0]) (h' := (HP I A L F E)) rfl).trans ?_
      refine (sg_getI ht_X4_setting rfl (sS_obj hb0) rfl).trans ?_
      exact sg_ret ht_X4_setting rfl rfl
    · rw [swt_cons (k := 2) (lo' := 3) (by decide) (by decide), run_ite]
      refine ite_congr rfl (fun _ => ?_) (fun _ => ?_)
      · refine (sg_go ht_X4_setting (k := 1) (pc' := 47) (L' := [some (.ref b0), some (.int p1)]) (st' := [.ref b0]) (h' := (HP I A L F E)) rfl).trans ?_
        refine (sg_getI ht_X4_setting rfl (sS_obj hb0) rfl).trans ?_
        exact sg_ret ht_X4_setting rfl rfl
      · rw [swt_cons (k := 3) (lo' := 4) (by decide) (by decide), run_ite]
        refine ite_congr rfl (fun _ => ?_) (fun _ => ?_)
        · refine (sg_go ht_X4_setting (k := 1) (pc' := 52) (L' := [some (.ref b0), some (.int p1)]) (st' := [.ref b0]) (h' := (HP I A L F E)) rfl).trans ?_
          refine (sg_getI ht_X4_setting rfl (sS_obj hb0) rfl).trans ?_
          exact sg_ret ht_X4_setting rfl rfl
        · rw [swt_cons (k := 4) (lo' := 5) (by decide) (by decide), run_ite]
          refine ite_congr rfl (fun _ => ?_) (fun _ => ?_)
          · refine (sg_go ht_X4_setting (k := 1) (pc' := 57) (L' := [some (.ref b0), some (.int p1)]) (st' := [.ref b0]) (h' := (HP I A L F E)) rfl).trans ?_
            refine (sg_getI ht_X4_setting rfl (sS_obj hb0) rfl).trans ?_
            exact sg_ret ht_X4_setting rfl rfl
          · rw [swt_nil]
            refine (sg_go ht_X4_setting (k := 2) (pc' := 63) (L' := [some (.ref b0), some (.int p1)]) (st' := [.ref b0, .ref b0]) (h' := (HP I A L F E)) rfl).trans ?_
            refine (sg_getI ht_X4_setting rfl (sS_obj hb0) rfl).trans ?_
            refine (sg_callV ht_X4_setting (mj := 36) (as := [.ref b0, .int (I (100 * b0 + 3))]) (rest := []) rfl rfl rfl (Nat.le_of_ble_eq_true rfl) (sS_obj hb0) ⟨by decide, Nat.le_of_ble_eq_true rfl⟩).trans ?_
            refine (bind_eq (sp_X4_startBy hb0 (I (100 * b0 + 3)))).trans ?_
            show mm_run G0 34 69 [some (.ref b0), some (.int p1)] [.int (sby (I (100 * b0 + 0)) (I (100 * b0 + 3)))] (HP I A L F E) = _
            exact sg_ret ht_X4_setting rfl rfl
theorem sp_X4_setting {I : Nat → Int32} {A : Nat → List Int32} {L : Nat → List Int64} {F : Nat → Int64} {E : MH} {b0 : Nat} (hb0 : isS b0) (p1 : Int32) : mm_call G0 34 [.ref b0, .int p1] (HP I A L F E) = some (some (.int (stg (I (100 * b0 + 0)) (I (100 * b0 + 1)) (I (100 * b0 + 2)) (I (100 * b0 + 3)) (I (100 * b0 + 4)) p1)), (HP I A L F E)) := by
  rw [sg_X4_setting_0 hb0 p1]
  unfold stg
  repeat' split
  all_goals rfl
set_option maxRecDepth 20000 in
theorem sg_X4_settle_0 {I : Nat → Int32} {A : Nat → List Int32} {L : Nat → List Int64} {F : Nat → Int64} {E : MH} {b0 : Nat} (hb0 : isS b0) (p1 : Int32) (p2 : Int32) : mm_call G0 35 [.ref b0, .int p1, .int p2] (HP I A L F E) = (if p1 = 0 then some (none, (HP (fu I (100 * b0 + 0) p2) A L F E)) else (if p1 = 1 then some (none, (HP (fu I (100 * b0 + 1) p2) A L F E)) else (if p1 = 2 then some (none, (HP (fu I (100 * b0 + 2) p2) A L F E)) else (if p1 = 3 then some (none, (HP (fu I (100 * b0 + 3) p2) A L F E)) else some (none, (HP I A L F E)))))) := by
  show mm_run G0 35 0 [some (.ref b0), some (.int p1), some (.int p2)] [] (HP I A L F E) = _
  refine (sg_go ht_X4_settle (k := 1) (pc' := 1) (L' := [some (.ref b0), some (.int p1), some (.int p2)]) (st' := [.int p1]) (h' := (HP I A L F E)) rfl).trans ?_
  refine (sg_sw ht_X4_settle rfl).trans ?_
  rw [swt_cons (k := 0) (lo' := 1) (by decide) (by decide), run_ite]
  refine ite_congr rfl (fun _ => ?_) (fun _ => ?_)
  · refine (sg_go ht_X4_settle (k := 2) (pc' := 34) (L' := [some (.ref b0), some (.int p1), some (.int p2)]) (st' := [.int p2, .ref b0]) (h' := (HP I A L F E)) rfl).trans ?_
    refine (sg_putI (h' := (HP (fu I (100 * b0 + 0) p2) A L F E)) ht_X4_settle rfl (sS_obj hb0) (Nat.le_of_ble_eq_true rfl) (sS_put0 hb0)).trans ?_
    refine (sg_go ht_X4_settle (k := 1) (pc' := 64) (L' := [some (.ref b0), some (.int p1), some (.int p2)]) (st' := []) (h' := (HP (fu I (100 * b0 + 0) p2) A L F E)) rfl).trans ?_
    exact sg_ret ht_X4_settle rfl rfl
  · rw [swt_cons (k := 1) (lo' := 2) (by decide) (by decide), run_ite]
    refine ite_congr rfl (fun _ => ?_) (fun _ => ?_)
    · refine (sg_go ht_X4_settle (k := 2) (pc' := 42) (L' := [some (.ref b0), some (.int p1), some (.int p2)]) (st' := [.int p2, .ref b0]) (h' := (HP I A L F E)) rfl).trans ?_
      refine (sg_putI (h' := (HP (fu I (100 * b0 + 1) p2) A L F E)) ht_X4_settle rfl (sS_obj hb0) (Nat.le_of_ble_eq_true rfl) (sS_put1 hb0)).trans ?_
      refine (sg_go ht_X4_settle (k := 1) (pc' := 64) (L' := [some (.ref b0), some (.int p1), some (.int p2)]) (st' := []) (h' := (HP (fu I (100 * b0 + 1) p2) A L F E)) rfl).trans ?_
      exact sg_ret ht_X4_settle rfl rfl
    · rw [swt_cons (k := 2) (lo' := 3) (by decide) (by decide), run_ite]
      refine ite_congr rfl (fun _ => ?_) (fun _ => ?_)
      · refine (sg_go ht_X4_settle (k := 2) (pc' := 50) (L' := [some (.ref b0), some (.int p1), some (.int p2)]) (st' := [.int p2, .ref b0]) (h' := (HP I A L F E)) rfl).trans ?_
        refine (sg_putI (h' := (HP (fu I (100 * b0 + 2) p2) A L F E)) ht_X4_settle rfl (sS_obj hb0) (Nat.le_of_ble_eq_true rfl) (sS_put2 hb0)).trans ?_
        refine (sg_go ht_X4_settle (k := 1) (pc' := 64) (L' := [some (.ref b0), some (.int p1), some (.int p2)]) (st' := []) (h' := (HP (fu I (100 * b0 + 2) p2) A L F E)) rfl).trans ?_
        exact sg_ret ht_X4_settle rfl rfl
      · rw [swt_cons (k := 3) (lo' := 4) (by decide) (by decide), run_ite]
        refine ite_congr rfl (fun _ => ?_) (fun _ => ?_)
        · refine (sg_go ht_X4_settle (k := 2) (pc' := 58) (L' := [some (.ref b0), some (.int p1), some (.int p2)]) (st' := [.int p2, .ref b0]) (h' := (HP I A L F E)) rfl).trans ?_
          refine (sg_putI (h' := (HP (fu I (100 * b0 + 3) p2) A L F E)) ht_X4_settle rfl (sS_obj hb0) (Nat.le_of_ble_eq_true rfl) (sS_put3 hb0)).trans ?_
          refine (sg_go ht_X4_settle (k := 1) (pc' := 64) (L' := [some (.ref b0), some (.int p1), some (.int p2)]) (st' := []) (h' := (HP (fu I (100 * b0 + 3) p2) A L F E)) rfl).trans ?_
          exact sg_ret ht_X4_settle rfl rfl
        · rw [swt_nil]
          exact sg_ret ht_X4_settle rfl rfl
set_option maxRecDepth 20000 in
theorem sg_X4_offset_0 {I : Nat → Int32} {A : Nat → List Int32} {L : Nat → List Int64} {F : Nat → Int64} {E : MH} {b0 : Nat} (hb0 : isS b0) (p1 : Int32) : mm_call G0 37 [.ref b0, .int p1] (HP I A L F E) = ((ldI (A (b0 + 1)) p1).bind fun x1 => (if (I (100 * b0 + 0)) = 2 then some (some (.int (imax (-5) (imin 5 (x1 - (I (100 * b0 + 1)))))), (HP I A L F E)) else (if (I (100 * b0 + 0)) = 3 then some (some (.int (imax (-5) (imin 5 (x1 - (I (100 * b0 + 1)))))), (HP I A L F E)) else some (some (.int (x1 - (I (100 * b0 + 1)))), (HP I A L F E))))) := by
  show mm_run G0 37 0 [some (.ref b0), some (.int p1), none] [] (HP I A L F E) = _
  refine (sg_go ht_X4_offset (k := 1) (pc' := 1) (L' := [some (.ref b0), some (.int p1), none]) (st' := [.ref b0]) (h' := (HP I A L F E)) rfl).trans ?_
  refine (sg_getR ht_X4_offset rfl (sS_obj hb0) rfl).trans ?_
  refine (sg_go ht_X4_offset (k := 1) (pc' := 5) (L' := [some (.ref b0), some (.int p1), none]) (st' := [.int p1, .ref (b0 + 1)]) (h' := (HP I A L F E)) rfl).trans ?_
  refine (sg_ldI ht_X4_offset rfl (sS_ar1 hb0)).trans ?_
  refine bind_cg fun x1 hx1 => ?_
  refine (sg_go ht_X4_offset (k := 1) (pc' := 7) (L' := [some (.ref b0), some (.int p1), none]) (st' := [.ref b0, .int x1]) (h' := (HP I A L F E)) rfl).trans ?_
  refine (sg_getI ht_X4_offset rfl (sS_obj hb0) rfl).trans ?_
  refine (sg_go ht_X4_offset (k := 3) (pc' := 13) (L' := [some (.ref b0), some (.int p1), some (.int (x1 - (I (100 * b0 + 1))))]) (st' := [.ref b0]) (h' := (HP I A L F E)) rfl).trans ?_
  refine (sg_getI ht_X4_offset rfl (sS_obj hb0) rfl).trans ?_
  refine (sg_go ht_X4_offset (k := 1) (pc' := 17) (L' := [some (.ref b0), some (.int p1), some (.int (x1 - (I (100 * b0 + 1))))]) (st' := [.int 2, .int (I (100 * b0 + 0))]) (h' := (HP I A L F E)) rfl).trans ?_
  refine (sg_cmp ht_X4_offset rfl).trans ?_
  refine ite_congr rfl (fun _ => ?_) (fun _ => ?_)
  · refine (sg_go ht_X4_offset (k := 5) (pc' := 40) (L' := [some (.ref b0), some (.int p1), some (.int (x1 - (I (100 * b0 + 1))))]) (st' := [.int (imax (-5) (imin 5 (x1 - (I (100 * b0 + 1)))))]) (h' := (HP I A L F E)) rfl).trans ?_
    exact sg_ret ht_X4_offset rfl rfl
  · refine (sg_go ht_X4_offset (k := 1) (pc' := 21) (L' := [some (.ref b0), some (.int p1), some (.int (x1 - (I (100 * b0 + 1))))]) (st' := [.ref b0]) (h' := (HP I A L F E)) rfl).trans ?_
    refine (sg_getI ht_X4_offset rfl (sS_obj hb0) rfl).trans ?_
    refine (sg_go ht_X4_offset (k := 1) (pc' := 25) (L' := [some (.ref b0), some (.int p1), some (.int (x1 - (I (100 * b0 + 1))))]) (st' := [.int 3, .int (I (100 * b0 + 0))]) (h' := (HP I A L F E)) rfl).trans ?_
    refine (sg_cmp ht_X4_offset rfl).trans ?_
    refine ite_congr rfl (fun _ => ?_) (fun _ => ?_)
    · refine (sg_go ht_X4_offset (k := 5) (pc' := 40) (L' := [some (.ref b0), some (.int p1), some (.int (x1 - (I (100 * b0 + 1))))]) (st' := [.int (imax (-5) (imin 5 (x1 - (I (100 * b0 + 1)))))]) (h' := (HP I A L F E)) rfl).trans ?_
      exact sg_ret ht_X4_offset rfl rfl
    · refine (sg_go ht_X4_offset (k := 1) (pc' := 29) (L' := [some (.ref b0), some (.int p1), some (.int (x1 - (I (100 * b0 + 1))))]) (st' := [.int (x1 - (I (100 * b0 + 1)))]) (h' := (HP I A L F E)) rfl).trans ?_
      exact sg_ret ht_X4_offset rfl rfl
theorem sp_X4_offset {I : Nat → Int32} {A : Nat → List Int32} {L : Nat → List Int64} {F : Nat → Int64} {E : MH} {b0 : Nat} (hb0 : isS b0) (p1 : Int32) : mm_call G0 37 [.ref b0, .int p1] (HP I A L F E) = ((ldI (A (b0 + 1)) p1).bind fun x1 => some (some (.int (ofv (I (100 * b0 + 0)) (x1 - (I (100 * b0 + 1))))), (HP I A L F E))) := by
  rw [sg_X4_offset_0 hb0 p1]
  refine bind_cg fun x1 _ => ?_
  generalize I (100 * b0 + 0) = k0
  unfold ofv
  by_cases h1 : k0 = 2 <;> by_cases h3 : k0 = 3 <;> simp [h1, h3]
set_option maxRecDepth 20000 in
theorem sg_X4_total_0 {I : Nat → Int32} {A : Nat → List Int32} {L : Nat → List Int64} {F : Nat → Int64} {E : MH} {b0 : Nat} (hb0 : isS b0) (p1 : Int32) : mm_call G0 38 [.ref b0, .int p1] (HP I A L F E) = mm_run G0 38 4 [some (.ref b0), some (.int p1), some (.int 0), some (.int 0)] [] (HP I A L F E) := by
  show mm_run G0 38 0 [some (.ref b0), some (.int p1), none, none] [] (HP I A L F E) = _
  refine (sg_go ht_X4_total (k := 4) (pc' := 4) (L' := [some (.ref b0), some (.int p1), some (.int 0), some (.int 0)]) (st' := []) (h' := (HP I A L F E)) rfl).trans ?_
  rfl
set_option maxRecDepth 20000 in
theorem sg_X4_total_4 {I : Nat → Int32} {A : Nat → List Int32} {L : Nat → List Int64} {F : Nat → Int64} {E : MH} {b0 : Nat} (hb0 : isS b0) (v1 : Int32) (v2 : Int32) (v3 : Int32) : mm_run G0 38 4 [some (.ref b0), some (.int v1), some (.int v2), some (.int v3)] [] (HP I A L F E) = (if v1 ≤ v3 then some (some (.int v2), (HP I A L F E)) else ((ldI (A (b0 + 1)) v3).bind fun x1 => mm_run G0 38 4 [some (.ref b0), some (.int v1), some (.int (v2 + x1)), some (.int (v3 + 1))] [] (HP I A L F E))) := by
  refine (sg_go ht_X4_total (k := 2) (pc' := 6) (L' := [some (.ref b0), some (.int v1), some (.int v2), some (.int v3)]) (st' := [.int v1, .int v3]) (h' := (HP I A L F E)) rfl).trans ?_
  refine (sg_cmp ht_X4_total rfl).trans ?_
  refine ite_congr rfl (fun _ => ?_) (fun _ => ?_)
  · refine (sg_go ht_X4_total (k := 1) (pc' := 25) (L' := [some (.ref b0), some (.int v1), some (.int v2), some (.int v3)]) (st' := [.int v2]) (h' := (HP I A L F E)) rfl).trans ?_
    exact sg_ret ht_X4_total rfl rfl
  · refine (sg_go ht_X4_total (k := 2) (pc' := 11) (L' := [some (.ref b0), some (.int v1), some (.int v2), some (.int v3)]) (st' := [.ref b0, .int v2]) (h' := (HP I A L F E)) rfl).trans ?_
    refine (sg_getR ht_X4_total rfl (sS_obj hb0) rfl).trans ?_
    refine (sg_go ht_X4_total (k := 1) (pc' := 15) (L' := [some (.ref b0), some (.int v1), some (.int v2), some (.int v3)]) (st' := [.int v3, .ref (b0 + 1), .int v2]) (h' := (HP I A L F E)) rfl).trans ?_
    refine (sg_ldI ht_X4_total rfl (sS_ar1 hb0)).trans ?_
    refine bind_cg fun x1 hx1 => ?_
    refine (sg_go ht_X4_total (k := 4) (pc' := 4) (L' := [some (.ref b0), some (.int v1), some (.int (v2 + x1)), some (.int (v3 + 1))]) (st' := []) (h' := (HP I A L F E)) rfl).trans ?_
    rfl
set_option maxRecDepth 20000 in
theorem sg_X4_loseFirst_0 {I : Nat → Int32} {A : Nat → List Int32} {L : Nat → List Int64} {F : Nat → Int64} {E : MH} {b0 : Nat} (hb0 : isS b0) (p1 : Int32) : mm_call G0 32 [.ref b0, .int p1] (HP I A L F E) = mm_run G0 32 11 [some (.ref b0), some (.int p1), some (.int (imin p1 (I (100 * b0 + 4)))), some (.int (imin p1 (I (100 * b0 + 4))))] [] (HP I A L F E) := by
  show mm_run G0 32 0 [some (.ref b0), some (.int p1), none, none] [] (HP I A L F E) = _
  refine (sg_go ht_X4_loseFirst (k := 2) (pc' := 2) (L' := [some (.ref b0), some (.int p1), none, none]) (st' := [.ref b0, .int p1]) (h' := (HP I A L F E)) rfl).trans ?_
  refine (sg_getI ht_X4_loseFirst rfl (sS_obj hb0) rfl).trans ?_
  refine (sg_go ht_X4_loseFirst (k := 4) (pc' := 11) (L' := [some (.ref b0), some (.int p1), some (.int (imin p1 (I (100 * b0 + 4)))), some (.int (imin p1 (I (100 * b0 + 4))))]) (st' := []) (h' := (HP I A L F E)) rfl).trans ?_
  rfl
set_option maxRecDepth 20000 in
theorem sg_X4_loseFirst_11 {I : Nat → Int32} {A : Nat → List Int32} {L : Nat → List Int64} {F : Nat → Int64} {E : MH} {b0 : Nat} (hb0 : isS b0) (v1 : Int32) (v2 : Int32) (v3 : Int32) : mm_run G0 32 11 [some (.ref b0), some (.int v1), some (.int v2), some (.int v3)] [] (HP I A L F E) = (if (I (100 * b0 + 4)) ≤ v3 then some (none, (HP (fu I (100 * b0 + 4) ((I (100 * b0 + 4)) - v2)) A L F E)) else ((ldI (A (b0 + 1)) v3).bind fun x1 => ((stI (A (b0 + 1)) (v3 - v2) x1).bind fun X2 => mm_run G0 32 11 [some (.ref b0), some (.int v1), some (.int v2), some (.int (v3 + 1))] [] (HP I (fu A (b0 + 1) X2) L F E)))) := by
  refine (sg_go ht_X4_loseFirst (k := 2) (pc' := 13) (L' := [some (.ref b0), some (.int v1), some (.int v2), some (.int v3)]) (st' := [.ref b0, .int v3]) (h' := (HP I A L F E)) rfl).trans ?_
  refine (sg_getI ht_X4_loseFirst rfl (sS_obj hb0) rfl).trans ?_
  refine (sg_cmp ht_X4_loseFirst rfl).trans ?_
  refine ite_congr rfl (fun _ => ?_) (fun _ => ?_)
  · refine (sg_go ht_X4_loseFirst (k := 2) (pc' := 41) (L' := [some (.ref b0), some (.int v1), some (.int v2), some (.int v3)]) (st' := [.ref b0, .ref b0]) (h' := (HP I A L F E)) rfl).trans ?_
    refine (sg_getI ht_X4_loseFirst rfl (sS_obj hb0) rfl).trans ?_
    refine (sg_go ht_X4_loseFirst (k := 2) (pc' := 46) (L' := [some (.ref b0), some (.int v1), some (.int v2), some (.int v3)]) (st' := [.int ((I (100 * b0 + 4)) - v2), .ref b0]) (h' := (HP I A L F E)) rfl).trans ?_
    refine (sg_putI (h' := (HP (fu I (100 * b0 + 4) ((I (100 * b0 + 4)) - v2)) A L F E)) ht_X4_loseFirst rfl (sS_obj hb0) (Nat.le_of_ble_eq_true rfl) (sS_put4 hb0)).trans ?_
    exact sg_ret ht_X4_loseFirst rfl rfl
  · refine (sg_go ht_X4_loseFirst (k := 1) (pc' := 20) (L' := [some (.ref b0), some (.int v1), some (.int v2), some (.int v3)]) (st' := [.ref b0]) (h' := (HP I A L F E)) rfl).trans ?_
    refine (sg_getR ht_X4_loseFirst rfl (sS_obj hb0) rfl).trans ?_
    refine (sg_go ht_X4_loseFirst (k := 4) (pc' := 27) (L' := [some (.ref b0), some (.int v1), some (.int v2), some (.int v3)]) (st' := [.ref b0, .int (v3 - v2), .ref (b0 + 1)]) (h' := (HP I A L F E)) rfl).trans ?_
    refine (sg_getR ht_X4_loseFirst rfl (sS_obj hb0) rfl).trans ?_
    refine (sg_go ht_X4_loseFirst (k := 1) (pc' := 31) (L' := [some (.ref b0), some (.int v1), some (.int v2), some (.int v3)]) (st' := [.int v3, .ref (b0 + 1), .int (v3 - v2), .ref (b0 + 1)]) (h' := (HP I A L F E)) rfl).trans ?_
    refine (sg_ldI ht_X4_loseFirst rfl (sS_ar1 hb0)).trans ?_
    refine bind_cg fun x1 hx1 => ?_
    refine (sg_stI (hh := fun X2 => (HP I (fu A (b0 + 1) X2) L F E)) ht_X4_loseFirst rfl (sS_ar1 hb0) (fun _ => sS_ast1 hb0)).trans ?_
    refine bind_cg fun X2 hX2 => ?_
    refine (sg_go ht_X4_loseFirst (k := 2) (pc' := 11) (L' := [some (.ref b0), some (.int v1), some (.int v2), some (.int (v3 + 1))]) (st' := []) (h' := (HP I (fu A (b0 + 1) X2) L F E)) rfl).trans ?_
    rfl
set_option maxRecDepth 20000 in
theorem sg_X4_become_0 {I : Nat → Int32} {A : Nat → List Int32} {L : Nat → List Int64} {F : Nat → Int64} {E : MH} {b0 : Nat} (hb0 : isS b0) {b1 : Nat} (hb1 : isS b1) : mm_call G0 33 [.ref b0, .ref b1] (HP I A L F E) = ((cpI (A (b1 + 1)) (A (b0 + 1)) 0 0 40).bind fun X1 => some (none, (HP (fu (fu (fu (fu (fu I (100 * b0 + 0) (I (100 * b1 + 0))) (100 * b0 + 1) ((fu I (100 * b0 + 0) (I (100 * b1 + 0))) (100 * b1 + 1))) (100 * b0 + 2) ((fu (fu I (100 * b0 + 0) (I (100 * b1 + 0))) (100 * b0 + 1) ((fu I (100 * b0 + 0) (I (100 * b1 + 0))) (100 * b1 + 1))) (100 * b1 + 2))) (100 * b0 + 3) ((fu (fu (fu I (100 * b0 + 0) (I (100 * b1 + 0))) (100 * b0 + 1) ((fu I (100 * b0 + 0) (I (100 * b1 + 0))) (100 * b1 + 1))) (100 * b0 + 2) ((fu (fu I (100 * b0 + 0) (I (100 * b1 + 0))) (100 * b0 + 1) ((fu I (100 * b0 + 0) (I (100 * b1 + 0))) (100 * b1 + 1))) (100 * b1 + 2))) (100 * b1 + 3))) (100 * b0 + 4) ((fu (fu (fu (fu I (100 * b0 + 0) (I (100 * b1 + 0))) (100 * b0 + 1) ((fu I (100 * b0 + 0) (I (100 * b1 + 0))) (100 * b1 + 1))) (100 * b0 + 2) ((fu (fu I (100 * b0 + 0) (I (100 * b1 + 0))) (100 * b0 + 1) ((fu I (100 * b0 + 0) (I (100 * b1 + 0))) (100 * b1 + 1))) (100 * b1 + 2))) (100 * b0 + 3) ((fu (fu (fu I (100 * b0 + 0) (I (100 * b1 + 0))) (100 * b0 + 1) ((fu I (100 * b0 + 0) (I (100 * b1 + 0))) (100 * b1 + 1))) (100 * b0 + 2) ((fu (fu I (100 * b0 + 0) (I (100 * b1 + 0))) (100 * b0 + 1) ((fu I (100 * b0 + 0) (I (100 * b1 + 0))) (100 * b1 + 1))) (100 * b1 + 2))) (100 * b1 + 3))) (100 * b1 + 4))) (fu A (b0 + 1) X1) L F E))) := by
  show mm_run G0 33 0 [some (.ref b0), some (.ref b1)] [] (HP I A L F E) = _
  refine (sg_go ht_X4_become (k := 2) (pc' := 2) (L' := [some (.ref b0), some (.ref b1)]) (st' := [.ref b1, .ref b0]) (h' := (HP I A L F E)) rfl).trans ?_
  refine (sg_getI ht_X4_become rfl (sS_obj hb1) rfl).trans ?_
  refine (sg_putI (h' := (HP (fu I (100 * b0 + 0) (I (100 * b1 + 0))) A L F E)) ht_X4_become rfl (sS_obj hb0) (Nat.le_of_ble_eq_true rfl) (sS_put0 hb0)).trans ?_
  refine (sg_go ht_X4_become (k := 2) (pc' := 10) (L' := [some (.ref b0), some (.ref b1)]) (st' := [.ref b1, .ref b0]) (h' := (HP (fu I (100 * b0 + 0) (I (100 * b1 + 0))) A L F E)) rfl).trans ?_
  refine (sg_getI ht_X4_become rfl (sS_obj hb1) rfl).trans ?_
  refine (sg_putI (h' := (HP (fu (fu I (100 * b0 + 0) (I (100 * b1 + 0))) (100 * b0 + 1) ((fu I (100 * b0 + 0) (I (100 * b1 + 0))) (100 * b1 + 1))) A L F E)) ht_X4_become rfl (sS_obj hb0) (Nat.le_of_ble_eq_true rfl) (sS_put1 hb0)).trans ?_
  refine (sg_go ht_X4_become (k := 2) (pc' := 18) (L' := [some (.ref b0), some (.ref b1)]) (st' := [.ref b1, .ref b0]) (h' := (HP (fu (fu I (100 * b0 + 0) (I (100 * b1 + 0))) (100 * b0 + 1) ((fu I (100 * b0 + 0) (I (100 * b1 + 0))) (100 * b1 + 1))) A L F E)) rfl).trans ?_
  refine (sg_getI ht_X4_become rfl (sS_obj hb1) rfl).trans ?_
  refine (sg_putI (h' := (HP (fu (fu (fu I (100 * b0 + 0) (I (100 * b1 + 0))) (100 * b0 + 1) ((fu I (100 * b0 + 0) (I (100 * b1 + 0))) (100 * b1 + 1))) (100 * b0 + 2) ((fu (fu I (100 * b0 + 0) (I (100 * b1 + 0))) (100 * b0 + 1) ((fu I (100 * b0 + 0) (I (100 * b1 + 0))) (100 * b1 + 1))) (100 * b1 + 2))) A L F E)) ht_X4_become rfl (sS_obj hb0) (Nat.le_of_ble_eq_true rfl) (sS_put2 hb0)).trans ?_
  refine (sg_go ht_X4_become (k := 2) (pc' := 26) (L' := [some (.ref b0), some (.ref b1)]) (st' := [.ref b1, .ref b0]) (h' := (HP (fu (fu (fu I (100 * b0 + 0) (I (100 * b1 + 0))) (100 * b0 + 1) ((fu I (100 * b0 + 0) (I (100 * b1 + 0))) (100 * b1 + 1))) (100 * b0 + 2) ((fu (fu I (100 * b0 + 0) (I (100 * b1 + 0))) (100 * b0 + 1) ((fu I (100 * b0 + 0) (I (100 * b1 + 0))) (100 * b1 + 1))) (100 * b1 + 2))) A L F E)) rfl).trans ?_
  refine (sg_getI ht_X4_become rfl (sS_obj hb1) rfl).trans ?_
  refine (sg_putI (h' := (HP (fu (fu (fu (fu I (100 * b0 + 0) (I (100 * b1 + 0))) (100 * b0 + 1) ((fu I (100 * b0 + 0) (I (100 * b1 + 0))) (100 * b1 + 1))) (100 * b0 + 2) ((fu (fu I (100 * b0 + 0) (I (100 * b1 + 0))) (100 * b0 + 1) ((fu I (100 * b0 + 0) (I (100 * b1 + 0))) (100 * b1 + 1))) (100 * b1 + 2))) (100 * b0 + 3) ((fu (fu (fu I (100 * b0 + 0) (I (100 * b1 + 0))) (100 * b0 + 1) ((fu I (100 * b0 + 0) (I (100 * b1 + 0))) (100 * b1 + 1))) (100 * b0 + 2) ((fu (fu I (100 * b0 + 0) (I (100 * b1 + 0))) (100 * b0 + 1) ((fu I (100 * b0 + 0) (I (100 * b1 + 0))) (100 * b1 + 1))) (100 * b1 + 2))) (100 * b1 + 3))) A L F E)) ht_X4_become rfl (sS_obj hb0) (Nat.le_of_ble_eq_true rfl) (sS_put3 hb0)).trans ?_
  refine (sg_go ht_X4_become (k := 2) (pc' := 34) (L' := [some (.ref b0), some (.ref b1)]) (st' := [.ref b1, .ref b0]) (h' := (HP (fu (fu (fu (fu I (100 * b0 + 0) (I (100 * b1 + 0))) (100 * b0 + 1) ((fu I (100 * b0 + 0) (I (100 * b1 + 0))) (100 * b1 + 1))) (100 * b0 + 2) ((fu (fu I (100 * b0 + 0) (I (100 * b1 + 0))) (100 * b0 + 1) ((fu I (100 * b0 + 0) (I (100 * b1 + 0))) (100 * b1 + 1))) (100 * b1 + 2))) (100 * b0 + 3) ((fu (fu (fu I (100 * b0 + 0) (I (100 * b1 + 0))) (100 * b0 + 1) ((fu I (100 * b0 + 0) (I (100 * b1 + 0))) (100 * b1 + 1))) (100 * b0 + 2) ((fu (fu I (100 * b0 + 0) (I (100 * b1 + 0))) (100 * b0 + 1) ((fu I (100 * b0 + 0) (I (100 * b1 + 0))) (100 * b1 + 1))) (100 * b1 + 2))) (100 * b1 + 3))) A L F E)) rfl).trans ?_
  refine (sg_getI ht_X4_become rfl (sS_obj hb1) rfl).trans ?_
  refine (sg_putI (h' := (HP (fu (fu (fu (fu (fu I (100 * b0 + 0) (I (100 * b1 + 0))) (100 * b0 + 1) ((fu I (100 * b0 + 0) (I (100 * b1 + 0))) (100 * b1 + 1))) (100 * b0 + 2) ((fu (fu I (100 * b0 + 0) (I (100 * b1 + 0))) (100 * b0 + 1) ((fu I (100 * b0 + 0) (I (100 * b1 + 0))) (100 * b1 + 1))) (100 * b1 + 2))) (100 * b0 + 3) ((fu (fu (fu I (100 * b0 + 0) (I (100 * b1 + 0))) (100 * b0 + 1) ((fu I (100 * b0 + 0) (I (100 * b1 + 0))) (100 * b1 + 1))) (100 * b0 + 2) ((fu (fu I (100 * b0 + 0) (I (100 * b1 + 0))) (100 * b0 + 1) ((fu I (100 * b0 + 0) (I (100 * b1 + 0))) (100 * b1 + 1))) (100 * b1 + 2))) (100 * b1 + 3))) (100 * b0 + 4) ((fu (fu (fu (fu I (100 * b0 + 0) (I (100 * b1 + 0))) (100 * b0 + 1) ((fu I (100 * b0 + 0) (I (100 * b1 + 0))) (100 * b1 + 1))) (100 * b0 + 2) ((fu (fu I (100 * b0 + 0) (I (100 * b1 + 0))) (100 * b0 + 1) ((fu I (100 * b0 + 0) (I (100 * b1 + 0))) (100 * b1 + 1))) (100 * b1 + 2))) (100 * b0 + 3) ((fu (fu (fu I (100 * b0 + 0) (I (100 * b1 + 0))) (100 * b0 + 1) ((fu I (100 * b0 + 0) (I (100 * b1 + 0))) (100 * b1 + 1))) (100 * b0 + 2) ((fu (fu I (100 * b0 + 0) (I (100 * b1 + 0))) (100 * b0 + 1) ((fu I (100 * b0 + 0) (I (100 * b1 + 0))) (100 * b1 + 1))) (100 * b1 + 2))) (100 * b1 + 3))) (100 * b1 + 4))) A L F E)) ht_X4_become rfl (sS_obj hb0) (Nat.le_of_ble_eq_true rfl) (sS_put4 hb0)).trans ?_
  refine (sg_go ht_X4_become (k := 1) (pc' := 41) (L' := [some (.ref b0), some (.ref b1)]) (st' := [.ref b1]) (h' := (HP (fu (fu (fu (fu (fu I (100 * b0 + 0) (I (100 * b1 + 0))) (100 * b0 + 1) ((fu I (100 * b0 + 0) (I (100 * b1 + 0))) (100 * b1 + 1))) (100 * b0 + 2) ((fu (fu I (100 * b0 + 0) (I (100 * b1 + 0))) (100 * b0 + 1) ((fu I (100 * b0 + 0) (I (100 * b1 + 0))) (100 * b1 + 1))) (100 * b1 + 2))) (100 * b0 + 3) ((fu (fu (fu I (100 * b0 + 0) (I (100 * b1 + 0))) (100 * b0 + 1) ((fu I (100 * b0 + 0) (I (100 * b1 + 0))) (100 * b1 + 1))) (100 * b0 + 2) ((fu (fu I (100 * b0 + 0) (I (100 * b1 + 0))) (100 * b0 + 1) ((fu I (100 * b0 + 0) (I (100 * b1 + 0))) (100 * b1 + 1))) (100 * b1 + 2))) (100 * b1 + 3))) (100 * b0 + 4) ((fu (fu (fu (fu I (100 * b0 + 0) (I (100 * b1 + 0))) (100 * b0 + 1) ((fu I (100 * b0 + 0) (I (100 * b1 + 0))) (100 * b1 + 1))) (100 * b0 + 2) ((fu (fu I (100 * b0 + 0) (I (100 * b1 + 0))) (100 * b0 + 1) ((fu I (100 * b0 + 0) (I (100 * b1 + 0))) (100 * b1 + 1))) (100 * b1 + 2))) (100 * b0 + 3) ((fu (fu (fu I (100 * b0 + 0) (I (100 * b1 + 0))) (100 * b0 + 1) ((fu I (100 * b0 + 0) (I (100 * b1 + 0))) (100 * b1 + 1))) (100 * b0 + 2) ((fu (fu I (100 * b0 + 0) (I (100 * b1 + 0))) (100 * b0 + 1) ((fu I (100 * b0 + 0) (I (100 * b1 + 0))) (100 * b1 + 1))) (100 * b1 + 2))) (100 * b1 + 3))) (100 * b1 + 4))) A L F E)) rfl).trans ?_
  refine (sg_getR ht_X4_become rfl (sS_obj hb1) rfl).trans ?_
  refine (sg_go ht_X4_become (k := 2) (pc' := 46) (L' := [some (.ref b0), some (.ref b1)]) (st' := [.ref b0, .int 0, .ref (b1 + 1)]) (h' := (HP (fu (fu (fu (fu (fu I (100 * b0 + 0) (I (100 * b1 + 0))) (100 * b0 + 1) ((fu I (100 * b0 + 0) (I (100 * b1 + 0))) (100 * b1 + 1))) (100 * b0 + 2) ((fu (fu I (100 * b0 + 0) (I (100 * b1 + 0))) (100 * b0 + 1) ((fu I (100 * b0 + 0) (I (100 * b1 + 0))) (100 * b1 + 1))) (100 * b1 + 2))) (100 * b0 + 3) ((fu (fu (fu I (100 * b0 + 0) (I (100 * b1 + 0))) (100 * b0 + 1) ((fu I (100 * b0 + 0) (I (100 * b1 + 0))) (100 * b1 + 1))) (100 * b0 + 2) ((fu (fu I (100 * b0 + 0) (I (100 * b1 + 0))) (100 * b0 + 1) ((fu I (100 * b0 + 0) (I (100 * b1 + 0))) (100 * b1 + 1))) (100 * b1 + 2))) (100 * b1 + 3))) (100 * b0 + 4) ((fu (fu (fu (fu I (100 * b0 + 0) (I (100 * b1 + 0))) (100 * b0 + 1) ((fu I (100 * b0 + 0) (I (100 * b1 + 0))) (100 * b1 + 1))) (100 * b0 + 2) ((fu (fu I (100 * b0 + 0) (I (100 * b1 + 0))) (100 * b0 + 1) ((fu I (100 * b0 + 0) (I (100 * b1 + 0))) (100 * b1 + 1))) (100 * b1 + 2))) (100 * b0 + 3) ((fu (fu (fu I (100 * b0 + 0) (I (100 * b1 + 0))) (100 * b0 + 1) ((fu I (100 * b0 + 0) (I (100 * b1 + 0))) (100 * b1 + 1))) (100 * b0 + 2) ((fu (fu I (100 * b0 + 0) (I (100 * b1 + 0))) (100 * b0 + 1) ((fu I (100 * b0 + 0) (I (100 * b1 + 0))) (100 * b1 + 1))) (100 * b1 + 2))) (100 * b1 + 3))) (100 * b1 + 4))) A L F E)) rfl).trans ?_
  refine (sg_getR ht_X4_become rfl (sS_obj hb0) rfl).trans ?_
  refine (sg_go ht_X4_become (k := 2) (pc' := 52) (L' := [some (.ref b0), some (.ref b1)]) (st' := [.int 40, .int 0, .ref (b0 + 1), .int 0, .ref (b1 + 1)]) (h' := (HP (fu (fu (fu (fu (fu I (100 * b0 + 0) (I (100 * b1 + 0))) (100 * b0 + 1) ((fu I (100 * b0 + 0) (I (100 * b1 + 0))) (100 * b1 + 1))) (100 * b0 + 2) ((fu (fu I (100 * b0 + 0) (I (100 * b1 + 0))) (100 * b0 + 1) ((fu I (100 * b0 + 0) (I (100 * b1 + 0))) (100 * b1 + 1))) (100 * b1 + 2))) (100 * b0 + 3) ((fu (fu (fu I (100 * b0 + 0) (I (100 * b1 + 0))) (100 * b0 + 1) ((fu I (100 * b0 + 0) (I (100 * b1 + 0))) (100 * b1 + 1))) (100 * b0 + 2) ((fu (fu I (100 * b0 + 0) (I (100 * b1 + 0))) (100 * b0 + 1) ((fu I (100 * b0 + 0) (I (100 * b1 + 0))) (100 * b1 + 1))) (100 * b1 + 2))) (100 * b1 + 3))) (100 * b0 + 4) ((fu (fu (fu (fu I (100 * b0 + 0) (I (100 * b1 + 0))) (100 * b0 + 1) ((fu I (100 * b0 + 0) (I (100 * b1 + 0))) (100 * b1 + 1))) (100 * b0 + 2) ((fu (fu I (100 * b0 + 0) (I (100 * b1 + 0))) (100 * b0 + 1) ((fu I (100 * b0 + 0) (I (100 * b1 + 0))) (100 * b1 + 1))) (100 * b1 + 2))) (100 * b0 + 3) ((fu (fu (fu I (100 * b0 + 0) (I (100 * b1 + 0))) (100 * b0 + 1) ((fu I (100 * b0 + 0) (I (100 * b1 + 0))) (100 * b1 + 1))) (100 * b0 + 2) ((fu (fu I (100 * b0 + 0) (I (100 * b1 + 0))) (100 * b0 + 1) ((fu I (100 * b0 + 0) (I (100 * b1 + 0))) (100 * b1 + 1))) (100 * b1 + 2))) (100 * b1 + 3))) (100 * b1 + 4))) A L F E)) rfl).trans ?_
  refine (sg_cpI (hh := fun X1 => (HP (fu (fu (fu (fu (fu I (100 * b0 + 0) (I (100 * b1 + 0))) (100 * b0 + 1) ((fu I (100 * b0 + 0) (I (100 * b1 + 0))) (100 * b1 + 1))) (100 * b0 + 2) ((fu (fu I (100 * b0 + 0) (I (100 * b1 + 0))) (100 * b0 + 1) ((fu I (100 * b0 + 0) (I (100 * b1 + 0))) (100 * b1 + 1))) (100 * b1 + 2))) (100 * b0 + 3) ((fu (fu (fu I (100 * b0 + 0) (I (100 * b1 + 0))) (100 * b0 + 1) ((fu I (100 * b0 + 0) (I (100 * b1 + 0))) (100 * b1 + 1))) (100 * b0 + 2) ((fu (fu I (100 * b0 + 0) (I (100 * b1 + 0))) (100 * b0 + 1) ((fu I (100 * b0 + 0) (I (100 * b1 + 0))) (100 * b1 + 1))) (100 * b1 + 2))) (100 * b1 + 3))) (100 * b0 + 4) ((fu (fu (fu (fu I (100 * b0 + 0) (I (100 * b1 + 0))) (100 * b0 + 1) ((fu I (100 * b0 + 0) (I (100 * b1 + 0))) (100 * b1 + 1))) (100 * b0 + 2) ((fu (fu I (100 * b0 + 0) (I (100 * b1 + 0))) (100 * b0 + 1) ((fu I (100 * b0 + 0) (I (100 * b1 + 0))) (100 * b1 + 1))) (100 * b1 + 2))) (100 * b0 + 3) ((fu (fu (fu I (100 * b0 + 0) (I (100 * b1 + 0))) (100 * b0 + 1) ((fu I (100 * b0 + 0) (I (100 * b1 + 0))) (100 * b1 + 1))) (100 * b0 + 2) ((fu (fu I (100 * b0 + 0) (I (100 * b1 + 0))) (100 * b0 + 1) ((fu I (100 * b0 + 0) (I (100 * b1 + 0))) (100 * b1 + 1))) (100 * b1 + 2))) (100 * b1 + 3))) (100 * b1 + 4))) (fu A (b0 + 1) X1) L F E)) ht_X4_become (Nat.le_of_ble_eq_true rfl) rfl (sS_ar1 hb1) (sS_ar1 hb0) (fun _ => sS_ast1 hb0)).trans ?_
  refine bind_cg fun X1 hX1 => ?_
  exact sg_ret ht_X4_become rfl rfl
set_option maxRecDepth 20000 in
theorem sg_X4_squareApart_0 {I : Nat → Int32} {A : Nat → List Int32} {L : Nat → List Int64} {F : Nat → Int64} {E : MH} {b0 : Nat} (hb0 : isS b0) (p1 : Int32) (p2 : Int32) (p3 : Int32) : mm_call G0 41 [.ref b0, .int p1, .int p2, .int p3] (HP I A L F E) = some (some (.long (((((I (100 * b0 + 4))).toInt64 * (p2).toInt64) - ((p1).toInt64 * (p3).toInt64)) * ((((I (100 * b0 + 4))).toInt64 * (p2).toInt64) - ((p1).toInt64 * (p3).toInt64)))), (HP I A L F E)) := by
  show mm_run G0 41 0 [some (.ref b0), some (.int p1), some (.int p2), some (.int p3), none, none] [] (HP I A L F E) = _
  refine (sg_go ht_X4_squareApart (k := 1) (pc' := 1) (L' := [some (.ref b0), some (.int p1), some (.int p2), some (.int p3), none, none]) (st' := [.ref b0]) (h' := (HP I A L F E)) rfl).trans ?_
  refine (sg_getI ht_X4_squareApart rfl (sS_obj hb0) rfl).trans ?_
  refine (sg_go ht_X4_squareApart (k := 10) (pc' := 14) (L' := [some (.ref b0), some (.int p1), some (.int p2), some (.int p3), none, none]) (st' := [.long ((((I (100 * b0 + 4))).toInt64 * (p2).toInt64) - ((p1).toInt64 * (p3).toInt64))]) (h' := (HP I A L F E)) rfl).trans ?_
  refine (sg_go ht_X4_squareApart (k := 4) (pc' := 21) (L' := [some (.ref b0), some (.int p1), some (.int p2), some (.int p3), some (.long ((((I (100 * b0 + 4))).toInt64 * (p2).toInt64) - ((p1).toInt64 * (p3).toInt64))), none]) (st' := [.long (((((I (100 * b0 + 4))).toInt64 * (p2).toInt64) - ((p1).toInt64 * (p3).toInt64)) * ((((I (100 * b0 + 4))).toInt64 * (p2).toInt64) - ((p1).toInt64 * (p3).toInt64)))]) (h' := (HP I A L F E)) rfl).trans ?_
  exact sg_ret ht_X4_squareApart rfl rfl
set_option maxRecDepth 20000 in
theorem sg_X4_gainBelow_0 {I : Nat → Int32} {A : Nat → List Int32} {L : Nat → List Int64} {F : Nat → Int64} {E : MH} {b0 : Nat} (hb0 : isS b0) (p1 : Int32) : mm_call G0 40 [.ref b0, .int p1] (HP I A L F E) = some (some (.long ((p1).toInt64 * (((I (100 * b0 + 4)) - p1)).toInt64)), (HP I A L F E)) := by
  show mm_run G0 40 0 [some (.ref b0), some (.int p1)] [] (HP I A L F E) = _
  refine (sg_go ht_X4_gainBelow (k := 3) (pc' := 3) (L' := [some (.ref b0), some (.int p1)]) (st' := [.ref b0, .long (p1).toInt64]) (h' := (HP I A L F E)) rfl).trans ?_
  refine (sg_getI ht_X4_gainBelow rfl (sS_obj hb0) rfl).trans ?_
  refine (sg_go ht_X4_gainBelow (k := 4) (pc' := 10) (L' := [some (.ref b0), some (.int p1)]) (st' := [.long ((p1).toInt64 * (((I (100 * b0 + 4)) - p1)).toInt64)]) (h' := (HP I A L F E)) rfl).trans ?_
  exact sg_ret ht_X4_gainBelow rfl rfl
set_option maxRecDepth 20000 in
theorem sg_X4_gainAbove_0 {I : Nat → Int32} {A : Nat → List Int32} {L : Nat → List Int64} {F : Nat → Int64} {E : MH} {b0 : Nat} (hb0 : isS b0) (p1 : Int32) : mm_call G0 39 [.ref b0, .int p1] (HP I A L F E) = ((mm_call G0 38 [.ref b0, .int p1] (HP I A L F E)).bind fun q => mm_run G0 39 7 [some (.ref b0), some (.int p1)] (q.1.toList ++ [.int p1, .ref b0]) q.2) := by
  show mm_run G0 39 0 [some (.ref b0), some (.int p1)] [] (HP I A L F E) = _
  refine (sg_go ht_X4_gainAbove (k := 4) (pc' := 4) (L' := [some (.ref b0), some (.int p1)]) (st' := [.int p1, .ref b0, .int p1, .ref b0]) (h' := (HP I A L F E)) rfl).trans ?_
  refine (sg_callV ht_X4_gainAbove (mj := 38) (as := [.ref b0, .int p1]) (rest := [.int p1, .ref b0]) rfl rfl rfl (Nat.le_of_ble_eq_true rfl) (sS_obj hb0) ⟨by decide, Nat.le_of_ble_eq_true rfl⟩).trans ?_
  rfl
set_option maxRecDepth 20000 in
theorem sg_X4_gainAbove_7 {I : Nat → Int32} {A : Nat → List Int32} {L : Nat → List Int64} {F : Nat → Int64} {E : MH} {b0 : Nat} (hb0 : isS b0) (v1 : Int32) (s1 : Int32) (s2 : Int32) : mm_run G0 39 7 [some (.ref b0), some (.int v1)] [.int s2, .int s1, .ref b0] (HP I A L F E) = ((mm_call G0 38 [.ref b0, .int (I (100 * b0 + 4))] (HP I A L F E)).bind fun q => mm_run G0 39 15 [some (.ref b0), some (.int v1)] (q.1.toList ++ [.int s2, .int s1, .ref b0]) q.2) := by
  refine (sg_go ht_X4_gainAbove (k := 2) (pc' := 9) (L' := [some (.ref b0), some (.int v1)]) (st' := [.ref b0, .ref b0, .int s2, .int s1, .ref b0]) (h' := (HP I A L F E)) rfl).trans ?_
  refine (sg_getI ht_X4_gainAbove rfl (sS_obj hb0) rfl).trans ?_
  refine (sg_callV ht_X4_gainAbove (mj := 38) (as := [.ref b0, .int (I (100 * b0 + 4))]) (rest := [.int s2, .int s1, .ref b0]) rfl rfl rfl (Nat.le_of_ble_eq_true rfl) (sS_obj hb0) ⟨by decide, Nat.le_of_ble_eq_true rfl⟩).trans ?_
  rfl
set_option maxRecDepth 20000 in
theorem sg_X4_gainAbove_15 {I : Nat → Int32} {A : Nat → List Int32} {L : Nat → List Int64} {F : Nat → Int64} {E : MH} {b0 : Nat} (hb0 : isS b0) (v1 : Int32) (s1 : Int32) (s2 : Int32) (s3 : Int32) : mm_run G0 39 15 [some (.ref b0), some (.int v1)] [.int s3, .int s2, .int s1, .ref b0] (HP I A L F E) = some (some (.long (((((I (100 * b0 + 4))).toInt64 * (s2).toInt64) - ((s1).toInt64 * (s3).toInt64)) * ((((I (100 * b0 + 4))).toInt64 * (s2).toInt64) - ((s1).toInt64 * (s3).toInt64)))), (HP I A L F E)) := by
  refine (sg_callV ht_X4_gainAbove (mj := 41) (as := [.ref b0, .int s1, .int s2, .int s3]) (rest := []) rfl rfl rfl (Nat.le_of_ble_eq_true rfl) (sS_obj hb0) ⟨by decide, Nat.le_of_ble_eq_true rfl⟩).trans ?_
  refine (bind_eq (sg_X4_squareApart_0 hb0 s1 s2 s3)).trans ?_
  show mm_run G0 39 18 [some (.ref b0), some (.int v1)] [.long (((((I (100 * b0 + 4))).toInt64 * (s2).toInt64) - ((s1).toInt64 * (s3).toInt64)) * ((((I (100 * b0 + 4))).toInt64 * (s2).toInt64) - ((s1).toInt64 * (s3).toInt64)))] (HP I A L F E) = _
  exact sg_ret ht_X4_gainAbove rfl rfl
set_option maxRecDepth 20000 in
theorem sg_X4_changePlace_0 {I : Nat → Int32} {A : Nat → List Int32} {L : Nat → List Int64} {F : Nat → Int64} {E : MH} {b0 : Nat} (hb0 : isS b0) : mm_call G0 42 [.ref b0] (HP I A L F E) = ((mm_call G0 38 [.ref b0, .int (I (100 * b0 + 4))] (HP I A L F E)).bind fun q => mm_run G0 42 8 [some (.ref b0), none, none, none, none, none, none, none, none, none, none, none, none] (q.1.toList ++ []) q.2) := by
  show mm_run G0 42 0 [some (.ref b0), none, none, none, none, none, none, none, none, none, none, none, none] [] (HP I A L F E) = _
  refine (sg_go ht_X4_changePlace (k := 2) (pc' := 2) (L' := [some (.ref b0), none, none, none, none, none, none, none, none, none, none, none, none]) (st' := [.ref b0, .ref b0]) (h' := (HP I A L F E)) rfl).trans ?_
  refine (sg_getI ht_X4_changePlace rfl (sS_obj hb0) rfl).trans ?_
  refine (sg_callV ht_X4_changePlace (mj := 38) (as := [.ref b0, .int (I (100 * b0 + 4))]) (rest := []) rfl rfl rfl (Nat.le_of_ble_eq_true rfl) (sS_obj hb0) ⟨by decide, Nat.le_of_ble_eq_true rfl⟩).trans ?_
  rfl
set_option maxRecDepth 20000 in
theorem sg_X4_changePlace_8 {I : Nat → Int32} {A : Nat → List Int32} {L : Nat → List Int64} {F : Nat → Int64} {E : MH} {b0 : Nat} (hb0 : isS b0) (s0 : Int32) : mm_run G0 42 8 [some (.ref b0), none, none, none, none, none, none, none, none, none, none, none, none] [.int s0] (HP I A L F E) = mm_run G0 42 25 [some (.ref b0), some (.int s0), some (.int 0), some (.int (-5)), some (.long (-1)), none, some (.long 1), none, some (.int 1), none, none, none, none] [] (HP I A L F E) := by
  refine (sg_go ht_X4_changePlace (k := 10) (pc' := 23) (L' := [some (.ref b0), some (.int s0), some (.int 0), some (.int (-5)), some (.long (-1)), none, some (.long 1), none, none, none, none, none, none]) (st' := [.int 1]) (h' := (HP I A L F E)) rfl).trans ?_
  refine (sg_go ht_X4_changePlace (k := 1) (pc' := 25) (L' := [some (.ref b0), some (.int s0), some (.int 0), some (.int (-5)), some (.long (-1)), none, some (.long 1), none, some (.int 1), none, none, none, none]) (st' := []) (h' := (HP I A L F E)) rfl).trans ?_
  rfl
set_option maxRecDepth 20000 in
theorem sg_X4_changePlace_25_v00 {I : Nat → Int32} {A : Nat → List Int32} {L : Nat → List Int64} {F : Nat → Int64} {E : MH} {b0 : Nat} (hb0 : isS b0) (v1 : Int32) (v2 : Int32) (v3 : Int32) (v4 : Int64) (v6 : Int64) (v8 : Int32) : mm_run G0 42 25 [some (.ref b0), some (.int v1), some (.int v2), some (.int v3), some (.long v4), none, some (.long v6), none, some (.int v8), none, none, none, none] [] (HP I A L F E) = (if (I (100 * b0 + 4)) ≤ v8 then some (some (.int v3), (HP I A L F E)) else ((ldI (A (b0 + 1)) (v8 - 1)).bind fun x1 => (if 0 < (lg_cmp ((((((I (100 * b0 + 4))).toInt64 * ((v2 + x1)).toInt64) - ((v8).toInt64 * (v1).toInt64)) * ((((I (100 * b0 + 4))).toInt64 * ((v2 + x1)).toInt64) - ((v8).toInt64 * (v1).toInt64))) * v6) (v4 * ((v8).toInt64 * (((I (100 * b0 + 4)) - v8)).toInt64))) then mm_run G0 42 25 [some (.ref b0), some (.int v1), some (.int (v2 + x1)), some (.int v8), some (.long (((((I (100 * b0 + 4))).toInt64 * ((v2 + x1)).toInt64) - ((v8).toInt64 * (v1).toInt64)) * ((((I (100 * b0 + 4))).toInt64 * ((v2 + x1)).toInt64) - ((v8).toInt64 * (v1).toInt64)))), none, some (.long ((v8).toInt64 * (((I (100 * b0 + 4)) - v8)).toInt64)), none, some (.int (v8 + 1)), some (.long (((((I (100 * b0 + 4))).toInt64 * ((v2 + x1)).toInt64) - ((v8).toInt64 * (v1).toInt64)) * ((((I (100 * b0 + 4))).toInt64 * ((v2 + x1)).toInt64) - ((v8).toInt64 * (v1).toInt64)))), none, some (.long ((v8).toInt64 * (((I (100 * b0 + 4)) - v8)).toInt64)), none] [] (HP I A L F E) else mm_run G0 42 25 [some (.ref b0), some (.int v1), some (.int (v2 + x1)), some (.int v3), some (.long v4), none, some (.long v6), none, some (.int (v8 + 1)), some (.long (((((I (100 * b0 + 4))).toInt64 * ((v2 + x1)).toInt64) - ((v8).toInt64 * (v1).toInt64)) * ((((I (100 * b0 + 4))).toInt64 * ((v2 + x1)).toInt64) - ((v8).toInt64 * (v1).toInt64)))), none, some (.long ((v8).toInt64 * (((I (100 * b0 + 4)) - v8)).toInt64)), none] [] (HP I A L F E)))) := by
  refine (sg_go ht_X4_changePlace (k := 2) (pc' := 28) (L' := [some (.ref b0), some (.int v1), some (.int v2), some (.int v3), some (.long v4), none, some (.long v6), none, some (.int v8), none, none, none, none]) (st' := [.ref b0, .int v8]) (h' := (HP I A L F E)) rfl).trans ?_
  refine (sg_getI ht_X4_changePlace rfl (sS_obj hb0) rfl).trans ?_
  refine (sg_cmp ht_X4_changePlace rfl).trans ?_
  refine ite_congr rfl (fun _ => ?_) (fun _ => ?_)
  · refine (sg_go ht_X4_changePlace (k := 1) (pc' := 99) (L' := [some (.ref b0), some (.int v1), some (.int v2), some (.int v3), some (.long v4), none, some (.long v6), none, some (.int v8), none, none, none, none]) (st' := [.int v3]) (h' := (HP I A L F E)) rfl).trans ?_
    exact sg_ret ht_X4_changePlace rfl rfl
  · refine (sg_go ht_X4_changePlace (k := 2) (pc' := 36) (L' := [some (.ref b0), some (.int v1), some (.int v2), some (.int v3), some (.long v4), none, some (.long v6), none, some (.int v8), none, none, none, none]) (st' := [.ref b0, .int v2]) (h' := (HP I A L F E)) rfl).trans ?_
    refine (sg_getR ht_X4_changePlace rfl (sS_obj hb0) rfl).trans ?_
    refine (sg_go ht_X4_changePlace (k := 3) (pc' := 43) (L' := [some (.ref b0), some (.int v1), some (.int v2), some (.int v3), some (.long v4), none, some (.long v6), none, some (.int v8), none, none, none, none]) (st' := [.int (v8 - 1), .ref (b0 + 1), .int v2]) (h' := (HP I A L F E)) rfl).trans ?_
    refine (sg_ldI ht_X4_changePlace rfl (sS_ar1 hb0)).trans ?_
    refine bind_cg fun x1 hx1 => ?_
    refine (sg_go ht_X4_changePlace (k := 6) (pc' := 51) (L' := [some (.ref b0), some (.int v1), some (.int (v2 + x1)), some (.int v3), some (.long v4), none, some (.long v6), none, some (.int v8), none, none, none, none]) (st' := [.int v1, .int (v2 + x1), .int v8, .ref b0]) (h' := (HP I A L F E)) rfl).trans ?_
    refine (sg_callV ht_X4_changePlace (mj := 41) (as := [.ref b0, .int v8, .int (v2 + x1), .int v1]) (rest := []) rfl rfl rfl (Nat.le_of_ble_eq_true rfl) (sS_obj hb0) ⟨by decide, Nat.le_of_ble_eq_true rfl⟩).trans ?_
    refine (bind_eq (sg_X4_squareApart_0 hb0 v8 (v2 + x1) v1)).trans ?_
    show mm_run G0 42 54 [some (.ref b0), some (.int v1), some (.int (v2 + x1)), some (.int v3), some (.long v4), none, some (.long v6), none, some (.int v8), none, none, none, none] [.long (((((I (100 * b0 + 4))).toInt64 * ((v2 + x1)).toInt64) - ((v8).toInt64 * (v1).toInt64)) * ((((I (100 * b0 + 4))).toInt64 * ((v2 + x1)).toInt64) - ((v8).toInt64 * (v1).toInt64)))] (HP I A L F E) = _
    refine (sg_go ht_X4_changePlace (k := 3) (pc' := 59) (L' := [some (.ref b0), some (.int v1), some (.int (v2 + x1)), some (.int v3), some (.long v4), none, some (.long v6), none, some (.int v8), some (.long (((((I (100 * b0 + 4))).toInt64 * ((v2 + x1)).toInt64) - ((v8).toInt64 * (v1).toInt64)) * ((((I (100 * b0 + 4))).toInt64 * ((v2 + x1)).toInt64) - ((v8).toInt64 * (v1).toInt64)))), none, none, none]) (st' := [.int v8, .ref b0]) (h' := (HP I A L F E)) rfl).trans ?_
    refine (sg_callV ht_X4_changePlace (mj := 40) (as := [.ref b0, .int v8]) (rest := []) rfl rfl rfl (Nat.le_of_ble_eq_true rfl) (sS_obj hb0) ⟨by decide, Nat.le_of_ble_eq_true rfl⟩).trans ?_
    refine (bind_eq (sg_X4_gainBelow_0 hb0 v8)).trans ?_
    show mm_run G0 42 62 [some (.ref b0), some (.int v1), some (.int (v2 + x1)), some (.int v3), some (.long v4), none, some (.long v6), none, some (.int v8), some (.long (((((I (100 * b0 + 4))).toInt64 * ((v2 + x1)).toInt64) - ((v8).toInt64 * (v1).toInt64)) * ((((I (100 * b0 + 4))).toInt64 * ((v2 + x1)).toInt64) - ((v8).toInt64 * (v1).toInt64)))), none, none, none] [.long ((v8).toInt64 * (((I (100 * b0 + 4)) - v8)).toInt64)] (HP I A L F E) = _
    refine (sg_go ht_X4_changePlace (k := 8) (pc' := 75) (L' := [some (.ref b0), some (.int v1), some (.int (v2 + x1)), some (.int v3), some (.long v4), none, some (.long v6), none, some (.int v8), some (.long (((((I (100 * b0 + 4))).toInt64 * ((v2 + x1)).toInt64) - ((v8).toInt64 * (v1).toInt64)) * ((((I (100 * b0 + 4))).toInt64 * ((v2 + x1)).toInt64) - ((v8).toInt64 * (v1).toInt64)))), none, some (.long ((v8).toInt64 * (((I (100 * b0 + 4)) - v8)).toInt64)), none]) (st' := [.int (lg_cmp ((((((I (100 * b0 + 4))).toInt64 * ((v2 + x1)).toInt64) - ((v8).toInt64 * (v1).toInt64)) * ((((I (100 * b0 + 4))).toInt64 * ((v2 + x1)).toInt64) - ((v8).toInt64 * (v1).toInt64))) * v6) (v4 * ((v8).toInt64 * (((I (100 * b0 + 4)) - v8)).toInt64)))]) (h' := (HP I A L F E)) rfl).trans ?_
    refine (sg_if ht_X4_changePlace rfl).trans ?_
    refine ite_congr rfl (fun _ => ?_) (fun _ => ?_)
    · refine (sg_go ht_X4_changePlace (k := 8) (pc' := 25) (L' := [some (.ref b0), some (.int v1), some (.int (v2 + x1)), some (.int v8), some (.long (((((I (100 * b0 + 4))).toInt64 * ((v2 + x1)).toInt64) - ((v8).toInt64 * (v1).toInt64)) * ((((I (100 * b0 + 4))).toInt64 * ((v2 + x1)).toInt64) - ((v8).toInt64 * (v1).toInt64)))), none, some (.long ((v8).toInt64 * (((I (100 * b0 + 4)) - v8)).toInt64)), none, some (.int (v8 + 1)), some (.long (((((I (100 * b0 + 4))).toInt64 * ((v2 + x1)).toInt64) - ((v8).toInt64 * (v1).toInt64)) * ((((I (100 * b0 + 4))).toInt64 * ((v2 + x1)).toInt64) - ((v8).toInt64 * (v1).toInt64)))), none, some (.long ((v8).toInt64 * (((I (100 * b0 + 4)) - v8)).toInt64)), none]) (st' := []) (h' := (HP I A L F E)) rfl).trans ?_
      rfl
    · refine (sg_go ht_X4_changePlace (k := 3) (pc' := 25) (L' := [some (.ref b0), some (.int v1), some (.int (v2 + x1)), some (.int v3), some (.long v4), none, some (.long v6), none, some (.int (v8 + 1)), some (.long (((((I (100 * b0 + 4))).toInt64 * ((v2 + x1)).toInt64) - ((v8).toInt64 * (v1).toInt64)) * ((((I (100 * b0 + 4))).toInt64 * ((v2 + x1)).toInt64) - ((v8).toInt64 * (v1).toInt64)))), none, some (.long ((v8).toInt64 * (((I (100 * b0 + 4)) - v8)).toInt64)), none]) (st' := []) (h' := (HP I A L F E)) rfl).trans ?_
      rfl
set_option maxRecDepth 20000 in
theorem sg_X4_changePlace_25_v01 {I : Nat → Int32} {A : Nat → List Int32} {L : Nat → List Int64} {F : Nat → Int64} {E : MH} {b0 : Nat} (hb0 : isS b0) (v1 : Int32) (v2 : Int32) (v3 : Int32) (v4 : Int64) (v6 : Int64) (v8 : Int32) (o11 : Int64) : mm_run G0 42 25 [some (.ref b0), some (.int v1), some (.int v2), some (.int v3), some (.long v4), none, some (.long v6), none, some (.int v8), none, none, some (.long o11), none] [] (HP I A L F E) = (if (I (100 * b0 + 4)) ≤ v8 then some (some (.int v3), (HP I A L F E)) else ((ldI (A (b0 + 1)) (v8 - 1)).bind fun x1 => (if 0 < (lg_cmp ((((((I (100 * b0 + 4))).toInt64 * ((v2 + x1)).toInt64) - ((v8).toInt64 * (v1).toInt64)) * ((((I (100 * b0 + 4))).toInt64 * ((v2 + x1)).toInt64) - ((v8).toInt64 * (v1).toInt64))) * v6) (v4 * ((v8).toInt64 * (((I (100 * b0 + 4)) - v8)).toInt64))) then mm_run G0 42 25 [some (.ref b0), some (.int v1), some (.int (v2 + x1)), some (.int v8), some (.long (((((I (100 * b0 + 4))).toInt64 * ((v2 + x1)).toInt64) - ((v8).toInt64 * (v1).toInt64)) * ((((I (100 * b0 + 4))).toInt64 * ((v2 + x1)).toInt64) - ((v8).toInt64 * (v1).toInt64)))), none, some (.long ((v8).toInt64 * (((I (100 * b0 + 4)) - v8)).toInt64)), none, some (.int (v8 + 1)), some (.long (((((I (100 * b0 + 4))).toInt64 * ((v2 + x1)).toInt64) - ((v8).toInt64 * (v1).toInt64)) * ((((I (100 * b0 + 4))).toInt64 * ((v2 + x1)).toInt64) - ((v8).toInt64 * (v1).toInt64)))), none, some (.long ((v8).toInt64 * (((I (100 * b0 + 4)) - v8)).toInt64)), none] [] (HP I A L F E) else mm_run G0 42 25 [some (.ref b0), some (.int v1), some (.int (v2 + x1)), some (.int v3), some (.long v4), none, some (.long v6), none, some (.int (v8 + 1)), some (.long (((((I (100 * b0 + 4))).toInt64 * ((v2 + x1)).toInt64) - ((v8).toInt64 * (v1).toInt64)) * ((((I (100 * b0 + 4))).toInt64 * ((v2 + x1)).toInt64) - ((v8).toInt64 * (v1).toInt64)))), none, some (.long ((v8).toInt64 * (((I (100 * b0 + 4)) - v8)).toInt64)), none] [] (HP I A L F E)))) := by
  refine (sg_go ht_X4_changePlace (k := 2) (pc' := 28) (L' := [some (.ref b0), some (.int v1), some (.int v2), some (.int v3), some (.long v4), none, some (.long v6), none, some (.int v8), none, none, some (.long o11), none]) (st' := [.ref b0, .int v8]) (h' := (HP I A L F E)) rfl).trans ?_
  refine (sg_getI ht_X4_changePlace rfl (sS_obj hb0) rfl).trans ?_
  refine (sg_cmp ht_X4_changePlace rfl).trans ?_
  refine ite_congr rfl (fun _ => ?_) (fun _ => ?_)
  · refine (sg_go ht_X4_changePlace (k := 1) (pc' := 99) (L' := [some (.ref b0), some (.int v1), some (.int v2), some (.int v3), some (.long v4), none, some (.long v6), none, some (.int v8), none, none, some (.long o11), none]) (st' := [.int v3]) (h' := (HP I A L F E)) rfl).trans ?_
    exact sg_ret ht_X4_changePlace rfl rfl
  · refine (sg_go ht_X4_changePlace (k := 2) (pc' := 36) (L' := [some (.ref b0), some (.int v1), some (.int v2), some (.int v3), some (.long v4), none, some (.long v6), none, some (.int v8), none, none, some (.long o11), none]) (st' := [.ref b0, .int v2]) (h' := (HP I A L F E)) rfl).trans ?_
    refine (sg_getR ht_X4_changePlace rfl (sS_obj hb0) rfl).trans ?_
    refine (sg_go ht_X4_changePlace (k := 3) (pc' := 43) (L' := [some (.ref b0), some (.int v1), some (.int v2), some (.int v3), some (.long v4), none, some (.long v6), none, some (.int v8), none, none, some (.long o11), none]) (st' := [.int (v8 - 1), .ref (b0 + 1), .int v2]) (h' := (HP I A L F E)) rfl).trans ?_
    refine (sg_ldI ht_X4_changePlace rfl (sS_ar1 hb0)).trans ?_
    refine bind_cg fun x1 hx1 => ?_
    refine (sg_go ht_X4_changePlace (k := 6) (pc' := 51) (L' := [some (.ref b0), some (.int v1), some (.int (v2 + x1)), some (.int v3), some (.long v4), none, some (.long v6), none, some (.int v8), none, none, some (.long o11), none]) (st' := [.int v1, .int (v2 + x1), .int v8, .ref b0]) (h' := (HP I A L F E)) rfl).trans ?_
    refine (sg_callV ht_X4_changePlace (mj := 41) (as := [.ref b0, .int v8, .int (v2 + x1), .int v1]) (rest := []) rfl rfl rfl (Nat.le_of_ble_eq_true rfl) (sS_obj hb0) ⟨by decide, Nat.le_of_ble_eq_true rfl⟩).trans ?_
    refine (bind_eq (sg_X4_squareApart_0 hb0 v8 (v2 + x1) v1)).trans ?_
    show mm_run G0 42 54 [some (.ref b0), some (.int v1), some (.int (v2 + x1)), some (.int v3), some (.long v4), none, some (.long v6), none, some (.int v8), none, none, some (.long o11), none] [.long (((((I (100 * b0 + 4))).toInt64 * ((v2 + x1)).toInt64) - ((v8).toInt64 * (v1).toInt64)) * ((((I (100 * b0 + 4))).toInt64 * ((v2 + x1)).toInt64) - ((v8).toInt64 * (v1).toInt64)))] (HP I A L F E) = _
    refine (sg_go ht_X4_changePlace (k := 3) (pc' := 59) (L' := [some (.ref b0), some (.int v1), some (.int (v2 + x1)), some (.int v3), some (.long v4), none, some (.long v6), none, some (.int v8), some (.long (((((I (100 * b0 + 4))).toInt64 * ((v2 + x1)).toInt64) - ((v8).toInt64 * (v1).toInt64)) * ((((I (100 * b0 + 4))).toInt64 * ((v2 + x1)).toInt64) - ((v8).toInt64 * (v1).toInt64)))), none, some (.long o11), none]) (st' := [.int v8, .ref b0]) (h' := (HP I A L F E)) rfl).trans ?_
    refine (sg_callV ht_X4_changePlace (mj := 40) (as := [.ref b0, .int v8]) (rest := []) rfl rfl rfl (Nat.le_of_ble_eq_true rfl) (sS_obj hb0) ⟨by decide, Nat.le_of_ble_eq_true rfl⟩).trans ?_
    refine (bind_eq (sg_X4_gainBelow_0 hb0 v8)).trans ?_
    show mm_run G0 42 62 [some (.ref b0), some (.int v1), some (.int (v2 + x1)), some (.int v3), some (.long v4), none, some (.long v6), none, some (.int v8), some (.long (((((I (100 * b0 + 4))).toInt64 * ((v2 + x1)).toInt64) - ((v8).toInt64 * (v1).toInt64)) * ((((I (100 * b0 + 4))).toInt64 * ((v2 + x1)).toInt64) - ((v8).toInt64 * (v1).toInt64)))), none, some (.long o11), none] [.long ((v8).toInt64 * (((I (100 * b0 + 4)) - v8)).toInt64)] (HP I A L F E) = _
    refine (sg_go ht_X4_changePlace (k := 8) (pc' := 75) (L' := [some (.ref b0), some (.int v1), some (.int (v2 + x1)), some (.int v3), some (.long v4), none, some (.long v6), none, some (.int v8), some (.long (((((I (100 * b0 + 4))).toInt64 * ((v2 + x1)).toInt64) - ((v8).toInt64 * (v1).toInt64)) * ((((I (100 * b0 + 4))).toInt64 * ((v2 + x1)).toInt64) - ((v8).toInt64 * (v1).toInt64)))), none, some (.long ((v8).toInt64 * (((I (100 * b0 + 4)) - v8)).toInt64)), none]) (st' := [.int (lg_cmp ((((((I (100 * b0 + 4))).toInt64 * ((v2 + x1)).toInt64) - ((v8).toInt64 * (v1).toInt64)) * ((((I (100 * b0 + 4))).toInt64 * ((v2 + x1)).toInt64) - ((v8).toInt64 * (v1).toInt64))) * v6) (v4 * ((v8).toInt64 * (((I (100 * b0 + 4)) - v8)).toInt64)))]) (h' := (HP I A L F E)) rfl).trans ?_
    refine (sg_if ht_X4_changePlace rfl).trans ?_
    refine ite_congr rfl (fun _ => ?_) (fun _ => ?_)
    · refine (sg_go ht_X4_changePlace (k := 8) (pc' := 25) (L' := [some (.ref b0), some (.int v1), some (.int (v2 + x1)), some (.int v8), some (.long (((((I (100 * b0 + 4))).toInt64 * ((v2 + x1)).toInt64) - ((v8).toInt64 * (v1).toInt64)) * ((((I (100 * b0 + 4))).toInt64 * ((v2 + x1)).toInt64) - ((v8).toInt64 * (v1).toInt64)))), none, some (.long ((v8).toInt64 * (((I (100 * b0 + 4)) - v8)).toInt64)), none, some (.int (v8 + 1)), some (.long (((((I (100 * b0 + 4))).toInt64 * ((v2 + x1)).toInt64) - ((v8).toInt64 * (v1).toInt64)) * ((((I (100 * b0 + 4))).toInt64 * ((v2 + x1)).toInt64) - ((v8).toInt64 * (v1).toInt64)))), none, some (.long ((v8).toInt64 * (((I (100 * b0 + 4)) - v8)).toInt64)), none]) (st' := []) (h' := (HP I A L F E)) rfl).trans ?_
      rfl
    · refine (sg_go ht_X4_changePlace (k := 3) (pc' := 25) (L' := [some (.ref b0), some (.int v1), some (.int (v2 + x1)), some (.int v3), some (.long v4), none, some (.long v6), none, some (.int (v8 + 1)), some (.long (((((I (100 * b0 + 4))).toInt64 * ((v2 + x1)).toInt64) - ((v8).toInt64 * (v1).toInt64)) * ((((I (100 * b0 + 4))).toInt64 * ((v2 + x1)).toInt64) - ((v8).toInt64 * (v1).toInt64)))), none, some (.long ((v8).toInt64 * (((I (100 * b0 + 4)) - v8)).toInt64)), none]) (st' := []) (h' := (HP I A L F E)) rfl).trans ?_
      rfl
set_option maxRecDepth 20000 in
theorem sg_X4_changePlace_25_v10 {I : Nat → Int32} {A : Nat → List Int32} {L : Nat → List Int64} {F : Nat → Int64} {E : MH} {b0 : Nat} (hb0 : isS b0) (v1 : Int32) (v2 : Int32) (v3 : Int32) (v4 : Int64) (v6 : Int64) (v8 : Int32) (o9 : Int64) : mm_run G0 42 25 [some (.ref b0), some (.int v1), some (.int v2), some (.int v3), some (.long v4), none, some (.long v6), none, some (.int v8), some (.long o9), none, none, none] [] (HP I A L F E) = (if (I (100 * b0 + 4)) ≤ v8 then some (some (.int v3), (HP I A L F E)) else ((ldI (A (b0 + 1)) (v8 - 1)).bind fun x1 => (if 0 < (lg_cmp ((((((I (100 * b0 + 4))).toInt64 * ((v2 + x1)).toInt64) - ((v8).toInt64 * (v1).toInt64)) * ((((I (100 * b0 + 4))).toInt64 * ((v2 + x1)).toInt64) - ((v8).toInt64 * (v1).toInt64))) * v6) (v4 * ((v8).toInt64 * (((I (100 * b0 + 4)) - v8)).toInt64))) then mm_run G0 42 25 [some (.ref b0), some (.int v1), some (.int (v2 + x1)), some (.int v8), some (.long (((((I (100 * b0 + 4))).toInt64 * ((v2 + x1)).toInt64) - ((v8).toInt64 * (v1).toInt64)) * ((((I (100 * b0 + 4))).toInt64 * ((v2 + x1)).toInt64) - ((v8).toInt64 * (v1).toInt64)))), none, some (.long ((v8).toInt64 * (((I (100 * b0 + 4)) - v8)).toInt64)), none, some (.int (v8 + 1)), some (.long (((((I (100 * b0 + 4))).toInt64 * ((v2 + x1)).toInt64) - ((v8).toInt64 * (v1).toInt64)) * ((((I (100 * b0 + 4))).toInt64 * ((v2 + x1)).toInt64) - ((v8).toInt64 * (v1).toInt64)))), none, some (.long ((v8).toInt64 * (((I (100 * b0 + 4)) - v8)).toInt64)), none] [] (HP I A L F E) else mm_run G0 42 25 [some (.ref b0), some (.int v1), some (.int (v2 + x1)), some (.int v3), some (.long v4), none, some (.long v6), none, some (.int (v8 + 1)), some (.long (((((I (100 * b0 + 4))).toInt64 * ((v2 + x1)).toInt64) - ((v8).toInt64 * (v1).toInt64)) * ((((I (100 * b0 + 4))).toInt64 * ((v2 + x1)).toInt64) - ((v8).toInt64 * (v1).toInt64)))), none, some (.long ((v8).toInt64 * (((I (100 * b0 + 4)) - v8)).toInt64)), none] [] (HP I A L F E)))) := by
  refine (sg_go ht_X4_changePlace (k := 2) (pc' := 28) (L' := [some (.ref b0), some (.int v1), some (.int v2), some (.int v3), some (.long v4), none, some (.long v6), none, some (.int v8), some (.long o9), none, none, none]) (st' := [.ref b0, .int v8]) (h' := (HP I A L F E)) rfl).trans ?_
  refine (sg_getI ht_X4_changePlace rfl (sS_obj hb0) rfl).trans ?_
  refine (sg_cmp ht_X4_changePlace rfl).trans ?_
  refine ite_congr rfl (fun _ => ?_) (fun _ => ?_)
  · refine (sg_go ht_X4_changePlace (k := 1) (pc' := 99) (L' := [some (.ref b0), some (.int v1), some (.int v2), some (.int v3), some (.long v4), none, some (.long v6), none, some (.int v8), some (.long o9), none, none, none]) (st' := [.int v3]) (h' := (HP I A L F E)) rfl).trans ?_
    exact sg_ret ht_X4_changePlace rfl rfl
  · refine (sg_go ht_X4_changePlace (k := 2) (pc' := 36) (L' := [some (.ref b0), some (.int v1), some (.int v2), some (.int v3), some (.long v4), none, some (.long v6), none, some (.int v8), some (.long o9), none, none, none]) (st' := [.ref b0, .int v2]) (h' := (HP I A L F E)) rfl).trans ?_
    refine (sg_getR ht_X4_changePlace rfl (sS_obj hb0) rfl).trans ?_
    refine (sg_go ht_X4_changePlace (k := 3) (pc' := 43) (L' := [some (.ref b0), some (.int v1), some (.int v2), some (.int v3), some (.long v4), none, some (.long v6), none, some (.int v8), some (.long o9), none, none, none]) (st' := [.int (v8 - 1), .ref (b0 + 1), .int v2]) (h' := (HP I A L F E)) rfl).trans ?_
    refine (sg_ldI ht_X4_changePlace rfl (sS_ar1 hb0)).trans ?_
    refine bind_cg fun x1 hx1 => ?_
    refine (sg_go ht_X4_changePlace (k := 6) (pc' := 51) (L' := [some (.ref b0), some (.int v1), some (.int (v2 + x1)), some (.int v3), some (.long v4), none, some (.long v6), none, some (.int v8), some (.long o9), none, none, none]) (st' := [.int v1, .int (v2 + x1), .int v8, .ref b0]) (h' := (HP I A L F E)) rfl).trans ?_
    refine (sg_callV ht_X4_changePlace (mj := 41) (as := [.ref b0, .int v8, .int (v2 + x1), .int v1]) (rest := []) rfl rfl rfl (Nat.le_of_ble_eq_true rfl) (sS_obj hb0) ⟨by decide, Nat.le_of_ble_eq_true rfl⟩).trans ?_
    refine (bind_eq (sg_X4_squareApart_0 hb0 v8 (v2 + x1) v1)).trans ?_
    show mm_run G0 42 54 [some (.ref b0), some (.int v1), some (.int (v2 + x1)), some (.int v3), some (.long v4), none, some (.long v6), none, some (.int v8), some (.long o9), none, none, none] [.long (((((I (100 * b0 + 4))).toInt64 * ((v2 + x1)).toInt64) - ((v8).toInt64 * (v1).toInt64)) * ((((I (100 * b0 + 4))).toInt64 * ((v2 + x1)).toInt64) - ((v8).toInt64 * (v1).toInt64)))] (HP I A L F E) = _
    refine (sg_go ht_X4_changePlace (k := 3) (pc' := 59) (L' := [some (.ref b0), some (.int v1), some (.int (v2 + x1)), some (.int v3), some (.long v4), none, some (.long v6), none, some (.int v8), some (.long (((((I (100 * b0 + 4))).toInt64 * ((v2 + x1)).toInt64) - ((v8).toInt64 * (v1).toInt64)) * ((((I (100 * b0 + 4))).toInt64 * ((v2 + x1)).toInt64) - ((v8).toInt64 * (v1).toInt64)))), none, none, none]) (st' := [.int v8, .ref b0]) (h' := (HP I A L F E)) rfl).trans ?_
    refine (sg_callV ht_X4_changePlace (mj := 40) (as := [.ref b0, .int v8]) (rest := []) rfl rfl rfl (Nat.le_of_ble_eq_true rfl) (sS_obj hb0) ⟨by decide, Nat.le_of_ble_eq_true rfl⟩).trans ?_
    refine (bind_eq (sg_X4_gainBelow_0 hb0 v8)).trans ?_
    show mm_run G0 42 62 [some (.ref b0), some (.int v1), some (.int (v2 + x1)), some (.int v3), some (.long v4), none, some (.long v6), none, some (.int v8), some (.long (((((I (100 * b0 + 4))).toInt64 * ((v2 + x1)).toInt64) - ((v8).toInt64 * (v1).toInt64)) * ((((I (100 * b0 + 4))).toInt64 * ((v2 + x1)).toInt64) - ((v8).toInt64 * (v1).toInt64)))), none, none, none] [.long ((v8).toInt64 * (((I (100 * b0 + 4)) - v8)).toInt64)] (HP I A L F E) = _
    refine (sg_go ht_X4_changePlace (k := 8) (pc' := 75) (L' := [some (.ref b0), some (.int v1), some (.int (v2 + x1)), some (.int v3), some (.long v4), none, some (.long v6), none, some (.int v8), some (.long (((((I (100 * b0 + 4))).toInt64 * ((v2 + x1)).toInt64) - ((v8).toInt64 * (v1).toInt64)) * ((((I (100 * b0 + 4))).toInt64 * ((v2 + x1)).toInt64) - ((v8).toInt64 * (v1).toInt64)))), none, some (.long ((v8).toInt64 * (((I (100 * b0 + 4)) - v8)).toInt64)), none]) (st' := [.int (lg_cmp ((((((I (100 * b0 + 4))).toInt64 * ((v2 + x1)).toInt64) - ((v8).toInt64 * (v1).toInt64)) * ((((I (100 * b0 + 4))).toInt64 * ((v2 + x1)).toInt64) - ((v8).toInt64 * (v1).toInt64))) * v6) (v4 * ((v8).toInt64 * (((I (100 * b0 + 4)) - v8)).toInt64)))]) (h' := (HP I A L F E)) rfl).trans ?_
    refine (sg_if ht_X4_changePlace rfl).trans ?_
    refine ite_congr rfl (fun _ => ?_) (fun _ => ?_)
    · refine (sg_go ht_X4_changePlace (k := 8) (pc' := 25) (L' := [some (.ref b0), some (.int v1), some (.int (v2 + x1)), some (.int v8), some (.long (((((I (100 * b0 + 4))).toInt64 * ((v2 + x1)).toInt64) - ((v8).toInt64 * (v1).toInt64)) * ((((I (100 * b0 + 4))).toInt64 * ((v2 + x1)).toInt64) - ((v8).toInt64 * (v1).toInt64)))), none, some (.long ((v8).toInt64 * (((I (100 * b0 + 4)) - v8)).toInt64)), none, some (.int (v8 + 1)), some (.long (((((I (100 * b0 + 4))).toInt64 * ((v2 + x1)).toInt64) - ((v8).toInt64 * (v1).toInt64)) * ((((I (100 * b0 + 4))).toInt64 * ((v2 + x1)).toInt64) - ((v8).toInt64 * (v1).toInt64)))), none, some (.long ((v8).toInt64 * (((I (100 * b0 + 4)) - v8)).toInt64)), none]) (st' := []) (h' := (HP I A L F E)) rfl).trans ?_
      rfl
    · refine (sg_go ht_X4_changePlace (k := 3) (pc' := 25) (L' := [some (.ref b0), some (.int v1), some (.int (v2 + x1)), some (.int v3), some (.long v4), none, some (.long v6), none, some (.int (v8 + 1)), some (.long (((((I (100 * b0 + 4))).toInt64 * ((v2 + x1)).toInt64) - ((v8).toInt64 * (v1).toInt64)) * ((((I (100 * b0 + 4))).toInt64 * ((v2 + x1)).toInt64) - ((v8).toInt64 * (v1).toInt64)))), none, some (.long ((v8).toInt64 * (((I (100 * b0 + 4)) - v8)).toInt64)), none]) (st' := []) (h' := (HP I A L F E)) rfl).trans ?_
      rfl
set_option maxRecDepth 20000 in
theorem sg_X4_changePlace_25_v11 {I : Nat → Int32} {A : Nat → List Int32} {L : Nat → List Int64} {F : Nat → Int64} {E : MH} {b0 : Nat} (hb0 : isS b0) (v1 : Int32) (v2 : Int32) (v3 : Int32) (v4 : Int64) (v6 : Int64) (v8 : Int32) (o9 : Int64) (o11 : Int64) : mm_run G0 42 25 [some (.ref b0), some (.int v1), some (.int v2), some (.int v3), some (.long v4), none, some (.long v6), none, some (.int v8), some (.long o9), none, some (.long o11), none] [] (HP I A L F E) = (if (I (100 * b0 + 4)) ≤ v8 then some (some (.int v3), (HP I A L F E)) else ((ldI (A (b0 + 1)) (v8 - 1)).bind fun x1 => (if 0 < (lg_cmp ((((((I (100 * b0 + 4))).toInt64 * ((v2 + x1)).toInt64) - ((v8).toInt64 * (v1).toInt64)) * ((((I (100 * b0 + 4))).toInt64 * ((v2 + x1)).toInt64) - ((v8).toInt64 * (v1).toInt64))) * v6) (v4 * ((v8).toInt64 * (((I (100 * b0 + 4)) - v8)).toInt64))) then mm_run G0 42 25 [some (.ref b0), some (.int v1), some (.int (v2 + x1)), some (.int v8), some (.long (((((I (100 * b0 + 4))).toInt64 * ((v2 + x1)).toInt64) - ((v8).toInt64 * (v1).toInt64)) * ((((I (100 * b0 + 4))).toInt64 * ((v2 + x1)).toInt64) - ((v8).toInt64 * (v1).toInt64)))), none, some (.long ((v8).toInt64 * (((I (100 * b0 + 4)) - v8)).toInt64)), none, some (.int (v8 + 1)), some (.long (((((I (100 * b0 + 4))).toInt64 * ((v2 + x1)).toInt64) - ((v8).toInt64 * (v1).toInt64)) * ((((I (100 * b0 + 4))).toInt64 * ((v2 + x1)).toInt64) - ((v8).toInt64 * (v1).toInt64)))), none, some (.long ((v8).toInt64 * (((I (100 * b0 + 4)) - v8)).toInt64)), none] [] (HP I A L F E) else mm_run G0 42 25 [some (.ref b0), some (.int v1), some (.int (v2 + x1)), some (.int v3), some (.long v4), none, some (.long v6), none, some (.int (v8 + 1)), some (.long (((((I (100 * b0 + 4))).toInt64 * ((v2 + x1)).toInt64) - ((v8).toInt64 * (v1).toInt64)) * ((((I (100 * b0 + 4))).toInt64 * ((v2 + x1)).toInt64) - ((v8).toInt64 * (v1).toInt64)))), none, some (.long ((v8).toInt64 * (((I (100 * b0 + 4)) - v8)).toInt64)), none] [] (HP I A L F E)))) := by
  refine (sg_go ht_X4_changePlace (k := 2) (pc' := 28) (L' := [some (.ref b0), some (.int v1), some (.int v2), some (.int v3), some (.long v4), none, some (.long v6), none, some (.int v8), some (.long o9), none, some (.long o11), none]) (st' := [.ref b0, .int v8]) (h' := (HP I A L F E)) rfl).trans ?_
  refine (sg_getI ht_X4_changePlace rfl (sS_obj hb0) rfl).trans ?_
  refine (sg_cmp ht_X4_changePlace rfl).trans ?_
  refine ite_congr rfl (fun _ => ?_) (fun _ => ?_)
  · refine (sg_go ht_X4_changePlace (k := 1) (pc' := 99) (L' := [some (.ref b0), some (.int v1), some (.int v2), some (.int v3), some (.long v4), none, some (.long v6), none, some (.int v8), some (.long o9), none, some (.long o11), none]) (st' := [.int v3]) (h' := (HP I A L F E)) rfl).trans ?_
    exact sg_ret ht_X4_changePlace rfl rfl
  · refine (sg_go ht_X4_changePlace (k := 2) (pc' := 36) (L' := [some (.ref b0), some (.int v1), some (.int v2), some (.int v3), some (.long v4), none, some (.long v6), none, some (.int v8), some (.long o9), none, some (.long o11), none]) (st' := [.ref b0, .int v2]) (h' := (HP I A L F E)) rfl).trans ?_
    refine (sg_getR ht_X4_changePlace rfl (sS_obj hb0) rfl).trans ?_
    refine (sg_go ht_X4_changePlace (k := 3) (pc' := 43) (L' := [some (.ref b0), some (.int v1), some (.int v2), some (.int v3), some (.long v4), none, some (.long v6), none, some (.int v8), some (.long o9), none, some (.long o11), none]) (st' := [.int (v8 - 1), .ref (b0 + 1), .int v2]) (h' := (HP I A L F E)) rfl).trans ?_
    refine (sg_ldI ht_X4_changePlace rfl (sS_ar1 hb0)).trans ?_
    refine bind_cg fun x1 hx1 => ?_
    refine (sg_go ht_X4_changePlace (k := 6) (pc' := 51) (L' := [some (.ref b0), some (.int v1), some (.int (v2 + x1)), some (.int v3), some (.long v4), none, some (.long v6), none, some (.int v8), some (.long o9), none, some (.long o11), none]) (st' := [.int v1, .int (v2 + x1), .int v8, .ref b0]) (h' := (HP I A L F E)) rfl).trans ?_
    refine (sg_callV ht_X4_changePlace (mj := 41) (as := [.ref b0, .int v8, .int (v2 + x1), .int v1]) (rest := []) rfl rfl rfl (Nat.le_of_ble_eq_true rfl) (sS_obj hb0) ⟨by decide, Nat.le_of_ble_eq_true rfl⟩).trans ?_
    refine (bind_eq (sg_X4_squareApart_0 hb0 v8 (v2 + x1) v1)).trans ?_
    show mm_run G0 42 54 [some (.ref b0), some (.int v1), some (.int (v2 + x1)), some (.int v3), some (.long v4), none, some (.long v6), none, some (.int v8), some (.long o9), none, some (.long o11), none] [.long (((((I (100 * b0 + 4))).toInt64 * ((v2 + x1)).toInt64) - ((v8).toInt64 * (v1).toInt64)) * ((((I (100 * b0 + 4))).toInt64 * ((v2 + x1)).toInt64) - ((v8).toInt64 * (v1).toInt64)))] (HP I A L F E) = _
    refine (sg_go ht_X4_changePlace (k := 3) (pc' := 59) (L' := [some (.ref b0), some (.int v1), some (.int (v2 + x1)), some (.int v3), some (.long v4), none, some (.long v6), none, some (.int v8), some (.long (((((I (100 * b0 + 4))).toInt64 * ((v2 + x1)).toInt64) - ((v8).toInt64 * (v1).toInt64)) * ((((I (100 * b0 + 4))).toInt64 * ((v2 + x1)).toInt64) - ((v8).toInt64 * (v1).toInt64)))), none, some (.long o11), none]) (st' := [.int v8, .ref b0]) (h' := (HP I A L F E)) rfl).trans ?_
    refine (sg_callV ht_X4_changePlace (mj := 40) (as := [.ref b0, .int v8]) (rest := []) rfl rfl rfl (Nat.le_of_ble_eq_true rfl) (sS_obj hb0) ⟨by decide, Nat.le_of_ble_eq_true rfl⟩).trans ?_
    refine (bind_eq (sg_X4_gainBelow_0 hb0 v8)).trans ?_
    show mm_run G0 42 62 [some (.ref b0), some (.int v1), some (.int (v2 + x1)), some (.int v3), some (.long v4), none, some (.long v6), none, some (.int v8), some (.long (((((I (100 * b0 + 4))).toInt64 * ((v2 + x1)).toInt64) - ((v8).toInt64 * (v1).toInt64)) * ((((I (100 * b0 + 4))).toInt64 * ((v2 + x1)).toInt64) - ((v8).toInt64 * (v1).toInt64)))), none, some (.long o11), none] [.long ((v8).toInt64 * (((I (100 * b0 + 4)) - v8)).toInt64)] (HP I A L F E) = _
    refine (sg_go ht_X4_changePlace (k := 8) (pc' := 75) (L' := [some (.ref b0), some (.int v1), some (.int (v2 + x1)), some (.int v3), some (.long v4), none, some (.long v6), none, some (.int v8), some (.long (((((I (100 * b0 + 4))).toInt64 * ((v2 + x1)).toInt64) - ((v8).toInt64 * (v1).toInt64)) * ((((I (100 * b0 + 4))).toInt64 * ((v2 + x1)).toInt64) - ((v8).toInt64 * (v1).toInt64)))), none, some (.long ((v8).toInt64 * (((I (100 * b0 + 4)) - v8)).toInt64)), none]) (st' := [.int (lg_cmp ((((((I (100 * b0 + 4))).toInt64 * ((v2 + x1)).toInt64) - ((v8).toInt64 * (v1).toInt64)) * ((((I (100 * b0 + 4))).toInt64 * ((v2 + x1)).toInt64) - ((v8).toInt64 * (v1).toInt64))) * v6) (v4 * ((v8).toInt64 * (((I (100 * b0 + 4)) - v8)).toInt64)))]) (h' := (HP I A L F E)) rfl).trans ?_
    refine (sg_if ht_X4_changePlace rfl).trans ?_
    refine ite_congr rfl (fun _ => ?_) (fun _ => ?_)
    · refine (sg_go ht_X4_changePlace (k := 8) (pc' := 25) (L' := [some (.ref b0), some (.int v1), some (.int (v2 + x1)), some (.int v8), some (.long (((((I (100 * b0 + 4))).toInt64 * ((v2 + x1)).toInt64) - ((v8).toInt64 * (v1).toInt64)) * ((((I (100 * b0 + 4))).toInt64 * ((v2 + x1)).toInt64) - ((v8).toInt64 * (v1).toInt64)))), none, some (.long ((v8).toInt64 * (((I (100 * b0 + 4)) - v8)).toInt64)), none, some (.int (v8 + 1)), some (.long (((((I (100 * b0 + 4))).toInt64 * ((v2 + x1)).toInt64) - ((v8).toInt64 * (v1).toInt64)) * ((((I (100 * b0 + 4))).toInt64 * ((v2 + x1)).toInt64) - ((v8).toInt64 * (v1).toInt64)))), none, some (.long ((v8).toInt64 * (((I (100 * b0 + 4)) - v8)).toInt64)), none]) (st' := []) (h' := (HP I A L F E)) rfl).trans ?_
      rfl
    · refine (sg_go ht_X4_changePlace (k := 3) (pc' := 25) (L' := [some (.ref b0), some (.int v1), some (.int (v2 + x1)), some (.int v3), some (.long v4), none, some (.long v6), none, some (.int (v8 + 1)), some (.long (((((I (100 * b0 + 4))).toInt64 * ((v2 + x1)).toInt64) - ((v8).toInt64 * (v1).toInt64)) * ((((I (100 * b0 + 4))).toInt64 * ((v2 + x1)).toInt64) - ((v8).toInt64 * (v1).toInt64)))), none, some (.long ((v8).toInt64 * (((I (100 * b0 + 4)) - v8)).toInt64)), none]) (st' := []) (h' := (HP I A L F E)) rfl).trans ?_
      rfl
theorem sg_X4_changePlace_25 {I : Nat → Int32} {A : Nat → List Int32} {L : Nat → List Int64} {F : Nat → Int64} {E : MH} {b0 : Nat} (hb0 : isS b0) (v1 : Int32) (v2 : Int32) (v3 : Int32) (v4 : Int64) (v6 : Int64) (v8 : Int32) (o9 : Option Int64) (o11 : Option Int64) : mm_run G0 42 25 [some (.ref b0), some (.int v1), some (.int v2), some (.int v3), some (.long v4), none, some (.long v6), none, some (.int v8), (o9.map Value.long), none, (o11.map Value.long), none] [] (HP I A L F E) = (if (I (100 * b0 + 4)) ≤ v8 then some (some (.int v3), (HP I A L F E)) else ((ldI (A (b0 + 1)) (v8 - 1)).bind fun x1 => (if 0 < (lg_cmp ((((((I (100 * b0 + 4))).toInt64 * ((v2 + x1)).toInt64) - ((v8).toInt64 * (v1).toInt64)) * ((((I (100 * b0 + 4))).toInt64 * ((v2 + x1)).toInt64) - ((v8).toInt64 * (v1).toInt64))) * v6) (v4 * ((v8).toInt64 * (((I (100 * b0 + 4)) - v8)).toInt64))) then mm_run G0 42 25 [some (.ref b0), some (.int v1), some (.int (v2 + x1)), some (.int v8), some (.long (((((I (100 * b0 + 4))).toInt64 * ((v2 + x1)).toInt64) - ((v8).toInt64 * (v1).toInt64)) * ((((I (100 * b0 + 4))).toInt64 * ((v2 + x1)).toInt64) - ((v8).toInt64 * (v1).toInt64)))), none, some (.long ((v8).toInt64 * (((I (100 * b0 + 4)) - v8)).toInt64)), none, some (.int (v8 + 1)), some (.long (((((I (100 * b0 + 4))).toInt64 * ((v2 + x1)).toInt64) - ((v8).toInt64 * (v1).toInt64)) * ((((I (100 * b0 + 4))).toInt64 * ((v2 + x1)).toInt64) - ((v8).toInt64 * (v1).toInt64)))), none, some (.long ((v8).toInt64 * (((I (100 * b0 + 4)) - v8)).toInt64)), none] [] (HP I A L F E) else mm_run G0 42 25 [some (.ref b0), some (.int v1), some (.int (v2 + x1)), some (.int v3), some (.long v4), none, some (.long v6), none, some (.int (v8 + 1)), some (.long (((((I (100 * b0 + 4))).toInt64 * ((v2 + x1)).toInt64) - ((v8).toInt64 * (v1).toInt64)) * ((((I (100 * b0 + 4))).toInt64 * ((v2 + x1)).toInt64) - ((v8).toInt64 * (v1).toInt64)))), none, some (.long ((v8).toInt64 * (((I (100 * b0 + 4)) - v8)).toInt64)), none] [] (HP I A L F E)))) := by
  match o9, o11 with
  | none, none => exact sg_X4_changePlace_25_v00 hb0 v1 v2 v3 v4 v6 v8
  | none, some o11 => exact sg_X4_changePlace_25_v01 hb0 v1 v2 v3 v4 v6 v8 o11
  | some o9, none => exact sg_X4_changePlace_25_v10 hb0 v1 v2 v3 v4 v6 v8 o9
  | some o9, some o11 => exact sg_X4_changePlace_25_v11 hb0 v1 v2 v3 v4 v6 v8 o9 o11
set_option maxRecDepth 20000 in
theorem sg_X2_clear_0 {I : Nat → Int32} {A : Nat → List Int32} {L : Nat → List Int64} {F : Nat → Int64} {E : MH} {b0 : Nat} (hb0 : isRw b0) : mm_call G0 19 [.ref b0] (HP I A L F E) = some (some (.int 0), (HP (fu I (100 * b0 + 3) 0) A L F E)) := by
  show mm_run G0 19 0 [some (.ref b0)] [] (HP I A L F E) = _
  refine (sg_go ht_X2_clear (k := 2) (pc' := 2) (L' := [some (.ref b0)]) (st' := [.int 0, .ref b0]) (h' := (HP I A L F E)) rfl).trans ?_
  refine (sg_putI (h' := (HP (fu I (100 * b0 + 3) 0) A L F E)) ht_X2_clear rfl (sRw_obj hb0) (Nat.le_of_ble_eq_true rfl) (sRw_put3 hb0)).trans ?_
  refine (sg_go ht_X2_clear (k := 1) (pc' := 6) (L' := [some (.ref b0)]) (st' := [.int 0]) (h' := (HP (fu I (100 * b0 + 3) 0) A L F E)) rfl).trans ?_
  exact sg_ret ht_X2_clear rfl rfl
set_option maxRecDepth 20000 in
theorem sg_X2_add_0 {I : Nat → Int32} {A : Nat → List Int32} {L : Nat → List Int64} {F : Nat → Int64} {E : MH} {b0 : Nat} (hb0 : isRw b0) (p1 : Int32) (p2 : Int32) : mm_call G0 20 [.ref b0, .int p1, .int p2] (HP I A L F E) = (if (I (100 * b0 + 3)) < (rwM b0) then ((stI (A (b0 + 1)) (I (100 * b0 + 3)) p1).bind fun X1 => ((stI ((fu A (b0 + 1) X1) (b0 + 2)) (I (100 * b0 + 3)) p2).bind fun X2 => some (some (.int ((fu I (100 * b0 + 3) ((I (100 * b0 + 3)) + 1)) (100 * b0 + 3))), (HP (fu I (100 * b0 + 3) ((I (100 * b0 + 3)) + 1)) (fu (fu A (b0 + 1) X1) (b0 + 2) X2) L F E)))) else some (some (.int (-4)), (HP I A L F E))) := by
  show mm_run G0 20 0 [some (.ref b0), some (.int p1), some (.int p2)] [] (HP I A L F E) = _
  refine (sg_go ht_X2_add (k := 1) (pc' := 1) (L' := [some (.ref b0), some (.int p1), some (.int p2)]) (st' := [.ref b0]) (h' := (HP I A L F E)) rfl).trans ?_
  refine (sg_getI ht_X2_add rfl (sRw_obj hb0) rfl).trans ?_
  refine (sg_go ht_X2_add (k := 1) (pc' := 5) (L' := [some (.ref b0), some (.int p1), some (.int p2)]) (st' := [.ref b0, .int (I (100 * b0 + 3))]) (h' := (HP I A L F E)) rfl).trans ?_
  refine (sg_getI ht_X2_add rfl (sRw_obj hb0) rfl).trans ?_
  refine (sg_cmp ht_X2_add rfl).trans ?_
  refine ite_congr rfl (fun _ => ?_) (fun _ => ?_)
  · refine (sg_go ht_X2_add (k := 1) (pc' := 15) (L' := [some (.ref b0), some (.int p1), some (.int p2)]) (st' := [.ref b0]) (h' := (HP I A L F E)) rfl).trans ?_
    refine (sg_getR ht_X2_add rfl (sRw_obj hb0) rfl).trans ?_
    refine (sg_go ht_X2_add (k := 1) (pc' := 19) (L' := [some (.ref b0), some (.int p1), some (.int p2)]) (st' := [.ref b0, .ref (b0 + 1)]) (h' := (HP I A L F E)) rfl).trans ?_
    refine (sg_getI ht_X2_add rfl (sRw_obj hb0) rfl).trans ?_
    refine (sg_go ht_X2_add (k := 1) (pc' := 23) (L' := [some (.ref b0), some (.int p1), some (.int p2)]) (st' := [.int p1, .int (I (100 * b0 + 3)), .ref (b0 + 1)]) (h' := (HP I A L F E)) rfl).trans ?_
    refine (sg_stI (hh := fun X1 => (HP I (fu A (b0 + 1) X1) L F E)) ht_X2_add rfl (sRw_ar1 hb0) (fun _ => sRw_ast1 hb0)).trans ?_
    refine bind_cg fun X1 hX1 => ?_
    refine (sg_go ht_X2_add (k := 1) (pc' := 25) (L' := [some (.ref b0), some (.int p1), some (.int p2)]) (st' := [.ref b0]) (h' := (HP I (fu A (b0 + 1) X1) L F E)) rfl).trans ?_
    refine (sg_getR ht_X2_add rfl (sRw_obj hb0) rfl).trans ?_
    refine (sg_go ht_X2_add (k := 1) (pc' := 29) (L' := [some (.ref b0), some (.int p1), some (.int p2)]) (st' := [.ref b0, .ref (b0 + 2)]) (h' := (HP I (fu A (b0 + 1) X1) L F E)) rfl).trans ?_
    refine (sg_getI ht_X2_add rfl (sRw_obj hb0) rfl).trans ?_
    refine (sg_go ht_X2_add (k := 1) (pc' := 33) (L' := [some (.ref b0), some (.int p1), some (.int p2)]) (st' := [.int p2, .int (I (100 * b0 + 3)), .ref (b0 + 2)]) (h' := (HP I (fu A (b0 + 1) X1) L F E)) rfl).trans ?_
    refine (sg_stI (hh := fun X2 => (HP I (fu (fu A (b0 + 1) X1) (b0 + 2) X2) L F E)) ht_X2_add rfl (sRw_ar2 hb0) (fun _ => sRw_ast2 hb0)).trans ?_
    refine bind_cg fun X2 hX2 => ?_
    refine (sg_go ht_X2_add (k := 2) (pc' := 36) (L' := [some (.ref b0), some (.int p1), some (.int p2)]) (st' := [.ref b0, .ref b0]) (h' := (HP I (fu (fu A (b0 + 1) X1) (b0 + 2) X2) L F E)) rfl).trans ?_
    refine (sg_getI ht_X2_add rfl (sRw_obj hb0) rfl).trans ?_
    refine (sg_go ht_X2_add (k := 2) (pc' := 41) (L' := [some (.ref b0), some (.int p1), some (.int p2)]) (st' := [.int ((I (100 * b0 + 3)) + 1), .ref b0]) (h' := (HP I (fu (fu A (b0 + 1) X1) (b0 + 2) X2) L F E)) rfl).trans ?_
    refine (sg_putI (h' := (HP (fu I (100 * b0 + 3) ((I (100 * b0 + 3)) + 1)) (fu (fu A (b0 + 1) X1) (b0 + 2) X2) L F E)) ht_X2_add rfl (sRw_obj hb0) (Nat.le_of_ble_eq_true rfl) (sRw_put3 hb0)).trans ?_
    refine (sg_go ht_X2_add (k := 1) (pc' := 45) (L' := [some (.ref b0), some (.int p1), some (.int p2)]) (st' := [.ref b0]) (h' := (HP (fu I (100 * b0 + 3) ((I (100 * b0 + 3)) + 1)) (fu (fu A (b0 + 1) X1) (b0 + 2) X2) L F E)) rfl).trans ?_
    refine (sg_getI ht_X2_add rfl (sRw_obj hb0) rfl).trans ?_
    exact sg_ret ht_X2_add rfl rfl
  · refine (sg_go ht_X2_add (k := 1) (pc' := 13) (L' := [some (.ref b0), some (.int p1), some (.int p2)]) (st' := [.int (-4)]) (h' := (HP I A L F E)) rfl).trans ?_
    exact sg_ret ht_X2_add rfl rfl
set_option maxRecDepth 20000 in
theorem sg_X2_become_0 {I : Nat → Int32} {A : Nat → List Int32} {L : Nat → List Int64} {F : Nat → Int64} {E : MH} {b0 : Nat} (hb0 : isRw b0) {b1 : Nat} (hb1 : isRw b1) : mm_call G0 21 [.ref b0, .ref b1] (HP I A L F E) = mm_run G0 21 17 [some (.ref b0), some (.ref b1), some (.int 0)] [] (HP (fu I (100 * b0 + 3) (imin (I (100 * b1 + 3)) (rwM b0))) A L F E) := by
  show mm_run G0 21 0 [some (.ref b0), some (.ref b1), none] [] (HP I A L F E) = _
  refine (sg_go ht_X2_become (k := 2) (pc' := 2) (L' := [some (.ref b0), some (.ref b1), none]) (st' := [.ref b1, .ref b0]) (h' := (HP I A L F E)) rfl).trans ?_
  refine (sg_getI ht_X2_become rfl (sRw_obj hb1) rfl).trans ?_
  refine (sg_go ht_X2_become (k := 1) (pc' := 6) (L' := [some (.ref b0), some (.ref b1), none]) (st' := [.ref b0, .int (I (100 * b1 + 3)), .ref b0]) (h' := (HP I A L F E)) rfl).trans ?_
  refine (sg_getI ht_X2_become rfl (sRw_obj hb0) rfl).trans ?_
  refine (sg_go ht_X2_become (k := 1) (pc' := 12) (L' := [some (.ref b0), some (.ref b1), none]) (st' := [.int (imin (I (100 * b1 + 3)) (rwM b0)), .ref b0]) (h' := (HP I A L F E)) rfl).trans ?_
  refine (sg_putI (h' := (HP (fu I (100 * b0 + 3) (imin (I (100 * b1 + 3)) (rwM b0))) A L F E)) ht_X2_become rfl (sRw_obj hb0) (Nat.le_of_ble_eq_true rfl) (sRw_put3 hb0)).trans ?_
  refine (sg_go ht_X2_become (k := 2) (pc' := 17) (L' := [some (.ref b0), some (.ref b1), some (.int 0)]) (st' := []) (h' := (HP (fu I (100 * b0 + 3) (imin (I (100 * b1 + 3)) (rwM b0))) A L F E)) rfl).trans ?_
  rfl
set_option maxRecDepth 20000 in
theorem sg_X2_become_17 {I : Nat → Int32} {A : Nat → List Int32} {L : Nat → List Int64} {F : Nat → Int64} {E : MH} {b0 : Nat} (hb0 : isRw b0) {b1 : Nat} (hb1 : isRw b1) (v2 : Int32) : mm_run G0 21 17 [some (.ref b0), some (.ref b1), some (.int v2)] [] (HP I A L F E) = (if (I (100 * b0 + 3)) ≤ v2 then some (none, (HP I A L F E)) else ((ldI (A (b1 + 1)) v2).bind fun x1 => ((stI (A (b0 + 1)) v2 x1).bind fun X2 => ((ldI ((fu A (b0 + 1) X2) (b1 + 2)) v2).bind fun x3 => ((stI ((fu A (b0 + 1) X2) (b0 + 2)) v2 x3).bind fun X4 => mm_run G0 21 17 [some (.ref b0), some (.ref b1), some (.int (v2 + 1))] [] (HP I (fu (fu A (b0 + 1) X2) (b0 + 2) X4) L F E)))))) := by
  refine (sg_go ht_X2_become (k := 2) (pc' := 19) (L' := [some (.ref b0), some (.ref b1), some (.int v2)]) (st' := [.ref b0, .int v2]) (h' := (HP I A L F E)) rfl).trans ?_
  refine (sg_getI ht_X2_become rfl (sRw_obj hb0) rfl).trans ?_
  refine (sg_cmp ht_X2_become rfl).trans ?_
  refine ite_congr rfl (fun _ => ?_) (fun _ => ?_)
  · exact sg_ret ht_X2_become rfl rfl
  · refine (sg_go ht_X2_become (k := 1) (pc' := 26) (L' := [some (.ref b0), some (.ref b1), some (.int v2)]) (st' := [.ref b0]) (h' := (HP I A L F E)) rfl).trans ?_
    refine (sg_getR ht_X2_become rfl (sRw_obj hb0) rfl).trans ?_
    refine (sg_go ht_X2_become (k := 2) (pc' := 31) (L' := [some (.ref b0), some (.ref b1), some (.int v2)]) (st' := [.ref b1, .int v2, .ref (b0 + 1)]) (h' := (HP I A L F E)) rfl).trans ?_
    refine (sg_getR ht_X2_become rfl (sRw_obj hb1) rfl).trans ?_
    refine (sg_go ht_X2_become (k := 1) (pc' := 35) (L' := [some (.ref b0), some (.ref b1), some (.int v2)]) (st' := [.int v2, .ref (b1 + 1), .int v2, .ref (b0 + 1)]) (h' := (HP I A L F E)) rfl).trans ?_
    refine (sg_ldI ht_X2_become rfl (sRw_ar1 hb1)).trans ?_
    refine bind_cg fun x1 hx1 => ?_
    refine (sg_stI (hh := fun X2 => (HP I (fu A (b0 + 1) X2) L F E)) ht_X2_become rfl (sRw_ar1 hb0) (fun _ => sRw_ast1 hb0)).trans ?_
    refine bind_cg fun X2 hX2 => ?_
    refine (sg_go ht_X2_become (k := 1) (pc' := 38) (L' := [some (.ref b0), some (.ref b1), some (.int v2)]) (st' := [.ref b0]) (h' := (HP I (fu A (b0 + 1) X2) L F E)) rfl).trans ?_
    refine (sg_getR ht_X2_become rfl (sRw_obj hb0) rfl).trans ?_
    refine (sg_go ht_X2_become (k := 2) (pc' := 43) (L' := [some (.ref b0), some (.ref b1), some (.int v2)]) (st' := [.ref b1, .int v2, .ref (b0 + 2)]) (h' := (HP I (fu A (b0 + 1) X2) L F E)) rfl).trans ?_
    refine (sg_getR ht_X2_become rfl (sRw_obj hb1) rfl).trans ?_
    refine (sg_go ht_X2_become (k := 1) (pc' := 47) (L' := [some (.ref b0), some (.ref b1), some (.int v2)]) (st' := [.int v2, .ref (b1 + 2), .int v2, .ref (b0 + 2)]) (h' := (HP I (fu A (b0 + 1) X2) L F E)) rfl).trans ?_
    refine (sg_ldI ht_X2_become rfl (sRw_ar2 hb1)).trans ?_
    refine bind_cg fun x3 hx3 => ?_
    refine (sg_stI (hh := fun X4 => (HP I (fu (fu A (b0 + 1) X2) (b0 + 2) X4) L F E)) ht_X2_become rfl (sRw_ar2 hb0) (fun _ => sRw_ast2 hb0)).trans ?_
    refine bind_cg fun X4 hX4 => ?_
    refine (sg_go ht_X2_become (k := 2) (pc' := 17) (L' := [some (.ref b0), some (.ref b1), some (.int (v2 + 1))]) (st' := []) (h' := (HP I (fu (fu A (b0 + 1) X2) (b0 + 2) X4) L F E)) rfl).trans ?_
    rfl
set_option maxRecDepth 20000 in
theorem sg_X5_has_0 {I : Nat → Int32} {A : Nat → List Int32} {L : Nat → List Int64} {F : Nat → Int64} {E : MH} {b0 : Nat} (hb0 : isT b0) (p1 : Int32) : mm_call G0 45 [.ref b0, .int p1] (HP I A L F E) = (if p1 < 0 then some (some (.int 0), (HP I A L F E)) else (if (I (100 * b0 + 1)) ≤ p1 then some (some (.int 0), (HP I A L F E)) else some (some (.int 1), (HP I A L F E)))) := by
  show mm_run G0 45 0 [some (.ref b0), some (.int p1)] [] (HP I A L F E) = _
  refine (sg_go ht_X5_has (k := 1) (pc' := 1) (L' := [some (.ref b0), some (.int p1)]) (st' := [.int p1]) (h' := (HP I A L F E)) rfl).trans ?_
  refine (sg_if ht_X5_has rfl).trans ?_
  refine ite_congr rfl (fun _ => ?_) (fun _ => ?_)
  · refine (sg_go ht_X5_has (k := 1) (pc' := 17) (L' := [some (.ref b0), some (.int p1)]) (st' := [.int 0]) (h' := (HP I A L F E)) rfl).trans ?_
    exact sg_ret ht_X5_has rfl rfl
  · refine (sg_go ht_X5_has (k := 2) (pc' := 6) (L' := [some (.ref b0), some (.int p1)]) (st' := [.ref b0, .int p1]) (h' := (HP I A L F E)) rfl).trans ?_
    refine (sg_getI ht_X5_has rfl (sT_obj hb0) rfl).trans ?_
    refine (sg_cmp ht_X5_has rfl).trans ?_
    refine ite_congr rfl (fun _ => ?_) (fun _ => ?_)
    · refine (sg_go ht_X5_has (k := 1) (pc' := 17) (L' := [some (.ref b0), some (.int p1)]) (st' := [.int 0]) (h' := (HP I A L F E)) rfl).trans ?_
      exact sg_ret ht_X5_has rfl rfl
    · refine (sg_go ht_X5_has (k := 2) (pc' := 17) (L' := [some (.ref b0), some (.int p1)]) (st' := [.int 1]) (h' := (HP I A L F E)) rfl).trans ?_
      exact sg_ret ht_X5_has rfl rfl
theorem sp_X5_has {I : Nat → Int32} {A : Nat → List Int32} {L : Nat → List Int64} {F : Nat → Int64} {E : MH} {b0 : Nat} (hb0 : isT b0) (p1 : Int32) : mm_call G0 45 [.ref b0, .int p1] (HP I A L F E) = some (some (.int (bi (decide (¬ p1 < 0 ∧ ¬ (I (100 * b0 + 1)) ≤ p1)))), (HP I A L F E)) := by
  rw [sg_X5_has_0 hb0 p1]
  exact bi_and (f := fun z => some (some (Value.int z), HP I A L F E))
set_option maxRecDepth 20000 in
theorem sg_X5_lay_0 {I : Nat → Int32} {A : Nat → List Int32} {L : Nat → List Int64} {F : Nat → Int64} {E : MH} {b0 : Nat} (hb0 : isT b0) (p1 : Int32) (p2 : Int32) : mm_call G0 44 [.ref b0, .int p1, .int p2] (HP I A L F E) = mm_run G0 44 21 [some (.ref b0), some (.int p1), some (.int p2), some (.int 0)] [] (HP (fu (fu I (100 * b0 + 0) p1) (100 * b0 + 1) (imax 0 (imin 60 p2))) A L F E) := by
  show mm_run G0 44 0 [some (.ref b0), some (.int p1), some (.int p2), none] [] (HP I A L F E) = _
  refine (sg_go ht_X5_lay (k := 2) (pc' := 2) (L' := [some (.ref b0), some (.int p1), some (.int p2), none]) (st' := [.int p1, .ref b0]) (h' := (HP I A L F E)) rfl).trans ?_
  refine (sg_putI (h' := (HP (fu I (100 * b0 + 0) p1) A L F E)) ht_X5_lay rfl (sT_obj hb0) (Nat.le_of_ble_eq_true rfl) (sT_put0 hb0)).trans ?_
  refine (sg_go ht_X5_lay (k := 6) (pc' := 16) (L' := [some (.ref b0), some (.int p1), some (.int p2), none]) (st' := [.int (imax 0 (imin 60 p2)), .ref b0]) (h' := (HP (fu I (100 * b0 + 0) p1) A L F E)) rfl).trans ?_
  refine (sg_putI (h' := (HP (fu (fu I (100 * b0 + 0) p1) (100 * b0 + 1) (imax 0 (imin 60 p2))) A L F E)) ht_X5_lay rfl (sT_obj hb0) (Nat.le_of_ble_eq_true rfl) (sT_put1 hb0)).trans ?_
  refine (sg_go ht_X5_lay (k := 2) (pc' := 21) (L' := [some (.ref b0), some (.int p1), some (.int p2), some (.int 0)]) (st' := []) (h' := (HP (fu (fu I (100 * b0 + 0) p1) (100 * b0 + 1) (imax 0 (imin 60 p2))) A L F E)) rfl).trans ?_
  rfl
set_option maxRecDepth 20000 in
theorem sg_X5_lay_21 {I : Nat → Int32} {A : Nat → List Int32} {L : Nat → List Int64} {F : Nat → Int64} {E : MH} {b0 : Nat} (hb0 : isT b0) (v1 : Int32) (v2 : Int32) (v3 : Int32) : mm_run G0 44 21 [some (.ref b0), some (.int v1), some (.int v2), some (.int v3)] [] (HP I A L F E) = (if (I (100 * b0 + 1)) ≤ v3 then some (none, (HP I A L F E)) else ((stL (L (b0 + 1)) v3 0).bind fun X1 => mm_run G0 44 21 [some (.ref b0), some (.int v1), some (.int v2), some (.int (v3 + 1))] [] (HP I A (fu L (b0 + 1) X1) F E))) := by
  refine (sg_go ht_X5_lay (k := 2) (pc' := 23) (L' := [some (.ref b0), some (.int v1), some (.int v2), some (.int v3)]) (st' := [.ref b0, .int v3]) (h' := (HP I A L F E)) rfl).trans ?_
  refine (sg_getI ht_X5_lay rfl (sT_obj hb0) rfl).trans ?_
  refine (sg_cmp ht_X5_lay rfl).trans ?_
  refine ite_congr rfl (fun _ => ?_) (fun _ => ?_)
  · exact sg_ret ht_X5_lay rfl rfl
  · refine (sg_go ht_X5_lay (k := 1) (pc' := 30) (L' := [some (.ref b0), some (.int v1), some (.int v2), some (.int v3)]) (st' := [.ref b0]) (h' := (HP I A L F E)) rfl).trans ?_
    refine (sg_getR ht_X5_lay rfl (sT_obj hb0) rfl).trans ?_
    refine (sg_go ht_X5_lay (k := 2) (pc' := 35) (L' := [some (.ref b0), some (.int v1), some (.int v2), some (.int v3)]) (st' := [.long 0, .int v3, .ref (b0 + 1)]) (h' := (HP I A L F E)) rfl).trans ?_
    refine (sg_stL (hh := fun X1 => (HP I A (fu L (b0 + 1) X1) F E)) ht_X5_lay rfl (sT_ar1 hb0) (fun _ => sT_ast1 hb0)).trans ?_
    refine bind_cg fun X1 hX1 => ?_
    refine (sg_go ht_X5_lay (k := 2) (pc' := 21) (L' := [some (.ref b0), some (.int v1), some (.int v2), some (.int (v3 + 1))]) (st' := []) (h' := (HP I A (fu L (b0 + 1) X1) F E)) rfl).trans ?_
    rfl
set_option maxRecDepth 20000 in
theorem sg_X5_holds_0 {I : Nat → Int32} {A : Nat → List Int32} {L : Nat → List Int64} {F : Nat → Int64} {E : MH} {b0 : Nat} (hb0 : isT b0) (p1 : Int32) (p2 : Int32) : mm_call G0 46 [.ref b0, .int p1, .int p2] (HP I A L F E) = (if p1 < 0 then some (some (.int 0), (HP I A L F E)) else (if p2 < 0 then some (some (.int 0), (HP I A L F E)) else (if (I (100 * b0 + 1)) < p2 then some (some (.int 0), (HP I A L F E)) else (if ((I (100 * b0 + 1)) - p2) < p1 then some (some (.int 0), (HP I A L F E)) else some (some (.int 1), (HP I A L F E)))))) := by
  show mm_run G0 46 0 [some (.ref b0), some (.int p1), some (.int p2)] [] (HP I A L F E) = _
  refine (sg_go ht_X5_holds (k := 1) (pc' := 1) (L' := [some (.ref b0), some (.int p1), some (.int p2)]) (st' := [.int p1]) (h' := (HP I A L F E)) rfl).trans ?_
  refine (sg_if ht_X5_holds rfl).trans ?_
  refine ite_congr rfl (fun _ => ?_) (fun _ => ?_)
  · refine (sg_go ht_X5_holds (k := 1) (pc' := 31) (L' := [some (.ref b0), some (.int p1), some (.int p2)]) (st' := [.int 0]) (h' := (HP I A L F E)) rfl).trans ?_
    exact sg_ret ht_X5_holds rfl rfl
  · refine (sg_go ht_X5_holds (k := 1) (pc' := 5) (L' := [some (.ref b0), some (.int p1), some (.int p2)]) (st' := [.int p2]) (h' := (HP I A L F E)) rfl).trans ?_
    refine (sg_if ht_X5_holds rfl).trans ?_
    refine ite_congr rfl (fun _ => ?_) (fun _ => ?_)
    · refine (sg_go ht_X5_holds (k := 1) (pc' := 31) (L' := [some (.ref b0), some (.int p1), some (.int p2)]) (st' := [.int 0]) (h' := (HP I A L F E)) rfl).trans ?_
      exact sg_ret ht_X5_holds rfl rfl
    · refine (sg_go ht_X5_holds (k := 2) (pc' := 10) (L' := [some (.ref b0), some (.int p1), some (.int p2)]) (st' := [.ref b0, .int p2]) (h' := (HP I A L F E)) rfl).trans ?_
      refine (sg_getI ht_X5_holds rfl (sT_obj hb0) rfl).trans ?_
      refine (sg_cmp ht_X5_holds rfl).trans ?_
      refine ite_congr rfl (fun _ => ?_) (fun _ => ?_)
      · refine (sg_go ht_X5_holds (k := 1) (pc' := 31) (L' := [some (.ref b0), some (.int p1), some (.int p2)]) (st' := [.int 0]) (h' := (HP I A L F E)) rfl).trans ?_
        exact sg_ret ht_X5_holds rfl rfl
      · refine (sg_go ht_X5_holds (k := 2) (pc' := 18) (L' := [some (.ref b0), some (.int p1), some (.int p2)]) (st' := [.ref b0, .int p1]) (h' := (HP I A L F E)) rfl).trans ?_
        refine (sg_getI ht_X5_holds rfl (sT_obj hb0) rfl).trans ?_
        refine (sg_go ht_X5_holds (k := 2) (pc' := 23) (L' := [some (.ref b0), some (.int p1), some (.int p2)]) (st' := [.int ((I (100 * b0 + 1)) - p2), .int p1]) (h' := (HP I A L F E)) rfl).trans ?_
        refine (sg_cmp ht_X5_holds rfl).trans ?_
        refine ite_congr rfl (fun _ => ?_) (fun _ => ?_)
        · refine (sg_go ht_X5_holds (k := 1) (pc' := 31) (L' := [some (.ref b0), some (.int p1), some (.int p2)]) (st' := [.int 0]) (h' := (HP I A L F E)) rfl).trans ?_
          exact sg_ret ht_X5_holds rfl rfl
        · refine (sg_go ht_X5_holds (k := 2) (pc' := 31) (L' := [some (.ref b0), some (.int p1), some (.int p2)]) (st' := [.int 1]) (h' := (HP I A L F E)) rfl).trans ?_
          exact sg_ret ht_X5_holds rfl rfl
set_option maxRecDepth 20000 in
theorem sg_X5_narrowed_0 {I : Nat → Int32} {A : Nat → List Int32} {L : Nat → List Int64} {F : Nat → Int64} {E : MH} {b0 : Nat} (hb0 : isT b0) (p1 : Int64) : mm_call G0 47 [.ref b0, .long p1] (HP I A L F E) = (if (I (100 * b0 + 0)) = 0 then some (some (.long ((p1).toInt32.toInt8.toInt32).toInt64), (HP I A L F E)) else (if (I (100 * b0 + 0)) = 1 then some (some (.long ((p1).toInt32.toInt16.toInt32).toInt64), (HP I A L F E)) else (if (I (100 * b0 + 0)) = 2 then some (some (.long ((p1).toInt32).toInt64), (HP I A L F E)) else (if (I (100 * b0 + 0)) = 3 then some (some (.long p1), (HP I A L F E)) else (if (I (100 * b0 + 0)) = 4 then (if (lg_cmp p1 (0)) = 0 then some (some (.long 0), (HP I A L F E)) else some (some (.long 1), (HP I A L F E))) else some (some (.long p1), (HP I A L F E))))))) := by
  show mm_run G0 47 0 [some (.ref b0), some (.long p1), none] [] (HP I A L F E) = _
  refine (sg_go ht_X5_narrowed (k := 1) (pc' := 1) (L' := [some (.ref b0), some (.long p1), none]) (st' := [.ref b0]) (h' := (HP I A L F E)) rfl).trans ?_
  refine (sg_getI ht_X5_narrowed rfl (sT_obj hb0) rfl).trans ?_
  refine (sg_sw ht_X5_narrowed rfl).trans ?_
  rw [swt_cons (k := 0) (lo' := 1) (by decide) (by decide), run_ite]
  refine ite_congr rfl (fun _ => ?_) (fun _ => ?_)
  · refine (sg_go ht_X5_narrowed (k := 4) (pc' := 44) (L' := [some (.ref b0), some (.long p1), none]) (st' := [.long ((p1).toInt32.toInt8.toInt32).toInt64]) (h' := (HP I A L F E)) rfl).trans ?_
    exact sg_ret ht_X5_narrowed rfl rfl
  · rw [swt_cons (k := 1) (lo' := 2) (by decide) (by decide), run_ite]
    refine ite_congr rfl (fun _ => ?_) (fun _ => ?_)
    · refine (sg_go ht_X5_narrowed (k := 4) (pc' := 49) (L' := [some (.ref b0), some (.long p1), none]) (st' := [.long ((p1).toInt32.toInt16.toInt32).toInt64]) (h' := (HP I A L F E)) rfl).trans ?_
      exact sg_ret ht_X5_narrowed rfl rfl
    · rw [swt_cons (k := 2) (lo' := 3) (by decide) (by decide), run_ite]
      refine ite_congr rfl (fun _ => ?_) (fun _ => ?_)
      · refine (sg_go ht_X5_narrowed (k := 3) (pc' := 53) (L' := [some (.ref b0), some (.long p1), none]) (st' := [.long ((p1).toInt32).toInt64]) (h' := (HP I A L F E)) rfl).trans ?_
        exact sg_ret ht_X5_narrowed rfl rfl
      · rw [swt_cons (k := 3) (lo' := 4) (by decide) (by decide), run_ite]
        refine ite_congr rfl (fun _ => ?_) (fun _ => ?_)
        · refine (sg_go ht_X5_narrowed (k := 1) (pc' := 67) (L' := [some (.ref b0), some (.long p1), none]) (st' := [.long p1]) (h' := (HP I A L F E)) rfl).trans ?_
          exact sg_ret ht_X5_narrowed rfl rfl
        · rw [swt_cons (k := 4) (lo' := 5) (by decide) (by decide), run_ite]
          refine ite_congr rfl (fun _ => ?_) (fun _ => ?_)
          · refine (sg_go ht_X5_narrowed (k := 3) (pc' := 57) (L' := [some (.ref b0), some (.long p1), none]) (st' := [.int (lg_cmp p1 (0))]) (h' := (HP I A L F E)) rfl).trans ?_
            refine (sg_if ht_X5_narrowed rfl).trans ?_
            refine ite_congr rfl (fun _ => ?_) (fun _ => ?_)
            · refine (sg_go ht_X5_narrowed (k := 1) (pc' := 65) (L' := [some (.ref b0), some (.long p1), none]) (st' := [.long 0]) (h' := (HP I A L F E)) rfl).trans ?_
              exact sg_ret ht_X5_narrowed rfl rfl
            · refine (sg_go ht_X5_narrowed (k := 2) (pc' := 65) (L' := [some (.ref b0), some (.long p1), none]) (st' := [.long 1]) (h' := (HP I A L F E)) rfl).trans ?_
              exact sg_ret ht_X5_narrowed rfl rfl
          · rw [swt_nil]
            refine (sg_go ht_X5_narrowed (k := 1) (pc' := 67) (L' := [some (.ref b0), some (.long p1), none]) (st' := [.long p1]) (h' := (HP I A L F E)) rfl).trans ?_
            exact sg_ret ht_X5_narrowed rfl rfl
set_option maxRecDepth 20000 in
theorem sg_X1_begin_0 {I : Nat → Int32} {A : Nat → List Int32} {L : Nat → List Int64} {F : Nat → Int64} {E : MH} (p1 : Int32) (p2 : Int32) (p3 : Int32) (p4 : Int32) (hp4 : p4 = 0 ∨ p4 = 1) : mm_call G0 13 [.ref 48, .int p1, .int p2, .int p3, .int p4] (HP I A L F E) = some (none, (HP (fu (fu (fu (fu (fu I 4800 p1) 4801 p2) 4802 p3) 4803 p4) 4806 0) A L F E)) := by
  show mm_run G0 13 0 [some (.ref 48), some (.int p1), some (.int p2), some (.int p3), some (.int p4)] [] (HP I A L F E) = _
  refine (sg_go ht_X1_begin (k := 2) (pc' := 2) (L' := [some (.ref 48), some (.int p1), some (.int p2), some (.int p3), some (.int p4)]) (st' := [.int p1, .ref 48]) (h' := (HP I A L F E)) rfl).trans ?_
  refine (sg_putI (h' := (HP (fu I 4800 p1) A L F E)) ht_X1_begin rfl hp_o_48 (Nat.le_of_ble_eq_true rfl) hp_p_4800).trans ?_
  refine (sg_go ht_X1_begin (k := 2) (pc' := 7) (L' := [some (.ref 48), some (.int p1), some (.int p2), some (.int p3), some (.int p4)]) (st' := [.int p2, .ref 48]) (h' := (HP (fu I 4800 p1) A L F E)) rfl).trans ?_
  refine (sg_putI (h' := (HP (fu (fu I 4800 p1) 4801 p2) A L F E)) ht_X1_begin rfl hp_o_48 (Nat.le_of_ble_eq_true rfl) hp_p_4801).trans ?_
  refine (sg_go ht_X1_begin (k := 2) (pc' := 12) (L' := [some (.ref 48), some (.int p1), some (.int p2), some (.int p3), some (.int p4)]) (st' := [.int p3, .ref 48]) (h' := (HP (fu (fu I 4800 p1) 4801 p2) A L F E)) rfl).trans ?_
  refine (sg_putI (h' := (HP (fu (fu (fu I 4800 p1) 4801 p2) 4802 p3) A L F E)) ht_X1_begin rfl hp_o_48 (Nat.le_of_ble_eq_true rfl) hp_p_4802).trans ?_
  refine (sg_go ht_X1_begin (k := 2) (pc' := 18) (L' := [some (.ref 48), some (.int p1), some (.int p2), some (.int p3), some (.int p4)]) (st' := [.int p4, .ref 48]) (h' := (HP (fu (fu (fu I 4800 p1) 4801 p2) 4802 p3) A L F E)) rfl).trans ?_
  refine (sg_putZ (h' := (HP (fu (fu (fu (fu I 4800 p1) 4801 p2) 4802 p3) 4803 p4) A L F E)) ht_X1_begin hp4 rfl hp_o_48 (Nat.le_of_ble_eq_true rfl) hp_p_4803).trans ?_
  refine (sg_go ht_X1_begin (k := 2) (pc' := 23) (L' := [some (.ref 48), some (.int p1), some (.int p2), some (.int p3), some (.int p4)]) (st' := [.int 0, .ref 48]) (h' := (HP (fu (fu (fu (fu I 4800 p1) 4801 p2) 4802 p3) 4803 p4) A L F E)) rfl).trans ?_
  refine (sg_putI (h' := (HP (fu (fu (fu (fu (fu I 4800 p1) 4801 p2) 4802 p3) 4803 p4) 4806 0) A L F E)) ht_X1_begin rfl hp_o_48 (Nat.le_of_ble_eq_true rfl) hp_p_4806).trans ?_
  exact sg_ret ht_X1_begin rfl rfl
set_option maxRecDepth 20000 in
theorem sg_X1_alarmed_0 {I : Nat → Int32} {A : Nat → List Int32} {L : Nat → List Int64} {F : Nat → Int64} {E : MH} (p1 : Int32) (p2 : Int32) (p3 : Int32) : mm_call G0 15 [.ref 48, .int p1, .int p2, .int p3] (HP I A L F E) = (if (I 4801) ≤ p2 then ((stI (A 51) (I 4806) p1).bind fun X1 => (if p2 < (I 4801) then ((stI (A 52) (I 4806) 1).bind fun X2 => (if p2 < (I 4801) then ((stI (A 53) (I 4806) p3).bind fun X3 => some (some (.int 1), (HP (fu I 4806 ((I 4806) + 1)) (fu (fu (fu A 51 X1) 52 X2) 53 X3) L F E))) else ((stI (A 53) (I 4806) p2).bind fun X4 => some (some (.int 1), (HP (fu I 4806 ((I 4806) + 1)) (fu (fu (fu A 51 X1) 52 X2) 53 X4) L F E))))) else ((stI (A 52) (I 4806) 0).bind fun X5 => (if p2 < (I 4801) then ((stI (A 53) (I 4806) p3).bind fun X6 => some (some (.int 1), (HP (fu I 4806 ((I 4806) + 1)) (fu (fu (fu A 51 X1) 52 X5) 53 X6) L F E))) else ((stI (A 53) (I 4806) p2).bind fun X7 => some (some (.int 1), (HP (fu I 4806 ((I 4806) + 1)) (fu (fu (fu A 51 X1) 52 X5) 53 X7) L F E))))))) else (if (I 4801) ≤ p3 then ((stI (A 51) (I 4806) p1).bind fun X8 => (if p2 < (I 4801) then ((stI (A 52) (I 4806) 1).bind fun X9 => (if p2 < (I 4801) then ((stI (A 53) (I 4806) p3).bind fun X10 => some (some (.int 1), (HP (fu I 4806 ((I 4806) + 1)) (fu (fu (fu A 51 X8) 52 X9) 53 X10) L F E))) else ((stI (A 53) (I 4806) p2).bind fun X11 => some (some (.int 1), (HP (fu I 4806 ((I 4806) + 1)) (fu (fu (fu A 51 X8) 52 X9) 53 X11) L F E))))) else ((stI (A 52) (I 4806) 0).bind fun X12 => (if p2 < (I 4801) then ((stI (A 53) (I 4806) p3).bind fun X13 => some (some (.int 1), (HP (fu I 4806 ((I 4806) + 1)) (fu (fu (fu A 51 X8) 52 X12) 53 X13) L F E))) else ((stI (A 53) (I 4806) p2).bind fun X14 => some (some (.int 1), (HP (fu I 4806 ((I 4806) + 1)) (fu (fu (fu A 51 X8) 52 X12) 53 X14) L F E))))))) else some (some (.int 0), (HP I A L F E)))) := by
  show mm_run G0 15 0 [some (.ref 48), some (.int p1), some (.int p2), some (.int p3)] [] (HP I A L F E) = _
  refine (sg_go ht_X1_alarmed (k := 3) (pc' := 5) (L' := [some (.ref 48), some (.int p1), some (.int p2), some (.int p3)]) (st' := [.int (I 4801), .int p2]) (h' := (HP I A L F E)) rfl).trans ?_
  refine (sg_cmp ht_X1_alarmed rfl).trans ?_
  refine ite_congr rfl (fun _ => ?_) (fun _ => ?_)
  · refine (sg_go ht_X1_alarmed (k := 5) (pc' := 27) (L' := [some (.ref 48), some (.int p1), some (.int p2), some (.int p3)]) (st' := [.int p1, .int (I 4806), .ref 51]) (h' := (HP I A L F E)) rfl).trans ?_
    refine (sg_stI (hh := fun X1 => (HP I (fu A 51 X1) L F E)) ht_X1_alarmed rfl hp_o_51 (fun _ => hp_s_51)).trans ?_
    refine bind_cg fun X1 hX1 => ?_
    refine (sg_go ht_X1_alarmed (k := 7) (pc' := 41) (L' := [some (.ref 48), some (.int p1), some (.int p2), some (.int p3)]) (st' := [.int (I 4801), .int p2, .int (I 4806), .ref 52]) (h' := (HP I (fu A 51 X1) L F E)) rfl).trans ?_
    refine (sg_cmp ht_X1_alarmed rfl).trans ?_
    refine ite_congr rfl (fun _ => ?_) (fun _ => ?_)
    · refine (sg_go ht_X1_alarmed (k := 1) (pc' := 49) (L' := [some (.ref 48), some (.int p1), some (.int p2), some (.int p3)]) (st' := [.int 1, .int (I 4806), .ref 52]) (h' := (HP I (fu A 51 X1) L F E)) rfl).trans ?_
      refine (sg_stI (hh := fun X2 => (HP I (fu (fu A 51 X1) 52 X2) L F E)) ht_X1_alarmed rfl hp_o_52 (fun _ => hp_s_52)).trans ?_
      refine bind_cg fun X2 hX2 => ?_
      refine (sg_go ht_X1_alarmed (k := 7) (pc' := 63) (L' := [some (.ref 48), some (.int p1), some (.int p2), some (.int p3)]) (st' := [.int (I 4801), .int p2, .int (I 4806), .ref 53]) (h' := (HP I (fu (fu A 51 X1) 52 X2) L F E)) rfl).trans ?_
      refine (sg_cmp ht_X1_alarmed rfl).trans ?_
      refine ite_congr rfl (fun _ => ?_) (fun _ => ?_)
      · refine (sg_go ht_X1_alarmed (k := 1) (pc' := 71) (L' := [some (.ref 48), some (.int p1), some (.int p2), some (.int p3)]) (st' := [.int p3, .int (I 4806), .ref 53]) (h' := (HP I (fu (fu A 51 X1) 52 X2) L F E)) rfl).trans ?_
        refine (sg_stI (hh := fun X3 => (HP I (fu (fu (fu A 51 X1) 52 X2) 53 X3) L F E)) ht_X1_alarmed rfl hp_o_53 (fun _ => hp_s_53)).trans ?_
        refine bind_cg fun X3 hX3 => ?_
        refine (sg_go ht_X1_alarmed (k := 5) (pc' := 79) (L' := [some (.ref 48), some (.int p1), some (.int p2), some (.int p3)]) (st' := [.int ((I 4806) + 1), .ref 48]) (h' := (HP I (fu (fu (fu A 51 X1) 52 X2) 53 X3) L F E)) rfl).trans ?_
        refine (sg_putI (h' := (HP (fu I 4806 ((I 4806) + 1)) (fu (fu (fu A 51 X1) 52 X2) 53 X3) L F E)) ht_X1_alarmed rfl hp_o_48 (Nat.le_of_ble_eq_true rfl) hp_p_4806).trans ?_
        refine (sg_go ht_X1_alarmed (k := 1) (pc' := 83) (L' := [some (.ref 48), some (.int p1), some (.int p2), some (.int p3)]) (st' := [.int 1]) (h' := (HP (fu I 4806 ((I 4806) + 1)) (fu (fu (fu A 51 X1) 52 X2) 53 X3) L F E)) rfl).trans ?_
        exact sg_ret ht_X1_alarmed rfl rfl
      · refine (sg_go ht_X1_alarmed (k := 2) (pc' := 71) (L' := [some (.ref 48), some (.int p1), some (.int p2), some (.int p3)]) (st' := [.int p2, .int (I 4806), .ref 53]) (h' := (HP I (fu (fu A 51 X1) 52 X2) L F E)) rfl).trans ?_
        refine (sg_stI (hh := fun X4 => (HP I (fu (fu (fu A 51 X1) 52 X2) 53 X4) L F E)) ht_X1_alarmed rfl hp_o_53 (fun _ => hp_s_53)).trans ?_
        refine bind_cg fun X4 hX4 => ?_
        refine (sg_go ht_X1_alarmed (k := 5) (pc' := 79) (L' := [some (.ref 48), some (.int p1), some (.int p2), some (.int p3)]) (st' := [.int ((I 4806) + 1), .ref 48]) (h' := (HP I (fu (fu (fu A 51 X1) 52 X2) 53 X4) L F E)) rfl).trans ?_
        refine (sg_putI (h' := (HP (fu I 4806 ((I 4806) + 1)) (fu (fu (fu A 51 X1) 52 X2) 53 X4) L F E)) ht_X1_alarmed rfl hp_o_48 (Nat.le_of_ble_eq_true rfl) hp_p_4806).trans ?_
        refine (sg_go ht_X1_alarmed (k := 1) (pc' := 83) (L' := [some (.ref 48), some (.int p1), some (.int p2), some (.int p3)]) (st' := [.int 1]) (h' := (HP (fu I 4806 ((I 4806) + 1)) (fu (fu (fu A 51 X1) 52 X2) 53 X4) L F E)) rfl).trans ?_
        exact sg_ret ht_X1_alarmed rfl rfl
    · refine (sg_go ht_X1_alarmed (k := 2) (pc' := 49) (L' := [some (.ref 48), some (.int p1), some (.int p2), some (.int p3)]) (st' := [.int 0, .int (I 4806), .ref 52]) (h' := (HP I (fu A 51 X1) L F E)) rfl).trans ?_
      refine (sg_stI (hh := fun X5 => (HP I (fu (fu A 51 X1) 52 X5) L F E)) ht_X1_alarmed rfl hp_o_52 (fun _ => hp_s_52)).trans ?_
      refine bind_cg fun X5 hX5 => ?_
      refine (sg_go ht_X1_alarmed (k := 7) (pc' := 63) (L' := [some (.ref 48), some (.int p1), some (.int p2), some (.int p3)]) (st' := [.int (I 4801), .int p2, .int (I 4806), .ref 53]) (h' := (HP I (fu (fu A 51 X1) 52 X5) L F E)) rfl).trans ?_
      refine (sg_cmp ht_X1_alarmed rfl).trans ?_
      refine ite_congr rfl (fun _ => ?_) (fun _ => ?_)
      · refine (sg_go ht_X1_alarmed (k := 1) (pc' := 71) (L' := [some (.ref 48), some (.int p1), some (.int p2), some (.int p3)]) (st' := [.int p3, .int (I 4806), .ref 53]) (h' := (HP I (fu (fu A 51 X1) 52 X5) L F E)) rfl).trans ?_
        refine (sg_stI (hh := fun X6 => (HP I (fu (fu (fu A 51 X1) 52 X5) 53 X6) L F E)) ht_X1_alarmed rfl hp_o_53 (fun _ => hp_s_53)).trans ?_
        refine bind_cg fun X6 hX6 => ?_
        refine (sg_go ht_X1_alarmed (k := 5) (pc' := 79) (L' := [some (.ref 48), some (.int p1), some (.int p2), some (.int p3)]) (st' := [.int ((I 4806) + 1), .ref 48]) (h' := (HP I (fu (fu (fu A 51 X1) 52 X5) 53 X6) L F E)) rfl).trans ?_
        refine (sg_putI (h' := (HP (fu I 4806 ((I 4806) + 1)) (fu (fu (fu A 51 X1) 52 X5) 53 X6) L F E)) ht_X1_alarmed rfl hp_o_48 (Nat.le_of_ble_eq_true rfl) hp_p_4806).trans ?_
        refine (sg_go ht_X1_alarmed (k := 1) (pc' := 83) (L' := [some (.ref 48), some (.int p1), some (.int p2), some (.int p3)]) (st' := [.int 1]) (h' := (HP (fu I 4806 ((I 4806) + 1)) (fu (fu (fu A 51 X1) 52 X5) 53 X6) L F E)) rfl).trans ?_
        exact sg_ret ht_X1_alarmed rfl rfl
      · refine (sg_go ht_X1_alarmed (k := 2) (pc' := 71) (L' := [some (.ref 48), some (.int p1), some (.int p2), some (.int p3)]) (st' := [.int p2, .int (I 4806), .ref 53]) (h' := (HP I (fu (fu A 51 X1) 52 X5) L F E)) rfl).trans ?_
        refine (sg_stI (hh := fun X7 => (HP I (fu (fu (fu A 51 X1) 52 X5) 53 X7) L F E)) ht_X1_alarmed rfl hp_o_53 (fun _ => hp_s_53)).trans ?_
        refine bind_cg fun X7 hX7 => ?_
        refine (sg_go ht_X1_alarmed (k := 5) (pc' := 79) (L' := [some (.ref 48), some (.int p1), some (.int p2), some (.int p3)]) (st' := [.int ((I 4806) + 1), .ref 48]) (h' := (HP I (fu (fu (fu A 51 X1) 52 X5) 53 X7) L F E)) rfl).trans ?_
        refine (sg_putI (h' := (HP (fu I 4806 ((I 4806) + 1)) (fu (fu (fu A 51 X1) 52 X5) 53 X7) L F E)) ht_X1_alarmed rfl hp_o_48 (Nat.le_of_ble_eq_true rfl) hp_p_4806).trans ?_
        refine (sg_go ht_X1_alarmed (k := 1) (pc' := 83) (L' := [some (.ref 48), some (.int p1), some (.int p2), some (.int p3)]) (st' := [.int 1]) (h' := (HP (fu I 4806 ((I 4806) + 1)) (fu (fu (fu A 51 X1) 52 X5) 53 X7) L F E)) rfl).trans ?_
        exact sg_ret ht_X1_alarmed rfl rfl
  · refine (sg_go ht_X1_alarmed (k := 3) (pc' := 13) (L' := [some (.ref 48), some (.int p1), some (.int p2), some (.int p3)]) (st' := [.int (I 4801), .int p3]) (h' := (HP I A L F E)) rfl).trans ?_
    refine (sg_cmp ht_X1_alarmed rfl).trans ?_
    refine ite_congr rfl (fun _ => ?_) (fun _ => ?_)
    · refine (sg_go ht_X1_alarmed (k := 5) (pc' := 27) (L' := [some (.ref 48), some (.int p1), some (.int p2), some (.int p3)]) (st' := [.int p1, .int (I 4806), .ref 51]) (h' := (HP I A L F E)) rfl).trans ?_
      refine (sg_stI (hh := fun X8 => (HP I (fu A 51 X8) L F E)) ht_X1_alarmed rfl hp_o_51 (fun _ => hp_s_51)).trans ?_
      refine bind_cg fun X8 hX8 => ?_
      refine (sg_go ht_X1_alarmed (k := 7) (pc' := 41) (L' := [some (.ref 48), some (.int p1), some (.int p2), some (.int p3)]) (st' := [.int (I 4801), .int p2, .int (I 4806), .ref 52]) (h' := (HP I (fu A 51 X8) L F E)) rfl).trans ?_
      refine (sg_cmp ht_X1_alarmed rfl).trans ?_
      refine ite_congr rfl (fun _ => ?_) (fun _ => ?_)
      · refine (sg_go ht_X1_alarmed (k := 1) (pc' := 49) (L' := [some (.ref 48), some (.int p1), some (.int p2), some (.int p3)]) (st' := [.int 1, .int (I 4806), .ref 52]) (h' := (HP I (fu A 51 X8) L F E)) rfl).trans ?_
        refine (sg_stI (hh := fun X9 => (HP I (fu (fu A 51 X8) 52 X9) L F E)) ht_X1_alarmed rfl hp_o_52 (fun _ => hp_s_52)).trans ?_
        refine bind_cg fun X9 hX9 => ?_
        refine (sg_go ht_X1_alarmed (k := 7) (pc' := 63) (L' := [some (.ref 48), some (.int p1), some (.int p2), some (.int p3)]) (st' := [.int (I 4801), .int p2, .int (I 4806), .ref 53]) (h' := (HP I (fu (fu A 51 X8) 52 X9) L F E)) rfl).trans ?_
        refine (sg_cmp ht_X1_alarmed rfl).trans ?_
        refine ite_congr rfl (fun _ => ?_) (fun _ => ?_)
        · refine (sg_go ht_X1_alarmed (k := 1) (pc' := 71) (L' := [some (.ref 48), some (.int p1), some (.int p2), some (.int p3)]) (st' := [.int p3, .int (I 4806), .ref 53]) (h' := (HP I (fu (fu A 51 X8) 52 X9) L F E)) rfl).trans ?_
          refine (sg_stI (hh := fun X10 => (HP I (fu (fu (fu A 51 X8) 52 X9) 53 X10) L F E)) ht_X1_alarmed rfl hp_o_53 (fun _ => hp_s_53)).trans ?_
          refine bind_cg fun X10 hX10 => ?_
          refine (sg_go ht_X1_alarmed (k := 5) (pc' := 79) (L' := [some (.ref 48), some (.int p1), some (.int p2), some (.int p3)]) (st' := [.int ((I 4806) + 1), .ref 48]) (h' := (HP I (fu (fu (fu A 51 X8) 52 X9) 53 X10) L F E)) rfl).trans ?_
          refine (sg_putI (h' := (HP (fu I 4806 ((I 4806) + 1)) (fu (fu (fu A 51 X8) 52 X9) 53 X10) L F E)) ht_X1_alarmed rfl hp_o_48 (Nat.le_of_ble_eq_true rfl) hp_p_4806).trans ?_
          refine (sg_go ht_X1_alarmed (k := 1) (pc' := 83) (L' := [some (.ref 48), some (.int p1), some (.int p2), some (.int p3)]) (st' := [.int 1]) (h' := (HP (fu I 4806 ((I 4806) + 1)) (fu (fu (fu A 51 X8) 52 X9) 53 X10) L F E)) rfl).trans ?_
          exact sg_ret ht_X1_alarmed rfl rfl
        · refine (sg_go ht_X1_alarmed (k := 2) (pc' := 71) (L' := [some (.ref 48), some (.int p1), some (.int p2), some (.int p3)]) (st' := [.int p2, .int (I 4806), .ref 53]) (h' := (HP I (fu (fu A 51 X8) 52 X9) L F E)) rfl).trans ?_
          refine (sg_stI (hh := fun X11 => (HP I (fu (fu (fu A 51 X8) 52 X9) 53 X11) L F E)) ht_X1_alarmed rfl hp_o_53 (fun _ => hp_s_53)).trans ?_
          refine bind_cg fun X11 hX11 => ?_
          refine (sg_go ht_X1_alarmed (k := 5) (pc' := 79) (L' := [some (.ref 48), some (.int p1), some (.int p2), some (.int p3)]) (st' := [.int ((I 4806) + 1), .ref 48]) (h' := (HP I (fu (fu (fu A 51 X8) 52 X9) 53 X11) L F E)) rfl).trans ?_
          refine (sg_putI (h' := (HP (fu I 4806 ((I 4806) + 1)) (fu (fu (fu A 51 X8) 52 X9) 53 X11) L F E)) ht_X1_alarmed rfl hp_o_48 (Nat.le_of_ble_eq_true rfl) hp_p_4806).trans ?_
          refine (sg_go ht_X1_alarmed (k := 1) (pc' := 83) (L' := [some (.ref 48), some (.int p1), some (.int p2), some (.int p3)]) (st' := [.int 1]) (h' := (HP (fu I 4806 ((I 4806) + 1)) (fu (fu (fu A 51 X8) 52 X9) 53 X11) L F E)) rfl).trans ?_
          exact sg_ret ht_X1_alarmed rfl rfl
      · refine (sg_go ht_X1_alarmed (k := 2) (pc' := 49) (L' := [some (.ref 48), some (.int p1), some (.int p2), some (.int p3)]) (st' := [.int 0, .int (I 4806), .ref 52]) (h' := (HP I (fu A 51 X8) L F E)) rfl).trans ?_
        refine (sg_stI (hh := fun X12 => (HP I (fu (fu A 51 X8) 52 X12) L F E)) ht_X1_alarmed rfl hp_o_52 (fun _ => hp_s_52)).trans ?_
        refine bind_cg fun X12 hX12 => ?_
        refine (sg_go ht_X1_alarmed (k := 7) (pc' := 63) (L' := [some (.ref 48), some (.int p1), some (.int p2), some (.int p3)]) (st' := [.int (I 4801), .int p2, .int (I 4806), .ref 53]) (h' := (HP I (fu (fu A 51 X8) 52 X12) L F E)) rfl).trans ?_
        refine (sg_cmp ht_X1_alarmed rfl).trans ?_
        refine ite_congr rfl (fun _ => ?_) (fun _ => ?_)
        · refine (sg_go ht_X1_alarmed (k := 1) (pc' := 71) (L' := [some (.ref 48), some (.int p1), some (.int p2), some (.int p3)]) (st' := [.int p3, .int (I 4806), .ref 53]) (h' := (HP I (fu (fu A 51 X8) 52 X12) L F E)) rfl).trans ?_
          refine (sg_stI (hh := fun X13 => (HP I (fu (fu (fu A 51 X8) 52 X12) 53 X13) L F E)) ht_X1_alarmed rfl hp_o_53 (fun _ => hp_s_53)).trans ?_
          refine bind_cg fun X13 hX13 => ?_
          refine (sg_go ht_X1_alarmed (k := 5) (pc' := 79) (L' := [some (.ref 48), some (.int p1), some (.int p2), some (.int p3)]) (st' := [.int ((I 4806) + 1), .ref 48]) (h' := (HP I (fu (fu (fu A 51 X8) 52 X12) 53 X13) L F E)) rfl).trans ?_
          refine (sg_putI (h' := (HP (fu I 4806 ((I 4806) + 1)) (fu (fu (fu A 51 X8) 52 X12) 53 X13) L F E)) ht_X1_alarmed rfl hp_o_48 (Nat.le_of_ble_eq_true rfl) hp_p_4806).trans ?_
          refine (sg_go ht_X1_alarmed (k := 1) (pc' := 83) (L' := [some (.ref 48), some (.int p1), some (.int p2), some (.int p3)]) (st' := [.int 1]) (h' := (HP (fu I 4806 ((I 4806) + 1)) (fu (fu (fu A 51 X8) 52 X12) 53 X13) L F E)) rfl).trans ?_
          exact sg_ret ht_X1_alarmed rfl rfl
        · refine (sg_go ht_X1_alarmed (k := 2) (pc' := 71) (L' := [some (.ref 48), some (.int p1), some (.int p2), some (.int p3)]) (st' := [.int p2, .int (I 4806), .ref 53]) (h' := (HP I (fu (fu A 51 X8) 52 X12) L F E)) rfl).trans ?_
          refine (sg_stI (hh := fun X14 => (HP I (fu (fu (fu A 51 X8) 52 X12) 53 X14) L F E)) ht_X1_alarmed rfl hp_o_53 (fun _ => hp_s_53)).trans ?_
          refine bind_cg fun X14 hX14 => ?_
          refine (sg_go ht_X1_alarmed (k := 5) (pc' := 79) (L' := [some (.ref 48), some (.int p1), some (.int p2), some (.int p3)]) (st' := [.int ((I 4806) + 1), .ref 48]) (h' := (HP I (fu (fu (fu A 51 X8) 52 X12) 53 X14) L F E)) rfl).trans ?_
          refine (sg_putI (h' := (HP (fu I 4806 ((I 4806) + 1)) (fu (fu (fu A 51 X8) 52 X12) 53 X14) L F E)) ht_X1_alarmed rfl hp_o_48 (Nat.le_of_ble_eq_true rfl) hp_p_4806).trans ?_
          refine (sg_go ht_X1_alarmed (k := 1) (pc' := 83) (L' := [some (.ref 48), some (.int p1), some (.int p2), some (.int p3)]) (st' := [.int 1]) (h' := (HP (fu I 4806 ((I 4806) + 1)) (fu (fu (fu A 51 X8) 52 X12) 53 X14) L F E)) rfl).trans ?_
          exact sg_ret ht_X1_alarmed rfl rfl
    · refine (sg_go ht_X1_alarmed (k := 1) (pc' := 17) (L' := [some (.ref 48), some (.int p1), some (.int p2), some (.int p3)]) (st' := [.int 0]) (h' := (HP I A L F E)) rfl).trans ?_
      exact sg_ret ht_X1_alarmed rfl rfl
set_option maxRecDepth 20000 in
theorem sg_X1_follow_0 {I : Nat → Int32} {A : Nat → List Int32} {L : Nat → List Int64} {F : Nat → Int64} {E : MH} (p2 : Int32) : mm_call G0 14 [.ref 48, .ref 71, .int p2] (HP I A L F E) = mm_run G0 14 14 [some (.ref 48), some (.ref 71), some (.int p2), some (.int (I 4802)), some (.int (I 4802)), some (.int 0)] [] (HP I A L F E) := by
  show mm_run G0 14 0 [some (.ref 48), some (.ref 71), some (.int p2), none, none, none] [] (HP I A L F E) = _
  refine (sg_go ht_X1_follow (k := 8) (pc' := 14) (L' := [some (.ref 48), some (.ref 71), some (.int p2), some (.int (I 4802)), some (.int (I 4802)), some (.int 0)]) (st' := []) (h' := (HP I A L F E)) rfl).trans ?_
  rfl
set_option maxRecDepth 20000 in
theorem sg_X1_follow_14 {I : Nat → Int32} {A : Nat → List Int32} {L : Nat → List Int64} {F : Nat → Int64} {E : MH} (v2 : Int32) (v3 : Int32) (v4 : Int32) (v5 : Int32) : mm_run G0 14 14 [some (.ref 48), some (.ref 71), some (.int v2), some (.int v3), some (.int v4), some (.int v5)] [] (HP I A L F E) = (if v2 ≤ v5 then some (none, (HP I A L F E)) else (if (I 4803) = 0 then ((ldI (A 71) v5).bind fun x1 => ((ldI (A 71) v5).bind fun x2 => (if (I 4801) ≤ (imax 0 ((v3 + x1) - (I 4800))) then ((stI (A 51) (I 4806) v5).bind fun X3 => (if (imax 0 ((v3 + x1) - (I 4800))) < (I 4801) then ((stI (A 52) (I 4806) 1).bind fun X4 => (if (imax 0 ((v3 + x1) - (I 4800))) < (I 4801) then ((stI (A 53) (I 4806) (imax 0 ((v4 - x2) - (I 4800)))).bind fun X5 => ((stI (A 49) v5 (I 4802)).bind fun X6 => ((stI (A 50) v5 (I 4802)).bind fun X7 => mm_run G0 14 14 [some (.ref 48), some (.ref 71), some (.int v2), some (.int (I 4802)), some (.int (I 4802)), some (.int (v5 + 1))] [] (HP (fu I 4806 ((I 4806) + 1)) (fu (fu (fu (fu (fu A 51 X3) 52 X4) 53 X5) 49 X6) 50 X7) L F E)))) else ((stI (A 53) (I 4806) (imax 0 ((v3 + x1) - (I 4800)))).bind fun X8 => ((stI (A 49) v5 (I 4802)).bind fun X9 => ((stI (A 50) v5 (I 4802)).bind fun X10 => mm_run G0 14 14 [some (.ref 48), some (.ref 71), some (.int v2), some (.int (I 4802)), some (.int (I 4802)), some (.int (v5 + 1))] [] (HP (fu I 4806 ((I 4806) + 1)) (fu (fu (fu (fu (fu A 51 X3) 52 X4) 53 X8) 49 X9) 50 X10) L F E)))))) else ((stI (A 52) (I 4806) 0).bind fun X11 => (if (imax 0 ((v3 + x1) - (I 4800))) < (I 4801) then ((stI (A 53) (I 4806) (imax 0 ((v4 - x2) - (I 4800)))).bind fun X12 => ((stI (A 49) v5 (I 4802)).bind fun X13 => ((stI (A 50) v5 (I 4802)).bind fun X14 => mm_run G0 14 14 [some (.ref 48), some (.ref 71), some (.int v2), some (.int (I 4802)), some (.int (I 4802)), some (.int (v5 + 1))] [] (HP (fu I 4806 ((I 4806) + 1)) (fu (fu (fu (fu (fu A 51 X3) 52 X11) 53 X12) 49 X13) 50 X14) L F E)))) else ((stI (A 53) (I 4806) (imax 0 ((v3 + x1) - (I 4800)))).bind fun X15 => ((stI (A 49) v5 (I 4802)).bind fun X16 => ((stI (A 50) v5 (I 4802)).bind fun X17 => mm_run G0 14 14 [some (.ref 48), some (.ref 71), some (.int v2), some (.int (I 4802)), some (.int (I 4802)), some (.int (v5 + 1))] [] (HP (fu I 4806 ((I 4806) + 1)) (fu (fu (fu (fu (fu A 51 X3) 52 X11) 53 X15) 49 X16) 50 X17) L F E)))))))) else (if (I 4801) ≤ (imax 0 ((v4 - x2) - (I 4800))) then ((stI (A 51) (I 4806) v5).bind fun X18 => (if (imax 0 ((v3 + x1) - (I 4800))) < (I 4801) then ((stI (A 52) (I 4806) 1).bind fun X19 => (if (imax 0 ((v3 + x1) - (I 4800))) < (I 4801) then ((stI (A 53) (I 4806) (imax 0 ((v4 - x2) - (I 4800)))).bind fun X20 => ((stI (A 49) v5 (I 4802)).bind fun X21 => ((stI (A 50) v5 (I 4802)).bind fun X22 => mm_run G0 14 14 [some (.ref 48), some (.ref 71), some (.int v2), some (.int (I 4802)), some (.int (I 4802)), some (.int (v5 + 1))] [] (HP (fu I 4806 ((I 4806) + 1)) (fu (fu (fu (fu (fu A 51 X18) 52 X19) 53 X20) 49 X21) 50 X22) L F E)))) else ((stI (A 53) (I 4806) (imax 0 ((v3 + x1) - (I 4800)))).bind fun X23 => ((stI (A 49) v5 (I 4802)).bind fun X24 => ((stI (A 50) v5 (I 4802)).bind fun X25 => mm_run G0 14 14 [some (.ref 48), some (.ref 71), some (.int v2), some (.int (I 4802)), some (.int (I 4802)), some (.int (v5 + 1))] [] (HP (fu I 4806 ((I 4806) + 1)) (fu (fu (fu (fu (fu A 51 X18) 52 X19) 53 X23) 49 X24) 50 X25) L F E)))))) else ((stI (A 52) (I 4806) 0).bind fun X26 => (if (imax 0 ((v3 + x1) - (I 4800))) < (I 4801) then ((stI (A 53) (I 4806) (imax 0 ((v4 - x2) - (I 4800)))).bind fun X27 => ((stI (A 49) v5 (I 4802)).bind fun X28 => ((stI (A 50) v5 (I 4802)).bind fun X29 => mm_run G0 14 14 [some (.ref 48), some (.ref 71), some (.int v2), some (.int (I 4802)), some (.int (I 4802)), some (.int (v5 + 1))] [] (HP (fu I 4806 ((I 4806) + 1)) (fu (fu (fu (fu (fu A 51 X18) 52 X26) 53 X27) 49 X28) 50 X29) L F E)))) else ((stI (A 53) (I 4806) (imax 0 ((v3 + x1) - (I 4800)))).bind fun X30 => ((stI (A 49) v5 (I 4802)).bind fun X31 => ((stI (A 50) v5 (I 4802)).bind fun X32 => mm_run G0 14 14 [some (.ref 48), some (.ref 71), some (.int v2), some (.int (I 4802)), some (.int (I 4802)), some (.int (v5 + 1))] [] (HP (fu I 4806 ((I 4806) + 1)) (fu (fu (fu (fu (fu A 51 X18) 52 X26) 53 X30) 49 X31) 50 X32) L F E)))))))) else ((stI (A 49) v5 (imax 0 ((v3 + x1) - (I 4800)))).bind fun X33 => ((stI (A 50) v5 (imax 0 ((v4 - x2) - (I 4800)))).bind fun X34 => mm_run G0 14 14 [some (.ref 48), some (.ref 71), some (.int v2), some (.int (imax 0 ((v3 + x1) - (I 4800)))), some (.int (imax 0 ((v4 - x2) - (I 4800)))), some (.int (v5 + 1))] [] (HP I (fu (fu A 49 X33) 50 X34) L F E))))))) else (if (I 4806) ≤ 0 then ((ldI (A 71) v5).bind fun x35 => ((ldI (A 71) v5).bind fun x36 => (if (I 4801) ≤ (imax 0 ((v3 + x35) - (I 4800))) then ((stI (A 51) (I 4806) v5).bind fun X37 => (if (imax 0 ((v3 + x35) - (I 4800))) < (I 4801) then ((stI (A 52) (I 4806) 1).bind fun X38 => (if (imax 0 ((v3 + x35) - (I 4800))) < (I 4801) then ((stI (A 53) (I 4806) (imax 0 ((v4 - x36) - (I 4800)))).bind fun X39 => ((stI (A 49) v5 (I 4802)).bind fun X40 => ((stI (A 50) v5 (I 4802)).bind fun X41 => mm_run G0 14 14 [some (.ref 48), some (.ref 71), some (.int v2), some (.int (I 4802)), some (.int (I 4802)), some (.int (v5 + 1))] [] (HP (fu I 4806 ((I 4806) + 1)) (fu (fu (fu (fu (fu A 51 X37) 52 X38) 53 X39) 49 X40) 50 X41) L F E)))) else ((stI (A 53) (I 4806) (imax 0 ((v3 + x35) - (I 4800)))).bind fun X42 => ((stI (A 49) v5 (I 4802)).bind fun X43 => ((stI (A 50) v5 (I 4802)).bind fun X44 => mm_run G0 14 14 [some (.ref 48), some (.ref 71), some (.int v2), some (.int (I 4802)), some (.int (I 4802)), some (.int (v5 + 1))] [] (HP (fu I 4806 ((I 4806) + 1)) (fu (fu (fu (fu (fu A 51 X37) 52 X38) 53 X42) 49 X43) 50 X44) L F E)))))) else ((stI (A 52) (I 4806) 0).bind fun X45 => (if (imax 0 ((v3 + x35) - (I 4800))) < (I 4801) then ((stI (A 53) (I 4806) (imax 0 ((v4 - x36) - (I 4800)))).bind fun X46 => ((stI (A 49) v5 (I 4802)).bind fun X47 => ((stI (A 50) v5 (I 4802)).bind fun X48 => mm_run G0 14 14 [some (.ref 48), some (.ref 71), some (.int v2), some (.int (I 4802)), some (.int (I 4802)), some (.int (v5 + 1))] [] (HP (fu I 4806 ((I 4806) + 1)) (fu (fu (fu (fu (fu A 51 X37) 52 X45) 53 X46) 49 X47) 50 X48) L F E)))) else ((stI (A 53) (I 4806) (imax 0 ((v3 + x35) - (I 4800)))).bind fun X49 => ((stI (A 49) v5 (I 4802)).bind fun X50 => ((stI (A 50) v5 (I 4802)).bind fun X51 => mm_run G0 14 14 [some (.ref 48), some (.ref 71), some (.int v2), some (.int (I 4802)), some (.int (I 4802)), some (.int (v5 + 1))] [] (HP (fu I 4806 ((I 4806) + 1)) (fu (fu (fu (fu (fu A 51 X37) 52 X45) 53 X49) 49 X50) 50 X51) L F E)))))))) else (if (I 4801) ≤ (imax 0 ((v4 - x36) - (I 4800))) then ((stI (A 51) (I 4806) v5).bind fun X52 => (if (imax 0 ((v3 + x35) - (I 4800))) < (I 4801) then ((stI (A 52) (I 4806) 1).bind fun X53 => (if (imax 0 ((v3 + x35) - (I 4800))) < (I 4801) then ((stI (A 53) (I 4806) (imax 0 ((v4 - x36) - (I 4800)))).bind fun X54 => ((stI (A 49) v5 (I 4802)).bind fun X55 => ((stI (A 50) v5 (I 4802)).bind fun X56 => mm_run G0 14 14 [some (.ref 48), some (.ref 71), some (.int v2), some (.int (I 4802)), some (.int (I 4802)), some (.int (v5 + 1))] [] (HP (fu I 4806 ((I 4806) + 1)) (fu (fu (fu (fu (fu A 51 X52) 52 X53) 53 X54) 49 X55) 50 X56) L F E)))) else ((stI (A 53) (I 4806) (imax 0 ((v3 + x35) - (I 4800)))).bind fun X57 => ((stI (A 49) v5 (I 4802)).bind fun X58 => ((stI (A 50) v5 (I 4802)).bind fun X59 => mm_run G0 14 14 [some (.ref 48), some (.ref 71), some (.int v2), some (.int (I 4802)), some (.int (I 4802)), some (.int (v5 + 1))] [] (HP (fu I 4806 ((I 4806) + 1)) (fu (fu (fu (fu (fu A 51 X52) 52 X53) 53 X57) 49 X58) 50 X59) L F E)))))) else ((stI (A 52) (I 4806) 0).bind fun X60 => (if (imax 0 ((v3 + x35) - (I 4800))) < (I 4801) then ((stI (A 53) (I 4806) (imax 0 ((v4 - x36) - (I 4800)))).bind fun X61 => ((stI (A 49) v5 (I 4802)).bind fun X62 => ((stI (A 50) v5 (I 4802)).bind fun X63 => mm_run G0 14 14 [some (.ref 48), some (.ref 71), some (.int v2), some (.int (I 4802)), some (.int (I 4802)), some (.int (v5 + 1))] [] (HP (fu I 4806 ((I 4806) + 1)) (fu (fu (fu (fu (fu A 51 X52) 52 X60) 53 X61) 49 X62) 50 X63) L F E)))) else ((stI (A 53) (I 4806) (imax 0 ((v3 + x35) - (I 4800)))).bind fun X64 => ((stI (A 49) v5 (I 4802)).bind fun X65 => ((stI (A 50) v5 (I 4802)).bind fun X66 => mm_run G0 14 14 [some (.ref 48), some (.ref 71), some (.int v2), some (.int (I 4802)), some (.int (I 4802)), some (.int (v5 + 1))] [] (HP (fu I 4806 ((I 4806) + 1)) (fu (fu (fu (fu (fu A 51 X52) 52 X60) 53 X64) 49 X65) 50 X66) L F E)))))))) else ((stI (A 49) v5 (imax 0 ((v3 + x35) - (I 4800)))).bind fun X67 => ((stI (A 50) v5 (imax 0 ((v4 - x36) - (I 4800)))).bind fun X68 => mm_run G0 14 14 [some (.ref 48), some (.ref 71), some (.int v2), some (.int (imax 0 ((v3 + x35) - (I 4800)))), some (.int (imax 0 ((v4 - x36) - (I 4800)))), some (.int (v5 + 1))] [] (HP I (fu (fu A 49 X67) 50 X68) L F E))))))) else ((stI (A 49) v5 0).bind fun X69 => ((stI (A 50) v5 0).bind fun X70 => mm_run G0 14 14 [some (.ref 48), some (.ref 71), some (.int v2), some (.int 0), some (.int 0), some (.int (v5 + 1))] [] (HP I (fu (fu A 49 X69) 50 X70) L F E)))))) := by
  refine (sg_go ht_X1_follow (k := 2) (pc' := 17) (L' := [some (.ref 48), some (.ref 71), some (.int v2), some (.int v3), some (.int v4), some (.int v5)]) (st' := [.int v2, .int v5]) (h' := (HP I A L F E)) rfl).trans ?_
  refine (sg_cmp ht_X1_follow rfl).trans ?_
  refine ite_congr rfl (fun _ => ?_) (fun _ => ?_)
  · exact sg_ret ht_X1_follow rfl rfl
  · refine (sg_go ht_X1_follow (k := 2) (pc' := 24) (L' := [some (.ref 48), some (.ref 71), some (.int v2), some (.int v3), some (.int v4), some (.int v5)]) (st' := [.int (I 4803)]) (h' := (HP I A L F E)) rfl).trans ?_
    refine (sg_if ht_X1_follow rfl).trans ?_
    refine ite_congr rfl (fun _ => ?_) (fun _ => ?_)
    · refine (sg_go ht_X1_follow (k := 4) (pc' := 47) (L' := [some (.ref 48), some (.ref 71), some (.int v2), some (.int v3), some (.int v4), some (.int v5)]) (st' := [.int v5, .ref 71, .int v3, .int 0]) (h' := (HP I A L F E)) rfl).trans ?_
      refine (sg_ldI ht_X1_follow rfl hp_o_71).trans ?_
      refine bind_cg fun x1 hx1 => ?_
      refine (sg_go ht_X1_follow (k := 10) (pc' := 64) (L' := [some (.ref 48), some (.ref 71), some (.int v2), some (.int (imax 0 ((v3 + x1) - (I 4800)))), some (.int v4), some (.int v5)]) (st' := [.int v5, .ref 71, .int v4, .int 0]) (h' := (HP I A L F E)) rfl).trans ?_
      refine (sg_ldI ht_X1_follow rfl hp_o_71).trans ?_
      refine bind_cg fun x2 hx2 => ?_
      refine (sg_go ht_X1_follow (k := 10) (pc' := 82) (L' := [some (.ref 48), some (.ref 71), some (.int v2), some (.int (imax 0 ((v3 + x1) - (I 4800)))), some (.int (imax 0 ((v4 - x2) - (I 4800)))), some (.int v5)]) (st' := [.int (imax 0 ((v4 - x2) - (I 4800))), .int (imax 0 ((v3 + x1) - (I 4800))), .int v5, .ref 48]) (h' := (HP I A L F E)) rfl).trans ?_
      refine (sg_call ht_X1_follow (mj := 15) (as := [.ref 48, .int v5, .int (imax 0 ((v3 + x1) - (I 4800))), .int (imax 0 ((v4 - x2) - (I 4800)))]) (rest := []) rfl rfl ⟨by decide, Nat.le_of_ble_eq_true rfl⟩).trans ?_
      refine (bind_eq (sg_X1_alarmed_0 v5 (imax 0 ((v3 + x1) - (I 4800))) (imax 0 ((v4 - x2) - (I 4800))))).trans ?_
      refine ite_bd.trans ?_
      refine ite_congr rfl (fun _ => ?_) (fun _ => ?_)
      · refine bind_as.trans ?_
        refine bind_cg fun X3 hX3 => ?_
        refine ite_bd.trans ?_
        refine ite_congr rfl (fun _ => ?_) (fun _ => ?_)
        · refine bind_as.trans ?_
          refine bind_cg fun X4 hX4 => ?_
          refine ite_bd.trans ?_
          refine ite_congr rfl (fun _ => ?_) (fun _ => ?_)
          · refine bind_as.trans ?_
            refine bind_cg fun X5 hX5 => ?_
            show mm_run G0 14 85 [some (.ref 48), some (.ref 71), some (.int v2), some (.int (imax 0 ((v3 + x1) - (I 4800)))), some (.int (imax 0 ((v4 - x2) - (I 4800)))), some (.int v5)] [.int 1] (HP (fu I 4806 ((I 4806) + 1)) (fu (fu (fu A 51 X3) 52 X4) 53 X5) L F E) = _
            refine (sg_go ht_X1_follow (k := 10) (pc' := 105) (L' := [some (.ref 48), some (.ref 71), some (.int v2), some (.int (I 4802)), some (.int (I 4802)), some (.int v5)]) (st' := [.int v5, .ref 49]) (h' := (HP (fu I 4806 ((I 4806) + 1)) (fu (fu (fu A 51 X3) 52 X4) 53 X5) L F E)) rfl).trans ?_
            refine (sg_go ht_X1_follow (k := 1) (pc' := 106) (L' := [some (.ref 48), some (.ref 71), some (.int v2), some (.int (I 4802)), some (.int (I 4802)), some (.int v5)]) (st' := [.int (I 4802), .int v5, .ref 49]) (h' := (HP (fu I 4806 ((I 4806) + 1)) (fu (fu (fu A 51 X3) 52 X4) 53 X5) L F E)) rfl).trans ?_
            refine (sg_stI (hh := fun X6 => (HP (fu I 4806 ((I 4806) + 1)) (fu (fu (fu (fu A 51 X3) 52 X4) 53 X5) 49 X6) L F E)) ht_X1_follow rfl hp_o_49 (fun _ => hp_s_49)).trans ?_
            refine bind_cg fun X6 hX6 => ?_
            refine (sg_go ht_X1_follow (k := 4) (pc' := 115) (L' := [some (.ref 48), some (.ref 71), some (.int v2), some (.int (I 4802)), some (.int (I 4802)), some (.int v5)]) (st' := [.int (I 4802), .int v5, .ref 50]) (h' := (HP (fu I 4806 ((I 4806) + 1)) (fu (fu (fu (fu A 51 X3) 52 X4) 53 X5) 49 X6) L F E)) rfl).trans ?_
            refine (sg_stI (hh := fun X7 => (HP (fu I 4806 ((I 4806) + 1)) (fu (fu (fu (fu (fu A 51 X3) 52 X4) 53 X5) 49 X6) 50 X7) L F E)) ht_X1_follow rfl hp_o_50 (fun _ => hp_s_50)).trans ?_
            refine bind_cg fun X7 hX7 => ?_
            refine (sg_go ht_X1_follow (k := 2) (pc' := 14) (L' := [some (.ref 48), some (.ref 71), some (.int v2), some (.int (I 4802)), some (.int (I 4802)), some (.int (v5 + 1))]) (st' := []) (h' := (HP (fu I 4806 ((I 4806) + 1)) (fu (fu (fu (fu (fu A 51 X3) 52 X4) 53 X5) 49 X6) 50 X7) L F E)) rfl).trans ?_
            rfl
          · refine bind_as.trans ?_
            refine bind_cg fun X8 hX8 => ?_
            show mm_run G0 14 85 [some (.ref 48), some (.ref 71), some (.int v2), some (.int (imax 0 ((v3 + x1) - (I 4800)))), some (.int (imax 0 ((v4 - x2) - (I 4800)))), some (.int v5)] [.int 1] (HP (fu I 4806 ((I 4806) + 1)) (fu (fu (fu A 51 X3) 52 X4) 53 X8) L F E) = _
            refine (sg_go ht_X1_follow (k := 10) (pc' := 105) (L' := [some (.ref 48), some (.ref 71), some (.int v2), some (.int (I 4802)), some (.int (I 4802)), some (.int v5)]) (st' := [.int v5, .ref 49]) (h' := (HP (fu I 4806 ((I 4806) + 1)) (fu (fu (fu A 51 X3) 52 X4) 53 X8) L F E)) rfl).trans ?_
            refine (sg_go ht_X1_follow (k := 1) (pc' := 106) (L' := [some (.ref 48), some (.ref 71), some (.int v2), some (.int (I 4802)), some (.int (I 4802)), some (.int v5)]) (st' := [.int (I 4802), .int v5, .ref 49]) (h' := (HP (fu I 4806 ((I 4806) + 1)) (fu (fu (fu A 51 X3) 52 X4) 53 X8) L F E)) rfl).trans ?_
            refine (sg_stI (hh := fun X9 => (HP (fu I 4806 ((I 4806) + 1)) (fu (fu (fu (fu A 51 X3) 52 X4) 53 X8) 49 X9) L F E)) ht_X1_follow rfl hp_o_49 (fun _ => hp_s_49)).trans ?_
            refine bind_cg fun X9 hX9 => ?_
            refine (sg_go ht_X1_follow (k := 4) (pc' := 115) (L' := [some (.ref 48), some (.ref 71), some (.int v2), some (.int (I 4802)), some (.int (I 4802)), some (.int v5)]) (st' := [.int (I 4802), .int v5, .ref 50]) (h' := (HP (fu I 4806 ((I 4806) + 1)) (fu (fu (fu (fu A 51 X3) 52 X4) 53 X8) 49 X9) L F E)) rfl).trans ?_
            refine (sg_stI (hh := fun X10 => (HP (fu I 4806 ((I 4806) + 1)) (fu (fu (fu (fu (fu A 51 X3) 52 X4) 53 X8) 49 X9) 50 X10) L F E)) ht_X1_follow rfl hp_o_50 (fun _ => hp_s_50)).trans ?_
            refine bind_cg fun X10 hX10 => ?_
            refine (sg_go ht_X1_follow (k := 2) (pc' := 14) (L' := [some (.ref 48), some (.ref 71), some (.int v2), some (.int (I 4802)), some (.int (I 4802)), some (.int (v5 + 1))]) (st' := []) (h' := (HP (fu I 4806 ((I 4806) + 1)) (fu (fu (fu (fu (fu A 51 X3) 52 X4) 53 X8) 49 X9) 50 X10) L F E)) rfl).trans ?_
            rfl
        · refine bind_as.trans ?_
          refine bind_cg fun X11 hX11 => ?_
          refine ite_bd.trans ?_
          refine ite_congr rfl (fun _ => ?_) (fun _ => ?_)
          · refine bind_as.trans ?_
            refine bind_cg fun X12 hX12 => ?_
            show mm_run G0 14 85 [some (.ref 48), some (.ref 71), some (.int v2), some (.int (imax 0 ((v3 + x1) - (I 4800)))), some (.int (imax 0 ((v4 - x2) - (I 4800)))), some (.int v5)] [.int 1] (HP (fu I 4806 ((I 4806) + 1)) (fu (fu (fu A 51 X3) 52 X11) 53 X12) L F E) = _
            refine (sg_go ht_X1_follow (k := 10) (pc' := 105) (L' := [some (.ref 48), some (.ref 71), some (.int v2), some (.int (I 4802)), some (.int (I 4802)), some (.int v5)]) (st' := [.int v5, .ref 49]) (h' := (HP (fu I 4806 ((I 4806) + 1)) (fu (fu (fu A 51 X3) 52 X11) 53 X12) L F E)) rfl).trans ?_
            refine (sg_go ht_X1_follow (k := 1) (pc' := 106) (L' := [some (.ref 48), some (.ref 71), some (.int v2), some (.int (I 4802)), some (.int (I 4802)), some (.int v5)]) (st' := [.int (I 4802), .int v5, .ref 49]) (h' := (HP (fu I 4806 ((I 4806) + 1)) (fu (fu (fu A 51 X3) 52 X11) 53 X12) L F E)) rfl).trans ?_
            refine (sg_stI (hh := fun X13 => (HP (fu I 4806 ((I 4806) + 1)) (fu (fu (fu (fu A 51 X3) 52 X11) 53 X12) 49 X13) L F E)) ht_X1_follow rfl hp_o_49 (fun _ => hp_s_49)).trans ?_
            refine bind_cg fun X13 hX13 => ?_
            refine (sg_go ht_X1_follow (k := 4) (pc' := 115) (L' := [some (.ref 48), some (.ref 71), some (.int v2), some (.int (I 4802)), some (.int (I 4802)), some (.int v5)]) (st' := [.int (I 4802), .int v5, .ref 50]) (h' := (HP (fu I 4806 ((I 4806) + 1)) (fu (fu (fu (fu A 51 X3) 52 X11) 53 X12) 49 X13) L F E)) rfl).trans ?_
            refine (sg_stI (hh := fun X14 => (HP (fu I 4806 ((I 4806) + 1)) (fu (fu (fu (fu (fu A 51 X3) 52 X11) 53 X12) 49 X13) 50 X14) L F E)) ht_X1_follow rfl hp_o_50 (fun _ => hp_s_50)).trans ?_
            refine bind_cg fun X14 hX14 => ?_
            refine (sg_go ht_X1_follow (k := 2) (pc' := 14) (L' := [some (.ref 48), some (.ref 71), some (.int v2), some (.int (I 4802)), some (.int (I 4802)), some (.int (v5 + 1))]) (st' := []) (h' := (HP (fu I 4806 ((I 4806) + 1)) (fu (fu (fu (fu (fu A 51 X3) 52 X11) 53 X12) 49 X13) 50 X14) L F E)) rfl).trans ?_
            rfl
          · refine bind_as.trans ?_
            refine bind_cg fun X15 hX15 => ?_
            show mm_run G0 14 85 [some (.ref 48), some (.ref 71), some (.int v2), some (.int (imax 0 ((v3 + x1) - (I 4800)))), some (.int (imax 0 ((v4 - x2) - (I 4800)))), some (.int v5)] [.int 1] (HP (fu I 4806 ((I 4806) + 1)) (fu (fu (fu A 51 X3) 52 X11) 53 X15) L F E) = _
            refine (sg_go ht_X1_follow (k := 10) (pc' := 105) (L' := [some (.ref 48), some (.ref 71), some (.int v2), some (.int (I 4802)), some (.int (I 4802)), some (.int v5)]) (st' := [.int v5, .ref 49]) (h' := (HP (fu I 4806 ((I 4806) + 1)) (fu (fu (fu A 51 X3) 52 X11) 53 X15) L F E)) rfl).trans ?_
            refine (sg_go ht_X1_follow (k := 1) (pc' := 106) (L' := [some (.ref 48), some (.ref 71), some (.int v2), some (.int (I 4802)), some (.int (I 4802)), some (.int v5)]) (st' := [.int (I 4802), .int v5, .ref 49]) (h' := (HP (fu I 4806 ((I 4806) + 1)) (fu (fu (fu A 51 X3) 52 X11) 53 X15) L F E)) rfl).trans ?_
            refine (sg_stI (hh := fun X16 => (HP (fu I 4806 ((I 4806) + 1)) (fu (fu (fu (fu A 51 X3) 52 X11) 53 X15) 49 X16) L F E)) ht_X1_follow rfl hp_o_49 (fun _ => hp_s_49)).trans ?_
            refine bind_cg fun X16 hX16 => ?_
            refine (sg_go ht_X1_follow (k := 4) (pc' := 115) (L' := [some (.ref 48), some (.ref 71), some (.int v2), some (.int (I 4802)), some (.int (I 4802)), some (.int v5)]) (st' := [.int (I 4802), .int v5, .ref 50]) (h' := (HP (fu I 4806 ((I 4806) + 1)) (fu (fu (fu (fu A 51 X3) 52 X11) 53 X15) 49 X16) L F E)) rfl).trans ?_
            refine (sg_stI (hh := fun X17 => (HP (fu I 4806 ((I 4806) + 1)) (fu (fu (fu (fu (fu A 51 X3) 52 X11) 53 X15) 49 X16) 50 X17) L F E)) ht_X1_follow rfl hp_o_50 (fun _ => hp_s_50)).trans ?_
            refine bind_cg fun X17 hX17 => ?_
            refine (sg_go ht_X1_follow (k := 2) (pc' := 14) (L' := [some (.ref 48), some (.ref 71), some (.int v2), some (.int (I 4802)), some (.int (I 4802)), some (.int (v5 + 1))]) (st' := []) (h' := (HP (fu I 4806 ((I 4806) + 1)) (fu (fu (fu (fu (fu A 51 X3) 52 X11) 53 X15) 49 X16) 50 X17) L F E)) rfl).trans ?_
            rfl
      · refine ite_bd.trans ?_
        refine ite_congr rfl (fun _ => ?_) (fun _ => ?_)
        · refine bind_as.trans ?_
          refine bind_cg fun X18 hX18 => ?_
          refine ite_bd.trans ?_
          refine ite_congr rfl (fun _ => ?_) (fun _ => ?_)
          · refine bind_as.trans ?_
            refine bind_cg fun X19 hX19 => ?_
            refine ite_bd.trans ?_
            refine ite_congr rfl (fun _ => ?_) (fun _ => ?_)
            · refine bind_as.trans ?_
              refine bind_cg fun X20 hX20 => ?_
              show mm_run G0 14 85 [some (.ref 48), some (.ref 71), some (.int v2), some (.int (imax 0 ((v3 + x1) - (I 4800)))), some (.int (imax 0 ((v4 - x2) - (I 4800)))), some (.int v5)] [.int 1] (HP (fu I 4806 ((I 4806) + 1)) (fu (fu (fu A 51 X18) 52 X19) 53 X20) L F E) = _
              refine (sg_go ht_X1_follow (k := 10) (pc' := 105) (L' := [some (.ref 48), some (.ref 71), some (.int v2), some (.int (I 4802)), some (.int (I 4802)), some (.int v5)]) (st' := [.int v5, .ref 49]) (h' := (HP (fu I 4806 ((I 4806) + 1)) (fu (fu (fu A 51 X18) 52 X19) 53 X20) L F E)) rfl).trans ?_
              refine (sg_go ht_X1_follow (k := 1) (pc' := 106) (L' := [some (.ref 48), some (.ref 71), some (.int v2), some (.int (I 4802)), some (.int (I 4802)), some (.int v5)]) (st' := [.int (I 4802), .int v5, .ref 49]) (h' := (HP (fu I 4806 ((I 4806) + 1)) (fu (fu (fu A 51 X18) 52 X19) 53 X20) L F E)) rfl).trans ?_
              refine (sg_stI (hh := fun X21 => (HP (fu I 4806 ((I 4806) + 1)) (fu (fu (fu (fu A 51 X18) 52 X19) 53 X20) 49 X21) L F E)) ht_X1_follow rfl hp_o_49 (fun _ => hp_s_49)).trans ?_
              refine bind_cg fun X21 hX21 => ?_
              refine (sg_go ht_X1_follow (k := 4) (pc' := 115) (L' := [some (.ref 48), some (.ref 71), some (.int v2), some (.int (I 4802)), some (.int (I 4802)), some (.int v5)]) (st' := [.int (I 4802), .int v5, .ref 50]) (h' := (HP (fu I 4806 ((I 4806) + 1)) (fu (fu (fu (fu A 51 X18) 52 X19) 53 X20) 49 X21) L F E)) rfl).trans ?_
              refine (sg_stI (hh := fun X22 => (HP (fu I 4806 ((I 4806) + 1)) (fu (fu (fu (fu (fu A 51 X18) 52 X19) 53 X20) 49 X21) 50 X22) L F E)) ht_X1_follow rfl hp_o_50 (fun _ => hp_s_50)).trans ?_
              refine bind_cg fun X22 hX22 => ?_
              refine (sg_go ht_X1_follow (k := 2) (pc' := 14) (L' := [some (.ref 48), some (.ref 71), some (.int v2), some (.int (I 4802)), some (.int (I 4802)), some (.int (v5 + 1))]) (st' := []) (h' := (HP (fu I 4806 ((I 4806) + 1)) (fu (fu (fu (fu (fu A 51 X18) 52 X19) 53 X20) 49 X21) 50 X22) L F E)) rfl).trans ?_
              rfl
            · refine bind_as.trans ?_
              refine bind_cg fun X23 hX23 => ?_
              show mm_run G0 14 85 [some (.ref 48), some (.ref 71), some (.int v2), some (.int (imax 0 ((v3 + x1) - (I 4800)))), some (.int (imax 0 ((v4 - x2) - (I 4800)))), some (.int v5)] [.int 1] (HP (fu I 4806 ((I 4806) + 1)) (fu (fu (fu A 51 X18) 52 X19) 53 X23) L F E) = _
              refine (sg_go ht_X1_follow (k := 10) (pc' := 105) (L' := [some (.ref 48), some (.ref 71), some (.int v2), some (.int (I 4802)), some (.int (I 4802)), some (.int v5)]) (st' := [.int v5, .ref 49]) (h' := (HP (fu I 4806 ((I 4806) + 1)) (fu (fu (fu A 51 X18) 52 X19) 53 X23) L F E)) rfl).trans ?_
              refine (sg_go ht_X1_follow (k := 1) (pc' := 106) (L' := [some (.ref 48), some (.ref 71), some (.int v2), some (.int (I 4802)), some (.int (I 4802)), some (.int v5)]) (st' := [.int (I 4802), .int v5, .ref 49]) (h' := (HP (fu I 4806 ((I 4806) + 1)) (fu (fu (fu A 51 X18) 52 X19) 53 X23) L F E)) rfl).trans ?_
              refine (sg_stI (hh := fun X24 => (HP (fu I 4806 ((I 4806) + 1)) (fu (fu (fu (fu A 51 X18) 52 X19) 53 X23) 49 X24) L F E)) ht_X1_follow rfl hp_o_49 (fun _ => hp_s_49)).trans ?_
              refine bind_cg fun X24 hX24 => ?_
              refine (sg_go ht_X1_follow (k := 4) (pc' := 115) (L' := [some (.ref 48), some (.ref 71), some (.int v2), some (.int (I 4802)), some (.int (I 4802)), some (.int v5)]) (st' := [.int (I 4802), .int v5, .ref 50]) (h' := (HP (fu I 4806 ((I 4806) + 1)) (fu (fu (fu (fu A 51 X18) 52 X19) 53 X23) 49 X24) L F E)) rfl).trans ?_
              refine (sg_stI (hh := fun X25 => (HP (fu I 4806 ((I 4806) + 1)) (fu (fu (fu (fu (fu A 51 X18) 52 X19) 53 X23) 49 X24) 50 X25) L F E)) ht_X1_follow rfl hp_o_50 (fun _ => hp_s_50)).trans ?_
              refine bind_cg fun X25 hX25 => ?_
              refine (sg_go ht_X1_follow (k := 2) (pc' := 14) (L' := [some (.ref 48), some (.ref 71), some (.int v2), some (.int (I 4802)), some (.int (I 4802)), some (.int (v5 + 1))]) (st' := []) (h' := (HP (fu I 4806 ((I 4806) + 1)) (fu (fu (fu (fu (fu A 51 X18) 52 X19) 53 X23) 49 X24) 50 X25) L F E)) rfl).trans ?_
              rfl
          · refine bind_as.trans ?_
            refine bind_cg fun X26 hX26 => ?_
            refine ite_bd.trans ?_
            refine ite_congr rfl (fun _ => ?_) (fun _ => ?_)
            · refine bind_as.trans ?_
              refine bind_cg fun X27 hX27 => ?_
              show mm_run G0 14 85 [some (.ref 48), some (.ref 71), some (.int v2), some (.int (imax 0 ((v3 + x1) - (I 4800)))), some (.int (imax 0 ((v4 - x2) - (I 4800)))), some (.int v5)] [.int 1] (HP (fu I 4806 ((I 4806) + 1)) (fu (fu (fu A 51 X18) 52 X26) 53 X27) L F E) = _
              refine (sg_go ht_X1_follow (k := 10) (pc' := 105) (L' := [some (.ref 48), some (.ref 71), some (.int v2), some (.int (I 4802)), some (.int (I 4802)), some (.int v5)]) (st' := [.int v5, .ref 49]) (h' := (HP (fu I 4806 ((I 4806) + 1)) (fu (fu (fu A 51 X18) 52 X26) 53 X27) L F E)) rfl).trans ?_
              refine (sg_go ht_X1_follow (k := 1) (pc' := 106) (L' := [some (.ref 48), some (.ref 71), some (.int v2), some (.int (I 4802)), some (.int (I 4802)), some (.int v5)]) (st' := [.int (I 4802), .int v5, .ref 49]) (h' := (HP (fu I 4806 ((I 4806) + 1)) (fu (fu (fu A 51 X18) 52 X26) 53 X27) L F E)) rfl).trans ?_
              refine (sg_stI (hh := fun X28 => (HP (fu I 4806 ((I 4806) + 1)) (fu (fu (fu (fu A 51 X18) 52 X26) 53 X27) 49 X28) L F E)) ht_X1_follow rfl hp_o_49 (fun _ => hp_s_49)).trans ?_
              refine bind_cg fun X28 hX28 => ?_
              refine (sg_go ht_X1_follow (k := 4) (pc' := 115) (L' := [some (.ref 48), some (.ref 71), some (.int v2), some (.int (I 4802)), some (.int (I 4802)), some (.int v5)]) (st' := [.int (I 4802), .int v5, .ref 50]) (h' := (HP (fu I 4806 ((I 4806) + 1)) (fu (fu (fu (fu A 51 X18) 52 X26) 53 X27) 49 X28) L F E)) rfl).trans ?_
              refine (sg_stI (hh := fun X29 => (HP (fu I 4806 ((I 4806) + 1)) (fu (fu (fu (fu (fu A 51 X18) 52 X26) 53 X27) 49 X28) 50 X29) L F E)) ht_X1_follow rfl hp_o_50 (fun _ => hp_s_50)).trans ?_
              refine bind_cg fun X29 hX29 => ?_
              refine (sg_go ht_X1_follow (k := 2) (pc' := 14) (L' := [some (.ref 48), some (.ref 71), some (.int v2), some (.int (I 4802)), some (.int (I 4802)), some (.int (v5 + 1))]) (st' := []) (h' := (HP (fu I 4806 ((I 4806) + 1)) (fu (fu (fu (fu (fu A 51 X18) 52 X26) 53 X27) 49 X28) 50 X29) L F E)) rfl).trans ?_
              rfl
            · refine bind_as.trans ?_
              refine bind_cg fun X30 hX30 => ?_
              show mm_run G0 14 85 [some (.ref 48), some (.ref 71), some (.int v2), some (.int (imax 0 ((v3 + x1) - (I 4800)))), some (.int (imax 0 ((v4 - x2) - (I 4800)))), some (.int v5)] [.int 1] (HP (fu I 4806 ((I 4806) + 1)) (fu (fu (fu A 51 X18) 52 X26) 53 X30) L F E) = _
              refine (sg_go ht_X1_follow (k := 10) (pc' := 105) (L' := [some (.ref 48), some (.ref 71), some (.int v2), some (.int (I 4802)), some (.int (I 4802)), some (.int v5)]) (st' := [.int v5, .ref 49]) (h' := (HP (fu I 4806 ((I 4806) + 1)) (fu (fu (fu A 51 X18) 52 X26) 53 X30) L F E)) rfl).trans ?_
              refine (sg_go ht_X1_follow (k := 1) (pc' := 106) (L' := [some (.ref 48), some (.ref 71), some (.int v2), some (.int (I 4802)), some (.int (I 4802)), some (.int v5)]) (st' := [.int (I 4802), .int v5, .ref 49]) (h' := (HP (fu I 4806 ((I 4806) + 1)) (fu (fu (fu A 51 X18) 52 X26) 53 X30) L F E)) rfl).trans ?_
              refine (sg_stI (hh := fun X31 => (HP (fu I 4806 ((I 4806) + 1)) (fu (fu (fu (fu A 51 X18) 52 X26) 53 X30) 49 X31) L F E)) ht_X1_follow rfl hp_o_49 (fun _ => hp_s_49)).trans ?_
              refine bind_cg fun X31 hX31 => ?_
              refine (sg_go ht_X1_follow (k := 4) (pc' := 115) (L' := [some (.ref 48), some (.ref 71), some (.int v2), some (.int (I 4802)), some (.int (I 4802)), some (.int v5)]) (st' := [.int (I 4802), .int v5, .ref 50]) (h' := (HP (fu I 4806 ((I 4806) + 1)) (fu (fu (fu (fu A 51 X18) 52 X26) 53 X30) 49 X31) L F E)) rfl).trans ?_
              refine (sg_stI (hh := fun X32 => (HP (fu I 4806 ((I 4806) + 1)) (fu (fu (fu (fu (fu A 51 X18) 52 X26) 53 X30) 49 X31) 50 X32) L F E)) ht_X1_follow rfl hp_o_50 (fun _ => hp_s_50)).trans ?_
              refine bind_cg fun X32 hX32 => ?_
              refine (sg_go ht_X1_follow (k := 2) (pc' := 14) (L' := [some (.ref 48), some (.ref 71), some (.int v2), some (.int (I 4802)), some (.int (I 4802)), some (.int (v5 + 1))]) (st' := []) (h' := (HP (fu I 4806 ((I 4806) + 1)) (fu (fu (fu (fu (fu A 51 X18) 52 X26) 53 X30) 49 X31) 50 X32) L F E)) rfl).trans ?_
              rfl
        · show mm_run G0 14 85 [some (.ref 48), some (.ref 71), some (.int v2), some (.int (imax 0 ((v3 + x1) - (I 4800)))), some (.int (imax 0 ((v4 - x2) - (I 4800)))), some (.int v5)] [.int 0] (HP I A L F E) = _
          refine (sg_go ht_X1_follow (k := 5) (pc' := 106) (L' := [some (.ref 48), some (.ref 71), some (.int v2), some (.int (imax 0 ((v3 + x1) - (I 4800)))), some (.int (imax 0 ((v4 - x2) - (I 4800)))), some (.int v5)]) (st' := [.int (imax 0 ((v3 + x1) - (I 4800))), .int v5, .ref 49]) (h' := (HP I A L F E)) rfl).trans ?_
          refine (sg_stI (hh := fun X33 => (HP I (fu A 49 X33) L F E)) ht_X1_follow rfl hp_o_49 (fun _ => hp_s_49)).trans ?_
          refine bind_cg fun X33 hX33 => ?_
          refine (sg_go ht_X1_follow (k := 4) (pc' := 115) (L' := [some (.ref 48), some (.ref 71), some (.int v2), some (.int (imax 0 ((v3 + x1) - (I 4800)))), some (.int (imax 0 ((v4 - x2) - (I 4800)))), some (.int v5)]) (st' := [.int (imax 0 ((v4 - x2) - (I 4800))), .int v5, .ref 50]) (h' := (HP I (fu A 49 X33) L F E)) rfl).trans ?_
          refine (sg_stI (hh := fun X34 => (HP I (fu (fu A 49 X33) 50 X34) L F E)) ht_X1_follow rfl hp_o_50 (fun _ => hp_s_50)).trans ?_
          refine bind_cg fun X34 hX34 => ?_
          refine (sg_go ht_X1_follow (k := 2) (pc' := 14) (L' := [some (.ref 48), some (.ref 71), some (.int v2), some (.int (imax 0 ((v3 + x1) - (I 4800)))), some (.int (imax 0 ((v4 - x2) - (I 4800)))), some (.int (v5 + 1))]) (st' := []) (h' := (HP I (fu (fu A 49 X33) 50 X34) L F E)) rfl).trans ?_
          rfl
    · refine (sg_go ht_X1_follow (k := 2) (pc' := 31) (L' := [some (.ref 48), some (.ref 71), some (.int v2), some (.int v3), some (.int v4), some (.int v5)]) (st' := [.int (I 4806)]) (h' := (HP I A L F E)) rfl).trans ?_
      refine (sg_if ht_X1_follow rfl).trans ?_
      refine ite_congr rfl (fun _ => ?_) (fun _ => ?_)
      · refine (sg_go ht_X1_follow (k := 4) (pc' := 47) (L' := [some (.ref 48), some (.ref 71), some (.int v2), some (.int v3), some (.int v4), some (.int v5)]) (st' := [.int v5, .ref 71, .int v3, .int 0]) (h' := (HP I A L F E)) rfl).trans ?_
        refine (sg_ldI ht_X1_follow rfl hp_o_71).trans ?_
        refine bind_cg fun x35 hx35 => ?_
        refine (sg_go ht_X1_follow (k := 10) (pc' := 64) (L' := [some (.ref 48), some (.ref 71), some (.int v2), some (.int (imax 0 ((v3 + x35) - (I 4800)))), some (.int v4), some (.int v5)]) (st' := [.int v5, .ref 71, .int v4, .int 0]) (h' := (HP I A L F E)) rfl).trans ?_
        refine (sg_ldI ht_X1_follow rfl hp_o_71).trans ?_
        refine bind_cg fun x36 hx36 => ?_
        refine (sg_go ht_X1_follow (k := 10) (pc' := 82) (L' := [some (.ref 48), some (.ref 71), some (.int v2), some (.int (imax 0 ((v3 + x35) - (I 4800)))), some (.int (imax 0 ((v4 - x36) - (I 4800)))), some (.int v5)]) (st' := [.int (imax 0 ((v4 - x36) - (I 4800))), .int (imax 0 ((v3 + x35) - (I 4800))), .int v5, .ref 48]) (h' := (HP I A L F E)) rfl).trans ?_
        refine (sg_call ht_X1_follow (mj := 15) (as := [.ref 48, .int v5, .int (imax 0 ((v3 + x35) - (I 4800))), .int (imax 0 ((v4 - x36) - (I 4800)))]) (rest := []) rfl rfl ⟨by decide, Nat.le_of_ble_eq_true rfl⟩).trans ?_
        refine (bind_eq (sg_X1_alarmed_0 v5 (imax 0 ((v3 + x35) - (I 4800))) (imax 0 ((v4 - x36) - (I 4800))))).trans ?_
        refine ite_bd.trans ?_
        refine ite_congr rfl (fun _ => ?_) (fun _ => ?_)
        · refine bind_as.trans ?_
          refine bind_cg fun X37 hX37 => ?_
          refine ite_bd.trans ?_
          refine ite_congr rfl (fun _ => ?_) (fun _ => ?_)
          · refine bind_as.trans ?_
            refine bind_cg fun X38 hX38 => ?_
            refine ite_bd.trans ?_
            refine ite_congr rfl (fun _ => ?_) (fun _ => ?_)
            · refine bind_as.trans ?_
              refine bind_cg fun X39 hX39 => ?_
              show mm_run G0 14 85 [some (.ref 48), some (.ref 71), some (.int v2), some (.int (imax 0 ((v3 + x35) - (I 4800)))), some (.int (imax 0 ((v4 - x36) - (I 4800)))), some (.int v5)] [.int 1] (HP (fu I 4806 ((I 4806) + 1)) (fu (fu (fu A 51 X37) 52 X38) 53 X39) L F E) = _
              refine (sg_go ht_X1_follow (k := 10) (pc' := 105) (L' := [some (.ref 48), some (.ref 71), some (.int v2), some (.int (I 4802)), some (.int (I 4802)), some (.int v5)]) (st' := [.int v5, .ref 49]) (h' := (HP (fu I 4806 ((I 4806) + 1)) (fu (fu (fu A 51 X37) 52 X38) 53 X39) L F E)) rfl).trans ?_
              refine (sg_go ht_X1_follow (k := 1) (pc' := 106) (L' := [some (.ref 48), some (.ref 71), some (.int v2), some (.int (I 4802)), some (.int (I 4802)), some (.int v5)]) (st' := [.int (I 4802), .int v5, .ref 49]) (h' := (HP (fu I 4806 ((I 4806) + 1)) (fu (fu (fu A 51 X37) 52 X38) 53 X39) L F E)) rfl).trans ?_
              refine (sg_stI (hh := fun X40 => (HP (fu I 4806 ((I 4806) + 1)) (fu (fu (fu (fu A 51 X37) 52 X38) 53 X39) 49 X40) L F E)) ht_X1_follow rfl hp_o_49 (fun _ => hp_s_49)).trans ?_
              refine bind_cg fun X40 hX40 => ?_
              refine (sg_go ht_X1_follow (k := 4) (pc' := 115) (L' := [some (.ref 48), some (.ref 71), some (.int v2), some (.int (I 4802)), some (.int (I 4802)), some (.int v5)]) (st' := [.int (I 4802), .int v5, .ref 50]) (h' := (HP (fu I 4806 ((I 4806) + 1)) (fu (fu (fu (fu A 51 X37) 52 X38) 53 X39) 49 X40) L F E)) rfl).trans ?_
              refine (sg_stI (hh := fun X41 => (HP (fu I 4806 ((I 4806) + 1)) (fu (fu (fu (fu (fu A 51 X37) 52 X38) 53 X39) 49 X40) 50 X41) L F E)) ht_X1_follow rfl hp_o_50 (fun _ => hp_s_50)).trans ?_
              refine bind_cg fun X41 hX41 => ?_
              refine (sg_go ht_X1_follow (k := 2) (pc' := 14) (L' := [some (.ref 48), some (.ref 71), some (.int v2), some (.int (I 4802)), some (.int (I 4802)), some (.int (v5 + 1))]) (st' := []) (h' := (HP (fu I 4806 ((I 4806) + 1)) (fu (fu (fu (fu (fu A 51 X37) 52 X38) 53 X39) 49 X40) 50 X41) L F E)) rfl).trans ?_
              rfl
            · refine bind_as.trans ?_
              refine bind_cg fun X42 hX42 => ?_
              show mm_run G0 14 85 [some (.ref 48), some (.ref 71), some (.int v2), some (.int (imax 0 ((v3 + x35) - (I 4800)))), some (.int (imax 0 ((v4 - x36) - (I 4800)))), some (.int v5)] [.int 1] (HP (fu I 4806 ((I 4806) + 1)) (fu (fu (fu A 51 X37) 52 X38) 53 X42) L F E) = _
              refine (sg_go ht_X1_follow (k := 10) (pc' := 105) (L' := [some (.ref 48), some (.ref 71), some (.int v2), some (.int (I 4802)), some (.int (I 4802)), some (.int v5)]) (st' := [.int v5, .ref 49]) (h' := (HP (fu I 4806 ((I 4806) + 1)) (fu (fu (fu A 51 X37) 52 X38) 53 X42) L F E)) rfl).trans ?_
              refine (sg_go ht_X1_follow (k := 1) (pc' := 106) (L' := [some (.ref 48), some (.ref 71), some (.int v2), some (.int (I 4802)), some (.int (I 4802)), some (.int v5)]) (st' := [.int (I 4802), .int v5, .ref 49]) (h' := (HP (fu I 4806 ((I 4806) + 1)) (fu (fu (fu A 51 X37) 52 X38) 53 X42) L F E)) rfl).trans ?_
              refine (sg_stI (hh := fun X43 => (HP (fu I 4806 ((I 4806) + 1)) (fu (fu (fu (fu A 51 X37) 52 X38) 53 X42) 49 X43) L F E)) ht_X1_follow rfl hp_o_49 (fun _ => hp_s_49)).trans ?_
              refine bind_cg fun X43 hX43 => ?_
              refine (sg_go ht_X1_follow (k := 4) (pc' := 115) (L' := [some (.ref 48), some (.ref 71), some (.int v2), some (.int (I 4802)), some (.int (I 4802)), some (.int v5)]) (st' := [.int (I 4802), .int v5, .ref 50]) (h' := (HP (fu I 4806 ((I 4806) + 1)) (fu (fu (fu (fu A 51 X37) 52 X38) 53 X42) 49 X43) L F E)) rfl).trans ?_
              refine (sg_stI (hh := fun X44 => (HP (fu I 4806 ((I 4806) + 1)) (fu (fu (fu (fu (fu A 51 X37) 52 X38) 53 X42) 49 X43) 50 X44) L F E)) ht_X1_follow rfl hp_o_50 (fun _ => hp_s_50)).trans ?_
              refine bind_cg fun X44 hX44 => ?_
              refine (sg_go ht_X1_follow (k := 2) (pc' := 14) (L' := [some (.ref 48), some (.ref 71), some (.int v2), some (.int (I 4802)), some (.int (I 4802)), some (.int (v5 + 1))]) (st' := []) (h' := (HP (fu I 4806 ((I 4806) + 1)) (fu (fu (fu (fu (fu A 51 X37) 52 X38) 53 X42) 49 X43) 50 X44) L F E)) rfl).trans ?_
              rfl
          · refine bind_as.trans ?_
            refine bind_cg fun X45 hX45 => ?_
            refine ite_bd.trans ?_
            refine ite_congr rfl (fun _ => ?_) (fun _ => ?_)
            · refine bind_as.trans ?_
              refine bind_cg fun X46 hX46 => ?_
              show mm_run G0 14 85 [some (.ref 48), some (.ref 71), some (.int v2), some (.int (imax 0 ((v3 + x35) - (I 4800)))), some (.int (imax 0 ((v4 - x36) - (I 4800)))), some (.int v5)] [.int 1] (HP (fu I 4806 ((I 4806) + 1)) (fu (fu (fu A 51 X37) 52 X45) 53 X46) L F E) = _
              refine (sg_go ht_X1_follow (k := 10) (pc' := 105) (L' := [some (.ref 48), some (.ref 71), some (.int v2), some (.int (I 4802)), some (.int (I 4802)), some (.int v5)]) (st' := [.int v5, .ref 49]) (h' := (HP (fu I 4806 ((I 4806) + 1)) (fu (fu (fu A 51 X37) 52 X45) 53 X46) L F E)) rfl).trans ?_
              refine (sg_go ht_X1_follow (k := 1) (pc' := 106) (L' := [some (.ref 48), some (.ref 71), some (.int v2), some (.int (I 4802)), some (.int (I 4802)), some (.int v5)]) (st' := [.int (I 4802), .int v5, .ref 49]) (h' := (HP (fu I 4806 ((I 4806) + 1)) (fu (fu (fu A 51 X37) 52 X45) 53 X46) L F E)) rfl).trans ?_
              refine (sg_stI (hh := fun X47 => (HP (fu I 4806 ((I 4806) + 1)) (fu (fu (fu (fu A 51 X37) 52 X45) 53 X46) 49 X47) L F E)) ht_X1_follow rfl hp_o_49 (fun _ => hp_s_49)).trans ?_
              refine bind_cg fun X47 hX47 => ?_
              refine (sg_go ht_X1_follow (k := 4) (pc' := 115) (L' := [some (.ref 48), some (.ref 71), some (.int v2), some (.int (I 4802)), some (.int (I 4802)), some (.int v5)]) (st' := [.int (I 4802), .int v5, .ref 50]) (h' := (HP (fu I 4806 ((I 4806) + 1)) (fu (fu (fu (fu A 51 X37) 52 X45) 53 X46) 49 X47) L F E)) rfl).trans ?_
              refine (sg_stI (hh := fun X48 => (HP (fu I 4806 ((I 4806) + 1)) (fu (fu (fu (fu (fu A 51 X37) 52 X45) 53 X46) 49 X47) 50 X48) L F E)) ht_X1_follow rfl hp_o_50 (fun _ => hp_s_50)).trans ?_
              refine bind_cg fun X48 hX48 => ?_
              refine (sg_go ht_X1_follow (k := 2) (pc' := 14) (L' := [some (.ref 48), some (.ref 71), some (.int v2), some (.int (I 4802)), some (.int (I 4802)), some (.int (v5 + 1))]) (st' := []) (h' := (HP (fu I 4806 ((I 4806) + 1)) (fu (fu (fu (fu (fu A 51 X37) 52 X45) 53 X46) 49 X47) 50 X48) L F E)) rfl).trans ?_
              rfl
            · refine bind_as.trans ?_
              refine bind_cg fun X49 hX49 => ?_
              show mm_run G0 14 85 [some (.ref 48), some (.ref 71), some (.int v2), some (.int (imax 0 ((v3 + x35) - (I 4800)))), some (.int (imax 0 ((v4 - x36) - (I 4800)))), some (.int v5)] [.int 1] (HP (fu I 4806 ((I 4806) + 1)) (fu (fu (fu A 51 X37) 52 X45) 53 X49) L F E) = _
              refine (sg_go ht_X1_follow (k := 10) (pc' := 105) (L' := [some (.ref 48), some (.ref 71), some (.int v2), some (.int (I 4802)), some (.int (I 4802)), some (.int v5)]) (st' := [.int v5, .ref 49]) (h' := (HP (fu I 4806 ((I 4806) + 1)) (fu (fu (fu A 51 X37) 52 X45) 53 X49) L F E)) rfl).trans ?_
              refine (sg_go ht_X1_follow (k := 1) (pc' := 106) (L' := [some (.ref 48), some (.ref 71), some (.int v2), some (.int (I 4802)), some (.int (I 4802)), some (.int v5)]) (st' := [.int (I 4802), .int v5, .ref 49]) (h' := (HP (fu I 4806 ((I 4806) + 1)) (fu (fu (fu A 51 X37) 52 X45) 53 X49) L F E)) rfl).trans ?_
              refine (sg_stI (hh := fun X50 => (HP (fu I 4806 ((I 4806) + 1)) (fu (fu (fu (fu A 51 X37) 52 X45) 53 X49) 49 X50) L F E)) ht_X1_follow rfl hp_o_49 (fun _ => hp_s_49)).trans ?_
              refine bind_cg fun X50 hX50 => ?_
              refine (sg_go ht_X1_follow (k := 4) (pc' := 115) (L' := [some (.ref 48), some (.ref 71), some (.int v2), some (.int (I 4802)), some (.int (I 4802)), some (.int v5)]) (st' := [.int (I 4802), .int v5, .ref 50]) (h' := (HP (fu I 4806 ((I 4806) + 1)) (fu (fu (fu (fu A 51 X37) 52 X45) 53 X49) 49 X50) L F E)) rfl).trans ?_
              refine (sg_stI (hh := fun X51 => (HP (fu I 4806 ((I 4806) + 1)) (fu (fu (fu (fu (fu A 51 X37) 52 X45) 53 X49) 49 X50) 50 X51) L F E)) ht_X1_follow rfl hp_o_50 (fun _ => hp_s_50)).trans ?_
              refine bind_cg fun X51 hX51 => ?_
              refine (sg_go ht_X1_follow (k := 2) (pc' := 14) (L' := [some (.ref 48), some (.ref 71), some (.int v2), some (.int (I 4802)), some (.int (I 4802)), some (.int (v5 + 1))]) (st' := []) (h' := (HP (fu I 4806 ((I 4806) + 1)) (fu (fu (fu (fu (fu A 51 X37) 52 X45) 53 X49) 49 X50) 50 X51) L F E)) rfl).trans ?_
              rfl
        · refine ite_bd.trans ?_
          refine ite_congr rfl (fun _ => ?_) (fun _ => ?_)
          · refine bind_as.trans ?_
            refine bind_cg fun X52 hX52 => ?_
            refine ite_bd.trans ?_
            refine ite_congr rfl (fun _ => ?_) (fun _ => ?_)
            · refine bind_as.trans ?_
              refine bind_cg fun X53 hX53 => ?_
              refine ite_bd.trans ?_
              refine ite_congr rfl (fun _ => ?_) (fun _ => ?_)
              · refine bind_as.trans ?_
                refine bind_cg fun X54 hX54 => ?_
                show mm_run G0 14 85 [some (.ref 48), some (.ref 71), some (.int v2), some (.int (imax 0 ((v3 + x35) - (I 4800)))), some (.int (imax 0 ((v4 - x36) - (I 4800)))), some (.int v5)] [.int 1] (HP (fu I 4806 ((I 4806) + 1)) (fu (fu (fu A 51 X52) 52 X53) 53 X54) L F E) = _
                refine (sg_go ht_X1_follow (k := 10) (pc' := 105) (L' := [some (.ref 48), some (.ref 71), some (.int v2), some (.int (I 4802)), some (.int (I 4802)), some (.int v5)]) (st' := [.int v5, .ref 49]) (h' := (HP (fu I 4806 ((I 4806) + 1)) (fu (fu (fu A 51 X52) 52 X53) 53 X54) L F E)) rfl).trans ?_
                refine (sg_go ht_X1_follow (k := 1) (pc' := 106) (L' := [some (.ref 48), some (.ref 71), some (.int v2), some (.int (I 4802)), some (.int (I 4802)), some (.int v5)]) (st' := [.int (I 4802), .int v5, .ref 49]) (h' := (HP (fu I 4806 ((I 4806) + 1)) (fu (fu (fu A 51 X52) 52 X53) 53 X54) L F E)) rfl).trans ?_
                refine (sg_stI (hh := fun X55 => (HP (fu I 4806 ((I 4806) + 1)) (fu (fu (fu (fu A 51 X52) 52 X53) 53 X54) 49 X55) L F E)) ht_X1_follow rfl hp_o_49 (fun _ => hp_s_49)).trans ?_
                refine bind_cg fun X55 hX55 => ?_
                refine (sg_go ht_X1_follow (k := 4) (pc' := 115) (L' := [some (.ref 48), some (.ref 71), some (.int v2), some (.int (I 4802)), some (.int (I 4802)), some (.int v5)]) (st' := [.int (I 4802), .int v5, .ref 50]) (h' := (HP (fu I 4806 ((I 4806) + 1)) (fu (fu (fu (fu A 51 X52) 52 X53) 53 X54) 49 X55) L F E)) rfl).trans ?_
                refine (sg_stI (hh := fun X56 => (HP (fu I 4806 ((I 4806) + 1)) (fu (fu (fu (fu (fu A 51 X52) 52 X53) 53 X54) 49 X55) 50 X56) L F E)) ht_X1_follow rfl hp_o_50 (fun _ => hp_s_50)).trans ?_
                refine bind_cg fun X56 hX56 => ?_
                refine (sg_go ht_X1_follow (k := 2) (pc' := 14) (L' := [some (.ref 48), some (.ref 71), some (.int v2), some (.int (I 4802)), some (.int (I 4802)), some (.int (v5 + 1))]) (st' := []) (h' := (HP (fu I 4806 ((I 4806) + 1)) (fu (fu (fu (fu (fu A 51 X52) 52 X53) 53 X54) 49 X55) 50 X56) L F E)) rfl).trans ?_
                rfl
              · refine bind_as.trans ?_
                refine bind_cg fun X57 hX57 => ?_
                show mm_run G0 14 85 [some (.ref 48), some (.ref 71), some (.int v2), some (.int (imax 0 ((v3 + x35) - (I 4800)))), some (.int (imax 0 ((v4 - x36) - (I 4800)))), some (.int v5)] [.int 1] (HP (fu I 4806 ((I 4806) + 1)) (fu (fu (fu A 51 X52) 52 X53) 53 X57) L F E) = _
                refine (sg_go ht_X1_follow (k := 10) (pc' := 105) (L' := [some (.ref 48), some (.ref 71), some (.int v2), some (.int (I 4802)), some (.int (I 4802)), some (.int v5)]) (st' := [.int v5, .ref 49]) (h' := (HP (fu I 4806 ((I 4806) + 1)) (fu (fu (fu A 51 X52) 52 X53) 53 X57) L F E)) rfl).trans ?_
                refine (sg_go ht_X1_follow (k := 1) (pc' := 106) (L' := [some (.ref 48), some (.ref 71), some (.int v2), some (.int (I 4802)), some (.int (I 4802)), some (.int v5)]) (st' := [.int (I 4802), .int v5, .ref 49]) (h' := (HP (fu I 4806 ((I 4806) + 1)) (fu (fu (fu A 51 X52) 52 X53) 53 X57) L F E)) rfl).trans ?_
                refine (sg_stI (hh := fun X58 => (HP (fu I 4806 ((I 4806) + 1)) (fu (fu (fu (fu A 51 X52) 52 X53) 53 X57) 49 X58) L F E)) ht_X1_follow rfl hp_o_49 (fun _ => hp_s_49)).trans ?_
                refine bind_cg fun X58 hX58 => ?_
                refine (sg_go ht_X1_follow (k := 4) (pc' := 115) (L' := [some (.ref 48), some (.ref 71), some (.int v2), some (.int (I 4802)), some (.int (I 4802)), some (.int v5)]) (st' := [.int (I 4802), .int v5, .ref 50]) (h' := (HP (fu I 4806 ((I 4806) + 1)) (fu (fu (fu (fu A 51 X52) 52 X53) 53 X57) 49 X58) L F E)) rfl).trans ?_
                refine (sg_stI (hh := fun X59 => (HP (fu I 4806 ((I 4806) + 1)) (fu (fu (fu (fu (fu A 51 X52) 52 X53) 53 X57) 49 X58) 50 X59) L F E)) ht_X1_follow rfl hp_o_50 (fun _ => hp_s_50)).trans ?_
                refine bind_cg fun X59 hX59 => ?_
                refine (sg_go ht_X1_follow (k := 2) (pc' := 14) (L' := [some (.ref 48), some (.ref 71), some (.int v2), some (.int (I 4802)), some (.int (I 4802)), some (.int (v5 + 1))]) (st' := []) (h' := (HP (fu I 4806 ((I 4806) + 1)) (fu (fu (fu (fu (fu A 51 X52) 52 X53) 53 X57) 49 X58) 50 X59) L F E)) rfl).trans ?_
                rfl
            · refine bind_as.trans ?_
              refine bind_cg fun X60 hX60 => ?_
              refine ite_bd.trans ?_
              refine ite_congr rfl (fun _ => ?_) (fun _ => ?_)
              · refine bind_as.trans ?_
                refine bind_cg fun X61 hX61 => ?_
                show mm_run G0 14 85 [some (.ref 48), some (.ref 71), some (.int v2), some (.int (imax 0 ((v3 + x35) - (I 4800)))), some (.int (imax 0 ((v4 - x36) - (I 4800)))), some (.int v5)] [.int 1] (HP (fu I 4806 ((I 4806) + 1)) (fu (fu (fu A 51 X52) 52 X60) 53 X61) L F E) = _
                refine (sg_go ht_X1_follow (k := 10) (pc' := 105) (L' := [some (.ref 48), some (.ref 71), some (.int v2), some (.int (I 4802)), some (.int (I 4802)), some (.int v5)]) (st' := [.int v5, .ref 49]) (h' := (HP (fu I 4806 ((I 4806) + 1)) (fu (fu (fu A 51 X52) 52 X60) 53 X61) L F E)) rfl).trans ?_
                refine (sg_go ht_X1_follow (k := 1) (pc' := 106) (L' := [some (.ref 48), some (.ref 71), some (.int v2), some (.int (I 4802)), some (.int (I 4802)), some (.int v5)]) (st' := [.int (I 4802), .int v5, .ref 49]) (h' := (HP (fu I 4806 ((I 4806) + 1)) (fu (fu (fu A 51 X52) 52 X60) 53 X61) L F E)) rfl).trans ?_
                refine (sg_stI (hh := fun X62 => (HP (fu I 4806 ((I 4806) + 1)) (fu (fu (fu (fu A 51 X52) 52 X60) 53 X61) 49 X62) L F E)) ht_X1_follow rfl hp_o_49 (fun _ => hp_s_49)).trans ?_
                refine bind_cg fun X62 hX62 => ?_
                refine (sg_go ht_X1_follow (k := 4) (pc' := 115) (L' := [some (.ref 48), some (.ref 71), some (.int v2), some (.int (I 4802)), some (.int (I 4802)), some (.int v5)]) (st' := [.int (I 4802), .int v5, .ref 50]) (h' := (HP (fu I 4806 ((I 4806) + 1)) (fu (fu (fu (fu A 51 X52) 52 X60) 53 X61) 49 X62) L F E)) rfl).trans ?_
                refine (sg_stI (hh := fun X63 => (HP (fu I 4806 ((I 4806) + 1)) (fu (fu (fu (fu (fu A 51 X52) 52 X60) 53 X61) 49 X62) 50 X63) L F E)) ht_X1_follow rfl hp_o_50 (fun _ => hp_s_50)).trans ?_
                refine bind_cg fun X63 hX63 => ?_
                refine (sg_go ht_X1_follow (k := 2) (pc' := 14) (L' := [some (.ref 48), some (.ref 71), some (.int v2), some (.int (I 4802)), some (.int (I 4802)), some (.int (v5 + 1))]) (st' := []) (h' := (HP (fu I 4806 ((I 4806) + 1)) (fu (fu (fu (fu (fu A 51 X52) 52 X60) 53 X61) 49 X62) 50 X63) L F E)) rfl).trans ?_
                rfl
              · refine bind_as.trans ?_
                refine bind_cg fun X64 hX64 => ?_
                show mm_run G0 14 85 [some (.ref 48), some (.ref 71), some (.int v2), some (.int (imax 0 ((v3 + x35) - (I 4800)))), some (.int (imax 0 ((v4 - x36) - (I 4800)))), some (.int v5)] [.int 1] (HP (fu I 4806 ((I 4806) + 1)) (fu (fu (fu A 51 X52) 52 X60) 53 X64) L F E) = _
                refine (sg_go ht_X1_follow (k := 10) (pc' := 105) (L' := [some (.ref 48), some (.ref 71), some (.int v2), some (.int (I 4802)), some (.int (I 4802)), some (.int v5)]) (st' := [.int v5, .ref 49]) (h' := (HP (fu I 4806 ((I 4806) + 1)) (fu (fu (fu A 51 X52) 52 X60) 53 X64) L F E)) rfl).trans ?_
                refine (sg_go ht_X1_follow (k := 1) (pc' := 106) (L' := [some (.ref 48), some (.ref 71), some (.int v2), some (.int (I 4802)), some (.int (I 4802)), some (.int v5)]) (st' := [.int (I 4802), .int v5, .ref 49]) (h' := (HP (fu I 4806 ((I 4806) + 1)) (fu (fu (fu A 51 X52) 52 X60) 53 X64) L F E)) rfl).trans ?_
                refine (sg_stI (hh := fun X65 => (HP (fu I 4806 ((I 4806) + 1)) (fu (fu (fu (fu A 51 X52) 52 X60) 53 X64) 49 X65) L F E)) ht_X1_follow rfl hp_o_49 (fun _ => hp_s_49)).trans ?_
                refine bind_cg fun X65 hX65 => ?_
                refine (sg_go ht_X1_follow (k := 4) (pc' := 115) (L' := [some (.ref 48), some (.ref 71), some (.int v2), some (.int (I 4802)), some (.int (I 4802)), some (.int v5)]) (st' := [.int (I 4802), .int v5, .ref 50]) (h' := (HP (fu I 4806 ((I 4806) + 1)) (fu (fu (fu (fu A 51 X52) 52 X60) 53 X64) 49 X65) L F E)) rfl).trans ?_
                refine (sg_stI (hh := fun X66 => (HP (fu I 4806 ((I 4806) + 1)) (fu (fu (fu (fu (fu A 51 X52) 52 X60) 53 X64) 49 X65) 50 X66) L F E)) ht_X1_follow rfl hp_o_50 (fun _ => hp_s_50)).trans ?_
                refine bind_cg fun X66 hX66 => ?_
                refine (sg_go ht_X1_follow (k := 2) (pc' := 14) (L' := [some (.ref 48), some (.ref 71), some (.int v2), some (.int (I 4802)), some (.int (I 4802)), some (.int (v5 + 1))]) (st' := []) (h' := (HP (fu I 4806 ((I 4806) + 1)) (fu (fu (fu (fu (fu A 51 X52) 52 X60) 53 X64) 49 X65) 50 X66) L F E)) rfl).trans ?_
                rfl
          · show mm_run G0 14 85 [some (.ref 48), some (.ref 71), some (.int v2), some (.int (imax 0 ((v3 + x35) - (I 4800)))), some (.int (imax 0 ((v4 - x36) - (I 4800)))), some (.int v5)] [.int 0] (HP I A L F E) = _
            refine (sg_go ht_X1_follow (k := 5) (pc' := 106) (L' := [some (.ref 48), some (.ref 71), some (.int v2), some (.int (imax 0 ((v3 + x35) - (I 4800)))), some (.int (imax 0 ((v4 - x36) - (I 4800)))), some (.int v5)]) (st' := [.int (imax 0 ((v3 + x35) - (I 4800))), .int v5, .ref 49]) (h' := (HP I A L F E)) rfl).trans ?_
            refine (sg_stI (hh := fun X67 => (HP I (fu A 49 X67) L F E)) ht_X1_follow rfl hp_o_49 (fun _ => hp_s_49)).trans ?_
            refine bind_cg fun X67 hX67 => ?_
            refine (sg_go ht_X1_follow (k := 4) (pc' := 115) (L' := [some (.ref 48), some (.ref 71), some (.int v2), some (.int (imax 0 ((v3 + x35) - (I 4800)))), some (.int (imax 0 ((v4 - x36) - (I 4800)))), some (.int v5)]) (st' := [.int (imax 0 ((v4 - x36) - (I 4800))), .int v5, .ref 50]) (h' := (HP I (fu A 49 X67) L F E)) rfl).trans ?_
            refine (sg_stI (hh := fun X68 => (HP I (fu (fu A 49 X67) 50 X68) L F E)) ht_X1_follow rfl hp_o_50 (fun _ => hp_s_50)).trans ?_
            refine bind_cg fun X68 hX68 => ?_
            refine (sg_go ht_X1_follow (k := 2) (pc' := 14) (L' := [some (.ref 48), some (.ref 71), some (.int v2), some (.int (imax 0 ((v3 + x35) - (I 4800)))), some (.int (imax 0 ((v4 - x36) - (I 4800)))), some (.int (v5 + 1))]) (st' := []) (h' := (HP I (fu (fu A 49 X67) 50 X68) L F E)) rfl).trans ?_
            rfl
      · refine (sg_go ht_X1_follow (k := 9) (pc' := 106) (L' := [some (.ref 48), some (.ref 71), some (.int v2), some (.int 0), some (.int 0), some (.int v5)]) (st' := [.int 0, .int v5, .ref 49]) (h' := (HP I A L F E)) rfl).trans ?_
        refine (sg_stI (hh := fun X69 => (HP I (fu A 49 X69) L F E)) ht_X1_follow rfl hp_o_49 (fun _ => hp_s_49)).trans ?_
        refine bind_cg fun X69 hX69 => ?_
        refine (sg_go ht_X1_follow (k := 4) (pc' := 115) (L' := [some (.ref 48), some (.ref 71), some (.int v2), some (.int 0), some (.int 0), some (.int v5)]) (st' := [.int 0, .int v5, .ref 50]) (h' := (HP I (fu A 49 X69) L F E)) rfl).trans ?_
        refine (sg_stI (hh := fun X70 => (HP I (fu (fu A 49 X69) 50 X70) L F E)) ht_X1_follow rfl hp_o_50 (fun _ => hp_s_50)).trans ?_
        refine bind_cg fun X70 hX70 => ?_
        refine (sg_go ht_X1_follow (k := 2) (pc' := 14) (L' := [some (.ref 48), some (.ref 71), some (.int v2), some (.int 0), some (.int 0), some (.int (v5 + 1))]) (st' := []) (h' := (HP I (fu (fu A 49 X69) 50 X70) L F E)) rfl).trans ?_
        rfl
set_option maxRecDepth 20000 in
theorem sg_X1_firstPlace_0 {I : Nat → Int32} {A : Nat → List Int32} {L : Nat → List Int64} {F : Nat → Int64} {E : MH}  : mm_call G0 16 [.ref 48] (HP I A L F E) = (if (I 4806) ≠ 0 then ((ldI (A 51) 0).bind fun x1 => some (some (.int x1), (HP I A L F E))) else some (some (.int (-5)), (HP I A L F E))) := by
  show mm_run G0 16 0 [some (.ref 48)] [] (HP I A L F E) = _
  refine (sg_go ht_X1_firstPlace (k := 2) (pc' := 4) (L' := [some (.ref 48)]) (st' := [.int (I 4806)]) (h' := (HP I A L F E)) rfl).trans ?_
  refine (sg_if ht_X1_firstPlace rfl).trans ?_
  refine ite_congr rfl (fun _ => ?_) (fun _ => ?_)
  · refine (sg_go ht_X1_firstPlace (k := 3) (pc' := 17) (L' := [some (.ref 48)]) (st' := [.int 0, .ref 51]) (h' := (HP I A L F E)) rfl).trans ?_
    refine (sg_ldI ht_X1_firstPlace rfl hp_o_51).trans ?_
    refine bind_cg fun x1 hx1 => ?_
    exact sg_ret ht_X1_firstPlace rfl rfl
  · refine (sg_go ht_X1_firstPlace (k := 2) (pc' := 18) (L' := [some (.ref 48)]) (st' := [.int (-5)]) (h' := (HP I A L F E)) rfl).trans ?_
    exact sg_ret ht_X1_firstPlace rfl rfl
set_option maxRecDepth 20000 in
theorem sg_X1_alarmsAt_0 {I : Nat → Int32} {A : Nat → List Int32} {L : Nat → List Int64} {F : Nat → Int64} {E : MH} (p1 : Int32) : mm_call G0 17 [.ref 48, .int p1] (HP I A L F E) = mm_run G0 17 2 [some (.ref 48), some (.int p1), some (.int 0)] [] (HP I A L F E) := by
  show mm_run G0 17 0 [some (.ref 48), some (.int p1), none] [] (HP I A L F E) = _
  refine (sg_go ht_X1_alarmsAt (k := 2) (pc' := 2) (L' := [some (.ref 48), some (.int p1), some (.int 0)]) (st' := []) (h' := (HP I A L F E)) rfl).trans ?_
  rfl
set_option maxRecDepth 20000 in
theorem sg_X1_alarmsAt_2 {I : Nat → Int32} {A : Nat → List Int32} {L : Nat → List Int64} {F : Nat → Int64} {E : MH} (v1 : Int32) (v2 : Int32) : mm_run G0 17 2 [some (.ref 48), some (.int v1), some (.int v2)] [] (HP I A L F E) = (if (I 4806) ≤ v2 then some (some (.int 0), (HP I A L F E)) else ((ldI (A 51) v2).bind fun x1 => (if x1 ≠ v1 then mm_run G0 17 2 [some (.ref 48), some (.int v1), some (.int (v2 + 1))] [] (HP I A L F E) else some (some (.int 1), (HP I A L F E))))) := by
  refine (sg_go ht_X1_alarmsAt (k := 3) (pc' := 7) (L' := [some (.ref 48), some (.int v1), some (.int v2)]) (st' := [.int (I 4806), .int v2]) (h' := (HP I A L F E)) rfl).trans ?_
  refine (sg_cmp ht_X1_alarmsAt rfl).trans ?_
  refine ite_congr rfl (fun _ => ?_) (fun _ => ?_)
  · refine (sg_go ht_X1_alarmsAt (k := 1) (pc' := 29) (L' := [some (.ref 48), some (.int v1), some (.int v2)]) (st' := [.int 0]) (h' := (HP I A L F E)) rfl).trans ?_
    exact sg_ret ht_X1_alarmsAt rfl rfl
  · refine (sg_go ht_X1_alarmsAt (k := 3) (pc' := 15) (L' := [some (.ref 48), some (.int v1), some (.int v2)]) (st' := [.int v2, .ref 51]) (h' := (HP I A L F E)) rfl).trans ?_
    refine (sg_ldI ht_X1_alarmsAt rfl hp_o_51).trans ?_
    refine bind_cg fun x1 hx1 => ?_
    refine (sg_go ht_X1_alarmsAt (k := 1) (pc' := 17) (L' := [some (.ref 48), some (.int v1), some (.int v2)]) (st' := [.int v1, .int x1]) (h' := (HP I A L F E)) rfl).trans ?_
    refine (sg_cmp ht_X1_alarmsAt rfl).trans ?_
    refine ite_congr rfl (fun _ => ?_) (fun _ => ?_)
    · refine (sg_go ht_X1_alarmsAt (k := 2) (pc' := 2) (L' := [some (.ref 48), some (.int v1), some (.int (v2 + 1))]) (st' := []) (h' := (HP I A L F E)) rfl).trans ?_
      rfl
    · refine (sg_go ht_X1_alarmsAt (k := 1) (pc' := 21) (L' := [some (.ref 48), some (.int v1), some (.int v2)]) (st' := [.int 1]) (h' := (HP I A L F E)) rfl).trans ?_
      exact sg_ret ht_X1_alarmsAt rfl rfl
set_option maxRecDepth 20000 in
theorem sg_X6_isDigit_0 {I : Nat → Int32} {A : Nat → List Int32} {L : Nat → List Int64} {F : Nat → Int64} {E : MH} (p0 : Int32) : mm_call G0 57 [.int p0] (HP I A L F E) = (if p0 < 48 then some (some (.int 0), (HP I A L F E)) else (if 57 < p0 then some (some (.int 0), (HP I A L F E)) else some (some (.int 1), (HP I A L F E)))) := by
  show mm_run G0 57 0 [some (.int p0)] [] (HP I A L F E) = _
  refine (sg_go ht_X6_isDigit (k := 2) (pc' := 3) (L' := [some (.int p0)]) (st' := [.int 48, .int p0]) (h' := (HP I A L F E)) rfl).trans ?_
  refine (sg_cmp ht_X6_isDigit rfl).trans ?_
  refine ite_congr rfl (fun _ => ?_) (fun _ => ?_)
  · refine (sg_go ht_X6_isDigit (k := 1) (pc' := 17) (L' := [some (.int p0)]) (st' := [.int 0]) (h' := (HP I A L F E)) rfl).trans ?_
    exact sg_ret ht_X6_isDigit rfl rfl
  · refine (sg_go ht_X6_isDigit (k := 2) (pc' := 9) (L' := [some (.int p0)]) (st' := [.int 57, .int p0]) (h' := (HP I A L F E)) rfl).trans ?_
    refine (sg_cmp ht_X6_isDigit rfl).trans ?_
    refine ite_congr rfl (fun _ => ?_) (fun _ => ?_)
    · refine (sg_go ht_X6_isDigit (k := 1) (pc' := 17) (L' := [some (.int p0)]) (st' := [.int 0]) (h' := (HP I A L F E)) rfl).trans ?_
      exact sg_ret ht_X6_isDigit rfl rfl
    · refine (sg_go ht_X6_isDigit (k := 2) (pc' := 17) (L' := [some (.int p0)]) (st' := [.int 1]) (h' := (HP I A L F E)) rfl).trans ?_
      exact sg_ret ht_X6_isDigit rfl rfl
theorem sp_X6_isDigit {I : Nat → Int32} {A : Nat → List Int32} {L : Nat → List Int64} {F : Nat → Int64} {E : MH} (p0 : Int32) : mm_call G0 57 [.int p0] (HP I A L F E) = some (some (.int (bi (decide (¬ p0 < 48 ∧ ¬ 57 < p0)))), (HP I A L F E)) := by
  rw [sg_X6_isDigit_0 p0]
  exact bi_and (f := fun z => some (some (Value.int z), HP I A L F E))
set_option maxRecDepth 20000 in
theorem sg_X6_takesNumber_0 {I : Nat → Int32} {A : Nat → List Int32} {L : Nat → List Int64} {F : Nat → Int64} {E : MH} (p0 : Int32) : mm_call G0 56 [.int p0] (HP I A L F E) = (if p0 = 118 then some (some (.int 1), (HP I A L F E)) else (if p0 = 116 then some (some (.int 1), (HP I A L F E)) else (if p0 ≠ 108 then some (some (.int 0), (HP I A L F E)) else some (some (.int 1), (HP I A L F E))))) := by
  show mm_run G0 56 0 [some (.int p0)] [] (HP I A L F E) = _
  refine (sg_go ht_X6_takesNumber (k := 2) (pc' := 3) (L' := [some (.int p0)]) (st' := [.int 118, .int p0]) (h' := (HP I A L F E)) rfl).trans ?_
  refine (sg_cmp ht_X6_takesNumber rfl).trans ?_
  refine ite_congr rfl (fun _ => ?_) (fun _ => ?_)
  · refine (sg_go ht_X6_takesNumber (k := 2) (pc' := 23) (L' := [some (.int p0)]) (st' := [.int 1]) (h' := (HP I A L F E)) rfl).trans ?_
    exact sg_ret ht_X6_takesNumber rfl rfl
  · refine (sg_go ht_X6_takesNumber (k := 2) (pc' := 9) (L' := [some (.int p0)]) (st' := [.int 116, .int p0]) (h' := (HP I A L F E)) rfl).trans ?_
    refine (sg_cmp ht_X6_takesNumber rfl).trans ?_
    refine ite_congr rfl (fun _ => ?_) (fun _ => ?_)
    · refine (sg_go ht_X6_takesNumber (k := 2) (pc' := 23) (L' := [some (.int p0)]) (st' := [.int 1]) (h' := (HP I A L F E)) rfl).trans ?_
      exact sg_ret ht_X6_takesNumber rfl rfl
    · refine (sg_go ht_X6_takesNumber (k := 2) (pc' := 15) (L' := [some (.int p0)]) (st' := [.int 108, .int p0]) (h' := (HP I A L F E)) rfl).trans ?_
      refine (sg_cmp ht_X6_takesNumber rfl).trans ?_
      refine ite_congr rfl (fun _ => ?_) (fun _ => ?_)
      · refine (sg_go ht_X6_takesNumber (k := 1) (pc' := 23) (L' := [some (.int p0)]) (st' := [.int 0]) (h' := (HP I A L F E)) rfl).trans ?_
        exact sg_ret ht_X6_takesNumber rfl rfl
      · refine (sg_go ht_X6_takesNumber (k := 2) (pc' := 23) (L' := [some (.int p0)]) (st' := [.int 1]) (h' := (HP I A L F E)) rfl).trans ?_
        exact sg_ret ht_X6_takesNumber rfl rfl
theorem sp_X6_takesNumber {I : Nat → Int32} {A : Nat → List Int32} {L : Nat → List Int64} {F : Nat → Int64} {E : MH} (p0 : Int32) : mm_call G0 56 [.int p0] (HP I A L F E) = some (some (.int (bi (okN p0))), (HP I A L F E)) := by
  rw [sg_X6_takesNumber_0 p0]
  unfold okN
  repeat' split
  all_goals rfl
set_option maxRecDepth 20000 in
theorem sg_X6_add_0 {I : Nat → Int32} {A : Nat → List Int32} {L : Nat → List Int64} {F : Nat → Int64} {E : MH} (p1 : Int32) : mm_call G0 49 [.ref 42, .int p1] (HP I A L F E) = (if (I 4201) < 100 then ((stI (A 43) (I 4201) p1).bind fun X1 => some (none, (HP (fu I 4201 ((I 4201) + 1)) (fu A 43 X1) L F E))) else some (none, (HP I A L F E))) := by
  show mm_run G0 49 0 [some (.ref 42), some (.int p1)] [] (HP I A L F E) = _
  refine (sg_go ht_X6_add (k := 3) (pc' := 6) (L' := [some (.ref 42), some (.int p1)]) (st' := [.int 100, .int (I 4201)]) (h' := (HP I A L F E)) rfl).trans ?_
  refine (sg_cmp ht_X6_add rfl).trans ?_
  refine ite_congr rfl (fun _ => ?_) (fun _ => ?_)
  · refine (sg_go ht_X6_add (k := 5) (pc' := 19) (L' := [some (.ref 42), some (.int p1)]) (st' := [.int p1, .int (I 4201), .ref 43]) (h' := (HP I A L F E)) rfl).trans ?_
    refine (sg_stI (hh := fun X1 => (HP I (fu A 43 X1) L F E)) ht_X6_add rfl hp_o_43 (fun _ => hp_s_43)).trans ?_
    refine bind_cg fun X1 hX1 => ?_
    refine (sg_go ht_X6_add (k := 5) (pc' := 27) (L' := [some (.ref 42), some (.int p1)]) (st' := [.int ((I 4201) + 1), .ref 42]) (h' := (HP I (fu A 43 X1) L F E)) rfl).trans ?_
    refine (sg_putI (h' := (HP (fu I 4201 ((I 4201) + 1)) (fu A 43 X1) L F E)) ht_X6_add rfl hp_o_42 (Nat.le_of_ble_eq_true rfl) hp_p_4201).trans ?_
    exact sg_ret ht_X6_add rfl rfl
  · exact sg_ret ht_X6_add rfl rfl
set_option maxRecDepth 20000 in
theorem sg_X6_takeEnd_0 {I : Nat → Int32} {A : Nat → List Int32} {L : Nat → List Int64} {F : Nat → Int64} {E : MH} (p1 : Int32) : mm_call G0 55 [.ref 42, .int p1] (HP I A L F E) = (if p1 ≠ 59 then some (some (.int (-1)), (HP I A L F E)) else (if 12 ≤ (I 4202) then some (some (.int (-1)), (HP I A L F E)) else some (some (.int 0), (HP I A L F E)))) := by
  show mm_run G0 55 0 [some (.ref 42), some (.int p1)] [] (HP I A L F E) = _
  refine (sg_go ht_X6_takeEnd (k := 2) (pc' := 3) (L' := [some (.ref 42), some (.int p1)]) (st' := [.int 59, .int p1]) (h' := (HP I A L F E)) rfl).trans ?_
  refine (sg_cmp ht_X6_takeEnd rfl).trans ?_
  refine ite_congr rfl (fun _ => ?_) (fun _ => ?_)
  · refine (sg_go ht_X6_takeEnd (k := 1) (pc' := 20) (L' := [some (.ref 42), some (.int p1)]) (st' := [.int (-1)]) (h' := (HP I A L F E)) rfl).trans ?_
    exact sg_ret ht_X6_takeEnd rfl rfl
  · refine (sg_go ht_X6_takeEnd (k := 3) (pc' := 12) (L' := [some (.ref 42), some (.int p1)]) (st' := [.int 12, .int (I 4202)]) (h' := (HP I A L F E)) rfl).trans ?_
    refine (sg_cmp ht_X6_takeEnd rfl).trans ?_
    refine ite_congr rfl (fun _ => ?_) (fun _ => ?_)
    · refine (sg_go ht_X6_takeEnd (k := 1) (pc' := 20) (L' := [some (.ref 42), some (.int p1)]) (st' := [.int (-1)]) (h' := (HP I A L F E)) rfl).trans ?_
      exact sg_ret ht_X6_takeEnd rfl rfl
    · refine (sg_go ht_X6_takeEnd (k := 2) (pc' := 20) (L' := [some (.ref 42), some (.int p1)]) (st' := [.int 0]) (h' := (HP I A L F E)) rfl).trans ?_
      exact sg_ret ht_X6_takeEnd rfl rfl
set_option maxRecDepth 20000 in
theorem sg_X6_takeDigit_0 {I : Nat → Int32} {A : Nat → List Int32} {L : Nat → List Int64} {F : Nat → Int64} {E : MH} (p1 : Int32) (p2 : Int32) : mm_call G0 54 [.ref 42, .int p1, .int p2] (HP I A L F E) = (if ¬ p1 < 48 ∧ ¬ 57 < p1 then ((ldI (A 46) ((I 4202) - 1)).bind fun x1 => (if (I 4206) = 0 then ((stI (A 46) ((I 4202) - 1) ((x1 * 10) + (p1 - 48))).bind fun X2 => some (some (.int p2), (HP I (fu A 46 X2) L F E))) else ((stI (A 46) ((I 4202) - 1) ((x1 * 10) - (p1 - 48))).bind fun X3 => some (some (.int p2), (HP I (fu A 46 X3) L F E))))) else some (some (.int (-1)), (HP I A L F E))) := by
  show mm_run G0 54 0 [some (.ref 42), some (.int p1), some (.int p2), none, none] [] (HP I A L F E) = _
  refine (sg_go ht_X6_takeDigit (k := 1) (pc' := 1) (L' := [some (.ref 42), some (.int p1), some (.int p2), none, none]) (st' := [.int p1]) (h' := (HP I A L F E)) rfl).trans ?_
  refine (sg_call ht_X6_takeDigit (mj := 57) (as := [.int p1]) (rest := []) rfl rfl ⟨by decide, Nat.le_of_ble_eq_true rfl⟩).trans ?_
  refine (bind_eq (sp_X6_isDigit p1)).trans ?_
  show mm_run G0 54 4 [some (.ref 42), some (.int p1), some (.int p2), none, none] [.int (bi (decide (¬ p1 < 48 ∧ ¬ 57 < p1)))] (HP I A L F E) = _
  refine (sg_bn ht_X6_takeDigit rfl).trans ?_
  refine ite_congr rfl (fun _ => ?_) (fun _ => ?_)
  · refine (sg_go ht_X6_takeDigit (k := 10) (pc' := 24) (L' := [some (.ref 42), some (.int p1), some (.int p2), some (.int (p1 - 48)), none]) (st' := [.int ((I 4202) - 1), .ref 46]) (h' := (HP I A L F E)) rfl).trans ?_
    refine (sg_ldI ht_X6_takeDigit rfl hp_o_46).trans ?_
    refine bind_cg fun x1 hx1 => ?_
    refine (sg_go ht_X6_takeDigit (k := 10) (pc' := 41) (L' := [some (.ref 42), some (.int p1), some (.int p2), some (.int (p1 - 48)), some (.int (x1 * 10))]) (st' := [.ref 42, .int ((I 4202) - 1), .ref 46]) (h' := (HP I A L F E)) rfl).trans ?_
    refine (sg_go ht_X6_takeDigit (k := 1) (pc' := 44) (L' := [some (.ref 42), some (.int p1), some (.int p2), some (.int (p1 - 48)), some (.int (x1 * 10))]) (st' := [.int (I 4206), .int ((I 4202) - 1), .ref 46]) (h' := (HP I A L F E)) rfl).trans ?_
    refine (sg_if ht_X6_takeDigit rfl).trans ?_
    refine ite_congr rfl (fun _ => ?_) (fun _ => ?_)
    · refine (sg_go ht_X6_takeDigit (k := 3) (pc' := 58) (L' := [some (.ref 42), some (.int p1), some (.int p2), some (.int (p1 - 48)), some (.int (x1 * 10))]) (st' := [.int ((x1 * 10) + (p1 - 48)), .int ((I 4202) - 1), .ref 46]) (h' := (HP I A L F E)) rfl).trans ?_
      refine (sg_stI (hh := fun X2 => (HP I (fu A 46 X2) L F E)) ht_X6_takeDigit rfl hp_o_46 (fun _ => hp_s_46)).trans ?_
      refine bind_cg fun X2 hX2 => ?_
      refine (sg_go ht_X6_takeDigit (k := 1) (pc' := 60) (L' := [some (.ref 42), some (.int p1), some (.int p2), some (.int (p1 - 48)), some (.int (x1 * 10))]) (st' := [.int p2]) (h' := (HP I (fu A 46 X2) L F E)) rfl).trans ?_
      exact sg_ret ht_X6_takeDigit rfl rfl
    · refine (sg_go ht_X6_takeDigit (k := 4) (pc' := 58) (L' := [some (.ref 42), some (.int p1), some (.int p2), some (.int (p1 - 48)), some (.int (x1 * 10))]) (st' := [.int ((x1 * 10) - (p1 - 48)), .int ((I 4202) - 1), .ref 46]) (h' := (HP I A L F E)) rfl).trans ?_
      refine (sg_stI (hh := fun X3 => (HP I (fu A 46 X3) L F E)) ht_X6_takeDigit rfl hp_o_46 (fun _ => hp_s_46)).trans ?_
      refine bind_cg fun X3 hX3 => ?_
      refine (sg_go ht_X6_takeDigit (k := 1) (pc' := 60) (L' := [some (.ref 42), some (.int p1), some (.int p2), some (.int (p1 - 48)), some (.int (x1 * 10))]) (st' := [.int p2]) (h' := (HP I (fu A 46 X3) L F E)) rfl).trans ?_
      exact sg_ret ht_X6_takeDigit rfl rfl
  · refine (sg_go ht_X6_takeDigit (k := 1) (pc' := 8) (L' := [some (.ref 42), some (.int p1), some (.int p2), none, none]) (st' := [.int (-1)]) (h' := (HP I A L F E)) rfl).trans ?_
    exact sg_ret ht_X6_takeDigit rfl rfl
set_option maxRecDepth 20000 in
theorem sg_X6_takeWhich_0 {I : Nat → Int32} {A : Nat → List Int32} {L : Nat → List Int64} {F : Nat → Int64} {E : MH} (p1 : Int32) : mm_call G0 53 [.ref 42, .int p1] (HP I A L F E) = (if ¬ p1 < 48 ∧ ¬ 57 < p1 then ((stI (A 45) ((I 4202) - 1) (p1 - 48)).bind fun X1 => ((ldI (A 44) ((I 4202) - 1)).bind fun x2 => (if okN x2 = true then some (some (.int 3), (HP I (fu A 45 X1) L F E)) else some (some (.int 2), (HP I (fu A 45 X1) L F E))))) else some (some (.int (-1)), (HP I A L F E))) := by
  show mm_run G0 53 0 [some (.ref 42), some (.int p1)] [] (HP I A L F E) = _
  refine (sg_go ht_X6_takeWhich (k := 1) (pc' := 1) (L' := [some (.ref 42), some (.int p1)]) (st' := [.int p1]) (h' := (HP I A L F E)) rfl).trans ?_
  refine (sg_call ht_X6_takeWhich (mj := 57) (as := [.int p1]) (rest := []) rfl rfl ⟨by decide, Nat.le_of_ble_eq_true rfl⟩).trans ?_
  refine (bind_eq (sp_X6_isDigit p1)).trans ?_
  show mm_run G0 53 4 [some (.ref 42), some (.int p1)] [.int (bi (decide (¬ p1 < 48 ∧ ¬ 57 < p1)))] (HP I A L F E) = _
  refine (sg_bn ht_X6_takeWhich rfl).trans ?_
  refine ite_congr rfl (fun _ => ?_) (fun _ => ?_)
  · refine (sg_go ht_X6_takeWhich (k := 9) (pc' := 23) (L' := [some (.ref 42), some (.int p1)]) (st' := [.int (p1 - 48), .int ((I 4202) - 1), .ref 45]) (h' := (HP I A L F E)) rfl).trans ?_
    refine (sg_stI (hh := fun X1 => (HP I (fu A 45 X1) L F E)) ht_X6_takeWhich rfl hp_o_45 (fun _ => hp_s_45)).trans ?_
    refine bind_cg fun X1 hX1 => ?_
    refine (sg_go ht_X6_takeWhich (k := 6) (pc' := 34) (L' := [some (.ref 42), some (.int p1)]) (st' := [.int ((I 4202) - 1), .ref 44]) (h' := (HP I (fu A 45 X1) L F E)) rfl).trans ?_
    refine (sg_ldI ht_X6_takeWhich rfl hp_o_44).trans ?_
    refine bind_cg fun x2 hx2 => ?_
    refine (sg_call ht_X6_takeWhich (mj := 56) (as := [.int x2]) (rest := []) rfl rfl ⟨by decide, Nat.le_of_ble_eq_true rfl⟩).trans ?_
    refine (bind_eq (sp_X6_takesNumber x2)).trans ?_
    show mm_run G0 53 38 [some (.ref 42), some (.int p1)] [.int (bi (okN x2))] (HP I (fu A 45 X1) L F E) = _
    refine (sg_beB ht_X6_takeWhich rfl).trans ?_
    refine ite_congr rfl (fun _ => ?_) (fun _ => ?_)
    · refine (sg_go ht_X6_takeWhich (k := 2) (pc' := 46) (L' := [some (.ref 42), some (.int p1)]) (st' := [.int 3]) (h' := (HP I (fu A 45 X1) L F E)) rfl).trans ?_
      exact sg_ret ht_X6_takeWhich rfl rfl
    · refine (sg_go ht_X6_takeWhich (k := 1) (pc' := 46) (L' := [some (.ref 42), some (.int p1)]) (st' := [.int 2]) (h' := (HP I (fu A 45 X1) L F E)) rfl).trans ?_
      exact sg_ret ht_X6_takeWhich rfl rfl
  · refine (sg_go ht_X6_takeWhich (k := 1) (pc' := 8) (L' := [some (.ref 42), some (.int p1)]) (st' := [.int (-1)]) (h' := (HP I A L F E)) rfl).trans ?_
    exact sg_ret ht_X6_takeWhich rfl rfl
set_option maxRecDepth 20000 in
theorem sg_X6_takeLetter_0 {I : Nat → Int32} {A : Nat → List Int32} {L : Nat → List Int64} {F : Nat → Int64} {E : MH} (p1 : Int32) : mm_call G0 52 [.ref 42, .int p1] (HP I A L F E) = (if okN p1 = true then ((stI (A 44) (I 4202) p1).bind fun X1 => ((stI (A 46) (I 4202) 0).bind fun X2 => some (some (.int 1), (HP (fu (fu I 4202 ((I 4202) + 1)) 4206 0) (fu (fu A 44 X1) 46 X2) L F E)))) else (if p1 = 107 then ((stI (A 44) (I 4202) p1).bind fun X3 => ((stI (A 46) (I 4202) 0).bind fun X4 => some (some (.int 1), (HP (fu (fu I 4202 ((I 4202) + 1)) 4206 0) (fu (fu A 44 X3) 46 X4) L F E)))) else (if p1 = 115 then ((stI (A 44) (I 4202) p1).bind fun X5 => ((stI (A 46) (I 4202) 0).bind fun X6 => some (some (.int 1), (HP (fu (fu I 4202 ((I 4202) + 1)) 4206 0) (fu (fu A 44 X5) 46 X6) L F E)))) else (if p1 = 100 then ((stI (A 44) (I 4202) p1).bind fun X7 => ((stI (A 46) (I 4202) 0).bind fun X8 => some (some (.int 1), (HP (fu (fu I 4202 ((I 4202) + 1)) 4206 0) (fu (fu A 44 X7) 46 X8) L F E)))) else some (some (.int (-1)), (HP I A L F E)))))) := by
  show mm_run G0 52 0 [some (.ref 42), some (.int p1)] [] (HP I A L F E) = _
  refine (sg_go ht_X6_takeLetter (k := 1) (pc' := 1) (L' := [some (.ref 42), some (.int p1)]) (st' := [.int p1]) (h' := (HP I A L F E)) rfl).trans ?_
  refine (sg_call ht_X6_takeLetter (mj := 56) (as := [.int p1]) (rest := []) rfl rfl ⟨by decide, Nat.le_of_ble_eq_true rfl⟩).trans ?_
  refine (bind_eq (sp_X6_takesNumber p1)).trans ?_
  show mm_run G0 52 4 [some (.ref 42), some (.int p1)] [.int (bi (okN p1))] (HP I A L F E) = _
  refine (sg_bnB ht_X6_takeLetter rfl).trans ?_
  refine ite_congr rfl (fun _ => ?_) (fun _ => ?_)
  · refine (sg_go ht_X6_takeLetter (k := 5) (pc' := 36) (L' := [some (.ref 42), some (.int p1)]) (st' := [.int p1, .int (I 4202), .ref 44]) (h' := (HP I A L F E)) rfl).trans ?_
    refine (sg_stI (hh := fun X1 => (HP I (fu A 44 X1) L F E)) ht_X6_takeLetter rfl hp_o_44 (fun _ => hp_s_44)).trans ?_
    refine bind_cg fun X1 hX1 => ?_
    refine (sg_go ht_X6_takeLetter (k := 5) (pc' := 46) (L' := [some (.ref 42), some (.int p1)]) (st' := [.int 0, .int (I 4202), .ref 46]) (h' := (HP I (fu A 44 X1) L F E)) rfl).trans ?_
    refine (sg_stI (hh := fun X2 => (HP I (fu (fu A 44 X1) 46 X2) L F E)) ht_X6_takeLetter rfl hp_o_46 (fun _ => hp_s_46)).trans ?_
    refine bind_cg fun X2 hX2 => ?_
    refine (sg_go ht_X6_takeLetter (k := 5) (pc' := 54) (L' := [some (.ref 42), some (.int p1)]) (st' := [.int ((I 4202) + 1), .ref 42]) (h' := (HP I (fu (fu A 44 X1) 46 X2) L F E)) rfl).trans ?_
    refine (sg_putI (h' := (HP (fu I 4202 ((I 4202) + 1)) (fu (fu A 44 X1) 46 X2) L F E)) ht_X6_takeLetter rfl hp_o_42 (Nat.le_of_ble_eq_true rfl) hp_p_4202).trans ?_
    refine (sg_go ht_X6_takeLetter (k := 2) (pc' := 59) (L' := [some (.ref 42), some (.int p1)]) (st' := [.int 0, .ref 42]) (h' := (HP (fu I 4202 ((I 4202) + 1)) (fu (fu A 44 X1) 46 X2) L F E)) rfl).trans ?_
    refine (sg_putZ (h' := (HP (fu (fu I 4202 ((I 4202) + 1)) 4206 0) (fu (fu A 44 X1) 46 X2) L F E)) ht_X6_takeLetter (by decide) rfl hp_o_42 (Nat.le_of_ble_eq_true rfl) hp_p_4206).trans ?_
    refine (sg_go ht_X6_takeLetter (k := 1) (pc' := 63) (L' := [some (.ref 42), some (.int p1)]) (st' := [.int 1]) (h' := (HP (fu (fu I 4202 ((I 4202) + 1)) 4206 0) (fu (fu A 44 X1) 46 X2) L F E)) rfl).trans ?_
    exact sg_ret ht_X6_takeLetter rfl rfl
  · refine (sg_go ht_X6_takeLetter (k := 2) (pc' := 10) (L' := [some (.ref 42), some (.int p1)]) (st' := [.int 107, .int p1]) (h' := (HP I A L F E)) rfl).trans ?_
    refine (sg_cmp ht_X6_takeLetter rfl).trans ?_
    refine ite_congr rfl (fun _ => ?_) (fun _ => ?_)
    · refine (sg_go ht_X6_takeLetter (k := 5) (pc' := 36) (L' := [some (.ref 42), some (.int p1)]) (st' := [.int p1, .int (I 4202), .ref 44]) (h' := (HP I A L F E)) rfl).trans ?_
      refine (sg_stI (hh := fun X3 => (HP I (fu A 44 X3) L F E)) ht_X6_takeLetter rfl hp_o_44 (fun _ => hp_s_44)).trans ?_
      refine bind_cg fun X3 hX3 => ?_
      refine (sg_go ht_X6_takeLetter (k := 5) (pc' := 46) (L' := [some (.ref 42), some (.int p1)]) (st' := [.int 0, .int (I 4202), .ref 46]) (h' := (HP I (fu A 44 X3) L F E)) rfl).trans ?_
      refine (sg_stI (hh := fun X4 => (HP I (fu (fu A 44 X3) 46 X4) L F E)) ht_X6_takeLetter rfl hp_o_46 (fun _ => hp_s_46)).trans ?_
      refine bind_cg fun X4 hX4 => ?_
      refine (sg_go ht_X6_takeLetter (k := 5) (pc' := 54) (L' := [some (.ref 42), some (.int p1)]) (st' := [.int ((I 4202) + 1), .ref 42]) (h' := (HP I (fu (fu A 44 X3) 46 X4) L F E)) rfl).trans ?_
      refine (sg_putI (h' := (HP (fu I 4202 ((I 4202) + 1)) (fu (fu A 44 X3) 46 X4) L F E)) ht_X6_takeLetter rfl hp_o_42 (Nat.le_of_ble_eq_true rfl) hp_p_4202).trans ?_
      refine (sg_go ht_X6_takeLetter (k := 2) (pc' := 59) (L' := [some (.ref 42), some (.int p1)]) (st' := [.int 0, .ref 42]) (h' := (HP (fu I 4202 ((I 4202) + 1)) (fu (fu A 44 X3) 46 X4) L F E)) rfl).trans ?_
      refine (sg_putZ (h' := (HP (fu (fu I 4202 ((I 4202) + 1)) 4206 0) (fu (fu A 44 X3) 46 X4) L F E)) ht_X6_takeLetter (by decide) rfl hp_o_42 (Nat.le_of_ble_eq_true rfl) hp_p_4206).trans ?_
      refine (sg_go ht_X6_takeLetter (k := 1) (pc' := 63) (L' := [some (.ref 42), some (.int p1)]) (st' := [.int 1]) (h' := (HP (fu (fu I 4202 ((I 4202) + 1)) 4206 0) (fu (fu A 44 X3) 46 X4) L F E)) rfl).trans ?_
      exact sg_ret ht_X6_takeLetter rfl rfl
    · refine (sg_go ht_X6_takeLetter (k := 2) (pc' := 16) (L' := [some (.ref 42), some (.int p1)]) (st' := [.int 115, .int p1]) (h' := (HP I A L F E)) rfl).trans ?_
      refine (sg_cmp ht_X6_takeLetter rfl).trans ?_
      refine ite_congr rfl (fun _ => ?_) (fun _ => ?_)
      · refine (sg_go ht_X6_takeLetter (k := 5) (pc' := 36) (L' := [some (.ref 42), some (.int p1)]) (st' := [.int p1, .int (I 4202), .ref 44]) (h' := (HP I A L F E)) rfl).trans ?_
        refine (sg_stI (hh := fun X5 => (HP I (fu A 44 X5) L F E)) ht_X6_takeLetter rfl hp_o_44 (fun _ => hp_s_44)).trans ?_
        refine bind_cg fun X5 hX5 => ?_
        refine (sg_go ht_X6_takeLetter (k := 5) (pc' := 46) (L' := [some (.ref 42), some (.int p1)]) (st' := [.int 0, .int (I 4202), .ref 46]) (h' := (HP I (fu A 44 X5) L F E)) rfl).trans ?_
        refine (sg_stI (hh := fun X6 => (HP I (fu (fu A 44 X5) 46 X6) L F E)) ht_X6_takeLetter rfl hp_o_46 (fun _ => hp_s_46)).trans ?_
        refine bind_cg fun X6 hX6 => ?_
        refine (sg_go ht_X6_takeLetter (k := 5) (pc' := 54) (L' := [some (.ref 42), some (.int p1)]) (st' := [.int ((I 4202) + 1), .ref 42]) (h' := (HP I (fu (fu A 44 X5) 46 X6) L F E)) rfl).trans ?_
        refine (sg_putI (h' := (HP (fu I 4202 ((I 4202) + 1)) (fu (fu A 44 X5) 46 X6) L F E)) ht_X6_takeLetter rfl hp_o_42 (Nat.le_of_ble_eq_true rfl) hp_p_4202).trans ?_
        refine (sg_go ht_X6_takeLetter (k := 2) (pc' := 59) (L' := [some (.ref 42), some (.int p1)]) (st' := [.int 0, .ref 42]) (h' := (HP (fu I 4202 ((I 4202) + 1)) (fu (fu A 44 X5) 46 X6) L F E)) rfl).trans ?_
        refine (sg_putZ (h' := (HP (fu (fu I 4202 ((I 4202) + 1)) 4206 0) (fu (fu A 44 X5) 46 X6) L F E)) ht_X6_takeLetter (by decide) rfl hp_o_42 (Nat.le_of_ble_eq_true rfl) hp_p_4206).trans ?_
        refine (sg_go ht_X6_takeLetter (k := 1) (pc' := 63) (L' := [some (.ref 42), some (.int p1)]) (st' := [.int 1]) (h' := (HP (fu (fu I 4202 ((I 4202) + 1)) 4206 0) (fu (fu A 44 X5) 46 X6) L F E)) rfl).trans ?_
        exact sg_ret ht_X6_takeLetter rfl rfl
      · refine (sg_go ht_X6_takeLetter (k := 2) (pc' := 22) (L' := [some (.ref 42), some (.int p1)]) (st' := [.int 100, .int p1]) (h' := (HP I A L F E)) rfl).trans ?_
        refine (sg_cmp ht_X6_takeLetter rfl).trans ?_
        refine ite_congr rfl (fun _ => ?_) (fun _ => ?_)
        · refine (sg_go ht_X6_takeLetter (k := 5) (pc' := 36) (L' := [some (.ref 42), some (.int p1)]) (st' := [.int p1, .int (I 4202), .ref 44]) (h' := (HP I A L F E)) rfl).trans ?_
          refine (sg_stI (hh := fun X7 => (HP I (fu A 44 X7) L F E)) ht_X6_takeLetter rfl hp_o_44 (fun _ => hp_s_44)).trans ?_
          refine bind_cg fun X7 hX7 => ?_
          refine (sg_go ht_X6_takeLetter (k := 5) (pc' := 46) (L' := [some (.ref 42), some (.int p1)]) (st' := [.int 0, .int (I 4202), .ref 46]) (h' := (HP I (fu A 44 X7) L F E)) rfl).trans ?_
          refine (sg_stI (hh := fun X8 => (HP I (fu (fu A 44 X7) 46 X8) L F E)) ht_X6_takeLetter rfl hp_o_46 (fun _ => hp_s_46)).trans ?_
          refine bind_cg fun X8 hX8 => ?_
          refine (sg_go ht_X6_takeLetter (k := 5) (pc' := 54) (L' := [some (.ref 42), some (.int p1)]) (st' := [.int ((I 4202) + 1), .ref 42]) (h' := (HP I (fu (fu A 44 X7) 46 X8) L F E)) rfl).trans ?_
          refine (sg_putI (h' := (HP (fu I 4202 ((I 4202) + 1)) (fu (fu A 44 X7) 46 X8) L F E)) ht_X6_takeLetter rfl hp_o_42 (Nat.le_of_ble_eq_true rfl) hp_p_4202).trans ?_
          refine (sg_go ht_X6_takeLetter (k := 2) (pc' := 59) (L' := [some (.ref 42), some (.int p1)]) (st' := [.int 0, .ref 42]) (h' := (HP (fu I 4202 ((I 4202) + 1)) (fu (fu A 44 X7) 46 X8) L F E)) rfl).trans ?_
          refine (sg_putZ (h' := (HP (fu (fu I 4202 ((I 4202) + 1)) 4206 0) (fu (fu A 44 X7) 46 X8) L F E)) ht_X6_takeLetter (by decide) rfl hp_o_42 (Nat.le_of_ble_eq_true rfl) hp_p_4206).trans ?_
          refine (sg_go ht_X6_takeLetter (k := 1) (pc' := 63) (L' := [some (.ref 42), some (.int p1)]) (st' := [.int 1]) (h' := (HP (fu (fu I 4202 ((I 4202) + 1)) 4206 0) (fu (fu A 44 X7) 46 X8) L F E)) rfl).trans ?_
          exact sg_ret ht_X6_takeLetter rfl rfl
        · refine (sg_go ht_X6_takeLetter (k := 1) (pc' := 26) (L' := [some (.ref 42), some (.int p1)]) (st' := [.int (-1)]) (h' := (HP I A L F E)) rfl).trans ?_
          exact sg_ret ht_X6_takeLetter rfl rfl
set_option maxRecDepth 20000 in
theorem sg_X6_take_0 {I : Nat → Int32} {A : Nat → List Int32} {L : Nat → List Int64} {F : Nat → Int64} {E : MH} (p1 : Int32) (p2 : Int32) : mm_call G0 51 [.ref 42, .int p1, .int p2] (HP I A L F E) = (if p1 = 0 then ((mm_call G0 52 [.ref 42, .int p2] (HP I A L F E)).bind fun q => mm_run G0 51 45 [some (.ref 42), some (.int p1), some (.int p2)] (q.1.toList ++ []) q.2) else (if p1 = 1 then ((mm_call G0 53 [.ref 42, .int p2] (HP I A L F E)).bind fun q => mm_run G0 51 51 [some (.ref 42), some (.int p1), some (.int p2)] (q.1.toList ++ []) q.2) else (if p1 = 2 then ((mm_call G0 54 [.ref 42, .int p2, .int 6] (HP I A L F E)).bind fun q => mm_run G0 51 59 [some (.ref 42), some (.int p1), some (.int p2)] (q.1.toList ++ []) q.2) else (if p1 = 3 then (if p2 ≠ 45 then ((mm_call G0 54 [.ref 42, .int p2, .int 5] (HP (fu I 4206 0) A L F E)).bind fun q => mm_run G0 51 92 [some (.ref 42), some (.int p1), some (.int p2)] (q.1.toList ++ []) q.2) else some (some (.int 4), (HP (fu I 4206 1) A L F E))) else (if p1 = 4 then ((mm_call G0 54 [.ref 42, .int p2, .int 5] (HP I A L F E)).bind fun q => mm_run G0 51 99 [some (.ref 42), some (.int p1), some (.int p2)] (q.1.toList ++ []) q.2) else (if p1 = 5 then (if ¬ p2 < 48 ∧ ¬ 57 < p2 then ((mm_call G0 54 [.ref 42, .int p2, .int 6] (HP I A L F E)).bind fun q => mm_run G0 51 114 [some (.ref 42), some (.int p1), some (.int p2)] (q.1.toList ++ []) q.2) else ((mm_call G0 55 [.ref 42, .int p2] (HP I A L F E)).bind fun q => mm_run G0 51 122 [some (.ref 42), some (.int p1), some (.int p2)] (q.1.toList ++ []) q.2)) else ((mm_call G0 55 [.ref 42, .int p2] (HP I A L F E)).bind fun q => mm_run G0 51 128 [some (.ref 42), some (.int p1), some (.int p2)] (q.1.toList ++ []) q.2))))))) := by
  show mm_run G0 51 0 [some (.ref 42), some (.int p1), some (.int p2)] [] (HP I A L F E) = _
  refine (sg_go ht_X6_take (k := 1) (pc' := 1) (L' := [some (.ref 42), some (.int p1), some (.int p2)]) (st' := [.int p1]) (h' := (HP I A L F E)) rfl).trans ?_
  refine (sg_sw ht_X6_take rfl).trans ?_
  rw [swt_cons (k := 0) (lo' := 1) (by decide) (by decide), run_ite]
  refine ite_congr rfl (fun _ => ?_) (fun _ => ?_)
  · refine (sg_go ht_X6_take (k := 2) (pc' := 42) (L' := [some (.ref 42), some (.int p1), some (.int p2)]) (st' := [.int p2, .ref 42]) (h' := (HP I A L F E)) rfl).trans ?_
    refine (sg_call ht_X6_take (mj := 52) (as := [.ref 42, .int p2]) (rest := []) rfl rfl ⟨by decide, Nat.le_of_ble_eq_true rfl⟩).trans ?_
    rfl
  · rw [swt_cons (k := 1) (lo' := 2) (by decide) (by decide), run_ite]
    refine ite_congr rfl (fun _ => ?_) (fun _ => ?_)
    · refine (sg_go ht_X6_take (k := 2) (pc' := 48) (L' := [some (.ref 42), some (.int p1), some (.int p2)]) (st' := [.int p2, .ref 42]) (h' := (HP I A L F E)) rfl).trans ?_
      refine (sg_call ht_X6_take (mj := 53) (as := [.ref 42, .int p2]) (rest := []) rfl rfl ⟨by decide, Nat.le_of_ble_eq_true rfl⟩).trans ?_
      rfl
    · rw [swt_cons (k := 2) (lo' := 3) (by decide) (by decide), run_ite]
      refine ite_congr rfl (fun _ => ?_) (fun _ => ?_)
      · refine (sg_go ht_X6_take (k := 3) (pc' := 56) (L' := [some (.ref 42), some (.int p1), some (.int p2)]) (st' := [.int 6, .int p2, .ref 42]) (h' := (HP I A L F E)) rfl).trans ?_
        refine (sg_call ht_X6_take (mj := 54) (as := [.ref 42, .int p2, .int 6]) (rest := []) rfl rfl ⟨by decide, Nat.le_of_ble_eq_true rfl⟩).trans ?_
        rfl
      · rw [swt_cons (k := 3) (lo' := 4) (by decide) (by decide), run_ite]
        refine ite_congr rfl (fun _ => ?_) (fun _ => ?_)
        · refine (sg_go ht_X6_take (k := 3) (pc' := 64) (L' := [some (.ref 42), some (.int p1), some (.int p2)]) (st' := [.int 45, .int p2, .ref 42]) (h' := (HP I A L F E)) rfl).trans ?_
          refine (sg_cmp ht_X6_take rfl).trans ?_
          refine ite_congr rfl (fun _ => ?_) (fun _ => ?_)
          · refine (sg_go ht_X6_take (k := 1) (pc' := 72) (L' := [some (.ref 42), some (.int p1), some (.int p2)]) (st' := [.int 0, .ref 42]) (h' := (HP I A L F E)) rfl).trans ?_
            refine (sg_putZ (h' := (HP (fu I 4206 0) A L F E)) ht_X6_take (by decide) rfl hp_o_42 (Nat.le_of_ble_eq_true rfl) hp_p_4206).trans ?_
            refine (sg_go ht_X6_take (k := 6) (pc' := 89) (L' := [some (.ref 42), some (.int p1), some (.int p2)]) (st' := [.int 5, .int p2, .ref 42]) (h' := (HP (fu I 4206 0) A L F E)) rfl).trans ?_
            refine (sg_call ht_X6_take (mj := 54) (as := [.ref 42, .int p2, .int 5]) (rest := []) rfl rfl ⟨by decide, Nat.le_of_ble_eq_true rfl⟩).trans ?_
            rfl
          · refine (sg_go ht_X6_take (k := 2) (pc' := 72) (L' := [some (.ref 42), some (.int p1), some (.int p2)]) (st' := [.int 1, .ref 42]) (h' := (HP I A L F E)) rfl).trans ?_
            refine (sg_putZ (h' := (HP (fu I 4206 1) A L F E)) ht_X6_take (by decide) rfl hp_o_42 (Nat.le_of_ble_eq_true rfl) hp_p_4206).trans ?_
            refine (sg_go ht_X6_take (k := 5) (pc' := 92) (L' := [some (.ref 42), some (.int p1), some (.int p2)]) (st' := [.int 4]) (h' := (HP (fu I 4206 1) A L F E)) rfl).trans ?_
            exact sg_ret ht_X6_take rfl rfl
        · rw [swt_cons (k := 4) (lo' := 5) (by decide) (by decide), run_ite]
          refine ite_congr rfl (fun _ => ?_) (fun _ => ?_)
          · refine (sg_go ht_X6_take (k := 3) (pc' := 96) (L' := [some (.ref 42), some (.int p1), some (.int p2)]) (st' := [.int 5, .int p2, .ref 42]) (h' := (HP I A L F E)) rfl).trans ?_
            refine (sg_call ht_X6_take (mj := 54) (as := [.ref 42, .int p2, .int 5]) (rest := []) rfl rfl ⟨by decide, Nat.le_of_ble_eq_true rfl⟩).trans ?_
            rfl
          · rw [swt_cons (k := 5) (lo' := 6) (by decide) (by decide), run_ite]
            refine ite_congr rfl (fun _ => ?_) (fun _ => ?_)
            · refine (sg_go ht_X6_take (k := 1) (pc' := 101) (L' := [some (.ref 42), some (.int p1), some (.int p2)]) (st' := [.int p2]) (h' := (HP I A L F E)) rfl).trans ?_
              refine (sg_call ht_X6_take (mj := 57) (as := [.int p2]) (rest := []) rfl rfl ⟨by decide, Nat.le_of_ble_eq_true rfl⟩).trans ?_
              refine (bind_eq (sp_X6_isDigit p2)).trans ?_
              show mm_run G0 51 104 [some (.ref 42), some (.int p1), some (.int p2)] [.int (bi (decide (¬ p2 < 48 ∧ ¬ 57 < p2)))] (HP I A L F E) = _
              refine (sg_be ht_X6_take rfl).trans ?_
              refine ite_congr rfl (fun _ => ?_) (fun _ => ?_)
              · refine (sg_go ht_X6_take (k := 3) (pc' := 111) (L' := [some (.ref 42), some (.int p1), some (.int p2)]) (st' := [.int 6, .int p2, .ref 42]) (h' := (HP I A L F E)) rfl).trans ?_
                refine (sg_call ht_X6_take (mj := 54) (as := [.ref 42, .int p2, .int 6]) (rest := []) rfl rfl ⟨by decide, Nat.le_of_ble_eq_true rfl⟩).trans ?_
                rfl
              · refine (sg_go ht_X6_take (k := 2) (pc' := 119) (L' := [some (.ref 42), some (.int p1), some (.int p2)]) (st' := [.int p2, .ref 42]) (h' := (HP I A L F E)) rfl).trans ?_
                refine (sg_call ht_X6_take (mj := 55) (as := [.ref 42, .int p2]) (rest := []) rfl rfl ⟨by decide, Nat.le_of_ble_eq_true rfl⟩).trans ?_
                rfl
            · rw [swt_nil]
              refine (sg_go ht_X6_take (k := 2) (pc' := 125) (L' := [some (.ref 42), some (.int p1), some (.int p2)]) (st' := [.int p2, .ref 42]) (h' := (HP I A L F E)) rfl).trans ?_
              refine (sg_call ht_X6_take (mj := 55) (as := [.ref 42, .int p2]) (rest := []) rfl rfl ⟨by decide, Nat.le_of_ble_eq_true rfl⟩).trans ?_
              rfl
set_option maxRecDepth 20000 in
theorem sg_X6_take_45 {I : Nat → Int32} {A : Nat → List Int32} {L : Nat → List Int64} {F : Nat → Int64} {E : MH} (v1 : Int32) (v2 : Int32) (s0 : Int32) : mm_run G0 51 45 [some (.ref 42), some (.int v1), some (.int v2)] [.int s0] (HP I A L F E) = some (some (.int s0), (HP I A L F E)) := by
  exact sg_ret ht_X6_take rfl rfl
set_option maxRecDepth 20000 in
theorem sg_X6_take_51 {I : Nat → Int32} {A : Nat → List Int32} {L : Nat → List Int64} {F : Nat → Int64} {E : MH} (v1 : Int32) (v2 : Int32) (s0 : Int32) : mm_run G0 51 51 [some (.ref 42), some (.int v1), some (.int v2)] [.int s0] (HP I A L F E) = some (some (.int s0), (HP I A L F E)) := by
  exact sg_ret ht_X6_take rfl rfl
set_option maxRecDepth 20000 in
theorem sg_X6_take_59 {I : Nat → Int32} {A : Nat → List Int32} {L : Nat → List Int64} {F : Nat → Int64} {E : MH} (v1 : Int32) (v2 : Int32) (s0 : Int32) : mm_run G0 51 59 [some (.ref 42), some (.int v1), some (.int v2)] [.int s0] (HP I A L F E) = some (some (.int s0), (HP I A L F E)) := by
  exact sg_ret ht_X6_take rfl rfl
set_option maxRecDepth 20000 in
theorem sg_X6_take_92 {I : Nat → Int32} {A : Nat → List Int32} {L : Nat → List Int64} {F : Nat → Int64} {E : MH} (v1 : Int32) (v2 : Int32) (s0 : Int32) : mm_run G0 51 92 [some (.ref 42), some (.int v1), some (.int v2)] [.int s0] (HP I A L F E) = some (some (.int s0), (HP I A L F E)) := by
  exact sg_ret ht_X6_take rfl rfl
set_option maxRecDepth 20000 in
theorem sg_X6_take_99 {I : Nat → Int32} {A : Nat → List Int32} {L : Nat → List Int64} {F : Nat → Int64} {E : MH} (v1 : Int32) (v2 : Int32) (s0 : Int32) : mm_run G0 51 99 [some (.ref 42), some (.int v1), some (.int v2)] [.int s0] (HP I A L F E) = some (some (.int s0), (HP I A L F E)) := by
  exact sg_ret ht_X6_take rfl rfl
set_option maxRecDepth 20000 in
theorem sg_X6_take_114 {I : Nat → Int32} {A : Nat → List Int32} {L : Nat → List Int64} {F : Nat → Int64} {E : MH} (v1 : Int32) (v2 : Int32) (s0 : Int32) : mm_run G0 51 114 [some (.ref 42), some (.int v1), some (.int v2)] [.int s0] (HP I A L F E) = some (some (.int s0), (HP I A L F E)) := by
  refine (sg_go ht_X6_take (k := 1) (pc' := 122) (L' := [some (.ref 42), some (.int v1), some (.int v2)]) (st' := [.int s0]) (h' := (HP I A L F E)) rfl).trans ?_
  exact sg_ret ht_X6_take rfl rfl
set_option maxRecDepth 20000 in
theorem sg_X6_take_122 {I : Nat → Int32} {A : Nat → List Int32} {L : Nat → List Int64} {F : Nat → Int64} {E : MH} (v1 : Int32) (v2 : Int32) (s0 : Int32) : mm_run G0 51 122 [some (.ref 42), some (.int v1), some (.int v2)] [.int s0] (HP I A L F E) = some (some (.int s0), (HP I A L F E)) := by
  exact sg_ret ht_X6_take rfl rfl
set_option maxRecDepth 20000 in
theorem sg_X6_take_128 {I : Nat → Int32} {A : Nat → List Int32} {L : Nat → List Int64} {F : Nat → Int64} {E : MH} (v1 : Int32) (v2 : Int32) (s0 : Int32) : mm_run G0 51 128 [some (.ref 42), some (.int v1), some (.int v2)] [.int s0] (HP I A L F E) = some (some (.int s0), (HP I A L F E)) := by
  exact sg_ret ht_X6_take rfl rfl
set_option maxRecDepth 20000 in
theorem sg_X6_fault_0 {I : Nat → Int32} {A : Nat → List Int32} {L : Nat → List Int64} {F : Nat → Int64} {E : MH}  : mm_call G0 50 [.ref 42] (HP I A L F E) = mm_run G0 50 9 [some (.ref 42), some (.int 0), some (.int 0)] [] (HP (fu I 4202 0) A L F E) := by
  show mm_run G0 50 0 [some (.ref 42), none, none] [] (HP I A L F E) = _
  refine (sg_go ht_X6_fault (k := 2) (pc' := 2) (L' := [some (.ref 42), none, none]) (st' := [.int 0, .ref 42]) (h' := (HP I A L F E)) rfl).trans ?_
  refine (sg_putI (h' := (HP (fu I 4202 0) A L F E)) ht_X6_fault rfl hp_o_42 (Nat.le_of_ble_eq_true rfl) hp_p_4202).trans ?_
  refine (sg_go ht_X6_fault (k := 4) (pc' := 9) (L' := [some (.ref 42), some (.int 0), some (.int 0)]) (st' := []) (h' := (HP (fu I 4202 0) A L F E)) rfl).trans ?_
  rfl
set_option maxRecDepth 20000 in
theorem sg_X6_fault_9 {I : Nat → Int32} {A : Nat → List Int32} {L : Nat → List Int64} {F : Nat → Int64} {E : MH} (v1 : Int32) (v2 : Int32) : mm_run G0 50 9 [some (.ref 42), some (.int v1), some (.int v2)] [] (HP I A L F E) = (if (I 4201) ≤ v2 then (if v1 = 5 then some (some (.int (-1)), (HP I A L F E)) else (if v1 ≠ 6 then some (some (.int (I 4201)), (HP I A L F E)) else some (some (.int (-1)), (HP I A L F E)))) else ((ldI (A 43) v2).bind fun x1 => ((mm_call G0 51 [.ref 42, .int v1, .int x1] (HP I A L F E)).bind fun q => mm_run G0 50 28 [some (.ref 42), some (.int v1), some (.int v2)] (q.1.toList ++ []) q.2))) := by
  refine (sg_go ht_X6_fault (k := 3) (pc' := 14) (L' := [some (.ref 42), some (.int v1), some (.int v2)]) (st' := [.int (I 4201), .int v2]) (h' := (HP I A L F E)) rfl).trans ?_
  refine (sg_cmp ht_X6_fault rfl).trans ?_
  refine ite_congr rfl (fun _ => ?_) (fun _ => ?_)
  · refine (sg_go ht_X6_fault (k := 2) (pc' := 44) (L' := [some (.ref 42), some (.int v1), some (.int v2)]) (st' := [.int 5, .int v1]) (h' := (HP I A L F E)) rfl).trans ?_
    refine (sg_cmp ht_X6_fault rfl).trans ?_
    refine ite_congr rfl (fun _ => ?_) (fun _ => ?_)
    · refine (sg_go ht_X6_fault (k := 2) (pc' := 61) (L' := [some (.ref 42), some (.int v1), some (.int v2)]) (st' := [.int (-1)]) (h' := (HP I A L F E)) rfl).trans ?_
      exact sg_ret ht_X6_fault rfl rfl
    · refine (sg_go ht_X6_fault (k := 2) (pc' := 50) (L' := [some (.ref 42), some (.int v1), some (.int v2)]) (st' := [.int 6, .int v1]) (h' := (HP I A L F E)) rfl).trans ?_
      refine (sg_cmp ht_X6_fault rfl).trans ?_
      refine ite_congr rfl (fun _ => ?_) (fun _ => ?_)
      · refine (sg_go ht_X6_fault (k := 2) (pc' := 61) (L' := [some (.ref 42), some (.int v1), some (.int v2)]) (st' := [.int (I 4201)]) (h' := (HP I A L F E)) rfl).trans ?_
        exact sg_ret ht_X6_fault rfl rfl
      · refine (sg_go ht_X6_fault (k := 2) (pc' := 61) (L' := [some (.ref 42), some (.int v1), some (.int v2)]) (st' := [.int (-1)]) (h' := (HP I A L F E)) rfl).trans ?_
        exact sg_ret ht_X6_fault rfl rfl
  · refine (sg_go ht_X6_fault (k := 5) (pc' := 24) (L' := [some (.ref 42), some (.int v1), some (.int v2)]) (st' := [.int v2, .ref 43, .int v1, .ref 42]) (h' := (HP I A L F E)) rfl).trans ?_
    refine (sg_ldI ht_X6_fault rfl hp_o_43).trans ?_
    refine bind_cg fun x1 hx1 => ?_
    refine (sg_call ht_X6_fault (mj := 51) (as := [.ref 42, .int v1, .int x1]) (rest := []) rfl rfl ⟨by decide, Nat.le_of_ble_eq_true rfl⟩).trans ?_
    rfl
set_option maxRecDepth 20000 in
theorem sg_X6_fault_28 {I : Nat → Int32} {A : Nat → List Int32} {L : Nat → List Int64} {F : Nat → Int64} {E : MH} (v1 : Int32) (v2 : Int32) (s0 : Int32) : mm_run G0 50 28 [some (.ref 42), some (.int v1), some (.int v2)] [.int s0] (HP I A L F E) = (if s0 ≠ (-1) then mm_run G0 50 9 [some (.ref 42), some (.int s0), some (.int (v2 + 1))] [] (HP I A L F E) else some (some (.int v2), (HP I A L F E))) := by
  refine (sg_go ht_X6_fault (k := 3) (pc' := 31) (L' := [some (.ref 42), some (.int s0), some (.int v2)]) (st' := [.int (-1), .int s0]) (h' := (HP I A L F E)) rfl).trans ?_
  refine (sg_cmp ht_X6_fault rfl).trans ?_
  refine ite_congr rfl (fun _ => ?_) (fun _ => ?_)
  · refine (sg_go ht_X6_fault (k := 2) (pc' := 9) (L' := [some (.ref 42), some (.int s0), some (.int (v2 + 1))]) (st' := []) (h' := (HP I A L F E)) rfl).trans ?_
    rfl
  · refine (sg_go ht_X6_fault (k := 1) (pc' := 35) (L' := [some (.ref 42), some (.int s0), some (.int v2)]) (st' := [.int v2]) (h' := (HP I A L F E)) rfl).trans ?_
    exact sg_ret ht_X6_fault rfl rfl
set_option maxRecDepth 20000 in
theorem sg_X0_lay_0 {I : Nat → Int32} {A : Nat → List Int32} {L : Nat → List Int64} {F : Nat → Int64} {E : MH} (p1 : Int32) (p2 : Int32) : mm_call G0 2 [.ref 54, .int p1, .int p2, .ref 4] (HP I A L F E) = mm_run G0 2 18 [some (.ref 54), some (.int p1), some (.int p2), some (.ref 4), some (.int 0)] [] (HP (fu (fu (fu I 5400 p1) 5401 p2) 5403 0) A L F E) := by
  show mm_run G0 2 0 [some (.ref 54), some (.int p1), some (.int p2), some (.ref 4), none] [] (HP I A L F E) = _
  refine (sg_go ht_X0_lay (k := 2) (pc' := 2) (L' := [some (.ref 54), some (.int p1), some (.int p2), some (.ref 4), none]) (st' := [.int p1, .ref 54]) (h' := (HP I A L F E)) rfl).trans ?_
  refine (sg_putI (h' := (HP (fu I 5400 p1) A L F E)) ht_X0_lay rfl hp_o_54 (Nat.le_of_ble_eq_true rfl) hp_p_5400).trans ?_
  refine (sg_go ht_X0_lay (k := 2) (pc' := 7) (L' := [some (.ref 54), some (.int p1), some (.int p2), some (.ref 4), none]) (st' := [.int p2, .ref 54]) (h' := (HP (fu I 5400 p1) A L F E)) rfl).trans ?_
  refine (sg_putI (h' := (HP (fu (fu I 5400 p1) 5401 p2) A L F E)) ht_X0_lay rfl hp_o_54 (Nat.le_of_ble_eq_true rfl) hp_p_5401).trans ?_
  refine (sg_go ht_X0_lay (k := 2) (pc' := 12) (L' := [some (.ref 54), some (.int p1), some (.int p2), some (.ref 4), none]) (st' := [.int 0, .ref 54]) (h' := (HP (fu (fu I 5400 p1) 5401 p2) A L F E)) rfl).trans ?_
  refine (sg_putI (h' := (HP (fu (fu (fu I 5400 p1) 5401 p2) 5403 0) A L F E)) ht_X0_lay rfl hp_o_54 (Nat.le_of_ble_eq_true rfl) hp_p_5403).trans ?_
  refine (sg_go ht_X0_lay (k := 2) (pc' := 18) (L' := [some (.ref 54), some (.int p1), some (.int p2), some (.ref 4), some (.int 0)]) (st' := []) (h' := (HP (fu (fu (fu I 5400 p1) 5401 p2) 5403 0) A L F E)) rfl).trans ?_
  rfl
set_option maxRecDepth 20000 in
theorem sg_X0_lay_18 {I : Nat → Int32} {A : Nat → List Int32} {L : Nat → List Int64} {F : Nat → Int64} {E : MH} (v1 : Int32) (v2 : Int32) (v4 : Int32) : mm_run G0 2 18 [some (.ref 54), some (.int v1), some (.int v2), some (.ref 4), some (.int v4)] [] (HP I A L F E) = (if 5 ≤ v4 then some (none, (HP I A L F E)) else ((ldI (A 4) v4).bind fun x1 => ((stI (A 55) v4 x1).bind fun X2 => ((ldI X2 v4).bind fun x3 => mm_run G0 2 18 [some (.ref 54), some (.int v1), some (.int v2), some (.ref 4), some (.int (v4 + 1))] [] (HP (fu I 5403 ((I 5403) + x3)) (fu A 55 X2) L F E))))) := by
  refine (sg_go ht_X0_lay (k := 2) (pc' := 21) (L' := [some (.ref 54), some (.int v1), some (.int v2), some (.ref 4), some (.int v4)]) (st' := [.int 5, .int v4]) (h' := (HP I A L F E)) rfl).trans ?_
  refine (sg_cmp ht_X0_lay rfl).trans ?_
  refine ite_congr rfl (fun _ => ?_) (fun _ => ?_)
  · exact sg_ret ht_X0_lay rfl rfl
  · refine (sg_go ht_X0_lay (k := 5) (pc' := 33) (L' := [some (.ref 54), some (.int v1), some (.int v2), some (.ref 4), some (.int v4)]) (st' := [.int v4, .ref 4, .int v4, .ref 55]) (h' := (HP I A L F E)) rfl).trans ?_
    refine (sg_ldI ht_X0_lay rfl hp_o_4).trans ?_
    refine bind_cg fun x1 hx1 => ?_
    refine (sg_stI (hh := fun X2 => (HP I (fu A 55 X2) L F E)) ht_X0_lay rfl hp_o_55 (fun _ => hp_s_55)).trans ?_
    refine bind_cg fun X2 hX2 => ?_
    refine (sg_go ht_X0_lay (k := 6) (pc' := 46) (L' := [some (.ref 54), some (.int v1), some (.int v2), some (.ref 4), some (.int v4)]) (st' := [.int v4, .ref 55, .int (I 5403), .ref 54]) (h' := (HP I (fu A 55 X2) L F E)) rfl).trans ?_
    refine (sg_ldI ht_X0_lay rfl hp_o_55).trans ?_
    refine bind_cg fun x3 hx3 => ?_
    refine (sg_go ht_X0_lay (k := 1) (pc' := 48) (L' := [some (.ref 54), some (.int v1), some (.int v2), some (.ref 4), some (.int v4)]) (st' := [.int ((I 5403) + x3), .ref 54]) (h' := (HP I (fu A 55 X2) L F E)) rfl).trans ?_
    refine (sg_putI (h' := (HP (fu I 5403 ((I 5403) + x3)) (fu A 55 X2) L F E)) ht_X0_lay rfl hp_o_54 (Nat.le_of_ble_eq_true rfl) hp_p_5403).trans ?_
    refine (sg_go ht_X0_lay (k := 2) (pc' := 18) (L' := [some (.ref 54), some (.int v1), some (.int v2), some (.ref 4), some (.int (v4 + 1))]) (st' := []) (h' := (HP (fu I 5403 ((I 5403) + x3)) (fu A 55 X2) L F E)) rfl).trans ?_
    rfl
set_option maxRecDepth 20000 in
theorem sg_X0_next_0 {I : Nat → Int32} {A : Nat → List Int32} {L : Nat → List Int64} {F : Nat → Int64} {E : MH} (p1 : Int32) (p2 : Int32) : mm_call G0 3 [.ref 54, .int p1, .int p2] (HP I A L F E) = some (some (.int (imin (I 5401) (imax 0 (((p1 + p2) - 2) - (I 5400))))), (HP I A L F E)) := by
  show mm_run G0 3 0 [some (.ref 54), some (.int p1), some (.int p2)] [] (HP I A L F E) = _
  refine (sg_go ht_X0_next (k := 10) (pc' := 14) (L' := [some (.ref 54), some (.int p1), some (.int p2)]) (st' := [.int (I 5400), .int ((p1 + p2) - 2), .int 0, .int (I 5401)]) (h' := (HP I A L F E)) rfl).trans ?_
  refine (sg_go ht_X0_next (k := 3) (pc' := 21) (L' := [some (.ref 54), some (.int p1), some (.int p2)]) (st' := [.int (imin (I 5401) (imax 0 (((p1 + p2) - 2) - (I 5400))))]) (h' := (HP I A L F E)) rfl).trans ?_
  exact sg_ret ht_X0_next rfl rfl
set_option maxRecDepth 20000 in
theorem sg_X0_walkOneStep_0 {I : Nat → Int32} {A : Nat → List Int32} {L : Nat → List Int64} {F : Nat → Int64} {E : MH}  : mm_call G0 5 [.ref 54] (HP I A L F E) = mm_run G0 5 2 [some (.ref 54), some (.int 0), none, none, none, none] [] (HP I A L F E) := by
  show mm_run G0 5 0 [some (.ref 54), none, none, none, none, none] [] (HP I A L F E) = _
  refine (sg_go ht_X0_walkOneStep (k := 2) (pc' := 2) (L' := [some (.ref 54), some (.int 0), none, none, none, none]) (st' := []) (h' := (HP I A L F E)) rfl).trans ?_
  rfl
set_option maxRecDepth 20000 in
theorem sg_X0_walkOneStep_2 {I : Nat → Int32} {A : Nat → List Int32} {L : Nat → List Int64} {F : Nat → Int64} {E : MH} (v1 : Int32) : mm_run G0 5 2 [some (.ref 54), some (.int v1), none, none, none, none] [] (HP I A L F E) = (if (I 5401) ≤ v1 then mm_run G0 5 25 [some (.ref 54), some (.int 0), none, none, none, none] [] (HP I A L F E) else ((stL (L 57) v1 0).bind fun X1 => mm_run G0 5 2 [some (.ref 54), some (.int (v1 + 1)), none, none, none, none] [] (HP I A (fu L 57 X1) F E))) := by
  refine (sg_go ht_X0_walkOneStep (k := 3) (pc' := 7) (L' := [some (.ref 54), some (.int v1), none, none, none, none]) (st' := [.int (I 5401), .int v1]) (h' := (HP I A L F E)) rfl).trans ?_
  refine (sg_cmp ht_X0_walkOneStep rfl).trans ?_
  refine ite_congr rfl (fun _ => ?_) (fun _ => ?_)
  · refine (sg_go ht_X0_walkOneStep (k := 2) (pc' := 25) (L' := [some (.ref 54), some (.int 0), none, none, none, none]) (st' := []) (h' := (HP I A L F E)) rfl).trans ?_
    rfl
  · refine (sg_go ht_X0_walkOneStep (k := 4) (pc' := 16) (L' := [some (.ref 54), some (.int v1), none, none, none, none]) (st' := [.long 0, .int v1, .ref 57]) (h' := (HP I A L F E)) rfl).trans ?_
    refine (sg_stL (hh := fun X1 => (HP I A (fu L 57 X1) F E)) ht_X0_walkOneStep rfl hp_o_57 (fun _ => hp_s_57)).trans ?_
    refine bind_cg fun X1 hX1 => ?_
    refine (sg_go ht_X0_walkOneStep (k := 2) (pc' := 2) (L' := [some (.ref 54), some (.int (v1 + 1)), none, none, none, none]) (st' := []) (h' := (HP I A (fu L 57 X1) F E)) rfl).trans ?_
    rfl
set_option maxRecDepth 20000 in
theorem sg_X0_walkOneStep_25_v000 {I : Nat → Int32} {A : Nat → List Int32} {L : Nat → List Int64} {F : Nat → Int64} {E : MH} (v1 : Int32) : mm_run G0 5 25 [some (.ref 54), some (.int v1), none, none, none, none] [] (HP I A L F E) = (if (I 5401) ≤ v1 then ((cpL (L 57) (L 56) 0 0 6).bind fun X1 => some (none, (HP I A (fu L 56 X1) F E))) else mm_run G0 5 35 [some (.ref 54), some (.int v1), some (.int 0), none, none, none] [] (HP I A L F E)) := by
  refine (sg_go ht_X0_walkOneStep (k := 3) (pc' := 30) (L' := [some (.ref 54), some (.int v1), none, none, none, none]) (st' := [.int (I 5401), .int v1]) (h' := (HP I A L F E)) rfl).trans ?_
  refine (sg_cmp ht_X0_walkOneStep rfl).trans ?_
  refine ite_congr rfl (fun _ => ?_) (fun _ => ?_)
  · refine (sg_go ht_X0_walkOneStep (k := 7) (pc' := 120) (L' := [some (.ref 54), some (.int v1), none, none, none, none]) (st' := [.int 6, .int 0, .ref 56, .int 0, .ref 57]) (h' := (HP I A L F E)) rfl).trans ?_
    refine (sg_cpL (hh := fun X1 => (HP I A (fu L 56 X1) F E)) ht_X0_walkOneStep (Nat.le_of_ble_eq_true rfl) rfl hp_o_57 hp_o_56 (fun _ => hp_s_56)).trans ?_
    refine bind_cg fun X1 hX1 => ?_
    exact sg_ret ht_X0_walkOneStep rfl rfl
  · refine (sg_go ht_X0_walkOneStep (k := 2) (pc' := 35) (L' := [some (.ref 54), some (.int v1), some (.int 0), none, none, none]) (st' := []) (h' := (HP I A L F E)) rfl).trans ?_
    rfl
set_option maxRecDepth 20000 in
theorem sg_X0_walkOneStep_25_v001 {I : Nat → Int32} {A : Nat → List Int32} {L : Nat → List Int64} {F : Nat → Int64} {E : MH} (v1 : Int32) (o4 : Int64) : mm_run G0 5 25 [some (.ref 54), some (.int v1), none, none, some (.long o4), none] [] (HP I A L F E) = (if (I 5401) ≤ v1 then ((cpL (L 57) (L 56) 0 0 6).bind fun X1 => some (none, (HP I A (fu L 56 X1) F E))) else mm_run G0 5 35 [some (.ref 54), some (.int v1), some (.int 0), none, some (.long o4), none] [] (HP I A L F E)) := by
  refine (sg_go ht_X0_walkOneStep (k := 3) (pc' := 30) (L' := [some (.ref 54), some (.int v1), none, none, some (.long o4), none]) (st' := [.int (I 5401), .int v1]) (h' := (HP I A L F E)) rfl).trans ?_
  refine (sg_cmp ht_X0_walkOneStep rfl).trans ?_
  refine ite_congr rfl (fun _ => ?_) (fun _ => ?_)
  · refine (sg_go ht_X0_walkOneStep (k := 7) (pc' := 120) (L' := [some (.ref 54), some (.int v1), none, none, some (.long o4), none]) (st' := [.int 6, .int 0, .ref 56, .int 0, .ref 57]) (h' := (HP I A L F E)) rfl).trans ?_
    refine (sg_cpL (hh := fun X1 => (HP I A (fu L 56 X1) F E)) ht_X0_walkOneStep (Nat.le_of_ble_eq_true rfl) rfl hp_o_57 hp_o_56 (fun _ => hp_s_56)).trans ?_
    refine bind_cg fun X1 hX1 => ?_
    exact sg_ret ht_X0_walkOneStep rfl rfl
  · refine (sg_go ht_X0_walkOneStep (k := 2) (pc' := 35) (L' := [some (.ref 54), some (.int v1), some (.int 0), none, some (.long o4), none]) (st' := []) (h' := (HP I A L F E)) rfl).trans ?_
    rfl
set_option maxRecDepth 20000 in
theorem sg_X0_walkOneStep_25_v010 {I : Nat → Int32} {A : Nat → List Int32} {L : Nat → List Int64} {F : Nat → Int64} {E : MH} (v1 : Int32) (o3 : Int32) : mm_run G0 5 25 [some (.ref 54), some (.int v1), none, some (.int o3), none, none] [] (HP I A L F E) = (if (I 5401) ≤ v1 then ((cpL (L 57) (L 56) 0 0 6).bind fun X1 => some (none, (HP I A (fu L 56 X1) F E))) else mm_run G0 5 35 [some (.ref 54), some (.int v1), some (.int 0), some (.int o3), none, none] [] (HP I A L F E)) := by
  refine (sg_go ht_X0_walkOneStep (k := 3) (pc' := 30) (L' := [some (.ref 54), some (.int v1), none, some (.int o3), none, none]) (st' := [.int (I 5401), .int v1]) (h' := (HP I A L F E)) rfl).trans ?_
  refine (sg_cmp ht_X0_walkOneStep rfl).trans ?_
  refine ite_congr rfl (fun _ => ?_) (fun _ => ?_)
  · refine (sg_go ht_X0_walkOneStep (k := 7) (pc' := 120) (L' := [some (.ref 54), some (.int v1), none, some (.int o3), none, none]) (st' := [.int 6, .int 0, .ref 56, .int 0, .ref 57]) (h' := (HP I A L F E)) rfl).trans ?_
    refine (sg_cpL (hh := fun X1 => (HP I A (fu L 56 X1) F E)) ht_X0_walkOneStep (Nat.le_of_ble_eq_true rfl) rfl hp_o_57 hp_o_56 (fun _ => hp_s_56)).trans ?_
    refine bind_cg fun X1 hX1 => ?_
    exact sg_ret ht_X0_walkOneStep rfl rfl
  · refine (sg_go ht_X0_walkOneStep (k := 2) (pc' := 35) (L' := [some (.ref 54), some (.int v1), some (.int 0), some (.int o3), none, none]) (st' := []) (h' := (HP I A L F E)) rfl).trans ?_
    rfl
set_option maxRecDepth 20000 in
theorem sg_X0_walkOneStep_25_v011 {I : Nat → Int32} {A : Nat → List Int32} {L : Nat → List Int64} {F : Nat → Int64} {E : MH} (v1 : Int32) (o3 : Int32) (o4 : Int64) : mm_run G0 5 25 [some (.ref 54), some (.int v1), none, some (.int o3), some (.long o4), none] [] (HP I A L F E) = (if (I 5401) ≤ v1 then ((cpL (L 57) (L 56) 0 0 6).bind fun X1 => some (none, (HP I A (fu L 56 X1) F E))) else mm_run G0 5 35 [some (.ref 54), some (.int v1), some (.int 0), some (.int o3), some (.long o4), none] [] (HP I A L F E)) := by
  refine (sg_go ht_X0_walkOneStep (k := 3) (pc' := 30) (L' := [some (.ref 54), some (.int v1), none, some (.int o3), some (.long o4), none]) (st' := [.int (I 5401), .int v1]) (h' := (HP I A L F E)) rfl).trans ?_
  refine (sg_cmp ht_X0_walkOneStep rfl).trans ?_
  refine ite_congr rfl (fun _ => ?_) (fun _ => ?_)
  · refine (sg_go ht_X0_walkOneStep (k := 7) (pc' := 120) (L' := [some (.ref 54), some (.int v1), none, some (.int o3), some (.long o4), none]) (st' := [.int 6, .int 0, .ref 56, .int 0, .ref 57]) (h' := (HP I A L F E)) rfl).trans ?_
    refine (sg_cpL (hh := fun X1 => (HP I A (fu L 56 X1) F E)) ht_X0_walkOneStep (Nat.le_of_ble_eq_true rfl) rfl hp_o_57 hp_o_56 (fun _ => hp_s_56)).trans ?_
    refine bind_cg fun X1 hX1 => ?_
    exact sg_ret ht_X0_walkOneStep rfl rfl
  · refine (sg_go ht_X0_walkOneStep (k := 2) (pc' := 35) (L' := [some (.ref 54), some (.int v1), some (.int 0), some (.int o3), some (.long o4), none]) (st' := []) (h' := (HP I A L F E)) rfl).trans ?_
    rfl
set_option maxRecDepth 20000 in
theorem sg_X0_walkOneStep_25_v100 {I : Nat → Int32} {A : Nat → List Int32} {L : Nat → List Int64} {F : Nat → Int64} {E : MH} (v1 : Int32) (o2 : Int32) : mm_run G0 5 25 [some (.ref 54), some (.int v1), some (.int o2), none, none, none] [] (HP I A L F E) = (if (I 5401) ≤ v1 then ((cpL (L 57) (L 56) 0 0 6).bind fun X1 => some (none, (HP I A (fu L 56 X1) F E))) else mm_run G0 5 35 [some (.ref 54), some (.int v1), some (.int 0), none, none, none] [] (HP I A L F E)) := by
  refine (sg_go ht_X0_walkOneStep (k := 3) (pc' := 30) (L' := [some (.ref 54), some (.int v1), some (.int o2), none, none, none]) (st' := [.int (I 5401), .int v1]) (h' := (HP I A L F E)) rfl).trans ?_
  refine (sg_cmp ht_X0_walkOneStep rfl).trans ?_
  refine ite_congr rfl (fun _ => ?_) (fun _ => ?_)
  · refine (sg_go ht_X0_walkOneStep (k := 7) (pc' := 120) (L' := [some (.ref 54), some (.int v1), some (.int o2), none, none, none]) (st' := [.int 6, .int 0, .ref 56, .int 0, .ref 57]) (h' := (HP I A L F E)) rfl).trans ?_
    refine (sg_cpL (hh := fun X1 => (HP I A (fu L 56 X1) F E)) ht_X0_walkOneStep (Nat.le_of_ble_eq_true rfl) rfl hp_o_57 hp_o_56 (fun _ => hp_s_56)).trans ?_
    refine bind_cg fun X1 hX1 => ?_
    exact sg_ret ht_X0_walkOneStep rfl rfl
  · refine (sg_go ht_X0_walkOneStep (k := 2) (pc' := 35) (L' := [some (.ref 54), some (.int v1), some (.int 0), none, none, none]) (st' := []) (h' := (HP I A L F E)) rfl).trans ?_
    rfl
set_option maxRecDepth 20000 in
theorem sg_X0_walkOneStep_25_v101 {I : Nat → Int32} {A : Nat → List Int32} {L : Nat → List Int64} {F : Nat → Int64} {E : MH} (v1 : Int32) (o2 : Int32) (o4 : Int64) : mm_run G0 5 25 [some (.ref 54), some (.int v1), some (.int o2), none, some (.long o4), none] [] (HP I A L F E) = (if (I 5401) ≤ v1 then ((cpL (L 57) (L 56) 0 0 6).bind fun X1 => some (none, (HP I A (fu L 56 X1) F E))) else mm_run G0 5 35 [some (.ref 54), some (.int v1), some (.int 0), none, some (.long o4), none] [] (HP I A L F E)) := by
  refine (sg_go ht_X0_walkOneStep (k := 3) (pc' := 30) (L' := [some (.ref 54), some (.int v1), some (.int o2), none, some (.long o4), none]) (st' := [.int (I 5401), .int v1]) (h' := (HP I A L F E)) rfl).trans ?_
  refine (sg_cmp ht_X0_walkOneStep rfl).trans ?_
  refine ite_congr rfl (fun _ => ?_) (fun _ => ?_)
  · refine (sg_go ht_X0_walkOneStep (k := 7) (pc' := 120) (L' := [some (.ref 54), some (.int v1), some (.int o2), none, some (.long o4), none]) (st' := [.int 6, .int 0, .ref 56, .int 0, .ref 57]) (h' := (HP I A L F E)) rfl).trans ?_
    refine (sg_cpL (hh := fun X1 => (HP I A (fu L 56 X1) F E)) ht_X0_walkOneStep (Nat.le_of_ble_eq_true rfl) rfl hp_o_57 hp_o_56 (fun _ => hp_s_56)).trans ?_
    refine bind_cg fun X1 hX1 => ?_
    exact sg_ret ht_X0_walkOneStep rfl rfl
  · refine (sg_go ht_X0_walkOneStep (k := 2) (pc' := 35) (L' := [some (.ref 54), some (.int v1), some (.int 0), none, some (.long o4), none]) (st' := []) (h' := (HP I A L F E)) rfl).trans ?_
    rfl
set_option maxRecDepth 20000 in
theorem sg_X0_walkOneStep_25_v110 {I : Nat → Int32} {A : Nat → List Int32} {L : Nat → List Int64} {F : Nat → Int64} {E : MH} (v1 : Int32) (o2 : Int32) (o3 : Int32) : mm_run G0 5 25 [some (.ref 54), some (.int v1), some (.int o2), some (.int o3), none, none] [] (HP I A L F E) = (if (I 5401) ≤ v1 then ((cpL (L 57) (L 56) 0 0 6).bind fun X1 => some (none, (HP I A (fu L 56 X1) F E))) else mm_run G0 5 35 [some (.ref 54), some (.int v1), some (.int 0), some (.int o3), none, none] [] (HP I A L F E)) := by
  refine (sg_go ht_X0_walkOneStep (k := 3) (pc' := 30) (L' := [some (.ref 54), some (.int v1), some (.int o2), some (.int o3), none, none]) (st' := [.int (I 5401), .int v1]) (h' := (HP I A L F E)) rfl).trans ?_
  refine (sg_cmp ht_X0_walkOneStep rfl).trans ?_
  refine ite_congr rfl (fun _ => ?_) (fun _ => ?_)
  · refine (sg_go ht_X0_walkOneStep (k := 7) (pc' := 120) (L' := [some (.ref 54), some (.int v1), some (.int o2), some (.int o3), none, none]) (st' := [.int 6, .int 0, .ref 56, .int 0, .ref 57]) (h' := (HP I A L F E)) rfl).trans ?_
    refine (sg_cpL (hh := fun X1 => (HP I A (fu L 56 X1) F E)) ht_X0_walkOneStep (Nat.le_of_ble_eq_true rfl) rfl hp_o_57 hp_o_56 (fun _ => hp_s_56)).trans ?_
    refine bind_cg fun X1 hX1 => ?_
    exact sg_ret ht_X0_walkOneStep rfl rfl
  · refine (sg_go ht_X0_walkOneStep (k := 2) (pc' := 35) (L' := [some (.ref 54), some (.int v1), some (.int 0), some (.int o3), none, none]) (st' := []) (h' := (HP I A L F E)) rfl).trans ?_
    rfl
set_option maxRecDepth 20000 in
theorem sg_X0_walkOneStep_25_v111 {I : Nat → Int32} {A : Nat → List Int32} {L : Nat → List Int64} {F : Nat → Int64} {E : MH} (v1 : Int32) (o2 : Int32) (o3 : Int32) (o4 : Int64) : mm_run G0 5 25 [some (.ref 54), some (.int v1), some (.int o2), some (.int o3), some (.long o4), none] [] (HP I A L F E) = (if (I 5401) ≤ v1 then ((cpL (L 57) (L 56) 0 0 6).bind fun X1 => some (none, (HP I A (fu L 56 X1) F E))) else mm_run G0 5 35 [some (.ref 54), some (.int v1), some (.int 0), some (.int o3), some (.long o4), none] [] (HP I A L F E)) := by
  refine (sg_go ht_X0_walkOneStep (k := 3) (pc' := 30) (L' := [some (.ref 54), some (.int v1), some (.int o2), some (.int o3), some (.long o4), none]) (st' := [.int (I 5401), .int v1]) (h' := (HP I A L F E)) rfl).trans ?_
  refine (sg_cmp ht_X0_walkOneStep rfl).trans ?_
  refine ite_congr rfl (fun _ => ?_) (fun _ => ?_)
  · refine (sg_go ht_X0_walkOneStep (k := 7) (pc' := 120) (L' := [some (.ref 54), some (.int v1), some (.int o2), some (.int o3), some (.long o4), none]) (st' := [.int 6, .int 0, .ref 56, .int 0, .ref 57]) (h' := (HP I A L F E)) rfl).trans ?_
    refine (sg_cpL (hh := fun X1 => (HP I A (fu L 56 X1) F E)) ht_X0_walkOneStep (Nat.le_of_ble_eq_true rfl) rfl hp_o_57 hp_o_56 (fun _ => hp_s_56)).trans ?_
    refine bind_cg fun X1 hX1 => ?_
    exact sg_ret ht_X0_walkOneStep rfl rfl
  · refine (sg_go ht_X0_walkOneStep (k := 2) (pc' := 35) (L' := [some (.ref 54), some (.int v1), some (.int 0), some (.int o3), some (.long o4), none]) (st' := []) (h' := (HP I A L F E)) rfl).trans ?_
    rfl
theorem sg_X0_walkOneStep_25 {I : Nat → Int32} {A : Nat → List Int32} {L : Nat → List Int64} {F : Nat → Int64} {E : MH} (v1 : Int32) (o2 : Option Int32) (o3 : Option Int32) (o4 : Option Int64) : mm_run G0 5 25 [some (.ref 54), some (.int v1), (o2.map Value.int), (o3.map Value.int), (o4.map Value.long), none] [] (HP I A L F E) = (if (I 5401) ≤ v1 then ((cpL (L 57) (L 56) 0 0 6).bind fun X1 => some (none, (HP I A (fu L 56 X1) F E))) else mm_run G0 5 35 [some (.ref 54), some (.int v1), some (.int 0), (o3.map Value.int), (o4.map Value.long), none] [] (HP I A L F E)) := by
  match o2, o3, o4 with
  | none, none, none => exact sg_X0_walkOneStep_25_v000 v1
  | none, none, some o4 => exact sg_X0_walkOneStep_25_v001 v1 o4
  | none, some o3, none => exact sg_X0_walkOneStep_25_v010 v1 o3
  | none, some o3, some o4 => exact sg_X0_walkOneStep_25_v011 v1 o3 o4
  | some o2, none, none => exact sg_X0_walkOneStep_25_v100 v1 o2
  | some o2, none, some o4 => exact sg_X0_walkOneStep_25_v101 v1 o2 o4
  | some o2, some o3, none => exact sg_X0_walkOneStep_25_v110 v1 o2 o3
  | some o2, some o3, some o4 => exact sg_X0_walkOneStep_25_v111 v1 o2 o3 o4
set_option maxRecDepth 20000 in
theorem sg_X0_walkOneStep_35_v00 {I : Nat → Int32} {A : Nat → List Int32} {L : Nat → List Int64} {F : Nat → Int64} {E : MH} (v1 : Int32) (v2 : Int32) : mm_run G0 5 35 [some (.ref 54), some (.int v1), some (.int v2), none, none, none] [] (HP I A L F E) = (if 5 ≤ v2 then mm_run G0 5 25 [some (.ref 54), some (.int (v1 + 1)), some (.int v2), none, none, none] [] (HP I A L F E) else ((ldL (L 56) v1).bind fun x1 => ((ldI (A 55) v2).bind fun x2 => (if (I 5401) ≤ (imin (I 5401) (imax 0 (((v1 + v2) - 2) - (I 5400)))) then mm_run G0 5 35 [some (.ref 54), some (.int v1), some (.int (v2 + 1)), some (.int (imin (I 5401) (imax 0 (((v1 + v2) - 2) - (I 5400))))), some (.long (x1 * (x2).toInt64)), none] [] (HP I A L (fu F 5404 ((F 5404) + (x1 * (x2).toInt64))) E) else ((ldL (L 57) (imin (I 5401) (imax 0 (((v1 + v2) - 2) - (I 5400))))).bind fun x3 => ((stL (L 57) (imin (I 5401) (imax 0 (((v1 + v2) - 2) - (I 5400)))) (x3 + (x1 * (x2).toInt64))).bind fun X4 => mm_run G0 5 35 [some (.ref 54), some (.int v1), some (.int (v2 + 1)), some (.int (imin (I 5401) (imax 0 (((v1 + v2) - 2) - (I 5400))))), some (.long (x1 * (x2).toInt64)), none] [] (HP I A (fu L 57 X4) F E))))))) := by
  refine (sg_go ht_X0_walkOneStep (k := 2) (pc' := 37) (L' := [some (.ref 54), some (.int v1), some (.int v2), none, none, none]) (st' := [.int 5, .int v2]) (h' := (HP I A L F E)) rfl).trans ?_
  refine (sg_cmp ht_X0_walkOneStep rfl).trans ?_
  refine ite_congr rfl (fun _ => ?_) (fun _ => ?_)
  · refine (sg_go ht_X0_walkOneStep (k := 2) (pc' := 25) (L' := [some (.ref 54), some (.int (v1 + 1)), some (.int v2), none, none, none]) (st' := []) (h' := (HP I A L F E)) rfl).trans ?_
    rfl
  · refine (sg_go ht_X0_walkOneStep (k := 3) (pc' := 43) (L' := [some (.ref 54), some (.int v1), some (.int v2), none, none, none]) (st' := [.int v2, .int v1, .ref 54]) (h' := (HP I A L F E)) rfl).trans ?_
    refine (sg_call ht_X0_walkOneStep (mj := 3) (as := [.ref 54, .int v1, .int v2]) (rest := []) rfl rfl ⟨by decide, Nat.le_of_ble_eq_true rfl⟩).trans ?_
    refine (bind_eq (sg_X0_next_0 v1 v2)).trans ?_
    show mm_run G0 5 46 [some (.ref 54), some (.int v1), some (.int v2), none, none, none] [.int (imin (I 5401) (imax 0 (((v1 + v2) - 2) - (I 5400))))] (HP I A L F E) = _
    refine (sg_go ht_X0_walkOneStep (k := 4) (pc' := 52) (L' := [some (.ref 54), some (.int v1), some (.int v2), some (.int (imin (I 5401) (imax 0 (((v1 + v2) - 2) - (I 5400))))), none, none]) (st' := [.int v1, .ref 56]) (h' := (HP I A L F E)) rfl).trans ?_
    refine (sg_ldL ht_X0_walkOneStep rfl hp_o_56).trans ?_
    refine bind_cg fun x1 hx1 => ?_
    refine (sg_go ht_X0_walkOneStep (k := 3) (pc' := 58) (L' := [some (.ref 54), some (.int v1), some (.int v2), some (.int (imin (I 5401) (imax 0 (((v1 + v2) - 2) - (I 5400))))), none, none]) (st' := [.int v2, .ref 55, .long x1]) (h' := (HP I A L F E)) rfl).trans ?_
    refine (sg_ldI ht_X0_walkOneStep rfl hp_o_55).trans ?_
    refine bind_cg fun x2 hx2 => ?_
    refine (sg_go ht_X0_walkOneStep (k := 6) (pc' := 68) (L' := [some (.ref 54), some (.int v1), some (.int v2), some (.int (imin (I 5401) (imax 0 (((v1 + v2) - 2) - (I 5400))))), some (.long (x1 * (x2).toInt64)), none]) (st' := [.int (I 5401), .int (imin (I 5401) (imax 0 (((v1 + v2) - 2) - (I 5400))))]) (h' := (HP I A L F E)) rfl).trans ?_
    refine (sg_cmp ht_X0_walkOneStep rfl).trans ?_
    refine ite_congr rfl (fun _ => ?_) (fun _ => ?_)
    · refine (sg_go ht_X0_walkOneStep (k := 5) (pc' := 93) (L' := [some (.ref 54), some (.int v1), some (.int v2), some (.int (imin (I 5401) (imax 0 (((v1 + v2) - 2) - (I 5400))))), some (.long (x1 * (x2).toInt64)), none]) (st' := [.long ((F 5404) + (x1 * (x2).toInt64)), .ref 54]) (h' := (HP I A L F E)) rfl).trans ?_
      refine (sg_putL (h' := (HP I A L (fu F 5404 ((F 5404) + (x1 * (x2).toInt64))) E)) ht_X0_walkOneStep rfl hp_o_54 (Nat.le_of_ble_eq_true rfl) hp_p_5404).trans ?_
      refine (sg_go ht_X0_walkOneStep (k := 2) (pc' := 35) (L' := [some (.ref 54), some (.int v1), some (.int (v2 + 1)), some (.int (imin (I 5401) (imax 0 (((v1 + v2) - 2) - (I 5400))))), some (.long (x1 * (x2).toInt64)), none]) (st' := []) (h' := (HP I A L (fu F 5404 ((F 5404) + (x1 * (x2).toInt64))) E)) rfl).trans ?_
      rfl
    · refine (sg_go ht_X0_walkOneStep (k := 4) (pc' := 77) (L' := [some (.ref 54), some (.int v1), some (.int v2), some (.int (imin (I 5401) (imax 0 (((v1 + v2) - 2) - (I 5400))))), some (.long (x1 * (x2).toInt64)), none]) (st' := [.int (imin (I 5401) (imax 0 (((v1 + v2) - 2) - (I 5400)))), .ref 57, .int (imin (I 5401) (imax 0 (((v1 + v2) - 2) - (I 5400)))), .ref 57]) (h' := (HP I A L F E)) rfl).trans ?_
      refine (sg_ldL ht_X0_walkOneStep rfl hp_o_57).trans ?_
      refine bind_cg fun x3 hx3 => ?_
      refine (sg_go ht_X0_walkOneStep (k := 2) (pc' := 81) (L' := [some (.ref 54), some (.int v1), some (.int v2), some (.int (imin (I 5401) (imax 0 (((v1 + v2) - 2) - (I 5400))))), some (.long (x1 * (x2).toInt64)), none]) (st' := [.long (x3 + (x1 * (x2).toInt64)), .int (imin (I 5401) (imax 0 (((v1 + v2) - 2) - (I 5400)))), .ref 57]) (h' := (HP I A L F E)) rfl).trans ?_
      refine (sg_stL (hh := fun X4 => (HP I A (fu L 57 X4) F E)) ht_X0_walkOneStep rfl hp_o_57 (fun _ => hp_s_57)).trans ?_
      refine bind_cg fun X4 hX4 => ?_
      refine (sg_go ht_X0_walkOneStep (k := 3) (pc' := 35) (L' := [some (.ref 54), some (.int v1), some (.int (v2 + 1)), some (.int (imin (I 5401) (imax 0 (((v1 + v2) - 2) - (I 5400))))), some (.long (x1 * (x2).toInt64)), none]) (st' := []) (h' := (HP I A (fu L 57 X4) F E)) rfl).trans ?_
      rfl
set_option maxRecDepth 20000 in
theorem sg_X0_walkOneStep_35_v01 {I : Nat → Int32} {A : Nat → List Int32} {L : Nat → List Int64} {F : Nat → Int64} {E : MH} (v1 : Int32) (v2 : Int32) (o4 : Int64) : mm_run G0 5 35 [some (.ref 54), some (.int v1), some (.int v2), none, some (.long o4), none] [] (HP I A L F E) = (if 5 ≤ v2 then mm_run G0 5 25 [some (.ref 54), some (.int (v1 + 1)), some (.int v2), none, some (.long o4), none] [] (HP I A L F E) else ((ldL (L 56) v1).bind fun x1 => ((ldI (A 55) v2).bind fun x2 => (if (I 5401) ≤ (imin (I 5401) (imax 0 (((v1 + v2) - 2) - (I 5400)))) then mm_run G0 5 35 [some (.ref 54), some (.int v1), some (.int (v2 + 1)), some (.int (imin (I 5401) (imax 0 (((v1 + v2) - 2) - (I 5400))))), some (.long (x1 * (x2).toInt64)), none] [] (HP I A L (fu F 5404 ((F 5404) + (x1 * (x2).toInt64))) E) else ((ldL (L 57) (imin (I 5401) (imax 0 (((v1 + v2) - 2) - (I 5400))))).bind fun x3 => ((stL (L 57) (imin (I 5401) (imax 0 (((v1 + v2) - 2) - (I 5400)))) (x3 + (x1 * (x2).toInt64))).bind fun X4 => mm_run G0 5 35 [some (.ref 54), some (.int v1), some (.int (v2 + 1)), some (.int (imin (I 5401) (imax 0 (((v1 + v2) - 2) - (I 5400))))), some (.long (x1 * (x2).toInt64)), none] [] (HP I A (fu L 57 X4) F E))))))) := by
  refine (sg_go ht_X0_walkOneStep (k := 2) (pc' := 37) (L' := [some (.ref 54), some (.int v1), some (.int v2), none, some (.long o4), none]) (st' := [.int 5, .int v2]) (h' := (HP I A L F E)) rfl).trans ?_
  refine (sg_cmp ht_X0_walkOneStep rfl).trans ?_
  refine ite_congr rfl (fun _ => ?_) (fun _ => ?_)
  · refine (sg_go ht_X0_walkOneStep (k := 2) (pc' := 25) (L' := [some (.ref 54), some (.int (v1 + 1)), some (.int v2), none, some (.long o4), none]) (st' := []) (h' := (HP I A L F E)) rfl).trans ?_
    rfl
  · refine (sg_go ht_X0_walkOneStep (k := 3) (pc' := 43) (L' := [some (.ref 54), some (.int v1), some (.int v2), none, some (.long o4), none]) (st' := [.int v2, .int v1, .ref 54]) (h' := (HP I A L F E)) rfl).trans ?_
    refine (sg_call ht_X0_walkOneStep (mj := 3) (as := [.ref 54, .int v1, .int v2]) (rest := []) rfl rfl ⟨by decide, Nat.le_of_ble_eq_true rfl⟩).trans ?_
    refine (bind_eq (sg_X0_next_0 v1 v2)).trans ?_
    show mm_run G0 5 46 [some (.ref 54), some (.int v1), some (.int v2), none, some (.long o4), none] [.int (imin (I 5401) (imax 0 (((v1 + v2) - 2) - (I 5400))))] (HP I A L F E) = _
    refine (sg_go ht_X0_walkOneStep (k := 4) (pc' := 52) (L' := [some (.ref 54), some (.int v1), some (.int v2), some (.int (imin (I 5401) (imax 0 (((v1 + v2) - 2) - (I 5400))))), some (.long o4), none]) (st' := [.int v1, .ref 56]) (h' := (HP I A L F E)) rfl).trans ?_
    refine (sg_ldL ht_X0_walkOneStep rfl hp_o_56).trans ?_
    refine bind_cg fun x1 hx1 => ?_
    refine (sg_go ht_X0_walkOneStep (k := 3) (pc' := 58) (L' := [some (.ref 54), some (.int v1), some (.int v2), some (.int (imin (I 5401) (imax 0 (((v1 + v2) - 2) - (I 5400))))), some (.long o4), none]) (st' := [.int v2, .ref 55, .long x1]) (h' := (HP I A L F E)) rfl).trans ?_
    refine (sg_ldI ht_X0_walkOneStep rfl hp_o_55).trans ?_
    refine bind_cg fun x2 hx2 => ?_
    refine (sg_go ht_X0_walkOneStep (k := 6) (pc' := 68) (L' := [some (.ref 54), some (.int v1), some (.int v2), some (.int (imin (I 5401) (imax 0 (((v1 + v2) - 2) - (I 5400))))), some (.long (x1 * (x2).toInt64)), none]) (st' := [.int (I 5401), .int (imin (I 5401) (imax 0 (((v1 + v2) - 2) - (I 5400))))]) (h' := (HP I A L F E)) rfl).trans ?_
    refine (sg_cmp ht_X0_walkOneStep rfl).trans ?_
    refine ite_congr rfl (fun _ => ?_) (fun _ => ?_)
    · refine (sg_go ht_X0_walkOneStep (k := 5) (pc' := 93) (L' := [some (.ref 54), some (.int v1), some (.int v2), some (.int (imin (I 5401) (imax 0 (((v1 + v2) - 2) - (I 5400))))), some (.long (x1 * (x2).toInt64)), none]) (st' := [.long ((F 5404) + (x1 * (x2).toInt64)), .ref 54]) (h' := (HP I A L F E)) rfl).trans ?_
      refine (sg_putL (h' := (HP I A L (fu F 5404 ((F 5404) + (x1 * (x2).toInt64))) E)) ht_X0_walkOneStep rfl hp_o_54 (Nat.le_of_ble_eq_true rfl) hp_p_5404).trans ?_
      refine (sg_go ht_X0_walkOneStep (k := 2) (pc' := 35) (L' := [some (.ref 54), some (.int v1), some (.int (v2 + 1)), some (.int (imin (I 5401) (imax 0 (((v1 + v2) - 2) - (I 5400))))), some (.long (x1 * (x2).toInt64)), none]) (st' := []) (h' := (HP I A L (fu F 5404 ((F 5404) + (x1 * (x2).toInt64))) E)) rfl).trans ?_
      rfl
    · refine (sg_go ht_X0_walkOneStep (k := 4) (pc' := 77) (L' := [some (.ref 54), some (.int v1), some (.int v2), some (.int (imin (I 5401) (imax 0 (((v1 + v2) - 2) - (I 5400))))), some (.long (x1 * (x2).toInt64)), none]) (st' := [.int (imin (I 5401) (imax 0 (((v1 + v2) - 2) - (I 5400)))), .ref 57, .int (imin (I 5401) (imax 0 (((v1 + v2) - 2) - (I 5400)))), .ref 57]) (h' := (HP I A L F E)) rfl).trans ?_
      refine (sg_ldL ht_X0_walkOneStep rfl hp_o_57).trans ?_
      refine bind_cg fun x3 hx3 => ?_
      refine (sg_go ht_X0_walkOneStep (k := 2) (pc' := 81) (L' := [some (.ref 54), some (.int v1), some (.int v2), some (.int (imin (I 5401) (imax 0 (((v1 + v2) - 2) - (I 5400))))), some (.long (x1 * (x2).toInt64)), none]) (st' := [.long (x3 + (x1 * (x2).toInt64)), .int (imin (I 5401) (imax 0 (((v1 + v2) - 2) - (I 5400)))), .ref 57]) (h' := (HP I A L F E)) rfl).trans ?_
      refine (sg_stL (hh := fun X4 => (HP I A (fu L 57 X4) F E)) ht_X0_walkOneStep rfl hp_o_57 (fun _ => hp_s_57)).trans ?_
      refine bind_cg fun X4 hX4 => ?_
      refine (sg_go ht_X0_walkOneStep (k := 3) (pc' := 35) (L' := [some (.ref 54), some (.int v1), some (.int (v2 + 1)), some (.int (imin (I 5401) (imax 0 (((v1 + v2) - 2) - (I 5400))))), some (.long (x1 * (x2).toInt64)), none]) (st' := []) (h' := (HP I A (fu L 57 X4) F E)) rfl).trans ?_
      rfl
set_option maxRecDepth 20000 in
theorem sg_X0_walkOneStep_35_v10 {I : Nat → Int32} {A : Nat → List Int32} {L : Nat → List Int64} {F : Nat → Int64} {E : MH} (v1 : Int32) (v2 : Int32) (o3 : Int32) : mm_run G0 5 35 [some (.ref 54), some (.int v1), some (.int v2), some (.int o3), none, none] [] (HP I A L F E) = (if 5 ≤ v2 then mm_run G0 5 25 [some (.ref 54), some (.int (v1 + 1)), some (.int v2), some (.int o3), none, none] [] (HP I A L F E) else ((ldL (L 56) v1).bind fun x1 => ((ldI (A 55) v2).bind fun x2 => (if (I 5401) ≤ (imin (I 5401) (imax 0 (((v1 + v2) - 2) - (I 5400)))) then mm_run G0 5 35 [some (.ref 54), some (.int v1), some (.int (v2 + 1)), some (.int (imin (I 5401) (imax 0 (((v1 + v2) - 2) - (I 5400))))), some (.long (x1 * (x2).toInt64)), none] [] (HP I A L (fu F 5404 ((F 5404) + (x1 * (x2).toInt64))) E) else ((ldL (L 57) (imin (I 5401) (imax 0 (((v1 + v2) - 2) - (I 5400))))).bind fun x3 => ((stL (L 57) (imin (I 5401) (imax 0 (((v1 + v2) - 2) - (I 5400)))) (x3 + (x1 * (x2).toInt64))).bind fun X4 => mm_run G0 5 35 [some (.ref 54), some (.int v1), some (.int (v2 + 1)), some (.int (imin (I 5401) (imax 0 (((v1 + v2) - 2) - (I 5400))))), some (.long (x1 * (x2).toInt64)), none] [] (HP I A (fu L 57 X4) F E))))))) := by
  refine (sg_go ht_X0_walkOneStep (k := 2) (pc' := 37) (L' := [some (.ref 54), some (.int v1), some (.int v2), some (.int o3), none, none]) (st' := [.int 5, .int v2]) (h' := (HP I A L F E)) rfl).trans ?_
  refine (sg_cmp ht_X0_walkOneStep rfl).trans ?_
  refine ite_congr rfl (fun _ => ?_) (fun _ => ?_)
  · refine (sg_go ht_X0_walkOneStep (k := 2) (pc' := 25) (L' := [some (.ref 54), some (.int (v1 + 1)), some (.int v2), some (.int o3), none, none]) (st' := []) (h' := (HP I A L F E)) rfl).trans ?_
    rfl
  · refine (sg_go ht_X0_walkOneStep (k := 3) (pc' := 43) (L' := [some (.ref 54), some (.int v1), some (.int v2), some (.int o3), none, none]) (st' := [.int v2, .int v1, .ref 54]) (h' := (HP I A L F E)) rfl).trans ?_
    refine (sg_call ht_X0_walkOneStep (mj := 3) (as := [.ref 54, .int v1, .int v2]) (rest := []) rfl rfl ⟨by decide, Nat.le_of_ble_eq_true rfl⟩).trans ?_
    refine (bind_eq (sg_X0_next_0 v1 v2)).trans ?_
    show mm_run G0 5 46 [some (.ref 54), some (.int v1), some (.int v2), some (.int o3), none, none] [.int (imin (I 5401) (imax 0 (((v1 + v2) - 2) - (I 5400))))] (HP I A L F E) = _
    refine (sg_go ht_X0_walkOneStep (k := 4) (pc' := 52) (L' := [some (.ref 54), some (.int v1), some (.int v2), some (.int (imin (I 5401) (imax 0 (((v1 + v2) - 2) - (I 5400))))), none, none]) (st' := [.int v1, .ref 56]) (h' := (HP I A L F E)) rfl).trans ?_
    refine (sg_ldL ht_X0_walkOneStep rfl hp_o_56).trans ?_
    refine bind_cg fun x1 hx1 => ?_
    refine (sg_go ht_X0_walkOneStep (k := 3) (pc' := 58) (L' := [some (.ref 54), some (.int v1), some (.int v2), some (.int (imin (I 5401) (imax 0 (((v1 + v2) - 2) - (I 5400))))), none, none]) (st' := [.int v2, .ref 55, .long x1]) (h' := (HP I A L F E)) rfl).trans ?_
    refine (sg_ldI ht_X0_walkOneStep rfl hp_o_55).trans ?_
    refine bind_cg fun x2 hx2 => ?_
    refine (sg_go ht_X0_walkOneStep (k := 6) (pc' := 68) (L' := [some (.ref 54), some (.int v1), some (.int v2), some (.int (imin (I 5401) (imax 0 (((v1 + v2) - 2) - (I 5400))))), some (.long (x1 * (x2).toInt64)), none]) (st' := [.int (I 5401), .int (imin (I 5401) (imax 0 (((v1 + v2) - 2) - (I 5400))))]) (h' := (HP I A L F E)) rfl).trans ?_
    refine (sg_cmp ht_X0_walkOneStep rfl).trans ?_
    refine ite_congr rfl (fun _ => ?_) (fun _ => ?_)
    · refine (sg_go ht_X0_walkOneStep (k := 5) (pc' := 93) (L' := [some (.ref 54), some (.int v1), some (.int v2), some (.int (imin (I 5401) (imax 0 (((v1 + v2) - 2) - (I 5400))))), some (.long (x1 * (x2).toInt64)), none]) (st' := [.long ((F 5404) + (x1 * (x2).toInt64)), .ref 54]) (h' := (HP I A L F E)) rfl).trans ?_
      refine (sg_putL (h' := (HP I A L (fu F 5404 ((F 5404) + (x1 * (x2).toInt64))) E)) ht_X0_walkOneStep rfl hp_o_54 (Nat.le_of_ble_eq_true rfl) hp_p_5404).trans ?_
      refine (sg_go ht_X0_walkOneStep (k := 2) (pc' := 35) (L' := [some (.ref 54), some (.int v1), some (.int (v2 + 1)), some (.int (imin (I 5401) (imax 0 (((v1 + v2) - 2) - (I 5400))))), some (.long (x1 * (x2).toInt64)), none]) (st' := []) (h' := (HP I A L (fu F 5404 ((F 5404) + (x1 * (x2).toInt64))) E)) rfl).trans ?_
      rfl
    · refine (sg_go ht_X0_walkOneStep (k := 4) (pc' := 77) (L' := [some (.ref 54), some (.int v1), some (.int v2), some (.int (imin (I 5401) (imax 0 (((v1 + v2) - 2) - (I 5400))))), some (.long (x1 * (x2).toInt64)), none]) (st' := [.int (imin (I 5401) (imax 0 (((v1 + v2) - 2) - (I 5400)))), .ref 57, .int (imin (I 5401) (imax 0 (((v1 + v2) - 2) - (I 5400)))), .ref 57]) (h' := (HP I A L F E)) rfl).trans ?_
      refine (sg_ldL ht_X0_walkOneStep rfl hp_o_57).trans ?_
      refine bind_cg fun x3 hx3 => ?_
      refine (sg_go ht_X0_walkOneStep (k := 2) (pc' := 81) (L' := [some (.ref 54), some (.int v1), some (.int v2), some (.int (imin (I 5401) (imax 0 (((v1 + v2) - 2) - (I 5400))))), some (.long (x1 * (x2).toInt64)), none]) (st' := [.long (x3 + (x1 * (x2).toInt64)), .int (imin (I 5401) (imax 0 (((v1 + v2) - 2) - (I 5400)))), .ref 57]) (h' := (HP I A L F E)) rfl).trans ?_
      refine (sg_stL (hh := fun X4 => (HP I A (fu L 57 X4) F E)) ht_X0_walkOneStep rfl hp_o_57 (fun _ => hp_s_57)).trans ?_
      refine bind_cg fun X4 hX4 => ?_
      refine (sg_go ht_X0_walkOneStep (k := 3) (pc' := 35) (L' := [some (.ref 54), some (.int v1), some (.int (v2 + 1)), some (.int (imin (I 5401) (imax 0 (((v1 + v2) - 2) - (I 5400))))), some (.long (x1 * (x2).toInt64)), none]) (st' := []) (h' := (HP I A (fu L 57 X4) F E)) rfl).trans ?_
      rfl
set_option maxRecDepth 20000 in
theorem sg_X0_walkOneStep_35_v11 {I : Nat → Int32} {A : Nat → List Int32} {L : Nat → List Int64} {F : Nat → Int64} {E : MH} (v1 : Int32) (v2 : Int32) (o3 : Int32) (o4 : Int64) : mm_run G0 5 35 [some (.ref 54), some (.int v1), some (.int v2), some (.int o3), some (.long o4), none] [] (HP I A L F E) = (if 5 ≤ v2 then mm_run G0 5 25 [some (.ref 54), some (.int (v1 + 1)), some (.int v2), some (.int o3), some (.long o4), none] [] (HP I A L F E) else ((ldL (L 56) v1).bind fun x1 => ((ldI (A 55) v2).bind fun x2 => (if (I 5401) ≤ (imin (I 5401) (imax 0 (((v1 + v2) - 2) - (I 5400)))) then mm_run G0 5 35 [some (.ref 54), some (.int v1), some (.int (v2 + 1)), some (.int (imin (I 5401) (imax 0 (((v1 + v2) - 2) - (I 5400))))), some (.long (x1 * (x2).toInt64)), none] [] (HP I A L (fu F 5404 ((F 5404) + (x1 * (x2).toInt64))) E) else ((ldL (L 57) (imin (I 5401) (imax 0 (((v1 + v2) - 2) - (I 5400))))).bind fun x3 => ((stL (L 57) (imin (I 5401) (imax 0 (((v1 + v2) - 2) - (I 5400)))) (x3 + (x1 * (x2).toInt64))).bind fun X4 => mm_run G0 5 35 [some (.ref 54), some (.int v1), some (.int (v2 + 1)), some (.int (imin (I 5401) (imax 0 (((v1 + v2) - 2) - (I 5400))))), some (.long (x1 * (x2).toInt64)), none] [] (HP I A (fu L 57 X4) F E))))))) := by
  refine (sg_go ht_X0_walkOneStep (k := 2) (pc' := 37) (L' := [some (.ref 54), some (.int v1), some (.int v2), some (.int o3), some (.long o4), none]) (st' := [.int 5, .int v2]) (h' := (HP I A L F E)) rfl).trans ?_
  refine (sg_cmp ht_X0_walkOneStep rfl).trans ?_
  refine ite_congr rfl (fun _ => ?_) (fun _ => ?_)
  · refine (sg_go ht_X0_walkOneStep (k := 2) (pc' := 25) (L' := [some (.ref 54), some (.int (v1 + 1)), some (.int v2), some (.int o3), some (.long o4), none]) (st' := []) (h' := (HP I A L F E)) rfl).trans ?_
    rfl
  · refine (sg_go ht_X0_walkOneStep (k := 3) (pc' := 43) (L' := [some (.ref 54), some (.int v1), some (.int v2), some (.int o3), some (.long o4), none]) (st' := [.int v2, .int v1, .ref 54]) (h' := (HP I A L F E)) rfl).trans ?_
    refine (sg_call ht_X0_walkOneStep (mj := 3) (as := [.ref 54, .int v1, .int v2]) (rest := []) rfl rfl ⟨by decide, Nat.le_of_ble_eq_true rfl⟩).trans ?_
    refine (bind_eq (sg_X0_next_0 v1 v2)).trans ?_
    show mm_run G0 5 46 [some (.ref 54), some (.int v1), some (.int v2), some (.int o3), some (.long o4), none] [.int (imin (I 5401) (imax 0 (((v1 + v2) - 2) - (I 5400))))] (HP I A L F E) = _
    refine (sg_go ht_X0_walkOneStep (k := 4) (pc' := 52) (L' := [some (.ref 54), some (.int v1), some (.int v2), some (.int (imin (I 5401) (imax 0 (((v1 + v2) - 2) - (I 5400))))), some (.long o4), none]) (st' := [.int v1, .ref 56]) (h' := (HP I A L F E)) rfl).trans ?_
    refine (sg_ldL ht_X0_walkOneStep rfl hp_o_56).trans ?_
    refine bind_cg fun x1 hx1 => ?_
    refine (sg_go ht_X0_walkOneStep (k := 3) (pc' := 58) (L' := [some (.ref 54), some (.int v1), some (.int v2), some (.int (imin (I 5401) (imax 0 (((v1 + v2) - 2) - (I 5400))))), some (.long o4), none]) (st' := [.int v2, .ref 55, .long x1]) (h' := (HP I A L F E)) rfl).trans ?_
    refine (sg_ldI ht_X0_walkOneStep rfl hp_o_55).trans ?_
    refine bind_cg fun x2 hx2 => ?_
    refine (sg_go ht_X0_walkOneStep (k := 6) (pc' := 68) (L' := [some (.ref 54), some (.int v1), some (.int v2), some (.int (imin (I 5401) (imax 0 (((v1 + v2) - 2) - (I 5400))))), some (.long (x1 * (x2).toInt64)), none]) (st' := [.int (I 5401), .int (imin (I 5401) (imax 0 (((v1 + v2) - 2) - (I 5400))))]) (h' := (HP I A L F E)) rfl).trans ?_
    refine (sg_cmp ht_X0_walkOneStep rfl).trans ?_
    refine ite_congr rfl (fun _ => ?_) (fun _ => ?_)
    · refine (sg_go ht_X0_walkOneStep (k := 5) (pc' := 93) (L' := [some (.ref 54), some (.int v1), some (.int v2), some (.int (imin (I 5401) (imax 0 (((v1 + v2) - 2) - (I 5400))))), some (.long (x1 * (x2).toInt64)), none]) (st' := [.long ((F 5404) + (x1 * (x2).toInt64)), .ref 54]) (h' := (HP I A L F E)) rfl).trans ?_
      refine (sg_putL (h' := (HP I A L (fu F 5404 ((F 5404) + (x1 * (x2).toInt64))) E)) ht_X0_walkOneStep rfl hp_o_54 (Nat.le_of_ble_eq_true rfl) hp_p_5404).trans ?_
      refine (sg_go ht_X0_walkOneStep (k := 2) (pc' := 35) (L' := [some (.ref 54), some (.int v1), some (.int (v2 + 1)), some (.int (imin (I 5401) (imax 0 (((v1 + v2) - 2) - (I 5400))))), some (.long (x1 * (x2).toInt64)), none]) (st' := []) (h' := (HP I A L (fu F 5404 ((F 5404) + (x1 * (x2).toInt64))) E)) rfl).trans ?_
      rfl
    · refine (sg_go ht_X0_walkOneStep (k := 4) (pc' := 77) (L' := [some (.ref 54), some (.int v1), some (.int v2), some (.int (imin (I 5401) (imax 0 (((v1 + v2) - 2) - (I 5400))))), some (.long (x1 * (x2).toInt64)), none]) (st' := [.int (imin (I 5401) (imax 0 (((v1 + v2) - 2) - (I 5400)))), .ref 57, .int (imin (I 5401) (imax 0 (((v1 + v2) - 2) - (I 5400)))), .ref 57]) (h' := (HP I A L F E)) rfl).trans ?_
      refine (sg_ldL ht_X0_walkOneStep rfl hp_o_57).trans ?_
      refine bind_cg fun x3 hx3 => ?_
      refine (sg_go ht_X0_walkOneStep (k := 2) (pc' := 81) (L' := [some (.ref 54), some (.int v1), some (.int v2), some (.int (imin (I 5401) (imax 0 (((v1 + v2) - 2) - (I 5400))))), some (.long (x1 * (x2).toInt64)), none]) (st' := [.long (x3 + (x1 * (x2).toInt64)), .int (imin (I 5401) (imax 0 (((v1 + v2) - 2) - (I 5400)))), .ref 57]) (h' := (HP I A L F E)) rfl).trans ?_
      refine (sg_stL (hh := fun X4 => (HP I A (fu L 57 X4) F E)) ht_X0_walkOneStep rfl hp_o_57 (fun _ => hp_s_57)).trans ?_
      refine bind_cg fun X4 hX4 => ?_
      refine (sg_go ht_X0_walkOneStep (k := 3) (pc' := 35) (L' := [some (.ref 54), some (.int v1), some (.int (v2 + 1)), some (.int (imin (I 5401) (imax 0 (((v1 + v2) - 2) - (I 5400))))), some (.long (x1 * (x2).toInt64)), none]) (st' := []) (h' := (HP I A (fu L 57 X4) F E)) rfl).trans ?_
      rfl
theorem sg_X0_walkOneStep_35 {I : Nat → Int32} {A : Nat → List Int32} {L : Nat → List Int64} {F : Nat → Int64} {E : MH} (v1 : Int32) (v2 : Int32) (o3 : Option Int32) (o4 : Option Int64) : mm_run G0 5 35 [some (.ref 54), some (.int v1), some (.int v2), (o3.map Value.int), (o4.map Value.long), none] [] (HP I A L F E) = (if 5 ≤ v2 then mm_run G0 5 25 [some (.ref 54), some (.int (v1 + 1)), some (.int v2), (o3.map Value.int), (o4.map Value.long), none] [] (HP I A L F E) else ((ldL (L 56) v1).bind fun x1 => ((ldI (A 55) v2).bind fun x2 => (if (I 5401) ≤ (imin (I 5401) (imax 0 (((v1 + v2) - 2) - (I 5400)))) then mm_run G0 5 35 [some (.ref 54), some (.int v1), some (.int (v2 + 1)), some (.int (imin (I 5401) (imax 0 (((v1 + v2) - 2) - (I 5400))))), some (.long (x1 * (x2).toInt64)), none] [] (HP I A L (fu F 5404 ((F 5404) + (x1 * (x2).toInt64))) E) else ((ldL (L 57) (imin (I 5401) (imax 0 (((v1 + v2) - 2) - (I 5400))))).bind fun x3 => ((stL (L 57) (imin (I 5401) (imax 0 (((v1 + v2) - 2) - (I 5400)))) (x3 + (x1 * (x2).toInt64))).bind fun X4 => mm_run G0 5 35 [some (.ref 54), some (.int v1), some (.int (v2 + 1)), some (.int (imin (I 5401) (imax 0 (((v1 + v2) - 2) - (I 5400))))), some (.long (x1 * (x2).toInt64)), none] [] (HP I A (fu L 57 X4) F E))))))) := by
  match o3, o4 with
  | none, none => exact sg_X0_walkOneStep_35_v00 v1 v2
  | none, some o4 => exact sg_X0_walkOneStep_35_v01 v1 v2 o4
  | some o3, none => exact sg_X0_walkOneStep_35_v10 v1 v2 o3
  | some o3, some o4 => exact sg_X0_walkOneStep_35_v11 v1 v2 o3 o4
set_option maxRecDepth 20000 in
theorem sg_X0_walk_0 {I : Nat → Int32} {A : Nat → List Int32} {L : Nat → List Int64} {F : Nat → Int64} {E : MH} (p1 : Int32) (p2 : Int32) : mm_call G0 4 [.ref 54, .int p1, .int p2] (HP I A L F E) = mm_run G0 4 12 [some (.ref 54), some (.int p1), some (.int p2), some (.int 0)] [] (HP I A L (fu (fu F 5404 0) 5405 1) E) := by
  show mm_run G0 4 0 [some (.ref 54), some (.int p1), some (.int p2), none] [] (HP I A L F E) = _
  refine (sg_go ht_X0_walk (k := 2) (pc' := 2) (L' := [some (.ref 54), some (.int p1), some (.int p2), none]) (st' := [.long 0, .ref 54]) (h' := (HP I A L F E)) rfl).trans ?_
  refine (sg_putL (h' := (HP I A L (fu F 5404 0) E)) ht_X0_walk rfl hp_o_54 (Nat.le_of_ble_eq_true rfl) hp_p_5404).trans ?_
  refine (sg_go ht_X0_walk (k := 2) (pc' := 7) (L' := [some (.ref 54), some (.int p1), some (.int p2), none]) (st' := [.long 1, .ref 54]) (h' := (HP I A L (fu F 5404 0) E)) rfl).trans ?_
  refine (sg_putL (h' := (HP I A L (fu (fu F 5404 0) 5405 1) E)) ht_X0_walk rfl hp_o_54 (Nat.le_of_ble_eq_true rfl) hp_p_5405).trans ?_
  refine (sg_go ht_X0_walk (k := 2) (pc' := 12) (L' := [some (.ref 54), some (.int p1), some (.int p2), some (.int 0)]) (st' := []) (h' := (HP I A L (fu (fu F 5404 0) 5405 1) E)) rfl).trans ?_
  rfl
set_option maxRecDepth 20000 in
theorem sg_X0_walk_12 {I : Nat → Int32} {A : Nat → List Int32} {L : Nat → List Int64} {F : Nat → Int64} {E : MH} (v1 : Int32) (v2 : Int32) (v3 : Int32) : mm_run G0 4 12 [some (.ref 54), some (.int v1), some (.int v2), some (.int v3)] [] (HP I A L F E) = (if (I 5401) ≤ v3 then mm_run G0 4 44 [some (.ref 54), some (.int v1), some (.int v2), some (.int 0)] [] (HP I A L F E) else (if v3 ≠ v1 then ((stL (L 56) v3 0).bind fun X1 => mm_run G0 4 12 [some (.ref 54), some (.int v1), some (.int v2), some (.int (v3 + 1))] [] (HP I A (fu L 56 X1) F E)) else ((stL (L 56) v3 1).bind fun X2 => mm_run G0 4 12 [some (.ref 54), some (.int v1), some (.int v2), some (.int (v3 + 1))] [] (HP I A (fu L 56 X2) F E)))) := by
  refine (sg_go ht_X0_walk (k := 3) (pc' := 17) (L' := [some (.ref 54), some (.int v1), some (.int v2), some (.int v3)]) (st' := [.int (I 5401), .int v3]) (h' := (HP I A L F E)) rfl).trans ?_
  refine (sg_cmp ht_X0_walk rfl).trans ?_
  refine ite_congr rfl (fun _ => ?_) (fun _ => ?_)
  · refine (sg_go ht_X0_walk (k := 2) (pc' := 44) (L' := [some (.ref 54), some (.int v1), some (.int v2), some (.int 0)]) (st' := []) (h' := (HP I A L F E)) rfl).trans ?_
    rfl
  · refine (sg_go ht_X0_walk (k := 5) (pc' := 27) (L' := [some (.ref 54), some (.int v1), some (.int v2), some (.int v3)]) (st' := [.int v1, .int v3, .int v3, .ref 56]) (h' := (HP I A L F E)) rfl).trans ?_
    refine (sg_cmp ht_X0_walk rfl).trans ?_
    refine ite_congr rfl (fun _ => ?_) (fun _ => ?_)
    · refine (sg_go ht_X0_walk (k := 1) (pc' := 35) (L' := [some (.ref 54), some (.int v1), some (.int v2), some (.int v3)]) (st' := [.long 0, .int v3, .ref 56]) (h' := (HP I A L F E)) rfl).trans ?_
      refine (sg_stL (hh := fun X1 => (HP I A (fu L 56 X1) F E)) ht_X0_walk rfl hp_o_56 (fun _ => hp_s_56)).trans ?_
      refine bind_cg fun X1 hX1 => ?_
      refine (sg_go ht_X0_walk (k := 2) (pc' := 12) (L' := [some (.ref 54), some (.int v1), some (.int v2), some (.int (v3 + 1))]) (st' := []) (h' := (HP I A (fu L 56 X1) F E)) rfl).trans ?_
      rfl
    · refine (sg_go ht_X0_walk (k := 2) (pc' := 35) (L' := [some (.ref 54), some (.int v1), some (.int v2), some (.int v3)]) (st' := [.long 1, .int v3, .ref 56]) (h' := (HP I A L F E)) rfl).trans ?_
      refine (sg_stL (hh := fun X2 => (HP I A (fu L 56 X2) F E)) ht_X0_walk rfl hp_o_56 (fun _ => hp_s_56)).trans ?_
      refine bind_cg fun X2 hX2 => ?_
      refine (sg_go ht_X0_walk (k := 2) (pc' := 12) (L' := [some (.ref 54), some (.int v1), some (.int v2), some (.int (v3 + 1))]) (st' := []) (h' := (HP I A (fu L 56 X2) F E)) rfl).trans ?_
      rfl
set_option maxRecDepth 20000 in
theorem sg_X0_walk_44 {I : Nat → Int32} {A : Nat → List Int32} {L : Nat → List Int64} {F : Nat → Int64} {E : MH} (v1 : Int32) (v2 : Int32) (v3 : Int32) : mm_run G0 4 44 [some (.ref 54), some (.int v1), some (.int v2), some (.int v3)] [] (HP I A L F E) = (if v2 ≤ v3 then some (none, (HP I A L F E)) else ((mm_call G0 5 [.ref 54] (HP I A L (fu (fu F 5404 ((F 5404) * ((I 5403)).toInt64)) 5405 ((F 5405) * ((I 5403)).toInt64)) E)).bind fun q => mm_run G0 4 81 [some (.ref 54), some (.int v1), some (.int v2), some (.int v3)] (q.1.toList ++ []) q.2)) := by
  refine (sg_go ht_X0_walk (k := 2) (pc' := 46) (L' := [some (.ref 54), some (.int v1), some (.int v2), some (.int v3)]) (st' := [.int v2, .int v3]) (h' := (HP I A L F E)) rfl).trans ?_
  refine (sg_cmp ht_X0_walk rfl).trans ?_
  refine ite_congr rfl (fun _ => ?_) (fun _ => ?_)
  · exact sg_ret ht_X0_walk rfl rfl
  · refine (sg_go ht_X0_walk (k := 7) (pc' := 60) (L' := [some (.ref 54), some (.int v1), some (.int v2), some (.int v3)]) (st' := [.long ((F 5404) * ((I 5403)).toInt64), .ref 54]) (h' := (HP I A L F E)) rfl).trans ?_
    refine (sg_putL (h' := (HP I A L (fu F 5404 ((F 5404) * ((I 5403)).toInt64)) E)) ht_X0_walk rfl hp_o_54 (Nat.le_of_ble_eq_true rfl) hp_p_5404).trans ?_
    refine (sg_go ht_X0_walk (k := 7) (pc' := 74) (L' := [some (.ref 54), some (.int v1), some (.int v2), some (.int v3)]) (st' := [.long ((F 5405) * ((I 5403)).toInt64), .ref 54]) (h' := (HP I A L (fu F 5404 ((F 5404) * ((I 5403)).toInt64)) E)) rfl).trans ?_
    refine (sg_putL (h' := (HP I A L (fu (fu F 5404 ((F 5404) * ((I 5403)).toInt64)) 5405 ((F 5405) * ((I 5403)).toInt64)) E)) ht_X0_walk rfl hp_o_54 (Nat.le_of_ble_eq_true rfl) hp_p_5405).trans ?_
    refine (sg_go ht_X0_walk (k := 1) (pc' := 78) (L' := [some (.ref 54), some (.int v1), some (.int v2), some (.int v3)]) (st' := [.ref 54]) (h' := (HP I A L (fu (fu F 5404 ((F 5404) * ((I 5403)).toInt64)) 5405 ((F 5405) * ((I 5403)).toInt64)) E)) rfl).trans ?_
    refine (sg_call ht_X0_walk (mj := 5) (as := [.ref 54]) (rest := []) rfl rfl ⟨by decide, Nat.le_of_ble_eq_true rfl⟩).trans ?_
    rfl
set_option maxRecDepth 20000 in
theorem sg_X0_walk_81 {I : Nat → Int32} {A : Nat → List Int32} {L : Nat → List Int64} {F : Nat → Int64} {E : MH} (v1 : Int32) (v2 : Int32) (v3 : Int32) : mm_run G0 4 81 [some (.ref 54), some (.int v1), some (.int v2), some (.int v3)] [] (HP I A L F E) = mm_run G0 4 44 [some (.ref 54), some (.int v1), some (.int v2), some (.int (v3 + 1))] [] (HP I A L F E) := by
  refine (sg_go ht_X0_walk (k := 2) (pc' := 44) (L' := [some (.ref 54), some (.int v1), some (.int v2), some (.int (v3 + 1))]) (st' := []) (h' := (HP I A L F E)) rfl).trans ?_
  rfl
set_option maxRecDepth 20000 in
theorem sg_X0_spread_0 {I : Nat → Int32} {A : Nat → List Int32} {L : Nat → List Int64} {F : Nat → Int64} {E : MH}  : mm_call G0 7 [.ref 54] (HP I A L F E) = mm_run G0 7 2 [some (.ref 54), some (.int 0), none, none] [] (HP I A L F E) := by
  show mm_run G0 7 0 [some (.ref 54), none, none, none] [] (HP I A L F E) = _
  refine (sg_go ht_X0_spread (k := 2) (pc' := 2) (L' := [some (.ref 54), some (.int 0), none, none]) (st' := []) (h' := (HP I A L F E)) rfl).trans ?_
  rfl
set_option maxRecDepth 20000 in
theorem sg_X0_spread_2_v00 {I : Nat → Int32} {A : Nat → List Int32} {L : Nat → List Int64} {F : Nat → Int64} {E : MH} (v1 : Int32) : mm_run G0 7 2 [some (.ref 54), some (.int v1), none, none] [] (HP I A L F E) = (if (I 5401) ≤ v1 then some (none, (HP I A L F E)) else mm_run G0 7 12 [some (.ref 54), some (.int v1), some (.int 0), none] [] (HP I A L F E)) := by
  refine (sg_go ht_X0_spread (k := 3) (pc' := 7) (L' := [some (.ref 54), some (.int v1), none, none]) (st' := [.int (I 5401), .int v1]) (h' := (HP I A L F E)) rfl).trans ?_
  refine (sg_cmp ht_X0_spread rfl).trans ?_
  refine ite_congr rfl (fun _ => ?_) (fun _ => ?_)
  · exact sg_ret ht_X0_spread rfl rfl
  · refine (sg_go ht_X0_spread (k := 2) (pc' := 12) (L' := [some (.ref 54), some (.int v1), some (.int 0), none]) (st' := []) (h' := (HP I A L F E)) rfl).trans ?_
    rfl
set_option maxRecDepth 20000 in
theorem sg_X0_spread_2_v01 {I : Nat → Int32} {A : Nat → List Int32} {L : Nat → List Int64} {F : Nat → Int64} {E : MH} (v1 : Int32) (o3 : Int32) : mm_run G0 7 2 [some (.ref 54), some (.int v1), none, some (.int o3)] [] (HP I A L F E) = (if (I 5401) ≤ v1 then some (none, (HP I A L F E)) else mm_run G0 7 12 [some (.ref 54), some (.int v1), some (.int 0), some (.int o3)] [] (HP I A L F E)) := by
  refine (sg_go ht_X0_spread (k := 3) (pc' := 7) (L' := [some (.ref 54), some (.int v1), none, some (.int o3)]) (st' := [.int (I 5401), .int v1]) (h' := (HP I A L F E)) rfl).trans ?_
  refine (sg_cmp ht_X0_spread rfl).trans ?_
  refine ite_congr rfl (fun _ => ?_) (fun _ => ?_)
  · exact sg_ret ht_X0_spread rfl rfl
  · refine (sg_go ht_X0_spread (k := 2) (pc' := 12) (L' := [some (.ref 54), some (.int v1), some (.int 0), some (.int o3)]) (st' := []) (h' := (HP I A L F E)) rfl).trans ?_
    rfl
set_option maxRecDepth 20000 in
theorem sg_X0_spread_2_v10 {I : Nat → Int32} {A : Nat → List Int32} {L : Nat → List Int64} {F : Nat → Int64} {E : MH} (v1 : Int32) (o2 : Int32) : mm_run G0 7 2 [some (.ref 54), some (.int v1), some (.int o2), none] [] (HP I A L F E) = (if (I 5401) ≤ v1 then some (none, (HP I A L F E)) else mm_run G0 7 12 [some (.ref 54), some (.int v1), some (.int 0), none] [] (HP I A L F E)) := by
  refine (sg_go ht_X0_spread (k := 3) (pc' := 7) (L' := [some (.ref 54), some (.int v1), some (.int o2), none]) (st' := [.int (I 5401), .int v1]) (h' := (HP I A L F E)) rfl).trans ?_
  refine (sg_cmp ht_X0_spread rfl).trans ?_
  refine ite_congr rfl (fun _ => ?_) (fun _ => ?_)
  · exact sg_ret ht_X0_spread rfl rfl
  · refine (sg_go ht_X0_spread (k := 2) (pc' := 12) (L' := [some (.ref 54), some (.int v1), some (.int 0), none]) (st' := []) (h' := (HP I A L F E)) rfl).trans ?_
    rfl
set_option maxRecDepth 20000 in
theorem sg_X0_spread_2_v11 {I : Nat → Int32} {A : Nat → List Int32} {L : Nat → List Int64} {F : Nat → Int64} {E : MH} (v1 : Int32) (o2 : Int32) (o3 : Int32) : mm_run G0 7 2 [some (.ref 54), some (.int v1), some (.int o2), some (.int o3)] [] (HP I A L F E) = (if (I 5401) ≤ v1 then some (none, (HP I A L F E)) else mm_run G0 7 12 [some (.ref 54), some (.int v1), some (.int 0), some (.int o3)] [] (HP I A L F E)) := by
  refine (sg_go ht_X0_spread (k := 3) (pc' := 7) (L' := [some (.ref 54), some (.int v1), some (.int o2), some (.int o3)]) (st' := [.int (I 5401), .int v1]) (h' := (HP I A L F E)) rfl).trans ?_
  refine (sg_cmp ht_X0_spread rfl).trans ?_
  refine ite_congr rfl (fun _ => ?_) (fun _ => ?_)
  · exact sg_ret ht_X0_spread rfl rfl
  · refine (sg_go ht_X0_spread (k := 2) (pc' := 12) (L' := [some (.ref 54), some (.int v1), some (.int 0), some (.int o3)]) (st' := []) (h' := (HP I A L F E)) rfl).trans ?_
    rfl
theorem sg_X0_spread_2 {I : Nat → Int32} {A : Nat → List Int32} {L : Nat → List Int64} {F : Nat → Int64} {E : MH} (v1 : Int32) (o2 : Option Int32) (o3 : Option Int32) : mm_run G0 7 2 [some (.ref 54), some (.int v1), (o2.map Value.int), (o3.map Value.int)] [] (HP I A L F E) = (if (I 5401) ≤ v1 then some (none, (HP I A L F E)) else mm_run G0 7 12 [some (.ref 54), some (.int v1), some (.int 0), (o3.map Value.int)] [] (HP I A L F E)) := by
  match o2, o3 with
  | none, none => exact sg_X0_spread_2_v00 v1
  | none, some o3 => exact sg_X0_spread_2_v01 v1 o3
  | some o2, none => exact sg_X0_spread_2_v10 v1 o2
  | some o2, some o3 => exact sg_X0_spread_2_v11 v1 o2 o3
set_option maxRecDepth 20000 in
theorem sg_X0_spread_12_v0 {I : Nat → Int32} {A : Nat → List Int32} {L : Nat → List Int64} {F : Nat → Int64} {E : MH} (v1 : Int32) (v2 : Int32) : mm_run G0 7 12 [some (.ref 54), some (.int v1), some (.int v2), none] [] (HP I A L F E) = (if 5 ≤ v2 then mm_run G0 7 2 [some (.ref 54), some (.int (v1 + 1)), some (.int v2), none] [] (HP I A L F E) else ((ldI (A 55) v2).bind fun x1 => (if x1 ≠ 0 then (if (I 5401) ≤ (imin (I 5401) (imax 0 (((v1 + v2) - 2) - (I 5400)))) then ((stI (A 59) v1 1).bind fun X2 => (if (I 5401) ≤ (imin (I 5401) (imax 0 (((v1 + v2) - 2) - (I 5400)))) then mm_run G0 7 12 [some (.ref 54), some (.int v1), some (.int (v2 + 1)), some (.int (imin (I 5401) (imax 0 (((v1 + v2) - 2) - (I 5400)))))] [] (HP I (fu A 59 X2) L F E) else ((ldI (A 58) v1).bind fun x3 => (if x3 = 0 then mm_run G0 7 12 [some (.ref 54), some (.int v1), some (.int (v2 + 1)), some (.int (imin (I 5401) (imax 0 (((v1 + v2) - 2) - (I 5400)))))] [] (HP I (fu A 59 X2) L F E) else ((stI (A 58) (imin (I 5401) (imax 0 (((v1 + v2) - 2) - (I 5400)))) 1).bind fun X4 => mm_run G0 7 12 [some (.ref 54), some (.int v1), some (.int (v2 + 1)), some (.int (imin (I 5401) (imax 0 (((v1 + v2) - 2) - (I 5400)))))] [] (HP I (fu (fu A 59 X2) 58 X4) L F E)))))) else ((ldI (A 59) (imin (I 5401) (imax 0 (((v1 + v2) - 2) - (I 5400))))).bind fun x5 => (if x5 = 0 then (if (I 5401) ≤ (imin (I 5401) (imax 0 (((v1 + v2) - 2) - (I 5400)))) then mm_run G0 7 12 [some (.ref 54), some (.int v1), some (.int (v2 + 1)), some (.int (imin (I 5401) (imax 0 (((v1 + v2) - 2) - (I 5400)))))] [] (HP I A L F E) else ((ldI (A 58) v1).bind fun x6 => (if x6 = 0 then mm_run G0 7 12 [some (.ref 54), some (.int v1), some (.int (v2 + 1)), some (.int (imin (I 5401) (imax 0 (((v1 + v2) - 2) - (I 5400)))))] [] (HP I A L F E) else ((stI (A 58) (imin (I 5401) (imax 0 (((v1 + v2) - 2) - (I 5400)))) 1).bind fun X7 => mm_run G0 7 12 [some (.ref 54), some (.int v1), some (.int (v2 + 1)), some (.int (imin (I 5401) (imax 0 (((v1 + v2) - 2) - (I 5400)))))] [] (HP I (fu A 58 X7) L F E))))) else ((stI (A 59) v1 1).bind fun X8 => (if (I 5401) ≤ (imin (I 5401) (imax 0 (((v1 + v2) - 2) - (I 5400)))) then mm_run G0 7 12 [some (.ref 54), some (.int v1), some (.int (v2 + 1)), some (.int (imin (I 5401) (imax 0 (((v1 + v2) - 2) - (I 5400)))))] [] (HP I (fu A 59 X8) L F E) else ((ldI (A 58) v1).bind fun x9 => (if x9 = 0 then mm_run G0 7 12 [some (.ref 54), some (.int v1), some (.int (v2 + 1)), some (.int (imin (I 5401) (imax 0 (((v1 + v2) - 2) - (I 5400)))))] [] (HP I (fu A 59 X8) L F E) else ((stI (A 58) (imin (I 5401) (imax 0 (((v1 + v2) - 2) - (I 5400)))) 1).bind fun X10 => mm_run G0 7 12 [some (.ref 54), some (.int v1), some (.int (v2 + 1)), some (.int (imin (I 5401) (imax 0 (((v1 + v2) - 2) - (I 5400)))))] [] (HP I (fu (fu A 59 X8) 58 X10) L F E))))))))) else mm_run G0 7 12 [some (.ref 54), some (.int v1), some (.int (v2 + 1)), none] [] (HP I A L F E)))) := by
  refine (sg_go ht_X0_spread (k := 2) (pc' := 14) (L' := [some (.ref 54), some (.int v1), some (.int v2), none]) (st' := [.int 5, .int v2]) (h' := (HP I A L F E)) rfl).trans ?_
  refine (sg_cmp ht_X0_spread rfl).trans ?_
  refine ite_congr rfl (fun _ => ?_) (fun _ => ?_)
  · refine (sg_go ht_X0_spread (k := 2) (pc' := 2) (L' := [some (.ref 54), some (.int (v1 + 1)), some (.int v2), none]) (st' := []) (h' := (HP I A L F E)) rfl).trans ?_
    rfl
  · refine (sg_go ht_X0_spread (k := 3) (pc' := 22) (L' := [some (.ref 54), some (.int v1), some (.int v2), none]) (st' := [.int v2, .ref 55]) (h' := (HP I A L F E)) rfl).trans ?_
    refine (sg_ldI ht_X0_spread rfl hp_o_55).trans ?_
    refine bind_cg fun x1 hx1 => ?_
    refine (sg_if ht_X0_spread rfl).trans ?_
    refine ite_congr rfl (fun _ => ?_) (fun _ => ?_)
    · refine (sg_go ht_X0_spread (k := 3) (pc' := 32) (L' := [some (.ref 54), some (.int v1), some (.int v2), none]) (st' := [.int v2, .int v1, .ref 54]) (h' := (HP I A L F E)) rfl).trans ?_
      refine (sg_call ht_X0_spread (mj := 3) (as := [.ref 54, .int v1, .int v2]) (rest := []) rfl rfl ⟨by decide, Nat.le_of_ble_eq_true rfl⟩).trans ?_
      refine (bind_eq (sg_X0_next_0 v1 v2)).trans ?_
      show mm_run G0 7 35 [some (.ref 54), some (.int v1), some (.int v2), none] [.int (imin (I 5401) (imax 0 (((v1 + v2) - 2) - (I 5400))))] (HP I A L F E) = _
      refine (sg_go ht_X0_spread (k := 4) (pc' := 41) (L' := [some (.ref 54), some (.int v1), some (.int v2), some (.int (imin (I 5401) (imax 0 (((v1 + v2) - 2) - (I 5400)))))]) (st' := [.int (I 5401), .int (imin (I 5401) (imax 0 (((v1 + v2) - 2) - (I 5400))))]) (h' := (HP I A L F E)) rfl).trans ?_
      refine (sg_cmp ht_X0_spread rfl).trans ?_
      refine ite_congr rfl (fun _ => ?_) (fun _ => ?_)
      · refine (sg_go ht_X0_spread (k := 4) (pc' := 59) (L' := [some (.ref 54), some (.int v1), some (.int v2), some (.int (imin (I 5401) (imax 0 (((v1 + v2) - 2) - (I 5400)))))]) (st' := [.int 1, .int v1, .ref 59]) (h' := (HP I A L F E)) rfl).trans ?_
        refine (sg_stZ (hh := fun X2 => (HP I (fu A 59 X2) L F E)) ht_X0_spread (by decide) rfl hp_o_59 (fun _ => hp_s_59)).trans ?_
        refine bind_cg fun X2 hX2 => ?_
        refine (sg_go ht_X0_spread (k := 3) (pc' := 65) (L' := [some (.ref 54), some (.int v1), some (.int v2), some (.int (imin (I 5401) (imax 0 (((v1 + v2) - 2) - (I 5400)))))]) (st' := [.int (I 5401), .int (imin (I 5401) (imax 0 (((v1 + v2) - 2) - (I 5400))))]) (h' := (HP I (fu A 59 X2) L F E)) rfl).trans ?_
        refine (sg_cmp ht_X0_spread rfl).trans ?_
        refine ite_congr rfl (fun _ => ?_) (fun _ => ?_)
        · refine (sg_go ht_X0_spread (k := 2) (pc' := 12) (L' := [some (.ref 54), some (.int v1), some (.int (v2 + 1)), some (.int (imin (I 5401) (imax 0 (((v1 + v2) - 2) - (I 5400)))))]) (st' := []) (h' := (HP I (fu A 59 X2) L F E)) rfl).trans ?_
          rfl
        · refine (sg_go ht_X0_spread (k := 3) (pc' := 73) (L' := [some (.ref 54), some (.int v1), some (.int v2), some (.int (imin (I 5401) (imax 0 (((v1 + v2) - 2) - (I 5400)))))]) (st' := [.int v1, .ref 58]) (h' := (HP I (fu A 59 X2) L F E)) rfl).trans ?_
          refine (sg_ldI ht_X0_spread rfl hp_o_58).trans ?_
          refine bind_cg fun x3 hx3 => ?_
          refine (sg_if ht_X0_spread rfl).trans ?_
          refine ite_congr rfl (fun _ => ?_) (fun _ => ?_)
          · refine (sg_go ht_X0_spread (k := 2) (pc' := 12) (L' := [some (.ref 54), some (.int v1), some (.int (v2 + 1)), some (.int (imin (I 5401) (imax 0 (((v1 + v2) - 2) - (I 5400)))))]) (st' := []) (h' := (HP I (fu A 59 X2) L F E)) rfl).trans ?_
            rfl
          · refine (sg_go ht_X0_spread (k := 4) (pc' := 83) (L' := [some (.ref 54), some (.int v1), some (.int v2), some (.int (imin (I 5401) (imax 0 (((v1 + v2) - 2) - (I 5400)))))]) (st' := [.int 1, .int (imin (I 5401) (imax 0 (((v1 + v2) - 2) - (I 5400)))), .ref 58]) (h' := (HP I (fu A 59 X2) L F E)) rfl).trans ?_
            refine (sg_stZ (hh := fun X4 => (HP I (fu (fu A 59 X2) 58 X4) L F E)) ht_X0_spread (by decide) rfl hp_o_58 (fun _ => hp_s_58)).trans ?_
            refine bind_cg fun X4 hX4 => ?_
            refine (sg_go ht_X0_spread (k := 2) (pc' := 12) (L' := [some (.ref 54), some (.int v1), some (.int (v2 + 1)), some (.int (imin (I 5401) (imax 0 (((v1 + v2) - 2) - (I 5400)))))]) (st' := []) (h' := (HP I (fu (fu A 59 X2) 58 X4) L F E)) rfl).trans ?_
            rfl
      · refine (sg_go ht_X0_spread (k := 3) (pc' := 49) (L' := [some (.ref 54), some (.int v1), some (.int v2), some (.int (imin (I 5401) (imax 0 (((v1 + v2) - 2) - (I 5400)))))]) (st' := [.int (imin (I 5401) (imax 0 (((v1 + v2) - 2) - (I 5400)))), .ref 59]) (h' := (HP I A L F E)) rfl).trans ?_
        refine (sg_ldI ht_X0_spread rfl hp_o_59).trans ?_
        refine bind_cg fun x5 hx5 => ?_
        refine (sg_if ht_X0_spread rfl).trans ?_
        refine ite_congr rfl (fun _ => ?_) (fun _ => ?_)
        · refine (sg_go ht_X0_spread (k := 3) (pc' := 65) (L' := [some (.ref 54), some (.int v1), some (.int v2), some (.int (imin (I 5401) (imax 0 (((v1 + v2) - 2) - (I 5400)))))]) (st' := [.int (I 5401), .int (imin (I 5401) (imax 0 (((v1 + v2) - 2) - (I 5400))))]) (h' := (HP I A L F E)) rfl).trans ?_
          refine (sg_cmp ht_X0_spread rfl).trans ?_
          refine ite_congr rfl (fun _ => ?_) (fun _ => ?_)
          · refine (sg_go ht_X0_spread (k := 2) (pc' := 12) (L' := [some (.ref 54), some (.int v1), some (.int (v2 + 1)), some (.int (imin (I 5401) (imax 0 (((v1 + v2) - 2) - (I 5400)))))]) (st' := []) (h' := (HP I A L F E)) rfl).trans ?_
            rfl
          · refine (sg_go ht_X0_spread (k := 3) (pc' := 73) (L' := [some (.ref 54), some (.int v1), some (.int v2), some (.int (imin (I 5401) (imax 0 (((v1 + v2) - 2) - (I 5400)))))]) (st' := [.int v1, .ref 58]) (h' := (HP I A L F E)) rfl).trans ?_
            refine (sg_ldI ht_X0_spread rfl hp_o_58).trans ?_
            refine bind_cg fun x6 hx6 => ?_
            refine (sg_if ht_X0_spread rfl).trans ?_
            refine ite_congr rfl (fun _ => ?_) (fun _ => ?_)
            · refine (sg_go ht_X0_spread (k := 2) (pc' := 12) (L' := [some (.ref 54), some (.int v1), some (.int (v2 + 1)), some (.int (imin (I 5401) (imax 0 (((v1 + v2) - 2) - (I 5400)))))]) (st' := []) (h' := (HP I A L F E)) rfl).trans ?_
              rfl
            · refine (sg_go ht_X0_spread (k := 4) (pc' := 83) (L' := [some (.ref 54), some (.int v1), some (.int v2), some (.int (imin (I 5401) (imax 0 (((v1 + v2) - 2) - (I 5400)))))]) (st' := [.int 1, .int (imin (I 5401) (imax 0 (((v1 + v2) - 2) - (I 5400)))), .ref 58]) (h' := (HP I A L F E)) rfl).trans ?_
              refine (sg_stZ (hh := fun X7 => (HP I (fu A 58 X7) L F E)) ht_X0_spread (by decide) rfl hp_o_58 (fun _ => hp_s_58)).trans ?_
              refine bind_cg fun X7 hX7 => ?_
              refine (sg_go ht_X0_spread (k := 2) (pc' := 12) (L' := [some (.ref 54), some (.int v1), some (.int (v2 + 1)), some (.int (imin (I 5401) (imax 0 (((v1 + v2) - 2) - (I 5400)))))]) (st' := []) (h' := (HP I (fu A 58 X7) L F E)) rfl).trans ?_
              rfl
        · refine (sg_go ht_X0_spread (k := 4) (pc' := 59) (L' := [some (.ref 54), some (.int v1), some (.int v2), some (.int (imin (I 5401) (imax 0 (((v1 + v2) - 2) - (I 5400)))))]) (st' := [.int 1, .int v1, .ref 59]) (h' := (HP I A L F E)) rfl).trans ?_
          refine (sg_stZ (hh := fun X8 => (HP I (fu A 59 X8) L F E)) ht_X0_spread (by decide) rfl hp_o_59 (fun _ => hp_s_59)).trans ?_
          refine bind_cg fun X8 hX8 => ?_
          refine (sg_go ht_X0_spread (k := 3) (pc' := 65) (L' := [some (.ref 54), some (.int v1), some (.int v2), some (.int (imin (I 5401) (imax 0 (((v1 + v2) - 2) - (I 5400)))))]) (st' := [.int (I 5401), .int (imin (I 5401) (imax 0 (((v1 + v2) - 2) - (I 5400))))]) (h' := (HP I (fu A 59 X8) L F E)) rfl).trans ?_
          refine (sg_cmp ht_X0_spread rfl).trans ?_
          refine ite_congr rfl (fun _ => ?_) (fun _ => ?_)
          · refine (sg_go ht_X0_spread (k := 2) (pc' := 12) (L' := [some (.ref 54), some (.int v1), some (.int (v2 + 1)), some (.int (imin (I 5401) (imax 0 (((v1 + v2) - 2) - (I 5400)))))]) (st' := []) (h' := (HP I (fu A 59 X8) L F E)) rfl).trans ?_
            rfl
          · refine (sg_go ht_X0_spread (k := 3) (pc' := 73) (L' := [some (.ref 54), some (.int v1), some (.int v2), some (.int (imin (I 5401) (imax 0 (((v1 + v2) - 2) - (I 5400)))))]) (st' := [.int v1, .ref 58]) (h' := (HP I (fu A 59 X8) L F E)) rfl).trans ?_
            refine (sg_ldI ht_X0_spread rfl hp_o_58).trans ?_
            refine bind_cg fun x9 hx9 => ?_
            refine (sg_if ht_X0_spread rfl).trans ?_
            refine ite_congr rfl (fun _ => ?_) (fun _ => ?_)
            · refine (sg_go ht_X0_spread (k := 2) (pc' := 12) (L' := [some (.ref 54), some (.int v1), some (.int (v2 + 1)), some (.int (imin (I 5401) (imax 0 (((v1 + v2) - 2) - (I 5400)))))]) (st' := []) (h' := (HP I (fu A 59 X8) L F E)) rfl).trans ?_
              rfl
            · refine (sg_go ht_X0_spread (k := 4) (pc' := 83) (L' := [some (.ref 54), some (.int v1), some (.int v2), some (.int (imin (I 5401) (imax 0 (((v1 + v2) - 2) - (I 5400)))))]) (st' := [.int 1, .int (imin (I 5401) (imax 0 (((v1 + v2) - 2) - (I 5400)))), .ref 58]) (h' := (HP I (fu A 59 X8) L F E)) rfl).trans ?_
              refine (sg_stZ (hh := fun X10 => (HP I (fu (fu A 59 X8) 58 X10) L F E)) ht_X0_spread (by decide) rfl hp_o_58 (fun _ => hp_s_58)).trans ?_
              refine bind_cg fun X10 hX10 => ?_
              refine (sg_go ht_X0_spread (k := 2) (pc' := 12) (L' := [some (.ref 54), some (.int v1), some (.int (v2 + 1)), some (.int (imin (I 5401) (imax 0 (((v1 + v2) - 2) - (I 5400)))))]) (st' := []) (h' := (HP I (fu (fu A 59 X8) 58 X10) L F E)) rfl).trans ?_
              rfl
    · refine (sg_go ht_X0_spread (k := 3) (pc' := 12) (L' := [some (.ref 54), some (.int v1), some (.int (v2 + 1)), none]) (st' := []) (h' := (HP I A L F E)) rfl).trans ?_
      rfl
set_option maxRecDepth 20000 in
theorem sg_X0_spread_12_v1 {I : Nat → Int32} {A : Nat → List Int32} {L : Nat → List Int64} {F : Nat → Int64} {E : MH} (v1 : Int32) (v2 : Int32) (o3 : Int32) : mm_run G0 7 12 [some (.ref 54), some (.int v1), some (.int v2), some (.int o3)] [] (HP I A L F E) = (if 5 ≤ v2 then mm_run G0 7 2 [some (.ref 54), some (.int (v1 + 1)), some (.int v2), some (.int o3)] [] (HP I A L F E) else ((ldI (A 55) v2).bind fun x1 => (if x1 ≠ 0 then (if (I 5401) ≤ (imin (I 5401) (imax 0 (((v1 + v2) - 2) - (I 5400)))) then ((stI (A 59) v1 1).bind fun X2 => (if (I 5401) ≤ (imin (I 5401) (imax 0 (((v1 + v2) - 2) - (I 5400)))) then mm_run G0 7 12 [some (.ref 54), some (.int v1), some (.int (v2 + 1)), some (.int (imin (I 5401) (imax 0 (((v1 + v2) - 2) - (I 5400)))))] [] (HP I (fu A 59 X2) L F E) else ((ldI (A 58) v1).bind fun x3 => (if x3 = 0 then mm_run G0 7 12 [some (.ref 54), some (.int v1), some (.int (v2 + 1)), some (.int (imin (I 5401) (imax 0 (((v1 + v2) - 2) - (I 5400)))))] [] (HP I (fu A 59 X2) L F E) else ((stI (A 58) (imin (I 5401) (imax 0 (((v1 + v2) - 2) - (I 5400)))) 1).bind fun X4 => mm_run G0 7 12 [some (.ref 54), some (.int v1), some (.int (v2 + 1)), some (.int (imin (I 5401) (imax 0 (((v1 + v2) - 2) - (I 5400)))))] [] (HP I (fu (fu A 59 X2) 58 X4) L F E)))))) else ((ldI (A 59) (imin (I 5401) (imax 0 (((v1 + v2) - 2) - (I 5400))))).bind fun x5 => (if x5 = 0 then (if (I 5401) ≤ (imin (I 5401) (imax 0 (((v1 + v2) - 2) - (I 5400)))) then mm_run G0 7 12 [some (.ref 54), some (.int v1), some (.int (v2 + 1)), some (.int (imin (I 5401) (imax 0 (((v1 + v2) - 2) - (I 5400)))))] [] (HP I A L F E) else ((ldI (A 58) v1).bind fun x6 => (if x6 = 0 then mm_run G0 7 12 [some (.ref 54), some (.int v1), some (.int (v2 + 1)), some (.int (imin (I 5401) (imax 0 (((v1 + v2) - 2) - (I 5400)))))] [] (HP I A L F E) else ((stI (A 58) (imin (I 5401) (imax 0 (((v1 + v2) - 2) - (I 5400)))) 1).bind fun X7 => mm_run G0 7 12 [some (.ref 54), some (.int v1), some (.int (v2 + 1)), some (.int (imin (I 5401) (imax 0 (((v1 + v2) - 2) - (I 5400)))))] [] (HP I (fu A 58 X7) L F E))))) else ((stI (A 59) v1 1).bind fun X8 => (if (I 5401) ≤ (imin (I 5401) (imax 0 (((v1 + v2) - 2) - (I 5400)))) then mm_run G0 7 12 [some (.ref 54), some (.int v1), some (.int (v2 + 1)), some (.int (imin (I 5401) (imax 0 (((v1 + v2) - 2) - (I 5400)))))] [] (HP I (fu A 59 X8) L F E) else ((ldI (A 58) v1).bind fun x9 => (if x9 = 0 then mm_run G0 7 12 [some (.ref 54), some (.int v1), some (.int (v2 + 1)), some (.int (imin (I 5401) (imax 0 (((v1 + v2) - 2) - (I 5400)))))] [] (HP I (fu A 59 X8) L F E) else ((stI (A 58) (imin (I 5401) (imax 0 (((v1 + v2) - 2) - (I 5400)))) 1).bind fun X10 => mm_run G0 7 12 [some (.ref 54), some (.int v1), some (.int (v2 + 1)), some (.int (imin (I 5401) (imax 0 (((v1 + v2) - 2) - (I 5400)))))] [] (HP I (fu (fu A 59 X8) 58 X10) L F E))))))))) else mm_run G0 7 12 [some (.ref 54), some (.int v1), some (.int (v2 + 1)), some (.int o3)] [] (HP I A L F E)))) := by
  refine (sg_go ht_X0_spread (k := 2) (pc' := 14) (L' := [some (.ref 54), some (.int v1), some (.int v2), some (.int o3)]) (st' := [.int 5, .int v2]) (h' := (HP I A L F E)) rfl).trans ?_
  refine (sg_cmp ht_X0_spread rfl).trans ?_
  refine ite_congr rfl (fun _ => ?_) (fun _ => ?_)
  · refine (sg_go ht_X0_spread (k := 2) (pc' := 2) (L' := [some (.ref 54), some (.int (v1 + 1)), some (.int v2), some (.int o3)]) (st' := []) (h' := (HP I A L F E)) rfl).trans ?_
    rfl
  · refine (sg_go ht_X0_spread (k := 3) (pc' := 22) (L' := [some (.ref 54), some (.int v1), some (.int v2), some (.int o3)]) (st' := [.int v2, .ref 55]) (h' := (HP I A L F E)) rfl).trans ?_
    refine (sg_ldI ht_X0_spread rfl hp_o_55).trans ?_
    refine bind_cg fun x1 hx1 => ?_
    refine (sg_if ht_X0_spread rfl).trans ?_
    refine ite_congr rfl (fun _ => ?_) (fun _ => ?_)
    · refine (sg_go ht_X0_spread (k := 3) (pc' := 32) (L' := [some (.ref 54), some (.int v1), some (.int v2), some (.int o3)]) (st' := [.int v2, .int v1, .ref 54]) (h' := (HP I A L F E)) rfl).trans ?_
      refine (sg_call ht_X0_spread (mj := 3) (as := [.ref 54, .int v1, .int v2]) (rest := []) rfl rfl ⟨by decide, Nat.le_of_ble_eq_true rfl⟩).trans ?_
      refine (bind_eq (sg_X0_next_0 v1 v2)).trans ?_
      show mm_run G0 7 35 [some (.ref 54), some (.int v1), some (.int v2), some (.int o3)] [.int (imin (I 5401) (imax 0 (((v1 + v2) - 2) - (I 5400))))] (HP I A L F E) = _
      refine (sg_go ht_X0_spread (k := 4) (pc' := 41) (L' := [some (.ref 54), some (.int v1), some (.int v2), some (.int (imin (I 5401) (imax 0 (((v1 + v2) - 2) - (I 5400)))))]) (st' := [.int (I 5401), .int (imin (I 5401) (imax 0 (((v1 + v2) - 2) - (I 5400))))]) (h' := (HP I A L F E)) rfl).trans ?_
      refine (sg_cmp ht_X0_spread rfl).trans ?_
      refine ite_congr rfl (fun _ => ?_) (fun _ => ?_)
      · refine (sg_go ht_X0_spread (k := 4) (pc' := 59) (L' := [some (.ref 54), some (.int v1), some (.int v2), some (.int (imin (I 5401) (imax 0 (((v1 + v2) - 2) - (I 5400)))))]) (st' := [.int 1, .int v1, .ref 59]) (h' := (HP I A L F E)) rfl).trans ?_
        refine (sg_stZ (hh := fun X2 => (HP I (fu A 59 X2) L F E)) ht_X0_spread (by decide) rfl hp_o_59 (fun _ => hp_s_59)).trans ?_
        refine bind_cg fun X2 hX2 => ?_
        refine (sg_go ht_X0_spread (k := 3) (pc' := 65) (L' := [some (.ref 54), some (.int v1), some (.int v2), some (.int (imin (I 5401) (imax 0 (((v1 + v2) - 2) - (I 5400)))))]) (st' := [.int (I 5401), .int (imin (I 5401) (imax 0 (((v1 + v2) - 2) - (I 5400))))]) (h' := (HP I (fu A 59 X2) L F E)) rfl).trans ?_
        refine (sg_cmp ht_X0_spread rfl).trans ?_
        refine ite_congr rfl (fun _ => ?_) (fun _ => ?_)
        · refine (sg_go ht_X0_spread (k := 2) (pc' := 12) (L' := [some (.ref 54), some (.int v1), some (.int (v2 + 1)), some (.int (imin (I 5401) (imax 0 (((v1 + v2) - 2) - (I 5400)))))]) (st' := []) (h' := (HP I (fu A 59 X2) L F E)) rfl).trans ?_
          rfl
        · refine (sg_go ht_X0_spread (k := 3) (pc' := 73) (L' := [some (.ref 54), some (.int v1), some (.int v2), some (.int (imin (I 5401) (imax 0 (((v1 + v2) - 2) - (I 5400)))))]) (st' := [.int v1, .ref 58]) (h' := (HP I (fu A 59 X2) L F E)) rfl).trans ?_
          refine (sg_ldI ht_X0_spread rfl hp_o_58).trans ?_
          refine bind_cg fun x3 hx3 => ?_
          refine (sg_if ht_X0_spread rfl).trans ?_
          refine ite_congr rfl (fun _ => ?_) (fun _ => ?_)
          · refine (sg_go ht_X0_spread (k := 2) (pc' := 12) (L' := [some (.ref 54), some (.int v1), some (.int (v2 + 1)), some (.int (imin (I 5401) (imax 0 (((v1 + v2) - 2) - (I 5400)))))]) (st' := []) (h' := (HP I (fu A 59 X2) L F E)) rfl).trans ?_
            rfl
          · refine (sg_go ht_X0_spread (k := 4) (pc' := 83) (L' := [some (.ref 54), some (.int v1), some (.int v2), some (.int (imin (I 5401) (imax 0 (((v1 + v2) - 2) - (I 5400)))))]) (st' := [.int 1, .int (imin (I 5401) (imax 0 (((v1 + v2) - 2) - (I 5400)))), .ref 58]) (h' := (HP I (fu A 59 X2) L F E)) rfl).trans ?_
            refine (sg_stZ (hh := fun X4 => (HP I (fu (fu A 59 X2) 58 X4) L F E)) ht_X0_spread (by decide) rfl hp_o_58 (fun _ => hp_s_58)).trans ?_
            refine bind_cg fun X4 hX4 => ?_
            refine (sg_go ht_X0_spread (k := 2) (pc' := 12) (L' := [some (.ref 54), some (.int v1), some (.int (v2 + 1)), some (.int (imin (I 5401) (imax 0 (((v1 + v2) - 2) - (I 5400)))))]) (st' := []) (h' := (HP I (fu (fu A 59 X2) 58 X4) L F E)) rfl).trans ?_
            rfl
      · refine (sg_go ht_X0_spread (k := 3) (pc' := 49) (L' := [some (.ref 54), some (.int v1), some (.int v2), some (.int (imin (I 5401) (imax 0 (((v1 + v2) - 2) - (I 5400)))))]) (st' := [.int (imin (I 5401) (imax 0 (((v1 + v2) - 2) - (I 5400)))), .ref 59]) (h' := (HP I A L F E)) rfl).trans ?_
        refine (sg_ldI ht_X0_spread rfl hp_o_59).trans ?_
        refine bind_cg fun x5 hx5 => ?_
        refine (sg_if ht_X0_spread rfl).trans ?_
        refine ite_congr rfl (fun _ => ?_) (fun _ => ?_)
        · refine (sg_go ht_X0_spread (k := 3) (pc' := 65) (L' := [some (.ref 54), some (.int v1), some (.int v2), some (.int (imin (I 5401) (imax 0 (((v1 + v2) - 2) - (I 5400)))))]) (st' := [.int (I 5401), .int (imin (I 5401) (imax 0 (((v1 + v2) - 2) - (I 5400))))]) (h' := (HP I A L F E)) rfl).trans ?_
          refine (sg_cmp ht_X0_spread rfl).trans ?_
          refine ite_congr rfl (fun _ => ?_) (fun _ => ?_)
          · refine (sg_go ht_X0_spread (k := 2) (pc' := 12) (L' := [some (.ref 54), some (.int v1), some (.int (v2 + 1)), some (.int (imin (I 5401) (imax 0 (((v1 + v2) - 2) - (I 5400)))))]) (st' := []) (h' := (HP I A L F E)) rfl).trans ?_
            rfl
          · refine (sg_go ht_X0_spread (k := 3) (pc' := 73) (L' := [some (.ref 54), some (.int v1), some (.int v2), some (.int (imin (I 5401) (imax 0 (((v1 + v2) - 2) - (I 5400)))))]) (st' := [.int v1, .ref 58]) (h' := (HP I A L F E)) rfl).trans ?_
            refine (sg_ldI ht_X0_spread rfl hp_o_58).trans ?_
            refine bind_cg fun x6 hx6 => ?_
            refine (sg_if ht_X0_spread rfl).trans ?_
            refine ite_congr rfl (fun _ => ?_) (fun _ => ?_)
            · refine (sg_go ht_X0_spread (k := 2) (pc' := 12) (L' := [some (.ref 54), some (.int v1), some (.int (v2 + 1)), some (.int (imin (I 5401) (imax 0 (((v1 + v2) - 2) - (I 5400)))))]) (st' := []) (h' := (HP I A L F E)) rfl).trans ?_
              rfl
            · refine (sg_go ht_X0_spread (k := 4) (pc' := 83) (L' := [some (.ref 54), some (.int v1), some (.int v2), some (.int (imin (I 5401) (imax 0 (((v1 + v2) - 2) - (I 5400)))))]) (st' := [.int 1, .int (imin (I 5401) (imax 0 (((v1 + v2) - 2) - (I 5400)))), .ref 58]) (h' := (HP I A L F E)) rfl).trans ?_
              refine (sg_stZ (hh := fun X7 => (HP I (fu A 58 X7) L F E)) ht_X0_spread (by decide) rfl hp_o_58 (fun _ => hp_s_58)).trans ?_
              refine bind_cg fun X7 hX7 => ?_
              refine (sg_go ht_X0_spread (k := 2) (pc' := 12) (L' := [some (.ref 54), some (.int v1), some (.int (v2 + 1)), some (.int (imin (I 5401) (imax 0 (((v1 + v2) - 2) - (I 5400)))))]) (st' := []) (h' := (HP I (fu A 58 X7) L F E)) rfl).trans ?_
              rfl
        · refine (sg_go ht_X0_spread (k := 4) (pc' := 59) (L' := [some (.ref 54), some (.int v1), some (.int v2), some (.int (imin (I 5401) (imax 0 (((v1 + v2) - 2) - (I 5400)))))]) (st' := [.int 1, .int v1, .ref 59]) (h' := (HP I A L F E)) rfl).trans ?_
          refine (sg_stZ (hh := fun X8 => (HP I (fu A 59 X8) L F E)) ht_X0_spread (by decide) rfl hp_o_59 (fun _ => hp_s_59)).trans ?_
          refine bind_cg fun X8 hX8 => ?_
          refine (sg_go ht_X0_spread (k := 3) (pc' := 65) (L' := [some (.ref 54), some (.int v1), some (.int v2), some (.int (imin (I 5401) (imax 0 (((v1 + v2) - 2) - (I 5400)))))]) (st' := [.int (I 5401), .int (imin (I 5401) (imax 0 (((v1 + v2) - 2) - (I 5400))))]) (h' := (HP I (fu A 59 X8) L F E)) rfl).trans ?_
          refine (sg_cmp ht_X0_spread rfl).trans ?_
          refine ite_congr rfl (fun _ => ?_) (fun _ => ?_)
          · refine (sg_go ht_X0_spread (k := 2) (pc' := 12) (L' := [some (.ref 54), some (.int v1), some (.int (v2 + 1)), some (.int (imin (I 5401) (imax 0 (((v1 + v2) - 2) - (I 5400)))))]) (st' := []) (h' := (HP I (fu A 59 X8) L F E)) rfl).trans ?_
            rfl
          · refine (sg_go ht_X0_spread (k := 3) (pc' := 73) (L' := [some (.ref 54), some (.int v1), some (.int v2), some (.int (imin (I 5401) (imax 0 (((v1 + v2) - 2) - (I 5400)))))]) (st' := [.int v1, .ref 58]) (h' := (HP I (fu A 59 X8) L F E)) rfl).trans ?_
            refine (sg_ldI ht_X0_spread rfl hp_o_58).trans ?_
            refine bind_cg fun x9 hx9 => ?_
            refine (sg_if ht_X0_spread rfl).trans ?_
            refine ite_congr rfl (fun _ => ?_) (fun _ => ?_)
            · refine (sg_go ht_X0_spread (k := 2) (pc' := 12) (L' := [some (.ref 54), some (.int v1), some (.int (v2 + 1)), some (.int (imin (I 5401) (imax 0 (((v1 + v2) - 2) - (I 5400)))))]) (st' := []) (h' := (HP I (fu A 59 X8) L F E)) rfl).trans ?_
              rfl
            · refine (sg_go ht_X0_spread (k := 4) (pc' := 83) (L' := [some (.ref 54), some (.int v1), some (.int v2), some (.int (imin (I 5401) (imax 0 (((v1 + v2) - 2) - (I 5400)))))]) (st' := [.int 1, .int (imin (I 5401) (imax 0 (((v1 + v2) - 2) - (I 5400)))), .ref 58]) (h' := (HP I (fu A 59 X8) L F E)) rfl).trans ?_
              refine (sg_stZ (hh := fun X10 => (HP I (fu (fu A 59 X8) 58 X10) L F E)) ht_X0_spread (by decide) rfl hp_o_58 (fun _ => hp_s_58)).trans ?_
              refine bind_cg fun X10 hX10 => ?_
              refine (sg_go ht_X0_spread (k := 2) (pc' := 12) (L' := [some (.ref 54), some (.int v1), some (.int (v2 + 1)), some (.int (imin (I 5401) (imax 0 (((v1 + v2) - 2) - (I 5400)))))]) (st' := []) (h' := (HP I (fu (fu A 59 X8) 58 X10) L F E)) rfl).trans ?_
              rfl
    · refine (sg_go ht_X0_spread (k := 3) (pc' := 12) (L' := [some (.ref 54), some (.int v1), some (.int (v2 + 1)), some (.int o3)]) (st' := []) (h' := (HP I A L F E)) rfl).trans ?_
      rfl
theorem sg_X0_spread_12 {I : Nat → Int32} {A : Nat → List Int32} {L : Nat → List Int64} {F : Nat → Int64} {E : MH} (v1 : Int32) (v2 : Int32) (o3 : Option Int32) : mm_run G0 7 12 [some (.ref 54), some (.int v1), some (.int v2), (o3.map Value.int)] [] (HP I A L F E) = (if 5 ≤ v2 then mm_run G0 7 2 [some (.ref 54), some (.int (v1 + 1)), some (.int v2), (o3.map Value.int)] [] (HP I A L F E) else ((ldI (A 55) v2).bind fun x1 => (if x1 ≠ 0 then (if (I 5401) ≤ (imin (I 5401) (imax 0 (((v1 + v2) - 2) - (I 5400)))) then ((stI (A 59) v1 1).bind fun X2 => (if (I 5401) ≤ (imin (I 5401) (imax 0 (((v1 + v2) - 2) - (I 5400)))) then mm_run G0 7 12 [some (.ref 54), some (.int v1), some (.int (v2 + 1)), some (.int (imin (I 5401) (imax 0 (((v1 + v2) - 2) - (I 5400)))))] [] (HP I (fu A 59 X2) L F E) else ((ldI (A 58) v1).bind fun x3 => (if x3 = 0 then mm_run G0 7 12 [some (.ref 54), some (.int v1), some (.int (v2 + 1)), some (.int (imin (I 5401) (imax 0 (((v1 + v2) - 2) - (I 5400)))))] [] (HP I (fu A 59 X2) L F E) else ((stI (A 58) (imin (I 5401) (imax 0 (((v1 + v2) - 2) - (I 5400)))) 1).bind fun X4 => mm_run G0 7 12 [some (.ref 54), some (.int v1), some (.int (v2 + 1)), some (.int (imin (I 5401) (imax 0 (((v1 + v2) - 2) - (I 5400)))))] [] (HP I (fu (fu A 59 X2) 58 X4) L F E)))))) else ((ldI (A 59) (imin (I 5401) (imax 0 (((v1 + v2) - 2) - (I 5400))))).bind fun x5 => (if x5 = 0 then (if (I 5401) ≤ (imin (I 5401) (imax 0 (((v1 + v2) - 2) - (I 5400)))) then mm_run G0 7 12 [some (.ref 54), some (.int v1), some (.int (v2 + 1)), some (.int (imin (I 5401) (imax 0 (((v1 + v2) - 2) - (I 5400)))))] [] (HP I A L F E) else ((ldI (A 58) v1).bind fun x6 => (if x6 = 0 then mm_run G0 7 12 [some (.ref 54), some (.int v1), some (.int (v2 + 1)), some (.int (imin (I 5401) (imax 0 (((v1 + v2) - 2) - (I 5400)))))] [] (HP I A L F E) else ((stI (A 58) (imin (I 5401) (imax 0 (((v1 + v2) - 2) - (I 5400)))) 1).bind fun X7 => mm_run G0 7 12 [some (.ref 54), some (.int v1), some (.int (v2 + 1)), some (.int (imin (I 5401) (imax 0 (((v1 + v2) - 2) - (I 5400)))))] [] (HP I (fu A 58 X7) L F E))))) else ((stI (A 59) v1 1).bind fun X8 => (if (I 5401) ≤ (imin (I 5401) (imax 0 (((v1 + v2) - 2) - (I 5400)))) then mm_run G0 7 12 [some (.ref 54), some (.int v1), some (.int (v2 + 1)), some (.int (imin (I 5401) (imax 0 (((v1 + v2) - 2) - (I 5400)))))] [] (HP I (fu A 59 X8) L F E) else ((ldI (A 58) v1).bind fun x9 => (if x9 = 0 then mm_run G0 7 12 [some (.ref 54), some (.int v1), some (.int (v2 + 1)), some (.int (imin (I 5401) (imax 0 (((v1 + v2) - 2) - (I 5400)))))] [] (HP I (fu A 59 X8) L F E) else ((stI (A 58) (imin (I 5401) (imax 0 (((v1 + v2) - 2) - (I 5400)))) 1).bind fun X10 => mm_run G0 7 12 [some (.ref 54), some (.int v1), some (.int (v2 + 1)), some (.int (imin (I 5401) (imax 0 (((v1 + v2) - 2) - (I 5400)))))] [] (HP I (fu (fu A 59 X8) 58 X10) L F E))))))))) else mm_run G0 7 12 [some (.ref 54), some (.int v1), some (.int (v2 + 1)), (o3.map Value.int)] [] (HP I A L F E)))) := by
  match o3 with
  | none => exact sg_X0_spread_12_v0 v1 v2
  | some o3 => exact sg_X0_spread_12_v1 v1 v2 o3
set_option maxRecDepth 20000 in
theorem sg_X0_surelyEnds_0 {I : Nat → Int32} {A : Nat → List Int32} {L : Nat → List Int64} {F : Nat → Int64} {E : MH} (p1 : Int32) : mm_call G0 6 [.ref 54, .int p1] (HP I A L F E) = mm_run G0 6 2 [some (.ref 54), some (.int p1), some (.int 0)] [] (HP I A L F E) := by
  show mm_run G0 6 0 [some (.ref 54), some (.int p1), none] [] (HP I A L F E) = _
  refine (sg_go ht_X0_surelyEnds (k := 2) (pc' := 2) (L' := [some (.ref 54), some (.int p1), some (.int 0)]) (st' := []) (h' := (HP I A L F E)) rfl).trans ?_
  rfl
set_option maxRecDepth 20000 in
theorem sg_X0_surelyEnds_2 {I : Nat → Int32} {A : Nat → List Int32} {L : Nat → List Int64} {F : Nat → Int64} {E : MH} (v1 : Int32) (v2 : Int32) : mm_run G0 6 2 [some (.ref 54), some (.int v1), some (.int v2)] [] (HP I A L F E) = (if (I 5401) ≤ v2 then mm_run G0 6 41 [some (.ref 54), some (.int v1), some (.int 0)] [] (HP I A L F E) else (if v2 ≠ v1 then ((stI (A 58) v2 0).bind fun X1 => ((stI (A 59) v2 0).bind fun X2 => mm_run G0 6 2 [some (.ref 54), some (.int v1), some (.int (v2 + 1))] [] (HP I (fu (fu A 58 X1) 59 X2) L F E))) else ((stI (A 58) v2 1).bind fun X3 => ((stI (A 59) v2 0).bind fun X4 => mm_run G0 6 2 [some (.ref 54), some (.int v1), some (.int (v2 + 1))] [] (HP I (fu (fu A 58 X3) 59 X4) L F E))))) := by
  refine (sg_go ht_X0_surelyEnds (k := 3) (pc' := 7) (L' := [some (.ref 54), some (.int v1), some (.int v2)]) (st' := [.int (I 5401), .int v2]) (h' := (HP I A L F E)) rfl).trans ?_
  refine (sg_cmp ht_X0_surelyEnds rfl).trans ?_
  refine ite_congr rfl (fun _ => ?_) (fun _ => ?_)
  · refine (sg_go ht_X0_surelyEnds (k := 2) (pc' := 41) (L' := [some (.ref 54), some (.int v1), some (.int 0)]) (st' := []) (h' := (HP I A L F E)) rfl).trans ?_
    rfl
  · refine (sg_go ht_X0_surelyEnds (k := 5) (pc' := 17) (L' := [some (.ref 54), some (.int v1), some (.int v2)]) (st' := [.int v1, .int v2, .int v2, .ref 58]) (h' := (HP I A L F E)) rfl).trans ?_
    refine (sg_cmp ht_X0_surelyEnds rfl).trans ?_
    refine ite_congr rfl (fun _ => ?_) (fun _ => ?_)
    · refine (sg_go ht_X0_surelyEnds (k := 1) (pc' := 25) (L' := [some (.ref 54), some (.int v1), some (.int v2)]) (st' := [.int 0, .int v2, .ref 58]) (h' := (HP I A L F E)) rfl).trans ?_
      refine (sg_stZ (hh := fun X1 => (HP I (fu A 58 X1) L F E)) ht_X0_surelyEnds (by decide) rfl hp_o_58 (fun _ => hp_s_58)).trans ?_
      refine bind_cg fun X1 hX1 => ?_
      refine (sg_go ht_X0_surelyEnds (k := 4) (pc' := 32) (L' := [some (.ref 54), some (.int v1), some (.int v2)]) (st' := [.int 0, .int v2, .ref 59]) (h' := (HP I (fu A 58 X1) L F E)) rfl).trans ?_
      refine (sg_stZ (hh := fun X2 => (HP I (fu (fu A 58 X1) 59 X2) L F E)) ht_X0_surelyEnds (by decide) rfl hp_o_59 (fun _ => hp_s_59)).trans ?_
      refine bind_cg fun X2 hX2 => ?_
      refine (sg_go ht_X0_surelyEnds (k := 2) (pc' := 2) (L' := [some (.ref 54), some (.int v1), some (.int (v2 + 1))]) (st' := []) (h' := (HP I (fu (fu A 58 X1) 59 X2) L F E)) rfl).trans ?_
      rfl
    · refine (sg_go ht_X0_surelyEnds (k := 2) (pc' := 25) (L' := [some (.ref 54), some (.int v1), some (.int v2)]) (st' := [.int 1, .int v2, .ref 58]) (h' := (HP I A L F E)) rfl).trans ?_
      refine (sg_stZ (hh := fun X3 => (HP I (fu A 58 X3) L F E)) ht_X0_surelyEnds (by decide) rfl hp_o_58 (fun _ => hp_s_58)).trans ?_
      refine bind_cg fun X3 hX3 => ?_
      refine (sg_go ht_X0_surelyEnds (k := 4) (pc' := 32) (L' := [some (.ref 54), some (.int v1), some (.int v2)]) (st' := [.int 0, .int v2, .ref 59]) (h' := (HP I (fu A 58 X3) L F E)) rfl).trans ?_
      refine (sg_stZ (hh := fun X4 => (HP I (fu (fu A 58 X3) 59 X4) L F E)) ht_X0_surelyEnds (by decide) rfl hp_o_59 (fun _ => hp_s_59)).trans ?_
      refine bind_cg fun X4 hX4 => ?_
      refine (sg_go ht_X0_surelyEnds (k := 2) (pc' := 2) (L' := [some (.ref 54), some (.int v1), some (.int (v2 + 1))]) (st' := []) (h' := (HP I (fu (fu A 58 X3) 59 X4) L F E)) rfl).trans ?_
      rfl
set_option maxRecDepth 20000 in
theorem sg_X0_surelyEnds_41 {I : Nat → Int32} {A : Nat → List Int32} {L : Nat → List Int64} {F : Nat → Int64} {E : MH} (v1 : Int32) (v2 : Int32) : mm_run G0 6 41 [some (.ref 54), some (.int v1), some (.int v2)] [] (HP I A L F E) = (if (I 5401) ≤ v2 then mm_run G0 6 61 [some (.ref 54), some (.int v1), some (.int 0)] [] (HP I A L F E) else ((mm_call G0 7 [.ref 54] (HP I A L F E)).bind fun q => mm_run G0 6 53 [some (.ref 54), some (.int v1), some (.int v2)] (q.1.toList ++ []) q.2)) := by
  refine (sg_go ht_X0_surelyEnds (k := 3) (pc' := 46) (L' := [some (.ref 54), some (.int v1), some (.int v2)]) (st' := [.int (I 5401), .int v2]) (h' := (HP I A L F E)) rfl).trans ?_
  refine (sg_cmp ht_X0_surelyEnds rfl).trans ?_
  refine ite_congr rfl (fun _ => ?_) (fun _ => ?_)
  · refine (sg_go ht_X0_surelyEnds (k := 2) (pc' := 61) (L' := [some (.ref 54), some (.int v1), some (.int 0)]) (st' := []) (h' := (HP I A L F E)) rfl).trans ?_
    rfl
  · refine (sg_go ht_X0_surelyEnds (k := 1) (pc' := 50) (L' := [some (.ref 54), some (.int v1), some (.int v2)]) (st' := [.ref 54]) (h' := (HP I A L F E)) rfl).trans ?_
    refine (sg_call ht_X0_surelyEnds (mj := 7) (as := [.ref 54]) (rest := []) rfl rfl ⟨by decide, Nat.le_of_ble_eq_true rfl⟩).trans ?_
    rfl
set_option maxRecDepth 20000 in
theorem sg_X0_surelyEnds_61 {I : Nat → Int32} {A : Nat → List Int32} {L : Nat → List Int64} {F : Nat → Int64} {E : MH} (v1 : Int32) (v2 : Int32) : mm_run G0 6 61 [some (.ref 54), some (.int v1), some (.int v2)] [] (HP I A L F E) = (if (I 5401) ≤ v2 then some (some (.int 1), (HP I A L F E)) else ((ldI (A 58) v2).bind fun x1 => (if x1 = 0 then mm_run G0 6 61 [some (.ref 54), some (.int v1), some (.int (v2 + 1))] [] (HP I A L F E) else ((ldI (A 59) v2).bind fun x2 => (if x2 ≠ 0 then mm_run G0 6 61 [some (.ref 54), some (.int v1), some (.int (v2 + 1))] [] (HP I A L F E) else some (some (.int 0), (HP I A L F E))))))) := by
  refine (sg_go ht_X0_surelyEnds (k := 3) (pc' := 66) (L' := [some (.ref 54), some (.int v1), some (.int v2)]) (st' := [.int (I 5401), .int v2]) (h' := (HP I A L F E)) rfl).trans ?_
  refine (sg_cmp ht_X0_surelyEnds rfl).trans ?_
  refine ite_congr rfl (fun _ => ?_) (fun _ => ?_)
  · refine (sg_go ht_X0_surelyEnds (k := 1) (pc' := 96) (L' := [some (.ref 54), some (.int v1), some (.int v2)]) (st' := [.int 1]) (h' := (HP I A L F E)) rfl).trans ?_
    exact sg_ret ht_X0_surelyEnds rfl rfl
  · refine (sg_go ht_X0_surelyEnds (k := 3) (pc' := 74) (L' := [some (.ref 54), some (.int v1), some (.int v2)]) (st' := [.int v2, .ref 58]) (h' := (HP I A L F E)) rfl).trans ?_
    refine (sg_ldI ht_X0_surelyEnds rfl hp_o_58).trans ?_
    refine bind_cg fun x1 hx1 => ?_
    refine (sg_if ht_X0_surelyEnds rfl).trans ?_
    refine ite_congr rfl (fun _ => ?_) (fun _ => ?_)
    · refine (sg_go ht_X0_surelyEnds (k := 2) (pc' := 61) (L' := [some (.ref 54), some (.int v1), some (.int (v2 + 1))]) (st' := []) (h' := (HP I A L F E)) rfl).trans ?_
      rfl
    · refine (sg_go ht_X0_surelyEnds (k := 3) (pc' := 83) (L' := [some (.ref 54), some (.int v1), some (.int v2)]) (st' := [.int v2, .ref 59]) (h' := (HP I A L F E)) rfl).trans ?_
      refine (sg_ldI ht_X0_surelyEnds rfl hp_o_59).trans ?_
      refine bind_cg fun x2 hx2 => ?_
      refine (sg_if ht_X0_surelyEnds rfl).trans ?_
      refine ite_congr rfl (fun _ => ?_) (fun _ => ?_)
      · refine (sg_go ht_X0_surelyEnds (k := 2) (pc' := 61) (L' := [some (.ref 54), some (.int v1), some (.int (v2 + 1))]) (st' := []) (h' := (HP I A L F E)) rfl).trans ?_
        rfl
      · refine (sg_go ht_X0_surelyEnds (k := 1) (pc' := 88) (L' := [some (.ref 54), some (.int v1), some (.int v2)]) (st' := [.int 0]) (h' := (HP I A L F E)) rfl).trans ?_
        exact sg_ret ht_X0_surelyEnds rfl rfl
set_option maxRecDepth 20000 in
theorem sg_X0_surelyEnds_53 {I : Nat → Int32} {A : Nat → List Int32} {L : Nat → List Int64} {F : Nat → Int64} {E : MH} (v1 : Int32) (v2 : Int32) : mm_run G0 6 53 [some (.ref 54), some (.int v1), some (.int v2)] [] (HP I A L F E) = mm_run G0 6 41 [some (.ref 54), some (.int v1), some (.int (v2 + 1))] [] (HP I A L F E) := by
  refine (sg_go ht_X0_surelyEnds (k := 2) (pc' := 41) (L' := [some (.ref 54), some (.int v1), some (.int (v2 + 1))]) (st' := []) (h' := (HP I A L F E)) rfl).trans ?_
  rfl
set_option maxRecDepth 20000 in
theorem sg_X0_rankReached_0 {I : Nat → Int32} {A : Nat → List Int32} {L : Nat → List Int64} {F : Nat → Int64} {E : MH} (p1 : Int32) : mm_call G0 9 [.ref 54, .int p1] (HP I A L F E) = mm_run G0 9 4 [some (.ref 54), some (.int p1), some (.int 0), some (.int 0)] [] (HP I A L F E) := by
  show mm_run G0 9 0 [some (.ref 54), some (.int p1), none, none] [] (HP I A L F E) = _
  refine (sg_go ht_X0_rankReached (k := 4) (pc' := 4) (L' := [some (.ref 54), some (.int p1), some (.int 0), some (.int 0)]) (st' := []) (h' := (HP I A L F E)) rfl).trans ?_
  rfl
set_option maxRecDepth 20000 in
theorem sg_X0_rankReached_4 {I : Nat → Int32} {A : Nat → List Int32} {L : Nat → List Int64} {F : Nat → Int64} {E : MH} (v1 : Int32) (v2 : Int32) (v3 : Int32) : mm_run G0 9 4 [some (.ref 54), some (.int v1), some (.int v2), some (.int v3)] [] (HP I A L F E) = (if (I 5401) ≤ v3 then ((stI (A 60) v2 v1).bind fun X1 => ((stI (A 61) v1 v2).bind fun X2 => some (some (.int (v2 + 1)), (HP I (fu (fu A 60 X1) 61 X2) L F E)))) else ((ldI (A 58) v3).bind fun x3 => (if x3 = 0 then mm_run G0 9 4 [some (.ref 54), some (.int v1), some (.int v2), some (.int (v3 + 1))] [] (HP I A L F E) else (if v3 ≠ v1 then ((stI (A 60) v2 v3).bind fun X4 => ((stI (A 61) v3 v2).bind fun X5 => mm_run G0 9 4 [some (.ref 54), some (.int v1), some (.int (v2 + 1)), some (.int (v3 + 1))] [] (HP I (fu (fu A 60 X4) 61 X5) L F E))) else mm_run G0 9 4 [some (.ref 54), some (.int v1), some (.int v2), some (.int (v3 + 1))] [] (HP I A L F E))))) := by
  refine (sg_go ht_X0_rankReached (k := 3) (pc' := 9) (L' := [some (.ref 54), some (.int v1), some (.int v2), some (.int v3)]) (st' := [.int (I 5401), .int v3]) (h' := (HP I A L F E)) rfl).trans ?_
  refine (sg_cmp ht_X0_rankReached rfl).trans ?_
  refine ite_congr rfl (fun _ => ?_) (fun _ => ?_)
  · refine (sg_go ht_X0_rankReached (k := 4) (pc' := 58) (L' := [some (.ref 54), some (.int v1), some (.int v2), some (.int v3)]) (st' := [.int v1, .int v2, .ref 60]) (h' := (HP I A L F E)) rfl).trans ?_
    refine (sg_stI (hh := fun X1 => (HP I (fu A 60 X1) L F E)) ht_X0_rankReached rfl hp_o_60 (fun _ => hp_s_60)).trans ?_
    refine bind_cg fun X1 hX1 => ?_
    refine (sg_go ht_X0_rankReached (k := 4) (pc' := 65) (L' := [some (.ref 54), some (.int v1), some (.int v2), some (.int v3)]) (st' := [.int v2, .int v1, .ref 61]) (h' := (HP I (fu A 60 X1) L F E)) rfl).trans ?_
    refine (sg_stI (hh := fun X2 => (HP I (fu (fu A 60 X1) 61 X2) L F E)) ht_X0_rankReached rfl hp_o_61 (fun _ => hp_s_61)).trans ?_
    refine bind_cg fun X2 hX2 => ?_
    refine (sg_go ht_X0_rankReached (k := 3) (pc' := 69) (L' := [some (.ref 54), some (.int v1), some (.int v2), some (.int v3)]) (st' := [.int (v2 + 1)]) (h' := (HP I (fu (fu A 60 X1) 61 X2) L F E)) rfl).trans ?_
    exact sg_ret ht_X0_rankReached rfl rfl
  · refine (sg_go ht_X0_rankReached (k := 3) (pc' := 17) (L' := [some (.ref 54), some (.int v1), some (.int v2), some (.int v3)]) (st' := [.int v3, .ref 58]) (h' := (HP I A L F E)) rfl).trans ?_
    refine (sg_ldI ht_X0_rankReached rfl hp_o_58).trans ?_
    refine bind_cg fun x3 hx3 => ?_
    refine (sg_if ht_X0_rankReached rfl).trans ?_
    refine ite_congr rfl (fun _ => ?_) (fun _ => ?_)
    · refine (sg_go ht_X0_rankReached (k := 2) (pc' := 4) (L' := [some (.ref 54), some (.int v1), some (.int v2), some (.int (v3 + 1))]) (st' := []) (h' := (HP I A L F E)) rfl).trans ?_
      rfl
    · refine (sg_go ht_X0_rankReached (k := 2) (pc' := 23) (L' := [some (.ref 54), some (.int v1), some (.int v2), some (.int v3)]) (st' := [.int v1, .int v3]) (h' := (HP I A L F E)) rfl).trans ?_
      refine (sg_cmp ht_X0_rankReached rfl).trans ?_
      refine ite_congr rfl (fun _ => ?_) (fun _ => ?_)
      · refine (sg_go ht_X0_rankReached (k := 4) (pc' := 35) (L' := [some (.ref 54), some (.int v1), some (.int v2), some (.int v3)]) (st' := [.int v3, .int v2, .ref 60]) (h' := (HP I A L F E)) rfl).trans ?_
        refine (sg_stI (hh := fun X4 => (HP I (fu A 60 X4) L F E)) ht_X0_rankReached rfl hp_o_60 (fun _ => hp_s_60)).trans ?_
        refine bind_cg fun X4 hX4 => ?_
        refine (sg_go ht_X0_rankReached (k := 4) (pc' := 42) (L' := [some (.ref 54), some (.int v1), some (.int v2), some (.int v3)]) (st' := [.int v2, .int v3, .ref 61]) (h' := (HP I (fu A 60 X4) L F E)) rfl).trans ?_
        refine (sg_stI (hh := fun X5 => (HP I (fu (fu A 60 X4) 61 X5) L F E)) ht_X0_rankReached rfl hp_o_61 (fun _ => hp_s_61)).trans ?_
        refine bind_cg fun X5 hX5 => ?_
        refine (sg_go ht_X0_rankReached (k := 3) (pc' := 4) (L' := [some (.ref 54), some (.int v1), some (.int (v2 + 1)), some (.int (v3 + 1))]) (st' := []) (h' := (HP I (fu (fu A 60 X4) 61 X5) L F E)) rfl).trans ?_
        rfl
      · refine (sg_go ht_X0_rankReached (k := 3) (pc' := 4) (L' := [some (.ref 54), some (.int v1), some (.int v2), some (.int (v3 + 1))]) (st' := []) (h' := (HP I A L F E)) rfl).trans ?_
        rfl
set_option maxRecDepth 20000 in
theorem sg_X0_fillSystem_0 {I : Nat → Int32} {A : Nat → List Int32} {L : Nat → List Int64} {F : Nat → Int64} {E : MH} (p1 : Int32) : mm_call G0 10 [.ref 54, .int p1] (HP I A L F E) = mm_run G0 10 2 [some (.ref 54), some (.int p1), some (.int 0), none, none] [] (HP I A L F E) := by
  show mm_run G0 10 0 [some (.ref 54), some (.int p1), none, none, none] [] (HP I A L F E) = _
  refine (sg_go ht_X0_fillSystem (k := 2) (pc' := 2) (L' := [some (.ref 54), some (.int p1), some (.int 0), none, none]) (st' := []) (h' := (HP I A L F E)) rfl).trans ?_
  rfl
set_option maxRecDepth 20000 in
theorem sg_X0_fillSystem_2_v00 {I : Nat → Int32} {A : Nat → List Int32} {L : Nat → List Int64} {F : Nat → Int64} {E : MH} (v1 : Int32) (v2 : Int32) : mm_run G0 10 2 [some (.ref 54), some (.int v1), some (.int v2), none, none] [] (HP I A L F E) = (if v1 ≤ v2 then some (none, (HP I A L F E)) else mm_run G0 10 9 [some (.ref 54), some (.int v1), some (.int v2), some (.int 0), none] [] (HP I A L F E)) := by
  refine (sg_go ht_X0_fillSystem (k := 2) (pc' := 4) (L' := [some (.ref 54), some (.int v1), some (.int v2), none, none]) (st' := [.int v1, .int v2]) (h' := (HP I A L F E)) rfl).trans ?_
  refine (sg_cmp ht_X0_fillSystem rfl).trans ?_
  refine ite_congr rfl (fun _ => ?_) (fun _ => ?_)
  · exact sg_ret ht_X0_fillSystem rfl rfl
  · refine (sg_go ht_X0_fillSystem (k := 2) (pc' := 9) (L' := [some (.ref 54), some (.int v1), some (.int v2), some (.int 0), none]) (st' := []) (h' := (HP I A L F E)) rfl).trans ?_
    rfl
set_option maxRecDepth 20000 in
theorem sg_X0_fillSystem_2_v01 {I : Nat → Int32} {A : Nat → List Int32} {L : Nat → List Int64} {F : Nat → Int64} {E : MH} (v1 : Int32) (v2 : Int32) (o4 : Int32) : mm_run G0 10 2 [some (.ref 54), some (.int v1), some (.int v2), none, some (.int o4)] [] (HP I A L F E) = (if v1 ≤ v2 then some (none, (HP I A L F E)) else mm_run G0 10 9 [some (.ref 54), some (.int v1), some (.int v2), some (.int 0), some (.int o4)] [] (HP I A L F E)) := by
  refine (sg_go ht_X0_fillSystem (k := 2) (pc' := 4) (L' := [some (.ref 54), some (.int v1), some (.int v2), none, some (.int o4)]) (st' := [.int v1, .int v2]) (h' := (HP I A L F E)) rfl).trans ?_
  refine (sg_cmp ht_X0_fillSystem rfl).trans ?_
  refine ite_congr rfl (fun _ => ?_) (fun _ => ?_)
  · exact sg_ret ht_X0_fillSystem rfl rfl
  · refine (sg_go ht_X0_fillSystem (k := 2) (pc' := 9) (L' := [some (.ref 54), some (.int v1), some (.int v2), some (.int 0), some (.int o4)]) (st' := []) (h' := (HP I A L F E)) rfl).trans ?_
    rfl
set_option maxRecDepth 20000 in
theorem sg_X0_fillSystem_2_v10 {I : Nat → Int32} {A : Nat → List Int32} {L : Nat → List Int64} {F : Nat → Int64} {E : MH} (v1 : Int32) (v2 : Int32) (o3 : Int32) : mm_run G0 10 2 [some (.ref 54), some (.int v1), some (.int v2), some (.int o3), none] [] (HP I A L F E) = (if v1 ≤ v2 then some (none, (HP I A L F E)) else mm_run G0 10 9 [some (.ref 54), some (.int v1), some (.int v2), some (.int 0), none] [] (HP I A L F E)) := by
  refine (sg_go ht_X0_fillSystem (k := 2) (pc' := 4) (L' := [some (.ref 54), some (.int v1), some (.int v2), some (.int o3), none]) (st' := [.int v1, .int v2]) (h' := (HP I A L F E)) rfl).trans ?_
  refine (sg_cmp ht_X0_fillSystem rfl).trans ?_
  refine ite_congr rfl (fun _ => ?_) (fun _ => ?_)
  · exact sg_ret ht_X0_fillSystem rfl rfl
  · refine (sg_go ht_X0_fillSystem (k := 2) (pc' := 9) (L' := [some (.ref 54), some (.int v1), some (.int v2), some (.int 0), none]) (st' := []) (h' := (HP I A L F E)) rfl).trans ?_
    rfl
set_option maxRecDepth 20000 in
theorem sg_X0_fillSystem_2_v11 {I : Nat → Int32} {A : Nat → List Int32} {L : Nat → List Int64} {F : Nat → Int64} {E : MH} (v1 : Int32) (v2 : Int32) (o3 : Int32) (o4 : Int32) : mm_run G0 10 2 [some (.ref 54), some (.int v1), some (.int v2), some (.int o3), some (.int o4)] [] (HP I A L F E) = (if v1 ≤ v2 then some (none, (HP I A L F E)) else mm_run G0 10 9 [some (.ref 54), some (.int v1), some (.int v2), some (.int 0), some (.int o4)] [] (HP I A L F E)) := by
  refine (sg_go ht_X0_fillSystem (k := 2) (pc' := 4) (L' := [some (.ref 54), some (.int v1), some (.int v2), some (.int o3), some (.int o4)]) (st' := [.int v1, .int v2]) (h' := (HP I A L F E)) rfl).trans ?_
  refine (sg_cmp ht_X0_fillSystem rfl).trans ?_
  refine ite_congr rfl (fun _ => ?_) (fun _ => ?_)
  · exact sg_ret ht_X0_fillSystem rfl rfl
  · refine (sg_go ht_X0_fillSystem (k := 2) (pc' := 9) (L' := [some (.ref 54), some (.int v1), some (.int v2), some (.int 0), some (.int o4)]) (st' := []) (h' := (HP I A L F E)) rfl).trans ?_
    rfl
theorem sg_X0_fillSystem_2 {I : Nat → Int32} {A : Nat → List Int32} {L : Nat → List Int64} {F : Nat → Int64} {E : MH} (v1 : Int32) (v2 : Int32) (o3 : Option Int32) (o4 : Option Int32) : mm_run G0 10 2 [some (.ref 54), some (.int v1), some (.int v2), (o3.map Value.int), (o4.map Value.int)] [] (HP I A L F E) = (if v1 ≤ v2 then some (none, (HP I A L F E)) else mm_run G0 10 9 [some (.ref 54), some (.int v1), some (.int v2), some (.int 0), (o4.map Value.int)] [] (HP I A L F E)) := by
  match o3, o4 with
  | none, none => exact sg_X0_fillSystem_2_v00 v1 v2
  | none, some o4 => exact sg_X0_fillSystem_2_v01 v1 v2 o4
  | some o3, none => exact sg_X0_fillSystem_2_v10 v1 v2 o3
  | some o3, some o4 => exact sg_X0_fillSystem_2_v11 v1 v2 o3 o4
set_option maxRecDepth 20000 in
theorem sg_X0_fillSystem_9_v0 {I : Nat → Int32} {A : Nat → List Int32} {L : Nat → List Int64} {F : Nat → Int64} {E : MH} (v1 : Int32) (v2 : Int32) (v3 : Int32) : mm_run G0 10 9 [some (.ref 54), some (.int v1), some (.int v2), some (.int v3), none] [] (HP I A L F E) = (if v1 ≤ v3 then ((ldR [some 63, some 64, some 65, some 66, some 67, some 68] v2).bind fun a1 => ((stL (L a1) v2 ((I 5403)).toInt64).bind fun X2 => ((ldR [some 63, some 64, some 65, some 66, some 67, some 68] v2).bind fun a3 => ((stL ((fu L a1 X2) a3) v1 ((I 5403)).toInt64).bind fun X4 => mm_run G0 10 57 [some (.ref 54), some (.int v1), some (.int v2), some (.int 0), none] [] (HP I A (fu (fu L a1 X2) a3 X4) F E))))) else ((ldR [some 63, some 64, some 65, some 66, some 67, some 68] v2).bind fun a5 => ((stL (L a5) v3 0).bind fun X6 => mm_run G0 10 9 [some (.ref 54), some (.int v1), some (.int v2), some (.int (v3 + 1)), none] [] (HP I A (fu L a5 X6) F E)))) := by
  refine (sg_go ht_X0_fillSystem (k := 2) (pc' := 11) (L' := [some (.ref 54), some (.int v1), some (.int v2), some (.int v3), none]) (st' := [.int v1, .int v3]) (h' := (HP I A L F E)) rfl).trans ?_
  refine (sg_cmp ht_X0_fillSystem rfl).trans ?_
  refine ite_congr rfl (fun _ => ?_) (fun _ => ?_)
  · refine (sg_go ht_X0_fillSystem (k := 3) (pc' := 34) (L' := [some (.ref 54), some (.int v1), some (.int v2), some (.int v3), none]) (st' := [.int v2, .ref 62]) (h' := (HP I A L F E)) rfl).trans ?_
    refine (sg_ldR ht_X0_fillSystem rfl hp_o_62).trans ?_
    refine bind_cg fun a1 ha1 => ?_
    have ha1 := in_62 ha1
    refine (sg_go ht_X0_fillSystem (k := 4) (pc' := 41) (L' := [some (.ref 54), some (.int v1), some (.int v2), some (.int v3), none]) (st' := [.long ((I 5403)).toInt64, .int v2, .ref a1]) (h' := (HP I A L F E)) rfl).trans ?_
    refine (sg_stL (hh := fun X2 => (HP I A (fu L a1 X2) F E)) ht_X0_fillSystem rfl (sSy_obj ha1) (fun _ => sSy_ast ha1)).trans ?_
    refine bind_cg fun X2 hX2 => ?_
    refine (sg_go ht_X0_fillSystem (k := 3) (pc' := 47) (L' := [some (.ref 54), some (.int v1), some (.int v2), some (.int v3), none]) (st' := [.int v2, .ref 62]) (h' := (HP I A (fu L a1 X2) F E)) rfl).trans ?_
    refine (sg_ldR ht_X0_fillSystem rfl hp_o_62).trans ?_
    refine bind_cg fun a3 ha3 => ?_
    have ha3 := in_62 ha3
    refine (sg_go ht_X0_fillSystem (k := 4) (pc' := 54) (L' := [some (.ref 54), some (.int v1), some (.int v2), some (.int v3), none]) (st' := [.long ((I 5403)).toInt64, .int v1, .ref a3]) (h' := (HP I A (fu L a1 X2) F E)) rfl).trans ?_
    refine (sg_stL (hh := fun X4 => (HP I A (fu (fu L a1 X2) a3 X4) F E)) ht_X0_fillSystem rfl (sSy_obj ha3) (fun _ => sSy_ast ha3)).trans ?_
    refine bind_cg fun X4 hX4 => ?_
    refine (sg_go ht_X0_fillSystem (k := 2) (pc' := 57) (L' := [some (.ref 54), some (.int v1), some (.int v2), some (.int 0), none]) (st' := []) (h' := (HP I A (fu (fu L a1 X2) a3 X4) F E)) rfl).trans ?_
    rfl
  · refine (sg_go ht_X0_fillSystem (k := 3) (pc' := 19) (L' := [some (.ref 54), some (.int v1), some (.int v2), some (.int v3), none]) (st' := [.int v2, .ref 62]) (h' := (HP I A L F E)) rfl).trans ?_
    refine (sg_ldR ht_X0_fillSystem rfl hp_o_62).trans ?_
    refine bind_cg fun a5 ha5 => ?_
    have ha5 := in_62 ha5
    refine (sg_go ht_X0_fillSystem (k := 2) (pc' := 22) (L' := [some (.ref 54), some (.int v1), some (.int v2), some (.int v3), none]) (st' := [.long 0, .int v3, .ref a5]) (h' := (HP I A L F E)) rfl).trans ?_
    refine (sg_stL (hh := fun X6 => (HP I A (fu L a5 X6) F E)) ht_X0_fillSystem rfl (sSy_obj ha5) (fun _ => sSy_ast ha5)).trans ?_
    refine bind_cg fun X6 hX6 => ?_
    refine (sg_go ht_X0_fillSystem (k := 2) (pc' := 9) (L' := [some (.ref 54), some (.int v1), some (.int v2), some (.int (v3 + 1)), none]) (st' := []) (h' := (HP I A (fu L a5 X6) F E)) rfl).trans ?_
    rfl
set_option maxRecDepth 20000 in
theorem sg_X0_fillSystem_9_v1 {I : Nat → Int32} {A : Nat → List Int32} {L : Nat → List Int64} {F : Nat → Int64} {E : MH} (v1 : Int32) (v2 : Int32) (v3 : Int32) (o4 : Int32) : mm_run G0 10 9 [some (.ref 54), some (.int v1), some (.int v2), some (.int v3), some (.int o4)] [] (HP I A L F E) = (if v1 ≤ v3 then ((ldR [some 63, some 64, some 65, some 66, some 67, some 68] v2).bind fun a1 => ((stL (L a1) v2 ((I 5403)).toInt64).bind fun X2 => ((ldR [some 63, some 64, some 65, some 66, some 67, some 68] v2).bind fun a3 => ((stL ((fu L a1 X2) a3) v1 ((I 5403)).toInt64).bind fun X4 => mm_run G0 10 57 [some (.ref 54), some (.int v1), some (.int v2), some (.int 0), some (.int o4)] [] (HP I A (fu (fu L a1 X2) a3 X4) F E))))) else ((ldR [some 63, some 64, some 65, some 66, some 67, some 68] v2).bind fun a5 => ((stL (L a5) v3 0).bind fun X6 => mm_run G0 10 9 [some (.ref 54), some (.int v1), some (.int v2), some (.int (v3 + 1)), some (.int o4)] [] (HP I A (fu L a5 X6) F E)))) := by
  refine (sg_go ht_X0_fillSystem (k := 2) (pc' := 11) (L' := [some (.ref 54), some (.int v1), some (.int v2), some (.int v3), some (.int o4)]) (st' := [.int v1, .int v3]) (h' := (HP I A L F E)) rfl).trans ?_
  refine (sg_cmp ht_X0_fillSystem rfl).trans ?_
  refine ite_congr rfl (fun _ => ?_) (fun _ => ?_)
  · refine (sg_go ht_X0_fillSystem (k := 3) (pc' := 34) (L' := [some (.ref 54), some (.int v1), some (.int v2), some (.int v3), some (.int o4)]) (st' := [.int v2, .ref 62]) (h' := (HP I A L F E)) rfl).trans ?_
    refine (sg_ldR ht_X0_fillSystem rfl hp_o_62).trans ?_
    refine bind_cg fun a1 ha1 => ?_
    have ha1 := in_62 ha1
    refine (sg_go ht_X0_fillSystem (k := 4) (pc' := 41) (L' := [some (.ref 54), some (.int v1), some (.int v2), some (.int v3), some (.int o4)]) (st' := [.long ((I 5403)).toInt64, .int v2, .ref a1]) (h' := (HP I A L F E)) rfl).trans ?_
    refine (sg_stL (hh := fun X2 => (HP I A (fu L a1 X2) F E)) ht_X0_fillSystem rfl (sSy_obj ha1) (fun _ => sSy_ast ha1)).trans ?_
    refine bind_cg fun X2 hX2 => ?_
    refine (sg_go ht_X0_fillSystem (k := 3) (pc' := 47) (L' := [some (.ref 54), some (.int v1), some (.int v2), some (.int v3), some (.int o4)]) (st' := [.int v2, .ref 62]) (h' := (HP I A (fu L a1 X2) F E)) rfl).trans ?_
    refine (sg_ldR ht_X0_fillSystem rfl hp_o_62).trans ?_
    refine bind_cg fun a3 ha3 => ?_
    have ha3 := in_62 ha3
    refine (sg_go ht_X0_fillSystem (k := 4) (pc' := 54) (L' := [some (.ref 54), some (.int v1), some (.int v2), some (.int v3), some (.int o4)]) (st' := [.long ((I 5403)).toInt64, .int v1, .ref a3]) (h' := (HP I A (fu L a1 X2) F E)) rfl).trans ?_
    refine (sg_stL (hh := fun X4 => (HP I A (fu (fu L a1 X2) a3 X4) F E)) ht_X0_fillSystem rfl (sSy_obj ha3) (fun _ => sSy_ast ha3)).trans ?_
    refine bind_cg fun X4 hX4 => ?_
    refine (sg_go ht_X0_fillSystem (k := 2) (pc' := 57) (L' := [some (.ref 54), some (.int v1), some (.int v2), some (.int 0), some (.int o4)]) (st' := []) (h' := (HP I A (fu (fu L a1 X2) a3 X4) F E)) rfl).trans ?_
    rfl
  · refine (sg_go ht_X0_fillSystem (k := 3) (pc' := 19) (L' := [some (.ref 54), some (.int v1), some (.int v2), some (.int v3), some (.int o4)]) (st' := [.int v2, .ref 62]) (h' := (HP I A L F E)) rfl).trans ?_
    refine (sg_ldR ht_X0_fillSystem rfl hp_o_62).trans ?_
    refine bind_cg fun a5 ha5 => ?_
    have ha5 := in_62 ha5
    refine (sg_go ht_X0_fillSystem (k := 2) (pc' := 22) (L' := [some (.ref 54), some (.int v1), some (.int v2), some (.int v3), some (.int o4)]) (st' := [.long 0, .int v3, .ref a5]) (h' := (HP I A L F E)) rfl).trans ?_
    refine (sg_stL (hh := fun X6 => (HP I A (fu L a5 X6) F E)) ht_X0_fillSystem rfl (sSy_obj ha5) (fun _ => sSy_ast ha5)).trans ?_
    refine bind_cg fun X6 hX6 => ?_
    refine (sg_go ht_X0_fillSystem (k := 2) (pc' := 9) (L' := [some (.ref 54), some (.int v1), some (.int v2), some (.int (v3 + 1)), some (.int o4)]) (st' := []) (h' := (HP I A (fu L a5 X6) F E)) rfl).trans ?_
    rfl
theorem sg_X0_fillSystem_9 {I : Nat → Int32} {A : Nat → List Int32} {L : Nat → List Int64} {F : Nat → Int64} {E : MH} (v1 : Int32) (v2 : Int32) (v3 : Int32) (o4 : Option Int32) : mm_run G0 10 9 [some (.ref 54), some (.int v1), some (.int v2), some (.int v3), (o4.map Value.int)] [] (HP I A L F E) = (if v1 ≤ v3 then ((ldR [some 63, some 64, some 65, some 66, some 67, some 68] v2).bind fun a1 => ((stL (L a1) v2 ((I 5403)).toInt64).bind fun X2 => ((ldR [some 63, some 64, some 65, some 66, some 67, some 68] v2).bind fun a3 => ((stL ((fu L a1 X2) a3) v1 ((I 5403)).toInt64).bind fun X4 => mm_run G0 10 57 [some (.ref 54), some (.int v1), some (.int v2), some (.int 0), (o4.map Value.int)] [] (HP I A (fu (fu L a1 X2) a3 X4) F E))))) else ((ldR [some 63, some 64, some 65, some 66, some 67, some 68] v2).bind fun a5 => ((stL (L a5) v3 0).bind fun X6 => mm_run G0 10 9 [some (.ref 54), some (.int v1), some (.int v2), some (.int (v3 + 1)), (o4.map Value.int)] [] (HP I A (fu L a5 X6) F E)))) := by
  match o4 with
  | none => exact sg_X0_fillSystem_9_v0 v1 v2 v3
  | some o4 => exact sg_X0_fillSystem_9_v1 v1 v2 v3 o4
set_option maxRecDepth 20000 in
theorem sg_X0_fillSystem_57_v0 {I : Nat → Int32} {A : Nat → List Int32} {L : Nat → List Int64} {F : Nat → Int64} {E : MH} (v1 : Int32) (v2 : Int32) (v3 : Int32) : mm_run G0 10 57 [some (.ref 54), some (.int v1), some (.int v2), some (.int v3), none] [] (HP I A L F E) = (if 5 ≤ v3 then mm_run G0 10 2 [some (.ref 54), some (.int v1), some (.int (v2 + 1)), some (.int v3), none] [] (HP I A L F E) else ((ldI (A 60) v2).bind fun x1 => ((ldI (A 55) v3).bind fun x2 => (if x2 ≤ 0 then mm_run G0 10 57 [some (.ref 54), some (.int v1), some (.int v2), some (.int (v3 + 1)), some (.int (imin (I 5401) (imax 0 (((x1 + v3) - 2) - (I 5400)))))] [] (HP I A L F E) else (if (I 5401) ≤ (imin (I 5401) (imax 0 (((x1 + v3) - 2) - (I 5400)))) then mm_run G0 10 57 [some (.ref 54), some (.int v1), some (.int v2), some (.int (v3 + 1)), some (.int (imin (I 5401) (imax 0 (((x1 + v3) - 2) - (I 5400)))))] [] (HP I A L F E) else ((ldR [some 63, some 64, some 65, some 66, some 67, some 68] v2).bind fun a3 => ((ldI (A 61) (imin (I 5401) (imax 0 (((x1 + v3) - 2) - (I 5400))))).bind fun x4 => ((ldL (L a3) x4).bind fun x5 => ((ldI (A 55) v3).bind fun x6 => ((stL (L a3) x4 (x5 - (x6).toInt64)).bind fun X7 => mm_run G0 10 57 [some (.ref 54), some (.int v1), some (.int v2), some (.int (v3 + 1)), some (.int (imin (I 5401) (imax 0 (((x1 + v3) - 2) - (I 5400)))))] [] (HP I A (fu L a3 X7) F E))))))))))) := by
  refine (sg_go ht_X0_fillSystem (k := 2) (pc' := 59) (L' := [some (.ref 54), some (.int v1), some (.int v2), some (.int v3), none]) (st' := [.int 5, .int v3]) (h' := (HP I A L F E)) rfl).trans ?_
  refine (sg_cmp ht_X0_fillSystem rfl).trans ?_
  refine ite_congr rfl (fun _ => ?_) (fun _ => ?_)
  · refine (sg_go ht_X0_fillSystem (k := 2) (pc' := 2) (L' := [some (.ref 54), some (.int v1), some (.int (v2 + 1)), some (.int v3), none]) (st' := []) (h' := (HP I A L F E)) rfl).trans ?_
    rfl
  · refine (sg_go ht_X0_fillSystem (k := 4) (pc' := 68) (L' := [some (.ref 54), some (.int v1), some (.int v2), some (.int v3), none]) (st' := [.int v2, .ref 60, .ref 54]) (h' := (HP I A L F E)) rfl).trans ?_
    refine (sg_ldI ht_X0_fillSystem rfl hp_o_60).trans ?_
    refine bind_cg fun x1 hx1 => ?_
    refine (sg_go ht_X0_fillSystem (k := 1) (pc' := 70) (L' := [some (.ref 54), some (.int v1), some (.int v2), some (.int v3), none]) (st' := [.int v3, .int x1, .ref 54]) (h' := (HP I A L F E)) rfl).trans ?_
    refine (sg_call ht_X0_fillSystem (mj := 3) (as := [.ref 54, .int x1, .int v3]) (rest := []) rfl rfl ⟨by decide, Nat.le_of_ble_eq_true rfl⟩).trans ?_
    refine (bind_eq (sg_X0_next_0 x1 v3)).trans ?_
    show mm_run G0 10 73 [some (.ref 54), some (.int v1), some (.int v2), some (.int v3), none] [.int (imin (I 5401) (imax 0 (((x1 + v3) - 2) - (I 5400))))] (HP I A L F E) = _
    refine (sg_go ht_X0_fillSystem (k := 4) (pc' := 80) (L' := [some (.ref 54), some (.int v1), some (.int v2), some (.int v3), some (.int (imin (I 5401) (imax 0 (((x1 + v3) - 2) - (I 5400)))))]) (st' := [.int v3, .ref 55]) (h' := (HP I A L F E)) rfl).trans ?_
    refine (sg_ldI ht_X0_fillSystem rfl hp_o_55).trans ?_
    refine bind_cg fun x2 hx2 => ?_
    refine (sg_if ht_X0_fillSystem rfl).trans ?_
    refine ite_congr rfl (fun _ => ?_) (fun _ => ?_)
    · refine (sg_go ht_X0_fillSystem (k := 2) (pc' := 57) (L' := [some (.ref 54), some (.int v1), some (.int v2), some (.int (v3 + 1)), some (.int (imin (I 5401) (imax 0 (((x1 + v3) - 2) - (I 5400)))))]) (st' := []) (h' := (HP I A L F E)) rfl).trans ?_
      rfl
    · refine (sg_go ht_X0_fillSystem (k := 3) (pc' := 90) (L' := [some (.ref 54), some (.int v1), some (.int v2), some (.int v3), some (.int (imin (I 5401) (imax 0 (((x1 + v3) - 2) - (I 5400)))))]) (st' := [.int (I 5401), .int (imin (I 5401) (imax 0 (((x1 + v3) - 2) - (I 5400))))]) (h' := (HP I A L F E)) rfl).trans ?_
      refine (sg_cmp ht_X0_fillSystem rfl).trans ?_
      refine ite_congr rfl (fun _ => ?_) (fun _ => ?_)
      · refine (sg_go ht_X0_fillSystem (k := 2) (pc' := 57) (L' := [some (.ref 54), some (.int v1), some (.int v2), some (.int (v3 + 1)), some (.int (imin (I 5401) (imax 0 (((x1 + v3) - 2) - (I 5400)))))]) (st' := []) (h' := (HP I A L F E)) rfl).trans ?_
        rfl
      · refine (sg_go ht_X0_fillSystem (k := 3) (pc' := 98) (L' := [some (.ref 54), some (.int v1), some (.int v2), some (.int v3), some (.int (imin (I 5401) (imax 0 (((x1 + v3) - 2) - (I 5400)))))]) (st' := [.int v2, .ref 62]) (h' := (HP I A L F E)) rfl).trans ?_
        refine (sg_ldR ht_X0_fillSystem rfl hp_o_62).trans ?_
        refine bind_cg fun a3 ha3 => ?_
        have ha3 := in_62 ha3
        refine (sg_go ht_X0_fillSystem (k := 3) (pc' := 105) (L' := [some (.ref 54), some (.int v1), some (.int v2), some (.int v3), some (.int (imin (I 5401) (imax 0 (((x1 + v3) - 2) - (I 5400)))))]) (st' := [.int (imin (I 5401) (imax 0 (((x1 + v3) - 2) - (I 5400)))), .ref 61, .ref a3]) (h' := (HP I A L F E)) rfl).trans ?_
        refine (sg_ldI ht_X0_fillSystem rfl hp_o_61).trans ?_
        refine bind_cg fun x4 hx4 => ?_
        refine (sg_go ht_X0_fillSystem (k := 1) (pc' := 107) (L' := [some (.ref 54), some (.int v1), some (.int v2), some (.int v3), some (.int (imin (I 5401) (imax 0 (((x1 + v3) - 2) - (I 5400)))))]) (st' := [.int x4, .ref a3, .int x4, .ref a3]) (h' := (HP I A L F E)) rfl).trans ?_
        refine (sg_ldL ht_X0_fillSystem rfl (sSy_obj ha3)).trans ?_
        refine bind_cg fun x5 hx5 => ?_
        refine (sg_go ht_X0_fillSystem (k := 3) (pc' := 113) (L' := [some (.ref 54), some (.int v1), some (.int v2), some (.int v3), some (.int (imin (I 5401) (imax 0 (((x1 + v3) - 2) - (I 5400)))))]) (st' := [.int v3, .ref 55, .long x5, .int x4, .ref a3]) (h' := (HP I A L F E)) rfl).trans ?_
        refine (sg_ldI ht_X0_fillSystem rfl hp_o_55).trans ?_
        refine bind_cg fun x6 hx6 => ?_
        refine (sg_go ht_X0_fillSystem (k := 2) (pc' := 116) (L' := [some (.ref 54), some (.int v1), some (.int v2), some (.int v3), some (.int (imin (I 5401) (imax 0 (((x1 + v3) - 2) - (I 5400)))))]) (st' := [.long (x5 - (x6).toInt64), .int x4, .ref a3]) (h' := (HP I A L F E)) rfl).trans ?_
        refine (sg_stL (hh := fun X7 => (HP I A (fu L a3 X7) F E)) ht_X0_fillSystem rfl (sSy_obj ha3) (fun _ => sSy_ast ha3)).trans ?_
        refine bind_cg fun X7 hX7 => ?_
        refine (sg_go ht_X0_fillSystem (k := 2) (pc' := 57) (L' := [some (.ref 54), some (.int v1), some (.int v2), some (.int (v3 + 1)), some (.int (imin (I 5401) (imax 0 (((x1 + v3) - 2) - (I 5400)))))]) (st' := []) (h' := (HP I A (fu L a3 X7) F E)) rfl).trans ?_
        rfl
set_option maxRecDepth 20000 in
theorem sg_X0_fillSystem_57_v1 {I : Nat → Int32} {A : Nat → List Int32} {L : Nat → List Int64} {F : Nat → Int64} {E : MH} (v1 : Int32) (v2 : Int32) (v3 : Int32) (o4 : Int32) : mm_run G0 10 57 [some (.ref 54), some (.int v1), some (.int v2), some (.int v3), some (.int o4)] [] (HP I A L F E) = (if 5 ≤ v3 then mm_run G0 10 2 [some (.ref 54), some (.int v1), some (.int (v2 + 1)), some (.int v3), some (.int o4)] [] (HP I A L F E) else ((ldI (A 60) v2).bind fun x1 => ((ldI (A 55) v3).bind fun x2 => (if x2 ≤ 0 then mm_run G0 10 57 [some (.ref 54), some (.int v1), some (.int v2), some (.int (v3 + 1)), some (.int (imin (I 5401) (imax 0 (((x1 + v3) - 2) - (I 5400)))))] [] (HP I A L F E) else (if (I 5401) ≤ (imin (I 5401) (imax 0 (((x1 + v3) - 2) - (I 5400)))) then mm_run G0 10 57 [some (.ref 54), some (.int v1), some (.int v2), some (.int (v3 + 1)), some (.int (imin (I 5401) (imax 0 (((x1 + v3) - 2) - (I 5400)))))] [] (HP I A L F E) else ((ldR [some 63, some 64, some 65, some 66, some 67, some 68] v2).bind fun a3 => ((ldI (A 61) (imin (I 5401) (imax 0 (((x1 + v3) - 2) - (I 5400))))).bind fun x4 => ((ldL (L a3) x4).bind fun x5 => ((ldI (A 55) v3).bind fun x6 => ((stL (L a3) x4 (x5 - (x6).toInt64)).bind fun X7 => mm_run G0 10 57 [some (.ref 54), some (.int v1), some (.int v2), some (.int (v3 + 1)), some (.int (imin (I 5401) (imax 0 (((x1 + v3) - 2) - (I 5400)))))] [] (HP I A (fu L a3 X7) F E))))))))))) := by
  refine (sg_go ht_X0_fillSystem (k := 2) (pc' := 59) (L' := [some (.ref 54), some (.int v1), some (.int v2), some (.int v3), some (.int o4)]) (st' := [.int 5, .int v3]) (h' := (HP I A L F E)) rfl).trans ?_
  refine (sg_cmp ht_X0_fillSystem rfl).trans ?_
  refine ite_congr rfl (fun _ => ?_) (fun _ => ?_)
  · refine (sg_go ht_X0_fillSystem (k := 2) (pc' := 2) (L' := [some (.ref 54), some (.int v1), some (.int (v2 + 1)), some (.int v3), some (.int o4)]) (st' := []) (h' := (HP I A L F E)) rfl).trans ?_
    rfl
  · refine (sg_go ht_X0_fillSystem (k := 4) (pc' := 68) (L' := [some (.ref 54), some (.int v1), some (.int v2), some (.int v3), some (.int o4)]) (st' := [.int v2, .ref 60, .ref 54]) (h' := (HP I A L F E)) rfl).trans ?_
    refine (sg_ldI ht_X0_fillSystem rfl hp_o_60).trans ?_
    refine bind_cg fun x1 hx1 => ?_
    refine (sg_go ht_X0_fillSystem (k := 1) (pc' := 70) (L' := [some (.ref 54), some (.int v1), some (.int v2), some (.int v3), some (.int o4)]) (st' := [.int v3, .int x1, .ref 54]) (h' := (HP I A L F E)) rfl).trans ?_
    refine (sg_call ht_X0_fillSystem (mj := 3) (as := [.ref 54, .int x1, .int v3]) (rest := []) rfl rfl ⟨by decide, Nat.le_of_ble_eq_true rfl⟩).trans ?_
    refine (bind_eq (sg_X0_next_0 x1 v3)).trans ?_
    show mm_run G0 10 73 [some (.ref 54), some (.int v1), some (.int v2), some (.int v3), some (.int o4)] [.int (imin (I 5401) (imax 0 (((x1 + v3) - 2) - (I 5400))))] (HP I A L F E) = _
    refine (sg_go ht_X0_fillSystem (k := 4) (pc' := 80) (L' := [some (.ref 54), some (.int v1), some (.int v2), some (.int v3), some (.int (imin (I 5401) (imax 0 (((x1 + v3) - 2) - (I 5400)))))]) (st' := [.int v3, .ref 55]) (h' := (HP I A L F E)) rfl).trans ?_
    refine (sg_ldI ht_X0_fillSystem rfl hp_o_55).trans ?_
    refine bind_cg fun x2 hx2 => ?_
    refine (sg_if ht_X0_fillSystem rfl).trans ?_
    refine ite_congr rfl (fun _ => ?_) (fun _ => ?_)
    · refine (sg_go ht_X0_fillSystem (k := 2) (pc' := 57) (L' := [some (.ref 54), some (.int v1), some (.int v2), some (.int (v3 + 1)), some (.int (imin (I 5401) (imax 0 (((x1 + v3) - 2) - (I 5400)))))]) (st' := []) (h' := (HP I A L F E)) rfl).trans ?_
      rfl
    · refine (sg_go ht_X0_fillSystem (k := 3) (pc' := 90) (L' := [some (.ref 54), some (.int v1), some (.int v2), some (.int v3), some (.int (imin (I 5401) (imax 0 (((x1 + v3) - 2) - (I 5400)))))]) (st' := [.int (I 5401), .int (imin (I 5401) (imax 0 (((x1 + v3) - 2) - (I 5400))))]) (h' := (HP I A L F E)) rfl).trans ?_
      refine (sg_cmp ht_X0_fillSystem rfl).trans ?_
      refine ite_congr rfl (fun _ => ?_) (fun _ => ?_)
      · refine (sg_go ht_X0_fillSystem (k := 2) (pc' := 57) (L' := [some (.ref 54), some (.int v1), some (.int v2), some (.int (v3 + 1)), some (.int (imin (I 5401) (imax 0 (((x1 + v3) - 2) - (I 5400)))))]) (st' := []) (h' := (HP I A L F E)) rfl).trans ?_
        rfl
      · refine (sg_go ht_X0_fillSystem (k := 3) (pc' := 98) (L' := [some (.ref 54), some (.int v1), some (.int v2), some (.int v3), some (.int (imin (I 5401) (imax 0 (((x1 + v3) - 2) - (I 5400)))))]) (st' := [.int v2, .ref 62]) (h' := (HP I A L F E)) rfl).trans ?_
        refine (sg_ldR ht_X0_fillSystem rfl hp_o_62).trans ?_
        refine bind_cg fun a3 ha3 => ?_
        have ha3 := in_62 ha3
        refine (sg_go ht_X0_fillSystem (k := 3) (pc' := 105) (L' := [some (.ref 54), some (.int v1), some (.int v2), some (.int v3), some (.int (imin (I 5401) (imax 0 (((x1 + v3) - 2) - (I 5400)))))]) (st' := [.int (imin (I 5401) (imax 0 (((x1 + v3) - 2) - (I 5400)))), .ref 61, .ref a3]) (h' := (HP I A L F E)) rfl).trans ?_
        refine (sg_ldI ht_X0_fillSystem rfl hp_o_61).trans ?_
        refine bind_cg fun x4 hx4 => ?_
        refine (sg_go ht_X0_fillSystem (k := 1) (pc' := 107) (L' := [some (.ref 54), some (.int v1), some (.int v2), some (.int v3), some (.int (imin (I 5401) (imax 0 (((x1 + v3) - 2) - (I 5400)))))]) (st' := [.int x4, .ref a3, .int x4, .ref a3]) (h' := (HP I A L F E)) rfl).trans ?_
        refine (sg_ldL ht_X0_fillSystem rfl (sSy_obj ha3)).trans ?_
        refine bind_cg fun x5 hx5 => ?_
        refine (sg_go ht_X0_fillSystem (k := 3) (pc' := 113) (L' := [some (.ref 54), some (.int v1), some (.int v2), some (.int v3), some (.int (imin (I 5401) (imax 0 (((x1 + v3) - 2) - (I 5400)))))]) (st' := [.int v3, .ref 55, .long x5, .int x4, .ref a3]) (h' := (HP I A L F E)) rfl).trans ?_
        refine (sg_ldI ht_X0_fillSystem rfl hp_o_55).trans ?_
        refine bind_cg fun x6 hx6 => ?_
        refine (sg_go ht_X0_fillSystem (k := 2) (pc' := 116) (L' := [some (.ref 54), some (.int v1), some (.int v2), some (.int v3), some (.int (imin (I 5401) (imax 0 (((x1 + v3) - 2) - (I 5400)))))]) (st' := [.long (x5 - (x6).toInt64), .int x4, .ref a3]) (h' := (HP I A L F E)) rfl).trans ?_
        refine (sg_stL (hh := fun X7 => (HP I A (fu L a3 X7) F E)) ht_X0_fillSystem rfl (sSy_obj ha3) (fun _ => sSy_ast ha3)).trans ?_
        refine bind_cg fun X7 hX7 => ?_
        refine (sg_go ht_X0_fillSystem (k := 2) (pc' := 57) (L' := [some (.ref 54), some (.int v1), some (.int v2), some (.int (v3 + 1)), some (.int (imin (I 5401) (imax 0 (((x1 + v3) - 2) - (I 5400)))))]) (st' := []) (h' := (HP I A (fu L a3 X7) F E)) rfl).trans ?_
        rfl
theorem sg_X0_fillSystem_57 {I : Nat → Int32} {A : Nat → List Int32} {L : Nat → List Int64} {F : Nat → Int64} {E : MH} (v1 : Int32) (v2 : Int32) (v3 : Int32) (o4 : Option Int32) : mm_run G0 10 57 [some (.ref 54), some (.int v1), some (.int v2), some (.int v3), (o4.map Value.int)] [] (HP I A L F E) = (if 5 ≤ v3 then mm_run G0 10 2 [some (.ref 54), some (.int v1), some (.int (v2 + 1)), some (.int v3), (o4.map Value.int)] [] (HP I A L F E) else ((ldI (A 60) v2).bind fun x1 => ((ldI (A 55) v3).bind fun x2 => (if x2 ≤ 0 then mm_run G0 10 57 [some (.ref 54), some (.int v1), some (.int v2), some (.int (v3 + 1)), some (.int (imin (I 5401) (imax 0 (((x1 + v3) - 2) - (I 5400)))))] [] (HP I A L F E) else (if (I 5401) ≤ (imin (I 5401) (imax 0 (((x1 + v3) - 2) - (I 5400)))) then mm_run G0 10 57 [some (.ref 54), some (.int v1), some (.int v2), some (.int (v3 + 1)), some (.int (imin (I 5401) (imax 0 (((x1 + v3) - 2) - (I 5400)))))] [] (HP I A L F E) else ((ldR [some 63, some 64, some 65, some 66, some 67, some 68] v2).bind fun a3 => ((ldI (A 61) (imin (I 5401) (imax 0 (((x1 + v3) - 2) - (I 5400))))).bind fun x4 => ((ldL (L a3) x4).bind fun x5 => ((ldI (A 55) v3).bind fun x6 => ((stL (L a3) x4 (x5 - (x6).toInt64)).bind fun X7 => mm_run G0 10 57 [some (.ref 54), some (.int v1), some (.int v2), some (.int (v3 + 1)), some (.int (imin (I 5401) (imax 0 (((x1 + v3) - 2) - (I 5400)))))] [] (HP I A (fu L a3 X7) F E))))))))))) := by
  match o4 with
  | none => exact sg_X0_fillSystem_57_v0 v1 v2 v3
  | some o4 => exact sg_X0_fillSystem_57_v1 v1 v2 v3 o4
set_option maxRecDepth 20000 in
theorem sg_X0_eliminate_0 {I : Nat → Int32} {A : Nat → List Int32} {L : Nat → List Int64} {F : Nat → Int64} {E : MH} (p1 : Int32) : mm_call G0 11 [.ref 54, .int p1] (HP I A L F E) = mm_run G0 11 5 [some (.ref 54), some (.int p1), some (.long 1), none, some (.int 0), none, none] [] (HP I A L F E) := by
  show mm_run G0 11 0 [some (.ref 54), some (.int p1), none, none, none, none, none] [] (HP I A L F E) = _
  refine (sg_go ht_X0_eliminate (k := 4) (pc' := 5) (L' := [some (.ref 54), some (.int p1), some (.long 1), none, some (.int 0), none, none]) (st' := []) (h' := (HP I A L F E)) rfl).trans ?_
  rfl
set_option maxRecDepth 20000 in
theorem sg_X0_eliminate_5_v00 {I : Nat → Int32} {A : Nat → List Int32} {L : Nat → List Int64} {F : Nat → Int64} {E : MH} (v1 : Int32) (v2 : Int64) (v4 : Int32) : mm_run G0 11 5 [some (.ref 54), some (.int v1), some (.long v2), none, some (.int v4), none, none] [] (HP I A L F E) = (if (v1 - 1) ≤ v4 then some (none, (HP I A L F E)) else (if (lg_cmp v2 (0)) = 0 then some (none, (HP I A L F E)) else mm_run G0 11 25 [some (.ref 54), some (.int v1), some (.long v2), none, some (.int v4), some (.int (v4 + 1)), none] [] (HP I A L F E))) := by
  refine (sg_go ht_X0_eliminate (k := 4) (pc' := 10) (L' := [some (.ref 54), some (.int v1), some (.long v2), none, some (.int v4), none, none]) (st' := [.int (v1 - 1), .int v4]) (h' := (HP I A L F E)) rfl).trans ?_
  refine (sg_cmp ht_X0_eliminate rfl).trans ?_
  refine ite_congr rfl (fun _ => ?_) (fun _ => ?_)
  · exact sg_ret ht_X0_eliminate rfl rfl
  · refine (sg_go ht_X0_eliminate (k := 3) (pc' := 16) (L' := [some (.ref 54), some (.int v1), some (.long v2), none, some (.int v4), none, none]) (st' := [.int (lg_cmp v2 (0))]) (h' := (HP I A L F E)) rfl).trans ?_
    refine (sg_if ht_X0_eliminate rfl).trans ?_
    refine ite_congr rfl (fun _ => ?_) (fun _ => ?_)
    · exact sg_ret ht_X0_eliminate rfl rfl
    · refine (sg_go ht_X0_eliminate (k := 4) (pc' := 25) (L' := [some (.ref 54), some (.int v1), some (.long v2), none, some (.int v4), some (.int (v4 + 1)), none]) (st' := []) (h' := (HP I A L F E)) rfl).trans ?_
      rfl
set_option maxRecDepth 20000 in
theorem sg_X0_eliminate_5_v01 {I : Nat → Int32} {A : Nat → List Int32} {L : Nat → List Int64} {F : Nat → Int64} {E : MH} (v1 : Int32) (v2 : Int64) (v4 : Int32) (o6 : Int32) : mm_run G0 11 5 [some (.ref 54), some (.int v1), some (.long v2), none, some (.int v4), none, some (.int o6)] [] (HP I A L F E) = (if (v1 - 1) ≤ v4 then some (none, (HP I A L F E)) else (if (lg_cmp v2 (0)) = 0 then some (none, (HP I A L F E)) else mm_run G0 11 25 [some (.ref 54), some (.int v1), some (.long v2), none, some (.int v4), some (.int (v4 + 1)), some (.int o6)] [] (HP I A L F E))) := by
  refine (sg_go ht_X0_eliminate (k := 4) (pc' := 10) (L' := [some (.ref 54), some (.int v1), some (.long v2), none, some (.int v4), none, some (.int o6)]) (st' := [.int (v1 - 1), .int v4]) (h' := (HP I A L F E)) rfl).trans ?_
  refine (sg_cmp ht_X0_eliminate rfl).trans ?_
  refine ite_congr rfl (fun _ => ?_) (fun _ => ?_)
  · exact sg_ret ht_X0_eliminate rfl rfl
  · refine (sg_go ht_X0_eliminate (k := 3) (pc' := 16) (L' := [some (.ref 54), some (.int v1), some (.long v2), none, some (.int v4), none, some (.int o6)]) (st' := [.int (lg_cmp v2 (0))]) (h' := (HP I A L F E)) rfl).trans ?_
    refine (sg_if ht_X0_eliminate rfl).trans ?_
    refine ite_congr rfl (fun _ => ?_) (fun _ => ?_)
    · exact sg_ret ht_X0_eliminate rfl rfl
    · refine (sg_go ht_X0_eliminate (k := 4) (pc' := 25) (L' := [some (.ref 54), some (.int v1), some (.long v2), none, some (.int v4), some (.int (v4 + 1)), some (.int o6)]) (st' := []) (h' := (HP I A L F E)) rfl).trans ?_
      rfl
set_option maxRecDepth 20000 in
theorem sg_X0_eliminate_5_v10 {I : Nat → Int32} {A : Nat → List Int32} {L : Nat → List Int64} {F : Nat → Int64} {E : MH} (v1 : Int32) (v2 : Int64) (v4 : Int32) (o5 : Int32) : mm_run G0 11 5 [some (.ref 54), some (.int v1), some (.long v2), none, some (.int v4), some (.int o5), none] [] (HP I A L F E) = (if (v1 - 1) ≤ v4 then some (none, (HP I A L F E)) else (if (lg_cmp v2 (0)) = 0 then some (none, (HP I A L F E)) else mm_run G0 11 25 [some (.ref 54), some (.int v1), some (.long v2), none, some (.int v4), some (.int (v4 + 1)), none] [] (HP I A L F E))) := by
  refine (sg_go ht_X0_eliminate (k := 4) (pc' := 10) (L' := [some (.ref 54), some (.int v1), some (.long v2), none, some (.int v4), some (.int o5), none]) (st' := [.int (v1 - 1), .int v4]) (h' := (HP I A L F E)) rfl).trans ?_
  refine (sg_cmp ht_X0_eliminate rfl).trans ?_
  refine ite_congr rfl (fun _ => ?_) (fun _ => ?_)
  · exact sg_ret ht_X0_eliminate rfl rfl
  · refine (sg_go ht_X0_eliminate (k := 3) (pc' := 16) (L' := [some (.ref 54), some (.int v1), some (.long v2), none, some (.int v4), some (.int o5), none]) (st' := [.int (lg_cmp v2 (0))]) (h' := (HP I A L F E)) rfl).trans ?_
    refine (sg_if ht_X0_eliminate rfl).trans ?_
    refine ite_congr rfl (fun _ => ?_) (fun _ => ?_)
    · exact sg_ret ht_X0_eliminate rfl rfl
    · refine (sg_go ht_X0_eliminate (k := 4) (pc' := 25) (L' := [some (.ref 54), some (.int v1), some (.long v2), none, some (.int v4), some (.int (v4 + 1)), none]) (st' := []) (h' := (HP I A L F E)) rfl).trans ?_
      rfl
set_option maxRecDepth 20000 in
theorem sg_X0_eliminate_5_v11 {I : Nat → Int32} {A : Nat → List Int32} {L : Nat → List Int64} {F : Nat → Int64} {E : MH} (v1 : Int32) (v2 : Int64) (v4 : Int32) (o5 : Int32) (o6 : Int32) : mm_run G0 11 5 [some (.ref 54), some (.int v1), some (.long v2), none, some (.int v4), some (.int o5), some (.int o6)] [] (HP I A L F E) = (if (v1 - 1) ≤ v4 then some (none, (HP I A L F E)) else (if (lg_cmp v2 (0)) = 0 then some (none, (HP I A L F E)) else mm_run G0 11 25 [some (.ref 54), some (.int v1), some (.long v2), none, some (.int v4), some (.int (v4 + 1)), some (.int o6)] [] (HP I A L F E))) := by
  refine (sg_go ht_X0_eliminate (k := 4) (pc' := 10) (L' := [some (.ref 54), some (.int v1), some (.long v2), none, some (.int v4), some (.int o5), some (.int o6)]) (st' := [.int (v1 - 1), .int v4]) (h' := (HP I A L F E)) rfl).trans ?_
  refine (sg_cmp ht_X0_eliminate rfl).trans ?_
  refine ite_congr rfl (fun _ => ?_) (fun _ => ?_)
  · exact sg_ret ht_X0_eliminate rfl rfl
  · refine (sg_go ht_X0_eliminate (k := 3) (pc' := 16) (L' := [some (.ref 54), some (.int v1), some (.long v2), none, some (.int v4), some (.int o5), some (.int o6)]) (st' := [.int (lg_cmp v2 (0))]) (h' := (HP I A L F E)) rfl).trans ?_
    refine (sg_if ht_X0_eliminate rfl).trans ?_
    refine ite_congr rfl (fun _ => ?_) (fun _ => ?_)
    · exact sg_ret ht_X0_eliminate rfl rfl
    · refine (sg_go ht_X0_eliminate (k := 4) (pc' := 25) (L' := [some (.ref 54), some (.int v1), some (.long v2), none, some (.int v4), some (.int (v4 + 1)), some (.int o6)]) (st' := []) (h' := (HP I A L F E)) rfl).trans ?_
      rfl
theorem sg_X0_eliminate_5 {I : Nat → Int32} {A : Nat → List Int32} {L : Nat → List Int64} {F : Nat → Int64} {E : MH} (v1 : Int32) (v2 : Int64) (v4 : Int32) (o5 : Option Int32) (o6 : Option Int32) : mm_run G0 11 5 [some (.ref 54), some (.int v1), some (.long v2), none, some (.int v4), (o5.map Value.int), (o6.map Value.int)] [] (HP I A L F E) = (if (v1 - 1) ≤ v4 then some (none, (HP I A L F E)) else (if (lg_cmp v2 (0)) = 0 then some (none, (HP I A L F E)) else mm_run G0 11 25 [some (.ref 54), some (.int v1), some (.long v2), none, some (.int v4), some (.int (v4 + 1)), (o6.map Value.int)] [] (HP I A L F E))) := by
  match o5, o6 with
  | none, none => exact sg_X0_eliminate_5_v00 v1 v2 v4
  | none, some o6 => exact sg_X0_eliminate_5_v01 v1 v2 v4 o6
  | some o5, none => exact sg_X0_eliminate_5_v10 v1 v2 v4 o5
  | some o5, some o6 => exact sg_X0_eliminate_5_v11 v1 v2 v4 o5 o6
set_option maxRecDepth 20000 in
theorem sg_X0_eliminate_25_v0 {I : Nat → Int32} {A : Nat → List Int32} {L : Nat → List Int64} {F : Nat → Int64} {E : MH} (v1 : Int32) (v2 : Int64) (v4 : Int32) (v5 : Int32) : mm_run G0 11 25 [some (.ref 54), some (.int v1), some (.long v2), none, some (.int v4), some (.int v5), none] [] (HP I A L F E) = (if v1 ≤ v5 then ((ldR [some 63, some 64, some 65, some 66, some 67, some 68] v4).bind fun a1 => ((ldL (L a1) v4).bind fun x2 => mm_run G0 11 5 [some (.ref 54), some (.int v1), some (.long x2), none, some (.int (v4 + 1)), some (.int v5), none] [] (HP I A L F E))) else mm_run G0 11 37 [some (.ref 54), some (.int v1), some (.long v2), none, some (.int v4), some (.int v5), some (.int (v4 + 1))] [] (HP I A L F E)) := by
  refine (sg_go ht_X0_eliminate (k := 2) (pc' := 28) (L' := [some (.ref 54), some (.int v1), some (.long v2), none, some (.int v4), some (.int v5), none]) (st' := [.int v1, .int v5]) (h' := (HP I A L F E)) rfl).trans ?_
  refine (sg_cmp ht_X0_eliminate rfl).trans ?_
  refine ite_congr rfl (fun _ => ?_) (fun _ => ?_)
  · refine (sg_go ht_X0_eliminate (k := 3) (pc' := 116) (L' := [some (.ref 54), some (.int v1), some (.long v2), none, some (.int v4), some (.int v5), none]) (st' := [.int v4, .ref 62]) (h' := (HP I A L F E)) rfl).trans ?_
    refine (sg_ldR ht_X0_eliminate rfl hp_o_62).trans ?_
    refine bind_cg fun a1 ha1 => ?_
    have ha1 := in_62 ha1
    refine (sg_go ht_X0_eliminate (k := 1) (pc' := 119) (L' := [some (.ref 54), some (.int v1), some (.long v2), none, some (.int v4), some (.int v5), none]) (st' := [.int v4, .ref a1]) (h' := (HP I A L F E)) rfl).trans ?_
    refine (sg_ldL ht_X0_eliminate rfl (sSy_obj ha1)).trans ?_
    refine bind_cg fun x2 hx2 => ?_
    refine (sg_go ht_X0_eliminate (k := 3) (pc' := 5) (L' := [some (.ref 54), some (.int v1), some (.long x2), none, some (.int (v4 + 1)), some (.int v5), none]) (st' := []) (h' := (HP I A L F E)) rfl).trans ?_
    rfl
  · refine (sg_go ht_X0_eliminate (k := 4) (pc' := 37) (L' := [some (.ref 54), some (.int v1), some (.long v2), none, some (.int v4), some (.int v5), some (.int (v4 + 1))]) (st' := []) (h' := (HP I A L F E)) rfl).trans ?_
    rfl
set_option maxRecDepth 20000 in
theorem sg_X0_eliminate_25_v1 {I : Nat → Int32} {A : Nat → List Int32} {L : Nat → List Int64} {F : Nat → Int64} {E : MH} (v1 : Int32) (v2 : Int64) (v4 : Int32) (v5 : Int32) (o6 : Int32) : mm_run G0 11 25 [some (.ref 54), some (.int v1), some (.long v2), none, some (.int v4), some (.int v5), some (.int o6)] [] (HP I A L F E) = (if v1 ≤ v5 then ((ldR [some 63, some 64, some 65, some 66, some 67, some 68] v4).bind fun a1 => ((ldL (L a1) v4).bind fun x2 => mm_run G0 11 5 [some (.ref 54), some (.int v1), some (.long x2), none, some (.int (v4 + 1)), some (.int v5), some (.int o6)] [] (HP I A L F E))) else mm_run G0 11 37 [some (.ref 54), some (.int v1), some (.long v2), none, some (.int v4), some (.int v5), some (.int (v4 + 1))] [] (HP I A L F E)) := by
  refine (sg_go ht_X0_eliminate (k := 2) (pc' := 28) (L' := [some (.ref 54), some (.int v1), some (.long v2), none, some (.int v4), some (.int v5), some (.int o6)]) (st' := [.int v1, .int v5]) (h' := (HP I A L F E)) rfl).trans ?_
  refine (sg_cmp ht_X0_eliminate rfl).trans ?_
  refine ite_congr rfl (fun _ => ?_) (fun _ => ?_)
  · refine (sg_go ht_X0_eliminate (k := 3) (pc' := 116) (L' := [some (.ref 54), some (.int v1), some (.long v2), none, some (.int v4), some (.int v5), some (.int o6)]) (st' := [.int v4, .ref 62]) (h' := (HP I A L F E)) rfl).trans ?_
    refine (sg_ldR ht_X0_eliminate rfl hp_o_62).trans ?_
    refine bind_cg fun a1 ha1 => ?_
    have ha1 := in_62 ha1
    refine (sg_go ht_X0_eliminate (k := 1) (pc' := 119) (L' := [some (.ref 54), some (.int v1), some (.long v2), none, some (.int v4), some (.int v5), some (.int o6)]) (st' := [.int v4, .ref a1]) (h' := (HP I A L F E)) rfl).trans ?_
    refine (sg_ldL ht_X0_eliminate rfl (sSy_obj ha1)).trans ?_
    refine bind_cg fun x2 hx2 => ?_
    refine (sg_go ht_X0_eliminate (k := 3) (pc' := 5) (L' := [some (.ref 54), some (.int v1), some (.long x2), none, some (.int (v4 + 1)), some (.int v5), some (.int o6)]) (st' := []) (h' := (HP I A L F E)) rfl).trans ?_
    rfl
  · refine (sg_go ht_X0_eliminate (k := 4) (pc' := 37) (L' := [some (.ref 54), some (.int v1), some (.long v2), none, some (.int v4), some (.int v5), some (.int (v4 + 1))]) (st' := []) (h' := (HP I A L F E)) rfl).trans ?_
    rfl
theorem sg_X0_eliminate_25 {I : Nat → Int32} {A : Nat → List Int32} {L : Nat → List Int64} {F : Nat → Int64} {E : MH} (v1 : Int32) (v2 : Int64) (v4 : Int32) (v5 : Int32) (o6 : Option Int32) : mm_run G0 11 25 [some (.ref 54), some (.int v1), some (.long v2), none, some (.int v4), some (.int v5), (o6.map Value.int)] [] (HP I A L F E) = (if v1 ≤ v5 then ((ldR [some 63, some 64, some 65, some 66, some 67, some 68] v4).bind fun a1 => ((ldL (L a1) v4).bind fun x2 => mm_run G0 11 5 [some (.ref 54), some (.int v1), some (.long x2), none, some (.int (v4 + 1)), some (.int v5), (o6.map Value.int)] [] (HP I A L F E))) else mm_run G0 11 37 [some (.ref 54), some (.int v1), some (.long v2), none, some (.int v4), some (.int v5), some (.int (v4 + 1))] [] (HP I A L F E)) := by
  match o6 with
  | none => exact sg_X0_eliminate_25_v0 v1 v2 v4 v5
  | some o6 => exact sg_X0_eliminate_25_v1 v1 v2 v4 v5 o6
set_option maxRecDepth 20000 in
theorem sg_X0_eliminate_37 {I : Nat → Int32} {A : Nat → List Int32} {L : Nat → List Int64} {F : Nat → Int64} {E : MH} (v1 : Int32) (v2 : Int64) (v4 : Int32) (v5 : Int32) (v6 : Int32) : mm_run G0 11 37 [some (.ref 54), some (.int v1), some (.long v2), none, some (.int v4), some (.int v5), some (.int v6)] [] (HP I A L F E) = (if v1 < v6 then mm_run G0 11 25 [some (.ref 54), some (.int v1), some (.long v2), none, some (.int v4), some (.int (v5 + 1)), some (.int v6)] [] (HP I A L F E) else ((ldR [some 63, some 64, some 65, some 66, some 67, some 68] v5).bind fun a1 => ((ldR [some 63, some 64, some 65, some 66, some 67, some 68] v4).bind fun a2 => ((ldL (L a2) v4).bind fun x3 => ((ldR [some 63, some 64, some 65, some 66, some 67, some 68] v5).bind fun a4 => ((ldL (L a4) v6).bind fun x5 => ((ldR [some 63, some 64, some 65, some 66, some 67, some 68] v5).bind fun a6 => ((ldL (L a6) v4).bind fun x7 => ((ldR [some 63, some 64, some 65, some 66, some 67, some 68] v4).bind fun a8 => ((ldL (L a8) v6).bind fun x9 => (if v2 = 0 then none else ((stL (L a1) v6 (((x3 * x5) - (x7 * x9)) / v2)).bind fun X10 => mm_run G0 11 37 [some (.ref 54), some (.int v1), some (.long v2), none, some (.int v4), some (.int v5), some (.int (v6 + 1))] [] (HP I A (fu L a1 X10) F E))))))))))))) := by
  refine (sg_go ht_X0_eliminate (k := 2) (pc' := 40) (L' := [some (.ref 54), some (.int v1), some (.long v2), none, some (.int v4), some (.int v5), some (.int v6)]) (st' := [.int v1, .int v6]) (h' := (HP I A L F E)) rfl).trans ?_
  refine (sg_cmp ht_X0_eliminate rfl).trans ?_
  refine ite_congr rfl (fun _ => ?_) (fun _ => ?_)
  · refine (sg_go ht_X0_eliminate (k := 2) (pc' := 25) (L' := [some (.ref 54), some (.int v1), some (.long v2), none, some (.int v4), some (.int (v5 + 1)), some (.int v6)]) (st' := []) (h' := (HP I A L F E)) rfl).trans ?_
    rfl
  · refine (sg_go ht_X0_eliminate (k := 3) (pc' := 49) (L' := [some (.ref 54), some (.int v1), some (.long v2), none, some (.int v4), some (.int v5), some (.int v6)]) (st' := [.int v5, .ref 62]) (h' := (HP I A L F E)) rfl).trans ?_
    refine (sg_ldR ht_X0_eliminate rfl hp_o_62).trans ?_
    refine bind_cg fun a1 ha1 => ?_
    have ha1 := in_62 ha1
    refine (sg_go ht_X0_eliminate (k := 4) (pc' := 58) (L' := [some (.ref 54), some (.int v1), some (.long v2), none, some (.int v4), some (.int v5), some (.int v6)]) (st' := [.int v4, .ref 62, .int v6, .ref a1]) (h' := (HP I A L F E)) rfl).trans ?_
    refine (sg_ldR ht_X0_eliminate rfl hp_o_62).trans ?_
    refine bind_cg fun a2 ha2 => ?_
    have ha2 := in_62 ha2
    refine (sg_go ht_X0_eliminate (k := 1) (pc' := 61) (L' := [some (.ref 54), some (.int v1), some (.long v2), none, some (.int v4), some (.int v5), some (.int v6)]) (st' := [.int v4, .ref a2, .int v6, .ref a1]) (h' := (HP I A L F E)) rfl).trans ?_
    refine (sg_ldL ht_X0_eliminate rfl (sSy_obj ha2)).trans ?_
    refine bind_cg fun x3 hx3 => ?_
    refine (sg_go ht_X0_eliminate (k := 3) (pc' := 68) (L' := [some (.ref 54), some (.int v1), some (.long v2), none, some (.int v4), some (.int v5), some (.int v6)]) (st' := [.int v5, .ref 62, .long x3, .int v6, .ref a1]) (h' := (HP I A L F E)) rfl).trans ?_
    refine (sg_ldR ht_X0_eliminate rfl hp_o_62).trans ?_
    refine bind_cg fun a4 ha4 => ?_
    have ha4 := in_62 ha4
    refine (sg_go ht_X0_eliminate (k := 1) (pc' := 71) (L' := [some (.ref 54), some (.int v1), some (.long v2), none, some (.int v4), some (.int v5), some (.int v6)]) (st' := [.int v6, .ref a4, .long x3, .int v6, .ref a1]) (h' := (HP I A L F E)) rfl).trans ?_
    refine (sg_ldL ht_X0_eliminate rfl (sSy_obj ha4)).trans ?_
    refine bind_cg fun x5 hx5 => ?_
    refine (sg_go ht_X0_eliminate (k := 4) (pc' := 79) (L' := [some (.ref 54), some (.int v1), some (.long v2), none, some (.int v4), some (.int v5), some (.int v6)]) (st' := [.int v5, .ref 62, .long (x3 * x5), .int v6, .ref a1]) (h' := (HP I A L F E)) rfl).trans ?_
    refine (sg_ldR ht_X0_eliminate rfl hp_o_62).trans ?_
    refine bind_cg fun a6 ha6 => ?_
    have ha6 := in_62 ha6
    refine (sg_go ht_X0_eliminate (k := 1) (pc' := 82) (L' := [some (.ref 54), some (.int v1), some (.long v2), none, some (.int v4), some (.int v5), some (.int v6)]) (st' := [.int v4, .ref a6, .long (x3 * x5), .int v6, .ref a1]) (h' := (HP I A L F E)) rfl).trans ?_
    refine (sg_ldL ht_X0_eliminate rfl (sSy_obj ha6)).trans ?_
    refine bind_cg fun x7 hx7 => ?_
    refine (sg_go ht_X0_eliminate (k := 3) (pc' := 89) (L' := [some (.ref 54), some (.int v1), some (.long v2), none, some (.int v4), some (.int v5), some (.int v6)]) (st' := [.int v4, .ref 62, .long x7, .long (x3 * x5), .int v6, .ref a1]) (h' := (HP I A L F E)) rfl).trans ?_
    refine (sg_ldR ht_X0_eliminate rfl hp_o_62).trans ?_
    refine bind_cg fun a8 ha8 => ?_
    have ha8 := in_62 ha8
    refine (sg_go ht_X0_eliminate (k := 1) (pc' := 92) (L' := [some (.ref 54), some (.int v1), some (.long v2), none, some (.int v4), some (.int v5), some (.int v6)]) (st' := [.int v6, .ref a8, .long x7, .long (x3 * x5), .int v6, .ref a1]) (h' := (HP I A L F E)) rfl).trans ?_
    refine (sg_ldL ht_X0_eliminate rfl (sSy_obj ha8)).trans ?_
    refine bind_cg fun x9 hx9 => ?_
    refine (sg_go ht_X0_eliminate (k := 3) (pc' := 96) (L' := [some (.ref 54), some (.int v1), some (.long v2), none, some (.int v4), some (.int v5), some (.int v6)]) (st' := [.long v2, .long ((x3 * x5) - (x7 * x9)), .int v6, .ref a1]) (h' := (HP I A L F E)) rfl).trans ?_
    refine (sg_ldiv ht_X0_eliminate rfl).trans ?_
    refine ite_congr rfl (fun _ => rfl) (fun _ => ?_)
    refine (sg_stL (hh := fun X10 => (HP I A (fu L a1 X10) F E)) ht_X0_eliminate rfl (sSy_obj ha1) (fun _ => sSy_ast ha1)).trans ?_
    refine bind_cg fun X10 hX10 => ?_
    refine (sg_go ht_X0_eliminate (k := 2) (pc' := 37) (L' := [some (.ref 54), some (.int v1), some (.long v2), none, some (.int v4), some (.int v5), some (.int (v6 + 1))]) (st' := []) (h' := (HP I A (fu L a1 X10) F E)) rfl).trans ?_
    rfl
set_option maxRecDepth 20000 in
theorem sg_X0_solve_0 {I : Nat → Int32} {A : Nat → List Int32} {L : Nat → List Int64} {F : Nat → Int64} {E : MH} (p1 : Int32) : mm_call G0 8 [.ref 54, .int p1] (HP I A L F E) = ((mm_call G0 9 [.ref 54, .int p1] (HP I A L F E)).bind fun q => mm_run G0 8 5 [some (.ref 54), some (.int p1), none] (q.1.toList ++ []) q.2) := by
  show mm_run G0 8 0 [some (.ref 54), some (.int p1), none] [] (HP I A L F E) = _
  refine (sg_go ht_X0_solve (k := 2) (pc' := 2) (L' := [some (.ref 54), some (.int p1), none]) (st' := [.int p1, .ref 54]) (h' := (HP I A L F E)) rfl).trans ?_
  refine (sg_call ht_X0_solve (mj := 9) (as := [.ref 54, .int p1]) (rest := []) rfl rfl ⟨by decide, Nat.le_of_ble_eq_true rfl⟩).trans ?_
  rfl
set_option maxRecDepth 20000 in
theorem sg_X0_solve_5 {I : Nat → Int32} {A : Nat → List Int32} {L : Nat → List Int64} {F : Nat → Int64} {E : MH} (v1 : Int32) (s0 : Int32) : mm_run G0 8 5 [some (.ref 54), some (.int v1), none] [.int s0] (HP I A L F E) = ((mm_call G0 10 [.ref 54, .int s0] (HP I A L F E)).bind fun q => mm_run G0 8 11 [some (.ref 54), some (.int v1), some (.int s0)] (q.1.toList ++ []) q.2) := by
  refine (sg_go ht_X0_solve (k := 3) (pc' := 8) (L' := [some (.ref 54), some (.int v1), some (.int s0)]) (st' := [.int s0, .ref 54]) (h' := (HP I A L F E)) rfl).trans ?_
  refine (sg_call ht_X0_solve (mj := 10) (as := [.ref 54, .int s0]) (rest := []) rfl rfl ⟨by decide, Nat.le_of_ble_eq_true rfl⟩).trans ?_
  rfl
set_option maxRecDepth 20000 in
theorem sg_X0_solve_11 {I : Nat → Int32} {A : Nat → List Int32} {L : Nat → List Int64} {F : Nat → Int64} {E : MH} (v1 : Int32) (v2 : Int32) : mm_run G0 8 11 [some (.ref 54), some (.int v1), some (.int v2)] [] (HP I A L F E) = ((mm_call G0 11 [.ref 54, .int v2] (HP I A L F E)).bind fun q => mm_run G0 8 16 [some (.ref 54), some (.int v1), some (.int v2)] (q.1.toList ++ []) q.2) := by
  refine (sg_go ht_X0_solve (k := 2) (pc' := 13) (L' := [some (.ref 54), some (.int v1), some (.int v2)]) (st' := [.int v2, .ref 54]) (h' := (HP I A L F E)) rfl).trans ?_
  refine (sg_call ht_X0_solve (mj := 11) (as := [.ref 54, .int v2]) (rest := []) rfl rfl ⟨by decide, Nat.le_of_ble_eq_true rfl⟩).trans ?_
  rfl
set_option maxRecDepth 20000 in
theorem sg_X0_solve_16 {I : Nat → Int32} {A : Nat → List Int32} {L : Nat → List Int64} {F : Nat → Int64} {E : MH} (v1 : Int32) (v2 : Int32) : mm_run G0 8 16 [some (.ref 54), some (.int v1), some (.int v2)] [] (HP I A L F E) = ((ldR [some 63, some 64, some 65, some 66, some 67, some 68] (v2 - 1)).bind fun a1 => ((ldL (L a1) v2).bind fun x2 => ((ldR [some 63, some 64, some 65, some 66, some 67, some 68] (v2 - 1)).bind fun a3 => ((ldL (L a3) (v2 - 1)).bind fun x4 => some (none, (HP I A L (fu (fu F 5404 x2) 5405 (lmax 1 x4)) E)))))) := by
  refine (sg_go ht_X0_solve (k := 6) (pc' := 24) (L' := [some (.ref 54), some (.int v1), some (.int v2)]) (st' := [.int (v2 - 1), .ref 62, .ref 54]) (h' := (HP I A L F E)) rfl).trans ?_
  refine (sg_ldR ht_X0_solve rfl hp_o_62).trans ?_
  refine bind_cg fun a1 ha1 => ?_
  have ha1 := in_62 ha1
  refine (sg_go ht_X0_solve (k := 1) (pc' := 26) (L' := [some (.ref 54), some (.int v1), some (.int v2)]) (st' := [.int v2, .ref a1, .ref 54]) (h' := (HP I A L F E)) rfl).trans ?_
  refine (sg_ldL ht_X0_solve rfl (sSy_obj ha1)).trans ?_
  refine bind_cg fun x2 hx2 => ?_
  refine (sg_putL (h' := (HP I A L (fu F 5404 x2) E)) ht_X0_solve rfl hp_o_54 (Nat.le_of_ble_eq_true rfl) hp_p_5404).trans ?_
  refine (sg_go ht_X0_solve (k := 7) (pc' := 39) (L' := [some (.ref 54), some (.int v1), some (.int v2)]) (st' := [.int (v2 - 1), .ref 62, .long 1, .ref 54]) (h' := (HP I A L (fu F 5404 x2) E)) rfl).trans ?_
  refine (sg_ldR ht_X0_solve rfl hp_o_62).trans ?_
  refine bind_cg fun a3 ha3 => ?_
  have ha3 := in_62 ha3
  refine (sg_go ht_X0_solve (k := 3) (pc' := 43) (L' := [some (.ref 54), some (.int v1), some (.int v2)]) (st' := [.int (v2 - 1), .ref a3, .long 1, .ref 54]) (h' := (HP I A L (fu F 5404 x2) E)) rfl).trans ?_
  refine (sg_ldL ht_X0_solve rfl (sSy_obj ha3)).trans ?_
  refine bind_cg fun x4 hx4 => ?_
  refine (sg_go ht_X0_solve (k := 1) (pc' := 47) (L' := [some (.ref 54), some (.int v1), some (.int v2)]) (st' := [.long (lmax 1 x4), .ref 54]) (h' := (HP I A L (fu F 5404 x2) E)) rfl).trans ?_
  refine (sg_putL (h' := (HP I A L (fu (fu F 5404 x2) 5405 (lmax 1 x4)) E)) ht_X0_solve rfl hp_o_54 (Nat.le_of_ble_eq_true rfl) hp_p_5405).trans ?_
  exact sg_ret ht_X0_solve rfl rfl
set_option maxRecDepth 20000 in
theorem sg_X3_becomek_0 {I : Nat → Int32} {A : Nat → List Int32} {L : Nat → List Int64} {F : Nat → Int64} {E : MH}  : mm_call G0 23 [.ref 22, .ref 2] (HP I A L F E) = ((mm_call G0 33 [.ref 34, .ref 14] (HP I A L F E)).bind fun q => mm_run G0 23 22 [some (.ref 22), some (.ref 2), some (.int 0)] (q.1.toList ++ []) q.2) := by
  show mm_run G0 23 0 [some (.ref 22), some (.ref 2), none] [] (HP I A L F E) = _
  refine (sg_go ht_X3_become (k := 10) (pc' := 14) (L' := [some (.ref 22), some (.ref 2), some (.int 0)]) (st' := [.ref 2, .ref 34]) (h' := (HP I A L F E)) rfl).trans ?_
  refine (sg_go ht_X3_become (k := 3) (pc' := 19) (L' := [some (.ref 22), some (.ref 2), some (.int 0)]) (st' := [.ref 14, .ref 34]) (h' := (HP I A L F E)) rfl).trans ?_
  refine (sg_call ht_X3_become (mj := 33) (as := [.ref 34, .ref 14]) (rest := []) rfl rfl ⟨by decide, Nat.le_of_ble_eq_true rfl⟩).trans ?_
  rfl
set_option maxRecDepth 20000 in
theorem sg_X3_becomek_22 {I : Nat → Int32} {A : Nat → List Int32} {L : Nat → List Int64} {F : Nat → Int64} {E : MH} (v2 : Int32) : mm_run G0 23 22 [some (.ref 22), some (.ref 2), some (.int v2)] [] (HP I A L F E) = (if 4 ≤ (v2 + 1) then ((cpI (A 4) (A 24) 0 0 5).bind fun X1 => ((mm_call G0 21 [.ref 25, .ref 5] (HP I (fu A 24 X1) L F E)).bind fun q => mm_run G0 23 53 [some (.ref 22), some (.ref 2), some (.int (v2 + 1))] (q.1.toList ++ []) q.2)) else ((ldR [some 34, some 36, some 38, some 40] (v2 + 1)).bind fun a2 => ((ldR [some 14, some 16, some 18, some 20] (v2 + 1)).bind fun a3 => ((mm_call G0 33 [.ref a2, .ref a3] (HP I A L F E)).bind fun q => mm_run G0 23 22 [some (.ref 22), some (.ref 2), some (.int (v2 + 1))] (q.1.toList ++ []) q.2)))) := by
  refine (sg_go ht_X3_become (k := 4) (pc' := 4) (L' := [some (.ref 22), some (.ref 2), some (.int (v2 + 1))]) (st' := [.int 4, .int (v2 + 1)]) (h' := (HP I A L F E)) rfl).trans ?_
  refine (sg_cmp ht_X3_become rfl).trans ?_
  refine ite_congr rfl (fun _ => ?_) (fun _ => ?_)
  · refine (sg_go ht_X3_become (k := 7) (pc' := 39) (L' := [some (.ref 22), some (.ref 2), some (.int (v2 + 1))]) (st' := [.int 5, .int 0, .ref 24, .int 0, .ref 4]) (h' := (HP I A L F E)) rfl).trans ?_
    refine (sg_cpI (hh := fun X1 => (HP I (fu A 24 X1) L F E)) ht_X3_become (Nat.le_of_ble_eq_true rfl) rfl hp_o_4 hp_o_24 (fun _ => hp_s_24)).trans ?_
    refine bind_cg fun X1 hX1 => ?_
    refine (sg_go ht_X3_become (k := 4) (pc' := 50) (L' := [some (.ref 22), some (.ref 2), some (.int (v2 + 1))]) (st' := [.ref 5, .ref 25]) (h' := (HP I (fu A 24 X1) L F E)) rfl).trans ?_
    refine (sg_call ht_X3_become (mj := 21) (as := [.ref 25, .ref 5]) (rest := []) rfl rfl ⟨by decide, Nat.le_of_ble_eq_true rfl⟩).trans ?_
    rfl
  · refine (sg_go ht_X3_become (k := 3) (pc' := 12) (L' := [some (.ref 22), some (.ref 2), some (.int (v2 + 1))]) (st' := [.int (v2 + 1), .ref 23]) (h' := (HP I A L F E)) rfl).trans ?_
    refine (sg_ldR ht_X3_become rfl hp_o_23).trans ?_
    refine bind_cg fun a2 ha2 => ?_
    have ha2 := in_23 ha2
    refine (sg_go ht_X3_become (k := 3) (pc' := 18) (L' := [some (.ref 22), some (.ref 2), some (.int (v2 + 1))]) (st' := [.int (v2 + 1), .ref 3, .ref a2]) (h' := (HP I A L F E)) rfl).trans ?_
    refine (sg_ldR ht_X3_become rfl hp_o_3).trans ?_
    refine bind_cg fun a3 ha3 => ?_
    have ha3 := in_3 ha3
    refine (sg_callV ht_X3_become (mj := 33) (as := [.ref a2, .ref a3]) (rest := []) rfl rfl rfl (Nat.le_of_ble_eq_true rfl) (sS_obj ha2) ⟨by decide, Nat.le_of_ble_eq_true rfl⟩).trans ?_
    rfl
set_option maxRecDepth 20000 in
theorem sg_X3_becomek_53 {I : Nat → Int32} {A : Nat → List Int32} {L : Nat → List Int64} {F : Nat → Int64} {E : MH} (v2 : Int32) : mm_run G0 23 53 [some (.ref 22), some (.ref 2), some (.int v2)] [] (HP I A L F E) = ((mm_call G0 21 [.ref 28, .ref 8] (HP I A L F E)).bind fun q => mm_run G0 23 64 [some (.ref 22), some (.ref 2), some (.int v2)] (q.1.toList ++ []) q.2) := by
  refine (sg_go ht_X3_become (k := 4) (pc' := 61) (L' := [some (.ref 22), some (.ref 2), some (.int v2)]) (st' := [.ref 8, .ref 28]) (h' := (HP I A L F E)) rfl).trans ?_
  refine (sg_call ht_X3_become (mj := 21) (as := [.ref 28, .ref 8]) (rest := []) rfl rfl ⟨by decide, Nat.le_of_ble_eq_true rfl⟩).trans ?_
  rfl
set_option maxRecDepth 20000 in
theorem sg_X3_becomek_64 {I : Nat → Int32} {A : Nat → List Int32} {L : Nat → List Int64} {F : Nat → Int64} {E : MH} (v2 : Int32) : mm_run G0 23 64 [some (.ref 22), some (.ref 2), some (.int v2)] [] (HP I A L F E) = ((mm_call G0 21 [.ref 31, .ref 11] (HP I A L F E)).bind fun q => mm_run G0 23 75 [some (.ref 22), some (.ref 2), some (.int v2)] (q.1.toList ++ []) q.2) := by
  refine (sg_go ht_X3_become (k := 4) (pc' := 72) (L' := [some (.ref 22), some (.ref 2), some (.int v2)]) (st' := [.ref 11, .ref 31]) (h' := (HP I A L F E)) rfl).trans ?_
  refine (sg_call ht_X3_become (mj := 21) (as := [.ref 31, .ref 11]) (rest := []) rfl rfl ⟨by decide, Nat.le_of_ble_eq_true rfl⟩).trans ?_
  rfl
set_option maxRecDepth 20000 in
theorem sg_X3_becomek_75 {I : Nat → Int32} {A : Nat → List Int32} {L : Nat → List Int64} {F : Nat → Int64} {E : MH} (v2 : Int32) : mm_run G0 23 75 [some (.ref 22), some (.ref 2), some (.int v2)] [] (HP I A L F E) = some (none, (HP I A L F E)) := by
  exact sg_ret ht_X3_become rfl rfl
set_option maxRecDepth 20000 in
theorem sg_X3_becomen_0 {I : Nat → Int32} {A : Nat → List Int32} {L : Nat → List Int64} {F : Nat → Int64} {E : MH}  : mm_call G0 23 [.ref 2, .ref 22] (HP I A L F E) = ((mm_call G0 33 [.ref 14, .ref 34] (HP I A L F E)).bind fun q => mm_run G0 23 22 [some (.ref 2), some (.ref 22), some (.int 0)] (q.1.toList ++ []) q.2) := by
  show mm_run G0 23 0 [some (.ref 2), some (.ref 22), none] [] (HP I A L F E) = _
  refine (sg_go ht_X3_become (k := 10) (pc' := 14) (L' := [some (.ref 2), some (.ref 22), some (.int 0)]) (st' := [.ref 22, .ref 14]) (h' := (HP I A L F E)) rfl).trans ?_
  refine (sg_go ht_X3_become (k := 3) (pc' := 19) (L' := [some (.ref 2), some (.ref 22), some (.int 0)]) (st' := [.ref 34, .ref 14]) (h' := (HP I A L F E)) rfl).trans ?_
  refine (sg_call ht_X3_become (mj := 33) (as := [.ref 14, .ref 34]) (rest := []) rfl rfl ⟨by decide, Nat.le_of_ble_eq_true rfl⟩).trans ?_
  rfl
set_option maxRecDepth 20000 in
theorem sg_X3_becomen_22 {I : Nat → Int32} {A : Nat → List Int32} {L : Nat → List Int64} {F : Nat → Int64} {E : MH} (v2 : Int32) : mm_run G0 23 22 [some (.ref 2), some (.ref 22), some (.int v2)] [] (HP I A L F E) = (if 4 ≤ (v2 + 1) then ((cpI (A 24) (A 4) 0 0 5).bind fun X1 => ((mm_call G0 21 [.ref 5, .ref 25] (HP I (fu A 4 X1) L F E)).bind fun q => mm_run G0 23 53 [some (.ref 2), some (.ref 22), some (.int (v2 + 1))] (q.1.toList ++ []) q.2)) else ((ldR [some 14, some 16, some 18, some 20] (v2 + 1)).bind fun a2 => ((ldR [some 34, some 36, some 38, some 40] (v2 + 1)).bind fun a3 => ((mm_call G0 33 [.ref a2, .ref a3] (HP I A L F E)).bind fun q => mm_run G0 23 22 [some (.ref 2), some (.ref 22), some (.int (v2 + 1))] (q.1.toList ++ []) q.2)))) := by
  refine (sg_go ht_X3_become (k := 4) (pc' := 4) (L' := [some (.ref 2), some (.ref 22), some (.int (v2 + 1))]) (st' := [.int 4, .int (v2 + 1)]) (h' := (HP I A L F E)) rfl).trans ?_
  refine (sg_cmp ht_X3_become rfl).trans ?_
  refine ite_congr rfl (fun _ => ?_) (fun _ => ?_)
  · refine (sg_go ht_X3_become (k := 7) (pc' := 39) (L' := [some (.ref 2), some (.ref 22), some (.int (v2 + 1))]) (st' := [.int 5, .int 0, .ref 4, .int 0, .ref 24]) (h' := (HP I A L F E)) rfl).trans ?_
    refine (sg_cpI (hh := fun X1 => (HP I (fu A 4 X1) L F E)) ht_X3_become (Nat.le_of_ble_eq_true rfl) rfl hp_o_24 hp_o_4 (fun _ => hp_s_4)).trans ?_
    refine bind_cg fun X1 hX1 => ?_
    refine (sg_go ht_X3_become (k := 4) (pc' := 50) (L' := [some (.ref 2), some (.ref 22), some (.int (v2 + 1))]) (st' := [.ref 25, .ref 5]) (h' := (HP I (fu A 4 X1) L F E)) rfl).trans ?_
    refine (sg_call ht_X3_become (mj := 21) (as := [.ref 5, .ref 25]) (rest := []) rfl rfl ⟨by decide, Nat.le_of_ble_eq_true rfl⟩).trans ?_
    rfl
  · refine (sg_go ht_X3_become (k := 3) (pc' := 12) (L' := [some (.ref 2), some (.ref 22), some (.int (v2 + 1))]) (st' := [.int (v2 + 1), .ref 3]) (h' := (HP I A L F E)) rfl).trans ?_
    refine (sg_ldR ht_X3_become rfl hp_o_3).trans ?_
    refine bind_cg fun a2 ha2 => ?_
    have ha2 := in_3 ha2
    refine (sg_go ht_X3_become (k := 3) (pc' := 18) (L' := [some (.ref 2), some (.ref 22), some (.int (v2 + 1))]) (st' := [.int (v2 + 1), .ref 23, .ref a2]) (h' := (HP I A L F E)) rfl).trans ?_
    refine (sg_ldR ht_X3_become rfl hp_o_23).trans ?_
    refine bind_cg fun a3 ha3 => ?_
    have ha3 := in_23 ha3
    refine (sg_callV ht_X3_become (mj := 33) (as := [.ref a2, .ref a3]) (rest := []) rfl rfl rfl (Nat.le_of_ble_eq_true rfl) (sS_obj ha2) ⟨by decide, Nat.le_of_ble_eq_true rfl⟩).trans ?_
    rfl
set_option maxRecDepth 20000 in
theorem sg_X3_becomen_53 {I : Nat → Int32} {A : Nat → List Int32} {L : Nat → List Int64} {F : Nat → Int64} {E : MH} (v2 : Int32) : mm_run G0 23 53 [some (.ref 2), some (.ref 22), some (.int v2)] [] (HP I A L F E) = ((mm_call G0 21 [.ref 8, .ref 28] (HP I A L F E)).bind fun q => mm_run G0 23 64 [some (.ref 2), some (.ref 22), some (.int v2)] (q.1.toList ++ []) q.2) := by
  refine (sg_go ht_X3_become (k := 4) (pc' := 61) (L' := [some (.ref 2), some (.ref 22), some (.int v2)]) (st' := [.ref 28, .ref 8]) (h' := (HP I A L F E)) rfl).trans ?_
  refine (sg_call ht_X3_become (mj := 21) (as := [.ref 8, .ref 28]) (rest := []) rfl rfl ⟨by decide, Nat.le_of_ble_eq_true rfl⟩).trans ?_
  rfl
set_option maxRecDepth 20000 in
theorem sg_X3_becomen_64 {I : Nat → Int32} {A : Nat → List Int32} {L : Nat → List Int64} {F : Nat → Int64} {E : MH} (v2 : Int32) : mm_run G0 23 64 [some (.ref 2), some (.ref 22), some (.int v2)] [] (HP I A L F E) = ((mm_call G0 21 [.ref 11, .ref 31] (HP I A L F E)).bind fun q => mm_run G0 23 75 [some (.ref 2), some (.ref 22), some (.int v2)] (q.1.toList ++ []) q.2) := by
  refine (sg_go ht_X3_become (k := 4) (pc' := 72) (L' := [some (.ref 2), some (.ref 22), some (.int v2)]) (st' := [.ref 31, .ref 11]) (h' := (HP I A L F E)) rfl).trans ?_
  refine (sg_call ht_X3_become (mj := 21) (as := [.ref 11, .ref 31]) (rest := []) rfl rfl ⟨by decide, Nat.le_of_ble_eq_true rfl⟩).trans ?_
  rfl
set_option maxRecDepth 20000 in
theorem sg_X3_becomen_75 {I : Nat → Int32} {A : Nat → List Int32} {L : Nat → List Int64} {F : Nat → Int64} {E : MH} (v2 : Int32) : mm_run G0 23 75 [some (.ref 2), some (.ref 22), some (.int v2)] [] (HP I A L F E) = some (none, (HP I A L F E)) := by
  exact sg_ret ht_X3_become rfl rfl
set_option maxRecDepth 20000 in
theorem sg_X3_allValues_0 {I : Nat → Int32} {A : Nat → List Int32} {L : Nat → List Int64} {F : Nat → Int64} {E : MH}  : mm_call G0 24 [.ref 2] (HP I A L F E) = some (some (.int ((((0 + (I 1404)) + (I 1604)) + (I 1804)) + (I 2004))), (HP I A L F E)) := by
  show mm_run G0 24 0 [some (.ref 2), none, none] [] (HP I A L F E) = _
  refine (sg_go ht_X3_allValues (k := 10) (pc' := 14) (L' := [some (.ref 2), some (.int 0), some (.int 0)]) (st' := [.ref 3, .int 0]) (h' := (HP I A L F E)) rfl).trans ?_
  refine (sg_go ht_X3_allValues (k := 10) (pc' := 9) (L' := [some (.ref 2), some (.int (0 + (I 1404))), some (.int 1)]) (st' := []) (h' := (HP I A L F E)) rfl).trans ?_
  refine (sg_go ht_X3_allValues (k := 10) (pc' := 4) (L' := [some (.ref 2), some (.int ((0 + (I 1404)) + (I 1604))), some (.int 2)]) (st' := []) (h' := (HP I A L F E)) rfl).trans ?_
  refine (sg_go ht_X3_allValues (k := 10) (pc' := 20) (L' := [some (.ref 2), some (.int ((0 + (I 1404)) + (I 1604))), some (.int 2)]) (st' := [.int (((0 + (I 1404)) + (I 1604)) + (I 1804))]) (h' := (HP I A L F E)) rfl).trans ?_
  refine (sg_go ht_X3_allValues (k := 10) (pc' := 15) (L' := [some (.ref 2), some (.int (((0 + (I 1404)) + (I 1604)) + (I 1804))), some (.int 3)]) (st' := [.int 3, .ref 3, .int (((0 + (I 1404)) + (I 1604)) + (I 1804))]) (h' := (HP I A L F E)) rfl).trans ?_
  refine (sg_go ht_X3_allValues (k := 10) (pc' := 28) (L' := [some (.ref 2), some (.int ((((0 + (I 1404)) + (I 1604)) + (I 1804)) + (I 2004))), some (.int 4)]) (st' := [.int ((((0 + (I 1404)) + (I 1604)) + (I 1804)) + (I 2004))]) (h' := (HP I A L F E)) rfl).trans ?_
  exact sg_ret ht_X3_allValues rfl rfl
set_option maxRecDepth 20000 in
theorem sg_X3_jointPlaces_0 {I : Nat → Int32} {A : Nat → List Int32} {L : Nat → List Int64} {F : Nat → Int64} {E : MH}  : mm_call G0 25 [.ref 2] (HP I A L F E) = mm_run G0 25 4 [some (.ref 2), some (.int 0), some (.int 0), none] [] (HP I A L F E) := by
  show mm_run G0 25 0 [some (.ref 2), none, none, none] [] (HP I A L F E) = _
  refine (sg_go ht_X3_jointPlaces (k := 4) (pc' := 4) (L' := [some (.ref 2), some (.int 0), some (.int 0), none]) (st' := []) (h' := (HP I A L F E)) rfl).trans ?_
  rfl
set_option maxRecDepth 20000 in
theorem sg_X3_jointPlaces_4_v0 {I : Nat → Int32} {A : Nat → List Int32} {L : Nat → List Int64} {F : Nat → Int64} {E : MH} (v1 : Int32) (v2 : Int32) : mm_run G0 25 4 [some (.ref 2), some (.int v1), some (.int v2), none] [] (HP I A L F E) = (if 4 ≤ v2 then some (some (.int v1), (HP I A L F E)) else ((ldR [some 14, some 16, some 18, some 20] v2).bind fun a1 => (if (I (100 * a1 + 4)) ≤ 0 then mm_run G0 25 4 [some (.ref 2), some (.int v1), some (.int (v2 + 1)), some (.int (I (100 * a1 + 4)))] [] (HP I A L F E) else (if v1 = 0 then mm_run G0 25 4 [some (.ref 2), some (.int (I (100 * a1 + 4))), some (.int (v2 + 1)), some (.int (I (100 * a1 + 4)))] [] (HP I A L F E) else (if v1 ≤ (I (100 * a1 + 4)) then mm_run G0 25 4 [some (.ref 2), some (.int v1), some (.int (v2 + 1)), some (.int (I (100 * a1 + 4)))] [] (HP I A L F E) else mm_run G0 25 4 [some (.ref 2), some (.int (I (100 * a1 + 4))), some (.int (v2 + 1)), some (.int (I (100 * a1 + 4)))] [] (HP I A L F E)))))) := by
  refine (sg_go ht_X3_jointPlaces (k := 2) (pc' := 6) (L' := [some (.ref 2), some (.int v1), some (.int v2), none]) (st' := [.int 4, .int v2]) (h' := (HP I A L F E)) rfl).trans ?_
  refine (sg_cmp ht_X3_jointPlaces rfl).trans ?_
  refine ite_congr rfl (fun _ => ?_) (fun _ => ?_)
  · refine (sg_go ht_X3_jointPlaces (k := 1) (pc' := 41) (L' := [some (.ref 2), some (.int v1), some (.int v2), none]) (st' := [.int v1]) (h' := (HP I A L F E)) rfl).trans ?_
    exact sg_ret ht_X3_jointPlaces rfl rfl
  · refine (sg_go ht_X3_jointPlaces (k := 3) (pc' := 14) (L' := [some (.ref 2), some (.int v1), some (.int v2), none]) (st' := [.int v2, .ref 3]) (h' := (HP I A L F E)) rfl).trans ?_
    refine (sg_ldR ht_X3_jointPlaces rfl hp_o_3).trans ?_
    refine bind_cg fun a1 ha1 => ?_
    have ha1 := in_3 ha1
    refine (sg_getI ht_X3_jointPlaces rfl (sS_obj ha1) rfl).trans ?_
    refine (sg_go ht_X3_jointPlaces (k := 2) (pc' := 20) (L' := [some (.ref 2), some (.int v1), some (.int v2), some (.int (I (100 * a1 + 4)))]) (st' := [.int (I (100 * a1 + 4))]) (h' := (HP I A L F E)) rfl).trans ?_
    refine (sg_if ht_X3_jointPlaces rfl).trans ?_
    refine ite_congr rfl (fun _ => ?_) (fun _ => ?_)
    · refine (sg_go ht_X3_jointPlaces (k := 2) (pc' := 4) (L' := [some (.ref 2), some (.int v1), some (.int (v2 + 1)), some (.int (I (100 * a1 + 4)))]) (st' := []) (h' := (HP I A L F E)) rfl).trans ?_
      rfl
    · refine (sg_go ht_X3_jointPlaces (k := 1) (pc' := 24) (L' := [some (.ref 2), some (.int v1), some (.int v2), some (.int (I (100 * a1 + 4)))]) (st' := [.int v1]) (h' := (HP I A L F E)) rfl).trans ?_
      refine (sg_if ht_X3_jointPlaces rfl).trans ?_
      refine ite_congr rfl (fun _ => ?_) (fun _ => ?_)
      · refine (sg_go ht_X3_jointPlaces (k := 4) (pc' := 4) (L' := [some (.ref 2), some (.int (I (100 * a1 + 4))), some (.int (v2 + 1)), some (.int (I (100 * a1 + 4)))]) (st' := []) (h' := (HP I A L F E)) rfl).trans ?_
        rfl
      · refine (sg_go ht_X3_jointPlaces (k := 2) (pc' := 29) (L' := [some (.ref 2), some (.int v1), some (.int v2), some (.int (I (100 * a1 + 4)))]) (st' := [.int v1, .int (I (100 * a1 + 4))]) (h' := (HP I A L F E)) rfl).trans ?_
        refine (sg_cmp ht_X3_jointPlaces rfl).trans ?_
        refine ite_congr rfl (fun _ => ?_) (fun _ => ?_)
        · refine (sg_go ht_X3_jointPlaces (k := 2) (pc' := 4) (L' := [some (.ref 2), some (.int v1), some (.int (v2 + 1)), some (.int (I (100 * a1 + 4)))]) (st' := []) (h' := (HP I A L F E)) rfl).trans ?_
          rfl
        · refine (sg_go ht_X3_jointPlaces (k := 4) (pc' := 4) (L' := [some (.ref 2), some (.int (I (100 * a1 + 4))), some (.int (v2 + 1)), some (.int (I (100 * a1 + 4)))]) (st' := []) (h' := (HP I A L F E)) rfl).trans ?_
          rfl
set_option maxRecDepth 20000 in
theorem sg_X3_jointPlaces_4_v1 {I : Nat → Int32} {A : Nat → List Int32} {L : Nat → List Int64} {F : Nat → Int64} {E : MH} (v1 : Int32) (v2 : Int32) (o3 : Int32) : mm_run G0 25 4 [some (.ref 2), some (.int v1), some (.int v2), some (.int o3)] [] (HP I A L F E) = (if 4 ≤ v2 then some (some (.int v1), (HP I A L F E)) else ((ldR [some 14, some 16, some 18, some 20] v2).bind fun a1 => (if (I (100 * a1 + 4)) ≤ 0 then mm_run G0 25 4 [some (.ref 2), some (.int v1), some (.int (v2 + 1)), some (.int (I (100 * a1 + 4)))] [] (HP I A L F E) else (if v1 = 0 then mm_run G0 25 4 [some (.ref 2), some (.int (I (100 * a1 + 4))), some (.int (v2 + 1)), some (.int (I (100 * a1 + 4)))] [] (HP I A L F E) else (if v1 ≤ (I (100 * a1 + 4)) then mm_run G0 25 4 [some (.ref 2), some (.int v1), some (.int (v2 + 1)), some (.int (I (100 * a1 + 4)))] [] (HP I A L F E) else mm_run G0 25 4 [some (.ref 2), some (.int (I (100 * a1 + 4))), some (.int (v2 + 1)), some (.int (I (100 * a1 + 4)))] [] (HP I A L F E)))))) := by
  refine (sg_go ht_X3_jointPlaces (k := 2) (pc' := 6) (L' := [some (.ref 2), some (.int v1), some (.int v2), some (.int o3)]) (st' := [.int 4, .int v2]) (h' := (HP I A L F E)) rfl).trans ?_
  refine (sg_cmp ht_X3_jointPlaces rfl).trans ?_
  refine ite_congr rfl (fun _ => ?_) (fun _ => ?_)
  · refine (sg_go ht_X3_jointPlaces (k := 1) (pc' := 41) (L' := [some (.ref 2), some (.int v1), some (.int v2), some (.int o3)]) (st' := [.int v1]) (h' := (HP I A L F E)) rfl).trans ?_
    exact sg_ret ht_X3_jointPlaces rfl rfl
  · refine (sg_go ht_X3_jointPlaces (k := 3) (pc' := 14) (L' := [some (.ref 2), some (.int v1), some (.int v2), some (.int o3)]) (st' := [.int v2, .ref 3]) (h' := (HP I A L F E)) rfl).trans ?_
    refine (sg_ldR ht_X3_jointPlaces rfl hp_o_3).trans ?_
    refine bind_cg fun a1 ha1 => ?_
    have ha1 := in_3 ha1
    refine (sg_getI ht_X3_jointPlaces rfl (sS_obj ha1) rfl).trans ?_
    refine (sg_go ht_X3_jointPlaces (k := 2) (pc' := 20) (L' := [some (.ref 2), some (.int v1), some (.int v2), some (.int (I (100 * a1 + 4)))]) (st' := [.int (I (100 * a1 + 4))]) (h' := (HP I A L F E)) rfl).trans ?_
    refine (sg_if ht_X3_jointPlaces rfl).trans ?_
    refine ite_congr rfl (fun _ => ?_) (fun _ => ?_)
    · refine (sg_go ht_X3_jointPlaces (k := 2) (pc' := 4) (L' := [some (.ref 2), some (.int v1), some (.int (v2 + 1)), some (.int (I (100 * a1 + 4)))]) (st' := []) (h' := (HP I A L F E)) rfl).trans ?_
      rfl
    · refine (sg_go ht_X3_jointPlaces (k := 1) (pc' := 24) (L' := [some (.ref 2), some (.int v1), some (.int v2), some (.int (I (100 * a1 + 4)))]) (st' := [.int v1]) (h' := (HP I A L F E)) rfl).trans ?_
      refine (sg_if ht_X3_jointPlaces rfl).trans ?_
      refine ite_congr rfl (fun _ => ?_) (fun _ => ?_)
      · refine (sg_go ht_X3_jointPlaces (k := 4) (pc' := 4) (L' := [some (.ref 2), some (.int (I (100 * a1 + 4))), some (.int (v2 + 1)), some (.int (I (100 * a1 + 4)))]) (st' := []) (h' := (HP I A L F E)) rfl).trans ?_
        rfl
      · refine (sg_go ht_X3_jointPlaces (k := 2) (pc' := 29) (L' := [some (.ref 2), some (.int v1), some (.int v2), some (.int (I (100 * a1 + 4)))]) (st' := [.int v1, .int (I (100 * a1 + 4))]) (h' := (HP I A L F E)) rfl).trans ?_
        refine (sg_cmp ht_X3_jointPlaces rfl).trans ?_
        refine ite_congr rfl (fun _ => ?_) (fun _ => ?_)
        · refine (sg_go ht_X3_jointPlaces (k := 2) (pc' := 4) (L' := [some (.ref 2), some (.int v1), some (.int (v2 + 1)), some (.int (I (100 * a1 + 4)))]) (st' := []) (h' := (HP I A L F E)) rfl).trans ?_
          rfl
        · refine (sg_go ht_X3_jointPlaces (k := 4) (pc' := 4) (L' := [some (.ref 2), some (.int (I (100 * a1 + 4))), some (.int (v2 + 1)), some (.int (I (100 * a1 + 4)))]) (st' := []) (h' := (HP I A L F E)) rfl).trans ?_
          rfl
theorem sg_X3_jointPlaces_4 {I : Nat → Int32} {A : Nat → List Int32} {L : Nat → List Int64} {F : Nat → Int64} {E : MH} (v1 : Int32) (v2 : Int32) (o3 : Option Int32) : mm_run G0 25 4 [some (.ref 2), some (.int v1), some (.int v2), (o3.map Value.int)] [] (HP I A L F E) = (if 4 ≤ v2 then some (some (.int v1), (HP I A L F E)) else ((ldR [some 14, some 16, some 18, some 20] v2).bind fun a1 => (if (I (100 * a1 + 4)) ≤ 0 then mm_run G0 25 4 [some (.ref 2), some (.int v1), some (.int (v2 + 1)), some (.int (I (100 * a1 + 4)))] [] (HP I A L F E) else (if v1 = 0 then mm_run G0 25 4 [some (.ref 2), some (.int (I (100 * a1 + 4))), some (.int (v2 + 1)), some (.int (I (100 * a1 + 4)))] [] (HP I A L F E) else (if v1 ≤ (I (100 * a1 + 4)) then mm_run G0 25 4 [some (.ref 2), some (.int v1), some (.int (v2 + 1)), some (.int (I (100 * a1 + 4)))] [] (HP I A L F E) else mm_run G0 25 4 [some (.ref 2), some (.int (I (100 * a1 + 4))), some (.int (v2 + 1)), some (.int (I (100 * a1 + 4)))] [] (HP I A L F E)))))) := by
  match o3 with
  | none => exact sg_X3_jointPlaces_4_v0 v1 v2
  | some o3 => exact sg_X3_jointPlaces_4_v1 v1 v2 o3
set_option maxRecDepth 20000 in
theorem sg_X3_jointOffset_0 {I : Nat → Int32} {A : Nat → List Int32} {L : Nat → List Int64} {F : Nat → Int64} {E : MH} (p1 : Int32) : mm_call G0 26 [.ref 2, .int p1] (HP I A L F E) = mm_run G0 26 4 [some (.ref 2), some (.int p1), some (.int 0), some (.int 0)] [] (HP I A L F E) := by
  show mm_run G0 26 0 [some (.ref 2), some (.int p1), none, none] [] (HP I A L F E) = _
  refine (sg_go ht_X3_jointOffset (k := 4) (pc' := 4) (L' := [some (.ref 2), some (.int p1), some (.int 0), some (.int 0)]) (st' := []) (h' := (HP I A L F E)) rfl).trans ?_
  rfl
set_option maxRecDepth 20000 in
theorem sg_X3_jointOffset_4 {I : Nat → Int32} {A : Nat → List Int32} {L : Nat → List Int64} {F : Nat → Int64} {E : MH} (v1 : Int32) (v2 : Int32) (v3 : Int32) : mm_run G0 26 4 [some (.ref 2), some (.int v1), some (.int v2), some (.int v3)] [] (HP I A L F E) = (if 4 ≤ v3 then some (some (.int v2), (HP I A L F E)) else ((ldR [some 14, some 16, some 18, some 20] v3).bind fun a1 => (if ¬ v1 < 0 ∧ ¬ (I (100 * a1 + 4)) ≤ v1 then ((ldR [some 14, some 16, some 18, some 20] v3).bind fun a2 => ((ldI (A (a2 + 1)) v1).bind fun x3 => mm_run G0 26 4 [some (.ref 2), some (.int v1), some (.int (v2 + (ofv (I (100 * a2 + 0)) (x3 - (I (100 * a2 + 1)))))), some (.int (v3 + 1))] [] (HP I A L F E))) else mm_run G0 26 4 [some (.ref 2), some (.int v1), some (.int v2), some (.int (v3 + 1))] [] (HP I A L F E)))) := by
  refine (sg_go ht_X3_jointOffset (k := 2) (pc' := 6) (L' := [some (.ref 2), some (.int v1), some (.int v2), some (.int v3)]) (st' := [.int 4, .int v3]) (h' := (HP I A L F E)) rfl).trans ?_
  refine (sg_cmp ht_X3_jointOffset rfl).trans ?_
  refine ite_congr rfl (fun _ => ?_) (fun _ => ?_)
  · refine (sg_go ht_X3_jointOffset (k := 1) (pc' := 42) (L' := [some (.ref 2), some (.int v1), some (.int v2), some (.int v3)]) (st' := [.int v2]) (h' := (HP I A L F E)) rfl).trans ?_
    exact sg_ret ht_X3_jointOffset rfl rfl
  · refine (sg_go ht_X3_jointOffset (k := 3) (pc' := 14) (L' := [some (.ref 2), some (.int v1), some (.int v2), some (.int v3)]) (st' := [.int v3, .ref 3]) (h' := (HP I A L F E)) rfl).trans ?_
    refine (sg_ldR ht_X3_jointOffset rfl hp_o_3).trans ?_
    refine bind_cg fun a1 ha1 => ?_
    have ha1 := in_3 ha1
    refine (sg_go ht_X3_jointOffset (k := 1) (pc' := 16) (L' := [some (.ref 2), some (.int v1), some (.int v2), some (.int v3)]) (st' := [.int v1, .ref a1]) (h' := (HP I A L F E)) rfl).trans ?_
    refine (sg_callV ht_X3_jointOffset (mj := 30) (as := [.ref a1, .int v1]) (rest := []) rfl rfl rfl (Nat.le_of_ble_eq_true rfl) (sS_obj ha1) ⟨by decide, Nat.le_of_ble_eq_true rfl⟩).trans ?_
    refine (bind_eq (sp_X4_has ha1 v1)).trans ?_
    show mm_run G0 26 19 [some (.ref 2), some (.int v1), some (.int v2), some (.int v3)] [.int (bi (decide (¬ v1 < 0 ∧ ¬ (I (100 * a1 + 4)) ≤ v1)))] (HP I A L F E) = _
    refine (sg_be ht_X3_jointOffset rfl).trans ?_
    refine ite_congr rfl (fun _ => ?_) (fun _ => ?_)
    · refine (sg_go ht_X3_jointOffset (k := 4) (pc' := 28) (L' := [some (.ref 2), some (.int v1), some (.int v2), some (.int v3)]) (st' := [.int v3, .ref 3, .int v2]) (h' := (HP I A L F E)) rfl).trans ?_
      refine (sg_ldR ht_X3_jointOffset rfl hp_o_3).trans ?_
      refine bind_cg fun a2 ha2 => ?_
      have ha2 := in_3 ha2
      refine (sg_go ht_X3_jointOffset (k := 1) (pc' := 30) (L' := [some (.ref 2), some (.int v1), some (.int v2), some (.int v3)]) (st' := [.int v1, .ref a2, .int v2]) (h' := (HP I A L F E)) rfl).trans ?_
      refine (sg_callV ht_X3_jointOffset (mj := 37) (as := [.ref a2, .int v1]) (rest := [.int v2]) rfl rfl rfl (Nat.le_of_ble_eq_true rfl) (sS_obj ha2) ⟨by decide, Nat.le_of_ble_eq_true rfl⟩).trans ?_
      refine (bind_eq (sp_X4_offset ha2 v1)).trans ?_
      refine bind_as.trans ?_
      refine bind_cg fun x3 hx3 => ?_
      show mm_run G0 26 33 [some (.ref 2), some (.int v1), some (.int v2), some (.int v3)] [.int (ofv (I (100 * a2 + 0)) (x3 - (I (100 * a2 + 1)))), .int v2] (HP I A L F E) = _
      refine (sg_go ht_X3_jointOffset (k := 4) (pc' := 4) (L' := [some (.ref 2), some (.int v1), some (.int (v2 + (ofv (I (100 * a2 + 0)) (x3 - (I (100 * a2 + 1)))))), some (.int (v3 + 1))]) (st' := []) (h' := (HP I A L F E)) rfl).trans ?_
      rfl
    · refine (sg_go ht_X3_jointOffset (k := 2) (pc' := 4) (L' := [some (.ref 2), some (.int v1), some (.int v2), some (.int (v3 + 1))]) (st' := []) (h' := (HP I A L F E)) rfl).trans ?_
      rfl
set_option maxRecDepth 20000 in
theorem sg_X3_jointSetting_0 {I : Nat → Int32} {A : Nat → List Int32} {L : Nat → List Int64} {F : Nat → Int64} {E : MH} (p1 : Int32) : mm_call G0 27 [.ref 2, .int p1] (HP I A L F E) = mm_run G0 27 4 [some (.ref 2), some (.int p1), some (.int 0), some (.int 0)] [] (HP I A L F E) := by
  show mm_run G0 27 0 [some (.ref 2), some (.int p1), none, none] [] (HP I A L F E) = _
  refine (sg_go ht_X3_jointSetting (k := 4) (pc' := 4) (L' := [some (.ref 2), some (.int p1), some (.int 0), some (.int 0)]) (st' := []) (h' := (HP I A L F E)) rfl).trans ?_
  rfl
set_option maxRecDepth 20000 in
theorem sg_X3_jointSetting_4 {I : Nat → Int32} {A : Nat → List Int32} {L : Nat → List Int64} {F : Nat → Int64} {E : MH} (v1 : Int32) (v2 : Int32) (v3 : Int32) : mm_run G0 27 4 [some (.ref 2), some (.int v1), some (.int v2), some (.int v3)] [] (HP I A L F E) = (if 4 ≤ v3 then some (some (.int v2), (HP I A L F E)) else ((ldR [some 14, some 16, some 18, some 20] v3).bind fun a1 => (if (I (100 * a1 + 4)) ≤ 0 then mm_run G0 27 4 [some (.ref 2), some (.int v1), some (.int v2), some (.int (v3 + 1))] [] (HP I A L F E) else ((ldR [some 14, some 16, some 18, some 20] v3).bind fun a2 => mm_run G0 27 4 [some (.ref 2), some (.int v1), some (.int (v2 + (stg (I (100 * a2 + 0)) (I (100 * a2 + 1)) (I (100 * a2 + 2)) (I (100 * a2 + 3)) (I (100 * a2 + 4)) v1))), some (.int (v3 + 1))] [] (HP I A L F E))))) := by
  refine (sg_go ht_X3_jointSetting (k := 2) (pc' := 6) (L' := [some (.ref 2), some (.int v1), some (.int v2), some (.int v3)]) (st' := [.int 4, .int v3]) (h' := (HP I A L F E)) rfl).trans ?_
  refine (sg_cmp ht_X3_jointSetting rfl).trans ?_
  refine ite_congr rfl (fun _ => ?_) (fun _ => ?_)
  · refine (sg_go ht_X3_jointSetting (k := 1) (pc' := 41) (L' := [some (.ref 2), some (.int v1), some (.int v2), some (.int v3)]) (st' := [.int v2]) (h' := (HP I A L F E)) rfl).trans ?_
    exact sg_ret ht_X3_jointSetting rfl rfl
  · refine (sg_go ht_X3_jointSetting (k := 3) (pc' := 14) (L' := [some (.ref 2), some (.int v1), some (.int v2), some (.int v3)]) (st' := [.int v3, .ref 3]) (h' := (HP I A L F E)) rfl).trans ?_
    refine (sg_ldR ht_X3_jointSetting rfl hp_o_3).trans ?_
    refine bind_cg fun a1 ha1 => ?_
    have ha1 := in_3 ha1
    refine (sg_getI ht_X3_jointSetting rfl (sS_obj ha1) rfl).trans ?_
    refine (sg_if ht_X3_jointSetting rfl).trans ?_
    refine ite_congr rfl (fun _ => ?_) (fun _ => ?_)
    · refine (sg_go ht_X3_jointSetting (k := 2) (pc' := 4) (L' := [some (.ref 2), some (.int v1), some (.int v2), some (.int (v3 + 1))]) (st' := []) (h' := (HP I A L F E)) rfl).trans ?_
      rfl
    · refine (sg_go ht_X3_jointSetting (k := 4) (pc' := 27) (L' := [some (.ref 2), some (.int v1), some (.int v2), some (.int v3)]) (st' := [.int v3, .ref 3, .int v2]) (h' := (HP I A L F E)) rfl).trans ?_
      refine (sg_ldR ht_X3_jointSetting rfl hp_o_3).trans ?_
      refine bind_cg fun a2 ha2 => ?_
      have ha2 := in_3 ha2
      refine (sg_go ht_X3_jointSetting (k := 1) (pc' := 29) (L' := [some (.ref 2), some (.int v1), some (.int v2), some (.int v3)]) (st' := [.int v1, .ref a2, .int v2]) (h' := (HP I A L F E)) rfl).trans ?_
      refine (sg_callV ht_X3_jointSetting (mj := 34) (as := [.ref a2, .int v1]) (rest := [.int v2]) rfl rfl rfl (Nat.le_of_ble_eq_true rfl) (sS_obj ha2) ⟨by decide, Nat.le_of_ble_eq_true rfl⟩).trans ?_
      refine (bind_eq (sp_X4_setting ha2 v1)).trans ?_
      show mm_run G0 27 32 [some (.ref 2), some (.int v1), some (.int v2), some (.int v3)] [.int (stg (I (100 * a2 + 0)) (I (100 * a2 + 1)) (I (100 * a2 + 2)) (I (100 * a2 + 3)) (I (100 * a2 + 4)) v1), .int v2] (HP I A L F E) = _
      refine (sg_go ht_X3_jointSetting (k := 4) (pc' := 4) (L' := [some (.ref 2), some (.int v1), some (.int (v2 + (stg (I (100 * a2 + 0)) (I (100 * a2 + 1)) (I (100 * a2 + 2)) (I (100 * a2 + 3)) (I (100 * a2 + 4)) v1))), some (.int (v3 + 1))]) (st' := []) (h' := (HP I A L F E)) rfl).trans ?_
      rfl
