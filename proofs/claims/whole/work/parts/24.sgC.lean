/-! printed by program: the methods by equations -/
set_option maxRecDepth 20000 in
theorem sg_X8_base_0 {I : Nat → Int32} {A : Nat → List Int32} {L : Nat → List Int64} {F : Nat → Int64} {E : MH} (p0 : Int32) : mm_call G0 112 [.int p0] (HP I A L F E) = some (some (.int (45 * p0)), (HP I A L F E)) := by
  show mm_run G0 112 0 [some (.int p0)] [] (HP I A L F E) = _
  refine (sg_go ht_X8_base (k := 3) (pc' := 4) (L' := [some (.int p0)]) (st' := [.int (45 * p0)]) (h' := (HP I A L F E)) rfl).trans ?_
  exact sg_ret ht_X8_base rfl rfl
set_option maxRecDepth 20000 in
theorem sg_X8_isIn_0 {I : Nat → Int32} {A : Nat → List Int32} {L : Nat → List Int64} {F : Nat → Int64} {E : MH} (p0 : Int32) (p1 : Int32) (p2 : Int32) : mm_call G0 113 [.int p0, .int p1, .int p2] (HP I A L F E) = (if p0 < p1 then some (some (.int 0), (HP I A L F E)) else (if p2 < p0 then some (some (.int 0), (HP I A L F E)) else some (some (.int 1), (HP I A L F E)))) := by
  show mm_run G0 113 0 [some (.int p0), some (.int p1), some (.int p2)] [] (HP I A L F E) = _
  refine (sg_go ht_X8_isIn (k := 2) (pc' := 2) (L' := [some (.int p0), some (.int p1), some (.int p2)]) (st' := [.int p1, .int p0]) (h' := (HP I A L F E)) rfl).trans ?_
  refine (sg_cmp ht_X8_isIn rfl).trans ?_
  refine ite_congr rfl (fun _ => ?_) (fun _ => ?_)
  · refine (sg_go ht_X8_isIn (k := 1) (pc' := 15) (L' := [some (.int p0), some (.int p1), some (.int p2)]) (st' := [.int 0]) (h' := (HP I A L F E)) rfl).trans ?_
    exact sg_ret ht_X8_isIn rfl rfl
  · refine (sg_go ht_X8_isIn (k := 2) (pc' := 7) (L' := [some (.int p0), some (.int p1), some (.int p2)]) (st' := [.int p2, .int p0]) (h' := (HP I A L F E)) rfl).trans ?_
    refine (sg_cmp ht_X8_isIn rfl).trans ?_
    refine ite_congr rfl (fun _ => ?_) (fun _ => ?_)
    · refine (sg_go ht_X8_isIn (k := 1) (pc' := 15) (L' := [some (.int p0), some (.int p1), some (.int p2)]) (st' := [.int 0]) (h' := (HP I A L F E)) rfl).trans ?_
      exact sg_ret ht_X8_isIn rfl rfl
    · refine (sg_go ht_X8_isIn (k := 2) (pc' := 15) (L' := [some (.int p0), some (.int p1), some (.int p2)]) (st' := [.int 1]) (h' := (HP I A L F E)) rfl).trans ?_
      exact sg_ret ht_X8_isIn rfl rfl
theorem sp_X8_isIn {I : Nat → Int32} {A : Nat → List Int32} {L : Nat → List Int64} {F : Nat → Int64} {E : MH} (p0 : Int32) (p1 : Int32) (p2 : Int32) : mm_call G0 113 [.int p0, .int p1, .int p2] (HP I A L F E) = some (some (.int (bi (decide (¬ p0 < p1 ∧ ¬ p2 < p0)))), (HP I A L F E)) := by
  rw [sg_X8_isIn_0 p0 p1 p2]
  exact bi_and (f := fun z => some (some (Value.int z), HP I A L F E))
set_option maxRecDepth 20000 in
theorem sg_X8_isStream_0 {I : Nat → Int32} {A : Nat → List Int32} {L : Nat → List Int64} {F : Nat → Int64} {E : MH} (p0 : Int32) : mm_call G0 114 [.int p0] (HP I A L F E) = some (some (.int (bi (decide (¬ p0 < 0 ∧ ¬ 3 < p0)))), (HP I A L F E)) := by
  show mm_run G0 114 0 [some (.int p0)] [] (HP I A L F E) = _
  refine (sg_go ht_X8_isStream (k := 3) (pc' := 3) (L' := [some (.int p0)]) (st' := [.int 3, .int 0, .int p0]) (h' := (HP I A L F E)) rfl).trans ?_
  refine (sg_call ht_X8_isStream (mj := 113) (as := [.int p0, .int 0, .int 3]) (rest := []) rfl rfl ⟨by decide, Nat.le_of_ble_eq_true rfl⟩).trans ?_
  refine (bind_eq (sp_X8_isIn p0 0 3)).trans ?_
  show mm_run G0 114 6 [some (.int p0)] [.int (bi (decide (¬ p0 < 0 ∧ ¬ 3 < p0)))] (HP I A L F E) = _
  exact sg_retB ht_X8_isStream rfl
set_option maxRecDepth 20000 in
theorem sg_X8_isTape_0 {I : Nat → Int32} {A : Nat → List Int32} {L : Nat → List Int64} {F : Nat → Int64} {E : MH} (p0 : Int32) : mm_call G0 180 [.int p0] (HP I A L F E) = some (some (.int (bi (decide (¬ p0 < 0 ∧ ¬ 5 < p0)))), (HP I A L F E)) := by
  show mm_run G0 180 0 [some (.int p0)] [] (HP I A L F E) = _
  refine (sg_go ht_X8_isTape (k := 3) (pc' := 3) (L' := [some (.int p0)]) (st' := [.int 5, .int 0, .int p0]) (h' := (HP I A L F E)) rfl).trans ?_
  refine (sg_call ht_X8_isTape (mj := 113) (as := [.int p0, .int 0, .int 5]) (rest := []) rfl rfl ⟨by decide, Nat.le_of_ble_eq_true rfl⟩).trans ?_
  refine (bind_eq (sp_X8_isIn p0 0 5)).trans ?_
  show mm_run G0 180 6 [some (.int p0)] [.int (bi (decide (¬ p0 < 0 ∧ ¬ 5 < p0)))] (HP I A L F E) = _
  exact sg_retB ht_X8_isTape rfl
theorem sp_X8_isStream {I : Nat → Int32} {A : Nat → List Int32} {L : Nat → List Int64} {F : Nat → Int64} {E : MH} (p0 : Int32) : mm_call G0 114 [.int p0] (HP I A L F E) = some (some (.int (bi (decide (¬ p0 < 0 ∧ ¬ 3 < p0)))), (HP I A L F E)) := by
  rw [sg_X8_isStream_0 p0]
  
theorem sp_X8_isTape {I : Nat → Int32} {A : Nat → List Int32} {L : Nat → List Int64} {F : Nat → Int64} {E : MH} (p0 : Int32) : mm_call G0 180 [.int p0] (HP I A L F E) = some (some (.int (bi (decide (¬ p0 < 0 ∧ ¬ 5 < p0)))), (HP I A L F E)) := by
  rw [sg_X8_isTape_0 p0]
  
set_option maxRecDepth 20000 in
theorem sg_X8_isFit_0 {I : Nat → Int32} {A : Nat → List Int32} {L : Nat → List Int64} {F : Nat → Int64} {E : MH} (p0 : Int32) (p1 : Int32) : mm_call G0 121 [.int p0, .int p1] (HP I A L F E) = (if p0 = 0 then some (some (.int (bi (decide (¬ p1 < 0 ∧ ¬ 4 < p1)))), (HP I A L F E)) else (if p0 = 1 then some (some (.int (bi (decide (¬ p1 < (-20) ∧ ¬ 20 < p1)))), (HP I A L F E)) else (if p0 = 2 then some (some (.int (bi (decide (¬ p1 < 0 ∧ ¬ 5 < p1)))), (HP I A L F E)) else some (some (.int (bi (decide (¬ p1 < 1 ∧ ¬ 12 < p1)))), (HP I A L F E))))) := by
  show mm_run G0 121 0 [some (.int p0), some (.int p1)] [] (HP I A L F E) = _
  refine (sg_go ht_X8_isFit (k := 1) (pc' := 1) (L' := [some (.int p0), some (.int p1)]) (st' := [.int p0]) (h' := (HP I A L F E)) rfl).trans ?_
  refine (sg_sw ht_X8_isFit rfl).trans ?_
  rw [swt_cons (k := 0) (lo' := 1) (by decide) (by decide), run_ite]
  refine ite_congr rfl (fun _ => ?_) (fun _ => ?_)
  · refine (sg_go ht_X8_isFit (k := 3) (pc' := 31) (L' := [some (.int p0), some (.int p1)]) (st' := [.int 4, .int 0, .int p1]) (h' := (HP I A L F E)) rfl).trans ?_
    refine (sg_call ht_X8_isFit (mj := 113) (as := [.int p1, .int 0, .int 4]) (rest := []) rfl rfl ⟨by decide, Nat.le_of_ble_eq_true rfl⟩).trans ?_
    refine (bind_eq (sp_X8_isIn p1 0 4)).trans ?_
    show mm_run G0 121 34 [some (.int p0), some (.int p1)] [.int (bi (decide (¬ p1 < 0 ∧ ¬ 4 < p1)))] (HP I A L F E) = _
    exact sg_retB ht_X8_isFit rfl
  · rw [swt_cons (k := 1) (lo' := 2) (by decide) (by decide), run_ite]
    refine ite_congr rfl (fun _ => ?_) (fun _ => ?_)
    · refine (sg_go ht_X8_isFit (k := 3) (pc' := 40) (L' := [some (.int p0), some (.int p1)]) (st' := [.int 20, .int (-20), .int p1]) (h' := (HP I A L F E)) rfl).trans ?_
      refine (sg_call ht_X8_isFit (mj := 113) (as := [.int p1, .int (-20), .int 20]) (rest := []) rfl rfl ⟨by decide, Nat.le_of_ble_eq_true rfl⟩).trans ?_
      refine (bind_eq (sp_X8_isIn p1 (-20) 20)).trans ?_
      show mm_run G0 121 43 [some (.int p0), some (.int p1)] [.int (bi (decide (¬ p1 < (-20) ∧ ¬ 20 < p1)))] (HP I A L F E) = _
      exact sg_retB ht_X8_isFit rfl
    · rw [swt_cons (k := 2) (lo' := 3) (by decide) (by decide), run_ite]
      refine ite_congr rfl (fun _ => ?_) (fun _ => ?_)
      · refine (sg_go ht_X8_isFit (k := 3) (pc' := 47) (L' := [some (.int p0), some (.int p1)]) (st' := [.int 5, .int 0, .int p1]) (h' := (HP I A L F E)) rfl).trans ?_
        refine (sg_call ht_X8_isFit (mj := 113) (as := [.int p1, .int 0, .int 5]) (rest := []) rfl rfl ⟨by decide, Nat.le_of_ble_eq_true rfl⟩).trans ?_
        refine (bind_eq (sp_X8_isIn p1 0 5)).trans ?_
        show mm_run G0 121 50 [some (.int p0), some (.int p1)] [.int (bi (decide (¬ p1 < 0 ∧ ¬ 5 < p1)))] (HP I A L F E) = _
        exact sg_retB ht_X8_isFit rfl
      · rw [swt_nil]
        refine (sg_go ht_X8_isFit (k := 3) (pc' := 55) (L' := [some (.int p0), some (.int p1)]) (st' := [.int 12, .int 1, .int p1]) (h' := (HP I A L F E)) rfl).trans ?_
        refine (sg_call ht_X8_isFit (mj := 113) (as := [.int p1, .int 1, .int 12]) (rest := []) rfl rfl ⟨by decide, Nat.le_of_ble_eq_true rfl⟩).trans ?_
        refine (bind_eq (sp_X8_isIn p1 1 12)).trans ?_
        show mm_run G0 121 58 [some (.int p0), some (.int p1)] [.int (bi (decide (¬ p1 < 1 ∧ ¬ 12 < p1)))] (HP I A L F E) = _
        exact sg_retB ht_X8_isFit rfl
theorem sp_X8_isFit {I : Nat → Int32} {A : Nat → List Int32} {L : Nat → List Int64} {F : Nat → Int64} {E : MH} (p0 : Int32) (p1 : Int32) : mm_call G0 121 [.int p0, .int p1] (HP I A L F E) = some (some (.int (bi (okF p0 p1))), (HP I A L F E)) := by
  rw [sg_X8_isFit_0 p0 p1]
  unfold okF
  repeat' split
  all_goals first | rfl | (simp_all [bi]; done)
set_option maxRecDepth 20000 in
theorem sg_X8_common_0 {I : Nat → Int32} {A : Nat → List Int32} {L : Nat → List Int64} {F : Nat → Int64} {E : MH} (p0 : Int64) (p1 : Int64) : mm_call G0 151 [.long p0, .long p1] (HP I A L F E) = mm_run G0 151 12 [some (.long p0), none, some (.long p1), none, some (.long (labs p0)), none, some (.long (labs p1)), none, none, none] [] (HP I A L F E) := by
  show mm_run G0 151 0 [some (.long p0), none, some (.long p1), none, none, none, none, none, none, none] [] (HP I A L F E) = _
  refine (sg_go ht_X8_common (k := 6) (pc' := 12) (L' := [some (.long p0), none, some (.long p1), none, some (.long (labs p0)), none, some (.long (labs p1)), none, none, none]) (st' := []) (h' := (HP I A L F E)) rfl).trans ?_
  rfl
set_option maxRecDepth 20000 in
theorem sg_X8_common_12_v0 {I : Nat → Int32} {A : Nat → List Int32} {L : Nat → List Int64} {F : Nat → Int64} {E : MH} (v0 : Int64) (v2 : Int64) (v4 : Int64) (v6 : Int64) : mm_run G0 151 12 [some (.long v0), none, some (.long v2), none, some (.long v4), none, some (.long v6), none, none, none] [] (HP I A L F E) = (if (lg_cmp v6 (0)) = 0 then some (some (.long v4), (HP I A L F E)) else (if v6 = 0 then none else mm_run G0 151 12 [some (.long v0), none, some (.long v2), none, some (.long v6), none, some (.long (v4 - v4 / v6 * v6)), none, some (.long (v4 - v4 / v6 * v6)), none] [] (HP I A L F E))) := by
  refine (sg_go ht_X8_common (k := 3) (pc' := 16) (L' := [some (.long v0), none, some (.long v2), none, some (.long v4), none, some (.long v6), none, none, none]) (st' := [.int (lg_cmp v6 (0))]) (h' := (HP I A L F E)) rfl).trans ?_
  refine (sg_if ht_X8_common rfl).trans ?_
  refine ite_congr rfl (fun _ => ?_) (fun _ => ?_)
  · refine (sg_go ht_X8_common (k := 1) (pc' := 39) (L' := [some (.long v0), none, some (.long v2), none, some (.long v4), none, some (.long v6), none, none, none]) (st' := [.long v4]) (h' := (HP I A L F E)) rfl).trans ?_
    exact sg_ret ht_X8_common rfl rfl
  · refine (sg_go ht_X8_common (k := 2) (pc' := 23) (L' := [some (.long v0), none, some (.long v2), none, some (.long v4), none, some (.long v6), none, none, none]) (st' := [.long v6, .long v4]) (h' := (HP I A L F E)) rfl).trans ?_
    refine (sg_ldiv ht_X8_common rfl).trans ?_
    refine ite_congr rfl (fun _ => rfl) (fun _ => ?_)
    refine (sg_go ht_X8_common (k := 6) (pc' := 12) (L' := [some (.long v0), none, some (.long v2), none, some (.long v6), none, some (.long (v4 - v4 / v6 * v6)), none, some (.long (v4 - v4 / v6 * v6)), none]) (st' := []) (h' := (HP I A L F E)) rfl).trans ?_
    rfl
set_option maxRecDepth 20000 in
theorem sg_X8_common_12_v1 {I : Nat → Int32} {A : Nat → List Int32} {L : Nat → List Int64} {F : Nat → Int64} {E : MH} (v0 : Int64) (v2 : Int64) (v4 : Int64) (v6 : Int64) (o8 : Int64) : mm_run G0 151 12 [some (.long v0), none, some (.long v2), none, some (.long v4), none, some (.long v6), none, some (.long o8), none] [] (HP I A L F E) = (if (lg_cmp v6 (0)) = 0 then some (some (.long v4), (HP I A L F E)) else (if v6 = 0 then none else mm_run G0 151 12 [some (.long v0), none, some (.long v2), none, some (.long v6), none, some (.long (v4 - v4 / v6 * v6)), none, some (.long (v4 - v4 / v6 * v6)), none] [] (HP I A L F E))) := by
  refine (sg_go ht_X8_common (k := 3) (pc' := 16) (L' := [some (.long v0), none, some (.long v2), none, some (.long v4), none, some (.long v6), none, some (.long o8), none]) (st' := [.int (lg_cmp v6 (0))]) (h' := (HP I A L F E)) rfl).trans ?_
  refine (sg_if ht_X8_common rfl).trans ?_
  refine ite_congr rfl (fun _ => ?_) (fun _ => ?_)
  · refine (sg_go ht_X8_common (k := 1) (pc' := 39) (L' := [some (.long v0), none, some (.long v2), none, some (.long v4), none, some (.long v6), none, some (.long o8), none]) (st' := [.long v4]) (h' := (HP I A L F E)) rfl).trans ?_
    exact sg_ret ht_X8_common rfl rfl
  · refine (sg_go ht_X8_common (k := 2) (pc' := 23) (L' := [some (.long v0), none, some (.long v2), none, some (.long v4), none, some (.long v6), none, some (.long o8), none]) (st' := [.long v6, .long v4]) (h' := (HP I A L F E)) rfl).trans ?_
    refine (sg_ldiv ht_X8_common rfl).trans ?_
    refine ite_congr rfl (fun _ => rfl) (fun _ => ?_)
    refine (sg_go ht_X8_common (k := 6) (pc' := 12) (L' := [some (.long v0), none, some (.long v2), none, some (.long v6), none, some (.long (v4 - v4 / v6 * v6)), none, some (.long (v4 - v4 / v6 * v6)), none]) (st' := []) (h' := (HP I A L F E)) rfl).trans ?_
    rfl
theorem sg_X8_common_12 {I : Nat → Int32} {A : Nat → List Int32} {L : Nat → List Int64} {F : Nat → Int64} {E : MH} (v0 : Int64) (v2 : Int64) (v4 : Int64) (v6 : Int64) (o8 : Option Int64) : mm_run G0 151 12 [some (.long v0), none, some (.long v2), none, some (.long v4), none, some (.long v6), none, (o8.map Value.long), none] [] (HP I A L F E) = (if (lg_cmp v6 (0)) = 0 then some (some (.long v4), (HP I A L F E)) else (if v6 = 0 then none else mm_run G0 151 12 [some (.long v0), none, some (.long v2), none, some (.long v6), none, some (.long (v4 - v4 / v6 * v6)), none, some (.long (v4 - v4 / v6 * v6)), none] [] (HP I A L F E))) := by
  match o8 with
  | none => exact sg_X8_common_12_v0 v0 v2 v4 v6
  | some o8 => exact sg_X8_common_12_v1 v0 v2 v4 v6 o8
set_option maxRecDepth 20000 in
theorem sg_X8_partOf_0 {I : Nat → Int32} {A : Nat → List Int32} {L : Nat → List Int64} {F : Nat → Int64} {E : MH} (p0 : Int64) (p1 : Int64) (p2 : Int32) : mm_call G0 152 [.long p0, .long p1, .int p2] (HP I A L F E) = (if 0 ≤ (lg_cmp p1 (0)) then ((mm_call G0 151 [.long p0, .long p1] (HP I A L F E)).bind fun q => mm_run G0 152 20 [some (.long p0), none, some (.long p1), none, some (.int p2), none, none] (q.1.toList ++ []) q.2) else ((mm_call G0 151 [.long p0, .long p1] (HP I A L F E)).bind fun q => mm_run G0 152 11 [some (.long p0), none, some (.long p1), none, some (.int p2), none, none] (q.1.toList ++ []) q.2)) := by
  show mm_run G0 152 0 [some (.long p0), none, some (.long p1), none, some (.int p2), none, none] [] (HP I A L F E) = _
  refine (sg_go ht_X8_partOf (k := 3) (pc' := 3) (L' := [some (.long p0), none, some (.long p1), none, some (.int p2), none, none]) (st' := [.int (lg_cmp p1 (0))]) (h' := (HP I A L F E)) rfl).trans ?_
  refine (sg_if ht_X8_partOf rfl).trans ?_
  refine ite_congr rfl (fun _ => ?_) (fun _ => ?_)
  · refine (sg_go ht_X8_partOf (k := 2) (pc' := 17) (L' := [some (.long p0), none, some (.long p1), none, some (.int p2), none, none]) (st' := [.long p1, .long p0]) (h' := (HP I A L F E)) rfl).trans ?_
    refine (sg_call ht_X8_partOf (mj := 151) (as := [.long p0, .long p1]) (rest := []) rfl rfl ⟨by decide, Nat.le_of_ble_eq_true rfl⟩).trans ?_
    rfl
  · refine (sg_go ht_X8_partOf (k := 2) (pc' := 8) (L' := [some (.long p0), none, some (.long p1), none, some (.int p2), none, none]) (st' := [.long p1, .long p0]) (h' := (HP I A L F E)) rfl).trans ?_
    refine (sg_call ht_X8_partOf (mj := 151) (as := [.long p0, .long p1]) (rest := []) rfl rfl ⟨by decide, Nat.le_of_ble_eq_true rfl⟩).trans ?_
    rfl
set_option maxRecDepth 20000 in
theorem sg_X8_partOf_20 {I : Nat → Int32} {A : Nat → List Int32} {L : Nat → List Int64} {F : Nat → Int64} {E : MH} (v0 : Int64) (v2 : Int64) (v4 : Int32) (s0 : Int64) : mm_run G0 152 20 [some (.long v0), none, some (.long v2), none, some (.int v4), none, none] [.long s0] (HP I A L F E) = (if v4 ≠ 0 then (if s0 = 0 then none else some (some (.long (v2 / s0)), (HP I A L F E))) else (if s0 = 0 then none else some (some (.long (v0 / s0)), (HP I A L F E)))) := by
  refine (sg_go ht_X8_partOf (k := 2) (pc' := 24) (L' := [some (.long v0), none, some (.long v2), none, some (.int v4), some (.long s0), none]) (st' := [.int v4]) (h' := (HP I A L F E)) rfl).trans ?_
  refine (sg_if ht_X8_partOf rfl).trans ?_
  refine ite_congr rfl (fun _ => ?_) (fun _ => ?_)
  · refine (sg_go ht_X8_partOf (k := 2) (pc' := 34) (L' := [some (.long v0), none, some (.long v2), none, some (.int v4), some (.long s0), none]) (st' := [.long s0, .long v2]) (h' := (HP I A L F E)) rfl).trans ?_
    refine (sg_ldiv ht_X8_partOf rfl).trans ?_
    refine ite_congr rfl (fun _ => rfl) (fun _ => ?_)
    exact sg_ret ht_X8_partOf rfl rfl
  · refine (sg_go ht_X8_partOf (k := 3) (pc' := 34) (L' := [some (.long v0), none, some (.long v2), none, some (.int v4), some (.long s0), none]) (st' := [.long s0, .long v0]) (h' := (HP I A L F E)) rfl).trans ?_
    refine (sg_ldiv ht_X8_partOf rfl).trans ?_
    refine ite_congr rfl (fun _ => rfl) (fun _ => ?_)
    exact sg_ret ht_X8_partOf rfl rfl
set_option maxRecDepth 20000 in
theorem sg_X8_partOf_11 {I : Nat → Int32} {A : Nat → List Int32} {L : Nat → List Int64} {F : Nat → Int64} {E : MH} (v0 : Int64) (v2 : Int64) (v4 : Int32) (s0 : Int64) : mm_run G0 152 11 [some (.long v0), none, some (.long v2), none, some (.int v4), none, none] [.long s0] (HP I A L F E) = (if v4 ≠ 0 then (if (-s0) = 0 then none else some (some (.long (v2 / (-s0))), (HP I A L F E))) else (if (-s0) = 0 then none else some (some (.long (v0 / (-s0))), (HP I A L F E)))) := by
  refine (sg_go ht_X8_partOf (k := 4) (pc' := 24) (L' := [some (.long v0), none, some (.long v2), none, some (.int v4), some (.long (-s0)), none]) (st' := [.int v4]) (h' := (HP I A L F E)) rfl).trans ?_
  refine (sg_if ht_X8_partOf rfl).trans ?_
  refine ite_congr rfl (fun _ => ?_) (fun _ => ?_)
  · refine (sg_go ht_X8_partOf (k := 2) (pc' := 34) (L' := [some (.long v0), none, some (.long v2), none, some (.int v4), some (.long (-s0)), none]) (st' := [.long (-s0), .long v2]) (h' := (HP I A L F E)) rfl).trans ?_
    refine (sg_ldiv ht_X8_partOf rfl).trans ?_
    refine ite_congr rfl (fun _ => rfl) (fun _ => ?_)
    exact sg_ret ht_X8_partOf rfl rfl
  · refine (sg_go ht_X8_partOf (k := 3) (pc' := 34) (L' := [some (.long v0), none, some (.long v2), none, some (.int v4), some (.long (-s0)), none]) (st' := [.long (-s0), .long v0]) (h' := (HP I A L F E)) rfl).trans ?_
    refine (sg_ldiv ht_X8_partOf rfl).trans ?_
    refine ite_congr rfl (fun _ => rfl) (fun _ => ?_)
    exact sg_ret ht_X8_partOf rfl rfl
set_option maxRecDepth 20000 in
theorem sg_X8_lowest_0 {I : Nat → Int32} {A : Nat → List Int32} {L : Nat → List Int64} {F : Nat → Int64} {E : MH} (p0 : Int32) (p1 : Int64) : mm_call G0 187 [.int p0, .long p1] (HP I A L F E) = (if p0 = 0 then some (some (.long ((p1).toInt32.toInt8.toInt32).toInt64), (HP I A L F E)) else (if p0 = 1 then some (some (.long ((p1).toInt32.toInt16.toInt32).toInt64), (HP I A L F E)) else (if p0 = 2 then some (some (.long ((p1).toInt32).toInt64), (HP I A L F E)) else (if p0 = 3 then some (some (.long p1), (HP I A L F E)) else (if (lg_cmp p1 (0)) = 0 then some (some (.long 0), (HP I A L F E)) else some (some (.long 1), (HP I A L F E))))))) := by
  show mm_run G0 187 0 [some (.int p0), some (.long p1), none] [] (HP I A L F E) = _
  refine (sg_go ht_X8_lowest (k := 1) (pc' := 1) (L' := [some (.int p0), some (.long p1), none]) (st' := [.int p0]) (h' := (HP I A L F E)) rfl).trans ?_
  refine (sg_sw ht_X8_lowest rfl).trans ?_
  rw [swt_cons (k := 0) (lo' := 1) (by decide) (by decide), run_ite]
  refine ite_congr rfl (fun _ => ?_) (fun _ => ?_)
  · refine (sg_go ht_X8_lowest (k := 4) (pc' := 36) (L' := [some (.int p0), some (.long p1), none]) (st' := [.long ((p1).toInt32.toInt8.toInt32).toInt64]) (h' := (HP I A L F E)) rfl).trans ?_
    exact sg_ret ht_X8_lowest rfl rfl
  · rw [swt_cons (k := 1) (lo' := 2) (by decide) (by decide), run_ite]
    refine ite_congr rfl (fun _ => ?_) (fun _ => ?_)
    · refine (sg_go ht_X8_lowest (k := 4) (pc' := 41) (L' := [some (.int p0), some (.long p1), none]) (st' := [.long ((p1).toInt32.toInt16.toInt32).toInt64]) (h' := (HP I A L F E)) rfl).trans ?_
      exact sg_ret ht_X8_lowest rfl rfl
    · rw [swt_cons (k := 2) (lo' := 3) (by decide) (by decide), run_ite]
      refine ite_congr rfl (fun _ => ?_) (fun _ => ?_)
      · refine (sg_go ht_X8_lowest (k := 3) (pc' := 45) (L' := [some (.int p0), some (.long p1), none]) (st' := [.long ((p1).toInt32).toInt64]) (h' := (HP I A L F E)) rfl).trans ?_
        exact sg_ret ht_X8_lowest rfl rfl
      · rw [swt_cons (k := 3) (lo' := 4) (by decide) (by decide), run_ite]
        refine ite_congr rfl (fun _ => ?_) (fun _ => ?_)
        · refine (sg_go ht_X8_lowest (k := 1) (pc' := 47) (L' := [some (.int p0), some (.long p1), none]) (st' := [.long p1]) (h' := (HP I A L F E)) rfl).trans ?_
          exact sg_ret ht_X8_lowest rfl rfl
        · rw [swt_nil]
          refine (sg_go ht_X8_lowest (k := 3) (pc' := 51) (L' := [some (.int p0), some (.long p1), none]) (st' := [.int (lg_cmp p1 (0))]) (h' := (HP I A L F E)) rfl).trans ?_
          refine (sg_if ht_X8_lowest rfl).trans ?_
          refine ite_congr rfl (fun _ => ?_) (fun _ => ?_)
          · refine (sg_go ht_X8_lowest (k := 1) (pc' := 59) (L' := [some (.int p0), some (.long p1), none]) (st' := [.long 0]) (h' := (HP I A L F E)) rfl).trans ?_
            exact sg_ret ht_X8_lowest rfl rfl
          · refine (sg_go ht_X8_lowest (k := 2) (pc' := 59) (L' := [some (.int p0), some (.long p1), none]) (st' := [.long 1]) (h' := (HP I A L F E)) rfl).trans ?_
            exact sg_ret ht_X8_lowest rfl rfl
set_option maxRecDepth 20000 in
theorem sg_X8_passes_0 {I : Nat → Int32} {A : Nat → List Int32} {L : Nat → List Int64} {F : Nat → Int64} {E : MH} {b0 : Nat} (hb0 : isW b0) {b1 : Nat} (hb1 : isW b1) : mm_call G0 117 [.ref b0, .ref b1] (HP I A L F E) = mm_run G0 117 2 [some (.ref b0), some (.ref b1), some (.int 0)] [] (HP I A L F E) := by
  show mm_run G0 117 0 [some (.ref b0), some (.ref b1), none] [] (HP I A L F E) = _
  refine (sg_go ht_X8_passes (k := 2) (pc' := 2) (L' := [some (.ref b0), some (.ref b1), some (.int 0)]) (st' := []) (h' := (HP I A L F E)) rfl).trans ?_
  rfl
set_option maxRecDepth 20000 in
theorem sg_X8_passes_2 {I : Nat → Int32} {A : Nat → List Int32} {L : Nat → List Int64} {F : Nat → Int64} {E : MH} {b0 : Nat} (hb0 : isW b0) {b1 : Nat} (hb1 : isW b1) (v2 : Int32) : mm_run G0 117 2 [some (.ref b0), some (.ref b1), some (.int v2)] [] (HP I A L F E) = (if 232 ≤ v2 then some (none, (HP I A L F E)) else ((ldI (A b0) v2).bind fun x1 => ((stI (A b1) v2 x1).bind fun X2 => mm_run G0 117 2 [some (.ref b0), some (.ref b1), some (.int (v2 + 1))] [] (HP I (fu A b1 X2) L F E)))) := by
  refine (sg_go ht_X8_passes (k := 2) (pc' := 6) (L' := [some (.ref b0), some (.ref b1), some (.int v2)]) (st' := [.int 232, .int v2]) (h' := (HP I A L F E)) rfl).trans ?_
  refine (sg_cmp ht_X8_passes rfl).trans ?_
  refine ite_congr rfl (fun _ => ?_) (fun _ => ?_)
  · exact sg_ret ht_X8_passes rfl rfl
  · refine (sg_go ht_X8_passes (k := 4) (pc' := 13) (L' := [some (.ref b0), some (.ref b1), some (.int v2)]) (st' := [.int v2, .ref b0, .int v2, .ref b1]) (h' := (HP I A L F E)) rfl).trans ?_
    refine (sg_ldI ht_X8_passes rfl (sW_obj hb0)).trans ?_
    refine bind_cg fun x1 hx1 => ?_
    refine (sg_stI (hh := fun X2 => (HP I (fu A b1 X2) L F E)) ht_X8_passes rfl (sW_obj hb1) (fun _ => sW_ast hb1)).trans ?_
    refine bind_cg fun X2 hX2 => ?_
    refine (sg_go ht_X8_passes (k := 2) (pc' := 2) (L' := [some (.ref b0), some (.ref b1), some (.int (v2 + 1))]) (st' := []) (h' := (HP I (fu A b1 X2) L F E)) rfl).trans ?_
    rfl
set_option maxRecDepth 20000 in
theorem sg_X8_many_0 {I : Nat → Int32} {A : Nat → List Int32} {L : Nat → List Int64} {F : Nat → Int64} {E : MH} (p1 : Int32) : mm_call G0 115 [.ref 84, .int p1] (HP I A L F E) = ((ldI (A 85) ((45 * p1) + 4)).bind fun x1 => some (some (.int x1), (HP I A L F E))) := by
  show mm_run G0 115 0 [some (.ref 84), some (.int p1)] [] (HP I A L F E) = _
  refine (sg_go ht_X8_many (k := 3) (pc' := 5) (L' := [some (.ref 84), some (.int p1)]) (st' := [.int p1, .ref 85]) (h' := (HP I A L F E)) rfl).trans ?_
  refine (sg_call ht_X8_many (mj := 112) (as := [.int p1]) (rest := [.ref 85]) rfl rfl ⟨by decide, Nat.le_of_ble_eq_true rfl⟩).trans ?_
  refine (bind_eq (sg_X8_base_0 p1)).trans ?_
  show mm_run G0 115 8 [some (.ref 84), some (.int p1)] [.int (45 * p1), .ref 85] (HP I A L F E) = _
  refine (sg_go ht_X8_many (k := 2) (pc' := 10) (L' := [some (.ref 84), some (.int p1)]) (st' := [.int ((45 * p1) + 4), .ref 85]) (h' := (HP I A L F E)) rfl).trans ?_
  refine (sg_ldI ht_X8_many rfl hp_o_85).trans ?_
  refine bind_cg fun x1 hx1 => ?_
  exact sg_ret ht_X8_many rfl rfl
set_option maxRecDepth 20000 in
theorem sg_X8_isPlace_0 {I : Nat → Int32} {A : Nat → List Int32} {L : Nat → List Int64} {F : Nat → Int64} {E : MH} (p1 : Int32) (p2 : Int32) : mm_call G0 116 [.ref 84, .int p1, .int p2] (HP I A L F E) = (if ¬ p1 < 0 ∧ ¬ 3 < p1 then ((ldI (A 85) ((45 * p1) + 4)).bind fun x1 => (if ¬ p2 < 0 ∧ ¬ (x1 - 1) < p2 then some (some (.int 1), (HP I A L F E)) else some (some (.int 0), (HP I A L F E)))) else some (some (.int 0), (HP I A L F E))) := by
  show mm_run G0 116 0 [some (.ref 84), some (.int p1), some (.int p2)] [] (HP I A L F E) = _
  refine (sg_go ht_X8_isPlace (k := 1) (pc' := 1) (L' := [some (.ref 84), some (.int p1), some (.int p2)]) (st' := [.int p1]) (h' := (HP I A L F E)) rfl).trans ?_
  refine (sg_call ht_X8_isPlace (mj := 114) (as := [.int p1]) (rest := []) rfl rfl ⟨by decide, Nat.le_of_ble_eq_true rfl⟩).trans ?_
  refine (bind_eq (sp_X8_isStream p1)).trans ?_
  show mm_run G0 116 4 [some (.ref 84), some (.int p1), some (.int p2)] [.int (bi (decide (¬ p1 < 0 ∧ ¬ 3 < p1)))] (HP I A L F E) = _
  refine (sg_be ht_X8_isPlace rfl).trans ?_
  refine ite_congr rfl (fun _ => ?_) (fun _ => ?_)
  · refine (sg_go ht_X8_isPlace (k := 4) (pc' := 11) (L' := [some (.ref 84), some (.int p1), some (.int p2)]) (st' := [.int p1, .ref 84, .int 0, .int p2]) (h' := (HP I A L F E)) rfl).trans ?_
    refine (sg_call ht_X8_isPlace (mj := 115) (as := [.ref 84, .int p1]) (rest := [.int 0, .int p2]) rfl rfl ⟨by decide, Nat.le_of_ble_eq_true rfl⟩).trans ?_
    refine (bind_eq (sg_X8_many_0 p1)).trans ?_
    refine bind_as.trans ?_
    refine bind_cg fun x1 hx1 => ?_
    show mm_run G0 116 14 [some (.ref 84), some (.int p1), some (.int p2)] [.int x1, .int 0, .int p2] (HP I A L F E) = _
    refine (sg_go ht_X8_isPlace (k := 2) (pc' := 16) (L' := [some (.ref 84), some (.int p1), some (.int p2)]) (st' := [.int (x1 - 1), .int 0, .int p2]) (h' := (HP I A L F E)) rfl).trans ?_
    refine (sg_call ht_X8_isPlace (mj := 113) (as := [.int p2, .int 0, .int (x1 - 1)]) (rest := []) rfl rfl ⟨by decide, Nat.le_of_ble_eq_true rfl⟩).trans ?_
    refine (bind_eq (sp_X8_isIn p2 0 (x1 - 1))).trans ?_
    show mm_run G0 116 19 [some (.ref 84), some (.int p1), some (.int p2)] [.int (bi (decide (¬ p2 < 0 ∧ ¬ (x1 - 1) < p2)))] (HP I A L F E) = _
    refine (sg_be ht_X8_isPlace rfl).trans ?_
    refine ite_congr rfl (fun _ => ?_) (fun _ => ?_)
    · refine (sg_go ht_X8_isPlace (k := 2) (pc' := 27) (L' := [some (.ref 84), some (.int p1), some (.int p2)]) (st' := [.int 1]) (h' := (HP I A L F E)) rfl).trans ?_
      exact sg_ret ht_X8_isPlace rfl rfl
    · refine (sg_go ht_X8_isPlace (k := 1) (pc' := 27) (L' := [some (.ref 84), some (.int p1), some (.int p2)]) (st' := [.int 0]) (h' := (HP I A L F E)) rfl).trans ?_
      exact sg_ret ht_X8_isPlace rfl rfl
  · refine (sg_go ht_X8_isPlace (k := 1) (pc' := 27) (L' := [some (.ref 84), some (.int p1), some (.int p2)]) (st' := [.int 0]) (h' := (HP I A L F E)) rfl).trans ?_
    exact sg_ret ht_X8_isPlace rfl rfl
set_option maxRecDepth 20000 in
theorem sg_X8_comes_0 {I : Nat → Int32} {A : Nat → List Int32} {L : Nat → List Int64} {F : Nat → Int64} {E : MH} (p1 : Int32) (p2 : Int32) : mm_call G0 118 [.ref 84, .int p1, .int p2] (HP I A L F E) = ((ldI (A 85) ((45 * p1) + 4)).bind fun x1 => ((stI (A 85) (((45 * p1) + 5) + x1) p2).bind fun X2 => ((ldI ((fu A 85 X2) 85) ((45 * p1) + 4)).bind fun x3 => ((stI ((fu A 85 X2) 85) ((45 * p1) + 4) (x3 + 1)).bind fun X4 => some (none, (HP I (fu (fu A 85 X2) 85 X4) L F E)))))) := by
  show mm_run G0 118 0 [some (.ref 84), some (.int p1), some (.int p2)] [] (HP I A L F E) = _
  refine (sg_go ht_X8_comes (k := 3) (pc' := 5) (L' := [some (.ref 84), some (.int p1), some (.int p2)]) (st' := [.int p1, .ref 85]) (h' := (HP I A L F E)) rfl).trans ?_
  refine (sg_call ht_X8_comes (mj := 112) (as := [.int p1]) (rest := [.ref 85]) rfl rfl ⟨by decide, Nat.le_of_ble_eq_true rfl⟩).trans ?_
  refine (bind_eq (sg_X8_base_0 p1)).trans ?_
  show mm_run G0 118 8 [some (.ref 84), some (.int p1), some (.int p2)] [.int (45 * p1), .ref 85] (HP I A L F E) = _
  refine (sg_go ht_X8_comes (k := 4) (pc' := 12) (L' := [some (.ref 84), some (.int p1), some (.int p2)]) (st' := [.int p1, .ref 84, .int ((45 * p1) + 5), .ref 85]) (h' := (HP I A L F E)) rfl).trans ?_
  refine (sg_call ht_X8_comes (mj := 115) (as := [.ref 84, .int p1]) (rest := [.int ((45 * p1) + 5), .ref 85]) rfl rfl ⟨by decide, Nat.le_of_ble_eq_true rfl⟩).trans ?_
  refine (bind_eq (sg_X8_many_0 p1)).trans ?_
  refine bind_as.trans ?_
  refine bind_cg fun x1 hx1 => ?_
  show mm_run G0 118 15 [some (.ref 84), some (.int p1), some (.int p2)] [.int x1, .int ((45 * p1) + 5), .ref 85] (HP I A L F E) = _
  refine (sg_go ht_X8_comes (k := 2) (pc' := 17) (L' := [some (.ref 84), some (.int p1), some (.int p2)]) (st' := [.int p2, .int (((45 * p1) + 5) + x1), .ref 85]) (h' := (HP I A L F E)) rfl).trans ?_
  refine (sg_stI (hh := fun X2 => (HP I (fu A 85 X2) L F E)) ht_X8_comes rfl hp_o_85 (fun _ => hp_s_85)).trans ?_
  refine bind_cg fun X2 hX2 => ?_
  refine (sg_go ht_X8_comes (k := 3) (pc' := 23) (L' := [some (.ref 84), some (.int p1), some (.int p2)]) (st' := [.int p1, .ref 85]) (h' := (HP I (fu A 85 X2) L F E)) rfl).trans ?_
  refine (sg_call ht_X8_comes (mj := 112) (as := [.int p1]) (rest := [.ref 85]) rfl rfl ⟨by decide, Nat.le_of_ble_eq_true rfl⟩).trans ?_
  refine (bind_eq (sg_X8_base_0 p1)).trans ?_
  show mm_run G0 118 26 [some (.ref 84), some (.int p1), some (.int p2)] [.int (45 * p1), .ref 85] (HP I (fu A 85 X2) L F E) = _
  refine (sg_go ht_X8_comes (k := 3) (pc' := 29) (L' := [some (.ref 84), some (.int p1), some (.int p2)]) (st' := [.int ((45 * p1) + 4), .ref 85, .int ((45 * p1) + 4), .ref 85]) (h' := (HP I (fu A 85 X2) L F E)) rfl).trans ?_
  refine (sg_ldI ht_X8_comes rfl hp_o_85).trans ?_
  refine bind_cg fun x3 hx3 => ?_
  refine (sg_go ht_X8_comes (k := 2) (pc' := 32) (L' := [some (.ref 84), some (.int p1), some (.int p2)]) (st' := [.int (x3 + 1), .int ((45 * p1) + 4), .ref 85]) (h' := (HP I (fu A 85 X2) L F E)) rfl).trans ?_
  refine (sg_stI (hh := fun X4 => (HP I (fu (fu A 85 X2) 85 X4) L F E)) ht_X8_comes rfl hp_o_85 (fun _ => hp_s_85)).trans ?_
  refine bind_cg fun X4 hX4 => ?_
  exact sg_ret ht_X8_comes rfl rfl
set_option maxRecDepth 20000 in
theorem sg_X8_value_0 {I : Nat → Int32} {A : Nat → List Int32} {L : Nat → List Int64} {F : Nat → Int64} {E : MH} (p1 : Int32) (p2 : Int32) : mm_call G0 119 [.ref 84, .int p1, .int p2] (HP I A L F E) = (if ¬ p1 < 0 ∧ ¬ 3 < p1 then (if ¬ p2 < (-20) ∧ ¬ 20 < p2 then ((ldI (A 85) ((45 * p1) + 4)).bind fun x1 => (if x1 ≠ 40 then ((ldI (A 85) ((45 * p1) + 4)).bind fun x2 => ((stI (A 85) (((45 * p1) + 5) + x2) p2).bind fun X3 => ((ldI ((fu A 85 X3) 85) ((45 * p1) + 4)).bind fun x4 => ((stI ((fu A 85 X3) 85) ((45 * p1) + 4) (x4 + 1)).bind fun X5 => ((ldI ((fu (fu A 85 X3) 85 X5) 85) ((45 * p1) + 4)).bind fun x6 => some (some (.int x6), (HP I (fu (fu A 85 X3) 85 X5) L F E))))))) else some (some (.int (-4)), (HP I A L F E)))) else some (some (.int (-2)), (HP I A L F E))) else some (some (.int (-1)), (HP I A L F E))) := by
  show mm_run G0 119 0 [some (.ref 84), some (.int p1), some (.int p2)] [] (HP I A L F E) = _
  refine (sg_go ht_X8_value (k := 1) (pc' := 1) (L' := [some (.ref 84), some (.int p1), some (.int p2)]) (st' := [.int p1]) (h' := (HP I A L F E)) rfl).trans ?_
  refine (sg_call ht_X8_value (mj := 114) (as := [.int p1]) (rest := []) rfl rfl ⟨by decide, Nat.le_of_ble_eq_true rfl⟩).trans ?_
  refine (bind_eq (sp_X8_isStream p1)).trans ?_
  show mm_run G0 119 4 [some (.ref 84), some (.int p1), some (.int p2)] [.int (bi (decide (¬ p1 < 0 ∧ ¬ 3 < p1)))] (HP I A L F E) = _
  refine (sg_bn ht_X8_value rfl).trans ?_
  refine ite_congr rfl (fun _ => ?_) (fun _ => ?_)
  · refine (sg_go ht_X8_value (k := 3) (pc' := 14) (L' := [some (.ref 84), some (.int p1), some (.int p2)]) (st' := [.int 20, .int (-20), .int p2]) (h' := (HP I A L F E)) rfl).trans ?_
    refine (sg_call ht_X8_value (mj := 113) (as := [.int p2, .int (-20), .int 20]) (rest := []) rfl rfl ⟨by decide, Nat.le_of_ble_eq_true rfl⟩).trans ?_
    refine (bind_eq (sp_X8_isIn p2 (-20) 20)).trans ?_
    show mm_run G0 119 17 [some (.ref 84), some (.int p1), some (.int p2)] [.int (bi (decide (¬ p2 < (-20) ∧ ¬ 20 < p2)))] (HP I A L F E) = _
    refine (sg_bn ht_X8_value rfl).trans ?_
    refine ite_congr rfl (fun _ => ?_) (fun _ => ?_)
    · refine (sg_go ht_X8_value (k := 2) (pc' := 25) (L' := [some (.ref 84), some (.int p1), some (.int p2)]) (st' := [.int p1, .ref 84]) (h' := (HP I A L F E)) rfl).trans ?_
      refine (sg_call ht_X8_value (mj := 115) (as := [.ref 84, .int p1]) (rest := []) rfl rfl ⟨by decide, Nat.le_of_ble_eq_true rfl⟩).trans ?_
      refine (bind_eq (sg_X8_many_0 p1)).trans ?_
      refine bind_as.trans ?_
      refine bind_cg fun x1 hx1 => ?_
      show mm_run G0 119 28 [some (.ref 84), some (.int p1), some (.int p2)] [.int x1] (HP I A L F E) = _
      refine (sg_go ht_X8_value (k := 1) (pc' := 30) (L' := [some (.ref 84), some (.int p1), some (.int p2)]) (st' := [.int 40, .int x1]) (h' := (HP I A L F E)) rfl).trans ?_
      refine (sg_cmp ht_X8_value rfl).trans ?_
      refine ite_congr rfl (fun _ => ?_) (fun _ => ?_)
      · refine (sg_go ht_X8_value (k := 3) (pc' := 39) (L' := [some (.ref 84), some (.int p1), some (.int p2)]) (st' := [.int p2, .int p1, .ref 84]) (h' := (HP I A L F E)) rfl).trans ?_
        refine (sg_call ht_X8_value (mj := 118) (as := [.ref 84, .int p1, .int p2]) (rest := []) rfl rfl ⟨by decide, Nat.le_of_ble_eq_true rfl⟩).trans ?_
        refine (bind_eq (sg_X8_comes_0 p1 p2)).trans ?_
        refine bind_as.trans ?_
        refine bind_cg fun x2 hx2 => ?_
        refine bind_as.trans ?_
        refine bind_cg fun X3 hX3 => ?_
        refine bind_as.trans ?_
        refine bind_cg fun x4 hx4 => ?_
        refine bind_as.trans ?_
        refine bind_cg fun X5 hX5 => ?_
        show mm_run G0 119 42 [some (.ref 84), some (.int p1), some (.int p2)] [] (HP I (fu (fu A 85 X3) 85 X5) L F E) = _
        refine (sg_go ht_X8_value (k := 2) (pc' := 44) (L' := [some (.ref 84), some (.int p1), some (.int p2)]) (st' := [.int p1, .ref 84]) (h' := (HP I (fu (fu A 85 X3) 85 X5) L F E)) rfl).trans ?_
        refine (sg_call ht_X8_value (mj := 115) (as := [.ref 84, .int p1]) (rest := []) rfl rfl ⟨by decide, Nat.le_of_ble_eq_true rfl⟩).trans ?_
        refine (bind_eq (sg_X8_many_0 p1)).trans ?_
        refine bind_as.trans ?_
        refine bind_cg fun x6 hx6 => ?_
        show mm_run G0 119 47 [some (.ref 84), some (.int p1), some (.int p2)] [.int x6] (HP I (fu (fu A 85 X3) 85 X5) L F E) = _
        exact sg_ret ht_X8_value rfl rfl
      · refine (sg_go ht_X8_value (k := 1) (pc' := 35) (L' := [some (.ref 84), some (.int p1), some (.int p2)]) (st' := [.int (-4)]) (h' := (HP I A L F E)) rfl).trans ?_
        exact sg_ret ht_X8_value rfl rfl
    · refine (sg_go ht_X8_value (k := 1) (pc' := 22) (L' := [some (.ref 84), some (.int p1), some (.int p2)]) (st' := [.int (-2)]) (h' := (HP I A L F E)) rfl).trans ?_
      exact sg_ret ht_X8_value rfl rfl
  · refine (sg_go ht_X8_value (k := 1) (pc' := 8) (L' := [some (.ref 84), some (.int p1), some (.int p2)]) (st' := [.int (-1)]) (h' := (HP I A L F E)) rfl).trans ?_
    exact sg_ret ht_X8_value rfl rfl
set_option maxRecDepth 20000 in
theorem sg_X8_drop_0 {I : Nat → Int32} {A : Nat → List Int32} {L : Nat → List Int64} {F : Nat → Int64} {E : MH} (p1 : Int32) : mm_call G0 120 [.ref 84, .int p1] (HP I A L F E) = (if ¬ p1 < 0 ∧ ¬ 3 < p1 then ((ldI (A 85) ((45 * p1) + 4)).bind fun x1 => (if x1 ≠ 0 then ((ldI (A 85) ((45 * p1) + 4)).bind fun x2 => ((stI (A 85) ((45 * p1) + 4) (x2 - 1)).bind fun X3 => ((ldI ((fu A 85 X3) 85) ((45 * p1) + 4)).bind fun x4 => some (some (.int x4), (HP I (fu A 85 X3) L F E))))) else some (some (.int (-3)), (HP I A L F E)))) else some (some (.int (-1)), (HP I A L F E))) := by
  show mm_run G0 120 0 [some (.ref 84), some (.int p1)] [] (HP I A L F E) = _
  refine (sg_go ht_X8_drop (k := 1) (pc' := 1) (L' := [some (.ref 84), some (.int p1)]) (st' := [.int p1]) (h' := (HP I A L F E)) rfl).trans ?_
  refine (sg_call ht_X8_drop (mj := 114) (as := [.int p1]) (rest := []) rfl rfl ⟨by decide, Nat.le_of_ble_eq_true rfl⟩).trans ?_
  refine (bind_eq (sp_X8_isStream p1)).trans ?_
  show mm_run G0 120 4 [some (.ref 84), some (.int p1)] [.int (bi (decide (¬ p1 < 0 ∧ ¬ 3 < p1)))] (HP I A L F E) = _
  refine (sg_bn ht_X8_drop rfl).trans ?_
  refine ite_congr rfl (fun _ => ?_) (fun _ => ?_)
  · refine (sg_go ht_X8_drop (k := 2) (pc' := 11) (L' := [some (.ref 84), some (.int p1)]) (st' := [.int p1, .ref 84]) (h' := (HP I A L F E)) rfl).trans ?_
    refine (sg_call ht_X8_drop (mj := 115) (as := [.ref 84, .int p1]) (rest := []) rfl rfl ⟨by decide, Nat.le_of_ble_eq_true rfl⟩).trans ?_
    refine (bind_eq (sg_X8_many_0 p1)).trans ?_
    refine bind_as.trans ?_
    refine bind_cg fun x1 hx1 => ?_
    show mm_run G0 120 14 [some (.ref 84), some (.int p1)] [.int x1] (HP I A L F E) = _
    refine (sg_if ht_X8_drop rfl).trans ?_
    refine ite_congr rfl (fun _ => ?_) (fun _ => ?_)
    · refine (sg_go ht_X8_drop (k := 3) (pc' := 25) (L' := [some (.ref 84), some (.int p1)]) (st' := [.int p1, .ref 85]) (h' := (HP I A L F E)) rfl).trans ?_
      refine (sg_call ht_X8_drop (mj := 112) (as := [.int p1]) (rest := [.ref 85]) rfl rfl ⟨by decide, Nat.le_of_ble_eq_true rfl⟩).trans ?_
      refine (bind_eq (sg_X8_base_0 p1)).trans ?_
      show mm_run G0 120 28 [some (.ref 84), some (.int p1)] [.int (45 * p1), .ref 85] (HP I A L F E) = _
      refine (sg_go ht_X8_drop (k := 3) (pc' := 31) (L' := [some (.ref 84), some (.int p1)]) (st' := [.int ((45 * p1) + 4), .ref 85, .int ((45 * p1) + 4), .ref 85]) (h' := (HP I A L F E)) rfl).trans ?_
      refine (sg_ldI ht_X8_drop rfl hp_o_85).trans ?_
      refine bind_cg fun x2 hx2 => ?_
      refine (sg_go ht_X8_drop (k := 2) (pc' := 34) (L' := [some (.ref 84), some (.int p1)]) (st' := [.int (x2 - 1), .int ((45 * p1) + 4), .ref 85]) (h' := (HP I A L F E)) rfl).trans ?_
      refine (sg_stI (hh := fun X3 => (HP I (fu A 85 X3) L F E)) ht_X8_drop rfl hp_o_85 (fun _ => hp_s_85)).trans ?_
      refine bind_cg fun X3 hX3 => ?_
      refine (sg_go ht_X8_drop (k := 2) (pc' := 37) (L' := [some (.ref 84), some (.int p1)]) (st' := [.int p1, .ref 84]) (h' := (HP I (fu A 85 X3) L F E)) rfl).trans ?_
      refine (sg_call ht_X8_drop (mj := 115) (as := [.ref 84, .int p1]) (rest := []) rfl rfl ⟨by decide, Nat.le_of_ble_eq_true rfl⟩).trans ?_
      refine (bind_eq (sg_X8_many_0 p1)).trans ?_
      refine bind_as.trans ?_
      refine bind_cg fun x4 hx4 => ?_
      show mm_run G0 120 40 [some (.ref 84), some (.int p1)] [.int x4] (HP I (fu A 85 X3) L F E) = _
      exact sg_ret ht_X8_drop rfl rfl
    · refine (sg_go ht_X8_drop (k := 1) (pc' := 19) (L' := [some (.ref 84), some (.int p1)]) (st' := [.int (-3)]) (h' := (HP I A L F E)) rfl).trans ?_
      exact sg_ret ht_X8_drop rfl rfl
  · refine (sg_go ht_X8_drop (k := 1) (pc' := 8) (L' := [some (.ref 84), some (.int p1)]) (st' := [.int (-1)]) (h' := (HP I A L F E)) rfl).trans ?_
    exact sg_ret ht_X8_drop rfl rfl
set_option maxRecDepth 20000 in
theorem sg_X8_set_0 {I : Nat → Int32} {A : Nat → List Int32} {L : Nat → List Int64} {F : Nat → Int64} {E : MH} (p1 : Int32) (p2 : Int32) (p3 : Int32) : mm_call G0 122 [.ref 84, .int p1, .int p2, .int p3] (HP I A L F E) = (if ¬ p1 < 0 ∧ ¬ 3 < p1 then (if ¬ p2 < 0 ∧ ¬ 3 < p2 then (if okF p2 p3 = true then ((ldI (A 85) ((45 * p1) + p2)).bind fun x1 => ((stI (A 85) ((45 * p1) + p2) p3).bind fun X2 => some (some (.long (x1).toInt64), (HP I (fu A 85 X2) L F E)))) else some (some (.long (-9223372036854775808)), (HP I A L F E))) else some (some (.long (-9223372036854775808)), (HP I A L F E))) else some (some (.long (-9223372036854775808)), (HP I A L F E))) := by
  show mm_run G0 122 0 [some (.ref 84), some (.int p1), some (.int p2), some (.int p3), none] [] (HP I A L F E) = _
  refine (sg_go ht_X8_set (k := 1) (pc' := 1) (L' := [some (.ref 84), some (.int p1), some (.int p2), some (.int p3), none]) (st' := [.int p1]) (h' := (HP I A L F E)) rfl).trans ?_
  refine (sg_call ht_X8_set (mj := 114) (as := [.int p1]) (rest := []) rfl rfl ⟨by decide, Nat.le_of_ble_eq_true rfl⟩).trans ?_
  refine (bind_eq (sp_X8_isStream p1)).trans ?_
  show mm_run G0 122 4 [some (.ref 84), some (.int p1), some (.int p2), some (.int p3), none] [.int (bi (decide (¬ p1 < 0 ∧ ¬ 3 < p1)))] (HP I A L F E) = _
  refine (sg_be ht_X8_set rfl).trans ?_
  refine ite_congr rfl (fun _ => ?_) (fun _ => ?_)
  · refine (sg_go ht_X8_set (k := 3) (pc' := 10) (L' := [some (.ref 84), some (.int p1), some (.int p2), some (.int p3), none]) (st' := [.int 3, .int 0, .int p2]) (h' := (HP I A L F E)) rfl).trans ?_
    refine (sg_call ht_X8_set (mj := 113) (as := [.int p2, .int 0, .int 3]) (rest := []) rfl rfl ⟨by decide, Nat.le_of_ble_eq_true rfl⟩).trans ?_
    refine (bind_eq (sp_X8_isIn p2 0 3)).trans ?_
    show mm_run G0 122 13 [some (.ref 84), some (.int p1), some (.int p2), some (.int p3), none] [.int (bi (decide (¬ p2 < 0 ∧ ¬ 3 < p2)))] (HP I A L F E) = _
    refine (sg_be ht_X8_set rfl).trans ?_
    refine ite_congr rfl (fun _ => ?_) (fun _ => ?_)
    · refine (sg_go ht_X8_set (k := 2) (pc' := 18) (L' := [some (.ref 84), some (.int p1), some (.int p2), some (.int p3), none]) (st' := [.int p3, .int p2]) (h' := (HP I A L F E)) rfl).trans ?_
      refine (sg_call ht_X8_set (mj := 121) (as := [.int p2, .int p3]) (rest := []) rfl rfl ⟨by decide, Nat.le_of_ble_eq_true rfl⟩).trans ?_
      refine (bind_eq (sp_X8_isFit p2 p3)).trans ?_
      show mm_run G0 122 21 [some (.ref 84), some (.int p1), some (.int p2), some (.int p3), none] [.int (bi (okF p2 p3))] (HP I A L F E) = _
      refine (sg_bnB ht_X8_set rfl).trans ?_
      refine ite_congr rfl (fun _ => ?_) (fun _ => ?_)
      · refine (sg_go ht_X8_set (k := 3) (pc' := 33) (L' := [some (.ref 84), some (.int p1), some (.int p2), some (.int p3), none]) (st' := [.int p1, .ref 85]) (h' := (HP I A L F E)) rfl).trans ?_
        refine (sg_call ht_X8_set (mj := 112) (as := [.int p1]) (rest := [.ref 85]) rfl rfl ⟨by decide, Nat.le_of_ble_eq_true rfl⟩).trans ?_
        refine (bind_eq (sg_X8_base_0 p1)).trans ?_
        show mm_run G0 122 36 [some (.ref 84), some (.int p1), some (.int p2), some (.int p3), none] [.int (45 * p1), .ref 85] (HP I A L F E) = _
        refine (sg_go ht_X8_set (k := 2) (pc' := 38) (L' := [some (.ref 84), some (.int p1), some (.int p2), some (.int p3), none]) (st' := [.int ((45 * p1) + p2), .ref 85]) (h' := (HP I A L F E)) rfl).trans ?_
        refine (sg_ldI ht_X8_set rfl hp_o_85).trans ?_
        refine bind_cg fun x1 hx1 => ?_
        refine (sg_go ht_X8_set (k := 4) (pc' := 46) (L' := [some (.ref 84), some (.int p1), some (.int p2), some (.int p3), some (.int x1)]) (st' := [.int p1, .ref 85]) (h' := (HP I A L F E)) rfl).trans ?_
        refine (sg_call ht_X8_set (mj := 112) (as := [.int p1]) (rest := [.ref 85]) rfl rfl ⟨by decide, Nat.le_of_ble_eq_true rfl⟩).trans ?_
        refine (bind_eq (sg_X8_base_0 p1)).trans ?_
        show mm_run G0 122 49 [some (.ref 84), some (.int p1), some (.int p2), some (.int p3), some (.int x1)] [.int (45 * p1), .ref 85] (HP I A L F E) = _
        refine (sg_go ht_X8_set (k := 3) (pc' := 52) (L' := [some (.ref 84), some (.int p1), some (.int p2), some (.int p3), some (.int x1)]) (st' := [.int p3, .int ((45 * p1) + p2), .ref 85]) (h' := (HP I A L F E)) rfl).trans ?_
        refine (sg_stI (hh := fun X2 => (HP I (fu A 85 X2) L F E)) ht_X8_set rfl hp_o_85 (fun _ => hp_s_85)).trans ?_
        refine bind_cg fun X2 hX2 => ?_
        refine (sg_go ht_X8_set (k := 2) (pc' := 56) (L' := [some (.ref 84), some (.int p1), some (.int p2), some (.int p3), some (.int x1)]) (st' := [.long (x1).toInt64]) (h' := (HP I (fu A 85 X2) L F E)) rfl).trans ?_
        exact sg_ret ht_X8_set rfl rfl
      · refine (sg_go ht_X8_set (k := 1) (pc' := 27) (L' := [some (.ref 84), some (.int p1), some (.int p2), some (.int p3), none]) (st' := [.long (-9223372036854775808)]) (h' := (HP I A L F E)) rfl).trans ?_
        exact sg_ret ht_X8_set rfl rfl
    · refine (sg_go ht_X8_set (k := 1) (pc' := 27) (L' := [some (.ref 84), some (.int p1), some (.int p2), some (.int p3), none]) (st' := [.long (-9223372036854775808)]) (h' := (HP I A L F E)) rfl).trans ?_
      exact sg_ret ht_X8_set rfl rfl
  · refine (sg_go ht_X8_set (k := 1) (pc' := 27) (L' := [some (.ref 84), some (.int p1), some (.int p2), some (.int p3), none]) (st' := [.long (-9223372036854775808)]) (h' := (HP I A L F E)) rfl).trans ?_
    exact sg_ret ht_X8_set rfl rfl
set_option maxRecDepth 20000 in
theorem sg_X8_startOf_0 {I : Nat → Int32} {A : Nat → List Int32} {L : Nat → List Int64} {F : Nat → Int64} {E : MH} (p1 : Int32) : mm_call G0 123 [.ref 84, .int p1] (HP I A L F E) = ((ldI (A 85) ((45 * p1) + 0)).bind fun x1 => (if x1 = 1 then ((ldI (A 85) ((45 * p1) + 3)).bind fun x2 => some (some (.int (x2 / 2)), (HP I A L F E))) else (if x1 ≠ 3 then some (some (.int 0), (HP I A L F E)) else ((ldI (A 85) ((45 * p1) + 3)).bind fun x3 => some (some (.int (x3 / 2)), (HP I A L F E)))))) := by
  show mm_run G0 123 0 [some (.ref 84), some (.int p1), none] [] (HP I A L F E) = _
  refine (sg_go ht_X8_startOf (k := 3) (pc' := 5) (L' := [some (.ref 84), some (.int p1), none]) (st' := [.int p1, .ref 85]) (h' := (HP I A L F E)) rfl).trans ?_
  refine (sg_call ht_X8_startOf (mj := 112) (as := [.int p1]) (rest := [.ref 85]) rfl rfl ⟨by decide, Nat.le_of_ble_eq_true rfl⟩).trans ?_
  refine (bind_eq (sg_X8_base_0 p1)).trans ?_
  show mm_run G0 123 8 [some (.ref 84), some (.int p1), none] [.int (45 * p1), .ref 85] (HP I A L F E) = _
  refine (sg_go ht_X8_startOf (k := 2) (pc' := 10) (L' := [some (.ref 84), some (.int p1), none]) (st' := [.int ((45 * p1) + 0), .ref 85]) (h' := (HP I A L F E)) rfl).trans ?_
  refine (sg_ldI ht_X8_startOf rfl hp_o_85).trans ?_
  refine bind_cg fun x1 hx1 => ?_
  refine (sg_go ht_X8_startOf (k := 3) (pc' := 14) (L' := [some (.ref 84), some (.int p1), some (.int x1)]) (st' := [.int 1, .int x1]) (h' := (HP I A L F E)) rfl).trans ?_
  refine (sg_cmp ht_X8_startOf rfl).trans ?_
  refine ite_congr rfl (fun _ => ?_) (fun _ => ?_)
  · refine (sg_go ht_X8_startOf (k := 3) (pc' := 27) (L' := [some (.ref 84), some (.int p1), some (.int x1)]) (st' := [.int p1, .ref 85]) (h' := (HP I A L F E)) rfl).trans ?_
    refine (sg_call ht_X8_startOf (mj := 112) (as := [.int p1]) (rest := [.ref 85]) rfl rfl ⟨by decide, Nat.le_of_ble_eq_true rfl⟩).trans ?_
    refine (bind_eq (sg_X8_base_0 p1)).trans ?_
    show mm_run G0 123 30 [some (.ref 84), some (.int p1), some (.int x1)] [.int (45 * p1), .ref 85] (HP I A L F E) = _
    refine (sg_go ht_X8_startOf (k := 2) (pc' := 32) (L' := [some (.ref 84), some (.int p1), some (.int x1)]) (st' := [.int ((45 * p1) + 3), .ref 85]) (h' := (HP I A L F E)) rfl).trans ?_
    refine (sg_ldI ht_X8_startOf rfl hp_o_85).trans ?_
    refine bind_cg fun x2 hx2 => ?_
    refine (sg_go ht_X8_startOf (k := 3) (pc' := 39) (L' := [some (.ref 84), some (.int p1), some (.int x1)]) (st' := [.int (x2 / 2)]) (h' := (HP I A L F E)) rfl).trans ?_
    exact sg_ret ht_X8_startOf rfl rfl
  · refine (sg_go ht_X8_startOf (k := 2) (pc' := 19) (L' := [some (.ref 84), some (.int p1), some (.int x1)]) (st' := [.int 3, .int x1]) (h' := (HP I A L F E)) rfl).trans ?_
    refine (sg_cmp ht_X8_startOf rfl).trans ?_
    refine ite_congr rfl (fun _ => ?_) (fun _ => ?_)
    · refine (sg_go ht_X8_startOf (k := 1) (pc' := 39) (L' := [some (.ref 84), some (.int p1), some (.int x1)]) (st' := [.int 0]) (h' := (HP I A L F E)) rfl).trans ?_
      exact sg_ret ht_X8_startOf rfl rfl
    · refine (sg_go ht_X8_startOf (k := 3) (pc' := 27) (L' := [some (.ref 84), some (.int p1), some (.int x1)]) (st' := [.int p1, .ref 85]) (h' := (HP I A L F E)) rfl).trans ?_
      refine (sg_call ht_X8_startOf (mj := 112) (as := [.int p1]) (rest := [.ref 85]) rfl rfl ⟨by decide, Nat.le_of_ble_eq_true rfl⟩).trans ?_
      refine (bind_eq (sg_X8_base_0 p1)).trans ?_
      show mm_run G0 123 30 [some (.ref 84), some (.int p1), some (.int x1)] [.int (45 * p1), .ref 85] (HP I A L F E) = _
      refine (sg_go ht_X8_startOf (k := 2) (pc' := 32) (L' := [some (.ref 84), some (.int p1), some (.int x1)]) (st' := [.int ((45 * p1) + 3), .ref 85]) (h' := (HP I A L F E)) rfl).trans ?_
      refine (sg_ldI ht_X8_startOf rfl hp_o_85).trans ?_
      refine bind_cg fun x3 hx3 => ?_
      refine (sg_go ht_X8_startOf (k := 3) (pc' := 39) (L' := [some (.ref 84), some (.int p1), some (.int x1)]) (st' := [.int (x3 / 2)]) (h' := (HP I A L F E)) rfl).trans ?_
      exact sg_ret ht_X8_startOf rfl rfl
set_option maxRecDepth 20000 in
theorem sg_X8_of_0 {I : Nat → Int32} {A : Nat → List Int32} {L : Nat → List Int64} {F : Nat → Int64} {E : MH} (p1 : Int32) (p2 : Int32) : mm_call G0 124 [.ref 84, .int p1, .int p2] (HP I A L F E) = (if ¬ p1 < 0 ∧ ¬ 3 < p1 then (if ¬ p2 < 0 ∧ ¬ 5 < p2 then (if p2 ≠ 5 then ((ldI (A 85) ((45 * p1) + p2)).bind fun x1 => some (some (.long (x1).toInt64), (HP I A L F E))) else ((ldI (A 85) ((45 * p1) + 0)).bind fun x2 => (if x2 = 1 then ((ldI (A 85) ((45 * p1) + 3)).bind fun x3 => some (some (.long ((x3 / 2)).toInt64), (HP I A L F E))) else (if x2 ≠ 3 then some (some (.long 0), (HP I A L F E)) else ((ldI (A 85) ((45 * p1) + 3)).bind fun x4 => some (some (.long ((x4 / 2)).toInt64), (HP I A L F E))))))) else some (some (.long (-9223372036854775808)), (HP I A L F E))) else some (some (.long (-9223372036854775808)), (HP I A L F E))) := by
  show mm_run G0 124 0 [some (.ref 84), some (.int p1), some (.int p2)] [] (HP I A L F E) = _
  refine (sg_go ht_X8_of (k := 1) (pc' := 1) (L' := [some (.ref 84), some (.int p1), some (.int p2)]) (st' := [.int p1]) (h' := (HP I A L F E)) rfl).trans ?_
  refine (sg_call ht_X8_of (mj := 114) (as := [.int p1]) (rest := []) rfl rfl ⟨by decide, Nat.le_of_ble_eq_true rfl⟩).trans ?_
  refine (bind_eq (sp_X8_isStream p1)).trans ?_
  show mm_run G0 124 4 [some (.ref 84), some (.int p1), some (.int p2)] [.int (bi (decide (¬ p1 < 0 ∧ ¬ 3 < p1)))] (HP I A L F E) = _
  refine (sg_be ht_X8_of rfl).trans ?_
  refine ite_congr rfl (fun _ => ?_) (fun _ => ?_)
  · refine (sg_go ht_X8_of (k := 3) (pc' := 10) (L' := [some (.ref 84), some (.int p1), some (.int p2)]) (st' := [.int 5, .int 0, .int p2]) (h' := (HP I A L F E)) rfl).trans ?_
    refine (sg_call ht_X8_of (mj := 113) (as := [.int p2, .int 0, .int 5]) (rest := []) rfl rfl ⟨by decide, Nat.le_of_ble_eq_true rfl⟩).trans ?_
    refine (bind_eq (sp_X8_isIn p2 0 5)).trans ?_
    show mm_run G0 124 13 [some (.ref 84), some (.int p1), some (.int p2)] [.int (bi (decide (¬ p2 < 0 ∧ ¬ 5 < p2)))] (HP I A L F E) = _
    refine (sg_bn ht_X8_of rfl).trans ?_
    refine ite_congr rfl (fun _ => ?_) (fun _ => ?_)
    · refine (sg_go ht_X8_of (k := 2) (pc' := 22) (L' := [some (.ref 84), some (.int p1), some (.int p2)]) (st' := [.int 5, .int p2]) (h' := (HP I A L F E)) rfl).trans ?_
      refine (sg_cmp ht_X8_of rfl).trans ?_
      refine ite_congr rfl (fun _ => ?_) (fun _ => ?_)
      · refine (sg_go ht_X8_of (k := 3) (pc' := 39) (L' := [some (.ref 84), some (.int p1), some (.int p2)]) (st' := [.int p1, .ref 85]) (h' := (HP I A L F E)) rfl).trans ?_
        refine (sg_call ht_X8_of (mj := 112) (as := [.int p1]) (rest := [.ref 85]) rfl rfl ⟨by decide, Nat.le_of_ble_eq_true rfl⟩).trans ?_
        refine (bind_eq (sg_X8_base_0 p1)).trans ?_
        show mm_run G0 124 42 [some (.ref 84), some (.int p1), some (.int p2)] [.int (45 * p1), .ref 85] (HP I A L F E) = _
        refine (sg_go ht_X8_of (k := 2) (pc' := 44) (L' := [some (.ref 84), some (.int p1), some (.int p2)]) (st' := [.int ((45 * p1) + p2), .ref 85]) (h' := (HP I A L F E)) rfl).trans ?_
        refine (sg_ldI ht_X8_of rfl hp_o_85).trans ?_
        refine bind_cg fun x1 hx1 => ?_
        refine (sg_go ht_X8_of (k := 1) (pc' := 46) (L' := [some (.ref 84), some (.int p1), some (.int p2)]) (st' := [.long (x1).toInt64]) (h' := (HP I A L F E)) rfl).trans ?_
        exact sg_ret ht_X8_of rfl rfl
      · refine (sg_go ht_X8_of (k := 2) (pc' := 27) (L' := [some (.ref 84), some (.int p1), some (.int p2)]) (st' := [.int p1, .ref 84]) (h' := (HP I A L F E)) rfl).trans ?_
        refine (sg_call ht_X8_of (mj := 123) (as := [.ref 84, .int p1]) (rest := []) rfl rfl ⟨by decide, Nat.le_of_ble_eq_true rfl⟩).trans ?_
        refine (bind_eq (sg_X8_startOf_0 p1)).trans ?_
        refine bind_as.trans ?_
        refine bind_cg fun x2 hx2 => ?_
        refine ite_bd.trans ?_
        refine ite_congr rfl (fun _ => ?_) (fun _ => ?_)
        · refine bind_as.trans ?_
          refine bind_cg fun x3 hx3 => ?_
          show mm_run G0 124 30 [some (.ref 84), some (.int p1), some (.int p2)] [.int (x3 / 2)] (HP I A L F E) = _
          refine (sg_go ht_X8_of (k := 2) (pc' := 46) (L' := [some (.ref 84), some (.int p1), some (.int p2)]) (st' := [.long ((x3 / 2)).toInt64]) (h' := (HP I A L F E)) rfl).trans ?_
          exact sg_ret ht_X8_of rfl rfl
        · refine ite_bd.trans ?_
          refine ite_congr rfl (fun _ => ?_) (fun _ => ?_)
          · show mm_run G0 124 30 [some (.ref 84), some (.int p1), some (.int p2)] [.int 0] (HP I A L F E) = _
            refine (sg_go ht_X8_of (k := 2) (pc' := 46) (L' := [some (.ref 84), some (.int p1), some (.int p2)]) (st' := [.long 0]) (h' := (HP I A L F E)) rfl).trans ?_
            exact sg_ret ht_X8_of rfl rfl
          · refine bind_as.trans ?_
            refine bind_cg fun x4 hx4 => ?_
            show mm_run G0 124 30 [some (.ref 84), some (.int p1), some (.int p2)] [.int (x4 / 2)] (HP I A L F E) = _
            refine (sg_go ht_X8_of (k := 2) (pc' := 46) (L' := [some (.ref 84), some (.int p1), some (.int p2)]) (st' := [.long ((x4 / 2)).toInt64]) (h' := (HP I A L F E)) rfl).trans ?_
            exact sg_ret ht_X8_of rfl rfl
    · refine (sg_go ht_X8_of (k := 1) (pc' := 19) (L' := [some (.ref 84), some (.int p1), some (.int p2)]) (st' := [.long (-9223372036854775808)]) (h' := (HP I A L F E)) rfl).trans ?_
      exact sg_ret ht_X8_of rfl rfl
  · refine (sg_go ht_X8_of (k := 1) (pc' := 19) (L' := [some (.ref 84), some (.int p1), some (.int p2)]) (st' := [.long (-9223372036854775808)]) (h' := (HP I A L F E)) rfl).trans ?_
    exact sg_ret ht_X8_of rfl rfl
set_option maxRecDepth 20000 in
theorem sg_X8_valueAt_0 {I : Nat → Int32} {A : Nat → List Int32} {L : Nat → List Int64} {F : Nat → Int64} {E : MH} (p1 : Int32) (p2 : Int32) : mm_call G0 125 [.ref 84, .int p1, .int p2] (HP I A L F E) = ((ldI (A 85) (((45 * p1) + 5) + p2)).bind fun x1 => some (some (.int x1), (HP I A L F E))) := by
  show mm_run G0 125 0 [some (.ref 84), some (.int p1), some (.int p2)] [] (HP I A L F E) = _
  refine (sg_go ht_X8_valueAt (k := 3) (pc' := 5) (L' := [some (.ref 84), some (.int p1), some (.int p2)]) (st' := [.int p1, .ref 85]) (h' := (HP I A L F E)) rfl).trans ?_
  refine (sg_call ht_X8_valueAt (mj := 112) (as := [.int p1]) (rest := [.ref 85]) rfl rfl ⟨by decide, Nat.le_of_ble_eq_true rfl⟩).trans ?_
  refine (bind_eq (sg_X8_base_0 p1)).trans ?_
  show mm_run G0 125 8 [some (.ref 84), some (.int p1), some (.int p2)] [.int (45 * p1), .ref 85] (HP I A L F E) = _
  refine (sg_go ht_X8_valueAt (k := 4) (pc' := 12) (L' := [some (.ref 84), some (.int p1), some (.int p2)]) (st' := [.int (((45 * p1) + 5) + p2), .ref 85]) (h' := (HP I A L F E)) rfl).trans ?_
  refine (sg_ldI ht_X8_valueAt rfl hp_o_85).trans ?_
  refine bind_cg fun x1 hx1 => ?_
  exact sg_ret ht_X8_valueAt rfl rfl
set_option maxRecDepth 20000 in
theorem sg_X8_offAt_0 {I : Nat → Int32} {A : Nat → List Int32} {L : Nat → List Int64} {F : Nat → Int64} {E : MH} (p1 : Int32) (p2 : Int32) : mm_call G0 126 [.ref 84, .int p1, .int p2] (HP I A L F E) = ((ldI (A 85) ((45 * p1) + 0)).bind fun x1 => ((ldI (A 85) (((45 * p1) + 5) + p2)).bind fun x2 => ((ldI (A 85) ((45 * p1) + 1)).bind fun x3 => (if x1 = 2 then some (some (.int (imax (-5) (imin 5 (x2 - x3)))), (HP I A L F E)) else (if x1 ≠ 3 then some (some (.int (x2 - x3)), (HP I A L F E)) else some (some (.int (imax (-5) (imin 5 (x2 - x3)))), (HP I A L F E))))))) := by
  show mm_run G0 126 0 [some (.ref 84), some (.int p1), some (.int p2), none, none] [] (HP I A L F E) = _
  refine (sg_go ht_X8_offAt (k := 3) (pc' := 5) (L' := [some (.ref 84), some (.int p1), some (.int p2), none, none]) (st' := [.int p1, .ref 85]) (h' := (HP I A L F E)) rfl).trans ?_
  refine (sg_call ht_X8_offAt (mj := 112) (as := [.int p1]) (rest := [.ref 85]) rfl rfl ⟨by decide, Nat.le_of_ble_eq_true rfl⟩).trans ?_
  refine (bind_eq (sg_X8_base_0 p1)).trans ?_
  show mm_run G0 126 8 [some (.ref 84), some (.int p1), some (.int p2), none, none] [.int (45 * p1), .ref 85] (HP I A L F E) = _
  refine (sg_go ht_X8_offAt (k := 2) (pc' := 10) (L' := [some (.ref 84), some (.int p1), some (.int p2), none, none]) (st' := [.int ((45 * p1) + 0), .ref 85]) (h' := (HP I A L F E)) rfl).trans ?_
  refine (sg_ldI ht_X8_offAt rfl hp_o_85).trans ?_
  refine bind_cg fun x1 hx1 => ?_
  refine (sg_go ht_X8_offAt (k := 4) (pc' := 15) (L' := [some (.ref 84), some (.int p1), some (.int p2), some (.int x1), none]) (st' := [.int p2, .int p1, .ref 84]) (h' := (HP I A L F E)) rfl).trans ?_
  refine (sg_call ht_X8_offAt (mj := 125) (as := [.ref 84, .int p1, .int p2]) (rest := []) rfl rfl ⟨by decide, Nat.le_of_ble_eq_true rfl⟩).trans ?_
  refine (bind_eq (sg_X8_valueAt_0 p1 p2)).trans ?_
  refine bind_as.trans ?_
  refine bind_cg fun x2 hx2 => ?_
  show mm_run G0 126 18 [some (.ref 84), some (.int p1), some (.int p2), some (.int x1), none] [.int x2] (HP I A L F E) = _
  refine (sg_go ht_X8_offAt (k := 3) (pc' := 23) (L' := [some (.ref 84), some (.int p1), some (.int p2), some (.int x1), none]) (st' := [.int p1, .ref 85, .int x2]) (h' := (HP I A L F E)) rfl).trans ?_
  refine (sg_call ht_X8_offAt (mj := 112) (as := [.int p1]) (rest := [.ref 85, .int x2]) rfl rfl ⟨by decide, Nat.le_of_ble_eq_true rfl⟩).trans ?_
  refine (bind_eq (sg_X8_base_0 p1)).trans ?_
  show mm_run G0 126 26 [some (.ref 84), some (.int p1), some (.int p2), some (.int x1), none] [.int (45 * p1), .ref 85, .int x2] (HP I A L F E) = _
  refine (sg_go ht_X8_offAt (k := 2) (pc' := 28) (L' := [some (.ref 84), some (.int p1), some (.int p2), some (.int x1), none]) (st' := [.int ((45 * p1) + 1), .ref 85, .int x2]) (h' := (HP I A L F E)) rfl).trans ?_
  refine (sg_ldI ht_X8_offAt rfl hp_o_85).trans ?_
  refine bind_cg fun x3 hx3 => ?_
  refine (sg_go ht_X8_offAt (k := 4) (pc' := 34) (L' := [some (.ref 84), some (.int p1), some (.int p2), some (.int x1), some (.int (x2 - x3))]) (st' := [.int 2, .int x1]) (h' := (HP I A L F E)) rfl).trans ?_
  refine (sg_cmp ht_X8_offAt rfl).trans ?_
  refine ite_congr rfl (fun _ => ?_) (fun _ => ?_)
  · refine (sg_go ht_X8_offAt (k := 6) (pc' := 58) (L' := [some (.ref 84), some (.int p1), some (.int p2), some (.int x1), some (.int (x2 - x3))]) (st' := [.int (imax (-5) (imin 5 (x2 - x3)))]) (h' := (HP I A L F E)) rfl).trans ?_
    exact sg_ret ht_X8_offAt rfl rfl
  · refine (sg_go ht_X8_offAt (k := 2) (pc' := 39) (L' := [some (.ref 84), some (.int p1), some (.int p2), some (.int x1), some (.int (x2 - x3))]) (st' := [.int 3, .int x1]) (h' := (HP I A L F E)) rfl).trans ?_
    refine (sg_cmp ht_X8_offAt rfl).trans ?_
    refine ite_congr rfl (fun _ => ?_) (fun _ => ?_)
    · refine (sg_go ht_X8_offAt (k := 1) (pc' := 58) (L' := [some (.ref 84), some (.int p1), some (.int p2), some (.int x1), some (.int (x2 - x3))]) (st' := [.int (x2 - x3)]) (h' := (HP I A L F E)) rfl).trans ?_
      exact sg_ret ht_X8_offAt rfl rfl
    · refine (sg_go ht_X8_offAt (k := 6) (pc' := 58) (L' := [some (.ref 84), some (.int p1), some (.int p2), some (.int x1), some (.int (x2 - x3))]) (st' := [.int (imax (-5) (imin 5 (x2 - x3)))]) (h' := (HP I A L F E)) rfl).trans ?_
      exact sg_ret ht_X8_offAt rfl rfl
theorem sp_X8_offAt {I : Nat → Int32} {A : Nat → List Int32} {L : Nat → List Int64} {F : Nat → Int64} {E : MH} (p1 : Int32) (p2 : Int32) : mm_call G0 126 [.ref 84, .int p1, .int p2] (HP I A L F E) = ((ldI (A 85) ((45 * p1) + 0)).bind fun x1 => ((ldI (A 85) (((45 * p1) + 5) + p2)).bind fun x2 => ((ldI (A 85) ((45 * p1) + 1)).bind fun x3 => some (some (.int (ofv x1 (x2 - x3))), (HP I A L F E))))) := by
  rw [sg_X8_offAt_0 p1 p2]
  refine bind_cg fun x1 _ => bind_cg fun x2 _ => bind_cg fun x3 _ => ?_
  unfold ofv
  by_cases h1 : x1 = 2 <;> by_cases h3 : x1 = 3 <;> simp [h1, h3]
set_option maxRecDepth 20000 in
theorem sg_X8_at_0 {I : Nat → Int32} {A : Nat → List Int32} {L : Nat → List Int64} {F : Nat → Int64} {E : MH} (p1 : Int32) (p2 : Int32) : mm_call G0 127 [.ref 84, .int p1, .int p2] (HP I A L F E) = (if ¬ p1 < 0 ∧ ¬ 3 < p1 then ((ldI (A 85) ((45 * p1) + 4)).bind fun x1 => (if ¬ p2 < 0 ∧ ¬ (x1 - 1) < p2 then ((ldI (A 85) (((45 * p1) + 5) + p2)).bind fun x2 => some (some (.long (x2).toInt64), (HP I A L F E))) else some (some (.long (-9223372036854775808)), (HP I A L F E)))) else some (some (.long (-9223372036854775808)), (HP I A L F E))) := by
  show mm_run G0 127 0 [some (.ref 84), some (.int p1), some (.int p2)] [] (HP I A L F E) = _
  refine (sg_go ht_X8_at (k := 3) (pc' := 3) (L' := [some (.ref 84), some (.int p1), some (.int p2)]) (st' := [.int p2, .int p1, .ref 84]) (h' := (HP I A L F E)) rfl).trans ?_
  refine (sg_call ht_X8_at (mj := 116) (as := [.ref 84, .int p1, .int p2]) (rest := []) rfl rfl ⟨by decide, Nat.le_of_ble_eq_true rfl⟩).trans ?_
  refine (bind_eq (sg_X8_isPlace_0 p1 p2)).trans ?_
  refine ite_bd.trans ?_
  refine ite_congr rfl (fun _ => ?_) (fun _ => ?_)
  · refine bind_as.trans ?_
    refine bind_cg fun x1 hx1 => ?_
    refine ite_bd.trans ?_
    refine ite_congr rfl (fun _ => ?_) (fun _ => ?_)
    · show mm_run G0 127 6 [some (.ref 84), some (.int p1), some (.int p2)] [.int 1] (HP I A L F E) = _
      refine (sg_go ht_X8_at (k := 4) (pc' := 12) (L' := [some (.ref 84), some (.int p1), some (.int p2)]) (st' := [.int p2, .int p1, .ref 84]) (h' := (HP I A L F E)) rfl).trans ?_
      refine (sg_call ht_X8_at (mj := 125) (as := [.ref 84, .int p1, .int p2]) (rest := []) rfl rfl ⟨by decide, Nat.le_of_ble_eq_true rfl⟩).trans ?_
      refine (bind_eq (sg_X8_valueAt_0 p1 p2)).trans ?_
      refine bind_as.trans ?_
      refine bind_cg fun x2 hx2 => ?_
      show mm_run G0 127 15 [some (.ref 84), some (.int p1), some (.int p2)] [.int x2] (HP I A L F E) = _
      refine (sg_go ht_X8_at (k := 2) (pc' := 22) (L' := [some (.ref 84), some (.int p1), some (.int p2)]) (st' := [.long (x2).toInt64]) (h' := (HP I A L F E)) rfl).trans ?_
      exact sg_ret ht_X8_at rfl rfl
    · show mm_run G0 127 6 [some (.ref 84), some (.int p1), some (.int p2)] [.int 0] (HP I A L F E) = _
      refine (sg_go ht_X8_at (k := 2) (pc' := 22) (L' := [some (.ref 84), some (.int p1), some (.int p2)]) (st' := [.long (-9223372036854775808)]) (h' := (HP I A L F E)) rfl).trans ?_
      exact sg_ret ht_X8_at rfl rfl
  · show mm_run G0 127 6 [some (.ref 84), some (.int p1), some (.int p2)] [.int 0] (HP I A L F E) = _
    refine (sg_go ht_X8_at (k := 2) (pc' := 22) (L' := [some (.ref 84), some (.int p1), some (.int p2)]) (st' := [.long (-9223372036854775808)]) (h' := (HP I A L F E)) rfl).trans ?_
    exact sg_ret ht_X8_at rfl rfl
set_option maxRecDepth 20000 in
theorem sg_X8_off_0 {I : Nat → Int32} {A : Nat → List Int32} {L : Nat → List Int64} {F : Nat → Int64} {E : MH} (p1 : Int32) (p2 : Int32) : mm_call G0 128 [.ref 84, .int p1, .int p2] (HP I A L F E) = (if ¬ p1 < 0 ∧ ¬ 3 < p1 then ((ldI (A 85) ((45 * p1) + 4)).bind fun x1 => (if ¬ p2 < 0 ∧ ¬ (x1 - 1) < p2 then ((ldI (A 85) ((45 * p1) + 0)).bind fun x2 => ((ldI (A 85) (((45 * p1) + 5) + p2)).bind fun x3 => ((ldI (A 85) ((45 * p1) + 1)).bind fun x4 => some (some (.long ((ofv x2 (x3 - x4))).toInt64), (HP I A L F E))))) else some (some (.long (-9223372036854775808)), (HP I A L F E)))) else some (some (.long (-9223372036854775808)), (HP I A L F E))) := by
  show mm_run G0 128 0 [some (.ref 84), some (.int p1), some (.int p2)] [] (HP I A L F E) = _
  refine (sg_go ht_X8_off (k := 3) (pc' := 3) (L' := [some (.ref 84), some (.int p1), some (.int p2)]) (st' := [.int p2, .int p1, .ref 84]) (h' := (HP I A L F E)) rfl).trans ?_
  refine (sg_call ht_X8_off (mj := 116) (as := [.ref 84, .int p1, .int p2]) (rest := []) rfl rfl ⟨by decide, Nat.le_of_ble_eq_true rfl⟩).trans ?_
  refine (bind_eq (sg_X8_isPlace_0 p1 p2)).trans ?_
  refine ite_bd.trans ?_
  refine ite_congr rfl (fun _ => ?_) (fun _ => ?_)
  · refine bind_as.trans ?_
    refine bind_cg fun x1 hx1 => ?_
    refine ite_bd.trans ?_
    refine ite_congr rfl (fun _ => ?_) (fun _ => ?_)
    · show mm_run G0 128 6 [some (.ref 84), some (.int p1), some (.int p2)] [.int 1] (HP I A L F E) = _
      refine (sg_go ht_X8_off (k := 4) (pc' := 12) (L' := [some (.ref 84), some (.int p1), some (.int p2)]) (st' := [.int p2, .int p1, .ref 84]) (h' := (HP I A L F E)) rfl).trans ?_
      refine (sg_call ht_X8_off (mj := 126) (as := [.ref 84, .int p1, .int p2]) (rest := []) rfl rfl ⟨by decide, Nat.le_of_ble_eq_true rfl⟩).trans ?_
      refine (bind_eq (sp_X8_offAt p1 p2)).trans ?_
      refine bind_as.trans ?_
      refine bind_cg fun x2 hx2 => ?_
      refine bind_as.trans ?_
      refine bind_cg fun x3 hx3 => ?_
      refine bind_as.trans ?_
      refine bind_cg fun x4 hx4 => ?_
      show mm_run G0 128 15 [some (.ref 84), some (.int p1), some (.int p2)] [.int (ofv x2 (x3 - x4))] (HP I A L F E) = _
      refine (sg_go ht_X8_off (k := 2) (pc' := 22) (L' := [some (.ref 84), some (.int p1), some (.int p2)]) (st' := [.long ((ofv x2 (x3 - x4))).toInt64]) (h' := (HP I A L F E)) rfl).trans ?_
      exact sg_ret ht_X8_off rfl rfl
    · show mm_run G0 128 6 [some (.ref 84), some (.int p1), some (.int p2)] [.int 0] (HP I A L F E) = _
      refine (sg_go ht_X8_off (k := 2) (pc' := 22) (L' := [some (.ref 84), some (.int p1), some (.int p2)]) (st' := [.long (-9223372036854775808)]) (h' := (HP I A L F E)) rfl).trans ?_
      exact sg_ret ht_X8_off rfl rfl
  · show mm_run G0 128 6 [some (.ref 84), some (.int p1), some (.int p2)] [.int 0] (HP I A L F E) = _
    refine (sg_go ht_X8_off (k := 2) (pc' := 22) (L' := [some (.ref 84), some (.int p1), some (.int p2)]) (st' := [.long (-9223372036854775808)]) (h' := (HP I A L F E)) rfl).trans ?_
    exact sg_ret ht_X8_off rfl rfl
set_option maxRecDepth 20000 in
theorem sg_X8_feed_0 {I : Nat → Int32} {A : Nat → List Int32} {L : Nat → List Int64} {F : Nat → Int64} {E : MH} (p1 : Int32) : mm_call G0 129 [.ref 84, .int p1] (HP I A L F E) = (if ¬ p1 < 0 ∧ ¬ 127 < p1 then (if (I 8405) ≠ 100 then ((stI (A 88) (I 8405) p1).bind fun X1 => some (some (.int ((I 8405) + 1)), (HP (fu I 8405 ((I 8405) + 1)) (fu A 88 X1) L F E))) else some (some (.int (-4)), (HP I A L F E))) else some (some (.int (-2)), (HP I A L F E))) := by
  show mm_run G0 129 0 [some (.ref 84), some (.int p1)] [] (HP I A L F E) = _
  refine (sg_go ht_X8_feed (k := 3) (pc' := 4) (L' := [some (.ref 84), some (.int p1)]) (st' := [.int 127, .int 0, .int p1]) (h' := (HP I A L F E)) rfl).trans ?_
  refine (sg_call ht_X8_feed (mj := 113) (as := [.int p1, .int 0, .int 127]) (rest := []) rfl rfl ⟨by decide, Nat.le_of_ble_eq_true rfl⟩).trans ?_
  refine (bind_eq (sp_X8_isIn p1 0 127)).trans ?_
  show mm_run G0 129 7 [some (.ref 84), some (.int p1)] [.int (bi (decide (¬ p1 < 0 ∧ ¬ 127 < p1)))] (HP I A L F E) = _
  refine (sg_bn ht_X8_feed rfl).trans ?_
  refine ite_congr rfl (fun _ => ?_) (fun _ => ?_)
  · refine (sg_go ht_X8_feed (k := 3) (pc' := 19) (L' := [some (.ref 84), some (.int p1)]) (st' := [.int 100, .int (I 8405)]) (h' := (HP I A L F E)) rfl).trans ?_
    refine (sg_cmp ht_X8_feed rfl).trans ?_
    refine ite_congr rfl (fun _ => ?_) (fun _ => ?_)
    · refine (sg_go ht_X8_feed (k := 5) (pc' := 34) (L' := [some (.ref 84), some (.int p1)]) (st' := [.int p1, .int (I 8405), .ref 88]) (h' := (HP I A L F E)) rfl).trans ?_
      refine (sg_stI (hh := fun X1 => (HP I (fu A 88 X1) L F E)) ht_X8_feed rfl hp_o_88 (fun _ => hp_s_88)).trans ?_
      refine bind_cg fun X1 hX1 => ?_
      refine (sg_go ht_X8_feed (k := 5) (pc' := 42) (L' := [some (.ref 84), some (.int p1)]) (st' := [.int ((I 8405) + 1), .ref 84]) (h' := (HP I (fu A 88 X1) L F E)) rfl).trans ?_
      refine (sg_putI (h' := (HP (fu I 8405 ((I 8405) + 1)) (fu A 88 X1) L F E)) ht_X8_feed rfl hp_o_84 (Nat.le_of_ble_eq_true rfl) hp_p_8405).trans ?_
      refine (sg_go ht_X8_feed (k := 2) (pc' := 49) (L' := [some (.ref 84), some (.int p1)]) (st' := [.int ((I 8405) + 1)]) (h' := (HP (fu I 8405 ((I 8405) + 1)) (fu A 88 X1) L F E)) rfl).trans ?_
      exact sg_ret ht_X8_feed rfl rfl
    · refine (sg_go ht_X8_feed (k := 1) (pc' := 24) (L' := [some (.ref 84), some (.int p1)]) (st' := [.int (-4)]) (h' := (HP I A L F E)) rfl).trans ?_
      exact sg_ret ht_X8_feed rfl rfl
  · refine (sg_go ht_X8_feed (k := 1) (pc' := 12) (L' := [some (.ref 84), some (.int p1)]) (st' := [.int (-2)]) (h' := (HP I A L F E)) rfl).trans ?_
    exact sg_ret ht_X8_feed rfl rfl
set_option maxRecDepth 20000 in
theorem sg_X8_isSign_0 {I : Nat → Int32} {A : Nat → List Int32} {L : Nat → List Int64} {F : Nat → Int64} {E : MH} (p1 : Int32) (p2 : Int32) : mm_call G0 130 [.ref 84, .int p1, .int p2] (HP I A L F E) = (if (I 8405) ≤ (I 8406) then some (some (.int 0), (HP I A L F E)) else ((ldI (A 88) (I 8406)).bind fun x1 => (if ¬ x1 < p1 ∧ ¬ p2 < x1 then some (some (.int 1), (HP I A L F E)) else some (some (.int 0), (HP I A L F E))))) := by
  show mm_run G0 130 0 [some (.ref 84), some (.int p1), some (.int p2)] [] (HP I A L F E) = _
  refine (sg_go ht_X8_isSign (k := 4) (pc' := 8) (L' := [some (.ref 84), some (.int p1), some (.int p2)]) (st' := [.int (I 8405), .int (I 8406)]) (h' := (HP I A L F E)) rfl).trans ?_
  refine (sg_cmp ht_X8_isSign rfl).trans ?_
  refine ite_congr rfl (fun _ => ?_) (fun _ => ?_)
  · refine (sg_go ht_X8_isSign (k := 1) (pc' := 33) (L' := [some (.ref 84), some (.int p1), some (.int p2)]) (st' := [.int 0]) (h' := (HP I A L F E)) rfl).trans ?_
    exact sg_ret ht_X8_isSign rfl rfl
  · refine (sg_go ht_X8_isSign (k := 4) (pc' := 19) (L' := [some (.ref 84), some (.int p1), some (.int p2)]) (st' := [.int (I 8406), .ref 88]) (h' := (HP I A L F E)) rfl).trans ?_
    refine (sg_ldI ht_X8_isSign rfl hp_o_88).trans ?_
    refine bind_cg fun x1 hx1 => ?_
    refine (sg_go ht_X8_isSign (k := 2) (pc' := 22) (L' := [some (.ref 84), some (.int p1), some (.int p2)]) (st' := [.int p2, .int p1, .int x1]) (h' := (HP I A L F E)) rfl).trans ?_
    refine (sg_call ht_X8_isSign (mj := 113) (as := [.int x1, .int p1, .int p2]) (rest := []) rfl rfl ⟨by decide, Nat.le_of_ble_eq_true rfl⟩).trans ?_
    refine (bind_eq (sp_X8_isIn x1 p1 p2)).trans ?_
    show mm_run G0 130 25 [some (.ref 84), some (.int p1), some (.int p2)] [.int (bi (decide (¬ x1 < p1 ∧ ¬ p2 < x1)))] (HP I A L F E) = _
    refine (sg_be ht_X8_isSign rfl).trans ?_
    refine ite_congr rfl (fun _ => ?_) (fun _ => ?_)
    · refine (sg_go ht_X8_isSign (k := 2) (pc' := 33) (L' := [some (.ref 84), some (.int p1), some (.int p2)]) (st' := [.int 1]) (h' := (HP I A L F E)) rfl).trans ?_
      exact sg_ret ht_X8_isSign rfl rfl
    · refine (sg_go ht_X8_isSign (k := 1) (pc' := 33) (L' := [some (.ref 84), some (.int p1), some (.int p2)]) (st' := [.int 0]) (h' := (HP I A L F E)) rfl).trans ?_
      exact sg_ret ht_X8_isSign rfl rfl
set_option maxRecDepth 20000 in
theorem sg_X8_digit_0 {I : Nat → Int32} {A : Nat → List Int32} {L : Nat → List Int64} {F : Nat → Int64} {E : MH}  : mm_call G0 131 [.ref 84] (HP I A L F E) = (if (I 8405) ≤ (I 8406) then some (some (.int (-1)), (HP I A L F E)) else ((ldI (A 88) (I 8406)).bind fun x1 => (if ¬ x1 < 48 ∧ ¬ 57 < x1 then ((ldI (A 88) (((I 8406) + 1) - 1)).bind fun x2 => some (some (.int (x2 - 48)), (HP (fu I 8406 ((I 8406) + 1)) A L F E))) else some (some (.int (-1)), (HP I A L F E))))) := by
  show mm_run G0 131 0 [some (.ref 84)] [] (HP I A L F E) = _
  refine (sg_go ht_X8_digit (k := 3) (pc' := 5) (L' := [some (.ref 84)]) (st' := [.int 57, .int 48, .ref 84]) (h' := (HP I A L F E)) rfl).trans ?_
  refine (sg_call ht_X8_digit (mj := 130) (as := [.ref 84, .int 48, .int 57]) (rest := []) rfl rfl ⟨by decide, Nat.le_of_ble_eq_true rfl⟩).trans ?_
  refine (bind_eq (sg_X8_isSign_0 48 57)).trans ?_
  refine ite_bd.trans ?_
  refine ite_congr rfl (fun _ => ?_) (fun _ => ?_)
  · show mm_run G0 131 8 [some (.ref 84)] [.int 0] (HP I A L F E) = _
    refine (sg_go ht_X8_digit (k := 2) (pc' := 12) (L' := [some (.ref 84)]) (st' := [.int (-1)]) (h' := (HP I A L F E)) rfl).trans ?_
    exact sg_ret ht_X8_digit rfl rfl
  · refine bind_as.trans ?_
    refine bind_cg fun x1 hx1 => ?_
    refine ite_bd.trans ?_
    refine ite_congr rfl (fun _ => ?_) (fun _ => ?_)
    · show mm_run G0 131 8 [some (.ref 84)] [.int 1] (HP I A L F E) = _
      refine (sg_go ht_X8_digit (k := 6) (pc' := 20) (L' := [some (.ref 84)]) (st' := [.int ((I 8406) + 1), .ref 84]) (h' := (HP I A L F E)) rfl).trans ?_
      refine (sg_putI (h' := (HP (fu I 8406 ((I 8406) + 1)) A L F E)) ht_X8_digit rfl hp_o_84 (Nat.le_of_ble_eq_true rfl) hp_p_8406).trans ?_
      refine (sg_go ht_X8_digit (k := 6) (pc' := 33) (L' := [some (.ref 84)]) (st' := [.int (((I 8406) + 1) - 1), .ref 88]) (h' := (HP (fu I 8406 ((I 8406) + 1)) A L F E)) rfl).trans ?_
      refine (sg_ldI ht_X8_digit rfl hp_o_88).trans ?_
      refine bind_cg fun x2 hx2 => ?_
      refine (sg_go ht_X8_digit (k := 2) (pc' := 37) (L' := [some (.ref 84)]) (st' := [.int (x2 - 48)]) (h' := (HP (fu I 8406 ((I 8406) + 1)) A L F E)) rfl).trans ?_
      exact sg_ret ht_X8_digit rfl rfl
    · show mm_run G0 131 8 [some (.ref 84)] [.int 0] (HP I A L F E) = _
      refine (sg_go ht_X8_digit (k := 2) (pc' := 12) (L' := [some (.ref 84)]) (st' := [.int (-1)]) (h' := (HP I A L F E)) rfl).trans ?_
      exact sg_ret ht_X8_digit rfl rfl
set_option maxRecDepth 20000 in
theorem sg_X8_number_0 {I : Nat → Int32} {A : Nat → List Int32} {L : Nat → List Int64} {F : Nat → Int64} {E : MH}  : mm_call G0 132 [.ref 84] (HP I A L F E) = (if (I 8405) ≤ (I 8406) then ((mm_call G0 131 [.ref 84] (HP I A L F E)).bind fun q => mm_run G0 132 27 [some (.ref 84), some (.int 0), none] (q.1.toList ++ []) q.2) else ((ldI (A 88) (I 8406)).bind fun x1 => (if ¬ x1 < 45 ∧ ¬ 45 < x1 then ((mm_call G0 131 [.ref 84] (HP (fu I 8406 ((I 8406) + 1)) A L F E)).bind fun q => mm_run G0 132 27 [some (.ref 84), some (.int 1), none] (q.1.toList ++ []) q.2) else ((mm_call G0 131 [.ref 84] (HP I A L F E)).bind fun q => mm_run G0 132 27 [some (.ref 84), some (.int 0), none] (q.1.toList ++ []) q.2)))) := by
  show mm_run G0 132 0 [some (.ref 84), none, none] [] (HP I A L F E) = _
  refine (sg_go ht_X8_number (k := 3) (pc' := 5) (L' := [some (.ref 84), none, none]) (st' := [.int 45, .int 45, .ref 84]) (h' := (HP I A L F E)) rfl).trans ?_
  refine (sg_call ht_X8_number (mj := 130) (as := [.ref 84, .int 45, .int 45]) (rest := []) rfl rfl ⟨by decide, Nat.le_of_ble_eq_true rfl⟩).trans ?_
  refine (bind_eq (sg_X8_isSign_0 45 45)).trans ?_
  refine ite_bd.trans ?_
  refine ite_congr rfl (fun _ => ?_) (fun _ => ?_)
  · show mm_run G0 132 8 [some (.ref 84), none, none] [.int 0] (HP I A L F E) = _
    refine (sg_go ht_X8_number (k := 4) (pc' := 24) (L' := [some (.ref 84), some (.int 0), none]) (st' := [.ref 84]) (h' := (HP I A L F E)) rfl).trans ?_
    refine (sg_call ht_X8_number (mj := 131) (as := [.ref 84]) (rest := []) rfl rfl ⟨by decide, Nat.le_of_ble_eq_true rfl⟩).trans ?_
    rfl
  · refine bind_as.trans ?_
    refine bind_cg fun x1 hx1 => ?_
    refine ite_bd.trans ?_
    refine ite_congr rfl (fun _ => ?_) (fun _ => ?_)
    · show mm_run G0 132 8 [some (.ref 84), none, none] [.int 1] (HP I A L F E) = _
      refine (sg_go ht_X8_number (k := 8) (pc' := 20) (L' := [some (.ref 84), some (.int 1), none]) (st' := [.int ((I 8406) + 1), .ref 84]) (h' := (HP I A L F E)) rfl).trans ?_
      refine (sg_putI (h' := (HP (fu I 8406 ((I 8406) + 1)) A L F E)) ht_X8_number rfl hp_o_84 (Nat.le_of_ble_eq_true rfl) hp_p_8406).trans ?_
      refine (sg_go ht_X8_number (k := 1) (pc' := 24) (L' := [some (.ref 84), some (.int 1), none]) (st' := [.ref 84]) (h' := (HP (fu I 8406 ((I 8406) + 1)) A L F E)) rfl).trans ?_
      refine (sg_call ht_X8_number (mj := 131) (as := [.ref 84]) (rest := []) rfl rfl ⟨by decide, Nat.le_of_ble_eq_true rfl⟩).trans ?_
      rfl
    · show mm_run G0 132 8 [some (.ref 84), none, none] [.int 0] (HP I A L F E) = _
      refine (sg_go ht_X8_number (k := 4) (pc' := 24) (L' := [some (.ref 84), some (.int 0), none]) (st' := [.ref 84]) (h' := (HP I A L F E)) rfl).trans ?_
      refine (sg_call ht_X8_number (mj := 131) (as := [.ref 84]) (rest := []) rfl rfl ⟨by decide, Nat.le_of_ble_eq_true rfl⟩).trans ?_
      rfl
set_option maxRecDepth 20000 in
theorem sg_X8_number_27 {I : Nat → Int32} {A : Nat → List Int32} {L : Nat → List Int64} {F : Nat → Int64} {E : MH} (v1 : Int32) (s0 : Int32) : mm_run G0 132 27 [some (.ref 84), some (.int v1), none] [.int s0] (HP I A L F E) = (if 0 ≤ s0 then (if (I 8405) ≤ (I 8406) then (if v1 = 0 then some (some (.int 1), (HP (fu I 8407 s0) A L F E)) else some (some (.int 1), (HP (fu I 8407 (-s0)) A L F E))) else ((ldI (A 88) (I 8406)).bind fun x1 => (if ¬ x1 < 48 ∧ ¬ 57 < x1 then ((mm_call G0 131 [.ref 84] (HP I A L F E)).bind fun q => mm_run G0 132 53 [some (.ref 84), some (.int v1), some (.int s0)] (q.1.toList ++ [.int (10 * s0)]) q.2) else (if v1 = 0 then some (some (.int 1), (HP (fu I 8407 s0) A L F E)) else some (some (.int 1), (HP (fu I 8407 (-s0)) A L F E)))))) else some (some (.int 0), (HP I A L F E))) := by
  refine (sg_go ht_X8_number (k := 2) (pc' := 29) (L' := [some (.ref 84), some (.int v1), some (.int s0)]) (st' := [.int s0]) (h' := (HP I A L F E)) rfl).trans ?_
  refine (sg_if ht_X8_number rfl).trans ?_
  refine ite_congr rfl (fun _ => ?_) (fun _ => ?_)
  · refine (sg_go ht_X8_number (k := 3) (pc' := 39) (L' := [some (.ref 84), some (.int v1), some (.int s0)]) (st' := [.int 57, .int 48, .ref 84]) (h' := (HP I A L F E)) rfl).trans ?_
    refine (sg_call ht_X8_number (mj := 130) (as := [.ref 84, .int 48, .int 57]) (rest := []) rfl rfl ⟨by decide, Nat.le_of_ble_eq_true rfl⟩).trans ?_
    refine (bind_eq (sg_X8_isSign_0 48 57)).trans ?_
    refine ite_bd.trans ?_
    refine ite_congr rfl (fun _ => ?_) (fun _ => ?_)
    · show mm_run G0 132 42 [some (.ref 84), some (.int v1), some (.int s0)] [.int 0] (HP I A L F E) = _
      refine (sg_go ht_X8_number (k := 3) (pc' := 57) (L' := [some (.ref 84), some (.int v1), some (.int s0)]) (st' := [.int v1, .ref 84]) (h' := (HP I A L F E)) rfl).trans ?_
      refine (sg_if ht_X8_number rfl).trans ?_
      refine ite_congr rfl (fun _ => ?_) (fun _ => ?_)
      · refine (sg_go ht_X8_number (k := 1) (pc' := 66) (L' := [some (.ref 84), some (.int v1), some (.int s0)]) (st' := [.int s0, .ref 84]) (h' := (HP I A L F E)) rfl).trans ?_
        refine (sg_putI (h' := (HP (fu I 8407 s0) A L F E)) ht_X8_number rfl hp_o_84 (Nat.le_of_ble_eq_true rfl) hp_p_8407).trans ?_
        refine (sg_go ht_X8_number (k := 1) (pc' := 70) (L' := [some (.ref 84), some (.int v1), some (.int s0)]) (st' := [.int 1]) (h' := (HP (fu I 8407 s0) A L F E)) rfl).trans ?_
        exact sg_ret ht_X8_number rfl rfl
      · refine (sg_go ht_X8_number (k := 3) (pc' := 66) (L' := [some (.ref 84), some (.int v1), some (.int s0)]) (st' := [.int (-s0), .ref 84]) (h' := (HP I A L F E)) rfl).trans ?_
        refine (sg_putI (h' := (HP (fu I 8407 (-s0)) A L F E)) ht_X8_number rfl hp_o_84 (Nat.le_of_ble_eq_true rfl) hp_p_8407).trans ?_
        refine (sg_go ht_X8_number (k := 1) (pc' := 70) (L' := [some (.ref 84), some (.int v1), some (.int s0)]) (st' := [.int 1]) (h' := (HP (fu I 8407 (-s0)) A L F E)) rfl).trans ?_
        exact sg_ret ht_X8_number rfl rfl
    · refine bind_as.trans ?_
      refine bind_cg fun x1 hx1 => ?_
      refine ite_bd.trans ?_
      refine ite_congr rfl (fun _ => ?_) (fun _ => ?_)
      · show mm_run G0 132 42 [some (.ref 84), some (.int v1), some (.int s0)] [.int 1] (HP I A L F E) = _
        refine (sg_go ht_X8_number (k := 5) (pc' := 50) (L' := [some (.ref 84), some (.int v1), some (.int s0)]) (st' := [.ref 84, .int (10 * s0)]) (h' := (HP I A L F E)) rfl).trans ?_
        refine (sg_call ht_X8_number (mj := 131) (as := [.ref 84]) (rest := [.int (10 * s0)]) rfl rfl ⟨by decide, Nat.le_of_ble_eq_true rfl⟩).trans ?_
        rfl
      · show mm_run G0 132 42 [some (.ref 84), some (.int v1), some (.int s0)] [.int 0] (HP I A L F E) = _
        refine (sg_go ht_X8_number (k := 3) (pc' := 57) (L' := [some (.ref 84), some (.int v1), some (.int s0)]) (st' := [.int v1, .ref 84]) (h' := (HP I A L F E)) rfl).trans ?_
        refine (sg_if ht_X8_number rfl).trans ?_
        refine ite_congr rfl (fun _ => ?_) (fun _ => ?_)
        · refine (sg_go ht_X8_number (k := 1) (pc' := 66) (L' := [some (.ref 84), some (.int v1), some (.int s0)]) (st' := [.int s0, .ref 84]) (h' := (HP I A L F E)) rfl).trans ?_
          refine (sg_putI (h' := (HP (fu I 8407 s0) A L F E)) ht_X8_number rfl hp_o_84 (Nat.le_of_ble_eq_true rfl) hp_p_8407).trans ?_
          refine (sg_go ht_X8_number (k := 1) (pc' := 70) (L' := [some (.ref 84), some (.int v1), some (.int s0)]) (st' := [.int 1]) (h' := (HP (fu I 8407 s0) A L F E)) rfl).trans ?_
          exact sg_ret ht_X8_number rfl rfl
        · refine (sg_go ht_X8_number (k := 3) (pc' := 66) (L' := [some (.ref 84), some (.int v1), some (.int s0)]) (st' := [.int (-s0), .ref 84]) (h' := (HP I A L F E)) rfl).trans ?_
          refine (sg_putI (h' := (HP (fu I 8407 (-s0)) A L F E)) ht_X8_number rfl hp_o_84 (Nat.le_of_ble_eq_true rfl) hp_p_8407).trans ?_
          refine (sg_go ht_X8_number (k := 1) (pc' := 70) (L' := [some (.ref 84), some (.int v1), some (.int s0)]) (st' := [.int 1]) (h' := (HP (fu I 8407 (-s0)) A L F E)) rfl).trans ?_
          exact sg_ret ht_X8_number rfl rfl
  · refine (sg_go ht_X8_number (k := 1) (pc' := 33) (L' := [some (.ref 84), some (.int v1), some (.int s0)]) (st' := [.int 0]) (h' := (HP I A L F E)) rfl).trans ?_
    exact sg_ret ht_X8_number rfl rfl
set_option maxRecDepth 20000 in
theorem sg_X8_number_53 {I : Nat → Int32} {A : Nat → List Int32} {L : Nat → List Int64} {F : Nat → Int64} {E : MH} (v1 : Int32) (v2 : Int32) (s0 : Int32) (s1 : Int32) : mm_run G0 132 53 [some (.ref 84), some (.int v1), some (.int v2)] [.int s1, .int s0] (HP I A L F E) = (if v1 = 0 then some (some (.int 1), (HP (fu I 8407 (s0 + s1)) A L F E)) else some (some (.int 1), (HP (fu I 8407 (-(s0 + s1))) A L F E))) := by
  refine (sg_go ht_X8_number (k := 4) (pc' := 57) (L' := [some (.ref 84), some (.int v1), some (.int (s0 + s1))]) (st' := [.int v1, .ref 84]) (h' := (HP I A L F E)) rfl).trans ?_
  refine (sg_if ht_X8_number rfl).trans ?_
  refine ite_congr rfl (fun _ => ?_) (fun _ => ?_)
  · refine (sg_go ht_X8_number (k := 1) (pc' := 66) (L' := [some (.ref 84), some (.int v1), some (.int (s0 + s1))]) (st' := [.int (s0 + s1), .ref 84]) (h' := (HP I A L F E)) rfl).trans ?_
    refine (sg_putI (h' := (HP (fu I 8407 (s0 + s1)) A L F E)) ht_X8_number rfl hp_o_84 (Nat.le_of_ble_eq_true rfl) hp_p_8407).trans ?_
    refine (sg_go ht_X8_number (k := 1) (pc' := 70) (L' := [some (.ref 84), some (.int v1), some (.int (s0 + s1))]) (st' := [.int 1]) (h' := (HP (fu I 8407 (s0 + s1)) A L F E)) rfl).trans ?_
    exact sg_ret ht_X8_number rfl rfl
  · refine (sg_go ht_X8_number (k := 3) (pc' := 66) (L' := [some (.ref 84), some (.int v1), some (.int (s0 + s1))]) (st' := [.int (-(s0 + s1)), .ref 84]) (h' := (HP I A L F E)) rfl).trans ?_
    refine (sg_putI (h' := (HP (fu I 8407 (-(s0 + s1))) A L F E)) ht_X8_number rfl hp_o_84 (Nat.le_of_ble_eq_true rfl) hp_p_8407).trans ?_
    refine (sg_go ht_X8_number (k := 1) (pc' := 70) (L' := [some (.ref 84), some (.int v1), some (.int (s0 + s1))]) (st' := [.int 1]) (h' := (HP (fu I 8407 (-(s0 + s1))) A L F E)) rfl).trans ?_
    exact sg_ret ht_X8_number rfl rfl
set_option maxRecDepth 20000 in
theorem sg_X8_readsClause_0 {I : Nat → Int32} {A : Nat → List Int32} {L : Nat → List Int64} {F : Nat → Int64} {E : MH}  : mm_call G0 133 [.ref 84] (HP I A L F E) = (if (I 8405) ≤ (I 8406) then some (some (.int 0), (HP I A L F E)) else ((ldI (A 88) (I 8406)).bind fun x1 => (if x1 = 118 then ((mm_call G0 131 [.ref 84] (HP (fu I 8406 ((I 8406) + 1)) A L F E)).bind fun q => mm_run G0 133 87 [some (.ref 84), some (.int x1), some (.int 1), none] (q.1.toList ++ []) q.2) else (if x1 = 116 then ((mm_call G0 131 [.ref 84] (HP (fu I 8406 ((I 8406) + 1)) A L F E)).bind fun q => mm_run G0 133 87 [some (.ref 84), some (.int x1), some (.int 1), none] (q.1.toList ++ []) q.2) else (if x1 ≠ 108 then (if x1 = 107 then ((mm_call G0 131 [.ref 84] (HP (fu I 8406 ((I 8406) + 1)) A L F E)).bind fun q => mm_run G0 133 87 [some (.ref 84), some (.int x1), some (.int 0), none] (q.1.toList ++ []) q.2) else (if x1 = 115 then ((mm_call G0 131 [.ref 84] (HP (fu I 8406 ((I 8406) + 1)) A L F E)).bind fun q => mm_run G0 133 87 [some (.ref 84), some (.int x1), some (.int 0), none] (q.1.toList ++ []) q.2) else (if x1 = 100 then ((mm_call G0 131 [.ref 84] (HP (fu I 8406 ((I 8406) + 1)) A L F E)).bind fun q => mm_run G0 133 87 [some (.ref 84), some (.int x1), some (.int 0), none] (q.1.toList ++ []) q.2) else some (some (.int 0), (HP I A L F E))))) else ((mm_call G0 131 [.ref 84] (HP (fu I 8406 ((I 8406) + 1)) A L F E)).bind fun q => mm_run G0 133 87 [some (.ref 84), some (.int x1), some (.int 1), none] (q.1.toList ++ []) q.2)))))) := by
  show mm_run G0 133 0 [some (.ref 84), none, none, none] [] (HP I A L F E) = _
  refine (sg_go ht_X8_readsClause (k := 4) (pc' := 8) (L' := [some (.ref 84), none, none, none]) (st' := [.int (I 8405), .int (I 8406)]) (h' := (HP I A L F E)) rfl).trans ?_
  refine (sg_cmp ht_X8_readsClause rfl).trans ?_
  refine ite_congr rfl (fun _ => ?_) (fun _ => ?_)
  · refine (sg_go ht_X8_readsClause (k := 10) (pc' := 40) (L' := [some (.ref 84), some (.int 0), none, none]) (st' := [.int 108, .int 0]) (h' := (HP I A L F E)) rfl).trans ?_
    refine (sg_go ht_X8_readsClause (k := 10) (pc' := 62) (L' := [some (.ref 84), some (.int 0), some (.int 0), none]) (st' := [.int 115, .int 0]) (h' := (HP I A L F E)) rfl).trans ?_
    refine (sg_go ht_X8_readsClause (k := 5) (pc' := 72) (L' := [some (.ref 84), some (.int 0), some (.int 0), none]) (st' := [.int 0]) (h' := (HP I A L F E)) rfl).trans ?_
    exact sg_ret ht_X8_readsClause rfl rfl
  · refine (sg_go ht_X8_readsClause (k := 4) (pc' := 19) (L' := [some (.ref 84), none, none, none]) (st' := [.int (I 8406), .ref 88]) (h' := (HP I A L F E)) rfl).trans ?_
    refine (sg_ldI ht_X8_readsClause rfl hp_o_88).trans ?_
    refine bind_cg fun x1 hx1 => ?_
    refine (sg_go ht_X8_readsClause (k := 4) (pc' := 28) (L' := [some (.ref 84), some (.int x1), none, none]) (st' := [.int 118, .int x1]) (h' := (HP I A L F E)) rfl).trans ?_
    refine (sg_cmp ht_X8_readsClause rfl).trans ?_
    refine ite_congr rfl (fun _ => ?_) (fun _ => ?_)
    · refine (sg_go ht_X8_readsClause (k := 10) (pc' := 80) (L' := [some (.ref 84), some (.int x1), some (.int 1), none]) (st' := [.int ((I 8406) + 1), .ref 84]) (h' := (HP I A L F E)) rfl).trans ?_
      refine (sg_putI (h' := (HP (fu I 8406 ((I 8406) + 1)) A L F E)) ht_X8_readsClause rfl hp_o_84 (Nat.le_of_ble_eq_true rfl) hp_p_8406).trans ?_
      refine (sg_go ht_X8_readsClause (k := 1) (pc' := 84) (L' := [some (.ref 84), some (.int x1), some (.int 1), none]) (st' := [.ref 84]) (h' := (HP (fu I 8406 ((I 8406) + 1)) A L F E)) rfl).trans ?_
      refine (sg_call ht_X8_readsClause (mj := 131) (as := [.ref 84]) (rest := []) rfl rfl ⟨by decide, Nat.le_of_ble_eq_true rfl⟩).trans ?_
      rfl
    · refine (sg_go ht_X8_readsClause (k := 2) (pc' := 34) (L' := [some (.ref 84), some (.int x1), none, none]) (st' := [.int 116, .int x1]) (h' := (HP I A L F E)) rfl).trans ?_
      refine (sg_cmp ht_X8_readsClause rfl).trans ?_
      refine ite_congr rfl (fun _ => ?_) (fun _ => ?_)
      · refine (sg_go ht_X8_readsClause (k := 10) (pc' := 80) (L' := [some (.ref 84), some (.int x1), some (.int 1), none]) (st' := [.int ((I 8406) + 1), .ref 84]) (h' := (HP I A L F E)) rfl).trans ?_
        refine (sg_putI (h' := (HP (fu I 8406 ((I 8406) + 1)) A L F E)) ht_X8_readsClause rfl hp_o_84 (Nat.le_of_ble_eq_true rfl) hp_p_8406).trans ?_
        refine (sg_go ht_X8_readsClause (k := 1) (pc' := 84) (L' := [some (.ref 84), some (.int x1), some (.int 1), none]) (st' := [.ref 84]) (h' := (HP (fu I 8406 ((I 8406) + 1)) A L F E)) rfl).trans ?_
        refine (sg_call ht_X8_readsClause (mj := 131) (as := [.ref 84]) (rest := []) rfl rfl ⟨by decide, Nat.le_of_ble_eq_true rfl⟩).trans ?_
        rfl
      · refine (sg_go ht_X8_readsClause (k := 2) (pc' := 40) (L' := [some (.ref 84), some (.int x1), none, none]) (st' := [.int 108, .int x1]) (h' := (HP I A L F E)) rfl).trans ?_
        refine (sg_cmp ht_X8_readsClause rfl).trans ?_
        refine ite_congr rfl (fun _ => ?_) (fun _ => ?_)
        · refine (sg_go ht_X8_readsClause (k := 6) (pc' := 56) (L' := [some (.ref 84), some (.int x1), some (.int 0), none]) (st' := [.int 107, .int x1]) (h' := (HP I A L F E)) rfl).trans ?_
          refine (sg_cmp ht_X8_readsClause rfl).trans ?_
          refine ite_congr rfl (fun _ => ?_) (fun _ => ?_)
          · refine (sg_go ht_X8_readsClause (k := 5) (pc' := 80) (L' := [some (.ref 84), some (.int x1), some (.int 0), none]) (st' := [.int ((I 8406) + 1), .ref 84]) (h' := (HP I A L F E)) rfl).trans ?_
            refine (sg_putI (h' := (HP (fu I 8406 ((I 8406) + 1)) A L F E)) ht_X8_readsClause rfl hp_o_84 (Nat.le_of_ble_eq_true rfl) hp_p_8406).trans ?_
            refine (sg_go ht_X8_readsClause (k := 1) (pc' := 84) (L' := [some (.ref 84), some (.int x1), some (.int 0), none]) (st' := [.ref 84]) (h' := (HP (fu I 8406 ((I 8406) + 1)) A L F E)) rfl).trans ?_
            refine (sg_call ht_X8_readsClause (mj := 131) (as := [.ref 84]) (rest := []) rfl rfl ⟨by decide, Nat.le_of_ble_eq_true rfl⟩).trans ?_
            rfl
          · refine (sg_go ht_X8_readsClause (k := 2) (pc' := 62) (L' := [some (.ref 84), some (.int x1), some (.int 0), none]) (st' := [.int 115, .int x1]) (h' := (HP I A L F E)) rfl).trans ?_
            refine (sg_cmp ht_X8_readsClause rfl).trans ?_
            refine ite_congr rfl (fun _ => ?_) (fun _ => ?_)
            · refine (sg_go ht_X8_readsClause (k := 5) (pc' := 80) (L' := [some (.ref 84), some (.int x1), some (.int 0), none]) (st' := [.int ((I 8406) + 1), .ref 84]) (h' := (HP I A L F E)) rfl).trans ?_
              refine (sg_putI (h' := (HP (fu I 8406 ((I 8406) + 1)) A L F E)) ht_X8_readsClause rfl hp_o_84 (Nat.le_of_ble_eq_true rfl) hp_p_8406).trans ?_
              refine (sg_go ht_X8_readsClause (k := 1) (pc' := 84) (L' := [some (.ref 84), some (.int x1), some (.int 0), none]) (st' := [.ref 84]) (h' := (HP (fu I 8406 ((I 8406) + 1)) A L F E)) rfl).trans ?_
              refine (sg_call ht_X8_readsClause (mj := 131) (as := [.ref 84]) (rest := []) rfl rfl ⟨by decide, Nat.le_of_ble_eq_true rfl⟩).trans ?_
              rfl
            · refine (sg_go ht_X8_readsClause (k := 2) (pc' := 68) (L' := [some (.ref 84), some (.int x1), some (.int 0), none]) (st' := [.int 100, .int x1]) (h' := (HP I A L F E)) rfl).trans ?_
              refine (sg_cmp ht_X8_readsClause rfl).trans ?_
              refine ite_congr rfl (fun _ => ?_) (fun _ => ?_)
              · refine (sg_go ht_X8_readsClause (k := 5) (pc' := 80) (L' := [some (.ref 84), some (.int x1), some (.int 0), none]) (st' := [.int ((I 8406) + 1), .ref 84]) (h' := (HP I A L F E)) rfl).trans ?_
                refine (sg_putI (h' := (HP (fu I 8406 ((I 8406) + 1)) A L F E)) ht_X8_readsClause rfl hp_o_84 (Nat.le_of_ble_eq_true rfl) hp_p_8406).trans ?_
                refine (sg_go ht_X8_readsClause (k := 1) (pc' := 84) (L' := [some (.ref 84), some (.int x1), some (.int 0), none]) (st' := [.ref 84]) (h' := (HP (fu I 8406 ((I 8406) + 1)) A L F E)) rfl).trans ?_
                refine (sg_call ht_X8_readsClause (mj := 131) (as := [.ref 84]) (rest := []) rfl rfl ⟨by decide, Nat.le_of_ble_eq_true rfl⟩).trans ?_
                rfl
              · refine (sg_go ht_X8_readsClause (k := 1) (pc' := 72) (L' := [some (.ref 84), some (.int x1), some (.int 0), none]) (st' := [.int 0]) (h' := (HP I A L F E)) rfl).trans ?_
                exact sg_ret ht_X8_readsClause rfl rfl
        · refine (sg_go ht_X8_readsClause (k := 10) (pc' := 80) (L' := [some (.ref 84), some (.int x1), some (.int 1), none]) (st' := [.int ((I 8406) + 1), .ref 84]) (h' := (HP I A L F E)) rfl).trans ?_
          refine (sg_putI (h' := (HP (fu I 8406 ((I 8406) + 1)) A L F E)) ht_X8_readsClause rfl hp_o_84 (Nat.le_of_ble_eq_true rfl) hp_p_8406).trans ?_
          refine (sg_go ht_X8_readsClause (k := 1) (pc' := 84) (L' := [some (.ref 84), some (.int x1), some (.int 1), none]) (st' := [.ref 84]) (h' := (HP (fu I 8406 ((I 8406) + 1)) A L F E)) rfl).trans ?_
          refine (sg_call ht_X8_readsClause (mj := 131) (as := [.ref 84]) (rest := []) rfl rfl ⟨by decide, Nat.le_of_ble_eq_true rfl⟩).trans ?_
          rfl
set_option maxRecDepth 20000 in
theorem sg_X8_readsClause_87 {I : Nat → Int32} {A : Nat → List Int32} {L : Nat → List Int64} {F : Nat → Int64} {E : MH} (v1 : Int32) (v2 : Int32) (s0 : Int32) : mm_run G0 133 87 [some (.ref 84), some (.int v1), some (.int v2), none] [.int s0] (HP I A L F E) = (if 0 ≤ s0 then (if v2 = 0 then ((mm_call G0 131 [.ref 84] (HP I A L F E)).bind fun q => mm_run G0 133 112 [some (.ref 84), some (.int v1), some (.int v2), some (.int s0)] (q.1.toList ++ [.ref 84]) q.2) else ((mm_call G0 132 [.ref 84] (HP I A L F E)).bind fun q => mm_run G0 133 102 [some (.ref 84), some (.int v1), some (.int v2), some (.int s0)] (q.1.toList ++ []) q.2)) else some (some (.int 0), (HP I A L F E))) := by
  refine (sg_go ht_X8_readsClause (k := 2) (pc' := 89) (L' := [some (.ref 84), some (.int v1), some (.int v2), some (.int s0)]) (st' := [.int s0]) (h' := (HP I A L F E)) rfl).trans ?_
  refine (sg_if ht_X8_readsClause rfl).trans ?_
  refine ite_congr rfl (fun _ => ?_) (fun _ => ?_)
  · refine (sg_go ht_X8_readsClause (k := 1) (pc' := 95) (L' := [some (.ref 84), some (.int v1), some (.int v2), some (.int s0)]) (st' := [.int v2]) (h' := (HP I A L F E)) rfl).trans ?_
    refine (sg_if ht_X8_readsClause rfl).trans ?_
    refine ite_congr rfl (fun _ => ?_) (fun _ => ?_)
    · refine (sg_go ht_X8_readsClause (k := 2) (pc' := 109) (L' := [some (.ref 84), some (.int v1), some (.int v2), some (.int s0)]) (st' := [.ref 84, .ref 84]) (h' := (HP I A L F E)) rfl).trans ?_
      refine (sg_call ht_X8_readsClause (mj := 131) (as := [.ref 84]) (rest := [.ref 84]) rfl rfl ⟨by decide, Nat.le_of_ble_eq_true rfl⟩).trans ?_
      rfl
    · refine (sg_go ht_X8_readsClause (k := 1) (pc' := 99) (L' := [some (.ref 84), some (.int v1), some (.int v2), some (.int s0)]) (st' := [.ref 84]) (h' := (HP I A L F E)) rfl).trans ?_
      refine (sg_call ht_X8_readsClause (mj := 132) (as := [.ref 84]) (rest := []) rfl rfl ⟨by decide, Nat.le_of_ble_eq_true rfl⟩).trans ?_
      rfl
  · refine (sg_go ht_X8_readsClause (k := 1) (pc' := 93) (L' := [some (.ref 84), some (.int v1), some (.int v2), some (.int s0)]) (st' := [.int 0]) (h' := (HP I A L F E)) rfl).trans ?_
    exact sg_ret ht_X8_readsClause rfl rfl
set_option maxRecDepth 20000 in
theorem sg_X8_readsClause_112 {I : Nat → Int32} {A : Nat → List Int32} {L : Nat → List Int64} {F : Nat → Int64} {E : MH} (v1 : Int32) (v2 : Int32) (v3 : Int32) (s1 : Int32) : mm_run G0 133 112 [some (.ref 84), some (.int v1), some (.int v2), some (.int v3)] [.int s1, .ref 84] (HP I A L F E) = (if 0 ≤ s1 then ((stI (A 89) (3 * (I 8409)) v1).bind fun X1 => ((stI X1 ((3 * (I 8409)) + 1) v3).bind fun X2 => ((stI X2 ((3 * (I 8409)) + 2) s1).bind fun X3 => some (some (.int 1), (HP (fu (fu I 8407 s1) 8409 ((I 8409) + 1)) (fu (fu (fu A 89 X1) 89 X2) 89 X3) L F E))))) else some (some (.int 0), (HP (fu I 8407 s1) A L F E))) := by
  refine (sg_putI (h' := (HP (fu I 8407 s1) A L F E)) ht_X8_readsClause rfl hp_o_84 (Nat.le_of_ble_eq_true rfl) hp_p_8407).trans ?_
  refine (sg_go ht_X8_readsClause (k := 2) (pc' := 119) (L' := [some (.ref 84), some (.int v1), some (.int v2), some (.int v3)]) (st' := [.int s1]) (h' := (HP (fu I 8407 s1) A L F E)) rfl).trans ?_
  refine (sg_if ht_X8_readsClause rfl).trans ?_
  refine ite_congr rfl (fun _ => ?_) (fun _ => ?_)
  · refine (sg_go ht_X8_readsClause (k := 7) (pc' := 135) (L' := [some (.ref 84), some (.int v1), some (.int v2), some (.int v3)]) (st' := [.int v1, .int (3 * (I 8409)), .ref 89]) (h' := (HP (fu I 8407 s1) A L F E)) rfl).trans ?_
    refine (sg_stI (hh := fun X1 => (HP (fu I 8407 s1) (fu A 89 X1) L F E)) ht_X8_readsClause rfl hp_o_89 (fun _ => hp_s_89)).trans ?_
    refine bind_cg fun X1 hX1 => ?_
    refine (sg_go ht_X8_readsClause (k := 9) (pc' := 149) (L' := [some (.ref 84), some (.int v1), some (.int v2), some (.int v3)]) (st' := [.int v3, .int ((3 * (I 8409)) + 1), .ref 89]) (h' := (HP (fu I 8407 s1) (fu A 89 X1) L F E)) rfl).trans ?_
    refine (sg_stI (hh := fun X2 => (HP (fu I 8407 s1) (fu (fu A 89 X1) 89 X2) L F E)) ht_X8_readsClause rfl hp_o_89 (fun _ => hp_s_89)).trans ?_
    refine bind_cg fun X2 hX2 => ?_
    refine (sg_go ht_X8_readsClause (k := 10) (pc' := 166) (L' := [some (.ref 84), some (.int v1), some (.int v2), some (.int v3)]) (st' := [.int s1, .int ((3 * (I 8409)) + 2), .ref 89]) (h' := (HP (fu I 8407 s1) (fu (fu A 89 X1) 89 X2) L F E)) rfl).trans ?_
    refine (sg_stI (hh := fun X3 => (HP (fu I 8407 s1) (fu (fu (fu A 89 X1) 89 X2) 89 X3) L F E)) ht_X8_readsClause rfl hp_o_89 (fun _ => hp_s_89)).trans ?_
    refine bind_cg fun X3 hX3 => ?_
    refine (sg_go ht_X8_readsClause (k := 5) (pc' := 174) (L' := [some (.ref 84), some (.int v1), some (.int v2), some (.int v3)]) (st' := [.int ((I 8409) + 1), .ref 84]) (h' := (HP (fu I 8407 s1) (fu (fu (fu A 89 X1) 89 X2) 89 X3) L F E)) rfl).trans ?_
    refine (sg_putI (h' := (HP (fu (fu I 8407 s1) 8409 ((I 8409) + 1)) (fu (fu (fu A 89 X1) 89 X2) 89 X3) L F E)) ht_X8_readsClause rfl hp_o_84 (Nat.le_of_ble_eq_true rfl) hp_p_8409).trans ?_
    refine (sg_go ht_X8_readsClause (k := 1) (pc' := 178) (L' := [some (.ref 84), some (.int v1), some (.int v2), some (.int v3)]) (st' := [.int 1]) (h' := (HP (fu (fu I 8407 s1) 8409 ((I 8409) + 1)) (fu (fu (fu A 89 X1) 89 X2) 89 X3) L F E)) rfl).trans ?_
    exact sg_ret ht_X8_readsClause rfl rfl
  · refine (sg_go ht_X8_readsClause (k := 1) (pc' := 123) (L' := [some (.ref 84), some (.int v1), some (.int v2), some (.int v3)]) (st' := [.int 0]) (h' := (HP (fu I 8407 s1) A L F E)) rfl).trans ?_
    exact sg_ret ht_X8_readsClause rfl rfl
set_option maxRecDepth 20000 in
theorem sg_X8_readsClause_102 {I : Nat → Int32} {A : Nat → List Int32} {L : Nat → List Int64} {F : Nat → Int64} {E : MH} (v1 : Int32) (v2 : Int32) (v3 : Int32) (s0 : Int32) : mm_run G0 133 102 [some (.ref 84), some (.int v1), some (.int v2), some (.int v3)] [.int s0] (HP I A L F E) = (if s0 ≠ 0 then ((stI (A 89) (3 * (I 8409)) v1).bind fun X1 => ((stI X1 ((3 * (I 8409)) + 1) v3).bind fun X2 => ((stI X2 ((3 * (I 8409)) + 2) (I 8407)).bind fun X3 => some (some (.int 1), (HP (fu I 8409 ((I 8409) + 1)) (fu (fu (fu A 89 X1) 89 X2) 89 X3) L F E))))) else some (some (.int 0), (HP I A L F E))) := by
  refine (sg_if ht_X8_readsClause rfl).trans ?_
  refine ite_congr rfl (fun _ => ?_) (fun _ => ?_)
  · refine (sg_go ht_X8_readsClause (k := 7) (pc' := 135) (L' := [some (.ref 84), some (.int v1), some (.int v2), some (.int v3)]) (st' := [.int v1, .int (3 * (I 8409)), .ref 89]) (h' := (HP I A L F E)) rfl).trans ?_
    refine (sg_stI (hh := fun X1 => (HP I (fu A 89 X1) L F E)) ht_X8_readsClause rfl hp_o_89 (fun _ => hp_s_89)).trans ?_
    refine bind_cg fun X1 hX1 => ?_
    refine (sg_go ht_X8_readsClause (k := 9) (pc' := 149) (L' := [some (.ref 84), some (.int v1), some (.int v2), some (.int v3)]) (st' := [.int v3, .int ((3 * (I 8409)) + 1), .ref 89]) (h' := (HP I (fu A 89 X1) L F E)) rfl).trans ?_
    refine (sg_stI (hh := fun X2 => (HP I (fu (fu A 89 X1) 89 X2) L F E)) ht_X8_readsClause rfl hp_o_89 (fun _ => hp_s_89)).trans ?_
    refine bind_cg fun X2 hX2 => ?_
    refine (sg_go ht_X8_readsClause (k := 10) (pc' := 166) (L' := [some (.ref 84), some (.int v1), some (.int v2), some (.int v3)]) (st' := [.int (I 8407), .int ((3 * (I 8409)) + 2), .ref 89]) (h' := (HP I (fu (fu A 89 X1) 89 X2) L F E)) rfl).trans ?_
    refine (sg_stI (hh := fun X3 => (HP I (fu (fu (fu A 89 X1) 89 X2) 89 X3) L F E)) ht_X8_readsClause rfl hp_o_89 (fun _ => hp_s_89)).trans ?_
    refine bind_cg fun X3 hX3 => ?_
    refine (sg_go ht_X8_readsClause (k := 5) (pc' := 174) (L' := [some (.ref 84), some (.int v1), some (.int v2), some (.int v3)]) (st' := [.int ((I 8409) + 1), .ref 84]) (h' := (HP I (fu (fu (fu A 89 X1) 89 X2) 89 X3) L F E)) rfl).trans ?_
    refine (sg_putI (h' := (HP (fu I 8409 ((I 8409) + 1)) (fu (fu (fu A 89 X1) 89 X2) 89 X3) L F E)) ht_X8_readsClause rfl hp_o_84 (Nat.le_of_ble_eq_true rfl) hp_p_8409).trans ?_
    refine (sg_go ht_X8_readsClause (k := 1) (pc' := 178) (L' := [some (.ref 84), some (.int v1), some (.int v2), some (.int v3)]) (st' := [.int 1]) (h' := (HP (fu I 8409 ((I 8409) + 1)) (fu (fu (fu A 89 X1) 89 X2) 89 X3) L F E)) rfl).trans ?_
    exact sg_ret ht_X8_readsClause rfl rfl
  · refine (sg_go ht_X8_readsClause (k := 1) (pc' := 106) (L' := [some (.ref 84), some (.int v1), some (.int v2), some (.int v3)]) (st' := [.int 0]) (h' := (HP I A L F E)) rfl).trans ?_
    exact sg_ret ht_X8_readsClause rfl rfl
set_option maxRecDepth 20000 in
theorem sg_X8_readsText_0 {I : Nat → Int32} {A : Nat → List Int32} {L : Nat → List Int64} {F : Nat → Int64} {E : MH}  : mm_call G0 134 [.ref 84] (HP I A L F E) = mm_run G0 134 10 [some (.ref 84)] [] (HP (fu (fu I 8406 0) 8409 0) A L F E) := by
  show mm_run G0 134 0 [some (.ref 84)] [] (HP I A L F E) = _
  refine (sg_go ht_X8_readsText (k := 2) (pc' := 2) (L' := [some (.ref 84)]) (st' := [.int 0, .ref 84]) (h' := (HP I A L F E)) rfl).trans ?_
  refine (sg_putI (h' := (HP (fu I 8406 0) A L F E)) ht_X8_readsText rfl hp_o_84 (Nat.le_of_ble_eq_true rfl) hp_p_8406).trans ?_
  refine (sg_go ht_X8_readsText (k := 2) (pc' := 7) (L' := [some (.ref 84)]) (st' := [.int 0, .ref 84]) (h' := (HP (fu I 8406 0) A L F E)) rfl).trans ?_
  refine (sg_putI (h' := (HP (fu (fu I 8406 0) 8409 0) A L F E)) ht_X8_readsText rfl hp_o_84 (Nat.le_of_ble_eq_true rfl) hp_p_8409).trans ?_
  rfl
set_option maxRecDepth 20000 in
theorem sg_X8_readsText_10 {I : Nat → Int32} {A : Nat → List Int32} {L : Nat → List Int64} {F : Nat → Int64} {E : MH}  : mm_run G0 134 10 [some (.ref 84)] [] (HP I A L F E) = ((mm_call G0 133 [.ref 84] (HP I A L F E)).bind fun q => mm_run G0 134 14 [some (.ref 84)] (q.1.toList ++ []) q.2) := by
  refine (sg_go ht_X8_readsText (k := 1) (pc' := 11) (L' := [some (.ref 84)]) (st' := [.ref 84]) (h' := (HP I A L F E)) rfl).trans ?_
  refine (sg_call ht_X8_readsText (mj := 133) (as := [.ref 84]) (rest := []) rfl rfl ⟨by decide, Nat.le_of_ble_eq_true rfl⟩).trans ?_
  rfl
set_option maxRecDepth 20000 in
theorem sg_X8_readsText_14 {I : Nat → Int32} {A : Nat → List Int32} {L : Nat → List Int64} {F : Nat → Int64} {E : MH} (s0 : Int32) : mm_run G0 134 14 [some (.ref 84)] [.int s0] (HP I A L F E) = (if s0 ≠ 0 then (if (I 8406) ≠ (I 8405) then (if (I 8409) = 12 then some (some (.int 0), (HP I A L F E)) else ((ldI (A 88) (I 8406)).bind fun x1 => (if x1 = 59 then mm_run G0 134 10 [some (.ref 84)] [] (HP (fu I 8406 ((I 8406) + 1)) A L F E) else some (some (.int 0), (HP I A L F E))))) else some (some (.int 1), (HP I A L F E))) else some (some (.int 0), (HP I A L F E))) := by
  refine (sg_if ht_X8_readsText rfl).trans ?_
  refine ite_congr rfl (fun _ => ?_) (fun _ => ?_)
  · refine (sg_go ht_X8_readsText (k := 4) (pc' := 27) (L' := [some (.ref 84)]) (st' := [.int (I 8405), .int (I 8406)]) (h' := (HP I A L F E)) rfl).trans ?_
    refine (sg_cmp ht_X8_readsText rfl).trans ?_
    refine ite_congr rfl (fun _ => ?_) (fun _ => ?_)
    · refine (sg_go ht_X8_readsText (k := 3) (pc' := 38) (L' := [some (.ref 84)]) (st' := [.int 12, .int (I 8409)]) (h' := (HP I A L F E)) rfl).trans ?_
      refine (sg_cmp ht_X8_readsText rfl).trans ?_
      refine ite_congr rfl (fun _ => ?_) (fun _ => ?_)
      · refine (sg_go ht_X8_readsText (k := 1) (pc' := 56) (L' := [some (.ref 84)]) (st' := [.int 0]) (h' := (HP I A L F E)) rfl).trans ?_
        exact sg_ret ht_X8_readsText rfl rfl
      · refine (sg_go ht_X8_readsText (k := 4) (pc' := 49) (L' := [some (.ref 84)]) (st' := [.int (I 8406), .ref 88]) (h' := (HP I A L F E)) rfl).trans ?_
        refine (sg_ldI ht_X8_readsText rfl hp_o_88).trans ?_
        refine bind_cg fun x1 hx1 => ?_
        refine (sg_go ht_X8_readsText (k := 1) (pc' := 52) (L' := [some (.ref 84)]) (st' := [.int 59, .int x1]) (h' := (HP I A L F E)) rfl).trans ?_
        refine (sg_cmp ht_X8_readsText rfl).trans ?_
        refine ite_congr rfl (fun _ => ?_) (fun _ => ?_)
        · refine (sg_go ht_X8_readsText (k := 5) (pc' := 64) (L' := [some (.ref 84)]) (st' := [.int ((I 8406) + 1), .ref 84]) (h' := (HP I A L F E)) rfl).trans ?_
          refine (sg_putI (h' := (HP (fu I 8406 ((I 8406) + 1)) A L F E)) ht_X8_readsText rfl hp_o_84 (Nat.le_of_ble_eq_true rfl) hp_p_8406).trans ?_
          refine (sg_go ht_X8_readsText (k := 1) (pc' := 10) (L' := [some (.ref 84)]) (st' := []) (h' := (HP (fu I 8406 ((I 8406) + 1)) A L F E)) rfl).trans ?_
          rfl
        · refine (sg_go ht_X8_readsText (k := 1) (pc' := 56) (L' := [some (.ref 84)]) (st' := [.int 0]) (h' := (HP I A L F E)) rfl).trans ?_
          exact sg_ret ht_X8_readsText rfl rfl
    · refine (sg_go ht_X8_readsText (k := 1) (pc' := 31) (L' := [some (.ref 84)]) (st' := [.int 1]) (h' := (HP I A L F E)) rfl).trans ?_
      exact sg_ret ht_X8_readsText rfl rfl
  · refine (sg_go ht_X8_readsText (k := 1) (pc' := 18) (L' := [some (.ref 84)]) (st' := [.int 0]) (h' := (HP I A L F E)) rfl).trans ?_
    exact sg_ret ht_X8_readsText rfl rfl
set_option maxRecDepth 20000 in
theorem sg_X8_weight_0 {I : Nat → Int32} {A : Nat → List Int32} {L : Nat → List Int64} {F : Nat → Int64} {E : MH} (p1 : Int32) (p2 : Int32) : mm_call G0 154 [.ref 84, .int p1, .int p2] (HP I A L F E) = (if ¬ p1 < (-2) ∧ ¬ 2 < p1 then (if ¬ p2 < 0 ∧ ¬ 5 < p2 then ((ldI (A 85) ((180 + p1) + 2)).bind fun x1 => ((stI (A 85) ((180 + p1) + 2) p2).bind fun X2 => some (some (.int x1), (HP I (fu A 85 X2) L F E)))) else some (some (.int (-2)), (HP I A L F E))) else some (some (.int (-1)), (HP I A L F E))) := by
  show mm_run G0 154 0 [some (.ref 84), some (.int p1), some (.int p2), none] [] (HP I A L F E) = _
  refine (sg_go ht_X8_weight (k := 3) (pc' := 4) (L' := [some (.ref 84), some (.int p1), some (.int p2), none]) (st' := [.int 2, .int (-2), .int p1]) (h' := (HP I A L F E)) rfl).trans ?_
  refine (sg_call ht_X8_weight (mj := 113) (as := [.int p1, .int (-2), .int 2]) (rest := []) rfl rfl ⟨by decide, Nat.le_of_ble_eq_true rfl⟩).trans ?_
  refine (bind_eq (sp_X8_isIn p1 (-2) 2)).trans ?_
  show mm_run G0 154 7 [some (.ref 84), some (.int p1), some (.int p2), none] [.int (bi (decide (¬ p1 < (-2) ∧ ¬ 2 < p1)))] (HP I A L F E) = _
  refine (sg_bn ht_X8_weight rfl).trans ?_
  refine ite_congr rfl (fun _ => ?_) (fun _ => ?_)
  · refine (sg_go ht_X8_weight (k := 3) (pc' := 15) (L' := [some (.ref 84), some (.int p1), some (.int p2), none]) (st' := [.int 5, .int 0, .int p2]) (h' := (HP I A L F E)) rfl).trans ?_
    refine (sg_call ht_X8_weight (mj := 113) (as := [.int p2, .int 0, .int 5]) (rest := []) rfl rfl ⟨by decide, Nat.le_of_ble_eq_true rfl⟩).trans ?_
    refine (bind_eq (sp_X8_isIn p2 0 5)).trans ?_
    show mm_run G0 154 18 [some (.ref 84), some (.int p1), some (.int p2), none] [.int (bi (decide (¬ p2 < 0 ∧ ¬ 5 < p2)))] (HP I A L F E) = _
    refine (sg_bn ht_X8_weight rfl).trans ?_
    refine ite_congr rfl (fun _ => ?_) (fun _ => ?_)
    · refine (sg_go ht_X8_weight (k := 7) (pc' := 35) (L' := [some (.ref 84), some (.int p1), some (.int p2), none]) (st' := [.int ((180 + p1) + 2), .ref 85]) (h' := (HP I A L F E)) rfl).trans ?_
      refine (sg_ldI ht_X8_weight rfl hp_o_85).trans ?_
      refine bind_cg fun x1 hx1 => ?_
      refine (sg_go ht_X8_weight (k := 9) (pc' := 49) (L' := [some (.ref 84), some (.int p1), some (.int p2), some (.int x1)]) (st' := [.int p2, .int ((180 + p1) + 2), .ref 85]) (h' := (HP I A L F E)) rfl).trans ?_
      refine (sg_stI (hh := fun X2 => (HP I (fu A 85 X2) L F E)) ht_X8_weight rfl hp_o_85 (fun _ => hp_s_85)).trans ?_
      refine bind_cg fun X2 hX2 => ?_
      refine (sg_go ht_X8_weight (k := 1) (pc' := 51) (L' := [some (.ref 84), some (.int p1), some (.int p2), some (.int x1)]) (st' := [.int x1]) (h' := (HP I (fu A 85 X2) L F E)) rfl).trans ?_
      exact sg_ret ht_X8_weight rfl rfl
    · refine (sg_go ht_X8_weight (k := 1) (pc' := 23) (L' := [some (.ref 84), some (.int p1), some (.int p2), none]) (st' := [.int (-2)]) (h' := (HP I A L F E)) rfl).trans ?_
      exact sg_ret ht_X8_weight rfl rfl
  · refine (sg_go ht_X8_weight (k := 1) (pc' := 11) (L' := [some (.ref 84), some (.int p1), some (.int p2), none]) (st' := [.int (-1)]) (h' := (HP I A L F E)) rfl).trans ?_
    exact sg_ret ht_X8_weight rfl rfl
set_option maxRecDepth 20000 in
theorem sg_X8_isDone_0 {I : Nat → Int32} {A : Nat → List Int32} {L : Nat → List Int64} {F : Nat → Int64} {E : MH} (p1 : Int32) (p2 : Int32) (p3 : Int32) : mm_call G0 135 [.ref 84, .int p1, .int p2, .int p3] (HP I A L F E) = (if p1 = 107 then ((mm_call G0 122 [.ref 84, .int p2, .int 0, .int p3] (HP I A L F E)).bind fun q => mm_run G0 135 106 [some (.ref 84), some (.int p1), some (.int p2), some (.int p3)] (q.1.toList ++ []) q.2) else (if p1 = 108 then ((mm_call G0 122 [.ref 84, .int p2, .int 3, .int p3] (HP I A L F E)).bind fun q => mm_run G0 135 146 [some (.ref 84), some (.int p1), some (.int p2), some (.int p3)] (q.1.toList ++ []) q.2) else (if p1 = 109 then ((mm_call G0 154 [.ref 84, .int (p2 - 2), .int p3] (HP I A L F E)).bind fun q => mm_run G0 135 167 [some (.ref 84), some (.int p1), some (.int p2), some (.int p3)] (q.1.toList ++ []) q.2) else (if p1 = 110 then ((mm_call G0 154 [.ref 84, .int (p2 - 2), .int p3] (HP I A L F E)).bind fun q => mm_run G0 135 167 [some (.ref 84), some (.int p1), some (.int p2), some (.int p3)] (q.1.toList ++ []) q.2) else (if p1 = 111 then ((mm_call G0 154 [.ref 84, .int (p2 - 2), .int p3] (HP I A L F E)).bind fun q => mm_run G0 135 167 [some (.ref 84), some (.int p1), some (.int p2), some (.int p3)] (q.1.toList ++ []) q.2) else (if p1 = 112 then ((mm_call G0 154 [.ref 84, .int (p2 - 2), .int p3] (HP I A L F E)).bind fun q => mm_run G0 135 167 [some (.ref 84), some (.int p1), some (.int p2), some (.int p3)] (q.1.toList ++ []) q.2) else (if p1 = 113 then ((mm_call G0 154 [.ref 84, .int (p2 - 2), .int p3] (HP I A L F E)).bind fun q => mm_run G0 135 167 [some (.ref 84), some (.int p1), some (.int p2), some (.int p3)] (q.1.toList ++ []) q.2) else (if p1 = 114 then ((mm_call G0 154 [.ref 84, .int (p2 - 2), .int p3] (HP I A L F E)).bind fun q => mm_run G0 135 167 [some (.ref 84), some (.int p1), some (.int p2), some (.int p3)] (q.1.toList ++ []) q.2) else (if p1 = 115 then ((mm_call G0 122 [.ref 84, .int p2, .int 2, .int p3] (HP I A L F E)).bind fun q => mm_run G0 135 126 [some (.ref 84), some (.int p1), some (.int p2), some (.int p3)] (q.1.toList ++ []) q.2) else (if p1 = 116 then ((mm_call G0 122 [.ref 84, .int p2, .int 1, .int p3] (HP I A L F E)).bind fun q => mm_run G0 135 86 [some (.ref 84), some (.int p1), some (.int p2), some (.int p3)] (q.1.toList ++ []) q.2) else (if p1 = 117 then ((mm_call G0 154 [.ref 84, .int (p2 - 2), .int p3] (HP I A L F E)).bind fun q => mm_run G0 135 167 [some (.ref 84), some (.int p1), some (.int p2), some (.int p3)] (q.1.toList ++ []) q.2) else (if p1 = 118 then ((mm_call G0 119 [.ref 84, .int p2, .int p3] (HP I A L F E)).bind fun q => mm_run G0 135 70 [some (.ref 84), some (.int p1), some (.int p2), some (.int p3)] (q.1.toList ++ []) q.2) else ((mm_call G0 154 [.ref 84, .int (p2 - 2), .int p3] (HP I A L F E)).bind fun q => mm_run G0 135 167 [some (.ref 84), some (.int p1), some (.int p2), some (.int p3)] (q.1.toList ++ []) q.2))))))))))))) := by
  show mm_run G0 135 0 [some (.ref 84), some (.int p1), some (.int p2), some (.int p3)] [] (HP I A L F E) = _
  refine (sg_go ht_X8_isDone (k := 1) (pc' := 1) (L' := [some (.ref 84), some (.int p1), some (.int p2), some (.int p3)]) (st' := [.int p1]) (h' := (HP I A L F E)) rfl).trans ?_
  refine (sg_sw ht_X8_isDone rfl).trans ?_
  rw [swt_cons (k := 107) (lo' := 108) (by decide) (by decide), run_ite]
  refine ite_congr rfl (fun _ => ?_) (fun _ => ?_)
  · refine (sg_go ht_X8_isDone (k := 4) (pc' := 103) (L' := [some (.ref 84), some (.int p1), some (.int p2), some (.int p3)]) (st' := [.int p3, .int 0, .int p2, .ref 84]) (h' := (HP I A L F E)) rfl).trans ?_
    refine (sg_call ht_X8_isDone (mj := 122) (as := [.ref 84, .int p2, .int 0, .int p3]) (rest := []) rfl rfl ⟨by decide, Nat.le_of_ble_eq_true rfl⟩).trans ?_
    rfl
  · rw [swt_cons (k := 108) (lo' := 109) (by decide) (by decide), run_ite]
    refine ite_congr rfl (fun _ => ?_) (fun _ => ?_)
    · refine (sg_go ht_X8_isDone (k := 4) (pc' := 143) (L' := [some (.ref 84), some (.int p1), some (.int p2), some (.int p3)]) (st' := [.int p3, .int 3, .int p2, .ref 84]) (h' := (HP I A L F E)) rfl).trans ?_
      refine (sg_call ht_X8_isDone (mj := 122) (as := [.ref 84, .int p2, .int 3, .int p3]) (rest := []) rfl rfl ⟨by decide, Nat.le_of_ble_eq_true rfl⟩).trans ?_
      rfl
    · rw [swt_cons (k := 109) (lo' := 110) (by decide) (by decide), run_ite]
      refine ite_congr rfl (fun _ => ?_) (fun _ => ?_)
      · refine (sg_go ht_X8_isDone (k := 5) (pc' := 164) (L' := [some (.ref 84), some (.int p1), some (.int p2), some (.int p3)]) (st' := [.int p3, .int (p2 - 2), .ref 84]) (h' := (HP I A L F E)) rfl).trans ?_
        refine (sg_call ht_X8_isDone (mj := 154) (as := [.ref 84, .int (p2 - 2), .int p3]) (rest := []) rfl rfl ⟨by decide, Nat.le_of_ble_eq_true rfl⟩).trans ?_
        rfl
      · rw [swt_cons (k := 110) (lo' := 111) (by decide) (by decide), run_ite]
        refine ite_congr rfl (fun _ => ?_) (fun _ => ?_)
        · refine (sg_go ht_X8_isDone (k := 5) (pc' := 164) (L' := [some (.ref 84), some (.int p1), some (.int p2), some (.int p3)]) (st' := [.int p3, .int (p2 - 2), .ref 84]) (h' := (HP I A L F E)) rfl).trans ?_
          refine (sg_call ht_X8_isDone (mj := 154) (as := [.ref 84, .int (p2 - 2), .int p3]) (rest := []) rfl rfl ⟨by decide, Nat.le_of_ble_eq_true rfl⟩).trans ?_
          rfl
        · rw [swt_cons (k := 111) (lo' := 112) (by decide) (by decide), run_ite]
          refine ite_congr rfl (fun _ => ?_) (fun _ => ?_)
          · refine (sg_go ht_X8_isDone (k := 5) (pc' := 164) (L' := [some (.ref 84), some (.int p1), some (.int p2), some (.int p3)]) (st' := [.int p3, .int (p2 - 2), .ref 84]) (h' := (HP I A L F E)) rfl).trans ?_
            refine (sg_call ht_X8_isDone (mj := 154) (as := [.ref 84, .int (p2 - 2), .int p3]) (rest := []) rfl rfl ⟨by decide, Nat.le_of_ble_eq_true rfl⟩).trans ?_
            rfl
          · rw [swt_cons (k := 112) (lo' := 113) (by decide) (by decide), run_ite]
            refine ite_congr rfl (fun _ => ?_) (fun _ => ?_)
            · refine (sg_go ht_X8_isDone (k := 5) (pc' := 164) (L' := [some (.ref 84), some (.int p1), some (.int p2), some (.int p3)]) (st' := [.int p3, .int (p2 - 2), .ref 84]) (h' := (HP I A L F E)) rfl).trans ?_
              refine (sg_call ht_X8_isDone (mj := 154) (as := [.ref 84, .int (p2 - 2), .int p3]) (rest := []) rfl rfl ⟨by decide, Nat.le_of_ble_eq_true rfl⟩).trans ?_
              rfl
            · rw [swt_cons (k := 113) (lo' := 114) (by decide) (by decide), run_ite]
              refine ite_congr rfl (fun _ => ?_) (fun _ => ?_)
              · refine (sg_go ht_X8_isDone (k := 5) (pc' := 164) (L' := [some (.ref 84), some (.int p1), some (.int p2), some (.int p3)]) (st' := [.int p3, .int (p2 - 2), .ref 84]) (h' := (HP I A L F E)) rfl).trans ?_
                refine (sg_call ht_X8_isDone (mj := 154) (as := [.ref 84, .int (p2 - 2), .int p3]) (rest := []) rfl rfl ⟨by decide, Nat.le_of_ble_eq_true rfl⟩).trans ?_
                rfl
              · rw [swt_cons (k := 114) (lo' := 115) (by decide) (by decide), run_ite]
                refine ite_congr rfl (fun _ => ?_) (fun _ => ?_)
                · refine (sg_go ht_X8_isDone (k := 5) (pc' := 164) (L' := [some (.ref 84), some (.int p1), some (.int p2), some (.int p3)]) (st' := [.int p3, .int (p2 - 2), .ref 84]) (h' := (HP I A L F E)) rfl).trans ?_
                  refine (sg_call ht_X8_isDone (mj := 154) (as := [.ref 84, .int (p2 - 2), .int p3]) (rest := []) rfl rfl ⟨by decide, Nat.le_of_ble_eq_true rfl⟩).trans ?_
                  rfl
                · rw [swt_cons (k := 115) (lo' := 116) (by decide) (by decide), run_ite]
                  refine ite_congr rfl (fun _ => ?_) (fun _ => ?_)
                  · refine (sg_go ht_X8_isDone (k := 4) (pc' := 123) (L' := [some (.ref 84), some (.int p1), some (.int p2), some (.int p3)]) (st' := [.int p3, .int 2, .int p2, .ref 84]) (h' := (HP I A L F E)) rfl).trans ?_
                    refine (sg_call ht_X8_isDone (mj := 122) (as := [.ref 84, .int p2, .int 2, .int p3]) (rest := []) rfl rfl ⟨by decide, Nat.le_of_ble_eq_true rfl⟩).trans ?_
                    rfl
                  · rw [swt_cons (k := 116) (lo' := 117) (by decide) (by decide), run_ite]
                    refine ite_congr rfl (fun _ => ?_) (fun _ => ?_)
                    · refine (sg_go ht_X8_isDone (k := 4) (pc' := 83) (L' := [some (.ref 84), some (.int p1), some (.int p2), some (.int p3)]) (st' := [.int p3, .int 1, .int p2, .ref 84]) (h' := (HP I A L F E)) rfl).trans ?_
                      refine (sg_call ht_X8_isDone (mj := 122) (as := [.ref 84, .int p2, .int 1, .int p3]) (rest := []) rfl rfl ⟨by decide, Nat.le_of_ble_eq_true rfl⟩).trans ?_
                      rfl
                    · rw [swt_cons (k := 117) (lo' := 118) (by decide) (by decide), run_ite]
                      refine ite_congr rfl (fun _ => ?_) (fun _ => ?_)
                      · refine (sg_go ht_X8_isDone (k := 5) (pc' := 164) (L' := [some (.ref 84), some (.int p1), some (.int p2), some (.int p3)]) (st' := [.int p3, .int (p2 - 2), .ref 84]) (h' := (HP I A L F E)) rfl).trans ?_
                        refine (sg_call ht_X8_isDone (mj := 154) (as := [.ref 84, .int (p2 - 2), .int p3]) (rest := []) rfl rfl ⟨by decide, Nat.le_of_ble_eq_true rfl⟩).trans ?_
                        rfl
                      · rw [swt_cons (k := 118) (lo' := 119) (by decide) (by decide), run_ite]
                        refine ite_congr rfl (fun _ => ?_) (fun _ => ?_)
                        · refine (sg_go ht_X8_isDone (k := 3) (pc' := 67) (L' := [some (.ref 84), some (.int p1), some (.int p2), some (.int p3)]) (st' := [.int p3, .int p2, .ref 84]) (h' := (HP I A L F E)) rfl).trans ?_
                          refine (sg_call ht_X8_isDone (mj := 119) (as := [.ref 84, .int p2, .int p3]) (rest := []) rfl rfl ⟨by decide, Nat.le_of_ble_eq_true rfl⟩).trans ?_
                          rfl
                        · rw [swt_nil]
                          refine (sg_go ht_X8_isDone (k := 5) (pc' := 164) (L' := [some (.ref 84), some (.int p1), some (.int p2), some (.int p3)]) (st' := [.int p3, .int (p2 - 2), .ref 84]) (h' := (HP I A L F E)) rfl).trans ?_
                          refine (sg_call ht_X8_isDone (mj := 154) (as := [.ref 84, .int (p2 - 2), .int p3]) (rest := []) rfl rfl ⟨by decide, Nat.le_of_ble_eq_true rfl⟩).trans ?_
                          rfl
set_option maxRecDepth 20000 in
theorem sg_X8_isDone_106 {I : Nat → Int32} {A : Nat → List Int32} {L : Nat → List Int64} {F : Nat → Int64} {E : MH} (v1 : Int32) (v2 : Int32) (v3 : Int32) (s0 : Int64) : mm_run G0 135 106 [some (.ref 84), some (.int v1), some (.int v2), some (.int v3)] [.long s0] (HP I A L F E) = (if (lg_cmp s0 (-9223372036854775808)) = 0 then some (some (.int 0), (HP I A L F E)) else some (some (.int 1), (HP I A L F E))) := by
  refine (sg_go ht_X8_isDone (k := 2) (pc' := 110) (L' := [some (.ref 84), some (.int v1), some (.int v2), some (.int v3)]) (st' := [.int (lg_cmp s0 (-9223372036854775808))]) (h' := (HP I A L F E)) rfl).trans ?_
  refine (sg_if ht_X8_isDone rfl).trans ?_
  refine ite_congr rfl (fun _ => ?_) (fun _ => ?_)
  · refine (sg_go ht_X8_isDone (k := 1) (pc' := 118) (L' := [some (.ref 84), some (.int v1), some (.int v2), some (.int v3)]) (st' := [.int 0]) (h' := (HP I A L F E)) rfl).trans ?_
    exact sg_ret ht_X8_isDone rfl rfl
  · refine (sg_go ht_X8_isDone (k := 2) (pc' := 118) (L' := [some (.ref 84), some (.int v1), some (.int v2), some (.int v3)]) (st' := [.int 1]) (h' := (HP I A L F E)) rfl).trans ?_
    exact sg_ret ht_X8_isDone rfl rfl
set_option maxRecDepth 20000 in
theorem sg_X8_isDone_146 {I : Nat → Int32} {A : Nat → List Int32} {L : Nat → List Int64} {F : Nat → Int64} {E : MH} (v1 : Int32) (v2 : Int32) (v3 : Int32) (s0 : Int64) : mm_run G0 135 146 [some (.ref 84), some (.int v1), some (.int v2), some (.int v3)] [.long s0] (HP I A L F E) = (if (lg_cmp s0 (-9223372036854775808)) = 0 then some (some (.int 0), (HP I A L F E)) else some (some (.int 1), (HP I A L F E))) := by
  refine (sg_go ht_X8_isDone (k := 2) (pc' := 150) (L' := [some (.ref 84), some (.int v1), some (.int v2), some (.int v3)]) (st' := [.int (lg_cmp s0 (-9223372036854775808))]) (h' := (HP I A L F E)) rfl).trans ?_
  refine (sg_if ht_X8_isDone rfl).trans ?_
  refine ite_congr rfl (fun _ => ?_) (fun _ => ?_)
  · refine (sg_go ht_X8_isDone (k := 1) (pc' := 158) (L' := [some (.ref 84), some (.int v1), some (.int v2), some (.int v3)]) (st' := [.int 0]) (h' := (HP I A L F E)) rfl).trans ?_
    exact sg_ret ht_X8_isDone rfl rfl
  · refine (sg_go ht_X8_isDone (k := 2) (pc' := 158) (L' := [some (.ref 84), some (.int v1), some (.int v2), some (.int v3)]) (st' := [.int 1]) (h' := (HP I A L F E)) rfl).trans ?_
    exact sg_ret ht_X8_isDone rfl rfl
set_option maxRecDepth 20000 in
theorem sg_X8_isDone_167 {I : Nat → Int32} {A : Nat → List Int32} {L : Nat → List Int64} {F : Nat → Int64} {E : MH} (v1 : Int32) (v2 : Int32) (v3 : Int32) (s0 : Int32) : mm_run G0 135 167 [some (.ref 84), some (.int v1), some (.int v2), some (.int v3)] [.int s0] (HP I A L F E) = (if s0 < 0 then some (some (.int 0), (HP I A L F E)) else some (some (.int 1), (HP I A L F E))) := by
  refine (sg_if ht_X8_isDone rfl).trans ?_
  refine ite_congr rfl (fun _ => ?_) (fun _ => ?_)
  · refine (sg_go ht_X8_isDone (k := 1) (pc' := 175) (L' := [some (.ref 84), some (.int v1), some (.int v2), some (.int v3)]) (st' := [.int 0]) (h' := (HP I A L F E)) rfl).trans ?_
    exact sg_ret ht_X8_isDone rfl rfl
  · refine (sg_go ht_X8_isDone (k := 2) (pc' := 175) (L' := [some (.ref 84), some (.int v1), some (.int v2), some (.int v3)]) (st' := [.int 1]) (h' := (HP I A L F E)) rfl).trans ?_
    exact sg_ret ht_X8_isDone rfl rfl
set_option maxRecDepth 20000 in
theorem sg_X8_isDone_126 {I : Nat → Int32} {A : Nat → List Int32} {L : Nat → List Int64} {F : Nat → Int64} {E : MH} (v1 : Int32) (v2 : Int32) (v3 : Int32) (s0 : Int64) : mm_run G0 135 126 [some (.ref 84), some (.int v1), some (.int v2), some (.int v3)] [.long s0] (HP I A L F E) = (if (lg_cmp s0 (-9223372036854775808)) = 0 then some (some (.int 0), (HP I A L F E)) else some (some (.int 1), (HP I A L F E))) := by
  refine (sg_go ht_X8_isDone (k := 2) (pc' := 130) (L' := [some (.ref 84), some (.int v1), some (.int v2), some (.int v3)]) (st' := [.int (lg_cmp s0 (-9223372036854775808))]) (h' := (HP I A L F E)) rfl).trans ?_
  refine (sg_if ht_X8_isDone rfl).trans ?_
  refine ite_congr rfl (fun _ => ?_) (fun _ => ?_)
  · refine (sg_go ht_X8_isDone (k := 1) (pc' := 138) (L' := [some (.ref 84), some (.int v1), some (.int v2), some (.int v3)]) (st' := [.int 0]) (h' := (HP I A L F E)) rfl).trans ?_
    exact sg_ret ht_X8_isDone rfl rfl
  · refine (sg_go ht_X8_isDone (k := 2) (pc' := 138) (L' := [some (.ref 84), some (.int v1), some (.int v2), some (.int v3)]) (st' := [.int 1]) (h' := (HP I A L F E)) rfl).trans ?_
    exact sg_ret ht_X8_isDone rfl rfl
set_option maxRecDepth 20000 in
theorem sg_X8_isDone_86 {I : Nat → Int32} {A : Nat → List Int32} {L : Nat → List Int64} {F : Nat → Int64} {E : MH} (v1 : Int32) (v2 : Int32) (v3 : Int32) (s0 : Int64) : mm_run G0 135 86 [some (.ref 84), some (.int v1), some (.int v2), some (.int v3)] [.long s0] (HP I A L F E) = (if (lg_cmp s0 (-9223372036854775808)) = 0 then some (some (.int 0), (HP I A L F E)) else some (some (.int 1), (HP I A L F E))) := by
  refine (sg_go ht_X8_isDone (k := 2) (pc' := 90) (L' := [some (.ref 84), some (.int v1), some (.int v2), some (.int v3)]) (st' := [.int (lg_cmp s0 (-9223372036854775808))]) (h' := (HP I A L F E)) rfl).trans ?_
  refine (sg_if ht_X8_isDone rfl).trans ?_
  refine ite_congr rfl (fun _ => ?_) (fun _ => ?_)
  · refine (sg_go ht_X8_isDone (k := 1) (pc' := 98) (L' := [some (.ref 84), some (.int v1), some (.int v2), some (.int v3)]) (st' := [.int 0]) (h' := (HP I A L F E)) rfl).trans ?_
    exact sg_ret ht_X8_isDone rfl rfl
  · refine (sg_go ht_X8_isDone (k := 2) (pc' := 98) (L' := [some (.ref 84), some (.int v1), some (.int v2), some (.int v3)]) (st' := [.int 1]) (h' := (HP I A L F E)) rfl).trans ?_
    exact sg_ret ht_X8_isDone rfl rfl
set_option maxRecDepth 20000 in
theorem sg_X8_isDone_70 {I : Nat → Int32} {A : Nat → List Int32} {L : Nat → List Int64} {F : Nat → Int64} {E : MH} (v1 : Int32) (v2 : Int32) (v3 : Int32) (s0 : Int32) : mm_run G0 135 70 [some (.ref 84), some (.int v1), some (.int v2), some (.int v3)] [.int s0] (HP I A L F E) = (if s0 ≤ 0 then some (some (.int 0), (HP I A L F E)) else some (some (.int 1), (HP I A L F E))) := by
  refine (sg_if ht_X8_isDone rfl).trans ?_
  refine ite_congr rfl (fun _ => ?_) (fun _ => ?_)
  · refine (sg_go ht_X8_isDone (k := 1) (pc' := 78) (L' := [some (.ref 84), some (.int v1), some (.int v2), some (.int v3)]) (st' := [.int 0]) (h' := (HP I A L F E)) rfl).trans ?_
    exact sg_ret ht_X8_isDone rfl rfl
  · refine (sg_go ht_X8_isDone (k := 2) (pc' := 78) (L' := [some (.ref 84), some (.int v1), some (.int v2), some (.int v3)]) (st' := [.int 1]) (h' := (HP I A L F E)) rfl).trans ?_
    exact sg_ret ht_X8_isDone rfl rfl
set_option maxRecDepth 20000 in
theorem sg_X8_read_0 {I : Nat → Int32} {A : Nat → List Int32} {L : Nat → List Int64} {F : Nat → Int64} {E : MH}  : mm_call G0 136 [.ref 84] (HP I A L F E) = ((mm_call G0 134 [.ref 84] (HP I A L F E)).bind fun q => mm_run G0 136 4 [some (.ref 84), none, none, none] (q.1.toList ++ []) q.2) := by
  show mm_run G0 136 0 [some (.ref 84), none, none, none] [] (HP I A L F E) = _
  refine (sg_go ht_X8_read (k := 1) (pc' := 1) (L' := [some (.ref 84), none, none, none]) (st' := [.ref 84]) (h' := (HP I A L F E)) rfl).trans ?_
  refine (sg_call ht_X8_read (mj := 134) (as := [.ref 84]) (rest := []) rfl rfl ⟨by decide, Nat.le_of_ble_eq_true rfl⟩).trans ?_
  rfl
set_option maxRecDepth 20000 in
theorem sg_X8_read_4 {I : Nat → Int32} {A : Nat → List Int32} {L : Nat → List Int64} {F : Nat → Int64} {E : MH} (s0 : Int32) : mm_run G0 136 4 [some (.ref 84), none, none, none] [.int s0] (HP I A L F E) = (if s0 ≠ 0 then mm_run G0 136 26 [some (.ref 84), some (.int s0), some (.int 0), some (.int 0)] [] (HP (fu I 8405 0) A L F E) else some (some (.int ((-10) - (I 8406))), (HP (fu I 8405 0) A L F E))) := by
  refine (sg_go ht_X8_read (k := 3) (pc' := 7) (L' := [some (.ref 84), some (.int s0), none, none]) (st' := [.int 0, .ref 84]) (h' := (HP I A L F E)) rfl).trans ?_
  refine (sg_putI (h' := (HP (fu I 8405 0) A L F E)) ht_X8_read rfl hp_o_84 (Nat.le_of_ble_eq_true rfl) hp_p_8405).trans ?_
  refine (sg_go ht_X8_read (k := 1) (pc' := 11) (L' := [some (.ref 84), some (.int s0), none, none]) (st' := [.int s0]) (h' := (HP (fu I 8405 0) A L F E)) rfl).trans ?_
  refine (sg_if ht_X8_read rfl).trans ?_
  refine ite_congr rfl (fun _ => ?_) (fun _ => ?_)
  · refine (sg_go ht_X8_read (k := 4) (pc' := 26) (L' := [some (.ref 84), some (.int s0), some (.int 0), some (.int 0)]) (st' := []) (h' := (HP (fu I 8405 0) A L F E)) rfl).trans ?_
    rfl
  · refine (sg_go ht_X8_read (k := 4) (pc' := 21) (L' := [some (.ref 84), some (.int s0), none, none]) (st' := [.int ((-10) - (I 8406))]) (h' := (HP (fu I 8405 0) A L F E)) rfl).trans ?_
    exact sg_ret ht_X8_read rfl rfl
set_option maxRecDepth 20000 in
theorem sg_X8_read_26 {I : Nat → Int32} {A : Nat → List Int32} {L : Nat → List Int64} {F : Nat → Int64} {E : MH} (v1 : Int32) (v2 : Int32) (v3 : Int32) : mm_run G0 136 26 [some (.ref 84), some (.int v1), some (.int v2), some (.int v3)] [] (HP I A L F E) = (if (I 8409) ≤ v3 then some (some (.int v2), (HP I A L F E)) else ((ldI (A 89) (3 * v3)).bind fun x1 => ((ldI (A 89) ((3 * v3) + 1)).bind fun x2 => ((ldI (A 89) ((3 * v3) + 2)).bind fun x3 => ((mm_call G0 135 [.ref 84, .int x1, .int x2, .int x3] (HP I A L F E)).bind fun q => mm_run G0 136 67 [some (.ref 84), some (.int v1), some (.int v2), some (.int v3)] (q.1.toList ++ [.int v2]) q.2))))) := by
  refine (sg_go ht_X8_read (k := 3) (pc' := 31) (L' := [some (.ref 84), some (.int v1), some (.int v2), some (.int v3)]) (st' := [.int (I 8409), .int v3]) (h' := (HP I A L F E)) rfl).trans ?_
  refine (sg_cmp ht_X8_read rfl).trans ?_
  refine ite_congr rfl (fun _ => ?_) (fun _ => ?_)
  · refine (sg_go ht_X8_read (k := 1) (pc' := 84) (L' := [some (.ref 84), some (.int v1), some (.int v2), some (.int v3)]) (st' := [.int v2]) (h' := (HP I A L F E)) rfl).trans ?_
    exact sg_ret ht_X8_read rfl rfl
  · refine (sg_go ht_X8_read (k := 7) (pc' := 43) (L' := [some (.ref 84), some (.int v1), some (.int v2), some (.int v3)]) (st' := [.int (3 * v3), .ref 89, .ref 84, .int v2]) (h' := (HP I A L F E)) rfl).trans ?_
    refine (sg_ldI ht_X8_read rfl hp_o_89).trans ?_
    refine bind_cg fun x1 hx1 => ?_
    refine (sg_go ht_X8_read (k := 7) (pc' := 53) (L' := [some (.ref 84), some (.int v1), some (.int v2), some (.int v3)]) (st' := [.int ((3 * v3) + 1), .ref 89, .int x1, .ref 84, .int v2]) (h' := (HP I A L F E)) rfl).trans ?_
    refine (sg_ldI ht_X8_read rfl hp_o_89).trans ?_
    refine bind_cg fun x2 hx2 => ?_
    refine (sg_go ht_X8_read (k := 7) (pc' := 63) (L' := [some (.ref 84), some (.int v1), some (.int v2), some (.int v3)]) (st' := [.int ((3 * v3) + 2), .ref 89, .int x2, .int x1, .ref 84, .int v2]) (h' := (HP I A L F E)) rfl).trans ?_
    refine (sg_ldI ht_X8_read rfl hp_o_89).trans ?_
    refine bind_cg fun x3 hx3 => ?_
    refine (sg_call ht_X8_read (mj := 135) (as := [.ref 84, .int x1, .int x2, .int x3]) (rest := [.int v2]) rfl rfl ⟨by decide, Nat.le_of_ble_eq_true rfl⟩).trans ?_
    rfl
set_option maxRecDepth 20000 in
theorem sg_X8_read_67 {I : Nat → Int32} {A : Nat → List Int32} {L : Nat → List Int64} {F : Nat → Int64} {E : MH} (v1 : Int32) (v2 : Int32) (v3 : Int32) (s0 : Int32) (s1 : Int32) : mm_run G0 136 67 [some (.ref 84), some (.int v1), some (.int v2), some (.int v3)] [.int s1, .int s0] (HP I A L F E) = (if s1 = 0 then mm_run G0 136 26 [some (.ref 84), some (.int v1), some (.int (s0 + 0)), some (.int (v3 + 1))] [] (HP I A L F E) else mm_run G0 136 26 [some (.ref 84), some (.int v1), some (.int (s0 + 1)), some (.int (v3 + 1))] [] (HP I A L F E)) := by
  refine (sg_if ht_X8_read rfl).trans ?_
  refine ite_congr rfl (fun _ => ?_) (fun _ => ?_)
  · refine (sg_go ht_X8_read (k := 5) (pc' := 26) (L' := [some (.ref 84), some (.int v1), some (.int (s0 + 0)), some (.int (v3 + 1))]) (st' := []) (h' := (HP I A L F E)) rfl).trans ?_
    rfl
  · refine (sg_go ht_X8_read (k := 6) (pc' := 26) (L' := [some (.ref 84), some (.int v1), some (.int (s0 + 1)), some (.int (v3 + 1))]) (st' := []) (h' := (HP I A L F E)) rfl).trans ?_
    rfl
set_option maxRecDepth 20000 in
theorem sg_X8_goesOn_0 {I : Nat → Int32} {A : Nat → List Int32} {L : Nat → List Int64} {F : Nat → Int64} {E : MH} (p1 : Int32) (p2 : Int32) (p3 : Int32) (p4 : Int32) : mm_call G0 137 [.ref 84, .int p1, .int p2, .int p3, .int p4] (HP I A L F E) = (if p4 ≤ (imax 0 (((I 8416) + p2) - p3)) then ((stI (A 92) (I 8415) p1).bind fun X1 => (if (imax 0 (((I 8416) + p2) - p3)) < p4 then ((stI (A 93) (I 8415) 1).bind fun X2 => (if (imax 0 (((I 8416) + p2) - p3)) < p4 then ((stI (A 94) (I 8415) (imax 0 (((I 8417) - p2) - p3))).bind fun X3 => some (some (.int 1), (HP (fu (fu (fu I 8416 (imax 0 (((I 8416) + p2) - p3))) 8417 (imax 0 (((I 8417) - p2) - p3))) 8415 ((I 8415) + 1)) (fu (fu (fu A 92 X1) 93 X2) 94 X3) L F E))) else ((stI (A 94) (I 8415) (imax 0 (((I 8416) + p2) - p3))).bind fun X4 => some (some (.int 1), (HP (fu (fu (fu I 8416 (imax 0 (((I 8416) + p2) - p3))) 8417 (imax 0 (((I 8417) - p2) - p3))) 8415 ((I 8415) + 1)) (fu (fu (fu A 92 X1) 93 X2) 94 X4) L F E))))) else ((stI (A 93) (I 8415) 0).bind fun X5 => (if (imax 0 (((I 8416) + p2) - p3)) < p4 then ((stI (A 94) (I 8415) (imax 0 (((I 8417) - p2) - p3))).bind fun X6 => some (some (.int 1), (HP (fu (fu (fu I 8416 (imax 0 (((I 8416) + p2) - p3))) 8417 (imax 0 (((I 8417) - p2) - p3))) 8415 ((I 8415) + 1)) (fu (fu (fu A 92 X1) 93 X5) 94 X6) L F E))) else ((stI (A 94) (I 8415) (imax 0 (((I 8416) + p2) - p3))).bind fun X7 => some (some (.int 1), (HP (fu (fu (fu I 8416 (imax 0 (((I 8416) + p2) - p3))) 8417 (imax 0 (((I 8417) - p2) - p3))) 8415 ((I 8415) + 1)) (fu (fu (fu A 92 X1) 93 X5) 94 X7) L F E))))))) else (if p4 ≤ (imax 0 (((I 8417) - p2) - p3)) then ((stI (A 92) (I 8415) p1).bind fun X8 => (if (imax 0 (((I 8416) + p2) - p3)) < p4 then ((stI (A 93) (I 8415) 1).bind fun X9 => (if (imax 0 (((I 8416) + p2) - p3)) < p4 then ((stI (A 94) (I 8415) (imax 0 (((I 8417) - p2) - p3))).bind fun X10 => some (some (.int 1), (HP (fu (fu (fu I 8416 (imax 0 (((I 8416) + p2) - p3))) 8417 (imax 0 (((I 8417) - p2) - p3))) 8415 ((I 8415) + 1)) (fu (fu (fu A 92 X8) 93 X9) 94 X10) L F E))) else ((stI (A 94) (I 8415) (imax 0 (((I 8416) + p2) - p3))).bind fun X11 => some (some (.int 1), (HP (fu (fu (fu I 8416 (imax 0 (((I 8416) + p2) - p3))) 8417 (imax 0 (((I 8417) - p2) - p3))) 8415 ((I 8415) + 1)) (fu (fu (fu A 92 X8) 93 X9) 94 X11) L F E))))) else ((stI (A 93) (I 8415) 0).bind fun X12 => (if (imax 0 (((I 8416) + p2) - p3)) < p4 then ((stI (A 94) (I 8415) (imax 0 (((I 8417) - p2) - p3))).bind fun X13 => some (some (.int 1), (HP (fu (fu (fu I 8416 (imax 0 (((I 8416) + p2) - p3))) 8417 (imax 0 (((I 8417) - p2) - p3))) 8415 ((I 8415) + 1)) (fu (fu (fu A 92 X8) 93 X12) 94 X13) L F E))) else ((stI (A 94) (I 8415) (imax 0 (((I 8416) + p2) - p3))).bind fun X14 => some (some (.int 1), (HP (fu (fu (fu I 8416 (imax 0 (((I 8416) + p2) - p3))) 8417 (imax 0 (((I 8417) - p2) - p3))) 8415 ((I 8415) + 1)) (fu (fu (fu A 92 X8) 93 X12) 94 X14) L F E))))))) else some (some (.int 0), (HP (fu (fu I 8416 (imax 0 (((I 8416) + p2) - p3))) 8417 (imax 0 (((I 8417) - p2) - p3))) A L F E)))) := by
  show mm_run G0 137 0 [some (.ref 84), some (.int p1), some (.int p2), some (.int p3), some (.int p4)] [] (HP I A L F E) = _
  refine (sg_go ht_X8_goesOn (k := 9) (pc' := 13) (L' := [some (.ref 84), some (.int p1), some (.int p2), some (.int p3), some (.int p4)]) (st' := [.int (imax 0 (((I 8416) + p2) - p3)), .ref 84]) (h' := (HP I A L F E)) rfl).trans ?_
  refine (sg_putI (h' := (HP (fu I 8416 (imax 0 (((I 8416) + p2) - p3))) A L F E)) ht_X8_goesOn rfl hp_o_84 (Nat.le_of_ble_eq_true rfl) hp_p_8416).trans ?_
  refine (sg_go ht_X8_goesOn (k := 9) (pc' := 29) (L' := [some (.ref 84), some (.int p1), some (.int p2), some (.int p3), some (.int p4)]) (st' := [.int (imax 0 (((I 8417) - p2) - p3)), .ref 84]) (h' := (HP (fu I 8416 (imax 0 (((I 8416) + p2) - p3))) A L F E)) rfl).trans ?_
  refine (sg_putI (h' := (HP (fu (fu I 8416 (imax 0 (((I 8416) + p2) - p3))) 8417 (imax 0 (((I 8417) - p2) - p3))) A L F E)) ht_X8_goesOn rfl hp_o_84 (Nat.le_of_ble_eq_true rfl) hp_p_8417).trans ?_
  refine (sg_go ht_X8_goesOn (k := 3) (pc' := 38) (L' := [some (.ref 84), some (.int p1), some (.int p2), some (.int p3), some (.int p4)]) (st' := [.int p4, .int (imax 0 (((I 8416) + p2) - p3))]) (h' := (HP (fu (fu I 8416 (imax 0 (((I 8416) + p2) - p3))) 8417 (imax 0 (((I 8417) - p2) - p3))) A L F E)) rfl).trans ?_
  refine (sg_cmp ht_X8_goesOn rfl).trans ?_
  refine ite_congr rfl (fun _ => ?_) (fun _ => ?_)
  · refine (sg_go ht_X8_goesOn (k := 5) (pc' := 61) (L' := [some (.ref 84), some (.int p1), some (.int p2), some (.int p3), some (.int p4)]) (st' := [.int p1, .int (I 8415), .ref 92]) (h' := (HP (fu (fu I 8416 (imax 0 (((I 8416) + p2) - p3))) 8417 (imax 0 (((I 8417) - p2) - p3))) A L F E)) rfl).trans ?_
    refine (sg_stI (hh := fun X1 => (HP (fu (fu I 8416 (imax 0 (((I 8416) + p2) - p3))) 8417 (imax 0 (((I 8417) - p2) - p3))) (fu A 92 X1) L F E)) ht_X8_goesOn rfl hp_o_92 (fun _ => hp_s_92)).trans ?_
    refine bind_cg fun X1 hX1 => ?_
    refine (sg_go ht_X8_goesOn (k := 7) (pc' := 76) (L' := [some (.ref 84), some (.int p1), some (.int p2), some (.int p3), some (.int p4)]) (st' := [.int p4, .int (imax 0 (((I 8416) + p2) - p3)), .int (I 8415), .ref 93]) (h' := (HP (fu (fu I 8416 (imax 0 (((I 8416) + p2) - p3))) 8417 (imax 0 (((I 8417) - p2) - p3))) (fu A 92 X1) L F E)) rfl).trans ?_
    refine (sg_cmp ht_X8_goesOn rfl).trans ?_
    refine ite_congr rfl (fun _ => ?_) (fun _ => ?_)
    · refine (sg_go ht_X8_goesOn (k := 1) (pc' := 84) (L' := [some (.ref 84), some (.int p1), some (.int p2), some (.int p3), some (.int p4)]) (st' := [.int 1, .int (I 8415), .ref 93]) (h' := (HP (fu (fu I 8416 (imax 0 (((I 8416) + p2) - p3))) 8417 (imax 0 (((I 8417) - p2) - p3))) (fu A 92 X1) L F E)) rfl).trans ?_
      refine (sg_stI (hh := fun X2 => (HP (fu (fu I 8416 (imax 0 (((I 8416) + p2) - p3))) 8417 (imax 0 (((I 8417) - p2) - p3))) (fu (fu A 92 X1) 93 X2) L F E)) ht_X8_goesOn rfl hp_o_93 (fun _ => hp_s_93)).trans ?_
      refine bind_cg fun X2 hX2 => ?_
      refine (sg_go ht_X8_goesOn (k := 7) (pc' := 99) (L' := [some (.ref 84), some (.int p1), some (.int p2), some (.int p3), some (.int p4)]) (st' := [.int p4, .int (imax 0 (((I 8416) + p2) - p3)), .int (I 8415), .ref 94]) (h' := (HP (fu (fu I 8416 (imax 0 (((I 8416) + p2) - p3))) 8417 (imax 0 (((I 8417) - p2) - p3))) (fu (fu A 92 X1) 93 X2) L F E)) rfl).trans ?_
      refine (sg_cmp ht_X8_goesOn rfl).trans ?_
      refine ite_congr rfl (fun _ => ?_) (fun _ => ?_)
      · refine (sg_go ht_X8_goesOn (k := 2) (pc' := 113) (L' := [some (.ref 84), some (.int p1), some (.int p2), some (.int p3), some (.int p4)]) (st' := [.int (imax 0 (((I 8417) - p2) - p3)), .int (I 8415), .ref 94]) (h' := (HP (fu (fu I 8416 (imax 0 (((I 8416) + p2) - p3))) 8417 (imax 0 (((I 8417) - p2) - p3))) (fu (fu A 92 X1) 93 X2) L F E)) rfl).trans ?_
        refine (sg_stI (hh := fun X3 => (HP (fu (fu I 8416 (imax 0 (((I 8416) + p2) - p3))) 8417 (imax 0 (((I 8417) - p2) - p3))) (fu (fu (fu A 92 X1) 93 X2) 94 X3) L F E)) ht_X8_goesOn rfl hp_o_94 (fun _ => hp_s_94)).trans ?_
        refine bind_cg fun X3 hX3 => ?_
        refine (sg_go ht_X8_goesOn (k := 5) (pc' := 121) (L' := [some (.ref 84), some (.int p1), some (.int p2), some (.int p3), some (.int p4)]) (st' := [.int ((I 8415) + 1), .ref 84]) (h' := (HP (fu (fu I 8416 (imax 0 (((I 8416) + p2) - p3))) 8417 (imax 0 (((I 8417) - p2) - p3))) (fu (fu (fu A 92 X1) 93 X2) 94 X3) L F E)) rfl).trans ?_
        refine (sg_putI (h' := (HP (fu (fu (fu I 8416 (imax 0 (((I 8416) + p2) - p3))) 8417 (imax 0 (((I 8417) - p2) - p3))) 8415 ((I 8415) + 1)) (fu (fu (fu A 92 X1) 93 X2) 94 X3) L F E)) ht_X8_goesOn rfl hp_o_84 (Nat.le_of_ble_eq_true rfl) hp_p_8415).trans ?_
        refine (sg_go ht_X8_goesOn (k := 1) (pc' := 125) (L' := [some (.ref 84), some (.int p1), some (.int p2), some (.int p3), some (.int p4)]) (st' := [.int 1]) (h' := (HP (fu (fu (fu I 8416 (imax 0 (((I 8416) + p2) - p3))) 8417 (imax 0 (((I 8417) - p2) - p3))) 8415 ((I 8415) + 1)) (fu (fu (fu A 92 X1) 93 X2) 94 X3) L F E)) rfl).trans ?_
        exact sg_ret ht_X8_goesOn rfl rfl
      · refine (sg_go ht_X8_goesOn (k := 3) (pc' := 113) (L' := [some (.ref 84), some (.int p1), some (.int p2), some (.int p3), some (.int p4)]) (st' := [.int (imax 0 (((I 8416) + p2) - p3)), .int (I 8415), .ref 94]) (h' := (HP (fu (fu I 8416 (imax 0 (((I 8416) + p2) - p3))) 8417 (imax 0 (((I 8417) - p2) - p3))) (fu (fu A 92 X1) 93 X2) L F E)) rfl).trans ?_
        refine (sg_stI (hh := fun X4 => (HP (fu (fu I 8416 (imax 0 (((I 8416) + p2) - p3))) 8417 (imax 0 (((I 8417) - p2) - p3))) (fu (fu (fu A 92 X1) 93 X2) 94 X4) L F E)) ht_X8_goesOn rfl hp_o_94 (fun _ => hp_s_94)).trans ?_
        refine bind_cg fun X4 hX4 => ?_
        refine (sg_go ht_X8_goesOn (k := 5) (pc' := 121) (L' := [some (.ref 84), some (.int p1), some (.int p2), some (.int p3), some (.int p4)]) (st' := [.int ((I 8415) + 1), .ref 84]) (h' := (HP (fu (fu I 8416 (imax 0 (((I 8416) + p2) - p3))) 8417 (imax 0 (((I 8417) - p2) - p3))) (fu (fu (fu A 92 X1) 93 X2) 94 X4) L F E)) rfl).trans ?_
        refine (sg_putI (h' := (HP (fu (fu (fu I 8416 (imax 0 (((I 8416) + p2) - p3))) 8417 (imax 0 (((I 8417) - p2) - p3))) 8415 ((I 8415) + 1)) (fu (fu (fu A 92 X1) 93 X2) 94 X4) L F E)) ht_X8_goesOn rfl hp_o_84 (Nat.le_of_ble_eq_true rfl) hp_p_8415).trans ?_
        refine (sg_go ht_X8_goesOn (k := 1) (pc' := 125) (L' := [some (.ref 84), some (.int p1), some (.int p2), some (.int p3), some (.int p4)]) (st' := [.int 1]) (h' := (HP (fu (fu (fu I 8416 (imax 0 (((I 8416) + p2) - p3))) 8417 (imax 0 (((I 8417) - p2) - p3))) 8415 ((I 8415) + 1)) (fu (fu (fu A 92 X1) 93 X2) 94 X4) L F E)) rfl).trans ?_
        exact sg_ret ht_X8_goesOn rfl rfl
    · refine (sg_go ht_X8_goesOn (k := 2) (pc' := 84) (L' := [some (.ref 84), some (.int p1), some (.int p2), some (.int p3), some (.int p4)]) (st' := [.int 0, .int (I 8415), .ref 93]) (h' := (HP (fu (fu I 8416 (imax 0 (((I 8416) + p2) - p3))) 8417 (imax 0 (((I 8417) - p2) - p3))) (fu A 92 X1) L F E)) rfl).trans ?_
      refine (sg_stI (hh := fun X5 => (HP (fu (fu I 8416 (imax 0 (((I 8416) + p2) - p3))) 8417 (imax 0 (((I 8417) - p2) - p3))) (fu (fu A 92 X1) 93 X5) L F E)) ht_X8_goesOn rfl hp_o_93 (fun _ => hp_s_93)).trans ?_
      refine bind_cg fun X5 hX5 => ?_
      refine (sg_go ht_X8_goesOn (k := 7) (pc' := 99) (L' := [some (.ref 84), some (.int p1), some (.int p2), some (.int p3), some (.int p4)]) (st' := [.int p4, .int (imax 0 (((I 8416) + p2) - p3)), .int (I 8415), .ref 94]) (h' := (HP (fu (fu I 8416 (imax 0 (((I 8416) + p2) - p3))) 8417 (imax 0 (((I 8417) - p2) - p3))) (fu (fu A 92 X1) 93 X5) L F E)) rfl).trans ?_
      refine (sg_cmp ht_X8_goesOn rfl).trans ?_
      refine ite_congr rfl (fun _ => ?_) (fun _ => ?_)
      · refine (sg_go ht_X8_goesOn (k := 2) (pc' := 113) (L' := [some (.ref 84), some (.int p1), some (.int p2), some (.int p3), some (.int p4)]) (st' := [.int (imax 0 (((I 8417) - p2) - p3)), .int (I 8415), .ref 94]) (h' := (HP (fu (fu I 8416 (imax 0 (((I 8416) + p2) - p3))) 8417 (imax 0 (((I 8417) - p2) - p3))) (fu (fu A 92 X1) 93 X5) L F E)) rfl).trans ?_
        refine (sg_stI (hh := fun X6 => (HP (fu (fu I 8416 (imax 0 (((I 8416) + p2) - p3))) 8417 (imax 0 (((I 8417) - p2) - p3))) (fu (fu (fu A 92 X1) 93 X5) 94 X6) L F E)) ht_X8_goesOn rfl hp_o_94 (fun _ => hp_s_94)).trans ?_
        refine bind_cg fun X6 hX6 => ?_
        refine (sg_go ht_X8_goesOn (k := 5) (pc' := 121) (L' := [some (.ref 84), some (.int p1), some (.int p2), some (.int p3), some (.int p4)]) (st' := [.int ((I 8415) + 1), .ref 84]) (h' := (HP (fu (fu I 8416 (imax 0 (((I 8416) + p2) - p3))) 8417 (imax 0 (((I 8417) - p2) - p3))) (fu (fu (fu A 92 X1) 93 X5) 94 X6) L F E)) rfl).trans ?_
        refine (sg_putI (h' := (HP (fu (fu (fu I 8416 (imax 0 (((I 8416) + p2) - p3))) 8417 (imax 0 (((I 8417) - p2) - p3))) 8415 ((I 8415) + 1)) (fu (fu (fu A 92 X1) 93 X5) 94 X6) L F E)) ht_X8_goesOn rfl hp_o_84 (Nat.le_of_ble_eq_true rfl) hp_p_8415).trans ?_
        refine (sg_go ht_X8_goesOn (k := 1) (pc' := 125) (L' := [some (.ref 84), some (.int p1), some (.int p2), some (.int p3), some (.int p4)]) (st' := [.int 1]) (h' := (HP (fu (fu (fu I 8416 (imax 0 (((I 8416) + p2) - p3))) 8417 (imax 0 (((I 8417) - p2) - p3))) 8415 ((I 8415) + 1)) (fu (fu (fu A 92 X1) 93 X5) 94 X6) L F E)) rfl).trans ?_
        exact sg_ret ht_X8_goesOn rfl rfl
      · refine (sg_go ht_X8_goesOn (k := 3) (pc' := 113) (L' := [some (.ref 84), some (.int p1), some (.int p2), some (.int p3), some (.int p4)]) (st' := [.int (imax 0 (((I 8416) + p2) - p3)), .int (I 8415), .ref 94]) (h' := (HP (fu (fu I 8416 (imax 0 (((I 8416) + p2) - p3))) 8417 (imax 0 (((I 8417) - p2) - p3))) (fu (fu A 92 X1) 93 X5) L F E)) rfl).trans ?_
        refine (sg_stI (hh := fun X7 => (HP (fu (fu I 8416 (imax 0 (((I 8416) + p2) - p3))) 8417 (imax 0 (((I 8417) - p2) - p3))) (fu (fu (fu A 92 X1) 93 X5) 94 X7) L F E)) ht_X8_goesOn rfl hp_o_94 (fun _ => hp_s_94)).trans ?_
        refine bind_cg fun X7 hX7 => ?_
        refine (sg_go ht_X8_goesOn (k := 5) (pc' := 121) (L' := [some (.ref 84), some (.int p1), some (.int p2), some (.int p3), some (.int p4)]) (st' := [.int ((I 8415) + 1), .ref 84]) (h' := (HP (fu (fu I 8416 (imax 0 (((I 8416) + p2) - p3))) 8417 (imax 0 (((I 8417) - p2) - p3))) (fu (fu (fu A 92 X1) 93 X5) 94 X7) L F E)) rfl).trans ?_
        refine (sg_putI (h' := (HP (fu (fu (fu I 8416 (imax 0 (((I 8416) + p2) - p3))) 8417 (imax 0 (((I 8417) - p2) - p3))) 8415 ((I 8415) + 1)) (fu (fu (fu A 92 X1) 93 X5) 94 X7) L F E)) ht_X8_goesOn rfl hp_o_84 (Nat.le_of_ble_eq_true rfl) hp_p_8415).trans ?_
        refine (sg_go ht_X8_goesOn (k := 1) (pc' := 125) (L' := [some (.ref 84), some (.int p1), some (.int p2), some (.int p3), some (.int p4)]) (st' := [.int 1]) (h' := (HP (fu (fu (fu I 8416 (imax 0 (((I 8416) + p2) - p3))) 8417 (imax 0 (((I 8417) - p2) - p3))) 8415 ((I 8415) + 1)) (fu (fu (fu A 92 X1) 93 X5) 94 X7) L F E)) rfl).trans ?_
        exact sg_ret ht_X8_goesOn rfl rfl
  · refine (sg_go ht_X8_goesOn (k := 3) (pc' := 47) (L' := [some (.ref 84), some (.int p1), some (.int p2), some (.int p3), some (.int p4)]) (st' := [.int p4, .int (imax 0 (((I 8417) - p2) - p3))]) (h' := (HP (fu (fu I 8416 (imax 0 (((I 8416) + p2) - p3))) 8417 (imax 0 (((I 8417) - p2) - p3))) A L F E)) rfl).trans ?_
    refine (sg_cmp ht_X8_goesOn rfl).trans ?_
    refine ite_congr rfl (fun _ => ?_) (fun _ => ?_)
    · refine (sg_go ht_X8_goesOn (k := 5) (pc' := 61) (L' := [some (.ref 84), some (.int p1), some (.int p2), some (.int p3), some (.int p4)]) (st' := [.int p1, .int (I 8415), .ref 92]) (h' := (HP (fu (fu I 8416 (imax 0 (((I 8416) + p2) - p3))) 8417 (imax 0 (((I 8417) - p2) - p3))) A L F E)) rfl).trans ?_
      refine (sg_stI (hh := fun X8 => (HP (fu (fu I 8416 (imax 0 (((I 8416) + p2) - p3))) 8417 (imax 0 (((I 8417) - p2) - p3))) (fu A 92 X8) L F E)) ht_X8_goesOn rfl hp_o_92 (fun _ => hp_s_92)).trans ?_
      refine bind_cg fun X8 hX8 => ?_
      refine (sg_go ht_X8_goesOn (k := 7) (pc' := 76) (L' := [some (.ref 84), some (.int p1), some (.int p2), some (.int p3), some (.int p4)]) (st' := [.int p4, .int (imax 0 (((I 8416) + p2) - p3)), .int (I 8415), .ref 93]) (h' := (HP (fu (fu I 8416 (imax 0 (((I 8416) + p2) - p3))) 8417 (imax 0 (((I 8417) - p2) - p3))) (fu A 92 X8) L F E)) rfl).trans ?_
      refine (sg_cmp ht_X8_goesOn rfl).trans ?_
      refine ite_congr rfl (fun _ => ?_) (fun _ => ?_)
      · refine (sg_go ht_X8_goesOn (k := 1) (pc' := 84) (L' := [some (.ref 84), some (.int p1), some (.int p2), some (.int p3), some (.int p4)]) (st' := [.int 1, .int (I 8415), .ref 93]) (h' := (HP (fu (fu I 8416 (imax 0 (((I 8416) + p2) - p3))) 8417 (imax 0 (((I 8417) - p2) - p3))) (fu A 92 X8) L F E)) rfl).trans ?_
        refine (sg_stI (hh := fun X9 => (HP (fu (fu I 8416 (imax 0 (((I 8416) + p2) - p3))) 8417 (imax 0 (((I 8417) - p2) - p3))) (fu (fu A 92 X8) 93 X9) L F E)) ht_X8_goesOn rfl hp_o_93 (fun _ => hp_s_93)).trans ?_
        refine bind_cg fun X9 hX9 => ?_
        refine (sg_go ht_X8_goesOn (k := 7) (pc' := 99) (L' := [some (.ref 84), some (.int p1), some (.int p2), some (.int p3), some (.int p4)]) (st' := [.int p4, .int (imax 0 (((I 8416) + p2) - p3)), .int (I 8415), .ref 94]) (h' := (HP (fu (fu I 8416 (imax 0 (((I 8416) + p2) - p3))) 8417 (imax 0 (((I 8417) - p2) - p3))) (fu (fu A 92 X8) 93 X9) L F E)) rfl).trans ?_
        refine (sg_cmp ht_X8_goesOn rfl).trans ?_
        refine ite_congr rfl (fun _ => ?_) (fun _ => ?_)
        · refine (sg_go ht_X8_goesOn (k := 2) (pc' := 113) (L' := [some (.ref 84), some (.int p1), some (.int p2), some (.int p3), some (.int p4)]) (st' := [.int (imax 0 (((I 8417) - p2) - p3)), .int (I 8415), .ref 94]) (h' := (HP (fu (fu I 8416 (imax 0 (((I 8416) + p2) - p3))) 8417 (imax 0 (((I 8417) - p2) - p3))) (fu (fu A 92 X8) 93 X9) L F E)) rfl).trans ?_
          refine (sg_stI (hh := fun X10 => (HP (fu (fu I 8416 (imax 0 (((I 8416) + p2) - p3))) 8417 (imax 0 (((I 8417) - p2) - p3))) (fu (fu (fu A 92 X8) 93 X9) 94 X10) L F E)) ht_X8_goesOn rfl hp_o_94 (fun _ => hp_s_94)).trans ?_
          refine bind_cg fun X10 hX10 => ?_
          refine (sg_go ht_X8_goesOn (k := 5) (pc' := 121) (L' := [some (.ref 84), some (.int p1), some (.int p2), some (.int p3), some (.int p4)]) (st' := [.int ((I 8415) + 1), .ref 84]) (h' := (HP (fu (fu I 8416 (imax 0 (((I 8416) + p2) - p3))) 8417 (imax 0 (((I 8417) - p2) - p3))) (fu (fu (fu A 92 X8) 93 X9) 94 X10) L F E)) rfl).trans ?_
          refine (sg_putI (h' := (HP (fu (fu (fu I 8416 (imax 0 (((I 8416) + p2) - p3))) 8417 (imax 0 (((I 8417) - p2) - p3))) 8415 ((I 8415) + 1)) (fu (fu (fu A 92 X8) 93 X9) 94 X10) L F E)) ht_X8_goesOn rfl hp_o_84 (Nat.le_of_ble_eq_true rfl) hp_p_8415).trans ?_
          refine (sg_go ht_X8_goesOn (k := 1) (pc' := 125) (L' := [some (.ref 84), some (.int p1), some (.int p2), some (.int p3), some (.int p4)]) (st' := [.int 1]) (h' := (HP (fu (fu (fu I 8416 (imax 0 (((I 8416) + p2) - p3))) 8417 (imax 0 (((I 8417) - p2) - p3))) 8415 ((I 8415) + 1)) (fu (fu (fu A 92 X8) 93 X9) 94 X10) L F E)) rfl).trans ?_
          exact sg_ret ht_X8_goesOn rfl rfl
        · refine (sg_go ht_X8_goesOn (k := 3) (pc' := 113) (L' := [some (.ref 84), some (.int p1), some (.int p2), some (.int p3), some (.int p4)]) (st' := [.int (imax 0 (((I 8416) + p2) - p3)), .int (I 8415), .ref 94]) (h' := (HP (fu (fu I 8416 (imax 0 (((I 8416) + p2) - p3))) 8417 (imax 0 (((I 8417) - p2) - p3))) (fu (fu A 92 X8) 93 X9) L F E)) rfl).trans ?_
          refine (sg_stI (hh := fun X11 => (HP (fu (fu I 8416 (imax 0 (((I 8416) + p2) - p3))) 8417 (imax 0 (((I 8417) - p2) - p3))) (fu (fu (fu A 92 X8) 93 X9) 94 X11) L F E)) ht_X8_goesOn rfl hp_o_94 (fun _ => hp_s_94)).trans ?_
          refine bind_cg fun X11 hX11 => ?_
          refine (sg_go ht_X8_goesOn (k := 5) (pc' := 121) (L' := [some (.ref 84), some (.int p1), some (.int p2), some (.int p3), some (.int p4)]) (st' := [.int ((I 8415) + 1), .ref 84]) (h' := (HP (fu (fu I 8416 (imax 0 (((I 8416) + p2) - p3))) 8417 (imax 0 (((I 8417) - p2) - p3))) (fu (fu (fu A 92 X8) 93 X9) 94 X11) L F E)) rfl).trans ?_
          refine (sg_putI (h' := (HP (fu (fu (fu I 8416 (imax 0 (((I 8416) + p2) - p3))) 8417 (imax 0 (((I 8417) - p2) - p3))) 8415 ((I 8415) + 1)) (fu (fu (fu A 92 X8) 93 X9) 94 X11) L F E)) ht_X8_goesOn rfl hp_o_84 (Nat.le_of_ble_eq_true rfl) hp_p_8415).trans ?_
          refine (sg_go ht_X8_goesOn (k := 1) (pc' := 125) (L' := [some (.ref 84), some (.int p1), some (.int p2), some (.int p3), some (.int p4)]) (st' := [.int 1]) (h' := (HP (fu (fu (fu I 8416 (imax 0 (((I 8416) + p2) - p3))) 8417 (imax 0 (((I 8417) - p2) - p3))) 8415 ((I 8415) + 1)) (fu (fu (fu A 92 X8) 93 X9) 94 X11) L F E)) rfl).trans ?_
          exact sg_ret ht_X8_goesOn rfl rfl
      · refine (sg_go ht_X8_goesOn (k := 2) (pc' := 84) (L' := [some (.ref 84), some (.int p1), some (.int p2), some (.int p3), some (.int p4)]) (st' := [.int 0, .int (I 8415), .ref 93]) (h' := (HP (fu (fu I 8416 (imax 0 (((I 8416) + p2) - p3))) 8417 (imax 0 (((I 8417) - p2) - p3))) (fu A 92 X8) L F E)) rfl).trans ?_
        refine (sg_stI (hh := fun X12 => (HP (fu (fu I 8416 (imax 0 (((I 8416) + p2) - p3))) 8417 (imax 0 (((I 8417) - p2) - p3))) (fu (fu A 92 X8) 93 X12) L F E)) ht_X8_goesOn rfl hp_o_93 (fun _ => hp_s_93)).trans ?_
        refine bind_cg fun X12 hX12 => ?_
        refine (sg_go ht_X8_goesOn (k := 7) (pc' := 99) (L' := [some (.ref 84), some (.int p1), some (.int p2), some (.int p3), some (.int p4)]) (st' := [.int p4, .int (imax 0 (((I 8416) + p2) - p3)), .int (I 8415), .ref 94]) (h' := (HP (fu (fu I 8416 (imax 0 (((I 8416) + p2) - p3))) 8417 (imax 0 (((I 8417) - p2) - p3))) (fu (fu A 92 X8) 93 X12) L F E)) rfl).trans ?_
        refine (sg_cmp ht_X8_goesOn rfl).trans ?_
        refine ite_congr rfl (fun _ => ?_) (fun _ => ?_)
        · refine (sg_go ht_X8_goesOn (k := 2) (pc' := 113) (L' := [some (.ref 84), some (.int p1), some (.int p2), some (.int p3), some (.int p4)]) (st' := [.int (imax 0 (((I 8417) - p2) - p3)), .int (I 8415), .ref 94]) (h' := (HP (fu (fu I 8416 (imax 0 (((I 8416) + p2) - p3))) 8417 (imax 0 (((I 8417) - p2) - p3))) (fu (fu A 92 X8) 93 X12) L F E)) rfl).trans ?_
          refine (sg_stI (hh := fun X13 => (HP (fu (fu I 8416 (imax 0 (((I 8416) + p2) - p3))) 8417 (imax 0 (((I 8417) - p2) - p3))) (fu (fu (fu A 92 X8) 93 X12) 94 X13) L F E)) ht_X8_goesOn rfl hp_o_94 (fun _ => hp_s_94)).trans ?_
          refine bind_cg fun X13 hX13 => ?_
          refine (sg_go ht_X8_goesOn (k := 5) (pc' := 121) (L' := [some (.ref 84), some (.int p1), some (.int p2), some (.int p3), some (.int p4)]) (st' := [.int ((I 8415) + 1), .ref 84]) (h' := (HP (fu (fu I 8416 (imax 0 (((I 8416) + p2) - p3))) 8417 (imax 0 (((I 8417) - p2) - p3))) (fu (fu (fu A 92 X8) 93 X12) 94 X13) L F E)) rfl).trans ?_
          refine (sg_putI (h' := (HP (fu (fu (fu I 8416 (imax 0 (((I 8416) + p2) - p3))) 8417 (imax 0 (((I 8417) - p2) - p3))) 8415 ((I 8415) + 1)) (fu (fu (fu A 92 X8) 93 X12) 94 X13) L F E)) ht_X8_goesOn rfl hp_o_84 (Nat.le_of_ble_eq_true rfl) hp_p_8415).trans ?_
          refine (sg_go ht_X8_goesOn (k := 1) (pc' := 125) (L' := [some (.ref 84), some (.int p1), some (.int p2), some (.int p3), some (.int p4)]) (st' := [.int 1]) (h' := (HP (fu (fu (fu I 8416 (imax 0 (((I 8416) + p2) - p3))) 8417 (imax 0 (((I 8417) - p2) - p3))) 8415 ((I 8415) + 1)) (fu (fu (fu A 92 X8) 93 X12) 94 X13) L F E)) rfl).trans ?_
          exact sg_ret ht_X8_goesOn rfl rfl
        · refine (sg_go ht_X8_goesOn (k := 3) (pc' := 113) (L' := [some (.ref 84), some (.int p1), some (.int p2), some (.int p3), some (.int p4)]) (st' := [.int (imax 0 (((I 8416) + p2) - p3)), .int (I 8415), .ref 94]) (h' := (HP (fu (fu I 8416 (imax 0 (((I 8416) + p2) - p3))) 8417 (imax 0 (((I 8417) - p2) - p3))) (fu (fu A 92 X8) 93 X12) L F E)) rfl).trans ?_
          refine (sg_stI (hh := fun X14 => (HP (fu (fu I 8416 (imax 0 (((I 8416) + p2) - p3))) 8417 (imax 0 (((I 8417) - p2) - p3))) (fu (fu (fu A 92 X8) 93 X12) 94 X14) L F E)) ht_X8_goesOn rfl hp_o_94 (fun _ => hp_s_94)).trans ?_
          refine bind_cg fun X14 hX14 => ?_
          refine (sg_go ht_X8_goesOn (k := 5) (pc' := 121) (L' := [some (.ref 84), some (.int p1), some (.int p2), some (.int p3), some (.int p4)]) (st' := [.int ((I 8415) + 1), .ref 84]) (h' := (HP (fu (fu I 8416 (imax 0 (((I 8416) + p2) - p3))) 8417 (imax 0 (((I 8417) - p2) - p3))) (fu (fu (fu A 92 X8) 93 X12) 94 X14) L F E)) rfl).trans ?_
          refine (sg_putI (h' := (HP (fu (fu (fu I 8416 (imax 0 (((I 8416) + p2) - p3))) 8417 (imax 0 (((I 8417) - p2) - p3))) 8415 ((I 8415) + 1)) (fu (fu (fu A 92 X8) 93 X12) 94 X14) L F E)) ht_X8_goesOn rfl hp_o_84 (Nat.le_of_ble_eq_true rfl) hp_p_8415).trans ?_
          refine (sg_go ht_X8_goesOn (k := 1) (pc' := 125) (L' := [some (.ref 84), some (.int p1), some (.int p2), some (.int p3), some (.int p4)]) (st' := [.int 1]) (h' := (HP (fu (fu (fu I 8416 (imax 0 (((I 8416) + p2) - p3))) 8417 (imax 0 (((I 8417) - p2) - p3))) 8415 ((I 8415) + 1)) (fu (fu (fu A 92 X8) 93 X12) 94 X14) L F E)) rfl).trans ?_
          exact sg_ret ht_X8_goesOn rfl rfl
    · refine (sg_go ht_X8_goesOn (k := 1) (pc' := 51) (L' := [some (.ref 84), some (.int p1), some (.int p2), some (.int p3), some (.int p4)]) (st' := [.int 0]) (h' := (HP (fu (fu I 8416 (imax 0 (((I 8416) + p2) - p3))) 8417 (imax 0 (((I 8417) - p2) - p3))) A L F E)) rfl).trans ?_
      exact sg_ret ht_X8_goesOn rfl rfl
set_option maxRecDepth 20000 in
theorem sg_X8_goesThrough_0 {I : Nat → Int32} {A : Nat → List Int32} {L : Nat → List Int64} {F : Nat → Int64} {E : MH} (p1 : Int32) : mm_call G0 138 [.ref 84, .int p1] (HP I A L F E) = ((ldI (A 85) ((45 * p1) + 0)).bind fun x1 => (if x1 = 1 then ((ldI (A 85) ((45 * p1) + 3)).bind fun x2 => mm_run G0 138 26 [some (.ref 84), some (.int p1), some (.int (x2 / 2)), some (.int 0), some (.int 0)] [] (HP (fu (fu (fu I 8416 (x2 / 2)) 8417 (x2 / 2)) 8415 0) A L F E)) else (if x1 ≠ 3 then mm_run G0 138 26 [some (.ref 84), some (.int p1), some (.int 0), some (.int 0), some (.int 0)] [] (HP (fu (fu (fu I 8416 0) 8417 0) 8415 0) A L F E) else ((ldI (A 85) ((45 * p1) + 3)).bind fun x3 => mm_run G0 138 26 [some (.ref 84), some (.int p1), some (.int (x3 / 2)), some (.int 0), some (.int 0)] [] (HP (fu (fu (fu I 8416 (x3 / 2)) 8417 (x3 / 2)) 8415 0) A L F E))))) := by
  show mm_run G0 138 0 [some (.ref 84), some (.int p1), none, none, none] [] (HP I A L F E) = _
  refine (sg_go ht_X8_goesThrough (k := 2) (pc' := 2) (L' := [some (.ref 84), some (.int p1), none, none, none]) (st' := [.int p1, .ref 84]) (h' := (HP I A L F E)) rfl).trans ?_
  refine (sg_call ht_X8_goesThrough (mj := 123) (as := [.ref 84, .int p1]) (rest := []) rfl rfl ⟨by decide, Nat.le_of_ble_eq_true rfl⟩).trans ?_
  refine (bind_eq (sg_X8_startOf_0 p1)).trans ?_
  refine bind_as.trans ?_
  refine bind_cg fun x1 hx1 => ?_
  refine ite_bd.trans ?_
  refine ite_congr rfl (fun _ => ?_) (fun _ => ?_)
  · refine bind_as.trans ?_
    refine bind_cg fun x2 hx2 => ?_
    show mm_run G0 138 5 [some (.ref 84), some (.int p1), none, none, none] [.int (x2 / 2)] (HP I A L F E) = _
    refine (sg_go ht_X8_goesThrough (k := 3) (pc' := 8) (L' := [some (.ref 84), some (.int p1), some (.int (x2 / 2)), none, none]) (st' := [.int (x2 / 2), .ref 84]) (h' := (HP I A L F E)) rfl).trans ?_
    refine (sg_putI (h' := (HP (fu I 8416 (x2 / 2)) A L F E)) ht_X8_goesThrough rfl hp_o_84 (Nat.le_of_ble_eq_true rfl) hp_p_8416).trans ?_
    refine (sg_go ht_X8_goesThrough (k := 2) (pc' := 13) (L' := [some (.ref 84), some (.int p1), some (.int (x2 / 2)), none, none]) (st' := [.int (x2 / 2), .ref 84]) (h' := (HP (fu I 8416 (x2 / 2)) A L F E)) rfl).trans ?_
    refine (sg_putI (h' := (HP (fu (fu I 8416 (x2 / 2)) 8417 (x2 / 2)) A L F E)) ht_X8_goesThrough rfl hp_o_84 (Nat.le_of_ble_eq_true rfl) hp_p_8417).trans ?_
    refine (sg_go ht_X8_goesThrough (k := 2) (pc' := 18) (L' := [some (.ref 84), some (.int p1), some (.int (x2 / 2)), none, none]) (st' := [.int 0, .ref 84]) (h' := (HP (fu (fu I 8416 (x2 / 2)) 8417 (x2 / 2)) A L F E)) rfl).trans ?_
    refine (sg_putI (h' := (HP (fu (fu (fu I 8416 (x2 / 2)) 8417 (x2 / 2)) 8415 0) A L F E)) ht_X8_goesThrough rfl hp_o_84 (Nat.le_of_ble_eq_true rfl) hp_p_8415).trans ?_
    refine (sg_go ht_X8_goesThrough (k := 4) (pc' := 26) (L' := [some (.ref 84), some (.int p1), some (.int (x2 / 2)), some (.int 0), some (.int 0)]) (st' := []) (h' := (HP (fu (fu (fu I 8416 (x2 / 2)) 8417 (x2 / 2)) 8415 0) A L F E)) rfl).trans ?_
    rfl
  · refine ite_bd.trans ?_
    refine ite_congr rfl (fun _ => ?_) (fun _ => ?_)
    · show mm_run G0 138 5 [some (.ref 84), some (.int p1), none, none, none] [.int 0] (HP I A L F E) = _
      refine (sg_go ht_X8_goesThrough (k := 3) (pc' := 8) (L' := [some (.ref 84), some (.int p1), some (.int 0), none, none]) (st' := [.int 0, .ref 84]) (h' := (HP I A L F E)) rfl).trans ?_
      refine (sg_putI (h' := (HP (fu I 8416 0) A L F E)) ht_X8_goesThrough rfl hp_o_84 (Nat.le_of_ble_eq_true rfl) hp_p_8416).trans ?_
      refine (sg_go ht_X8_goesThrough (k := 2) (pc' := 13) (L' := [some (.ref 84), some (.int p1), some (.int 0), none, none]) (st' := [.int 0, .ref 84]) (h' := (HP (fu I 8416 0) A L F E)) rfl).trans ?_
      refine (sg_putI (h' := (HP (fu (fu I 8416 0) 8417 0) A L F E)) ht_X8_goesThrough rfl hp_o_84 (Nat.le_of_ble_eq_true rfl) hp_p_8417).trans ?_
      refine (sg_go ht_X8_goesThrough (k := 2) (pc' := 18) (L' := [some (.ref 84), some (.int p1), some (.int 0), none, none]) (st' := [.int 0, .ref 84]) (h' := (HP (fu (fu I 8416 0) 8417 0) A L F E)) rfl).trans ?_
      refine (sg_putI (h' := (HP (fu (fu (fu I 8416 0) 8417 0) 8415 0) A L F E)) ht_X8_goesThrough rfl hp_o_84 (Nat.le_of_ble_eq_true rfl) hp_p_8415).trans ?_
      refine (sg_go ht_X8_goesThrough (k := 4) (pc' := 26) (L' := [some (.ref 84), some (.int p1), some (.int 0), some (.int 0), some (.int 0)]) (st' := []) (h' := (HP (fu (fu (fu I 8416 0) 8417 0) 8415 0) A L F E)) rfl).trans ?_
      rfl
    · refine bind_as.trans ?_
      refine bind_cg fun x3 hx3 => ?_
      show mm_run G0 138 5 [some (.ref 84), some (.int p1), none, none, none] [.int (x3 / 2)] (HP I A L F E) = _
      refine (sg_go ht_X8_goesThrough (k := 3) (pc' := 8) (L' := [some (.ref 84), some (.int p1), some (.int (x3 / 2)), none, none]) (st' := [.int (x3 / 2), .ref 84]) (h' := (HP I A L F E)) rfl).trans ?_
      refine (sg_putI (h' := (HP (fu I 8416 (x3 / 2)) A L F E)) ht_X8_goesThrough rfl hp_o_84 (Nat.le_of_ble_eq_true rfl) hp_p_8416).trans ?_
      refine (sg_go ht_X8_goesThrough (k := 2) (pc' := 13) (L' := [some (.ref 84), some (.int p1), some (.int (x3 / 2)), none, none]) (st' := [.int (x3 / 2), .ref 84]) (h' := (HP (fu I 8416 (x3 / 2)) A L F E)) rfl).trans ?_
      refine (sg_putI (h' := (HP (fu (fu I 8416 (x3 / 2)) 8417 (x3 / 2)) A L F E)) ht_X8_goesThrough rfl hp_o_84 (Nat.le_of_ble_eq_true rfl) hp_p_8417).trans ?_
      refine (sg_go ht_X8_goesThrough (k := 2) (pc' := 18) (L' := [some (.ref 84), some (.int p1), some (.int (x3 / 2)), none, none]) (st' := [.int 0, .ref 84]) (h' := (HP (fu (fu I 8416 (x3 / 2)) 8417 (x3 / 2)) A L F E)) rfl).trans ?_
      refine (sg_putI (h' := (HP (fu (fu (fu I 8416 (x3 / 2)) 8417 (x3 / 2)) 8415 0) A L F E)) ht_X8_goesThrough rfl hp_o_84 (Nat.le_of_ble_eq_true rfl) hp_p_8415).trans ?_
      refine (sg_go ht_X8_goesThrough (k := 4) (pc' := 26) (L' := [some (.ref 84), some (.int p1), some (.int (x3 / 2)), some (.int 0), some (.int 0)]) (st' := []) (h' := (HP (fu (fu (fu I 8416 (x3 / 2)) 8417 (x3 / 2)) 8415 0) A L F E)) rfl).trans ?_
      rfl
set_option maxRecDepth 20000 in
theorem sg_X8_goesThrough_26 {I : Nat → Int32} {A : Nat → List Int32} {L : Nat → List Int64} {F : Nat → Int64} {E : MH} (v1 : Int32) (v2 : Int32) (v3 : Int32) (v4 : Int32) : mm_run G0 138 26 [some (.ref 84), some (.int v1), some (.int v2), some (.int v3), some (.int v4)] [] (HP I A L F E) = ((ldI (A 85) ((45 * v1) + 4)).bind fun x1 => (if x1 ≤ v4 then some (none, (HP I A L F E)) else (if v3 ≠ 0 then ((stI (A 90) v4 (I 8416)).bind fun X2 => ((stI (A 91) v4 (I 8417)).bind fun X3 => mm_run G0 138 26 [some (.ref 84), some (.int v1), some (.int v2), some (.int v3), some (.int (v4 + 1))] [] (HP I (fu (fu A 90 X2) 91 X3) L F E))) else ((ldI (A 85) ((45 * v1) + 0)).bind fun x4 => ((ldI (A 85) (((45 * v1) + 5) + v4)).bind fun x5 => ((ldI (A 85) ((45 * v1) + 1)).bind fun x6 => ((ldI (A 85) ((45 * v1) + 2)).bind fun x7 => ((ldI (A 85) ((45 * v1) + 3)).bind fun x8 => (if x8 ≤ (imax 0 (((I 8416) + (ofv x4 (x5 - x6))) - x7)) then ((stI (A 92) (I 8415) v4).bind fun X9 => (if (imax 0 (((I 8416) + (ofv x4 (x5 - x6))) - x7)) < x8 then ((stI (A 93) (I 8415) 1).bind fun X10 => (if (imax 0 (((I 8416) + (ofv x4 (x5 - x6))) - x7)) < x8 then ((stI (A 94) (I 8415) (imax 0 (((I 8417) - (ofv x4 (x5 - x6))) - x7))).bind fun X11 => ((ldI ((fu (fu (fu A 92 X9) 93 X10) 94 X11) 85) ((45 * v1) + 0)).bind fun x12 => (if x12 ≠ 4 then ((stI ((fu (fu (fu A 92 X9) 93 X10) 94 X11) 90) v4 ((fu (fu (fu (fu (fu I 8416 (imax 0 (((I 8416) + (ofv x4 (x5 - x6))) - x7))) 8417 (imax 0 (((I 8417) - (ofv x4 (x5 - x6))) - x7))) 8415 ((I 8415) + 1)) 8416 v2) 8417 v2) 8416)).bind fun X13 => ((stI ((fu (fu (fu A 92 X9) 93 X10) 94 X11) 91) v4 ((fu (fu (fu (fu (fu I 8416 (imax 0 (((I 8416) + (ofv x4 (x5 - x6))) - x7))) 8417 (imax 0 (((I 8417) - (ofv x4 (x5 - x6))) - x7))) 8415 ((I 8415) + 1)) 8416 v2) 8417 v2) 8417)).bind fun X14 => mm_run G0 138 26 [some (.ref 84), some (.int v1), some (.int v2), some (.int 0), some (.int (v4 + 1))] [] (HP (fu (fu (fu (fu (fu I 8416 (imax 0 (((I 8416) + (ofv x4 (x5 - x6))) - x7))) 8417 (imax 0 (((I 8417) - (ofv x4 (x5 - x6))) - x7))) 8415 ((I 8415) + 1)) 8416 v2) 8417 v2) (fu (fu (fu (fu (fu A 92 X9) 93 X10) 94 X11) 90 X13) 91 X14) L F E))) else ((stI ((fu (fu (fu A 92 X9) 93 X10) 94 X11) 90) v4 ((fu (fu (fu (fu (fu I 8416 (imax 0 (((I 8416) + (ofv x4 (x5 - x6))) - x7))) 8417 (imax 0 (((I 8417) - (ofv x4 (x5 - x6))) - x7))) 8415 ((I 8415) + 1)) 8416 v2) 8417 v2) 8416)).bind fun X15 => ((stI ((fu (fu (fu A 92 X9) 93 X10) 94 X11) 91) v4 ((fu (fu (fu (fu (fu I 8416 (imax 0 (((I 8416) + (ofv x4 (x5 - x6))) - x7))) 8417 (imax 0 (((I 8417) - (ofv x4 (x5 - x6))) - x7))) 8415 ((I 8415) + 1)) 8416 v2) 8417 v2) 8417)).bind fun X16 => mm_run G0 138 26 [some (.ref 84), some (.int v1), some (.int v2), some (.int 1), some (.int (v4 + 1))] [] (HP (fu (fu (fu (fu (fu I 8416 (imax 0 (((I 8416) + (ofv x4 (x5 - x6))) - x7))) 8417 (imax 0 (((I 8417) - (ofv x4 (x5 - x6))) - x7))) 8415 ((I 8415) + 1)) 8416 v2) 8417 v2) (fu (fu (fu (fu (fu A 92 X9) 93 X10) 94 X11) 90 X15) 91 X16) L F E)))))) else ((stI (A 94) (I 8415) (imax 0 (((I 8416) + (ofv x4 (x5 - x6))) - x7))).bind fun X17 => ((ldI ((fu (fu (fu A 92 X9) 93 X10) 94 X17) 85) ((45 * v1) + 0)).bind fun x18 => (if x18 ≠ 4 then ((stI ((fu (fu (fu A 92 X9) 93 X10) 94 X17) 90) v4 ((fu (fu (fu (fu (fu I 8416 (imax 0 (((I 8416) + (ofv x4 (x5 - x6))) - x7))) 8417 (imax 0 (((I 8417) - (ofv x4 (x5 - x6))) - x7))) 8415 ((I 8415) + 1)) 8416 v2) 8417 v2) 8416)).bind fun X19 => ((stI ((fu (fu (fu A 92 X9) 93 X10) 94 X17) 91) v4 ((fu (fu (fu (fu (fu I 8416 (imax 0 (((I 8416) + (ofv x4 (x5 - x6))) - x7))) 8417 (imax 0 (((I 8417) - (ofv x4 (x5 - x6))) - x7))) 8415 ((I 8415) + 1)) 8416 v2) 8417 v2) 8417)).bind fun X20 => mm_run G0 138 26 [some (.ref 84), some (.int v1), some (.int v2), some (.int 0), some (.int (v4 + 1))] [] (HP (fu (fu (fu (fu (fu I 8416 (imax 0 (((I 8416) + (ofv x4 (x5 - x6))) - x7))) 8417 (imax 0 (((I 8417) - (ofv x4 (x5 - x6))) - x7))) 8415 ((I 8415) + 1)) 8416 v2) 8417 v2) (fu (fu (fu (fu (fu A 92 X9) 93 X10) 94 X17) 90 X19) 91 X20) L F E))) else ((stI ((fu (fu (fu A 92 X9) 93 X10) 94 X17) 90) v4 ((fu (fu (fu (fu (fu I 8416 (imax 0 (((I 8416) + (ofv x4 (x5 - x6))) - x7))) 8417 (imax 0 (((I 8417) - (ofv x4 (x5 - x6))) - x7))) 8415 ((I 8415) + 1)) 8416 v2) 8417 v2) 8416)).bind fun X21 => ((stI ((fu (fu (fu A 92 X9) 93 X10) 94 X17) 91) v4 ((fu (fu (fu (fu (fu I 8416 (imax 0 (((I 8416) + (ofv x4 (x5 - x6))) - x7))) 8417 (imax 0 (((I 8417) - (ofv x4 (x5 - x6))) - x7))) 8415 ((I 8415) + 1)) 8416 v2) 8417 v2) 8417)).bind fun X22 => mm_run G0 138 26 [some (.ref 84), some (.int v1), some (.int v2), some (.int 1), some (.int (v4 + 1))] [] (HP (fu (fu (fu (fu (fu I 8416 (imax 0 (((I 8416) + (ofv x4 (x5 - x6))) - x7))) 8417 (imax 0 (((I 8417) - (ofv x4 (x5 - x6))) - x7))) 8415 ((I 8415) + 1)) 8416 v2) 8417 v2) (fu (fu (fu (fu (fu A 92 X9) 93 X10) 94 X17) 90 X21) 91 X22) L F E)))))))) else ((stI (A 93) (I 8415) 0).bind fun X23 => (if (imax 0 (((I 8416) + (ofv x4 (x5 - x6))) - x7)) < x8 then ((stI (A 94) (I 8415) (imax 0 (((I 8417) - (ofv x4 (x5 - x6))) - x7))).bind fun X24 => ((ldI ((fu (fu (fu A 92 X9) 93 X23) 94 X24) 85) ((45 * v1) + 0)).bind fun x25 => (if x25 ≠ 4 then ((stI ((fu (fu (fu A 92 X9) 93 X23) 94 X24) 90) v4 ((fu (fu (fu (fu (fu I 8416 (imax 0 (((I 8416) + (ofv x4 (x5 - x6))) - x7))) 8417 (imax 0 (((I 8417) - (ofv x4 (x5 - x6))) - x7))) 8415 ((I 8415) + 1)) 8416 v2) 8417 v2) 8416)).bind fun X26 => ((stI ((fu (fu (fu A 92 X9) 93 X23) 94 X24) 91) v4 ((fu (fu (fu (fu (fu I 8416 (imax 0 (((I 8416) + (ofv x4 (x5 - x6))) - x7))) 8417 (imax 0 (((I 8417) - (ofv x4 (x5 - x6))) - x7))) 8415 ((I 8415) + 1)) 8416 v2) 8417 v2) 8417)).bind fun X27 => mm_run G0 138 26 [some (.ref 84), some (.int v1), some (.int v2), some (.int 0), some (.int (v4 + 1))] [] (HP (fu (fu (fu (fu (fu I 8416 (imax 0 (((I 8416) + (ofv x4 (x5 - x6))) - x7))) 8417 (imax 0 (((I 8417) - (ofv x4 (x5 - x6))) - x7))) 8415 ((I 8415) + 1)) 8416 v2) 8417 v2) (fu (fu (fu (fu (fu A 92 X9) 93 X23) 94 X24) 90 X26) 91 X27) L F E))) else ((stI ((fu (fu (fu A 92 X9) 93 X23) 94 X24) 90) v4 ((fu (fu (fu (fu (fu I 8416 (imax 0 (((I 8416) + (ofv x4 (x5 - x6))) - x7))) 8417 (imax 0 (((I 8417) - (ofv x4 (x5 - x6))) - x7))) 8415 ((I 8415) + 1)) 8416 v2) 8417 v2) 8416)).bind fun X28 => ((stI ((fu (fu (fu A 92 X9) 93 X23) 94 X24) 91) v4 ((fu (fu (fu (fu (fu I 8416 (imax 0 (((I 8416) + (ofv x4 (x5 - x6))) - x7))) 8417 (imax 0 (((I 8417) - (ofv x4 (x5 - x6))) - x7))) 8415 ((I 8415) + 1)) 8416 v2) 8417 v2) 8417)).bind fun X29 => mm_run G0 138 26 [some (.ref 84), some (.int v1), some (.int v2), some (.int 1), some (.int (v4 + 1))] [] (HP (fu (fu (fu (fu (fu I 8416 (imax 0 (((I 8416) + (ofv x4 (x5 - x6))) - x7))) 8417 (imax 0 (((I 8417) - (ofv x4 (x5 - x6))) - x7))) 8415 ((I 8415) + 1)) 8416 v2) 8417 v2) (fu (fu (fu (fu (fu A 92 X9) 93 X23) 94 X24) 90 X28) 91 X29) L F E)))))) else ((stI (A 94) (I 8415) (imax 0 (((I 8416) + (ofv x4 (x5 - x6))) - x7))).bind fun X30 => ((ldI ((fu (fu (fu A 92 X9) 93 X23) 94 X30) 85) ((45 * v1) + 0)).bind fun x31 => (if x31 ≠ 4 then ((stI ((fu (fu (fu A 92 X9) 93 X23) 94 X30) 90) v4 ((fu (fu (fu (fu (fu I 8416 (imax 0 (((I 8416) + (ofv x4 (x5 - x6))) - x7))) 8417 (imax 0 (((I 8417) - (ofv x4 (x5 - x6))) - x7))) 8415 ((I 8415) + 1)) 8416 v2) 8417 v2) 8416)).bind fun X32 => ((stI ((fu (fu (fu A 92 X9) 93 X23) 94 X30) 91) v4 ((fu (fu (fu (fu (fu I 8416 (imax 0 (((I 8416) + (ofv x4 (x5 - x6))) - x7))) 8417 (imax 0 (((I 8417) - (ofv x4 (x5 - x6))) - x7))) 8415 ((I 8415) + 1)) 8416 v2) 8417 v2) 8417)).bind fun X33 => mm_run G0 138 26 [some (.ref 84), some (.int v1), some (.int v2), some (.int 0), some (.int (v4 + 1))] [] (HP (fu (fu (fu (fu (fu I 8416 (imax 0 (((I 8416) + (ofv x4 (x5 - x6))) - x7))) 8417 (imax 0 (((I 8417) - (ofv x4 (x5 - x6))) - x7))) 8415 ((I 8415) + 1)) 8416 v2) 8417 v2) (fu (fu (fu (fu (fu A 92 X9) 93 X23) 94 X30) 90 X32) 91 X33) L F E))) else ((stI ((fu (fu (fu A 92 X9) 93 X23) 94 X30) 90) v4 ((fu (fu (fu (fu (fu I 8416 (imax 0 (((I 8416) + (ofv x4 (x5 - x6))) - x7))) 8417 (imax 0 (((I 8417) - (ofv x4 (x5 - x6))) - x7))) 8415 ((I 8415) + 1)) 8416 v2) 8417 v2) 8416)).bind fun X34 => ((stI ((fu (fu (fu A 92 X9) 93 X23) 94 X30) 91) v4 ((fu (fu (fu (fu (fu I 8416 (imax 0 (((I 8416) + (ofv x4 (x5 - x6))) - x7))) 8417 (imax 0 (((I 8417) - (ofv x4 (x5 - x6))) - x7))) 8415 ((I 8415) + 1)) 8416 v2) 8417 v2) 8417)).bind fun X35 => mm_run G0 138 26 [some (.ref 84), some (.int v1), some (.int v2), some (.int 1), some (.int (v4 + 1))] [] (HP (fu (fu (fu (fu (fu I 8416 (imax 0 (((I 8416) + (ofv x4 (x5 - x6))) - x7))) 8417 (imax 0 (((I 8417) - (ofv x4 (x5 - x6))) - x7))) 8415 ((I 8415) + 1)) 8416 v2) 8417 v2) (fu (fu (fu (fu (fu A 92 X9) 93 X23) 94 X30) 90 X34) 91 X35) L F E)))))))))) else (if x8 ≤ (imax 0 (((I 8417) - (ofv x4 (x5 - x6))) - x7)) then ((stI (A 92) (I 8415) v4).bind fun X36 => (if (imax 0 (((I 8416) + (ofv x4 (x5 - x6))) - x7)) < x8 then ((stI (A 93) (I 8415) 1).bind fun X37 => (if (imax 0 (((I 8416) + (ofv x4 (x5 - x6))) - x7)) < x8 then ((stI (A 94) (I 8415) (imax 0 (((I 8417) - (ofv x4 (x5 - x6))) - x7))).bind fun X38 => ((ldI ((fu (fu (fu A 92 X36) 93 X37) 94 X38) 85) ((45 * v1) + 0)).bind fun x39 => (if x39 ≠ 4 then ((stI ((fu (fu (fu A 92 X36) 93 X37) 94 X38) 90) v4 ((fu (fu (fu (fu (fu I 8416 (imax 0 (((I 8416) + (ofv x4 (x5 - x6))) - x7))) 8417 (imax 0 (((I 8417) - (ofv x4 (x5 - x6))) - x7))) 8415 ((I 8415) + 1)) 8416 v2) 8417 v2) 8416)).bind fun X40 => ((stI ((fu (fu (fu A 92 X36) 93 X37) 94 X38) 91) v4 ((fu (fu (fu (fu (fu I 8416 (imax 0 (((I 8416) + (ofv x4 (x5 - x6))) - x7))) 8417 (imax 0 (((I 8417) - (ofv x4 (x5 - x6))) - x7))) 8415 ((I 8415) + 1)) 8416 v2) 8417 v2) 8417)).bind fun X41 => mm_run G0 138 26 [some (.ref 84), some (.int v1), some (.int v2), some (.int 0), some (.int (v4 + 1))] [] (HP (fu (fu (fu (fu (fu I 8416 (imax 0 (((I 8416) + (ofv x4 (x5 - x6))) - x7))) 8417 (imax 0 (((I 8417) - (ofv x4 (x5 - x6))) - x7))) 8415 ((I 8415) + 1)) 8416 v2) 8417 v2) (fu (fu (fu (fu (fu A 92 X36) 93 X37) 94 X38) 90 X40) 91 X41) L F E))) else ((stI ((fu (fu (fu A 92 X36) 93 X37) 94 X38) 90) v4 ((fu (fu (fu (fu (fu I 8416 (imax 0 (((I 8416) + (ofv x4 (x5 - x6))) - x7))) 8417 (imax 0 (((I 8417) - (ofv x4 (x5 - x6))) - x7))) 8415 ((I 8415) + 1)) 8416 v2) 8417 v2) 8416)).bind fun X42 => ((stI ((fu (fu (fu A 92 X36) 93 X37) 94 X38) 91) v4 ((fu (fu (fu (fu (fu I 8416 (imax 0 (((I 8416) + (ofv x4 (x5 - x6))) - x7))) 8417 (imax 0 (((I 8417) - (ofv x4 (x5 - x6))) - x7))) 8415 ((I 8415) + 1)) 8416 v2) 8417 v2) 8417)).bind fun X43 => mm_run G0 138 26 [some (.ref 84), some (.int v1), some (.int v2), some (.int 1), some (.int (v4 + 1))] [] (HP (fu (fu (fu (fu (fu I 8416 (imax 0 (((I 8416) + (ofv x4 (x5 - x6))) - x7))) 8417 (imax 0 (((I 8417) - (ofv x4 (x5 - x6))) - x7))) 8415 ((I 8415) + 1)) 8416 v2) 8417 v2) (fu (fu (fu (fu (fu A 92 X36) 93 X37) 94 X38) 90 X42) 91 X43) L F E)))))) else ((stI (A 94) (I 8415) (imax 0 (((I 8416) + (ofv x4 (x5 - x6))) - x7))).bind fun X44 => ((ldI ((fu (fu (fu A 92 X36) 93 X37) 94 X44) 85) ((45 * v1) + 0)).bind fun x45 => (if x45 ≠ 4 then ((stI ((fu (fu (fu A 92 X36) 93 X37) 94 X44) 90) v4 ((fu (fu (fu (fu (fu I 8416 (imax 0 (((I 8416) + (ofv x4 (x5 - x6))) - x7))) 8417 (imax 0 (((I 8417) - (ofv x4 (x5 - x6))) - x7))) 8415 ((I 8415) + 1)) 8416 v2) 8417 v2) 8416)).bind fun X46 => ((stI ((fu (fu (fu A 92 X36) 93 X37) 94 X44) 91) v4 ((fu (fu (fu (fu (fu I 8416 (imax 0 (((I 8416) + (ofv x4 (x5 - x6))) - x7))) 8417 (imax 0 (((I 8417) - (ofv x4 (x5 - x6))) - x7))) 8415 ((I 8415) + 1)) 8416 v2) 8417 v2) 8417)).bind fun X47 => mm_run G0 138 26 [some (.ref 84), some (.int v1), some (.int v2), some (.int 0), some (.int (v4 + 1))] [] (HP (fu (fu (fu (fu (fu I 8416 (imax 0 (((I 8416) + (ofv x4 (x5 - x6))) - x7))) 8417 (imax 0 (((I 8417) - (ofv x4 (x5 - x6))) - x7))) 8415 ((I 8415) + 1)) 8416 v2) 8417 v2) (fu (fu (fu (fu (fu A 92 X36) 93 X37) 94 X44) 90 X46) 91 X47) L F E))) else ((stI ((fu (fu (fu A 92 X36) 93 X37) 94 X44) 90) v4 ((fu (fu (fu (fu (fu I 8416 (imax 0 (((I 8416) + (ofv x4 (x5 - x6))) - x7))) 8417 (imax 0 (((I 8417) - (ofv x4 (x5 - x6))) - x7))) 8415 ((I 8415) + 1)) 8416 v2) 8417 v2) 8416)).bind fun X48 => ((stI ((fu (fu (fu A 92 X36) 93 X37) 94 X44) 91) v4 ((fu (fu (fu (fu (fu I 8416 (imax 0 (((I 8416) + (ofv x4 (x5 - x6))) - x7))) 8417 (imax 0 (((I 8417) - (ofv x4 (x5 - x6))) - x7))) 8415 ((I 8415) + 1)) 8416 v2) 8417 v2) 8417)).bind fun X49 => mm_run G0 138 26 [some (.ref 84), some (.int v1), some (.int v2), some (.int 1), some (.int (v4 + 1))] [] (HP (fu (fu (fu (fu (fu I 8416 (imax 0 (((I 8416) + (ofv x4 (x5 - x6))) - x7))) 8417 (imax 0 (((I 8417) - (ofv x4 (x5 - x6))) - x7))) 8415 ((I 8415) + 1)) 8416 v2) 8417 v2) (fu (fu (fu (fu (fu A 92 X36) 93 X37) 94 X44) 90 X48) 91 X49) L F E)))))))) else ((stI (A 93) (I 8415) 0).bind fun X50 => (if (imax 0 (((I 8416) + (ofv x4 (x5 - x6))) - x7)) < x8 then ((stI (A 94) (I 8415) (imax 0 (((I 8417) - (ofv x4 (x5 - x6))) - x7))).bind fun X51 => ((ldI ((fu (fu (fu A 92 X36) 93 X50) 94 X51) 85) ((45 * v1) + 0)).bind fun x52 => (if x52 ≠ 4 then ((stI ((fu (fu (fu A 92 X36) 93 X50) 94 X51) 90) v4 ((fu (fu (fu (fu (fu I 8416 (imax 0 (((I 8416) + (ofv x4 (x5 - x6))) - x7))) 8417 (imax 0 (((I 8417) - (ofv x4 (x5 - x6))) - x7))) 8415 ((I 8415) + 1)) 8416 v2) 8417 v2) 8416)).bind fun X53 => ((stI ((fu (fu (fu A 92 X36) 93 X50) 94 X51) 91) v4 ((fu (fu (fu (fu (fu I 8416 (imax 0 (((I 8416) + (ofv x4 (x5 - x6))) - x7))) 8417 (imax 0 (((I 8417) - (ofv x4 (x5 - x6))) - x7))) 8415 ((I 8415) + 1)) 8416 v2) 8417 v2) 8417)).bind fun X54 => mm_run G0 138 26 [some (.ref 84), some (.int v1), some (.int v2), some (.int 0), some (.int (v4 + 1))] [] (HP (fu (fu (fu (fu (fu I 8416 (imax 0 (((I 8416) + (ofv x4 (x5 - x6))) - x7))) 8417 (imax 0 (((I 8417) - (ofv x4 (x5 - x6))) - x7))) 8415 ((I 8415) + 1)) 8416 v2) 8417 v2) (fu (fu (fu (fu (fu A 92 X36) 93 X50) 94 X51) 90 X53) 91 X54) L F E))) else ((stI ((fu (fu (fu A 92 X36) 93 X50) 94 X51) 90) v4 ((fu (fu (fu (fu (fu I 8416 (imax 0 (((I 8416) + (ofv x4 (x5 - x6))) - x7))) 8417 (imax 0 (((I 8417) - (ofv x4 (x5 - x6))) - x7))) 8415 ((I 8415) + 1)) 8416 v2) 8417 v2) 8416)).bind fun X55 => ((stI ((fu (fu (fu A 92 X36) 93 X50) 94 X51) 91) v4 ((fu (fu (fu (fu (fu I 8416 (imax 0 (((I 8416) + (ofv x4 (x5 - x6))) - x7))) 8417 (imax 0 (((I 8417) - (ofv x4 (x5 - x6))) - x7))) 8415 ((I 8415) + 1)) 8416 v2) 8417 v2) 8417)).bind fun X56 => mm_run G0 138 26 [some (.ref 84), some (.int v1), some (.int v2), some (.int 1), some (.int (v4 + 1))] [] (HP (fu (fu (fu (fu (fu I 8416 (imax 0 (((I 8416) + (ofv x4 (x5 - x6))) - x7))) 8417 (imax 0 (((I 8417) - (ofv x4 (x5 - x6))) - x7))) 8415 ((I 8415) + 1)) 8416 v2) 8417 v2) (fu (fu (fu (fu (fu A 92 X36) 93 X50) 94 X51) 90 X55) 91 X56) L F E)))))) else ((stI (A 94) (I 8415) (imax 0 (((I 8416) + (ofv x4 (x5 - x6))) - x7))).bind fun X57 => ((ldI ((fu (fu (fu A 92 X36) 93 X50) 94 X57) 85) ((45 * v1) + 0)).bind fun x58 => (if x58 ≠ 4 then ((stI ((fu (fu (fu A 92 X36) 93 X50) 94 X57) 90) v4 ((fu (fu (fu (fu (fu I 8416 (imax 0 (((I 8416) + (ofv x4 (x5 - x6))) - x7))) 8417 (imax 0 (((I 8417) - (ofv x4 (x5 - x6))) - x7))) 8415 ((I 8415) + 1)) 8416 v2) 8417 v2) 8416)).bind fun X59 => ((stI ((fu (fu (fu A 92 X36) 93 X50) 94 X57) 91) v4 ((fu (fu (fu (fu (fu I 8416 (imax 0 (((I 8416) + (ofv x4 (x5 - x6))) - x7))) 8417 (imax 0 (((I 8417) - (ofv x4 (x5 - x6))) - x7))) 8415 ((I 8415) + 1)) 8416 v2) 8417 v2) 8417)).bind fun X60 => mm_run G0 138 26 [some (.ref 84), some (.int v1), some (.int v2), some (.int 0), some (.int (v4 + 1))] [] (HP (fu (fu (fu (fu (fu I 8416 (imax 0 (((I 8416) + (ofv x4 (x5 - x6))) - x7))) 8417 (imax 0 (((I 8417) - (ofv x4 (x5 - x6))) - x7))) 8415 ((I 8415) + 1)) 8416 v2) 8417 v2) (fu (fu (fu (fu (fu A 92 X36) 93 X50) 94 X57) 90 X59) 91 X60) L F E))) else ((stI ((fu (fu (fu A 92 X36) 93 X50) 94 X57) 90) v4 ((fu (fu (fu (fu (fu I 8416 (imax 0 (((I 8416) + (ofv x4 (x5 - x6))) - x7))) 8417 (imax 0 (((I 8417) - (ofv x4 (x5 - x6))) - x7))) 8415 ((I 8415) + 1)) 8416 v2) 8417 v2) 8416)).bind fun X61 => ((stI ((fu (fu (fu A 92 X36) 93 X50) 94 X57) 91) v4 ((fu (fu (fu (fu (fu I 8416 (imax 0 (((I 8416) + (ofv x4 (x5 - x6))) - x7))) 8417 (imax 0 (((I 8417) - (ofv x4 (x5 - x6))) - x7))) 8415 ((I 8415) + 1)) 8416 v2) 8417 v2) 8417)).bind fun X62 => mm_run G0 138 26 [some (.ref 84), some (.int v1), some (.int v2), some (.int 1), some (.int (v4 + 1))] [] (HP (fu (fu (fu (fu (fu I 8416 (imax 0 (((I 8416) + (ofv x4 (x5 - x6))) - x7))) 8417 (imax 0 (((I 8417) - (ofv x4 (x5 - x6))) - x7))) 8415 ((I 8415) + 1)) 8416 v2) 8417 v2) (fu (fu (fu (fu (fu A 92 X36) 93 X50) 94 X57) 90 X61) 91 X62) L F E)))))))))) else ((stI (A 90) v4 (imax 0 (((I 8416) + (ofv x4 (x5 - x6))) - x7))).bind fun X63 => ((stI (A 91) v4 (imax 0 (((I 8417) - (ofv x4 (x5 - x6))) - x7))).bind fun X64 => mm_run G0 138 26 [some (.ref 84), some (.int v1), some (.int v2), some (.int v3), some (.int (v4 + 1))] [] (HP (fu (fu I 8416 (imax 0 (((I 8416) + (ofv x4 (x5 - x6))) - x7))) 8417 (imax 0 (((I 8417) - (ofv x4 (x5 - x6))) - x7))) (fu (fu A 90 X63) 91 X64) L F E))))))))))))) := by
  refine (sg_go ht_X8_goesThrough (k := 3) (pc' := 30) (L' := [some (.ref 84), some (.int v1), some (.int v2), some (.int v3), some (.int v4)]) (st' := [.int v1, .ref 84, .int v4]) (h' := (HP I A L F E)) rfl).trans ?_
  refine (sg_call ht_X8_goesThrough (mj := 115) (as := [.ref 84, .int v1]) (rest := [.int v4]) rfl rfl ⟨by decide, Nat.le_of_ble_eq_true rfl⟩).trans ?_
  refine (bind_eq (sg_X8_many_0 v1)).trans ?_
  refine bind_as.trans ?_
  refine bind_cg fun x1 hx1 => ?_
  show mm_run G0 138 33 [some (.ref 84), some (.int v1), some (.int v2), some (.int v3), some (.int v4)] [.int x1, .int v4] (HP I A L F E) = _
  refine (sg_cmp ht_X8_goesThrough rfl).trans ?_
  refine ite_congr rfl (fun _ => ?_) (fun _ => ?_)
  · exact sg_ret ht_X8_goesThrough rfl rfl
  · refine (sg_go ht_X8_goesThrough (k := 1) (pc' := 37) (L' := [some (.ref 84), some (.int v1), some (.int v2), some (.int v3), some (.int v4)]) (st' := [.int v3]) (h' := (HP I A L F E)) rfl).trans ?_
    refine (sg_if ht_X8_goesThrough rfl).trans ?_
    refine ite_congr rfl (fun _ => ?_) (fun _ => ?_)
    · refine (sg_go ht_X8_goesThrough (k := 5) (pc' := 119) (L' := [some (.ref 84), some (.int v1), some (.int v2), some (.int v3), some (.int v4)]) (st' := [.int (I 8416), .int v4, .ref 90]) (h' := (HP I A L F E)) rfl).trans ?_
      refine (sg_stI (hh := fun X2 => (HP I (fu A 90 X2) L F E)) ht_X8_goesThrough rfl hp_o_90 (fun _ => hp_s_90)).trans ?_
      refine bind_cg fun X2 hX2 => ?_
      refine (sg_go ht_X8_goesThrough (k := 5) (pc' := 130) (L' := [some (.ref 84), some (.int v1), some (.int v2), some (.int v3), some (.int v4)]) (st' := [.int (I 8417), .int v4, .ref 91]) (h' := (HP I (fu A 90 X2) L F E)) rfl).trans ?_
      refine (sg_stI (hh := fun X3 => (HP I (fu (fu A 90 X2) 91 X3) L F E)) ht_X8_goesThrough rfl hp_o_91 (fun _ => hp_s_91)).trans ?_
      refine bind_cg fun X3 hX3 => ?_
      refine (sg_go ht_X8_goesThrough (k := 2) (pc' := 26) (L' := [some (.ref 84), some (.int v1), some (.int v2), some (.int v3), some (.int (v4 + 1))]) (st' := []) (h' := (HP I (fu (fu A 90 X2) 91 X3) L F E)) rfl).trans ?_
      rfl
    · refine (sg_go ht_X8_goesThrough (k := 5) (pc' := 47) (L' := [some (.ref 84), some (.int v1), some (.int v2), some (.int v3), some (.int v4)]) (st' := [.int v4, .int v1, .ref 84, .int v4, .ref 84]) (h' := (HP I A L F E)) rfl).trans ?_
      refine (sg_call ht_X8_goesThrough (mj := 126) (as := [.ref 84, .int v1, .int v4]) (rest := [.int v4, .ref 84]) rfl rfl ⟨by decide, Nat.le_of_ble_eq_true rfl⟩).trans ?_
      refine (bind_eq (sp_X8_offAt v1 v4)).trans ?_
      refine bind_as.trans ?_
      refine bind_cg fun x4 hx4 => ?_
      refine bind_as.trans ?_
      refine bind_cg fun x5 hx5 => ?_
      refine bind_as.trans ?_
      refine bind_cg fun x6 hx6 => ?_
      show mm_run G0 138 50 [some (.ref 84), some (.int v1), some (.int v2), some (.int v3), some (.int v4)] [.int (ofv x4 (x5 - x6)), .int v4, .ref 84] (HP I A L F E) = _
      refine (sg_go ht_X8_goesThrough (k := 3) (pc' := 55) (L' := [some (.ref 84), some (.int v1), some (.int v2), some (.int v3), some (.int v4)]) (st' := [.int v1, .ref 85, .int (ofv x4 (x5 - x6)), .int v4, .ref 84]) (h' := (HP I A L F E)) rfl).trans ?_
      refine (sg_call ht_X8_goesThrough (mj := 112) (as := [.int v1]) (rest := [.ref 85, .int (ofv x4 (x5 - x6)), .int v4, .ref 84]) rfl rfl ⟨by decide, Nat.le_of_ble_eq_true rfl⟩).trans ?_
      refine (bind_eq (sg_X8_base_0 v1)).trans ?_
      show mm_run G0 138 58 [some (.ref 84), some (.int v1), some (.int v2), some (.int v3), some (.int v4)] [.int (45 * v1), .ref 85, .int (ofv x4 (x5 - x6)), .int v4, .ref 84] (HP I A L F E) = _
      refine (sg_go ht_X8_goesThrough (k := 2) (pc' := 60) (L' := [some (.ref 84), some (.int v1), some (.int v2), some (.int v3), some (.int v4)]) (st' := [.int ((45 * v1) + 2), .ref 85, .int (ofv x4 (x5 - x6)), .int v4, .ref 84]) (h' := (HP I A L F E)) rfl).trans ?_
      refine (sg_ldI ht_X8_goesThrough rfl hp_o_85).trans ?_
      refine bind_cg fun x7 hx7 => ?_
      refine (sg_go ht_X8_goesThrough (k := 3) (pc' := 66) (L' := [some (.ref 84), some (.int v1), some (.int v2), some (.int v3), some (.int v4)]) (st' := [.int v1, .ref 85, .int x7, .int (ofv x4 (x5 - x6)), .int v4, .ref 84]) (h' := (HP I A L F E)) rfl).trans ?_
      refine (sg_call ht_X8_goesThrough (mj := 112) (as := [.int v1]) (rest := [.ref 85, .int x7, .int (ofv x4 (x5 - x6)), .int v4, .ref 84]) rfl rfl ⟨by decide, Nat.le_of_ble_eq_true rfl⟩).trans ?_
      refine (bind_eq (sg_X8_base_0 v1)).trans ?_
      show mm_run G0 138 69 [some (.ref 84), some (.int v1), some (.int v2), some (.int v3), some (.int v4)] [.int (45 * v1), .ref 85, .int x7, .int (ofv x4 (x5 - x6)), .int v4, .ref 84] (HP I A L F E) = _
      refine (sg_go ht_X8_goesThrough (k := 2) (pc' := 71) (L' := [some (.ref 84), some (.int v1), some (.int v2), some (.int v3), some (.int v4)]) (st' := [.int ((45 * v1) + 3), .ref 85, .int x7, .int (ofv x4 (x5 - x6)), .int v4, .ref 84]) (h' := (HP I A L F E)) rfl).trans ?_
      refine (sg_ldI ht_X8_goesThrough rfl hp_o_85).trans ?_
      refine bind_cg fun x8 hx8 => ?_
      refine (sg_call ht_X8_goesThrough (mj := 137) (as := [.ref 84, .int v4, .int (ofv x4 (x5 - x6)), .int x7, .int x8]) (rest := []) rfl rfl ⟨by decide, Nat.le_of_ble_eq_true rfl⟩).trans ?_
      refine (bind_eq (sg_X8_goesOn_0 v4 (ofv x4 (x5 - x6)) x7 x8)).trans ?_
      refine ite_bd.trans ?_
      refine ite_congr rfl (fun _ => ?_) (fun _ => ?_)
      · refine bind_as.trans ?_
        refine bind_cg fun X9 hX9 => ?_
        refine ite_bd.trans ?_
        refine ite_congr rfl (fun _ => ?_) (fun _ => ?_)
        · refine bind_as.trans ?_
          refine bind_cg fun X10 hX10 => ?_
          refine ite_bd.trans ?_
          refine ite_congr rfl (fun _ => ?_) (fun _ => ?_)
          · refine bind_as.trans ?_
            refine bind_cg fun X11 hX11 => ?_
            show mm_run G0 138 75 [some (.ref 84), some (.int v1), some (.int v2), some (.int v3), some (.int v4)] [.int 1] (HP (fu (fu (fu I 8416 (imax 0 (((I 8416) + (ofv x4 (x5 - x6))) - x7))) 8417 (imax 0 (((I 8417) - (ofv x4 (x5 - x6))) - x7))) 8415 ((I 8415) + 1)) (fu (fu (fu A 92 X9) 93 X10) 94 X11) L F E) = _
            refine (sg_go ht_X8_goesThrough (k := 3) (pc' := 80) (L' := [some (.ref 84), some (.int v1), some (.int v2), some (.int v3), some (.int v4)]) (st' := [.int v2, .ref 84]) (h' := (HP (fu (fu (fu I 8416 (imax 0 (((I 8416) + (ofv x4 (x5 - x6))) - x7))) 8417 (imax 0 (((I 8417) - (ofv x4 (x5 - x6))) - x7))) 8415 ((I 8415) + 1)) (fu (fu (fu A 92 X9) 93 X10) 94 X11) L F E)) rfl).trans ?_
            refine (sg_putI (h' := (HP (fu (fu (fu (fu I 8416 (imax 0 (((I 8416) + (ofv x4 (x5 - x6))) - x7))) 8417 (imax 0 (((I 8417) - (ofv x4 (x5 - x6))) - x7))) 8415 ((I 8415) + 1)) 8416 v2) (fu (fu (fu A 92 X9) 93 X10) 94 X11) L F E)) ht_X8_goesThrough rfl hp_o_84 (Nat.le_of_ble_eq_true rfl) hp_p_8416).trans ?_
            refine (sg_go ht_X8_goesThrough (k := 2) (pc' := 85) (L' := [some (.ref 84), some (.int v1), some (.int v2), some (.int v3), some (.int v4)]) (st' := [.int v2, .ref 84]) (h' := (HP (fu (fu (fu (fu I 8416 (imax 0 (((I 8416) + (ofv x4 (x5 - x6))) - x7))) 8417 (imax 0 (((I 8417) - (ofv x4 (x5 - x6))) - x7))) 8415 ((I 8415) + 1)) 8416 v2) (fu (fu (fu A 92 X9) 93 X10) 94 X11) L F E)) rfl).trans ?_
            refine (sg_putI (h' := (HP (fu (fu (fu (fu (fu I 8416 (imax 0 (((I 8416) + (ofv x4 (x5 - x6))) - x7))) 8417 (imax 0 (((I 8417) - (ofv x4 (x5 - x6))) - x7))) 8415 ((I 8415) + 1)) 8416 v2) 8417 v2) (fu (fu (fu A 92 X9) 93 X10) 94 X11) L F E)) ht_X8_goesThrough rfl hp_o_84 (Nat.le_of_ble_eq_true rfl) hp_p_8417).trans ?_
            refine (sg_go ht_X8_goesThrough (k := 3) (pc' := 93) (L' := [some (.ref 84), some (.int v1), some (.int v2), some (.int v3), some (.int v4)]) (st' := [.int v1, .ref 85]) (h' := (HP (fu (fu (fu (fu (fu I 8416 (imax 0 (((I 8416) + (ofv x4 (x5 - x6))) - x7))) 8417 (imax 0 (((I 8417) - (ofv x4 (x5 - x6))) - x7))) 8415 ((I 8415) + 1)) 8416 v2) 8417 v2) (fu (fu (fu A 92 X9) 93 X10) 94 X11) L F E)) rfl).trans ?_
            refine (sg_call ht_X8_goesThrough (mj := 112) (as := [.int v1]) (rest := [.ref 85]) rfl rfl ⟨by decide, Nat.le_of_ble_eq_true rfl⟩).trans ?_
            refine (bind_eq (sg_X8_base_0 v1)).trans ?_
            show mm_run G0 138 96 [some (.ref 84), some (.int v1), some (.int v2), some (.int v3), some (.int v4)] [.int (45 * v1), .ref 85] (HP (fu (fu (fu (fu (fu I 8416 (imax 0 (((I 8416) + (ofv x4 (x5 - x6))) - x7))) 8417 (imax 0 (((I 8417) - (ofv x4 (x5 - x6))) - x7))) 8415 ((I 8415) + 1)) 8416 v2) 8417 v2) (fu (fu (fu A 92 X9) 93 X10) 94 X11) L F E) = _
            refine (sg_go ht_X8_goesThrough (k := 2) (pc' := 98) (L' := [some (.ref 84), some (.int v1), some (.int v2), some (.int v3), some (.int v4)]) (st' := [.int ((45 * v1) + 0), .ref 85]) (h' := (HP (fu (fu (fu (fu (fu I 8416 (imax 0 (((I 8416) + (ofv x4 (x5 - x6))) - x7))) 8417 (imax 0 (((I 8417) - (ofv x4 (x5 - x6))) - x7))) 8415 ((I 8415) + 1)) 8416 v2) 8417 v2) (fu (fu (fu A 92 X9) 93 X10) 94 X11) L F E)) rfl).trans ?_
            refine (sg_ldI ht_X8_goesThrough rfl hp_o_85).trans ?_
            refine bind_cg fun x12 hx12 => ?_
            refine (sg_go ht_X8_goesThrough (k := 1) (pc' := 100) (L' := [some (.ref 84), some (.int v1), some (.int v2), some (.int v3), some (.int v4)]) (st' := [.int 4, .int x12]) (h' := (HP (fu (fu (fu (fu (fu I 8416 (imax 0 (((I 8416) + (ofv x4 (x5 - x6))) - x7))) 8417 (imax 0 (((I 8417) - (ofv x4 (x5 - x6))) - x7))) 8415 ((I 8415) + 1)) 8416 v2) 8417 v2) (fu (fu (fu A 92 X9) 93 X10) 94 X11) L F E)) rfl).trans ?_
            refine (sg_cmp ht_X8_goesThrough rfl).trans ?_
            refine ite_congr rfl (fun _ => ?_) (fun _ => ?_)
            · refine (sg_go ht_X8_goesThrough (k := 7) (pc' := 119) (L' := [some (.ref 84), some (.int v1), some (.int v2), some (.int 0), some (.int v4)]) (st' := [.int ((fu (fu (fu (fu (fu I 8416 (imax 0 (((I 8416) + (ofv x4 (x5 - x6))) - x7))) 8417 (imax 0 (((I 8417) - (ofv x4 (x5 - x6))) - x7))) 8415 ((I 8415) + 1)) 8416 v2) 8417 v2) 8416), .int v4, .ref 90]) (h' := (HP (fu (fu (fu (fu (fu I 8416 (imax 0 (((I 8416) + (ofv x4 (x5 - x6))) - x7))) 8417 (imax 0 (((I 8417) - (ofv x4 (x5 - x6))) - x7))) 8415 ((I 8415) + 1)) 8416 v2) 8417 v2) (fu (fu (fu A 92 X9) 93 X10) 94 X11) L F E)) rfl).trans ?_
              refine (sg_stI (hh := fun X13 => (HP (fu (fu (fu (fu (fu I 8416 (imax 0 (((I 8416) + (ofv x4 (x5 - x6))) - x7))) 8417 (imax 0 (((I 8417) - (ofv x4 (x5 - x6))) - x7))) 8415 ((I 8415) + 1)) 8416 v2) 8417 v2) (fu (fu (fu (fu A 92 X9) 93 X10) 94 X11) 90 X13) L F E)) ht_X8_goesThrough rfl hp_o_90 (fun _ => hp_s_90)).trans ?_
              refine bind_cg fun X13 hX13 => ?_
              refine (sg_go ht_X8_goesThrough (k := 5) (pc' := 130) (L' := [some (.ref 84), some (.int v1), some (.int v2), some (.int 0), some (.int v4)]) (st' := [.int ((fu (fu (fu (fu (fu I 8416 (imax 0 (((I 8416) + (ofv x4 (x5 - x6))) - x7))) 8417 (imax 0 (((I 8417) - (ofv x4 (x5 - x6))) - x7))) 8415 ((I 8415) + 1)) 8416 v2) 8417 v2) 8417), .int v4, .ref 91]) (h' := (HP (fu (fu (fu (fu (fu I 8416 (imax 0 (((I 8416) + (ofv x4 (x5 - x6))) - x7))) 8417 (imax 0 (((I 8417) - (ofv x4 (x5 - x6))) - x7))) 8415 ((I 8415) + 1)) 8416 v2) 8417 v2) (fu (fu (fu (fu A 92 X9) 93 X10) 94 X11) 90 X13) L F E)) rfl).trans ?_
              refine (sg_stI (hh := fun X14 => (HP (fu (fu (fu (fu (fu I 8416 (imax 0 (((I 8416) + (ofv x4 (x5 - x6))) - x7))) 8417 (imax 0 (((I 8417) - (ofv x4 (x5 - x6))) - x7))) 8415 ((I 8415) + 1)) 8416 v2) 8417 v2) (fu (fu (fu (fu (fu A 92 X9) 93 X10) 94 X11) 90 X13) 91 X14) L F E)) ht_X8_goesThrough rfl hp_o_91 (fun _ => hp_s_91)).trans ?_
              refine bind_cg fun X14 hX14 => ?_
              refine (sg_go ht_X8_goesThrough (k := 2) (pc' := 26) (L' := [some (.ref 84), some (.int v1), some (.int v2), some (.int 0), some (.int (v4 + 1))]) (st' := []) (h' := (HP (fu (fu (fu (fu (fu I 8416 (imax 0 (((I 8416) + (ofv x4 (x5 - x6))) - x7))) 8417 (imax 0 (((I 8417) - (ofv x4 (x5 - x6))) - x7))) 8415 ((I 8415) + 1)) 8416 v2) 8417 v2) (fu (fu (fu (fu (fu A 92 X9) 93 X10) 94 X11) 90 X13) 91 X14) L F E)) rfl).trans ?_
              rfl
            · refine (sg_go ht_X8_goesThrough (k := 8) (pc' := 119) (L' := [some (.ref 84), some (.int v1), some (.int v2), some (.int 1), some (.int v4)]) (st' := [.int ((fu (fu (fu (fu (fu I 8416 (imax 0 (((I 8416) + (ofv x4 (x5 - x6))) - x7))) 8417 (imax 0 (((I 8417) - (ofv x4 (x5 - x6))) - x7))) 8415 ((I 8415) + 1)) 8416 v2) 8417 v2) 8416), .int v4, .ref 90]) (h' := (HP (fu (fu (fu (fu (fu I 8416 (imax 0 (((I 8416) + (ofv x4 (x5 - x6))) - x7))) 8417 (imax 0 (((I 8417) - (ofv x4 (x5 - x6))) - x7))) 8415 ((I 8415) + 1)) 8416 v2) 8417 v2) (fu (fu (fu A 92 X9) 93 X10) 94 X11) L F E)) rfl).trans ?_
              refine (sg_stI (hh := fun X15 => (HP (fu (fu (fu (fu (fu I 8416 (imax 0 (((I 8416) + (ofv x4 (x5 - x6))) - x7))) 8417 (imax 0 (((I 8417) - (ofv x4 (x5 - x6))) - x7))) 8415 ((I 8415) + 1)) 8416 v2) 8417 v2) (fu (fu (fu (fu A 92 X9) 93 X10) 94 X11) 90 X15) L F E)) ht_X8_goesThrough rfl hp_o_90 (fun _ => hp_s_90)).trans ?_
              refine bind_cg fun X15 hX15 => ?_
              refine (sg_go ht_X8_goesThrough (k := 5) (pc' := 130) (L' := [some (.ref 84), some (.int v1), some (.int v2), some (.int 1), some (.int v4)]) (st' := [.int ((fu (fu (fu (fu (fu I 8416 (imax 0 (((I 8416) + (ofv x4 (x5 - x6))) - x7))) 8417 (imax 0 (((I 8417) - (ofv x4 (x5 - x6))) - x7))) 8415 ((I 8415) + 1)) 8416 v2) 8417 v2) 8417), .int v4, .ref 91]) (h' := (HP (fu (fu (fu (fu (fu I 8416 (imax 0 (((I 8416) + (ofv x4 (x5 - x6))) - x7))) 8417 (imax 0 (((I 8417) - (ofv x4 (x5 - x6))) - x7))) 8415 ((I 8415) + 1)) 8416 v2) 8417 v2) (fu (fu (fu (fu A 92 X9) 93 X10) 94 X11) 90 X15) L F E)) rfl).trans ?_
              refine (sg_stI (hh := fun X16 => (HP (fu (fu (fu (fu (fu I 8416 (imax 0 (((I 8416) + (ofv x4 (x5 - x6))) - x7))) 8417 (imax 0 (((I 8417) - (ofv x4 (x5 - x6))) - x7))) 8415 ((I 8415) + 1)) 8416 v2) 8417 v2) (fu (fu (fu (fu (fu A 92 X9) 93 X10) 94 X11) 90 X15) 91 X16) L F E)) ht_X8_goesThrough rfl hp_o_91 (fun _ => hp_s_91)).trans ?_
              refine bind_cg fun X16 hX16 => ?_
              refine (sg_go ht_X8_goesThrough (k := 2) (pc' := 26) (L' := [some (.ref 84), some (.int v1), some (.int v2), some (.int 1), some (.int (v4 + 1))]) (st' := []) (h' := (HP (fu (fu (fu (fu (fu I 8416 (imax 0 (((I 8416) + (ofv x4 (x5 - x6))) - x7))) 8417 (imax 0 (((I 8417) - (ofv x4 (x5 - x6))) - x7))) 8415 ((I 8415) + 1)) 8416 v2) 8417 v2) (fu (fu (fu (fu (fu A 92 X9) 93 X10) 94 X11) 90 X15) 91 X16) L F E)) rfl).trans ?_
              rfl
          · refine bind_as.trans ?_
            refine bind_cg fun X17 hX17 => ?_
            show mm_run G0 138 75 [some (.ref 84), some (.int v1), some (.int v2), some (.int v3), some (.int v4)] [.int 1] (HP (fu (fu (fu I 8416 (imax 0 (((I 8416) + (ofv x4 (x5 - x6))) - x7))) 8417 (imax 0 (((I 8417) - (ofv x4 (x5 - x6))) - x7))) 8415 ((I 8415) + 1)) (fu (fu (fu A 92 X9) 93 X10) 94 X17) L F E) = _
            refine (sg_go ht_X8_goesThrough (k := 3) (pc' := 80) (L' := [some (.ref 84), some (.int v1), some (.int v2), some (.int v3), some (.int v4)]) (st' := [.int v2, .ref 84]) (h' := (HP (fu (fu (fu I 8416 (imax 0 (((I 8416) + (ofv x4 (x5 - x6))) - x7))) 8417 (imax 0 (((I 8417) - (ofv x4 (x5 - x6))) - x7))) 8415 ((I 8415) + 1)) (fu (fu (fu A 92 X9) 93 X10) 94 X17) L F E)) rfl).trans ?_
            refine (sg_putI (h' := (HP (fu (fu (fu (fu I 8416 (imax 0 (((I 8416) + (ofv x4 (x5 - x6))) - x7))) 8417 (imax 0 (((I 8417) - (ofv x4 (x5 - x6))) - x7))) 8415 ((I 8415) + 1)) 8416 v2) (fu (fu (fu A 92 X9) 93 X10) 94 X17) L F E)) ht_X8_goesThrough rfl hp_o_84 (Nat.le_of_ble_eq_true rfl) hp_p_8416).trans ?_
            refine (sg_go ht_X8_goesThrough (k := 2) (pc' := 85) (L' := [some (.ref 84), some (.int v1), some (.int v2), some (.int v3), some (.int v4)]) (st' := [.int v2, .ref 84]) (h' := (HP (fu (fu (fu (fu I 8416 (imax 0 (((I 8416) + (ofv x4 (x5 - x6))) - x7))) 8417 (imax 0 (((I 8417) - (ofv x4 (x5 - x6))) - x7))) 8415 ((I 8415) + 1)) 8416 v2) (fu (fu (fu A 92 X9) 93 X10) 94 X17) L F E)) rfl).trans ?_
            refine (sg_putI (h' := (HP (fu (fu (fu (fu (fu I 8416 (imax 0 (((I 8416) + (ofv x4 (x5 - x6))) - x7))) 8417 (imax 0 (((I 8417) - (ofv x4 (x5 - x6))) - x7))) 8415 ((I 8415) + 1)) 8416 v2) 8417 v2) (fu (fu (fu A 92 X9) 93 X10) 94 X17) L F E)) ht_X8_goesThrough rfl hp_o_84 (Nat.le_of_ble_eq_true rfl) hp_p_8417).trans ?_
            refine (sg_go ht_X8_goesThrough (k := 3) (pc' := 93) (L' := [some (.ref 84), some (.int v1), some (.int v2), some (.int v3), some (.int v4)]) (st' := [.int v1, .ref 85]) (h' := (HP (fu (fu (fu (fu (fu I 8416 (imax 0 (((I 8416) + (ofv x4 (x5 - x6))) - x7))) 8417 (imax 0 (((I 8417) - (ofv x4 (x5 - x6))) - x7))) 8415 ((I 8415) + 1)) 8416 v2) 8417 v2) (fu (fu (fu A 92 X9) 93 X10) 94 X17) L F E)) rfl).trans ?_
            refine (sg_call ht_X8_goesThrough (mj := 112) (as := [.int v1]) (rest := [.ref 85]) rfl rfl ⟨by decide, Nat.le_of_ble_eq_true rfl⟩).trans ?_
            refine (bind_eq (sg_X8_base_0 v1)).trans ?_
            show mm_run G0 138 96 [some (.ref 84), some (.int v1), some (.int v2), some (.int v3), some (.int v4)] [.int (45 * v1), .ref 85] (HP (fu (fu (fu (fu (fu I 8416 (imax 0 (((I 8416) + (ofv x4 (x5 - x6))) - x7))) 8417 (imax 0 (((I 8417) - (ofv x4 (x5 - x6))) - x7))) 8415 ((I 8415) + 1)) 8416 v2) 8417 v2) (fu (fu (fu A 92 X9) 93 X10) 94 X17) L F E) = _
            refine (sg_go ht_X8_goesThrough (k := 2) (pc' := 98) (L' := [some (.ref 84), some (.int v1), some (.int v2), some (.int v3), some (.int v4)]) (st' := [.int ((45 * v1) + 0), .ref 85]) (h' := (HP (fu (fu (fu (fu (fu I 8416 (imax 0 (((I 8416) + (ofv x4 (x5 - x6))) - x7))) 8417 (imax 0 (((I 8417) - (ofv x4 (x5 - x6))) - x7))) 8415 ((I 8415) + 1)) 8416 v2) 8417 v2) (fu (fu (fu A 92 X9) 93 X10) 94 X17) L F E)) rfl).trans ?_
            refine (sg_ldI ht_X8_goesThrough rfl hp_o_85).trans ?_
            refine bind_cg fun x18 hx18 => ?_
            refine (sg_go ht_X8_goesThrough (k := 1) (pc' := 100) (L' := [some (.ref 84), some (.int v1), some (.int v2), some (.int v3), some (.int v4)]) (st' := [.int 4, .int x18]) (h' := (HP (fu (fu (fu (fu (fu I 8416 (imax 0 (((I 8416) + (ofv x4 (x5 - x6))) - x7))) 8417 (imax 0 (((I 8417) - (ofv x4 (x5 - x6))) - x7))) 8415 ((I 8415) + 1)) 8416 v2) 8417 v2) (fu (fu (fu A 92 X9) 93 X10) 94 X17) L F E)) rfl).trans ?_
            refine (sg_cmp ht_X8_goesThrough rfl).trans ?_
            refine ite_congr rfl (fun _ => ?_) (fun _ => ?_)
            · refine (sg_go ht_X8_goesThrough (k := 7) (pc' := 119) (L' := [some (.ref 84), some (.int v1), some (.int v2), some (.int 0), some (.int v4)]) (st' := [.int ((fu (fu (fu (fu (fu I 8416 (imax 0 (((I 8416) + (ofv x4 (x5 - x6))) - x7))) 8417 (imax 0 (((I 8417) - (ofv x4 (x5 - x6))) - x7))) 8415 ((I 8415) + 1)) 8416 v2) 8417 v2) 8416), .int v4, .ref 90]) (h' := (HP (fu (fu (fu (fu (fu I 8416 (imax 0 (((I 8416) + (ofv x4 (x5 - x6))) - x7))) 8417 (imax 0 (((I 8417) - (ofv x4 (x5 - x6))) - x7))) 8415 ((I 8415) + 1)) 8416 v2) 8417 v2) (fu (fu (fu A 92 X9) 93 X10) 94 X17) L F E)) rfl).trans ?_
              refine (sg_stI (hh := fun X19 => (HP (fu (fu (fu (fu (fu I 8416 (imax 0 (((I 8416) + (ofv x4 (x5 - x6))) - x7))) 8417 (imax 0 (((I 8417) - (ofv x4 (x5 - x6))) - x7))) 8415 ((I 8415) + 1)) 8416 v2) 8417 v2) (fu (fu (fu (fu A 92 X9) 93 X10) 94 X17) 90 X19) L F E)) ht_X8_goesThrough rfl hp_o_90 (fun _ => hp_s_90)).trans ?_
              refine bind_cg fun X19 hX19 => ?_
              refine (sg_go ht_X8_goesThrough (k := 5) (pc' := 130) (L' := [some (.ref 84), some (.int v1), some (.int v2), some (.int 0), some (.int v4)]) (st' := [.int ((fu (fu (fu (fu (fu I 8416 (imax 0 (((I 8416) + (ofv x4 (x5 - x6))) - x7))) 8417 (imax 0 (((I 8417) - (ofv x4 (x5 - x6))) - x7))) 8415 ((I 8415) + 1)) 8416 v2) 8417 v2) 8417), .int v4, .ref 91]) (h' := (HP (fu (fu (fu (fu (fu I 8416 (imax 0 (((I 8416) + (ofv x4 (x5 - x6))) - x7))) 8417 (imax 0 (((I 8417) - (ofv x4 (x5 - x6))) - x7))) 8415 ((I 8415) + 1)) 8416 v2) 8417 v2) (fu (fu (fu (fu A 92 X9) 93 X10) 94 X17) 90 X19) L F E)) rfl).trans ?_
              refine (sg_stI (hh := fun X20 => (HP (fu (fu (fu (fu (fu I 8416 (imax 0 (((I 8416) + (ofv x4 (x5 - x6))) - x7))) 8417 (imax 0 (((I 8417) - (ofv x4 (x5 - x6))) - x7))) 8415 ((I 8415) + 1)) 8416 v2) 8417 v2) (fu (fu (fu (fu (fu A 92 X9) 93 X10) 94 X17) 90 X19) 91 X20) L F E)) ht_X8_goesThrough rfl hp_o_91 (fun _ => hp_s_91)).trans ?_
              refine bind_cg fun X20 hX20 => ?_
              refine (sg_go ht_X8_goesThrough (k := 2) (pc' := 26) (L' := [some (.ref 84), some (.int v1), some (.int v2), some (.int 0), some (.int (v4 + 1))]) (st' := []) (h' := (HP (fu (fu (fu (fu (fu I 8416 (imax 0 (((I 8416) + (ofv x4 (x5 - x6))) - x7))) 8417 (imax 0 (((I 8417) - (ofv x4 (x5 - x6))) - x7))) 8415 ((I 8415) + 1)) 8416 v2) 8417 v2) (fu (fu (fu (fu (fu A 92 X9) 93 X10) 94 X17) 90 X19) 91 X20) L F E)) rfl).trans ?_
              rfl
            · refine (sg_go ht_X8_goesThrough (k := 8) (pc' := 119) (L' := [some (.ref 84), some (.int v1), some (.int v2), some (.int 1), some (.int v4)]) (st' := [.int ((fu (fu (fu (fu (fu I 8416 (imax 0 (((I 8416) + (ofv x4 (x5 - x6))) - x7))) 8417 (imax 0 (((I 8417) - (ofv x4 (x5 - x6))) - x7))) 8415 ((I 8415) + 1)) 8416 v2) 8417 v2) 8416), .int v4, .ref 90]) (h' := (HP (fu (fu (fu (fu (fu I 8416 (imax 0 (((I 8416) + (ofv x4 (x5 - x6))) - x7))) 8417 (imax 0 (((I 8417) - (ofv x4 (x5 - x6))) - x7))) 8415 ((I 8415) + 1)) 8416 v2) 8417 v2) (fu (fu (fu A 92 X9) 93 X10) 94 X17) L F E)) rfl).trans ?_
              refine (sg_stI (hh := fun X21 => (HP (fu (fu (fu (fu (fu I 8416 (imax 0 (((I 8416) + (ofv x4 (x5 - x6))) - x7))) 8417 (imax 0 (((I 8417) - (ofv x4 (x5 - x6))) - x7))) 8415 ((I 8415) + 1)) 8416 v2) 8417 v2) (fu (fu (fu (fu A 92 X9) 93 X10) 94 X17) 90 X21) L F E)) ht_X8_goesThrough rfl hp_o_90 (fun _ => hp_s_90)).trans ?_
              refine bind_cg fun X21 hX21 => ?_
              refine (sg_go ht_X8_goesThrough (k := 5) (pc' := 130) (L' := [some (.ref 84), some (.int v1), some (.int v2), some (.int 1), some (.int v4)]) (st' := [.int ((fu (fu (fu (fu (fu I 8416 (imax 0 (((I 8416) + (ofv x4 (x5 - x6))) - x7))) 8417 (imax 0 (((I 8417) - (ofv x4 (x5 - x6))) - x7))) 8415 ((I 8415) + 1)) 8416 v2) 8417 v2) 8417), .int v4, .ref 91]) (h' := (HP (fu (fu (fu (fu (fu I 8416 (imax 0 (((I 8416) + (ofv x4 (x5 - x6))) - x7))) 8417 (imax 0 (((I 8417) - (ofv x4 (x5 - x6))) - x7))) 8415 ((I 8415) + 1)) 8416 v2) 8417 v2) (fu (fu (fu (fu A 92 X9) 93 X10) 94 X17) 90 X21) L F E)) rfl).trans ?_
              refine (sg_stI (hh := fun X22 => (HP (fu (fu (fu (fu (fu I 8416 (imax 0 (((I 8416) + (ofv x4 (x5 - x6))) - x7))) 8417 (imax 0 (((I 8417) - (ofv x4 (x5 - x6))) - x7))) 8415 ((I 8415) + 1)) 8416 v2) 8417 v2) (fu (fu (fu (fu (fu A 92 X9) 93 X10) 94 X17) 90 X21) 91 X22) L F E)) ht_X8_goesThrough rfl hp_o_91 (fun _ => hp_s_91)).trans ?_
              refine bind_cg fun X22 hX22 => ?_
              refine (sg_go ht_X8_goesThrough (k := 2) (pc' := 26) (L' := [some (.ref 84), some (.int v1), some (.int v2), some (.int 1), some (.int (v4 + 1))]) (st' := []) (h' := (HP (fu (fu (fu (fu (fu I 8416 (imax 0 (((I 8416) + (ofv x4 (x5 - x6))) - x7))) 8417 (imax 0 (((I 8417) - (ofv x4 (x5 - x6))) - x7))) 8415 ((I 8415) + 1)) 8416 v2) 8417 v2) (fu (fu (fu (fu (fu A 92 X9) 93 X10) 94 X17) 90 X21) 91 X22) L F E)) rfl).trans ?_
              rfl
        · refine bind_as.trans ?_
          refine bind_cg fun X23 hX23 => ?_
          refine ite_bd.trans ?_
          refine ite_congr rfl (fun _ => ?_) (fun _ => ?_)
          · refine bind_as.trans ?_
            refine bind_cg fun X24 hX24 => ?_
            show mm_run G0 138 75 [some (.ref 84), some (.int v1), some (.int v2), some (.int v3), some (.int v4)] [.int 1] (HP (fu (fu (fu I 8416 (imax 0 (((I 8416) + (ofv x4 (x5 - x6))) - x7))) 8417 (imax 0 (((I 8417) - (ofv x4 (x5 - x6))) - x7))) 8415 ((I 8415) + 1)) (fu (fu (fu A 92 X9) 93 X23) 94 X24) L F E) = _
            refine (sg_go ht_X8_goesThrough (k := 3) (pc' := 80) (L' := [some (.ref 84), some (.int v1), some (.int v2), some (.int v3), some (.int v4)]) (st' := [.int v2, .ref 84]) (h' := (HP (fu (fu (fu I 8416 (imax 0 (((I 8416) + (ofv x4 (x5 - x6))) - x7))) 8417 (imax 0 (((I 8417) - (ofv x4 (x5 - x6))) - x7))) 8415 ((I 8415) + 1)) (fu (fu (fu A 92 X9) 93 X23) 94 X24) L F E)) rfl).trans ?_
            refine (sg_putI (h' := (HP (fu (fu (fu (fu I 8416 (imax 0 (((I 8416) + (ofv x4 (x5 - x6))) - x7))) 8417 (imax 0 (((I 8417) - (ofv x4 (x5 - x6))) - x7))) 8415 ((I 8415) + 1)) 8416 v2) (fu (fu (fu A 92 X9) 93 X23) 94 X24) L F E)) ht_X8_goesThrough rfl hp_o_84 (Nat.le_of_ble_eq_true rfl) hp_p_8416).trans ?_
            refine (sg_go ht_X8_goesThrough (k := 2) (pc' := 85) (L' := [some (.ref 84), some (.int v1), some (.int v2), some (.int v3), some (.int v4)]) (st' := [.int v2, .ref 84]) (h' := (HP (fu (fu (fu (fu I 8416 (imax 0 (((I 8416) + (ofv x4 (x5 - x6))) - x7))) 8417 (imax 0 (((I 8417) - (ofv x4 (x5 - x6))) - x7))) 8415 ((I 8415) + 1)) 8416 v2) (fu (fu (fu A 92 X9) 93 X23) 94 X24) L F E)) rfl).trans ?_
            refine (sg_putI (h' := (HP (fu (fu (fu (fu (fu I 8416 (imax 0 (((I 8416) + (ofv x4 (x5 - x6))) - x7))) 8417 (imax 0 (((I 8417) - (ofv x4 (x5 - x6))) - x7))) 8415 ((I 8415) + 1)) 8416 v2) 8417 v2) (fu (fu (fu A 92 X9) 93 X23) 94 X24) L F E)) ht_X8_goesThrough rfl hp_o_84 (Nat.le_of_ble_eq_true rfl) hp_p_8417).trans ?_
            refine (sg_go ht_X8_goesThrough (k := 3) (pc' := 93) (L' := [some (.ref 84), some (.int v1), some (.int v2), some (.int v3), some (.int v4)]) (st' := [.int v1, .ref 85]) (h' := (HP (fu (fu (fu (fu (fu I 8416 (imax 0 (((I 8416) + (ofv x4 (x5 - x6))) - x7))) 8417 (imax 0 (((I 8417) - (ofv x4 (x5 - x6))) - x7))) 8415 ((I 8415) + 1)) 8416 v2) 8417 v2) (fu (fu (fu A 92 X9) 93 X23) 94 X24) L F E)) rfl).trans ?_
            refine (sg_call ht_X8_goesThrough (mj := 112) (as := [.int v1]) (rest := [.ref 85]) rfl rfl ⟨by decide, Nat.le_of_ble_eq_true rfl⟩).trans ?_
            refine (bind_eq (sg_X8_base_0 v1)).trans ?_
            show mm_run G0 138 96 [some (.ref 84), some (.int v1), some (.int v2), some (.int v3), some (.int v4)] [.int (45 * v1), .ref 85] (HP (fu (fu (fu (fu (fu I 8416 (imax 0 (((I 8416) + (ofv x4 (x5 - x6))) - x7))) 8417 (imax 0 (((I 8417) - (ofv x4 (x5 - x6))) - x7))) 8415 ((I 8415) + 1)) 8416 v2) 8417 v2) (fu (fu (fu A 92 X9) 93 X23) 94 X24) L F E) = _
            refine (sg_go ht_X8_goesThrough (k := 2) (pc' := 98) (L' := [some (.ref 84), some (.int v1), some (.int v2), some (.int v3), some (.int v4)]) (st' := [.int ((45 * v1) + 0), .ref 85]) (h' := (HP (fu (fu (fu (fu (fu I 8416 (imax 0 (((I 8416) + (ofv x4 (x5 - x6))) - x7))) 8417 (imax 0 (((I 8417) - (ofv x4 (x5 - x6))) - x7))) 8415 ((I 8415) + 1)) 8416 v2) 8417 v2) (fu (fu (fu A 92 X9) 93 X23) 94 X24) L F E)) rfl).trans ?_
            refine (sg_ldI ht_X8_goesThrough rfl hp_o_85).trans ?_
            refine bind_cg fun x25 hx25 => ?_
            refine (sg_go ht_X8_goesThrough (k := 1) (pc' := 100) (L' := [some (.ref 84), some (.int v1), some (.int v2), some (.int v3), some (.int v4)]) (st' := [.int 4, .int x25]) (h' := (HP (fu (fu (fu (fu (fu I 8416 (imax 0 (((I 8416) + (ofv x4 (x5 - x6))) - x7))) 8417 (imax 0 (((I 8417) - (ofv x4 (x5 - x6))) - x7))) 8415 ((I 8415) + 1)) 8416 v2) 8417 v2) (fu (fu (fu A 92 X9) 93 X23) 94 X24) L F E)) rfl).trans ?_
            refine (sg_cmp ht_X8_goesThrough rfl).trans ?_
            refine ite_congr rfl (fun _ => ?_) (fun _ => ?_)
            · refine (sg_go ht_X8_goesThrough (k := 7) (pc' := 119) (L' := [some (.ref 84), some (.int v1), some (.int v2), some (.int 0), some (.int v4)]) (st' := [.int ((fu (fu (fu (fu (fu I 8416 (imax 0 (((I 8416) + (ofv x4 (x5 - x6))) - x7))) 8417 (imax 0 (((I 8417) - (ofv x4 (x5 - x6))) - x7))) 8415 ((I 8415) + 1)) 8416 v2) 8417 v2) 8416), .int v4, .ref 90]) (h' := (HP (fu (fu (fu (fu (fu I 8416 (imax 0 (((I 8416) + (ofv x4 (x5 - x6))) - x7))) 8417 (imax 0 (((I 8417) - (ofv x4 (x5 - x6))) - x7))) 8415 ((I 8415) + 1)) 8416 v2) 8417 v2) (fu (fu (fu A 92 X9) 93 X23) 94 X24) L F E)) rfl).trans ?_
              refine (sg_stI (hh := fun X26 => (HP (fu (fu (fu (fu (fu I 8416 (imax 0 (((I 8416) + (ofv x4 (x5 - x6))) - x7))) 8417 (imax 0 (((I 8417) - (ofv x4 (x5 - x6))) - x7))) 8415 ((I 8415) + 1)) 8416 v2) 8417 v2) (fu (fu (fu (fu A 92 X9) 93 X23) 94 X24) 90 X26) L F E)) ht_X8_goesThrough rfl hp_o_90 (fun _ => hp_s_90)).trans ?_
              refine bind_cg fun X26 hX26 => ?_
              refine (sg_go ht_X8_goesThrough (k := 5) (pc' := 130) (L' := [some (.ref 84), some (.int v1), some (.int v2), some (.int 0), some (.int v4)]) (st' := [.int ((fu (fu (fu (fu (fu I 8416 (imax 0 (((I 8416) + (ofv x4 (x5 - x6))) - x7))) 8417 (imax 0 (((I 8417) - (ofv x4 (x5 - x6))) - x7))) 8415 ((I 8415) + 1)) 8416 v2) 8417 v2) 8417), .int v4, .ref 91]) (h' := (HP (fu (fu (fu (fu (fu I 8416 (imax 0 (((I 8416) + (ofv x4 (x5 - x6))) - x7))) 8417 (imax 0 (((I 8417) - (ofv x4 (x5 - x6))) - x7))) 8415 ((I 8415) + 1)) 8416 v2) 8417 v2) (fu (fu (fu (fu A 92 X9) 93 X23) 94 X24) 90 X26) L F E)) rfl).trans ?_
              refine (sg_stI (hh := fun X27 => (HP (fu (fu (fu (fu (fu I 8416 (imax 0 (((I 8416) + (ofv x4 (x5 - x6))) - x7))) 8417 (imax 0 (((I 8417) - (ofv x4 (x5 - x6))) - x7))) 8415 ((I 8415) + 1)) 8416 v2) 8417 v2) (fu (fu (fu (fu (fu A 92 X9) 93 X23) 94 X24) 90 X26) 91 X27) L F E)) ht_X8_goesThrough rfl hp_o_91 (fun _ => hp_s_91)).trans ?_
              refine bind_cg fun X27 hX27 => ?_
              refine (sg_go ht_X8_goesThrough (k := 2) (pc' := 26) (L' := [some (.ref 84), some (.int v1), some (.int v2), some (.int 0), some (.int (v4 + 1))]) (st' := []) (h' := (HP (fu (fu (fu (fu (fu I 8416 (imax 0 (((I 8416) + (ofv x4 (x5 - x6))) - x7))) 8417 (imax 0 (((I 8417) - (ofv x4 (x5 - x6))) - x7))) 8415 ((I 8415) + 1)) 8416 v2) 8417 v2) (fu (fu (fu (fu (fu A 92 X9) 93 X23) 94 X24) 90 X26) 91 X27) L F E)) rfl).trans ?_
              rfl
            · refine (sg_go ht_X8_goesThrough (k := 8) (pc' := 119) (L' := [some (.ref 84), some (.int v1), some (.int v2), some (.int 1), some (.int v4)]) (st' := [.int ((fu (fu (fu (fu (fu I 8416 (imax 0 (((I 8416) + (ofv x4 (x5 - x6))) - x7))) 8417 (imax 0 (((I 8417) - (ofv x4 (x5 - x6))) - x7))) 8415 ((I 8415) + 1)) 8416 v2) 8417 v2) 8416), .int v4, .ref 90]) (h' := (HP (fu (fu (fu (fu (fu I 8416 (imax 0 (((I 8416) + (ofv x4 (x5 - x6))) - x7))) 8417 (imax 0 (((I 8417) - (ofv x4 (x5 - x6))) - x7))) 8415 ((I 8415) + 1)) 8416 v2) 8417 v2) (fu (fu (fu A 92 X9) 93 X23) 94 X24) L F E)) rfl).trans ?_
              refine (sg_stI (hh := fun X28 => (HP (fu (fu (fu (fu (fu I 8416 (imax 0 (((I 8416) + (ofv x4 (x5 - x6))) - x7))) 8417 (imax 0 (((I 8417) - (ofv x4 (x5 - x6))) - x7))) 8415 ((I 8415) + 1)) 8416 v2) 8417 v2) (fu (fu (fu (fu A 92 X9) 93 X23) 94 X24) 90 X28) L F E)) ht_X8_goesThrough rfl hp_o_90 (fun _ => hp_s_90)).trans ?_
              refine bind_cg fun X28 hX28 => ?_
              refine (sg_go ht_X8_goesThrough (k := 5) (pc' := 130) (L' := [some (.ref 84), some (.int v1), some (.int v2), some (.int 1), some (.int v4)]) (st' := [.int ((fu (fu (fu (fu (fu I 8416 (imax 0 (((I 8416) + (ofv x4 (x5 - x6))) - x7))) 8417 (imax 0 (((I 8417) - (ofv x4 (x5 - x6))) - x7))) 8415 ((I 8415) + 1)) 8416 v2) 8417 v2) 8417), .int v4, .ref 91]) (h' := (HP (fu (fu (fu (fu (fu I 8416 (imax 0 (((I 8416) + (ofv x4 (x5 - x6))) - x7))) 8417 (imax 0 (((I 8417) - (ofv x4 (x5 - x6))) - x7))) 8415 ((I 8415) + 1)) 8416 v2) 8417 v2) (fu (fu (fu (fu A 92 X9) 93 X23) 94 X24) 90 X28) L F E)) rfl).trans ?_
              refine (sg_stI (hh := fun X29 => (HP (fu (fu (fu (fu (fu I 8416 (imax 0 (((I 8416) + (ofv x4 (x5 - x6))) - x7))) 8417 (imax 0 (((I 8417) - (ofv x4 (x5 - x6))) - x7))) 8415 ((I 8415) + 1)) 8416 v2) 8417 v2) (fu (fu (fu (fu (fu A 92 X9) 93 X23) 94 X24) 90 X28) 91 X29) L F E)) ht_X8_goesThrough rfl hp_o_91 (fun _ => hp_s_91)).trans ?_
              refine bind_cg fun X29 hX29 => ?_
              refine (sg_go ht_X8_goesThrough (k := 2) (pc' := 26) (L' := [some (.ref 84), some (.int v1), some (.int v2), some (.int 1), some (.int (v4 + 1))]) (st' := []) (h' := (HP (fu (fu (fu (fu (fu I 8416 (imax 0 (((I 8416) + (ofv x4 (x5 - x6))) - x7))) 8417 (imax 0 (((I 8417) - (ofv x4 (x5 - x6))) - x7))) 8415 ((I 8415) + 1)) 8416 v2) 8417 v2) (fu (fu (fu (fu (fu A 92 X9) 93 X23) 94 X24) 90 X28) 91 X29) L F E)) rfl).trans ?_
              rfl
          · refine bind_as.trans ?_
            refine bind_cg fun X30 hX30 => ?_
            show mm_run G0 138 75 [some (.ref 84), some (.int v1), some (.int v2), some (.int v3), some (.int v4)] [.int 1] (HP (fu (fu (fu I 8416 (imax 0 (((I 8416) + (ofv x4 (x5 - x6))) - x7))) 8417 (imax 0 (((I 8417) - (ofv x4 (x5 - x6))) - x7))) 8415 ((I 8415) + 1)) (fu (fu (fu A 92 X9) 93 X23) 94 X30) L F E) = _
            refine (sg_go ht_X8_goesThrough (k := 3) (pc' := 80) (L' := [some (.ref 84), some (.int v1), some (.int v2), some (.int v3), some (.int v4)]) (st' := [.int v2, .ref 84]) (h' := (HP (fu (fu (fu I 8416 (imax 0 (((I 8416) + (ofv x4 (x5 - x6))) - x7))) 8417 (imax 0 (((I 8417) - (ofv x4 (x5 - x6))) - x7))) 8415 ((I 8415) + 1)) (fu (fu (fu A 92 X9) 93 X23) 94 X30) L F E)) rfl).trans ?_
            refine (sg_putI (h' := (HP (fu (fu (fu (fu I 8416 (imax 0 (((I 8416) + (ofv x4 (x5 - x6))) - x7))) 8417 (imax 0 (((I 8417) - (ofv x4 (x5 - x6))) - x7))) 8415 ((I 8415) + 1)) 8416 v2) (fu (fu (fu A 92 X9) 93 X23) 94 X30) L F E)) ht_X8_goesThrough rfl hp_o_84 (Nat.le_of_ble_eq_true rfl) hp_p_8416).trans ?_
            refine (sg_go ht_X8_goesThrough (k := 2) (pc' := 85) (L' := [some (.ref 84), some (.int v1), some (.int v2), some (.int v3), some (.int v4)]) (st' := [.int v2, .ref 84]) (h' := (HP (fu (fu (fu (fu I 8416 (imax 0 (((I 8416) + (ofv x4 (x5 - x6))) - x7))) 8417 (imax 0 (((I 8417) - (ofv x4 (x5 - x6))) - x7))) 8415 ((I 8415) + 1)) 8416 v2) (fu (fu (fu A 92 X9) 93 X23) 94 X30) L F E)) rfl).trans ?_
            refine (sg_putI (h' := (HP (fu (fu (fu (fu (fu I 8416 (imax 0 (((I 8416) + (ofv x4 (x5 - x6))) - x7))) 8417 (imax 0 (((I 8417) - (ofv x4 (x5 - x6))) - x7))) 8415 ((I 8415) + 1)) 8416 v2) 8417 v2) (fu (fu (fu A 92 X9) 93 X23) 94 X30) L F E)) ht_X8_goesThrough rfl hp_o_84 (Nat.le_of_ble_eq_true rfl) hp_p_8417).trans ?_
            refine (sg_go ht_X8_goesThrough (k := 3) (pc' := 93) (L' := [some (.ref 84), some (.int v1), some (.int v2), some (.int v3), some (.int v4)]) (st' := [.int v1, .ref 85]) (h' := (HP (fu (fu (fu (fu (fu I 8416 (imax 0 (((I 8416) + (ofv x4 (x5 - x6))) - x7))) 8417 (imax 0 (((I 8417) - (ofv x4 (x5 - x6))) - x7))) 8415 ((I 8415) + 1)) 8416 v2) 8417 v2) (fu (fu (fu A 92 X9) 93 X23) 94 X30) L F E)) rfl).trans ?_
            refine (sg_call ht_X8_goesThrough (mj := 112) (as := [.int v1]) (rest := [.ref 85]) rfl rfl ⟨by decide, Nat.le_of_ble_eq_true rfl⟩).trans ?_
            refine (bind_eq (sg_X8_base_0 v1)).trans ?_
            show mm_run G0 138 96 [some (.ref 84), some (.int v1), some (.int v2), some (.int v3), some (.int v4)] [.int (45 * v1), .ref 85] (HP (fu (fu (fu (fu (fu I 8416 (imax 0 (((I 8416) + (ofv x4 (x5 - x6))) - x7))) 8417 (imax 0 (((I 8417) - (ofv x4 (x5 - x6))) - x7))) 8415 ((I 8415) + 1)) 8416 v2) 8417 v2) (fu (fu (fu A 92 X9) 93 X23) 94 X30) L F E) = _
            refine (sg_go ht_X8_goesThrough (k := 2) (pc' := 98) (L' := [some (.ref 84), some (.int v1), some (.int v2), some (.int v3), some (.int v4)]) (st' := [.int ((45 * v1) + 0), .ref 85]) (h' := (HP (fu (fu (fu (fu (fu I 8416 (imax 0 (((I 8416) + (ofv x4 (x5 - x6))) - x7))) 8417 (imax 0 (((I 8417) - (ofv x4 (x5 - x6))) - x7))) 8415 ((I 8415) + 1)) 8416 v2) 8417 v2) (fu (fu (fu A 92 X9) 93 X23) 94 X30) L F E)) rfl).trans ?_
            refine (sg_ldI ht_X8_goesThrough rfl hp_o_85).trans ?_
            refine bind_cg fun x31 hx31 => ?_
            refine (sg_go ht_X8_goesThrough (k := 1) (pc' := 100) (L' := [some (.ref 84), some (.int v1), some (.int v2), some (.int v3), some (.int v4)]) (st' := [.int 4, .int x31]) (h' := (HP (fu (fu (fu (fu (fu I 8416 (imax 0 (((I 8416) + (ofv x4 (x5 - x6))) - x7))) 8417 (imax 0 (((I 8417) - (ofv x4 (x5 - x6))) - x7))) 8415 ((I 8415) + 1)) 8416 v2) 8417 v2) (fu (fu (fu A 92 X9) 93 X23) 94 X30) L F E)) rfl).trans ?_
            refine (sg_cmp ht_X8_goesThrough rfl).trans ?_
            refine ite_congr rfl (fun _ => ?_) (fun _ => ?_)
            · refine (sg_go ht_X8_goesThrough (k := 7) (pc' := 119) (L' := [some (.ref 84), some (.int v1), some (.int v2), some (.int 0), some (.int v4)]) (st' := [.int ((fu (fu (fu (fu (fu I 8416 (imax 0 (((I 8416) + (ofv x4 (x5 - x6))) - x7))) 8417 (imax 0 (((I 8417) - (ofv x4 (x5 - x6))) - x7))) 8415 ((I 8415) + 1)) 8416 v2) 8417 v2) 8416), .int v4, .ref 90]) (h' := (HP (fu (fu (fu (fu (fu I 8416 (imax 0 (((I 8416) + (ofv x4 (x5 - x6))) - x7))) 8417 (imax 0 (((I 8417) - (ofv x4 (x5 - x6))) - x7))) 8415 ((I 8415) + 1)) 8416 v2) 8417 v2) (fu (fu (fu A 92 X9) 93 X23) 94 X30) L F E)) rfl).trans ?_
              refine (sg_stI (hh := fun X32 => (HP (fu (fu (fu (fu (fu I 8416 (imax 0 (((I 8416) + (ofv x4 (x5 - x6))) - x7))) 8417 (imax 0 (((I 8417) - (ofv x4 (x5 - x6))) - x7))) 8415 ((I 8415) + 1)) 8416 v2) 8417 v2) (fu (fu (fu (fu A 92 X9) 93 X23) 94 X30) 90 X32) L F E)) ht_X8_goesThrough rfl hp_o_90 (fun _ => hp_s_90)).trans ?_
              refine bind_cg fun X32 hX32 => ?_
              refine (sg_go ht_X8_goesThrough (k := 5) (pc' := 130) (L' := [some (.ref 84), some (.int v1), some (.int v2), some (.int 0), some (.int v4)]) (st' := [.int ((fu (fu (fu (fu (fu I 8416 (imax 0 (((I 8416) + (ofv x4 (x5 - x6))) - x7))) 8417 (imax 0 (((I 8417) - (ofv x4 (x5 - x6))) - x7))) 8415 ((I 8415) + 1)) 8416 v2) 8417 v2) 8417), .int v4, .ref 91]) (h' := (HP (fu (fu (fu (fu (fu I 8416 (imax 0 (((I 8416) + (ofv x4 (x5 - x6))) - x7))) 8417 (imax 0 (((I 8417) - (ofv x4 (x5 - x6))) - x7))) 8415 ((I 8415) + 1)) 8416 v2) 8417 v2) (fu (fu (fu (fu A 92 X9) 93 X23) 94 X30) 90 X32) L F E)) rfl).trans ?_
              refine (sg_stI (hh := fun X33 => (HP (fu (fu (fu (fu (fu I 8416 (imax 0 (((I 8416) + (ofv x4 (x5 - x6))) - x7))) 8417 (imax 0 (((I 8417) - (ofv x4 (x5 - x6))) - x7))) 8415 ((I 8415) + 1)) 8416 v2) 8417 v2) (fu (fu (fu (fu (fu A 92 X9) 93 X23) 94 X30) 90 X32) 91 X33) L F E)) ht_X8_goesThrough rfl hp_o_91 (fun _ => hp_s_91)).trans ?_
              refine bind_cg fun X33 hX33 => ?_
              refine (sg_go ht_X8_goesThrough (k := 2) (pc' := 26) (L' := [some (.ref 84), some (.int v1), some (.int v2), some (.int 0), some (.int (v4 + 1))]) (st' := []) (h' := (HP (fu (fu (fu (fu (fu I 8416 (imax 0 (((I 8416) + (ofv x4 (x5 - x6))) - x7))) 8417 (imax 0 (((I 8417) - (ofv x4 (x5 - x6))) - x7))) 8415 ((I 8415) + 1)) 8416 v2) 8417 v2) (fu (fu (fu (fu (fu A 92 X9) 93 X23) 94 X30) 90 X32) 91 X33) L F E)) rfl).trans ?_
              rfl
            · refine (sg_go ht_X8_goesThrough (k := 8) (pc' := 119) (L' := [some (.ref 84), some (.int v1), some (.int v2), some (.int 1), some (.int v4)]) (st' := [.int ((fu (fu (fu (fu (fu I 8416 (imax 0 (((I 8416) + (ofv x4 (x5 - x6))) - x7))) 8417 (imax 0 (((I 8417) - (ofv x4 (x5 - x6))) - x7))) 8415 ((I 8415) + 1)) 8416 v2) 8417 v2) 8416), .int v4, .ref 90]) (h' := (HP (fu (fu (fu (fu (fu I 8416 (imax 0 (((I 8416) + (ofv x4 (x5 - x6))) - x7))) 8417 (imax 0 (((I 8417) - (ofv x4 (x5 - x6))) - x7))) 8415 ((I 8415) + 1)) 8416 v2) 8417 v2) (fu (fu (fu A 92 X9) 93 X23) 94 X30) L F E)) rfl).trans ?_
              refine (sg_stI (hh := fun X34 => (HP (fu (fu (fu (fu (fu I 8416 (imax 0 (((I 8416) + (ofv x4 (x5 - x6))) - x7))) 8417 (imax 0 (((I 8417) - (ofv x4 (x5 - x6))) - x7))) 8415 ((I 8415) + 1)) 8416 v2) 8417 v2) (fu (fu (fu (fu A 92 X9) 93 X23) 94 X30) 90 X34) L F E)) ht_X8_goesThrough rfl hp_o_90 (fun _ => hp_s_90)).trans ?_
              refine bind_cg fun X34 hX34 => ?_
              refine (sg_go ht_X8_goesThrough (k := 5) (pc' := 130) (L' := [some (.ref 84), some (.int v1), some (.int v2), some (.int 1), some (.int v4)]) (st' := [.int ((fu (fu (fu (fu (fu I 8416 (imax 0 (((I 8416) + (ofv x4 (x5 - x6))) - x7))) 8417 (imax 0 (((I 8417) - (ofv x4 (x5 - x6))) - x7))) 8415 ((I 8415) + 1)) 8416 v2) 8417 v2) 8417), .int v4, .ref 91]) (h' := (HP (fu (fu (fu (fu (fu I 8416 (imax 0 (((I 8416) + (ofv x4 (x5 - x6))) - x7))) 8417 (imax 0 (((I 8417) - (ofv x4 (x5 - x6))) - x7))) 8415 ((I 8415) + 1)) 8416 v2) 8417 v2) (fu (fu (fu (fu A 92 X9) 93 X23) 94 X30) 90 X34) L F E)) rfl).trans ?_
              refine (sg_stI (hh := fun X35 => (HP (fu (fu (fu (fu (fu I 8416 (imax 0 (((I 8416) + (ofv x4 (x5 - x6))) - x7))) 8417 (imax 0 (((I 8417) - (ofv x4 (x5 - x6))) - x7))) 8415 ((I 8415) + 1)) 8416 v2) 8417 v2) (fu (fu (fu (fu (fu A 92 X9) 93 X23) 94 X30) 90 X34) 91 X35) L F E)) ht_X8_goesThrough rfl hp_o_91 (fun _ => hp_s_91)).trans ?_
              refine bind_cg fun X35 hX35 => ?_
              refine (sg_go ht_X8_goesThrough (k := 2) (pc' := 26) (L' := [some (.ref 84), some (.int v1), some (.int v2), some (.int 1), some (.int (v4 + 1))]) (st' := []) (h' := (HP (fu (fu (fu (fu (fu I 8416 (imax 0 (((I 8416) + (ofv x4 (x5 - x6))) - x7))) 8417 (imax 0 (((I 8417) - (ofv x4 (x5 - x6))) - x7))) 8415 ((I 8415) + 1)) 8416 v2) 8417 v2) (fu (fu (fu (fu (fu A 92 X9) 93 X23) 94 X30) 90 X34) 91 X35) L F E)) rfl).trans ?_
              rfl
      · refine ite_bd.trans ?_
        refine ite_congr rfl (fun _ => ?_) (fun _ => ?_)
        · refine bind_as.trans ?_
          refine bind_cg fun X36 hX36 => ?_
          refine ite_bd.trans ?_
          refine ite_congr rfl (fun _ => ?_) (fun _ => ?_)
          · refine bind_as.trans ?_
            refine bind_cg fun X37 hX37 => ?_
            refine ite_bd.trans ?_
            refine ite_congr rfl (fun _ => ?_) (fun _ => ?_)
            · refine bind_as.trans ?_
              refine bind_cg fun X38 hX38 => ?_
              show mm_run G0 138 75 [some (.ref 84), some (.int v1), some (.int v2), some (.int v3), some (.int v4)] [.int 1] (HP (fu (fu (fu I 8416 (imax 0 (((I 8416) + (ofv x4 (x5 - x6))) - x7))) 8417 (imax 0 (((I 8417) - (ofv x4 (x5 - x6))) - x7))) 8415 ((I 8415) + 1)) (fu (fu (fu A 92 X36) 93 X37) 94 X38) L F E) = _
              refine (sg_go ht_X8_goesThrough (k := 3) (pc' := 80) (L' := [some (.ref 84), some (.int v1), some (.int v2), some (.int v3), some (.int v4)]) (st' := [.int v2, .ref 84]) (h' := (HP (fu (fu (fu I 8416 (imax 0 (((I 8416) + (ofv x4 (x5 - x6))) - x7))) 8417 (imax 0 (((I 8417) - (ofv x4 (x5 - x6))) - x7))) 8415 ((I 8415) + 1)) (fu (fu (fu A 92 X36) 93 X37) 94 X38) L F E)) rfl).trans ?_
              refine (sg_putI (h' := (HP (fu (fu (fu (fu I 8416 (imax 0 (((I 8416) + (ofv x4 (x5 - x6))) - x7))) 8417 (imax 0 (((I 8417) - (ofv x4 (x5 - x6))) - x7))) 8415 ((I 8415) + 1)) 8416 v2) (fu (fu (fu A 92 X36) 93 X37) 94 X38) L F E)) ht_X8_goesThrough rfl hp_o_84 (Nat.le_of_ble_eq_true rfl) hp_p_8416).trans ?_
              refine (sg_go ht_X8_goesThrough (k := 2) (pc' := 85) (L' := [some (.ref 84), some (.int v1), some (.int v2), some (.int v3), some (.int v4)]) (st' := [.int v2, .ref 84]) (h' := (HP (fu (fu (fu (fu I 8416 (imax 0 (((I 8416) + (ofv x4 (x5 - x6))) - x7))) 8417 (imax 0 (((I 8417) - (ofv x4 (x5 - x6))) - x7))) 8415 ((I 8415) + 1)) 8416 v2) (fu (fu (fu A 92 X36) 93 X37) 94 X38) L F E)) rfl).trans ?_
              refine (sg_putI (h' := (HP (fu (fu (fu (fu (fu I 8416 (imax 0 (((I 8416) + (ofv x4 (x5 - x6))) - x7))) 8417 (imax 0 (((I 8417) - (ofv x4 (x5 - x6))) - x7))) 8415 ((I 8415) + 1)) 8416 v2) 8417 v2) (fu (fu (fu A 92 X36) 93 X37) 94 X38) L F E)) ht_X8_goesThrough rfl hp_o_84 (Nat.le_of_ble_eq_true rfl) hp_p_8417).trans ?_
              refine (sg_go ht_X8_goesThrough (k := 3) (pc' := 93) (L' := [some (.ref 84), some (.int v1), some (.int v2), some (.int v3), some (.int v4)]) (st' := [.int v1, .ref 85]) (h' := (HP (fu (fu (fu (fu (fu I 8416 (imax 0 (((I 8416) + (ofv x4 (x5 - x6))) - x7))) 8417 (imax 0 (((I 8417) - (ofv x4 (x5 - x6))) - x7))) 8415 ((I 8415) + 1)) 8416 v2) 8417 v2) (fu (fu (fu A 92 X36) 93 X37) 94 X38) L F E)) rfl).trans ?_
              refine (sg_call ht_X8_goesThrough (mj := 112) (as := [.int v1]) (rest := [.ref 85]) rfl rfl ⟨by decide, Nat.le_of_ble_eq_true rfl⟩).trans ?_
              refine (bind_eq (sg_X8_base_0 v1)).trans ?_
              show mm_run G0 138 96 [some (.ref 84), some (.int v1), some (.int v2), some (.int v3), some (.int v4)] [.int (45 * v1), .ref 85] (HP (fu (fu (fu (fu (fu I 8416 (imax 0 (((I 8416) + (ofv x4 (x5 - x6))) - x7))) 8417 (imax 0 (((I 8417) - (ofv x4 (x5 - x6))) - x7))) 8415 ((I 8415) + 1)) 8416 v2) 8417 v2) (fu (fu (fu A 92 X36) 93 X37) 94 X38) L F E) = _
              refine (sg_go ht_X8_goesThrough (k := 2) (pc' := 98) (L' := [some (.ref 84), some (.int v1), some (.int v2), some (.int v3), some (.int v4)]) (st' := [.int ((45 * v1) + 0), .ref 85]) (h' := (HP (fu (fu (fu (fu (fu I 8416 (imax 0 (((I 8416) + (ofv x4 (x5 - x6))) - x7))) 8417 (imax 0 (((I 8417) - (ofv x4 (x5 - x6))) - x7))) 8415 ((I 8415) + 1)) 8416 v2) 8417 v2) (fu (fu (fu A 92 X36) 93 X37) 94 X38) L F E)) rfl).trans ?_
              refine (sg_ldI ht_X8_goesThrough rfl hp_o_85).trans ?_
              refine bind_cg fun x39 hx39 => ?_
              refine (sg_go ht_X8_goesThrough (k := 1) (pc' := 100) (L' := [some (.ref 84), some (.int v1), some (.int v2), some (.int v3), some (.int v4)]) (st' := [.int 4, .int x39]) (h' := (HP (fu (fu (fu (fu (fu I 8416 (imax 0 (((I 8416) + (ofv x4 (x5 - x6))) - x7))) 8417 (imax 0 (((I 8417) - (ofv x4 (x5 - x6))) - x7))) 8415 ((I 8415) + 1)) 8416 v2) 8417 v2) (fu (fu (fu A 92 X36) 93 X37) 94 X38) L F E)) rfl).trans ?_
              refine (sg_cmp ht_X8_goesThrough rfl).trans ?_
              refine ite_congr rfl (fun _ => ?_) (fun _ => ?_)
              · refine (sg_go ht_X8_goesThrough (k := 7) (pc' := 119) (L' := [some (.ref 84), some (.int v1), some (.int v2), some (.int 0), some (.int v4)]) (st' := [.int ((fu (fu (fu (fu (fu I 8416 (imax 0 (((I 8416) + (ofv x4 (x5 - x6))) - x7))) 8417 (imax 0 (((I 8417) - (ofv x4 (x5 - x6))) - x7))) 8415 ((I 8415) + 1)) 8416 v2) 8417 v2) 8416), .int v4, .ref 90]) (h' := (HP (fu (fu (fu (fu (fu I 8416 (imax 0 (((I 8416) + (ofv x4 (x5 - x6))) - x7))) 8417 (imax 0 (((I 8417) - (ofv x4 (x5 - x6))) - x7))) 8415 ((I 8415) + 1)) 8416 v2) 8417 v2) (fu (fu (fu A 92 X36) 93 X37) 94 X38) L F E)) rfl).trans ?_
                refine (sg_stI (hh := fun X40 => (HP (fu (fu (fu (fu (fu I 8416 (imax 0 (((I 8416) + (ofv x4 (x5 - x6))) - x7))) 8417 (imax 0 (((I 8417) - (ofv x4 (x5 - x6))) - x7))) 8415 ((I 8415) + 1)) 8416 v2) 8417 v2) (fu (fu (fu (fu A 92 X36) 93 X37) 94 X38) 90 X40) L F E)) ht_X8_goesThrough rfl hp_o_90 (fun _ => hp_s_90)).trans ?_
                refine bind_cg fun X40 hX40 => ?_
                refine (sg_go ht_X8_goesThrough (k := 5) (pc' := 130) (L' := [some (.ref 84), some (.int v1), some (.int v2), some (.int 0), some (.int v4)]) (st' := [.int ((fu (fu (fu (fu (fu I 8416 (imax 0 (((I 8416) + (ofv x4 (x5 - x6))) - x7))) 8417 (imax 0 (((I 8417) - (ofv x4 (x5 - x6))) - x7))) 8415 ((I 8415) + 1)) 8416 v2) 8417 v2) 8417), .int v4, .ref 91]) (h' := (HP (fu (fu (fu (fu (fu I 8416 (imax 0 (((I 8416) + (ofv x4 (x5 - x6))) - x7))) 8417 (imax 0 (((I 8417) - (ofv x4 (x5 - x6))) - x7))) 8415 ((I 8415) + 1)) 8416 v2) 8417 v2) (fu (fu (fu (fu A 92 X36) 93 X37) 94 X38) 90 X40) L F E)) rfl).trans ?_
                refine (sg_stI (hh := fun X41 => (HP (fu (fu (fu (fu (fu I 8416 (imax 0 (((I 8416) + (ofv x4 (x5 - x6))) - x7))) 8417 (imax 0 (((I 8417) - (ofv x4 (x5 - x6))) - x7))) 8415 ((I 8415) + 1)) 8416 v2) 8417 v2) (fu (fu (fu (fu (fu A 92 X36) 93 X37) 94 X38) 90 X40) 91 X41) L F E)) ht_X8_goesThrough rfl hp_o_91 (fun _ => hp_s_91)).trans ?_
                refine bind_cg fun X41 hX41 => ?_
                refine (sg_go ht_X8_goesThrough (k := 2) (pc' := 26) (L' := [some (.ref 84), some (.int v1), some (.int v2), some (.int 0), some (.int (v4 + 1))]) (st' := []) (h' := (HP (fu (fu (fu (fu (fu I 8416 (imax 0 (((I 8416) + (ofv x4 (x5 - x6))) - x7))) 8417 (imax 0 (((I 8417) - (ofv x4 (x5 - x6))) - x7))) 8415 ((I 8415) + 1)) 8416 v2) 8417 v2) (fu (fu (fu (fu (fu A 92 X36) 93 X37) 94 X38) 90 X40) 91 X41) L F E)) rfl).trans ?_
                rfl
              · refine (sg_go ht_X8_goesThrough (k := 8) (pc' := 119) (L' := [some (.ref 84), some (.int v1), some (.int v2), some (.int 1), some (.int v4)]) (st' := [.int ((fu (fu (fu (fu (fu I 8416 (imax 0 (((I 8416) + (ofv x4 (x5 - x6))) - x7))) 8417 (imax 0 (((I 8417) - (ofv x4 (x5 - x6))) - x7))) 8415 ((I 8415) + 1)) 8416 v2) 8417 v2) 8416), .int v4, .ref 90]) (h' := (HP (fu (fu (fu (fu (fu I 8416 (imax 0 (((I 8416) + (ofv x4 (x5 - x6))) - x7))) 8417 (imax 0 (((I 8417) - (ofv x4 (x5 - x6))) - x7))) 8415 ((I 8415) + 1)) 8416 v2) 8417 v2) (fu (fu (fu A 92 X36) 93 X37) 94 X38) L F E)) rfl).trans ?_
                refine (sg_stI (hh := fun X42 => (HP (fu (fu (fu (fu (fu I 8416 (imax 0 (((I 8416) + (ofv x4 (x5 - x6))) - x7))) 8417 (imax 0 (((I 8417) - (ofv x4 (x5 - x6))) - x7))) 8415 ((I 8415) + 1)) 8416 v2) 8417 v2) (fu (fu (fu (fu A 92 X36) 93 X37) 94 X38) 90 X42) L F E)) ht_X8_goesThrough rfl hp_o_90 (fun _ => hp_s_90)).trans ?_
                refine bind_cg fun X42 hX42 => ?_
                refine (sg_go ht_X8_goesThrough (k := 5) (pc' := 130) (L' := [some (.ref 84), some (.int v1), some (.int v2), some (.int 1), some (.int v4)]) (st' := [.int ((fu (fu (fu (fu (fu I 8416 (imax 0 (((I 8416) + (ofv x4 (x5 - x6))) - x7))) 8417 (imax 0 (((I 8417) - (ofv x4 (x5 - x6))) - x7))) 8415 ((I 8415) + 1)) 8416 v2) 8417 v2) 8417), .int v4, .ref 91]) (h' := (HP (fu (fu (fu (fu (fu I 8416 (imax 0 (((I 8416) + (ofv x4 (x5 - x6))) - x7))) 8417 (imax 0 (((I 8417) - (ofv x4 (x5 - x6))) - x7))) 8415 ((I 8415) + 1)) 8416 v2) 8417 v2) (fu (fu (fu (fu A 92 X36) 93 X37) 94 X38) 90 X42) L F E)) rfl).trans ?_
                refine (sg_stI (hh := fun X43 => (HP (fu (fu (fu (fu (fu I 8416 (imax 0 (((I 8416) + (ofv x4 (x5 - x6))) - x7))) 8417 (imax 0 (((I 8417) - (ofv x4 (x5 - x6))) - x7))) 8415 ((I 8415) + 1)) 8416 v2) 8417 v2) (fu (fu (fu (fu (fu A 92 X36) 93 X37) 94 X38) 90 X42) 91 X43) L F E)) ht_X8_goesThrough rfl hp_o_91 (fun _ => hp_s_91)).trans ?_
                refine bind_cg fun X43 hX43 => ?_
                refine (sg_go ht_X8_goesThrough (k := 2) (pc' := 26) (L' := [some (.ref 84), some (.int v1), some (.int v2), some (.int 1), some (.int (v4 + 1))]) (st' := []) (h' := (HP (fu (fu (fu (fu (fu I 8416 (imax 0 (((I 8416) + (ofv x4 (x5 - x6))) - x7))) 8417 (imax 0 (((I 8417) - (ofv x4 (x5 - x6))) - x7))) 8415 ((I 8415) + 1)) 8416 v2) 8417 v2) (fu (fu (fu (fu (fu A 92 X36) 93 X37) 94 X38) 90 X42) 91 X43) L F E)) rfl).trans ?_
                rfl
            · refine bind_as.trans ?_
              refine bind_cg fun X44 hX44 => ?_
              show mm_run G0 138 75 [some (.ref 84), some (.int v1), some (.int v2), some (.int v3), some (.int v4)] [.int 1] (HP (fu (fu (fu I 8416 (imax 0 (((I 8416) + (ofv x4 (x5 - x6))) - x7))) 8417 (imax 0 (((I 8417) - (ofv x4 (x5 - x6))) - x7))) 8415 ((I 8415) + 1)) (fu (fu (fu A 92 X36) 93 X37) 94 X44) L F E) = _
              refine (sg_go ht_X8_goesThrough (k := 3) (pc' := 80) (L' := [some (.ref 84), some (.int v1), some (.int v2), some (.int v3), some (.int v4)]) (st' := [.int v2, .ref 84]) (h' := (HP (fu (fu (fu I 8416 (imax 0 (((I 8416) + (ofv x4 (x5 - x6))) - x7))) 8417 (imax 0 (((I 8417) - (ofv x4 (x5 - x6))) - x7))) 8415 ((I 8415) + 1)) (fu (fu (fu A 92 X36) 93 X37) 94 X44) L F E)) rfl).trans ?_
              refine (sg_putI (h' := (HP (fu (fu (fu (fu I 8416 (imax 0 (((I 8416) + (ofv x4 (x5 - x6))) - x7))) 8417 (imax 0 (((I 8417) - (ofv x4 (x5 - x6))) - x7))) 8415 ((I 8415) + 1)) 8416 v2) (fu (fu (fu A 92 X36) 93 X37) 94 X44) L F E)) ht_X8_goesThrough rfl hp_o_84 (Nat.le_of_ble_eq_true rfl) hp_p_8416).trans ?_
              refine (sg_go ht_X8_goesThrough (k := 2) (pc' := 85) (L' := [some (.ref 84), some (.int v1), some (.int v2), some (.int v3), some (.int v4)]) (st' := [.int v2, .ref 84]) (h' := (HP (fu (fu (fu (fu I 8416 (imax 0 (((I 8416) + (ofv x4 (x5 - x6))) - x7))) 8417 (imax 0 (((I 8417) - (ofv x4 (x5 - x6))) - x7))) 8415 ((I 8415) + 1)) 8416 v2) (fu (fu (fu A 92 X36) 93 X37) 94 X44) L F E)) rfl).trans ?_
              refine (sg_putI (h' := (HP (fu (fu (fu (fu (fu I 8416 (imax 0 (((I 8416) + (ofv x4 (x5 - x6))) - x7))) 8417 (imax 0 (((I 8417) - (ofv x4 (x5 - x6))) - x7))) 8415 ((I 8415) + 1)) 8416 v2) 8417 v2) (fu (fu (fu A 92 X36) 93 X37) 94 X44) L F E)) ht_X8_goesThrough rfl hp_o_84 (Nat.le_of_ble_eq_true rfl) hp_p_8417).trans ?_
              refine (sg_go ht_X8_goesThrough (k := 3) (pc' := 93) (L' := [some (.ref 84), some (.int v1), some (.int v2), some (.int v3), some (.int v4)]) (st' := [.int v1, .ref 85]) (h' := (HP (fu (fu (fu (fu (fu I 8416 (imax 0 (((I 8416) + (ofv x4 (x5 - x6))) - x7))) 8417 (imax 0 (((I 8417) - (ofv x4 (x5 - x6))) - x7))) 8415 ((I 8415) + 1)) 8416 v2) 8417 v2) (fu (fu (fu A 92 X36) 93 X37) 94 X44) L F E)) rfl).trans ?_
              refine (sg_call ht_X8_goesThrough (mj := 112) (as := [.int v1]) (rest := [.ref 85]) rfl rfl ⟨by decide, Nat.le_of_ble_eq_true rfl⟩).trans ?_
              refine (bind_eq (sg_X8_base_0 v1)).trans ?_
              show mm_run G0 138 96 [some (.ref 84), some (.int v1), some (.int v2), some (.int v3), some (.int v4)] [.int (45 * v1), .ref 85] (HP (fu (fu (fu (fu (fu I 8416 (imax 0 (((I 8416) + (ofv x4 (x5 - x6))) - x7))) 8417 (imax 0 (((I 8417) - (ofv x4 (x5 - x6))) - x7))) 8415 ((I 8415) + 1)) 8416 v2) 8417 v2) (fu (fu (fu A 92 X36) 93 X37) 94 X44) L F E) = _
              refine (sg_go ht_X8_goesThrough (k := 2) (pc' := 98) (L' := [some (.ref 84), some (.int v1), some (.int v2), some (.int v3), some (.int v4)]) (st' := [.int ((45 * v1) + 0), .ref 85]) (h' := (HP (fu (fu (fu (fu (fu I 8416 (imax 0 (((I 8416) + (ofv x4 (x5 - x6))) - x7))) 8417 (imax 0 (((I 8417) - (ofv x4 (x5 - x6))) - x7))) 8415 ((I 8415) + 1)) 8416 v2) 8417 v2) (fu (fu (fu A 92 X36) 93 X37) 94 X44) L F E)) rfl).trans ?_
              refine (sg_ldI ht_X8_goesThrough rfl hp_o_85).trans ?_
              refine bind_cg fun x45 hx45 => ?_
              refine (sg_go ht_X8_goesThrough (k := 1) (pc' := 100) (L' := [some (.ref 84), some (.int v1), some (.int v2), some (.int v3), some (.int v4)]) (st' := [.int 4, .int x45]) (h' := (HP (fu (fu (fu (fu (fu I 8416 (imax 0 (((I 8416) + (ofv x4 (x5 - x6))) - x7))) 8417 (imax 0 (((I 8417) - (ofv x4 (x5 - x6))) - x7))) 8415 ((I 8415) + 1)) 8416 v2) 8417 v2) (fu (fu (fu A 92 X36) 93 X37) 94 X44) L F E)) rfl).trans ?_
              refine (sg_cmp ht_X8_goesThrough rfl).trans ?_
              refine ite_congr rfl (fun _ => ?_) (fun _ => ?_)
              · refine (sg_go ht_X8_goesThrough (k := 7) (pc' := 119) (L' := [some (.ref 84), some (.int v1), some (.int v2), some (.int 0), some (.int v4)]) (st' := [.int ((fu (fu (fu (fu (fu I 8416 (imax 0 (((I 8416) + (ofv x4 (x5 - x6))) - x7))) 8417 (imax 0 (((I 8417) - (ofv x4 (x5 - x6))) - x7))) 8415 ((I 8415) + 1)) 8416 v2) 8417 v2) 8416), .int v4, .ref 90]) (h' := (HP (fu (fu (fu (fu (fu I 8416 (imax 0 (((I 8416) + (ofv x4 (x5 - x6))) - x7))) 8417 (imax 0 (((I 8417) - (ofv x4 (x5 - x6))) - x7))) 8415 ((I 8415) + 1)) 8416 v2) 8417 v2) (fu (fu (fu A 92 X36) 93 X37) 94 X44) L F E)) rfl).trans ?_
                refine (sg_stI (hh := fun X46 => (HP (fu (fu (fu (fu (fu I 8416 (imax 0 (((I 8416) + (ofv x4 (x5 - x6))) - x7))) 8417 (imax 0 (((I 8417) - (ofv x4 (x5 - x6))) - x7))) 8415 ((I 8415) + 1)) 8416 v2) 8417 v2) (fu (fu (fu (fu A 92 X36) 93 X37) 94 X44) 90 X46) L F E)) ht_X8_goesThrough rfl hp_o_90 (fun _ => hp_s_90)).trans ?_
                refine bind_cg fun X46 hX46 => ?_
                refine (sg_go ht_X8_goesThrough (k := 5) (pc' := 130) (L' := [some (.ref 84), some (.int v1), some (.int v2), some (.int 0), some (.int v4)]) (st' := [.int ((fu (fu (fu (fu (fu I 8416 (imax 0 (((I 8416) + (ofv x4 (x5 - x6))) - x7))) 8417 (imax 0 (((I 8417) - (ofv x4 (x5 - x6))) - x7))) 8415 ((I 8415) + 1)) 8416 v2) 8417 v2) 8417), .int v4, .ref 91]) (h' := (HP (fu (fu (fu (fu (fu I 8416 (imax 0 (((I 8416) + (ofv x4 (x5 - x6))) - x7))) 8417 (imax 0 (((I 8417) - (ofv x4 (x5 - x6))) - x7))) 8415 ((I 8415) + 1)) 8416 v2) 8417 v2) (fu (fu (fu (fu A 92 X36) 93 X37) 94 X44) 90 X46) L F E)) rfl).trans ?_
                refine (sg_stI (hh := fun X47 => (HP (fu (fu (fu (fu (fu I 8416 (imax 0 (((I 8416) + (ofv x4 (x5 - x6))) - x7))) 8417 (imax 0 (((I 8417) - (ofv x4 (x5 - x6))) - x7))) 8415 ((I 8415) + 1)) 8416 v2) 8417 v2) (fu (fu (fu (fu (fu A 92 X36) 93 X37) 94 X44) 90 X46) 91 X47) L F E)) ht_X8_goesThrough rfl hp_o_91 (fun _ => hp_s_91)).trans ?_
                refine bind_cg fun X47 hX47 => ?_
                refine (sg_go ht_X8_goesThrough (k := 2) (pc' := 26) (L' := [some (.ref 84), some (.int v1), some (.int v2), some (.int 0), some (.int (v4 + 1))]) (st' := []) (h' := (HP (fu (fu (fu (fu (fu I 8416 (imax 0 (((I 8416) + (ofv x4 (x5 - x6))) - x7))) 8417 (imax 0 (((I 8417) - (ofv x4 (x5 - x6))) - x7))) 8415 ((I 8415) + 1)) 8416 v2) 8417 v2) (fu (fu (fu (fu (fu A 92 X36) 93 X37) 94 X44) 90 X46) 91 X47) L F E)) rfl).trans ?_
                rfl
              · refine (sg_go ht_X8_goesThrough (k := 8) (pc' := 119) (L' := [some (.ref 84), some (.int v1), some (.int v2), some (.int 1), some (.int v4)]) (st' := [.int ((fu (fu (fu (fu (fu I 8416 (imax 0 (((I 8416) + (ofv x4 (x5 - x6))) - x7))) 8417 (imax 0 (((I 8417) - (ofv x4 (x5 - x6))) - x7))) 8415 ((I 8415) + 1)) 8416 v2) 8417 v2) 8416), .int v4, .ref 90]) (h' := (HP (fu (fu (fu (fu (fu I 8416 (imax 0 (((I 8416) + (ofv x4 (x5 - x6))) - x7))) 8417 (imax 0 (((I 8417) - (ofv x4 (x5 - x6))) - x7))) 8415 ((I 8415) + 1)) 8416 v2) 8417 v2) (fu (fu (fu A 92 X36) 93 X37) 94 X44) L F E)) rfl).trans ?_
                refine (sg_stI (hh := fun X48 => (HP (fu (fu (fu (fu (fu I 8416 (imax 0 (((I 8416) + (ofv x4 (x5 - x6))) - x7))) 8417 (imax 0 (((I 8417) - (ofv x4 (x5 - x6))) - x7))) 8415 ((I 8415) + 1)) 8416 v2) 8417 v2) (fu (fu (fu (fu A 92 X36) 93 X37) 94 X44) 90 X48) L F E)) ht_X8_goesThrough rfl hp_o_90 (fun _ => hp_s_90)).trans ?_
                refine bind_cg fun X48 hX48 => ?_
                refine (sg_go ht_X8_goesThrough (k := 5) (pc' := 130) (L' := [some (.ref 84), some (.int v1), some (.int v2), some (.int 1), some (.int v4)]) (st' := [.int ((fu (fu (fu (fu (fu I 8416 (imax 0 (((I 8416) + (ofv x4 (x5 - x6))) - x7))) 8417 (imax 0 (((I 8417) - (ofv x4 (x5 - x6))) - x7))) 8415 ((I 8415) + 1)) 8416 v2) 8417 v2) 8417), .int v4, .ref 91]) (h' := (HP (fu (fu (fu (fu (fu I 8416 (imax 0 (((I 8416) + (ofv x4 (x5 - x6))) - x7))) 8417 (imax 0 (((I 8417) - (ofv x4 (x5 - x6))) - x7))) 8415 ((I 8415) + 1)) 8416 v2) 8417 v2) (fu (fu (fu (fu A 92 X36) 93 X37) 94 X44) 90 X48) L F E)) rfl).trans ?_
                refine (sg_stI (hh := fun X49 => (HP (fu (fu (fu (fu (fu I 8416 (imax 0 (((I 8416) + (ofv x4 (x5 - x6))) - x7))) 8417 (imax 0 (((I 8417) - (ofv x4 (x5 - x6))) - x7))) 8415 ((I 8415) + 1)) 8416 v2) 8417 v2) (fu (fu (fu (fu (fu A 92 X36) 93 X37) 94 X44) 90 X48) 91 X49) L F E)) ht_X8_goesThrough rfl hp_o_91 (fun _ => hp_s_91)).trans ?_
                refine bind_cg fun X49 hX49 => ?_
                refine (sg_go ht_X8_goesThrough (k := 2) (pc' := 26) (L' := [some (.ref 84), some (.int v1), some (.int v2), some (.int 1), some (.int (v4 + 1))]) (st' := []) (h' := (HP (fu (fu (fu (fu (fu I 8416 (imax 0 (((I 8416) + (ofv x4 (x5 - x6))) - x7))) 8417 (imax 0 (((I 8417) - (ofv x4 (x5 - x6))) - x7))) 8415 ((I 8415) + 1)) 8416 v2) 8417 v2) (fu (fu (fu (fu (fu A 92 X36) 93 X37) 94 X44) 90 X48) 91 X49) L F E)) rfl).trans ?_
                rfl
          · refine bind_as.trans ?_
            refine bind_cg fun X50 hX50 => ?_
            refine ite_bd.trans ?_
            refine ite_congr rfl (fun _ => ?_) (fun _ => ?_)
            · refine bind_as.trans ?_
              refine bind_cg fun X51 hX51 => ?_
              show mm_run G0 138 75 [some (.ref 84), some (.int v1), some (.int v2), some (.int v3), some (.int v4)] [.int 1] (HP (fu (fu (fu I 8416 (imax 0 (((I 8416) + (ofv x4 (x5 - x6))) - x7))) 8417 (imax 0 (((I 8417) - (ofv x4 (x5 - x6))) - x7))) 8415 ((I 8415) + 1)) (fu (fu (fu A 92 X36) 93 X50) 94 X51) L F E) = _
              refine (sg_go ht_X8_goesThrough (k := 3) (pc' := 80) (L' := [some (.ref 84), some (.int v1), some (.int v2), some (.int v3), some (.int v4)]) (st' := [.int v2, .ref 84]) (h' := (HP (fu (fu (fu I 8416 (imax 0 (((I 8416) + (ofv x4 (x5 - x6))) - x7))) 8417 (imax 0 (((I 8417) - (ofv x4 (x5 - x6))) - x7))) 8415 ((I 8415) + 1)) (fu (fu (fu A 92 X36) 93 X50) 94 X51) L F E)) rfl).trans ?_
              refine (sg_putI (h' := (HP (fu (fu (fu (fu I 8416 (imax 0 (((I 8416) + (ofv x4 (x5 - x6))) - x7))) 8417 (imax 0 (((I 8417) - (ofv x4 (x5 - x6))) - x7))) 8415 ((I 8415) + 1)) 8416 v2) (fu (fu (fu A 92 X36) 93 X50) 94 X51) L F E)) ht_X8_goesThrough rfl hp_o_84 (Nat.le_of_ble_eq_true rfl) hp_p_8416).trans ?_
              refine (sg_go ht_X8_goesThrough (k := 2) (pc' := 85) (L' := [some (.ref 84), some (.int v1), some (.int v2), some (.int v3), some (.int v4)]) (st' := [.int v2, .ref 84]) (h' := (HP (fu (fu (fu (fu I 8416 (imax 0 (((I 8416) + (ofv x4 (x5 - x6))) - x7))) 8417 (imax 0 (((I 8417) - (ofv x4 (x5 - x6))) - x7))) 8415 ((I 8415) + 1)) 8416 v2) (fu (fu (fu A 92 X36) 93 X50) 94 X51) L F E)) rfl).trans ?_
              refine (sg_putI (h' := (HP (fu (fu (fu (fu (fu I 8416 (imax 0 (((I 8416) + (ofv x4 (x5 - x6))) - x7))) 8417 (imax 0 (((I 8417) - (ofv x4 (x5 - x6))) - x7))) 8415 ((I 8415) + 1)) 8416 v2) 8417 v2) (fu (fu (fu A 92 X36) 93 X50) 94 X51) L F E)) ht_X8_goesThrough rfl hp_o_84 (Nat.le_of_ble_eq_true rfl) hp_p_8417).trans ?_
              refine (sg_go ht_X8_goesThrough (k := 3) (pc' := 93) (L' := [some (.ref 84), some (.int v1), some (.int v2), some (.int v3), some (.int v4)]) (st' := [.int v1, .ref 85]) (h' := (HP (fu (fu (fu (fu (fu I 8416 (imax 0 (((I 8416) + (ofv x4 (x5 - x6))) - x7))) 8417 (imax 0 (((I 8417) - (ofv x4 (x5 - x6))) - x7))) 8415 ((I 8415) + 1)) 8416 v2) 8417 v2) (fu (fu (fu A 92 X36) 93 X50) 94 X51) L F E)) rfl).trans ?_
              refine (sg_call ht_X8_goesThrough (mj := 112) (as := [.int v1]) (rest := [.ref 85]) rfl rfl ⟨by decide, Nat.le_of_ble_eq_true rfl⟩).trans ?_
              refine (bind_eq (sg_X8_base_0 v1)).trans ?_
              show mm_run G0 138 96 [some (.ref 84), some (.int v1), some (.int v2), some (.int v3), some (.int v4)] [.int (45 * v1), .ref 85] (HP (fu (fu (fu (fu (fu I 8416 (imax 0 (((I 8416) + (ofv x4 (x5 - x6))) - x7))) 8417 (imax 0 (((I 8417) - (ofv x4 (x5 - x6))) - x7))) 8415 ((I 8415) + 1)) 8416 v2) 8417 v2) (fu (fu (fu A 92 X36) 93 X50) 94 X51) L F E) = _
              refine (sg_go ht_X8_goesThrough (k := 2) (pc' := 98) (L' := [some (.ref 84), some (.int v1), some (.int v2), some (.int v3), some (.int v4)]) (st' := [.int ((45 * v1) + 0), .ref 85]) (h' := (HP (fu (fu (fu (fu (fu I 8416 (imax 0 (((I 8416) + (ofv x4 (x5 - x6))) - x7))) 8417 (imax 0 (((I 8417) - (ofv x4 (x5 - x6))) - x7))) 8415 ((I 8415) + 1)) 8416 v2) 8417 v2) (fu (fu (fu A 92 X36) 93 X50) 94 X51) L F E)) rfl).trans ?_
              refine (sg_ldI ht_X8_goesThrough rfl hp_o_85).trans ?_
              refine bind_cg fun x52 hx52 => ?_
              refine (sg_go ht_X8_goesThrough (k := 1) (pc' := 100) (L' := [some (.ref 84), some (.int v1), some (.int v2), some (.int v3), some (.int v4)]) (st' := [.int 4, .int x52]) (h' := (HP (fu (fu (fu (fu (fu I 8416 (imax 0 (((I 8416) + (ofv x4 (x5 - x6))) - x7))) 8417 (imax 0 (((I 8417) - (ofv x4 (x5 - x6))) - x7))) 8415 ((I 8415) + 1)) 8416 v2) 8417 v2) (fu (fu (fu A 92 X36) 93 X50) 94 X51) L F E)) rfl).trans ?_
              refine (sg_cmp ht_X8_goesThrough rfl).trans ?_
              refine ite_congr rfl (fun _ => ?_) (fun _ => ?_)
              · refine (sg_go ht_X8_goesThrough (k := 7) (pc' := 119) (L' := [some (.ref 84), some (.int v1), some (.int v2), some (.int 0), some (.int v4)]) (st' := [.int ((fu (fu (fu (fu (fu I 8416 (imax 0 (((I 8416) + (ofv x4 (x5 - x6))) - x7))) 8417 (imax 0 (((I 8417) - (ofv x4 (x5 - x6))) - x7))) 8415 ((I 8415) + 1)) 8416 v2) 8417 v2) 8416), .int v4, .ref 90]) (h' := (HP (fu (fu (fu (fu (fu I 8416 (imax 0 (((I 8416) + (ofv x4 (x5 - x6))) - x7))) 8417 (imax 0 (((I 8417) - (ofv x4 (x5 - x6))) - x7))) 8415 ((I 8415) + 1)) 8416 v2) 8417 v2) (fu (fu (fu A 92 X36) 93 X50) 94 X51) L F E)) rfl).trans ?_
                refine (sg_stI (hh := fun X53 => (HP (fu (fu (fu (fu (fu I 8416 (imax 0 (((I 8416) + (ofv x4 (x5 - x6))) - x7))) 8417 (imax 0 (((I 8417) - (ofv x4 (x5 - x6))) - x7))) 8415 ((I 8415) + 1)) 8416 v2) 8417 v2) (fu (fu (fu (fu A 92 X36) 93 X50) 94 X51) 90 X53) L F E)) ht_X8_goesThrough rfl hp_o_90 (fun _ => hp_s_90)).trans ?_
                refine bind_cg fun X53 hX53 => ?_
                refine (sg_go ht_X8_goesThrough (k := 5) (pc' := 130) (L' := [some (.ref 84), some (.int v1), some (.int v2), some (.int 0), some (.int v4)]) (st' := [.int ((fu (fu (fu (fu (fu I 8416 (imax 0 (((I 8416) + (ofv x4 (x5 - x6))) - x7))) 8417 (imax 0 (((I 8417) - (ofv x4 (x5 - x6))) - x7))) 8415 ((I 8415) + 1)) 8416 v2) 8417 v2) 8417), .int v4, .ref 91]) (h' := (HP (fu (fu (fu (fu (fu I 8416 (imax 0 (((I 8416) + (ofv x4 (x5 - x6))) - x7))) 8417 (imax 0 (((I 8417) - (ofv x4 (x5 - x6))) - x7))) 8415 ((I 8415) + 1)) 8416 v2) 8417 v2) (fu (fu (fu (fu A 92 X36) 93 X50) 94 X51) 90 X53) L F E)) rfl).trans ?_
                refine (sg_stI (hh := fun X54 => (HP (fu (fu (fu (fu (fu I 8416 (imax 0 (((I 8416) + (ofv x4 (x5 - x6))) - x7))) 8417 (imax 0 (((I 8417) - (ofv x4 (x5 - x6))) - x7))) 8415 ((I 8415) + 1)) 8416 v2) 8417 v2) (fu (fu (fu (fu (fu A 92 X36) 93 X50) 94 X51) 90 X53) 91 X54) L F E)) ht_X8_goesThrough rfl hp_o_91 (fun _ => hp_s_91)).trans ?_
                refine bind_cg fun X54 hX54 => ?_
                refine (sg_go ht_X8_goesThrough (k := 2) (pc' := 26) (L' := [some (.ref 84), some (.int v1), some (.int v2), some (.int 0), some (.int (v4 + 1))]) (st' := []) (h' := (HP (fu (fu (fu (fu (fu I 8416 (imax 0 (((I 8416) + (ofv x4 (x5 - x6))) - x7))) 8417 (imax 0 (((I 8417) - (ofv x4 (x5 - x6))) - x7))) 8415 ((I 8415) + 1)) 8416 v2) 8417 v2) (fu (fu (fu (fu (fu A 92 X36) 93 X50) 94 X51) 90 X53) 91 X54) L F E)) rfl).trans ?_
                rfl
              · refine (sg_go ht_X8_goesThrough (k := 8) (pc' := 119) (L' := [some (.ref 84), some (.int v1), some (.int v2), some (.int 1), some (.int v4)]) (st' := [.int ((fu (fu (fu (fu (fu I 8416 (imax 0 (((I 8416) + (ofv x4 (x5 - x6))) - x7))) 8417 (imax 0 (((I 8417) - (ofv x4 (x5 - x6))) - x7))) 8415 ((I 8415) + 1)) 8416 v2) 8417 v2) 8416), .int v4, .ref 90]) (h' := (HP (fu (fu (fu (fu (fu I 8416 (imax 0 (((I 8416) + (ofv x4 (x5 - x6))) - x7))) 8417 (imax 0 (((I 8417) - (ofv x4 (x5 - x6))) - x7))) 8415 ((I 8415) + 1)) 8416 v2) 8417 v2) (fu (fu (fu A 92 X36) 93 X50) 94 X51) L F E)) rfl).trans ?_
                refine (sg_stI (hh := fun X55 => (HP (fu (fu (fu (fu (fu I 8416 (imax 0 (((I 8416) + (ofv x4 (x5 - x6))) - x7))) 8417 (imax 0 (((I 8417) - (ofv x4 (x5 - x6))) - x7))) 8415 ((I 8415) + 1)) 8416 v2) 8417 v2) (fu (fu (fu (fu A 92 X36) 93 X50) 94 X51) 90 X55) L F E)) ht_X8_goesThrough rfl hp_o_90 (fun _ => hp_s_90)).trans ?_
                refine bind_cg fun X55 hX55 => ?_
                refine (sg_go ht_X8_goesThrough (k := 5) (pc' := 130) (L' := [some (.ref 84), some (.int v1), some (.int v2), some (.int 1), some (.int v4)]) (st' := [.int ((fu (fu (fu (fu (fu I 8416 (imax 0 (((I 8416) + (ofv x4 (x5 - x6))) - x7))) 8417 (imax 0 (((I 8417) - (ofv x4 (x5 - x6))) - x7))) 8415 ((I 8415) + 1)) 8416 v2) 8417 v2) 8417), .int v4, .ref 91]) (h' := (HP (fu (fu (fu (fu (fu I 8416 (imax 0 (((I 8416) + (ofv x4 (x5 - x6))) - x7))) 8417 (imax 0 (((I 8417) - (ofv x4 (x5 - x6))) - x7))) 8415 ((I 8415) + 1)) 8416 v2) 8417 v2) (fu (fu (fu (fu A 92 X36) 93 X50) 94 X51) 90 X55) L F E)) rfl).trans ?_
                refine (sg_stI (hh := fun X56 => (HP (fu (fu (fu (fu (fu I 8416 (imax 0 (((I 8416) + (ofv x4 (x5 - x6))) - x7))) 8417 (imax 0 (((I 8417) - (ofv x4 (x5 - x6))) - x7))) 8415 ((I 8415) + 1)) 8416 v2) 8417 v2) (fu (fu (fu (fu (fu A 92 X36) 93 X50) 94 X51) 90 X55) 91 X56) L F E)) ht_X8_goesThrough rfl hp_o_91 (fun _ => hp_s_91)).trans ?_
                refine bind_cg fun X56 hX56 => ?_
                refine (sg_go ht_X8_goesThrough (k := 2) (pc' := 26) (L' := [some (.ref 84), some (.int v1), some (.int v2), some (.int 1), some (.int (v4 + 1))]) (st' := []) (h' := (HP (fu (fu (fu (fu (fu I 8416 (imax 0 (((I 8416) + (ofv x4 (x5 - x6))) - x7))) 8417 (imax 0 (((I 8417) - (ofv x4 (x5 - x6))) - x7))) 8415 ((I 8415) + 1)) 8416 v2) 8417 v2) (fu (fu (fu (fu (fu A 92 X36) 93 X50) 94 X51) 90 X55) 91 X56) L F E)) rfl).trans ?_
                rfl
            · refine bind_as.trans ?_
              refine bind_cg fun X57 hX57 => ?_
              show mm_run G0 138 75 [some (.ref 84), some (.int v1), some (.int v2), some (.int v3), some (.int v4)] [.int 1] (HP (fu (fu (fu I 8416 (imax 0 (((I 8416) + (ofv x4 (x5 - x6))) - x7))) 8417 (imax 0 (((I 8417) - (ofv x4 (x5 - x6))) - x7))) 8415 ((I 8415) + 1)) (fu (fu (fu A 92 X36) 93 X50) 94 X57) L F E) = _
              refine (sg_go ht_X8_goesThrough (k := 3) (pc' := 80) (L' := [some (.ref 84), some (.int v1), some (.int v2), some (.int v3), some (.int v4)]) (st' := [.int v2, .ref 84]) (h' := (HP (fu (fu (fu I 8416 (imax 0 (((I 8416) + (ofv x4 (x5 - x6))) - x7))) 8417 (imax 0 (((I 8417) - (ofv x4 (x5 - x6))) - x7))) 8415 ((I 8415) + 1)) (fu (fu (fu A 92 X36) 93 X50) 94 X57) L F E)) rfl).trans ?_
              refine (sg_putI (h' := (HP (fu (fu (fu (fu I 8416 (imax 0 (((I 8416) + (ofv x4 (x5 - x6))) - x7))) 8417 (imax 0 (((I 8417) - (ofv x4 (x5 - x6))) - x7))) 8415 ((I 8415) + 1)) 8416 v2) (fu (fu (fu A 92 X36) 93 X50) 94 X57) L F E)) ht_X8_goesThrough rfl hp_o_84 (Nat.le_of_ble_eq_true rfl) hp_p_8416).trans ?_
              refine (sg_go ht_X8_goesThrough (k := 2) (pc' := 85) (L' := [some (.ref 84), some (.int v1), some (.int v2), some (.int v3), some (.int v4)]) (st' := [.int v2, .ref 84]) (h' := (HP (fu (fu (fu (fu I 8416 (imax 0 (((I 8416) + (ofv x4 (x5 - x6))) - x7))) 8417 (imax 0 (((I 8417) - (ofv x4 (x5 - x6))) - x7))) 8415 ((I 8415) + 1)) 8416 v2) (fu (fu (fu A 92 X36) 93 X50) 94 X57) L F E)) rfl).trans ?_
              refine (sg_putI (h' := (HP (fu (fu (fu (fu (fu I 8416 (imax 0 (((I 8416) + (ofv x4 (x5 - x6))) - x7))) 8417 (imax 0 (((I 8417) - (ofv x4 (x5 - x6))) - x7))) 8415 ((I 8415) + 1)) 8416 v2) 8417 v2) (fu (fu (fu A 92 X36) 93 X50) 94 X57) L F E)) ht_X8_goesThrough rfl hp_o_84 (Nat.le_of_ble_eq_true rfl) hp_p_8417).trans ?_
              refine (sg_go ht_X8_goesThrough (k := 3) (pc' := 93) (L' := [some (.ref 84), some (.int v1), some (.int v2), some (.int v3), some (.int v4)]) (st' := [.int v1, .ref 85]) (h' := (HP (fu (fu (fu (fu (fu I 8416 (imax 0 (((I 8416) + (ofv x4 (x5 - x6))) - x7))) 8417 (imax 0 (((I 8417) - (ofv x4 (x5 - x6))) - x7))) 8415 ((I 8415) + 1)) 8416 v2) 8417 v2) (fu (fu (fu A 92 X36) 93 X50) 94 X57) L F E)) rfl).trans ?_
              refine (sg_call ht_X8_goesThrough (mj := 112) (as := [.int v1]) (rest := [.ref 85]) rfl rfl ⟨by decide, Nat.le_of_ble_eq_true rfl⟩).trans ?_
              refine (bind_eq (sg_X8_base_0 v1)).trans ?_
              show mm_run G0 138 96 [some (.ref 84), some (.int v1), some (.int v2), some (.int v3), some (.int v4)] [.int (45 * v1), .ref 85] (HP (fu (fu (fu (fu (fu I 8416 (imax 0 (((I 8416) + (ofv x4 (x5 - x6))) - x7))) 8417 (imax 0 (((I 8417) - (ofv x4 (x5 - x6))) - x7))) 8415 ((I 8415) + 1)) 8416 v2) 8417 v2) (fu (fu (fu A 92 X36) 93 X50) 94 X57) L F E) = _
              refine (sg_go ht_X8_goesThrough (k := 2) (pc' := 98) (L' := [some (.ref 84), some (.int v1), some (.int v2), some (.int v3), some (.int v4)]) (st' := [.int ((45 * v1) + 0), .ref 85]) (h' := (HP (fu (fu (fu (fu (fu I 8416 (imax 0 (((I 8416) + (ofv x4 (x5 - x6))) - x7))) 8417 (imax 0 (((I 8417) - (ofv x4 (x5 - x6))) - x7))) 8415 ((I 8415) + 1)) 8416 v2) 8417 v2) (fu (fu (fu A 92 X36) 93 X50) 94 X57) L F E)) rfl).trans ?_
              refine (sg_ldI ht_X8_goesThrough rfl hp_o_85).trans ?_
              refine bind_cg fun x58 hx58 => ?_
              refine (sg_go ht_X8_goesThrough (k := 1) (pc' := 100) (L' := [some (.ref 84), some (.int v1), some (.int v2), some (.int v3), some (.int v4)]) (st' := [.int 4, .int x58]) (h' := (HP (fu (fu (fu (fu (fu I 8416 (imax 0 (((I 8416) + (ofv x4 (x5 - x6))) - x7))) 8417 (imax 0 (((I 8417) - (ofv x4 (x5 - x6))) - x7))) 8415 ((I 8415) + 1)) 8416 v2) 8417 v2) (fu (fu (fu A 92 X36) 93 X50) 94 X57) L F E)) rfl).trans ?_
              refine (sg_cmp ht_X8_goesThrough rfl).trans ?_
              refine ite_congr rfl (fun _ => ?_) (fun _ => ?_)
              · refine (sg_go ht_X8_goesThrough (k := 7) (pc' := 119) (L' := [some (.ref 84), some (.int v1), some (.int v2), some (.int 0), some (.int v4)]) (st' := [.int ((fu (fu (fu (fu (fu I 8416 (imax 0 (((I 8416) + (ofv x4 (x5 - x6))) - x7))) 8417 (imax 0 (((I 8417) - (ofv x4 (x5 - x6))) - x7))) 8415 ((I 8415) + 1)) 8416 v2) 8417 v2) 8416), .int v4, .ref 90]) (h' := (HP (fu (fu (fu (fu (fu I 8416 (imax 0 (((I 8416) + (ofv x4 (x5 - x6))) - x7))) 8417 (imax 0 (((I 8417) - (ofv x4 (x5 - x6))) - x7))) 8415 ((I 8415) + 1)) 8416 v2) 8417 v2) (fu (fu (fu A 92 X36) 93 X50) 94 X57) L F E)) rfl).trans ?_
                refine (sg_stI (hh := fun X59 => (HP (fu (fu (fu (fu (fu I 8416 (imax 0 (((I 8416) + (ofv x4 (x5 - x6))) - x7))) 8417 (imax 0 (((I 8417) - (ofv x4 (x5 - x6))) - x7))) 8415 ((I 8415) + 1)) 8416 v2) 8417 v2) (fu (fu (fu (fu A 92 X36) 93 X50) 94 X57) 90 X59) L F E)) ht_X8_goesThrough rfl hp_o_90 (fun _ => hp_s_90)).trans ?_
                refine bind_cg fun X59 hX59 => ?_
                refine (sg_go ht_X8_goesThrough (k := 5) (pc' := 130) (L' := [some (.ref 84), some (.int v1), some (.int v2), some (.int 0), some (.int v4)]) (st' := [.int ((fu (fu (fu (fu (fu I 8416 (imax 0 (((I 8416) + (ofv x4 (x5 - x6))) - x7))) 8417 (imax 0 (((I 8417) - (ofv x4 (x5 - x6))) - x7))) 8415 ((I 8415) + 1)) 8416 v2) 8417 v2) 8417), .int v4, .ref 91]) (h' := (HP (fu (fu (fu (fu (fu I 8416 (imax 0 (((I 8416) + (ofv x4 (x5 - x6))) - x7))) 8417 (imax 0 (((I 8417) - (ofv x4 (x5 - x6))) - x7))) 8415 ((I 8415) + 1)) 8416 v2) 8417 v2) (fu (fu (fu (fu A 92 X36) 93 X50) 94 X57) 90 X59) L F E)) rfl).trans ?_
                refine (sg_stI (hh := fun X60 => (HP (fu (fu (fu (fu (fu I 8416 (imax 0 (((I 8416) + (ofv x4 (x5 - x6))) - x7))) 8417 (imax 0 (((I 8417) - (ofv x4 (x5 - x6))) - x7))) 8415 ((I 8415) + 1)) 8416 v2) 8417 v2) (fu (fu (fu (fu (fu A 92 X36) 93 X50) 94 X57) 90 X59) 91 X60) L F E)) ht_X8_goesThrough rfl hp_o_91 (fun _ => hp_s_91)).trans ?_
                refine bind_cg fun X60 hX60 => ?_
                refine (sg_go ht_X8_goesThrough (k := 2) (pc' := 26) (L' := [some (.ref 84), some (.int v1), some (.int v2), some (.int 0), some (.int (v4 + 1))]) (st' := []) (h' := (HP (fu (fu (fu (fu (fu I 8416 (imax 0 (((I 8416) + (ofv x4 (x5 - x6))) - x7))) 8417 (imax 0 (((I 8417) - (ofv x4 (x5 - x6))) - x7))) 8415 ((I 8415) + 1)) 8416 v2) 8417 v2) (fu (fu (fu (fu (fu A 92 X36) 93 X50) 94 X57) 90 X59) 91 X60) L F E)) rfl).trans ?_
                rfl
              · refine (sg_go ht_X8_goesThrough (k := 8) (pc' := 119) (L' := [some (.ref 84), some (.int v1), some (.int v2), some (.int 1), some (.int v4)]) (st' := [.int ((fu (fu (fu (fu (fu I 8416 (imax 0 (((I 8416) + (ofv x4 (x5 - x6))) - x7))) 8417 (imax 0 (((I 8417) - (ofv x4 (x5 - x6))) - x7))) 8415 ((I 8415) + 1)) 8416 v2) 8417 v2) 8416), .int v4, .ref 90]) (h' := (HP (fu (fu (fu (fu (fu I 8416 (imax 0 (((I 8416) + (ofv x4 (x5 - x6))) - x7))) 8417 (imax 0 (((I 8417) - (ofv x4 (x5 - x6))) - x7))) 8415 ((I 8415) + 1)) 8416 v2) 8417 v2) (fu (fu (fu A 92 X36) 93 X50) 94 X57) L F E)) rfl).trans ?_
                refine (sg_stI (hh := fun X61 => (HP (fu (fu (fu (fu (fu I 8416 (imax 0 (((I 8416) + (ofv x4 (x5 - x6))) - x7))) 8417 (imax 0 (((I 8417) - (ofv x4 (x5 - x6))) - x7))) 8415 ((I 8415) + 1)) 8416 v2) 8417 v2) (fu (fu (fu (fu A 92 X36) 93 X50) 94 X57) 90 X61) L F E)) ht_X8_goesThrough rfl hp_o_90 (fun _ => hp_s_90)).trans ?_
                refine bind_cg fun X61 hX61 => ?_
                refine (sg_go ht_X8_goesThrough (k := 5) (pc' := 130) (L' := [some (.ref 84), some (.int v1), some (.int v2), some (.int 1), some (.int v4)]) (st' := [.int ((fu (fu (fu (fu (fu I 8416 (imax 0 (((I 8416) + (ofv x4 (x5 - x6))) - x7))) 8417 (imax 0 (((I 8417) - (ofv x4 (x5 - x6))) - x7))) 8415 ((I 8415) + 1)) 8416 v2) 8417 v2) 8417), .int v4, .ref 91]) (h' := (HP (fu (fu (fu (fu (fu I 8416 (imax 0 (((I 8416) + (ofv x4 (x5 - x6))) - x7))) 8417 (imax 0 (((I 8417) - (ofv x4 (x5 - x6))) - x7))) 8415 ((I 8415) + 1)) 8416 v2) 8417 v2) (fu (fu (fu (fu A 92 X36) 93 X50) 94 X57) 90 X61) L F E)) rfl).trans ?_
                refine (sg_stI (hh := fun X62 => (HP (fu (fu (fu (fu (fu I 8416 (imax 0 (((I 8416) + (ofv x4 (x5 - x6))) - x7))) 8417 (imax 0 (((I 8417) - (ofv x4 (x5 - x6))) - x7))) 8415 ((I 8415) + 1)) 8416 v2) 8417 v2) (fu (fu (fu (fu (fu A 92 X36) 93 X50) 94 X57) 90 X61) 91 X62) L F E)) ht_X8_goesThrough rfl hp_o_91 (fun _ => hp_s_91)).trans ?_
                refine bind_cg fun X62 hX62 => ?_
                refine (sg_go ht_X8_goesThrough (k := 2) (pc' := 26) (L' := [some (.ref 84), some (.int v1), some (.int v2), some (.int 1), some (.int (v4 + 1))]) (st' := []) (h' := (HP (fu (fu (fu (fu (fu I 8416 (imax 0 (((I 8416) + (ofv x4 (x5 - x6))) - x7))) 8417 (imax 0 (((I 8417) - (ofv x4 (x5 - x6))) - x7))) 8415 ((I 8415) + 1)) 8416 v2) 8417 v2) (fu (fu (fu (fu (fu A 92 X36) 93 X50) 94 X57) 90 X61) 91 X62) L F E)) rfl).trans ?_
                rfl
        · show mm_run G0 138 75 [some (.ref 84), some (.int v1), some (.int v2), some (.int v3), some (.int v4)] [.int 0] (HP (fu (fu I 8416 (imax 0 (((I 8416) + (ofv x4 (x5 - x6))) - x7))) 8417 (imax 0 (((I 8417) - (ofv x4 (x5 - x6))) - x7))) A L F E) = _
          refine (sg_go ht_X8_goesThrough (k := 6) (pc' := 119) (L' := [some (.ref 84), some (.int v1), some (.int v2), some (.int v3), some (.int v4)]) (st' := [.int (imax 0 (((I 8416) + (ofv x4 (x5 - x6))) - x7)), .int v4, .ref 90]) (h' := (HP (fu (fu I 8416 (imax 0 (((I 8416) + (ofv x4 (x5 - x6))) - x7))) 8417 (imax 0 (((I 8417) - (ofv x4 (x5 - x6))) - x7))) A L F E)) rfl).trans ?_
          refine (sg_stI (hh := fun X63 => (HP (fu (fu I 8416 (imax 0 (((I 8416) + (ofv x4 (x5 - x6))) - x7))) 8417 (imax 0 (((I 8417) - (ofv x4 (x5 - x6))) - x7))) (fu A 90 X63) L F E)) ht_X8_goesThrough rfl hp_o_90 (fun _ => hp_s_90)).trans ?_
          refine bind_cg fun X63 hX63 => ?_
          refine (sg_go ht_X8_goesThrough (k := 5) (pc' := 130) (L' := [some (.ref 84), some (.int v1), some (.int v2), some (.int v3), some (.int v4)]) (st' := [.int (imax 0 (((I 8417) - (ofv x4 (x5 - x6))) - x7)), .int v4, .ref 91]) (h' := (HP (fu (fu I 8416 (imax 0 (((I 8416) + (ofv x4 (x5 - x6))) - x7))) 8417 (imax 0 (((I 8417) - (ofv x4 (x5 - x6))) - x7))) (fu A 90 X63) L F E)) rfl).trans ?_
          refine (sg_stI (hh := fun X64 => (HP (fu (fu I 8416 (imax 0 (((I 8416) + (ofv x4 (x5 - x6))) - x7))) 8417 (imax 0 (((I 8417) - (ofv x4 (x5 - x6))) - x7))) (fu (fu A 90 X63) 91 X64) L F E)) ht_X8_goesThrough rfl hp_o_91 (fun _ => hp_s_91)).trans ?_
          refine bind_cg fun X64 hX64 => ?_
          refine (sg_go ht_X8_goesThrough (k := 2) (pc' := 26) (L' := [some (.ref 84), some (.int v1), some (.int v2), some (.int v3), some (.int (v4 + 1))]) (st' := []) (h' := (HP (fu (fu I 8416 (imax 0 (((I 8416) + (ofv x4 (x5 - x6))) - x7))) 8417 (imax 0 (((I 8417) - (ofv x4 (x5 - x6))) - x7))) (fu (fu A 90 X63) 91 X64) L F E)) rfl).trans ?_
          rfl
set_option maxRecDepth 20000 in
theorem sg_X8_firstAlarm_0 {I : Nat → Int32} {A : Nat → List Int32} {L : Nat → List Int64} {F : Nat → Int64} {E : MH}  : mm_call G0 139 [.ref 84] (HP I A L F E) = (if (I 8415) ≠ 0 then ((ldI (A 92) 0).bind fun x1 => some (some (.int x1), (HP I A L F E))) else some (some (.int (-5)), (HP I A L F E))) := by
  show mm_run G0 139 0 [some (.ref 84)] [] (HP I A L F E) = _
  refine (sg_go ht_X8_firstAlarm (k := 2) (pc' := 4) (L' := [some (.ref 84)]) (st' := [.int (I 8415)]) (h' := (HP I A L F E)) rfl).trans ?_
  refine (sg_if ht_X8_firstAlarm rfl).trans ?_
  refine ite_congr rfl (fun _ => ?_) (fun _ => ?_)
  · refine (sg_go ht_X8_firstAlarm (k := 3) (pc' := 17) (L' := [some (.ref 84)]) (st' := [.int 0, .ref 92]) (h' := (HP I A L F E)) rfl).trans ?_
    refine (sg_ldI ht_X8_firstAlarm rfl hp_o_92).trans ?_
    refine bind_cg fun x1 hx1 => ?_
    exact sg_ret ht_X8_firstAlarm rfl rfl
  · refine (sg_go ht_X8_firstAlarm (k := 2) (pc' := 18) (L' := [some (.ref 84)]) (st' := [.int (-5)]) (h' := (HP I A L F E)) rfl).trans ?_
    exact sg_ret ht_X8_firstAlarm rfl rfl
set_option maxRecDepth 20000 in
theorem sg_X8_sum_0 {I : Nat → Int32} {A : Nat → List Int32} {L : Nat → List Int64} {F : Nat → Int64} {E : MH} (p1 : Int32) (p2 : Int32) (p3 : Int32) : mm_call G0 140 [.ref 84, .int p1, .int p2, .int p3] (HP I A L F E) = (if ¬ p2 < 0 ∧ ¬ 1 < p2 then (if ¬ p1 < 0 ∧ ¬ 3 < p1 then ((ldI (A 85) ((45 * p1) + 4)).bind fun x1 => (if ¬ p3 < 0 ∧ ¬ (x1 - 1) < p3 then ((mm_call G0 138 [.ref 84, .int p1] (HP I A L F E)).bind fun q => mm_run G0 140 25 [some (.ref 84), some (.int p1), some (.int p2), some (.int p3)] (q.1.toList ++ []) q.2) else some (some (.int (-1)), (HP I A L F E)))) else some (some (.int (-1)), (HP I A L F E))) else some (some (.int (-1)), (HP I A L F E))) := by
  show mm_run G0 140 0 [some (.ref 84), some (.int p1), some (.int p2), some (.int p3)] [] (HP I A L F E) = _
  refine (sg_go ht_X8_sum (k := 3) (pc' := 3) (L' := [some (.ref 84), some (.int p1), some (.int p2), some (.int p3)]) (st' := [.int 1, .int 0, .int p2]) (h' := (HP I A L F E)) rfl).trans ?_
  refine (sg_call ht_X8_sum (mj := 113) (as := [.int p2, .int 0, .int 1]) (rest := []) rfl rfl ⟨by decide, Nat.le_of_ble_eq_true rfl⟩).trans ?_
  refine (bind_eq (sp_X8_isIn p2 0 1)).trans ?_
  show mm_run G0 140 6 [some (.ref 84), some (.int p1), some (.int p2), some (.int p3)] [.int (bi (decide (¬ p2 < 0 ∧ ¬ 1 < p2)))] (HP I A L F E) = _
  refine (sg_be ht_X8_sum rfl).trans ?_
  refine ite_congr rfl (fun _ => ?_) (fun _ => ?_)
  · refine (sg_go ht_X8_sum (k := 3) (pc' := 12) (L' := [some (.ref 84), some (.int p1), some (.int p2), some (.int p3)]) (st' := [.int p3, .int p1, .ref 84]) (h' := (HP I A L F E)) rfl).trans ?_
    refine (sg_call ht_X8_sum (mj := 116) (as := [.ref 84, .int p1, .int p3]) (rest := []) rfl rfl ⟨by decide, Nat.le_of_ble_eq_true rfl⟩).trans ?_
    refine (bind_eq (sg_X8_isPlace_0 p1 p3)).trans ?_
    refine ite_bd.trans ?_
    refine ite_congr rfl (fun _ => ?_) (fun _ => ?_)
    · refine bind_as.trans ?_
      refine bind_cg fun x1 hx1 => ?_
      refine ite_bd.trans ?_
      refine ite_congr rfl (fun _ => ?_) (fun _ => ?_)
      · show mm_run G0 140 15 [some (.ref 84), some (.int p1), some (.int p2), some (.int p3)] [.int 1] (HP I A L F E) = _
        refine (sg_go ht_X8_sum (k := 3) (pc' := 22) (L' := [some (.ref 84), some (.int p1), some (.int p2), some (.int p3)]) (st' := [.int p1, .ref 84]) (h' := (HP I A L F E)) rfl).trans ?_
        refine (sg_call ht_X8_sum (mj := 138) (as := [.ref 84, .int p1]) (rest := []) rfl rfl ⟨by decide, Nat.le_of_ble_eq_true rfl⟩).trans ?_
        rfl
      · show mm_run G0 140 15 [some (.ref 84), some (.int p1), some (.int p2), some (.int p3)] [.int 0] (HP I A L F E) = _
        refine (sg_go ht_X8_sum (k := 2) (pc' := 19) (L' := [some (.ref 84), some (.int p1), some (.int p2), some (.int p3)]) (st' := [.int (-1)]) (h' := (HP I A L F E)) rfl).trans ?_
        exact sg_ret ht_X8_sum rfl rfl
    · show mm_run G0 140 15 [some (.ref 84), some (.int p1), some (.int p2), some (.int p3)] [.int 0] (HP I A L F E) = _
      refine (sg_go ht_X8_sum (k := 2) (pc' := 19) (L' := [some (.ref 84), some (.int p1), some (.int p2), some (.int p3)]) (st' := [.int (-1)]) (h' := (HP I A L F E)) rfl).trans ?_
      exact sg_ret ht_X8_sum rfl rfl
  · refine (sg_go ht_X8_sum (k := 1) (pc' := 19) (L' := [some (.ref 84), some (.int p1), some (.int p2), some (.int p3)]) (st' := [.int (-1)]) (h' := (HP I A L F E)) rfl).trans ?_
    exact sg_ret ht_X8_sum rfl rfl
set_option maxRecDepth 20000 in
theorem sg_X8_sum_25 {I : Nat → Int32} {A : Nat → List Int32} {L : Nat → List Int64} {F : Nat → Int64} {E : MH} (v1 : Int32) (v2 : Int32) (v3 : Int32) : mm_run G0 140 25 [some (.ref 84), some (.int v1), some (.int v2), some (.int v3)] [] (HP I A L F E) = (if v2 ≠ 0 then ((ldI (A 91) v3).bind fun x1 => some (some (.int x1), (HP I A L F E))) else ((ldI (A 90) v3).bind fun x2 => some (some (.int x2), (HP I A L F E)))) := by
  refine (sg_go ht_X8_sum (k := 1) (pc' := 26) (L' := [some (.ref 84), some (.int v1), some (.int v2), some (.int v3)]) (st' := [.int v2]) (h' := (HP I A L F E)) rfl).trans ?_
  refine (sg_if ht_X8_sum rfl).trans ?_
  refine ite_congr rfl (fun _ => ?_) (fun _ => ?_)
  · refine (sg_go ht_X8_sum (k := 3) (pc' := 43) (L' := [some (.ref 84), some (.int v1), some (.int v2), some (.int v3)]) (st' := [.int v3, .ref 91]) (h' := (HP I A L F E)) rfl).trans ?_
    refine (sg_ldI ht_X8_sum rfl hp_o_91).trans ?_
    refine bind_cg fun x1 hx1 => ?_
    exact sg_ret ht_X8_sum rfl rfl
  · refine (sg_go ht_X8_sum (k := 3) (pc' := 34) (L' := [some (.ref 84), some (.int v1), some (.int v2), some (.int v3)]) (st' := [.int v3, .ref 90]) (h' := (HP I A L F E)) rfl).trans ?_
    refine (sg_ldI ht_X8_sum rfl hp_o_90).trans ?_
    refine bind_cg fun x2 hx2 => ?_
    refine (sg_go ht_X8_sum (k := 1) (pc' := 44) (L' := [some (.ref 84), some (.int v1), some (.int v2), some (.int v3)]) (st' := [.int x2]) (h' := (HP I A L F E)) rfl).trans ?_
    exact sg_ret ht_X8_sum rfl rfl
set_option maxRecDepth 20000 in
theorem sg_X8_alarms_0 {I : Nat → Int32} {A : Nat → List Int32} {L : Nat → List Int64} {F : Nat → Int64} {E : MH} (p1 : Int32) : mm_call G0 141 [.ref 84, .int p1] (HP I A L F E) = (if ¬ p1 < 0 ∧ ¬ 3 < p1 then ((mm_call G0 138 [.ref 84, .int p1] (HP I A L F E)).bind fun q => mm_run G0 141 14 [some (.ref 84), some (.int p1)] (q.1.toList ++ []) q.2) else some (some (.int (-1)), (HP I A L F E))) := by
  show mm_run G0 141 0 [some (.ref 84), some (.int p1)] [] (HP I A L F E) = _
  refine (sg_go ht_X8_alarms (k := 1) (pc' := 1) (L' := [some (.ref 84), some (.int p1)]) (st' := [.int p1]) (h' := (HP I A L F E)) rfl).trans ?_
  refine (sg_call ht_X8_alarms (mj := 114) (as := [.int p1]) (rest := []) rfl rfl ⟨by decide, Nat.le_of_ble_eq_true rfl⟩).trans ?_
  refine (bind_eq (sp_X8_isStream p1)).trans ?_
  show mm_run G0 141 4 [some (.ref 84), some (.int p1)] [.int (bi (decide (¬ p1 < 0 ∧ ¬ 3 < p1)))] (HP I A L F E) = _
  refine (sg_bn ht_X8_alarms rfl).trans ?_
  refine ite_congr rfl (fun _ => ?_) (fun _ => ?_)
  · refine (sg_go ht_X8_alarms (k := 2) (pc' := 11) (L' := [some (.ref 84), some (.int p1)]) (st' := [.int p1, .ref 84]) (h' := (HP I A L F E)) rfl).trans ?_
    refine (sg_call ht_X8_alarms (mj := 138) (as := [.ref 84, .int p1]) (rest := []) rfl rfl ⟨by decide, Nat.le_of_ble_eq_true rfl⟩).trans ?_
    rfl
  · refine (sg_go ht_X8_alarms (k := 1) (pc' := 8) (L' := [some (.ref 84), some (.int p1)]) (st' := [.int (-1)]) (h' := (HP I A L F E)) rfl).trans ?_
    exact sg_ret ht_X8_alarms rfl rfl
set_option maxRecDepth 20000 in
theorem sg_X8_alarms_14 {I : Nat → Int32} {A : Nat → List Int32} {L : Nat → List Int64} {F : Nat → Int64} {E : MH} (v1 : Int32) : mm_run G0 141 14 [some (.ref 84), some (.int v1)] [] (HP I A L F E) = some (some (.int (I 8415)), (HP I A L F E)) := by
  refine (sg_go ht_X8_alarms (k := 2) (pc' := 18) (L' := [some (.ref 84), some (.int v1)]) (st' := [.int (I 8415)]) (h' := (HP I A L F E)) rfl).trans ?_
  exact sg_ret ht_X8_alarms rfl rfl
set_option maxRecDepth 20000 in
theorem sg_X8_alarm_0 {I : Nat → Int32} {A : Nat → List Int32} {L : Nat → List Int64} {F : Nat → Int64} {E : MH} (p1 : Int32) (p2 : Int32) (p3 : Int32) : mm_call G0 142 [.ref 84, .int p1, .int p2, .int p3] (HP I A L F E) = (if ¬ p1 < 0 ∧ ¬ 3 < p1 then (if ¬ p3 < 0 ∧ ¬ 2 < p3 then ((mm_call G0 138 [.ref 84, .int p1] (HP I A L F E)).bind fun q => mm_run G0 142 23 [some (.ref 84), some (.int p1), some (.int p2), some (.int p3)] (q.1.toList ++ []) q.2) else some (some (.int (-1)), (HP I A L F E))) else some (some (.int (-1)), (HP I A L F E))) := by
  show mm_run G0 142 0 [some (.ref 84), some (.int p1), some (.int p2), some (.int p3)] [] (HP I A L F E) = _
  refine (sg_go ht_X8_alarm (k := 1) (pc' := 1) (L' := [some (.ref 84), some (.int p1), some (.int p2), some (.int p3)]) (st' := [.int p1]) (h' := (HP I A L F E)) rfl).trans ?_
  refine (sg_call ht_X8_alarm (mj := 114) (as := [.int p1]) (rest := []) rfl rfl ⟨by decide, Nat.le_of_ble_eq_true rfl⟩).trans ?_
  refine (bind_eq (sp_X8_isStream p1)).trans ?_
  show mm_run G0 142 4 [some (.ref 84), some (.int p1), some (.int p2), some (.int p3)] [.int (bi (decide (¬ p1 < 0 ∧ ¬ 3 < p1)))] (HP I A L F E) = _
  refine (sg_be ht_X8_alarm rfl).trans ?_
  refine ite_congr rfl (fun _ => ?_) (fun _ => ?_)
  · refine (sg_go ht_X8_alarm (k := 3) (pc' := 10) (L' := [some (.ref 84), some (.int p1), some (.int p2), some (.int p3)]) (st' := [.int 2, .int 0, .int p3]) (h' := (HP I A L F E)) rfl).trans ?_
    refine (sg_call ht_X8_alarm (mj := 113) (as := [.int p3, .int 0, .int 2]) (rest := []) rfl rfl ⟨by decide, Nat.le_of_ble_eq_true rfl⟩).trans ?_
    refine (bind_eq (sp_X8_isIn p3 0 2)).trans ?_
    show mm_run G0 142 13 [some (.ref 84), some (.int p1), some (.int p2), some (.int p3)] [.int (bi (decide (¬ p3 < 0 ∧ ¬ 2 < p3)))] (HP I A L F E) = _
    refine (sg_bn ht_X8_alarm rfl).trans ?_
    refine ite_congr rfl (fun _ => ?_) (fun _ => ?_)
    · refine (sg_go ht_X8_alarm (k := 2) (pc' := 20) (L' := [some (.ref 84), some (.int p1), some (.int p2), some (.int p3)]) (st' := [.int p1, .ref 84]) (h' := (HP I A L F E)) rfl).trans ?_
      refine (sg_call ht_X8_alarm (mj := 138) (as := [.ref 84, .int p1]) (rest := []) rfl rfl ⟨by decide, Nat.le_of_ble_eq_true rfl⟩).trans ?_
      rfl
    · refine (sg_go ht_X8_alarm (k := 1) (pc' := 17) (L' := [some (.ref 84), some (.int p1), some (.int p2), some (.int p3)]) (st' := [.int (-1)]) (h' := (HP I A L F E)) rfl).trans ?_
      exact sg_ret ht_X8_alarm rfl rfl
  · refine (sg_go ht_X8_alarm (k := 1) (pc' := 17) (L' := [some (.ref 84), some (.int p1), some (.int p2), some (.int p3)]) (st' := [.int (-1)]) (h' := (HP I A L F E)) rfl).trans ?_
    exact sg_ret ht_X8_alarm rfl rfl
set_option maxRecDepth 20000 in
theorem sg_X8_alarm_23 {I : Nat → Int32} {A : Nat → List Int32} {L : Nat → List Int64} {F : Nat → Int64} {E : MH} (v1 : Int32) (v2 : Int32) (v3 : Int32) : mm_run G0 142 23 [some (.ref 84), some (.int v1), some (.int v2), some (.int v3)] [] (HP I A L F E) = (if ¬ v2 < 0 ∧ ¬ ((I 8415) - 1) < v2 then (if v3 ≠ 0 then (if v3 ≠ 1 then ((ldI (A 94) v2).bind fun x1 => some (some (.int x1), (HP I A L F E))) else ((ldI (A 93) v2).bind fun x2 => some (some (.int x2), (HP I A L F E)))) else ((ldI (A 92) v2).bind fun x3 => some (some (.int x3), (HP I A L F E)))) else some (some (.int (-1)), (HP I A L F E))) := by
  refine (sg_go ht_X8_alarm (k := 6) (pc' := 31) (L' := [some (.ref 84), some (.int v1), some (.int v2), some (.int v3)]) (st' := [.int ((I 8415) - 1), .int 0, .int v2]) (h' := (HP I A L F E)) rfl).trans ?_
  refine (sg_call ht_X8_alarm (mj := 113) (as := [.int v2, .int 0, .int ((I 8415) - 1)]) (rest := []) rfl rfl ⟨by decide, Nat.le_of_ble_eq_true rfl⟩).trans ?_
  refine (bind_eq (sp_X8_isIn v2 0 ((I 8415) - 1))).trans ?_
  show mm_run G0 142 34 [some (.ref 84), some (.int v1), some (.int v2), some (.int v3)] [.int (bi (decide (¬ v2 < 0 ∧ ¬ ((I 8415) - 1) < v2)))] (HP I A L F E) = _
  refine (sg_bn ht_X8_alarm rfl).trans ?_
  refine ite_congr rfl (fun _ => ?_) (fun _ => ?_)
  · refine (sg_go ht_X8_alarm (k := 1) (pc' := 40) (L' := [some (.ref 84), some (.int v1), some (.int v2), some (.int v3)]) (st' := [.int v3]) (h' := (HP I A L F E)) rfl).trans ?_
    refine (sg_if ht_X8_alarm rfl).trans ?_
    refine ite_congr rfl (fun _ => ?_) (fun _ => ?_)
    · refine (sg_go ht_X8_alarm (k := 2) (pc' := 54) (L' := [some (.ref 84), some (.int v1), some (.int v2), some (.int v3)]) (st' := [.int 1, .int v3]) (h' := (HP I A L F E)) rfl).trans ?_
      refine (sg_cmp ht_X8_alarm rfl).trans ?_
      refine ite_congr rfl (fun _ => ?_) (fun _ => ?_)
      · refine (sg_go ht_X8_alarm (k := 3) (pc' := 71) (L' := [some (.ref 84), some (.int v1), some (.int v2), some (.int v3)]) (st' := [.int v2, .ref 94]) (h' := (HP I A L F E)) rfl).trans ?_
        refine (sg_ldI ht_X8_alarm rfl hp_o_94).trans ?_
        refine bind_cg fun x1 hx1 => ?_
        exact sg_ret ht_X8_alarm rfl rfl
      · refine (sg_go ht_X8_alarm (k := 3) (pc' := 62) (L' := [some (.ref 84), some (.int v1), some (.int v2), some (.int v3)]) (st' := [.int v2, .ref 93]) (h' := (HP I A L F E)) rfl).trans ?_
        refine (sg_ldI ht_X8_alarm rfl hp_o_93).trans ?_
        refine bind_cg fun x2 hx2 => ?_
        refine (sg_go ht_X8_alarm (k := 1) (pc' := 72) (L' := [some (.ref 84), some (.int v1), some (.int v2), some (.int v3)]) (st' := [.int x2]) (h' := (HP I A L F E)) rfl).trans ?_
        exact sg_ret ht_X8_alarm rfl rfl
    · refine (sg_go ht_X8_alarm (k := 3) (pc' := 48) (L' := [some (.ref 84), some (.int v1), some (.int v2), some (.int v3)]) (st' := [.int v2, .ref 92]) (h' := (HP I A L F E)) rfl).trans ?_
      refine (sg_ldI ht_X8_alarm rfl hp_o_92).trans ?_
      refine bind_cg fun x3 hx3 => ?_
      refine (sg_go ht_X8_alarm (k := 1) (pc' := 72) (L' := [some (.ref 84), some (.int v1), some (.int v2), some (.int v3)]) (st' := [.int x3]) (h' := (HP I A L F E)) rfl).trans ?_
      exact sg_ret ht_X8_alarm rfl rfl
  · refine (sg_go ht_X8_alarm (k := 1) (pc' := 38) (L' := [some (.ref 84), some (.int v1), some (.int v2), some (.int v3)]) (st' := [.int (-1)]) (h' := (HP I A L F E)) rfl).trans ?_
    exact sg_ret ht_X8_alarm rfl rfl
set_option maxRecDepth 20000 in
theorem sg_X8_latest_0 {I : Nat → Int32} {A : Nat → List Int32} {L : Nat → List Int64} {F : Nat → Int64} {E : MH} (p1 : Int32) (p2 : Int32) : mm_call G0 143 [.ref 84, .int p1, .int p2] (HP I A L F E) = (if ¬ p1 < 0 ∧ ¬ 3 < p1 then (if 0 ≤ p2 then ((mm_call G0 138 [.ref 84, .int p1] (HP I A L F E)).bind fun q => mm_run G0 143 18 [some (.ref 84), some (.int p1), some (.int p2), none, none] (q.1.toList ++ []) q.2) else some (some (.int (-1)), (HP I A L F E))) else some (some (.int (-1)), (HP I A L F E))) := by
  show mm_run G0 143 0 [some (.ref 84), some (.int p1), some (.int p2), none, none] [] (HP I A L F E) = _
  refine (sg_go ht_X8_latest (k := 1) (pc' := 1) (L' := [some (.ref 84), some (.int p1), some (.int p2), none, none]) (st' := [.int p1]) (h' := (HP I A L F E)) rfl).trans ?_
  refine (sg_call ht_X8_latest (mj := 114) (as := [.int p1]) (rest := []) rfl rfl ⟨by decide, Nat.le_of_ble_eq_true rfl⟩).trans ?_
  refine (bind_eq (sp_X8_isStream p1)).trans ?_
  show mm_run G0 143 4 [some (.ref 84), some (.int p1), some (.int p2), none, none] [.int (bi (decide (¬ p1 < 0 ∧ ¬ 3 < p1)))] (HP I A L F E) = _
  refine (sg_be ht_X8_latest rfl).trans ?_
  refine ite_congr rfl (fun _ => ?_) (fun _ => ?_)
  · refine (sg_go ht_X8_latest (k := 1) (pc' := 8) (L' := [some (.ref 84), some (.int p1), some (.int p2), none, none]) (st' := [.int p2]) (h' := (HP I A L F E)) rfl).trans ?_
    refine (sg_if ht_X8_latest rfl).trans ?_
    refine ite_congr rfl (fun _ => ?_) (fun _ => ?_)
    · refine (sg_go ht_X8_latest (k := 2) (pc' := 15) (L' := [some (.ref 84), some (.int p1), some (.int p2), none, none]) (st' := [.int p1, .ref 84]) (h' := (HP I A L F E)) rfl).trans ?_
      refine (sg_call ht_X8_latest (mj := 138) (as := [.ref 84, .int p1]) (rest := []) rfl rfl ⟨by decide, Nat.le_of_ble_eq_true rfl⟩).trans ?_
      rfl
    · refine (sg_go ht_X8_latest (k := 1) (pc' := 12) (L' := [some (.ref 84), some (.int p1), some (.int p2), none, none]) (st' := [.int (-1)]) (h' := (HP I A L F E)) rfl).trans ?_
      exact sg_ret ht_X8_latest rfl rfl
  · refine (sg_go ht_X8_latest (k := 1) (pc' := 12) (L' := [some (.ref 84), some (.int p1), some (.int p2), none, none]) (st' := [.int (-1)]) (h' := (HP I A L F E)) rfl).trans ?_
    exact sg_ret ht_X8_latest rfl rfl
set_option maxRecDepth 20000 in
theorem sg_X8_latest_18 {I : Nat → Int32} {A : Nat → List Int32} {L : Nat → List Int64} {F : Nat → Int64} {E : MH} (v1 : Int32) (v2 : Int32) : mm_run G0 143 18 [some (.ref 84), some (.int v1), some (.int v2), none, none] [] (HP I A L F E) = mm_run G0 143 24 [some (.ref 84), some (.int v1), some (.int v2), some (.int (-5)), some (.int 0)] [] (HP I A L F E) := by
  refine (sg_go ht_X8_latest (k := 4) (pc' := 24) (L' := [some (.ref 84), some (.int v1), some (.int v2), some (.int (-5)), some (.int 0)]) (st' := []) (h' := (HP I A L F E)) rfl).trans ?_
  rfl
set_option maxRecDepth 20000 in
theorem sg_X8_latest_24 {I : Nat → Int32} {A : Nat → List Int32} {L : Nat → List Int64} {F : Nat → Int64} {E : MH} (v1 : Int32) (v2 : Int32) (v3 : Int32) (v4 : Int32) : mm_run G0 143 24 [some (.ref 84), some (.int v1), some (.int v2), some (.int v3), some (.int v4)] [] (HP I A L F E) = (if (I 8415) ≤ v4 then some (some (.int v3), (HP I A L F E)) else ((ldI (A 92) v4).bind fun x1 => (if v2 < x1 then mm_run G0 143 24 [some (.ref 84), some (.int v1), some (.int v2), some (.int v3), some (.int (v4 + 1))] [] (HP I A L F E) else ((ldI (A 92) v4).bind fun x2 => mm_run G0 143 24 [some (.ref 84), some (.int v1), some (.int v2), some (.int x2), some (.int (v4 + 1))] [] (HP I A L F E))))) := by
  refine (sg_go ht_X8_latest (k := 3) (pc' := 30) (L' := [some (.ref 84), some (.int v1), some (.int v2), some (.int v3), some (.int v4)]) (st' := [.int (I 8415), .int v4]) (h' := (HP I A L F E)) rfl).trans ?_
  refine (sg_cmp ht_X8_latest rfl).trans ?_
  refine ite_congr rfl (fun _ => ?_) (fun _ => ?_)
  · refine (sg_go ht_X8_latest (k := 1) (pc' := 63) (L' := [some (.ref 84), some (.int v1), some (.int v2), some (.int v3), some (.int v4)]) (st' := [.int v3]) (h' := (HP I A L F E)) rfl).trans ?_
    exact sg_ret ht_X8_latest rfl rfl
  · refine (sg_go ht_X8_latest (k := 3) (pc' := 39) (L' := [some (.ref 84), some (.int v1), some (.int v2), some (.int v3), some (.int v4)]) (st' := [.int v4, .ref 92]) (h' := (HP I A L F E)) rfl).trans ?_
    refine (sg_ldI ht_X8_latest rfl hp_o_92).trans ?_
    refine bind_cg fun x1 hx1 => ?_
    refine (sg_go ht_X8_latest (k := 1) (pc' := 41) (L' := [some (.ref 84), some (.int v1), some (.int v2), some (.int v3), some (.int v4)]) (st' := [.int v2, .int x1]) (h' := (HP I A L F E)) rfl).trans ?_
    refine (sg_cmp ht_X8_latest rfl).trans ?_
    refine ite_congr rfl (fun _ => ?_) (fun _ => ?_)
    · refine (sg_go ht_X8_latest (k := 4) (pc' := 24) (L' := [some (.ref 84), some (.int v1), some (.int v2), some (.int v3), some (.int (v4 + 1))]) (st' := []) (h' := (HP I A L F E)) rfl).trans ?_
      rfl
    · refine (sg_go ht_X8_latest (k := 3) (pc' := 50) (L' := [some (.ref 84), some (.int v1), some (.int v2), some (.int v3), some (.int v4)]) (st' := [.int v4, .ref 92]) (h' := (HP I A L F E)) rfl).trans ?_
      refine (sg_ldI ht_X8_latest rfl hp_o_92).trans ?_
      refine bind_cg fun x2 hx2 => ?_
      refine (sg_go ht_X8_latest (k := 4) (pc' := 24) (L' := [some (.ref 84), some (.int v1), some (.int v2), some (.int x2), some (.int (v4 + 1))]) (st' := []) (h' := (HP I A L F E)) rfl).trans ?_
      rfl
set_option maxRecDepth 20000 in
theorem sg_X8_goesJoint_0 {I : Nat → Int32} {A : Nat → List Int32} {L : Nat → List Int64} {F : Nat → Int64} {E : MH}  : mm_call G0 144 [.ref 84] (HP I A L F E) = mm_run G0 144 10 [some (.ref 84), some (.int 41), some (.int 0), some (.int 0), some (.int 0), none, none] [] (HP I A L F E) := by
  show mm_run G0 144 0 [some (.ref 84), none, none, none, none, none, none] [] (HP I A L F E) = _
  refine (sg_go ht_X8_goesJoint (k := 8) (pc' := 10) (L' := [some (.ref 84), some (.int 41), some (.int 0), some (.int 0), some (.int 0), none, none]) (st' := []) (h' := (HP I A L F E)) rfl).trans ?_
  rfl
set_option maxRecDepth 20000 in
theorem sg_X8_goesJoint_10 {I : Nat → Int32} {A : Nat → List Int32} {L : Nat → List Int64} {F : Nat → Int64} {E : MH} (v1 : Int32) (v2 : Int32) (v3 : Int32) (v4 : Int32) : mm_run G0 144 10 [some (.ref 84), some (.int v1), some (.int v2), some (.int v3), some (.int v4), none, none] [] (HP I A L F E) = (if 4 ≤ v4 then (if v1 ≤ 40 then mm_run G0 144 105 [some (.ref 84), some (.int v1), some (.int v2), some (.int v3), some (.int 0), none, none] [] (HP (fu (fu (fu I 8416 0) 8417 0) 8415 0) A L F E) else mm_run G0 144 105 [some (.ref 84), some (.int 0), some (.int v2), some (.int v3), some (.int 0), none, none] [] (HP (fu (fu (fu I 8416 0) 8417 0) 8415 0) A L F E)) else ((ldI (A 85) ((45 * v4) + 4)).bind fun x1 => (if x1 ≠ 0 then ((ldI (A 85) ((45 * v4) + 4)).bind fun x2 => ((ldI (A 85) ((45 * v4) + 2)).bind fun x3 => ((ldI (A 85) ((45 * v4) + 3)).bind fun x4 => mm_run G0 144 10 [some (.ref 84), some (.int (imin v1 x2)), some (.int (v2 + x3)), some (.int (v3 + x4)), some (.int (v4 + 1)), none, none] [] (HP I A L F E)))) else mm_run G0 144 10 [some (.ref 84), some (.int v1), some (.int v2), some (.int v3), some (.int (v4 + 1)), none, none] [] (HP I A L F E)))) := by
  refine (sg_go ht_X8_goesJoint (k := 2) (pc' := 13) (L' := [some (.ref 84), some (.int v1), some (.int v2), some (.int v3), some (.int v4), none, none]) (st' := [.int 4, .int v4]) (h' := (HP I A L F E)) rfl).trans ?_
  refine (sg_cmp ht_X8_goesJoint rfl).trans ?_
  refine ite_congr rfl (fun _ => ?_) (fun _ => ?_)
  · refine (sg_go ht_X8_goesJoint (k := 2) (pc' := 78) (L' := [some (.ref 84), some (.int v1), some (.int v2), some (.int v3), some (.int v4), none, none]) (st' := [.int 40, .int v1]) (h' := (HP I A L F E)) rfl).trans ?_
    refine (sg_cmp ht_X8_goesJoint rfl).trans ?_
    refine ite_congr rfl (fun _ => ?_) (fun _ => ?_)
    · refine (sg_go ht_X8_goesJoint (k := 4) (pc' := 89) (L' := [some (.ref 84), some (.int v1), some (.int v2), some (.int v3), some (.int v4), none, none]) (st' := [.int 0, .ref 84]) (h' := (HP I A L F E)) rfl).trans ?_
      refine (sg_putI (h' := (HP (fu I 8416 0) A L F E)) ht_X8_goesJoint rfl hp_o_84 (Nat.le_of_ble_eq_true rfl) hp_p_8416).trans ?_
      refine (sg_go ht_X8_goesJoint (k := 2) (pc' := 94) (L' := [some (.ref 84), some (.int v1), some (.int v2), some (.int v3), some (.int v4), none, none]) (st' := [.int 0, .ref 84]) (h' := (HP (fu I 8416 0) A L F E)) rfl).trans ?_
      refine (sg_putI (h' := (HP (fu (fu I 8416 0) 8417 0) A L F E)) ht_X8_goesJoint rfl hp_o_84 (Nat.le_of_ble_eq_true rfl) hp_p_8417).trans ?_
      refine (sg_go ht_X8_goesJoint (k := 2) (pc' := 99) (L' := [some (.ref 84), some (.int v1), some (.int v2), some (.int v3), some (.int v4), none, none]) (st' := [.int 0, .ref 84]) (h' := (HP (fu (fu I 8416 0) 8417 0) A L F E)) rfl).trans ?_
      refine (sg_putI (h' := (HP (fu (fu (fu I 8416 0) 8417 0) 8415 0) A L F E)) ht_X8_goesJoint rfl hp_o_84 (Nat.le_of_ble_eq_true rfl) hp_p_8415).trans ?_
      refine (sg_go ht_X8_goesJoint (k := 2) (pc' := 105) (L' := [some (.ref 84), some (.int v1), some (.int v2), some (.int v3), some (.int 0), none, none]) (st' := []) (h' := (HP (fu (fu (fu I 8416 0) 8417 0) 8415 0) A L F E)) rfl).trans ?_
      rfl
    · refine (sg_go ht_X8_goesJoint (k := 5) (pc' := 89) (L' := [some (.ref 84), some (.int 0), some (.int v2), some (.int v3), some (.int v4), none, none]) (st' := [.int 0, .ref 84]) (h' := (HP I A L F E)) rfl).trans ?_
      refine (sg_putI (h' := (HP (fu I 8416 0) A L F E)) ht_X8_goesJoint rfl hp_o_84 (Nat.le_of_ble_eq_true rfl) hp_p_8416).trans ?_
      refine (sg_go ht_X8_goesJoint (k := 2) (pc' := 94) (L' := [some (.ref 84), some (.int 0), some (.int v2), some (.int v3), some (.int v4), none, none]) (st' := [.int 0, .ref 84]) (h' := (HP (fu I 8416 0) A L F E)) rfl).trans ?_
      refine (sg_putI (h' := (HP (fu (fu I 8416 0) 8417 0) A L F E)) ht_X8_goesJoint rfl hp_o_84 (Nat.le_of_ble_eq_true rfl) hp_p_8417).trans ?_
      refine (sg_go ht_X8_goesJoint (k := 2) (pc' := 99) (L' := [some (.ref 84), some (.int 0), some (.int v2), some (.int v3), some (.int v4), none, none]) (st' := [.int 0, .ref 84]) (h' := (HP (fu (fu I 8416 0) 8417 0) A L F E)) rfl).trans ?_
      refine (sg_putI (h' := (HP (fu (fu (fu I 8416 0) 8417 0) 8415 0) A L F E)) ht_X8_goesJoint rfl hp_o_84 (Nat.le_of_ble_eq_true rfl) hp_p_8415).trans ?_
      refine (sg_go ht_X8_goesJoint (k := 2) (pc' := 105) (L' := [some (.ref 84), some (.int 0), some (.int v2), some (.int v3), some (.int 0), none, none]) (st' := []) (h' := (HP (fu (fu (fu I 8416 0) 8417 0) 8415 0) A L F E)) rfl).trans ?_
      rfl
  · refine (sg_go ht_X8_goesJoint (k := 2) (pc' := 19) (L' := [some (.ref 84), some (.int v1), some (.int v2), some (.int v3), some (.int v4), none, none]) (st' := [.int v4, .ref 84]) (h' := (HP I A L F E)) rfl).trans ?_
    refine (sg_call ht_X8_goesJoint (mj := 115) (as := [.ref 84, .int v4]) (rest := []) rfl rfl ⟨by decide, Nat.le_of_ble_eq_true rfl⟩).trans ?_
    refine (bind_eq (sg_X8_many_0 v4)).trans ?_
    refine bind_as.trans ?_
    refine bind_cg fun x1 hx1 => ?_
    show mm_run G0 144 22 [some (.ref 84), some (.int v1), some (.int v2), some (.int v3), some (.int v4), none, none] [.int x1] (HP I A L F E) = _
    refine (sg_if ht_X8_goesJoint rfl).trans ?_
    refine ite_congr rfl (fun _ => ?_) (fun _ => ?_)
    · refine (sg_go ht_X8_goesJoint (k := 3) (pc' := 32) (L' := [some (.ref 84), some (.int v1), some (.int v2), some (.int v3), some (.int v4), none, none]) (st' := [.int v4, .ref 84, .int v1]) (h' := (HP I A L F E)) rfl).trans ?_
      refine (sg_call ht_X8_goesJoint (mj := 115) (as := [.ref 84, .int v4]) (rest := [.int v1]) rfl rfl ⟨by decide, Nat.le_of_ble_eq_true rfl⟩).trans ?_
      refine (bind_eq (sg_X8_many_0 v4)).trans ?_
      refine bind_as.trans ?_
      refine bind_cg fun x2 hx2 => ?_
      show mm_run G0 144 35 [some (.ref 84), some (.int v1), some (.int v2), some (.int v3), some (.int v4), none, none] [.int x2, .int v1] (HP I A L F E) = _
      refine (sg_go ht_X8_goesJoint (k := 6) (pc' := 46) (L' := [some (.ref 84), some (.int (imin v1 x2)), some (.int v2), some (.int v3), some (.int v4), none, none]) (st' := [.int v4, .ref 85, .int v2]) (h' := (HP I A L F E)) rfl).trans ?_
      refine (sg_call ht_X8_goesJoint (mj := 112) (as := [.int v4]) (rest := [.ref 85, .int v2]) rfl rfl ⟨by decide, Nat.le_of_ble_eq_true rfl⟩).trans ?_
      refine (bind_eq (sg_X8_base_0 v4)).trans ?_
      show mm_run G0 144 49 [some (.ref 84), some (.int (imin v1 x2)), some (.int v2), some (.int v3), some (.int v4), none, none] [.int (45 * v4), .ref 85, .int v2] (HP I A L F E) = _
      refine (sg_go ht_X8_goesJoint (k := 2) (pc' := 51) (L' := [some (.ref 84), some (.int (imin v1 x2)), some (.int v2), some (.int v3), some (.int v4), none, none]) (st' := [.int ((45 * v4) + 2), .ref 85, .int v2]) (h' := (HP I A L F E)) rfl).trans ?_
      refine (sg_ldI ht_X8_goesJoint rfl hp_o_85).trans ?_
      refine bind_cg fun x3 hx3 => ?_
      refine (sg_go ht_X8_goesJoint (k := 6) (pc' := 61) (L' := [some (.ref 84), some (.int (imin v1 x2)), some (.int (v2 + x3)), some (.int v3), some (.int v4), none, none]) (st' := [.int v4, .ref 85, .int v3]) (h' := (HP I A L F E)) rfl).trans ?_
      refine (sg_call ht_X8_goesJoint (mj := 112) (as := [.int v4]) (rest := [.ref 85, .int v3]) rfl rfl ⟨by decide, Nat.le_of_ble_eq_true rfl⟩).trans ?_
      refine (bind_eq (sg_X8_base_0 v4)).trans ?_
      show mm_run G0 144 64 [some (.ref 84), some (.int (imin v1 x2)), some (.int (v2 + x3)), some (.int v3), some (.int v4), none, none] [.int (45 * v4), .ref 85, .int v3] (HP I A L F E) = _
      refine (sg_go ht_X8_goesJoint (k := 2) (pc' := 66) (L' := [some (.ref 84), some (.int (imin v1 x2)), some (.int (v2 + x3)), some (.int v3), some (.int v4), none, none]) (st' := [.int ((45 * v4) + 3), .ref 85, .int v3]) (h' := (HP I A L F E)) rfl).trans ?_
      refine (sg_ldI ht_X8_goesJoint rfl hp_o_85).trans ?_
      refine bind_cg fun x4 hx4 => ?_
      refine (sg_go ht_X8_goesJoint (k := 4) (pc' := 10) (L' := [some (.ref 84), some (.int (imin v1 x2)), some (.int (v2 + x3)), some (.int (v3 + x4)), some (.int (v4 + 1)), none, none]) (st' := []) (h' := (HP I A L F E)) rfl).trans ?_
      rfl
    · refine (sg_go ht_X8_goesJoint (k := 3) (pc' := 10) (L' := [some (.ref 84), some (.int v1), some (.int v2), some (.int v3), some (.int (v4 + 1)), none, none]) (st' := []) (h' := (HP I A L F E)) rfl).trans ?_
      rfl
set_option maxRecDepth 20000 in
theorem sg_X8_goesJoint_105_v00 {I : Nat → Int32} {A : Nat → List Int32} {L : Nat → List Int64} {F : Nat → Int64} {E : MH} (v1 : Int32) (v2 : Int32) (v3 : Int32) (v4 : Int32) : mm_run G0 144 105 [some (.ref 84), some (.int v1), some (.int v2), some (.int v3), some (.int v4), none, none] [] (HP I A L F E) = (if v1 ≤ v4 then some (some (.int v1), (HP I A L F E)) else mm_run G0 144 117 [some (.ref 84), some (.int v1), some (.int v2), some (.int v3), some (.int v4), some (.int 0), some (.int 0)] [] (HP I A L F E)) := by
  refine (sg_go ht_X8_goesJoint (k := 2) (pc' := 108) (L' := [some (.ref 84), some (.int v1), some (.int v2), some (.int v3), some (.int v4), none, none]) (st' := [.int v1, .int v4]) (h' := (HP I A L F E)) rfl).trans ?_
  refine (sg_cmp ht_X8_goesJoint rfl).trans ?_
  refine ite_congr rfl (fun _ => ?_) (fun _ => ?_)
  · refine (sg_go ht_X8_goesJoint (k := 1) (pc' := 188) (L' := [some (.ref 84), some (.int v1), some (.int v2), some (.int v3), some (.int v4), none, none]) (st' := [.int v1]) (h' := (HP I A L F E)) rfl).trans ?_
    exact sg_ret ht_X8_goesJoint rfl rfl
  · refine (sg_go ht_X8_goesJoint (k := 4) (pc' := 117) (L' := [some (.ref 84), some (.int v1), some (.int v2), some (.int v3), some (.int v4), some (.int 0), some (.int 0)]) (st' := []) (h' := (HP I A L F E)) rfl).trans ?_
    rfl
set_option maxRecDepth 20000 in
theorem sg_X8_goesJoint_105_v01 {I : Nat → Int32} {A : Nat → List Int32} {L : Nat → List Int64} {F : Nat → Int64} {E : MH} (v1 : Int32) (v2 : Int32) (v3 : Int32) (v4 : Int32) (o6 : Int32) : mm_run G0 144 105 [some (.ref 84), some (.int v1), some (.int v2), some (.int v3), some (.int v4), none, some (.int o6)] [] (HP I A L F E) = (if v1 ≤ v4 then some (some (.int v1), (HP I A L F E)) else mm_run G0 144 117 [some (.ref 84), some (.int v1), some (.int v2), some (.int v3), some (.int v4), some (.int 0), some (.int 0)] [] (HP I A L F E)) := by
  refine (sg_go ht_X8_goesJoint (k := 2) (pc' := 108) (L' := [some (.ref 84), some (.int v1), some (.int v2), some (.int v3), some (.int v4), none, some (.int o6)]) (st' := [.int v1, .int v4]) (h' := (HP I A L F E)) rfl).trans ?_
  refine (sg_cmp ht_X8_goesJoint rfl).trans ?_
  refine ite_congr rfl (fun _ => ?_) (fun _ => ?_)
  · refine (sg_go ht_X8_goesJoint (k := 1) (pc' := 188) (L' := [some (.ref 84), some (.int v1), some (.int v2), some (.int v3), some (.int v4), none, some (.int o6)]) (st' := [.int v1]) (h' := (HP I A L F E)) rfl).trans ?_
    exact sg_ret ht_X8_goesJoint rfl rfl
  · refine (sg_go ht_X8_goesJoint (k := 4) (pc' := 117) (L' := [some (.ref 84), some (.int v1), some (.int v2), some (.int v3), some (.int v4), some (.int 0), some (.int 0)]) (st' := []) (h' := (HP I A L F E)) rfl).trans ?_
    rfl
set_option maxRecDepth 20000 in
theorem sg_X8_goesJoint_105_v10 {I : Nat → Int32} {A : Nat → List Int32} {L : Nat → List Int64} {F : Nat → Int64} {E : MH} (v1 : Int32) (v2 : Int32) (v3 : Int32) (v4 : Int32) (o5 : Int32) : mm_run G0 144 105 [some (.ref 84), some (.int v1), some (.int v2), some (.int v3), some (.int v4), some (.int o5), none] [] (HP I A L F E) = (if v1 ≤ v4 then some (some (.int v1), (HP I A L F E)) else mm_run G0 144 117 [some (.ref 84), some (.int v1), some (.int v2), some (.int v3), some (.int v4), some (.int 0), some (.int 0)] [] (HP I A L F E)) := by
  refine (sg_go ht_X8_goesJoint (k := 2) (pc' := 108) (L' := [some (.ref 84), some (.int v1), some (.int v2), some (.int v3), some (.int v4), some (.int o5), none]) (st' := [.int v1, .int v4]) (h' := (HP I A L F E)) rfl).trans ?_
  refine (sg_cmp ht_X8_goesJoint rfl).trans ?_
  refine ite_congr rfl (fun _ => ?_) (fun _ => ?_)
  · refine (sg_go ht_X8_goesJoint (k := 1) (pc' := 188) (L' := [some (.ref 84), some (.int v1), some (.int v2), some (.int v3), some (.int v4), some (.int o5), none]) (st' := [.int v1]) (h' := (HP I A L F E)) rfl).trans ?_
    exact sg_ret ht_X8_goesJoint rfl rfl
  · refine (sg_go ht_X8_goesJoint (k := 4) (pc' := 117) (L' := [some (.ref 84), some (.int v1), some (.int v2), some (.int v3), some (.int v4), some (.int 0), some (.int 0)]) (st' := []) (h' := (HP I A L F E)) rfl).trans ?_
    rfl
set_option maxRecDepth 20000 in
theorem sg_X8_goesJoint_105_v11 {I : Nat → Int32} {A : Nat → List Int32} {L : Nat → List Int64} {F : Nat → Int64} {E : MH} (v1 : Int32) (v2 : Int32) (v3 : Int32) (v4 : Int32) (o5 : Int32) (o6 : Int32) : mm_run G0 144 105 [some (.ref 84), some (.int v1), some (.int v2), some (.int v3), some (.int v4), some (.int o5), some (.int o6)] [] (HP I A L F E) = (if v1 ≤ v4 then some (some (.int v1), (HP I A L F E)) else mm_run G0 144 117 [some (.ref 84), some (.int v1), some (.int v2), some (.int v3), some (.int v4), some (.int 0), some (.int 0)] [] (HP I A L F E)) := by
  refine (sg_go ht_X8_goesJoint (k := 2) (pc' := 108) (L' := [some (.ref 84), some (.int v1), some (.int v2), some (.int v3), some (.int v4), some (.int o5), some (.int o6)]) (st' := [.int v1, .int v4]) (h' := (HP I A L F E)) rfl).trans ?_
  refine (sg_cmp ht_X8_goesJoint rfl).trans ?_
  refine ite_congr rfl (fun _ => ?_) (fun _ => ?_)
  · refine (sg_go ht_X8_goesJoint (k := 1) (pc' := 188) (L' := [some (.ref 84), some (.int v1), some (.int v2), some (.int v3), some (.int v4), some (.int o5), some (.int o6)]) (st' := [.int v1]) (h' := (HP I A L F E)) rfl).trans ?_
    exact sg_ret ht_X8_goesJoint rfl rfl
  · refine (sg_go ht_X8_goesJoint (k := 4) (pc' := 117) (L' := [some (.ref 84), some (.int v1), some (.int v2), some (.int v3), some (.int v4), some (.int 0), some (.int 0)]) (st' := []) (h' := (HP I A L F E)) rfl).trans ?_
    rfl
theorem sg_X8_goesJoint_105 {I : Nat → Int32} {A : Nat → List Int32} {L : Nat → List Int64} {F : Nat → Int64} {E : MH} (v1 : Int32) (v2 : Int32) (v3 : Int32) (v4 : Int32) (o5 : Option Int32) (o6 : Option Int32) : mm_run G0 144 105 [some (.ref 84), some (.int v1), some (.int v2), some (.int v3), some (.int v4), (o5.map Value.int), (o6.map Value.int)] [] (HP I A L F E) = (if v1 ≤ v4 then some (some (.int v1), (HP I A L F E)) else mm_run G0 144 117 [some (.ref 84), some (.int v1), some (.int v2), some (.int v3), some (.int v4), some (.int 0), some (.int 0)] [] (HP I A L F E)) := by
  match o5, o6 with
  | none, none => exact sg_X8_goesJoint_105_v00 v1 v2 v3 v4
  | none, some o6 => exact sg_X8_goesJoint_105_v01 v1 v2 v3 v4 o6
  | some o5, none => exact sg_X8_goesJoint_105_v10 v1 v2 v3 v4 o5
  | some o5, some o6 => exact sg_X8_goesJoint_105_v11 v1 v2 v3 v4 o5 o6
set_option maxRecDepth 20000 in
theorem sg_X8_goesJoint_117 {I : Nat → Int32} {A : Nat → List Int32} {L : Nat → List Int64} {F : Nat → Int64} {E : MH} (v1 : Int32) (v2 : Int32) (v3 : Int32) (v4 : Int32) (v5 : Int32) (v6 : Int32) : mm_run G0 144 117 [some (.ref 84), some (.int v1), some (.int v2), some (.int v3), some (.int v4), some (.int v5), some (.int v6)] [] (HP I A L F E) = (if 4 ≤ v6 then (if v3 ≤ (imax 0 (((I 8416) + v5) - v2)) then ((stI (A 92) (I 8415) v4).bind fun X1 => (if (imax 0 (((I 8416) + v5) - v2)) < v3 then ((stI (A 93) (I 8415) 1).bind fun X2 => (if (imax 0 (((I 8416) + v5) - v2)) < v3 then ((stI (A 94) (I 8415) (imax 0 (((I 8417) - v5) - v2))).bind fun X3 => mm_run G0 144 105 [some (.ref 84), some (.int v1), some (.int v2), some (.int v3), some (.int (v4 + 1)), some (.int v5), some (.int v6)] [] (HP (fu (fu (fu (fu (fu I 8416 (imax 0 (((I 8416) + v5) - v2))) 8417 (imax 0 (((I 8417) - v5) - v2))) 8415 ((I 8415) + 1)) 8416 0) 8417 0) (fu (fu (fu A 92 X1) 93 X2) 94 X3) L F E)) else ((stI (A 94) (I 8415) (imax 0 (((I 8416) + v5) - v2))).bind fun X4 => mm_run G0 144 105 [some (.ref 84), some (.int v1), some (.int v2), some (.int v3), some (.int (v4 + 1)), some (.int v5), some (.int v6)] [] (HP (fu (fu (fu (fu (fu I 8416 (imax 0 (((I 8416) + v5) - v2))) 8417 (imax 0 (((I 8417) - v5) - v2))) 8415 ((I 8415) + 1)) 8416 0) 8417 0) (fu (fu (fu A 92 X1) 93 X2) 94 X4) L F E)))) else ((stI (A 93) (I 8415) 0).bind fun X5 => (if (imax 0 (((I 8416) + v5) - v2)) < v3 then ((stI (A 94) (I 8415) (imax 0 (((I 8417) - v5) - v2))).bind fun X6 => mm_run G0 144 105 [some (.ref 84), some (.int v1), some (.int v2), some (.int v3), some (.int (v4 + 1)), some (.int v5), some (.int v6)] [] (HP (fu (fu (fu (fu (fu I 8416 (imax 0 (((I 8416) + v5) - v2))) 8417 (imax 0 (((I 8417) - v5) - v2))) 8415 ((I 8415) + 1)) 8416 0) 8417 0) (fu (fu (fu A 92 X1) 93 X5) 94 X6) L F E)) else ((stI (A 94) (I 8415) (imax 0 (((I 8416) + v5) - v2))).bind fun X7 => mm_run G0 144 105 [some (.ref 84), some (.int v1), some (.int v2), some (.int v3), some (.int (v4 + 1)), some (.int v5), some (.int v6)] [] (HP (fu (fu (fu (fu (fu I 8416 (imax 0 (((I 8416) + v5) - v2))) 8417 (imax 0 (((I 8417) - v5) - v2))) 8415 ((I 8415) + 1)) 8416 0) 8417 0) (fu (fu (fu A 92 X1) 93 X5) 94 X7) L F E)))))) else (if v3 ≤ (imax 0 (((I 8417) - v5) - v2)) then ((stI (A 92) (I 8415) v4).bind fun X8 => (if (imax 0 (((I 8416) + v5) - v2)) < v3 then ((stI (A 93) (I 8415) 1).bind fun X9 => (if (imax 0 (((I 8416) + v5) - v2)) < v3 then ((stI (A 94) (I 8415) (imax 0 (((I 8417) - v5) - v2))).bind fun X10 => mm_run G0 144 105 [some (.ref 84), some (.int v1), some (.int v2), some (.int v3), some (.int (v4 + 1)), some (.int v5), some (.int v6)] [] (HP (fu (fu (fu (fu (fu I 8416 (imax 0 (((I 8416) + v5) - v2))) 8417 (imax 0 (((I 8417) - v5) - v2))) 8415 ((I 8415) + 1)) 8416 0) 8417 0) (fu (fu (fu A 92 X8) 93 X9) 94 X10) L F E)) else ((stI (A 94) (I 8415) (imax 0 (((I 8416) + v5) - v2))).bind fun X11 => mm_run G0 144 105 [some (.ref 84), some (.int v1), some (.int v2), some (.int v3), some (.int (v4 + 1)), some (.int v5), some (.int v6)] [] (HP (fu (fu (fu (fu (fu I 8416 (imax 0 (((I 8416) + v5) - v2))) 8417 (imax 0 (((I 8417) - v5) - v2))) 8415 ((I 8415) + 1)) 8416 0) 8417 0) (fu (fu (fu A 92 X8) 93 X9) 94 X11) L F E)))) else ((stI (A 93) (I 8415) 0).bind fun X12 => (if (imax 0 (((I 8416) + v5) - v2)) < v3 then ((stI (A 94) (I 8415) (imax 0 (((I 8417) - v5) - v2))).bind fun X13 => mm_run G0 144 105 [some (.ref 84), some (.int v1), some (.int v2), some (.int v3), some (.int (v4 + 1)), some (.int v5), some (.int v6)] [] (HP (fu (fu (fu (fu (fu I 8416 (imax 0 (((I 8416) + v5) - v2))) 8417 (imax 0 (((I 8417) - v5) - v2))) 8415 ((I 8415) + 1)) 8416 0) 8417 0) (fu (fu (fu A 92 X8) 93 X12) 94 X13) L F E)) else ((stI (A 94) (I 8415) (imax 0 (((I 8416) + v5) - v2))).bind fun X14 => mm_run G0 144 105 [some (.ref 84), some (.int v1), some (.int v2), some (.int v3), some (.int (v4 + 1)), some (.int v5), some (.int v6)] [] (HP (fu (fu (fu (fu (fu I 8416 (imax 0 (((I 8416) + v5) - v2))) 8417 (imax 0 (((I 8417) - v5) - v2))) 8415 ((I 8415) + 1)) 8416 0) 8417 0) (fu (fu (fu A 92 X8) 93 X12) 94 X14) L F E)))))) else mm_run G0 144 105 [some (.ref 84), some (.int v1), some (.int v2), some (.int v3), some (.int (v4 + 1)), some (.int v5), some (.int v6)] [] (HP (fu (fu I 8416 (imax 0 (((I 8416) + v5) - v2))) 8417 (imax 0 (((I 8417) - v5) - v2))) A L F E))) else ((ldI (A 85) ((45 * v6) + 4)).bind fun x15 => (if x15 ≠ 0 then ((ldI (A 85) ((45 * v6) + 0)).bind fun x16 => ((ldI (A 85) (((45 * v6) + 5) + v4)).bind fun x17 => ((ldI (A 85) ((45 * v6) + 1)).bind fun x18 => mm_run G0 144 117 [some (.ref 84), some (.int v1), some (.int v2), some (.int v3), some (.int v4), some (.int (v5 + (ofv x16 (x17 - x18)))), some (.int (v6 + 1))] [] (HP I A L F E)))) else mm_run G0 144 117 [some (.ref 84), some (.int v1), some (.int v2), some (.int v3), some (.int v4), some (.int (v5 + 0)), some (.int (v6 + 1))] [] (HP I A L F E)))) := by
  refine (sg_go ht_X8_goesJoint (k := 2) (pc' := 120) (L' := [some (.ref 84), some (.int v1), some (.int v2), some (.int v3), some (.int v4), some (.int v5), some (.int v6)]) (st' := [.int 4, .int v6]) (h' := (HP I A L F E)) rfl).trans ?_
  refine (sg_cmp ht_X8_goesJoint rfl).trans ?_
  refine ite_congr rfl (fun _ => ?_) (fun _ => ?_)
  · refine (sg_go ht_X8_goesJoint (k := 5) (pc' := 162) (L' := [some (.ref 84), some (.int v1), some (.int v2), some (.int v3), some (.int v4), some (.int v5), some (.int v6)]) (st' := [.int v3, .int v2, .int v5, .int v4, .ref 84]) (h' := (HP I A L F E)) rfl).trans ?_
    refine (sg_call ht_X8_goesJoint (mj := 137) (as := [.ref 84, .int v4, .int v5, .int v2, .int v3]) (rest := []) rfl rfl ⟨by decide, Nat.le_of_ble_eq_true rfl⟩).trans ?_
    refine (bind_eq (sg_X8_goesOn_0 v4 v5 v2 v3)).trans ?_
    refine ite_bd.trans ?_
    refine ite_congr rfl (fun _ => ?_) (fun _ => ?_)
    · refine bind_as.trans ?_
      refine bind_cg fun X1 hX1 => ?_
      refine ite_bd.trans ?_
      refine ite_congr rfl (fun _ => ?_) (fun _ => ?_)
      · refine bind_as.trans ?_
        refine bind_cg fun X2 hX2 => ?_
        refine ite_bd.trans ?_
        refine ite_congr rfl (fun _ => ?_) (fun _ => ?_)
        · refine bind_as.trans ?_
          refine bind_cg fun X3 hX3 => ?_
          show mm_run G0 144 165 [some (.ref 84), some (.int v1), some (.int v2), some (.int v3), some (.int v4), some (.int v5), some (.int v6)] [.int 1] (HP (fu (fu (fu I 8416 (imax 0 (((I 8416) + v5) - v2))) 8417 (imax 0 (((I 8417) - v5) - v2))) 8415 ((I 8415) + 1)) (fu (fu (fu A 92 X1) 93 X2) 94 X3) L F E) = _
          refine (sg_go ht_X8_goesJoint (k := 3) (pc' := 173) (L' := [some (.ref 84), some (.int v1), some (.int v2), some (.int v3), some (.int v4), some (.int v5), some (.int v6)]) (st' := [.int 0, .ref 84]) (h' := (HP (fu (fu (fu I 8416 (imax 0 (((I 8416) + v5) - v2))) 8417 (imax 0 (((I 8417) - v5) - v2))) 8415 ((I 8415) + 1)) (fu (fu (fu A 92 X1) 93 X2) 94 X3) L F E)) rfl).trans ?_
          refine (sg_putI (h' := (HP (fu (fu (fu (fu I 8416 (imax 0 (((I 8416) + v5) - v2))) 8417 (imax 0 (((I 8417) - v5) - v2))) 8415 ((I 8415) + 1)) 8416 0) (fu (fu (fu A 92 X1) 93 X2) 94 X3) L F E)) ht_X8_goesJoint rfl hp_o_84 (Nat.le_of_ble_eq_true rfl) hp_p_8416).trans ?_
          refine (sg_go ht_X8_goesJoint (k := 2) (pc' := 178) (L' := [some (.ref 84), some (.int v1), some (.int v2), some (.int v3), some (.int v4), some (.int v5), some (.int v6)]) (st' := [.int 0, .ref 84]) (h' := (HP (fu (fu (fu (fu I 8416 (imax 0 (((I 8416) + v5) - v2))) 8417 (imax 0 (((I 8417) - v5) - v2))) 8415 ((I 8415) + 1)) 8416 0) (fu (fu (fu A 92 X1) 93 X2) 94 X3) L F E)) rfl).trans ?_
          refine (sg_putI (h' := (HP (fu (fu (fu (fu (fu I 8416 (imax 0 (((I 8416) + v5) - v2))) 8417 (imax 0 (((I 8417) - v5) - v2))) 8415 ((I 8415) + 1)) 8416 0) 8417 0) (fu (fu (fu A 92 X1) 93 X2) 94 X3) L F E)) ht_X8_goesJoint rfl hp_o_84 (Nat.le_of_ble_eq_true rfl) hp_p_8417).trans ?_
          refine (sg_go ht_X8_goesJoint (k := 2) (pc' := 105) (L' := [some (.ref 84), some (.int v1), some (.int v2), some (.int v3), some (.int (v4 + 1)), some (.int v5), some (.int v6)]) (st' := []) (h' := (HP (fu (fu (fu (fu (fu I 8416 (imax 0 (((I 8416) + v5) - v2))) 8417 (imax 0 (((I 8417) - v5) - v2))) 8415 ((I 8415) + 1)) 8416 0) 8417 0) (fu (fu (fu A 92 X1) 93 X2) 94 X3) L F E)) rfl).trans ?_
          rfl
        · refine bind_as.trans ?_
          refine bind_cg fun X4 hX4 => ?_
          show mm_run G0 144 165 [some (.ref 84), some (.int v1), some (.int v2), some (.int v3), some (.int v4), some (.int v5), some (.int v6)] [.int 1] (HP (fu (fu (fu I 8416 (imax 0 (((I 8416) + v5) - v2))) 8417 (imax 0 (((I 8417) - v5) - v2))) 8415 ((I 8415) + 1)) (fu (fu (fu A 92 X1) 93 X2) 94 X4) L F E) = _
          refine (sg_go ht_X8_goesJoint (k := 3) (pc' := 173) (L' := [some (.ref 84), some (.int v1), some (.int v2), some (.int v3), some (.int v4), some (.int v5), some (.int v6)]) (st' := [.int 0, .ref 84]) (h' := (HP (fu (fu (fu I 8416 (imax 0 (((I 8416) + v5) - v2))) 8417 (imax 0 (((I 8417) - v5) - v2))) 8415 ((I 8415) + 1)) (fu (fu (fu A 92 X1) 93 X2) 94 X4) L F E)) rfl).trans ?_
          refine (sg_putI (h' := (HP (fu (fu (fu (fu I 8416 (imax 0 (((I 8416) + v5) - v2))) 8417 (imax 0 (((I 8417) - v5) - v2))) 8415 ((I 8415) + 1)) 8416 0) (fu (fu (fu A 92 X1) 93 X2) 94 X4) L F E)) ht_X8_goesJoint rfl hp_o_84 (Nat.le_of_ble_eq_true rfl) hp_p_8416).trans ?_
          refine (sg_go ht_X8_goesJoint (k := 2) (pc' := 178) (L' := [some (.ref 84), some (.int v1), some (.int v2), some (.int v3), some (.int v4), some (.int v5), some (.int v6)]) (st' := [.int 0, .ref 84]) (h' := (HP (fu (fu (fu (fu I 8416 (imax 0 (((I 8416) + v5) - v2))) 8417 (imax 0 (((I 8417) - v5) - v2))) 8415 ((I 8415) + 1)) 8416 0) (fu (fu (fu A 92 X1) 93 X2) 94 X4) L F E)) rfl).trans ?_
          refine (sg_putI (h' := (HP (fu (fu (fu (fu (fu I 8416 (imax 0 (((I 8416) + v5) - v2))) 8417 (imax 0 (((I 8417) - v5) - v2))) 8415 ((I 8415) + 1)) 8416 0) 8417 0) (fu (fu (fu A 92 X1) 93 X2) 94 X4) L F E)) ht_X8_goesJoint rfl hp_o_84 (Nat.le_of_ble_eq_true rfl) hp_p_8417).trans ?_
          refine (sg_go ht_X8_goesJoint (k := 2) (pc' := 105) (L' := [some (.ref 84), some (.int v1), some (.int v2), some (.int v3), some (.int (v4 + 1)), some (.int v5), some (.int v6)]) (st' := []) (h' := (HP (fu (fu (fu (fu (fu I 8416 (imax 0 (((I 8416) + v5) - v2))) 8417 (imax 0 (((I 8417) - v5) - v2))) 8415 ((I 8415) + 1)) 8416 0) 8417 0) (fu (fu (fu A 92 X1) 93 X2) 94 X4) L F E)) rfl).trans ?_
          rfl
      · refine bind_as.trans ?_
        refine bind_cg fun X5 hX5 => ?_
        refine ite_bd.trans ?_
        refine ite_congr rfl (fun _ => ?_) (fun _ => ?_)
        · refine bind_as.trans ?_
          refine bind_cg fun X6 hX6 => ?_
          show mm_run G0 144 165 [some (.ref 84), some (.int v1), some (.int v2), some (.int v3), some (.int v4), some (.int v5), some (.int v6)] [.int 1] (HP (fu (fu (fu I 8416 (imax 0 (((I 8416) + v5) - v2))) 8417 (imax 0 (((I 8417) - v5) - v2))) 8415 ((I 8415) + 1)) (fu (fu (fu A 92 X1) 93 X5) 94 X6) L F E) = _
          refine (sg_go ht_X8_goesJoint (k := 3) (pc' := 173) (L' := [some (.ref 84), some (.int v1), some (.int v2), some (.int v3), some (.int v4), some (.int v5), some (.int v6)]) (st' := [.int 0, .ref 84]) (h' := (HP (fu (fu (fu I 8416 (imax 0 (((I 8416) + v5) - v2))) 8417 (imax 0 (((I 8417) - v5) - v2))) 8415 ((I 8415) + 1)) (fu (fu (fu A 92 X1) 93 X5) 94 X6) L F E)) rfl).trans ?_
          refine (sg_putI (h' := (HP (fu (fu (fu (fu I 8416 (imax 0 (((I 8416) + v5) - v2))) 8417 (imax 0 (((I 8417) - v5) - v2))) 8415 ((I 8415) + 1)) 8416 0) (fu (fu (fu A 92 X1) 93 X5) 94 X6) L F E)) ht_X8_goesJoint rfl hp_o_84 (Nat.le_of_ble_eq_true rfl) hp_p_8416).trans ?_
          refine (sg_go ht_X8_goesJoint (k := 2) (pc' := 178) (L' := [some (.ref 84), some (.int v1), some (.int v2), some (.int v3), some (.int v4), some (.int v5), some (.int v6)]) (st' := [.int 0, .ref 84]) (h' := (HP (fu (fu (fu (fu I 8416 (imax 0 (((I 8416) + v5) - v2))) 8417 (imax 0 (((I 8417) - v5) - v2))) 8415 ((I 8415) + 1)) 8416 0) (fu (fu (fu A 92 X1) 93 X5) 94 X6) L F E)) rfl).trans ?_
          refine (sg_putI (h' := (HP (fu (fu (fu (fu (fu I 8416 (imax 0 (((I 8416) + v5) - v2))) 8417 (imax 0 (((I 8417) - v5) - v2))) 8415 ((I 8415) + 1)) 8416 0) 8417 0) (fu (fu (fu A 92 X1) 93 X5) 94 X6) L F E)) ht_X8_goesJoint rfl hp_o_84 (Nat.le_of_ble_eq_true rfl) hp_p_8417).trans ?_
          refine (sg_go ht_X8_goesJoint (k := 2) (pc' := 105) (L' := [some (.ref 84), some (.int v1), some (.int v2), some (.int v3), some (.int (v4 + 1)), some (.int v5), some (.int v6)]) (st' := []) (h' := (HP (fu (fu (fu (fu (fu I 8416 (imax 0 (((I 8416) + v5) - v2))) 8417 (imax 0 (((I 8417) - v5) - v2))) 8415 ((I 8415) + 1)) 8416 0) 8417 0) (fu (fu (fu A 92 X1) 93 X5) 94 X6) L F E)) rfl).trans ?_
          rfl
        · refine bind_as.trans ?_
          refine bind_cg fun X7 hX7 => ?_
          show mm_run G0 144 165 [some (.ref 84), some (.int v1), some (.int v2), some (.int v3), some (.int v4), some (.int v5), some (.int v6)] [.int 1] (HP (fu (fu (fu I 8416 (imax 0 (((I 8416) + v5) - v2))) 8417 (imax 0 (((I 8417) - v5) - v2))) 8415 ((I 8415) + 1)) (fu (fu (fu A 92 X1) 93 X5) 94 X7) L F E) = _
          refine (sg_go ht_X8_goesJoint (k := 3) (pc' := 173) (L' := [some (.ref 84), some (.int v1), some (.int v2), some (.int v3), some (.int v4), some (.int v5), some (.int v6)]) (st' := [.int 0, .ref 84]) (h' := (HP (fu (fu (fu I 8416 (imax 0 (((I 8416) + v5) - v2))) 8417 (imax 0 (((I 8417) - v5) - v2))) 8415 ((I 8415) + 1)) (fu (fu (fu A 92 X1) 93 X5) 94 X7) L F E)) rfl).trans ?_
          refine (sg_putI (h' := (HP (fu (fu (fu (fu I 8416 (imax 0 (((I 8416) + v5) - v2))) 8417 (imax 0 (((I 8417) - v5) - v2))) 8415 ((I 8415) + 1)) 8416 0) (fu (fu (fu A 92 X1) 93 X5) 94 X7) L F E)) ht_X8_goesJoint rfl hp_o_84 (Nat.le_of_ble_eq_true rfl) hp_p_8416).trans ?_
          refine (sg_go ht_X8_goesJoint (k := 2) (pc' := 178) (L' := [some (.ref 84), some (.int v1), some (.int v2), some (.int v3), some (.int v4), some (.int v5), some (.int v6)]) (st' := [.int 0, .ref 84]) (h' := (HP (fu (fu (fu (fu I 8416 (imax 0 (((I 8416) + v5) - v2))) 8417 (imax 0 (((I 8417) - v5) - v2))) 8415 ((I 8415) + 1)) 8416 0) (fu (fu (fu A 92 X1) 93 X5) 94 X7) L F E)) rfl).trans ?_
          refine (sg_putI (h' := (HP (fu (fu (fu (fu (fu I 8416 (imax 0 (((I 8416) + v5) - v2))) 8417 (imax 0 (((I 8417) - v5) - v2))) 8415 ((I 8415) + 1)) 8416 0) 8417 0) (fu (fu (fu A 92 X1) 93 X5) 94 X7) L F E)) ht_X8_goesJoint rfl hp_o_84 (Nat.le_of_ble_eq_true rfl) hp_p_8417).trans ?_
          refine (sg_go ht_X8_goesJoint (k := 2) (pc' := 105) (L' := [some (.ref 84), some (.int v1), some (.int v2), some (.int v3), some (.int (v4 + 1)), some (.int v5), some (.int v6)]) (st' := []) (h' := (HP (fu (fu (fu (fu (fu I 8416 (imax 0 (((I 8416) + v5) - v2))) 8417 (imax 0 (((I 8417) - v5) - v2))) 8415 ((I 8415) + 1)) 8416 0) 8417 0) (fu (fu (fu A 92 X1) 93 X5) 94 X7) L F E)) rfl).trans ?_
          rfl
    · refine ite_bd.trans ?_
      refine ite_congr rfl (fun _ => ?_) (fun _ => ?_)
      · refine bind_as.trans ?_
        refine bind_cg fun X8 hX8 => ?_
        refine ite_bd.trans ?_
        refine ite_congr rfl (fun _ => ?_) (fun _ => ?_)
        · refine bind_as.trans ?_
          refine bind_cg fun X9 hX9 => ?_
          refine ite_bd.trans ?_
          refine ite_congr rfl (fun _ => ?_) (fun _ => ?_)
          · refine bind_as.trans ?_
            refine bind_cg fun X10 hX10 => ?_
            show mm_run G0 144 165 [some (.ref 84), some (.int v1), some (.int v2), some (.int v3), some (.int v4), some (.int v5), some (.int v6)] [.int 1] (HP (fu (fu (fu I 8416 (imax 0 (((I 8416) + v5) - v2))) 8417 (imax 0 (((I 8417) - v5) - v2))) 8415 ((I 8415) + 1)) (fu (fu (fu A 92 X8) 93 X9) 94 X10) L F E) = _
            refine (sg_go ht_X8_goesJoint (k := 3) (pc' := 173) (L' := [some (.ref 84), some (.int v1), some (.int v2), some (.int v3), some (.int v4), some (.int v5), some (.int v6)]) (st' := [.int 0, .ref 84]) (h' := (HP (fu (fu (fu I 8416 (imax 0 (((I 8416) + v5) - v2))) 8417 (imax 0 (((I 8417) - v5) - v2))) 8415 ((I 8415) + 1)) (fu (fu (fu A 92 X8) 93 X9) 94 X10) L F E)) rfl).trans ?_
            refine (sg_putI (h' := (HP (fu (fu (fu (fu I 8416 (imax 0 (((I 8416) + v5) - v2))) 8417 (imax 0 (((I 8417) - v5) - v2))) 8415 ((I 8415) + 1)) 8416 0) (fu (fu (fu A 92 X8) 93 X9) 94 X10) L F E)) ht_X8_goesJoint rfl hp_o_84 (Nat.le_of_ble_eq_true rfl) hp_p_8416).trans ?_
            refine (sg_go ht_X8_goesJoint (k := 2) (pc' := 178) (L' := [some (.ref 84), some (.int v1), some (.int v2), some (.int v3), some (.int v4), some (.int v5), some (.int v6)]) (st' := [.int 0, .ref 84]) (h' := (HP (fu (fu (fu (fu I 8416 (imax 0 (((I 8416) + v5) - v2))) 8417 (imax 0 (((I 8417) - v5) - v2))) 8415 ((I 8415) + 1)) 8416 0) (fu (fu (fu A 92 X8) 93 X9) 94 X10) L F E)) rfl).trans ?_
            refine (sg_putI (h' := (HP (fu (fu (fu (fu (fu I 8416 (imax 0 (((I 8416) + v5) - v2))) 8417 (imax 0 (((I 8417) - v5) - v2))) 8415 ((I 8415) + 1)) 8416 0) 8417 0) (fu (fu (fu A 92 X8) 93 X9) 94 X10) L F E)) ht_X8_goesJoint rfl hp_o_84 (Nat.le_of_ble_eq_true rfl) hp_p_8417).trans ?_
            refine (sg_go ht_X8_goesJoint (k := 2) (pc' := 105) (L' := [some (.ref 84), some (.int v1), some (.int v2), some (.int v3), some (.int (v4 + 1)), some (.int v5), some (.int v6)]) (st' := []) (h' := (HP (fu (fu (fu (fu (fu I 8416 (imax 0 (((I 8416) + v5) - v2))) 8417 (imax 0 (((I 8417) - v5) - v2))) 8415 ((I 8415) + 1)) 8416 0) 8417 0) (fu (fu (fu A 92 X8) 93 X9) 94 X10) L F E)) rfl).trans ?_
            rfl
          · refine bind_as.trans ?_
            refine bind_cg fun X11 hX11 => ?_
            show mm_run G0 144 165 [some (.ref 84), some (.int v1), some (.int v2), some (.int v3), some (.int v4), some (.int v5), some (.int v6)] [.int 1] (HP (fu (fu (fu I 8416 (imax 0 (((I 8416) + v5) - v2))) 8417 (imax 0 (((I 8417) - v5) - v2))) 8415 ((I 8415) + 1)) (fu (fu (fu A 92 X8) 93 X9) 94 X11) L F E) = _
            refine (sg_go ht_X8_goesJoint (k := 3) (pc' := 173) (L' := [some (.ref 84), some (.int v1), some (.int v2), some (.int v3), some (.int v4), some (.int v5), some (.int v6)]) (st' := [.int 0, .ref 84]) (h' := (HP (fu (fu (fu I 8416 (imax 0 (((I 8416) + v5) - v2))) 8417 (imax 0 (((I 8417) - v5) - v2))) 8415 ((I 8415) + 1)) (fu (fu (fu A 92 X8) 93 X9) 94 X11) L F E)) rfl).trans ?_
            refine (sg_putI (h' := (HP (fu (fu (fu (fu I 8416 (imax 0 (((I 8416) + v5) - v2))) 8417 (imax 0 (((I 8417) - v5) - v2))) 8415 ((I 8415) + 1)) 8416 0) (fu (fu (fu A 92 X8) 93 X9) 94 X11) L F E)) ht_X8_goesJoint rfl hp_o_84 (Nat.le_of_ble_eq_true rfl) hp_p_8416).trans ?_
            refine (sg_go ht_X8_goesJoint (k := 2) (pc' := 178) (L' := [some (.ref 84), some (.int v1), some (.int v2), some (.int v3), some (.int v4), some (.int v5), some (.int v6)]) (st' := [.int 0, .ref 84]) (h' := (HP (fu (fu (fu (fu I 8416 (imax 0 (((I 8416) + v5) - v2))) 8417 (imax 0 (((I 8417) - v5) - v2))) 8415 ((I 8415) + 1)) 8416 0) (fu (fu (fu A 92 X8) 93 X9) 94 X11) L F E)) rfl).trans ?_
            refine (sg_putI (h' := (HP (fu (fu (fu (fu (fu I 8416 (imax 0 (((I 8416) + v5) - v2))) 8417 (imax 0 (((I 8417) - v5) - v2))) 8415 ((I 8415) + 1)) 8416 0) 8417 0) (fu (fu (fu A 92 X8) 93 X9) 94 X11) L F E)) ht_X8_goesJoint rfl hp_o_84 (Nat.le_of_ble_eq_true rfl) hp_p_8417).trans ?_
            refine (sg_go ht_X8_goesJoint (k := 2) (pc' := 105) (L' := [some (.ref 84), some (.int v1), some (.int v2), some (.int v3), some (.int (v4 + 1)), some (.int v5), some (.int v6)]) (st' := []) (h' := (HP (fu (fu (fu (fu (fu I 8416 (imax 0 (((I 8416) + v5) - v2))) 8417 (imax 0 (((I 8417) - v5) - v2))) 8415 ((I 8415) + 1)) 8416 0) 8417 0) (fu (fu (fu A 92 X8) 93 X9) 94 X11) L F E)) rfl).trans ?_
            rfl
        · refine bind_as.trans ?_
          refine bind_cg fun X12 hX12 => ?_
          refine ite_bd.trans ?_
          refine ite_congr rfl (fun _ => ?_) (fun _ => ?_)
          · refine bind_as.trans ?_
            refine bind_cg fun X13 hX13 => ?_
            show mm_run G0 144 165 [some (.ref 84), some (.int v1), some (.int v2), some (.int v3), some (.int v4), some (.int v5), some (.int v6)] [.int 1] (HP (fu (fu (fu I 8416 (imax 0 (((I 8416) + v5) - v2))) 8417 (imax 0 (((I 8417) - v5) - v2))) 8415 ((I 8415) + 1)) (fu (fu (fu A 92 X8) 93 X12) 94 X13) L F E) = _
            refine (sg_go ht_X8_goesJoint (k := 3) (pc' := 173) (L' := [some (.ref 84), some (.int v1), some (.int v2), some (.int v3), some (.int v4), some (.int v5), some (.int v6)]) (st' := [.int 0, .ref 84]) (h' := (HP (fu (fu (fu I 8416 (imax 0 (((I 8416) + v5) - v2))) 8417 (imax 0 (((I 8417) - v5) - v2))) 8415 ((I 8415) + 1)) (fu (fu (fu A 92 X8) 93 X12) 94 X13) L F E)) rfl).trans ?_
            refine (sg_putI (h' := (HP (fu (fu (fu (fu I 8416 (imax 0 (((I 8416) + v5) - v2))) 8417 (imax 0 (((I 8417) - v5) - v2))) 8415 ((I 8415) + 1)) 8416 0) (fu (fu (fu A 92 X8) 93 X12) 94 X13) L F E)) ht_X8_goesJoint rfl hp_o_84 (Nat.le_of_ble_eq_true rfl) hp_p_8416).trans ?_
            refine (sg_go ht_X8_goesJoint (k := 2) (pc' := 178) (L' := [some (.ref 84), some (.int v1), some (.int v2), some (.int v3), some (.int v4), some (.int v5), some (.int v6)]) (st' := [.int 0, .ref 84]) (h' := (HP (fu (fu (fu (fu I 8416 (imax 0 (((I 8416) + v5) - v2))) 8417 (imax 0 (((I 8417) - v5) - v2))) 8415 ((I 8415) + 1)) 8416 0) (fu (fu (fu A 92 X8) 93 X12) 94 X13) L F E)) rfl).trans ?_
            refine (sg_putI (h' := (HP (fu (fu (fu (fu (fu I 8416 (imax 0 (((I 8416) + v5) - v2))) 8417 (imax 0 (((I 8417) - v5) - v2))) 8415 ((I 8415) + 1)) 8416 0) 8417 0) (fu (fu (fu A 92 X8) 93 X12) 94 X13) L F E)) ht_X8_goesJoint rfl hp_o_84 (Nat.le_of_ble_eq_true rfl) hp_p_8417).trans ?_
            refine (sg_go ht_X8_goesJoint (k := 2) (pc' := 105) (L' := [some (.ref 84), some (.int v1), some (.int v2), some (.int v3), some (.int (v4 + 1)), some (.int v5), some (.int v6)]) (st' := []) (h' := (HP (fu (fu (fu (fu (fu I 8416 (imax 0 (((I 8416) + v5) - v2))) 8417 (imax 0 (((I 8417) - v5) - v2))) 8415 ((I 8415) + 1)) 8416 0) 8417 0) (fu (fu (fu A 92 X8) 93 X12) 94 X13) L F E)) rfl).trans ?_
            rfl
          · refine bind_as.trans ?_
            refine bind_cg fun X14 hX14 => ?_
            show mm_run G0 144 165 [some (.ref 84), some (.int v1), some (.int v2), some (.int v3), some (.int v4), some (.int v5), some (.int v6)] [.int 1] (HP (fu (fu (fu I 8416 (imax 0 (((I 8416) + v5) - v2))) 8417 (imax 0 (((I 8417) - v5) - v2))) 8415 ((I 8415) + 1)) (fu (fu (fu A 92 X8) 93 X12) 94 X14) L F E) = _
            refine (sg_go ht_X8_goesJoint (k := 3) (pc' := 173) (L' := [some (.ref 84), some (.int v1), some (.int v2), some (.int v3), some (.int v4), some (.int v5), some (.int v6)]) (st' := [.int 0, .ref 84]) (h' := (HP (fu (fu (fu I 8416 (imax 0 (((I 8416) + v5) - v2))) 8417 (imax 0 (((I 8417) - v5) - v2))) 8415 ((I 8415) + 1)) (fu (fu (fu A 92 X8) 93 X12) 94 X14) L F E)) rfl).trans ?_
            refine (sg_putI (h' := (HP (fu (fu (fu (fu I 8416 (imax 0 (((I 8416) + v5) - v2))) 8417 (imax 0 (((I 8417) - v5) - v2))) 8415 ((I 8415) + 1)) 8416 0) (fu (fu (fu A 92 X8) 93 X12) 94 X14) L F E)) ht_X8_goesJoint rfl hp_o_84 (Nat.le_of_ble_eq_true rfl) hp_p_8416).trans ?_
            refine (sg_go ht_X8_goesJoint (k := 2) (pc' := 178) (L' := [some (.ref 84), some (.int v1), some (.int v2), some (.int v3), some (.int v4), some (.int v5), some (.int v6)]) (st' := [.int 0, .ref 84]) (h' := (HP (fu (fu (fu (fu I 8416 (imax 0 (((I 8416) + v5) - v2))) 8417 (imax 0 (((I 8417) - v5) - v2))) 8415 ((I 8415) + 1)) 8416 0) (fu (fu (fu A 92 X8) 93 X12) 94 X14) L F E)) rfl).trans ?_
            refine (sg_putI (h' := (HP (fu (fu (fu (fu (fu I 8416 (imax 0 (((I 8416) + v5) - v2))) 8417 (imax 0 (((I 8417) - v5) - v2))) 8415 ((I 8415) + 1)) 8416 0) 8417 0) (fu (fu (fu A 92 X8) 93 X12) 94 X14) L F E)) ht_X8_goesJoint rfl hp_o_84 (Nat.le_of_ble_eq_true rfl) hp_p_8417).trans ?_
            refine (sg_go ht_X8_goesJoint (k := 2) (pc' := 105) (L' := [some (.ref 84), some (.int v1), some (.int v2), some (.int v3), some (.int (v4 + 1)), some (.int v5), some (.int v6)]) (st' := []) (h' := (HP (fu (fu (fu (fu (fu I 8416 (imax 0 (((I 8416) + v5) - v2))) 8417 (imax 0 (((I 8417) - v5) - v2))) 8415 ((I 8415) + 1)) 8416 0) 8417 0) (fu (fu (fu A 92 X8) 93 X12) 94 X14) L F E)) rfl).trans ?_
            rfl
      · show mm_run G0 144 165 [some (.ref 84), some (.int v1), some (.int v2), some (.int v3), some (.int v4), some (.int v5), some (.int v6)] [.int 0] (HP (fu (fu I 8416 (imax 0 (((I 8416) + v5) - v2))) 8417 (imax 0 (((I 8417) - v5) - v2))) A L F E) = _
        refine (sg_go ht_X8_goesJoint (k := 4) (pc' := 105) (L' := [some (.ref 84), some (.int v1), some (.int v2), some (.int v3), some (.int (v4 + 1)), some (.int v5), some (.int v6)]) (st' := []) (h' := (HP (fu (fu I 8416 (imax 0 (((I 8416) + v5) - v2))) 8417 (imax 0 (((I 8417) - v5) - v2))) A L F E)) rfl).trans ?_
        rfl
  · refine (sg_go ht_X8_goesJoint (k := 3) (pc' := 128) (L' := [some (.ref 84), some (.int v1), some (.int v2), some (.int v3), some (.int v4), some (.int v5), some (.int v6)]) (st' := [.int v6, .ref 84, .int v5]) (h' := (HP I A L F E)) rfl).trans ?_
    refine (sg_call ht_X8_goesJoint (mj := 115) (as := [.ref 84, .int v6]) (rest := [.int v5]) rfl rfl ⟨by decide, Nat.le_of_ble_eq_true rfl⟩).trans ?_
    refine (bind_eq (sg_X8_many_0 v6)).trans ?_
    refine bind_as.trans ?_
    refine bind_cg fun x15 hx15 => ?_
    show mm_run G0 144 131 [some (.ref 84), some (.int v1), some (.int v2), some (.int v3), some (.int v4), some (.int v5), some (.int v6)] [.int x15, .int v5] (HP I A L F E) = _
    refine (sg_if ht_X8_goesJoint rfl).trans ?_
    refine ite_congr rfl (fun _ => ?_) (fun _ => ?_)
    · refine (sg_go ht_X8_goesJoint (k := 3) (pc' := 143) (L' := [some (.ref 84), some (.int v1), some (.int v2), some (.int v3), some (.int v4), some (.int v5), some (.int v6)]) (st' := [.int v4, .int v6, .ref 84, .int v5]) (h' := (HP I A L F E)) rfl).trans ?_
      refine (sg_call ht_X8_goesJoint (mj := 126) (as := [.ref 84, .int v6, .int v4]) (rest := [.int v5]) rfl rfl ⟨by decide, Nat.le_of_ble_eq_true rfl⟩).trans ?_
      refine (bind_eq (sp_X8_offAt v6 v4)).trans ?_
      refine bind_as.trans ?_
      refine bind_cg fun x16 hx16 => ?_
      refine bind_as.trans ?_
      refine bind_cg fun x17 hx17 => ?_
      refine bind_as.trans ?_
      refine bind_cg fun x18 hx18 => ?_
      show mm_run G0 144 146 [some (.ref 84), some (.int v1), some (.int v2), some (.int v3), some (.int v4), some (.int v5), some (.int v6)] [.int (ofv x16 (x17 - x18)), .int v5] (HP I A L F E) = _
      refine (sg_go ht_X8_goesJoint (k := 4) (pc' := 117) (L' := [some (.ref 84), some (.int v1), some (.int v2), some (.int v3), some (.int v4), some (.int (v5 + (ofv x16 (x17 - x18)))), some (.int (v6 + 1))]) (st' := []) (h' := (HP I A L F E)) rfl).trans ?_
      rfl
    · refine (sg_go ht_X8_goesJoint (k := 6) (pc' := 117) (L' := [some (.ref 84), some (.int v1), some (.int v2), some (.int v3), some (.int v4), some (.int (v5 + 0)), some (.int (v6 + 1))]) (st' := []) (h' := (HP I A L F E)) rfl).trans ?_
      rfl
set_option maxRecDepth 20000 in
theorem sg_X8_joint_0 {I : Nat → Int32} {A : Nat → List Int32} {L : Nat → List Int64} {F : Nat → Int64} {E : MH} (p1 : Int32) : mm_call G0 145 [.ref 84, .int p1] (HP I A L F E) = (if ¬ p1 < 0 ∧ ¬ 4 < p1 then ((mm_call G0 144 [.ref 84] (HP I A L F E)).bind fun q => mm_run G0 145 15 [some (.ref 84), some (.int p1), none] (q.1.toList ++ []) q.2) else some (some (.int (-1)), (HP I A L F E))) := by
  show mm_run G0 145 0 [some (.ref 84), some (.int p1), none] [] (HP I A L F E) = _
  refine (sg_go ht_X8_joint (k := 3) (pc' := 3) (L' := [some (.ref 84), some (.int p1), none]) (st' := [.int 4, .int 0, .int p1]) (h' := (HP I A L F E)) rfl).trans ?_
  refine (sg_call ht_X8_joint (mj := 113) (as := [.int p1, .int 0, .int 4]) (rest := []) rfl rfl ⟨by decide, Nat.le_of_ble_eq_true rfl⟩).trans ?_
  refine (bind_eq (sp_X8_isIn p1 0 4)).trans ?_
  show mm_run G0 145 6 [some (.ref 84), some (.int p1), none] [.int (bi (decide (¬ p1 < 0 ∧ ¬ 4 < p1)))] (HP I A L F E) = _
  refine (sg_bn ht_X8_joint rfl).trans ?_
  refine ite_congr rfl (fun _ => ?_) (fun _ => ?_)
  · refine (sg_go ht_X8_joint (k := 1) (pc' := 12) (L' := [some (.ref 84), some (.int p1), none]) (st' := [.ref 84]) (h' := (HP I A L F E)) rfl).trans ?_
    refine (sg_call ht_X8_joint (mj := 144) (as := [.ref 84]) (rest := []) rfl rfl ⟨by decide, Nat.le_of_ble_eq_true rfl⟩).trans ?_
    rfl
  · refine (sg_go ht_X8_joint (k := 1) (pc' := 10) (L' := [some (.ref 84), some (.int p1), none]) (st' := [.int (-1)]) (h' := (HP I A L F E)) rfl).trans ?_
    exact sg_ret ht_X8_joint rfl rfl
set_option maxRecDepth 20000 in
theorem sg_X8_joint_15 {I : Nat → Int32} {A : Nat → List Int32} {L : Nat → List Int64} {F : Nat → Int64} {E : MH} (v1 : Int32) (s0 : Int32) : mm_run G0 145 15 [some (.ref 84), some (.int v1), none] [.int s0] (HP I A L F E) = (if v1 = 0 then some (some (.int s0), (HP I A L F E)) else (if v1 = 1 then some (some (.int (I 8415)), (HP I A L F E)) else (if v1 = 2 then (if (I 8415) ≠ 0 then ((ldI (A 92) 0).bind fun x1 => some (some (.int x1), (HP I A L F E))) else some (some (.int (-5)), (HP I A L F E))) else (if v1 = 3 then (if (I 8415) ≠ 0 then ((ldI (A 93) 0).bind fun x2 => some (some (.int x2), (HP I A L F E))) else some (some (.int (-5)), (HP I A L F E))) else (if (I 8415) ≠ 0 then ((ldI (A 94) 0).bind fun x3 => some (some (.int x3), (HP I A L F E))) else some (some (.int (-5)), (HP I A L F E))))))) := by
  refine (sg_go ht_X8_joint (k := 2) (pc' := 17) (L' := [some (.ref 84), some (.int v1), some (.int s0)]) (st' := [.int v1]) (h' := (HP I A L F E)) rfl).trans ?_
  refine (sg_sw ht_X8_joint rfl).trans ?_
  rw [swt_cons (k := 0) (lo' := 1) (by decide) (by decide), run_ite]
  refine ite_congr rfl (fun _ => ?_) (fun _ => ?_)
  · refine (sg_go ht_X8_joint (k := 1) (pc' := 49) (L' := [some (.ref 84), some (.int v1), some (.int s0)]) (st' := [.int s0]) (h' := (HP I A L F E)) rfl).trans ?_
    exact sg_ret ht_X8_joint rfl rfl
  · rw [swt_cons (k := 1) (lo' := 2) (by decide) (by decide), run_ite]
    refine ite_congr rfl (fun _ => ?_) (fun _ => ?_)
    · refine (sg_go ht_X8_joint (k := 2) (pc' := 54) (L' := [some (.ref 84), some (.int v1), some (.int s0)]) (st' := [.int (I 8415)]) (h' := (HP I A L F E)) rfl).trans ?_
      exact sg_ret ht_X8_joint rfl rfl
    · rw [swt_cons (k := 2) (lo' := 3) (by decide) (by decide), run_ite]
      refine ite_congr rfl (fun _ => ?_) (fun _ => ?_)
      · refine (sg_go ht_X8_joint (k := 1) (pc' := 56) (L' := [some (.ref 84), some (.int v1), some (.int s0)]) (st' := [.ref 84]) (h' := (HP I A L F E)) rfl).trans ?_
        refine (sg_call ht_X8_joint (mj := 139) (as := [.ref 84]) (rest := []) rfl rfl ⟨by decide, Nat.le_of_ble_eq_true rfl⟩).trans ?_
        refine (bind_eq (sg_X8_firstAlarm_0 )).trans ?_
        refine ite_bd.trans ?_
        refine ite_congr rfl (fun _ => ?_) (fun _ => ?_)
        · refine bind_as.trans ?_
          refine bind_cg fun x1 hx1 => ?_
          show mm_run G0 145 59 [some (.ref 84), some (.int v1), some (.int s0)] [.int x1] (HP I A L F E) = _
          exact sg_ret ht_X8_joint rfl rfl
        · show mm_run G0 145 59 [some (.ref 84), some (.int v1), some (.int s0)] [.int (-5)] (HP I A L F E) = _
          exact sg_ret ht_X8_joint rfl rfl
      · rw [swt_cons (k := 3) (lo' := 4) (by decide) (by decide), run_ite]
        refine ite_congr rfl (fun _ => ?_) (fun _ => ?_)
        · refine (sg_go ht_X8_joint (k := 2) (pc' := 64) (L' := [some (.ref 84), some (.int v1), some (.int s0)]) (st' := [.int (I 8415)]) (h' := (HP I A L F E)) rfl).trans ?_
          refine (sg_if ht_X8_joint rfl).trans ?_
          refine ite_congr rfl (fun _ => ?_) (fun _ => ?_)
          · refine (sg_go ht_X8_joint (k := 3) (pc' := 77) (L' := [some (.ref 84), some (.int v1), some (.int s0)]) (st' := [.int 0, .ref 93]) (h' := (HP I A L F E)) rfl).trans ?_
            refine (sg_ldI ht_X8_joint rfl hp_o_93).trans ?_
            refine bind_cg fun x2 hx2 => ?_
            exact sg_ret ht_X8_joint rfl rfl
          · refine (sg_go ht_X8_joint (k := 2) (pc' := 78) (L' := [some (.ref 84), some (.int v1), some (.int s0)]) (st' := [.int (-5)]) (h' := (HP I A L F E)) rfl).trans ?_
            exact sg_ret ht_X8_joint rfl rfl
        · rw [swt_nil]
          refine (sg_go ht_X8_joint (k := 2) (pc' := 83) (L' := [some (.ref 84), some (.int v1), some (.int s0)]) (st' := [.int (I 8415)]) (h' := (HP I A L F E)) rfl).trans ?_
          refine (sg_if ht_X8_joint rfl).trans ?_
          refine ite_congr rfl (fun _ => ?_) (fun _ => ?_)
          · refine (sg_go ht_X8_joint (k := 3) (pc' := 96) (L' := [some (.ref 84), some (.int v1), some (.int s0)]) (st' := [.int 0, .ref 94]) (h' := (HP I A L F E)) rfl).trans ?_
            refine (sg_ldI ht_X8_joint rfl hp_o_94).trans ?_
            refine bind_cg fun x3 hx3 => ?_
            exact sg_ret ht_X8_joint rfl rfl
          · refine (sg_go ht_X8_joint (k := 2) (pc' := 97) (L' := [some (.ref 84), some (.int v1), some (.int s0)]) (st' := [.int (-5)]) (h' := (HP I A L F E)) rfl).trans ?_
            exact sg_ret ht_X8_joint rfl rfl
set_option maxRecDepth 20000 in
theorem sg_X8_total_0 {I : Nat → Int32} {A : Nat → List Int32} {L : Nat → List Int64} {F : Nat → Int64} {E : MH} (p1 : Int32) (p2 : Int32) : mm_call G0 146 [.ref 84, .int p1, .int p2] (HP I A L F E) = mm_run G0 146 5 [some (.ref 84), some (.int p1), some (.int p2), some (.long 0), none, some (.int 0)] [] (HP I A L F E) := by
  show mm_run G0 146 0 [some (.ref 84), some (.int p1), some (.int p2), none, none, none] [] (HP I A L F E) = _
  refine (sg_go ht_X8_total (k := 4) (pc' := 5) (L' := [some (.ref 84), some (.int p1), some (.int p2), some (.long 0), none, some (.int 0)]) (st' := []) (h' := (HP I A L F E)) rfl).trans ?_
  rfl
set_option maxRecDepth 20000 in
theorem sg_X8_total_5 {I : Nat → Int32} {A : Nat → List Int32} {L : Nat → List Int64} {F : Nat → Int64} {E : MH} (v1 : Int32) (v2 : Int32) (v3 : Int64) (v5 : Int32) : mm_run G0 146 5 [some (.ref 84), some (.int v1), some (.int v2), some (.long v3), none, some (.int v5)] [] (HP I A L F E) = (if v2 ≤ v5 then some (some (.long v3), (HP I A L F E)) else ((ldI (A 85) (((45 * v1) + 5) + v5)).bind fun x1 => mm_run G0 146 5 [some (.ref 84), some (.int v1), some (.int v2), some (.long (v3 + (x1).toInt64)), none, some (.int (v5 + 1))] [] (HP I A L F E))) := by
  refine (sg_go ht_X8_total (k := 2) (pc' := 8) (L' := [some (.ref 84), some (.int v1), some (.int v2), some (.long v3), none, some (.int v5)]) (st' := [.int v2, .int v5]) (h' := (HP I A L F E)) rfl).trans ?_
  refine (sg_cmp ht_X8_total rfl).trans ?_
  refine ite_congr rfl (fun _ => ?_) (fun _ => ?_)
  · refine (sg_go ht_X8_total (k := 1) (pc' := 29) (L' := [some (.ref 84), some (.int v1), some (.int v2), some (.long v3), none, some (.int v5)]) (st' := [.long v3]) (h' := (HP I A L F E)) rfl).trans ?_
    exact sg_ret ht_X8_total rfl rfl
  · refine (sg_go ht_X8_total (k := 4) (pc' := 16) (L' := [some (.ref 84), some (.int v1), some (.int v2), some (.long v3), none, some (.int v5)]) (st' := [.int v5, .int v1, .ref 84, .long v3]) (h' := (HP I A L F E)) rfl).trans ?_
    refine (sg_call ht_X8_total (mj := 125) (as := [.ref 84, .int v1, .int v5]) (rest := [.long v3]) rfl rfl ⟨by decide, Nat.le_of_ble_eq_true rfl⟩).trans ?_
    refine (bind_eq (sg_X8_valueAt_0 v1 v5)).trans ?_
    refine bind_as.trans ?_
    refine bind_cg fun x1 hx1 => ?_
    show mm_run G0 146 19 [some (.ref 84), some (.int v1), some (.int v2), some (.long v3), none, some (.int v5)] [.int x1, .long v3] (HP I A L F E) = _
    refine (sg_go ht_X8_total (k := 5) (pc' := 5) (L' := [some (.ref 84), some (.int v1), some (.int v2), some (.long (v3 + (x1).toInt64)), none, some (.int (v5 + 1))]) (st' := []) (h' := (HP I A L F E)) rfl).trans ?_
    rfl
set_option maxRecDepth 20000 in
theorem sg_X8_gainAbove_0 {I : Nat → Int32} {A : Nat → List Int32} {L : Nat → List Int64} {F : Nat → Int64} {E : MH} (p1 : Int32) (p2 : Int32) : mm_call G0 147 [.ref 84, .int p1, .int p2] (HP I A L F E) = ((ldI (A 85) ((45 * p1) + 4)).bind fun x1 => ((mm_call G0 146 [.ref 84, .int p1, .int p2] (HP I A L F E)).bind fun q => mm_run G0 147 14 [some (.ref 84), some (.int p1), some (.int p2), some (.long (x1).toInt64), none, none, none] (q.1.toList ++ [.long (x1).toInt64]) q.2)) := by
  show mm_run G0 147 0 [some (.ref 84), some (.int p1), some (.int p2), none, none, none, none] [] (HP I A L F E) = _
  refine (sg_go ht_X8_gainAbove (k := 2) (pc' := 2) (L' := [some (.ref 84), some (.int p1), some (.int p2), none, none, none, none]) (st' := [.int p1, .ref 84]) (h' := (HP I A L F E)) rfl).trans ?_
  refine (sg_call ht_X8_gainAbove (mj := 115) (as := [.ref 84, .int p1]) (rest := []) rfl rfl ⟨by decide, Nat.le_of_ble_eq_true rfl⟩).trans ?_
  refine (bind_eq (sg_X8_many_0 p1)).trans ?_
  refine bind_as.trans ?_
  refine bind_cg fun x1 hx1 => ?_
  show mm_run G0 147 5 [some (.ref 84), some (.int p1), some (.int p2), none, none, none, none] [.int x1] (HP I A L F E) = _
  refine (sg_go ht_X8_gainAbove (k := 6) (pc' := 11) (L' := [some (.ref 84), some (.int p1), some (.int p2), some (.long (x1).toInt64), none, none, none]) (st' := [.int p2, .int p1, .ref 84, .long (x1).toInt64]) (h' := (HP I A L F E)) rfl).trans ?_
  refine (sg_call ht_X8_gainAbove (mj := 146) (as := [.ref 84, .int p1, .int p2]) (rest := [.long (x1).toInt64]) rfl rfl ⟨by decide, Nat.le_of_ble_eq_true rfl⟩).trans ?_
  rfl
set_option maxRecDepth 20000 in
theorem sg_X8_gainAbove_14 {I : Nat → Int32} {A : Nat → List Int32} {L : Nat → List Int64} {F : Nat → Int64} {E : MH} (v1 : Int32) (v2 : Int32) (v3 : Int64) (s0 : Int64) (s1 : Int64) : mm_run G0 147 14 [some (.ref 84), some (.int v1), some (.int v2), some (.long v3), none, none, none] [.long s1, .long s0] (HP I A L F E) = ((ldI (A 85) ((45 * v1) + 4)).bind fun x1 => ((mm_call G0 146 [.ref 84, .int v1, .int x1] (HP I A L F E)).bind fun q => mm_run G0 147 27 [some (.ref 84), some (.int v1), some (.int v2), some (.long v3), none, none, none] (q.1.toList ++ [.long (v2).toInt64, .long (s0 * s1)]) q.2)) := by
  refine (sg_go ht_X8_gainAbove (k := 7) (pc' := 21) (L' := [some (.ref 84), some (.int v1), some (.int v2), some (.long v3), none, none, none]) (st' := [.int v1, .ref 84, .int v1, .ref 84, .long (v2).toInt64, .long (s0 * s1)]) (h' := (HP I A L F E)) rfl).trans ?_
  refine (sg_call ht_X8_gainAbove (mj := 115) (as := [.ref 84, .int v1]) (rest := [.int v1, .ref 84, .long (v2).toInt64, .long (s0 * s1)]) rfl rfl ⟨by decide, Nat.le_of_ble_eq_true rfl⟩).trans ?_
  refine (bind_eq (sg_X8_many_0 v1)).trans ?_
  refine bind_as.trans ?_
  refine bind_cg fun x1 hx1 => ?_
  show mm_run G0 147 24 [some (.ref 84), some (.int v1), some (.int v2), some (.long v3), none, none, none] [.int x1, .int v1, .ref 84, .long (v2).toInt64, .long (s0 * s1)] (HP I A L F E) = _
  refine (sg_call ht_X8_gainAbove (mj := 146) (as := [.ref 84, .int v1, .int x1]) (rest := [.long (v2).toInt64, .long (s0 * s1)]) rfl rfl ⟨by decide, Nat.le_of_ble_eq_true rfl⟩).trans ?_
  rfl
set_option maxRecDepth 20000 in
theorem sg_X8_gainAbove_27 {I : Nat → Int32} {A : Nat → List Int32} {L : Nat → List Int64} {F : Nat → Int64} {E : MH} (v1 : Int32) (v2 : Int32) (v3 : Int64) (s0 : Int64) (s1 : Int64) (s2 : Int64) : mm_run G0 147 27 [some (.ref 84), some (.int v1), some (.int v2), some (.long v3), none, none, none] [.long s2, .long s1, .long s0] (HP I A L F E) = some (some (.long ((s0 - (s1 * s2)) * (s0 - (s1 * s2)))), (HP I A L F E)) := by
  refine (sg_go ht_X8_gainAbove (k := 6) (pc' := 36) (L' := [some (.ref 84), some (.int v1), some (.int v2), some (.long v3), none, some (.long (s0 - (s1 * s2))), none]) (st' := [.long ((s0 - (s1 * s2)) * (s0 - (s1 * s2)))]) (h' := (HP I A L F E)) rfl).trans ?_
  exact sg_ret ht_X8_gainAbove rfl rfl
set_option maxRecDepth 20000 in
theorem sg_X8_gainBelow_0 {I : Nat → Int32} {A : Nat → List Int32} {L : Nat → List Int64} {F : Nat → Int64} {E : MH} (p1 : Int32) (p2 : Int32) : mm_call G0 148 [.ref 84, .int p1, .int p2] (HP I A L F E) = ((ldI (A 85) ((45 * p1) + 4)).bind fun x1 => some (some (.long ((p2).toInt64 * ((x1 - p2)).toInt64)), (HP I A L F E))) := by
  show mm_run G0 148 0 [some (.ref 84), some (.int p1), some (.int p2)] [] (HP I A L F E) = _
  refine (sg_go ht_X8_gainBelow (k := 4) (pc' := 4) (L' := [some (.ref 84), some (.int p1), some (.int p2)]) (st' := [.int p1, .ref 84, .long (p2).toInt64]) (h' := (HP I A L F E)) rfl).trans ?_
  refine (sg_call ht_X8_gainBelow (mj := 115) (as := [.ref 84, .int p1]) (rest := [.long (p2).toInt64]) rfl rfl ⟨by decide, Nat.le_of_ble_eq_true rfl⟩).trans ?_
  refine (bind_eq (sg_X8_many_0 p1)).trans ?_
  refine bind_as.trans ?_
  refine bind_cg fun x1 hx1 => ?_
  show mm_run G0 148 7 [some (.ref 84), some (.int p1), some (.int p2)] [.int x1, .long (p2).toInt64] (HP I A L F E) = _
  refine (sg_go ht_X8_gainBelow (k := 4) (pc' := 11) (L' := [some (.ref 84), some (.int p1), some (.int p2)]) (st' := [.long ((p2).toInt64 * ((x1 - p2)).toInt64)]) (h' := (HP I A L F E)) rfl).trans ?_
  exact sg_ret ht_X8_gainBelow rfl rfl
set_option maxRecDepth 20000 in
theorem sg_X8_changeOf_0 {I : Nat → Int32} {A : Nat → List Int32} {L : Nat → List Int64} {F : Nat → Int64} {E : MH} (p1 : Int32) : mm_call G0 149 [.ref 84, .int p1] (HP I A L F E) = mm_run G0 149 5 [some (.ref 84), some (.int p1), some (.int (-5)), some (.int 1)] [] (HP I A L F E) := by
  show mm_run G0 149 0 [some (.ref 84), some (.int p1), none, none] [] (HP I A L F E) = _
  refine (sg_go ht_X8_changeOf (k := 4) (pc' := 5) (L' := [some (.ref 84), some (.int p1), some (.int (-5)), some (.int 1)]) (st' := []) (h' := (HP I A L F E)) rfl).trans ?_
  rfl
set_option maxRecDepth 20000 in
theorem sg_X8_changeOf_5 {I : Nat → Int32} {A : Nat → List Int32} {L : Nat → List Int64} {F : Nat → Int64} {E : MH} (v1 : Int32) (v2 : Int32) (v3 : Int32) : mm_run G0 149 5 [some (.ref 84), some (.int v1), some (.int v2), some (.int v3)] [] (HP I A L F E) = ((ldI (A 85) ((45 * v1) + 4)).bind fun x1 => (if x1 ≤ v3 then some (some (.int v2), (HP I A L F E)) else (if v2 < 0 then mm_run G0 149 5 [some (.ref 84), some (.int v1), some (.int v3), some (.int (v3 + 1))] [] (HP I A L F E) else ((mm_call G0 147 [.ref 84, .int v1, .int v3] (HP I A L F E)).bind fun q => mm_run G0 149 24 [some (.ref 84), some (.int v1), some (.int v2), some (.int v3)] (q.1.toList ++ []) q.2)))) := by
  refine (sg_go ht_X8_changeOf (k := 3) (pc' := 8) (L' := [some (.ref 84), some (.int v1), some (.int v2), some (.int v3)]) (st' := [.int v1, .ref 84, .int v3]) (h' := (HP I A L F E)) rfl).trans ?_
  refine (sg_call ht_X8_changeOf (mj := 115) (as := [.ref 84, .int v1]) (rest := [.int v3]) rfl rfl ⟨by decide, Nat.le_of_ble_eq_true rfl⟩).trans ?_
  refine (bind_eq (sg_X8_many_0 v1)).trans ?_
  refine bind_as.trans ?_
  refine bind_cg fun x1 hx1 => ?_
  show mm_run G0 149 11 [some (.ref 84), some (.int v1), some (.int v2), some (.int v3)] [.int x1, .int v3] (HP I A L F E) = _
  refine (sg_cmp ht_X8_changeOf rfl).trans ?_
  refine ite_congr rfl (fun _ => ?_) (fun _ => ?_)
  · refine (sg_go ht_X8_changeOf (k := 1) (pc' := 57) (L' := [some (.ref 84), some (.int v1), some (.int v2), some (.int v3)]) (st' := [.int v2]) (h' := (HP I A L F E)) rfl).trans ?_
    exact sg_ret ht_X8_changeOf rfl rfl
  · refine (sg_go ht_X8_changeOf (k := 1) (pc' := 15) (L' := [some (.ref 84), some (.int v1), some (.int v2), some (.int v3)]) (st' := [.int v2]) (h' := (HP I A L F E)) rfl).trans ?_
    refine (sg_if ht_X8_changeOf rfl).trans ?_
    refine ite_congr rfl (fun _ => ?_) (fun _ => ?_)
    · refine (sg_go ht_X8_changeOf (k := 4) (pc' := 5) (L' := [some (.ref 84), some (.int v1), some (.int v3), some (.int (v3 + 1))]) (st' := []) (h' := (HP I A L F E)) rfl).trans ?_
      rfl
    · refine (sg_go ht_X8_changeOf (k := 3) (pc' := 21) (L' := [some (.ref 84), some (.int v1), some (.int v2), some (.int v3)]) (st' := [.int v3, .int v1, .ref 84]) (h' := (HP I A L F E)) rfl).trans ?_
      refine (sg_call ht_X8_changeOf (mj := 147) (as := [.ref 84, .int v1, .int v3]) (rest := []) rfl rfl ⟨by decide, Nat.le_of_ble_eq_true rfl⟩).trans ?_
      rfl
set_option maxRecDepth 20000 in
theorem sg_X8_changeOf_24 {I : Nat → Int32} {A : Nat → List Int32} {L : Nat → List Int64} {F : Nat → Int64} {E : MH} (v1 : Int32) (v2 : Int32) (v3 : Int32) (s0 : Int64) : mm_run G0 149 24 [some (.ref 84), some (.int v1), some (.int v2), some (.int v3)] [.long s0] (HP I A L F E) = ((ldI (A 85) ((45 * v1) + 4)).bind fun x1 => ((mm_call G0 147 [.ref 84, .int v1, .int v2] (HP I A L F E)).bind fun q => mm_run G0 149 37 [some (.ref 84), some (.int v1), some (.int v2), some (.int v3)] (q.1.toList ++ [.long (s0 * ((v2).toInt64 * ((x1 - v2)).toInt64))]) q.2)) := by
  refine (sg_go ht_X8_changeOf (k := 3) (pc' := 27) (L' := [some (.ref 84), some (.int v1), some (.int v2), some (.int v3)]) (st' := [.int v2, .int v1, .ref 84, .long s0]) (h' := (HP I A L F E)) rfl).trans ?_
  refine (sg_call ht_X8_changeOf (mj := 148) (as := [.ref 84, .int v1, .int v2]) (rest := [.long s0]) rfl rfl ⟨by decide, Nat.le_of_ble_eq_true rfl⟩).trans ?_
  refine (bind_eq (sg_X8_gainBelow_0 v1 v2)).trans ?_
  refine bind_as.trans ?_
  refine bind_cg fun x1 hx1 => ?_
  show mm_run G0 149 30 [some (.ref 84), some (.int v1), some (.int v2), some (.int v3)] [.long ((v2).toInt64 * ((x1 - v2)).toInt64), .long s0] (HP I A L F E) = _
  refine (sg_go ht_X8_changeOf (k := 4) (pc' := 34) (L' := [some (.ref 84), some (.int v1), some (.int v2), some (.int v3)]) (st' := [.int v2, .int v1, .ref 84, .long (s0 * ((v2).toInt64 * ((x1 - v2)).toInt64))]) (h' := (HP I A L F E)) rfl).trans ?_
  refine (sg_call ht_X8_changeOf (mj := 147) (as := [.ref 84, .int v1, .int v2]) (rest := [.long (s0 * ((v2).toInt64 * ((x1 - v2)).toInt64))]) rfl rfl ⟨by decide, Nat.le_of_ble_eq_true rfl⟩).trans ?_
  rfl
set_option maxRecDepth 20000 in
theorem sg_X8_changeOf_37 {I : Nat → Int32} {A : Nat → List Int32} {L : Nat → List Int64} {F : Nat → Int64} {E : MH} (v1 : Int32) (v2 : Int32) (v3 : Int32) (s0 : Int64) (s1 : Int64) : mm_run G0 149 37 [some (.ref 84), some (.int v1), some (.int v2), some (.int v3)] [.long s1, .long s0] (HP I A L F E) = ((ldI (A 85) ((45 * v1) + 4)).bind fun x1 => (if (lg_cmp s0 (s1 * ((v3).toInt64 * ((x1 - v3)).toInt64))) ≤ 0 then mm_run G0 149 5 [some (.ref 84), some (.int v1), some (.int v2), some (.int (v3 + 1))] [] (HP I A L F E) else mm_run G0 149 5 [some (.ref 84), some (.int v1), some (.int v3), some (.int (v3 + 1))] [] (HP I A L F E))) := by
  refine (sg_go ht_X8_changeOf (k := 3) (pc' := 40) (L' := [some (.ref 84), some (.int v1), some (.int v2), some (.int v3)]) (st' := [.int v3, .int v1, .ref 84, .long s1, .long s0]) (h' := (HP I A L F E)) rfl).trans ?_
  refine (sg_call ht_X8_changeOf (mj := 148) (as := [.ref 84, .int v1, .int v3]) (rest := [.long s1, .long s0]) rfl rfl ⟨by decide, Nat.le_of_ble_eq_true rfl⟩).trans ?_
  refine (bind_eq (sg_X8_gainBelow_0 v1 v3)).trans ?_
  refine bind_as.trans ?_
  refine bind_cg fun x1 hx1 => ?_
  show mm_run G0 149 43 [some (.ref 84), some (.int v1), some (.int v2), some (.int v3)] [.long ((v3).toInt64 * ((x1 - v3)).toInt64), .long s1, .long s0] (HP I A L F E) = _
  refine (sg_go ht_X8_changeOf (k := 2) (pc' := 45) (L' := [some (.ref 84), some (.int v1), some (.int v2), some (.int v3)]) (st' := [.int (lg_cmp s0 (s1 * ((v3).toInt64 * ((x1 - v3)).toInt64)))]) (h' := (HP I A L F E)) rfl).trans ?_
  refine (sg_if ht_X8_changeOf rfl).trans ?_
  refine ite_congr rfl (fun _ => ?_) (fun _ => ?_)
  · refine (sg_go ht_X8_changeOf (k := 2) (pc' := 5) (L' := [some (.ref 84), some (.int v1), some (.int v2), some (.int (v3 + 1))]) (st' := []) (h' := (HP I A L F E)) rfl).trans ?_
    rfl
  · refine (sg_go ht_X8_changeOf (k := 4) (pc' := 5) (L' := [some (.ref 84), some (.int v1), some (.int v3), some (.int (v3 + 1))]) (st' := []) (h' := (HP I A L F E)) rfl).trans ?_
    rfl
set_option maxRecDepth 20000 in
theorem sg_X8_change_0 {I : Nat → Int32} {A : Nat → List Int32} {L : Nat → List Int64} {F : Nat → Int64} {E : MH} (p1 : Int32) : mm_call G0 150 [.ref 84, .int p1] (HP I A L F E) = (if ¬ p1 < 0 ∧ ¬ 3 < p1 then ((mm_call G0 149 [.ref 84, .int p1] (HP I A L F E)).bind fun q => mm_run G0 150 12 [some (.ref 84), some (.int p1)] (q.1.toList ++ []) q.2) else some (some (.int (-1)), (HP I A L F E))) := by
  show mm_run G0 150 0 [some (.ref 84), some (.int p1)] [] (HP I A L F E) = _
  refine (sg_go ht_X8_change (k := 1) (pc' := 1) (L' := [some (.ref 84), some (.int p1)]) (st' := [.int p1]) (h' := (HP I A L F E)) rfl).trans ?_
  refine (sg_call ht_X8_change (mj := 114) (as := [.int p1]) (rest := []) rfl rfl ⟨by decide, Nat.le_of_ble_eq_true rfl⟩).trans ?_
  refine (bind_eq (sp_X8_isStream p1)).trans ?_
  show mm_run G0 150 4 [some (.ref 84), some (.int p1)] [.int (bi (decide (¬ p1 < 0 ∧ ¬ 3 < p1)))] (HP I A L F E) = _
  refine (sg_be ht_X8_change rfl).trans ?_
  refine ite_congr rfl (fun _ => ?_) (fun _ => ?_)
  · refine (sg_go ht_X8_change (k := 2) (pc' := 9) (L' := [some (.ref 84), some (.int p1)]) (st' := [.int p1, .ref 84]) (h' := (HP I A L F E)) rfl).trans ?_
    refine (sg_call ht_X8_change (mj := 149) (as := [.ref 84, .int p1]) (rest := []) rfl rfl ⟨by decide, Nat.le_of_ble_eq_true rfl⟩).trans ?_
    rfl
  · refine (sg_go ht_X8_change (k := 1) (pc' := 16) (L' := [some (.ref 84), some (.int p1)]) (st' := [.int (-1)]) (h' := (HP I A L F E)) rfl).trans ?_
    exact sg_ret ht_X8_change rfl rfl
set_option maxRecDepth 20000 in
theorem sg_X8_change_12 {I : Nat → Int32} {A : Nat → List Int32} {L : Nat → List Int64} {F : Nat → Int64} {E : MH} (v1 : Int32) (s0 : Int32) : mm_run G0 150 12 [some (.ref 84), some (.int v1)] [.int s0] (HP I A L F E) = some (some (.int s0), (HP I A L F E)) := by
  refine (sg_go ht_X8_change (k := 1) (pc' := 16) (L' := [some (.ref 84), some (.int v1)]) (st' := [.int s0]) (h' := (HP I A L F E)) rfl).trans ?_
  exact sg_ret ht_X8_change rfl rfl
set_option maxRecDepth 20000 in
theorem sg_X8_gain_0 {I : Nat → Int32} {A : Nat → List Int32} {L : Nat → List Int64} {F : Nat → Int64} {E : MH} (p1 : Int32) (p2 : Int32) (p3 : Int32) : mm_call G0 153 [.ref 84, .int p1, .int p2, .int p3] (HP I A L F E) = (if ¬ p1 < 0 ∧ ¬ 3 < p1 then ((ldI (A 85) ((45 * p1) + 4)).bind fun x1 => (if ¬ p2 < 1 ∧ ¬ (x1 - 1) < p2 then (if ¬ p3 < 0 ∧ ¬ 1 < p3 then ((mm_call G0 147 [.ref 84, .int p1, .int p2] (HP I A L F E)).bind fun q => mm_run G0 153 41 [some (.ref 84), some (.int p1), some (.int p2), some (.int p3)] (q.1.toList ++ []) q.2) else some (some (.long (-9223372036854775808)), (HP I A L F E))) else some (some (.long (-9223372036854775808)), (HP I A L F E)))) else some (some (.long (-9223372036854775808)), (HP I A L F E))) := by
  show mm_run G0 153 0 [some (.ref 84), some (.int p1), some (.int p2), some (.int p3)] [] (HP I A L F E) = _
  refine (sg_go ht_X8_gain (k := 1) (pc' := 1) (L' := [some (.ref 84), some (.int p1), some (.int p2), some (.int p3)]) (st' := [.int p1]) (h' := (HP I A L F E)) rfl).trans ?_
  refine (sg_call ht_X8_gain (mj := 114) (as := [.int p1]) (rest := []) rfl rfl ⟨by decide, Nat.le_of_ble_eq_true rfl⟩).trans ?_
  refine (bind_eq (sp_X8_isStream p1)).trans ?_
  show mm_run G0 153 4 [some (.ref 84), some (.int p1), some (.int p2), some (.int p3)] [.int (bi (decide (¬ p1 < 0 ∧ ¬ 3 < p1)))] (HP I A L F E) = _
  refine (sg_be ht_X8_gain rfl).trans ?_
  refine ite_congr rfl (fun _ => ?_) (fun _ => ?_)
  · refine (sg_go ht_X8_gain (k := 4) (pc' := 11) (L' := [some (.ref 84), some (.int p1), some (.int p2), some (.int p3)]) (st' := [.int p1, .ref 84, .int 1, .int p2]) (h' := (HP I A L F E)) rfl).trans ?_
    refine (sg_call ht_X8_gain (mj := 115) (as := [.ref 84, .int p1]) (rest := [.int 1, .int p2]) rfl rfl ⟨by decide, Nat.le_of_ble_eq_true rfl⟩).trans ?_
    refine (bind_eq (sg_X8_many_0 p1)).trans ?_
    refine bind_as.trans ?_
    refine bind_cg fun x1 hx1 => ?_
    show mm_run G0 153 14 [some (.ref 84), some (.int p1), some (.int p2), some (.int p3)] [.int x1, .int 1, .int p2] (HP I A L F E) = _
    refine (sg_go ht_X8_gain (k := 2) (pc' := 16) (L' := [some (.ref 84), some (.int p1), some (.int p2), some (.int p3)]) (st' := [.int (x1 - 1), .int 1, .int p2]) (h' := (HP I A L F E)) rfl).trans ?_
    refine (sg_call ht_X8_gain (mj := 113) (as := [.int p2, .int 1, .int (x1 - 1)]) (rest := []) rfl rfl ⟨by decide, Nat.le_of_ble_eq_true rfl⟩).trans ?_
    refine (bind_eq (sp_X8_isIn p2 1 (x1 - 1))).trans ?_
    show mm_run G0 153 19 [some (.ref 84), some (.int p1), some (.int p2), some (.int p3)] [.int (bi (decide (¬ p2 < 1 ∧ ¬ (x1 - 1) < p2)))] (HP I A L F E) = _
    refine (sg_be ht_X8_gain rfl).trans ?_
    refine ite_congr rfl (fun _ => ?_) (fun _ => ?_)
    · refine (sg_go ht_X8_gain (k := 3) (pc' := 25) (L' := [some (.ref 84), some (.int p1), some (.int p2), some (.int p3)]) (st' := [.int 1, .int 0, .int p3]) (h' := (HP I A L F E)) rfl).trans ?_
      refine (sg_call ht_X8_gain (mj := 113) (as := [.int p3, .int 0, .int 1]) (rest := []) rfl rfl ⟨by decide, Nat.le_of_ble_eq_true rfl⟩).trans ?_
      refine (bind_eq (sp_X8_isIn p3 0 1)).trans ?_
      show mm_run G0 153 28 [some (.ref 84), some (.int p1), some (.int p2), some (.int p3)] [.int (bi (decide (¬ p3 < 0 ∧ ¬ 1 < p3)))] (HP I A L F E) = _
      refine (sg_bn ht_X8_gain rfl).trans ?_
      refine ite_congr rfl (fun _ => ?_) (fun _ => ?_)
      · refine (sg_go ht_X8_gain (k := 3) (pc' := 38) (L' := [some (.ref 84), some (.int p1), some (.int p2), some (.int p3)]) (st' := [.int p2, .int p1, .ref 84]) (h' := (HP I A L F E)) rfl).trans ?_
        refine (sg_call ht_X8_gain (mj := 147) (as := [.ref 84, .int p1, .int p2]) (rest := []) rfl rfl ⟨by decide, Nat.le_of_ble_eq_true rfl⟩).trans ?_
        rfl
      · refine (sg_go ht_X8_gain (k := 1) (pc' := 34) (L' := [some (.ref 84), some (.int p1), some (.int p2), some (.int p3)]) (st' := [.long (-9223372036854775808)]) (h' := (HP I A L F E)) rfl).trans ?_
        exact sg_ret ht_X8_gain rfl rfl
    · refine (sg_go ht_X8_gain (k := 1) (pc' := 34) (L' := [some (.ref 84), some (.int p1), some (.int p2), some (.int p3)]) (st' := [.long (-9223372036854775808)]) (h' := (HP I A L F E)) rfl).trans ?_
      exact sg_ret ht_X8_gain rfl rfl
  · refine (sg_go ht_X8_gain (k := 1) (pc' := 34) (L' := [some (.ref 84), some (.int p1), some (.int p2), some (.int p3)]) (st' := [.long (-9223372036854775808)]) (h' := (HP I A L F E)) rfl).trans ?_
    exact sg_ret ht_X8_gain rfl rfl
set_option maxRecDepth 20000 in
theorem sg_X8_gain_41 {I : Nat → Int32} {A : Nat → List Int32} {L : Nat → List Int64} {F : Nat → Int64} {E : MH} (v1 : Int32) (v2 : Int32) (v3 : Int32) (s0 : Int64) : mm_run G0 153 41 [some (.ref 84), some (.int v1), some (.int v2), some (.int v3)] [.long s0] (HP I A L F E) = ((ldI (A 85) ((45 * v1) + 4)).bind fun x1 => ((mm_call G0 152 [.long s0, .long ((v2).toInt64 * ((x1 - v2)).toInt64), .int v3] (HP I A L F E)).bind fun q => mm_run G0 153 51 [some (.ref 84), some (.int v1), some (.int v2), some (.int v3)] (q.1.toList ++ []) q.2)) := by
  refine (sg_go ht_X8_gain (k := 3) (pc' := 44) (L' := [some (.ref 84), some (.int v1), some (.int v2), some (.int v3)]) (st' := [.int v2, .int v1, .ref 84, .long s0]) (h' := (HP I A L F E)) rfl).trans ?_
  refine (sg_call ht_X8_gain (mj := 148) (as := [.ref 84, .int v1, .int v2]) (rest := [.long s0]) rfl rfl ⟨by decide, Nat.le_of_ble_eq_true rfl⟩).trans ?_
  refine (bind_eq (sg_X8_gainBelow_0 v1 v2)).trans ?_
  refine bind_as.trans ?_
  refine bind_cg fun x1 hx1 => ?_
  show mm_run G0 153 47 [some (.ref 84), some (.int v1), some (.int v2), some (.int v3)] [.long ((v2).toInt64 * ((x1 - v2)).toInt64), .long s0] (HP I A L F E) = _
  refine (sg_go ht_X8_gain (k := 1) (pc' := 48) (L' := [some (.ref 84), some (.int v1), some (.int v2), some (.int v3)]) (st' := [.int v3, .long ((v2).toInt64 * ((x1 - v2)).toInt64), .long s0]) (h' := (HP I A L F E)) rfl).trans ?_
  refine (sg_call ht_X8_gain (mj := 152) (as := [.long s0, .long ((v2).toInt64 * ((x1 - v2)).toInt64), .int v3]) (rest := []) rfl rfl ⟨by decide, Nat.le_of_ble_eq_true rfl⟩).trans ?_
  rfl
set_option maxRecDepth 20000 in
theorem sg_X8_gain_51 {I : Nat → Int32} {A : Nat → List Int32} {L : Nat → List Int64} {F : Nat → Int64} {E : MH} (v1 : Int32) (v2 : Int32) (v3 : Int32) (s0 : Int64) : mm_run G0 153 51 [some (.ref 84), some (.int v1), some (.int v2), some (.int v3)] [.long s0] (HP I A L F E) = some (some (.long s0), (HP I A L F E)) := by
  exact sg_ret ht_X8_gain rfl rfl
set_option maxRecDepth 20000 in
theorem sg_X8_weighs_0 {I : Nat → Int32} {A : Nat → List Int32} {L : Nat → List Int64} {F : Nat → Int64} {E : MH} (p1 : Int32) : mm_call G0 155 [.ref 84, .int p1] (HP I A L F E) = (if ¬ p1 < (-2) ∧ ¬ 2 < p1 then ((ldI (A 85) ((180 + p1) + 2)).bind fun x1 => some (some (.int x1), (HP I A L F E))) else some (some (.int (-1)), (HP I A L F E))) := by
  show mm_run G0 155 0 [some (.ref 84), some (.int p1)] [] (HP I A L F E) = _
  refine (sg_go ht_X8_weighs (k := 3) (pc' := 4) (L' := [some (.ref 84), some (.int p1)]) (st' := [.int 2, .int (-2), .int p1]) (h' := (HP I A L F E)) rfl).trans ?_
  refine (sg_call ht_X8_weighs (mj := 113) (as := [.int p1, .int (-2), .int 2]) (rest := []) rfl rfl ⟨by decide, Nat.le_of_ble_eq_true rfl⟩).trans ?_
  refine (bind_eq (sp_X8_isIn p1 (-2) 2)).trans ?_
  show mm_run G0 155 7 [some (.ref 84), some (.int p1)] [.int (bi (decide (¬ p1 < (-2) ∧ ¬ 2 < p1)))] (HP I A L F E) = _
  refine (sg_be ht_X8_weighs rfl).trans ?_
  refine ite_congr rfl (fun _ => ?_) (fun _ => ?_)
  · refine (sg_go ht_X8_weighs (k := 7) (pc' := 21) (L' := [some (.ref 84), some (.int p1)]) (st' := [.int ((180 + p1) + 2), .ref 85]) (h' := (HP I A L F E)) rfl).trans ?_
    refine (sg_ldI ht_X8_weighs rfl hp_o_85).trans ?_
    refine bind_cg fun x1 hx1 => ?_
    refine (sg_go ht_X8_weighs (k := 1) (pc' := 26) (L' := [some (.ref 84), some (.int p1)]) (st' := [.int x1]) (h' := (HP I A L F E)) rfl).trans ?_
    exact sg_ret ht_X8_weighs rfl rfl
  · refine (sg_go ht_X8_weighs (k := 1) (pc' := 26) (L' := [some (.ref 84), some (.int p1)]) (st' := [.int (-1)]) (h' := (HP I A L F E)) rfl).trans ?_
    exact sg_ret ht_X8_weighs rfl rfl
set_option maxRecDepth 20000 in
theorem sg_X8_allWeights_0 {I : Nat → Int32} {A : Nat → List Int32} {L : Nat → List Int64} {F : Nat → Int64} {E : MH}  : mm_call G0 156 [.ref 84] (HP I A L F E) = ((ldI (A 85) 180).bind fun x1 => ((ldI (A 85) 181).bind fun x2 => ((ldI (A 85) 182).bind fun x3 => ((ldI (A 85) 183).bind fun x4 => ((ldI (A 85) 184).bind fun x5 => some (some (.int (((((0 + x1) + x2) + x3) + x4) + x5)), (HP I A L F E))))))) := by
  show mm_run G0 156 0 [some (.ref 84), none, none] [] (HP I A L F E) = _
  refine (sg_go ht_X8_allWeights (k := 10) (pc' := 14) (L' := [some (.ref 84), some (.int 0), some (.int 0)]) (st' := [.ref 85, .int 0]) (h' := (HP I A L F E)) rfl).trans ?_
  refine (sg_go ht_X8_allWeights (k := 3) (pc' := 19) (L' := [some (.ref 84), some (.int 0), some (.int 0)]) (st' := [.int 180, .ref 85, .int 0]) (h' := (HP I A L F E)) rfl).trans ?_
  refine (sg_ldI ht_X8_allWeights rfl hp_o_85).trans ?_
  refine bind_cg fun x1 hx1 => ?_
  refine (sg_go ht_X8_allWeights (k := 10) (pc' := 14) (L' := [some (.ref 84), some (.int (0 + x1)), some (.int 1)]) (st' := [.ref 85, .int (0 + x1)]) (h' := (HP I A L F E)) rfl).trans ?_
  refine (sg_go ht_X8_allWeights (k := 3) (pc' := 19) (L' := [some (.ref 84), some (.int (0 + x1)), some (.int 1)]) (st' := [.int 181, .ref 85, .int (0 + x1)]) (h' := (HP I A L F E)) rfl).trans ?_
  refine (sg_ldI ht_X8_allWeights rfl hp_o_85).trans ?_
  refine bind_cg fun x2 hx2 => ?_
  refine (sg_go ht_X8_allWeights (k := 10) (pc' := 14) (L' := [some (.ref 84), some (.int ((0 + x1) + x2)), some (.int 2)]) (st' := [.ref 85, .int ((0 + x1) + x2)]) (h' := (HP I A L F E)) rfl).trans ?_
  refine (sg_go ht_X8_allWeights (k := 3) (pc' := 19) (L' := [some (.ref 84), some (.int ((0 + x1) + x2)), some (.int 2)]) (st' := [.int 182, .ref 85, .int ((0 + x1) + x2)]) (h' := (HP I A L F E)) rfl).trans ?_
  refine (sg_ldI ht_X8_allWeights rfl hp_o_85).trans ?_
  refine bind_cg fun x3 hx3 => ?_
  refine (sg_go ht_X8_allWeights (k := 10) (pc' := 14) (L' := [some (.ref 84), some (.int (((0 + x1) + x2) + x3)), some (.int 3)]) (st' := [.ref 85, .int (((0 + x1) + x2) + x3)]) (h' := (HP I A L F E)) rfl).trans ?_
  refine (sg_go ht_X8_allWeights (k := 3) (pc' := 19) (L' := [some (.ref 84), some (.int (((0 + x1) + x2) + x3)), some (.int 3)]) (st' := [.int 183, .ref 85, .int (((0 + x1) + x2) + x3)]) (h' := (HP I A L F E)) rfl).trans ?_
  refine (sg_ldI ht_X8_allWeights rfl hp_o_85).trans ?_
  refine bind_cg fun x4 hx4 => ?_
  refine (sg_go ht_X8_allWeights (k := 10) (pc' := 14) (L' := [some (.ref 84), some (.int ((((0 + x1) + x2) + x3) + x4)), some (.int 4)]) (st' := [.ref 85, .int ((((0 + x1) + x2) + x3) + x4)]) (h' := (HP I A L F E)) rfl).trans ?_
  refine (sg_go ht_X8_allWeights (k := 3) (pc' := 19) (L' := [some (.ref 84), some (.int ((((0 + x1) + x2) + x3) + x4)), some (.int 4)]) (st' := [.int 184, .ref 85, .int ((((0 + x1) + x2) + x3) + x4)]) (h' := (HP I A L F E)) rfl).trans ?_
  refine (sg_ldI ht_X8_allWeights rfl hp_o_85).trans ?_
  refine bind_cg fun x5 hx5 => ?_
  refine (sg_go ht_X8_allWeights (k := 8) (pc' := 29) (L' := [some (.ref 84), some (.int (((((0 + x1) + x2) + x3) + x4) + x5)), some (.int 5)]) (st' := [.int (((((0 + x1) + x2) + x3) + x4) + x5)]) (h' := (HP I A L F E)) rfl).trans ?_
  exact sg_ret ht_X8_allWeights rfl rfl
set_option maxRecDepth 20000 in
theorem sg_X8_leads_0 {I : Nat → Int32} {A : Nat → List Int32} {L : Nat → List Int64} {F : Nat → Int64} {E : MH} (p1 : Int32) (p2 : Int32) (p3 : Int32) : mm_call G0 157 [.ref 84, .int p1, .int p2, .int p3] (HP I A L F E) = ((ldI (A 85) ((45 * p1) + 3)).bind fun x1 => ((ldI (A 85) ((45 * p1) + 2)).bind fun x2 => some (some (.int (imin x1 (imax 0 (((p2 + p3) - 2) - x2)))), (HP I A L F E)))) := by
  show mm_run G0 157 0 [some (.ref 84), some (.int p1), some (.int p2), some (.int p3), none] [] (HP I A L F E) = _
  refine (sg_go ht_X8_leads (k := 3) (pc' := 5) (L' := [some (.ref 84), some (.int p1), some (.int p2), some (.int p3), none]) (st' := [.int p1, .ref 85]) (h' := (HP I A L F E)) rfl).trans ?_
  refine (sg_call ht_X8_leads (mj := 112) (as := [.int p1]) (rest := [.ref 85]) rfl rfl ⟨by decide, Nat.le_of_ble_eq_true rfl⟩).trans ?_
  refine (bind_eq (sg_X8_base_0 p1)).trans ?_
  show mm_run G0 157 8 [some (.ref 84), some (.int p1), some (.int p2), some (.int p3), none] [.int (45 * p1), .ref 85] (HP I A L F E) = _
  refine (sg_go ht_X8_leads (k := 2) (pc' := 10) (L' := [some (.ref 84), some (.int p1), some (.int p2), some (.int p3), none]) (st' := [.int ((45 * p1) + 3), .ref 85]) (h' := (HP I A L F E)) rfl).trans ?_
  refine (sg_ldI ht_X8_leads rfl hp_o_85).trans ?_
  refine bind_cg fun x1 hx1 => ?_
  refine (sg_go ht_X8_leads (k := 10) (pc' := 25) (L' := [some (.ref 84), some (.int p1), some (.int p2), some (.int p3), some (.int x1)]) (st' := [.ref 85, .int ((p2 + p3) - 2), .int 0, .int x1]) (h' := (HP I A L F E)) rfl).trans ?_
  refine (sg_go ht_X8_leads (k := 1) (pc' := 26) (L' := [some (.ref 84), some (.int p1), some (.int p2), some (.int p3), some (.int x1)]) (st' := [.int p1, .ref 85, .int ((p2 + p3) - 2), .int 0, .int x1]) (h' := (HP I A L F E)) rfl).trans ?_
  refine (sg_call ht_X8_leads (mj := 112) (as := [.int p1]) (rest := [.ref 85, .int ((p2 + p3) - 2), .int 0, .int x1]) rfl rfl ⟨by decide, Nat.le_of_ble_eq_true rfl⟩).trans ?_
  refine (bind_eq (sg_X8_base_0 p1)).trans ?_
  show mm_run G0 157 29 [some (.ref 84), some (.int p1), some (.int p2), some (.int p3), some (.int x1)] [.int (45 * p1), .ref 85, .int ((p2 + p3) - 2), .int 0, .int x1] (HP I A L F E) = _
  refine (sg_go ht_X8_leads (k := 2) (pc' := 31) (L' := [some (.ref 84), some (.int p1), some (.int p2), some (.int p3), some (.int x1)]) (st' := [.int ((45 * p1) + 2), .ref 85, .int ((p2 + p3) - 2), .int 0, .int x1]) (h' := (HP I A L F E)) rfl).trans ?_
  refine (sg_ldI ht_X8_leads rfl hp_o_85).trans ?_
  refine bind_cg fun x2 hx2 => ?_
  refine (sg_go ht_X8_leads (k := 3) (pc' := 39) (L' := [some (.ref 84), some (.int p1), some (.int p2), some (.int p3), some (.int x1)]) (st' := [.int (imin x1 (imax 0 (((p2 + p3) - 2) - x2)))]) (h' := (HP I A L F E)) rfl).trans ?_
  exact sg_ret ht_X8_leads rfl rfl
set_option maxRecDepth 20000 in
theorem sg_X8_reaches_0 {I : Nat → Int32} {A : Nat → List Int32} {L : Nat → List Int64} {F : Nat → Int64} {E : MH} (p1 : Int32) (p2 : Int32) : mm_call G0 158 [.ref 84, .int p1, .int p2] (HP I A L F E) = ((ldI (A 85) ((45 * p1) + 3)).bind fun x1 => mm_run G0 158 20 [some (.ref 84), some (.int p1), some (.int p2), some (.int x1), some (.int (1 <<< (p2 &&& 31))), some (.int 0), none, none] [] (HP I A L F E)) := by
  show mm_run G0 158 0 [some (.ref 84), some (.int p1), some (.int p2), none, none, none, none, none] [] (HP I A L F E) = _
  refine (sg_go ht_X8_reaches (k := 3) (pc' := 5) (L' := [some (.ref 84), some (.int p1), some (.int p2), none, none, none, none, none]) (st' := [.int p1, .ref 85]) (h' := (HP I A L F E)) rfl).trans ?_
  refine (sg_call ht_X8_reaches (mj := 112) (as := [.int p1]) (rest := [.ref 85]) rfl rfl ⟨by decide, Nat.le_of_ble_eq_true rfl⟩).trans ?_
  refine (bind_eq (sg_X8_base_0 p1)).trans ?_
  show mm_run G0 158 8 [some (.ref 84), some (.int p1), some (.int p2), none, none, none, none, none] [.int (45 * p1), .ref 85] (HP I A L F E) = _
  refine (sg_go ht_X8_reaches (k := 2) (pc' := 10) (L' := [some (.ref 84), some (.int p1), some (.int p2), none, none, none, none, none]) (st' := [.int ((45 * p1) + 3), .ref 85]) (h' := (HP I A L F E)) rfl).trans ?_
  refine (sg_ldI ht_X8_reaches rfl hp_o_85).trans ?_
  refine bind_cg fun x1 hx1 => ?_
  refine (sg_go ht_X8_reaches (k := 7) (pc' := 20) (L' := [some (.ref 84), some (.int p1), some (.int p2), some (.int x1), some (.int (1 <<< (p2 &&& 31))), some (.int 0), none, none]) (st' := []) (h' := (HP I A L F E)) rfl).trans ?_
  rfl
set_option maxRecDepth 20000 in
theorem sg_X8_reaches_20_v00 {I : Nat → Int32} {A : Nat → List Int32} {L : Nat → List Int64} {F : Nat → Int64} {E : MH} (v1 : Int32) (v2 : Int32) (v3 : Int32) (v4 : Int32) (v5 : Int32) : mm_run G0 158 20 [some (.ref 84), some (.int v1), some (.int v2), some (.int v3), some (.int v4), some (.int v5), none, none] [] (HP I A L F E) = (if v3 ≤ v5 then some (some (.int v4), (HP I A L F E)) else mm_run G0 158 29 [some (.ref 84), some (.int v1), some (.int v2), some (.int v3), some (.int v4), some (.int v5), some (.int 0), none] [] (HP I A L F E)) := by
  refine (sg_go ht_X8_reaches (k := 2) (pc' := 23) (L' := [some (.ref 84), some (.int v1), some (.int v2), some (.int v3), some (.int v4), some (.int v5), none, none]) (st' := [.int v3, .int v5]) (h' := (HP I A L F E)) rfl).trans ?_
  refine (sg_cmp ht_X8_reaches rfl).trans ?_
  refine ite_congr rfl (fun _ => ?_) (fun _ => ?_)
  · refine (sg_go ht_X8_reaches (k := 1) (pc' := 109) (L' := [some (.ref 84), some (.int v1), some (.int v2), some (.int v3), some (.int v4), some (.int v5), none, none]) (st' := [.int v4]) (h' := (HP I A L F E)) rfl).trans ?_
    exact sg_ret ht_X8_reaches rfl rfl
  · refine (sg_go ht_X8_reaches (k := 2) (pc' := 29) (L' := [some (.ref 84), some (.int v1), some (.int v2), some (.int v3), some (.int v4), some (.int v5), some (.int 0), none]) (st' := []) (h' := (HP I A L F E)) rfl).trans ?_
    rfl
set_option maxRecDepth 20000 in
theorem sg_X8_reaches_20_v01 {I : Nat → Int32} {A : Nat → List Int32} {L : Nat → List Int64} {F : Nat → Int64} {E : MH} (v1 : Int32) (v2 : Int32) (v3 : Int32) (v4 : Int32) (v5 : Int32) (o7 : Int32) : mm_run G0 158 20 [some (.ref 84), some (.int v1), some (.int v2), some (.int v3), some (.int v4), some (.int v5), none, some (.int o7)] [] (HP I A L F E) = (if v3 ≤ v5 then some (some (.int v4), (HP I A L F E)) else mm_run G0 158 29 [some (.ref 84), some (.int v1), some (.int v2), some (.int v3), some (.int v4), some (.int v5), some (.int 0), some (.int o7)] [] (HP I A L F E)) := by
  refine (sg_go ht_X8_reaches (k := 2) (pc' := 23) (L' := [some (.ref 84), some (.int v1), some (.int v2), some (.int v3), some (.int v4), some (.int v5), none, some (.int o7)]) (st' := [.int v3, .int v5]) (h' := (HP I A L F E)) rfl).trans ?_
  refine (sg_cmp ht_X8_reaches rfl).trans ?_
  refine ite_congr rfl (fun _ => ?_) (fun _ => ?_)
  · refine (sg_go ht_X8_reaches (k := 1) (pc' := 109) (L' := [some (.ref 84), some (.int v1), some (.int v2), some (.int v3), some (.int v4), some (.int v5), none, some (.int o7)]) (st' := [.int v4]) (h' := (HP I A L F E)) rfl).trans ?_
    exact sg_ret ht_X8_reaches rfl rfl
  · refine (sg_go ht_X8_reaches (k := 2) (pc' := 29) (L' := [some (.ref 84), some (.int v1), some (.int v2), some (.int v3), some (.int v4), some (.int v5), some (.int 0), some (.int o7)]) (st' := []) (h' := (HP I A L F E)) rfl).trans ?_
    rfl
set_option maxRecDepth 20000 in
theorem sg_X8_reaches_20_v10 {I : Nat → Int32} {A : Nat → List Int32} {L : Nat → List Int64} {F : Nat → Int64} {E : MH} (v1 : Int32) (v2 : Int32) (v3 : Int32) (v4 : Int32) (v5 : Int32) (o6 : Int32) : mm_run G0 158 20 [some (.ref 84), some (.int v1), some (.int v2), some (.int v3), some (.int v4), some (.int v5), some (.int o6), none] [] (HP I A L F E) = (if v3 ≤ v5 then some (some (.int v4), (HP I A L F E)) else mm_run G0 158 29 [some (.ref 84), some (.int v1), some (.int v2), some (.int v3), some (.int v4), some (.int v5), some (.int 0), none] [] (HP I A L F E)) := by
  refine (sg_go ht_X8_reaches (k := 2) (pc' := 23) (L' := [some (.ref 84), some (.int v1), some (.int v2), some (.int v3), some (.int v4), some (.int v5), some (.int o6), none]) (st' := [.int v3, .int v5]) (h' := (HP I A L F E)) rfl).trans ?_
  refine (sg_cmp ht_X8_reaches rfl).trans ?_
  refine ite_congr rfl (fun _ => ?_) (fun _ => ?_)
  · refine (sg_go ht_X8_reaches (k := 1) (pc' := 109) (L' := [some (.ref 84), some (.int v1), some (.int v2), some (.int v3), some (.int v4), some (.int v5), some (.int o6), none]) (st' := [.int v4]) (h' := (HP I A L F E)) rfl).trans ?_
    exact sg_ret ht_X8_reaches rfl rfl
  · refine (sg_go ht_X8_reaches (k := 2) (pc' := 29) (L' := [some (.ref 84), some (.int v1), some (.int v2), some (.int v3), some (.int v4), some (.int v5), some (.int 0), none]) (st' := []) (h' := (HP I A L F E)) rfl).trans ?_
    rfl
set_option maxRecDepth 20000 in
theorem sg_X8_reaches_20_v11 {I : Nat → Int32} {A : Nat → List Int32} {L : Nat → List Int64} {F : Nat → Int64} {E : MH} (v1 : Int32) (v2 : Int32) (v3 : Int32) (v4 : Int32) (v5 : Int32) (o6 : Int32) (o7 : Int32) : mm_run G0 158 20 [some (.ref 84), some (.int v1), some (.int v2), some (.int v3), some (.int v4), some (.int v5), some (.int o6), some (.int o7)] [] (HP I A L F E) = (if v3 ≤ v5 then some (some (.int v4), (HP I A L F E)) else mm_run G0 158 29 [some (.ref 84), some (.int v1), some (.int v2), some (.int v3), some (.int v4), some (.int v5), some (.int 0), some (.int o7)] [] (HP I A L F E)) := by
  refine (sg_go ht_X8_reaches (k := 2) (pc' := 23) (L' := [some (.ref 84), some (.int v1), some (.int v2), some (.int v3), some (.int v4), some (.int v5), some (.int o6), some (.int o7)]) (st' := [.int v3, .int v5]) (h' := (HP I A L F E)) rfl).trans ?_
  refine (sg_cmp ht_X8_reaches rfl).trans ?_
  refine ite_congr rfl (fun _ => ?_) (fun _ => ?_)
  · refine (sg_go ht_X8_reaches (k := 1) (pc' := 109) (L' := [some (.ref 84), some (.int v1), some (.int v2), some (.int v3), some (.int v4), some (.int v5), some (.int o6), some (.int o7)]) (st' := [.int v4]) (h' := (HP I A L F E)) rfl).trans ?_
    exact sg_ret ht_X8_reaches rfl rfl
  · refine (sg_go ht_X8_reaches (k := 2) (pc' := 29) (L' := [some (.ref 84), some (.int v1), some (.int v2), some (.int v3), some (.int v4), some (.int v5), some (.int 0), some (.int o7)]) (st' := []) (h' := (HP I A L F E)) rfl).trans ?_
    rfl
theorem sg_X8_reaches_20 {I : Nat → Int32} {A : Nat → List Int32} {L : Nat → List Int64} {F : Nat → Int64} {E : MH} (v1 : Int32) (v2 : Int32) (v3 : Int32) (v4 : Int32) (v5 : Int32) (o6 : Option Int32) (o7 : Option Int32) : mm_run G0 158 20 [some (.ref 84), some (.int v1), some (.int v2), some (.int v3), some (.int v4), some (.int v5), (o6.map Value.int), (o7.map Value.int)] [] (HP I A L F E) = (if v3 ≤ v5 then some (some (.int v4), (HP I A L F E)) else mm_run G0 158 29 [some (.ref 84), some (.int v1), some (.int v2), some (.int v3), some (.int v4), some (.int v5), some (.int 0), (o7.map Value.int)] [] (HP I A L F E)) := by
  match o6, o7 with
  | none, none => exact sg_X8_reaches_20_v00 v1 v2 v3 v4 v5
  | none, some o7 => exact sg_X8_reaches_20_v01 v1 v2 v3 v4 v5 o7
  | some o6, none => exact sg_X8_reaches_20_v10 v1 v2 v3 v4 v5 o6
  | some o6, some o7 => exact sg_X8_reaches_20_v11 v1 v2 v3 v4 v5 o6 o7
set_option maxRecDepth 20000 in
theorem sg_X8_reaches_29_v0 {I : Nat → Int32} {A : Nat → List Int32} {L : Nat → List Int64} {F : Nat → Int64} {E : MH} (v1 : Int32) (v2 : Int32) (v3 : Int32) (v4 : Int32) (v5 : Int32) (v6 : Int32) : mm_run G0 158 29 [some (.ref 84), some (.int v1), some (.int v2), some (.int v3), some (.int v4), some (.int v5), some (.int v6), none] [] (HP I A L F E) = (if v3 ≤ v6 then mm_run G0 158 20 [some (.ref 84), some (.int v1), some (.int v2), some (.int v3), some (.int v4), some (.int (v5 + 1)), some (.int v6), none] [] (HP I A L F E) else mm_run G0 158 38 [some (.ref 84), some (.int v1), some (.int v2), some (.int v3), some (.int v4), some (.int v5), some (.int v6), some (.int 0)] [] (HP I A L F E)) := by
  refine (sg_go ht_X8_reaches (k := 2) (pc' := 32) (L' := [some (.ref 84), some (.int v1), some (.int v2), some (.int v3), some (.int v4), some (.int v5), some (.int v6), none]) (st' := [.int v3, .int v6]) (h' := (HP I A L F E)) rfl).trans ?_
  refine (sg_cmp ht_X8_reaches rfl).trans ?_
  refine ite_congr rfl (fun _ => ?_) (fun _ => ?_)
  · refine (sg_go ht_X8_reaches (k := 2) (pc' := 20) (L' := [some (.ref 84), some (.int v1), some (.int v2), some (.int v3), some (.int v4), some (.int (v5 + 1)), some (.int v6), none]) (st' := []) (h' := (HP I A L F E)) rfl).trans ?_
    rfl
  · refine (sg_go ht_X8_reaches (k := 2) (pc' := 38) (L' := [some (.ref 84), some (.int v1), some (.int v2), some (.int v3), some (.int v4), some (.int v5), some (.int v6), some (.int 0)]) (st' := []) (h' := (HP I A L F E)) rfl).trans ?_
    rfl
set_option maxRecDepth 20000 in
theorem sg_X8_reaches_29_v1 {I : Nat → Int32} {A : Nat → List Int32} {L : Nat → List Int64} {F : Nat → Int64} {E : MH} (v1 : Int32) (v2 : Int32) (v3 : Int32) (v4 : Int32) (v5 : Int32) (v6 : Int32) (o7 : Int32) : mm_run G0 158 29 [some (.ref 84), some (.int v1), some (.int v2), some (.int v3), some (.int v4), some (.int v5), some (.int v6), some (.int o7)] [] (HP I A L F E) = (if v3 ≤ v6 then mm_run G0 158 20 [some (.ref 84), some (.int v1), some (.int v2), some (.int v3), some (.int v4), some (.int (v5 + 1)), some (.int v6), some (.int o7)] [] (HP I A L F E) else mm_run G0 158 38 [some (.ref 84), some (.int v1), some (.int v2), some (.int v3), some (.int v4), some (.int v5), some (.int v6), some (.int 0)] [] (HP I A L F E)) := by
  refine (sg_go ht_X8_reaches (k := 2) (pc' := 32) (L' := [some (.ref 84), some (.int v1), some (.int v2), some (.int v3), some (.int v4), some (.int v5), some (.int v6), some (.int o7)]) (st' := [.int v3, .int v6]) (h' := (HP I A L F E)) rfl).trans ?_
  refine (sg_cmp ht_X8_reaches rfl).trans ?_
  refine ite_congr rfl (fun _ => ?_) (fun _ => ?_)
  · refine (sg_go ht_X8_reaches (k := 2) (pc' := 20) (L' := [some (.ref 84), some (.int v1), some (.int v2), some (.int v3), some (.int v4), some (.int (v5 + 1)), some (.int v6), some (.int o7)]) (st' := []) (h' := (HP I A L F E)) rfl).trans ?_
    rfl
  · refine (sg_go ht_X8_reaches (k := 2) (pc' := 38) (L' := [some (.ref 84), some (.int v1), some (.int v2), some (.int v3), some (.int v4), some (.int v5), some (.int v6), some (.int 0)]) (st' := []) (h' := (HP I A L F E)) rfl).trans ?_
    rfl
theorem sg_X8_reaches_29 {I : Nat → Int32} {A : Nat → List Int32} {L : Nat → List Int64} {F : Nat → Int64} {E : MH} (v1 : Int32) (v2 : Int32) (v3 : Int32) (v4 : Int32) (v5 : Int32) (v6 : Int32) (o7 : Option Int32) : mm_run G0 158 29 [some (.ref 84), some (.int v1), some (.int v2), some (.int v3), some (.int v4), some (.int v5), some (.int v6), (o7.map Value.int)] [] (HP I A L F E) = (if v3 ≤ v6 then mm_run G0 158 20 [some (.ref 84), some (.int v1), some (.int v2), some (.int v3), some (.int v4), some (.int (v5 + 1)), some (.int v6), (o7.map Value.int)] [] (HP I A L F E) else mm_run G0 158 38 [some (.ref 84), some (.int v1), some (.int v2), some (.int v3), some (.int v4), some (.int v5), some (.int v6), some (.int 0)] [] (HP I A L F E)) := by
  match o7 with
  | none => exact sg_X8_reaches_29_v0 v1 v2 v3 v4 v5 v6
  | some o7 => exact sg_X8_reaches_29_v1 v1 v2 v3 v4 v5 v6 o7
set_option maxRecDepth 20000 in
theorem sg_X8_reaches_38 {I : Nat → Int32} {A : Nat → List Int32} {L : Nat → List Int64} {F : Nat → Int64} {E : MH} (v1 : Int32) (v2 : Int32) (v3 : Int32) (v4 : Int32) (v5 : Int32) (v6 : Int32) (v7 : Int32) : mm_run G0 158 38 [some (.ref 84), some (.int v1), some (.int v2), some (.int v3), some (.int v4), some (.int v5), some (.int v6), some (.int v7)] [] (HP I A L F E) = (if 5 ≤ v7 then mm_run G0 158 29 [some (.ref 84), some (.int v1), some (.int v2), some (.int v3), some (.int v4), some (.int v5), some (.int (v6 + 1)), some (.int v7)] [] (HP I A L F E) else (if ((v4 >>> (v6 &&& 31)) &&& 1) ≠ 1 then mm_run G0 158 38 [some (.ref 84), some (.int v1), some (.int v2), some (.int v3), some (.int (v4 ||| 0)), some (.int v5), some (.int v6), some (.int (v7 + 1))] [] (HP I A L F E) else ((ldI (A 85) (180 + v7)).bind fun x1 => (if x1 ≤ 0 then mm_run G0 158 38 [some (.ref 84), some (.int v1), some (.int v2), some (.int v3), some (.int (v4 ||| 0)), some (.int v5), some (.int v6), some (.int (v7 + 1))] [] (HP I A L F E) else ((ldI (A 85) ((45 * v1) + 3)).bind fun x2 => ((ldI (A 85) ((45 * v1) + 2)).bind fun x3 => mm_run G0 158 38 [some (.ref 84), some (.int v1), some (.int v2), some (.int v3), some (.int (v4 ||| (1 <<< ((imin x2 (imax 0 (((v6 + v7) - 2) - x3))) &&& 31)))), some (.int v5), some (.int v6), some (.int (v7 + 1))] [] (HP I A L F E))))))) := by
  refine (sg_go ht_X8_reaches (k := 2) (pc' := 41) (L' := [some (.ref 84), some (.int v1), some (.int v2), some (.int v3), some (.int v4), some (.int v5), some (.int v6), some (.int v7)]) (st' := [.int 5, .int v7]) (h' := (HP I A L F E)) rfl).trans ?_
  refine (sg_cmp ht_X8_reaches rfl).trans ?_
  refine ite_congr rfl (fun _ => ?_) (fun _ => ?_)
  · refine (sg_go ht_X8_reaches (k := 2) (pc' := 29) (L' := [some (.ref 84), some (.int v1), some (.int v2), some (.int v3), some (.int v4), some (.int v5), some (.int (v6 + 1)), some (.int v7)]) (st' := []) (h' := (HP I A L F E)) rfl).trans ?_
    rfl
  · refine (sg_go ht_X8_reaches (k := 7) (pc' := 54) (L' := [some (.ref 84), some (.int v1), some (.int v2), some (.int v3), some (.int v4), some (.int v5), some (.int v6), some (.int v7)]) (st' := [.int 1, .int ((v4 >>> (v6 &&& 31)) &&& 1), .int v4]) (h' := (HP I A L F E)) rfl).trans ?_
    refine (sg_cmp ht_X8_reaches rfl).trans ?_
    refine ite_congr rfl (fun _ => ?_) (fun _ => ?_)
    · refine (sg_go ht_X8_reaches (k := 5) (pc' := 38) (L' := [some (.ref 84), some (.int v1), some (.int v2), some (.int v3), some (.int (v4 ||| 0)), some (.int v5), some (.int v6), some (.int (v7 + 1))]) (st' := []) (h' := (HP I A L F E)) rfl).trans ?_
      rfl
    · refine (sg_go ht_X8_reaches (k := 5) (pc' := 67) (L' := [some (.ref 84), some (.int v1), some (.int v2), some (.int v3), some (.int v4), some (.int v5), some (.int v6), some (.int v7)]) (st' := [.int (180 + v7), .ref 85, .int v4]) (h' := (HP I A L F E)) rfl).trans ?_
      refine (sg_ldI ht_X8_reaches rfl hp_o_85).trans ?_
      refine bind_cg fun x1 hx1 => ?_
      refine (sg_if ht_X8_reaches rfl).trans ?_
      refine ite_congr rfl (fun _ => ?_) (fun _ => ?_)
      · refine (sg_go ht_X8_reaches (k := 5) (pc' := 38) (L' := [some (.ref 84), some (.int v1), some (.int v2), some (.int v3), some (.int (v4 ||| 0)), some (.int v5), some (.int v6), some (.int (v7 + 1))]) (st' := []) (h' := (HP I A L F E)) rfl).trans ?_
        rfl
      · refine (sg_go ht_X8_reaches (k := 5) (pc' := 78) (L' := [some (.ref 84), some (.int v1), some (.int v2), some (.int v3), some (.int v4), some (.int v5), some (.int v6), some (.int v7)]) (st' := [.int v7, .int v6, .int v1, .ref 84, .int 1, .int v4]) (h' := (HP I A L F E)) rfl).trans ?_
        refine (sg_call ht_X8_reaches (mj := 157) (as := [.ref 84, .int v1, .int v6, .int v7]) (rest := [.int 1, .int v4]) rfl rfl ⟨by decide, Nat.le_of_ble_eq_true rfl⟩).trans ?_
        refine (bind_eq (sg_X8_leads_0 v1 v6 v7)).trans ?_
        refine bind_as.trans ?_
        refine bind_cg fun x2 hx2 => ?_
        refine bind_as.trans ?_
        refine bind_cg fun x3 hx3 => ?_
        show mm_run G0 158 81 [some (.ref 84), some (.int v1), some (.int v2), some (.int v3), some (.int v4), some (.int v5), some (.int v6), some (.int v7)] [.int (imin x2 (imax 0 (((v6 + v7) - 2) - x3))), .int 1, .int v4] (HP I A L F E) = _
        refine (sg_go ht_X8_reaches (k := 6) (pc' := 38) (L' := [some (.ref 84), some (.int v1), some (.int v2), some (.int v3), some (.int (v4 ||| (1 <<< ((imin x2 (imax 0 (((v6 + v7) - 2) - x3))) &&& 31)))), some (.int v5), some (.int v6), some (.int (v7 + 1))]) (st' := []) (h' := (HP I A L F E)) rfl).trans ?_
        rfl
set_option maxRecDepth 20000 in
theorem sg_X8_isChain_0 {I : Nat → Int32} {A : Nat → List Int32} {L : Nat → List Int64} {F : Nat → Int64} {E : MH} (p1 : Int32) (p2 : Int32) : mm_call G0 159 [.ref 84, .int p1, .int p2] (HP I A L F E) = (if ¬ p1 < 0 ∧ ¬ 3 < p1 then ((ldI (A 85) ((45 * p1) + 3)).bind fun x1 => (if 6 < x1 then some (some (.int 0), (HP I A L F E)) else ((ldI (A 85) ((45 * p1) + 3)).bind fun x2 => (if ¬ p2 < 0 ∧ ¬ (x2 - 1) < p2 then ((ldI (A 85) 180).bind fun x3 => ((ldI (A 85) 181).bind fun x4 => ((ldI (A 85) 182).bind fun x5 => ((ldI (A 85) 183).bind fun x6 => ((ldI (A 85) 184).bind fun x7 => (if (((((0 + x3) + x4) + x5) + x6) + x7) ≤ 0 then some (some (.int 0), (HP I A L F E)) else some (some (.int 1), (HP I A L F E)))))))) else some (some (.int 0), (HP I A L F E)))))) else some (some (.int 0), (HP I A L F E))) := by
  show mm_run G0 159 0 [some (.ref 84), some (.int p1), some (.int p2)] [] (HP I A L F E) = _
  refine (sg_go ht_X8_isChain (k := 1) (pc' := 1) (L' := [some (.ref 84), some (.int p1), some (.int p2)]) (st' := [.int p1]) (h' := (HP I A L F E)) rfl).trans ?_
  refine (sg_call ht_X8_isChain (mj := 114) (as := [.int p1]) (rest := []) rfl rfl ⟨by decide, Nat.le_of_ble_eq_true rfl⟩).trans ?_
  refine (bind_eq (sp_X8_isStream p1)).trans ?_
  show mm_run G0 159 4 [some (.ref 84), some (.int p1), some (.int p2)] [.int (bi (decide (¬ p1 < 0 ∧ ¬ 3 < p1)))] (HP I A L F E) = _
  refine (sg_be ht_X8_isChain rfl).trans ?_
  refine ite_congr rfl (fun _ => ?_) (fun _ => ?_)
  · refine (sg_go ht_X8_isChain (k := 3) (pc' := 12) (L' := [some (.ref 84), some (.int p1), some (.int p2)]) (st' := [.int p1, .ref 85]) (h' := (HP I A L F E)) rfl).trans ?_
    refine (sg_call ht_X8_isChain (mj := 112) (as := [.int p1]) (rest := [.ref 85]) rfl rfl ⟨by decide, Nat.le_of_ble_eq_true rfl⟩).trans ?_
    refine (bind_eq (sg_X8_base_0 p1)).trans ?_
    show mm_run G0 159 15 [some (.ref 84), some (.int p1), some (.int p2)] [.int (45 * p1), .ref 85] (HP I A L F E) = _
    refine (sg_go ht_X8_isChain (k := 2) (pc' := 17) (L' := [some (.ref 84), some (.int p1), some (.int p2)]) (st' := [.int ((45 * p1) + 3), .ref 85]) (h' := (HP I A L F E)) rfl).trans ?_
    refine (sg_ldI ht_X8_isChain rfl hp_o_85).trans ?_
    refine bind_cg fun x1 hx1 => ?_
    refine (sg_go ht_X8_isChain (k := 1) (pc' := 20) (L' := [some (.ref 84), some (.int p1), some (.int p2)]) (st' := [.int 6, .int x1]) (h' := (HP I A L F E)) rfl).trans ?_
    refine (sg_cmp ht_X8_isChain rfl).trans ?_
    refine ite_congr rfl (fun _ => ?_) (fun _ => ?_)
    · refine (sg_go ht_X8_isChain (k := 1) (pc' := 56) (L' := [some (.ref 84), some (.int p1), some (.int p2)]) (st' := [.int 0]) (h' := (HP I A L F E)) rfl).trans ?_
      exact sg_ret ht_X8_isChain rfl rfl
    · refine (sg_go ht_X8_isChain (k := 5) (pc' := 30) (L' := [some (.ref 84), some (.int p1), some (.int p2)]) (st' := [.int p1, .ref 85, .int 0, .int p2]) (h' := (HP I A L F E)) rfl).trans ?_
      refine (sg_call ht_X8_isChain (mj := 112) (as := [.int p1]) (rest := [.ref 85, .int 0, .int p2]) rfl rfl ⟨by decide, Nat.le_of_ble_eq_true rfl⟩).trans ?_
      refine (bind_eq (sg_X8_base_0 p1)).trans ?_
      show mm_run G0 159 33 [some (.ref 84), some (.int p1), some (.int p2)] [.int (45 * p1), .ref 85, .int 0, .int p2] (HP I A L F E) = _
      refine (sg_go ht_X8_isChain (k := 2) (pc' := 35) (L' := [some (.ref 84), some (.int p1), some (.int p2)]) (st' := [.int ((45 * p1) + 3), .ref 85, .int 0, .int p2]) (h' := (HP I A L F E)) rfl).trans ?_
      refine (sg_ldI ht_X8_isChain rfl hp_o_85).trans ?_
      refine bind_cg fun x2 hx2 => ?_
      refine (sg_go ht_X8_isChain (k := 2) (pc' := 38) (L' := [some (.ref 84), some (.int p1), some (.int p2)]) (st' := [.int (x2 - 1), .int 0, .int p2]) (h' := (HP I A L F E)) rfl).trans ?_
      refine (sg_call ht_X8_isChain (mj := 113) (as := [.int p2, .int 0, .int (x2 - 1)]) (rest := []) rfl rfl ⟨by decide, Nat.le_of_ble_eq_true rfl⟩).trans ?_
      refine (bind_eq (sp_X8_isIn p2 0 (x2 - 1))).trans ?_
      show mm_run G0 159 41 [some (.ref 84), some (.int p1), some (.int p2)] [.int (bi (decide (¬ p2 < 0 ∧ ¬ (x2 - 1) < p2)))] (HP I A L F E) = _
      refine (sg_be ht_X8_isChain rfl).trans ?_
      refine ite_congr rfl (fun _ => ?_) (fun _ => ?_)
      · refine (sg_go ht_X8_isChain (k := 1) (pc' := 45) (L' := [some (.ref 84), some (.int p1), some (.int p2)]) (st' := [.ref 84]) (h' := (HP I A L F E)) rfl).trans ?_
        refine (sg_call ht_X8_isChain (mj := 156) (as := [.ref 84]) (rest := []) rfl rfl ⟨by decide, Nat.le_of_ble_eq_true rfl⟩).trans ?_
        refine (bind_eq (sg_X8_allWeights_0 )).trans ?_
        refine bind_as.trans ?_
        refine bind_cg fun x3 hx3 => ?_
        refine bind_as.trans ?_
        refine bind_cg fun x4 hx4 => ?_
        refine bind_as.trans ?_
        refine bind_cg fun x5 hx5 => ?_
        refine bind_as.trans ?_
        refine bind_cg fun x6 hx6 => ?_
        refine bind_as.trans ?_
        refine bind_cg fun x7 hx7 => ?_
        show mm_run G0 159 48 [some (.ref 84), some (.int p1), some (.int p2)] [.int (((((0 + x3) + x4) + x5) + x6) + x7)] (HP I A L F E) = _
        refine (sg_if ht_X8_isChain rfl).trans ?_
        refine ite_congr rfl (fun _ => ?_) (fun _ => ?_)
        · refine (sg_go ht_X8_isChain (k := 1) (pc' := 56) (L' := [some (.ref 84), some (.int p1), some (.int p2)]) (st' := [.int 0]) (h' := (HP I A L F E)) rfl).trans ?_
          exact sg_ret ht_X8_isChain rfl rfl
        · refine (sg_go ht_X8_isChain (k := 2) (pc' := 56) (L' := [some (.ref 84), some (.int p1), some (.int p2)]) (st' := [.int 1]) (h' := (HP I A L F E)) rfl).trans ?_
          exact sg_ret ht_X8_isChain rfl rfl
      · refine (sg_go ht_X8_isChain (k := 1) (pc' := 56) (L' := [some (.ref 84), some (.int p1), some (.int p2)]) (st' := [.int 0]) (h' := (HP I A L F E)) rfl).trans ?_
        exact sg_ret ht_X8_isChain rfl rfl
  · refine (sg_go ht_X8_isChain (k := 1) (pc' := 56) (L' := [some (.ref 84), some (.int p1), some (.int p2)]) (st' := [.int 0]) (h' := (HP I A L F E)) rfl).trans ?_
    exact sg_ret ht_X8_isChain rfl rfl
set_option maxRecDepth 20000 in
theorem sg_X8_equations_0 {I : Nat → Int32} {A : Nat → List Int32} {L : Nat → List Int64} {F : Nat → Int64} {E : MH} (p1 : Int32) (p2 : Int32) : mm_call G0 160 [.ref 84, .int p1, .int p2] (HP I A L F E) = ((ldI (A 85) ((45 * p1) + 3)).bind fun x1 => mm_run G0 160 15 [some (.ref 84), some (.int p1), some (.int p2), some (.int x1), some (.int 0), none, none] [] (HP I A L F E)) := by
  show mm_run G0 160 0 [some (.ref 84), some (.int p1), some (.int p2), none, none, none, none] [] (HP I A L F E) = _
  refine (sg_go ht_X8_equations (k := 3) (pc' := 5) (L' := [some (.ref 84), some (.int p1), some (.int p2), none, none, none, none]) (st' := [.int p1, .ref 85]) (h' := (HP I A L F E)) rfl).trans ?_
  refine (sg_call ht_X8_equations (mj := 112) (as := [.int p1]) (rest := [.ref 85]) rfl rfl ⟨by decide, Nat.le_of_ble_eq_true rfl⟩).trans ?_
  refine (bind_eq (sg_X8_base_0 p1)).trans ?_
  show mm_run G0 160 8 [some (.ref 84), some (.int p1), some (.int p2), none, none, none, none] [.int (45 * p1), .ref 85] (HP I A L F E) = _
  refine (sg_go ht_X8_equations (k := 2) (pc' := 10) (L' := [some (.ref 84), some (.int p1), some (.int p2), none, none, none, none]) (st' := [.int ((45 * p1) + 3), .ref 85]) (h' := (HP I A L F E)) rfl).trans ?_
  refine (sg_ldI ht_X8_equations rfl hp_o_85).trans ?_
  refine bind_cg fun x1 hx1 => ?_
  refine (sg_go ht_X8_equations (k := 3) (pc' := 15) (L' := [some (.ref 84), some (.int p1), some (.int p2), some (.int x1), some (.int 0), none, none]) (st' := []) (h' := (HP I A L F E)) rfl).trans ?_
  rfl
set_option maxRecDepth 20000 in
theorem sg_X8_equations_15_v00 {I : Nat → Int32} {A : Nat → List Int32} {L : Nat → List Int64} {F : Nat → Int64} {E : MH} (v1 : Int32) (v2 : Int32) (v3 : Int32) (v4 : Int32) : mm_run G0 160 15 [some (.ref 84), some (.int v1), some (.int v2), some (.int v3), some (.int v4), none, none] [] (HP I A L F E) = (if v3 ≤ v4 then some (none, (HP I A L F E)) else mm_run G0 160 24 [some (.ref 84), some (.int v1), some (.int v2), some (.int v3), some (.int v4), some (.int 0), none] [] (HP I A L F E)) := by
  refine (sg_go ht_X8_equations (k := 2) (pc' := 18) (L' := [some (.ref 84), some (.int v1), some (.int v2), some (.int v3), some (.int v4), none, none]) (st' := [.int v3, .int v4]) (h' := (HP I A L F E)) rfl).trans ?_
  refine (sg_cmp ht_X8_equations rfl).trans ?_
  refine ite_congr rfl (fun _ => ?_) (fun _ => ?_)
  · exact sg_ret ht_X8_equations rfl rfl
  · refine (sg_go ht_X8_equations (k := 2) (pc' := 24) (L' := [some (.ref 84), some (.int v1), some (.int v2), some (.int v3), some (.int v4), some (.int 0), none]) (st' := []) (h' := (HP I A L F E)) rfl).trans ?_
    rfl
set_option maxRecDepth 20000 in
theorem sg_X8_equations_15_v01 {I : Nat → Int32} {A : Nat → List Int32} {L : Nat → List Int64} {F : Nat → Int64} {E : MH} (v1 : Int32) (v2 : Int32) (v3 : Int32) (v4 : Int32) (o6 : Int32) : mm_run G0 160 15 [some (.ref 84), some (.int v1), some (.int v2), some (.int v3), some (.int v4), none, some (.int o6)] [] (HP I A L F E) = (if v3 ≤ v4 then some (none, (HP I A L F E)) else mm_run G0 160 24 [some (.ref 84), some (.int v1), some (.int v2), some (.int v3), some (.int v4), some (.int 0), some (.int o6)] [] (HP I A L F E)) := by
  refine (sg_go ht_X8_equations (k := 2) (pc' := 18) (L' := [some (.ref 84), some (.int v1), some (.int v2), some (.int v3), some (.int v4), none, some (.int o6)]) (st' := [.int v3, .int v4]) (h' := (HP I A L F E)) rfl).trans ?_
  refine (sg_cmp ht_X8_equations rfl).trans ?_
  refine ite_congr rfl (fun _ => ?_) (fun _ => ?_)
  · exact sg_ret ht_X8_equations rfl rfl
  · refine (sg_go ht_X8_equations (k := 2) (pc' := 24) (L' := [some (.ref 84), some (.int v1), some (.int v2), some (.int v3), some (.int v4), some (.int 0), some (.int o6)]) (st' := []) (h' := (HP I A L F E)) rfl).trans ?_
    rfl
set_option maxRecDepth 20000 in
theorem sg_X8_equations_15_v10 {I : Nat → Int32} {A : Nat → List Int32} {L : Nat → List Int64} {F : Nat → Int64} {E : MH} (v1 : Int32) (v2 : Int32) (v3 : Int32) (v4 : Int32) (o5 : Int32) : mm_run G0 160 15 [some (.ref 84), some (.int v1), some (.int v2), some (.int v3), some (.int v4), some (.int o5), none] [] (HP I A L F E) = (if v3 ≤ v4 then some (none, (HP I A L F E)) else mm_run G0 160 24 [some (.ref 84), some (.int v1), some (.int v2), some (.int v3), some (.int v4), some (.int 0), none] [] (HP I A L F E)) := by
  refine (sg_go ht_X8_equations (k := 2) (pc' := 18) (L' := [some (.ref 84), some (.int v1), some (.int v2), some (.int v3), some (.int v4), some (.int o5), none]) (st' := [.int v3, .int v4]) (h' := (HP I A L F E)) rfl).trans ?_
  refine (sg_cmp ht_X8_equations rfl).trans ?_
  refine ite_congr rfl (fun _ => ?_) (fun _ => ?_)
  · exact sg_ret ht_X8_equations rfl rfl
  · refine (sg_go ht_X8_equations (k := 2) (pc' := 24) (L' := [some (.ref 84), some (.int v1), some (.int v2), some (.int v3), some (.int v4), some (.int 0), none]) (st' := []) (h' := (HP I A L F E)) rfl).trans ?_
    rfl
set_option maxRecDepth 20000 in
theorem sg_X8_equations_15_v11 {I : Nat → Int32} {A : Nat → List Int32} {L : Nat → List Int64} {F : Nat → Int64} {E : MH} (v1 : Int32) (v2 : Int32) (v3 : Int32) (v4 : Int32) (o5 : Int32) (o6 : Int32) : mm_run G0 160 15 [some (.ref 84), some (.int v1), some (.int v2), some (.int v3), some (.int v4), some (.int o5), some (.int o6)] [] (HP I A L F E) = (if v3 ≤ v4 then some (none, (HP I A L F E)) else mm_run G0 160 24 [some (.ref 84), some (.int v1), some (.int v2), some (.int v3), some (.int v4), some (.int 0), some (.int o6)] [] (HP I A L F E)) := by
  refine (sg_go ht_X8_equations (k := 2) (pc' := 18) (L' := [some (.ref 84), some (.int v1), some (.int v2), some (.int v3), some (.int v4), some (.int o5), some (.int o6)]) (st' := [.int v3, .int v4]) (h' := (HP I A L F E)) rfl).trans ?_
  refine (sg_cmp ht_X8_equations rfl).trans ?_
  refine ite_congr rfl (fun _ => ?_) (fun _ => ?_)
  · exact sg_ret ht_X8_equations rfl rfl
  · refine (sg_go ht_X8_equations (k := 2) (pc' := 24) (L' := [some (.ref 84), some (.int v1), some (.int v2), some (.int v3), some (.int v4), some (.int 0), some (.int o6)]) (st' := []) (h' := (HP I A L F E)) rfl).trans ?_
    rfl
theorem sg_X8_equations_15 {I : Nat → Int32} {A : Nat → List Int32} {L : Nat → List Int64} {F : Nat → Int64} {E : MH} (v1 : Int32) (v2 : Int32) (v3 : Int32) (v4 : Int32) (o5 : Option Int32) (o6 : Option Int32) : mm_run G0 160 15 [some (.ref 84), some (.int v1), some (.int v2), some (.int v3), some (.int v4), (o5.map Value.int), (o6.map Value.int)] [] (HP I A L F E) = (if v3 ≤ v4 then some (none, (HP I A L F E)) else mm_run G0 160 24 [some (.ref 84), some (.int v1), some (.int v2), some (.int v3), some (.int v4), some (.int 0), (o6.map Value.int)] [] (HP I A L F E)) := by
  match o5, o6 with
  | none, none => exact sg_X8_equations_15_v00 v1 v2 v3 v4
  | none, some o6 => exact sg_X8_equations_15_v01 v1 v2 v3 v4 o6
  | some o5, none => exact sg_X8_equations_15_v10 v1 v2 v3 v4 o5
  | some o5, some o6 => exact sg_X8_equations_15_v11 v1 v2 v3 v4 o5 o6
set_option maxRecDepth 20000 in
theorem sg_X8_equations_24_v0 {I : Nat → Int32} {A : Nat → List Int32} {L : Nat → List Int64} {F : Nat → Int64} {E : MH} (v1 : Int32) (v2 : Int32) (v3 : Int32) (v4 : Int32) (v5 : Int32) : mm_run G0 160 24 [some (.ref 84), some (.int v1), some (.int v2), some (.int v3), some (.int v4), some (.int v5), none] [] (HP I A L F E) = (if v3 < v5 then ((ldR [some 96, some 97, some 98, some 99, some 100, some 101] v4).bind fun a1 => (if ((v2 >>> (v4 &&& 31)) &&& 1) ≠ 1 then ((stL (L a1) v4 1).bind fun X2 => (if ((v2 >>> (v4 &&& 31)) &&& 1) ≠ 0 then ((ldR [some 96, some 97, some 98, some 99, some 100, some 101] v4).bind fun a3 => ((ldI (A 85) 180).bind fun x4 => ((ldI (A 85) 181).bind fun x5 => ((ldI (A 85) 182).bind fun x6 => ((ldI (A 85) 183).bind fun x7 => ((ldI (A 85) 184).bind fun x8 => ((stL ((fu L a1 X2) a3) v3 ((((((0 + x4) + x5) + x6) + x7) + x8)).toInt64).bind fun X9 => mm_run G0 160 105 [some (.ref 84), some (.int v1), some (.int v2), some (.int v3), some (.int v4), some (.int 0), none] [] (HP I A (fu (fu L a1 X2) a3 X9) F E)))))))) else mm_run G0 160 15 [some (.ref 84), some (.int v1), some (.int v2), some (.int v3), some (.int (v4 + 1)), some (.int v5), none] [] (HP I A (fu L a1 X2) F E))) else ((ldI (A 85) 180).bind fun x10 => ((ldI (A 85) 181).bind fun x11 => ((ldI (A 85) 182).bind fun x12 => ((ldI (A 85) 183).bind fun x13 => ((ldI (A 85) 184).bind fun x14 => ((stL (L a1) v4 ((((((0 + x10) + x11) + x12) + x13) + x14)).toInt64).bind fun X15 => (if ((v2 >>> (v4 &&& 31)) &&& 1) ≠ 0 then ((ldR [some 96, some 97, some 98, some 99, some 100, some 101] v4).bind fun a16 => ((ldI (A 85) 180).bind fun x17 => ((ldI (A 85) 181).bind fun x18 => ((ldI (A 85) 182).bind fun x19 => ((ldI (A 85) 183).bind fun x20 => ((ldI (A 85) 184).bind fun x21 => ((stL ((fu L a1 X15) a16) v3 ((((((0 + x17) + x18) + x19) + x20) + x21)).toInt64).bind fun X22 => mm_run G0 160 105 [some (.ref 84), some (.int v1), some (.int v2), some (.int v3), some (.int v4), some (.int 0), none] [] (HP I A (fu (fu L a1 X15) a16 X22) F E)))))))) else mm_run G0 160 15 [some (.ref 84), some (.int v1), some (.int v2), some (.int v3), some (.int (v4 + 1)), some (.int v5), none] [] (HP I A (fu L a1 X15) F E)))))))))) else ((ldR [some 96, some 97, some 98, some 99, some 100, some 101] v4).bind fun a23 => ((stL (L a23) v5 0).bind fun X24 => mm_run G0 160 24 [some (.ref 84), some (.int v1), some (.int v2), some (.int v3), some (.int v4), some (.int (v5 + 1)), none] [] (HP I A (fu L a23 X24) F E)))) := by
  refine (sg_go ht_X8_equations (k := 2) (pc' := 27) (L' := [some (.ref 84), some (.int v1), some (.int v2), some (.int v3), some (.int v4), some (.int v5), none]) (st' := [.int v3, .int v5]) (h' := (HP I A L F E)) rfl).trans ?_
  refine (sg_cmp ht_X8_equations rfl).trans ?_
  refine ite_congr rfl (fun _ => ?_) (fun _ => ?_)
  · refine (sg_go ht_X8_equations (k := 3) (pc' := 53) (L' := [some (.ref 84), some (.int v1), some (.int v2), some (.int v3), some (.int v4), some (.int v5), none]) (st' := [.int v4, .ref 95]) (h' := (HP I A L F E)) rfl).trans ?_
    refine (sg_ldR ht_X8_equations rfl hp_o_95).trans ?_
    refine bind_cg fun a1 ha1 => ?_
    have ha1 := in_95 ha1
    refine (sg_go ht_X8_equations (k := 7) (pc' := 63) (L' := [some (.ref 84), some (.int v1), some (.int v2), some (.int v3), some (.int v4), some (.int v5), none]) (st' := [.int 1, .int ((v2 >>> (v4 &&& 31)) &&& 1), .int v4, .ref a1]) (h' := (HP I A L F E)) rfl).trans ?_
    refine (sg_cmp ht_X8_equations rfl).trans ?_
    refine ite_congr rfl (fun _ => ?_) (fun _ => ?_)
    · refine (sg_go ht_X8_equations (k := 1) (pc' := 75) (L' := [some (.ref 84), some (.int v1), some (.int v2), some (.int v3), some (.int v4), some (.int v5), none]) (st' := [.long 1, .int v4, .ref a1]) (h' := (HP I A L F E)) rfl).trans ?_
      refine (sg_stL (hh := fun X2 => (HP I A (fu L a1 X2) F E)) ht_X8_equations rfl (sMr_obj ha1) (fun _ => sMr_ast ha1)).trans ?_
      refine bind_cg fun X2 hX2 => ?_
      refine (sg_go ht_X8_equations (k := 5) (pc' := 82) (L' := [some (.ref 84), some (.int v1), some (.int v2), some (.int v3), some (.int v4), some (.int v5), none]) (st' := [.int ((v2 >>> (v4 &&& 31)) &&& 1)]) (h' := (HP I A (fu L a1 X2) F E)) rfl).trans ?_
      refine (sg_if ht_X8_equations rfl).trans ?_
      refine ite_congr rfl (fun _ => ?_) (fun _ => ?_)
      · refine (sg_go ht_X8_equations (k := 3) (pc' := 94) (L' := [some (.ref 84), some (.int v1), some (.int v2), some (.int v3), some (.int v4), some (.int v5), none]) (st' := [.int v4, .ref 95]) (h' := (HP I A (fu L a1 X2) F E)) rfl).trans ?_
        refine (sg_ldR ht_X8_equations rfl hp_o_95).trans ?_
        refine bind_cg fun a3 ha3 => ?_
        have ha3 := in_95 ha3
        refine (sg_go ht_X8_equations (k := 2) (pc' := 97) (L' := [some (.ref 84), some (.int v1), some (.int v2), some (.int v3), some (.int v4), some (.int v5), none]) (st' := [.ref 84, .int v3, .ref a3]) (h' := (HP I A (fu L a1 X2) F E)) rfl).trans ?_
        refine (sg_call ht_X8_equations (mj := 156) (as := [.ref 84]) (rest := [.int v3, .ref a3]) rfl rfl ⟨by decide, Nat.le_of_ble_eq_true rfl⟩).trans ?_
        refine (bind_eq (sg_X8_allWeights_0 )).trans ?_
        refine bind_as.trans ?_
        refine bind_cg fun x4 hx4 => ?_
        refine bind_as.trans ?_
        refine bind_cg fun x5 hx5 => ?_
        refine bind_as.trans ?_
        refine bind_cg fun x6 hx6 => ?_
        refine bind_as.trans ?_
        refine bind_cg fun x7 hx7 => ?_
        refine bind_as.trans ?_
        refine bind_cg fun x8 hx8 => ?_
        show mm_run G0 160 100 [some (.ref 84), some (.int v1), some (.int v2), some (.int v3), some (.int v4), some (.int v5), none] [.int (((((0 + x4) + x5) + x6) + x7) + x8), .int v3, .ref a3] (HP I A (fu L a1 X2) F E) = _
        refine (sg_go ht_X8_equations (k := 1) (pc' := 101) (L' := [some (.ref 84), some (.int v1), some (.int v2), some (.int v3), some (.int v4), some (.int v5), none]) (st' := [.long ((((((0 + x4) + x5) + x6) + x7) + x8)).toInt64, .int v3, .ref a3]) (h' := (HP I A (fu L a1 X2) F E)) rfl).trans ?_
        refine (sg_stL (hh := fun X9 => (HP I A (fu (fu L a1 X2) a3 X9) F E)) ht_X8_equations rfl (sMr_obj ha3) (fun _ => sMr_ast ha3)).trans ?_
        refine bind_cg fun X9 hX9 => ?_
        refine (sg_go ht_X8_equations (k := 2) (pc' := 105) (L' := [some (.ref 84), some (.int v1), some (.int v2), some (.int v3), some (.int v4), some (.int 0), none]) (st' := []) (h' := (HP I A (fu (fu L a1 X2) a3 X9) F E)) rfl).trans ?_
        rfl
      · refine (sg_go ht_X8_equations (k := 3) (pc' := 15) (L' := [some (.ref 84), some (.int v1), some (.int v2), some (.int v3), some (.int (v4 + 1)), some (.int v5), none]) (st' := []) (h' := (HP I A (fu L a1 X2) F E)) rfl).trans ?_
        rfl
    · refine (sg_go ht_X8_equations (k := 1) (pc' := 67) (L' := [some (.ref 84), some (.int v1), some (.int v2), some (.int v3), some (.int v4), some (.int v5), none]) (st' := [.ref 84, .int v4, .ref a1]) (h' := (HP I A L F E)) rfl).trans ?_
      refine (sg_call ht_X8_equations (mj := 156) (as := [.ref 84]) (rest := [.int v4, .ref a1]) rfl rfl ⟨by decide, Nat.le_of_ble_eq_true rfl⟩).trans ?_
      refine (bind_eq (sg_X8_allWeights_0 )).trans ?_
      refine bind_as.trans ?_
      refine bind_cg fun x10 hx10 => ?_
      refine bind_as.trans ?_
      refine bind_cg fun x11 hx11 => ?_
      refine bind_as.trans ?_
      refine bind_cg fun x12 hx12 => ?_
      refine bind_as.trans ?_
      refine bind_cg fun x13 hx13 => ?_
      refine bind_as.trans ?_
      refine bind_cg fun x14 hx14 => ?_
      show mm_run G0 160 70 [some (.ref 84), some (.int v1), some (.int v2), some (.int v3), some (.int v4), some (.int v5), none] [.int (((((0 + x10) + x11) + x12) + x13) + x14), .int v4, .ref a1] (HP I A L F E) = _
      refine (sg_go ht_X8_equations (k := 2) (pc' := 75) (L' := [some (.ref 84), some (.int v1), some (.int v2), some (.int v3), some (.int v4), some (.int v5), none]) (st' := [.long ((((((0 + x10) + x11) + x12) + x13) + x14)).toInt64, .int v4, .ref a1]) (h' := (HP I A L F E)) rfl).trans ?_
      refine (sg_stL (hh := fun X15 => (HP I A (fu L a1 X15) F E)) ht_X8_equations rfl (sMr_obj ha1) (fun _ => sMr_ast ha1)).trans ?_
      refine bind_cg fun X15 hX15 => ?_
      refine (sg_go ht_X8_equations (k := 5) (pc' := 82) (L' := [some (.ref 84), some (.int v1), some (.int v2), some (.int v3), some (.int v4), some (.int v5), none]) (st' := [.int ((v2 >>> (v4 &&& 31)) &&& 1)]) (h' := (HP I A (fu L a1 X15) F E)) rfl).trans ?_
      refine (sg_if ht_X8_equations rfl).trans ?_
      refine ite_congr rfl (fun _ => ?_) (fun _ => ?_)
      · refine (sg_go ht_X8_equations (k := 3) (pc' := 94) (L' := [some (.ref 84), some (.int v1), some (.int v2), some (.int v3), some (.int v4), some (.int v5), none]) (st' := [.int v4, .ref 95]) (h' := (HP I A (fu L a1 X15) F E)) rfl).trans ?_
        refine (sg_ldR ht_X8_equations rfl hp_o_95).trans ?_
        refine bind_cg fun a16 ha16 => ?_
        have ha16 := in_95 ha16
        refine (sg_go ht_X8_equations (k := 2) (pc' := 97) (L' := [some (.ref 84), some (.int v1), some (.int v2), some (.int v3), some (.int v4), some (.int v5), none]) (st' := [.ref 84, .int v3, .ref a16]) (h' := (HP I A (fu L a1 X15) F E)) rfl).trans ?_
        refine (sg_call ht_X8_equations (mj := 156) (as := [.ref 84]) (rest := [.int v3, .ref a16]) rfl rfl ⟨by decide, Nat.le_of_ble_eq_true rfl⟩).trans ?_
        refine (bind_eq (sg_X8_allWeights_0 )).trans ?_
        refine bind_as.trans ?_
        refine bind_cg fun x17 hx17 => ?_
        refine bind_as.trans ?_
        refine bind_cg fun x18 hx18 => ?_
        refine bind_as.trans ?_
        refine bind_cg fun x19 hx19 => ?_
        refine bind_as.trans ?_
        refine bind_cg fun x20 hx20 => ?_
        refine bind_as.trans ?_
        refine bind_cg fun x21 hx21 => ?_
        show mm_run G0 160 100 [some (.ref 84), some (.int v1), some (.int v2), some (.int v3), some (.int v4), some (.int v5), none] [.int (((((0 + x17) + x18) + x19) + x20) + x21), .int v3, .ref a16] (HP I A (fu L a1 X15) F E) = _
        refine (sg_go ht_X8_equations (k := 1) (pc' := 101) (L' := [some (.ref 84), some (.int v1), some (.int v2), some (.int v3), some (.int v4), some (.int v5), none]) (st' := [.long ((((((0 + x17) + x18) + x19) + x20) + x21)).toInt64, .int v3, .ref a16]) (h' := (HP I A (fu L a1 X15) F E)) rfl).trans ?_
        refine (sg_stL (hh := fun X22 => (HP I A (fu (fu L a1 X15) a16 X22) F E)) ht_X8_equations rfl (sMr_obj ha16) (fun _ => sMr_ast ha16)).trans ?_
        refine bind_cg fun X22 hX22 => ?_
        refine (sg_go ht_X8_equations (k := 2) (pc' := 105) (L' := [some (.ref 84), some (.int v1), some (.int v2), some (.int v3), some (.int v4), some (.int 0), none]) (st' := []) (h' := (HP I A (fu (fu L a1 X15) a16 X22) F E)) rfl).trans ?_
        rfl
      · refine (sg_go ht_X8_equations (k := 3) (pc' := 15) (L' := [some (.ref 84), some (.int v1), some (.int v2), some (.int v3), some (.int (v4 + 1)), some (.int v5), none]) (st' := []) (h' := (HP I A (fu L a1 X15) F E)) rfl).trans ?_
        rfl
  · refine (sg_go ht_X8_equations (k := 3) (pc' := 36) (L' := [some (.ref 84), some (.int v1), some (.int v2), some (.int v3), some (.int v4), some (.int v5), none]) (st' := [.int v4, .ref 95]) (h' := (HP I A L F E)) rfl).trans ?_
    refine (sg_ldR ht_X8_equations rfl hp_o_95).trans ?_
    refine bind_cg fun a23 ha23 => ?_
    have ha23 := in_95 ha23
    refine (sg_go ht_X8_equations (k := 2) (pc' := 40) (L' := [some (.ref 84), some (.int v1), some (.int v2), some (.int v3), some (.int v4), some (.int v5), none]) (st' := [.long 0, .int v5, .ref a23]) (h' := (HP I A L F E)) rfl).trans ?_
    refine (sg_stL (hh := fun X24 => (HP I A (fu L a23 X24) F E)) ht_X8_equations rfl (sMr_obj ha23) (fun _ => sMr_ast ha23)).trans ?_
    refine bind_cg fun X24 hX24 => ?_
    refine (sg_go ht_X8_equations (k := 2) (pc' := 24) (L' := [some (.ref 84), some (.int v1), some (.int v2), some (.int v3), some (.int v4), some (.int (v5 + 1)), none]) (st' := []) (h' := (HP I A (fu L a23 X24) F E)) rfl).trans ?_
    rfl
set_option maxRecDepth 20000 in
theorem sg_X8_equations_24_v1 {I : Nat → Int32} {A : Nat → List Int32} {L : Nat → List Int64} {F : Nat → Int64} {E : MH} (v1 : Int32) (v2 : Int32) (v3 : Int32) (v4 : Int32) (v5 : Int32) (o6 : Int32) : mm_run G0 160 24 [some (.ref 84), some (.int v1), some (.int v2), some (.int v3), some (.int v4), some (.int v5), some (.int o6)] [] (HP I A L F E) = (if v3 < v5 then ((ldR [some 96, some 97, some 98, some 99, some 100, some 101] v4).bind fun a1 => (if ((v2 >>> (v4 &&& 31)) &&& 1) ≠ 1 then ((stL (L a1) v4 1).bind fun X2 => (if ((v2 >>> (v4 &&& 31)) &&& 1) ≠ 0 then ((ldR [some 96, some 97, some 98, some 99, some 100, some 101] v4).bind fun a3 => ((ldI (A 85) 180).bind fun x4 => ((ldI (A 85) 181).bind fun x5 => ((ldI (A 85) 182).bind fun x6 => ((ldI (A 85) 183).bind fun x7 => ((ldI (A 85) 184).bind fun x8 => ((stL ((fu L a1 X2) a3) v3 ((((((0 + x4) + x5) + x6) + x7) + x8)).toInt64).bind fun X9 => mm_run G0 160 105 [some (.ref 84), some (.int v1), some (.int v2), some (.int v3), some (.int v4), some (.int 0), some (.int o6)] [] (HP I A (fu (fu L a1 X2) a3 X9) F E)))))))) else mm_run G0 160 15 [some (.ref 84), some (.int v1), some (.int v2), some (.int v3), some (.int (v4 + 1)), some (.int v5), some (.int o6)] [] (HP I A (fu L a1 X2) F E))) else ((ldI (A 85) 180).bind fun x10 => ((ldI (A 85) 181).bind fun x11 => ((ldI (A 85) 182).bind fun x12 => ((ldI (A 85) 183).bind fun x13 => ((ldI (A 85) 184).bind fun x14 => ((stL (L a1) v4 ((((((0 + x10) + x11) + x12) + x13) + x14)).toInt64).bind fun X15 => (if ((v2 >>> (v4 &&& 31)) &&& 1) ≠ 0 then ((ldR [some 96, some 97, some 98, some 99, some 100, some 101] v4).bind fun a16 => ((ldI (A 85) 180).bind fun x17 => ((ldI (A 85) 181).bind fun x18 => ((ldI (A 85) 182).bind fun x19 => ((ldI (A 85) 183).bind fun x20 => ((ldI (A 85) 184).bind fun x21 => ((stL ((fu L a1 X15) a16) v3 ((((((0 + x17) + x18) + x19) + x20) + x21)).toInt64).bind fun X22 => mm_run G0 160 105 [some (.ref 84), some (.int v1), some (.int v2), some (.int v3), some (.int v4), some (.int 0), some (.int o6)] [] (HP I A (fu (fu L a1 X15) a16 X22) F E)))))))) else mm_run G0 160 15 [some (.ref 84), some (.int v1), some (.int v2), some (.int v3), some (.int (v4 + 1)), some (.int v5), some (.int o6)] [] (HP I A (fu L a1 X15) F E)))))))))) else ((ldR [some 96, some 97, some 98, some 99, some 100, some 101] v4).bind fun a23 => ((stL (L a23) v5 0).bind fun X24 => mm_run G0 160 24 [some (.ref 84), some (.int v1), some (.int v2), some (.int v3), some (.int v4), some (.int (v5 + 1)), some (.int o6)] [] (HP I A (fu L a23 X24) F E)))) := by
  refine (sg_go ht_X8_equations (k := 2) (pc' := 27) (L' := [some (.ref 84), some (.int v1), some (.int v2), some (.int v3), some (.int v4), some (.int v5), some (.int o6)]) (st' := [.int v3, .int v5]) (h' := (HP I A L F E)) rfl).trans ?_
  refine (sg_cmp ht_X8_equations rfl).trans ?_
  refine ite_congr rfl (fun _ => ?_) (fun _ => ?_)
  · refine (sg_go ht_X8_equations (k := 3) (pc' := 53) (L' := [some (.ref 84), some (.int v1), some (.int v2), some (.int v3), some (.int v4), some (.int v5), some (.int o6)]) (st' := [.int v4, .ref 95]) (h' := (HP I A L F E)) rfl).trans ?_
    refine (sg_ldR ht_X8_equations rfl hp_o_95).trans ?_
    refine bind_cg fun a1 ha1 => ?_
    have ha1 := in_95 ha1
    refine (sg_go ht_X8_equations (k := 7) (pc' := 63) (L' := [some (.ref 84), some (.int v1), some (.int v2), some (.int v3), some (.int v4), some (.int v5), some (.int o6)]) (st' := [.int 1, .int ((v2 >>> (v4 &&& 31)) &&& 1), .int v4, .ref a1]) (h' := (HP I A L F E)) rfl).trans ?_
    refine (sg_cmp ht_X8_equations rfl).trans ?_
    refine ite_congr rfl (fun _ => ?_) (fun _ => ?_)
    · refine (sg_go ht_X8_equations (k := 1) (pc' := 75) (L' := [some (.ref 84), some (.int v1), some (.int v2), some (.int v3), some (.int v4), some (.int v5), some (.int o6)]) (st' := [.long 1, .int v4, .ref a1]) (h' := (HP I A L F E)) rfl).trans ?_
      refine (sg_stL (hh := fun X2 => (HP I A (fu L a1 X2) F E)) ht_X8_equations rfl (sMr_obj ha1) (fun _ => sMr_ast ha1)).trans ?_
      refine bind_cg fun X2 hX2 => ?_
      refine (sg_go ht_X8_equations (k := 5) (pc' := 82) (L' := [some (.ref 84), some (.int v1), some (.int v2), some (.int v3), some (.int v4), some (.int v5), some (.int o6)]) (st' := [.int ((v2 >>> (v4 &&& 31)) &&& 1)]) (h' := (HP I A (fu L a1 X2) F E)) rfl).trans ?_
      refine (sg_if ht_X8_equations rfl).trans ?_
      refine ite_congr rfl (fun _ => ?_) (fun _ => ?_)
      · refine (sg_go ht_X8_equations (k := 3) (pc' := 94) (L' := [some (.ref 84), some (.int v1), some (.int v2), some (.int v3), some (.int v4), some (.int v5), some (.int o6)]) (st' := [.int v4, .ref 95]) (h' := (HP I A (fu L a1 X2) F E)) rfl).trans ?_
        refine (sg_ldR ht_X8_equations rfl hp_o_95).trans ?_
        refine bind_cg fun a3 ha3 => ?_
        have ha3 := in_95 ha3
        refine (sg_go ht_X8_equations (k := 2) (pc' := 97) (L' := [some (.ref 84), some (.int v1), some (.int v2), some (.int v3), some (.int v4), some (.int v5), some (.int o6)]) (st' := [.ref 84, .int v3, .ref a3]) (h' := (HP I A (fu L a1 X2) F E)) rfl).trans ?_
        refine (sg_call ht_X8_equations (mj := 156) (as := [.ref 84]) (rest := [.int v3, .ref a3]) rfl rfl ⟨by decide, Nat.le_of_ble_eq_true rfl⟩).trans ?_
        refine (bind_eq (sg_X8_allWeights_0 )).trans ?_
        refine bind_as.trans ?_
        refine bind_cg fun x4 hx4 => ?_
        refine bind_as.trans ?_
        refine bind_cg fun x5 hx5 => ?_
        refine bind_as.trans ?_
        refine bind_cg fun x6 hx6 => ?_
        refine bind_as.trans ?_
        refine bind_cg fun x7 hx7 => ?_
        refine bind_as.trans ?_
        refine bind_cg fun x8 hx8 => ?_
        show mm_run G0 160 100 [some (.ref 84), some (.int v1), some (.int v2), some (.int v3), some (.int v4), some (.int v5), some (.int o6)] [.int (((((0 + x4) + x5) + x6) + x7) + x8), .int v3, .ref a3] (HP I A (fu L a1 X2) F E) = _
        refine (sg_go ht_X8_equations (k := 1) (pc' := 101) (L' := [some (.ref 84), some (.int v1), some (.int v2), some (.int v3), some (.int v4), some (.int v5), some (.int o6)]) (st' := [.long ((((((0 + x4) + x5) + x6) + x7) + x8)).toInt64, .int v3, .ref a3]) (h' := (HP I A (fu L a1 X2) F E)) rfl).trans ?_
        refine (sg_stL (hh := fun X9 => (HP I A (fu (fu L a1 X2) a3 X9) F E)) ht_X8_equations rfl (sMr_obj ha3) (fun _ => sMr_ast ha3)).trans ?_
        refine bind_cg fun X9 hX9 => ?_
        refine (sg_go ht_X8_equations (k := 2) (pc' := 105) (L' := [some (.ref 84), some (.int v1), some (.int v2), some (.int v3), some (.int v4), some (.int 0), some (.int o6)]) (st' := []) (h' := (HP I A (fu (fu L a1 X2) a3 X9) F E)) rfl).trans ?_
        rfl
      · refine (sg_go ht_X8_equations (k := 3) (pc' := 15) (L' := [some (.ref 84), some (.int v1), some (.int v2), some (.int v3), some (.int (v4 + 1)), some (.int v5), some (.int o6)]) (st' := []) (h' := (HP I A (fu L a1 X2) F E)) rfl).trans ?_
        rfl
    · refine (sg_go ht_X8_equations (k := 1) (pc' := 67) (L' := [some (.ref 84), some (.int v1), some (.int v2), some (.int v3), some (.int v4), some (.int v5), some (.int o6)]) (st' := [.ref 84, .int v4, .ref a1]) (h' := (HP I A L F E)) rfl).trans ?_
      refine (sg_call ht_X8_equations (mj := 156) (as := [.ref 84]) (rest := [.int v4, .ref a1]) rfl rfl ⟨by decide, Nat.le_of_ble_eq_true rfl⟩).trans ?_
      refine (bind_eq (sg_X8_allWeights_0 )).trans ?_
      refine bind_as.trans ?_
      refine bind_cg fun x10 hx10 => ?_
      refine bind_as.trans ?_
      refine bind_cg fun x11 hx11 => ?_
      refine bind_as.trans ?_
      refine bind_cg fun x12 hx12 => ?_
      refine bind_as.trans ?_
      refine bind_cg fun x13 hx13 => ?_
      refine bind_as.trans ?_
      refine bind_cg fun x14 hx14 => ?_
      show mm_run G0 160 70 [some (.ref 84), some (.int v1), some (.int v2), some (.int v3), some (.int v4), some (.int v5), some (.int o6)] [.int (((((0 + x10) + x11) + x12) + x13) + x14), .int v4, .ref a1] (HP I A L F E) = _
      refine (sg_go ht_X8_equations (k := 2) (pc' := 75) (L' := [some (.ref 84), some (.int v1), some (.int v2), some (.int v3), some (.int v4), some (.int v5), some (.int o6)]) (st' := [.long ((((((0 + x10) + x11) + x12) + x13) + x14)).toInt64, .int v4, .ref a1]) (h' := (HP I A L F E)) rfl).trans ?_
      refine (sg_stL (hh := fun X15 => (HP I A (fu L a1 X15) F E)) ht_X8_equations rfl (sMr_obj ha1) (fun _ => sMr_ast ha1)).trans ?_
      refine bind_cg fun X15 hX15 => ?_
      refine (sg_go ht_X8_equations (k := 5) (pc' := 82) (L' := [some (.ref 84), some (.int v1), some (.int v2), some (.int v3), some (.int v4), some (.int v5), some (.int o6)]) (st' := [.int ((v2 >>> (v4 &&& 31)) &&& 1)]) (h' := (HP I A (fu L a1 X15) F E)) rfl).trans ?_
      refine (sg_if ht_X8_equations rfl).trans ?_
      refine ite_congr rfl (fun _ => ?_) (fun _ => ?_)
      · refine (sg_go ht_X8_equations (k := 3) (pc' := 94) (L' := [some (.ref 84), some (.int v1), some (.int v2), some (.int v3), some (.int v4), some (.int v5), some (.int o6)]) (st' := [.int v4, .ref 95]) (h' := (HP I A (fu L a1 X15) F E)) rfl).trans ?_
        refine (sg_ldR ht_X8_equations rfl hp_o_95).trans ?_
        refine bind_cg fun a16 ha16 => ?_
        have ha16 := in_95 ha16
        refine (sg_go ht_X8_equations (k := 2) (pc' := 97) (L' := [some (.ref 84), some (.int v1), some (.int v2), some (.int v3), some (.int v4), some (.int v5), some (.int o6)]) (st' := [.ref 84, .int v3, .ref a16]) (h' := (HP I A (fu L a1 X15) F E)) rfl).trans ?_
        refine (sg_call ht_X8_equations (mj := 156) (as := [.ref 84]) (rest := [.int v3, .ref a16]) rfl rfl ⟨by decide, Nat.le_of_ble_eq_true rfl⟩).trans ?_
        refine (bind_eq (sg_X8_allWeights_0 )).trans ?_
        refine bind_as.trans ?_
        refine bind_cg fun x17 hx17 => ?_
        refine bind_as.trans ?_
        refine bind_cg fun x18 hx18 => ?_
        refine bind_as.trans ?_
        refine bind_cg fun x19 hx19 => ?_
        refine bind_as.trans ?_
        refine bind_cg fun x20 hx20 => ?_
        refine bind_as.trans ?_
        refine bind_cg fun x21 hx21 => ?_
        show mm_run G0 160 100 [some (.ref 84), some (.int v1), some (.int v2), some (.int v3), some (.int v4), some (.int v5), some (.int o6)] [.int (((((0 + x17) + x18) + x19) + x20) + x21), .int v3, .ref a16] (HP I A (fu L a1 X15) F E) = _
        refine (sg_go ht_X8_equations (k := 1) (pc' := 101) (L' := [some (.ref 84), some (.int v1), some (.int v2), some (.int v3), some (.int v4), some (.int v5), some (.int o6)]) (st' := [.long ((((((0 + x17) + x18) + x19) + x20) + x21)).toInt64, .int v3, .ref a16]) (h' := (HP I A (fu L a1 X15) F E)) rfl).trans ?_
        refine (sg_stL (hh := fun X22 => (HP I A (fu (fu L a1 X15) a16 X22) F E)) ht_X8_equations rfl (sMr_obj ha16) (fun _ => sMr_ast ha16)).trans ?_
        refine bind_cg fun X22 hX22 => ?_
        refine (sg_go ht_X8_equations (k := 2) (pc' := 105) (L' := [some (.ref 84), some (.int v1), some (.int v2), some (.int v3), some (.int v4), some (.int 0), some (.int o6)]) (st' := []) (h' := (HP I A (fu (fu L a1 X15) a16 X22) F E)) rfl).trans ?_
        rfl
      · refine (sg_go ht_X8_equations (k := 3) (pc' := 15) (L' := [some (.ref 84), some (.int v1), some (.int v2), some (.int v3), some (.int (v4 + 1)), some (.int v5), some (.int o6)]) (st' := []) (h' := (HP I A (fu L a1 X15) F E)) rfl).trans ?_
        rfl
  · refine (sg_go ht_X8_equations (k := 3) (pc' := 36) (L' := [some (.ref 84), some (.int v1), some (.int v2), some (.int v3), some (.int v4), some (.int v5), some (.int o6)]) (st' := [.int v4, .ref 95]) (h' := (HP I A L F E)) rfl).trans ?_
    refine (sg_ldR ht_X8_equations rfl hp_o_95).trans ?_
    refine bind_cg fun a23 ha23 => ?_
    have ha23 := in_95 ha23
    refine (sg_go ht_X8_equations (k := 2) (pc' := 40) (L' := [some (.ref 84), some (.int v1), some (.int v2), some (.int v3), some (.int v4), some (.int v5), some (.int o6)]) (st' := [.long 0, .int v5, .ref a23]) (h' := (HP I A L F E)) rfl).trans ?_
    refine (sg_stL (hh := fun X24 => (HP I A (fu L a23 X24) F E)) ht_X8_equations rfl (sMr_obj ha23) (fun _ => sMr_ast ha23)).trans ?_
    refine bind_cg fun X24 hX24 => ?_
    refine (sg_go ht_X8_equations (k := 2) (pc' := 24) (L' := [some (.ref 84), some (.int v1), some (.int v2), some (.int v3), some (.int v4), some (.int (v5 + 1)), some (.int o6)]) (st' := []) (h' := (HP I A (fu L a23 X24) F E)) rfl).trans ?_
    rfl
theorem sg_X8_equations_24 {I : Nat → Int32} {A : Nat → List Int32} {L : Nat → List Int64} {F : Nat → Int64} {E : MH} (v1 : Int32) (v2 : Int32) (v3 : Int32) (v4 : Int32) (v5 : Int32) (o6 : Option Int32) : mm_run G0 160 24 [some (.ref 84), some (.int v1), some (.int v2), some (.int v3), some (.int v4), some (.int v5), (o6.map Value.int)] [] (HP I A L F E) = (if v3 < v5 then ((ldR [some 96, some 97, some 98, some 99, some 100, some 101] v4).bind fun a1 => (if ((v2 >>> (v4 &&& 31)) &&& 1) ≠ 1 then ((stL (L a1) v4 1).bind fun X2 => (if ((v2 >>> (v4 &&& 31)) &&& 1) ≠ 0 then ((ldR [some 96, some 97, some 98, some 99, some 100, some 101] v4).bind fun a3 => ((ldI (A 85) 180).bind fun x4 => ((ldI (A 85) 181).bind fun x5 => ((ldI (A 85) 182).bind fun x6 => ((ldI (A 85) 183).bind fun x7 => ((ldI (A 85) 184).bind fun x8 => ((stL ((fu L a1 X2) a3) v3 ((((((0 + x4) + x5) + x6) + x7) + x8)).toInt64).bind fun X9 => mm_run G0 160 105 [some (.ref 84), some (.int v1), some (.int v2), some (.int v3), some (.int v4), some (.int 0), (o6.map Value.int)] [] (HP I A (fu (fu L a1 X2) a3 X9) F E)))))))) else mm_run G0 160 15 [some (.ref 84), some (.int v1), some (.int v2), some (.int v3), some (.int (v4 + 1)), some (.int v5), (o6.map Value.int)] [] (HP I A (fu L a1 X2) F E))) else ((ldI (A 85) 180).bind fun x10 => ((ldI (A 85) 181).bind fun x11 => ((ldI (A 85) 182).bind fun x12 => ((ldI (A 85) 183).bind fun x13 => ((ldI (A 85) 184).bind fun x14 => ((stL (L a1) v4 ((((((0 + x10) + x11) + x12) + x13) + x14)).toInt64).bind fun X15 => (if ((v2 >>> (v4 &&& 31)) &&& 1) ≠ 0 then ((ldR [some 96, some 97, some 98, some 99, some 100, some 101] v4).bind fun a16 => ((ldI (A 85) 180).bind fun x17 => ((ldI (A 85) 181).bind fun x18 => ((ldI (A 85) 182).bind fun x19 => ((ldI (A 85) 183).bind fun x20 => ((ldI (A 85) 184).bind fun x21 => ((stL ((fu L a1 X15) a16) v3 ((((((0 + x17) + x18) + x19) + x20) + x21)).toInt64).bind fun X22 => mm_run G0 160 105 [some (.ref 84), some (.int v1), some (.int v2), some (.int v3), some (.int v4), some (.int 0), (o6.map Value.int)] [] (HP I A (fu (fu L a1 X15) a16 X22) F E)))))))) else mm_run G0 160 15 [some (.ref 84), some (.int v1), some (.int v2), some (.int v3), some (.int (v4 + 1)), some (.int v5), (o6.map Value.int)] [] (HP I A (fu L a1 X15) F E)))))))))) else ((ldR [some 96, some 97, some 98, some 99, some 100, some 101] v4).bind fun a23 => ((stL (L a23) v5 0).bind fun X24 => mm_run G0 160 24 [some (.ref 84), some (.int v1), some (.int v2), some (.int v3), some (.int v4), some (.int (v5 + 1)), (o6.map Value.int)] [] (HP I A (fu L a23 X24) F E)))) := by
  match o6 with
  | none => exact sg_X8_equations_24_v0 v1 v2 v3 v4 v5
  | some o6 => exact sg_X8_equations_24_v1 v1 v2 v3 v4 v5 o6
set_option maxRecDepth 20000 in
theorem sg_X8_equations_105_v0 {I : Nat → Int32} {A : Nat → List Int32} {L : Nat → List Int64} {F : Nat → Int64} {E : MH} (v1 : Int32) (v2 : Int32) (v3 : Int32) (v4 : Int32) (v5 : Int32) : mm_run G0 160 105 [some (.ref 84), some (.int v1), some (.int v2), some (.int v3), some (.int v4), some (.int v5), none] [] (HP I A L F E) = (if 5 ≤ v5 then mm_run G0 160 15 [some (.ref 84), some (.int v1), some (.int v2), some (.int v3), some (.int (v4 + 1)), some (.int v5), none] [] (HP I A L F E) else ((ldI (A 85) ((45 * v1) + 3)).bind fun x1 => ((ldI (A 85) ((45 * v1) + 2)).bind fun x2 => (if v3 ≤ (imin x1 (imax 0 (((v4 + v5) - 2) - x2))) then mm_run G0 160 105 [some (.ref 84), some (.int v1), some (.int v2), some (.int v3), some (.int v4), some (.int (v5 + 1)), some (.int (imin x1 (imax 0 (((v4 + v5) - 2) - x2))))] [] (HP I A L F E) else ((ldR [some 96, some 97, some 98, some 99, some 100, some 101] v4).bind fun a3 => ((ldL (L a3) (imin x1 (imax 0 (((v4 + v5) - 2) - x2)))).bind fun x4 => ((ldI (A 85) (180 + v5)).bind fun x5 => ((stL (L a3) (imin x1 (imax 0 (((v4 + v5) - 2) - x2))) (x4 - (x5).toInt64)).bind fun X6 => mm_run G0 160 105 [some (.ref 84), some (.int v1), some (.int v2), some (.int v3), some (.int v4), some (.int (v5 + 1)), some (.int (imin x1 (imax 0 (((v4 + v5) - 2) - x2))))] [] (HP I A (fu L a3 X6) F E))))))))) := by
  refine (sg_go ht_X8_equations (k := 2) (pc' := 108) (L' := [some (.ref 84), some (.int v1), some (.int v2), some (.int v3), some (.int v4), some (.int v5), none]) (st' := [.int 5, .int v5]) (h' := (HP I A L F E)) rfl).trans ?_
  refine (sg_cmp ht_X8_equations rfl).trans ?_
  refine ite_congr rfl (fun _ => ?_) (fun _ => ?_)
  · refine (sg_go ht_X8_equations (k := 2) (pc' := 15) (L' := [some (.ref 84), some (.int v1), some (.int v2), some (.int v3), some (.int (v4 + 1)), some (.int v5), none]) (st' := []) (h' := (HP I A L F E)) rfl).trans ?_
    rfl
  · refine (sg_go ht_X8_equations (k := 4) (pc' := 117) (L' := [some (.ref 84), some (.int v1), some (.int v2), some (.int v3), some (.int v4), some (.int v5), none]) (st' := [.int v5, .int v4, .int v1, .ref 84]) (h' := (HP I A L F E)) rfl).trans ?_
    refine (sg_call ht_X8_equations (mj := 157) (as := [.ref 84, .int v1, .int v4, .int v5]) (rest := []) rfl rfl ⟨by decide, Nat.le_of_ble_eq_true rfl⟩).trans ?_
    refine (bind_eq (sg_X8_leads_0 v1 v4 v5)).trans ?_
    refine bind_as.trans ?_
    refine bind_cg fun x1 hx1 => ?_
    refine bind_as.trans ?_
    refine bind_cg fun x2 hx2 => ?_
    show mm_run G0 160 120 [some (.ref 84), some (.int v1), some (.int v2), some (.int v3), some (.int v4), some (.int v5), none] [.int (imin x1 (imax 0 (((v4 + v5) - 2) - x2)))] (HP I A L F E) = _
    refine (sg_go ht_X8_equations (k := 3) (pc' := 125) (L' := [some (.ref 84), some (.int v1), some (.int v2), some (.int v3), some (.int v4), some (.int v5), some (.int (imin x1 (imax 0 (((v4 + v5) - 2) - x2))))]) (st' := [.int v3, .int (imin x1 (imax 0 (((v4 + v5) - 2) - x2)))]) (h' := (HP I A L F E)) rfl).trans ?_
    refine (sg_cmp ht_X8_equations rfl).trans ?_
    refine ite_congr rfl (fun _ => ?_) (fun _ => ?_)
    · refine (sg_go ht_X8_equations (k := 2) (pc' := 105) (L' := [some (.ref 84), some (.int v1), some (.int v2), some (.int v3), some (.int v4), some (.int (v5 + 1)), some (.int (imin x1 (imax 0 (((v4 + v5) - 2) - x2))))]) (st' := []) (h' := (HP I A L F E)) rfl).trans ?_
      rfl
    · refine (sg_go ht_X8_equations (k := 3) (pc' := 134) (L' := [some (.ref 84), some (.int v1), some (.int v2), some (.int v3), some (.int v4), some (.int v5), some (.int (imin x1 (imax 0 (((v4 + v5) - 2) - x2))))]) (st' := [.int v4, .ref 95]) (h' := (HP I A L F E)) rfl).trans ?_
      refine (sg_ldR ht_X8_equations rfl hp_o_95).trans ?_
      refine bind_cg fun a3 ha3 => ?_
      have ha3 := in_95 ha3
      refine (sg_go ht_X8_equations (k := 2) (pc' := 138) (L' := [some (.ref 84), some (.int v1), some (.int v2), some (.int v3), some (.int v4), some (.int v5), some (.int (imin x1 (imax 0 (((v4 + v5) - 2) - x2))))]) (st' := [.int (imin x1 (imax 0 (((v4 + v5) - 2) - x2))), .ref a3, .int (imin x1 (imax 0 (((v4 + v5) - 2) - x2))), .ref a3]) (h' := (HP I A L F E)) rfl).trans ?_
      refine (sg_ldL ht_X8_equations rfl (sMr_obj ha3)).trans ?_
      refine bind_cg fun x4 hx4 => ?_
      refine (sg_go ht_X8_equations (k := 5) (pc' := 149) (L' := [some (.ref 84), some (.int v1), some (.int v2), some (.int v3), some (.int v4), some (.int v5), some (.int (imin x1 (imax 0 (((v4 + v5) - 2) - x2))))]) (st' := [.int (180 + v5), .ref 85, .long x4, .int (imin x1 (imax 0 (((v4 + v5) - 2) - x2))), .ref a3]) (h' := (HP I A L F E)) rfl).trans ?_
      refine (sg_ldI ht_X8_equations rfl hp_o_85).trans ?_
      refine bind_cg fun x5 hx5 => ?_
      refine (sg_go ht_X8_equations (k := 2) (pc' := 152) (L' := [some (.ref 84), some (.int v1), some (.int v2), some (.int v3), some (.int v4), some (.int v5), some (.int (imin x1 (imax 0 (((v4 + v5) - 2) - x2))))]) (st' := [.long (x4 - (x5).toInt64), .int (imin x1 (imax 0 (((v4 + v5) - 2) - x2))), .ref a3]) (h' := (HP I A L F E)) rfl).trans ?_
      refine (sg_stL (hh := fun X6 => (HP I A (fu L a3 X6) F E)) ht_X8_equations rfl (sMr_obj ha3) (fun _ => sMr_ast ha3)).trans ?_
      refine bind_cg fun X6 hX6 => ?_
      refine (sg_go ht_X8_equations (k := 2) (pc' := 105) (L' := [some (.ref 84), some (.int v1), some (.int v2), some (.int v3), some (.int v4), some (.int (v5 + 1)), some (.int (imin x1 (imax 0 (((v4 + v5) - 2) - x2))))]) (st' := []) (h' := (HP I A (fu L a3 X6) F E)) rfl).trans ?_
      rfl
set_option maxRecDepth 20000 in
theorem sg_X8_equations_105_v1 {I : Nat → Int32} {A : Nat → List Int32} {L : Nat → List Int64} {F : Nat → Int64} {E : MH} (v1 : Int32) (v2 : Int32) (v3 : Int32) (v4 : Int32) (v5 : Int32) (o6 : Int32) : mm_run G0 160 105 [some (.ref 84), some (.int v1), some (.int v2), some (.int v3), some (.int v4), some (.int v5), some (.int o6)] [] (HP I A L F E) = (if 5 ≤ v5 then mm_run G0 160 15 [some (.ref 84), some (.int v1), some (.int v2), some (.int v3), some (.int (v4 + 1)), some (.int v5), some (.int o6)] [] (HP I A L F E) else ((ldI (A 85) ((45 * v1) + 3)).bind fun x1 => ((ldI (A 85) ((45 * v1) + 2)).bind fun x2 => (if v3 ≤ (imin x1 (imax 0 (((v4 + v5) - 2) - x2))) then mm_run G0 160 105 [some (.ref 84), some (.int v1), some (.int v2), some (.int v3), some (.int v4), some (.int (v5 + 1)), some (.int (imin x1 (imax 0 (((v4 + v5) - 2) - x2))))] [] (HP I A L F E) else ((ldR [some 96, some 97, some 98, some 99, some 100, some 101] v4).bind fun a3 => ((ldL (L a3) (imin x1 (imax 0 (((v4 + v5) - 2) - x2)))).bind fun x4 => ((ldI (A 85) (180 + v5)).bind fun x5 => ((stL (L a3) (imin x1 (imax 0 (((v4 + v5) - 2) - x2))) (x4 - (x5).toInt64)).bind fun X6 => mm_run G0 160 105 [some (.ref 84), some (.int v1), some (.int v2), some (.int v3), some (.int v4), some (.int (v5 + 1)), some (.int (imin x1 (imax 0 (((v4 + v5) - 2) - x2))))] [] (HP I A (fu L a3 X6) F E))))))))) := by
  refine (sg_go ht_X8_equations (k := 2) (pc' := 108) (L' := [some (.ref 84), some (.int v1), some (.int v2), some (.int v3), some (.int v4), some (.int v5), some (.int o6)]) (st' := [.int 5, .int v5]) (h' := (HP I A L F E)) rfl).trans ?_
  refine (sg_cmp ht_X8_equations rfl).trans ?_
  refine ite_congr rfl (fun _ => ?_) (fun _ => ?_)
  · refine (sg_go ht_X8_equations (k := 2) (pc' := 15) (L' := [some (.ref 84), some (.int v1), some (.int v2), some (.int v3), some (.int (v4 + 1)), some (.int v5), some (.int o6)]) (st' := []) (h' := (HP I A L F E)) rfl).trans ?_
    rfl
  · refine (sg_go ht_X8_equations (k := 4) (pc' := 117) (L' := [some (.ref 84), some (.int v1), some (.int v2), some (.int v3), some (.int v4), some (.int v5), some (.int o6)]) (st' := [.int v5, .int v4, .int v1, .ref 84]) (h' := (HP I A L F E)) rfl).trans ?_
    refine (sg_call ht_X8_equations (mj := 157) (as := [.ref 84, .int v1, .int v4, .int v5]) (rest := []) rfl rfl ⟨by decide, Nat.le_of_ble_eq_true rfl⟩).trans ?_
    refine (bind_eq (sg_X8_leads_0 v1 v4 v5)).trans ?_
    refine bind_as.trans ?_
    refine bind_cg fun x1 hx1 => ?_
    refine bind_as.trans ?_
    refine bind_cg fun x2 hx2 => ?_
    show mm_run G0 160 120 [some (.ref 84), some (.int v1), some (.int v2), some (.int v3), some (.int v4), some (.int v5), some (.int o6)] [.int (imin x1 (imax 0 (((v4 + v5) - 2) - x2)))] (HP I A L F E) = _
    refine (sg_go ht_X8_equations (k := 3) (pc' := 125) (L' := [some (.ref 84), some (.int v1), some (.int v2), some (.int v3), some (.int v4), some (.int v5), some (.int (imin x1 (imax 0 (((v4 + v5) - 2) - x2))))]) (st' := [.int v3, .int (imin x1 (imax 0 (((v4 + v5) - 2) - x2)))]) (h' := (HP I A L F E)) rfl).trans ?_
    refine (sg_cmp ht_X8_equations rfl).trans ?_
    refine ite_congr rfl (fun _ => ?_) (fun _ => ?_)
    · refine (sg_go ht_X8_equations (k := 2) (pc' := 105) (L' := [some (.ref 84), some (.int v1), some (.int v2), some (.int v3), some (.int v4), some (.int (v5 + 1)), some (.int (imin x1 (imax 0 (((v4 + v5) - 2) - x2))))]) (st' := []) (h' := (HP I A L F E)) rfl).trans ?_
      rfl
    · refine (sg_go ht_X8_equations (k := 3) (pc' := 134) (L' := [some (.ref 84), some (.int v1), some (.int v2), some (.int v3), some (.int v4), some (.int v5), some (.int (imin x1 (imax 0 (((v4 + v5) - 2) - x2))))]) (st' := [.int v4, .ref 95]) (h' := (HP I A L F E)) rfl).trans ?_
      refine (sg_ldR ht_X8_equations rfl hp_o_95).trans ?_
      refine bind_cg fun a3 ha3 => ?_
      have ha3 := in_95 ha3
      refine (sg_go ht_X8_equations (k := 2) (pc' := 138) (L' := [some (.ref 84), some (.int v1), some (.int v2), some (.int v3), some (.int v4), some (.int v5), some (.int (imin x1 (imax 0 (((v4 + v5) - 2) - x2))))]) (st' := [.int (imin x1 (imax 0 (((v4 + v5) - 2) - x2))), .ref a3, .int (imin x1 (imax 0 (((v4 + v5) - 2) - x2))), .ref a3]) (h' := (HP I A L F E)) rfl).trans ?_
      refine (sg_ldL ht_X8_equations rfl (sMr_obj ha3)).trans ?_
      refine bind_cg fun x4 hx4 => ?_
      refine (sg_go ht_X8_equations (k := 5) (pc' := 149) (L' := [some (.ref 84), some (.int v1), some (.int v2), some (.int v3), some (.int v4), some (.int v5), some (.int (imin x1 (imax 0 (((v4 + v5) - 2) - x2))))]) (st' := [.int (180 + v5), .ref 85, .long x4, .int (imin x1 (imax 0 (((v4 + v5) - 2) - x2))), .ref a3]) (h' := (HP I A L F E)) rfl).trans ?_
      refine (sg_ldI ht_X8_equations rfl hp_o_85).trans ?_
      refine bind_cg fun x5 hx5 => ?_
      refine (sg_go ht_X8_equations (k := 2) (pc' := 152) (L' := [some (.ref 84), some (.int v1), some (.int v2), some (.int v3), some (.int v4), some (.int v5), some (.int (imin x1 (imax 0 (((v4 + v5) - 2) - x2))))]) (st' := [.long (x4 - (x5).toInt64), .int (imin x1 (imax 0 (((v4 + v5) - 2) - x2))), .ref a3]) (h' := (HP I A L F E)) rfl).trans ?_
      refine (sg_stL (hh := fun X6 => (HP I A (fu L a3 X6) F E)) ht_X8_equations rfl (sMr_obj ha3) (fun _ => sMr_ast ha3)).trans ?_
      refine bind_cg fun X6 hX6 => ?_
      refine (sg_go ht_X8_equations (k := 2) (pc' := 105) (L' := [some (.ref 84), some (.int v1), some (.int v2), some (.int v3), some (.int v4), some (.int (v5 + 1)), some (.int (imin x1 (imax 0 (((v4 + v5) - 2) - x2))))]) (st' := []) (h' := (HP I A (fu L a3 X6) F E)) rfl).trans ?_
      rfl
theorem sg_X8_equations_105 {I : Nat → Int32} {A : Nat → List Int32} {L : Nat → List Int64} {F : Nat → Int64} {E : MH} (v1 : Int32) (v2 : Int32) (v3 : Int32) (v4 : Int32) (v5 : Int32) (o6 : Option Int32) : mm_run G0 160 105 [some (.ref 84), some (.int v1), some (.int v2), some (.int v3), some (.int v4), some (.int v5), (o6.map Value.int)] [] (HP I A L F E) = (if 5 ≤ v5 then mm_run G0 160 15 [some (.ref 84), some (.int v1), some (.int v2), some (.int v3), some (.int (v4 + 1)), some (.int v5), (o6.map Value.int)] [] (HP I A L F E) else ((ldI (A 85) ((45 * v1) + 3)).bind fun x1 => ((ldI (A 85) ((45 * v1) + 2)).bind fun x2 => (if v3 ≤ (imin x1 (imax 0 (((v4 + v5) - 2) - x2))) then mm_run G0 160 105 [some (.ref 84), some (.int v1), some (.int v2), some (.int v3), some (.int v4), some (.int (v5 + 1)), some (.int (imin x1 (imax 0 (((v4 + v5) - 2) - x2))))] [] (HP I A L F E) else ((ldR [some 96, some 97, some 98, some 99, some 100, some 101] v4).bind fun a3 => ((ldL (L a3) (imin x1 (imax 0 (((v4 + v5) - 2) - x2)))).bind fun x4 => ((ldI (A 85) (180 + v5)).bind fun x5 => ((stL (L a3) (imin x1 (imax 0 (((v4 + v5) - 2) - x2))) (x4 - (x5).toInt64)).bind fun X6 => mm_run G0 160 105 [some (.ref 84), some (.int v1), some (.int v2), some (.int v3), some (.int v4), some (.int (v5 + 1)), some (.int (imin x1 (imax 0 (((v4 + v5) - 2) - x2))))] [] (HP I A (fu L a3 X6) F E))))))))) := by
  match o6 with
  | none => exact sg_X8_equations_105_v0 v1 v2 v3 v4 v5
  | some o6 => exact sg_X8_equations_105_v1 v1 v2 v3 v4 v5 o6
set_option maxRecDepth 20000 in
theorem sg_X8_swaps_0 {I : Nat → Int32} {A : Nat → List Int32} {L : Nat → List Int64} {F : Nat → Int64} {E : MH} (p1 : Int32) (p2 : Int32) (p3 : Int32) : mm_call G0 161 [.ref 84, .int p1, .int p2, .int p3] (HP I A L F E) = mm_run G0 161 3 [some (.ref 84), some (.int p1), some (.int p2), some (.int p3), some (.int 0), none, none] [] (HP I A L F E) := by
  show mm_run G0 161 0 [some (.ref 84), some (.int p1), some (.int p2), some (.int p3), none, none, none] [] (HP I A L F E) = _
  refine (sg_go ht_X8_swaps (k := 2) (pc' := 3) (L' := [some (.ref 84), some (.int p1), some (.int p2), some (.int p3), some (.int 0), none, none]) (st' := []) (h' := (HP I A L F E)) rfl).trans ?_
  rfl
set_option maxRecDepth 20000 in
theorem sg_X8_swaps_3_v0 {I : Nat → Int32} {A : Nat → List Int32} {L : Nat → List Int64} {F : Nat → Int64} {E : MH} (v1 : Int32) (v2 : Int32) (v3 : Int32) (v4 : Int32) : mm_run G0 161 3 [some (.ref 84), some (.int v1), some (.int v2), some (.int v3), some (.int v4), none, none] [] (HP I A L F E) = (if v3 < v4 then some (none, (HP I A L F E)) else ((ldR [some 96, some 97, some 98, some 99, some 100, some 101] v1).bind fun a1 => ((ldL (L a1) v4).bind fun x2 => ((ldR [some 96, some 97, some 98, some 99, some 100, some 101] v1).bind fun a3 => ((ldR [some 96, some 97, some 98, some 99, some 100, some 101] v2).bind fun a4 => ((ldL (L a4) v4).bind fun x5 => ((stL (L a3) v4 x5).bind fun X6 => ((ldR [some 96, some 97, some 98, some 99, some 100, some 101] v2).bind fun a7 => ((stL ((fu L a3 X6) a7) v4 x2).bind fun X8 => mm_run G0 161 3 [some (.ref 84), some (.int v1), some (.int v2), some (.int v3), some (.int (v4 + 1)), some (.long x2), none] [] (HP I A (fu (fu L a3 X6) a7 X8) F E)))))))))) := by
  refine (sg_go ht_X8_swaps (k := 2) (pc' := 6) (L' := [some (.ref 84), some (.int v1), some (.int v2), some (.int v3), some (.int v4), none, none]) (st' := [.int v3, .int v4]) (h' := (HP I A L F E)) rfl).trans ?_
  refine (sg_cmp ht_X8_swaps rfl).trans ?_
  refine ite_congr rfl (fun _ => ?_) (fun _ => ?_)
  · exact sg_ret ht_X8_swaps rfl rfl
  · refine (sg_go ht_X8_swaps (k := 3) (pc' := 14) (L' := [some (.ref 84), some (.int v1), some (.int v2), some (.int v3), some (.int v4), none, none]) (st' := [.int v1, .ref 95]) (h' := (HP I A L F E)) rfl).trans ?_
    refine (sg_ldR ht_X8_swaps rfl hp_o_95).trans ?_
    refine bind_cg fun a1 ha1 => ?_
    have ha1 := in_95 ha1
    refine (sg_go ht_X8_swaps (k := 1) (pc' := 17) (L' := [some (.ref 84), some (.int v1), some (.int v2), some (.int v3), some (.int v4), none, none]) (st' := [.int v4, .ref a1]) (h' := (HP I A L F E)) rfl).trans ?_
    refine (sg_ldL ht_X8_swaps rfl (sMr_obj ha1)).trans ?_
    refine bind_cg fun x2 hx2 => ?_
    refine (sg_go ht_X8_swaps (k := 4) (pc' := 25) (L' := [some (.ref 84), some (.int v1), some (.int v2), some (.int v3), some (.int v4), some (.long x2), none]) (st' := [.int v1, .ref 95]) (h' := (HP I A L F E)) rfl).trans ?_
    refine (sg_ldR ht_X8_swaps rfl hp_o_95).trans ?_
    refine bind_cg fun a3 ha3 => ?_
    have ha3 := in_95 ha3
    refine (sg_go ht_X8_swaps (k := 4) (pc' := 33) (L' := [some (.ref 84), some (.int v1), some (.int v2), some (.int v3), some (.int v4), some (.long x2), none]) (st' := [.int v2, .ref 95, .int v4, .ref a3]) (h' := (HP I A L F E)) rfl).trans ?_
    refine (sg_ldR ht_X8_swaps rfl hp_o_95).trans ?_
    refine bind_cg fun a4 ha4 => ?_
    have ha4 := in_95 ha4
    refine (sg_go ht_X8_swaps (k := 1) (pc' := 36) (L' := [some (.ref 84), some (.int v1), some (.int v2), some (.int v3), some (.int v4), some (.long x2), none]) (st' := [.int v4, .ref a4, .int v4, .ref a3]) (h' := (HP I A L F E)) rfl).trans ?_
    refine (sg_ldL ht_X8_swaps rfl (sMr_obj ha4)).trans ?_
    refine bind_cg fun x5 hx5 => ?_
    refine (sg_stL (hh := fun X6 => (HP I A (fu L a3 X6) F E)) ht_X8_swaps rfl (sMr_obj ha3) (fun _ => sMr_ast ha3)).trans ?_
    refine bind_cg fun X6 hX6 => ?_
    refine (sg_go ht_X8_swaps (k := 3) (pc' := 43) (L' := [some (.ref 84), some (.int v1), some (.int v2), some (.int v3), some (.int v4), some (.long x2), none]) (st' := [.int v2, .ref 95]) (h' := (HP I A (fu L a3 X6) F E)) rfl).trans ?_
    refine (sg_ldR ht_X8_swaps rfl hp_o_95).trans ?_
    refine bind_cg fun a7 ha7 => ?_
    have ha7 := in_95 ha7
    refine (sg_go ht_X8_swaps (k := 2) (pc' := 48) (L' := [some (.ref 84), some (.int v1), some (.int v2), some (.int v3), some (.int v4), some (.long x2), none]) (st' := [.long x2, .int v4, .ref a7]) (h' := (HP I A (fu L a3 X6) F E)) rfl).trans ?_
    refine (sg_stL (hh := fun X8 => (HP I A (fu (fu L a3 X6) a7 X8) F E)) ht_X8_swaps rfl (sMr_obj ha7) (fun _ => sMr_ast ha7)).trans ?_
    refine bind_cg fun X8 hX8 => ?_
    refine (sg_go ht_X8_swaps (k := 2) (pc' := 3) (L' := [some (.ref 84), some (.int v1), some (.int v2), some (.int v3), some (.int (v4 + 1)), some (.long x2), none]) (st' := []) (h' := (HP I A (fu (fu L a3 X6) a7 X8) F E)) rfl).trans ?_
    rfl
set_option maxRecDepth 20000 in
theorem sg_X8_swaps_3_v1 {I : Nat → Int32} {A : Nat → List Int32} {L : Nat → List Int64} {F : Nat → Int64} {E : MH} (v1 : Int32) (v2 : Int32) (v3 : Int32) (v4 : Int32) (o5 : Int64) : mm_run G0 161 3 [some (.ref 84), some (.int v1), some (.int v2), some (.int v3), some (.int v4), some (.long o5), none] [] (HP I A L F E) = (if v3 < v4 then some (none, (HP I A L F E)) else ((ldR [some 96, some 97, some 98, some 99, some 100, some 101] v1).bind fun a1 => ((ldL (L a1) v4).bind fun x2 => ((ldR [some 96, some 97, some 98, some 99, some 100, some 101] v1).bind fun a3 => ((ldR [some 96, some 97, some 98, some 99, some 100, some 101] v2).bind fun a4 => ((ldL (L a4) v4).bind fun x5 => ((stL (L a3) v4 x5).bind fun X6 => ((ldR [some 96, some 97, some 98, some 99, some 100, some 101] v2).bind fun a7 => ((stL ((fu L a3 X6) a7) v4 x2).bind fun X8 => mm_run G0 161 3 [some (.ref 84), some (.int v1), some (.int v2), some (.int v3), some (.int (v4 + 1)), some (.long x2), none] [] (HP I A (fu (fu L a3 X6) a7 X8) F E)))))))))) := by
  refine (sg_go ht_X8_swaps (k := 2) (pc' := 6) (L' := [some (.ref 84), some (.int v1), some (.int v2), some (.int v3), some (.int v4), some (.long o5), none]) (st' := [.int v3, .int v4]) (h' := (HP I A L F E)) rfl).trans ?_
  refine (sg_cmp ht_X8_swaps rfl).trans ?_
  refine ite_congr rfl (fun _ => ?_) (fun _ => ?_)
  · exact sg_ret ht_X8_swaps rfl rfl
  · refine (sg_go ht_X8_swaps (k := 3) (pc' := 14) (L' := [some (.ref 84), some (.int v1), some (.int v2), some (.int v3), some (.int v4), some (.long o5), none]) (st' := [.int v1, .ref 95]) (h' := (HP I A L F E)) rfl).trans ?_
    refine (sg_ldR ht_X8_swaps rfl hp_o_95).trans ?_
    refine bind_cg fun a1 ha1 => ?_
    have ha1 := in_95 ha1
    refine (sg_go ht_X8_swaps (k := 1) (pc' := 17) (L' := [some (.ref 84), some (.int v1), some (.int v2), some (.int v3), some (.int v4), some (.long o5), none]) (st' := [.int v4, .ref a1]) (h' := (HP I A L F E)) rfl).trans ?_
    refine (sg_ldL ht_X8_swaps rfl (sMr_obj ha1)).trans ?_
    refine bind_cg fun x2 hx2 => ?_
    refine (sg_go ht_X8_swaps (k := 4) (pc' := 25) (L' := [some (.ref 84), some (.int v1), some (.int v2), some (.int v3), some (.int v4), some (.long x2), none]) (st' := [.int v1, .ref 95]) (h' := (HP I A L F E)) rfl).trans ?_
    refine (sg_ldR ht_X8_swaps rfl hp_o_95).trans ?_
    refine bind_cg fun a3 ha3 => ?_
    have ha3 := in_95 ha3
    refine (sg_go ht_X8_swaps (k := 4) (pc' := 33) (L' := [some (.ref 84), some (.int v1), some (.int v2), some (.int v3), some (.int v4), some (.long x2), none]) (st' := [.int v2, .ref 95, .int v4, .ref a3]) (h' := (HP I A L F E)) rfl).trans ?_
    refine (sg_ldR ht_X8_swaps rfl hp_o_95).trans ?_
    refine bind_cg fun a4 ha4 => ?_
    have ha4 := in_95 ha4
    refine (sg_go ht_X8_swaps (k := 1) (pc' := 36) (L' := [some (.ref 84), some (.int v1), some (.int v2), some (.int v3), some (.int v4), some (.long x2), none]) (st' := [.int v4, .ref a4, .int v4, .ref a3]) (h' := (HP I A L F E)) rfl).trans ?_
    refine (sg_ldL ht_X8_swaps rfl (sMr_obj ha4)).trans ?_
    refine bind_cg fun x5 hx5 => ?_
    refine (sg_stL (hh := fun X6 => (HP I A (fu L a3 X6) F E)) ht_X8_swaps rfl (sMr_obj ha3) (fun _ => sMr_ast ha3)).trans ?_
    refine bind_cg fun X6 hX6 => ?_
    refine (sg_go ht_X8_swaps (k := 3) (pc' := 43) (L' := [some (.ref 84), some (.int v1), some (.int v2), some (.int v3), some (.int v4), some (.long x2), none]) (st' := [.int v2, .ref 95]) (h' := (HP I A (fu L a3 X6) F E)) rfl).trans ?_
    refine (sg_ldR ht_X8_swaps rfl hp_o_95).trans ?_
    refine bind_cg fun a7 ha7 => ?_
    have ha7 := in_95 ha7
    refine (sg_go ht_X8_swaps (k := 2) (pc' := 48) (L' := [some (.ref 84), some (.int v1), some (.int v2), some (.int v3), some (.int v4), some (.long x2), none]) (st' := [.long x2, .int v4, .ref a7]) (h' := (HP I A (fu L a3 X6) F E)) rfl).trans ?_
    refine (sg_stL (hh := fun X8 => (HP I A (fu (fu L a3 X6) a7 X8) F E)) ht_X8_swaps rfl (sMr_obj ha7) (fun _ => sMr_ast ha7)).trans ?_
    refine bind_cg fun X8 hX8 => ?_
    refine (sg_go ht_X8_swaps (k := 2) (pc' := 3) (L' := [some (.ref 84), some (.int v1), some (.int v2), some (.int v3), some (.int (v4 + 1)), some (.long x2), none]) (st' := []) (h' := (HP I A (fu (fu L a3 X6) a7 X8) F E)) rfl).trans ?_
    rfl
theorem sg_X8_swaps_3 {I : Nat → Int32} {A : Nat → List Int32} {L : Nat → List Int64} {F : Nat → Int64} {E : MH} (v1 : Int32) (v2 : Int32) (v3 : Int32) (v4 : Int32) (o5 : Option Int64) : mm_run G0 161 3 [some (.ref 84), some (.int v1), some (.int v2), some (.int v3), some (.int v4), (o5.map Value.long), none] [] (HP I A L F E) = (if v3 < v4 then some (none, (HP I A L F E)) else ((ldR [some 96, some 97, some 98, some 99, some 100, some 101] v1).bind fun a1 => ((ldL (L a1) v4).bind fun x2 => ((ldR [some 96, some 97, some 98, some 99, some 100, some 101] v1).bind fun a3 => ((ldR [some 96, some 97, some 98, some 99, some 100, some 101] v2).bind fun a4 => ((ldL (L a4) v4).bind fun x5 => ((stL (L a3) v4 x5).bind fun X6 => ((ldR [some 96, some 97, some 98, some 99, some 100, some 101] v2).bind fun a7 => ((stL ((fu L a3 X6) a7) v4 x2).bind fun X8 => mm_run G0 161 3 [some (.ref 84), some (.int v1), some (.int v2), some (.int v3), some (.int (v4 + 1)), some (.long x2), none] [] (HP I A (fu (fu L a3 X6) a7 X8) F E)))))))))) := by
  match o5 with
  | none => exact sg_X8_swaps_3_v0 v1 v2 v3 v4
  | some o5 => exact sg_X8_swaps_3_v1 v1 v2 v3 v4 o5
set_option maxRecDepth 20000 in
theorem sg_X8_clears_0 {I : Nat → Int32} {A : Nat → List Int32} {L : Nat → List Int64} {F : Nat → Int64} {E : MH} (p1 : Int32) : mm_call G0 162 [.ref 84, .int p1] (HP I A L F E) = mm_run G0 162 2 [some (.ref 84), some (.int p1), some (.int 0), none, none, none, none, none, none, none, none, none] [] (HP I A L F E) := by
  show mm_run G0 162 0 [some (.ref 84), some (.int p1), none, none, none, none, none, none, none, none, none, none] [] (HP I A L F E) = _
  refine (sg_go ht_X8_clears (k := 2) (pc' := 2) (L' := [some (.ref 84), some (.int p1), some (.int 0), none, none, none, none, none, none, none, none, none]) (st' := []) (h' := (HP I A L F E)) rfl).trans ?_
  rfl
set_option maxRecDepth 20000 in
theorem sg_X8_clears_2_v000000 {I : Nat → Int32} {A : Nat → List Int32} {L : Nat → List Int64} {F : Nat → Int64} {E : MH} (v1 : Int32) (v2 : Int32) : mm_run G0 162 2 [some (.ref 84), some (.int v1), some (.int v2), none, none, none, none, none, none, none, none, none] [] (HP I A L F E) = (if v1 ≤ v2 then some (none, (HP I A L F E)) else mm_run G0 162 9 [some (.ref 84), some (.int v1), some (.int v2), some (.int v2), none, none, none, none, none, none, none, none] [] (HP I A L F E)) := by
  refine (sg_go ht_X8_clears (k := 2) (pc' := 4) (L' := [some (.ref 84), some (.int v1), some (.int v2), none, none, none, none, none, none, none, none, none]) (st' := [.int v1, .int v2]) (h' := (HP I A L F E)) rfl).trans ?_
  refine (sg_cmp ht_X8_clears rfl).trans ?_
  refine ite_congr rfl (fun _ => ?_) (fun _ => ?_)
  · exact sg_ret ht_X8_clears rfl rfl
  · refine (sg_go ht_X8_clears (k := 2) (pc' := 9) (L' := [some (.ref 84), some (.int v1), some (.int v2), some (.int v2), none, none, none, none, none, none, none, none]) (st' := []) (h' := (HP I A L F E)) rfl).trans ?_
    rfl
set_option maxRecDepth 20000 in
theorem sg_X8_clears_2_v000001 {I : Nat → Int32} {A : Nat → List Int32} {L : Nat → List Int64} {F : Nat → Int64} {E : MH} (v1 : Int32) (v2 : Int32) (o11 : Int32) : mm_run G0 162 2 [some (.ref 84), some (.int v1), some (.int v2), none, none, none, none, none, none, none, none, some (.int o11)] [] (HP I A L F E) = (if v1 ≤ v2 then some (none, (HP I A L F E)) else mm_run G0 162 9 [some (.ref 84), some (.int v1), some (.int v2), some (.int v2), none, none, none, none, none, none, none, some (.int o11)] [] (HP I A L F E)) := by
  refine (sg_go ht_X8_clears (k := 2) (pc' := 4) (L' := [some (.ref 84), some (.int v1), some (.int v2), none, none, none, none, none, none, none, none, some (.int o11)]) (st' := [.int v1, .int v2]) (h' := (HP I A L F E)) rfl).trans ?_
  refine (sg_cmp ht_X8_clears rfl).trans ?_
  refine ite_congr rfl (fun _ => ?_) (fun _ => ?_)
  · exact sg_ret ht_X8_clears rfl rfl
  · refine (sg_go ht_X8_clears (k := 2) (pc' := 9) (L' := [some (.ref 84), some (.int v1), some (.int v2), some (.int v2), none, none, none, none, none, none, none, some (.int o11)]) (st' := []) (h' := (HP I A L F E)) rfl).trans ?_
    rfl
set_option maxRecDepth 20000 in
theorem sg_X8_clears_2_v000010 {I : Nat → Int32} {A : Nat → List Int32} {L : Nat → List Int64} {F : Nat → Int64} {E : MH} (v1 : Int32) (v2 : Int32) (o9 : Int64) : mm_run G0 162 2 [some (.ref 84), some (.int v1), some (.int v2), none, none, none, none, none, none, some (.long o9), none, none] [] (HP I A L F E) = (if v1 ≤ v2 then some (none, (HP I A L F E)) else mm_run G0 162 9 [some (.ref 84), some (.int v1), some (.int v2), some (.int v2), none, none, none, none, none, some (.long o9), none, none] [] (HP I A L F E)) := by
  refine (sg_go ht_X8_clears (k := 2) (pc' := 4) (L' := [some (.ref 84), some (.int v1), some (.int v2), none, none, none, none, none, none, some (.long o9), none, none]) (st' := [.int v1, .int v2]) (h' := (HP I A L F E)) rfl).trans ?_
  refine (sg_cmp ht_X8_clears rfl).trans ?_
  refine ite_congr rfl (fun _ => ?_) (fun _ => ?_)
  · exact sg_ret ht_X8_clears rfl rfl
  · refine (sg_go ht_X8_clears (k := 2) (pc' := 9) (L' := [some (.ref 84), some (.int v1), some (.int v2), some (.int v2), none, none, none, none, none, some (.long o9), none, none]) (st' := []) (h' := (HP I A L F E)) rfl).trans ?_
    rfl
set_option maxRecDepth 20000 in
theorem sg_X8_clears_2_v000011 {I : Nat → Int32} {A : Nat → List Int32} {L : Nat → List Int64} {F : Nat → Int64} {E : MH} (v1 : Int32) (v2 : Int32) (o9 : Int64) (o11 : Int32) : mm_run G0 162 2 [some (.ref 84), some (.int v1), some (.int v2), none, none, none, none, none, none, some (.long o9), none, some (.int o11)] [] (HP I A L F E) = (if v1 ≤ v2 then some (none, (HP I A L F E)) else mm_run G0 162 9 [some (.ref 84), some (.int v1), some (.int v2), some (.int v2), none, none, none, none, none, some (.long o9), none, some (.int o11)] [] (HP I A L F E)) := by
  refine (sg_go ht_X8_clears (k := 2) (pc' := 4) (L' := [some (.ref 84), some (.int v1), some (.int v2), none, none, none, none, none, none, some (.long o9), none, some (.int o11)]) (st' := [.int v1, .int v2]) (h' := (HP I A L F E)) rfl).trans ?_
  refine (sg_cmp ht_X8_clears rfl).trans ?_
  refine ite_congr rfl (fun _ => ?_) (fun _ => ?_)
  · exact sg_ret ht_X8_clears rfl rfl
  · refine (sg_go ht_X8_clears (k := 2) (pc' := 9) (L' := [some (.ref 84), some (.int v1), some (.int v2), some (.int v2), none, none, none, none, none, some (.long o9), none, some (.int o11)]) (st' := []) (h' := (HP I A L F E)) rfl).trans ?_
    rfl
set_option maxRecDepth 20000 in
theorem sg_X8_clears_2_v000100 {I : Nat → Int32} {A : Nat → List Int32} {L : Nat → List Int64} {F : Nat → Int64} {E : MH} (v1 : Int32) (v2 : Int32) (o7 : Int64) : mm_run G0 162 2 [some (.ref 84), some (.int v1), some (.int v2), none, none, none, none, some (.long o7), none, none, none, none] [] (HP I A L F E) = (if v1 ≤ v2 then some (none, (HP I A L F E)) else mm_run G0 162 9 [some (.ref 84), some (.int v1), some (.int v2), some (.int v2), none, none, none, some (.long o7), none, none, none, none] [] (HP I A L F E)) := by
  refine (sg_go ht_X8_clears (k := 2) (pc' := 4) (L' := [some (.ref 84), some (.int v1), some (.int v2), none, none, none, none, some (.long o7), none, none, none, none]) (st' := [.int v1, .int v2]) (h' := (HP I A L F E)) rfl).trans ?_
  refine (sg_cmp ht_X8_clears rfl).trans ?_
  refine ite_congr rfl (fun _ => ?_) (fun _ => ?_)
  · exact sg_ret ht_X8_clears rfl rfl
  · refine (sg_go ht_X8_clears (k := 2) (pc' := 9) (L' := [some (.ref 84), some (.int v1), some (.int v2), some (.int v2), none, none, none, some (.long o7), none, none, none, none]) (st' := []) (h' := (HP I A L F E)) rfl).trans ?_
    rfl
set_option maxRecDepth 20000 in
theorem sg_X8_clears_2_v000101 {I : Nat → Int32} {A : Nat → List Int32} {L : Nat → List Int64} {F : Nat → Int64} {E : MH} (v1 : Int32) (v2 : Int32) (o7 : Int64) (o11 : Int32) : mm_run G0 162 2 [some (.ref 84), some (.int v1), some (.int v2), none, none, none, none, some (.long o7), none, none, none, some (.int o11)] [] (HP I A L F E) = (if v1 ≤ v2 then some (none, (HP I A L F E)) else mm_run G0 162 9 [some (.ref 84), some (.int v1), some (.int v2), some (.int v2), none, none, none, some (.long o7), none, none, none, some (.int o11)] [] (HP I A L F E)) := by
  refine (sg_go ht_X8_clears (k := 2) (pc' := 4) (L' := [some (.ref 84), some (.int v1), some (.int v2), none, none, none, none, some (.long o7), none, none, none, some (.int o11)]) (st' := [.int v1, .int v2]) (h' := (HP I A L F E)) rfl).trans ?_
  refine (sg_cmp ht_X8_clears rfl).trans ?_
  refine ite_congr rfl (fun _ => ?_) (fun _ => ?_)
  · exact sg_ret ht_X8_clears rfl rfl
  · refine (sg_go ht_X8_clears (k := 2) (pc' := 9) (L' := [some (.ref 84), some (.int v1), some (.int v2), some (.int v2), none, none, none, some (.long o7), none, none, none, some (.int o11)]) (st' := []) (h' := (HP I A L F E)) rfl).trans ?_
    rfl
set_option maxRecDepth 20000 in
theorem sg_X8_clears_2_v000110 {I : Nat → Int32} {A : Nat → List Int32} {L : Nat → List Int64} {F : Nat → Int64} {E : MH} (v1 : Int32) (v2 : Int32) (o7 : Int64) (o9 : Int64) : mm_run G0 162 2 [some (.ref 84), some (.int v1), some (.int v2), none, none, none, none, some (.long o7), none, some (.long o9), none, none] [] (HP I A L F E) = (if v1 ≤ v2 then some (none, (HP I A L F E)) else mm_run G0 162 9 [some (.ref 84), some (.int v1), some (.int v2), some (.int v2), none, none, none, some (.long o7), none, some (.long o9), none, none] [] (HP I A L F E)) := by
  refine (sg_go ht_X8_clears (k := 2) (pc' := 4) (L' := [some (.ref 84), some (.int v1), some (.int v2), none, none, none, none, some (.long o7), none, some (.long o9), none, none]) (st' := [.int v1, .int v2]) (h' := (HP I A L F E)) rfl).trans ?_
  refine (sg_cmp ht_X8_clears rfl).trans ?_
  refine ite_congr rfl (fun _ => ?_) (fun _ => ?_)
  · exact sg_ret ht_X8_clears rfl rfl
  · refine (sg_go ht_X8_clears (k := 2) (pc' := 9) (L' := [some (.ref 84), some (.int v1), some (.int v2), some (.int v2), none, none, none, some (.long o7), none, some (.long o9), none, none]) (st' := []) (h' := (HP I A L F E)) rfl).trans ?_
    rfl
set_option maxRecDepth 20000 in
theorem sg_X8_clears_2_v000111 {I : Nat → Int32} {A : Nat → List Int32} {L : Nat → List Int64} {F : Nat → Int64} {E : MH} (v1 : Int32) (v2 : Int32) (o7 : Int64) (o9 : Int64) (o11 : Int32) : mm_run G0 162 2 [some (.ref 84), some (.int v1), some (.int v2), none, none, none, none, some (.long o7), none, some (.long o9), none, some (.int o11)] [] (HP I A L F E) = (if v1 ≤ v2 then some (none, (HP I A L F E)) else mm_run G0 162 9 [some (.ref 84), some (.int v1), some (.int v2), some (.int v2), none, none, none, some (.long o7), none, some (.long o9), none, some (.int o11)] [] (HP I A L F E)) := by
  refine (sg_go ht_X8_clears (k := 2) (pc' := 4) (L' := [some (.ref 84), some (.int v1), some (.int v2), none, none, none, none, some (.long o7), none, some (.long o9), none, some (.int o11)]) (st' := [.int v1, .int v2]) (h' := (HP I A L F E)) rfl).trans ?_
  refine (sg_cmp ht_X8_clears rfl).trans ?_
  refine ite_congr rfl (fun _ => ?_) (fun _ => ?_)
  · exact sg_ret ht_X8_clears rfl rfl
  · refine (sg_go ht_X8_clears (k := 2) (pc' := 9) (L' := [some (.ref 84), some (.int v1), some (.int v2), some (.int v2), none, none, none, some (.long o7), none, some (.long o9), none, some (.int o11)]) (st' := []) (h' := (HP I A L F E)) rfl).trans ?_
    rfl
set_option maxRecDepth 20000 in
theorem sg_X8_clears_2_v001000 {I : Nat → Int32} {A : Nat → List Int32} {L : Nat → List Int64} {F : Nat → Int64} {E : MH} (v1 : Int32) (v2 : Int32) (o5 : Int64) : mm_run G0 162 2 [some (.ref 84), some (.int v1), some (.int v2), none, none, some (.long o5), none, none, none, none, none, none] [] (HP I A L F E) = (if v1 ≤ v2 then some (none, (HP I A L F E)) else mm_run G0 162 9 [some (.ref 84), some (.int v1), some (.int v2), some (.int v2), none, some (.long o5), none, none, none, none, none, none] [] (HP I A L F E)) := by
  refine (sg_go ht_X8_clears (k := 2) (pc' := 4) (L' := [some (.ref 84), some (.int v1), some (.int v2), none, none, some (.long o5), none, none, none, none, none, none]) (st' := [.int v1, .int v2]) (h' := (HP I A L F E)) rfl).trans ?_
  refine (sg_cmp ht_X8_clears rfl).trans ?_
  refine ite_congr rfl (fun _ => ?_) (fun _ => ?_)
  · exact sg_ret ht_X8_clears rfl rfl
  · refine (sg_go ht_X8_clears (k := 2) (pc' := 9) (L' := [some (.ref 84), some (.int v1), some (.int v2), some (.int v2), none, some (.long o5), none, none, none, none, none, none]) (st' := []) (h' := (HP I A L F E)) rfl).trans ?_
    rfl
set_option maxRecDepth 20000 in
theorem sg_X8_clears_2_v001001 {I : Nat → Int32} {A : Nat → List Int32} {L : Nat → List Int64} {F : Nat → Int64} {E : MH} (v1 : Int32) (v2 : Int32) (o5 : Int64) (o11 : Int32) : mm_run G0 162 2 [some (.ref 84), some (.int v1), some (.int v2), none, none, some (.long o5), none, none, none, none, none, some (.int o11)] [] (HP I A L F E) = (if v1 ≤ v2 then some (none, (HP I A L F E)) else mm_run G0 162 9 [some (.ref 84), some (.int v1), some (.int v2), some (.int v2), none, some (.long o5), none, none, none, none, none, some (.int o11)] [] (HP I A L F E)) := by
  refine (sg_go ht_X8_clears (k := 2) (pc' := 4) (L' := [some (.ref 84), some (.int v1), some (.int v2), none, none, some (.long o5), none, none, none, none, none, some (.int o11)]) (st' := [.int v1, .int v2]) (h' := (HP I A L F E)) rfl).trans ?_
  refine (sg_cmp ht_X8_clears rfl).trans ?_
  refine ite_congr rfl (fun _ => ?_) (fun _ => ?_)
  · exact sg_ret ht_X8_clears rfl rfl
  · refine (sg_go ht_X8_clears (k := 2) (pc' := 9) (L' := [some (.ref 84), some (.int v1), some (.int v2), some (.int v2), none, some (.long o5), none, none, none, none, none, some (.int o11)]) (st' := []) (h' := (HP I A L F E)) rfl).trans ?_
    rfl
set_option maxRecDepth 20000 in
theorem sg_X8_clears_2_v001010 {I : Nat → Int32} {A : Nat → List Int32} {L : Nat → List Int64} {F : Nat → Int64} {E : MH} (v1 : Int32) (v2 : Int32) (o5 : Int64) (o9 : Int64) : mm_run G0 162 2 [some (.ref 84), some (.int v1), some (.int v2), none, none, some (.long o5), none, none, none, some (.long o9), none, none] [] (HP I A L F E) = (if v1 ≤ v2 then some (none, (HP I A L F E)) else mm_run G0 162 9 [some (.ref 84), some (.int v1), some (.int v2), some (.int v2), none, some (.long o5), none, none, none, some (.long o9), none, none] [] (HP I A L F E)) := by
  refine (sg_go ht_X8_clears (k := 2) (pc' := 4) (L' := [some (.ref 84), some (.int v1), some (.int v2), none, none, some (.long o5), none, none, none, some (.long o9), none, none]) (st' := [.int v1, .int v2]) (h' := (HP I A L F E)) rfl).trans ?_
  refine (sg_cmp ht_X8_clears rfl).trans ?_
  refine ite_congr rfl (fun _ => ?_) (fun _ => ?_)
  · exact sg_ret ht_X8_clears rfl rfl
  · refine (sg_go ht_X8_clears (k := 2) (pc' := 9) (L' := [some (.ref 84), some (.int v1), some (.int v2), some (.int v2), none, some (.long o5), none, none, none, some (.long o9), none, none]) (st' := []) (h' := (HP I A L F E)) rfl).trans ?_
    rfl
set_option maxRecDepth 20000 in
theorem sg_X8_clears_2_v001011 {I : Nat → Int32} {A : Nat → List Int32} {L : Nat → List Int64} {F : Nat → Int64} {E : MH} (v1 : Int32) (v2 : Int32) (o5 : Int64) (o9 : Int64) (o11 : Int32) : mm_run G0 162 2 [some (.ref 84), some (.int v1), some (.int v2), none, none, some (.long o5), none, none, none, some (.long o9), none, some (.int o11)] [] (HP I A L F E) = (if v1 ≤ v2 then some (none, (HP I A L F E)) else mm_run G0 162 9 [some (.ref 84), some (.int v1), some (.int v2), some (.int v2), none, some (.long o5), none, none, none, some (.long o9), none, some (.int o11)] [] (HP I A L F E)) := by
  refine (sg_go ht_X8_clears (k := 2) (pc' := 4) (L' := [some (.ref 84), some (.int v1), some (.int v2), none, none, some (.long o5), none, none, none, some (.long o9), none, some (.int o11)]) (st' := [.int v1, .int v2]) (h' := (HP I A L F E)) rfl).trans ?_
  refine (sg_cmp ht_X8_clears rfl).trans ?_
  refine ite_congr rfl (fun _ => ?_) (fun _ => ?_)
  · exact sg_ret ht_X8_clears rfl rfl
  · refine (sg_go ht_X8_clears (k := 2) (pc' := 9) (L' := [some (.ref 84), some (.int v1), some (.int v2), some (.int v2), none, some (.long o5), none, none, none, some (.long o9), none, some (.int o11)]) (st' := []) (h' := (HP I A L F E)) rfl).trans ?_
    rfl
set_option maxRecDepth 20000 in
theorem sg_X8_clears_2_v001100 {I : Nat → Int32} {A : Nat → List Int32} {L : Nat → List Int64} {F : Nat → Int64} {E : MH} (v1 : Int32) (v2 : Int32) (o5 : Int64) (o7 : Int64) : mm_run G0 162 2 [some (.ref 84), some (.int v1), some (.int v2), none, none, some (.long o5), none, some (.long o7), none, none, none, none] [] (HP I A L F E) = (if v1 ≤ v2 then some (none, (HP I A L F E)) else mm_run G0 162 9 [some (.ref 84), some (.int v1), some (.int v2), some (.int v2), none, some (.long o5), none, some (.long o7), none, none, none, none] [] (HP I A L F E)) := by
  refine (sg_go ht_X8_clears (k := 2) (pc' := 4) (L' := [some (.ref 84), some (.int v1), some (.int v2), none, none, some (.long o5), none, some (.long o7), none, none, none, none]) (st' := [.int v1, .int v2]) (h' := (HP I A L F E)) rfl).trans ?_
  refine (sg_cmp ht_X8_clears rfl).trans ?_
  refine ite_congr rfl (fun _ => ?_) (fun _ => ?_)
  · exact sg_ret ht_X8_clears rfl rfl
  · refine (sg_go ht_X8_clears (k := 2) (pc' := 9) (L' := [some (.ref 84), some (.int v1), some (.int v2), some (.int v2), none, some (.long o5), none, some (.long o7), none, none, none, none]) (st' := []) (h' := (HP I A L F E)) rfl).trans ?_
    rfl
set_option maxRecDepth 20000 in
theorem sg_X8_clears_2_v001101 {I : Nat → Int32} {A : Nat → List Int32} {L : Nat → List Int64} {F : Nat → Int64} {E : MH} (v1 : Int32) (v2 : Int32) (o5 : Int64) (o7 : Int64) (o11 : Int32) : mm_run G0 162 2 [some (.ref 84), some (.int v1), some (.int v2), none, none, some (.long o5), none, some (.long o7), none, none, none, some (.int o11)] [] (HP I A L F E) = (if v1 ≤ v2 then some (none, (HP I A L F E)) else mm_run G0 162 9 [some (.ref 84), some (.int v1), some (.int v2), some (.int v2), none, some (.long o5), none, some (.long o7), none, none, none, some (.int o11)] [] (HP I A L F E)) := by
  refine (sg_go ht_X8_clears (k := 2) (pc' := 4) (L' := [some (.ref 84), some (.int v1), some (.int v2), none, none, some (.long o5), none, some (.long o7), none, none, none, some (.int o11)]) (st' := [.int v1, .int v2]) (h' := (HP I A L F E)) rfl).trans ?_
  refine (sg_cmp ht_X8_clears rfl).trans ?_
  refine ite_congr rfl (fun _ => ?_) (fun _ => ?_)
  · exact sg_ret ht_X8_clears rfl rfl
  · refine (sg_go ht_X8_clears (k := 2) (pc' := 9) (L' := [some (.ref 84), some (.int v1), some (.int v2), some (.int v2), none, some (.long o5), none, some (.long o7), none, none, none, some (.int o11)]) (st' := []) (h' := (HP I A L F E)) rfl).trans ?_
    rfl
set_option maxRecDepth 20000 in
theorem sg_X8_clears_2_v001110 {I : Nat → Int32} {A : Nat → List Int32} {L : Nat → List Int64} {F : Nat → Int64} {E : MH} (v1 : Int32) (v2 : Int32) (o5 : Int64) (o7 : Int64) (o9 : Int64) : mm_run G0 162 2 [some (.ref 84), some (.int v1), some (.int v2), none, none, some (.long o5), none, some (.long o7), none, some (.long o9), none, none] [] (HP I A L F E) = (if v1 ≤ v2 then some (none, (HP I A L F E)) else mm_run G0 162 9 [some (.ref 84), some (.int v1), some (.int v2), some (.int v2), none, some (.long o5), none, some (.long o7), none, some (.long o9), none, none] [] (HP I A L F E)) := by
  refine (sg_go ht_X8_clears (k := 2) (pc' := 4) (L' := [some (.ref 84), some (.int v1), some (.int v2), none, none, some (.long o5), none, some (.long o7), none, some (.long o9), none, none]) (st' := [.int v1, .int v2]) (h' := (HP I A L F E)) rfl).trans ?_
  refine (sg_cmp ht_X8_clears rfl).trans ?_
  refine ite_congr rfl (fun _ => ?_) (fun _ => ?_)
  · exact sg_ret ht_X8_clears rfl rfl
  · refine (sg_go ht_X8_clears (k := 2) (pc' := 9) (L' := [some (.ref 84), some (.int v1), some (.int v2), some (.int v2), none, some (.long o5), none, some (.long o7), none, some (.long o9), none, none]) (st' := []) (h' := (HP I A L F E)) rfl).trans ?_
    rfl
set_option maxRecDepth 20000 in
theorem sg_X8_clears_2_v001111 {I : Nat → Int32} {A : Nat → List Int32} {L : Nat → List Int64} {F : Nat → Int64} {E : MH} (v1 : Int32) (v2 : Int32) (o5 : Int64) (o7 : Int64) (o9 : Int64) (o11 : Int32) : mm_run G0 162 2 [some (.ref 84), some (.int v1), some (.int v2), none, none, some (.long o5), none, some (.long o7), none, some (.long o9), none, some (.int o11)] [] (HP I A L F E) = (if v1 ≤ v2 then some (none, (HP I A L F E)) else mm_run G0 162 9 [some (.ref 84), some (.int v1), some (.int v2), some (.int v2), none, some (.long o5), none, some (.long o7), none, some (.long o9), none, some (.int o11)] [] (HP I A L F E)) := by
  refine (sg_go ht_X8_clears (k := 2) (pc' := 4) (L' := [some (.ref 84), some (.int v1), some (.int v2), none, none, some (.long o5), none, some (.long o7), none, some (.long o9), none, some (.int o11)]) (st' := [.int v1, .int v2]) (h' := (HP I A L F E)) rfl).trans ?_
  refine (sg_cmp ht_X8_clears rfl).trans ?_
  refine ite_congr rfl (fun _ => ?_) (fun _ => ?_)
  · exact sg_ret ht_X8_clears rfl rfl
  · refine (sg_go ht_X8_clears (k := 2) (pc' := 9) (L' := [some (.ref 84), some (.int v1), some (.int v2), some (.int v2), none, some (.long o5), none, some (.long o7), none, some (.long o9), none, some (.int o11)]) (st' := []) (h' := (HP I A L F E)) rfl).trans ?_
    rfl
set_option maxRecDepth 20000 in
theorem sg_X8_clears_2_v010000 {I : Nat → Int32} {A : Nat → List Int32} {L : Nat → List Int64} {F : Nat → Int64} {E : MH} (v1 : Int32) (v2 : Int32) (o4 : Int32) : mm_run G0 162 2 [some (.ref 84), some (.int v1), some (.int v2), none, some (.int o4), none, none, none, none, none, none, none] [] (HP I A L F E) = (if v1 ≤ v2 then some (none, (HP I A L F E)) else mm_run G0 162 9 [some (.ref 84), some (.int v1), some (.int v2), some (.int v2), some (.int o4), none, none, none, none, none, none, none] [] (HP I A L F E)) := by
  refine (sg_go ht_X8_clears (k := 2) (pc' := 4) (L' := [some (.ref 84), some (.int v1), some (.int v2), none, some (.int o4), none, none, none, none, none, none, none]) (st' := [.int v1, .int v2]) (h' := (HP I A L F E)) rfl).trans ?_
  refine (sg_cmp ht_X8_clears rfl).trans ?_
  refine ite_congr rfl (fun _ => ?_) (fun _ => ?_)
  · exact sg_ret ht_X8_clears rfl rfl
  · refine (sg_go ht_X8_clears (k := 2) (pc' := 9) (L' := [some (.ref 84), some (.int v1), some (.int v2), some (.int v2), some (.int o4), none, none, none, none, none, none, none]) (st' := []) (h' := (HP I A L F E)) rfl).trans ?_
    rfl
set_option maxRecDepth 20000 in
theorem sg_X8_clears_2_v010001 {I : Nat → Int32} {A : Nat → List Int32} {L : Nat → List Int64} {F : Nat → Int64} {E : MH} (v1 : Int32) (v2 : Int32) (o4 : Int32) (o11 : Int32) : mm_run G0 162 2 [some (.ref 84), some (.int v1), some (.int v2), none, some (.int o4), none, none, none, none, none, none, some (.int o11)] [] (HP I A L F E) = (if v1 ≤ v2 then some (none, (HP I A L F E)) else mm_run G0 162 9 [some (.ref 84), some (.int v1), some (.int v2), some (.int v2), some (.int o4), none, none, none, none, none, none, some (.int o11)] [] (HP I A L F E)) := by
  refine (sg_go ht_X8_clears (k := 2) (pc' := 4) (L' := [some (.ref 84), some (.int v1), some (.int v2), none, some (.int o4), none, none, none, none, none, none, some (.int o11)]) (st' := [.int v1, .int v2]) (h' := (HP I A L F E)) rfl).trans ?_
  refine (sg_cmp ht_X8_clears rfl).trans ?_
  refine ite_congr rfl (fun _ => ?_) (fun _ => ?_)
  · exact sg_ret ht_X8_clears rfl rfl
  · refine (sg_go ht_X8_clears (k := 2) (pc' := 9) (L' := [some (.ref 84), some (.int v1), some (.int v2), some (.int v2), some (.int o4), none, none, none, none, none, none, some (.int o11)]) (st' := []) (h' := (HP I A L F E)) rfl).trans ?_
    rfl
set_option maxRecDepth 20000 in
theorem sg_X8_clears_2_v010010 {I : Nat → Int32} {A : Nat → List Int32} {L : Nat → List Int64} {F : Nat → Int64} {E : MH} (v1 : Int32) (v2 : Int32) (o4 : Int32) (o9 : Int64) : mm_run G0 162 2 [some (.ref 84), some (.int v1), some (.int v2), none, some (.int o4), none, none, none, none, some (.long o9), none, none] [] (HP I A L F E) = (if v1 ≤ v2 then some (none, (HP I A L F E)) else mm_run G0 162 9 [some (.ref 84), some (.int v1), some (.int v2), some (.int v2), some (.int o4), none, none, none, none, some (.long o9), none, none] [] (HP I A L F E)) := by
  refine (sg_go ht_X8_clears (k := 2) (pc' := 4) (L' := [some (.ref 84), some (.int v1), some (.int v2), none, some (.int o4), none, none, none, none, some (.long o9), none, none]) (st' := [.int v1, .int v2]) (h' := (HP I A L F E)) rfl).trans ?_
  refine (sg_cmp ht_X8_clears rfl).trans ?_
  refine ite_congr rfl (fun _ => ?_) (fun _ => ?_)
  · exact sg_ret ht_X8_clears rfl rfl
  · refine (sg_go ht_X8_clears (k := 2) (pc' := 9) (L' := [some (.ref 84), some (.int v1), some (.int v2), some (.int v2), some (.int o4), none, none, none, none, some (.long o9), none, none]) (st' := []) (h' := (HP I A L F E)) rfl).trans ?_
    rfl
set_option maxRecDepth 20000 in
theorem sg_X8_clears_2_v010011 {I : Nat → Int32} {A : Nat → List Int32} {L : Nat → List Int64} {F : Nat → Int64} {E : MH} (v1 : Int32) (v2 : Int32) (o4 : Int32) (o9 : Int64) (o11 : Int32) : mm_run G0 162 2 [some (.ref 84), some (.int v1), some (.int v2), none, some (.int o4), none, none, none, none, some (.long o9), none, some (.int o11)] [] (HP I A L F E) = (if v1 ≤ v2 then some (none, (HP I A L F E)) else mm_run G0 162 9 [some (.ref 84), some (.int v1), some (.int v2), some (.int v2), some (.int o4), none, none, none, none, some (.long o9), none, some (.int o11)] [] (HP I A L F E)) := by
  refine (sg_go ht_X8_clears (k := 2) (pc' := 4) (L' := [some (.ref 84), some (.int v1), some (.int v2), none, some (.int o4), none, none, none, none, some (.long o9), none, some (.int o11)]) (st' := [.int v1, .int v2]) (h' := (HP I A L F E)) rfl).trans ?_
  refine (sg_cmp ht_X8_clears rfl).trans ?_
  refine ite_congr rfl (fun _ => ?_) (fun _ => ?_)
  · exact sg_ret ht_X8_clears rfl rfl
  · refine (sg_go ht_X8_clears (k := 2) (pc' := 9) (L' := [some (.ref 84), some (.int v1), some (.int v2), some (.int v2), some (.int o4), none, none, none, none, some (.long o9), none, some (.int o11)]) (st' := []) (h' := (HP I A L F E)) rfl).trans ?_
    rfl
set_option maxRecDepth 20000 in
theorem sg_X8_clears_2_v010100 {I : Nat → Int32} {A : Nat → List Int32} {L : Nat → List Int64} {F : Nat → Int64} {E : MH} (v1 : Int32) (v2 : Int32) (o4 : Int32) (o7 : Int64) : mm_run G0 162 2 [some (.ref 84), some (.int v1), some (.int v2), none, some (.int o4), none, none, some (.long o7), none, none, none, none] [] (HP I A L F E) = (if v1 ≤ v2 then some (none, (HP I A L F E)) else mm_run G0 162 9 [some (.ref 84), some (.int v1), some (.int v2), some (.int v2), some (.int o4), none, none, some (.long o7), none, none, none, none] [] (HP I A L F E)) := by
  refine (sg_go ht_X8_clears (k := 2) (pc' := 4) (L' := [some (.ref 84), some (.int v1), some (.int v2), none, some (.int o4), none, none, some (.long o7), none, none, none, none]) (st' := [.int v1, .int v2]) (h' := (HP I A L F E)) rfl).trans ?_
  refine (sg_cmp ht_X8_clears rfl).trans ?_
  refine ite_congr rfl (fun _ => ?_) (fun _ => ?_)
  · exact sg_ret ht_X8_clears rfl rfl
  · refine (sg_go ht_X8_clears (k := 2) (pc' := 9) (L' := [some (.ref 84), some (.int v1), some (.int v2), some (.int v2), some (.int o4), none, none, some (.long o7), none, none, none, none]) (st' := []) (h' := (HP I A L F E)) rfl).trans ?_
    rfl
set_option maxRecDepth 20000 in
theorem sg_X8_clears_2_v010101 {I : Nat → Int32} {A : Nat → List Int32} {L : Nat → List Int64} {F : Nat → Int64} {E : MH} (v1 : Int32) (v2 : Int32) (o4 : Int32) (o7 : Int64) (o11 : Int32) : mm_run G0 162 2 [some (.ref 84), some (.int v1), some (.int v2), none, some (.int o4), none, none, some (.long o7), none, none, none, some (.int o11)] [] (HP I A L F E) = (if v1 ≤ v2 then some (none, (HP I A L F E)) else mm_run G0 162 9 [some (.ref 84), some (.int v1), some (.int v2), some (.int v2), some (.int o4), none, none, some (.long o7), none, none, none, some (.int o11)] [] (HP I A L F E)) := by
  refine (sg_go ht_X8_clears (k := 2) (pc' := 4) (L' := [some (.ref 84), some (.int v1), some (.int v2), none, some (.int o4), none, none, some (.long o7), none, none, none, some (.int o11)]) (st' := [.int v1, .int v2]) (h' := (HP I A L F E)) rfl).trans ?_
  refine (sg_cmp ht_X8_clears rfl).trans ?_
  refine ite_congr rfl (fun _ => ?_) (fun _ => ?_)
  · exact sg_ret ht_X8_clears rfl rfl
  · refine (sg_go ht_X8_clears (k := 2) (pc' := 9) (L' := [some (.ref 84), some (.int v1), some (.int v2), some (.int v2), some (.int o4), none, none, some (.long o7), none, none, none, some (.int o11)]) (st' := []) (h' := (HP I A L F E)) rfl).trans ?_
    rfl
set_option maxRecDepth 20000 in
theorem sg_X8_clears_2_v010110 {I : Nat → Int32} {A : Nat → List Int32} {L : Nat → List Int64} {F : Nat → Int64} {E : MH} (v1 : Int32) (v2 : Int32) (o4 : Int32) (o7 : Int64) (o9 : Int64) : mm_run G0 162 2 [some (.ref 84), some (.int v1), some (.int v2), none, some (.int o4), none, none, some (.long o7), none, some (.long o9), none, none] [] (HP I A L F E) = (if v1 ≤ v2 then some (none, (HP I A L F E)) else mm_run G0 162 9 [some (.ref 84), some (.int v1), some (.int v2), some (.int v2), some (.int o4), none, none, some (.long o7), none, some (.long o9), none, none] [] (HP I A L F E)) := by
  refine (sg_go ht_X8_clears (k := 2) (pc' := 4) (L' := [some (.ref 84), some (.int v1), some (.int v2), none, some (.int o4), none, none, some (.long o7), none, some (.long o9), none, none]) (st' := [.int v1, .int v2]) (h' := (HP I A L F E)) rfl).trans ?_
  refine (sg_cmp ht_X8_clears rfl).trans ?_
  refine ite_congr rfl (fun _ => ?_) (fun _ => ?_)
  · exact sg_ret ht_X8_clears rfl rfl
  · refine (sg_go ht_X8_clears (k := 2) (pc' := 9) (L' := [some (.ref 84), some (.int v1), some (.int v2), some (.int v2), some (.int o4), none, none, some (.long o7), none, some (.long o9), none, none]) (st' := []) (h' := (HP I A L F E)) rfl).trans ?_
    rfl
set_option maxRecDepth 20000 in
theorem sg_X8_clears_2_v010111 {I : Nat → Int32} {A : Nat → List Int32} {L : Nat → List Int64} {F : Nat → Int64} {E : MH} (v1 : Int32) (v2 : Int32) (o4 : Int32) (o7 : Int64) (o9 : Int64) (o11 : Int32) : mm_run G0 162 2 [some (.ref 84), some (.int v1), some (.int v2), none, some (.int o4), none, none, some (.long o7), none, some (.long o9), none, some (.int o11)] [] (HP I A L F E) = (if v1 ≤ v2 then some (none, (HP I A L F E)) else mm_run G0 162 9 [some (.ref 84), some (.int v1), some (.int v2), some (.int v2), some (.int o4), none, none, some (.long o7), none, some (.long o9), none, some (.int o11)] [] (HP I A L F E)) := by
  refine (sg_go ht_X8_clears (k := 2) (pc' := 4) (L' := [some (.ref 84), some (.int v1), some (.int v2), none, some (.int o4), none, none, some (.long o7), none, some (.long o9), none, some (.int o11)]) (st' := [.int v1, .int v2]) (h' := (HP I A L F E)) rfl).trans ?_
  refine (sg_cmp ht_X8_clears rfl).trans ?_
  refine ite_congr rfl (fun _ => ?_) (fun _ => ?_)
  · exact sg_ret ht_X8_clears rfl rfl
  · refine (sg_go ht_X8_clears (k := 2) (pc' := 9) (L' := [some (.ref 84), some (.int v1), some (.int v2), some (.int v2), some (.int o4), none, none, some (.long o7), none, some (.long o9), none, some (.int o11)]) (st' := []) (h' := (HP I A L F E)) rfl).trans ?_
    rfl
set_option maxRecDepth 20000 in
theorem sg_X8_clears_2_v011000 {I : Nat → Int32} {A : Nat → List Int32} {L : Nat → List Int64} {F : Nat → Int64} {E : MH} (v1 : Int32) (v2 : Int32) (o4 : Int32) (o5 : Int64) : mm_run G0 162 2 [some (.ref 84), some (.int v1), some (.int v2), none, some (.int o4), some (.long o5), none, none, none, none, none, none] [] (HP I A L F E) = (if v1 ≤ v2 then some (none, (HP I A L F E)) else mm_run G0 162 9 [some (.ref 84), some (.int v1), some (.int v2), some (.int v2), some (.int o4), some (.long o5), none, none, none, none, none, none] [] (HP I A L F E)) := by
  refine (sg_go ht_X8_clears (k := 2) (pc' := 4) (L' := [some (.ref 84), some (.int v1), some (.int v2), none, some (.int o4), some (.long o5), none, none, none, none, none, none]) (st' := [.int v1, .int v2]) (h' := (HP I A L F E)) rfl).trans ?_
  refine (sg_cmp ht_X8_clears rfl).trans ?_
  refine ite_congr rfl (fun _ => ?_) (fun _ => ?_)
  · exact sg_ret ht_X8_clears rfl rfl
  · refine (sg_go ht_X8_clears (k := 2) (pc' := 9) (L' := [some (.ref 84), some (.int v1), some (.int v2), some (.int v2), some (.int o4), some (.long o5), none, none, none, none, none, none]) (st' := []) (h' := (HP I A L F E)) rfl).trans ?_
    rfl
set_option maxRecDepth 20000 in
theorem sg_X8_clears_2_v011001 {I : Nat → Int32} {A : Nat → List Int32} {L : Nat → List Int64} {F : Nat → Int64} {E : MH} (v1 : Int32) (v2 : Int32) (o4 : Int32) (o5 : Int64) (o11 : Int32) : mm_run G0 162 2 [some (.ref 84), some (.int v1), some (.int v2), none, some (.int o4), some (.long o5), none, none, none, none, none, some (.int o11)] [] (HP I A L F E) = (if v1 ≤ v2 then some (none, (HP I A L F E)) else mm_run G0 162 9 [some (.ref 84), some (.int v1), some (.int v2), some (.int v2), some (.int o4), some (.long o5), none, none, none, none, none, some (.int o11)] [] (HP I A L F E)) := by
  refine (sg_go ht_X8_clears (k := 2) (pc' := 4) (L' := [some (.ref 84), some (.int v1), some (.int v2), none, some (.int o4), some (.long o5), none, none, none, none, none, some (.int o11)]) (st' := [.int v1, .int v2]) (h' := (HP I A L F E)) rfl).trans ?_
  refine (sg_cmp ht_X8_clears rfl).trans ?_
  refine ite_congr rfl (fun _ => ?_) (fun _ => ?_)
  · exact sg_ret ht_X8_clears rfl rfl
  · refine (sg_go ht_X8_clears (k := 2) (pc' := 9) (L' := [some (.ref 84), some (.int v1), some (.int v2), some (.int v2), some (.int o4), some (.long o5), none, none, none, none, none, some (.int o11)]) (st' := []) (h' := (HP I A L F E)) rfl).trans ?_
    rfl
set_option maxRecDepth 20000 in
theorem sg_X8_clears_2_v011010 {I : Nat → Int32} {A : Nat → List Int32} {L : Nat → List Int64} {F : Nat → Int64} {E : MH} (v1 : Int32) (v2 : Int32) (o4 : Int32) (o5 : Int64) (o9 : Int64) : mm_run G0 162 2 [some (.ref 84), some (.int v1), some (.int v2), none, some (.int o4), some (.long o5), none, none, none, some (.long o9), none, none] [] (HP I A L F E) = (if v1 ≤ v2 then some (none, (HP I A L F E)) else mm_run G0 162 9 [some (.ref 84), some (.int v1), some (.int v2), some (.int v2), some (.int o4), some (.long o5), none, none, none, some (.long o9), none, none] [] (HP I A L F E)) := by
  refine (sg_go ht_X8_clears (k := 2) (pc' := 4) (L' := [some (.ref 84), some (.int v1), some (.int v2), none, some (.int o4), some (.long o5), none, none, none, some (.long o9), none, none]) (st' := [.int v1, .int v2]) (h' := (HP I A L F E)) rfl).trans ?_
  refine (sg_cmp ht_X8_clears rfl).trans ?_
  refine ite_congr rfl (fun _ => ?_) (fun _ => ?_)
  · exact sg_ret ht_X8_clears rfl rfl
  · refine (sg_go ht_X8_clears (k := 2) (pc' := 9) (L' := [some (.ref 84), some (.int v1), some (.int v2), some (.int v2), some (.int o4), some (.long o5), none, none, none, some (.long o9), none, none]) (st' := []) (h' := (HP I A L F E)) rfl).trans ?_
    rfl
set_option maxRecDepth 20000 in
theorem sg_X8_clears_2_v011011 {I : Nat → Int32} {A : Nat → List Int32} {L : Nat → List Int64} {F : Nat → Int64} {E : MH} (v1 : Int32) (v2 : Int32) (o4 : Int32) (o5 : Int64) (o9 : Int64) (o11 : Int32) : mm_run G0 162 2 [some (.ref 84), some (.int v1), some (.int v2), none, some (.int o4), some (.long o5), none, none, none, some (.long o9), none, some (.int o11)] [] (HP I A L F E) = (if v1 ≤ v2 then some (none, (HP I A L F E)) else mm_run G0 162 9 [some (.ref 84), some (.int v1), some (.int v2), some (.int v2), some (.int o4), some (.long o5), none, none, none, some (.long o9), none, some (.int o11)] [] (HP I A L F E)) := by
  refine (sg_go ht_X8_clears (k := 2) (pc' := 4) (L' := [some (.ref 84), some (.int v1), some (.int v2), none, some (.int o4), some (.long o5), none, none, none, some (.long o9), none, some (.int o11)]) (st' := [.int v1, .int v2]) (h' := (HP I A L F E)) rfl).trans ?_
  refine (sg_cmp ht_X8_clears rfl).trans ?_
  refine ite_congr rfl (fun _ => ?_) (fun _ => ?_)
  · exact sg_ret ht_X8_clears rfl rfl
  · refine (sg_go ht_X8_clears (k := 2) (pc' := 9) (L' := [some (.ref 84), some (.int v1), some (.int v2), some (.int v2), some (.int o4), some (.long o5), none, none, none, some (.long o9), none, some (.int o11)]) (st' := []) (h' := (HP I A L F E)) rfl).trans ?_
    rfl
set_option maxRecDepth 20000 in
theorem sg_X8_clears_2_v011100 {I : Nat → Int32} {A : Nat → List Int32} {L : Nat → List Int64} {F : Nat → Int64} {E : MH} (v1 : Int32) (v2 : Int32) (o4 : Int32) (o5 : Int64) (o7 : Int64) : mm_run G0 162 2 [some (.ref 84), some (.int v1), some (.int v2), none, some (.int o4), some (.long o5), none, some (.long o7), none, none, none, none] [] (HP I A L F E) = (if v1 ≤ v2 then some (none, (HP I A L F E)) else mm_run G0 162 9 [some (.ref 84), some (.int v1), some (.int v2), some (.int v2), some (.int o4), some (.long o5), none, some (.long o7), none, none, none, none] [] (HP I A L F E)) := by
  refine (sg_go ht_X8_clears (k := 2) (pc' := 4) (L' := [some (.ref 84), some (.int v1), some (.int v2), none, some (.int o4), some (.long o5), none, some (.long o7), none, none, none, none]) (st' := [.int v1, .int v2]) (h' := (HP I A L F E)) rfl).trans ?_
  refine (sg_cmp ht_X8_clears rfl).trans ?_
  refine ite_congr rfl (fun _ => ?_) (fun _ => ?_)
  · exact sg_ret ht_X8_clears rfl rfl
  · refine (sg_go ht_X8_clears (k := 2) (pc' := 9) (L' := [some (.ref 84), some (.int v1), some (.int v2), some (.int v2), some (.int o4), some (.long o5), none, some (.long o7), none, none, none, none]) (st' := []) (h' := (HP I A L F E)) rfl).trans ?_
    rfl
set_option maxRecDepth 20000 in
theorem sg_X8_clears_2_v011101 {I : Nat → Int32} {A : Nat → List Int32} {L : Nat → List Int64} {F : Nat → Int64} {E : MH} (v1 : Int32) (v2 : Int32) (o4 : Int32) (o5 : Int64) (o7 : Int64) (o11 : Int32) : mm_run G0 162 2 [some (.ref 84), some (.int v1), some (.int v2), none, some (.int o4), some (.long o5), none, some (.long o7), none, none, none, some (.int o11)] [] (HP I A L F E) = (if v1 ≤ v2 then some (none, (HP I A L F E)) else mm_run G0 162 9 [some (.ref 84), some (.int v1), some (.int v2), some (.int v2), some (.int o4), some (.long o5), none, some (.long o7), none, none, none, some (.int o11)] [] (HP I A L F E)) := by
  refine (sg_go ht_X8_clears (k := 2) (pc' := 4) (L' := [some (.ref 84), some (.int v1), some (.int v2), none, some (.int o4), some (.long o5), none, some (.long o7), none, none, none, some (.int o11)]) (st' := [.int v1, .int v2]) (h' := (HP I A L F E)) rfl).trans ?_
  refine (sg_cmp ht_X8_clears rfl).trans ?_
  refine ite_congr rfl (fun _ => ?_) (fun _ => ?_)
  · exact sg_ret ht_X8_clears rfl rfl
  · refine (sg_go ht_X8_clears (k := 2) (pc' := 9) (L' := [some (.ref 84), some (.int v1), some (.int v2), some (.int v2), some (.int o4), some (.long o5), none, some (.long o7), none, none, none, some (.int o11)]) (st' := []) (h' := (HP I A L F E)) rfl).trans ?_
    rfl
set_option maxRecDepth 20000 in
theorem sg_X8_clears_2_v011110 {I : Nat → Int32} {A : Nat → List Int32} {L : Nat → List Int64} {F : Nat → Int64} {E : MH} (v1 : Int32) (v2 : Int32) (o4 : Int32) (o5 : Int64) (o7 : Int64) (o9 : Int64) : mm_run G0 162 2 [some (.ref 84), some (.int v1), some (.int v2), none, some (.int o4), some (.long o5), none, some (.long o7), none, some (.long o9), none, none] [] (HP I A L F E) = (if v1 ≤ v2 then some (none, (HP I A L F E)) else mm_run G0 162 9 [some (.ref 84), some (.int v1), some (.int v2), some (.int v2), some (.int o4), some (.long o5), none, some (.long o7), none, some (.long o9), none, none] [] (HP I A L F E)) := by
  refine (sg_go ht_X8_clears (k := 2) (pc' := 4) (L' := [some (.ref 84), some (.int v1), some (.int v2), none, some (.int o4), some (.long o5), none, some (.long o7), none, some (.long o9), none, none]) (st' := [.int v1, .int v2]) (h' := (HP I A L F E)) rfl).trans ?_
  refine (sg_cmp ht_X8_clears rfl).trans ?_
  refine ite_congr rfl (fun _ => ?_) (fun _ => ?_)
  · exact sg_ret ht_X8_clears rfl rfl
  · refine (sg_go ht_X8_clears (k := 2) (pc' := 9) (L' := [some (.ref 84), some (.int v1), some (.int v2), some (.int v2), some (.int o4), some (.long o5), none, some (.long o7), none, some (.long o9), none, none]) (st' := []) (h' := (HP I A L F E)) rfl).trans ?_
    rfl
set_option maxRecDepth 20000 in
theorem sg_X8_clears_2_v011111 {I : Nat → Int32} {A : Nat → List Int32} {L : Nat → List Int64} {F : Nat → Int64} {E : MH} (v1 : Int32) (v2 : Int32) (o4 : Int32) (o5 : Int64) (o7 : Int64) (o9 : Int64) (o11 : Int32) : mm_run G0 162 2 [some (.ref 84), some (.int v1), some (.int v2), none, some (.int o4), some (.long o5), none, some (.long o7), none, some (.long o9), none, some (.int o11)] [] (HP I A L F E) = (if v1 ≤ v2 then some (none, (HP I A L F E)) else mm_run G0 162 9 [some (.ref 84), some (.int v1), some (.int v2), some (.int v2), some (.int o4), some (.long o5), none, some (.long o7), none, some (.long o9), none, some (.int o11)] [] (HP I A L F E)) := by
  refine (sg_go ht_X8_clears (k := 2) (pc' := 4) (L' := [some (.ref 84), some (.int v1), some (.int v2), none, some (.int o4), some (.long o5), none, some (.long o7), none, some (.long o9), none, some (.int o11)]) (st' := [.int v1, .int v2]) (h' := (HP I A L F E)) rfl).trans ?_
  refine (sg_cmp ht_X8_clears rfl).trans ?_
  refine ite_congr rfl (fun _ => ?_) (fun _ => ?_)
  · exact sg_ret ht_X8_clears rfl rfl
  · refine (sg_go ht_X8_clears (k := 2) (pc' := 9) (L' := [some (.ref 84), some (.int v1), some (.int v2), some (.int v2), some (.int o4), some (.long o5), none, some (.long o7), none, some (.long o9), none, some (.int o11)]) (st' := []) (h' := (HP I A L F E)) rfl).trans ?_
    rfl
set_option maxRecDepth 20000 in
theorem sg_X8_clears_2_v100000 {I : Nat → Int32} {A : Nat → List Int32} {L : Nat → List Int64} {F : Nat → Int64} {E : MH} (v1 : Int32) (v2 : Int32) (o3 : Int32) : mm_run G0 162 2 [some (.ref 84), some (.int v1), some (.int v2), some (.int o3), none, none, none, none, none, none, none, none] [] (HP I A L F E) = (if v1 ≤ v2 then some (none, (HP I A L F E)) else mm_run G0 162 9 [some (.ref 84), some (.int v1), some (.int v2), some (.int v2), none, none, none, none, none, none, none, none] [] (HP I A L F E)) := by
  refine (sg_go ht_X8_clears (k := 2) (pc' := 4) (L' := [some (.ref 84), some (.int v1), some (.int v2), some (.int o3), none, none, none, none, none, none, none, none]) (st' := [.int v1, .int v2]) (h' := (HP I A L F E)) rfl).trans ?_
  refine (sg_cmp ht_X8_clears rfl).trans ?_
  refine ite_congr rfl (fun _ => ?_) (fun _ => ?_)
  · exact sg_ret ht_X8_clears rfl rfl
  · refine (sg_go ht_X8_clears (k := 2) (pc' := 9) (L' := [some (.ref 84), some (.int v1), some (.int v2), some (.int v2), none, none, none, none, none, none, none, none]) (st' := []) (h' := (HP I A L F E)) rfl).trans ?_
    rfl
set_option maxRecDepth 20000 in
theorem sg_X8_clears_2_v100001 {I : Nat → Int32} {A : Nat → List Int32} {L : Nat → List Int64} {F : Nat → Int64} {E : MH} (v1 : Int32) (v2 : Int32) (o3 : Int32) (o11 : Int32) : mm_run G0 162 2 [some (.ref 84), some (.int v1), some (.int v2), some (.int o3), none, none, none, none, none, none, none, some (.int o11)] [] (HP I A L F E) = (if v1 ≤ v2 then some (none, (HP I A L F E)) else mm_run G0 162 9 [some (.ref 84), some (.int v1), some (.int v2), some (.int v2), none, none, none, none, none, none, none, some (.int o11)] [] (HP I A L F E)) := by
  refine (sg_go ht_X8_clears (k := 2) (pc' := 4) (L' := [some (.ref 84), some (.int v1), some (.int v2), some (.int o3), none, none, none, none, none, none, none, some (.int o11)]) (st' := [.int v1, .int v2]) (h' := (HP I A L F E)) rfl).trans ?_
  refine (sg_cmp ht_X8_clears rfl).trans ?_
  refine ite_congr rfl (fun _ => ?_) (fun _ => ?_)
  · exact sg_ret ht_X8_clears rfl rfl
  · refine (sg_go ht_X8_clears (k := 2) (pc' := 9) (L' := [some (.ref 84), some (.int v1), some (.int v2), some (.int v2), none, none, none, none, none, none, none, some (.int o11)]) (st' := []) (h' := (HP I A L F E)) rfl).trans ?_
    rfl
set_option maxRecDepth 20000 in
theorem sg_X8_clears_2_v100010 {I : Nat → Int32} {A : Nat → List Int32} {L : Nat → List Int64} {F : Nat → Int64} {E : MH} (v1 : Int32) (v2 : Int32) (o3 : Int32) (o9 : Int64) : mm_run G0 162 2 [some (.ref 84), some (.int v1), some (.int v2), some (.int o3), none, none, none, none, none, some (.long o9), none, none] [] (HP I A L F E) = (if v1 ≤ v2 then some (none, (HP I A L F E)) else mm_run G0 162 9 [some (.ref 84), some (.int v1), some (.int v2), some (.int v2), none, none, none, none, none, some (.long o9), none, none] [] (HP I A L F E)) := by
  refine (sg_go ht_X8_clears (k := 2) (pc' := 4) (L' := [some (.ref 84), some (.int v1), some (.int v2), some (.int o3), none, none, none, none, none, some (.long o9), none, none]) (st' := [.int v1, .int v2]) (h' := (HP I A L F E)) rfl).trans ?_
  refine (sg_cmp ht_X8_clears rfl).trans ?_
  refine ite_congr rfl (fun _ => ?_) (fun _ => ?_)
  · exact sg_ret ht_X8_clears rfl rfl
  · refine (sg_go ht_X8_clears (k := 2) (pc' := 9) (L' := [some (.ref 84), some (.int v1), some (.int v2), some (.int v2), none, none, none, none, none, some (.long o9), none, none]) (st' := []) (h' := (HP I A L F E)) rfl).trans ?_
    rfl
set_option maxRecDepth 20000 in
theorem sg_X8_clears_2_v100011 {I : Nat → Int32} {A : Nat → List Int32} {L : Nat → List Int64} {F : Nat → Int64} {E : MH} (v1 : Int32) (v2 : Int32) (o3 : Int32) (o9 : Int64) (o11 : Int32) : mm_run G0 162 2 [some (.ref 84), some (.int v1), some (.int v2), some (.int o3), none, none, none, none, none, some (.long o9), none, some (.int o11)] [] (HP I A L F E) = (if v1 ≤ v2 then some (none, (HP I A L F E)) else mm_run G0 162 9 [some (.ref 84), some (.int v1), some (.int v2), some (.int v2), none, none, none, none, none, some (.long o9), none, some (.int o11)] [] (HP I A L F E)) := by
  refine (sg_go ht_X8_clears (k := 2) (pc' := 4) (L' := [some (.ref 84), some (.int v1), some (.int v2), some (.int o3), none, none, none, none, none, some (.long o9), none, some (.int o11)]) (st' := [.int v1, .int v2]) (h' := (HP I A L F E)) rfl).trans ?_
  refine (sg_cmp ht_X8_clears rfl).trans ?_
  refine ite_congr rfl (fun _ => ?_) (fun _ => ?_)
  · exact sg_ret ht_X8_clears rfl rfl
  · refine (sg_go ht_X8_clears (k := 2) (pc' := 9) (L' := [some (.ref 84), some (.int v1), some (.int v2), some (.int v2), none, none, none, none, none, some (.long o9), none, some (.int o11)]) (st' := []) (h' := (HP I A L F E)) rfl).trans ?_
    rfl
set_option maxRecDepth 20000 in
theorem sg_X8_clears_2_v100100 {I : Nat → Int32} {A : Nat → List Int32} {L : Nat → List Int64} {F : Nat → Int64} {E : MH} (v1 : Int32) (v2 : Int32) (o3 : Int32) (o7 : Int64) : mm_run G0 162 2 [some (.ref 84), some (.int v1), some (.int v2), some (.int o3), none, none, none, some (.long o7), none, none, none, none] [] (HP I A L F E) = (if v1 ≤ v2 then some (none, (HP I A L F E)) else mm_run G0 162 9 [some (.ref 84), some (.int v1), some (.int v2), some (.int v2), none, none, none, some (.long o7), none, none, none, none] [] (HP I A L F E)) := by
  refine (sg_go ht_X8_clears (k := 2) (pc' := 4) (L' := [some (.ref 84), some (.int v1), some (.int v2), some (.int o3), none, none, none, some (.long o7), none, none, none, none]) (st' := [.int v1, .int v2]) (h' := (HP I A L F E)) rfl).trans ?_
  refine (sg_cmp ht_X8_clears rfl).trans ?_
  refine ite_congr rfl (fun _ => ?_) (fun _ => ?_)
  · exact sg_ret ht_X8_clears rfl rfl
  · refine (sg_go ht_X8_clears (k := 2) (pc' := 9) (L' := [some (.ref 84), some (.int v1), some (.int v2), some (.int v2), none, none, none, some (.long o7), none, none, none, none]) (st' := []) (h' := (HP I A L F E)) rfl).trans ?_
    rfl
set_option maxRecDepth 20000 in
theorem sg_X8_clears_2_v100101 {I : Nat → Int32} {A : Nat → List Int32} {L : Nat → List Int64} {F : Nat → Int64} {E : MH} (v1 : Int32) (v2 : Int32) (o3 : Int32) (o7 : Int64) (o11 : Int32) : mm_run G0 162 2 [some (.ref 84), some (.int v1), some (.int v2), some (.int o3), none, none, none, some (.long o7), none, none, none, some (.int o11)] [] (HP I A L F E) = (if v1 ≤ v2 then some (none, (HP I A L F E)) else mm_run G0 162 9 [some (.ref 84), some (.int v1), some (.int v2), some (.int v2), none, none, none, some (.long o7), none, none, none, some (.int o11)] [] (HP I A L F E)) := by
  refine (sg_go ht_X8_clears (k := 2) (pc' := 4) (L' := [some (.ref 84), some (.int v1), some (.int v2), some (.int o3), none, none, none, some (.long o7), none, none, none, some (.int o11)]) (st' := [.int v1, .int v2]) (h' := (HP I A L F E)) rfl).trans ?_
  refine (sg_cmp ht_X8_clears rfl).trans ?_
  refine ite_congr rfl (fun _ => ?_) (fun _ => ?_)
  · exact sg_ret ht_X8_clears rfl rfl
  · refine (sg_go ht_X8_clears (k := 2) (pc' := 9) (L' := [some (.ref 84), some (.int v1), some (.int v2), some (.int v2), none, none, none, some (.long o7), none, none, none, some (.int o11)]) (st' := []) (h' := (HP I A L F E)) rfl).trans ?_
    rfl
set_option maxRecDepth 20000 in
theorem sg_X8_clears_2_v100110 {I : Nat → Int32} {A : Nat → List Int32} {L : Nat → List Int64} {F : Nat → Int64} {E : MH} (v1 : Int32) (v2 : Int32) (o3 : Int32) (o7 : Int64) (o9 : Int64) : mm_run G0 162 2 [some (.ref 84), some (.int v1), some (.int v2), some (.int o3), none, none, none, some (.long o7), none, some (.long o9), none, none] [] (HP I A L F E) = (if v1 ≤ v2 then some (none, (HP I A L F E)) else mm_run G0 162 9 [some (.ref 84), some (.int v1), some (.int v2), some (.int v2), none, none, none, some (.long o7), none, some (.long o9), none, none] [] (HP I A L F E)) := by
  refine (sg_go ht_X8_clears (k := 2) (pc' := 4) (L' := [some (.ref 84), some (.int v1), some (.int v2), some (.int o3), none, none, none, some (.long o7), none, some (.long o9), none, none]) (st' := [.int v1, .int v2]) (h' := (HP I A L F E)) rfl).trans ?_
  refine (sg_cmp ht_X8_clears rfl).trans ?_
  refine ite_congr rfl (fun _ => ?_) (fun _ => ?_)
  · exact sg_ret ht_X8_clears rfl rfl
  · refine (sg_go ht_X8_clears (k := 2) (pc' := 9) (L' := [some (.ref 84), some (.int v1), some (.int v2), some (.int v2), none, none, none, some (.long o7), none, some (.long o9), none, none]) (st' := []) (h' := (HP I A L F E)) rfl).trans ?_
    rfl
set_option maxRecDepth 20000 in
theorem sg_X8_clears_2_v100111 {I : Nat → Int32} {A : Nat → List Int32} {L : Nat → List Int64} {F : Nat → Int64} {E : MH} (v1 : Int32) (v2 : Int32) (o3 : Int32) (o7 : Int64) (o9 : Int64) (o11 : Int32) : mm_run G0 162 2 [some (.ref 84), some (.int v1), some (.int v2), some (.int o3), none, none, none, some (.long o7), none, some (.long o9), none, some (.int o11)] [] (HP I A L F E) = (if v1 ≤ v2 then some (none, (HP I A L F E)) else mm_run G0 162 9 [some (.ref 84), some (.int v1), some (.int v2), some (.int v2), none, none, none, some (.long o7), none, some (.long o9), none, some (.int o11)] [] (HP I A L F E)) := by
  refine (sg_go ht_X8_clears (k := 2) (pc' := 4) (L' := [some (.ref 84), some (.int v1), some (.int v2), some (.int o3), none, none, none, some (.long o7), none, some (.long o9), none, some (.int o11)]) (st' := [.int v1, .int v2]) (h' := (HP I A L F E)) rfl).trans ?_
  refine (sg_cmp ht_X8_clears rfl).trans ?_
  refine ite_congr rfl (fun _ => ?_) (fun _ => ?_)
  · exact sg_ret ht_X8_clears rfl rfl
  · refine (sg_go ht_X8_clears (k := 2) (pc' := 9) (L' := [some (.ref 84), some (.int v1), some (.int v2), some (.int v2), none, none, none, some (.long o7), none, some (.long o9), none, some (.int o11)]) (st' := []) (h' := (HP I A L F E)) rfl).trans ?_
    rfl
set_option maxRecDepth 20000 in
theorem sg_X8_clears_2_v101000 {I : Nat → Int32} {A : Nat → List Int32} {L : Nat → List Int64} {F : Nat → Int64} {E : MH} (v1 : Int32) (v2 : Int32) (o3 : Int32) (o5 : Int64) : mm_run G0 162 2 [some (.ref 84), some (.int v1), some (.int v2), some (.int o3), none, some (.long o5), none, none, none, none, none, none] [] (HP I A L F E) = (if v1 ≤ v2 then some (none, (HP I A L F E)) else mm_run G0 162 9 [some (.ref 84), some (.int v1), some (.int v2), some (.int v2), none, some (.long o5), none, none, none, none, none, none] [] (HP I A L F E)) := by
  refine (sg_go ht_X8_clears (k := 2) (pc' := 4) (L' := [some (.ref 84), some (.int v1), some (.int v2), some (.int o3), none, some (.long o5), none, none, none, none, none, none]) (st' := [.int v1, .int v2]) (h' := (HP I A L F E)) rfl).trans ?_
  refine (sg_cmp ht_X8_clears rfl).trans ?_
  refine ite_congr rfl (fun _ => ?_) (fun _ => ?_)
  · exact sg_ret ht_X8_clears rfl rfl
  · refine (sg_go ht_X8_clears (k := 2) (pc' := 9) (L' := [some (.ref 84), some (.int v1), some (.int v2), some (.int v2), none, some (.long o5), none, none, none, none, none, none]) (st' := []) (h' := (HP I A L F E)) rfl).trans ?_
    rfl
set_option maxRecDepth 20000 in
theorem sg_X8_clears_2_v101001 {I : Nat → Int32} {A : Nat → List Int32} {L : Nat → List Int64} {F : Nat → Int64} {E : MH} (v1 : Int32) (v2 : Int32) (o3 : Int32) (o5 : Int64) (o11 : Int32) : mm_run G0 162 2 [some (.ref 84), some (.int v1), some (.int v2), some (.int o3), none, some (.long o5), none, none, none, none, none, some (.int o11)] [] (HP I A L F E) = (if v1 ≤ v2 then some (none, (HP I A L F E)) else mm_run G0 162 9 [some (.ref 84), some (.int v1), some (.int v2), some (.int v2), none, some (.long o5), none, none, none, none, none, some (.int o11)] [] (HP I A L F E)) := by
  refine (sg_go ht_X8_clears (k := 2) (pc' := 4) (L' := [some (.ref 84), some (.int v1), some (.int v2), some (.int o3), none, some (.long o5), none, none, none, none, none, some (.int o11)]) (st' := [.int v1, .int v2]) (h' := (HP I A L F E)) rfl).trans ?_
  refine (sg_cmp ht_X8_clears rfl).trans ?_
  refine ite_congr rfl (fun _ => ?_) (fun _ => ?_)
  · exact sg_ret ht_X8_clears rfl rfl
  · refine (sg_go ht_X8_clears (k := 2) (pc' := 9) (L' := [some (.ref 84), some (.int v1), some (.int v2), some (.int v2), none, some (.long o5), none, none, none, none, none, some (.int o11)]) (st' := []) (h' := (HP I A L F E)) rfl).trans ?_
    rfl
set_option maxRecDepth 20000 in
theorem sg_X8_clears_2_v101010 {I : Nat → Int32} {A : Nat → List Int32} {L : Nat → List Int64} {F : Nat → Int64} {E : MH} (v1 : Int32) (v2 : Int32) (o3 : Int32) (o5 : Int64) (o9 : Int64) : mm_run G0 162 2 [some (.ref 84), some (.int v1), some (.int v2), some (.int o3), none, some (.long o5), none, none, none, some (.long o9), none, none] [] (HP I A L F E) = (if v1 ≤ v2 then some (none, (HP I A L F E)) else mm_run G0 162 9 [some (.ref 84), some (.int v1), some (.int v2), some (.int v2), none, some (.long o5), none, none, none, some (.long o9), none, none] [] (HP I A L F E)) := by
  refine (sg_go ht_X8_clears (k := 2) (pc' := 4) (L' := [some (.ref 84), some (.int v1), some (.int v2), some (.int o3), none, some (.long o5), none, none, none, some (.long o9), none, none]) (st' := [.int v1, .int v2]) (h' := (HP I A L F E)) rfl).trans ?_
  refine (sg_cmp ht_X8_clears rfl).trans ?_
  refine ite_congr rfl (fun _ => ?_) (fun _ => ?_)
  · exact sg_ret ht_X8_clears rfl rfl
  · refine (sg_go ht_X8_clears (k := 2) (pc' := 9) (L' := [some (.ref 84), some (.int v1), some (.int v2), some (.int v2), none, some (.long o5), none, none, none, some (.long o9), none, none]) (st' := []) (h' := (HP I A L F E)) rfl).trans ?_
    rfl
set_option maxRecDepth 20000 in
theorem sg_X8_clears_2_v101011 {I : Nat → Int32} {A : Nat → List Int32} {L : Nat → List Int64} {F : Nat → Int64} {E : MH} (v1 : Int32) (v2 : Int32) (o3 : Int32) (o5 : Int64) (o9 : Int64) (o11 : Int32) : mm_run G0 162 2 [some (.ref 84), some (.int v1), some (.int v2), some (.int o3), none, some (.long o5), none, none, none, some (.long o9), none, some (.int o11)] [] (HP I A L F E) = (if v1 ≤ v2 then some (none, (HP I A L F E)) else mm_run G0 162 9 [some (.ref 84), some (.int v1), some (.int v2), some (.int v2), none, some (.long o5), none, none, none, some (.long o9), none, some (.int o11)] [] (HP I A L F E)) := by
  refine (sg_go ht_X8_clears (k := 2) (pc' := 4) (L' := [some (.ref 84), some (.int v1), some (.int v2), some (.int o3), none, some (.long o5), none, none, none, some (.long o9), none, some (.int o11)]) (st' := [.int v1, .int v2]) (h' := (HP I A L F E)) rfl).trans ?_
  refine (sg_cmp ht_X8_clears rfl).trans ?_
  refine ite_congr rfl (fun _ => ?_) (fun _ => ?_)
  · exact sg_ret ht_X8_clears rfl rfl
  · refine (sg_go ht_X8_clears (k := 2) (pc' := 9) (L' := [some (.ref 84), some (.int v1), some (.int v2), some (.int v2), none, some (.long o5), none, none, none, some (.long o9), none, some (.int o11)]) (st' := []) (h' := (HP I A L F E)) rfl).trans ?_
    rfl
set_option maxRecDepth 20000 in
theorem sg_X8_clears_2_v101100 {I : Nat → Int32} {A : Nat → List Int32} {L : Nat → List Int64} {F : Nat → Int64} {E : MH} (v1 : Int32) (v2 : Int32) (o3 : Int32) (o5 : Int64) (o7 : Int64) : mm_run G0 162 2 [some (.ref 84), some (.int v1), some (.int v2), some (.int o3), none, some (.long o5), none, some (.long o7), none, none, none, none] [] (HP I A L F E) = (if v1 ≤ v2 then some (none, (HP I A L F E)) else mm_run G0 162 9 [some (.ref 84), some (.int v1), some (.int v2), some (.int v2), none, some (.long o5), none, some (.long o7), none, none, none, none] [] (HP I A L F E)) := by
  refine (sg_go ht_X8_clears (k := 2) (pc' := 4) (L' := [some (.ref 84), some (.int v1), some (.int v2), some (.int o3), none, some (.long o5), none, some (.long o7), none, none, none, none]) (st' := [.int v1, .int v2]) (h' := (HP I A L F E)) rfl).trans ?_
  refine (sg_cmp ht_X8_clears rfl).trans ?_
  refine ite_congr rfl (fun _ => ?_) (fun _ => ?_)
  · exact sg_ret ht_X8_clears rfl rfl
  · refine (sg_go ht_X8_clears (k := 2) (pc' := 9) (L' := [some (.ref 84), some (.int v1), some (.int v2), some (.int v2), none, some (.long o5), none, some (.long o7), none, none, none, none]) (st' := []) (h' := (HP I A L F E)) rfl).trans ?_
    rfl
set_option maxRecDepth 20000 in
theorem sg_X8_clears_2_v101101 {I : Nat → Int32} {A : Nat → List Int32} {L : Nat → List Int64} {F : Nat → Int64} {E : MH} (v1 : Int32) (v2 : Int32) (o3 : Int32) (o5 : Int64) (o7 : Int64) (o11 : Int32) : mm_run G0 162 2 [some (.ref 84), some (.int v1), some (.int v2), some (.int o3), none, some (.long o5), none, some (.long o7), none, none, none, some (.int o11)] [] (HP I A L F E) = (if v1 ≤ v2 then some (none, (HP I A L F E)) else mm_run G0 162 9 [some (.ref 84), some (.int v1), some (.int v2), some (.int v2), none, some (.long o5), none, some (.long o7), none, none, none, some (.int o11)] [] (HP I A L F E)) := by
  refine (sg_go ht_X8_clears (k := 2) (pc' := 4) (L' := [some (.ref 84), some (.int v1), some (.int v2), some (.int o3), none, some (.long o5), none, some (.long o7), none, none, none, some (.int o11)]) (st' := [.int v1, .int v2]) (h' := (HP I A L F E)) rfl).trans ?_
  refine (sg_cmp ht_X8_clears rfl).trans ?_
  refine ite_congr rfl (fun _ => ?_) (fun _ => ?_)
  · exact sg_ret ht_X8_clears rfl rfl
  · refine (sg_go ht_X8_clears (k := 2) (pc' := 9) (L' := [some (.ref 84), some (.int v1), some (.int v2), some (.int v2), none, some (.long o5), none, some (.long o7), none, none, none, some (.int o11)]) (st' := []) (h' := (HP I A L F E)) rfl).trans ?_
    rfl
set_option maxRecDepth 20000 in
theorem sg_X8_clears_2_v101110 {I : Nat → Int32} {A : Nat → List Int32} {L : Nat → List Int64} {F : Nat → Int64} {E : MH} (v1 : Int32) (v2 : Int32) (o3 : Int32) (o5 : Int64) (o7 : Int64) (o9 : Int64) : mm_run G0 162 2 [some (.ref 84), some (.int v1), some (.int v2), some (.int o3), none, some (.long o5), none, some (.long o7), none, some (.long o9), none, none] [] (HP I A L F E) = (if v1 ≤ v2 then some (none, (HP I A L F E)) else mm_run G0 162 9 [some (.ref 84), some (.int v1), some (.int v2), some (.int v2), none, some (.long o5), none, some (.long o7), none, some (.long o9), none, none] [] (HP I A L F E)) := by
  refine (sg_go ht_X8_clears (k := 2) (pc' := 4) (L' := [some (.ref 84), some (.int v1), some (.int v2), some (.int o3), none, some (.long o5), none, some (.long o7), none, some (.long o9), none, none]) (st' := [.int v1, .int v2]) (h' := (HP I A L F E)) rfl).trans ?_
  refine (sg_cmp ht_X8_clears rfl).trans ?_
  refine ite_congr rfl (fun _ => ?_) (fun _ => ?_)
  · exact sg_ret ht_X8_clears rfl rfl
  · refine (sg_go ht_X8_clears (k := 2) (pc' := 9) (L' := [some (.ref 84), some (.int v1), some (.int v2), some (.int v2), none, some (.long o5), none, some (.long o7), none, some (.long o9), none, none]) (st' := []) (h' := (HP I A L F E)) rfl).trans ?_
    rfl
set_option maxRecDepth 20000 in
theorem sg_X8_clears_2_v101111 {I : Nat → Int32} {A : Nat → List Int32} {L : Nat → List Int64} {F : Nat → Int64} {E : MH} (v1 : Int32) (v2 : Int32) (o3 : Int32) (o5 : Int64) (o7 : Int64) (o9 : Int64) (o11 : Int32) : mm_run G0 162 2 [some (.ref 84), some (.int v1), some (.int v2), some (.int o3), none, some (.long o5), none, some (.long o7), none, some (.long o9), none, some (.int o11)] [] (HP I A L F E) = (if v1 ≤ v2 then some (none, (HP I A L F E)) else mm_run G0 162 9 [some (.ref 84), some (.int v1), some (.int v2), some (.int v2), none, some (.long o5), none, some (.long o7), none, some (.long o9), none, some (.int o11)] [] (HP I A L F E)) := by
  refine (sg_go ht_X8_clears (k := 2) (pc' := 4) (L' := [some (.ref 84), some (.int v1), some (.int v2), some (.int o3), none, some (.long o5), none, some (.long o7), none, some (.long o9), none, some (.int o11)]) (st' := [.int v1, .int v2]) (h' := (HP I A L F E)) rfl).trans ?_
  refine (sg_cmp ht_X8_clears rfl).trans ?_
  refine ite_congr rfl (fun _ => ?_) (fun _ => ?_)
  · exact sg_ret ht_X8_clears rfl rfl
  · refine (sg_go ht_X8_clears (k := 2) (pc' := 9) (L' := [some (.ref 84), some (.int v1), some (.int v2), some (.int v2), none, some (.long o5), none, some (.long o7), none, some (.long o9), none, some (.int o11)]) (st' := []) (h' := (HP I A L F E)) rfl).trans ?_
    rfl
set_option maxRecDepth 20000 in
theorem sg_X8_clears_2_v110000 {I : Nat → Int32} {A : Nat → List Int32} {L : Nat → List Int64} {F : Nat → Int64} {E : MH} (v1 : Int32) (v2 : Int32) (o3 : Int32) (o4 : Int32) : mm_run G0 162 2 [some (.ref 84), some (.int v1), some (.int v2), some (.int o3), some (.int o4), none, none, none, none, none, none, none] [] (HP I A L F E) = (if v1 ≤ v2 then some (none, (HP I A L F E)) else mm_run G0 162 9 [some (.ref 84), some (.int v1), some (.int v2), some (.int v2), some (.int o4), none, none, none, none, none, none, none] [] (HP I A L F E)) := by
  refine (sg_go ht_X8_clears (k := 2) (pc' := 4) (L' := [some (.ref 84), some (.int v1), some (.int v2), some (.int o3), some (.int o4), none, none, none, none, none, none, none]) (st' := [.int v1, .int v2]) (h' := (HP I A L F E)) rfl).trans ?_
  refine (sg_cmp ht_X8_clears rfl).trans ?_
  refine ite_congr rfl (fun _ => ?_) (fun _ => ?_)
  · exact sg_ret ht_X8_clears rfl rfl
  · refine (sg_go ht_X8_clears (k := 2) (pc' := 9) (L' := [some (.ref 84), some (.int v1), some (.int v2), some (.int v2), some (.int o4), none, none, none, none, none, none, none]) (st' := []) (h' := (HP I A L F E)) rfl).trans ?_
    rfl
set_option maxRecDepth 20000 in
theorem sg_X8_clears_2_v110001 {I : Nat → Int32} {A : Nat → List Int32} {L : Nat → List Int64} {F : Nat → Int64} {E : MH} (v1 : Int32) (v2 : Int32) (o3 : Int32) (o4 : Int32) (o11 : Int32) : mm_run G0 162 2 [some (.ref 84), some (.int v1), some (.int v2), some (.int o3), some (.int o4), none, none, none, none, none, none, some (.int o11)] [] (HP I A L F E) = (if v1 ≤ v2 then some (none, (HP I A L F E)) else mm_run G0 162 9 [some (.ref 84), some (.int v1), some (.int v2), some (.int v2), some (.int o4), none, none, none, none, none, none, some (.int o11)] [] (HP I A L F E)) := by
  refine (sg_go ht_X8_clears (k := 2) (pc' := 4) (L' := [some (.ref 84), some (.int v1), some (.int v2), some (.int o3), some (.int o4), none, none, none, none, none, none, some (.int o11)]) (st' := [.int v1, .int v2]) (h' := (HP I A L F E)) rfl).trans ?_
  refine (sg_cmp ht_X8_clears rfl).trans ?_
  refine ite_congr rfl (fun _ => ?_) (fun _ => ?_)
  · exact sg_ret ht_X8_clears rfl rfl
  · refine (sg_go ht_X8_clears (k := 2) (pc' := 9) (L' := [some (.ref 84), some (.int v1), some (.int v2), some (.int v2), some (.int o4), none, none, none, none, none, none, some (.int o11)]) (st' := []) (h' := (HP I A L F E)) rfl).trans ?_
    rfl
set_option maxRecDepth 20000 in
theorem sg_X8_clears_2_v110010 {I : Nat → Int32} {A : Nat → List Int32} {L : Nat → List Int64} {F : Nat → Int64} {E : MH} (v1 : Int32) (v2 : Int32) (o3 : Int32) (o4 : Int32) (o9 : Int64) : mm_run G0 162 2 [some (.ref 84), some (.int v1), some (.int v2), some (.int o3), some (.int o4), none, none, none, none, some (.long o9), none, none] [] (HP I A L F E) = (if v1 ≤ v2 then some (none, (HP I A L F E)) else mm_run G0 162 9 [some (.ref 84), some (.int v1), some (.int v2), some (.int v2), some (.int o4), none, none, none, none, some (.long o9), none, none] [] (HP I A L F E)) := by
  refine (sg_go ht_X8_clears (k := 2) (pc' := 4) (L' := [some (.ref 84), some (.int v1), some (.int v2), some (.int o3), some (.int o4), none, none, none, none, some (.long o9), none, none]) (st' := [.int v1, .int v2]) (h' := (HP I A L F E)) rfl).trans ?_
  refine (sg_cmp ht_X8_clears rfl).trans ?_
  refine ite_congr rfl (fun _ => ?_) (fun _ => ?_)
  · exact sg_ret ht_X8_clears rfl rfl
  · refine (sg_go ht_X8_clears (k := 2) (pc' := 9) (L' := [some (.ref 84), some (.int v1), some (.int v2), some (.int v2), some (.int o4), none, none, none, none, some (.long o9), none, none]) (st' := []) (h' := (HP I A L F E)) rfl).trans ?_
    rfl
set_option maxRecDepth 20000 in
theorem sg_X8_clears_2_v110011 {I : Nat → Int32} {A : Nat → List Int32} {L : Nat → List Int64} {F : Nat → Int64} {E : MH} (v1 : Int32) (v2 : Int32) (o3 : Int32) (o4 : Int32) (o9 : Int64) (o11 : Int32) : mm_run G0 162 2 [some (.ref 84), some (.int v1), some (.int v2), some (.int o3), some (.int o4), none, none, none, none, some (.long o9), none, some (.int o11)] [] (HP I A L F E) = (if v1 ≤ v2 then some (none, (HP I A L F E)) else mm_run G0 162 9 [some (.ref 84), some (.int v1), some (.int v2), some (.int v2), some (.int o4), none, none, none, none, some (.long o9), none, some (.int o11)] [] (HP I A L F E)) := by
  refine (sg_go ht_X8_clears (k := 2) (pc' := 4) (L' := [some (.ref 84), some (.int v1), some (.int v2), some (.int o3), some (.int o4), none, none, none, none, some (.long o9), none, some (.int o11)]) (st' := [.int v1, .int v2]) (h' := (HP I A L F E)) rfl).trans ?_
  refine (sg_cmp ht_X8_clears rfl).trans ?_
  refine ite_congr rfl (fun _ => ?_) (fun _ => ?_)
  · exact sg_ret ht_X8_clears rfl rfl
  · refine (sg_go ht_X8_clears (k := 2) (pc' := 9) (L' := [some (.ref 84), some (.int v1), some (.int v2), some (.int v2), some (.int o4), none, none, none, none, some (.long o9), none, some (.int o11)]) (st' := []) (h' := (HP I A L F E)) rfl).trans ?_
    rfl
set_option maxRecDepth 20000 in
theorem sg_X8_clears_2_v110100 {I : Nat → Int32} {A : Nat → List Int32} {L : Nat → List Int64} {F : Nat → Int64} {E : MH} (v1 : Int32) (v2 : Int32) (o3 : Int32) (o4 : Int32) (o7 : Int64) : mm_run G0 162 2 [some (.ref 84), some (.int v1), some (.int v2), some (.int o3), some (.int o4), none, none, some (.long o7), none, none, none, none] [] (HP I A L F E) = (if v1 ≤ v2 then some (none, (HP I A L F E)) else mm_run G0 162 9 [some (.ref 84), some (.int v1), some (.int v2), some (.int v2), some (.int o4), none, none, some (.long o7), none, none, none, none] [] (HP I A L F E)) := by
  refine (sg_go ht_X8_clears (k := 2) (pc' := 4) (L' := [some (.ref 84), some (.int v1), some (.int v2), some (.int o3), some (.int o4), none, none, some (.long o7), none, none, none, none]) (st' := [.int v1, .int v2]) (h' := (HP I A L F E)) rfl).trans ?_
  refine (sg_cmp ht_X8_clears rfl).trans ?_
  refine ite_congr rfl (fun _ => ?_) (fun _ => ?_)
  · exact sg_ret ht_X8_clears rfl rfl
  · refine (sg_go ht_X8_clears (k := 2) (pc' := 9) (L' := [some (.ref 84), some (.int v1), some (.int v2), some (.int v2), some (.int o4), none, none, some (.long o7), none, none, none, none]) (st' := []) (h' := (HP I A L F E)) rfl).trans ?_
    rfl
set_option maxRecDepth 20000 in
theorem sg_X8_clears_2_v110101 {I : Nat → Int32} {A : Nat → List Int32} {L : Nat → List Int64} {F : Nat → Int64} {E : MH} (v1 : Int32) (v2 : Int32) (o3 : Int32) (o4 : Int32) (o7 : Int64) (o11 : Int32) : mm_run G0 162 2 [some (.ref 84), some (.int v1), some (.int v2), some (.int o3), some (.int o4), none, none, some (.long o7), none, none, none, some (.int o11)] [] (HP I A L F E) = (if v1 ≤ v2 then some (none, (HP I A L F E)) else mm_run G0 162 9 [some (.ref 84), some (.int v1), some (.int v2), some (.int v2), some (.int o4), none, none, some (.long o7), none, none, none, some (.int o11)] [] (HP I A L F E)) := by
  refine (sg_go ht_X8_clears (k := 2) (pc' := 4) (L' := [some (.ref 84), some (.int v1), some (.int v2), some (.int o3), some (.int o4), none, none, some (.long o7), none, none, none, some (.int o11)]) (st' := [.int v1, .int v2]) (h' := (HP I A L F E)) rfl).trans ?_
  refine (sg_cmp ht_X8_clears rfl).trans ?_
  refine ite_congr rfl (fun _ => ?_) (fun _ => ?_)
  · exact sg_ret ht_X8_clears rfl rfl
  · refine (sg_go ht_X8_clears (k := 2) (pc' := 9) (L' := [some (.ref 84), some (.int v1), some (.int v2), some (.int v2), some (.int o4), none, none, some (.long o7), none, none, none, some (.int o11)]) (st' := []) (h' := (HP I A L F E)) rfl).trans ?_
    rfl
set_option maxRecDepth 20000 in
theorem sg_X8_clears_2_v110110 {I : Nat → Int32} {A : Nat → List Int32} {L : Nat → List Int64} {F : Nat → Int64} {E : MH} (v1 : Int32) (v2 : Int32) (o3 : Int32) (o4 : Int32) (o7 : Int64) (o9 : Int64) : mm_run G0 162 2 [some (.ref 84), some (.int v1), some (.int v2), some (.int o3), some (.int o4), none, none, some (.long o7), none, some (.long o9), none, none] [] (HP I A L F E) = (if v1 ≤ v2 then some (none, (HP I A L F E)) else mm_run G0 162 9 [some (.ref 84), some (.int v1), some (.int v2), some (.int v2), some (.int o4), none, none, some (.long o7), none, some (.long o9), none, none] [] (HP I A L F E)) := by
  refine (sg_go ht_X8_clears (k := 2) (pc' := 4) (L' := [some (.ref 84), some (.int v1), some (.int v2), some (.int o3), some (.int o4), none, none, some (.long o7), none, some (.long o9), none, none]) (st' := [.int v1, .int v2]) (h' := (HP I A L F E)) rfl).trans ?_
  refine (sg_cmp ht_X8_clears rfl).trans ?_
  refine ite_congr rfl (fun _ => ?_) (fun _ => ?_)
  · exact sg_ret ht_X8_clears rfl rfl
  · refine (sg_go ht_X8_clears (k := 2) (pc' := 9) (L' := [some (.ref 84), some (.int v1), some (.int v2), some (.int v2), some (.int o4), none, none, some (.long o7), none, some (.long o9), none, none]) (st' := []) (h' := (HP I A L F E)) rfl).trans ?_
    rfl
set_option maxRecDepth 20000 in
theorem sg_X8_clears_2_v110111 {I : Nat → Int32} {A : Nat → List Int32} {L : Nat → List Int64} {F : Nat → Int64} {E : MH} (v1 : Int32) (v2 : Int32) (o3 : Int32) (o4 : Int32) (o7 : Int64) (o9 : Int64) (o11 : Int32) : mm_run G0 162 2 [some (.ref 84), some (.int v1), some (.int v2), some (.int o3), some (.int o4), none, none, some (.long o7), none, some (.long o9), none, some (.int o11)] [] (HP I A L F E) = (if v1 ≤ v2 then some (none, (HP I A L F E)) else mm_run G0 162 9 [some (.ref 84), some (.int v1), some (.int v2), some (.int v2), some (.int o4), none, none, some (.long o7), none, some (.long o9), none, some (.int o11)] [] (HP I A L F E)) := by
  refine (sg_go ht_X8_clears (k := 2) (pc' := 4) (L' := [some (.ref 84), some (.int v1), some (.int v2), some (.int o3), some (.int o4), none, none, some (.long o7), none, some (.long o9), none, some (.int o11)]) (st' := [.int v1, .int v2]) (h' := (HP I A L F E)) rfl).trans ?_
  refine (sg_cmp ht_X8_clears rfl).trans ?_
  refine ite_congr rfl (fun _ => ?_) (fun _ => ?_)
  · exact sg_ret ht_X8_clears rfl rfl
  · refine (sg_go ht_X8_clears (k := 2) (pc' := 9) (L' := [some (.ref 84), some (.int v1), some (.int v2), some (.int v2), some (.int o4), none, none, some (.long o7), none, some (.long o9), none, some (.int o11)]) (st' := []) (h' := (HP I A L F E)) rfl).trans ?_
    rfl
set_option maxRecDepth 20000 in
theorem sg_X8_clears_2_v111000 {I : Nat → Int32} {A : Nat → List Int32} {L : Nat → List Int64} {F : Nat → Int64} {E : MH} (v1 : Int32) (v2 : Int32) (o3 : Int32) (o4 : Int32) (o5 : Int64) : mm_run G0 162 2 [some (.ref 84), some (.int v1), some (.int v2), some (.int o3), some (.int o4), some (.long o5), none, none, none, none, none, none] [] (HP I A L F E) = (if v1 ≤ v2 then some (none, (HP I A L F E)) else mm_run G0 162 9 [some (.ref 84), some (.int v1), some (.int v2), some (.int v2), some (.int o4), some (.long o5), none, none, none, none, none, none] [] (HP I A L F E)) := by
  refine (sg_go ht_X8_clears (k := 2) (pc' := 4) (L' := [some (.ref 84), some (.int v1), some (.int v2), some (.int o3), some (.int o4), some (.long o5), none, none, none, none, none, none]) (st' := [.int v1, .int v2]) (h' := (HP I A L F E)) rfl).trans ?_
  refine (sg_cmp ht_X8_clears rfl).trans ?_
  refine ite_congr rfl (fun _ => ?_) (fun _ => ?_)
  · exact sg_ret ht_X8_clears rfl rfl
  · refine (sg_go ht_X8_clears (k := 2) (pc' := 9) (L' := [some (.ref 84), some (.int v1), some (.int v2), some (.int v2), some (.int o4), some (.long o5), none, none, none, none, none, none]) (st' := []) (h' := (HP I A L F E)) rfl).trans ?_
    rfl
set_option maxRecDepth 20000 in
theorem sg_X8_clears_2_v111001 {I : Nat → Int32} {A : Nat → List Int32} {L : Nat → List Int64} {F : Nat → Int64} {E : MH} (v1 : Int32) (v2 : Int32) (o3 : Int32) (o4 : Int32) (o5 : Int64) (o11 : Int32) : mm_run G0 162 2 [some (.ref 84), some (.int v1), some (.int v2), some (.int o3), some (.int o4), some (.long o5), none, none, none, none, none, some (.int o11)] [] (HP I A L F E) = (if v1 ≤ v2 then some (none, (HP I A L F E)) else mm_run G0 162 9 [some (.ref 84), some (.int v1), some (.int v2), some (.int v2), some (.int o4), some (.long o5), none, none, none, none, none, some (.int o11)] [] (HP I A L F E)) := by
  refine (sg_go ht_X8_clears (k := 2) (pc' := 4) (L' := [some (.ref 84), some (.int v1), some (.int v2), some (.int o3), some (.int o4), some (.long o5), none, none, none, none, none, some (.int o11)]) (st' := [.int v1, .int v2]) (h' := (HP I A L F E)) rfl).trans ?_
  refine (sg_cmp ht_X8_clears rfl).trans ?_
  refine ite_congr rfl (fun _ => ?_) (fun _ => ?_)
  · exact sg_ret ht_X8_clears rfl rfl
  · refine (sg_go ht_X8_clears (k := 2) (pc' := 9) (L' := [some (.ref 84), some (.int v1), some (.int v2), some (.int v2), some (.int o4), some (.long o5), none, none, none, none, none, some (.int o11)]) (st' := []) (h' := (HP I A L F E)) rfl).trans ?_
    rfl
set_option maxRecDepth 20000 in
theorem sg_X8_clears_2_v111010 {I : Nat → Int32} {A : Nat → List Int32} {L : Nat → List Int64} {F : Nat → Int64} {E : MH} (v1 : Int32) (v2 : Int32) (o3 : Int32) (o4 : Int32) (o5 : Int64) (o9 : Int64) : mm_run G0 162 2 [some (.ref 84), some (.int v1), some (.int v2), some (.int o3), some (.int o4), some (.long o5), none, none, none, some (.long o9), none, none] [] (HP I A L F E) = (if v1 ≤ v2 then some (none, (HP I A L F E)) else mm_run G0 162 9 [some (.ref 84), some (.int v1), some (.int v2), some (.int v2), some (.int o4), some (.long o5), none, none, none, some (.long o9), none, none] [] (HP I A L F E)) := by
  refine (sg_go ht_X8_clears (k := 2) (pc' := 4) (L' := [some (.ref 84), some (.int v1), some (.int v2), some (.int o3), some (.int o4), some (.long o5), none, none, none, some (.long o9), none, none]) (st' := [.int v1, .int v2]) (h' := (HP I A L F E)) rfl).trans ?_
  refine (sg_cmp ht_X8_clears rfl).trans ?_
  refine ite_congr rfl (fun _ => ?_) (fun _ => ?_)
  · exact sg_ret ht_X8_clears rfl rfl
  · refine (sg_go ht_X8_clears (k := 2) (pc' := 9) (L' := [some (.ref 84), some (.int v1), some (.int v2), some (.int v2), some (.int o4), some (.long o5), none, none, none, some (.long o9), none, none]) (st' := []) (h' := (HP I A L F E)) rfl).trans ?_
    rfl
set_option maxRecDepth 20000 in
theorem sg_X8_clears_2_v111011 {I : Nat → Int32} {A : Nat → List Int32} {L : Nat → List Int64} {F : Nat → Int64} {E : MH} (v1 : Int32) (v2 : Int32) (o3 : Int32) (o4 : Int32) (o5 : Int64) (o9 : Int64) (o11 : Int32) : mm_run G0 162 2 [some (.ref 84), some (.int v1), some (.int v2), some (.int o3), some (.int o4), some (.long o5), none, none, none, some (.long o9), none, some (.int o11)] [] (HP I A L F E) = (if v1 ≤ v2 then some (none, (HP I A L F E)) else mm_run G0 162 9 [some (.ref 84), some (.int v1), some (.int v2), some (.int v2), some (.int o4), some (.long o5), none, none, none, some (.long o9), none, some (.int o11)] [] (HP I A L F E)) := by
  refine (sg_go ht_X8_clears (k := 2) (pc' := 4) (L' := [some (.ref 84), some (.int v1), some (.int v2), some (.int o3), some (.int o4), some (.long o5), none, none, none, some (.long o9), none, some (.int o11)]) (st' := [.int v1, .int v2]) (h' := (HP I A L F E)) rfl).trans ?_
  refine (sg_cmp ht_X8_clears rfl).trans ?_
  refine ite_congr rfl (fun _ => ?_) (fun _ => ?_)
  · exact sg_ret ht_X8_clears rfl rfl
  · refine (sg_go ht_X8_clears (k := 2) (pc' := 9) (L' := [some (.ref 84), some (.int v1), some (.int v2), some (.int v2), some (.int o4), some (.long o5), none, none, none, some (.long o9), none, some (.int o11)]) (st' := []) (h' := (HP I A L F E)) rfl).trans ?_
    rfl
set_option maxRecDepth 20000 in
theorem sg_X8_clears_2_v111100 {I : Nat → Int32} {A : Nat → List Int32} {L : Nat → List Int64} {F : Nat → Int64} {E : MH} (v1 : Int32) (v2 : Int32) (o3 : Int32) (o4 : Int32) (o5 : Int64) (o7 : Int64) : mm_run G0 162 2 [some (.ref 84), some (.int v1), some (.int v2), some (.int o3), some (.int o4), some (.long o5), none, some (.long o7), none, none, none, none] [] (HP I A L F E) = (if v1 ≤ v2 then some (none, (HP I A L F E)) else mm_run G0 162 9 [some (.ref 84), some (.int v1), some (.int v2), some (.int v2), some (.int o4), some (.long o5), none, some (.long o7), none, none, none, none] [] (HP I A L F E)) := by
  refine (sg_go ht_X8_clears (k := 2) (pc' := 4) (L' := [some (.ref 84), some (.int v1), some (.int v2), some (.int o3), some (.int o4), some (.long o5), none, some (.long o7), none, none, none, none]) (st' := [.int v1, .int v2]) (h' := (HP I A L F E)) rfl).trans ?_
  refine (sg_cmp ht_X8_clears rfl).trans ?_
  refine ite_congr rfl (fun _ => ?_) (fun _ => ?_)
  · exact sg_ret ht_X8_clears rfl rfl
  · refine (sg_go ht_X8_clears (k := 2) (pc' := 9) (L' := [some (.ref 84), some (.int v1), some (.int v2), some (.int v2), some (.int o4), some (.long o5), none, some (.long o7), none, none, none, none]) (st' := []) (h' := (HP I A L F E)) rfl).trans ?_
    rfl
set_option maxRecDepth 20000 in
theorem sg_X8_clears_2_v111101 {I : Nat → Int32} {A : Nat → List Int32} {L : Nat → List Int64} {F : Nat → Int64} {E : MH} (v1 : Int32) (v2 : Int32) (o3 : Int32) (o4 : Int32) (o5 : Int64) (o7 : Int64) (o11 : Int32) : mm_run G0 162 2 [some (.ref 84), some (.int v1), some (.int v2), some (.int o3), some (.int o4), some (.long o5), none, some (.long o7), none, none, none, some (.int o11)] [] (HP I A L F E) = (if v1 ≤ v2 then some (none, (HP I A L F E)) else mm_run G0 162 9 [some (.ref 84), some (.int v1), some (.int v2), some (.int v2), some (.int o4), some (.long o5), none, some (.long o7), none, none, none, some (.int o11)] [] (HP I A L F E)) := by
  refine (sg_go ht_X8_clears (k := 2) (pc' := 4) (L' := [some (.ref 84), some (.int v1), some (.int v2), some (.int o3), some (.int o4), some (.long o5), none, some (.long o7), none, none, none, some (.int o11)]) (st' := [.int v1, .int v2]) (h' := (HP I A L F E)) rfl).trans ?_
  refine (sg_cmp ht_X8_clears rfl).trans ?_
  refine ite_congr rfl (fun _ => ?_) (fun _ => ?_)
  · exact sg_ret ht_X8_clears rfl rfl
  · refine (sg_go ht_X8_clears (k := 2) (pc' := 9) (L' := [some (.ref 84), some (.int v1), some (.int v2), some (.int v2), some (.int o4), some (.long o5), none, some (.long o7), none, none, none, some (.int o11)]) (st' := []) (h' := (HP I A L F E)) rfl).trans ?_
    rfl
set_option maxRecDepth 20000 in
theorem sg_X8_clears_2_v111110 {I : Nat → Int32} {A : Nat → List Int32} {L : Nat → List Int64} {F : Nat → Int64} {E : MH} (v1 : Int32) (v2 : Int32) (o3 : Int32) (o4 : Int32) (o5 : Int64) (o7 : Int64) (o9 : Int64) : mm_run G0 162 2 [some (.ref 84), some (.int v1), some (.int v2), some (.int o3), some (.int o4), some (.long o5), none, some (.long o7), none, some (.long o9), none, none] [] (HP I A L F E) = (if v1 ≤ v2 then some (none, (HP I A L F E)) else mm_run G0 162 9 [some (.ref 84), some (.int v1), some (.int v2), some (.int v2), some (.int o4), some (.long o5), none, some (.long o7), none, some (.long o9), none, none] [] (HP I A L F E)) := by
  refine (sg_go ht_X8_clears (k := 2) (pc' := 4) (L' := [some (.ref 84), some (.int v1), some (.int v2), some (.int o3), some (.int o4), some (.long o5), none, some (.long o7), none, some (.long o9), none, none]) (st' := [.int v1, .int v2]) (h' := (HP I A L F E)) rfl).trans ?_
  refine (sg_cmp ht_X8_clears rfl).trans ?_
  refine ite_congr rfl (fun _ => ?_) (fun _ => ?_)
  · exact sg_ret ht_X8_clears rfl rfl
  · refine (sg_go ht_X8_clears (k := 2) (pc' := 9) (L' := [some (.ref 84), some (.int v1), some (.int v2), some (.int v2), some (.int o4), some (.long o5), none, some (.long o7), none, some (.long o9), none, none]) (st' := []) (h' := (HP I A L F E)) rfl).trans ?_
    rfl
set_option maxRecDepth 20000 in
theorem sg_X8_clears_2_v111111 {I : Nat → Int32} {A : Nat → List Int32} {L : Nat → List Int64} {F : Nat → Int64} {E : MH} (v1 : Int32) (v2 : Int32) (o3 : Int32) (o4 : Int32) (o5 : Int64) (o7 : Int64) (o9 : Int64) (o11 : Int32) : mm_run G0 162 2 [some (.ref 84), some (.int v1), some (.int v2), some (.int o3), some (.int o4), some (.long o5), none, some (.long o7), none, some (.long o9), none, some (.int o11)] [] (HP I A L F E) = (if v1 ≤ v2 then some (none, (HP I A L F E)) else mm_run G0 162 9 [some (.ref 84), some (.int v1), some (.int v2), some (.int v2), some (.int o4), some (.long o5), none, some (.long o7), none, some (.long o9), none, some (.int o11)] [] (HP I A L F E)) := by
  refine (sg_go ht_X8_clears (k := 2) (pc' := 4) (L' := [some (.ref 84), some (.int v1), some (.int v2), some (.int o3), some (.int o4), some (.long o5), none, some (.long o7), none, some (.long o9), none, some (.int o11)]) (st' := [.int v1, .int v2]) (h' := (HP I A L F E)) rfl).trans ?_
  refine (sg_cmp ht_X8_clears rfl).trans ?_
  refine ite_congr rfl (fun _ => ?_) (fun _ => ?_)
  · exact sg_ret ht_X8_clears rfl rfl
  · refine (sg_go ht_X8_clears (k := 2) (pc' := 9) (L' := [some (.ref 84), some (.int v1), some (.int v2), some (.int v2), some (.int o4), some (.long o5), none, some (.long o7), none, some (.long o9), none, some (.int o11)]) (st' := []) (h' := (HP I A L F E)) rfl).trans ?_
    rfl
theorem sg_X8_clears_2 {I : Nat → Int32} {A : Nat → List Int32} {L : Nat → List Int64} {F : Nat → Int64} {E : MH} (v1 : Int32) (v2 : Int32) (o3 : Option Int32) (o4 : Option Int32) (o5 : Option Int64) (o7 : Option Int64) (o9 : Option Int64) (o11 : Option Int32) : mm_run G0 162 2 [some (.ref 84), some (.int v1), some (.int v2), (o3.map Value.int), (o4.map Value.int), (o5.map Value.long), none, (o7.map Value.long), none, (o9.map Value.long), none, (o11.map Value.int)] [] (HP I A L F E) = (if v1 ≤ v2 then some (none, (HP I A L F E)) else mm_run G0 162 9 [some (.ref 84), some (.int v1), some (.int v2), some (.int v2), (o4.map Value.int), (o5.map Value.long), none, (o7.map Value.long), none, (o9.map Value.long), none, (o11.map Value.int)] [] (HP I A L F E)) := by
  match o3, o4, o5, o7, o9, o11 with
  | none, none, none, none, none, none => exact sg_X8_clears_2_v000000 v1 v2
  | none, none, none, none, none, some o11 => exact sg_X8_clears_2_v000001 v1 v2 o11
  | none, none, none, none, some o9, none => exact sg_X8_clears_2_v000010 v1 v2 o9
  | none, none, none, none, some o9, some o11 => exact sg_X8_clears_2_v000011 v1 v2 o9 o11
  | none, none, none, some o7, none, none => exact sg_X8_clears_2_v000100 v1 v2 o7
  | none, none, none, some o7, none, some o11 => exact sg_X8_clears_2_v000101 v1 v2 o7 o11
  | none, none, none, some o7, some o9, none => exact sg_X8_clears_2_v000110 v1 v2 o7 o9
  | none, none, none, some o7, some o9, some o11 => exact sg_X8_clears_2_v000111 v1 v2 o7 o9 o11
  | none, none, some o5, none, none, none => exact sg_X8_clears_2_v001000 v1 v2 o5
  | none, none, some o5, none, none, some o11 => exact sg_X8_clears_2_v001001 v1 v2 o5 o11
  | none, none, some o5, none, some o9, none => exact sg_X8_clears_2_v001010 v1 v2 o5 o9
  | none, none, some o5, none, some o9, some o11 => exact sg_X8_clears_2_v001011 v1 v2 o5 o9 o11
  | none, none, some o5, some o7, none, none => exact sg_X8_clears_2_v001100 v1 v2 o5 o7
  | none, none, some o5, some o7, none, some o11 => exact sg_X8_clears_2_v001101 v1 v2 o5 o7 o11
  | none, none, some o5, some o7, some o9, none => exact sg_X8_clears_2_v001110 v1 v2 o5 o7 o9
  | none, none, some o5, some o7, some o9, some o11 => exact sg_X8_clears_2_v001111 v1 v2 o5 o7 o9 o11
  | none, some o4, none, none, none, none => exact sg_X8_clears_2_v010000 v1 v2 o4
  | none, some o4, none, none, none, some o11 => exact sg_X8_clears_2_v010001 v1 v2 o4 o11
  | none, some o4, none, none, some o9, none => exact sg_X8_clears_2_v010010 v1 v2 o4 o9
  | none, some o4, none, none, some o9, some o11 => exact sg_X8_clears_2_v010011 v1 v2 o4 o9 o11
  | none, some o4, none, some o7, none, none => exact sg_X8_clears_2_v010100 v1 v2 o4 o7
  | none, some o4, none, some o7, none, some o11 => exact sg_X8_clears_2_v010101 v1 v2 o4 o7 o11
  | none, some o4, none, some o7, some o9, none => exact sg_X8_clears_2_v010110 v1 v2 o4 o7 o9
  | none, some o4, none, some o7, some o9, some o11 => exact sg_X8_clears_2_v010111 v1 v2 o4 o7 o9 o11
  | none, some o4, some o5, none, none, none => exact sg_X8_clears_2_v011000 v1 v2 o4 o5
  | none, some o4, some o5, none, none, some o11 => exact sg_X8_clears_2_v011001 v1 v2 o4 o5 o11
  | none, some o4, some o5, none, some o9, none => exact sg_X8_clears_2_v011010 v1 v2 o4 o5 o9
  | none, some o4, some o5, none, some o9, some o11 => exact sg_X8_clears_2_v011011 v1 v2 o4 o5 o9 o11
  | none, some o4, some o5, some o7, none, none => exact sg_X8_clears_2_v011100 v1 v2 o4 o5 o7
  | none, some o4, some o5, some o7, none, some o11 => exact sg_X8_clears_2_v011101 v1 v2 o4 o5 o7 o11
  | none, some o4, some o5, some o7, some o9, none => exact sg_X8_clears_2_v011110 v1 v2 o4 o5 o7 o9
  | none, some o4, some o5, some o7, some o9, some o11 => exact sg_X8_clears_2_v011111 v1 v2 o4 o5 o7 o9 o11
  | some o3, none, none, none, none, none => exact sg_X8_clears_2_v100000 v1 v2 o3
  | some o3, none, none, none, none, some o11 => exact sg_X8_clears_2_v100001 v1 v2 o3 o11
  | some o3, none, none, none, some o9, none => exact sg_X8_clears_2_v100010 v1 v2 o3 o9
  | some o3, none, none, none, some o9, some o11 => exact sg_X8_clears_2_v100011 v1 v2 o3 o9 o11
  | some o3, none, none, some o7, none, none => exact sg_X8_clears_2_v100100 v1 v2 o3 o7
  | some o3, none, none, some o7, none, some o11 => exact sg_X8_clears_2_v100101 v1 v2 o3 o7 o11
  | some o3, none, none, some o7, some o9, none => exact sg_X8_clears_2_v100110 v1 v2 o3 o7 o9
  | some o3, none, none, some o7, some o9, some o11 => exact sg_X8_clears_2_v100111 v1 v2 o3 o7 o9 o11
  | some o3, none, some o5, none, none, none => exact sg_X8_clears_2_v101000 v1 v2 o3 o5
  | some o3, none, some o5, none, none, some o11 => exact sg_X8_clears_2_v101001 v1 v2 o3 o5 o11
  | some o3, none, some o5, none, some o9, none => exact sg_X8_clears_2_v101010 v1 v2 o3 o5 o9
  | some o3, none, some o5, none, some o9, some o11 => exact sg_X8_clears_2_v101011 v1 v2 o3 o5 o9 o11
  | some o3, none, some o5, some o7, none, none => exact sg_X8_clears_2_v101100 v1 v2 o3 o5 o7
  | some o3, none, some o5, some o7, none, some o11 => exact sg_X8_clears_2_v101101 v1 v2 o3 o5 o7 o11
  | some o3, none, some o5, some o7, some o9, none => exact sg_X8_clears_2_v101110 v1 v2 o3 o5 o7 o9
  | some o3, none, some o5, some o7, some o9, some o11 => exact sg_X8_clears_2_v101111 v1 v2 o3 o5 o7 o9 o11
  | some o3, some o4, none, none, none, none => exact sg_X8_clears_2_v110000 v1 v2 o3 o4
  | some o3, some o4, none, none, none, some o11 => exact sg_X8_clears_2_v110001 v1 v2 o3 o4 o11
  | some o3, some o4, none, none, some o9, none => exact sg_X8_clears_2_v110010 v1 v2 o3 o4 o9
  | some o3, some o4, none, none, some o9, some o11 => exact sg_X8_clears_2_v110011 v1 v2 o3 o4 o9 o11
  | some o3, some o4, none, some o7, none, none => exact sg_X8_clears_2_v110100 v1 v2 o3 o4 o7
  | some o3, some o4, none, some o7, none, some o11 => exact sg_X8_clears_2_v110101 v1 v2 o3 o4 o7 o11
  | some o3, some o4, none, some o7, some o9, none => exact sg_X8_clears_2_v110110 v1 v2 o3 o4 o7 o9
  | some o3, some o4, none, some o7, some o9, some o11 => exact sg_X8_clears_2_v110111 v1 v2 o3 o4 o7 o9 o11
  | some o3, some o4, some o5, none, none, none => exact sg_X8_clears_2_v111000 v1 v2 o3 o4 o5
  | some o3, some o4, some o5, none, none, some o11 => exact sg_X8_clears_2_v111001 v1 v2 o3 o4 o5 o11
  | some o3, some o4, some o5, none, some o9, none => exact sg_X8_clears_2_v111010 v1 v2 o3 o4 o5 o9
  | some o3, some o4, some o5, none, some o9, some o11 => exact sg_X8_clears_2_v111011 v1 v2 o3 o4 o5 o9 o11
  | some o3, some o4, some o5, some o7, none, none => exact sg_X8_clears_2_v111100 v1 v2 o3 o4 o5 o7
  | some o3, some o4, some o5, some o7, none, some o11 => exact sg_X8_clears_2_v111101 v1 v2 o3 o4 o5 o7 o11
  | some o3, some o4, some o5, some o7, some o9, none => exact sg_X8_clears_2_v111110 v1 v2 o3 o4 o5 o7 o9
  | some o3, some o4, some o5, some o7, some o9, some o11 => exact sg_X8_clears_2_v111111 v1 v2 o3 o4 o5 o7 o9 o11
set_option maxRecDepth 20000 in
theorem sg_X8_clears_9_v00000 {I : Nat → Int32} {A : Nat → List Int32} {L : Nat → List Int64} {F : Nat → Int64} {E : MH} (v1 : Int32) (v2 : Int32) (v3 : Int32) : mm_run G0 162 9 [some (.ref 84), some (.int v1), some (.int v2), some (.int v3), none, none, none, none, none, none, none, none] [] (HP I A L F E) = ((ldR [some 96, some 97, some 98, some 99, some 100, some 101] v3).bind fun a1 => ((ldL (L a1) v2).bind fun x2 => (if (lg_cmp x2 (0)) ≠ 0 then ((mm_call G0 161 [.ref 84, .int v3, .int v2, .int v1] (HP I A L F E)).bind fun q => mm_run G0 162 35 [some (.ref 84), some (.int v1), some (.int v2), some (.int v3), none, none, none, none, none, none, none, none] (q.1.toList ++ []) q.2) else mm_run G0 162 9 [some (.ref 84), some (.int v1), some (.int v2), some (.int (v3 + 1)), none, none, none, none, none, none, none, none] [] (HP I A L F E)))) := by
  refine (sg_go ht_X8_clears (k := 3) (pc' := 14) (L' := [some (.ref 84), some (.int v1), some (.int v2), some (.int v3), none, none, none, none, none, none, none, none]) (st' := [.int v3, .ref 95]) (h' := (HP I A L F E)) rfl).trans ?_
  refine (sg_ldR ht_X8_clears rfl hp_o_95).trans ?_
  refine bind_cg fun a1 ha1 => ?_
  have ha1 := in_95 ha1
  refine (sg_go ht_X8_clears (k := 1) (pc' := 16) (L' := [some (.ref 84), some (.int v1), some (.int v2), some (.int v3), none, none, none, none, none, none, none, none]) (st' := [.int v2, .ref a1]) (h' := (HP I A L F E)) rfl).trans ?_
  refine (sg_ldL ht_X8_clears rfl (sMr_obj ha1)).trans ?_
  refine bind_cg fun x2 hx2 => ?_
  refine (sg_go ht_X8_clears (k := 2) (pc' := 19) (L' := [some (.ref 84), some (.int v1), some (.int v2), some (.int v3), none, none, none, none, none, none, none, none]) (st' := [.int (lg_cmp x2 (0))]) (h' := (HP I A L F E)) rfl).trans ?_
  refine (sg_if ht_X8_clears rfl).trans ?_
  refine ite_congr rfl (fun _ => ?_) (fun _ => ?_)
  · refine (sg_go ht_X8_clears (k := 4) (pc' := 32) (L' := [some (.ref 84), some (.int v1), some (.int v2), some (.int v3), none, none, none, none, none, none, none, none]) (st' := [.int v1, .int v2, .int v3, .ref 84]) (h' := (HP I A L F E)) rfl).trans ?_
    refine (sg_call ht_X8_clears (mj := 161) (as := [.ref 84, .int v3, .int v2, .int v1]) (rest := []) rfl rfl ⟨by decide, Nat.le_of_ble_eq_true rfl⟩).trans ?_
    rfl
  · refine (sg_go ht_X8_clears (k := 2) (pc' := 9) (L' := [some (.ref 84), some (.int v1), some (.int v2), some (.int (v3 + 1)), none, none, none, none, none, none, none, none]) (st' := []) (h' := (HP I A L F E)) rfl).trans ?_
    rfl
set_option maxRecDepth 20000 in
theorem sg_X8_clears_9_v00001 {I : Nat → Int32} {A : Nat → List Int32} {L : Nat → List Int64} {F : Nat → Int64} {E : MH} (v1 : Int32) (v2 : Int32) (v3 : Int32) (o11 : Int32) : mm_run G0 162 9 [some (.ref 84), some (.int v1), some (.int v2), some (.int v3), none, none, none, none, none, none, none, some (.int o11)] [] (HP I A L F E) = ((ldR [some 96, some 97, some 98, some 99, some 100, some 101] v3).bind fun a1 => ((ldL (L a1) v2).bind fun x2 => (if (lg_cmp x2 (0)) ≠ 0 then ((mm_call G0 161 [.ref 84, .int v3, .int v2, .int v1] (HP I A L F E)).bind fun q => mm_run G0 162 35 [some (.ref 84), some (.int v1), some (.int v2), some (.int v3), none, none, none, none, none, none, none, some (.int o11)] (q.1.toList ++ []) q.2) else mm_run G0 162 9 [some (.ref 84), some (.int v1), some (.int v2), some (.int (v3 + 1)), none, none, none, none, none, none, none, some (.int o11)] [] (HP I A L F E)))) := by
  refine (sg_go ht_X8_clears (k := 3) (pc' := 14) (L' := [some (.ref 84), some (.int v1), some (.int v2), some (.int v3), none, none, none, none, none, none, none, some (.int o11)]) (st' := [.int v3, .ref 95]) (h' := (HP I A L F E)) rfl).trans ?_
  refine (sg_ldR ht_X8_clears rfl hp_o_95).trans ?_
  refine bind_cg fun a1 ha1 => ?_
  have ha1 := in_95 ha1
  refine (sg_go ht_X8_clears (k := 1) (pc' := 16) (L' := [some (.ref 84), some (.int v1), some (.int v2), some (.int v3), none, none, none, none, none, none, none, some (.int o11)]) (st' := [.int v2, .ref a1]) (h' := (HP I A L F E)) rfl).trans ?_
  refine (sg_ldL ht_X8_clears rfl (sMr_obj ha1)).trans ?_
  refine bind_cg fun x2 hx2 => ?_
  refine (sg_go ht_X8_clears (k := 2) (pc' := 19) (L' := [some (.ref 84), some (.int v1), some (.int v2), some (.int v3), none, none, none, none, none, none, none, some (.int o11)]) (st' := [.int (lg_cmp x2 (0))]) (h' := (HP I A L F E)) rfl).trans ?_
  refine (sg_if ht_X8_clears rfl).trans ?_
  refine ite_congr rfl (fun _ => ?_) (fun _ => ?_)
  · refine (sg_go ht_X8_clears (k := 4) (pc' := 32) (L' := [some (.ref 84), some (.int v1), some (.int v2), some (.int v3), none, none, none, none, none, none, none, some (.int o11)]) (st' := [.int v1, .int v2, .int v3, .ref 84]) (h' := (HP I A L F E)) rfl).trans ?_
    refine (sg_call ht_X8_clears (mj := 161) (as := [.ref 84, .int v3, .int v2, .int v1]) (rest := []) rfl rfl ⟨by decide, Nat.le_of_ble_eq_true rfl⟩).trans ?_
    rfl
  · refine (sg_go ht_X8_clears (k := 2) (pc' := 9) (L' := [some (.ref 84), some (.int v1), some (.int v2), some (.int (v3 + 1)), none, none, none, none, none, none, none, some (.int o11)]) (st' := []) (h' := (HP I A L F E)) rfl).trans ?_
    rfl
set_option maxRecDepth 20000 in
theorem sg_X8_clears_9_v00010 {I : Nat → Int32} {A : Nat → List Int32} {L : Nat → List Int64} {F : Nat → Int64} {E : MH} (v1 : Int32) (v2 : Int32) (v3 : Int32) (o9 : Int64) : mm_run G0 162 9 [some (.ref 84), some (.int v1), some (.int v2), some (.int v3), none, none, none, none, none, some (.long o9), none, none] [] (HP I A L F E) = ((ldR [some 96, some 97, some 98, some 99, some 100, some 101] v3).bind fun a1 => ((ldL (L a1) v2).bind fun x2 => (if (lg_cmp x2 (0)) ≠ 0 then ((mm_call G0 161 [.ref 84, .int v3, .int v2, .int v1] (HP I A L F E)).bind fun q => mm_run G0 162 35 [some (.ref 84), some (.int v1), some (.int v2), some (.int v3), none, none, none, none, none, some (.long o9), none, none] (q.1.toList ++ []) q.2) else mm_run G0 162 9 [some (.ref 84), some (.int v1), some (.int v2), some (.int (v3 + 1)), none, none, none, none, none, some (.long o9), none, none] [] (HP I A L F E)))) := by
  refine (sg_go ht_X8_clears (k := 3) (pc' := 14) (L' := [some (.ref 84), some (.int v1), some (.int v2), some (.int v3), none, none, none, none, none, some (.long o9), none, none]) (st' := [.int v3, .ref 95]) (h' := (HP I A L F E)) rfl).trans ?_
  refine (sg_ldR ht_X8_clears rfl hp_o_95).trans ?_
  refine bind_cg fun a1 ha1 => ?_
  have ha1 := in_95 ha1
  refine (sg_go ht_X8_clears (k := 1) (pc' := 16) (L' := [some (.ref 84), some (.int v1), some (.int v2), some (.int v3), none, none, none, none, none, some (.long o9), none, none]) (st' := [.int v2, .ref a1]) (h' := (HP I A L F E)) rfl).trans ?_
  refine (sg_ldL ht_X8_clears rfl (sMr_obj ha1)).trans ?_
  refine bind_cg fun x2 hx2 => ?_
  refine (sg_go ht_X8_clears (k := 2) (pc' := 19) (L' := [some (.ref 84), some (.int v1), some (.int v2), some (.int v3), none, none, none, none, none, some (.long o9), none, none]) (st' := [.int (lg_cmp x2 (0))]) (h' := (HP I A L F E)) rfl).trans ?_
  refine (sg_if ht_X8_clears rfl).trans ?_
  refine ite_congr rfl (fun _ => ?_) (fun _ => ?_)
  · refine (sg_go ht_X8_clears (k := 4) (pc' := 32) (L' := [some (.ref 84), some (.int v1), some (.int v2), some (.int v3), none, none, none, none, none, some (.long o9), none, none]) (st' := [.int v1, .int v2, .int v3, .ref 84]) (h' := (HP I A L F E)) rfl).trans ?_
    refine (sg_call ht_X8_clears (mj := 161) (as := [.ref 84, .int v3, .int v2, .int v1]) (rest := []) rfl rfl ⟨by decide, Nat.le_of_ble_eq_true rfl⟩).trans ?_
    rfl
  · refine (sg_go ht_X8_clears (k := 2) (pc' := 9) (L' := [some (.ref 84), some (.int v1), some (.int v2), some (.int (v3 + 1)), none, none, none, none, none, some (.long o9), none, none]) (st' := []) (h' := (HP I A L F E)) rfl).trans ?_
    rfl
set_option maxRecDepth 20000 in
theorem sg_X8_clears_9_v00011 {I : Nat → Int32} {A : Nat → List Int32} {L : Nat → List Int64} {F : Nat → Int64} {E : MH} (v1 : Int32) (v2 : Int32) (v3 : Int32) (o9 : Int64) (o11 : Int32) : mm_run G0 162 9 [some (.ref 84), some (.int v1), some (.int v2), some (.int v3), none, none, none, none, none, some (.long o9), none, some (.int o11)] [] (HP I A L F E) = ((ldR [some 96, some 97, some 98, some 99, some 100, some 101] v3).bind fun a1 => ((ldL (L a1) v2).bind fun x2 => (if (lg_cmp x2 (0)) ≠ 0 then ((mm_call G0 161 [.ref 84, .int v3, .int v2, .int v1] (HP I A L F E)).bind fun q => mm_run G0 162 35 [some (.ref 84), some (.int v1), some (.int v2), some (.int v3), none, none, none, none, none, some (.long o9), none, some (.int o11)] (q.1.toList ++ []) q.2) else mm_run G0 162 9 [some (.ref 84), some (.int v1), some (.int v2), some (.int (v3 + 1)), none, none, none, none, none, some (.long o9), none, some (.int o11)] [] (HP I A L F E)))) := by
  refine (sg_go ht_X8_clears (k := 3) (pc' := 14) (L' := [some (.ref 84), some (.int v1), some (.int v2), some (.int v3), none, none, none, none, none, some (.long o9), none, some (.int o11)]) (st' := [.int v3, .ref 95]) (h' := (HP I A L F E)) rfl).trans ?_
  refine (sg_ldR ht_X8_clears rfl hp_o_95).trans ?_
  refine bind_cg fun a1 ha1 => ?_
  have ha1 := in_95 ha1
  refine (sg_go ht_X8_clears (k := 1) (pc' := 16) (L' := [some (.ref 84), some (.int v1), some (.int v2), some (.int v3), none, none, none, none, none, some (.long o9), none, some (.int o11)]) (st' := [.int v2, .ref a1]) (h' := (HP I A L F E)) rfl).trans ?_
  refine (sg_ldL ht_X8_clears rfl (sMr_obj ha1)).trans ?_
  refine bind_cg fun x2 hx2 => ?_
  refine (sg_go ht_X8_clears (k := 2) (pc' := 19) (L' := [some (.ref 84), some (.int v1), some (.int v2), some (.int v3), none, none, none, none, none, some (.long o9), none, some (.int o11)]) (st' := [.int (lg_cmp x2 (0))]) (h' := (HP I A L F E)) rfl).trans ?_
  refine (sg_if ht_X8_clears rfl).trans ?_
  refine ite_congr rfl (fun _ => ?_) (fun _ => ?_)
  · refine (sg_go ht_X8_clears (k := 4) (pc' := 32) (L' := [some (.ref 84), some (.int v1), some (.int v2), some (.int v3), none, none, none, none, none, some (.long o9), none, some (.int o11)]) (st' := [.int v1, .int v2, .int v3, .ref 84]) (h' := (HP I A L F E)) rfl).trans ?_
    refine (sg_call ht_X8_clears (mj := 161) (as := [.ref 84, .int v3, .int v2, .int v1]) (rest := []) rfl rfl ⟨by decide, Nat.le_of_ble_eq_true rfl⟩).trans ?_
    rfl
  · refine (sg_go ht_X8_clears (k := 2) (pc' := 9) (L' := [some (.ref 84), some (.int v1), some (.int v2), some (.int (v3 + 1)), none, none, none, none, none, some (.long o9), none, some (.int o11)]) (st' := []) (h' := (HP I A L F E)) rfl).trans ?_
    rfl
set_option maxRecDepth 20000 in
theorem sg_X8_clears_9_v00100 {I : Nat → Int32} {A : Nat → List Int32} {L : Nat → List Int64} {F : Nat → Int64} {E : MH} (v1 : Int32) (v2 : Int32) (v3 : Int32) (o7 : Int64) : mm_run G0 162 9 [some (.ref 84), some (.int v1), some (.int v2), some (.int v3), none, none, none, some (.long o7), none, none, none, none] [] (HP I A L F E) = ((ldR [some 96, some 97, some 98, some 99, some 100, some 101] v3).bind fun a1 => ((ldL (L a1) v2).bind fun x2 => (if (lg_cmp x2 (0)) ≠ 0 then ((mm_call G0 161 [.ref 84, .int v3, .int v2, .int v1] (HP I A L F E)).bind fun q => mm_run G0 162 35 [some (.ref 84), some (.int v1), some (.int v2), some (.int v3), none, none, none, some (.long o7), none, none, none, none] (q.1.toList ++ []) q.2) else mm_run G0 162 9 [some (.ref 84), some (.int v1), some (.int v2), some (.int (v3 + 1)), none, none, none, some (.long o7), none, none, none, none] [] (HP I A L F E)))) := by
  refine (sg_go ht_X8_clears (k := 3) (pc' := 14) (L' := [some (.ref 84), some (.int v1), some (.int v2), some (.int v3), none, none, none, some (.long o7), none, none, none, none]) (st' := [.int v3, .ref 95]) (h' := (HP I A L F E)) rfl).trans ?_
  refine (sg_ldR ht_X8_clears rfl hp_o_95).trans ?_
  refine bind_cg fun a1 ha1 => ?_
  have ha1 := in_95 ha1
  refine (sg_go ht_X8_clears (k := 1) (pc' := 16) (L' := [some (.ref 84), some (.int v1), some (.int v2), some (.int v3), none, none, none, some (.long o7), none, none, none, none]) (st' := [.int v2, .ref a1]) (h' := (HP I A L F E)) rfl).trans ?_
  refine (sg_ldL ht_X8_clears rfl (sMr_obj ha1)).trans ?_
  refine bind_cg fun x2 hx2 => ?_
  refine (sg_go ht_X8_clears (k := 2) (pc' := 19) (L' := [some (.ref 84), some (.int v1), some (.int v2), some (.int v3), none, none, none, some (.long o7), none, none, none, none]) (st' := [.int (lg_cmp x2 (0))]) (h' := (HP I A L F E)) rfl).trans ?_
  refine (sg_if ht_X8_clears rfl).trans ?_
  refine ite_congr rfl (fun _ => ?_) (fun _ => ?_)
  · refine (sg_go ht_X8_clears (k := 4) (pc' := 32) (L' := [some (.ref 84), some (.int v1), some (.int v2), some (.int v3), none, none, none, some (.long o7), none, none, none, none]) (st' := [.int v1, .int v2, .int v3, .ref 84]) (h' := (HP I A L F E)) rfl).trans ?_
    refine (sg_call ht_X8_clears (mj := 161) (as := [.ref 84, .int v3, .int v2, .int v1]) (rest := []) rfl rfl ⟨by decide, Nat.le_of_ble_eq_true rfl⟩).trans ?_
    rfl
  · refine (sg_go ht_X8_clears (k := 2) (pc' := 9) (L' := [some (.ref 84), some (.int v1), some (.int v2), some (.int (v3 + 1)), none, none, none, some (.long o7), none, none, none, none]) (st' := []) (h' := (HP I A L F E)) rfl).trans ?_
    rfl
set_option maxRecDepth 20000 in
theorem sg_X8_clears_9_v00101 {I : Nat → Int32} {A : Nat → List Int32} {L : Nat → List Int64} {F : Nat → Int64} {E : MH} (v1 : Int32) (v2 : Int32) (v3 : Int32) (o7 : Int64) (o11 : Int32) : mm_run G0 162 9 [some (.ref 84), some (.int v1), some (.int v2), some (.int v3), none, none, none, some (.long o7), none, none, none, some (.int o11)] [] (HP I A L F E) = ((ldR [some 96, some 97, some 98, some 99, some 100, some 101] v3).bind fun a1 => ((ldL (L a1) v2).bind fun x2 => (if (lg_cmp x2 (0)) ≠ 0 then ((mm_call G0 161 [.ref 84, .int v3, .int v2, .int v1] (HP I A L F E)).bind fun q => mm_run G0 162 35 [some (.ref 84), some (.int v1), some (.int v2), some (.int v3), none, none, none, some (.long o7), none, none, none, some (.int o11)] (q.1.toList ++ []) q.2) else mm_run G0 162 9 [some (.ref 84), some (.int v1), some (.int v2), some (.int (v3 + 1)), none, none, none, some (.long o7), none, none, none, some (.int o11)] [] (HP I A L F E)))) := by
  refine (sg_go ht_X8_clears (k := 3) (pc' := 14) (L' := [some (.ref 84), some (.int v1), some (.int v2), some (.int v3), none, none, none, some (.long o7), none, none, none, some (.int o11)]) (st' := [.int v3, .ref 95]) (h' := (HP I A L F E)) rfl).trans ?_
  refine (sg_ldR ht_X8_clears rfl hp_o_95).trans ?_
  refine bind_cg fun a1 ha1 => ?_
  have ha1 := in_95 ha1
  refine (sg_go ht_X8_clears (k := 1) (pc' := 16) (L' := [some (.ref 84), some (.int v1), some (.int v2), some (.int v3), none, none, none, some (.long o7), none, none, none, some (.int o11)]) (st' := [.int v2, .ref a1]) (h' := (HP I A L F E)) rfl).trans ?_
  refine (sg_ldL ht_X8_clears rfl (sMr_obj ha1)).trans ?_
  refine bind_cg fun x2 hx2 => ?_
  refine (sg_go ht_X8_clears (k := 2) (pc' := 19) (L' := [some (.ref 84), some (.int v1), some (.int v2), some (.int v3), none, none, none, some (.long o7), none, none, none, some (.int o11)]) (st' := [.int (lg_cmp x2 (0))]) (h' := (HP I A L F E)) rfl).trans ?_
  refine (sg_if ht_X8_clears rfl).trans ?_
  refine ite_congr rfl (fun _ => ?_) (fun _ => ?_)
  · refine (sg_go ht_X8_clears (k := 4) (pc' := 32) (L' := [some (.ref 84), some (.int v1), some (.int v2), some (.int v3), none, none, none, some (.long o7), none, none, none, some (.int o11)]) (st' := [.int v1, .int v2, .int v3, .ref 84]) (h' := (HP I A L F E)) rfl).trans ?_
    refine (sg_call ht_X8_clears (mj := 161) (as := [.ref 84, .int v3, .int v2, .int v1]) (rest := []) rfl rfl ⟨by decide, Nat.le_of_ble_eq_true rfl⟩).trans ?_
    rfl
  · refine (sg_go ht_X8_clears (k := 2) (pc' := 9) (L' := [some (.ref 84), some (.int v1), some (.int v2), some (.int (v3 + 1)), none, none, none, some (.long o7), none, none, none, some (.int o11)]) (st' := []) (h' := (HP I A L F E)) rfl).trans ?_
    rfl
set_option maxRecDepth 20000 in
theorem sg_X8_clears_9_v00110 {I : Nat → Int32} {A : Nat → List Int32} {L : Nat → List Int64} {F : Nat → Int64} {E : MH} (v1 : Int32) (v2 : Int32) (v3 : Int32) (o7 : Int64) (o9 : Int64) : mm_run G0 162 9 [some (.ref 84), some (.int v1), some (.int v2), some (.int v3), none, none, none, some (.long o7), none, some (.long o9), none, none] [] (HP I A L F E) = ((ldR [some 96, some 97, some 98, some 99, some 100, some 101] v3).bind fun a1 => ((ldL (L a1) v2).bind fun x2 => (if (lg_cmp x2 (0)) ≠ 0 then ((mm_call G0 161 [.ref 84, .int v3, .int v2, .int v1] (HP I A L F E)).bind fun q => mm_run G0 162 35 [some (.ref 84), some (.int v1), some (.int v2), some (.int v3), none, none, none, some (.long o7), none, some (.long o9), none, none] (q.1.toList ++ []) q.2) else mm_run G0 162 9 [some (.ref 84), some (.int v1), some (.int v2), some (.int (v3 + 1)), none, none, none, some (.long o7), none, some (.long o9), none, none] [] (HP I A L F E)))) := by
  refine (sg_go ht_X8_clears (k := 3) (pc' := 14) (L' := [some (.ref 84), some (.int v1), some (.int v2), some (.int v3), none, none, none, some (.long o7), none, some (.long o9), none, none]) (st' := [.int v3, .ref 95]) (h' := (HP I A L F E)) rfl).trans ?_
  refine (sg_ldR ht_X8_clears rfl hp_o_95).trans ?_
  refine bind_cg fun a1 ha1 => ?_
  have ha1 := in_95 ha1
  refine (sg_go ht_X8_clears (k := 1) (pc' := 16) (L' := [some (.ref 84), some (.int v1), some (.int v2), some (.int v3), none, none, none, some (.long o7), none, some (.long o9), none, none]) (st' := [.int v2, .ref a1]) (h' := (HP I A L F E)) rfl).trans ?_
  refine (sg_ldL ht_X8_clears rfl (sMr_obj ha1)).trans ?_
  refine bind_cg fun x2 hx2 => ?_
  refine (sg_go ht_X8_clears (k := 2) (pc' := 19) (L' := [some (.ref 84), some (.int v1), some (.int v2), some (.int v3), none, none, none, some (.long o7), none, some (.long o9), none, none]) (st' := [.int (lg_cmp x2 (0))]) (h' := (HP I A L F E)) rfl).trans ?_
  refine (sg_if ht_X8_clears rfl).trans ?_
  refine ite_congr rfl (fun _ => ?_) (fun _ => ?_)
  · refine (sg_go ht_X8_clears (k := 4) (pc' := 32) (L' := [some (.ref 84), some (.int v1), some (.int v2), some (.int v3), none, none, none, some (.long o7), none, some (.long o9), none, none]) (st' := [.int v1, .int v2, .int v3, .ref 84]) (h' := (HP I A L F E)) rfl).trans ?_
    refine (sg_call ht_X8_clears (mj := 161) (as := [.ref 84, .int v3, .int v2, .int v1]) (rest := []) rfl rfl ⟨by decide, Nat.le_of_ble_eq_true rfl⟩).trans ?_
    rfl
  · refine (sg_go ht_X8_clears (k := 2) (pc' := 9) (L' := [some (.ref 84), some (.int v1), some (.int v2), some (.int (v3 + 1)), none, none, none, some (.long o7), none, some (.long o9), none, none]) (st' := []) (h' := (HP I A L F E)) rfl).trans ?_
    rfl
set_option maxRecDepth 20000 in
theorem sg_X8_clears_9_v00111 {I : Nat → Int32} {A : Nat → List Int32} {L : Nat → List Int64} {F : Nat → Int64} {E : MH} (v1 : Int32) (v2 : Int32) (v3 : Int32) (o7 : Int64) (o9 : Int64) (o11 : Int32) : mm_run G0 162 9 [some (.ref 84), some (.int v1), some (.int v2), some (.int v3), none, none, none, some (.long o7), none, some (.long o9), none, some (.int o11)] [] (HP I A L F E) = ((ldR [some 96, some 97, some 98, some 99, some 100, some 101] v3).bind fun a1 => ((ldL (L a1) v2).bind fun x2 => (if (lg_cmp x2 (0)) ≠ 0 then ((mm_call G0 161 [.ref 84, .int v3, .int v2, .int v1] (HP I A L F E)).bind fun q => mm_run G0 162 35 [some (.ref 84), some (.int v1), some (.int v2), some (.int v3), none, none, none, some (.long o7), none, some (.long o9), none, some (.int o11)] (q.1.toList ++ []) q.2) else mm_run G0 162 9 [some (.ref 84), some (.int v1), some (.int v2), some (.int (v3 + 1)), none, none, none, some (.long o7), none, some (.long o9), none, some (.int o11)] [] (HP I A L F E)))) := by
  refine (sg_go ht_X8_clears (k := 3) (pc' := 14) (L' := [some (.ref 84), some (.int v1), some (.int v2), some (.int v3), none, none, none, some (.long o7), none, some (.long o9), none, some (.int o11)]) (st' := [.int v3, .ref 95]) (h' := (HP I A L F E)) rfl).trans ?_
  refine (sg_ldR ht_X8_clears rfl hp_o_95).trans ?_
  refine bind_cg fun a1 ha1 => ?_
  have ha1 := in_95 ha1
  refine (sg_go ht_X8_clears (k := 1) (pc' := 16) (L' := [some (.ref 84), some (.int v1), some (.int v2), some (.int v3), none, none, none, some (.long o7), none, some (.long o9), none, some (.int o11)]) (st' := [.int v2, .ref a1]) (h' := (HP I A L F E)) rfl).trans ?_
  refine (sg_ldL ht_X8_clears rfl (sMr_obj ha1)).trans ?_
  refine bind_cg fun x2 hx2 => ?_
  refine (sg_go ht_X8_clears (k := 2) (pc' := 19) (L' := [some (.ref 84), some (.int v1), some (.int v2), some (.int v3), none, none, none, some (.long o7), none, some (.long o9), none, some (.int o11)]) (st' := [.int (lg_cmp x2 (0))]) (h' := (HP I A L F E)) rfl).trans ?_
  refine (sg_if ht_X8_clears rfl).trans ?_
  refine ite_congr rfl (fun _ => ?_) (fun _ => ?_)
  · refine (sg_go ht_X8_clears (k := 4) (pc' := 32) (L' := [some (.ref 84), some (.int v1), some (.int v2), some (.int v3), none, none, none, some (.long o7), none, some (.long o9), none, some (.int o11)]) (st' := [.int v1, .int v2, .int v3, .ref 84]) (h' := (HP I A L F E)) rfl).trans ?_
    refine (sg_call ht_X8_clears (mj := 161) (as := [.ref 84, .int v3, .int v2, .int v1]) (rest := []) rfl rfl ⟨by decide, Nat.le_of_ble_eq_true rfl⟩).trans ?_
    rfl
  · refine (sg_go ht_X8_clears (k := 2) (pc' := 9) (L' := [some (.ref 84), some (.int v1), some (.int v2), some (.int (v3 + 1)), none, none, none, some (.long o7), none, some (.long o9), none, some (.int o11)]) (st' := []) (h' := (HP I A L F E)) rfl).trans ?_
    rfl
set_option maxRecDepth 20000 in
theorem sg_X8_clears_9_v01000 {I : Nat → Int32} {A : Nat → List Int32} {L : Nat → List Int64} {F : Nat → Int64} {E : MH} (v1 : Int32) (v2 : Int32) (v3 : Int32) (o5 : Int64) : mm_run G0 162 9 [some (.ref 84), some (.int v1), some (.int v2), some (.int v3), none, some (.long o5), none, none, none, none, none, none] [] (HP I A L F E) = ((ldR [some 96, some 97, some 98, some 99, some 100, some 101] v3).bind fun a1 => ((ldL (L a1) v2).bind fun x2 => (if (lg_cmp x2 (0)) ≠ 0 then ((mm_call G0 161 [.ref 84, .int v3, .int v2, .int v1] (HP I A L F E)).bind fun q => mm_run G0 162 35 [some (.ref 84), some (.int v1), some (.int v2), some (.int v3), none, some (.long o5), none, none, none, none, none, none] (q.1.toList ++ []) q.2) else mm_run G0 162 9 [some (.ref 84), some (.int v1), some (.int v2), some (.int (v3 + 1)), none, some (.long o5), none, none, none, none, none, none] [] (HP I A L F E)))) := by
  refine (sg_go ht_X8_clears (k := 3) (pc' := 14) (L' := [some (.ref 84), some (.int v1), some (.int v2), some (.int v3), none, some (.long o5), none, none, none, none, none, none]) (st' := [.int v3, .ref 95]) (h' := (HP I A L F E)) rfl).trans ?_
  refine (sg_ldR ht_X8_clears rfl hp_o_95).trans ?_
  refine bind_cg fun a1 ha1 => ?_
  have ha1 := in_95 ha1
  refine (sg_go ht_X8_clears (k := 1) (pc' := 16) (L' := [some (.ref 84), some (.int v1), some (.int v2), some (.int v3), none, some (.long o5), none, none, none, none, none, none]) (st' := [.int v2, .ref a1]) (h' := (HP I A L F E)) rfl).trans ?_
  refine (sg_ldL ht_X8_clears rfl (sMr_obj ha1)).trans ?_
  refine bind_cg fun x2 hx2 => ?_
  refine (sg_go ht_X8_clears (k := 2) (pc' := 19) (L' := [some (.ref 84), some (.int v1), some (.int v2), some (.int v3), none, some (.long o5), none, none, none, none, none, none]) (st' := [.int (lg_cmp x2 (0))]) (h' := (HP I A L F E)) rfl).trans ?_
  refine (sg_if ht_X8_clears rfl).trans ?_
  refine ite_congr rfl (fun _ => ?_) (fun _ => ?_)
  · refine (sg_go ht_X8_clears (k := 4) (pc' := 32) (L' := [some (.ref 84), some (.int v1), some (.int v2), some (.int v3), none, some (.long o5), none, none, none, none, none, none]) (st' := [.int v1, .int v2, .int v3, .ref 84]) (h' := (HP I A L F E)) rfl).trans ?_
    refine (sg_call ht_X8_clears (mj := 161) (as := [.ref 84, .int v3, .int v2, .int v1]) (rest := []) rfl rfl ⟨by decide, Nat.le_of_ble_eq_true rfl⟩).trans ?_
    rfl
  · refine (sg_go ht_X8_clears (k := 2) (pc' := 9) (L' := [some (.ref 84), some (.int v1), some (.int v2), some (.int (v3 + 1)), none, some (.long o5), none, none, none, none, none, none]) (st' := []) (h' := (HP I A L F E)) rfl).trans ?_
    rfl
set_option maxRecDepth 20000 in
theorem sg_X8_clears_9_v01001 {I : Nat → Int32} {A : Nat → List Int32} {L : Nat → List Int64} {F : Nat → Int64} {E : MH} (v1 : Int32) (v2 : Int32) (v3 : Int32) (o5 : Int64) (o11 : Int32) : mm_run G0 162 9 [some (.ref 84), some (.int v1), some (.int v2), some (.int v3), none, some (.long o5), none, none, none, none, none, some (.int o11)] [] (HP I A L F E) = ((ldR [some 96, some 97, some 98, some 99, some 100, some 101] v3).bind fun a1 => ((ldL (L a1) v2).bind fun x2 => (if (lg_cmp x2 (0)) ≠ 0 then ((mm_call G0 161 [.ref 84, .int v3, .int v2, .int v1] (HP I A L F E)).bind fun q => mm_run G0 162 35 [some (.ref 84), some (.int v1), some (.int v2), some (.int v3), none, some (.long o5), none, none, none, none, none, some (.int o11)] (q.1.toList ++ []) q.2) else mm_run G0 162 9 [some (.ref 84), some (.int v1), some (.int v2), some (.int (v3 + 1)), none, some (.long o5), none, none, none, none, none, some (.int o11)] [] (HP I A L F E)))) := by
  refine (sg_go ht_X8_clears (k := 3) (pc' := 14) (L' := [some (.ref 84), some (.int v1), some (.int v2), some (.int v3), none, some (.long o5), none, none, none, none, none, some (.int o11)]) (st' := [.int v3, .ref 95]) (h' := (HP I A L F E)) rfl).trans ?_
  refine (sg_ldR ht_X8_clears rfl hp_o_95).trans ?_
  refine bind_cg fun a1 ha1 => ?_
  have ha1 := in_95 ha1
  refine (sg_go ht_X8_clears (k := 1) (pc' := 16) (L' := [some (.ref 84), some (.int v1), some (.int v2), some (.int v3), none, some (.long o5), none, none, none, none, none, some (.int o11)]) (st' := [.int v2, .ref a1]) (h' := (HP I A L F E)) rfl).trans ?_
  refine (sg_ldL ht_X8_clears rfl (sMr_obj ha1)).trans ?_
  refine bind_cg fun x2 hx2 => ?_
  refine (sg_go ht_X8_clears (k := 2) (pc' := 19) (L' := [some (.ref 84), some (.int v1), some (.int v2), some (.int v3), none, some (.long o5), none, none, none, none, none, some (.int o11)]) (st' := [.int (lg_cmp x2 (0))]) (h' := (HP I A L F E)) rfl).trans ?_
  refine (sg_if ht_X8_clears rfl).trans ?_
  refine ite_congr rfl (fun _ => ?_) (fun _ => ?_)
  · refine (sg_go ht_X8_clears (k := 4) (pc' := 32) (L' := [some (.ref 84), some (.int v1), some (.int v2), some (.int v3), none, some (.long o5), none, none, none, none, none, some (.int o11)]) (st' := [.int v1, .int v2, .int v3, .ref 84]) (h' := (HP I A L F E)) rfl).trans ?_
    refine (sg_call ht_X8_clears (mj := 161) (as := [.ref 84, .int v3, .int v2, .int v1]) (rest := []) rfl rfl ⟨by decide, Nat.le_of_ble_eq_true rfl⟩).trans ?_
    rfl
  · refine (sg_go ht_X8_clears (k := 2) (pc' := 9) (L' := [some (.ref 84), some (.int v1), some (.int v2), some (.int (v3 + 1)), none, some (.long o5), none, none, none, none, none, some (.int o11)]) (st' := []) (h' := (HP I A L F E)) rfl).trans ?_
    rfl
set_option maxRecDepth 20000 in
theorem sg_X8_clears_9_v01010 {I : Nat → Int32} {A : Nat → List Int32} {L : Nat → List Int64} {F : Nat → Int64} {E : MH} (v1 : Int32) (v2 : Int32) (v3 : Int32) (o5 : Int64) (o9 : Int64) : mm_run G0 162 9 [some (.ref 84), some (.int v1), some (.int v2), some (.int v3), none, some (.long o5), none, none, none, some (.long o9), none, none] [] (HP I A L F E) = ((ldR [some 96, some 97, some 98, some 99, some 100, some 101] v3).bind fun a1 => ((ldL (L a1) v2).bind fun x2 => (if (lg_cmp x2 (0)) ≠ 0 then ((mm_call G0 161 [.ref 84, .int v3, .int v2, .int v1] (HP I A L F E)).bind fun q => mm_run G0 162 35 [some (.ref 84), some (.int v1), some (.int v2), some (.int v3), none, some (.long o5), none, none, none, some (.long o9), none, none] (q.1.toList ++ []) q.2) else mm_run G0 162 9 [some (.ref 84), some (.int v1), some (.int v2), some (.int (v3 + 1)), none, some (.long o5), none, none, none, some (.long o9), none, none] [] (HP I A L F E)))) := by
  refine (sg_go ht_X8_clears (k := 3) (pc' := 14) (L' := [some (.ref 84), some (.int v1), some (.int v2), some (.int v3), none, some (.long o5), none, none, none, some (.long o9), none, none]) (st' := [.int v3, .ref 95]) (h' := (HP I A L F E)) rfl).trans ?_
  refine (sg_ldR ht_X8_clears rfl hp_o_95).trans ?_
  refine bind_cg fun a1 ha1 => ?_
  have ha1 := in_95 ha1
  refine (sg_go ht_X8_clears (k := 1) (pc' := 16) (L' := [some (.ref 84), some (.int v1), some (.int v2), some (.int v3), none, some (.long o5), none, none, none, some (.long o9), none, none]) (st' := [.int v2, .ref a1]) (h' := (HP I A L F E)) rfl).trans ?_
  refine (sg_ldL ht_X8_clears rfl (sMr_obj ha1)).trans ?_
  refine bind_cg fun x2 hx2 => ?_
  refine (sg_go ht_X8_clears (k := 2) (pc' := 19) (L' := [some (.ref 84), some (.int v1), some (.int v2), some (.int v3), none, some (.long o5), none, none, none, some (.long o9), none, none]) (st' := [.int (lg_cmp x2 (0))]) (h' := (HP I A L F E)) rfl).trans ?_
  refine (sg_if ht_X8_clears rfl).trans ?_
  refine ite_congr rfl (fun _ => ?_) (fun _ => ?_)
  · refine (sg_go ht_X8_clears (k := 4) (pc' := 32) (L' := [some (.ref 84), some (.int v1), some (.int v2), some (.int v3), none, some (.long o5), none, none, none, some (.long o9), none, none]) (st' := [.int v1, .int v2, .int v3, .ref 84]) (h' := (HP I A L F E)) rfl).trans ?_
    refine (sg_call ht_X8_clears (mj := 161) (as := [.ref 84, .int v3, .int v2, .int v1]) (rest := []) rfl rfl ⟨by decide, Nat.le_of_ble_eq_true rfl⟩).trans ?_
    rfl
  · refine (sg_go ht_X8_clears (k := 2) (pc' := 9) (L' := [some (.ref 84), some (.int v1), some (.int v2), some (.int (v3 + 1)), none, some (.long o5), none, none, none, some (.long o9), none, none]) (st' := []) (h' := (HP I A L F E)) rfl).trans ?_
    rfl
set_option maxRecDepth 20000 in
theorem sg_X8_clears_9_v01011 {I : Nat → Int32} {A : Nat → List Int32} {L : Nat → List Int64} {F : Nat → Int64} {E : MH} (v1 : Int32) (v2 : Int32) (v3 : Int32) (o5 : Int64) (o9 : Int64) (o11 : Int32) : mm_run G0 162 9 [some (.ref 84), some (.int v1), some (.int v2), some (.int v3), none, some (.long o5), none, none, none, some (.long o9), none, some (.int o11)] [] (HP I A L F E) = ((ldR [some 96, some 97, some 98, some 99, some 100, some 101] v3).bind fun a1 => ((ldL (L a1) v2).bind fun x2 => (if (lg_cmp x2 (0)) ≠ 0 then ((mm_call G0 161 [.ref 84, .int v3, .int v2, .int v1] (HP I A L F E)).bind fun q => mm_run G0 162 35 [some (.ref 84), some (.int v1), some (.int v2), some (.int v3), none, some (.long o5), none, none, none, some (.long o9), none, some (.int o11)] (q.1.toList ++ []) q.2) else mm_run G0 162 9 [some (.ref 84), some (.int v1), some (.int v2), some (.int (v3 + 1)), none, some (.long o5), none, none, none, some (.long o9), none, some (.int o11)] [] (HP I A L F E)))) := by
  refine (sg_go ht_X8_clears (k := 3) (pc' := 14) (L' := [some (.ref 84), some (.int v1), some (.int v2), some (.int v3), none, some (.long o5), none, none, none, some (.long o9), none, some (.int o11)]) (st' := [.int v3, .ref 95]) (h' := (HP I A L F E)) rfl).trans ?_
  refine (sg_ldR ht_X8_clears rfl hp_o_95).trans ?_
  refine bind_cg fun a1 ha1 => ?_
  have ha1 := in_95 ha1
  refine (sg_go ht_X8_clears (k := 1) (pc' := 16) (L' := [some (.ref 84), some (.int v1), some (.int v2), some (.int v3), none, some (.long o5), none, none, none, some (.long o9), none, some (.int o11)]) (st' := [.int v2, .ref a1]) (h' := (HP I A L F E)) rfl).trans ?_
  refine (sg_ldL ht_X8_clears rfl (sMr_obj ha1)).trans ?_
  refine bind_cg fun x2 hx2 => ?_
  refine (sg_go ht_X8_clears (k := 2) (pc' := 19) (L' := [some (.ref 84), some (.int v1), some (.int v2), some (.int v3), none, some (.long o5), none, none, none, some (.long o9), none, some (.int o11)]) (st' := [.int (lg_cmp x2 (0))]) (h' := (HP I A L F E)) rfl).trans ?_
  refine (sg_if ht_X8_clears rfl).trans ?_
  refine ite_congr rfl (fun _ => ?_) (fun _ => ?_)
  · refine (sg_go ht_X8_clears (k := 4) (pc' := 32) (L' := [some (.ref 84), some (.int v1), some (.int v2), some (.int v3), none, some (.long o5), none, none, none, some (.long o9), none, some (.int o11)]) (st' := [.int v1, .int v2, .int v3, .ref 84]) (h' := (HP I A L F E)) rfl).trans ?_
    refine (sg_call ht_X8_clears (mj := 161) (as := [.ref 84, .int v3, .int v2, .int v1]) (rest := []) rfl rfl ⟨by decide, Nat.le_of_ble_eq_true rfl⟩).trans ?_
    rfl
  · refine (sg_go ht_X8_clears (k := 2) (pc' := 9) (L' := [some (.ref 84), some (.int v1), some (.int v2), some (.int (v3 + 1)), none, some (.long o5), none, none, none, some (.long o9), none, some (.int o11)]) (st' := []) (h' := (HP I A L F E)) rfl).trans ?_
    rfl
set_option maxRecDepth 20000 in
theorem sg_X8_clears_9_v01100 {I : Nat → Int32} {A : Nat → List Int32} {L : Nat → List Int64} {F : Nat → Int64} {E : MH} (v1 : Int32) (v2 : Int32) (v3 : Int32) (o5 : Int64) (o7 : Int64) : mm_run G0 162 9 [some (.ref 84), some (.int v1), some (.int v2), some (.int v3), none, some (.long o5), none, some (.long o7), none, none, none, none] [] (HP I A L F E) = ((ldR [some 96, some 97, some 98, some 99, some 100, some 101] v3).bind fun a1 => ((ldL (L a1) v2).bind fun x2 => (if (lg_cmp x2 (0)) ≠ 0 then ((mm_call G0 161 [.ref 84, .int v3, .int v2, .int v1] (HP I A L F E)).bind fun q => mm_run G0 162 35 [some (.ref 84), some (.int v1), some (.int v2), some (.int v3), none, some (.long o5), none, some (.long o7), none, none, none, none] (q.1.toList ++ []) q.2) else mm_run G0 162 9 [some (.ref 84), some (.int v1), some (.int v2), some (.int (v3 + 1)), none, some (.long o5), none, some (.long o7), none, none, none, none] [] (HP I A L F E)))) := by
  refine (sg_go ht_X8_clears (k := 3) (pc' := 14) (L' := [some (.ref 84), some (.int v1), some (.int v2), some (.int v3), none, some (.long o5), none, some (.long o7), none, none, none, none]) (st' := [.int v3, .ref 95]) (h' := (HP I A L F E)) rfl).trans ?_
  refine (sg_ldR ht_X8_clears rfl hp_o_95).trans ?_
  refine bind_cg fun a1 ha1 => ?_
  have ha1 := in_95 ha1
  refine (sg_go ht_X8_clears (k := 1) (pc' := 16) (L' := [some (.ref 84), some (.int v1), some (.int v2), some (.int v3), none, some (.long o5), none, some (.long o7), none, none, none, none]) (st' := [.int v2, .ref a1]) (h' := (HP I A L F E)) rfl).trans ?_
  refine (sg_ldL ht_X8_clears rfl (sMr_obj ha1)).trans ?_
  refine bind_cg fun x2 hx2 => ?_
  refine (sg_go ht_X8_clears (k := 2) (pc' := 19) (L' := [some (.ref 84), some (.int v1), some (.int v2), some (.int v3), none, some (.long o5), none, some (.long o7), none, none, none, none]) (st' := [.int (lg_cmp x2 (0))]) (h' := (HP I A L F E)) rfl).trans ?_
  refine (sg_if ht_X8_clears rfl).trans ?_
  refine ite_congr rfl (fun _ => ?_) (fun _ => ?_)
  · refine (sg_go ht_X8_clears (k := 4) (pc' := 32) (L' := [some (.ref 84), some (.int v1), some (.int v2), some (.int v3), none, some (.long o5), none, some (.long o7), none, none, none, none]) (st' := [.int v1, .int v2, .int v3, .ref 84]) (h' := (HP I A L F E)) rfl).trans ?_
    refine (sg_call ht_X8_clears (mj := 161) (as := [.ref 84, .int v3, .int v2, .int v1]) (rest := []) rfl rfl ⟨by decide, Nat.le_of_ble_eq_true rfl⟩).trans ?_
    rfl
  · refine (sg_go ht_X8_clears (k := 2) (pc' := 9) (L' := [some (.ref 84), some (.int v1), some (.int v2), some (.int (v3 + 1)), none, some (.long o5), none, some (.long o7), none, none, none, none]) (st' := []) (h' := (HP I A L F E)) rfl).trans ?_
    rfl
set_option maxRecDepth 20000 in
theorem sg_X8_clears_9_v01101 {I : Nat → Int32} {A : Nat → List Int32} {L : Nat → List Int64} {F : Nat → Int64} {E : MH} (v1 : Int32) (v2 : Int32) (v3 : Int32) (o5 : Int64) (o7 : Int64) (o11 : Int32) : mm_run G0 162 9 [some (.ref 84), some (.int v1), some (.int v2), some (.int v3), none, some (.long o5), none, some (.long o7), none, none, none, some (.int o11)] [] (HP I A L F E) = ((ldR [some 96, some 97, some 98, some 99, some 100, some 101] v3).bind fun a1 => ((ldL (L a1) v2).bind fun x2 => (if (lg_cmp x2 (0)) ≠ 0 then ((mm_call G0 161 [.ref 84, .int v3, .int v2, .int v1] (HP I A L F E)).bind fun q => mm_run G0 162 35 [some (.ref 84), some (.int v1), some (.int v2), some (.int v3), none, some (.long o5), none, some (.long o7), none, none, none, some (.int o11)] (q.1.toList ++ []) q.2) else mm_run G0 162 9 [some (.ref 84), some (.int v1), some (.int v2), some (.int (v3 + 1)), none, some (.long o5), none, some (.long o7), none, none, none, some (.int o11)] [] (HP I A L F E)))) := by
  refine (sg_go ht_X8_clears (k := 3) (pc' := 14) (L' := [some (.ref 84), some (.int v1), some (.int v2), some (.int v3), none, some (.long o5), none, some (.long o7), none, none, none, some (.int o11)]) (st' := [.int v3, .ref 95]) (h' := (HP I A L F E)) rfl).trans ?_
  refine (sg_ldR ht_X8_clears rfl hp_o_95).trans ?_
  refine bind_cg fun a1 ha1 => ?_
  have ha1 := in_95 ha1
  refine (sg_go ht_X8_clears (k := 1) (pc' := 16) (L' := [some (.ref 84), some (.int v1), some (.int v2), some (.int v3), none, some (.long o5), none, some (.long o7), none, none, none, some (.int o11)]) (st' := [.int v2, .ref a1]) (h' := (HP I A L F E)) rfl).trans ?_
  refine (sg_ldL ht_X8_clears rfl (sMr_obj ha1)).trans ?_
  refine bind_cg fun x2 hx2 => ?_
  refine (sg_go ht_X8_clears (k := 2) (pc' := 19) (L' := [some (.ref 84), some (.int v1), some (.int v2), some (.int v3), none, some (.long o5), none, some (.long o7), none, none, none, some (.int o11)]) (st' := [.int (lg_cmp x2 (0))]) (h' := (HP I A L F E)) rfl).trans ?_
  refine (sg_if ht_X8_clears rfl).trans ?_
  refine ite_congr rfl (fun _ => ?_) (fun _ => ?_)
  · refine (sg_go ht_X8_clears (k := 4) (pc' := 32) (L' := [some (.ref 84), some (.int v1), some (.int v2), some (.int v3), none, some (.long o5), none, some (.long o7), none, none, none, some (.int o11)]) (st' := [.int v1, .int v2, .int v3, .ref 84]) (h' := (HP I A L F E)) rfl).trans ?_
    refine (sg_call ht_X8_clears (mj := 161) (as := [.ref 84, .int v3, .int v2, .int v1]) (rest := []) rfl rfl ⟨by decide, Nat.le_of_ble_eq_true rfl⟩).trans ?_
    rfl
  · refine (sg_go ht_X8_clears (k := 2) (pc' := 9) (L' := [some (.ref 84), some (.int v1), some (.int v2), some (.int (v3 + 1)), none, some (.long o5), none, some (.long o7), none, none, none, some (.int o11)]) (st' := []) (h' := (HP I A L F E)) rfl).trans ?_
    rfl
set_option maxRecDepth 20000 in
theorem sg_X8_clears_9_v01110 {I : Nat → Int32} {A : Nat → List Int32} {L : Nat → List Int64} {F : Nat → Int64} {E : MH} (v1 : Int32) (v2 : Int32) (v3 : Int32) (o5 : Int64) (o7 : Int64) (o9 : Int64) : mm_run G0 162 9 [some (.ref 84), some (.int v1), some (.int v2), some (.int v3), none, some (.long o5), none, some (.long o7), none, some (.long o9), none, none] [] (HP I A L F E) = ((ldR [some 96, some 97, some 98, some 99, some 100, some 101] v3).bind fun a1 => ((ldL (L a1) v2).bind fun x2 => (if (lg_cmp x2 (0)) ≠ 0 then ((mm_call G0 161 [.ref 84, .int v3, .int v2, .int v1] (HP I A L F E)).bind fun q => mm_run G0 162 35 [some (.ref 84), some (.int v1), some (.int v2), some (.int v3), none, some (.long o5), none, some (.long o7), none, some (.long o9), none, none] (q.1.toList ++ []) q.2) else mm_run G0 162 9 [some (.ref 84), some (.int v1), some (.int v2), some (.int (v3 + 1)), none, some (.long o5), none, some (.long o7), none, some (.long o9), none, none] [] (HP I A L F E)))) := by
  refine (sg_go ht_X8_clears (k := 3) (pc' := 14) (L' := [some (.ref 84), some (.int v1), some (.int v2), some (.int v3), none, some (.long o5), none, some (.long o7), none, some (.long o9), none, none]) (st' := [.int v3, .ref 95]) (h' := (HP I A L F E)) rfl).trans ?_
  refine (sg_ldR ht_X8_clears rfl hp_o_95).trans ?_
  refine bind_cg fun a1 ha1 => ?_
  have ha1 := in_95 ha1
  refine (sg_go ht_X8_clears (k := 1) (pc' := 16) (L' := [some (.ref 84), some (.int v1), some (.int v2), some (.int v3), none, some (.long o5), none, some (.long o7), none, some (.long o9), none, none]) (st' := [.int v2, .ref a1]) (h' := (HP I A L F E)) rfl).trans ?_
  refine (sg_ldL ht_X8_clears rfl (sMr_obj ha1)).trans ?_
  refine bind_cg fun x2 hx2 => ?_
  refine (sg_go ht_X8_clears (k := 2) (pc' := 19) (L' := [some (.ref 84), some (.int v1), some (.int v2), some (.int v3), none, some (.long o5), none, some (.long o7), none, some (.long o9), none, none]) (st' := [.int (lg_cmp x2 (0))]) (h' := (HP I A L F E)) rfl).trans ?_
  refine (sg_if ht_X8_clears rfl).trans ?_
  refine ite_congr rfl (fun _ => ?_) (fun _ => ?_)
  · refine (sg_go ht_X8_clears (k := 4) (pc' := 32) (L' := [some (.ref 84), some (.int v1), some (.int v2), some (.int v3), none, some (.long o5), none, some (.long o7), none, some (.long o9), none, none]) (st' := [.int v1, .int v2, .int v3, .ref 84]) (h' := (HP I A L F E)) rfl).trans ?_
    refine (sg_call ht_X8_clears (mj := 161) (as := [.ref 84, .int v3, .int v2, .int v1]) (rest := []) rfl rfl ⟨by decide, Nat.le_of_ble_eq_true rfl⟩).trans ?_
    rfl
  · refine (sg_go ht_X8_clears (k := 2) (pc' := 9) (L' := [some (.ref 84), some (.int v1), some (.int v2), some (.int (v3 + 1)), none, some (.long o5), none, some (.long o7), none, some (.long o9), none, none]) (st' := []) (h' := (HP I A L F E)) rfl).trans ?_
    rfl
set_option maxRecDepth 20000 in
theorem sg_X8_clears_9_v01111 {I : Nat → Int32} {A : Nat → List Int32} {L : Nat → List Int64} {F : Nat → Int64} {E : MH} (v1 : Int32) (v2 : Int32) (v3 : Int32) (o5 : Int64) (o7 : Int64) (o9 : Int64) (o11 : Int32) : mm_run G0 162 9 [some (.ref 84), some (.int v1), some (.int v2), some (.int v3), none, some (.long o5), none, some (.long o7), none, some (.long o9), none, some (.int o11)] [] (HP I A L F E) = ((ldR [some 96, some 97, some 98, some 99, some 100, some 101] v3).bind fun a1 => ((ldL (L a1) v2).bind fun x2 => (if (lg_cmp x2 (0)) ≠ 0 then ((mm_call G0 161 [.ref 84, .int v3, .int v2, .int v1] (HP I A L F E)).bind fun q => mm_run G0 162 35 [some (.ref 84), some (.int v1), some (.int v2), some (.int v3), none, some (.long o5), none, some (.long o7), none, some (.long o9), none, some (.int o11)] (q.1.toList ++ []) q.2) else mm_run G0 162 9 [some (.ref 84), some (.int v1), some (.int v2), some (.int (v3 + 1)), none, some (.long o5), none, some (.long o7), none, some (.long o9), none, some (.int o11)] [] (HP I A L F E)))) := by
  refine (sg_go ht_X8_clears (k := 3) (pc' := 14) (L' := [some (.ref 84), some (.int v1), some (.int v2), some (.int v3), none, some (.long o5), none, some (.long o7), none, some (.long o9), none, some (.int o11)]) (st' := [.int v3, .ref 95]) (h' := (HP I A L F E)) rfl).trans ?_
  refine (sg_ldR ht_X8_clears rfl hp_o_95).trans ?_
  refine bind_cg fun a1 ha1 => ?_
  have ha1 := in_95 ha1
  refine (sg_go ht_X8_clears (k := 1) (pc' := 16) (L' := [some (.ref 84), some (.int v1), some (.int v2), some (.int v3), none, some (.long o5), none, some (.long o7), none, some (.long o9), none, some (.int o11)]) (st' := [.int v2, .ref a1]) (h' := (HP I A L F E)) rfl).trans ?_
  refine (sg_ldL ht_X8_clears rfl (sMr_obj ha1)).trans ?_
  refine bind_cg fun x2 hx2 => ?_
  refine (sg_go ht_X8_clears (k := 2) (pc' := 19) (L' := [some (.ref 84), some (.int v1), some (.int v2), some (.int v3), none, some (.long o5), none, some (.long o7), none, some (.long o9), none, some (.int o11)]) (st' := [.int (lg_cmp x2 (0))]) (h' := (HP I A L F E)) rfl).trans ?_
  refine (sg_if ht_X8_clears rfl).trans ?_
  refine ite_congr rfl (fun _ => ?_) (fun _ => ?_)
  · refine (sg_go ht_X8_clears (k := 4) (pc' := 32) (L' := [some (.ref 84), some (.int v1), some (.int v2), some (.int v3), none, some (.long o5), none, some (.long o7), none, some (.long o9), none, some (.int o11)]) (st' := [.int v1, .int v2, .int v3, .ref 84]) (h' := (HP I A L F E)) rfl).trans ?_
    refine (sg_call ht_X8_clears (mj := 161) (as := [.ref 84, .int v3, .int v2, .int v1]) (rest := []) rfl rfl ⟨by decide, Nat.le_of_ble_eq_true rfl⟩).trans ?_
    rfl
  · refine (sg_go ht_X8_clears (k := 2) (pc' := 9) (L' := [some (.ref 84), some (.int v1), some (.int v2), some (.int (v3 + 1)), none, some (.long o5), none, some (.long o7), none, some (.long o9), none, some (.int o11)]) (st' := []) (h' := (HP I A L F E)) rfl).trans ?_
    rfl
set_option maxRecDepth 20000 in
theorem sg_X8_clears_9_v10000 {I : Nat → Int32} {A : Nat → List Int32} {L : Nat → List Int64} {F : Nat → Int64} {E : MH} (v1 : Int32) (v2 : Int32) (v3 : Int32) (o4 : Int32) : mm_run G0 162 9 [some (.ref 84), some (.int v1), some (.int v2), some (.int v3), some (.int o4), none, none, none, none, none, none, none] [] (HP I A L F E) = ((ldR [some 96, some 97, some 98, some 99, some 100, some 101] v3).bind fun a1 => ((ldL (L a1) v2).bind fun x2 => (if (lg_cmp x2 (0)) ≠ 0 then ((mm_call G0 161 [.ref 84, .int v3, .int v2, .int v1] (HP I A L F E)).bind fun q => mm_run G0 162 35 [some (.ref 84), some (.int v1), some (.int v2), some (.int v3), some (.int o4), none, none, none, none, none, none, none] (q.1.toList ++ []) q.2) else mm_run G0 162 9 [some (.ref 84), some (.int v1), some (.int v2), some (.int (v3 + 1)), some (.int o4), none, none, none, none, none, none, none] [] (HP I A L F E)))) := by
  refine (sg_go ht_X8_clears (k := 3) (pc' := 14) (L' := [some (.ref 84), some (.int v1), some (.int v2), some (.int v3), some (.int o4), none, none, none, none, none, none, none]) (st' := [.int v3, .ref 95]) (h' := (HP I A L F E)) rfl).trans ?_
  refine (sg_ldR ht_X8_clears rfl hp_o_95).trans ?_
  refine bind_cg fun a1 ha1 => ?_
  have ha1 := in_95 ha1
  refine (sg_go ht_X8_clears (k := 1) (pc' := 16) (L' := [some (.ref 84), some (.int v1), some (.int v2), some (.int v3), some (.int o4), none, none, none, none, none, none, none]) (st' := [.int v2, .ref a1]) (h' := (HP I A L F E)) rfl).trans ?_
  refine (sg_ldL ht_X8_clears rfl (sMr_obj ha1)).trans ?_
  refine bind_cg fun x2 hx2 => ?_
  refine (sg_go ht_X8_clears (k := 2) (pc' := 19) (L' := [some (.ref 84), some (.int v1), some (.int v2), some (.int v3), some (.int o4), none, none, none, none, none, none, none]) (st' := [.int (lg_cmp x2 (0))]) (h' := (HP I A L F E)) rfl).trans ?_
  refine (sg_if ht_X8_clears rfl).trans ?_
  refine ite_congr rfl (fun _ => ?_) (fun _ => ?_)
  · refine (sg_go ht_X8_clears (k := 4) (pc' := 32) (L' := [some (.ref 84), some (.int v1), some (.int v2), some (.int v3), some (.int o4), none, none, none, none, none, none, none]) (st' := [.int v1, .int v2, .int v3, .ref 84]) (h' := (HP I A L F E)) rfl).trans ?_
    refine (sg_call ht_X8_clears (mj := 161) (as := [.ref 84, .int v3, .int v2, .int v1]) (rest := []) rfl rfl ⟨by decide, Nat.le_of_ble_eq_true rfl⟩).trans ?_
    rfl
  · refine (sg_go ht_X8_clears (k := 2) (pc' := 9) (L' := [some (.ref 84), some (.int v1), some (.int v2), some (.int (v3 + 1)), some (.int o4), none, none, none, none, none, none, none]) (st' := []) (h' := (HP I A L F E)) rfl).trans ?_
    rfl
set_option maxRecDepth 20000 in
theorem sg_X8_clears_9_v10001 {I : Nat → Int32} {A : Nat → List Int32} {L : Nat → List Int64} {F : Nat → Int64} {E : MH} (v1 : Int32) (v2 : Int32) (v3 : Int32) (o4 : Int32) (o11 : Int32) : mm_run G0 162 9 [some (.ref 84), some (.int v1), some (.int v2), some (.int v3), some (.int o4), none, none, none, none, none, none, some (.int o11)] [] (HP I A L F E) = ((ldR [some 96, some 97, some 98, some 99, some 100, some 101] v3).bind fun a1 => ((ldL (L a1) v2).bind fun x2 => (if (lg_cmp x2 (0)) ≠ 0 then ((mm_call G0 161 [.ref 84, .int v3, .int v2, .int v1] (HP I A L F E)).bind fun q => mm_run G0 162 35 [some (.ref 84), some (.int v1), some (.int v2), some (.int v3), some (.int o4), none, none, none, none, none, none, some (.int o11)] (q.1.toList ++ []) q.2) else mm_run G0 162 9 [some (.ref 84), some (.int v1), some (.int v2), some (.int (v3 + 1)), some (.int o4), none, none, none, none, none, none, some (.int o11)] [] (HP I A L F E)))) := by
  refine (sg_go ht_X8_clears (k := 3) (pc' := 14) (L' := [some (.ref 84), some (.int v1), some (.int v2), some (.int v3), some (.int o4), none, none, none, none, none, none, some (.int o11)]) (st' := [.int v3, .ref 95]) (h' := (HP I A L F E)) rfl).trans ?_
  refine (sg_ldR ht_X8_clears rfl hp_o_95).trans ?_
  refine bind_cg fun a1 ha1 => ?_
  have ha1 := in_95 ha1
  refine (sg_go ht_X8_clears (k := 1) (pc' := 16) (L' := [some (.ref 84), some (.int v1), some (.int v2), some (.int v3), some (.int o4), none, none, none, none, none, none, some (.int o11)]) (st' := [.int v2, .ref a1]) (h' := (HP I A L F E)) rfl).trans ?_
  refine (sg_ldL ht_X8_clears rfl (sMr_obj ha1)).trans ?_
  refine bind_cg fun x2 hx2 => ?_
  refine (sg_go ht_X8_clears (k := 2) (pc' := 19) (L' := [some (.ref 84), some (.int v1), some (.int v2), some (.int v3), some (.int o4), none, none, none, none, none, none, some (.int o11)]) (st' := [.int (lg_cmp x2 (0))]) (h' := (HP I A L F E)) rfl).trans ?_
  refine (sg_if ht_X8_clears rfl).trans ?_
  refine ite_congr rfl (fun _ => ?_) (fun _ => ?_)
  · refine (sg_go ht_X8_clears (k := 4) (pc' := 32) (L' := [some (.ref 84), some (.int v1), some (.int v2), some (.int v3), some (.int o4), none, none, none, none, none, none, some (.int o11)]) (st' := [.int v1, .int v2, .int v3, .ref 84]) (h' := (HP I A L F E)) rfl).trans ?_
    refine (sg_call ht_X8_clears (mj := 161) (as := [.ref 84, .int v3, .int v2, .int v1]) (rest := []) rfl rfl ⟨by decide, Nat.le_of_ble_eq_true rfl⟩).trans ?_
    rfl
  · refine (sg_go ht_X8_clears (k := 2) (pc' := 9) (L' := [some (.ref 84), some (.int v1), some (.int v2), some (.int (v3 + 1)), some (.int o4), none, none, none, none, none, none, some (.int o11)]) (st' := []) (h' := (HP I A L F E)) rfl).trans ?_
    rfl
set_option maxRecDepth 20000 in
theorem sg_X8_clears_9_v10010 {I : Nat → Int32} {A : Nat → List Int32} {L : Nat → List Int64} {F : Nat → Int64} {E : MH} (v1 : Int32) (v2 : Int32) (v3 : Int32) (o4 : Int32) (o9 : Int64) : mm_run G0 162 9 [some (.ref 84), some (.int v1), some (.int v2), some (.int v3), some (.int o4), none, none, none, none, some (.long o9), none, none] [] (HP I A L F E) = ((ldR [some 96, some 97, some 98, some 99, some 100, some 101] v3).bind fun a1 => ((ldL (L a1) v2).bind fun x2 => (if (lg_cmp x2 (0)) ≠ 0 then ((mm_call G0 161 [.ref 84, .int v3, .int v2, .int v1] (HP I A L F E)).bind fun q => mm_run G0 162 35 [some (.ref 84), some (.int v1), some (.int v2), some (.int v3), some (.int o4), none, none, none, none, some (.long o9), none, none] (q.1.toList ++ []) q.2) else mm_run G0 162 9 [some (.ref 84), some (.int v1), some (.int v2), some (.int (v3 + 1)), some (.int o4), none, none, none, none, some (.long o9), none, none] [] (HP I A L F E)))) := by
  refine (sg_go ht_X8_clears (k := 3) (pc' := 14) (L' := [some (.ref 84), some (.int v1), some (.int v2), some (.int v3), some (.int o4), none, none, none, none, some (.long o9), none, none]) (st' := [.int v3, .ref 95]) (h' := (HP I A L F E)) rfl).trans ?_
  refine (sg_ldR ht_X8_clears rfl hp_o_95).trans ?_
  refine bind_cg fun a1 ha1 => ?_
  have ha1 := in_95 ha1
  refine (sg_go ht_X8_clears (k := 1) (pc' := 16) (L' := [some (.ref 84), some (.int v1), some (.int v2), some (.int v3), some (.int o4), none, none, none, none, some (.long o9), none, none]) (st' := [.int v2, .ref a1]) (h' := (HP I A L F E)) rfl).trans ?_
  refine (sg_ldL ht_X8_clears rfl (sMr_obj ha1)).trans ?_
  refine bind_cg fun x2 hx2 => ?_
  refine (sg_go ht_X8_clears (k := 2) (pc' := 19) (L' := [some (.ref 84), some (.int v1), some (.int v2), some (.int v3), some (.int o4), none, none, none, none, some (.long o9), none, none]) (st' := [.int (lg_cmp x2 (0))]) (h' := (HP I A L F E)) rfl).trans ?_
  refine (sg_if ht_X8_clears rfl).trans ?_
  refine ite_congr rfl (fun _ => ?_) (fun _ => ?_)
  · refine (sg_go ht_X8_clears (k := 4) (pc' := 32) (L' := [some (.ref 84), some (.int v1), some (.int v2), some (.int v3), some (.int o4), none, none, none, none, some (.long o9), none, none]) (st' := [.int v1, .int v2, .int v3, .ref 84]) (h' := (HP I A L F E)) rfl).trans ?_
    refine (sg_call ht_X8_clears (mj := 161) (as := [.ref 84, .int v3, .int v2, .int v1]) (rest := []) rfl rfl ⟨by decide, Nat.le_of_ble_eq_true rfl⟩).trans ?_
    rfl
  · refine (sg_go ht_X8_clears (k := 2) (pc' := 9) (L' := [some (.ref 84), some (.int v1), some (.int v2), some (.int (v3 + 1)), some (.int o4), none, none, none, none, some (.long o9), none, none]) (st' := []) (h' := (HP I A L F E)) rfl).trans ?_
    rfl
set_option maxRecDepth 20000 in
theorem sg_X8_clears_9_v10011 {I : Nat → Int32} {A : Nat → List Int32} {L : Nat → List Int64} {F : Nat → Int64} {E : MH} (v1 : Int32) (v2 : Int32) (v3 : Int32) (o4 : Int32) (o9 : Int64) (o11 : Int32) : mm_run G0 162 9 [some (.ref 84), some (.int v1), some (.int v2), some (.int v3), some (.int o4), none, none, none, none, some (.long o9), none, some (.int o11)] [] (HP I A L F E) = ((ldR [some 96, some 97, some 98, some 99, some 100, some 101] v3).bind fun a1 => ((ldL (L a1) v2).bind fun x2 => (if (lg_cmp x2 (0)) ≠ 0 then ((mm_call G0 161 [.ref 84, .int v3, .int v2, .int v1] (HP I A L F E)).bind fun q => mm_run G0 162 35 [some (.ref 84), some (.int v1), some (.int v2), some (.int v3), some (.int o4), none, none, none, none, some (.long o9), none, some (.int o11)] (q.1.toList ++ []) q.2) else mm_run G0 162 9 [some (.ref 84), some (.int v1), some (.int v2), some (.int (v3 + 1)), some (.int o4), none, none, none, none, some (.long o9), none, some (.int o11)] [] (HP I A L F E)))) := by
  refine (sg_go ht_X8_clears (k := 3) (pc' := 14) (L' := [some (.ref 84), some (.int v1), some (.int v2), some (.int v3), some (.int o4), none, none, none, none, some (.long o9), none, some (.int o11)]) (st' := [.int v3, .ref 95]) (h' := (HP I A L F E)) rfl).trans ?_
  refine (sg_ldR ht_X8_clears rfl hp_o_95).trans ?_
  refine bind_cg fun a1 ha1 => ?_
  have ha1 := in_95 ha1
  refine (sg_go ht_X8_clears (k := 1) (pc' := 16) (L' := [some (.ref 84), some (.int v1), some (.int v2), some (.int v3), some (.int o4), none, none, none, none, some (.long o9), none, some (.int o11)]) (st' := [.int v2, .ref a1]) (h' := (HP I A L F E)) rfl).trans ?_
  refine (sg_ldL ht_X8_clears rfl (sMr_obj ha1)).trans ?_
  refine bind_cg fun x2 hx2 => ?_
  refine (sg_go ht_X8_clears (k := 2) (pc' := 19) (L' := [some (.ref 84), some (.int v1), some (.int v2), some (.int v3), some (.int o4), none, none, none, none, some (.long o9), none, some (.int o11)]) (st' := [.int (lg_cmp x2 (0))]) (h' := (HP I A L F E)) rfl).trans ?_
  refine (sg_if ht_X8_clears rfl).trans ?_
  refine ite_congr rfl (fun _ => ?_) (fun _ => ?_)
  · refine (sg_go ht_X8_clears (k := 4) (pc' := 32) (L' := [some (.ref 84), some (.int v1), some (.int v2), some (.int v3), some (.int o4), none, none, none, none, some (.long o9), none, some (.int o11)]) (st' := [.int v1, .int v2, .int v3, .ref 84]) (h' := (HP I A L F E)) rfl).trans ?_
    refine (sg_call ht_X8_clears (mj := 161) (as := [.ref 84, .int v3, .int v2, .int v1]) (rest := []) rfl rfl ⟨by decide, Nat.le_of_ble_eq_true rfl⟩).trans ?_
    rfl
  · refine (sg_go ht_X8_clears (k := 2) (pc' := 9) (L' := [some (.ref 84), some (.int v1), some (.int v2), some (.int (v3 + 1)), some (.int o4), none, none, none, none, some (.long o9), none, some (.int o11)]) (st' := []) (h' := (HP I A L F E)) rfl).trans ?_
    rfl
set_option maxRecDepth 20000 in
theorem sg_X8_clears_9_v10100 {I : Nat → Int32} {A : Nat → List Int32} {L : Nat → List Int64} {F : Nat → Int64} {E : MH} (v1 : Int32) (v2 : Int32) (v3 : Int32) (o4 : Int32) (o7 : Int64) : mm_run G0 162 9 [some (.ref 84), some (.int v1), some (.int v2), some (.int v3), some (.int o4), none, none, some (.long o7), none, none, none, none] [] (HP I A L F E) = ((ldR [some 96, some 97, some 98, some 99, some 100, some 101] v3).bind fun a1 => ((ldL (L a1) v2).bind fun x2 => (if (lg_cmp x2 (0)) ≠ 0 then ((mm_call G0 161 [.ref 84, .int v3, .int v2, .int v1] (HP I A L F E)).bind fun q => mm_run G0 162 35 [some (.ref 84), some (.int v1), some (.int v2), some (.int v3), some (.int o4), none, none, some (.long o7), none, none, none, none] (q.1.toList ++ []) q.2) else mm_run G0 162 9 [some (.ref 84), some (.int v1), some (.int v2), some (.int (v3 + 1)), some (.int o4), none, none, some (.long o7), none, none, none, none] [] (HP I A L F E)))) := by
  refine (sg_go ht_X8_clears (k := 3) (pc' := 14) (L' := [some (.ref 84), some (.int v1), some (.int v2), some (.int v3), some (.int o4), none, none, some (.long o7), none, none, none, none]) (st' := [.int v3, .ref 95]) (h' := (HP I A L F E)) rfl).trans ?_
  refine (sg_ldR ht_X8_clears rfl hp_o_95).trans ?_
  refine bind_cg fun a1 ha1 => ?_
  have ha1 := in_95 ha1
  refine (sg_go ht_X8_clears (k := 1) (pc' := 16) (L' := [some (.ref 84), some (.int v1), some (.int v2), some (.int v3), some (.int o4), none, none, some (.long o7), none, none, none, none]) (st' := [.int v2, .ref a1]) (h' := (HP I A L F E)) rfl).trans ?_
  refine (sg_ldL ht_X8_clears rfl (sMr_obj ha1)).trans ?_
  refine bind_cg fun x2 hx2 => ?_
  refine (sg_go ht_X8_clears (k := 2) (pc' := 19) (L' := [some (.ref 84), some (.int v1), some (.int v2), some (.int v3), some (.int o4), none, none, some (.long o7), none, none, none, none]) (st' := [.int (lg_cmp x2 (0))]) (h' := (HP I A L F E)) rfl).trans ?_
  refine (sg_if ht_X8_clears rfl).trans ?_
  refine ite_congr rfl (fun _ => ?_) (fun _ => ?_)
  · refine (sg_go ht_X8_clears (k := 4) (pc' := 32) (L' := [some (.ref 84), some (.int v1), some (.int v2), some (.int v3), some (.int o4), none, none, some (.long o7), none, none, none, none]) (st' := [.int v1, .int v2, .int v3, .ref 84]) (h' := (HP I A L F E)) rfl).trans ?_
    refine (sg_call ht_X8_clears (mj := 161) (as := [.ref 84, .int v3, .int v2, .int v1]) (rest := []) rfl rfl ⟨by decide, Nat.le_of_ble_eq_true rfl⟩).trans ?_
    rfl
  · refine (sg_go ht_X8_clears (k := 2) (pc' := 9) (L' := [some (.ref 84), some (.int v1), some (.int v2), some (.int (v3 + 1)), some (.int o4), none, none, some (.long o7), none, none, none, none]) (st' := []) (h' := (HP I A L F E)) rfl).trans ?_
    rfl
set_option maxRecDepth 20000 in
theorem sg_X8_clears_9_v10101 {I : Nat → Int32} {A : Nat → List Int32} {L : Nat → List Int64} {F : Nat → Int64} {E : MH} (v1 : Int32) (v2 : Int32) (v3 : Int32) (o4 : Int32) (o7 : Int64) (o11 : Int32) : mm_run G0 162 9 [some (.ref 84), some (.int v1), some (.int v2), some (.int v3), some (.int o4), none, none, some (.long o7), none, none, none, some (.int o11)] [] (HP I A L F E) = ((ldR [some 96, some 97, some 98, some 99, some 100, some 101] v3).bind fun a1 => ((ldL (L a1) v2).bind fun x2 => (if (lg_cmp x2 (0)) ≠ 0 then ((mm_call G0 161 [.ref 84, .int v3, .int v2, .int v1] (HP I A L F E)).bind fun q => mm_run G0 162 35 [some (.ref 84), some (.int v1), some (.int v2), some (.int v3), some (.int o4), none, none, some (.long o7), none, none, none, some (.int o11)] (q.1.toList ++ []) q.2) else mm_run G0 162 9 [some (.ref 84), some (.int v1), some (.int v2), some (.int (v3 + 1)), some (.int o4), none, none, some (.long o7), none, none, none, some (.int o11)] [] (HP I A L F E)))) := by
  refine (sg_go ht_X8_clears (k := 3) (pc' := 14) (L' := [some (.ref 84), some (.int v1), some (.int v2), some (.int v3), some (.int o4), none, none, some (.long o7), none, none, none, some (.int o11)]) (st' := [.int v3, .ref 95]) (h' := (HP I A L F E)) rfl).trans ?_
  refine (sg_ldR ht_X8_clears rfl hp_o_95).trans ?_
  refine bind_cg fun a1 ha1 => ?_
  have ha1 := in_95 ha1
  refine (sg_go ht_X8_clears (k := 1) (pc' := 16) (L' := [some (.ref 84), some (.int v1), some (.int v2), some (.int v3), some (.int o4), none, none, some (.long o7), none, none, none, some (.int o11)]) (st' := [.int v2, .ref a1]) (h' := (HP I A L F E)) rfl).trans ?_
  refine (sg_ldL ht_X8_clears rfl (sMr_obj ha1)).trans ?_
  refine bind_cg fun x2 hx2 => ?_
  refine (sg_go ht_X8_clears (k := 2) (pc' := 19) (L' := [some (.ref 84), some (.int v1), some (.int v2), some (.int v3), some (.int o4), none, none, some (.long o7), none, none, none, some (.int o11)]) (st' := [.int (lg_cmp x2 (0))]) (h' := (HP I A L F E)) rfl).trans ?_
  refine (sg_if ht_X8_clears rfl).trans ?_
  refine ite_congr rfl (fun _ => ?_) (fun _ => ?_)
  · refine (sg_go ht_X8_clears (k := 4) (pc' := 32) (L' := [some (.ref 84), some (.int v1), some (.int v2), some (.int v3), some (.int o4), none, none, some (.long o7), none, none, none, some (.int o11)]) (st' := [.int v1, .int v2, .int v3, .ref 84]) (h' := (HP I A L F E)) rfl).trans ?_
    refine (sg_call ht_X8_clears (mj := 161) (as := [.ref 84, .int v3, .int v2, .int v1]) (rest := []) rfl rfl ⟨by decide, Nat.le_of_ble_eq_true rfl⟩).trans ?_
    rfl
  · refine (sg_go ht_X8_clears (k := 2) (pc' := 9) (L' := [some (.ref 84), some (.int v1), some (.int v2), some (.int (v3 + 1)), some (.int o4), none, none, some (.long o7), none, none, none, some (.int o11)]) (st' := []) (h' := (HP I A L F E)) rfl).trans ?_
    rfl
set_option maxRecDepth 20000 in
theorem sg_X8_clears_9_v10110 {I : Nat → Int32} {A : Nat → List Int32} {L : Nat → List Int64} {F : Nat → Int64} {E : MH} (v1 : Int32) (v2 : Int32) (v3 : Int32) (o4 : Int32) (o7 : Int64) (o9 : Int64) : mm_run G0 162 9 [some (.ref 84), some (.int v1), some (.int v2), some (.int v3), some (.int o4), none, none, some (.long o7), none, some (.long o9), none, none] [] (HP I A L F E) = ((ldR [some 96, some 97, some 98, some 99, some 100, some 101] v3).bind fun a1 => ((ldL (L a1) v2).bind fun x2 => (if (lg_cmp x2 (0)) ≠ 0 then ((mm_call G0 161 [.ref 84, .int v3, .int v2, .int v1] (HP I A L F E)).bind fun q => mm_run G0 162 35 [some (.ref 84), some (.int v1), some (.int v2), some (.int v3), some (.int o4), none, none, some (.long o7), none, some (.long o9), none, none] (q.1.toList ++ []) q.2) else mm_run G0 162 9 [some (.ref 84), some (.int v1), some (.int v2), some (.int (v3 + 1)), some (.int o4), none, none, some (.long o7), none, some (.long o9), none, none] [] (HP I A L F E)))) := by
  refine (sg_go ht_X8_clears (k := 3) (pc' := 14) (L' := [some (.ref 84), some (.int v1), some (.int v2), some (.int v3), some (.int o4), none, none, some (.long o7), none, some (.long o9), none, none]) (st' := [.int v3, .ref 95]) (h' := (HP I A L F E)) rfl).trans ?_
  refine (sg_ldR ht_X8_clears rfl hp_o_95).trans ?_
  refine bind_cg fun a1 ha1 => ?_
  have ha1 := in_95 ha1
  refine (sg_go ht_X8_clears (k := 1) (pc' := 16) (L' := [some (.ref 84), some (.int v1), some (.int v2), some (.int v3), some (.int o4), none, none, some (.long o7), none, some (.long o9), none, none]) (st' := [.int v2, .ref a1]) (h' := (HP I A L F E)) rfl).trans ?_
  refine (sg_ldL ht_X8_clears rfl (sMr_obj ha1)).trans ?_
  refine bind_cg fun x2 hx2 => ?_
  refine (sg_go ht_X8_clears (k := 2) (pc' := 19) (L' := [some (.ref 84), some (.int v1), some (.int v2), some (.int v3), some (.int o4), none, none, some (.long o7), none, some (.long o9), none, none]) (st' := [.int (lg_cmp x2 (0))]) (h' := (HP I A L F E)) rfl).trans ?_
  refine (sg_if ht_X8_clears rfl).trans ?_
  refine ite_congr rfl (fun _ => ?_) (fun _ => ?_)
  · refine (sg_go ht_X8_clears (k := 4) (pc' := 32) (L' := [some (.ref 84), some (.int v1), some (.int v2), some (.int v3), some (.int o4), none, none, some (.long o7), none, some (.long o9), none, none]) (st' := [.int v1, .int v2, .int v3, .ref 84]) (h' := (HP I A L F E)) rfl).trans ?_
    refine (sg_call ht_X8_clears (mj := 161) (as := [.ref 84, .int v3, .int v2, .int v1]) (rest := []) rfl rfl ⟨by decide, Nat.le_of_ble_eq_true rfl⟩).trans ?_
    rfl
  · refine (sg_go ht_X8_clears (k := 2) (pc' := 9) (L' := [some (.ref 84), some (.int v1), some (.int v2), some (.int (v3 + 1)), some (.int o4), none, none, some (.long o7), none, some (.long o9), none, none]) (st' := []) (h' := (HP I A L F E)) rfl).trans ?_
    rfl
set_option maxRecDepth 20000 in
theorem sg_X8_clears_9_v10111 {I : Nat → Int32} {A : Nat → List Int32} {L : Nat → List Int64} {F : Nat → Int64} {E : MH} (v1 : Int32) (v2 : Int32) (v3 : Int32) (o4 : Int32) (o7 : Int64) (o9 : Int64) (o11 : Int32) : mm_run G0 162 9 [some (.ref 84), some (.int v1), some (.int v2), some (.int v3), some (.int o4), none, none, some (.long o7), none, some (.long o9), none, some (.int o11)] [] (HP I A L F E) = ((ldR [some 96, some 97, some 98, some 99, some 100, some 101] v3).bind fun a1 => ((ldL (L a1) v2).bind fun x2 => (if (lg_cmp x2 (0)) ≠ 0 then ((mm_call G0 161 [.ref 84, .int v3, .int v2, .int v1] (HP I A L F E)).bind fun q => mm_run G0 162 35 [some (.ref 84), some (.int v1), some (.int v2), some (.int v3), some (.int o4), none, none, some (.long o7), none, some (.long o9), none, some (.int o11)] (q.1.toList ++ []) q.2) else mm_run G0 162 9 [some (.ref 84), some (.int v1), some (.int v2), some (.int (v3 + 1)), some (.int o4), none, none, some (.long o7), none, some (.long o9), none, some (.int o11)] [] (HP I A L F E)))) := by
  refine (sg_go ht_X8_clears (k := 3) (pc' := 14) (L' := [some (.ref 84), some (.int v1), some (.int v2), some (.int v3), some (.int o4), none, none, some (.long o7), none, some (.long o9), none, some (.int o11)]) (st' := [.int v3, .ref 95]) (h' := (HP I A L F E)) rfl).trans ?_
  refine (sg_ldR ht_X8_clears rfl hp_o_95).trans ?_
  refine bind_cg fun a1 ha1 => ?_
  have ha1 := in_95 ha1
  refine (sg_go ht_X8_clears (k := 1) (pc' := 16) (L' := [some (.ref 84), some (.int v1), some (.int v2), some (.int v3), some (.int o4), none, none, some (.long o7), none, some (.long o9), none, some (.int o11)]) (st' := [.int v2, .ref a1]) (h' := (HP I A L F E)) rfl).trans ?_
  refine (sg_ldL ht_X8_clears rfl (sMr_obj ha1)).trans ?_
  refine bind_cg fun x2 hx2 => ?_
  refine (sg_go ht_X8_clears (k := 2) (pc' := 19) (L' := [some (.ref 84), some (.int v1), some (.int v2), some (.int v3), some (.int o4), none, none, some (.long o7), none, some (.long o9), none, some (.int o11)]) (st' := [.int (lg_cmp x2 (0))]) (h' := (HP I A L F E)) rfl).trans ?_
  refine (sg_if ht_X8_clears rfl).trans ?_
  refine ite_congr rfl (fun _ => ?_) (fun _ => ?_)
  · refine (sg_go ht_X8_clears (k := 4) (pc' := 32) (L' := [some (.ref 84), some (.int v1), some (.int v2), some (.int v3), some (.int o4), none, none, some (.long o7), none, some (.long o9), none, some (.int o11)]) (st' := [.int v1, .int v2, .int v3, .ref 84]) (h' := (HP I A L F E)) rfl).trans ?_
    refine (sg_call ht_X8_clears (mj := 161) (as := [.ref 84, .int v3, .int v2, .int v1]) (rest := []) rfl rfl ⟨by decide, Nat.le_of_ble_eq_true rfl⟩).trans ?_
    rfl
  · refine (sg_go ht_X8_clears (k := 2) (pc' := 9) (L' := [some (.ref 84), some (.int v1), some (.int v2), some (.int (v3 + 1)), some (.int o4), none, none, some (.long o7), none, some (.long o9), none, some (.int o11)]) (st' := []) (h' := (HP I A L F E)) rfl).trans ?_
    rfl
set_option maxRecDepth 20000 in
theorem sg_X8_clears_9_v11000 {I : Nat → Int32} {A : Nat → List Int32} {L : Nat → List Int64} {F : Nat → Int64} {E : MH} (v1 : Int32) (v2 : Int32) (v3 : Int32) (o4 : Int32) (o5 : Int64) : mm_run G0 162 9 [some (.ref 84), some (.int v1), some (.int v2), some (.int v3), some (.int o4), some (.long o5), none, none, none, none, none, none] [] (HP I A L F E) = ((ldR [some 96, some 97, some 98, some 99, some 100, some 101] v3).bind fun a1 => ((ldL (L a1) v2).bind fun x2 => (if (lg_cmp x2 (0)) ≠ 0 then ((mm_call G0 161 [.ref 84, .int v3, .int v2, .int v1] (HP I A L F E)).bind fun q => mm_run G0 162 35 [some (.ref 84), some (.int v1), some (.int v2), some (.int v3), some (.int o4), some (.long o5), none, none, none, none, none, none] (q.1.toList ++ []) q.2) else mm_run G0 162 9 [some (.ref 84), some (.int v1), some (.int v2), some (.int (v3 + 1)), some (.int o4), some (.long o5), none, none, none, none, none, none] [] (HP I A L F E)))) := by
  refine (sg_go ht_X8_clears (k := 3) (pc' := 14) (L' := [some (.ref 84), some (.int v1), some (.int v2), some (.int v3), some (.int o4), some (.long o5), none, none, none, none, none, none]) (st' := [.int v3, .ref 95]) (h' := (HP I A L F E)) rfl).trans ?_
  refine (sg_ldR ht_X8_clears rfl hp_o_95).trans ?_
  refine bind_cg fun a1 ha1 => ?_
  have ha1 := in_95 ha1
  refine (sg_go ht_X8_clears (k := 1) (pc' := 16) (L' := [some (.ref 84), some (.int v1), some (.int v2), some (.int v3), some (.int o4), some (.long o5), none, none, none, none, none, none]) (st' := [.int v2, .ref a1]) (h' := (HP I A L F E)) rfl).trans ?_
  refine (sg_ldL ht_X8_clears rfl (sMr_obj ha1)).trans ?_
  refine bind_cg fun x2 hx2 => ?_
  refine (sg_go ht_X8_clears (k := 2) (pc' := 19) (L' := [some (.ref 84), some (.int v1), some (.int v2), some (.int v3), some (.int o4), some (.long o5), none, none, none, none, none, none]) (st' := [.int (lg_cmp x2 (0))]) (h' := (HP I A L F E)) rfl).trans ?_
  refine (sg_if ht_X8_clears rfl).trans ?_
  refine ite_congr rfl (fun _ => ?_) (fun _ => ?_)
  · refine (sg_go ht_X8_clears (k := 4) (pc' := 32) (L' := [some (.ref 84), some (.int v1), some (.int v2), some (.int v3), some (.int o4), some (.long o5), none, none, none, none, none, none]) (st' := [.int v1, .int v2, .int v3, .ref 84]) (h' := (HP I A L F E)) rfl).trans ?_
    refine (sg_call ht_X8_clears (mj := 161) (as := [.ref 84, .int v3, .int v2, .int v1]) (rest := []) rfl rfl ⟨by decide, Nat.le_of_ble_eq_true rfl⟩).trans ?_
    rfl
  · refine (sg_go ht_X8_clears (k := 2) (pc' := 9) (L' := [some (.ref 84), some (.int v1), some (.int v2), some (.int (v3 + 1)), some (.int o4), some (.long o5), none, none, none, none, none, none]) (st' := []) (h' := (HP I A L F E)) rfl).trans ?_
    rfl
set_option maxRecDepth 20000 in
theorem sg_X8_clears_9_v11001 {I : Nat → Int32} {A : Nat → List Int32} {L : Nat → List Int64} {F : Nat → Int64} {E : MH} (v1 : Int32) (v2 : Int32) (v3 : Int32) (o4 : Int32) (o5 : Int64) (o11 : Int32) : mm_run G0 162 9 [some (.ref 84), some (.int v1), some (.int v2), some (.int v3), some (.int o4), some (.long o5), none, none, none, none, none, some (.int o11)] [] (HP I A L F E) = ((ldR [some 96, some 97, some 98, some 99, some 100, some 101] v3).bind fun a1 => ((ldL (L a1) v2).bind fun x2 => (if (lg_cmp x2 (0)) ≠ 0 then ((mm_call G0 161 [.ref 84, .int v3, .int v2, .int v1] (HP I A L F E)).bind fun q => mm_run G0 162 35 [some (.ref 84), some (.int v1), some (.int v2), some (.int v3), some (.int o4), some (.long o5), none, none, none, none, none, some (.int o11)] (q.1.toList ++ []) q.2) else mm_run G0 162 9 [some (.ref 84), some (.int v1), some (.int v2), some (.int (v3 + 1)), some (.int o4), some (.long o5), none, none, none, none, none, some (.int o11)] [] (HP I A L F E)))) := by
  refine (sg_go ht_X8_clears (k := 3) (pc' := 14) (L' := [some (.ref 84), some (.int v1), some (.int v2), some (.int v3), some (.int o4), some (.long o5), none, none, none, none, none, some (.int o11)]) (st' := [.int v3, .ref 95]) (h' := (HP I A L F E)) rfl).trans ?_
  refine (sg_ldR ht_X8_clears rfl hp_o_95).trans ?_
  refine bind_cg fun a1 ha1 => ?_
  have ha1 := in_95 ha1
  refine (sg_go ht_X8_clears (k := 1) (pc' := 16) (L' := [some (.ref 84), some (.int v1), some (.int v2), some (.int v3), some (.int o4), some (.long o5), none, none, none, none, none, some (.int o11)]) (st' := [.int v2, .ref a1]) (h' := (HP I A L F E)) rfl).trans ?_
  refine (sg_ldL ht_X8_clears rfl (sMr_obj ha1)).trans ?_
  refine bind_cg fun x2 hx2 => ?_
  refine (sg_go ht_X8_clears (k := 2) (pc' := 19) (L' := [some (.ref 84), some (.int v1), some (.int v2), some (.int v3), some (.int o4), some (.long o5), none, none, none, none, none, some (.int o11)]) (st' := [.int (lg_cmp x2 (0))]) (h' := (HP I A L F E)) rfl).trans ?_
  refine (sg_if ht_X8_clears rfl).trans ?_
  refine ite_congr rfl (fun _ => ?_) (fun _ => ?_)
  · refine (sg_go ht_X8_clears (k := 4) (pc' := 32) (L' := [some (.ref 84), some (.int v1), some (.int v2), some (.int v3), some (.int o4), some (.long o5), none, none, none, none, none, some (.int o11)]) (st' := [.int v1, .int v2, .int v3, .ref 84]) (h' := (HP I A L F E)) rfl).trans ?_
    refine (sg_call ht_X8_clears (mj := 161) (as := [.ref 84, .int v3, .int v2, .int v1]) (rest := []) rfl rfl ⟨by decide, Nat.le_of_ble_eq_true rfl⟩).trans ?_
    rfl
  · refine (sg_go ht_X8_clears (k := 2) (pc' := 9) (L' := [some (.ref 84), some (.int v1), some (.int v2), some (.int (v3 + 1)), some (.int o4), some (.long o5), none, none, none, none, none, some (.int o11)]) (st' := []) (h' := (HP I A L F E)) rfl).trans ?_
    rfl
set_option maxRecDepth 20000 in
theorem sg_X8_clears_9_v11010 {I : Nat → Int32} {A : Nat → List Int32} {L : Nat → List Int64} {F : Nat → Int64} {E : MH} (v1 : Int32) (v2 : Int32) (v3 : Int32) (o4 : Int32) (o5 : Int64) (o9 : Int64) : mm_run G0 162 9 [some (.ref 84), some (.int v1), some (.int v2), some (.int v3), some (.int o4), some (.long o5), none, none, none, some (.long o9), none, none] [] (HP I A L F E) = ((ldR [some 96, some 97, some 98, some 99, some 100, some 101] v3).bind fun a1 => ((ldL (L a1) v2).bind fun x2 => (if (lg_cmp x2 (0)) ≠ 0 then ((mm_call G0 161 [.ref 84, .int v3, .int v2, .int v1] (HP I A L F E)).bind fun q => mm_run G0 162 35 [some (.ref 84), some (.int v1), some (.int v2), some (.int v3), some (.int o4), some (.long o5), none, none, none, some (.long o9), none, none] (q.1.toList ++ []) q.2) else mm_run G0 162 9 [some (.ref 84), some (.int v1), some (.int v2), some (.int (v3 + 1)), some (.int o4), some (.long o5), none, none, none, some (.long o9), none, none] [] (HP I A L F E)))) := by
  refine (sg_go ht_X8_clears (k := 3) (pc' := 14) (L' := [some (.ref 84), some (.int v1), some (.int v2), some (.int v3), some (.int o4), some (.long o5), none, none, none, some (.long o9), none, none]) (st' := [.int v3, .ref 95]) (h' := (HP I A L F E)) rfl).trans ?_
  refine (sg_ldR ht_X8_clears rfl hp_o_95).trans ?_
  refine bind_cg fun a1 ha1 => ?_
  have ha1 := in_95 ha1
  refine (sg_go ht_X8_clears (k := 1) (pc' := 16) (L' := [some (.ref 84), some (.int v1), some (.int v2), some (.int v3), some (.int o4), some (.long o5), none, none, none, some (.long o9), none, none]) (st' := [.int v2, .ref a1]) (h' := (HP I A L F E)) rfl).trans ?_
  refine (sg_ldL ht_X8_clears rfl (sMr_obj ha1)).trans ?_
  refine bind_cg fun x2 hx2 => ?_
  refine (sg_go ht_X8_clears (k := 2) (pc' := 19) (L' := [some (.ref 84), some (.int v1), some (.int v2), some (.int v3), some (.int o4), some (.long o5), none, none, none, some (.long o9), none, none]) (st' := [.int (lg_cmp x2 (0))]) (h' := (HP I A L F E)) rfl).trans ?_
  refine (sg_if ht_X8_clears rfl).trans ?_
  refine ite_congr rfl (fun _ => ?_) (fun _ => ?_)
  · refine (sg_go ht_X8_clears (k := 4) (pc' := 32) (L' := [some (.ref 84), some (.int v1), some (.int v2), some (.int v3), some (.int o4), some (.long o5), none, none, none, some (.long o9), none, none]) (st' := [.int v1, .int v2, .int v3, .ref 84]) (h' := (HP I A L F E)) rfl).trans ?_
    refine (sg_call ht_X8_clears (mj := 161) (as := [.ref 84, .int v3, .int v2, .int v1]) (rest := []) rfl rfl ⟨by decide, Nat.le_of_ble_eq_true rfl⟩).trans ?_
    rfl
  · refine (sg_go ht_X8_clears (k := 2) (pc' := 9) (L' := [some (.ref 84), some (.int v1), some (.int v2), some (.int (v3 + 1)), some (.int o4), some (.long o5), none, none, none, some (.long o9), none, none]) (st' := []) (h' := (HP I A L F E)) rfl).trans ?_
    rfl
set_option maxRecDepth 20000 in
theorem sg_X8_clears_9_v11011 {I : Nat → Int32} {A : Nat → List Int32} {L : Nat → List Int64} {F : Nat → Int64} {E : MH} (v1 : Int32) (v2 : Int32) (v3 : Int32) (o4 : Int32) (o5 : Int64) (o9 : Int64) (o11 : Int32) : mm_run G0 162 9 [some (.ref 84), some (.int v1), some (.int v2), some (.int v3), some (.int o4), some (.long o5), none, none, none, some (.long o9), none, some (.int o11)] [] (HP I A L F E) = ((ldR [some 96, some 97, some 98, some 99, some 100, some 101] v3).bind fun a1 => ((ldL (L a1) v2).bind fun x2 => (if (lg_cmp x2 (0)) ≠ 0 then ((mm_call G0 161 [.ref 84, .int v3, .int v2, .int v1] (HP I A L F E)).bind fun q => mm_run G0 162 35 [some (.ref 84), some (.int v1), some (.int v2), some (.int v3), some (.int o4), some (.long o5), none, none, none, some (.long o9), none, some (.int o11)] (q.1.toList ++ []) q.2) else mm_run G0 162 9 [some (.ref 84), some (.int v1), some (.int v2), some (.int (v3 + 1)), some (.int o4), some (.long o5), none, none, none, some (.long o9), none, some (.int o11)] [] (HP I A L F E)))) := by
  refine (sg_go ht_X8_clears (k := 3) (pc' := 14) (L' := [some (.ref 84), some (.int v1), some (.int v2), some (.int v3), some (.int o4), some (.long o5), none, none, none, some (.long o9), none, some (.int o11)]) (st' := [.int v3, .ref 95]) (h' := (HP I A L F E)) rfl).trans ?_
  refine (sg_ldR ht_X8_clears rfl hp_o_95).trans ?_
  refine bind_cg fun a1 ha1 => ?_
  have ha1 := in_95 ha1
  refine (sg_go ht_X8_clears (k := 1) (pc' := 16) (L' := [some (.ref 84), some (.int v1), some (.int v2), some (.int v3), some (.int o4), some (.long o5), none, none, none, some (.long o9), none, some (.int o11)]) (st' := [.int v2, .ref a1]) (h' := (HP I A L F E)) rfl).trans ?_
  refine (sg_ldL ht_X8_clears rfl (sMr_obj ha1)).trans ?_
  refine bind_cg fun x2 hx2 => ?_
  refine (sg_go ht_X8_clears (k := 2) (pc' := 19) (L' := [some (.ref 84), some (.int v1), some (.int v2), some (.int v3), some (.int o4), some (.long o5), none, none, none, some (.long o9), none, some (.int o11)]) (st' := [.int (lg_cmp x2 (0))]) (h' := (HP I A L F E)) rfl).trans ?_
  refine (sg_if ht_X8_clears rfl).trans ?_
  refine ite_congr rfl (fun _ => ?_) (fun _ => ?_)
  · refine (sg_go ht_X8_clears (k := 4) (pc' := 32) (L' := [some (.ref 84), some (.int v1), some (.int v2), some (.int v3), some (.int o4), some (.long o5), none, none, none, some (.long o9), none, some (.int o11)]) (st' := [.int v1, .int v2, .int v3, .ref 84]) (h' := (HP I A L F E)) rfl).trans ?_
    refine (sg_call ht_X8_clears (mj := 161) (as := [.ref 84, .int v3, .int v2, .int v1]) (rest := []) rfl rfl ⟨by decide, Nat.le_of_ble_eq_true rfl⟩).trans ?_
    rfl
  · refine (sg_go ht_X8_clears (k := 2) (pc' := 9) (L' := [some (.ref 84), some (.int v1), some (.int v2), some (.int (v3 + 1)), some (.int o4), some (.long o5), none, none, none, some (.long o9), none, some (.int o11)]) (st' := []) (h' := (HP I A L F E)) rfl).trans ?_
    rfl
set_option maxRecDepth 20000 in
theorem sg_X8_clears_9_v11100 {I : Nat → Int32} {A : Nat → List Int32} {L : Nat → List Int64} {F : Nat → Int64} {E : MH} (v1 : Int32) (v2 : Int32) (v3 : Int32) (o4 : Int32) (o5 : Int64) (o7 : Int64) : mm_run G0 162 9 [some (.ref 84), some (.int v1), some (.int v2), some (.int v3), some (.int o4), some (.long o5), none, some (.long o7), none, none, none, none] [] (HP I A L F E) = ((ldR [some 96, some 97, some 98, some 99, some 100, some 101] v3).bind fun a1 => ((ldL (L a1) v2).bind fun x2 => (if (lg_cmp x2 (0)) ≠ 0 then ((mm_call G0 161 [.ref 84, .int v3, .int v2, .int v1] (HP I A L F E)).bind fun q => mm_run G0 162 35 [some (.ref 84), some (.int v1), some (.int v2), some (.int v3), some (.int o4), some (.long o5), none, some (.long o7), none, none, none, none] (q.1.toList ++ []) q.2) else mm_run G0 162 9 [some (.ref 84), some (.int v1), some (.int v2), some (.int (v3 + 1)), some (.int o4), some (.long o5), none, some (.long o7), none, none, none, none] [] (HP I A L F E)))) := by
  refine (sg_go ht_X8_clears (k := 3) (pc' := 14) (L' := [some (.ref 84), some (.int v1), some (.int v2), some (.int v3), some (.int o4), some (.long o5), none, some (.long o7), none, none, none, none]) (st' := [.int v3, .ref 95]) (h' := (HP I A L F E)) rfl).trans ?_
  refine (sg_ldR ht_X8_clears rfl hp_o_95).trans ?_
  refine bind_cg fun a1 ha1 => ?_
  have ha1 := in_95 ha1
  refine (sg_go ht_X8_clears (k := 1) (pc' := 16) (L' := [some (.ref 84), some (.int v1), some (.int v2), some (.int v3), some (.int o4), some (.long o5), none, some (.long o7), none, none, none, none]) (st' := [.int v2, .ref a1]) (h' := (HP I A L F E)) rfl).trans ?_
  refine (sg_ldL ht_X8_clears rfl (sMr_obj ha1)).trans ?_
  refine bind_cg fun x2 hx2 => ?_
  refine (sg_go ht_X8_clears (k := 2) (pc' := 19) (L' := [some (.ref 84), some (.int v1), some (.int v2), some (.int v3), some (.int o4), some (.long o5), none, some (.long o7), none, none, none, none]) (st' := [.int (lg_cmp x2 (0))]) (h' := (HP I A L F E)) rfl).trans ?_
  refine (sg_if ht_X8_clears rfl).trans ?_
  refine ite_congr rfl (fun _ => ?_) (fun _ => ?_)
  · refine (sg_go ht_X8_clears (k := 4) (pc' := 32) (L' := [some (.ref 84), some (.int v1), some (.int v2), some (.int v3), some (.int o4), some (.long o5), none, some (.long o7), none, none, none, none]) (st' := [.int v1, .int v2, .int v3, .ref 84]) (h' := (HP I A L F E)) rfl).trans ?_
    refine (sg_call ht_X8_clears (mj := 161) (as := [.ref 84, .int v3, .int v2, .int v1]) (rest := []) rfl rfl ⟨by decide, Nat.le_of_ble_eq_true rfl⟩).trans ?_
    rfl
  · refine (sg_go ht_X8_clears (k := 2) (pc' := 9) (L' := [some (.ref 84), some (.int v1), some (.int v2), some (.int (v3 + 1)), some (.int o4), some (.long o5), none, some (.long o7), none, none, none, none]) (st' := []) (h' := (HP I A L F E)) rfl).trans ?_
    rfl
set_option maxRecDepth 20000 in
theorem sg_X8_clears_9_v11101 {I : Nat → Int32} {A : Nat → List Int32} {L : Nat → List Int64} {F : Nat → Int64} {E : MH} (v1 : Int32) (v2 : Int32) (v3 : Int32) (o4 : Int32) (o5 : Int64) (o7 : Int64) (o11 : Int32) : mm_run G0 162 9 [some (.ref 84), some (.int v1), some (.int v2), some (.int v3), some (.int o4), some (.long o5), none, some (.long o7), none, none, none, some (.int o11)] [] (HP I A L F E) = ((ldR [some 96, some 97, some 98, some 99, some 100, some 101] v3).bind fun a1 => ((ldL (L a1) v2).bind fun x2 => (if (lg_cmp x2 (0)) ≠ 0 then ((mm_call G0 161 [.ref 84, .int v3, .int v2, .int v1] (HP I A L F E)).bind fun q => mm_run G0 162 35 [some (.ref 84), some (.int v1), some (.int v2), some (.int v3), some (.int o4), some (.long o5), none, some (.long o7), none, none, none, some (.int o11)] (q.1.toList ++ []) q.2) else mm_run G0 162 9 [some (.ref 84), some (.int v1), some (.int v2), some (.int (v3 + 1)), some (.int o4), some (.long o5), none, some (.long o7), none, none, none, some (.int o11)] [] (HP I A L F E)))) := by
  refine (sg_go ht_X8_clears (k := 3) (pc' := 14) (L' := [some (.ref 84), some (.int v1), some (.int v2), some (.int v3), some (.int o4), some (.long o5), none, some (.long o7), none, none, none, some (.int o11)]) (st' := [.int v3, .ref 95]) (h' := (HP I A L F E)) rfl).trans ?_
  refine (sg_ldR ht_X8_clears rfl hp_o_95).trans ?_
  refine bind_cg fun a1 ha1 => ?_
  have ha1 := in_95 ha1
  refine (sg_go ht_X8_clears (k := 1) (pc' := 16) (L' := [some (.ref 84), some (.int v1), some (.int v2), some (.int v3), some (.int o4), some (.long o5), none, some (.long o7), none, none, none, some (.int o11)]) (st' := [.int v2, .ref a1]) (h' := (HP I A L F E)) rfl).trans ?_
  refine (sg_ldL ht_X8_clears rfl (sMr_obj ha1)).trans ?_
  refine bind_cg fun x2 hx2 => ?_
  refine (sg_go ht_X8_clears (k := 2) (pc' := 19) (L' := [some (.ref 84), some (.int v1), some (.int v2), some (.int v3), some (.int o4), some (.long o5), none, some (.long o7), none, none, none, some (.int o11)]) (st' := [.int (lg_cmp x2 (0))]) (h' := (HP I A L F E)) rfl).trans ?_
  refine (sg_if ht_X8_clears rfl).trans ?_
  refine ite_congr rfl (fun _ => ?_) (fun _ => ?_)
  · refine (sg_go ht_X8_clears (k := 4) (pc' := 32) (L' := [some (.ref 84), some (.int v1), some (.int v2), some (.int v3), some (.int o4), some (.long o5), none, some (.long o7), none, none, none, some (.int o11)]) (st' := [.int v1, .int v2, .int v3, .ref 84]) (h' := (HP I A L F E)) rfl).trans ?_
    refine (sg_call ht_X8_clears (mj := 161) (as := [.ref 84, .int v3, .int v2, .int v1]) (rest := []) rfl rfl ⟨by decide, Nat.le_of_ble_eq_true rfl⟩).trans ?_
    rfl
  · refine (sg_go ht_X8_clears (k := 2) (pc' := 9) (L' := [some (.ref 84), some (.int v1), some (.int v2), some (.int (v3 + 1)), some (.int o4), some (.long o5), none, some (.long o7), none, none, none, some (.int o11)]) (st' := []) (h' := (HP I A L F E)) rfl).trans ?_
    rfl
set_option maxRecDepth 20000 in
theorem sg_X8_clears_9_v11110 {I : Nat → Int32} {A : Nat → List Int32} {L : Nat → List Int64} {F : Nat → Int64} {E : MH} (v1 : Int32) (v2 : Int32) (v3 : Int32) (o4 : Int32) (o5 : Int64) (o7 : Int64) (o9 : Int64) : mm_run G0 162 9 [some (.ref 84), some (.int v1), some (.int v2), some (.int v3), some (.int o4), some (.long o5), none, some (.long o7), none, some (.long o9), none, none] [] (HP I A L F E) = ((ldR [some 96, some 97, some 98, some 99, some 100, some 101] v3).bind fun a1 => ((ldL (L a1) v2).bind fun x2 => (if (lg_cmp x2 (0)) ≠ 0 then ((mm_call G0 161 [.ref 84, .int v3, .int v2, .int v1] (HP I A L F E)).bind fun q => mm_run G0 162 35 [some (.ref 84), some (.int v1), some (.int v2), some (.int v3), some (.int o4), some (.long o5), none, some (.long o7), none, some (.long o9), none, none] (q.1.toList ++ []) q.2) else mm_run G0 162 9 [some (.ref 84), some (.int v1), some (.int v2), some (.int (v3 + 1)), some (.int o4), some (.long o5), none, some (.long o7), none, some (.long o9), none, none] [] (HP I A L F E)))) := by
  refine (sg_go ht_X8_clears (k := 3) (pc' := 14) (L' := [some (.ref 84), some (.int v1), some (.int v2), some (.int v3), some (.int o4), some (.long o5), none, some (.long o7), none, some (.long o9), none, none]) (st' := [.int v3, .ref 95]) (h' := (HP I A L F E)) rfl).trans ?_
  refine (sg_ldR ht_X8_clears rfl hp_o_95).trans ?_
  refine bind_cg fun a1 ha1 => ?_
  have ha1 := in_95 ha1
  refine (sg_go ht_X8_clears (k := 1) (pc' := 16) (L' := [some (.ref 84), some (.int v1), some (.int v2), some (.int v3), some (.int o4), some (.long o5), none, some (.long o7), none, some (.long o9), none, none]) (st' := [.int v2, .ref a1]) (h' := (HP I A L F E)) rfl).trans ?_
  refine (sg_ldL ht_X8_clears rfl (sMr_obj ha1)).trans ?_
  refine bind_cg fun x2 hx2 => ?_
  refine (sg_go ht_X8_clears (k := 2) (pc' := 19) (L' := [some (.ref 84), some (.int v1), some (.int v2), some (.int v3), some (.int o4), some (.long o5), none, some (.long o7), none, some (.long o9), none, none]) (st' := [.int (lg_cmp x2 (0))]) (h' := (HP I A L F E)) rfl).trans ?_
  refine (sg_if ht_X8_clears rfl).trans ?_
  refine ite_congr rfl (fun _ => ?_) (fun _ => ?_)
  · refine (sg_go ht_X8_clears (k := 4) (pc' := 32) (L' := [some (.ref 84), some (.int v1), some (.int v2), some (.int v3), some (.int o4), some (.long o5), none, some (.long o7), none, some (.long o9), none, none]) (st' := [.int v1, .int v2, .int v3, .ref 84]) (h' := (HP I A L F E)) rfl).trans ?_
    refine (sg_call ht_X8_clears (mj := 161) (as := [.ref 84, .int v3, .int v2, .int v1]) (rest := []) rfl rfl ⟨by decide, Nat.le_of_ble_eq_true rfl⟩).trans ?_
    rfl
  · refine (sg_go ht_X8_clears (k := 2) (pc' := 9) (L' := [some (.ref 84), some (.int v1), some (.int v2), some (.int (v3 + 1)), some (.int o4), some (.long o5), none, some (.long o7), none, some (.long o9), none, none]) (st' := []) (h' := (HP I A L F E)) rfl).trans ?_
    rfl
set_option maxRecDepth 20000 in
theorem sg_X8_clears_9_v11111 {I : Nat → Int32} {A : Nat → List Int32} {L : Nat → List Int64} {F : Nat → Int64} {E : MH} (v1 : Int32) (v2 : Int32) (v3 : Int32) (o4 : Int32) (o5 : Int64) (o7 : Int64) (o9 : Int64) (o11 : Int32) : mm_run G0 162 9 [some (.ref 84), some (.int v1), some (.int v2), some (.int v3), some (.int o4), some (.long o5), none, some (.long o7), none, some (.long o9), none, some (.int o11)] [] (HP I A L F E) = ((ldR [some 96, some 97, some 98, some 99, some 100, some 101] v3).bind fun a1 => ((ldL (L a1) v2).bind fun x2 => (if (lg_cmp x2 (0)) ≠ 0 then ((mm_call G0 161 [.ref 84, .int v3, .int v2, .int v1] (HP I A L F E)).bind fun q => mm_run G0 162 35 [some (.ref 84), some (.int v1), some (.int v2), some (.int v3), some (.int o4), some (.long o5), none, some (.long o7), none, some (.long o9), none, some (.int o11)] (q.1.toList ++ []) q.2) else mm_run G0 162 9 [some (.ref 84), some (.int v1), some (.int v2), some (.int (v3 + 1)), some (.int o4), some (.long o5), none, some (.long o7), none, some (.long o9), none, some (.int o11)] [] (HP I A L F E)))) := by
  refine (sg_go ht_X8_clears (k := 3) (pc' := 14) (L' := [some (.ref 84), some (.int v1), some (.int v2), some (.int v3), some (.int o4), some (.long o5), none, some (.long o7), none, some (.long o9), none, some (.int o11)]) (st' := [.int v3, .ref 95]) (h' := (HP I A L F E)) rfl).trans ?_
  refine (sg_ldR ht_X8_clears rfl hp_o_95).trans ?_
  refine bind_cg fun a1 ha1 => ?_
  have ha1 := in_95 ha1
  refine (sg_go ht_X8_clears (k := 1) (pc' := 16) (L' := [some (.ref 84), some (.int v1), some (.int v2), some (.int v3), some (.int o4), some (.long o5), none, some (.long o7), none, some (.long o9), none, some (.int o11)]) (st' := [.int v2, .ref a1]) (h' := (HP I A L F E)) rfl).trans ?_
  refine (sg_ldL ht_X8_clears rfl (sMr_obj ha1)).trans ?_
  refine bind_cg fun x2 hx2 => ?_
  refine (sg_go ht_X8_clears (k := 2) (pc' := 19) (L' := [some (.ref 84), some (.int v1), some (.int v2), some (.int v3), some (.int o4), some (.long o5), none, some (.long o7), none, some (.long o9), none, some (.int o11)]) (st' := [.int (lg_cmp x2 (0))]) (h' := (HP I A L F E)) rfl).trans ?_
  refine (sg_if ht_X8_clears rfl).trans ?_
  refine ite_congr rfl (fun _ => ?_) (fun _ => ?_)
  · refine (sg_go ht_X8_clears (k := 4) (pc' := 32) (L' := [some (.ref 84), some (.int v1), some (.int v2), some (.int v3), some (.int o4), some (.long o5), none, some (.long o7), none, some (.long o9), none, some (.int o11)]) (st' := [.int v1, .int v2, .int v3, .ref 84]) (h' := (HP I A L F E)) rfl).trans ?_
    refine (sg_call ht_X8_clears (mj := 161) (as := [.ref 84, .int v3, .int v2, .int v1]) (rest := []) rfl rfl ⟨by decide, Nat.le_of_ble_eq_true rfl⟩).trans ?_
    rfl
  · refine (sg_go ht_X8_clears (k := 2) (pc' := 9) (L' := [some (.ref 84), some (.int v1), some (.int v2), some (.int (v3 + 1)), some (.int o4), some (.long o5), none, some (.long o7), none, some (.long o9), none, some (.int o11)]) (st' := []) (h' := (HP I A L F E)) rfl).trans ?_
    rfl
theorem sg_X8_clears_9 {I : Nat → Int32} {A : Nat → List Int32} {L : Nat → List Int64} {F : Nat → Int64} {E : MH} (v1 : Int32) (v2 : Int32) (v3 : Int32) (o4 : Option Int32) (o5 : Option Int64) (o7 : Option Int64) (o9 : Option Int64) (o11 : Option Int32) : mm_run G0 162 9 [some (.ref 84), some (.int v1), some (.int v2), some (.int v3), (o4.map Value.int), (o5.map Value.long), none, (o7.map Value.long), none, (o9.map Value.long), none, (o11.map Value.int)] [] (HP I A L F E) = ((ldR [some 96, some 97, some 98, some 99, some 100, some 101] v3).bind fun a1 => ((ldL (L a1) v2).bind fun x2 => (if (lg_cmp x2 (0)) ≠ 0 then ((mm_call G0 161 [.ref 84, .int v3, .int v2, .int v1] (HP I A L F E)).bind fun q => mm_run G0 162 35 [some (.ref 84), some (.int v1), some (.int v2), some (.int v3), (o4.map Value.int), (o5.map Value.long), none, (o7.map Value.long), none, (o9.map Value.long), none, (o11.map Value.int)] (q.1.toList ++ []) q.2) else mm_run G0 162 9 [some (.ref 84), some (.int v1), some (.int v2), some (.int (v3 + 1)), (o4.map Value.int), (o5.map Value.long), none, (o7.map Value.long), none, (o9.map Value.long), none, (o11.map Value.int)] [] (HP I A L F E)))) := by
  match o4, o5, o7, o9, o11 with
  | none, none, none, none, none => exact sg_X8_clears_9_v00000 v1 v2 v3
  | none, none, none, none, some o11 => exact sg_X8_clears_9_v00001 v1 v2 v3 o11
  | none, none, none, some o9, none => exact sg_X8_clears_9_v00010 v1 v2 v3 o9
  | none, none, none, some o9, some o11 => exact sg_X8_clears_9_v00011 v1 v2 v3 o9 o11
  | none, none, some o7, none, none => exact sg_X8_clears_9_v00100 v1 v2 v3 o7
  | none, none, some o7, none, some o11 => exact sg_X8_clears_9_v00101 v1 v2 v3 o7 o11
  | none, none, some o7, some o9, none => exact sg_X8_clears_9_v00110 v1 v2 v3 o7 o9
  | none, none, some o7, some o9, some o11 => exact sg_X8_clears_9_v00111 v1 v2 v3 o7 o9 o11
  | none, some o5, none, none, none => exact sg_X8_clears_9_v01000 v1 v2 v3 o5
  | none, some o5, none, none, some o11 => exact sg_X8_clears_9_v01001 v1 v2 v3 o5 o11
  | none, some o5, none, some o9, none => exact sg_X8_clears_9_v01010 v1 v2 v3 o5 o9
  | none, some o5, none, some o9, some o11 => exact sg_X8_clears_9_v01011 v1 v2 v3 o5 o9 o11
  | none, some o5, some o7, none, none => exact sg_X8_clears_9_v01100 v1 v2 v3 o5 o7
  | none, some o5, some o7, none, some o11 => exact sg_X8_clears_9_v01101 v1 v2 v3 o5 o7 o11
  | none, some o5, some o7, some o9, none => exact sg_X8_clears_9_v01110 v1 v2 v3 o5 o7 o9
  | none, some o5, some o7, some o9, some o11 => exact sg_X8_clears_9_v01111 v1 v2 v3 o5 o7 o9 o11
  | some o4, none, none, none, none => exact sg_X8_clears_9_v10000 v1 v2 v3 o4
  | some o4, none, none, none, some o11 => exact sg_X8_clears_9_v10001 v1 v2 v3 o4 o11
  | some o4, none, none, some o9, none => exact sg_X8_clears_9_v10010 v1 v2 v3 o4 o9
  | some o4, none, none, some o9, some o11 => exact sg_X8_clears_9_v10011 v1 v2 v3 o4 o9 o11
  | some o4, none, some o7, none, none => exact sg_X8_clears_9_v10100 v1 v2 v3 o4 o7
  | some o4, none, some o7, none, some o11 => exact sg_X8_clears_9_v10101 v1 v2 v3 o4 o7 o11
  | some o4, none, some o7, some o9, none => exact sg_X8_clears_9_v10110 v1 v2 v3 o4 o7 o9
  | some o4, none, some o7, some o9, some o11 => exact sg_X8_clears_9_v10111 v1 v2 v3 o4 o7 o9 o11
  | some o4, some o5, none, none, none => exact sg_X8_clears_9_v11000 v1 v2 v3 o4 o5
  | some o4, some o5, none, none, some o11 => exact sg_X8_clears_9_v11001 v1 v2 v3 o4 o5 o11
  | some o4, some o5, none, some o9, none => exact sg_X8_clears_9_v11010 v1 v2 v3 o4 o5 o9
  | some o4, some o5, none, some o9, some o11 => exact sg_X8_clears_9_v11011 v1 v2 v3 o4 o5 o9 o11
  | some o4, some o5, some o7, none, none => exact sg_X8_clears_9_v11100 v1 v2 v3 o4 o5 o7
  | some o4, some o5, some o7, none, some o11 => exact sg_X8_clears_9_v11101 v1 v2 v3 o4 o5 o7 o11
  | some o4, some o5, some o7, some o9, none => exact sg_X8_clears_9_v11110 v1 v2 v3 o4 o5 o7 o9
  | some o4, some o5, some o7, some o9, some o11 => exact sg_X8_clears_9_v11111 v1 v2 v3 o4 o5 o7 o9 o11
set_option maxRecDepth 20000 in
theorem sg_X8_clears_35_v00000 {I : Nat → Int32} {A : Nat → List Int32} {L : Nat → List Int64} {F : Nat → Int64} {E : MH} (v1 : Int32) (v2 : Int32) (v3 : Int32) : mm_run G0 162 35 [some (.ref 84), some (.int v1), some (.int v2), some (.int v3), none, none, none, none, none, none, none, none] [] (HP I A L F E) = mm_run G0 162 38 [some (.ref 84), some (.int v1), some (.int v2), some (.int v3), some (.int 0), none, none, none, none, none, none, none] [] (HP I A L F E) := by
  refine (sg_go ht_X8_clears (k := 2) (pc' := 38) (L' := [some (.ref 84), some (.int v1), some (.int v2), some (.int v3), some (.int 0), none, none, none, none, none, none, none]) (st' := []) (h' := (HP I A L F E)) rfl).trans ?_
  rfl
set_option maxRecDepth 20000 in
theorem sg_X8_clears_35_v00001 {I : Nat → Int32} {A : Nat → List Int32} {L : Nat → List Int64} {F : Nat → Int64} {E : MH} (v1 : Int32) (v2 : Int32) (v3 : Int32) (o11 : Int32) : mm_run G0 162 35 [some (.ref 84), some (.int v1), some (.int v2), some (.int v3), none, none, none, none, none, none, none, some (.int o11)] [] (HP I A L F E) = mm_run G0 162 38 [some (.ref 84), some (.int v1), some (.int v2), some (.int v3), some (.int 0), none, none, none, none, none, none, some (.int o11)] [] (HP I A L F E) := by
  refine (sg_go ht_X8_clears (k := 2) (pc' := 38) (L' := [some (.ref 84), some (.int v1), some (.int v2), some (.int v3), some (.int 0), none, none, none, none, none, none, some (.int o11)]) (st' := []) (h' := (HP I A L F E)) rfl).trans ?_
  rfl
set_option maxRecDepth 20000 in
theorem sg_X8_clears_35_v00010 {I : Nat → Int32} {A : Nat → List Int32} {L : Nat → List Int64} {F : Nat → Int64} {E : MH} (v1 : Int32) (v2 : Int32) (v3 : Int32) (o9 : Int64) : mm_run G0 162 35 [some (.ref 84), some (.int v1), some (.int v2), some (.int v3), none, none, none, none, none, some (.long o9), none, none] [] (HP I A L F E) = mm_run G0 162 38 [some (.ref 84), some (.int v1), some (.int v2), some (.int v3), some (.int 0), none, none, none, none, some (.long o9), none, none] [] (HP I A L F E) := by
  refine (sg_go ht_X8_clears (k := 2) (pc' := 38) (L' := [some (.ref 84), some (.int v1), some (.int v2), some (.int v3), some (.int 0), none, none, none, none, some (.long o9), none, none]) (st' := []) (h' := (HP I A L F E)) rfl).trans ?_
  rfl
set_option maxRecDepth 20000 in
theorem sg_X8_clears_35_v00011 {I : Nat → Int32} {A : Nat → List Int32} {L : Nat → List Int64} {F : Nat → Int64} {E : MH} (v1 : Int32) (v2 : Int32) (v3 : Int32) (o9 : Int64) (o11 : Int32) : mm_run G0 162 35 [some (.ref 84), some (.int v1), some (.int v2), some (.int v3), none, none, none, none, none, some (.long o9), none, some (.int o11)] [] (HP I A L F E) = mm_run G0 162 38 [some (.ref 84), some (.int v1), some (.int v2), some (.int v3), some (.int 0), none, none, none, none, some (.long o9), none, some (.int o11)] [] (HP I A L F E) := by
  refine (sg_go ht_X8_clears (k := 2) (pc' := 38) (L' := [some (.ref 84), some (.int v1), some (.int v2), some (.int v3), some (.int 0), none, none, none, none, some (.long o9), none, some (.int o11)]) (st' := []) (h' := (HP I A L F E)) rfl).trans ?_
  rfl
set_option maxRecDepth 20000 in
theorem sg_X8_clears_35_v00100 {I : Nat → Int32} {A : Nat → List Int32} {L : Nat → List Int64} {F : Nat → Int64} {E : MH} (v1 : Int32) (v2 : Int32) (v3 : Int32) (o7 : Int64) : mm_run G0 162 35 [some (.ref 84), some (.int v1), some (.int v2), some (.int v3), none, none, none, some (.long o7), none, none, none, none] [] (HP I A L F E) = mm_run G0 162 38 [some (.ref 84), some (.int v1), some (.int v2), some (.int v3), some (.int 0), none, none, some (.long o7), none, none, none, none] [] (HP I A L F E) := by
  refine (sg_go ht_X8_clears (k := 2) (pc' := 38) (L' := [some (.ref 84), some (.int v1), some (.int v2), some (.int v3), some (.int 0), none, none, some (.long o7), none, none, none, none]) (st' := []) (h' := (HP I A L F E)) rfl).trans ?_
  rfl
set_option maxRecDepth 20000 in
theorem sg_X8_clears_35_v00101 {I : Nat → Int32} {A : Nat → List Int32} {L : Nat → List Int64} {F : Nat → Int64} {E : MH} (v1 : Int32) (v2 : Int32) (v3 : Int32) (o7 : Int64) (o11 : Int32) : mm_run G0 162 35 [some (.ref 84), some (.int v1), some (.int v2), some (.int v3), none, none, none, some (.long o7), none, none, none, some (.int o11)] [] (HP I A L F E) = mm_run G0 162 38 [some (.ref 84), some (.int v1), some (.int v2), some (.int v3), some (.int 0), none, none, some (.long o7), none, none, none, some (.int o11)] [] (HP I A L F E) := by
  refine (sg_go ht_X8_clears (k := 2) (pc' := 38) (L' := [some (.ref 84), some (.int v1), some (.int v2), some (.int v3), some (.int 0), none, none, some (.long o7), none, none, none, some (.int o11)]) (st' := []) (h' := (HP I A L F E)) rfl).trans ?_
  rfl
set_option maxRecDepth 20000 in
theorem sg_X8_clears_35_v00110 {I : Nat → Int32} {A : Nat → List Int32} {L : Nat → List Int64} {F : Nat → Int64} {E : MH} (v1 : Int32) (v2 : Int32) (v3 : Int32) (o7 : Int64) (o9 : Int64) : mm_run G0 162 35 [some (.ref 84), some (.int v1), some (.int v2), some (.int v3), none, none, none, some (.long o7), none, some (.long o9), none, none] [] (HP I A L F E) = mm_run G0 162 38 [some (.ref 84), some (.int v1), some (.int v2), some (.int v3), some (.int 0), none, none, some (.long o7), none, some (.long o9), none, none] [] (HP I A L F E) := by
  refine (sg_go ht_X8_clears (k := 2) (pc' := 38) (L' := [some (.ref 84), some (.int v1), some (.int v2), some (.int v3), some (.int 0), none, none, some (.long o7), none, some (.long o9), none, none]) (st' := []) (h' := (HP I A L F E)) rfl).trans ?_
  rfl
set_option maxRecDepth 20000 in
theorem sg_X8_clears_35_v00111 {I : Nat → Int32} {A : Nat → List Int32} {L : Nat → List Int64} {F : Nat → Int64} {E : MH} (v1 : Int32) (v2 : Int32) (v3 : Int32) (o7 : Int64) (o9 : Int64) (o11 : Int32) : mm_run G0 162 35 [some (.ref 84), some (.int v1), some (.int v2), some (.int v3), none, none, none, some (.long o7), none, some (.long o9), none, some (.int o11)] [] (HP I A L F E) = mm_run G0 162 38 [some (.ref 84), some (.int v1), some (.int v2), some (.int v3), some (.int 0), none, none, some (.long o7), none, some (.long o9), none, some (.int o11)] [] (HP I A L F E) := by
  refine (sg_go ht_X8_clears (k := 2) (pc' := 38) (L' := [some (.ref 84), some (.int v1), some (.int v2), some (.int v3), some (.int 0), none, none, some (.long o7), none, some (.long o9), none, some (.int o11)]) (st' := []) (h' := (HP I A L F E)) rfl).trans ?_
  rfl
set_option maxRecDepth 20000 in
theorem sg_X8_clears_35_v01000 {I : Nat → Int32} {A : Nat → List Int32} {L : Nat → List Int64} {F : Nat → Int64} {E : MH} (v1 : Int32) (v2 : Int32) (v3 : Int32) (o5 : Int64) : mm_run G0 162 35 [some (.ref 84), some (.int v1), some (.int v2), some (.int v3), none, some (.long o5), none, none, none, none, none, none] [] (HP I A L F E) = mm_run G0 162 38 [some (.ref 84), some (.int v1), some (.int v2), some (.int v3), some (.int 0), some (.long o5), none, none, none, none, none, none] [] (HP I A L F E) := by
  refine (sg_go ht_X8_clears (k := 2) (pc' := 38) (L' := [some (.ref 84), some (.int v1), some (.int v2), some (.int v3), some (.int 0), some (.long o5), none, none, none, none, none, none]) (st' := []) (h' := (HP I A L F E)) rfl).trans ?_
  rfl
set_option maxRecDepth 20000 in
theorem sg_X8_clears_35_v01001 {I : Nat → Int32} {A : Nat → List Int32} {L : Nat → List Int64} {F : Nat → Int64} {E : MH} (v1 : Int32) (v2 : Int32) (v3 : Int32) (o5 : Int64) (o11 : Int32) : mm_run G0 162 35 [some (.ref 84), some (.int v1), some (.int v2), some (.int v3), none, some (.long o5), none, none, none, none, none, some (.int o11)] [] (HP I A L F E) = mm_run G0 162 38 [some (.ref 84), some (.int v1), some (.int v2), some (.int v3), some (.int 0), some (.long o5), none, none, none, none, none, some (.int o11)] [] (HP I A L F E) := by
  refine (sg_go ht_X8_clears (k := 2) (pc' := 38) (L' := [some (.ref 84), some (.int v1), some (.int v2), some (.int v3), some (.int 0), some (.long o5), none, none, none, none, none, some (.int o11)]) (st' := []) (h' := (HP I A L F E)) rfl).trans ?_
  rfl
set_option maxRecDepth 20000 in
theorem sg_X8_clears_35_v01010 {I : Nat → Int32} {A : Nat → List Int32} {L : Nat → List Int64} {F : Nat → Int64} {E : MH} (v1 : Int32) (v2 : Int32) (v3 : Int32) (o5 : Int64) (o9 : Int64) : mm_run G0 162 35 [some (.ref 84), some (.int v1), some (.int v2), some (.int v3), none, some (.long o5), none, none, none, some (.long o9), none, none] [] (HP I A L F E) = mm_run G0 162 38 [some (.ref 84), some (.int v1), some (.int v2), some (.int v3), some (.int 0), some (.long o5), none, none, none, some (.long o9), none, none] [] (HP I A L F E) := by
  refine (sg_go ht_X8_clears (k := 2) (pc' := 38) (L' := [some (.ref 84), some (.int v1), some (.int v2), some (.int v3), some (.int 0), some (.long o5), none, none, none, some (.long o9), none, none]) (st' := []) (h' := (HP I A L F E)) rfl).trans ?_
  rfl
set_option maxRecDepth 20000 in
theorem sg_X8_clears_35_v01011 {I : Nat → Int32} {A : Nat → List Int32} {L : Nat → List Int64} {F : Nat → Int64} {E : MH} (v1 : Int32) (v2 : Int32) (v3 : Int32) (o5 : Int64) (o9 : Int64) (o11 : Int32) : mm_run G0 162 35 [some (.ref 84), some (.int v1), some (.int v2), some (.int v3), none, some (.long o5), none, none, none, some (.long o9), none, some (.int o11)] [] (HP I A L F E) = mm_run G0 162 38 [some (.ref 84), some (.int v1), some (.int v2), some (.int v3), some (.int 0), some (.long o5), none, none, none, some (.long o9), none, some (.int o11)] [] (HP I A L F E) := by
  refine (sg_go ht_X8_clears (k := 2) (pc' := 38) (L' := [some (.ref 84), some (.int v1), some (.int v2), some (.int v3), some (.int 0), some (.long o5), none, none, none, some (.long o9), none, some (.int o11)]) (st' := []) (h' := (HP I A L F E)) rfl).trans ?_
  rfl
set_option maxRecDepth 20000 in
theorem sg_X8_clears_35_v01100 {I : Nat → Int32} {A : Nat → List Int32} {L : Nat → List Int64} {F : Nat → Int64} {E : MH} (v1 : Int32) (v2 : Int32) (v3 : Int32) (o5 : Int64) (o7 : Int64) : mm_run G0 162 35 [some (.ref 84), some (.int v1), some (.int v2), some (.int v3), none, some (.long o5), none, some (.long o7), none, none, none, none] [] (HP I A L F E) = mm_run G0 162 38 [some (.ref 84), some (.int v1), some (.int v2), some (.int v3), some (.int 0), some (.long o5), none, some (.long o7), none, none, none, none] [] (HP I A L F E) := by
  refine (sg_go ht_X8_clears (k := 2) (pc' := 38) (L' := [some (.ref 84), some (.int v1), some (.int v2), some (.int v3), some (.int 0), some (.long o5), none, some (.long o7), none, none, none, none]) (st' := []) (h' := (HP I A L F E)) rfl).trans ?_
  rfl
set_option maxRecDepth 20000 in
theorem sg_X8_clears_35_v01101 {I : Nat → Int32} {A : Nat → List Int32} {L : Nat → List Int64} {F : Nat → Int64} {E : MH} (v1 : Int32) (v2 : Int32) (v3 : Int32) (o5 : Int64) (o7 : Int64) (o11 : Int32) : mm_run G0 162 35 [some (.ref 84), some (.int v1), some (.int v2), some (.int v3), none, some (.long o5), none, some (.long o7), none, none, none, some (.int o11)] [] (HP I A L F E) = mm_run G0 162 38 [some (.ref 84), some (.int v1), some (.int v2), some (.int v3), some (.int 0), some (.long o5), none, some (.long o7), none, none, none, some (.int o11)] [] (HP I A L F E) := by
  refine (sg_go ht_X8_clears (k := 2) (pc' := 38) (L' := [some (.ref 84), some (.int v1), some (.int v2), some (.int v3), some (.int 0), some (.long o5), none, some (.long o7), none, none, none, some (.int o11)]) (st' := []) (h' := (HP I A L F E)) rfl).trans ?_
  rfl
set_option maxRecDepth 20000 in
theorem sg_X8_clears_35_v01110 {I : Nat → Int32} {A : Nat → List Int32} {L : Nat → List Int64} {F : Nat → Int64} {E : MH} (v1 : Int32) (v2 : Int32) (v3 : Int32) (o5 : Int64) (o7 : Int64) (o9 : Int64) : mm_run G0 162 35 [some (.ref 84), some (.int v1), some (.int v2), some (.int v3), none, some (.long o5), none, some (.long o7), none, some (.long o9), none, none] [] (HP I A L F E) = mm_run G0 162 38 [some (.ref 84), some (.int v1), some (.int v2), some (.int v3), some (.int 0), some (.long o5), none, some (.long o7), none, some (.long o9), none, none] [] (HP I A L F E) := by
  refine (sg_go ht_X8_clears (k := 2) (pc' := 38) (L' := [some (.ref 84), some (.int v1), some (.int v2), some (.int v3), some (.int 0), some (.long o5), none, some (.long o7), none, some (.long o9), none, none]) (st' := []) (h' := (HP I A L F E)) rfl).trans ?_
  rfl
set_option maxRecDepth 20000 in
theorem sg_X8_clears_35_v01111 {I : Nat → Int32} {A : Nat → List Int32} {L : Nat → List Int64} {F : Nat → Int64} {E : MH} (v1 : Int32) (v2 : Int32) (v3 : Int32) (o5 : Int64) (o7 : Int64) (o9 : Int64) (o11 : Int32) : mm_run G0 162 35 [some (.ref 84), some (.int v1), some (.int v2), some (.int v3), none, some (.long o5), none, some (.long o7), none, some (.long o9), none, some (.int o11)] [] (HP I A L F E) = mm_run G0 162 38 [some (.ref 84), some (.int v1), some (.int v2), some (.int v3), some (.int 0), some (.long o5), none, some (.long o7), none, some (.long o9), none, some (.int o11)] [] (HP I A L F E) := by
  refine (sg_go ht_X8_clears (k := 2) (pc' := 38) (L' := [some (.ref 84), some (.int v1), some (.int v2), some (.int v3), some (.int 0), some (.long o5), none, some (.long o7), none, some (.long o9), none, some (.int o11)]) (st' := []) (h' := (HP I A L F E)) rfl).trans ?_
  rfl
set_option maxRecDepth 20000 in
theorem sg_X8_clears_35_v10000 {I : Nat → Int32} {A : Nat → List Int32} {L : Nat → List Int64} {F : Nat → Int64} {E : MH} (v1 : Int32) (v2 : Int32) (v3 : Int32) (o4 : Int32) : mm_run G0 162 35 [some (.ref 84), some (.int v1), some (.int v2), some (.int v3), some (.int o4), none, none, none, none, none, none, none] [] (HP I A L F E) = mm_run G0 162 38 [some (.ref 84), some (.int v1), some (.int v2), some (.int v3), some (.int 0), none, none, none, none, none, none, none] [] (HP I A L F E) := by
  refine (sg_go ht_X8_clears (k := 2) (pc' := 38) (L' := [some (.ref 84), some (.int v1), some (.int v2), some (.int v3), some (.int 0), none, none, none, none, none, none, none]) (st' := []) (h' := (HP I A L F E)) rfl).trans ?_
  rfl
set_option maxRecDepth 20000 in
theorem sg_X8_clears_35_v10001 {I : Nat → Int32} {A : Nat → List Int32} {L : Nat → List Int64} {F : Nat → Int64} {E : MH} (v1 : Int32) (v2 : Int32) (v3 : Int32) (o4 : Int32) (o11 : Int32) : mm_run G0 162 35 [some (.ref 84), some (.int v1), some (.int v2), some (.int v3), some (.int o4), none, none, none, none, none, none, some (.int o11)] [] (HP I A L F E) = mm_run G0 162 38 [some (.ref 84), some (.int v1), some (.int v2), some (.int v3), some (.int 0), none, none, none, none, none, none, some (.int o11)] [] (HP I A L F E) := by
  refine (sg_go ht_X8_clears (k := 2) (pc' := 38) (L' := [some (.ref 84), some (.int v1), some (.int v2), some (.int v3), some (.int 0), none, none, none, none, none, none, some (.int o11)]) (st' := []) (h' := (HP I A L F E)) rfl).trans ?_
  rfl
set_option maxRecDepth 20000 in
theorem sg_X8_clears_35_v10010 {I : Nat → Int32} {A : Nat → List Int32} {L : Nat → List Int64} {F : Nat → Int64} {E : MH} (v1 : Int32) (v2 : Int32) (v3 : Int32) (o4 : Int32) (o9 : Int64) : mm_run G0 162 35 [some (.ref 84), some (.int v1), some (.int v2), some (.int v3), some (.int o4), none, none, none, none, some (.long o9), none, none] [] (HP I A L F E) = mm_run G0 162 38 [some (.ref 84), some (.int v1), some (.int v2), some (.int v3), some (.int 0), none, none, none, none, some (.long o9), none, none] [] (HP I A L F E) := by
  refine (sg_go ht_X8_clears (k := 2) (pc' := 38) (L' := [some (.ref 84), some (.int v1), some (.int v2), some (.int v3), some (.int 0), none, none, none, none, some (.long o9), none, none]) (st' := []) (h' := (HP I A L F E)) rfl).trans ?_
  rfl
set_option maxRecDepth 20000 in
theorem sg_X8_clears_35_v10011 {I : Nat → Int32} {A : Nat → List Int32} {L : Nat → List Int64} {F : Nat → Int64} {E : MH} (v1 : Int32) (v2 : Int32) (v3 : Int32) (o4 : Int32) (o9 : Int64) (o11 : Int32) : mm_run G0 162 35 [some (.ref 84), some (.int v1), some (.int v2), some (.int v3), some (.int o4), none, none, none, none, some (.long o9), none, some (.int o11)] [] (HP I A L F E) = mm_run G0 162 38 [some (.ref 84), some (.int v1), some (.int v2), some (.int v3), some (.int 0), none, none, none, none, some (.long o9), none, some (.int o11)] [] (HP I A L F E) := by
  refine (sg_go ht_X8_clears (k := 2) (pc' := 38) (L' := [some (.ref 84), some (.int v1), some (.int v2), some (.int v3), some (.int 0), none, none, none, none, some (.long o9), none, some (.int o11)]) (st' := []) (h' := (HP I A L F E)) rfl).trans ?_
  rfl
set_option maxRecDepth 20000 in
theorem sg_X8_clears_35_v10100 {I : Nat → Int32} {A : Nat → List Int32} {L : Nat → List Int64} {F : Nat → Int64} {E : MH} (v1 : Int32) (v2 : Int32) (v3 : Int32) (o4 : Int32) (o7 : Int64) : mm_run G0 162 35 [some (.ref 84), some (.int v1), some (.int v2), some (.int v3), some (.int o4), none, none, some (.long o7), none, none, none, none] [] (HP I A L F E) = mm_run G0 162 38 [some (.ref 84), some (.int v1), some (.int v2), some (.int v3), some (.int 0), none, none, some (.long o7), none, none, none, none] [] (HP I A L F E) := by
  refine (sg_go ht_X8_clears (k := 2) (pc' := 38) (L' := [some (.ref 84), some (.int v1), some (.int v2), some (.int v3), some (.int 0), none, none, some (.long o7), none, none, none, none]) (st' := []) (h' := (HP I A L F E)) rfl).trans ?_
  rfl
set_option maxRecDepth 20000 in
theorem sg_X8_clears_35_v10101 {I : Nat → Int32} {A : Nat → List Int32} {L : Nat → List Int64} {F : Nat → Int64} {E : MH} (v1 : Int32) (v2 : Int32) (v3 : Int32) (o4 : Int32) (o7 : Int64) (o11 : Int32) : mm_run G0 162 35 [some (.ref 84), some (.int v1), some (.int v2), some (.int v3), some (.int o4), none, none, some (.long o7), none, none, none, some (.int o11)] [] (HP I A L F E) = mm_run G0 162 38 [some (.ref 84), some (.int v1), some (.int v2), some (.int v3), some (.int 0), none, none, some (.long o7), none, none, none, some (.int o11)] [] (HP I A L F E) := by
  refine (sg_go ht_X8_clears (k := 2) (pc' := 38) (L' := [some (.ref 84), some (.int v1), some (.int v2), some (.int v3), some (.int 0), none, none, some (.long o7), none, none, none, some (.int o11)]) (st' := []) (h' := (HP I A L F E)) rfl).trans ?_
  rfl
set_option maxRecDepth 20000 in
theorem sg_X8_clears_35_v10110 {I : Nat → Int32} {A : Nat → List Int32} {L : Nat → List Int64} {F : Nat → Int64} {E : MH} (v1 : Int32) (v2 : Int32) (v3 : Int32) (o4 : Int32) (o7 : Int64) (o9 : Int64) : mm_run G0 162 35 [some (.ref 84), some (.int v1), some (.int v2), some (.int v3), some (.int o4), none, none, some (.long o7), none, some (.long o9), none, none] [] (HP I A L F E) = mm_run G0 162 38 [some (.ref 84), some (.int v1), some (.int v2), some (.int v3), some (.int 0), none, none, some (.long o7), none, some (.long o9), none, none] [] (HP I A L F E) := by
  refine (sg_go ht_X8_clears (k := 2) (pc' := 38) (L' := [some (.ref 84), some (.int v1), some (.int v2), some (.int v3), some (.int 0), none, none, some (.long o7), none, some (.long o9), none, none]) (st' := []) (h' := (HP I A L F E)) rfl).trans ?_
  rfl
set_option maxRecDepth 20000 in
theorem sg_X8_clears_35_v10111 {I : Nat → Int32} {A : Nat → List Int32} {L : Nat → List Int64} {F : Nat → Int64} {E : MH} (v1 : Int32) (v2 : Int32) (v3 : Int32) (o4 : Int32) (o7 : Int64) (o9 : Int64) (o11 : Int32) : mm_run G0 162 35 [some (.ref 84), some (.int v1), some (.int v2), some (.int v3), some (.int o4), none, none, some (.long o7), none, some (.long o9), none, some (.int o11)] [] (HP I A L F E) = mm_run G0 162 38 [some (.ref 84), some (.int v1), some (.int v2), some (.int v3), some (.int 0), none, none, some (.long o7), none, some (.long o9), none, some (.int o11)] [] (HP I A L F E) := by
  refine (sg_go ht_X8_clears (k := 2) (pc' := 38) (L' := [some (.ref 84), some (.int v1), some (.int v2), some (.int v3), some (.int 0), none, none, some (.long o7), none, some (.long o9), none, some (.int o11)]) (st' := []) (h' := (HP I A L F E)) rfl).trans ?_
  rfl
set_option maxRecDepth 20000 in
theorem sg_X8_clears_35_v11000 {I : Nat → Int32} {A : Nat → List Int32} {L : Nat → List Int64} {F : Nat → Int64} {E : MH} (v1 : Int32) (v2 : Int32) (v3 : Int32) (o4 : Int32) (o5 : Int64) : mm_run G0 162 35 [some (.ref 84), some (.int v1), some (.int v2), some (.int v3), some (.int o4), some (.long o5), none, none, none, none, none, none] [] (HP I A L F E) = mm_run G0 162 38 [some (.ref 84), some (.int v1), some (.int v2), some (.int v3), some (.int 0), some (.long o5), none, none, none, none, none, none] [] (HP I A L F E) := by
  refine (sg_go ht_X8_clears (k := 2) (pc' := 38) (L' := [some (.ref 84), some (.int v1), some (.int v2), some (.int v3), some (.int 0), some (.long o5), none, none, none, none, none, none]) (st' := []) (h' := (HP I A L F E)) rfl).trans ?_
  rfl
set_option maxRecDepth 20000 in
theorem sg_X8_clears_35_v11001 {I : Nat → Int32} {A : Nat → List Int32} {L : Nat → List Int64} {F : Nat → Int64} {E : MH} (v1 : Int32) (v2 : Int32) (v3 : Int32) (o4 : Int32) (o5 : Int64) (o11 : Int32) : mm_run G0 162 35 [some (.ref 84), some (.int v1), some (.int v2), some (.int v3), some (.int o4), some (.long o5), none, none, none, none, none, some (.int o11)] [] (HP I A L F E) = mm_run G0 162 38 [some (.ref 84), some (.int v1), some (.int v2), some (.int v3), some (.int 0), some (.long o5), none, none, none, none, none, some (.int o11)] [] (HP I A L F E) := by
  refine (sg_go ht_X8_clears (k := 2) (pc' := 38) (L' := [some (.ref 84), some (.int v1), some (.int v2), some (.int v3), some (.int 0), some (.long o5), none, none, none, none, none, some (.int o11)]) (st' := []) (h' := (HP I A L F E)) rfl).trans ?_
  rfl
set_option maxRecDepth 20000 in
theorem sg_X8_clears_35_v11010 {I : Nat → Int32} {A : Nat → List Int32} {L : Nat → List Int64} {F : Nat → Int64} {E : MH} (v1 : Int32) (v2 : Int32) (v3 : Int32) (o4 : Int32) (o5 : Int64) (o9 : Int64) : mm_run G0 162 35 [some (.ref 84), some (.int v1), some (.int v2), some (.int v3), some (.int o4), some (.long o5), none, none, none, some (.long o9), none, none] [] (HP I A L F E) = mm_run G0 162 38 [some (.ref 84), some (.int v1), some (.int v2), some (.int v3), some (.int 0), some (.long o5), none, none, none, some (.long o9), none, none] [] (HP I A L F E) := by
  refine (sg_go ht_X8_clears (k := 2) (pc' := 38) (L' := [some (.ref 84), some (.int v1), some (.int v2), some (.int v3), some (.int 0), some (.long o5), none, none, none, some (.long o9), none, none]) (st' := []) (h' := (HP I A L F E)) rfl).trans ?_
  rfl
set_option maxRecDepth 20000 in
theorem sg_X8_clears_35_v11011 {I : Nat → Int32} {A : Nat → List Int32} {L : Nat → List Int64} {F : Nat → Int64} {E : MH} (v1 : Int32) (v2 : Int32) (v3 : Int32) (o4 : Int32) (o5 : Int64) (o9 : Int64) (o11 : Int32) : mm_run G0 162 35 [some (.ref 84), some (.int v1), some (.int v2), some (.int v3), some (.int o4), some (.long o5), none, none, none, some (.long o9), none, some (.int o11)] [] (HP I A L F E) = mm_run G0 162 38 [some (.ref 84), some (.int v1), some (.int v2), some (.int v3), some (.int 0), some (.long o5), none, none, none, some (.long o9), none, some (.int o11)] [] (HP I A L F E) := by
  refine (sg_go ht_X8_clears (k := 2) (pc' := 38) (L' := [some (.ref 84), some (.int v1), some (.int v2), some (.int v3), some (.int 0), some (.long o5), none, none, none, some (.long o9), none, some (.int o11)]) (st' := []) (h' := (HP I A L F E)) rfl).trans ?_
  rfl
set_option maxRecDepth 20000 in
theorem sg_X8_clears_35_v11100 {I : Nat → Int32} {A : Nat → List Int32} {L : Nat → List Int64} {F : Nat → Int64} {E : MH} (v1 : Int32) (v2 : Int32) (v3 : Int32) (o4 : Int32) (o5 : Int64) (o7 : Int64) : mm_run G0 162 35 [some (.ref 84), some (.int v1), some (.int v2), some (.int v3), some (.int o4), some (.long o5), none, some (.long o7), none, none, none, none] [] (HP I A L F E) = mm_run G0 162 38 [some (.ref 84), some (.int v1), some (.int v2), some (.int v3), some (.int 0), some (.long o5), none, some (.long o7), none, none, none, none] [] (HP I A L F E) := by
  refine (sg_go ht_X8_clears (k := 2) (pc' := 38) (L' := [some (.ref 84), some (.int v1), some (.int v2), some (.int v3), some (.int 0), some (.long o5), none, some (.long o7), none, none, none, none]) (st' := []) (h' := (HP I A L F E)) rfl).trans ?_
  rfl
set_option maxRecDepth 20000 in
theorem sg_X8_clears_35_v11101 {I : Nat → Int32} {A : Nat → List Int32} {L : Nat → List Int64} {F : Nat → Int64} {E : MH} (v1 : Int32) (v2 : Int32) (v3 : Int32) (o4 : Int32) (o5 : Int64) (o7 : Int64) (o11 : Int32) : mm_run G0 162 35 [some (.ref 84), some (.int v1), some (.int v2), some (.int v3), some (.int o4), some (.long o5), none, some (.long o7), none, none, none, some (.int o11)] [] (HP I A L F E) = mm_run G0 162 38 [some (.ref 84), some (.int v1), some (.int v2), some (.int v3), some (.int 0), some (.long o5), none, some (.long o7), none, none, none, some (.int o11)] [] (HP I A L F E) := by
  refine (sg_go ht_X8_clears (k := 2) (pc' := 38) (L' := [some (.ref 84), some (.int v1), some (.int v2), some (.int v3), some (.int 0), some (.long o5), none, some (.long o7), none, none, none, some (.int o11)]) (st' := []) (h' := (HP I A L F E)) rfl).trans ?_
  rfl
set_option maxRecDepth 20000 in
theorem sg_X8_clears_35_v11110 {I : Nat → Int32} {A : Nat → List Int32} {L : Nat → List Int64} {F : Nat → Int64} {E : MH} (v1 : Int32) (v2 : Int32) (v3 : Int32) (o4 : Int32) (o5 : Int64) (o7 : Int64) (o9 : Int64) : mm_run G0 162 35 [some (.ref 84), some (.int v1), some (.int v2), some (.int v3), some (.int o4), some (.long o5), none, some (.long o7), none, some (.long o9), none, none] [] (HP I A L F E) = mm_run G0 162 38 [some (.ref 84), some (.int v1), some (.int v2), some (.int v3), some (.int 0), some (.long o5), none, some (.long o7), none, some (.long o9), none, none] [] (HP I A L F E) := by
  refine (sg_go ht_X8_clears (k := 2) (pc' := 38) (L' := [some (.ref 84), some (.int v1), some (.int v2), some (.int v3), some (.int 0), some (.long o5), none, some (.long o7), none, some (.long o9), none, none]) (st' := []) (h' := (HP I A L F E)) rfl).trans ?_
  rfl
set_option maxRecDepth 20000 in
theorem sg_X8_clears_35_v11111 {I : Nat → Int32} {A : Nat → List Int32} {L : Nat → List Int64} {F : Nat → Int64} {E : MH} (v1 : Int32) (v2 : Int32) (v3 : Int32) (o4 : Int32) (o5 : Int64) (o7 : Int64) (o9 : Int64) (o11 : Int32) : mm_run G0 162 35 [some (.ref 84), some (.int v1), some (.int v2), some (.int v3), some (.int o4), some (.long o5), none, some (.long o7), none, some (.long o9), none, some (.int o11)] [] (HP I A L F E) = mm_run G0 162 38 [some (.ref 84), some (.int v1), some (.int v2), some (.int v3), some (.int 0), some (.long o5), none, some (.long o7), none, some (.long o9), none, some (.int o11)] [] (HP I A L F E) := by
  refine (sg_go ht_X8_clears (k := 2) (pc' := 38) (L' := [some (.ref 84), some (.int v1), some (.int v2), some (.int v3), some (.int 0), some (.long o5), none, some (.long o7), none, some (.long o9), none, some (.int o11)]) (st' := []) (h' := (HP I A L F E)) rfl).trans ?_
  rfl
theorem sg_X8_clears_35 {I : Nat → Int32} {A : Nat → List Int32} {L : Nat → List Int64} {F : Nat → Int64} {E : MH} (v1 : Int32) (v2 : Int32) (v3 : Int32) (o4 : Option Int32) (o5 : Option Int64) (o7 : Option Int64) (o9 : Option Int64) (o11 : Option Int32) : mm_run G0 162 35 [some (.ref 84), some (.int v1), some (.int v2), some (.int v3), (o4.map Value.int), (o5.map Value.long), none, (o7.map Value.long), none, (o9.map Value.long), none, (o11.map Value.int)] [] (HP I A L F E) = mm_run G0 162 38 [some (.ref 84), some (.int v1), some (.int v2), some (.int v3), some (.int 0), (o5.map Value.long), none, (o7.map Value.long), none, (o9.map Value.long), none, (o11.map Value.int)] [] (HP I A L F E) := by
  match o4, o5, o7, o9, o11 with
  | none, none, none, none, none => exact sg_X8_clears_35_v00000 v1 v2 v3
  | none, none, none, none, some o11 => exact sg_X8_clears_35_v00001 v1 v2 v3 o11
  | none, none, none, some o9, none => exact sg_X8_clears_35_v00010 v1 v2 v3 o9
  | none, none, none, some o9, some o11 => exact sg_X8_clears_35_v00011 v1 v2 v3 o9 o11
  | none, none, some o7, none, none => exact sg_X8_clears_35_v00100 v1 v2 v3 o7
  | none, none, some o7, none, some o11 => exact sg_X8_clears_35_v00101 v1 v2 v3 o7 o11
  | none, none, some o7, some o9, none => exact sg_X8_clears_35_v00110 v1 v2 v3 o7 o9
  | none, none, some o7, some o9, some o11 => exact sg_X8_clears_35_v00111 v1 v2 v3 o7 o9 o11
  | none, some o5, none, none, none => exact sg_X8_clears_35_v01000 v1 v2 v3 o5
  | none, some o5, none, none, some o11 => exact sg_X8_clears_35_v01001 v1 v2 v3 o5 o11
  | none, some o5, none, some o9, none => exact sg_X8_clears_35_v01010 v1 v2 v3 o5 o9
  | none, some o5, none, some o9, some o11 => exact sg_X8_clears_35_v01011 v1 v2 v3 o5 o9 o11
  | none, some o5, some o7, none, none => exact sg_X8_clears_35_v01100 v1 v2 v3 o5 o7
  | none, some o5, some o7, none, some o11 => exact sg_X8_clears_35_v01101 v1 v2 v3 o5 o7 o11
  | none, some o5, some o7, some o9, none => exact sg_X8_clears_35_v01110 v1 v2 v3 o5 o7 o9
  | none, some o5, some o7, some o9, some o11 => exact sg_X8_clears_35_v01111 v1 v2 v3 o5 o7 o9 o11
  | some o4, none, none, none, none => exact sg_X8_clears_35_v10000 v1 v2 v3 o4
  | some o4, none, none, none, some o11 => exact sg_X8_clears_35_v10001 v1 v2 v3 o4 o11
  | some o4, none, none, some o9, none => exact sg_X8_clears_35_v10010 v1 v2 v3 o4 o9
  | some o4, none, none, some o9, some o11 => exact sg_X8_clears_35_v10011 v1 v2 v3 o4 o9 o11
  | some o4, none, some o7, none, none => exact sg_X8_clears_35_v10100 v1 v2 v3 o4 o7
  | some o4, none, some o7, none, some o11 => exact sg_X8_clears_35_v10101 v1 v2 v3 o4 o7 o11
  | some o4, none, some o7, some o9, none => exact sg_X8_clears_35_v10110 v1 v2 v3 o4 o7 o9
  | some o4, none, some o7, some o9, some o11 => exact sg_X8_clears_35_v10111 v1 v2 v3 o4 o7 o9 o11
  | some o4, some o5, none, none, none => exact sg_X8_clears_35_v11000 v1 v2 v3 o4 o5
  | some o4, some o5, none, none, some o11 => exact sg_X8_clears_35_v11001 v1 v2 v3 o4 o5 o11
  | some o4, some o5, none, some o9, none => exact sg_X8_clears_35_v11010 v1 v2 v3 o4 o5 o9
  | some o4, some o5, none, some o9, some o11 => exact sg_X8_clears_35_v11011 v1 v2 v3 o4 o5 o9 o11
  | some o4, some o5, some o7, none, none => exact sg_X8_clears_35_v11100 v1 v2 v3 o4 o5 o7
  | some o4, some o5, some o7, none, some o11 => exact sg_X8_clears_35_v11101 v1 v2 v3 o4 o5 o7 o11
  | some o4, some o5, some o7, some o9, none => exact sg_X8_clears_35_v11110 v1 v2 v3 o4 o5 o7 o9
  | some o4, some o5, some o7, some o9, some o11 => exact sg_X8_clears_35_v11111 v1 v2 v3 o4 o5 o7 o9 o11
set_option maxRecDepth 20000 in
theorem sg_X8_clears_38_v0000 {I : Nat → Int32} {A : Nat → List Int32} {L : Nat → List Int64} {F : Nat → Int64} {E : MH} (v1 : Int32) (v2 : Int32) (v3 : Int32) (v4 : Int32) : mm_run G0 162 38 [some (.ref 84), some (.int v1), some (.int v2), some (.int v3), some (.int v4), none, none, none, none, none, none, none] [] (HP I A L F E) = (if v1 ≤ v4 then mm_run G0 162 2 [some (.ref 84), some (.int v1), some (.int (v2 + 1)), some (.int v3), some (.int v4), none, none, none, none, none, none, none] [] (HP I A L F E) else (if v4 = v2 then mm_run G0 162 38 [some (.ref 84), some (.int v1), some (.int v2), some (.int v3), some (.int (v4 + 1)), none, none, none, none, none, none, none] [] (HP I A L F E) else ((ldR [some 96, some 97, some 98, some 99, some 100, some 101] v4).bind fun a1 => ((ldL (L a1) v2).bind fun x2 => (if (lg_cmp x2 (0)) ≠ 0 then ((ldR [some 96, some 97, some 98, some 99, some 100, some 101] v2).bind fun a3 => ((ldL (L a3) v2).bind fun x4 => ((ldR [some 96, some 97, some 98, some 99, some 100, some 101] v4).bind fun a5 => ((ldL (L a5) v2).bind fun x6 => mm_run G0 162 94 [some (.ref 84), some (.int v1), some (.int v2), some (.int v3), some (.int v4), some (.long x4), none, some (.long x6), none, some (.long 0), none, some (.int 0)] [] (HP I A L F E))))) else mm_run G0 162 38 [some (.ref 84), some (.int v1), some (.int v2), some (.int v3), some (.int (v4 + 1)), none, none, none, none, none, none, none] [] (HP I A L F E)))))) := by
  refine (sg_go ht_X8_clears (k := 2) (pc' := 41) (L' := [some (.ref 84), some (.int v1), some (.int v2), some (.int v3), some (.int v4), none, none, none, none, none, none, none]) (st' := [.int v1, .int v4]) (h' := (HP I A L F E)) rfl).trans ?_
  refine (sg_cmp ht_X8_clears rfl).trans ?_
  refine ite_congr rfl (fun _ => ?_) (fun _ => ?_)
  · refine (sg_go ht_X8_clears (k := 2) (pc' := 2) (L' := [some (.ref 84), some (.int v1), some (.int (v2 + 1)), some (.int v3), some (.int v4), none, none, none, none, none, none, none]) (st' := []) (h' := (HP I A L F E)) rfl).trans ?_
    rfl
  · refine (sg_go ht_X8_clears (k := 2) (pc' := 47) (L' := [some (.ref 84), some (.int v1), some (.int v2), some (.int v3), some (.int v4), none, none, none, none, none, none, none]) (st' := [.int v2, .int v4]) (h' := (HP I A L F E)) rfl).trans ?_
    refine (sg_cmp ht_X8_clears rfl).trans ?_
    refine ite_congr rfl (fun _ => ?_) (fun _ => ?_)
    · refine (sg_go ht_X8_clears (k := 2) (pc' := 38) (L' := [some (.ref 84), some (.int v1), some (.int v2), some (.int v3), some (.int (v4 + 1)), none, none, none, none, none, none, none]) (st' := []) (h' := (HP I A L F E)) rfl).trans ?_
      rfl
    · refine (sg_go ht_X8_clears (k := 3) (pc' := 56) (L' := [some (.ref 84), some (.int v1), some (.int v2), some (.int v3), some (.int v4), none, none, none, none, none, none, none]) (st' := [.int v4, .ref 95]) (h' := (HP I A L F E)) rfl).trans ?_
      refine (sg_ldR ht_X8_clears rfl hp_o_95).trans ?_
      refine bind_cg fun a1 ha1 => ?_
      have ha1 := in_95 ha1
      refine (sg_go ht_X8_clears (k := 1) (pc' := 58) (L' := [some (.ref 84), some (.int v1), some (.int v2), some (.int v3), some (.int v4), none, none, none, none, none, none, none]) (st' := [.int v2, .ref a1]) (h' := (HP I A L F E)) rfl).trans ?_
      refine (sg_ldL ht_X8_clears rfl (sMr_obj ha1)).trans ?_
      refine bind_cg fun x2 hx2 => ?_
      refine (sg_go ht_X8_clears (k := 2) (pc' := 61) (L' := [some (.ref 84), some (.int v1), some (.int v2), some (.int v3), some (.int v4), none, none, none, none, none, none, none]) (st' := [.int (lg_cmp x2 (0))]) (h' := (HP I A L F E)) rfl).trans ?_
      refine (sg_if ht_X8_clears rfl).trans ?_
      refine ite_congr rfl (fun _ => ?_) (fun _ => ?_)
      · refine (sg_go ht_X8_clears (k := 3) (pc' := 72) (L' := [some (.ref 84), some (.int v1), some (.int v2), some (.int v3), some (.int v4), none, none, none, none, none, none, none]) (st' := [.int v2, .ref 95]) (h' := (HP I A L F E)) rfl).trans ?_
        refine (sg_ldR ht_X8_clears rfl hp_o_95).trans ?_
        refine bind_cg fun a3 ha3 => ?_
        have ha3 := in_95 ha3
        refine (sg_go ht_X8_clears (k := 1) (pc' := 74) (L' := [some (.ref 84), some (.int v1), some (.int v2), some (.int v3), some (.int v4), none, none, none, none, none, none, none]) (st' := [.int v2, .ref a3]) (h' := (HP I A L F E)) rfl).trans ?_
        refine (sg_ldL ht_X8_clears rfl (sMr_obj ha3)).trans ?_
        refine bind_cg fun x4 hx4 => ?_
        refine (sg_go ht_X8_clears (k := 4) (pc' := 83) (L' := [some (.ref 84), some (.int v1), some (.int v2), some (.int v3), some (.int v4), some (.long x4), none, none, none, none, none, none]) (st' := [.int v4, .ref 95]) (h' := (HP I A L F E)) rfl).trans ?_
        refine (sg_ldR ht_X8_clears rfl hp_o_95).trans ?_
        refine bind_cg fun a5 ha5 => ?_
        have ha5 := in_95 ha5
        refine (sg_go ht_X8_clears (k := 1) (pc' := 85) (L' := [some (.ref 84), some (.int v1), some (.int v2), some (.int v3), some (.int v4), some (.long x4), none, none, none, none, none, none]) (st' := [.int v2, .ref a5]) (h' := (HP I A L F E)) rfl).trans ?_
        refine (sg_ldL ht_X8_clears rfl (sMr_obj ha5)).trans ?_
        refine bind_cg fun x6 hx6 => ?_
        refine (sg_go ht_X8_clears (k := 5) (pc' := 94) (L' := [some (.ref 84), some (.int v1), some (.int v2), some (.int v3), some (.int v4), some (.long x4), none, some (.long x6), none, some (.long 0), none, some (.int 0)]) (st' := []) (h' := (HP I A L F E)) rfl).trans ?_
        rfl
      · refine (sg_go ht_X8_clears (k := 3) (pc' := 38) (L' := [some (.ref 84), some (.int v1), some (.int v2), some (.int v3), some (.int (v4 + 1)), none, none, none, none, none, none, none]) (st' := []) (h' := (HP I A L F E)) rfl).trans ?_
        rfl
set_option maxRecDepth 20000 in
theorem sg_X8_clears_38_v0001 {I : Nat → Int32} {A : Nat → List Int32} {L : Nat → List Int64} {F : Nat → Int64} {E : MH} (v1 : Int32) (v2 : Int32) (v3 : Int32) (v4 : Int32) (o11 : Int32) : mm_run G0 162 38 [some (.ref 84), some (.int v1), some (.int v2), some (.int v3), some (.int v4), none, none, none, none, none, none, some (.int o11)] [] (HP I A L F E) = (if v1 ≤ v4 then mm_run G0 162 2 [some (.ref 84), some (.int v1), some (.int (v2 + 1)), some (.int v3), some (.int v4), none, none, none, none, none, none, some (.int o11)] [] (HP I A L F E) else (if v4 = v2 then mm_run G0 162 38 [some (.ref 84), some (.int v1), some (.int v2), some (.int v3), some (.int (v4 + 1)), none, none, none, none, none, none, some (.int o11)] [] (HP I A L F E) else ((ldR [some 96, some 97, some 98, some 99, some 100, some 101] v4).bind fun a1 => ((ldL (L a1) v2).bind fun x2 => (if (lg_cmp x2 (0)) ≠ 0 then ((ldR [some 96, some 97, some 98, some 99, some 100, some 101] v2).bind fun a3 => ((ldL (L a3) v2).bind fun x4 => ((ldR [some 96, some 97, some 98, some 99, some 100, some 101] v4).bind fun a5 => ((ldL (L a5) v2).bind fun x6 => mm_run G0 162 94 [some (.ref 84), some (.int v1), some (.int v2), some (.int v3), some (.int v4), some (.long x4), none, some (.long x6), none, some (.long 0), none, some (.int 0)] [] (HP I A L F E))))) else mm_run G0 162 38 [some (.ref 84), some (.int v1), some (.int v2), some (.int v3), some (.int (v4 + 1)), none, none, none, none, none, none, some (.int o11)] [] (HP I A L F E)))))) := by
  refine (sg_go ht_X8_clears (k := 2) (pc' := 41) (L' := [some (.ref 84), some (.int v1), some (.int v2), some (.int v3), some (.int v4), none, none, none, none, none, none, some (.int o11)]) (st' := [.int v1, .int v4]) (h' := (HP I A L F E)) rfl).trans ?_
  refine (sg_cmp ht_X8_clears rfl).trans ?_
  refine ite_congr rfl (fun _ => ?_) (fun _ => ?_)
  · refine (sg_go ht_X8_clears (k := 2) (pc' := 2) (L' := [some (.ref 84), some (.int v1), some (.int (v2 + 1)), some (.int v3), some (.int v4), none, none, none, none, none, none, some (.int o11)]) (st' := []) (h' := (HP I A L F E)) rfl).trans ?_
    rfl
  · refine (sg_go ht_X8_clears (k := 2) (pc' := 47) (L' := [some (.ref 84), some (.int v1), some (.int v2), some (.int v3), some (.int v4), none, none, none, none, none, none, some (.int o11)]) (st' := [.int v2, .int v4]) (h' := (HP I A L F E)) rfl).trans ?_
    refine (sg_cmp ht_X8_clears rfl).trans ?_
    refine ite_congr rfl (fun _ => ?_) (fun _ => ?_)
    · refine (sg_go ht_X8_clears (k := 2) (pc' := 38) (L' := [some (.ref 84), some (.int v1), some (.int v2), some (.int v3), some (.int (v4 + 1)), none, none, none, none, none, none, some (.int o11)]) (st' := []) (h' := (HP I A L F E)) rfl).trans ?_
      rfl
    · refine (sg_go ht_X8_clears (k := 3) (pc' := 56) (L' := [some (.ref 84), some (.int v1), some (.int v2), some (.int v3), some (.int v4), none, none, none, none, none, none, some (.int o11)]) (st' := [.int v4, .ref 95]) (h' := (HP I A L F E)) rfl).trans ?_
      refine (sg_ldR ht_X8_clears rfl hp_o_95).trans ?_
      refine bind_cg fun a1 ha1 => ?_
      have ha1 := in_95 ha1
      refine (sg_go ht_X8_clears (k := 1) (pc' := 58) (L' := [some (.ref 84), some (.int v1), some (.int v2), some (.int v3), some (.int v4), none, none, none, none, none, none, some (.int o11)]) (st' := [.int v2, .ref a1]) (h' := (HP I A L F E)) rfl).trans ?_
      refine (sg_ldL ht_X8_clears rfl (sMr_obj ha1)).trans ?_
      refine bind_cg fun x2 hx2 => ?_
      refine (sg_go ht_X8_clears (k := 2) (pc' := 61) (L' := [some (.ref 84), some (.int v1), some (.int v2), some (.int v3), some (.int v4), none, none, none, none, none, none, some (.int o11)]) (st' := [.int (lg_cmp x2 (0))]) (h' := (HP I A L F E)) rfl).trans ?_
      refine (sg_if ht_X8_clears rfl).trans ?_
      refine ite_congr rfl (fun _ => ?_) (fun _ => ?_)
      · refine (sg_go ht_X8_clears (k := 3) (pc' := 72) (L' := [some (.ref 84), some (.int v1), some (.int v2), some (.int v3), some (.int v4), none, none, none, none, none, none, some (.int o11)]) (st' := [.int v2, .ref 95]) (h' := (HP I A L F E)) rfl).trans ?_
        refine (sg_ldR ht_X8_clears rfl hp_o_95).trans ?_
        refine bind_cg fun a3 ha3 => ?_
        have ha3 := in_95 ha3
        refine (sg_go ht_X8_clears (k := 1) (pc' := 74) (L' := [some (.ref 84), some (.int v1), some (.int v2), some (.int v3), some (.int v4), none, none, none, none, none, none, some (.int o11)]) (st' := [.int v2, .ref a3]) (h' := (HP I A L F E)) rfl).trans ?_
        refine (sg_ldL ht_X8_clears rfl (sMr_obj ha3)).trans ?_
        refine bind_cg fun x4 hx4 => ?_
        refine (sg_go ht_X8_clears (k := 4) (pc' := 83) (L' := [some (.ref 84), some (.int v1), some (.int v2), some (.int v3), some (.int v4), some (.long x4), none, none, none, none, none, some (.int o11)]) (st' := [.int v4, .ref 95]) (h' := (HP I A L F E)) rfl).trans ?_
        refine (sg_ldR ht_X8_clears rfl hp_o_95).trans ?_
        refine bind_cg fun a5 ha5 => ?_
        have ha5 := in_95 ha5
        refine (sg_go ht_X8_clears (k := 1) (pc' := 85) (L' := [some (.ref 84), some (.int v1), some (.int v2), some (.int v3), some (.int v4), some (.long x4), none, none, none, none, none, some (.int o11)]) (st' := [.int v2, .ref a5]) (h' := (HP I A L F E)) rfl).trans ?_
        refine (sg_ldL ht_X8_clears rfl (sMr_obj ha5)).trans ?_
        refine bind_cg fun x6 hx6 => ?_
        refine (sg_go ht_X8_clears (k := 5) (pc' := 94) (L' := [some (.ref 84), some (.int v1), some (.int v2), some (.int v3), some (.int v4), some (.long x4), none, some (.long x6), none, some (.long 0), none, some (.int 0)]) (st' := []) (h' := (HP I A L F E)) rfl).trans ?_
        rfl
      · refine (sg_go ht_X8_clears (k := 3) (pc' := 38) (L' := [some (.ref 84), some (.int v1), some (.int v2), some (.int v3), some (.int (v4 + 1)), none, none, none, none, none, none, some (.int o11)]) (st' := []) (h' := (HP I A L F E)) rfl).trans ?_
        rfl
set_option maxRecDepth 20000 in
theorem sg_X8_clears_38_v0010 {I : Nat → Int32} {A : Nat → List Int32} {L : Nat → List Int64} {F : Nat → Int64} {E : MH} (v1 : Int32) (v2 : Int32) (v3 : Int32) (v4 : Int32) (o9 : Int64) : mm_run G0 162 38 [some (.ref 84), some (.int v1), some (.int v2), some (.int v3), some (.int v4), none, none, none, none, some (.long o9), none, none] [] (HP I A L F E) = (if v1 ≤ v4 then mm_run G0 162 2 [some (.ref 84), some (.int v1), some (.int (v2 + 1)), some (.int v3), some (.int v4), none, none, none, none, some (.long o9), none, none] [] (HP I A L F E) else (if v4 = v2 then mm_run G0 162 38 [some (.ref 84), some (.int v1), some (.int v2), some (.int v3), some (.int (v4 + 1)), none, none, none, none, some (.long o9), none, none] [] (HP I A L F E) else ((ldR [some 96, some 97, some 98, some 99, some 100, some 101] v4).bind fun a1 => ((ldL (L a1) v2).bind fun x2 => (if (lg_cmp x2 (0)) ≠ 0 then ((ldR [some 96, some 97, some 98, some 99, some 100, some 101] v2).bind fun a3 => ((ldL (L a3) v2).bind fun x4 => ((ldR [some 96, some 97, some 98, some 99, some 100, some 101] v4).bind fun a5 => ((ldL (L a5) v2).bind fun x6 => mm_run G0 162 94 [some (.ref 84), some (.int v1), some (.int v2), some (.int v3), some (.int v4), some (.long x4), none, some (.long x6), none, some (.long 0), none, some (.int 0)] [] (HP I A L F E))))) else mm_run G0 162 38 [some (.ref 84), some (.int v1), some (.int v2), some (.int v3), some (.int (v4 + 1)), none, none, none, none, some (.long o9), none, none] [] (HP I A L F E)))))) := by
  refine (sg_go ht_X8_clears (k := 2) (pc' := 41) (L' := [some (.ref 84), some (.int v1), some (.int v2), some (.int v3), some (.int v4), none, none, none, none, some (.long o9), none, none]) (st' := [.int v1, .int v4]) (h' := (HP I A L F E)) rfl).trans ?_
  refine (sg_cmp ht_X8_clears rfl).trans ?_
  refine ite_congr rfl (fun _ => ?_) (fun _ => ?_)
  · refine (sg_go ht_X8_clears (k := 2) (pc' := 2) (L' := [some (.ref 84), some (.int v1), some (.int (v2 + 1)), some (.int v3), some (.int v4), none, none, none, none, some (.long o9), none, none]) (st' := []) (h' := (HP I A L F E)) rfl).trans ?_
    rfl
  · refine (sg_go ht_X8_clears (k := 2) (pc' := 47) (L' := [some (.ref 84), some (.int v1), some (.int v2), some (.int v3), some (.int v4), none, none, none, none, some (.long o9), none, none]) (st' := [.int v2, .int v4]) (h' := (HP I A L F E)) rfl).trans ?_
    refine (sg_cmp ht_X8_clears rfl).trans ?_
    refine ite_congr rfl (fun _ => ?_) (fun _ => ?_)
    · refine (sg_go ht_X8_clears (k := 2) (pc' := 38) (L' := [some (.ref 84), some (.int v1), some (.int v2), some (.int v3), some (.int (v4 + 1)), none, none, none, none, some (.long o9), none, none]) (st' := []) (h' := (HP I A L F E)) rfl).trans ?_
      rfl
    · refine (sg_go ht_X8_clears (k := 3) (pc' := 56) (L' := [some (.ref 84), some (.int v1), some (.int v2), some (.int v3), some (.int v4), none, none, none, none, some (.long o9), none, none]) (st' := [.int v4, .ref 95]) (h' := (HP I A L F E)) rfl).trans ?_
      refine (sg_ldR ht_X8_clears rfl hp_o_95).trans ?_
      refine bind_cg fun a1 ha1 => ?_
      have ha1 := in_95 ha1
      refine (sg_go ht_X8_clears (k := 1) (pc' := 58) (L' := [some (.ref 84), some (.int v1), some (.int v2), some (.int v3), some (.int v4), none, none, none, none, some (.long o9), none, none]) (st' := [.int v2, .ref a1]) (h' := (HP I A L F E)) rfl).trans ?_
      refine (sg_ldL ht_X8_clears rfl (sMr_obj ha1)).trans ?_
      refine bind_cg fun x2 hx2 => ?_
      refine (sg_go ht_X8_clears (k := 2) (pc' := 61) (L' := [some (.ref 84), some (.int v1), some (.int v2), some (.int v3), some (.int v4), none, none, none, none, some (.long o9), none, none]) (st' := [.int (lg_cmp x2 (0))]) (h' := (HP I A L F E)) rfl).trans ?_
      refine (sg_if ht_X8_clears rfl).trans ?_
      refine ite_congr rfl (fun _ => ?_) (fun _ => ?_)
      · refine (sg_go ht_X8_clears (k := 3) (pc' := 72) (L' := [some (.ref 84), some (.int v1), some (.int v2), some (.int v3), some (.int v4), none, none, none, none, some (.long o9), none, none]) (st' := [.int v2, .ref 95]) (h' := (HP I A L F E)) rfl).trans ?_
        refine (sg_ldR ht_X8_clears rfl hp_o_95).trans ?_
        refine bind_cg fun a3 ha3 => ?_
        have ha3 := in_95 ha3
        refine (sg_go ht_X8_clears (k := 1) (pc' := 74) (L' := [some (.ref 84), some (.int v1), some (.int v2), some (.int v3), some (.int v4), none, none, none, none, some (.long o9), none, none]) (st' := [.int v2, .ref a3]) (h' := (HP I A L F E)) rfl).trans ?_
        refine (sg_ldL ht_X8_clears rfl (sMr_obj ha3)).trans ?_
        refine bind_cg fun x4 hx4 => ?_
        refine (sg_go ht_X8_clears (k := 4) (pc' := 83) (L' := [some (.ref 84), some (.int v1), some (.int v2), some (.int v3), some (.int v4), some (.long x4), none, none, none, some (.long o9), none, none]) (st' := [.int v4, .ref 95]) (h' := (HP I A L F E)) rfl).trans ?_
        refine (sg_ldR ht_X8_clears rfl hp_o_95).trans ?_
        refine bind_cg fun a5 ha5 => ?_
        have ha5 := in_95 ha5
        refine (sg_go ht_X8_clears (k := 1) (pc' := 85) (L' := [some (.ref 84), some (.int v1), some (.int v2), some (.int v3), some (.int v4), some (.long x4), none, none, none, some (.long o9), none, none]) (st' := [.int v2, .ref a5]) (h' := (HP I A L F E)) rfl).trans ?_
        refine (sg_ldL ht_X8_clears rfl (sMr_obj ha5)).trans ?_
        refine bind_cg fun x6 hx6 => ?_
        refine (sg_go ht_X8_clears (k := 5) (pc' := 94) (L' := [some (.ref 84), some (.int v1), some (.int v2), some (.int v3), some (.int v4), some (.long x4), none, some (.long x6), none, some (.long 0), none, some (.int 0)]) (st' := []) (h' := (HP I A L F E)) rfl).trans ?_
        rfl
      · refine (sg_go ht_X8_clears (k := 3) (pc' := 38) (L' := [some (.ref 84), some (.int v1), some (.int v2), some (.int v3), some (.int (v4 + 1)), none, none, none, none, some (.long o9), none, none]) (st' := []) (h' := (HP I A L F E)) rfl).trans ?_
        rfl
set_option maxRecDepth 20000 in
theorem sg_X8_clears_38_v0011 {I : Nat → Int32} {A : Nat → List Int32} {L : Nat → List Int64} {F : Nat → Int64} {E : MH} (v1 : Int32) (v2 : Int32) (v3 : Int32) (v4 : Int32) (o9 : Int64) (o11 : Int32) : mm_run G0 162 38 [some (.ref 84), some (.int v1), some (.int v2), some (.int v3), some (.int v4), none, none, none, none, some (.long o9), none, some (.int o11)] [] (HP I A L F E) = (if v1 ≤ v4 then mm_run G0 162 2 [some (.ref 84), some (.int v1), some (.int (v2 + 1)), some (.int v3), some (.int v4), none, none, none, none, some (.long o9), none, some (.int o11)] [] (HP I A L F E) else (if v4 = v2 then mm_run G0 162 38 [some (.ref 84), some (.int v1), some (.int v2), some (.int v3), some (.int (v4 + 1)), none, none, none, none, some (.long o9), none, some (.int o11)] [] (HP I A L F E) else ((ldR [some 96, some 97, some 98, some 99, some 100, some 101] v4).bind fun a1 => ((ldL (L a1) v2).bind fun x2 => (if (lg_cmp x2 (0)) ≠ 0 then ((ldR [some 96, some 97, some 98, some 99, some 100, some 101] v2).bind fun a3 => ((ldL (L a3) v2).bind fun x4 => ((ldR [some 96, some 97, some 98, some 99, some 100, some 101] v4).bind fun a5 => ((ldL (L a5) v2).bind fun x6 => mm_run G0 162 94 [some (.ref 84), some (.int v1), some (.int v2), some (.int v3), some (.int v4), some (.long x4), none, some (.long x6), none, some (.long 0), none, some (.int 0)] [] (HP I A L F E))))) else mm_run G0 162 38 [some (.ref 84), some (.int v1), some (.int v2), some (.int v3), some (.int (v4 + 1)), none, none, none, none, some (.long o9), none, some (.int o11)] [] (HP I A L F E)))))) := by
  refine (sg_go ht_X8_clears (k := 2) (pc' := 41) (L' := [some (.ref 84), some (.int v1), some (.int v2), some (.int v3), some (.int v4), none, none, none, none, some (.long o9), none, some (.int o11)]) (st' := [.int v1, .int v4]) (h' := (HP I A L F E)) rfl).trans ?_
  refine (sg_cmp ht_X8_clears rfl).trans ?_
  refine ite_congr rfl (fun _ => ?_) (fun _ => ?_)
  · refine (sg_go ht_X8_clears (k := 2) (pc' := 2) (L' := [some (.ref 84), some (.int v1), some (.int (v2 + 1)), some (.int v3), some (.int v4), none, none, none, none, some (.long o9), none, some (.int o11)]) (st' := []) (h' := (HP I A L F E)) rfl).trans ?_
    rfl
  · refine (sg_go ht_X8_clears (k := 2) (pc' := 47) (L' := [some (.ref 84), some (.int v1), some (.int v2), some (.int v3), some (.int v4), none, none, none, none, some (.long o9), none, some (.int o11)]) (st' := [.int v2, .int v4]) (h' := (HP I A L F E)) rfl).trans ?_
    refine (sg_cmp ht_X8_clears rfl).trans ?_
    refine ite_congr rfl (fun _ => ?_) (fun _ => ?_)
    · refine (sg_go ht_X8_clears (k := 2) (pc' := 38) (L' := [some (.ref 84), some (.int v1), some (.int v2), some (.int v3), some (.int (v4 + 1)), none, none, none, none, some (.long o9), none, some (.int o11)]) (st' := []) (h' := (HP I A L F E)) rfl).trans ?_
      rfl
    · refine (sg_go ht_X8_clears (k := 3) (pc' := 56) (L' := [some (.ref 84), some (.int v1), some (.int v2), some (.int v3), some (.int v4), none, none, none, none, some (.long o9), none, some (.int o11)]) (st' := [.int v4, .ref 95]) (h' := (HP I A L F E)) rfl).trans ?_
      refine (sg_ldR ht_X8_clears rfl hp_o_95).trans ?_
      refine bind_cg fun a1 ha1 => ?_
      have ha1 := in_95 ha1
      refine (sg_go ht_X8_clears (k := 1) (pc' := 58) (L' := [some (.ref 84), some (.int v1), some (.int v2), some (.int v3), some (.int v4), none, none, none, none, some (.long o9), none, some (.int o11)]) (st' := [.int v2, .ref a1]) (h' := (HP I A L F E)) rfl).trans ?_
      refine (sg_ldL ht_X8_clears rfl (sMr_obj ha1)).trans ?_
      refine bind_cg fun x2 hx2 => ?_
      refine (sg_go ht_X8_clears (k := 2) (pc' := 61) (L' := [some (.ref 84), some (.int v1), some (.int v2), some (.int v3), some (.int v4), none, none, none, none, some (.long o9), none, some (.int o11)]) (st' := [.int (lg_cmp x2 (0))]) (h' := (HP I A L F E)) rfl).trans ?_
      refine (sg_if ht_X8_clears rfl).trans ?_
      refine ite_congr rfl (fun _ => ?_) (fun _ => ?_)
      · refine (sg_go ht_X8_clears (k := 3) (pc' := 72) (L' := [some (.ref 84), some (.int v1), some (.int v2), some (.int v3), some (.int v4), none, none, none, none, some (.long o9), none, some (.int o11)]) (st' := [.int v2, .ref 95]) (h' := (HP I A L F E)) rfl).trans ?_
        refine (sg_ldR ht_X8_clears rfl hp_o_95).trans ?_
        refine bind_cg fun a3 ha3 => ?_
        have ha3 := in_95 ha3
        refine (sg_go ht_X8_clears (k := 1) (pc' := 74) (L' := [some (.ref 84), some (.int v1), some (.int v2), some (.int v3), some (.int v4), none, none, none, none, some (.long o9), none, some (.int o11)]) (st' := [.int v2, .ref a3]) (h' := (HP I A L F E)) rfl).trans ?_
        refine (sg_ldL ht_X8_clears rfl (sMr_obj ha3)).trans ?_
        refine bind_cg fun x4 hx4 => ?_
        refine (sg_go ht_X8_clears (k := 4) (pc' := 83) (L' := [some (.ref 84), some (.int v1), some (.int v2), some (.int v3), some (.int v4), some (.long x4), none, none, none, some (.long o9), none, some (.int o11)]) (st' := [.int v4, .ref 95]) (h' := (HP I A L F E)) rfl).trans ?_
        refine (sg_ldR ht_X8_clears rfl hp_o_95).trans ?_
        refine bind_cg fun a5 ha5 => ?_
        have ha5 := in_95 ha5
        refine (sg_go ht_X8_clears (k := 1) (pc' := 85) (L' := [some (.ref 84), some (.int v1), some (.int v2), some (.int v3), some (.int v4), some (.long x4), none, none, none, some (.long o9), none, some (.int o11)]) (st' := [.int v2, .ref a5]) (h' := (HP I A L F E)) rfl).trans ?_
        refine (sg_ldL ht_X8_clears rfl (sMr_obj ha5)).trans ?_
        refine bind_cg fun x6 hx6 => ?_
        refine (sg_go ht_X8_clears (k := 5) (pc' := 94) (L' := [some (.ref 84), some (.int v1), some (.int v2), some (.int v3), some (.int v4), some (.long x4), none, some (.long x6), none, some (.long 0), none, some (.int 0)]) (st' := []) (h' := (HP I A L F E)) rfl).trans ?_
        rfl
      · refine (sg_go ht_X8_clears (k := 3) (pc' := 38) (L' := [some (.ref 84), some (.int v1), some (.int v2), some (.int v3), some (.int (v4 + 1)), none, none, none, none, some (.long o9), none, some (.int o11)]) (st' := []) (h' := (HP I A L F E)) rfl).trans ?_
        rfl
set_option maxRecDepth 20000 in
theorem sg_X8_clears_38_v0100 {I : Nat → Int32} {A : Nat → List Int32} {L : Nat → List Int64} {F : Nat → Int64} {E : MH} (v1 : Int32) (v2 : Int32) (v3 : Int32) (v4 : Int32) (o7 : Int64) : mm_run G0 162 38 [some (.ref 84), some (.int v1), some (.int v2), some (.int v3), some (.int v4), none, none, some (.long o7), none, none, none, none] [] (HP I A L F E) = (if v1 ≤ v4 then mm_run G0 162 2 [some (.ref 84), some (.int v1), some (.int (v2 + 1)), some (.int v3), some (.int v4), none, none, some (.long o7), none, none, none, none] [] (HP I A L F E) else (if v4 = v2 then mm_run G0 162 38 [some (.ref 84), some (.int v1), some (.int v2), some (.int v3), some (.int (v4 + 1)), none, none, some (.long o7), none, none, none, none] [] (HP I A L F E) else ((ldR [some 96, some 97, some 98, some 99, some 100, some 101] v4).bind fun a1 => ((ldL (L a1) v2).bind fun x2 => (if (lg_cmp x2 (0)) ≠ 0 then ((ldR [some 96, some 97, some 98, some 99, some 100, some 101] v2).bind fun a3 => ((ldL (L a3) v2).bind fun x4 => ((ldR [some 96, some 97, some 98, some 99, some 100, some 101] v4).bind fun a5 => ((ldL (L a5) v2).bind fun x6 => mm_run G0 162 94 [some (.ref 84), some (.int v1), some (.int v2), some (.int v3), some (.int v4), some (.long x4), none, some (.long x6), none, some (.long 0), none, some (.int 0)] [] (HP I A L F E))))) else mm_run G0 162 38 [some (.ref 84), some (.int v1), some (.int v2), some (.int v3), some (.int (v4 + 1)), none, none, some (.long o7), none, none, none, none] [] (HP I A L F E)))))) := by
  refine (sg_go ht_X8_clears (k := 2) (pc' := 41) (L' := [some (.ref 84), some (.int v1), some (.int v2), some (.int v3), some (.int v4), none, none, some (.long o7), none, none, none, none]) (st' := [.int v1, .int v4]) (h' := (HP I A L F E)) rfl).trans ?_
  refine (sg_cmp ht_X8_clears rfl).trans ?_
  refine ite_congr rfl (fun _ => ?_) (fun _ => ?_)
  · refine (sg_go ht_X8_clears (k := 2) (pc' := 2) (L' := [some (.ref 84), some (.int v1), some (.int (v2 + 1)), some (.int v3), some (.int v4), none, none, some (.long o7), none, none, none, none]) (st' := []) (h' := (HP I A L F E)) rfl).trans ?_
    rfl
  · refine (sg_go ht_X8_clears (k := 2) (pc' := 47) (L' := [some (.ref 84), some (.int v1), some (.int v2), some (.int v3), some (.int v4), none, none, some (.long o7), none, none, none, none]) (st' := [.int v2, .int v4]) (h' := (HP I A L F E)) rfl).trans ?_
    refine (sg_cmp ht_X8_clears rfl).trans ?_
    refine ite_congr rfl (fun _ => ?_) (fun _ => ?_)
    · refine (sg_go ht_X8_clears (k := 2) (pc' := 38) (L' := [some (.ref 84), some (.int v1), some (.int v2), some (.int v3), some (.int (v4 + 1)), none, none, some (.long o7), none, none, none, none]) (st' := []) (h' := (HP I A L F E)) rfl).trans ?_
      rfl
    · refine (sg_go ht_X8_clears (k := 3) (pc' := 56) (L' := [some (.ref 84), some (.int v1), some (.int v2), some (.int v3), some (.int v4), none, none, some (.long o7), none, none, none, none]) (st' := [.int v4, .ref 95]) (h' := (HP I A L F E)) rfl).trans ?_
      refine (sg_ldR ht_X8_clears rfl hp_o_95).trans ?_
      refine bind_cg fun a1 ha1 => ?_
      have ha1 := in_95 ha1
      refine (sg_go ht_X8_clears (k := 1) (pc' := 58) (L' := [some (.ref 84), some (.int v1), some (.int v2), some (.int v3), some (.int v4), none, none, some (.long o7), none, none, none, none]) (st' := [.int v2, .ref a1]) (h' := (HP I A L F E)) rfl).trans ?_
      refine (sg_ldL ht_X8_clears rfl (sMr_obj ha1)).trans ?_
      refine bind_cg fun x2 hx2 => ?_
      refine (sg_go ht_X8_clears (k := 2) (pc' := 61) (L' := [some (.ref 84), some (.int v1), some (.int v2), some (.int v3), some (.int v4), none, none, some (.long o7), none, none, none, none]) (st' := [.int (lg_cmp x2 (0))]) (h' := (HP I A L F E)) rfl).trans ?_
      refine (sg_if ht_X8_clears rfl).trans ?_
      refine ite_congr rfl (fun _ => ?_) (fun _ => ?_)
      · refine (sg_go ht_X8_clears (k := 3) (pc' := 72) (L' := [some (.ref 84), some (.int v1), some (.int v2), some (.int v3), some (.int v4), none, none, some (.long o7), none, none, none, none]) (st' := [.int v2, .ref 95]) (h' := (HP I A L F E)) rfl).trans ?_
        refine (sg_ldR ht_X8_clears rfl hp_o_95).trans ?_
        refine bind_cg fun a3 ha3 => ?_
        have ha3 := in_95 ha3
        refine (sg_go ht_X8_clears (k := 1) (pc' := 74) (L' := [some (.ref 84), some (.int v1), some (.int v2), some (.int v3), some (.int v4), none, none, some (.long o7), none, none, none, none]) (st' := [.int v2, .ref a3]) (h' := (HP I A L F E)) rfl).trans ?_
        refine (sg_ldL ht_X8_clears rfl (sMr_obj ha3)).trans ?_
        refine bind_cg fun x4 hx4 => ?_
        refine (sg_go ht_X8_clears (k := 4) (pc' := 83) (L' := [some (.ref 84), some (.int v1), some (.int v2), some (.int v3), some (.int v4), some (.long x4), none, some (.long o7), none, none, none, none]) (st' := [.int v4, .ref 95]) (h' := (HP I A L F E)) rfl).trans ?_
        refine (sg_ldR ht_X8_clears rfl hp_o_95).trans ?_
        refine bind_cg fun a5 ha5 => ?_
        have ha5 := in_95 ha5
        refine (sg_go ht_X8_clears (k := 1) (pc' := 85) (L' := [some (.ref 84), some (.int v1), some (.int v2), some (.int v3), some (.int v4), some (.long x4), none, some (.long o7), none, none, none, none]) (st' := [.int v2, .ref a5]) (h' := (HP I A L F E)) rfl).trans ?_
        refine (sg_ldL ht_X8_clears rfl (sMr_obj ha5)).trans ?_
        refine bind_cg fun x6 hx6 => ?_
        refine (sg_go ht_X8_clears (k := 5) (pc' := 94) (L' := [some (.ref 84), some (.int v1), some (.int v2), some (.int v3), some (.int v4), some (.long x4), none, some (.long x6), none, some (.long 0), none, some (.int 0)]) (st' := []) (h' := (HP I A L F E)) rfl).trans ?_
        rfl
      · refine (sg_go ht_X8_clears (k := 3) (pc' := 38) (L' := [some (.ref 84), some (.int v1), some (.int v2), some (.int v3), some (.int (v4 + 1)), none, none, some (.long o7), none, none, none, none]) (st' := []) (h' := (HP I A L F E)) rfl).trans ?_
        rfl
set_option maxRecDepth 20000 in
theorem sg_X8_clears_38_v0101 {I : Nat → Int32} {A : Nat → List Int32} {L : Nat → List Int64} {F : Nat → Int64} {E : MH} (v1 : Int32) (v2 : Int32) (v3 : Int32) (v4 : Int32) (o7 : Int64) (o11 : Int32) : mm_run G0 162 38 [some (.ref 84), some (.int v1), some (.int v2), some (.int v3), some (.int v4), none, none, some (.long o7), none, none, none, some (.int o11)] [] (HP I A L F E) = (if v1 ≤ v4 then mm_run G0 162 2 [some (.ref 84), some (.int v1), some (.int (v2 + 1)), some (.int v3), some (.int v4), none, none, some (.long o7), none, none, none, some (.int o11)] [] (HP I A L F E) else (if v4 = v2 then mm_run G0 162 38 [some (.ref 84), some (.int v1), some (.int v2), some (.int v3), some (.int (v4 + 1)), none, none, some (.long o7), none, none, none, some (.int o11)] [] (HP I A L F E) else ((ldR [some 96, some 97, some 98, some 99, some 100, some 101] v4).bind fun a1 => ((ldL (L a1) v2).bind fun x2 => (if (lg_cmp x2 (0)) ≠ 0 then ((ldR [some 96, some 97, some 98, some 99, some 100, some 101] v2).bind fun a3 => ((ldL (L a3) v2).bind fun x4 => ((ldR [some 96, some 97, some 98, some 99, some 100, some 101] v4).bind fun a5 => ((ldL (L a5) v2).bind fun x6 => mm_run G0 162 94 [some (.ref 84), some (.int v1), some (.int v2), some (.int v3), some (.int v4), some (.long x4), none, some (.long x6), none, some (.long 0), none, some (.int 0)] [] (HP I A L F E))))) else mm_run G0 162 38 [some (.ref 84), some (.int v1), some (.int v2), some (.int v3), some (.int (v4 + 1)), none, none, some (.long o7), none, none, none, some (.int o11)] [] (HP I A L F E)))))) := by
  refine (sg_go ht_X8_clears (k := 2) (pc' := 41) (L' := [some (.ref 84), some (.int v1), some (.int v2), some (.int v3), some (.int v4), none, none, some (.long o7), none, none, none, some (.int o11)]) (st' := [.int v1, .int v4]) (h' := (HP I A L F E)) rfl).trans ?_
  refine (sg_cmp ht_X8_clears rfl).trans ?_
  refine ite_congr rfl (fun _ => ?_) (fun _ => ?_)
  · refine (sg_go ht_X8_clears (k := 2) (pc' := 2) (L' := [some (.ref 84), some (.int v1), some (.int (v2 + 1)), some (.int v3), some (.int v4), none, none, some (.long o7), none, none, none, some (.int o11)]) (st' := []) (h' := (HP I A L F E)) rfl).trans ?_
    rfl
  · refine (sg_go ht_X8_clears (k := 2) (pc' := 47) (L' := [some (.ref 84), some (.int v1), some (.int v2), some (.int v3), some (.int v4), none, none, some (.long o7), none, none, none, some (.int o11)]) (st' := [.int v2, .int v4]) (h' := (HP I A L F E)) rfl).trans ?_
    refine (sg_cmp ht_X8_clears rfl).trans ?_
    refine ite_congr rfl (fun _ => ?_) (fun _ => ?_)
    · refine (sg_go ht_X8_clears (k := 2) (pc' := 38) (L' := [some (.ref 84), some (.int v1), some (.int v2), some (.int v3), some (.int (v4 + 1)), none, none, some (.long o7), none, none, none, some (.int o11)]) (st' := []) (h' := (HP I A L F E)) rfl).trans ?_
      rfl
    · refine (sg_go ht_X8_clears (k := 3) (pc' := 56) (L' := [some (.ref 84), some (.int v1), some (.int v2), some (.int v3), some (.int v4), none, none, some (.long o7), none, none, none, some (.int o11)]) (st' := [.int v4, .ref 95]) (h' := (HP I A L F E)) rfl).trans ?_
      refine (sg_ldR ht_X8_clears rfl hp_o_95).trans ?_
      refine bind_cg fun a1 ha1 => ?_
      have ha1 := in_95 ha1
      refine (sg_go ht_X8_clears (k := 1) (pc' := 58) (L' := [some (.ref 84), some (.int v1), some (.int v2), some (.int v3), some (.int v4), none, none, some (.long o7), none, none, none, some (.int o11)]) (st' := [.int v2, .ref a1]) (h' := (HP I A L F E)) rfl).trans ?_
      refine (sg_ldL ht_X8_clears rfl (sMr_obj ha1)).trans ?_
      refine bind_cg fun x2 hx2 => ?_
      refine (sg_go ht_X8_clears (k := 2) (pc' := 61) (L' := [some (.ref 84), some (.int v1), some (.int v2), some (.int v3), some (.int v4), none, none, some (.long o7), none, none, none, some (.int o11)]) (st' := [.int (lg_cmp x2 (0))]) (h' := (HP I A L F E)) rfl).trans ?_
      refine (sg_if ht_X8_clears rfl).trans ?_
      refine ite_congr rfl (fun _ => ?_) (fun _ => ?_)
      · refine (sg_go ht_X8_clears (k := 3) (pc' := 72) (L' := [some (.ref 84), some (.int v1), some (.int v2), some (.int v3), some (.int v4), none, none, some (.long o7), none, none, none, some (.int o11)]) (st' := [.int v2, .ref 95]) (h' := (HP I A L F E)) rfl).trans ?_
        refine (sg_ldR ht_X8_clears rfl hp_o_95).trans ?_
        refine bind_cg fun a3 ha3 => ?_
        have ha3 := in_95 ha3
        refine (sg_go ht_X8_clears (k := 1) (pc' := 74) (L' := [some (.ref 84), some (.int v1), some (.int v2), some (.int v3), some (.int v4), none, none, some (.long o7), none, none, none, some (.int o11)]) (st' := [.int v2, .ref a3]) (h' := (HP I A L F E)) rfl).trans ?_
        refine (sg_ldL ht_X8_clears rfl (sMr_obj ha3)).trans ?_
        refine bind_cg fun x4 hx4 => ?_
        refine (sg_go ht_X8_clears (k := 4) (pc' := 83) (L' := [some (.ref 84), some (.int v1), some (.int v2), some (.int v3), some (.int v4), some (.long x4), none, some (.long o7), none, none, none, some (.int o11)]) (st' := [.int v4, .ref 95]) (h' := (HP I A L F E)) rfl).trans ?_
        refine (sg_ldR ht_X8_clears rfl hp_o_95).trans ?_
        refine bind_cg fun a5 ha5 => ?_
        have ha5 := in_95 ha5
        refine (sg_go ht_X8_clears (k := 1) (pc' := 85) (L' := [some (.ref 84), some (.int v1), some (.int v2), some (.int v3), some (.int v4), some (.long x4), none, some (.long o7), none, none, none, some (.int o11)]) (st' := [.int v2, .ref a5]) (h' := (HP I A L F E)) rfl).trans ?_
        refine (sg_ldL ht_X8_clears rfl (sMr_obj ha5)).trans ?_
        refine bind_cg fun x6 hx6 => ?_
        refine (sg_go ht_X8_clears (k := 5) (pc' := 94) (L' := [some (.ref 84), some (.int v1), some (.int v2), some (.int v3), some (.int v4), some (.long x4), none, some (.long x6), none, some (.long 0), none, some (.int 0)]) (st' := []) (h' := (HP I A L F E)) rfl).trans ?_
        rfl
      · refine (sg_go ht_X8_clears (k := 3) (pc' := 38) (L' := [some (.ref 84), some (.int v1), some (.int v2), some (.int v3), some (.int (v4 + 1)), none, none, some (.long o7), none, none, none, some (.int o11)]) (st' := []) (h' := (HP I A L F E)) rfl).trans ?_
        rfl
set_option maxRecDepth 20000 in
theorem sg_X8_clears_38_v0110 {I : Nat → Int32} {A : Nat → List Int32} {L : Nat → List Int64} {F : Nat → Int64} {E : MH} (v1 : Int32) (v2 : Int32) (v3 : Int32) (v4 : Int32) (o7 : Int64) (o9 : Int64) : mm_run G0 162 38 [some (.ref 84), some (.int v1), some (.int v2), some (.int v3), some (.int v4), none, none, some (.long o7), none, some (.long o9), none, none] [] (HP I A L F E) = (if v1 ≤ v4 then mm_run G0 162 2 [some (.ref 84), some (.int v1), some (.int (v2 + 1)), some (.int v3), some (.int v4), none, none, some (.long o7), none, some (.long o9), none, none] [] (HP I A L F E) else (if v4 = v2 then mm_run G0 162 38 [some (.ref 84), some (.int v1), some (.int v2), some (.int v3), some (.int (v4 + 1)), none, none, some (.long o7), none, some (.long o9), none, none] [] (HP I A L F E) else ((ldR [some 96, some 97, some 98, some 99, some 100, some 101] v4).bind fun a1 => ((ldL (L a1) v2).bind fun x2 => (if (lg_cmp x2 (0)) ≠ 0 then ((ldR [some 96, some 97, some 98, some 99, some 100, some 101] v2).bind fun a3 => ((ldL (L a3) v2).bind fun x4 => ((ldR [some 96, some 97, some 98, some 99, some 100, some 101] v4).bind fun a5 => ((ldL (L a5) v2).bind fun x6 => mm_run G0 162 94 [some (.ref 84), some (.int v1), some (.int v2), some (.int v3), some (.int v4), some (.long x4), none, some (.long x6), none, some (.long 0), none, some (.int 0)] [] (HP I A L F E))))) else mm_run G0 162 38 [some (.ref 84), some (.int v1), some (.int v2), some (.int v3), some (.int (v4 + 1)), none, none, some (.long o7), none, some (.long o9), none, none] [] (HP I A L F E)))))) := by
  refine (sg_go ht_X8_clears (k := 2) (pc' := 41) (L' := [some (.ref 84), some (.int v1), some (.int v2), some (.int v3), some (.int v4), none, none, some (.long o7), none, some (.long o9), none, none]) (st' := [.int v1, .int v4]) (h' := (HP I A L F E)) rfl).trans ?_
  refine (sg_cmp ht_X8_clears rfl).trans ?_
  refine ite_congr rfl (fun _ => ?_) (fun _ => ?_)
  · refine (sg_go ht_X8_clears (k := 2) (pc' := 2) (L' := [some (.ref 84), some (.int v1), some (.int (v2 + 1)), some (.int v3), some (.int v4), none, none, some (.long o7), none, some (.long o9), none, none]) (st' := []) (h' := (HP I A L F E)) rfl).trans ?_
    rfl
  · refine (sg_go ht_X8_clears (k := 2) (pc' := 47) (L' := [some (.ref 84), some (.int v1), some (.int v2), some (.int v3), some (.int v4), none, none, some (.long o7), none, some (.long o9), none, none]) (st' := [.int v2, .int v4]) (h' := (HP I A L F E)) rfl).trans ?_
    refine (sg_cmp ht_X8_clears rfl).trans ?_
    refine ite_congr rfl (fun _ => ?_) (fun _ => ?_)
    · refine (sg_go ht_X8_clears (k := 2) (pc' := 38) (L' := [some (.ref 84), some (.int v1), some (.int v2), some (.int v3), some (.int (v4 + 1)), none, none, some (.long o7), none, some (.long o9), none, none]) (st' := []) (h' := (HP I A L F E)) rfl).trans ?_
      rfl
    · refine (sg_go ht_X8_clears (k := 3) (pc' := 56) (L' := [some (.ref 84), some (.int v1), some (.int v2), some (.int v3), some (.int v4), none, none, some (.long o7), none, some (.long o9), none, none]) (st' := [.int v4, .ref 95]) (h' := (HP I A L F E)) rfl).trans ?_
      refine (sg_ldR ht_X8_clears rfl hp_o_95).trans ?_
      refine bind_cg fun a1 ha1 => ?_
      have ha1 := in_95 ha1
      refine (sg_go ht_X8_clears (k := 1) (pc' := 58) (L' := [some (.ref 84), some (.int v1), some (.int v2), some (.int v3), some (.int v4), none, none, some (.long o7), none, some (.long o9), none, none]) (st' := [.int v2, .ref a1]) (h' := (HP I A L F E)) rfl).trans ?_
      refine (sg_ldL ht_X8_clears rfl (sMr_obj ha1)).trans ?_
      refine bind_cg fun x2 hx2 => ?_
      refine (sg_go ht_X8_clears (k := 2) (pc' := 61) (L' := [some (.ref 84), some (.int v1), some (.int v2), some (.int v3), some (.int v4), none, none, some (.long o7), none, some (.long o9), none, none]) (st' := [.int (lg_cmp x2 (0))]) (h' := (HP I A L F E)) rfl).trans ?_
      refine (sg_if ht_X8_clears rfl).trans ?_
      refine ite_congr rfl (fun _ => ?_) (fun _ => ?_)
      · refine (sg_go ht_X8_clears (k := 3) (pc' := 72) (L' := [some (.ref 84), some (.int v1), some (.int v2), some (.int v3), some (.int v4), none, none, some (.long o7), none, some (.long o9), none, none]) (st' := [.int v2, .ref 95]) (h' := (HP I A L F E)) rfl).trans ?_
        refine (sg_ldR ht_X8_clears rfl hp_o_95).trans ?_
        refine bind_cg fun a3 ha3 => ?_
        have ha3 := in_95 ha3
        refine (sg_go ht_X8_clears (k := 1) (pc' := 74) (L' := [some (.ref 84), some (.int v1), some (.int v2), some (.int v3), some (.int v4), none, none, some (.long o7), none, some (.long o9), none, none]) (st' := [.int v2, .ref a3]) (h' := (HP I A L F E)) rfl).trans ?_
        refine (sg_ldL ht_X8_clears rfl (sMr_obj ha3)).trans ?_
        refine bind_cg fun x4 hx4 => ?_
        refine (sg_go ht_X8_clears (k := 4) (pc' := 83) (L' := [some (.ref 84), some (.int v1), some (.int v2), some (.int v3), some (.int v4), some (.long x4), none, some (.long o7), none, some (.long o9), none, none]) (st' := [.int v4, .ref 95]) (h' := (HP I A L F E)) rfl).trans ?_
        refine (sg_ldR ht_X8_clears rfl hp_o_95).trans ?_
        refine bind_cg fun a5 ha5 => ?_
        have ha5 := in_95 ha5
        refine (sg_go ht_X8_clears (k := 1) (pc' := 85) (L' := [some (.ref 84), some (.int v1), some (.int v2), some (.int v3), some (.int v4), some (.long x4), none, some (.long o7), none, some (.long o9), none, none]) (st' := [.int v2, .ref a5]) (h' := (HP I A L F E)) rfl).trans ?_
        refine (sg_ldL ht_X8_clears rfl (sMr_obj ha5)).trans ?_
        refine bind_cg fun x6 hx6 => ?_
        refine (sg_go ht_X8_clears (k := 5) (pc' := 94) (L' := [some (.ref 84), some (.int v1), some (.int v2), some (.int v3), some (.int v4), some (.long x4), none, some (.long x6), none, some (.long 0), none, some (.int 0)]) (st' := []) (h' := (HP I A L F E)) rfl).trans ?_
        rfl
      · refine (sg_go ht_X8_clears (k := 3) (pc' := 38) (L' := [some (.ref 84), some (.int v1), some (.int v2), some (.int v3), some (.int (v4 + 1)), none, none, some (.long o7), none, some (.long o9), none, none]) (st' := []) (h' := (HP I A L F E)) rfl).trans ?_
        rfl
set_option maxRecDepth 20000 in
theorem sg_X8_clears_38_v0111 {I : Nat → Int32} {A : Nat → List Int32} {L : Nat → List Int64} {F : Nat → Int64} {E : MH} (v1 : Int32) (v2 : Int32) (v3 : Int32) (v4 : Int32) (o7 : Int64) (o9 : Int64) (o11 : Int32) : mm_run G0 162 38 [some (.ref 84), some (.int v1), some (.int v2), some (.int v3), some (.int v4), none, none, some (.long o7), none, some (.long o9), none, some (.int o11)] [] (HP I A L F E) = (if v1 ≤ v4 then mm_run G0 162 2 [some (.ref 84), some (.int v1), some (.int (v2 + 1)), some (.int v3), some (.int v4), none, none, some (.long o7), none, some (.long o9), none, some (.int o11)] [] (HP I A L F E) else (if v4 = v2 then mm_run G0 162 38 [some (.ref 84), some (.int v1), some (.int v2), some (.int v3), some (.int (v4 + 1)), none, none, some (.long o7), none, some (.long o9), none, some (.int o11)] [] (HP I A L F E) else ((ldR [some 96, some 97, some 98, some 99, some 100, some 101] v4).bind fun a1 => ((ldL (L a1) v2).bind fun x2 => (if (lg_cmp x2 (0)) ≠ 0 then ((ldR [some 96, some 97, some 98, some 99, some 100, some 101] v2).bind fun a3 => ((ldL (L a3) v2).bind fun x4 => ((ldR [some 96, some 97, some 98, some 99, some 100, some 101] v4).bind fun a5 => ((ldL (L a5) v2).bind fun x6 => mm_run G0 162 94 [some (.ref 84), some (.int v1), some (.int v2), some (.int v3), some (.int v4), some (.long x4), none, some (.long x6), none, some (.long 0), none, some (.int 0)] [] (HP I A L F E))))) else mm_run G0 162 38 [some (.ref 84), some (.int v1), some (.int v2), some (.int v3), some (.int (v4 + 1)), none, none, some (.long o7), none, some (.long o9), none, some (.int o11)] [] (HP I A L F E)))))) := by
  refine (sg_go ht_X8_clears (k := 2) (pc' := 41) (L' := [some (.ref 84), some (.int v1), some (.int v2), some (.int v3), some (.int v4), none, none, some (.long o7), none, some (.long o9), none, some (.int o11)]) (st' := [.int v1, .int v4]) (h' := (HP I A L F E)) rfl).trans ?_
  refine (sg_cmp ht_X8_clears rfl).trans ?_
  refine ite_congr rfl (fun _ => ?_) (fun _ => ?_)
  · refine (sg_go ht_X8_clears (k := 2) (pc' := 2) (L' := [some (.ref 84), some (.int v1), some (.int (v2 + 1)), some (.int v3), some (.int v4), none, none, some (.long o7), none, some (.long o9), none, some (.int o11)]) (st' := []) (h' := (HP I A L F E)) rfl).trans ?_
    rfl
  · refine (sg_go ht_X8_clears (k := 2) (pc' := 47) (L' := [some (.ref 84), some (.int v1), some (.int v2), some (.int v3), some (.int v4), none, none, some (.long o7), none, some (.long o9), none, some (.int o11)]) (st' := [.int v2, .int v4]) (h' := (HP I A L F E)) rfl).trans ?_
    refine (sg_cmp ht_X8_clears rfl).trans ?_
    refine ite_congr rfl (fun _ => ?_) (fun _ => ?_)
    · refine (sg_go ht_X8_clears (k := 2) (pc' := 38) (L' := [some (.ref 84), some (.int v1), some (.int v2), some (.int v3), some (.int (v4 + 1)), none, none, some (.long o7), none, some (.long o9), none, some (.int o11)]) (st' := []) (h' := (HP I A L F E)) rfl).trans ?_
      rfl
    · refine (sg_go ht_X8_clears (k := 3) (pc' := 56) (L' := [some (.ref 84), some (.int v1), some (.int v2), some (.int v3), some (.int v4), none, none, some (.long o7), none, some (.long o9), none, some (.int o11)]) (st' := [.int v4, .ref 95]) (h' := (HP I A L F E)) rfl).trans ?_
      refine (sg_ldR ht_X8_clears rfl hp_o_95).trans ?_
      refine bind_cg fun a1 ha1 => ?_
      have ha1 := in_95 ha1
      refine (sg_go ht_X8_clears (k := 1) (pc' := 58) (L' := [some (.ref 84), some (.int v1), some (.int v2), some (.int v3), some (.int v4), none, none, some (.long o7), none, some (.long o9), none, some (.int o11)]) (st' := [.int v2, .ref a1]) (h' := (HP I A L F E)) rfl).trans ?_
      refine (sg_ldL ht_X8_clears rfl (sMr_obj ha1)).trans ?_
      refine bind_cg fun x2 hx2 => ?_
      refine (sg_go ht_X8_clears (k := 2) (pc' := 61) (L' := [some (.ref 84), some (.int v1), some (.int v2), some (.int v3), some (.int v4), none, none, some (.long o7), none, some (.long o9), none, some (.int o11)]) (st' := [.int (lg_cmp x2 (0))]) (h' := (HP I A L F E)) rfl).trans ?_
      refine (sg_if ht_X8_clears rfl).trans ?_
      refine ite_congr rfl (fun _ => ?_) (fun _ => ?_)
      · refine (sg_go ht_X8_clears (k := 3) (pc' := 72) (L' := [some (.ref 84), some (.int v1), some (.int v2), some (.int v3), some (.int v4), none, none, some (.long o7), none, some (.long o9), none, some (.int o11)]) (st' := [.int v2, .ref 95]) (h' := (HP I A L F E)) rfl).trans ?_
        refine (sg_ldR ht_X8_clears rfl hp_o_95).trans ?_
        refine bind_cg fun a3 ha3 => ?_
        have ha3 := in_95 ha3
        refine (sg_go ht_X8_clears (k := 1) (pc' := 74) (L' := [some (.ref 84), some (.int v1), some (.int v2), some (.int v3), some (.int v4), none, none, some (.long o7), none, some (.long o9), none, some (.int o11)]) (st' := [.int v2, .ref a3]) (h' := (HP I A L F E)) rfl).trans ?_
        refine (sg_ldL ht_X8_clears rfl (sMr_obj ha3)).trans ?_
        refine bind_cg fun x4 hx4 => ?_
        refine (sg_go ht_X8_clears (k := 4) (pc' := 83) (L' := [some (.ref 84), some (.int v1), some (.int v2), some (.int v3), some (.int v4), some (.long x4), none, some (.long o7), none, some (.long o9), none, some (.int o11)]) (st' := [.int v4, .ref 95]) (h' := (HP I A L F E)) rfl).trans ?_
        refine (sg_ldR ht_X8_clears rfl hp_o_95).trans ?_
        refine bind_cg fun a5 ha5 => ?_
        have ha5 := in_95 ha5
        refine (sg_go ht_X8_clears (k := 1) (pc' := 85) (L' := [some (.ref 84), some (.int v1), some (.int v2), some (.int v3), some (.int v4), some (.long x4), none, some (.long o7), none, some (.long o9), none, some (.int o11)]) (st' := [.int v2, .ref a5]) (h' := (HP I A L F E)) rfl).trans ?_
        refine (sg_ldL ht_X8_clears rfl (sMr_obj ha5)).trans ?_
        refine bind_cg fun x6 hx6 => ?_
        refine (sg_go ht_X8_clears (k := 5) (pc' := 94) (L' := [some (.ref 84), some (.int v1), some (.int v2), some (.int v3), some (.int v4), some (.long x4), none, some (.long x6), none, some (.long 0), none, some (.int 0)]) (st' := []) (h' := (HP I A L F E)) rfl).trans ?_
        rfl
      · refine (sg_go ht_X8_clears (k := 3) (pc' := 38) (L' := [some (.ref 84), some (.int v1), some (.int v2), some (.int v3), some (.int (v4 + 1)), none, none, some (.long o7), none, some (.long o9), none, some (.int o11)]) (st' := []) (h' := (HP I A L F E)) rfl).trans ?_
        rfl
set_option maxRecDepth 20000 in
theorem sg_X8_clears_38_v1000 {I : Nat → Int32} {A : Nat → List Int32} {L : Nat → List Int64} {F : Nat → Int64} {E : MH} (v1 : Int32) (v2 : Int32) (v3 : Int32) (v4 : Int32) (o5 : Int64) : mm_run G0 162 38 [some (.ref 84), some (.int v1), some (.int v2), some (.int v3), some (.int v4), some (.long o5), none, none, none, none, none, none] [] (HP I A L F E) = (if v1 ≤ v4 then mm_run G0 162 2 [some (.ref 84), some (.int v1), some (.int (v2 + 1)), some (.int v3), some (.int v4), some (.long o5), none, none, none, none, none, none] [] (HP I A L F E) else (if v4 = v2 then mm_run G0 162 38 [some (.ref 84), some (.int v1), some (.int v2), some (.int v3), some (.int (v4 + 1)), some (.long o5), none, none, none, none, none, none] [] (HP I A L F E) else ((ldR [some 96, some 97, some 98, some 99, some 100, some 101] v4).bind fun a1 => ((ldL (L a1) v2).bind fun x2 => (if (lg_cmp x2 (0)) ≠ 0 then ((ldR [some 96, some 97, some 98, some 99, some 100, some 101] v2).bind fun a3 => ((ldL (L a3) v2).bind fun x4 => ((ldR [some 96, some 97, some 98, some 99, some 100, some 101] v4).bind fun a5 => ((ldL (L a5) v2).bind fun x6 => mm_run G0 162 94 [some (.ref 84), some (.int v1), some (.int v2), some (.int v3), some (.int v4), some (.long x4), none, some (.long x6), none, some (.long 0), none, some (.int 0)] [] (HP I A L F E))))) else mm_run G0 162 38 [some (.ref 84), some (.int v1), some (.int v2), some (.int v3), some (.int (v4 + 1)), some (.long o5), none, none, none, none, none, none] [] (HP I A L F E)))))) := by
  refine (sg_go ht_X8_clears (k := 2) (pc' := 41) (L' := [some (.ref 84), some (.int v1), some (.int v2), some (.int v3), some (.int v4), some (.long o5), none, none, none, none, none, none]) (st' := [.int v1, .int v4]) (h' := (HP I A L F E)) rfl).trans ?_
  refine (sg_cmp ht_X8_clears rfl).trans ?_
  refine ite_congr rfl (fun _ => ?_) (fun _ => ?_)
  · refine (sg_go ht_X8_clears (k := 2) (pc' := 2) (L' := [some (.ref 84), some (.int v1), some (.int (v2 + 1)), some (.int v3), some (.int v4), some (.long o5), none, none, none, none, none, none]) (st' := []) (h' := (HP I A L F E)) rfl).trans ?_
    rfl
  · refine (sg_go ht_X8_clears (k := 2) (pc' := 47) (L' := [some (.ref 84), some (.int v1), some (.int v2), some (.int v3), some (.int v4), some (.long o5), none, none, none, none, none, none]) (st' := [.int v2, .int v4]) (h' := (HP I A L F E)) rfl).trans ?_
    refine (sg_cmp ht_X8_clears rfl).trans ?_
    refine ite_congr rfl (fun _ => ?_) (fun _ => ?_)
    · refine (sg_go ht_X8_clears (k := 2) (pc' := 38) (L' := [some (.ref 84), some (.int v1), some (.int v2), some (.int v3), some (.int (v4 + 1)), some (.long o5), none, none, none, none, none, none]) (st' := []) (h' := (HP I A L F E)) rfl).trans ?_
      rfl
    · refine (sg_go ht_X8_clears (k := 3) (pc' := 56) (L' := [some (.ref 84), some (.int v1), some (.int v2), some (.int v3), some (.int v4), some (.long o5), none, none, none, none, none, none]) (st' := [.int v4, .ref 95]) (h' := (HP I A L F E)) rfl).trans ?_
      refine (sg_ldR ht_X8_clears rfl hp_o_95).trans ?_
      refine bind_cg fun a1 ha1 => ?_
      have ha1 := in_95 ha1
      refine (sg_go ht_X8_clears (k := 1) (pc' := 58) (L' := [some (.ref 84), some (.int v1), some (.int v2), some (.int v3), some (.int v4), some (.long o5), none, none, none, none, none, none]) (st' := [.int v2, .ref a1]) (h' := (HP I A L F E)) rfl).trans ?_
      refine (sg_ldL ht_X8_clears rfl (sMr_obj ha1)).trans ?_
      refine bind_cg fun x2 hx2 => ?_
      refine (sg_go ht_X8_clears (k := 2) (pc' := 61) (L' := [some (.ref 84), some (.int v1), some (.int v2), some (.int v3), some (.int v4), some (.long o5), none, none, none, none, none, none]) (st' := [.int (lg_cmp x2 (0))]) (h' := (HP I A L F E)) rfl).trans ?_
      refine (sg_if ht_X8_clears rfl).trans ?_
      refine ite_congr rfl (fun _ => ?_) (fun _ => ?_)
      · refine (sg_go ht_X8_clears (k := 3) (pc' := 72) (L' := [some (.ref 84), some (.int v1), some (.int v2), some (.int v3), some (.int v4), some (.long o5), none, none, none, none, none, none]) (st' := [.int v2, .ref 95]) (h' := (HP I A L F E)) rfl).trans ?_
        refine (sg_ldR ht_X8_clears rfl hp_o_95).trans ?_
        refine bind_cg fun a3 ha3 => ?_
        have ha3 := in_95 ha3
        refine (sg_go ht_X8_clears (k := 1) (pc' := 74) (L' := [some (.ref 84), some (.int v1), some (.int v2), some (.int v3), some (.int v4), some (.long o5), none, none, none, none, none, none]) (st' := [.int v2, .ref a3]) (h' := (HP I A L F E)) rfl).trans ?_
        refine (sg_ldL ht_X8_clears rfl (sMr_obj ha3)).trans ?_
        refine bind_cg fun x4 hx4 => ?_
        refine (sg_go ht_X8_clears (k := 4) (pc' := 83) (L' := [some (.ref 84), some (.int v1), some (.int v2), some (.int v3), some (.int v4), some (.long x4), none, none, none, none, none, none]) (st' := [.int v4, .ref 95]) (h' := (HP I A L F E)) rfl).trans ?_
        refine (sg_ldR ht_X8_clears rfl hp_o_95).trans ?_
        refine bind_cg fun a5 ha5 => ?_
        have ha5 := in_95 ha5
        refine (sg_go ht_X8_clears (k := 1) (pc' := 85) (L' := [some (.ref 84), some (.int v1), some (.int v2), some (.int v3), some (.int v4), some (.long x4), none, none, none, none, none, none]) (st' := [.int v2, .ref a5]) (h' := (HP I A L F E)) rfl).trans ?_
        refine (sg_ldL ht_X8_clears rfl (sMr_obj ha5)).trans ?_
        refine bind_cg fun x6 hx6 => ?_
        refine (sg_go ht_X8_clears (k := 5) (pc' := 94) (L' := [some (.ref 84), some (.int v1), some (.int v2), some (.int v3), some (.int v4), some (.long x4), none, some (.long x6), none, some (.long 0), none, some (.int 0)]) (st' := []) (h' := (HP I A L F E)) rfl).trans ?_
        rfl
      · refine (sg_go ht_X8_clears (k := 3) (pc' := 38) (L' := [some (.ref 84), some (.int v1), some (.int v2), some (.int v3), some (.int (v4 + 1)), some (.long o5), none, none, none, none, none, none]) (st' := []) (h' := (HP I A L F E)) rfl).trans ?_
        rfl
set_option maxRecDepth 20000 in
theorem sg_X8_clears_38_v1001 {I : Nat → Int32} {A : Nat → List Int32} {L : Nat → List Int64} {F : Nat → Int64} {E : MH} (v1 : Int32) (v2 : Int32) (v3 : Int32) (v4 : Int32) (o5 : Int64) (o11 : Int32) : mm_run G0 162 38 [some (.ref 84), some (.int v1), some (.int v2), some (.int v3), some (.int v4), some (.long o5), none, none, none, none, none, some (.int o11)] [] (HP I A L F E) = (if v1 ≤ v4 then mm_run G0 162 2 [some (.ref 84), some (.int v1), some (.int (v2 + 1)), some (.int v3), some (.int v4), some (.long o5), none, none, none, none, none, some (.int o11)] [] (HP I A L F E) else (if v4 = v2 then mm_run G0 162 38 [some (.ref 84), some (.int v1), some (.int v2), some (.int v3), some (.int (v4 + 1)), some (.long o5), none, none, none, none, none, some (.int o11)] [] (HP I A L F E) else ((ldR [some 96, some 97, some 98, some 99, some 100, some 101] v4).bind fun a1 => ((ldL (L a1) v2).bind fun x2 => (if (lg_cmp x2 (0)) ≠ 0 then ((ldR [some 96, some 97, some 98, some 99, some 100, some 101] v2).bind fun a3 => ((ldL (L a3) v2).bind fun x4 => ((ldR [some 96, some 97, some 98, some 99, some 100, some 101] v4).bind fun a5 => ((ldL (L a5) v2).bind fun x6 => mm_run G0 162 94 [some (.ref 84), some (.int v1), some (.int v2), some (.int v3), some (.int v4), some (.long x4), none, some (.long x6), none, some (.long 0), none, some (.int 0)] [] (HP I A L F E))))) else mm_run G0 162 38 [some (.ref 84), some (.int v1), some (.int v2), some (.int v3), some (.int (v4 + 1)), some (.long o5), none, none, none, none, none, some (.int o11)] [] (HP I A L F E)))))) := by
  refine (sg_go ht_X8_clears (k := 2) (pc' := 41) (L' := [some (.ref 84), some (.int v1), some (.int v2), some (.int v3), some (.int v4), some (.long o5), none, none, none, none, none, some (.int o11)]) (st' := [.int v1, .int v4]) (h' := (HP I A L F E)) rfl).trans ?_
  refine (sg_cmp ht_X8_clears rfl).trans ?_
  refine ite_congr rfl (fun _ => ?_) (fun _ => ?_)
  · refine (sg_go ht_X8_clears (k := 2) (pc' := 2) (L' := [some (.ref 84), some (.int v1), some (.int (v2 + 1)), some (.int v3), some (.int v4), some (.long o5), none, none, none, none, none, some (.int o11)]) (st' := []) (h' := (HP I A L F E)) rfl).trans ?_
    rfl
  · refine (sg_go ht_X8_clears (k := 2) (pc' := 47) (L' := [some (.ref 84), some (.int v1), some (.int v2), some (.int v3), some (.int v4), some (.long o5), none, none, none, none, none, some (.int o11)]) (st' := [.int v2, .int v4]) (h' := (HP I A L F E)) rfl).trans ?_
    refine (sg_cmp ht_X8_clears rfl).trans ?_
    refine ite_congr rfl (fun _ => ?_) (fun _ => ?_)
    · refine (sg_go ht_X8_clears (k := 2) (pc' := 38) (L' := [some (.ref 84), some (.int v1), some (.int v2), some (.int v3), some (.int (v4 + 1)), some (.long o5), none, none, none, none, none, some (.int o11)]) (st' := []) (h' := (HP I A L F E)) rfl).trans ?_
      rfl
    · refine (sg_go ht_X8_clears (k := 3) (pc' := 56) (L' := [some (.ref 84), some (.int v1), some (.int v2), some (.int v3), some (.int v4), some (.long o5), none, none, none, none, none, some (.int o11)]) (st' := [.int v4, .ref 95]) (h' := (HP I A L F E)) rfl).trans ?_
      refine (sg_ldR ht_X8_clears rfl hp_o_95).trans ?_
      refine bind_cg fun a1 ha1 => ?_
      have ha1 := in_95 ha1
      refine (sg_go ht_X8_clears (k := 1) (pc' := 58) (L' := [some (.ref 84), some (.int v1), some (.int v2), some (.int v3), some (.int v4), some (.long o5), none, none, none, none, none, some (.int o11)]) (st' := [.int v2, .ref a1]) (h' := (HP I A L F E)) rfl).trans ?_
      refine (sg_ldL ht_X8_clears rfl (sMr_obj ha1)).trans ?_
      refine bind_cg fun x2 hx2 => ?_
      refine (sg_go ht_X8_clears (k := 2) (pc' := 61) (L' := [some (.ref 84), some (.int v1), some (.int v2), some (.int v3), some (.int v4), some (.long o5), none, none, none, none, none, some (.int o11)]) (st' := [.int (lg_cmp x2 (0))]) (h' := (HP I A L F E)) rfl).trans ?_
      refine (sg_if ht_X8_clears rfl).trans ?_
      refine ite_congr rfl (fun _ => ?_) (fun _ => ?_)
      · refine (sg_go ht_X8_clears (k := 3) (pc' := 72) (L' := [some (.ref 84), some (.int v1), some (.int v2), some (.int v3), some (.int v4), some (.long o5), none, none, none, none, none, some (.int o11)]) (st' := [.int v2, .ref 95]) (h' := (HP I A L F E)) rfl).trans ?_
        refine (sg_ldR ht_X8_clears rfl hp_o_95).trans ?_
        refine bind_cg fun a3 ha3 => ?_
        have ha3 := in_95 ha3
        refine (sg_go ht_X8_clears (k := 1) (pc' := 74) (L' := [some (.ref 84), some (.int v1), some (.int v2), some (.int v3), some (.int v4), some (.long o5), none, none, none, none, none, some (.int o11)]) (st' := [.int v2, .ref a3]) (h' := (HP I A L F E)) rfl).trans ?_
        refine (sg_ldL ht_X8_clears rfl (sMr_obj ha3)).trans ?_
        refine bind_cg fun x4 hx4 => ?_
        refine (sg_go ht_X8_clears (k := 4) (pc' := 83) (L' := [some (.ref 84), some (.int v1), some (.int v2), some (.int v3), some (.int v4), some (.long x4), none, none, none, none, none, some (.int o11)]) (st' := [.int v4, .ref 95]) (h' := (HP I A L F E)) rfl).trans ?_
        refine (sg_ldR ht_X8_clears rfl hp_o_95).trans ?_
        refine bind_cg fun a5 ha5 => ?_
        have ha5 := in_95 ha5
        refine (sg_go ht_X8_clears (k := 1) (pc' := 85) (L' := [some (.ref 84), some (.int v1), some (.int v2), some (.int v3), some (.int v4), some (.long x4), none, none, none, none, none, some (.int o11)]) (st' := [.int v2, .ref a5]) (h' := (HP I A L F E)) rfl).trans ?_
        refine (sg_ldL ht_X8_clears rfl (sMr_obj ha5)).trans ?_
        refine bind_cg fun x6 hx6 => ?_
        refine (sg_go ht_X8_clears (k := 5) (pc' := 94) (L' := [some (.ref 84), some (.int v1), some (.int v2), some (.int v3), some (.int v4), some (.long x4), none, some (.long x6), none, some (.long 0), none, some (.int 0)]) (st' := []) (h' := (HP I A L F E)) rfl).trans ?_
        rfl
      · refine (sg_go ht_X8_clears (k := 3) (pc' := 38) (L' := [some (.ref 84), some (.int v1), some (.int v2), some (.int v3), some (.int (v4 + 1)), some (.long o5), none, none, none, none, none, some (.int o11)]) (st' := []) (h' := (HP I A L F E)) rfl).trans ?_
        rfl
set_option maxRecDepth 20000 in
theorem sg_X8_clears_38_v1010 {I : Nat → Int32} {A : Nat → List Int32} {L : Nat → List Int64} {F : Nat → Int64} {E : MH} (v1 : Int32) (v2 : Int32) (v3 : Int32) (v4 : Int32) (o5 : Int64) (o9 : Int64) : mm_run G0 162 38 [some (.ref 84), some (.int v1), some (.int v2), some (.int v3), some (.int v4), some (.long o5), none, none, none, some (.long o9), none, none] [] (HP I A L F E) = (if v1 ≤ v4 then mm_run G0 162 2 [some (.ref 84), some (.int v1), some (.int (v2 + 1)), some (.int v3), some (.int v4), some (.long o5), none, none, none, some (.long o9), none, none] [] (HP I A L F E) else (if v4 = v2 then mm_run G0 162 38 [some (.ref 84), some (.int v1), some (.int v2), some (.int v3), some (.int (v4 + 1)), some (.long o5), none, none, none, some (.long o9), none, none] [] (HP I A L F E) else ((ldR [some 96, some 97, some 98, some 99, some 100, some 101] v4).bind fun a1 => ((ldL (L a1) v2).bind fun x2 => (if (lg_cmp x2 (0)) ≠ 0 then ((ldR [some 96, some 97, some 98, some 99, some 100, some 101] v2).bind fun a3 => ((ldL (L a3) v2).bind fun x4 => ((ldR [some 96, some 97, some 98, some 99, some 100, some 101] v4).bind fun a5 => ((ldL (L a5) v2).bind fun x6 => mm_run G0 162 94 [some (.ref 84), some (.int v1), some (.int v2), some (.int v3), some (.int v4), some (.long x4), none, some (.long x6), none, some (.long 0), none, some (.int 0)] [] (HP I A L F E))))) else mm_run G0 162 38 [some (.ref 84), some (.int v1), some (.int v2), some (.int v3), some (.int (v4 + 1)), some (.long o5), none, none, none, some (.long o9), none, none] [] (HP I A L F E)))))) := by
  refine (sg_go ht_X8_clears (k := 2) (pc' := 41) (L' := [some (.ref 84), some (.int v1), some (.int v2), some (.int v3), some (.int v4), some (.long o5), none, none, none, some (.long o9), none, none]) (st' := [.int v1, .int v4]) (h' := (HP I A L F E)) rfl).trans ?_
  refine (sg_cmp ht_X8_clears rfl).trans ?_
  refine ite_congr rfl (fun _ => ?_) (fun _ => ?_)
  · refine (sg_go ht_X8_clears (k := 2) (pc' := 2) (L' := [some (.ref 84), some (.int v1), some (.int (v2 + 1)), some (.int v3), some (.int v4), some (.long o5), none, none, none, some (.long o9), none, none]) (st' := []) (h' := (HP I A L F E)) rfl).trans ?_
    rfl
  · refine (sg_go ht_X8_clears (k := 2) (pc' := 47) (L' := [some (.ref 84), some (.int v1), some (.int v2), some (.int v3), some (.int v4), some (.long o5), none, none, none, some (.long o9), none, none]) (st' := [.int v2, .int v4]) (h' := (HP I A L F E)) rfl).trans ?_
    refine (sg_cmp ht_X8_clears rfl).trans ?_
    refine ite_congr rfl (fun _ => ?_) (fun _ => ?_)
    · refine (sg_go ht_X8_clears (k := 2) (pc' := 38) (L' := [some (.ref 84), some (.int v1), some (.int v2), some (.int v3), some (.int (v4 + 1)), some (.long o5), none, none, none, some (.long o9), none, none]) (st' := []) (h' := (HP I A L F E)) rfl).trans ?_
      rfl
    · refine (sg_go ht_X8_clears (k := 3) (pc' := 56) (L' := [some (.ref 84), some (.int v1), some (.int v2), some (.int v3), some (.int v4), some (.long o5), none, none, none, some (.long o9), none, none]) (st' := [.int v4, .ref 95]) (h' := (HP I A L F E)) rfl).trans ?_
      refine (sg_ldR ht_X8_clears rfl hp_o_95).trans ?_
      refine bind_cg fun a1 ha1 => ?_
      have ha1 := in_95 ha1
      refine (sg_go ht_X8_clears (k := 1) (pc' := 58) (L' := [some (.ref 84), some (.int v1), some (.int v2), some (.int v3), some (.int v4), some (.long o5), none, none, none, some (.long o9), none, none]) (st' := [.int v2, .ref a1]) (h' := (HP I A L F E)) rfl).trans ?_
      refine (sg_ldL ht_X8_clears rfl (sMr_obj ha1)).trans ?_
      refine bind_cg fun x2 hx2 => ?_
      refine (sg_go ht_X8_clears (k := 2) (pc' := 61) (L' := [some (.ref 84), some (.int v1), some (.int v2), some (.int v3), some (.int v4), some (.long o5), none, none, none, some (.long o9), none, none]) (st' := [.int (lg_cmp x2 (0))]) (h' := (HP I A L F E)) rfl).trans ?_
      refine (sg_if ht_X8_clears rfl).trans ?_
      refine ite_congr rfl (fun _ => ?_) (fun _ => ?_)
      · refine (sg_go ht_X8_clears (k := 3) (pc' := 72) (L' := [some (.ref 84), some (.int v1), some (.int v2), some (.int v3), some (.int v4), some (.long o5), none, none, none, some (.long o9), none, none]) (st' := [.int v2, .ref 95]) (h' := (HP I A L F E)) rfl).trans ?_
        refine (sg_ldR ht_X8_clears rfl hp_o_95).trans ?_
        refine bind_cg fun a3 ha3 => ?_
        have ha3 := in_95 ha3
        refine (sg_go ht_X8_clears (k := 1) (pc' := 74) (L' := [some (.ref 84), some (.int v1), some (.int v2), some (.int v3), some (.int v4), some (.long o5), none, none, none, some (.long o9), none, none]) (st' := [.int v2, .ref a3]) (h' := (HP I A L F E)) rfl).trans ?_
        refine (sg_ldL ht_X8_clears rfl (sMr_obj ha3)).trans ?_
        refine bind_cg fun x4 hx4 => ?_
        refine (sg_go ht_X8_clears (k := 4) (pc' := 83) (L' := [some (.ref 84), some (.int v1), some (.int v2), some (.int v3), some (.int v4), some (.long x4), none, none, none, some (.long o9), none, none]) (st' := [.int v4, .ref 95]) (h' := (HP I A L F E)) rfl).trans ?_
        refine (sg_ldR ht_X8_clears rfl hp_o_95).trans ?_
        refine bind_cg fun a5 ha5 => ?_
        have ha5 := in_95 ha5
        refine (sg_go ht_X8_clears (k := 1) (pc' := 85) (L' := [some (.ref 84), some (.int v1), some (.int v2), some (.int v3), some (.int v4), some (.long x4), none, none, none, some (.long o9), none, none]) (st' := [.int v2, .ref a5]) (h' := (HP I A L F E)) rfl).trans ?_
        refine (sg_ldL ht_X8_clears rfl (sMr_obj ha5)).trans ?_
        refine bind_cg fun x6 hx6 => ?_
        refine (sg_go ht_X8_clears (k := 5) (pc' := 94) (L' := [some (.ref 84), some (.int v1), some (.int v2), some (.int v3), some (.int v4), some (.long x4), none, some (.long x6), none, some (.long 0), none, some (.int 0)]) (st' := []) (h' := (HP I A L F E)) rfl).trans ?_
        rfl
      · refine (sg_go ht_X8_clears (k := 3) (pc' := 38) (L' := [some (.ref 84), some (.int v1), some (.int v2), some (.int v3), some (.int (v4 + 1)), some (.long o5), none, none, none, some (.long o9), none, none]) (st' := []) (h' := (HP I A L F E)) rfl).trans ?_
        rfl
set_option maxRecDepth 20000 in
theorem sg_X8_clears_38_v1011 {I : Nat → Int32} {A : Nat → List Int32} {L : Nat → List Int64} {F : Nat → Int64} {E : MH} (v1 : Int32) (v2 : Int32) (v3 : Int32) (v4 : Int32) (o5 : Int64) (o9 : Int64) (o11 : Int32) : mm_run G0 162 38 [some (.ref 84), some (.int v1), some (.int v2), some (.int v3), some (.int v4), some (.long o5), none, none, none, some (.long o9), none, some (.int o11)] [] (HP I A L F E) = (if v1 ≤ v4 then mm_run G0 162 2 [some (.ref 84), some (.int v1), some (.int (v2 + 1)), some (.int v3), some (.int v4), some (.long o5), none, none, none, some (.long o9), none, some (.int o11)] [] (HP I A L F E) else (if v4 = v2 then mm_run G0 162 38 [some (.ref 84), some (.int v1), some (.int v2), some (.int v3), some (.int (v4 + 1)), some (.long o5), none, none, none, some (.long o9), none, some (.int o11)] [] (HP I A L F E) else ((ldR [some 96, some 97, some 98, some 99, some 100, some 101] v4).bind fun a1 => ((ldL (L a1) v2).bind fun x2 => (if (lg_cmp x2 (0)) ≠ 0 then ((ldR [some 96, some 97, some 98, some 99, some 100, some 101] v2).bind fun a3 => ((ldL (L a3) v2).bind fun x4 => ((ldR [some 96, some 97, some 98, some 99, some 100, some 101] v4).bind fun a5 => ((ldL (L a5) v2).bind fun x6 => mm_run G0 162 94 [some (.ref 84), some (.int v1), some (.int v2), some (.int v3), some (.int v4), some (.long x4), none, some (.long x6), none, some (.long 0), none, some (.int 0)] [] (HP I A L F E))))) else mm_run G0 162 38 [some (.ref 84), some (.int v1), some (.int v2), some (.int v3), some (.int (v4 + 1)), some (.long o5), none, none, none, some (.long o9), none, some (.int o11)] [] (HP I A L F E)))))) := by
  refine (sg_go ht_X8_clears (k := 2) (pc' := 41) (L' := [some (.ref 84), some (.int v1), some (.int v2), some (.int v3), some (.int v4), some (.long o5), none, none, none, some (.long o9), none, some (.int o11)]) (st' := [.int v1, .int v4]) (h' := (HP I A L F E)) rfl).trans ?_
  refine (sg_cmp ht_X8_clears rfl).trans ?_
  refine ite_congr rfl (fun _ => ?_) (fun _ => ?_)
  · refine (sg_go ht_X8_clears (k := 2) (pc' := 2) (L' := [some (.ref 84), some (.int v1), some (.int (v2 + 1)), some (.int v3), some (.int v4), some (.long o5), none, none, none, some (.long o9), none, some (.int o11)]) (st' := []) (h' := (HP I A L F E)) rfl).trans ?_
    rfl
  · refine (sg_go ht_X8_clears (k := 2) (pc' := 47) (L' := [some (.ref 84), some (.int v1), some (.int v2), some (.int v3), some (.int v4), some (.long o5), none, none, none, some (.long o9), none, some (.int o11)]) (st' := [.int v2, .int v4]) (h' := (HP I A L F E)) rfl).trans ?_
    refine (sg_cmp ht_X8_clears rfl).trans ?_
    refine ite_congr rfl (fun _ => ?_) (fun _ => ?_)
    · refine (sg_go ht_X8_clears (k := 2) (pc' := 38) (L' := [some (.ref 84), some (.int v1), some (.int v2), some (.int v3), some (.int (v4 + 1)), some (.long o5), none, none, none, some (.long o9), none, some (.int o11)]) (st' := []) (h' := (HP I A L F E)) rfl).trans ?_
      rfl
    · refine (sg_go ht_X8_clears (k := 3) (pc' := 56) (L' := [some (.ref 84), some (.int v1), some (.int v2), some (.int v3), some (.int v4), some (.long o5), none, none, none, some (.long o9), none, some (.int o11)]) (st' := [.int v4, .ref 95]) (h' := (HP I A L F E)) rfl).trans ?_
      refine (sg_ldR ht_X8_clears rfl hp_o_95).trans ?_
      refine bind_cg fun a1 ha1 => ?_
      have ha1 := in_95 ha1
      refine (sg_go ht_X8_clears (k := 1) (pc' := 58) (L' := [some (.ref 84), some (.int v1), some (.int v2), some (.int v3), some (.int v4), some (.long o5), none, none, none, some (.long o9), none, some (.int o11)]) (st' := [.int v2, .ref a1]) (h' := (HP I A L F E)) rfl).trans ?_
      refine (sg_ldL ht_X8_clears rfl (sMr_obj ha1)).trans ?_
      refine bind_cg fun x2 hx2 => ?_
      refine (sg_go ht_X8_clears (k := 2) (pc' := 61) (L' := [some (.ref 84), some (.int v1), some (.int v2), some (.int v3), some (.int v4), some (.long o5), none, none, none, some (.long o9), none, some (.int o11)]) (st' := [.int (lg_cmp x2 (0))]) (h' := (HP I A L F E)) rfl).trans ?_
      refine (sg_if ht_X8_clears rfl).trans ?_
      refine ite_congr rfl (fun _ => ?_) (fun _ => ?_)
      · refine (sg_go ht_X8_clears (k := 3) (pc' := 72) (L' := [some (.ref 84), some (.int v1), some (.int v2), some (.int v3), some (.int v4), some (.long o5), none, none, none, some (.long o9), none, some (.int o11)]) (st' := [.int v2, .ref 95]) (h' := (HP I A L F E)) rfl).trans ?_
        refine (sg_ldR ht_X8_clears rfl hp_o_95).trans ?_
        refine bind_cg fun a3 ha3 => ?_
        have ha3 := in_95 ha3
        refine (sg_go ht_X8_clears (k := 1) (pc' := 74) (L' := [some (.ref 84), some (.int v1), some (.int v2), some (.int v3), some (.int v4), some (.long o5), none, none, none, some (.long o9), none, some (.int o11)]) (st' := [.int v2, .ref a3]) (h' := (HP I A L F E)) rfl).trans ?_
        refine (sg_ldL ht_X8_clears rfl (sMr_obj ha3)).trans ?_
        refine bind_cg fun x4 hx4 => ?_
        refine (sg_go ht_X8_clears (k := 4) (pc' := 83) (L' := [some (.ref 84), some (.int v1), some (.int v2), some (.int v3), some (.int v4), some (.long x4), none, none, none, some (.long o9), none, some (.int o11)]) (st' := [.int v4, .ref 95]) (h' := (HP I A L F E)) rfl).trans ?_
        refine (sg_ldR ht_X8_clears rfl hp_o_95).trans ?_
        refine bind_cg fun a5 ha5 => ?_
        have ha5 := in_95 ha5
        refine (sg_go ht_X8_clears (k := 1) (pc' := 85) (L' := [some (.ref 84), some (.int v1), some (.int v2), some (.int v3), some (.int v4), some (.long x4), none, none, none, some (.long o9), none, some (.int o11)]) (st' := [.int v2, .ref a5]) (h' := (HP I A L F E)) rfl).trans ?_
        refine (sg_ldL ht_X8_clears rfl (sMr_obj ha5)).trans ?_
        refine bind_cg fun x6 hx6 => ?_
        refine (sg_go ht_X8_clears (k := 5) (pc' := 94) (L' := [some (.ref 84), some (.int v1), some (.int v2), some (.int v3), some (.int v4), some (.long x4), none, some (.long x6), none, some (.long 0), none, some (.int 0)]) (st' := []) (h' := (HP I A L F E)) rfl).trans ?_
        rfl
      · refine (sg_go ht_X8_clears (k := 3) (pc' := 38) (L' := [some (.ref 84), some (.int v1), some (.int v2), some (.int v3), some (.int (v4 + 1)), some (.long o5), none, none, none, some (.long o9), none, some (.int o11)]) (st' := []) (h' := (HP I A L F E)) rfl).trans ?_
        rfl
set_option maxRecDepth 20000 in
theorem sg_X8_clears_38_v1100 {I : Nat → Int32} {A : Nat → List Int32} {L : Nat → List Int64} {F : Nat → Int64} {E : MH} (v1 : Int32) (v2 : Int32) (v3 : Int32) (v4 : Int32) (o5 : Int64) (o7 : Int64) : mm_run G0 162 38 [some (.ref 84), some (.int v1), some (.int v2), some (.int v3), some (.int v4), some (.long o5), none, some (.long o7), none, none, none, none] [] (HP I A L F E) = (if v1 ≤ v4 then mm_run G0 162 2 [some (.ref 84), some (.int v1), some (.int (v2 + 1)), some (.int v3), some (.int v4), some (.long o5), none, some (.long o7), none, none, none, none] [] (HP I A L F E) else (if v4 = v2 then mm_run G0 162 38 [some (.ref 84), some (.int v1), some (.int v2), some (.int v3), some (.int (v4 + 1)), some (.long o5), none, some (.long o7), none, none, none, none] [] (HP I A L F E) else ((ldR [some 96, some 97, some 98, some 99, some 100, some 101] v4).bind fun a1 => ((ldL (L a1) v2).bind fun x2 => (if (lg_cmp x2 (0)) ≠ 0 then ((ldR [some 96, some 97, some 98, some 99, some 100, some 101] v2).bind fun a3 => ((ldL (L a3) v2).bind fun x4 => ((ldR [some 96, some 97, some 98, some 99, some 100, some 101] v4).bind fun a5 => ((ldL (L a5) v2).bind fun x6 => mm_run G0 162 94 [some (.ref 84), some (.int v1), some (.int v2), some (.int v3), some (.int v4), some (.long x4), none, some (.long x6), none, some (.long 0), none, some (.int 0)] [] (HP I A L F E))))) else mm_run G0 162 38 [some (.ref 84), some (.int v1), some (.int v2), some (.int v3), some (.int (v4 + 1)), some (.long o5), none, some (.long o7), none, none, none, none] [] (HP I A L F E)))))) := by
  refine (sg_go ht_X8_clears (k := 2) (pc' := 41) (L' := [some (.ref 84), some (.int v1), some (.int v2), some (.int v3), some (.int v4), some (.long o5), none, some (.long o7), none, none, none, none]) (st' := [.int v1, .int v4]) (h' := (HP I A L F E)) rfl).trans ?_
  refine (sg_cmp ht_X8_clears rfl).trans ?_
  refine ite_congr rfl (fun _ => ?_) (fun _ => ?_)
  · refine (sg_go ht_X8_clears (k := 2) (pc' := 2) (L' := [some (.ref 84), some (.int v1), some (.int (v2 + 1)), some (.int v3), some (.int v4), some (.long o5), none, some (.long o7), none, none, none, none]) (st' := []) (h' := (HP I A L F E)) rfl).trans ?_
    rfl
  · refine (sg_go ht_X8_clears (k := 2) (pc' := 47) (L' := [some (.ref 84), some (.int v1), some (.int v2), some (.int v3), some (.int v4), some (.long o5), none, some (.long o7), none, none, none, none]) (st' := [.int v2, .int v4]) (h' := (HP I A L F E)) rfl).trans ?_
    refine (sg_cmp ht_X8_clears rfl).trans ?_
    refine ite_congr rfl (fun _ => ?_) (fun _ => ?_)
    · refine (sg_go ht_X8_clears (k := 2) (pc' := 38) (L' := [some (.ref 84), some (.int v1), some (.int v2), some (.int v3), some (.int (v4 + 1)), some (.long o5), none, some (.long o7), none, none, none, none]) (st' := []) (h' := (HP I A L F E)) rfl).trans ?_
      rfl
    · refine (sg_go ht_X8_clears (k := 3) (pc' := 56) (L' := [some (.ref 84), some (.int v1), some (.int v2), some (.int v3), some (.int v4), some (.long o5), none, some (.long o7), none, none, none, none]) (st' := [.int v4, .ref 95]) (h' := (HP I A L F E)) rfl).trans ?_
      refine (sg_ldR ht_X8_clears rfl hp_o_95).trans ?_
      refine bind_cg fun a1 ha1 => ?_
      have ha1 := in_95 ha1
      refine (sg_go ht_X8_clears (k := 1) (pc' := 58) (L' := [some (.ref 84), some (.int v1), some (.int v2), some (.int v3), some (.int v4), some (.long o5), none, some (.long o7), none, none, none, none]) (st' := [.int v2, .ref a1]) (h' := (HP I A L F E)) rfl).trans ?_
      refine (sg_ldL ht_X8_clears rfl (sMr_obj ha1)).trans ?_
      refine bind_cg fun x2 hx2 => ?_
      refine (sg_go ht_X8_clears (k := 2) (pc' := 61) (L' := [some (.ref 84), some (.int v1), some (.int v2), some (.int v3), some (.int v4), some (.long o5), none, some (.long o7), none, none, none, none]) (st' := [.int (lg_cmp x2 (0))]) (h' := (HP I A L F E)) rfl).trans ?_
      refine (sg_if ht_X8_clears rfl).trans ?_
      refine ite_congr rfl (fun _ => ?_) (fun _ => ?_)
      · refine (sg_go ht_X8_clears (k := 3) (pc' := 72) (L' := [some (.ref 84), some (.int v1), some (.int v2), some (.int v3), some (.int v4), some (.long o5), none, some (.long o7), none, none, none, none]) (st' := [.int v2, .ref 95]) (h' := (HP I A L F E)) rfl).trans ?_
        refine (sg_ldR ht_X8_clears rfl hp_o_95).trans ?_
        refine bind_cg fun a3 ha3 => ?_
        have ha3 := in_95 ha3
        refine (sg_go ht_X8_clears (k := 1) (pc' := 74) (L' := [some (.ref 84), some (.int v1), some (.int v2), some (.int v3), some (.int v4), some (.long o5), none, some (.long o7), none, none, none, none]) (st' := [.int v2, .ref a3]) (h' := (HP I A L F E)) rfl).trans ?_
        refine (sg_ldL ht_X8_clears rfl (sMr_obj ha3)).trans ?_
        refine bind_cg fun x4 hx4 => ?_
        refine (sg_go ht_X8_clears (k := 4) (pc' := 83) (L' := [some (.ref 84), some (.int v1), some (.int v2), some (.int v3), some (.int v4), some (.long x4), none, some (.long o7), none, none, none, none]) (st' := [.int v4, .ref 95]) (h' := (HP I A L F E)) rfl).trans ?_
        refine (sg_ldR ht_X8_clears rfl hp_o_95).trans ?_
        refine bind_cg fun a5 ha5 => ?_
        have ha5 := in_95 ha5
        refine (sg_go ht_X8_clears (k := 1) (pc' := 85) (L' := [some (.ref 84), some (.int v1), some (.int v2), some (.int v3), some (.int v4), some (.long x4), none, some (.long o7), none, none, none, none]) (st' := [.int v2, .ref a5]) (h' := (HP I A L F E)) rfl).trans ?_
        refine (sg_ldL ht_X8_clears rfl (sMr_obj ha5)).trans ?_
        refine bind_cg fun x6 hx6 => ?_
        refine (sg_go ht_X8_clears (k := 5) (pc' := 94) (L' := [some (.ref 84), some (.int v1), some (.int v2), some (.int v3), some (.int v4), some (.long x4), none, some (.long x6), none, some (.long 0), none, some (.int 0)]) (st' := []) (h' := (HP I A L F E)) rfl).trans ?_
        rfl
      · refine (sg_go ht_X8_clears (k := 3) (pc' := 38) (L' := [some (.ref 84), some (.int v1), some (.int v2), some (.int v3), some (.int (v4 + 1)), some (.long o5), none, some (.long o7), none, none, none, none]) (st' := []) (h' := (HP I A L F E)) rfl).trans ?_
        rfl
set_option maxRecDepth 20000 in
theorem sg_X8_clears_38_v1101 {I : Nat → Int32} {A : Nat → List Int32} {L : Nat → List Int64} {F : Nat → Int64} {E : MH} (v1 : Int32) (v2 : Int32) (v3 : Int32) (v4 : Int32) (o5 : Int64) (o7 : Int64) (o11 : Int32) : mm_run G0 162 38 [some (.ref 84), some (.int v1), some (.int v2), some (.int v3), some (.int v4), some (.long o5), none, some (.long o7), none, none, none, some (.int o11)] [] (HP I A L F E) = (if v1 ≤ v4 then mm_run G0 162 2 [some (.ref 84), some (.int v1), some (.int (v2 + 1)), some (.int v3), some (.int v4), some (.long o5), none, some (.long o7), none, none, none, some (.int o11)] [] (HP I A L F E) else (if v4 = v2 then mm_run G0 162 38 [some (.ref 84), some (.int v1), some (.int v2), some (.int v3), some (.int (v4 + 1)), some (.long o5), none, some (.long o7), none, none, none, some (.int o11)] [] (HP I A L F E) else ((ldR [some 96, some 97, some 98, some 99, some 100, some 101] v4).bind fun a1 => ((ldL (L a1) v2).bind fun x2 => (if (lg_cmp x2 (0)) ≠ 0 then ((ldR [some 96, some 97, some 98, some 99, some 100, some 101] v2).bind fun a3 => ((ldL (L a3) v2).bind fun x4 => ((ldR [some 96, some 97, some 98, some 99, some 100, some 101] v4).bind fun a5 => ((ldL (L a5) v2).bind fun x6 => mm_run G0 162 94 [some (.ref 84), some (.int v1), some (.int v2), some (.int v3), some (.int v4), some (.long x4), none, some (.long x6), none, some (.long 0), none, some (.int 0)] [] (HP I A L F E))))) else mm_run G0 162 38 [some (.ref 84), some (.int v1), some (.int v2), some (.int v3), some (.int (v4 + 1)), some (.long o5), none, some (.long o7), none, none, none, some (.int o11)] [] (HP I A L F E)))))) := by
  refine (sg_go ht_X8_clears (k := 2) (pc' := 41) (L' := [some (.ref 84), some (.int v1), some (.int v2), some (.int v3), some (.int v4), some (.long o5), none, some (.long o7), none, none, none, some (.int o11)]) (st' := [.int v1, .int v4]) (h' := (HP I A L F E)) rfl).trans ?_
  refine (sg_cmp ht_X8_clears rfl).trans ?_
  refine ite_congr rfl (fun _ => ?_) (fun _ => ?_)
  · refine (sg_go ht_X8_clears (k := 2) (pc' := 2) (L' := [some (.ref 84), some (.int v1), some (.int (v2 + 1)), some (.int v3), some (.int v4), some (.long o5), none, some (.long o7), none, none, none, some (.int o11)]) (st' := []) (h' := (HP I A L F E)) rfl).trans ?_
    rfl
  · refine (sg_go ht_X8_clears (k := 2) (pc' := 47) (L' := [some (.ref 84), some (.int v1), some (.int v2), some (.int v3), some (.int v4), some (.long o5), none, some (.long o7), none, none, none, some (.int o11)]) (st' := [.int v2, .int v4]) (h' := (HP I A L F E)) rfl).trans ?_
    refine (sg_cmp ht_X8_clears rfl).trans ?_
    refine ite_congr rfl (fun _ => ?_) (fun _ => ?_)
    · refine (sg_go ht_X8_clears (k := 2) (pc' := 38) (L' := [some (.ref 84), some (.int v1), some (.int v2), some (.int v3), some (.int (v4 + 1)), some (.long o5), none, some (.long o7), none, none, none, some (.int o11)]) (st' := []) (h' := (HP I A L F E)) rfl).trans ?_
      rfl
    · refine (sg_go ht_X8_clears (k := 3) (pc' := 56) (L' := [some (.ref 84), some (.int v1), some (.int v2), some (.int v3), some (.int v4), some (.long o5), none, some (.long o7), none, none, none, some (.int o11)]) (st' := [.int v4, .ref 95]) (h' := (HP I A L F E)) rfl).trans ?_
      refine (sg_ldR ht_X8_clears rfl hp_o_95).trans ?_
      refine bind_cg fun a1 ha1 => ?_
      have ha1 := in_95 ha1
      refine (sg_go ht_X8_clears (k := 1) (pc' := 58) (L' := [some (.ref 84), some (.int v1), some (.int v2), some (.int v3), some (.int v4), some (.long o5), none, some (.long o7), none, none, none, some (.int o11)]) (st' := [.int v2, .ref a1]) (h' := (HP I A L F E)) rfl).trans ?_
      refine (sg_ldL ht_X8_clears rfl (sMr_obj ha1)).trans ?_
      refine bind_cg fun x2 hx2 => ?_
      refine (sg_go ht_X8_clears (k := 2) (pc' := 61) (L' := [some (.ref 84), some (.int v1), some (.int v2), some (.int v3), some (.int v4), some (.long o5), none, some (.long o7), none, none, none, some (.int o11)]) (st' := [.int (lg_cmp x2 (0))]) (h' := (HP I A L F E)) rfl).trans ?_
      refine (sg_if ht_X8_clears rfl).trans ?_
      refine ite_congr rfl (fun _ => ?_) (fun _ => ?_)
      · refine (sg_go ht_X8_clears (k := 3) (pc' := 72) (L' := [some (.ref 84), some (.int v1), some (.int v2), some (.int v3), some (.int v4), some (.long o5), none, some (.long o7), none, none, none, some (.int o11)]) (st' := [.int v2, .ref 95]) (h' := (HP I A L F E)) rfl).trans ?_
        refine (sg_ldR ht_X8_clears rfl hp_o_95).trans ?_
        refine bind_cg fun a3 ha3 => ?_
        have ha3 := in_95 ha3
        refine (sg_go ht_X8_clears (k := 1) (pc' := 74) (L' := [some (.ref 84), some (.int v1), some (.int v2), some (.int v3), some (.int v4), some (.long o5), none, some (.long o7), none, none, none, some (.int o11)]) (st' := [.int v2, .ref a3]) (h' := (HP I A L F E)) rfl).trans ?_
        refine (sg_ldL ht_X8_clears rfl (sMr_obj ha3)).trans ?_
        refine bind_cg fun x4 hx4 => ?_
        refine (sg_go ht_X8_clears (k := 4) (pc' := 83) (L' := [some (.ref 84), some (.int v1), some (.int v2), some (.int v3), some (.int v4), some (.long x4), none, some (.long o7), none, none, none, some (.int o11)]) (st' := [.int v4, .ref 95]) (h' := (HP I A L F E)) rfl).trans ?_
        refine (sg_ldR ht_X8_clears rfl hp_o_95).trans ?_
        refine bind_cg fun a5 ha5 => ?_
        have ha5 := in_95 ha5
        refine (sg_go ht_X8_clears (k := 1) (pc' := 85) (L' := [some (.ref 84), some (.int v1), some (.int v2), some (.int v3), some (.int v4), some (.long x4), none, some (.long o7), none, none, none, some (.int o11)]) (st' := [.int v2, .ref a5]) (h' := (HP I A L F E)) rfl).trans ?_
        refine (sg_ldL ht_X8_clears rfl (sMr_obj ha5)).trans ?_
        refine bind_cg fun x6 hx6 => ?_
        refine (sg_go ht_X8_clears (k := 5) (pc' := 94) (L' := [some (.ref 84), some (.int v1), some (.int v2), some (.int v3), some (.int v4), some (.long x4), none, some (.long x6), none, some (.long 0), none, some (.int 0)]) (st' := []) (h' := (HP I A L F E)) rfl).trans ?_
        rfl
      · refine (sg_go ht_X8_clears (k := 3) (pc' := 38) (L' := [some (.ref 84), some (.int v1), some (.int v2), some (.int v3), some (.int (v4 + 1)), some (.long o5), none, some (.long o7), none, none, none, some (.int o11)]) (st' := []) (h' := (HP I A L F E)) rfl).trans ?_
        rfl
set_option maxRecDepth 20000 in
theorem sg_X8_clears_38_v1110 {I : Nat → Int32} {A : Nat → List Int32} {L : Nat → List Int64} {F : Nat → Int64} {E : MH} (v1 : Int32) (v2 : Int32) (v3 : Int32) (v4 : Int32) (o5 : Int64) (o7 : Int64) (o9 : Int64) : mm_run G0 162 38 [some (.ref 84), some (.int v1), some (.int v2), some (.int v3), some (.int v4), some (.long o5), none, some (.long o7), none, some (.long o9), none, none] [] (HP I A L F E) = (if v1 ≤ v4 then mm_run G0 162 2 [some (.ref 84), some (.int v1), some (.int (v2 + 1)), some (.int v3), some (.int v4), some (.long o5), none, some (.long o7), none, some (.long o9), none, none] [] (HP I A L F E) else (if v4 = v2 then mm_run G0 162 38 [some (.ref 84), some (.int v1), some (.int v2), some (.int v3), some (.int (v4 + 1)), some (.long o5), none, some (.long o7), none, some (.long o9), none, none] [] (HP I A L F E) else ((ldR [some 96, some 97, some 98, some 99, some 100, some 101] v4).bind fun a1 => ((ldL (L a1) v2).bind fun x2 => (if (lg_cmp x2 (0)) ≠ 0 then ((ldR [some 96, some 97, some 98, some 99, some 100, some 101] v2).bind fun a3 => ((ldL (L a3) v2).bind fun x4 => ((ldR [some 96, some 97, some 98, some 99, some 100, some 101] v4).bind fun a5 => ((ldL (L a5) v2).bind fun x6 => mm_run G0 162 94 [some (.ref 84), some (.int v1), some (.int v2), some (.int v3), some (.int v4), some (.long x4), none, some (.long x6), none, some (.long 0), none, some (.int 0)] [] (HP I A L F E))))) else mm_run G0 162 38 [some (.ref 84), some (.int v1), some (.int v2), some (.int v3), some (.int (v4 + 1)), some (.long o5), none, some (.long o7), none, some (.long o9), none, none] [] (HP I A L F E)))))) := by
  refine (sg_go ht_X8_clears (k := 2) (pc' := 41) (L' := [some (.ref 84), some (.int v1), some (.int v2), some (.int v3), some (.int v4), some (.long o5), none, some (.long o7), none, some (.long o9), none, none]) (st' := [.int v1, .int v4]) (h' := (HP I A L F E)) rfl).trans ?_
  refine (sg_cmp ht_X8_clears rfl).trans ?_
  refine ite_congr rfl (fun _ => ?_) (fun _ => ?_)
  · refine (sg_go ht_X8_clears (k := 2) (pc' := 2) (L' := [some (.ref 84), some (.int v1), some (.int (v2 + 1)), some (.int v3), some (.int v4), some (.long o5), none, some (.long o7), none, some (.long o9), none, none]) (st' := []) (h' := (HP I A L F E)) rfl).trans ?_
    rfl
  · refine (sg_go ht_X8_clears (k := 2) (pc' := 47) (L' := [some (.ref 84), some (.int v1), some (.int v2), some (.int v3), some (.int v4), some (.long o5), none, some (.long o7), none, some (.long o9), none, none]) (st' := [.int v2, .int v4]) (h' := (HP I A L F E)) rfl).trans ?_
    refine (sg_cmp ht_X8_clears rfl).trans ?_
    refine ite_congr rfl (fun _ => ?_) (fun _ => ?_)
    · refine (sg_go ht_X8_clears (k := 2) (pc' := 38) (L' := [some (.ref 84), some (.int v1), some (.int v2), some (.int v3), some (.int (v4 + 1)), some (.long o5), none, some (.long o7), none, some (.long o9), none, none]) (st' := []) (h' := (HP I A L F E)) rfl).trans ?_
      rfl
    · refine (sg_go ht_X8_clears (k := 3) (pc' := 56) (L' := [some (.ref 84), some (.int v1), some (.int v2), some (.int v3), some (.int v4), some (.long o5), none, some (.long o7), none, some (.long o9), none, none]) (st' := [.int v4, .ref 95]) (h' := (HP I A L F E)) rfl).trans ?_
      refine (sg_ldR ht_X8_clears rfl hp_o_95).trans ?_
      refine bind_cg fun a1 ha1 => ?_
      have ha1 := in_95 ha1
      refine (sg_go ht_X8_clears (k := 1) (pc' := 58) (L' := [some (.ref 84), some (.int v1), some (.int v2), some (.int v3), some (.int v4), some (.long o5), none, some (.long o7), none, some (.long o9), none, none]) (st' := [.int v2, .ref a1]) (h' := (HP I A L F E)) rfl).trans ?_
      refine (sg_ldL ht_X8_clears rfl (sMr_obj ha1)).trans ?_
      refine bind_cg fun x2 hx2 => ?_
      refine (sg_go ht_X8_clears (k := 2) (pc' := 61) (L' := [some (.ref 84), some (.int v1), some (.int v2), some (.int v3), some (.int v4), some (.long o5), none, some (.long o7), none, some (.long o9), none, none]) (st' := [.int (lg_cmp x2 (0))]) (h' := (HP I A L F E)) rfl).trans ?_
      refine (sg_if ht_X8_clears rfl).trans ?_
      refine ite_congr rfl (fun _ => ?_) (fun _ => ?_)
      · refine (sg_go ht_X8_clears (k := 3) (pc' := 72) (L' := [some (.ref 84), some (.int v1), some (.int v2), some (.int v3), some (.int v4), some (.long o5), none, some (.long o7), none, some (.long o9), none, none]) (st' := [.int v2, .ref 95]) (h' := (HP I A L F E)) rfl).trans ?_
        refine (sg_ldR ht_X8_clears rfl hp_o_95).trans ?_
        refine bind_cg fun a3 ha3 => ?_
        have ha3 := in_95 ha3
        refine (sg_go ht_X8_clears (k := 1) (pc' := 74) (L' := [some (.ref 84), some (.int v1), some (.int v2), some (.int v3), some (.int v4), some (.long o5), none, some (.long o7), none, some (.long o9), none, none]) (st' := [.int v2, .ref a3]) (h' := (HP I A L F E)) rfl).trans ?_
        refine (sg_ldL ht_X8_clears rfl (sMr_obj ha3)).trans ?_
        refine bind_cg fun x4 hx4 => ?_
        refine (sg_go ht_X8_clears (k := 4) (pc' := 83) (L' := [some (.ref 84), some (.int v1), some (.int v2), some (.int v3), some (.int v4), some (.long x4), none, some (.long o7), none, some (.long o9), none, none]) (st' := [.int v4, .ref 95]) (h' := (HP I A L F E)) rfl).trans ?_
        refine (sg_ldR ht_X8_clears rfl hp_o_95).trans ?_
        refine bind_cg fun a5 ha5 => ?_
        have ha5 := in_95 ha5
        refine (sg_go ht_X8_clears (k := 1) (pc' := 85) (L' := [some (.ref 84), some (.int v1), some (.int v2), some (.int v3), some (.int v4), some (.long x4), none, some (.long o7), none, some (.long o9), none, none]) (st' := [.int v2, .ref a5]) (h' := (HP I A L F E)) rfl).trans ?_
        refine (sg_ldL ht_X8_clears rfl (sMr_obj ha5)).trans ?_
        refine bind_cg fun x6 hx6 => ?_
        refine (sg_go ht_X8_clears (k := 5) (pc' := 94) (L' := [some (.ref 84), some (.int v1), some (.int v2), some (.int v3), some (.int v4), some (.long x4), none, some (.long x6), none, some (.long 0), none, some (.int 0)]) (st' := []) (h' := (HP I A L F E)) rfl).trans ?_
        rfl
      · refine (sg_go ht_X8_clears (k := 3) (pc' := 38) (L' := [some (.ref 84), some (.int v1), some (.int v2), some (.int v3), some (.int (v4 + 1)), some (.long o5), none, some (.long o7), none, some (.long o9), none, none]) (st' := []) (h' := (HP I A L F E)) rfl).trans ?_
        rfl
set_option maxRecDepth 20000 in
theorem sg_X8_clears_38_v1111 {I : Nat → Int32} {A : Nat → List Int32} {L : Nat → List Int64} {F : Nat → Int64} {E : MH} (v1 : Int32) (v2 : Int32) (v3 : Int32) (v4 : Int32) (o5 : Int64) (o7 : Int64) (o9 : Int64) (o11 : Int32) : mm_run G0 162 38 [some (.ref 84), some (.int v1), some (.int v2), some (.int v3), some (.int v4), some (.long o5), none, some (.long o7), none, some (.long o9), none, some (.int o11)] [] (HP I A L F E) = (if v1 ≤ v4 then mm_run G0 162 2 [some (.ref 84), some (.int v1), some (.int (v2 + 1)), some (.int v3), some (.int v4), some (.long o5), none, some (.long o7), none, some (.long o9), none, some (.int o11)] [] (HP I A L F E) else (if v4 = v2 then mm_run G0 162 38 [some (.ref 84), some (.int v1), some (.int v2), some (.int v3), some (.int (v4 + 1)), some (.long o5), none, some (.long o7), none, some (.long o9), none, some (.int o11)] [] (HP I A L F E) else ((ldR [some 96, some 97, some 98, some 99, some 100, some 101] v4).bind fun a1 => ((ldL (L a1) v2).bind fun x2 => (if (lg_cmp x2 (0)) ≠ 0 then ((ldR [some 96, some 97, some 98, some 99, some 100, some 101] v2).bind fun a3 => ((ldL (L a3) v2).bind fun x4 => ((ldR [some 96, some 97, some 98, some 99, some 100, some 101] v4).bind fun a5 => ((ldL (L a5) v2).bind fun x6 => mm_run G0 162 94 [some (.ref 84), some (.int v1), some (.int v2), some (.int v3), some (.int v4), some (.long x4), none, some (.long x6), none, some (.long 0), none, some (.int 0)] [] (HP I A L F E))))) else mm_run G0 162 38 [some (.ref 84), some (.int v1), some (.int v2), some (.int v3), some (.int (v4 + 1)), some (.long o5), none, some (.long o7), none, some (.long o9), none, some (.int o11)] [] (HP I A L F E)))))) := by
  refine (sg_go ht_X8_clears (k := 2) (pc' := 41) (L' := [some (.ref 84), some (.int v1), some (.int v2), some (.int v3), some (.int v4), some (.long o5), none, some (.long o7), none, some (.long o9), none, some (.int o11)]) (st' := [.int v1, .int v4]) (h' := (HP I A L F E)) rfl).trans ?_
  refine (sg_cmp ht_X8_clears rfl).trans ?_
  refine ite_congr rfl (fun _ => ?_) (fun _ => ?_)
  · refine (sg_go ht_X8_clears (k := 2) (pc' := 2) (L' := [some (.ref 84), some (.int v1), some (.int (v2 + 1)), some (.int v3), some (.int v4), some (.long o5), none, some (.long o7), none, some (.long o9), none, some (.int o11)]) (st' := []) (h' := (HP I A L F E)) rfl).trans ?_
    rfl
  · refine (sg_go ht_X8_clears (k := 2) (pc' := 47) (L' := [some (.ref 84), some (.int v1), some (.int v2), some (.int v3), some (.int v4), some (.long o5), none, some (.long o7), none, some (.long o9), none, some (.int o11)]) (st' := [.int v2, .int v4]) (h' := (HP I A L F E)) rfl).trans ?_
    refine (sg_cmp ht_X8_clears rfl).trans ?_
    refine ite_congr rfl (fun _ => ?_) (fun _ => ?_)
    · refine (sg_go ht_X8_clears (k := 2) (pc' := 38) (L' := [some (.ref 84), some (.int v1), some (.int v2), some (.int v3), some (.int (v4 + 1)), some (.long o5), none, some (.long o7), none, some (.long o9), none, some (.int o11)]) (st' := []) (h' := (HP I A L F E)) rfl).trans ?_
      rfl
    · refine (sg_go ht_X8_clears (k := 3) (pc' := 56) (L' := [some (.ref 84), some (.int v1), some (.int v2), some (.int v3), some (.int v4), some (.long o5), none, some (.long o7), none, some (.long o9), none, some (.int o11)]) (st' := [.int v4, .ref 95]) (h' := (HP I A L F E)) rfl).trans ?_
      refine (sg_ldR ht_X8_clears rfl hp_o_95).trans ?_
      refine bind_cg fun a1 ha1 => ?_
      have ha1 := in_95 ha1
      refine (sg_go ht_X8_clears (k := 1) (pc' := 58) (L' := [some (.ref 84), some (.int v1), some (.int v2), some (.int v3), some (.int v4), some (.long o5), none, some (.long o7), none, some (.long o9), none, some (.int o11)]) (st' := [.int v2, .ref a1]) (h' := (HP I A L F E)) rfl).trans ?_
      refine (sg_ldL ht_X8_clears rfl (sMr_obj ha1)).trans ?_
      refine bind_cg fun x2 hx2 => ?_
      refine (sg_go ht_X8_clears (k := 2) (pc' := 61) (L' := [some (.ref 84), some (.int v1), some (.int v2), some (.int v3), some (.int v4), some (.long o5), none, some (.long o7), none, some (.long o9), none, some (.int o11)]) (st' := [.int (lg_cmp x2 (0))]) (h' := (HP I A L F E)) rfl).trans ?_
      refine (sg_if ht_X8_clears rfl).trans ?_
      refine ite_congr rfl (fun _ => ?_) (fun _ => ?_)
      · refine (sg_go ht_X8_clears (k := 3) (pc' := 72) (L' := [some (.ref 84), some (.int v1), some (.int v2), some (.int v3), some (.int v4), some (.long o5), none, some (.long o7), none, some (.long o9), none, some (.int o11)]) (st' := [.int v2, .ref 95]) (h' := (HP I A L F E)) rfl).trans ?_
        refine (sg_ldR ht_X8_clears rfl hp_o_95).trans ?_
        refine bind_cg fun a3 ha3 => ?_
        have ha3 := in_95 ha3
        refine (sg_go ht_X8_clears (k := 1) (pc' := 74) (L' := [some (.ref 84), some (.int v1), some (.int v2), some (.int v3), some (.int v4), some (.long o5), none, some (.long o7), none, some (.long o9), none, some (.int o11)]) (st' := [.int v2, .ref a3]) (h' := (HP I A L F E)) rfl).trans ?_
        refine (sg_ldL ht_X8_clears rfl (sMr_obj ha3)).trans ?_
        refine bind_cg fun x4 hx4 => ?_
        refine (sg_go ht_X8_clears (k := 4) (pc' := 83) (L' := [some (.ref 84), some (.int v1), some (.int v2), some (.int v3), some (.int v4), some (.long x4), none, some (.long o7), none, some (.long o9), none, some (.int o11)]) (st' := [.int v4, .ref 95]) (h' := (HP I A L F E)) rfl).trans ?_
        refine (sg_ldR ht_X8_clears rfl hp_o_95).trans ?_
        refine bind_cg fun a5 ha5 => ?_
        have ha5 := in_95 ha5
        refine (sg_go ht_X8_clears (k := 1) (pc' := 85) (L' := [some (.ref 84), some (.int v1), some (.int v2), some (.int v3), some (.int v4), some (.long x4), none, some (.long o7), none, some (.long o9), none, some (.int o11)]) (st' := [.int v2, .ref a5]) (h' := (HP I A L F E)) rfl).trans ?_
        refine (sg_ldL ht_X8_clears rfl (sMr_obj ha5)).trans ?_
        refine bind_cg fun x6 hx6 => ?_
        refine (sg_go ht_X8_clears (k := 5) (pc' := 94) (L' := [some (.ref 84), some (.int v1), some (.int v2), some (.int v3), some (.int v4), some (.long x4), none, some (.long x6), none, some (.long 0), none, some (.int 0)]) (st' := []) (h' := (HP I A L F E)) rfl).trans ?_
        rfl
      · refine (sg_go ht_X8_clears (k := 3) (pc' := 38) (L' := [some (.ref 84), some (.int v1), some (.int v2), some (.int v3), some (.int (v4 + 1)), some (.long o5), none, some (.long o7), none, some (.long o9), none, some (.int o11)]) (st' := []) (h' := (HP I A L F E)) rfl).trans ?_
        rfl
theorem sg_X8_clears_38 {I : Nat → Int32} {A : Nat → List Int32} {L : Nat → List Int64} {F : Nat → Int64} {E : MH} (v1 : Int32) (v2 : Int32) (v3 : Int32) (v4 : Int32) (o5 : Option Int64) (o7 : Option Int64) (o9 : Option Int64) (o11 : Option Int32) : mm_run G0 162 38 [some (.ref 84), some (.int v1), some (.int v2), some (.int v3), some (.int v4), (o5.map Value.long), none, (o7.map Value.long), none, (o9.map Value.long), none, (o11.map Value.int)] [] (HP I A L F E) = (if v1 ≤ v4 then mm_run G0 162 2 [some (.ref 84), some (.int v1), some (.int (v2 + 1)), some (.int v3), some (.int v4), (o5.map Value.long), none, (o7.map Value.long), none, (o9.map Value.long), none, (o11.map Value.int)] [] (HP I A L F E) else (if v4 = v2 then mm_run G0 162 38 [some (.ref 84), some (.int v1), some (.int v2), some (.int v3), some (.int (v4 + 1)), (o5.map Value.long), none, (o7.map Value.long), none, (o9.map Value.long), none, (o11.map Value.int)] [] (HP I A L F E) else ((ldR [some 96, some 97, some 98, some 99, some 100, some 101] v4).bind fun a1 => ((ldL (L a1) v2).bind fun x2 => (if (lg_cmp x2 (0)) ≠ 0 then ((ldR [some 96, some 97, some 98, some 99, some 100, some 101] v2).bind fun a3 => ((ldL (L a3) v2).bind fun x4 => ((ldR [some 96, some 97, some 98, some 99, some 100, some 101] v4).bind fun a5 => ((ldL (L a5) v2).bind fun x6 => mm_run G0 162 94 [some (.ref 84), some (.int v1), some (.int v2), some (.int v3), some (.int v4), some (.long x4), none, some (.long x6), none, some (.long 0), none, some (.int 0)] [] (HP I A L F E))))) else mm_run G0 162 38 [some (.ref 84), some (.int v1), some (.int v2), some (.int v3), some (.int (v4 + 1)), (o5.map Value.long), none, (o7.map Value.long), none, (o9.map Value.long), none, (o11.map Value.int)] [] (HP I A L F E)))))) := by
  match o5, o7, o9, o11 with
  | none, none, none, none => exact sg_X8_clears_38_v0000 v1 v2 v3 v4
  | none, none, none, some o11 => exact sg_X8_clears_38_v0001 v1 v2 v3 v4 o11
  | none, none, some o9, none => exact sg_X8_clears_38_v0010 v1 v2 v3 v4 o9
  | none, none, some o9, some o11 => exact sg_X8_clears_38_v0011 v1 v2 v3 v4 o9 o11
  | none, some o7, none, none => exact sg_X8_clears_38_v0100 v1 v2 v3 v4 o7
  | none, some o7, none, some o11 => exact sg_X8_clears_38_v0101 v1 v2 v3 v4 o7 o11
  | none, some o7, some o9, none => exact sg_X8_clears_38_v0110 v1 v2 v3 v4 o7 o9
  | none, some o7, some o9, some o11 => exact sg_X8_clears_38_v0111 v1 v2 v3 v4 o7 o9 o11
  | some o5, none, none, none => exact sg_X8_clears_38_v1000 v1 v2 v3 v4 o5
  | some o5, none, none, some o11 => exact sg_X8_clears_38_v1001 v1 v2 v3 v4 o5 o11
  | some o5, none, some o9, none => exact sg_X8_clears_38_v1010 v1 v2 v3 v4 o5 o9
  | some o5, none, some o9, some o11 => exact sg_X8_clears_38_v1011 v1 v2 v3 v4 o5 o9 o11
  | some o5, some o7, none, none => exact sg_X8_clears_38_v1100 v1 v2 v3 v4 o5 o7
  | some o5, some o7, none, some o11 => exact sg_X8_clears_38_v1101 v1 v2 v3 v4 o5 o7 o11
  | some o5, some o7, some o9, none => exact sg_X8_clears_38_v1110 v1 v2 v3 v4 o5 o7 o9
  | some o5, some o7, some o9, some o11 => exact sg_X8_clears_38_v1111 v1 v2 v3 v4 o5 o7 o9 o11
set_option maxRecDepth 20000 in
theorem sg_X8_clears_94 {I : Nat → Int32} {A : Nat → List Int32} {L : Nat → List Int64} {F : Nat → Int64} {E : MH} (v1 : Int32) (v2 : Int32) (v3 : Int32) (v4 : Int32) (v5 : Int64) (v7 : Int64) (v9 : Int64) (v11 : Int32) : mm_run G0 162 94 [some (.ref 84), some (.int v1), some (.int v2), some (.int v3), some (.int v4), some (.long v5), none, some (.long v7), none, some (.long v9), none, some (.int v11)] [] (HP I A L F E) = (if v1 < v11 then mm_run G0 162 162 [some (.ref 84), some (.int v1), some (.int v2), some (.int v3), some (.int v4), some (.long v5), none, some (.long v7), none, some (.long v9), none, some (.int 0)] [] (HP I A L F E) else ((ldR [some 96, some 97, some 98, some 99, some 100, some 101] v4).bind fun a1 => ((ldR [some 96, some 97, some 98, some 99, some 100, some 101] v4).bind fun a2 => ((ldL (L a2) v11).bind fun x3 => ((ldR [some 96, some 97, some 98, some 99, some 100, some 101] v2).bind fun a4 => ((ldL (L a4) v11).bind fun x5 => ((stL (L a1) v11 ((v5 * x3) - (v7 * x5))).bind fun X6 => ((ldR [some 96, some 97, some 98, some 99, some 100, some 101] v4).bind fun a7 => ((ldL ((fu L a1 X6) a7) v11).bind fun x8 => ((mm_call G0 151 [.long v9, .long x8] (HP I A (fu L a1 X6) F E)).bind fun q => mm_run G0 162 151 [some (.ref 84), some (.int v1), some (.int v2), some (.int v3), some (.int v4), some (.long v5), none, some (.long v7), none, some (.long v9), none, some (.int v11)] (q.1.toList ++ []) q.2)))))))))) := by
  refine (sg_go ht_X8_clears (k := 2) (pc' := 97) (L' := [some (.ref 84), some (.int v1), some (.int v2), some (.int v3), some (.int v4), some (.long v5), none, some (.long v7), none, some (.long v9), none, some (.int v11)]) (st' := [.int v1, .int v11]) (h' := (HP I A L F E)) rfl).trans ?_
  refine (sg_cmp ht_X8_clears rfl).trans ?_
  refine ite_congr rfl (fun _ => ?_) (fun _ => ?_)
  · refine (sg_go ht_X8_clears (k := 2) (pc' := 162) (L' := [some (.ref 84), some (.int v1), some (.int v2), some (.int v3), some (.int v4), some (.long v5), none, some (.long v7), none, some (.long v9), none, some (.int 0)]) (st' := []) (h' := (HP I A L F E)) rfl).trans ?_
    rfl
  · refine (sg_go ht_X8_clears (k := 3) (pc' := 106) (L' := [some (.ref 84), some (.int v1), some (.int v2), some (.int v3), some (.int v4), some (.long v5), none, some (.long v7), none, some (.long v9), none, some (.int v11)]) (st' := [.int v4, .ref 95]) (h' := (HP I A L F E)) rfl).trans ?_
    refine (sg_ldR ht_X8_clears rfl hp_o_95).trans ?_
    refine bind_cg fun a1 ha1 => ?_
    have ha1 := in_95 ha1
    refine (sg_go ht_X8_clears (k := 5) (pc' := 117) (L' := [some (.ref 84), some (.int v1), some (.int v2), some (.int v3), some (.int v4), some (.long v5), none, some (.long v7), none, some (.long v9), none, some (.int v11)]) (st' := [.int v4, .ref 95, .long v5, .int v11, .ref a1]) (h' := (HP I A L F E)) rfl).trans ?_
    refine (sg_ldR ht_X8_clears rfl hp_o_95).trans ?_
    refine bind_cg fun a2 ha2 => ?_
    have ha2 := in_95 ha2
    refine (sg_go ht_X8_clears (k := 1) (pc' := 120) (L' := [some (.ref 84), some (.int v1), some (.int v2), some (.int v3), some (.int v4), some (.long v5), none, some (.long v7), none, some (.long v9), none, some (.int v11)]) (st' := [.int v11, .ref a2, .long v5, .int v11, .ref a1]) (h' := (HP I A L F E)) rfl).trans ?_
    refine (sg_ldL ht_X8_clears rfl (sMr_obj ha2)).trans ?_
    refine bind_cg fun x3 hx3 => ?_
    refine (sg_go ht_X8_clears (k := 5) (pc' := 129) (L' := [some (.ref 84), some (.int v1), some (.int v2), some (.int v3), some (.int v4), some (.long v5), none, some (.long v7), none, some (.long v9), none, some (.int v11)]) (st' := [.int v2, .ref 95, .long v7, .long (v5 * x3), .int v11, .ref a1]) (h' := (HP I A L F E)) rfl).trans ?_
    refine (sg_ldR ht_X8_clears rfl hp_o_95).trans ?_
    refine bind_cg fun a4 ha4 => ?_
    have ha4 := in_95 ha4
    refine (sg_go ht_X8_clears (k := 1) (pc' := 132) (L' := [some (.ref 84), some (.int v1), some (.int v2), some (.int v3), some (.int v4), some (.long v5), none, some (.long v7), none, some (.long v9), none, some (.int v11)]) (st' := [.int v11, .ref a4, .long v7, .long (v5 * x3), .int v11, .ref a1]) (h' := (HP I A L F E)) rfl).trans ?_
    refine (sg_ldL ht_X8_clears rfl (sMr_obj ha4)).trans ?_
    refine bind_cg fun x5 hx5 => ?_
    refine (sg_go ht_X8_clears (k := 2) (pc' := 135) (L' := [some (.ref 84), some (.int v1), some (.int v2), some (.int v3), some (.int v4), some (.long v5), none, some (.long v7), none, some (.long v9), none, some (.int v11)]) (st' := [.long ((v5 * x3) - (v7 * x5)), .int v11, .ref a1]) (h' := (HP I A L F E)) rfl).trans ?_
    refine (sg_stL (hh := fun X6 => (HP I A (fu L a1 X6) F E)) ht_X8_clears rfl (sMr_obj ha1) (fun _ => sMr_ast ha1)).trans ?_
    refine bind_cg fun X6 hX6 => ?_
    refine (sg_go ht_X8_clears (k := 4) (pc' := 144) (L' := [some (.ref 84), some (.int v1), some (.int v2), some (.int v3), some (.int v4), some (.long v5), none, some (.long v7), none, some (.long v9), none, some (.int v11)]) (st' := [.int v4, .ref 95, .long v9]) (h' := (HP I A (fu L a1 X6) F E)) rfl).trans ?_
    refine (sg_ldR ht_X8_clears rfl hp_o_95).trans ?_
    refine bind_cg fun a7 ha7 => ?_
    have ha7 := in_95 ha7
    refine (sg_go ht_X8_clears (k := 1) (pc' := 147) (L' := [some (.ref 84), some (.int v1), some (.int v2), some (.int v3), some (.int v4), some (.long v5), none, some (.long v7), none, some (.long v9), none, some (.int v11)]) (st' := [.int v11, .ref a7, .long v9]) (h' := (HP I A (fu L a1 X6) F E)) rfl).trans ?_
    refine (sg_ldL ht_X8_clears rfl (sMr_obj ha7)).trans ?_
    refine bind_cg fun x8 hx8 => ?_
    refine (sg_call ht_X8_clears (mj := 151) (as := [.long v9, .long x8]) (rest := []) rfl rfl ⟨by decide, Nat.le_of_ble_eq_true rfl⟩).trans ?_
    rfl
set_option maxRecDepth 20000 in
theorem sg_X8_clears_162 {I : Nat → Int32} {A : Nat → List Int32} {L : Nat → List Int64} {F : Nat → Int64} {E : MH} (v1 : Int32) (v2 : Int32) (v3 : Int32) (v4 : Int32) (v5 : Int64) (v7 : Int64) (v9 : Int64) (v11 : Int32) : mm_run G0 162 162 [some (.ref 84), some (.int v1), some (.int v2), some (.int v3), some (.int v4), some (.long v5), none, some (.long v7), none, some (.long v9), none, some (.int v11)] [] (HP I A L F E) = (if v1 < v11 then mm_run G0 162 38 [some (.ref 84), some (.int v1), some (.int v2), some (.int v3), some (.int (v4 + 1)), some (.long v5), none, some (.long v7), none, some (.long v9), none, some (.int v11)] [] (HP I A L F E) else (if (lg_cmp v9 (1)) ≤ 0 then mm_run G0 162 38 [some (.ref 84), some (.int v1), some (.int v2), some (.int v3), some (.int (v4 + 1)), some (.long v5), none, some (.long v7), none, some (.long v9), none, some (.int v11)] [] (HP I A L F E) else ((ldR [some 96, some 97, some 98, some 99, some 100, some 101] v4).bind fun a1 => ((ldL (L a1) v11).bind fun x2 => (if v9 = 0 then none else ((stL (L a1) v11 (x2 / v9)).bind fun X3 => mm_run G0 162 162 [some (.ref 84), some (.int v1), some (.int v2), some (.int v3), some (.int v4), some (.long v5), none, some (.long v7), none, some (.long v9), none, some (.int (v11 + 1))] [] (HP I A (fu L a1 X3) F E))))))) := by
  refine (sg_go ht_X8_clears (k := 2) (pc' := 165) (L' := [some (.ref 84), some (.int v1), some (.int v2), some (.int v3), some (.int v4), some (.long v5), none, some (.long v7), none, some (.long v9), none, some (.int v11)]) (st' := [.int v1, .int v11]) (h' := (HP I A L F E)) rfl).trans ?_
  refine (sg_cmp ht_X8_clears rfl).trans ?_
  refine ite_congr rfl (fun _ => ?_) (fun _ => ?_)
  · refine (sg_go ht_X8_clears (k := 2) (pc' := 38) (L' := [some (.ref 84), some (.int v1), some (.int v2), some (.int v3), some (.int (v4 + 1)), some (.long v5), none, some (.long v7), none, some (.long v9), none, some (.int v11)]) (st' := []) (h' := (HP I A L F E)) rfl).trans ?_
    rfl
  · refine (sg_go ht_X8_clears (k := 3) (pc' := 172) (L' := [some (.ref 84), some (.int v1), some (.int v2), some (.int v3), some (.int v4), some (.long v5), none, some (.long v7), none, some (.long v9), none, some (.int v11)]) (st' := [.int (lg_cmp v9 (1))]) (h' := (HP I A L F E)) rfl).trans ?_
    refine (sg_if ht_X8_clears rfl).trans ?_
    refine ite_congr rfl (fun _ => ?_) (fun _ => ?_)
    · refine (sg_go ht_X8_clears (k := 2) (pc' := 38) (L' := [some (.ref 84), some (.int v1), some (.int v2), some (.int v3), some (.int (v4 + 1)), some (.long v5), none, some (.long v7), none, some (.long v9), none, some (.int v11)]) (st' := []) (h' := (HP I A L F E)) rfl).trans ?_
      rfl
    · refine (sg_go ht_X8_clears (k := 3) (pc' := 181) (L' := [some (.ref 84), some (.int v1), some (.int v2), some (.int v3), some (.int v4), some (.long v5), none, some (.long v7), none, some (.long v9), none, some (.int v11)]) (st' := [.int v4, .ref 95]) (h' := (HP I A L F E)) rfl).trans ?_
      refine (sg_ldR ht_X8_clears rfl hp_o_95).trans ?_
      refine bind_cg fun a1 ha1 => ?_
      have ha1 := in_95 ha1
      refine (sg_go ht_X8_clears (k := 2) (pc' := 185) (L' := [some (.ref 84), some (.int v1), some (.int v2), some (.int v3), some (.int v4), some (.long v5), none, some (.long v7), none, some (.long v9), none, some (.int v11)]) (st' := [.int v11, .ref a1, .int v11, .ref a1]) (h' := (HP I A L F E)) rfl).trans ?_
      refine (sg_ldL ht_X8_clears rfl (sMr_obj ha1)).trans ?_
      refine bind_cg fun x2 hx2 => ?_
      refine (sg_go ht_X8_clears (k := 1) (pc' := 188) (L' := [some (.ref 84), some (.int v1), some (.int v2), some (.int v3), some (.int v4), some (.long v5), none, some (.long v7), none, some (.long v9), none, some (.int v11)]) (st' := [.long v9, .long x2, .int v11, .ref a1]) (h' := (HP I A L F E)) rfl).trans ?_
      refine (sg_ldiv ht_X8_clears rfl).trans ?_
      refine ite_congr rfl (fun _ => rfl) (fun _ => ?_)
      refine (sg_stL (hh := fun X3 => (HP I A (fu L a1 X3) F E)) ht_X8_clears rfl (sMr_obj ha1) (fun _ => sMr_ast ha1)).trans ?_
      refine bind_cg fun X3 hX3 => ?_
      refine (sg_go ht_X8_clears (k := 2) (pc' := 162) (L' := [some (.ref 84), some (.int v1), some (.int v2), some (.int v3), some (.int v4), some (.long v5), none, some (.long v7), none, some (.long v9), none, some (.int (v11 + 1))]) (st' := []) (h' := (HP I A (fu L a1 X3) F E)) rfl).trans ?_
      rfl
set_option maxRecDepth 20000 in
theorem sg_X8_clears_151 {I : Nat → Int32} {A : Nat → List Int32} {L : Nat → List Int64} {F : Nat → Int64} {E : MH} (v1 : Int32) (v2 : Int32) (v3 : Int32) (v4 : Int32) (v5 : Int64) (v7 : Int64) (v9 : Int64) (v11 : Int32) (s0 : Int64) : mm_run G0 162 151 [some (.ref 84), some (.int v1), some (.int v2), some (.int v3), some (.int v4), some (.long v5), none, some (.long v7), none, some (.long v9), none, some (.int v11)] [.long s0] (HP I A L F E) = mm_run G0 162 94 [some (.ref 84), some (.int v1), some (.int v2), some (.int v3), some (.int v4), some (.long v5), none, some (.long v7), none, some (.long s0), none, some (.int (v11 + 1))] [] (HP I A L F E) := by
  refine (sg_go ht_X8_clears (k := 3) (pc' := 94) (L' := [some (.ref 84), some (.int v1), some (.int v2), some (.int v3), some (.int v4), some (.long v5), none, some (.long v7), none, some (.long s0), none, some (.int (v11 + 1))]) (st' := []) (h' := (HP I A L F E)) rfl).trans ?_
  rfl
set_option maxRecDepth 20000 in
theorem sg_X8_run_0 {I : Nat → Int32} {A : Nat → List Int32} {L : Nat → List Int64} {F : Nat → Int64} {E : MH} (p1 : Int32) (p2 : Int32) (p3 : Int32) : mm_call G0 163 [.ref 84, .int p1, .int p2, .int p3] (HP I A L F E) = (if ¬ p1 < 0 ∧ ¬ 3 < p1 then ((ldI (A 85) ((45 * p1) + 3)).bind fun x1 => (if 6 < x1 then some (some (.long (-9223372036854775808)), (HP I A L F E)) else ((ldI (A 85) ((45 * p1) + 3)).bind fun x2 => (if ¬ p2 < 0 ∧ ¬ (x2 - 1) < p2 then ((ldI (A 85) 180).bind fun x3 => ((ldI (A 85) 181).bind fun x4 => ((ldI (A 85) 182).bind fun x5 => ((ldI (A 85) 183).bind fun x6 => ((ldI (A 85) 184).bind fun x7 => (if (((((0 + x3) + x4) + x5) + x6) + x7) ≤ 0 then some (some (.long (-9223372036854775808)), (HP I A L F E)) else (if ¬ p3 < 0 ∧ ¬ 1 < p3 then ((ldI (A 85) ((45 * p1) + 3)).bind fun x8 => ((mm_call G0 158 [.ref 84, .int p1, .int p2] (HP I A L F E)).bind fun q => mm_run G0 163 41 [some (.ref 84), some (.int p1), some (.int p2), some (.int p3), some (.int x8), none, none] (q.1.toList ++ []) q.2)) else some (some (.long (-9223372036854775808)), (HP I A L F E))))))))) else some (some (.long (-9223372036854775808)), (HP I A L F E)))))) else some (some (.long (-9223372036854775808)), (HP I A L F E))) := by
  show mm_run G0 163 0 [some (.ref 84), some (.int p1), some (.int p2), some (.int p3), none, none, none] [] (HP I A L F E) = _
  refine (sg_go ht_X8_run (k := 3) (pc' := 3) (L' := [some (.ref 84), some (.int p1), some (.int p2), some (.int p3), none, none, none]) (st' := [.int p2, .int p1, .ref 84]) (h' := (HP I A L F E)) rfl).trans ?_
  refine (sg_call ht_X8_run (mj := 159) (as := [.ref 84, .int p1, .int p2]) (rest := []) rfl rfl ⟨by decide, Nat.le_of_ble_eq_true rfl⟩).trans ?_
  refine (bind_eq (sg_X8_isChain_0 p1 p2)).trans ?_
  refine ite_bd.trans ?_
  refine ite_congr rfl (fun _ => ?_) (fun _ => ?_)
  · refine bind_as.trans ?_
    refine bind_cg fun x1 hx1 => ?_
    refine ite_bd.trans ?_
    refine ite_congr rfl (fun _ => ?_) (fun _ => ?_)
    · show mm_run G0 163 6 [some (.ref 84), some (.int p1), some (.int p2), some (.int p3), none, none, none] [.int 0] (HP I A L F E) = _
      refine (sg_go ht_X8_run (k := 2) (pc' := 21) (L' := [some (.ref 84), some (.int p1), some (.int p2), some (.int p3), none, none, none]) (st' := [.long (-9223372036854775808)]) (h' := (HP I A L F E)) rfl).trans ?_
      exact sg_ret ht_X8_run rfl rfl
    · refine bind_as.trans ?_
      refine bind_cg fun x2 hx2 => ?_
      refine ite_bd.trans ?_
      refine ite_congr rfl (fun _ => ?_) (fun _ => ?_)
      · refine bind_as.trans ?_
        refine bind_cg fun x3 hx3 => ?_
        refine bind_as.trans ?_
        refine bind_cg fun x4 hx4 => ?_
        refine bind_as.trans ?_
        refine bind_cg fun x5 hx5 => ?_
        refine bind_as.trans ?_
        refine bind_cg fun x6 hx6 => ?_
        refine bind_as.trans ?_
        refine bind_cg fun x7 hx7 => ?_
        refine ite_bd.trans ?_
        refine ite_congr rfl (fun _ => ?_) (fun _ => ?_)
        · show mm_run G0 163 6 [some (.ref 84), some (.int p1), some (.int p2), some (.int p3), none, none, none] [.int 0] (HP I A L F E) = _
          refine (sg_go ht_X8_run (k := 2) (pc' := 21) (L' := [some (.ref 84), some (.int p1), some (.int p2), some (.int p3), none, none, none]) (st' := [.long (-9223372036854775808)]) (h' := (HP I A L F E)) rfl).trans ?_
          exact sg_ret ht_X8_run rfl rfl
        · show mm_run G0 163 6 [some (.ref 84), some (.int p1), some (.int p2), some (.int p3), none, none, none] [.int 1] (HP I A L F E) = _
          refine (sg_go ht_X8_run (k := 4) (pc' := 12) (L' := [some (.ref 84), some (.int p1), some (.int p2), some (.int p3), none, none, none]) (st' := [.int 1, .int 0, .int p3]) (h' := (HP I A L F E)) rfl).trans ?_
          refine (sg_call ht_X8_run (mj := 113) (as := [.int p3, .int 0, .int 1]) (rest := []) rfl rfl ⟨by decide, Nat.le_of_ble_eq_true rfl⟩).trans ?_
          refine (bind_eq (sp_X8_isIn p3 0 1)).trans ?_
          show mm_run G0 163 15 [some (.ref 84), some (.int p1), some (.int p2), some (.int p3), none, none, none] [.int (bi (decide (¬ p3 < 0 ∧ ¬ 1 < p3)))] (HP I A L F E) = _
          refine (sg_bn ht_X8_run rfl).trans ?_
          refine ite_congr rfl (fun _ => ?_) (fun _ => ?_)
          · refine (sg_go ht_X8_run (k := 3) (pc' := 27) (L' := [some (.ref 84), some (.int p1), some (.int p2), some (.int p3), none, none, none]) (st' := [.int p1, .ref 85]) (h' := (HP I A L F E)) rfl).trans ?_
            refine (sg_call ht_X8_run (mj := 112) (as := [.int p1]) (rest := [.ref 85]) rfl rfl ⟨by decide, Nat.le_of_ble_eq_true rfl⟩).trans ?_
            refine (bind_eq (sg_X8_base_0 p1)).trans ?_
            show mm_run G0 163 30 [some (.ref 84), some (.int p1), some (.int p2), some (.int p3), none, none, none] [.int (45 * p1), .ref 85] (HP I A L F E) = _
            refine (sg_go ht_X8_run (k := 2) (pc' := 32) (L' := [some (.ref 84), some (.int p1), some (.int p2), some (.int p3), none, none, none]) (st' := [.int ((45 * p1) + 3), .ref 85]) (h' := (HP I A L F E)) rfl).trans ?_
            refine (sg_ldI ht_X8_run rfl hp_o_85).trans ?_
            refine bind_cg fun x8 hx8 => ?_
            refine (sg_go ht_X8_run (k := 4) (pc' := 38) (L' := [some (.ref 84), some (.int p1), some (.int p2), some (.int p3), some (.int x8), none, none]) (st' := [.int p2, .int p1, .ref 84]) (h' := (HP I A L F E)) rfl).trans ?_
            refine (sg_call ht_X8_run (mj := 158) (as := [.ref 84, .int p1, .int p2]) (rest := []) rfl rfl ⟨by decide, Nat.le_of_ble_eq_true rfl⟩).trans ?_
            rfl
          · refine (sg_go ht_X8_run (k := 1) (pc' := 21) (L' := [some (.ref 84), some (.int p1), some (.int p2), some (.int p3), none, none, none]) (st' := [.long (-9223372036854775808)]) (h' := (HP I A L F E)) rfl).trans ?_
            exact sg_ret ht_X8_run rfl rfl
      · show mm_run G0 163 6 [some (.ref 84), some (.int p1), some (.int p2), some (.int p3), none, none, none] [.int 0] (HP I A L F E) = _
        refine (sg_go ht_X8_run (k := 2) (pc' := 21) (L' := [some (.ref 84), some (.int p1), some (.int p2), some (.int p3), none, none, none]) (st' := [.long (-9223372036854775808)]) (h' := (HP I A L F E)) rfl).trans ?_
        exact sg_ret ht_X8_run rfl rfl
  · show mm_run G0 163 6 [some (.ref 84), some (.int p1), some (.int p2), some (.int p3), none, none, none] [.int 0] (HP I A L F E) = _
    refine (sg_go ht_X8_run (k := 2) (pc' := 21) (L' := [some (.ref 84), some (.int p1), some (.int p2), some (.int p3), none, none, none]) (st' := [.long (-9223372036854775808)]) (h' := (HP I A L F E)) rfl).trans ?_
    exact sg_ret ht_X8_run rfl rfl
set_option maxRecDepth 20000 in
theorem sg_X8_run_41 {I : Nat → Int32} {A : Nat → List Int32} {L : Nat → List Int64} {F : Nat → Int64} {E : MH} (v1 : Int32) (v2 : Int32) (v3 : Int32) (v4 : Int32) (s0 : Int32) : mm_run G0 163 41 [some (.ref 84), some (.int v1), some (.int v2), some (.int v3), some (.int v4), none, none] [.int s0] (HP I A L F E) = mm_run G0 163 46 [some (.ref 84), some (.int v1), some (.int v2), some (.int v3), some (.int v4), some (.int s0), some (.int 0)] [] (HP I A L F E) := by
  refine (sg_go ht_X8_run (k := 3) (pc' := 46) (L' := [some (.ref 84), some (.int v1), some (.int v2), some (.int v3), some (.int v4), some (.int s0), some (.int 0)]) (st' := []) (h' := (HP I A L F E)) rfl).trans ?_
  rfl
set_option maxRecDepth 20000 in
theorem sg_X8_run_46 {I : Nat → Int32} {A : Nat → List Int32} {L : Nat → List Int64} {F : Nat → Int64} {E : MH} (v1 : Int32) (v2 : Int32) (v3 : Int32) (v4 : Int32) (v5 : Int32) (v6 : Int32) : mm_run G0 163 46 [some (.ref 84), some (.int v1), some (.int v2), some (.int v3), some (.int v4), some (.int v5), some (.int v6)] [] (HP I A L F E) = (if v4 ≤ v6 then ((mm_call G0 160 [.ref 84, .int v1, .int v5] (HP I A L F E)).bind fun q => mm_run G0 163 96 [some (.ref 84), some (.int v1), some (.int v2), some (.int v3), some (.int v4), some (.int v5), some (.int v6)] (q.1.toList ++ []) q.2) else (if ((v5 >>> (v6 &&& 31)) &&& 1) ≠ 1 then mm_run G0 163 46 [some (.ref 84), some (.int v1), some (.int v2), some (.int v3), some (.int v4), some (.int v5), some (.int (v6 + 1))] [] (HP I A L F E) else ((mm_call G0 158 [.ref 84, .int v1, .int v6] (HP I A L F E)).bind fun q => mm_run G0 163 71 [some (.ref 84), some (.int v1), some (.int v2), some (.int v3), some (.int v4), some (.int v5), some (.int v6)] (q.1.toList ++ []) q.2))) := by
  refine (sg_go ht_X8_run (k := 2) (pc' := 50) (L' := [some (.ref 84), some (.int v1), some (.int v2), some (.int v3), some (.int v4), some (.int v5), some (.int v6)]) (st' := [.int v4, .int v6]) (h' := (HP I A L F E)) rfl).trans ?_
  refine (sg_cmp ht_X8_run rfl).trans ?_
  refine ite_congr rfl (fun _ => ?_) (fun _ => ?_)
  · refine (sg_go ht_X8_run (k := 3) (pc' := 93) (L' := [some (.ref 84), some (.int v1), some (.int v2), some (.int v3), some (.int v4), some (.int v5), some (.int v6)]) (st' := [.int v5, .int v1, .ref 84]) (h' := (HP I A L F E)) rfl).trans ?_
    refine (sg_call ht_X8_run (mj := 160) (as := [.ref 84, .int v1, .int v5]) (rest := []) rfl rfl ⟨by decide, Nat.le_of_ble_eq_true rfl⟩).trans ?_
    rfl
  · refine (sg_go ht_X8_run (k := 6) (pc' := 61) (L' := [some (.ref 84), some (.int v1), some (.int v2), some (.int v3), some (.int v4), some (.int v5), some (.int v6)]) (st' := [.int 1, .int ((v5 >>> (v6 &&& 31)) &&& 1)]) (h' := (HP I A L F E)) rfl).trans ?_
    refine (sg_cmp ht_X8_run rfl).trans ?_
    refine ite_congr rfl (fun _ => ?_) (fun _ => ?_)
    · refine (sg_go ht_X8_run (k := 2) (pc' := 46) (L' := [some (.ref 84), some (.int v1), some (.int v2), some (.int v3), some (.int v4), some (.int v5), some (.int (v6 + 1))]) (st' := []) (h' := (HP I A L F E)) rfl).trans ?_
      rfl
    · refine (sg_go ht_X8_run (k := 3) (pc' := 68) (L' := [some (.ref 84), some (.int v1), some (.int v2), some (.int v3), some (.int v4), some (.int v5), some (.int v6)]) (st' := [.int v6, .int v1, .ref 84]) (h' := (HP I A L F E)) rfl).trans ?_
      refine (sg_call ht_X8_run (mj := 158) (as := [.ref 84, .int v1, .int v6]) (rest := []) rfl rfl ⟨by decide, Nat.le_of_ble_eq_true rfl⟩).trans ?_
      rfl
set_option maxRecDepth 20000 in
theorem sg_X8_run_96 {I : Nat → Int32} {A : Nat → List Int32} {L : Nat → List Int64} {F : Nat → Int64} {E : MH} (v1 : Int32) (v2 : Int32) (v3 : Int32) (v4 : Int32) (v5 : Int32) (v6 : Int32) : mm_run G0 163 96 [some (.ref 84), some (.int v1), some (.int v2), some (.int v3), some (.int v4), some (.int v5), some (.int v6)] [] (HP I A L F E) = ((mm_call G0 162 [.ref 84, .int v4] (HP I A L F E)).bind fun q => mm_run G0 163 102 [some (.ref 84), some (.int v1), some (.int v2), some (.int v3), some (.int v4), some (.int v5), some (.int v6)] (q.1.toList ++ []) q.2) := by
  refine (sg_go ht_X8_run (k := 2) (pc' := 99) (L' := [some (.ref 84), some (.int v1), some (.int v2), some (.int v3), some (.int v4), some (.int v5), some (.int v6)]) (st' := [.int v4, .ref 84]) (h' := (HP I A L F E)) rfl).trans ?_
  refine (sg_call ht_X8_run (mj := 162) (as := [.ref 84, .int v4]) (rest := []) rfl rfl ⟨by decide, Nat.le_of_ble_eq_true rfl⟩).trans ?_
  rfl
set_option maxRecDepth 20000 in
theorem sg_X8_run_71 {I : Nat → Int32} {A : Nat → List Int32} {L : Nat → List Int64} {F : Nat → Int64} {E : MH} (v1 : Int32) (v2 : Int32) (v3 : Int32) (v4 : Int32) (v5 : Int32) (v6 : Int32) (s0 : Int32) : mm_run G0 163 71 [some (.ref 84), some (.int v1), some (.int v2), some (.int v3), some (.int v4), some (.int v5), some (.int v6)] [.int s0] (HP I A L F E) = (if ((s0 >>> (v4 &&& 31)) &&& 1) ≠ 0 then mm_run G0 163 46 [some (.ref 84), some (.int v1), some (.int v2), some (.int v3), some (.int v4), some (.int v5), some (.int (v6 + 1))] [] (HP I A L F E) else some (some (.long (-9223372036854775808)), (HP I A L F E))) := by
  refine (sg_go ht_X8_run (k := 4) (pc' := 76) (L' := [some (.ref 84), some (.int v1), some (.int v2), some (.int v3), some (.int v4), some (.int v5), some (.int v6)]) (st' := [.int ((s0 >>> (v4 &&& 31)) &&& 1)]) (h' := (HP I A L F E)) rfl).trans ?_
  refine (sg_if ht_X8_run rfl).trans ?_
  refine ite_congr rfl (fun _ => ?_) (fun _ => ?_)
  · refine (sg_go ht_X8_run (k := 2) (pc' := 46) (L' := [some (.ref 84), some (.int v1), some (.int v2), some (.int v3), some (.int v4), some (.int v5), some (.int (v6 + 1))]) (st' := []) (h' := (HP I A L F E)) rfl).trans ?_
    rfl
  · refine (sg_go ht_X8_run (k := 1) (pc' := 82) (L' := [some (.ref 84), some (.int v1), some (.int v2), some (.int v3), some (.int v4), some (.int v5), some (.int v6)]) (st' := [.long (-9223372036854775808)]) (h' := (HP I A L F E)) rfl).trans ?_
    exact sg_ret ht_X8_run rfl rfl
set_option maxRecDepth 20000 in
theorem sg_X8_run_102 {I : Nat → Int32} {A : Nat → List Int32} {L : Nat → List Int64} {F : Nat → Int64} {E : MH} (v1 : Int32) (v2 : Int32) (v3 : Int32) (v4 : Int32) (v5 : Int32) (v6 : Int32) : mm_run G0 163 102 [some (.ref 84), some (.int v1), some (.int v2), some (.int v3), some (.int v4), some (.int v5), some (.int v6)] [] (HP I A L F E) = ((ldR [some 96, some 97, some 98, some 99, some 100, some 101] v2).bind fun a1 => ((ldL (L a1) v4).bind fun x2 => ((ldR [some 96, some 97, some 98, some 99, some 100, some 101] v2).bind fun a3 => ((ldL (L a3) v2).bind fun x4 => ((mm_call G0 152 [.long x2, .long x4, .int v3] (HP I A L F E)).bind fun q => mm_run G0 163 123 [some (.ref 84), some (.int v1), some (.int v2), some (.int v3), some (.int v4), some (.int v5), some (.int v6)] (q.1.toList ++ []) q.2))))) := by
  refine (sg_go ht_X8_run (k := 3) (pc' := 107) (L' := [some (.ref 84), some (.int v1), some (.int v2), some (.int v3), some (.int v4), some (.int v5), some (.int v6)]) (st' := [.int v2, .ref 95]) (h' := (HP I A L F E)) rfl).trans ?_
  refine (sg_ldR ht_X8_run rfl hp_o_95).trans ?_
  refine bind_cg fun a1 ha1 => ?_
  have ha1 := in_95 ha1
  refine (sg_go ht_X8_run (k := 1) (pc' := 110) (L' := [some (.ref 84), some (.int v1), some (.int v2), some (.int v3), some (.int v4), some (.int v5), some (.int v6)]) (st' := [.int v4, .ref a1]) (h' := (HP I A L F E)) rfl).trans ?_
  refine (sg_ldL ht_X8_run rfl (sMr_obj ha1)).trans ?_
  refine bind_cg fun x2 hx2 => ?_
  refine (sg_go ht_X8_run (k := 3) (pc' := 116) (L' := [some (.ref 84), some (.int v1), some (.int v2), some (.int v3), some (.int v4), some (.int v5), some (.int v6)]) (st' := [.int v2, .ref 95, .long x2]) (h' := (HP I A L F E)) rfl).trans ?_
  refine (sg_ldR ht_X8_run rfl hp_o_95).trans ?_
  refine bind_cg fun a3 ha3 => ?_
  have ha3 := in_95 ha3
  refine (sg_go ht_X8_run (k := 1) (pc' := 118) (L' := [some (.ref 84), some (.int v1), some (.int v2), some (.int v3), some (.int v4), some (.int v5), some (.int v6)]) (st' := [.int v2, .ref a3, .long x2]) (h' := (HP I A L F E)) rfl).trans ?_
  refine (sg_ldL ht_X8_run rfl (sMr_obj ha3)).trans ?_
  refine bind_cg fun x4 hx4 => ?_
  refine (sg_go ht_X8_run (k := 1) (pc' := 120) (L' := [some (.ref 84), some (.int v1), some (.int v2), some (.int v3), some (.int v4), some (.int v5), some (.int v6)]) (st' := [.int v3, .long x4, .long x2]) (h' := (HP I A L F E)) rfl).trans ?_
  refine (sg_call ht_X8_run (mj := 152) (as := [.long x2, .long x4, .int v3]) (rest := []) rfl rfl ⟨by decide, Nat.le_of_ble_eq_true rfl⟩).trans ?_
  rfl
set_option maxRecDepth 20000 in
theorem sg_X8_run_123 {I : Nat → Int32} {A : Nat → List Int32} {L : Nat → List Int64} {F : Nat → Int64} {E : MH} (v1 : Int32) (v2 : Int32) (v3 : Int32) (v4 : Int32) (v5 : Int32) (v6 : Int32) (s0 : Int64) : mm_run G0 163 123 [some (.ref 84), some (.int v1), some (.int v2), some (.int v3), some (.int v4), some (.int v5), some (.int v6)] [.long s0] (HP I A L F E) = some (some (.long s0), (HP I A L F E)) := by
  exact sg_ret ht_X8_run rfl rfl
set_option maxRecDepth 20000 in
theorem sg_X8_firstBy_0 {I : Nat → Int32} {A : Nat → List Int32} {L : Nat → List Int64} {F : Nat → Int64} {E : MH} (p1 : Int32) (p2 : Int32) (p3 : Int32) : mm_call G0 165 [.ref 84, .int p1, .int p2, .int p3] (HP I A L F E) = ((ldI (A 85) ((45 * p1) + p2)).bind fun x1 => ((stI (A 85) ((45 * p1) + p2) p3).bind fun X2 => ((mm_call G0 138 [.ref 84, .int p1] (HP I (fu A 85 X2) L F E)).bind fun q => mm_run G0 165 30 [some (.ref 84), some (.int p1), some (.int p2), some (.int p3), some (.int x1)] (q.1.toList ++ []) q.2))) := by
  show mm_run G0 165 0 [some (.ref 84), some (.int p1), some (.int p2), some (.int p3), none] [] (HP I A L F E) = _
  refine (sg_go ht_X8_firstBy (k := 3) (pc' := 5) (L' := [some (.ref 84), some (.int p1), some (.int p2), some (.int p3), none]) (st' := [.int p1, .ref 85]) (h' := (HP I A L F E)) rfl).trans ?_
  refine (sg_call ht_X8_firstBy (mj := 112) (as := [.int p1]) (rest := [.ref 85]) rfl rfl ⟨by decide, Nat.le_of_ble_eq_true rfl⟩).trans ?_
  refine (bind_eq (sg_X8_base_0 p1)).trans ?_
  show mm_run G0 165 8 [some (.ref 84), some (.int p1), some (.int p2), some (.int p3), none] [.int (45 * p1), .ref 85] (HP I A L F E) = _
  refine (sg_go ht_X8_firstBy (k := 2) (pc' := 10) (L' := [some (.ref 84), some (.int p1), some (.int p2), some (.int p3), none]) (st' := [.int ((45 * p1) + p2), .ref 85]) (h' := (HP I A L F E)) rfl).trans ?_
  refine (sg_ldI ht_X8_firstBy rfl hp_o_85).trans ?_
  refine bind_cg fun x1 hx1 => ?_
  refine (sg_go ht_X8_firstBy (k := 4) (pc' := 18) (L' := [some (.ref 84), some (.int p1), some (.int p2), some (.int p3), some (.int x1)]) (st' := [.int p1, .ref 85]) (h' := (HP I A L F E)) rfl).trans ?_
  refine (sg_call ht_X8_firstBy (mj := 112) (as := [.int p1]) (rest := [.ref 85]) rfl rfl ⟨by decide, Nat.le_of_ble_eq_true rfl⟩).trans ?_
  refine (bind_eq (sg_X8_base_0 p1)).trans ?_
  show mm_run G0 165 21 [some (.ref 84), some (.int p1), some (.int p2), some (.int p3), some (.int x1)] [.int (45 * p1), .ref 85] (HP I A L F E) = _
  refine (sg_go ht_X8_firstBy (k := 3) (pc' := 24) (L' := [some (.ref 84), some (.int p1), some (.int p2), some (.int p3), some (.int x1)]) (st' := [.int p3, .int ((45 * p1) + p2), .ref 85]) (h' := (HP I A L F E)) rfl).trans ?_
  refine (sg_stI (hh := fun X2 => (HP I (fu A 85 X2) L F E)) ht_X8_firstBy rfl hp_o_85 (fun _ => hp_s_85)).trans ?_
  refine bind_cg fun X2 hX2 => ?_
  refine (sg_go ht_X8_firstBy (k := 2) (pc' := 27) (L' := [some (.ref 84), some (.int p1), some (.int p2), some (.int p3), some (.int x1)]) (st' := [.int p1, .ref 84]) (h' := (HP I (fu A 85 X2) L F E)) rfl).trans ?_
  refine (sg_call ht_X8_firstBy (mj := 138) (as := [.ref 84, .int p1]) (rest := []) rfl rfl ⟨by decide, Nat.le_of_ble_eq_true rfl⟩).trans ?_
  rfl
set_option maxRecDepth 20000 in
theorem sg_X8_firstBy_30 {I : Nat → Int32} {A : Nat → List Int32} {L : Nat → List Int64} {F : Nat → Int64} {E : MH} (v1 : Int32) (v2 : Int32) (v3 : Int32) (v4 : Int32) : mm_run G0 165 30 [some (.ref 84), some (.int v1), some (.int v2), some (.int v3), some (.int v4)] [] (HP I A L F E) = ((stI (A 85) ((45 * v1) + v2) v4).bind fun X1 => (if (I 8415) ≠ 0 then ((ldI ((fu A 85 X1) 92) 0).bind fun x2 => some (some (.int x2), (HP I (fu A 85 X1) L F E))) else some (some (.int (-5)), (HP I (fu A 85 X1) L F E)))) := by
  refine (sg_go ht_X8_firstBy (k := 3) (pc' := 35) (L' := [some (.ref 84), some (.int v1), some (.int v2), some (.int v3), some (.int v4)]) (st' := [.int v1, .ref 85]) (h' := (HP I A L F E)) rfl).trans ?_
  refine (sg_call ht_X8_firstBy (mj := 112) (as := [.int v1]) (rest := [.ref 85]) rfl rfl ⟨by decide, Nat.le_of_ble_eq_true rfl⟩).trans ?_
  refine (bind_eq (sg_X8_base_0 v1)).trans ?_
  show mm_run G0 165 38 [some (.ref 84), some (.int v1), some (.int v2), some (.int v3), some (.int v4)] [.int (45 * v1), .ref 85] (HP I A L F E) = _
  refine (sg_go ht_X8_firstBy (k := 3) (pc' := 42) (L' := [some (.ref 84), some (.int v1), some (.int v2), some (.int v3), some (.int v4)]) (st' := [.int v4, .int ((45 * v1) + v2), .ref 85]) (h' := (HP I A L F E)) rfl).trans ?_
  refine (sg_stI (hh := fun X1 => (HP I (fu A 85 X1) L F E)) ht_X8_firstBy rfl hp_o_85 (fun _ => hp_s_85)).trans ?_
  refine bind_cg fun X1 hX1 => ?_
  refine (sg_go ht_X8_firstBy (k := 1) (pc' := 44) (L' := [some (.ref 84), some (.int v1), some (.int v2), some (.int v3), some (.int v4)]) (st' := [.ref 84]) (h' := (HP I (fu A 85 X1) L F E)) rfl).trans ?_
  refine (sg_call ht_X8_firstBy (mj := 139) (as := [.ref 84]) (rest := []) rfl rfl ⟨by decide, Nat.le_of_ble_eq_true rfl⟩).trans ?_
  refine (bind_eq (sg_X8_firstAlarm_0 )).trans ?_
  refine ite_bd.trans ?_
  refine ite_congr rfl (fun _ => ?_) (fun _ => ?_)
  · refine bind_as.trans ?_
    refine bind_cg fun x2 hx2 => ?_
    show mm_run G0 165 47 [some (.ref 84), some (.int v1), some (.int v2), some (.int v3), some (.int v4)] [.int x2] (HP I (fu A 85 X1) L F E) = _
    exact sg_ret ht_X8_firstBy rfl rfl
  · show mm_run G0 165 47 [some (.ref 84), some (.int v1), some (.int v2), some (.int v3), some (.int v4)] [.int (-5)] (HP I (fu A 85 X1) L F E) = _
    exact sg_ret ht_X8_firstBy rfl rfl
set_option maxRecDepth 20000 in
theorem sg_X8_would_0 {I : Nat → Int32} {A : Nat → List Int32} {L : Nat → List Int64} {F : Nat → Int64} {E : MH} (p1 : Int32) (p2 : Int32) (p3 : Int32) : mm_call G0 166 [.ref 84, .int p1, .int p2, .int p3] (HP I A L F E) = (if ¬ p1 < 0 ∧ ¬ 3 < p1 then (if ¬ p2 < 2 ∧ ¬ 3 < p2 then (if okF p2 p3 = true then ((mm_call G0 165 [.ref 84, .int p1, .int p2, .int p3] (HP I A L F E)).bind fun q => mm_run G0 166 33 [some (.ref 84), some (.int p1), some (.int p2), some (.int p3)] (q.1.toList ++ []) q.2) else some (some (.int (-2)), (HP I A L F E))) else some (some (.int (-1)), (HP I A L F E))) else some (some (.int (-1)), (HP I A L F E))) := by
  show mm_run G0 166 0 [some (.ref 84), some (.int p1), some (.int p2), some (.int p3)] [] (HP I A L F E) = _
  refine (sg_go ht_X8_would (k := 1) (pc' := 1) (L' := [some (.ref 84), some (.int p1), some (.int p2), some (.int p3)]) (st' := [.int p1]) (h' := (HP I A L F E)) rfl).trans ?_
  refine (sg_call ht_X8_would (mj := 114) (as := [.int p1]) (rest := []) rfl rfl ⟨by decide, Nat.le_of_ble_eq_true rfl⟩).trans ?_
  refine (bind_eq (sp_X8_isStream p1)).trans ?_
  show mm_run G0 166 4 [some (.ref 84), some (.int p1), some (.int p2), some (.int p3)] [.int (bi (decide (¬ p1 < 0 ∧ ¬ 3 < p1)))] (HP I A L F E) = _
  refine (sg_be ht_X8_would rfl).trans ?_
  refine ite_congr rfl (fun _ => ?_) (fun _ => ?_)
  · refine (sg_go ht_X8_would (k := 3) (pc' := 10) (L' := [some (.ref 84), some (.int p1), some (.int p2), some (.int p3)]) (st' := [.int 3, .int 2, .int p2]) (h' := (HP I A L F E)) rfl).trans ?_
    refine (sg_call ht_X8_would (mj := 113) (as := [.int p2, .int 2, .int 3]) (rest := []) rfl rfl ⟨by decide, Nat.le_of_ble_eq_true rfl⟩).trans ?_
    refine (bind_eq (sp_X8_isIn p2 2 3)).trans ?_
    show mm_run G0 166 13 [some (.ref 84), some (.int p1), some (.int p2), some (.int p3)] [.int (bi (decide (¬ p2 < 2 ∧ ¬ 3 < p2)))] (HP I A L F E) = _
    refine (sg_bn ht_X8_would rfl).trans ?_
    refine ite_congr rfl (fun _ => ?_) (fun _ => ?_)
    · refine (sg_go ht_X8_would (k := 2) (pc' := 20) (L' := [some (.ref 84), some (.int p1), some (.int p2), some (.int p3)]) (st' := [.int p3, .int p2]) (h' := (HP I A L F E)) rfl).trans ?_
      refine (sg_call ht_X8_would (mj := 121) (as := [.int p2, .int p3]) (rest := []) rfl rfl ⟨by decide, Nat.le_of_ble_eq_true rfl⟩).trans ?_
      refine (bind_eq (sp_X8_isFit p2 p3)).trans ?_
      show mm_run G0 166 23 [some (.ref 84), some (.int p1), some (.int p2), some (.int p3)] [.int (bi (okF p2 p3))] (HP I A L F E) = _
      refine (sg_beB ht_X8_would rfl).trans ?_
      refine ite_congr rfl (fun _ => ?_) (fun _ => ?_)
      · refine (sg_go ht_X8_would (k := 4) (pc' := 30) (L' := [some (.ref 84), some (.int p1), some (.int p2), some (.int p3)]) (st' := [.int p3, .int p2, .int p1, .ref 84]) (h' := (HP I A L F E)) rfl).trans ?_
        refine (sg_call ht_X8_would (mj := 165) (as := [.ref 84, .int p1, .int p2, .int p3]) (rest := []) rfl rfl ⟨by decide, Nat.le_of_ble_eq_true rfl⟩).trans ?_
        rfl
      · refine (sg_go ht_X8_would (k := 1) (pc' := 38) (L' := [some (.ref 84), some (.int p1), some (.int p2), some (.int p3)]) (st' := [.int (-2)]) (h' := (HP I A L F E)) rfl).trans ?_
        exact sg_ret ht_X8_would rfl rfl
    · refine (sg_go ht_X8_would (k := 1) (pc' := 17) (L' := [some (.ref 84), some (.int p1), some (.int p2), some (.int p3)]) (st' := [.int (-1)]) (h' := (HP I A L F E)) rfl).trans ?_
      exact sg_ret ht_X8_would rfl rfl
  · refine (sg_go ht_X8_would (k := 1) (pc' := 17) (L' := [some (.ref 84), some (.int p1), some (.int p2), some (.int p3)]) (st' := [.int (-1)]) (h' := (HP I A L F E)) rfl).trans ?_
    exact sg_ret ht_X8_would rfl rfl
set_option maxRecDepth 20000 in
theorem sg_X8_would_33 {I : Nat → Int32} {A : Nat → List Int32} {L : Nat → List Int64} {F : Nat → Int64} {E : MH} (v1 : Int32) (v2 : Int32) (v3 : Int32) (s0 : Int32) : mm_run G0 166 33 [some (.ref 84), some (.int v1), some (.int v2), some (.int v3)] [.int s0] (HP I A L F E) = some (some (.int s0), (HP I A L F E)) := by
  refine (sg_go ht_X8_would (k := 1) (pc' := 38) (L' := [some (.ref 84), some (.int v1), some (.int v2), some (.int v3)]) (st' := [.int s0]) (h' := (HP I A L F E)) rfl).trans ?_
  exact sg_ret ht_X8_would rfl rfl
set_option maxRecDepth 20000 in
theorem sg_X8_quiet_0 {I : Nat → Int32} {A : Nat → List Int32} {L : Nat → List Int64} {F : Nat → Int64} {E : MH} (p1 : Int32) : mm_call G0 167 [.ref 84, .int p1] (HP I A L F E) = (if ¬ p1 < 0 ∧ ¬ 3 < p1 then mm_run G0 167 11 [some (.ref 84), some (.int p1), some (.int 0)] [] (HP I A L F E) else some (some (.int (-1)), (HP I A L F E))) := by
  show mm_run G0 167 0 [some (.ref 84), some (.int p1), none] [] (HP I A L F E) = _
  refine (sg_go ht_X8_quiet (k := 1) (pc' := 1) (L' := [some (.ref 84), some (.int p1), none]) (st' := [.int p1]) (h' := (HP I A L F E)) rfl).trans ?_
  refine (sg_call ht_X8_quiet (mj := 114) (as := [.int p1]) (rest := []) rfl rfl ⟨by decide, Nat.le_of_ble_eq_true rfl⟩).trans ?_
  refine (bind_eq (sp_X8_isStream p1)).trans ?_
  show mm_run G0 167 4 [some (.ref 84), some (.int p1), none] [.int (bi (decide (¬ p1 < 0 ∧ ¬ 3 < p1)))] (HP I A L F E) = _
  refine (sg_bn ht_X8_quiet rfl).trans ?_
  refine ite_congr rfl (fun _ => ?_) (fun _ => ?_)
  · refine (sg_go ht_X8_quiet (k := 2) (pc' := 11) (L' := [some (.ref 84), some (.int p1), some (.int 0)]) (st' := []) (h' := (HP I A L F E)) rfl).trans ?_
    rfl
  · refine (sg_go ht_X8_quiet (k := 1) (pc' := 8) (L' := [some (.ref 84), some (.int p1), none]) (st' := [.int (-1)]) (h' := (HP I A L F E)) rfl).trans ?_
    exact sg_ret ht_X8_quiet rfl rfl
set_option maxRecDepth 20000 in
theorem sg_X8_quiet_11 {I : Nat → Int32} {A : Nat → List Int32} {L : Nat → List Int64} {F : Nat → Int64} {E : MH} (v1 : Int32) (v2 : Int32) : mm_run G0 167 11 [some (.ref 84), some (.int v1), some (.int v2)] [] (HP I A L F E) = (if 5 < v2 then some (some (.int (-5)), (HP I A L F E)) else ((mm_call G0 165 [.ref 84, .int v1, .int 2, .int v2] (HP I A L F E)).bind fun q => mm_run G0 167 23 [some (.ref 84), some (.int v1), some (.int v2)] (q.1.toList ++ []) q.2)) := by
  refine (sg_go ht_X8_quiet (k := 2) (pc' := 13) (L' := [some (.ref 84), some (.int v1), some (.int v2)]) (st' := [.int 5, .int v2]) (h' := (HP I A L F E)) rfl).trans ?_
  refine (sg_cmp ht_X8_quiet rfl).trans ?_
  refine ite_congr rfl (fun _ => ?_) (fun _ => ?_)
  · refine (sg_go ht_X8_quiet (k := 1) (pc' := 36) (L' := [some (.ref 84), some (.int v1), some (.int v2)]) (st' := [.int (-5)]) (h' := (HP I A L F E)) rfl).trans ?_
    exact sg_ret ht_X8_quiet rfl rfl
  · refine (sg_go ht_X8_quiet (k := 4) (pc' := 20) (L' := [some (.ref 84), some (.int v1), some (.int v2)]) (st' := [.int v2, .int 2, .int v1, .ref 84]) (h' := (HP I A L F E)) rfl).trans ?_
    refine (sg_call ht_X8_quiet (mj := 165) (as := [.ref 84, .int v1, .int 2, .int v2]) (rest := []) rfl rfl ⟨by decide, Nat.le_of_ble_eq_true rfl⟩).trans ?_
    rfl
set_option maxRecDepth 20000 in
theorem sg_X8_quiet_23 {I : Nat → Int32} {A : Nat → List Int32} {L : Nat → List Int64} {F : Nat → Int64} {E : MH} (v1 : Int32) (v2 : Int32) (s0 : Int32) : mm_run G0 167 23 [some (.ref 84), some (.int v1), some (.int v2)] [.int s0] (HP I A L F E) = (if 0 ≤ s0 then mm_run G0 167 11 [some (.ref 84), some (.int v1), some (.int (v2 + 1))] [] (HP I A L F E) else some (some (.int v2), (HP I A L F E))) := by
  refine (sg_if ht_X8_quiet rfl).trans ?_
  refine ite_congr rfl (fun _ => ?_) (fun _ => ?_)
  · refine (sg_go ht_X8_quiet (k := 2) (pc' := 11) (L' := [some (.ref 84), some (.int v1), some (.int (v2 + 1))]) (st' := []) (h' := (HP I A L F E)) rfl).trans ?_
    rfl
  · refine (sg_go ht_X8_quiet (k := 1) (pc' := 27) (L' := [some (.ref 84), some (.int v1), some (.int v2)]) (st' := [.int v2]) (h' := (HP I A L F E)) rfl).trans ?_
    exact sg_ret ht_X8_quiet rfl rfl
set_option maxRecDepth 20000 in
theorem sg_X8_row_0 {I : Nat → Int32} {A : Nat → List Int32} {L : Nat → List Int64} {F : Nat → Int64} {E : MH} (p1 : Int32) (p2 : Int32) (p3 : Int32) : mm_call G0 168 [.ref 84, .int p1, .int p2, .int p3] (HP I A L F E) = ((ldI (A 85) p1).bind fun x1 => ((stI (A 85) ((p1 + 1) + (2 * x1)) p2).bind fun X2 => ((stI X2 ((p1 + 2) + (2 * x1)) p3).bind fun X3 => ((ldI X3 p1).bind fun x4 => ((stI X3 p1 (x4 + 1)).bind fun X5 => ((ldI X5 p1).bind fun x6 => some (some (.int x6), (HP I (fu (fu (fu A 85 X2) 85 X3) 85 X5) L F E)))))))) := by
  show mm_run G0 168 0 [some (.ref 84), some (.int p1), some (.int p2), some (.int p3), none] [] (HP I A L F E) = _
  refine (sg_go ht_X8_row (k := 3) (pc' := 5) (L' := [some (.ref 84), some (.int p1), some (.int p2), some (.int p3), none]) (st' := [.int p1, .ref 85]) (h' := (HP I A L F E)) rfl).trans ?_
  refine (sg_ldI ht_X8_row rfl hp_o_85).trans ?_
  refine bind_cg fun x1 hx1 => ?_
  refine (sg_go ht_X8_row (k := 10) (pc' := 20) (L' := [some (.ref 84), some (.int p1), some (.int p2), some (.int p3), some (.int x1)]) (st' := [.int ((p1 + 1) + (2 * x1)), .ref 85]) (h' := (HP I A L F E)) rfl).trans ?_
  refine (sg_go ht_X8_row (k := 1) (pc' := 21) (L' := [some (.ref 84), some (.int p1), some (.int p2), some (.int p3), some (.int x1)]) (st' := [.int p2, .int ((p1 + 1) + (2 * x1)), .ref 85]) (h' := (HP I A L F E)) rfl).trans ?_
  refine (sg_stI (hh := fun X2 => (HP I (fu A 85 X2) L F E)) ht_X8_row rfl hp_o_85 (fun _ => hp_s_85)).trans ?_
  refine bind_cg fun X2 hX2 => ?_
  refine (sg_go ht_X8_row (k := 10) (pc' := 35) (L' := [some (.ref 84), some (.int p1), some (.int p2), some (.int p3), some (.int x1)]) (st' := [.int p3, .int ((p1 + 2) + (2 * x1)), .ref 85]) (h' := (HP I (fu A 85 X2) L F E)) rfl).trans ?_
  refine (sg_stI (hh := fun X3 => (HP I (fu (fu A 85 X2) 85 X3) L F E)) ht_X8_row rfl hp_o_85 (fun _ => hp_s_85)).trans ?_
  refine bind_cg fun X3 hX3 => ?_
  refine (sg_go ht_X8_row (k := 4) (pc' := 42) (L' := [some (.ref 84), some (.int p1), some (.int p2), some (.int p3), some (.int x1)]) (st' := [.int p1, .ref 85, .int p1, .ref 85]) (h' := (HP I (fu (fu A 85 X2) 85 X3) L F E)) rfl).trans ?_
  refine (sg_ldI ht_X8_row rfl hp_o_85).trans ?_
  refine bind_cg fun x4 hx4 => ?_
  refine (sg_go ht_X8_row (k := 2) (pc' := 45) (L' := [some (.ref 84), some (.int p1), some (.int p2), some (.int p3), some (.int x1)]) (st' := [.int (x4 + 1), .int p1, .ref 85]) (h' := (HP I (fu (fu A 85 X2) 85 X3) L F E)) rfl).trans ?_
  refine (sg_stI (hh := fun X5 => (HP I (fu (fu (fu A 85 X2) 85 X3) 85 X5) L F E)) ht_X8_row rfl hp_o_85 (fun _ => hp_s_85)).trans ?_
  refine bind_cg fun X5 hX5 => ?_
  refine (sg_go ht_X8_row (k := 3) (pc' := 51) (L' := [some (.ref 84), some (.int p1), some (.int p2), some (.int p3), some (.int x1)]) (st' := [.int p1, .ref 85]) (h' := (HP I (fu (fu (fu A 85 X2) 85 X3) 85 X5) L F E)) rfl).trans ?_
  refine (sg_ldI ht_X8_row rfl hp_o_85).trans ?_
  refine bind_cg fun x6 hx6 => ?_
  exact sg_ret ht_X8_row rfl rfl
set_option maxRecDepth 20000 in
theorem sg_X8_see_0 {I : Nat → Int32} {A : Nat → List Int32} {L : Nat → List Int64} {F : Nat → Int64} {E : MH} (p1 : Int32) (p2 : Int32) : mm_call G0 169 [.ref 84, .int p1, .int p2] (HP I A L F E) = (if p1 ≠ (-1) then (if ¬ p1 < 0 ∧ ¬ 3 < p1 then (if ¬ p2 < 0 ∧ ¬ 39 < p2 then ((ldI (A 85) 185).bind fun x1 => (if x1 ≠ 6 then ((ldI (A 85) 185).bind fun x2 => ((stI (A 85) ((185 + 1) + (2 * x2)) p1).bind fun X3 => ((stI X3 ((185 + 2) + (2 * x2)) p2).bind fun X4 => ((ldI X4 185).bind fun x5 => ((stI X4 185 (x5 + 1)).bind fun X6 => ((ldI X6 185).bind fun x7 => some (some (.int x7), (HP I (fu (fu (fu A 85 X3) 85 X4) 85 X6) L F E)))))))) else some (some (.int (-4)), (HP I A L F E)))) else some (some (.int (-2)), (HP I A L F E))) else some (some (.int (-1)), (HP I A L F E))) else ((stI (A 85) 185 0).bind fun X8 => some (some (.int 0), (HP I (fu A 85 X8) L F E)))) := by
  show mm_run G0 169 0 [some (.ref 84), some (.int p1), some (.int p2)] [] (HP I A L F E) = _
  refine (sg_go ht_X8_see (k := 2) (pc' := 2) (L' := [some (.ref 84), some (.int p1), some (.int p2)]) (st' := [.int (-1), .int p1]) (h' := (HP I A L F E)) rfl).trans ?_
  refine (sg_cmp ht_X8_see rfl).trans ?_
  refine ite_congr rfl (fun _ => ?_) (fun _ => ?_)
  · refine (sg_go ht_X8_see (k := 1) (pc' := 17) (L' := [some (.ref 84), some (.int p1), some (.int p2)]) (st' := [.int p1]) (h' := (HP I A L F E)) rfl).trans ?_
    refine (sg_call ht_X8_see (mj := 114) (as := [.int p1]) (rest := []) rfl rfl ⟨by decide, Nat.le_of_ble_eq_true rfl⟩).trans ?_
    refine (bind_eq (sp_X8_isStream p1)).trans ?_
    show mm_run G0 169 20 [some (.ref 84), some (.int p1), some (.int p2)] [.int (bi (decide (¬ p1 < 0 ∧ ¬ 3 < p1)))] (HP I A L F E) = _
    refine (sg_bn ht_X8_see rfl).trans ?_
    refine ite_congr rfl (fun _ => ?_) (fun _ => ?_)
    · refine (sg_go ht_X8_see (k := 3) (pc' := 29) (L' := [some (.ref 84), some (.int p1), some (.int p2)]) (st' := [.int 39, .int 0, .int p2]) (h' := (HP I A L F E)) rfl).trans ?_
      refine (sg_call ht_X8_see (mj := 113) (as := [.int p2, .int 0, .int 39]) (rest := []) rfl rfl ⟨by decide, Nat.le_of_ble_eq_true rfl⟩).trans ?_
      refine (bind_eq (sp_X8_isIn p2 0 39)).trans ?_
      show mm_run G0 169 32 [some (.ref 84), some (.int p1), some (.int p2)] [.int (bi (decide (¬ p2 < 0 ∧ ¬ 39 < p2)))] (HP I A L F E) = _
      refine (sg_bn ht_X8_see rfl).trans ?_
      refine ite_congr rfl (fun _ => ?_) (fun _ => ?_)
      · refine (sg_go ht_X8_see (k := 3) (pc' := 45) (L' := [some (.ref 84), some (.int p1), some (.int p2)]) (st' := [.int 185, .ref 85]) (h' := (HP I A L F E)) rfl).trans ?_
        refine (sg_ldI ht_X8_see rfl hp_o_85).trans ?_
        refine bind_cg fun x1 hx1 => ?_
        refine (sg_go ht_X8_see (k := 1) (pc' := 48) (L' := [some (.ref 84), some (.int p1), some (.int p2)]) (st' := [.int 6, .int x1]) (h' := (HP I A L F E)) rfl).trans ?_
        refine (sg_cmp ht_X8_see rfl).trans ?_
        refine ite_congr rfl (fun _ => ?_) (fun _ => ?_)
        · refine (sg_go ht_X8_see (k := 4) (pc' := 62) (L' := [some (.ref 84), some (.int p1), some (.int p2)]) (st' := [.int p2, .int p1, .int 185, .ref 84]) (h' := (HP I A L F E)) rfl).trans ?_
          refine (sg_call ht_X8_see (mj := 168) (as := [.ref 84, .int 185, .int p1, .int p2]) (rest := []) rfl rfl ⟨by decide, Nat.le_of_ble_eq_true rfl⟩).trans ?_
          refine (bind_eq (sg_X8_row_0 185 p1 p2)).trans ?_
          refine bind_as.trans ?_
          refine bind_cg fun x2 hx2 => ?_
          refine bind_as.trans ?_
          refine bind_cg fun X3 hX3 => ?_
          refine bind_as.trans ?_
          refine bind_cg fun X4 hX4 => ?_
          refine bind_as.trans ?_
          refine bind_cg fun x5 hx5 => ?_
          refine bind_as.trans ?_
          refine bind_cg fun X6 hX6 => ?_
          refine bind_as.trans ?_
          refine bind_cg fun x7 hx7 => ?_
          show mm_run G0 169 65 [some (.ref 84), some (.int p1), some (.int p2)] [.int x7] (HP I (fu (fu (fu A 85 X3) 85 X4) 85 X6) L F E) = _
          exact sg_ret ht_X8_see rfl rfl
        · refine (sg_go ht_X8_see (k := 2) (pc' := 65) (L' := [some (.ref 84), some (.int p1), some (.int p2)]) (st' := [.int (-4)]) (h' := (HP I A L F E)) rfl).trans ?_
          exact sg_ret ht_X8_see rfl rfl
      · refine (sg_go ht_X8_see (k := 1) (pc' := 37) (L' := [some (.ref 84), some (.int p1), some (.int p2)]) (st' := [.int (-2)]) (h' := (HP I A L F E)) rfl).trans ?_
        exact sg_ret ht_X8_see rfl rfl
    · refine (sg_go ht_X8_see (k := 1) (pc' := 24) (L' := [some (.ref 84), some (.int p1), some (.int p2)]) (st' := [.int (-1)]) (h' := (HP I A L F E)) rfl).trans ?_
      exact sg_ret ht_X8_see rfl rfl
  · refine (sg_go ht_X8_see (k := 4) (pc' := 13) (L' := [some (.ref 84), some (.int p1), some (.int p2)]) (st' := [.int 0, .int 185, .ref 85]) (h' := (HP I A L F E)) rfl).trans ?_
    refine (sg_stI (hh := fun X8 => (HP I (fu A 85 X8) L F E)) ht_X8_see rfl hp_o_85 (fun _ => hp_s_85)).trans ?_
    refine bind_cg fun X8 hX8 => ?_
    refine (sg_go ht_X8_see (k := 1) (pc' := 15) (L' := [some (.ref 84), some (.int p1), some (.int p2)]) (st' := [.int 0]) (h' := (HP I (fu A 85 X8) L F E)) rfl).trans ?_
    exact sg_ret ht_X8_see rfl rfl
set_option maxRecDepth 20000 in
theorem sg_X8_isAlarmAt_0 {I : Nat → Int32} {A : Nat → List Int32} {L : Nat → List Int64} {F : Nat → Int64} {E : MH} (p1 : Int32) : mm_call G0 170 [.ref 84, .int p1] (HP I A L F E) = mm_run G0 170 2 [some (.ref 84), some (.int p1), some (.int 0)] [] (HP I A L F E) := by
  show mm_run G0 170 0 [some (.ref 84), some (.int p1), none] [] (HP I A L F E) = _
  refine (sg_go ht_X8_isAlarmAt (k := 2) (pc' := 2) (L' := [some (.ref 84), some (.int p1), some (.int 0)]) (st' := []) (h' := (HP I A L F E)) rfl).trans ?_
  rfl
set_option maxRecDepth 20000 in
theorem sg_X8_isAlarmAt_2 {I : Nat → Int32} {A : Nat → List Int32} {L : Nat → List Int64} {F : Nat → Int64} {E : MH} (v1 : Int32) (v2 : Int32) : mm_run G0 170 2 [some (.ref 84), some (.int v1), some (.int v2)] [] (HP I A L F E) = (if (I 8415) ≤ v2 then some (some (.int 0), (HP I A L F E)) else ((ldI (A 92) v2).bind fun x1 => (if x1 ≠ v1 then mm_run G0 170 2 [some (.ref 84), some (.int v1), some (.int (v2 + 1))] [] (HP I A L F E) else some (some (.int 1), (HP I A L F E))))) := by
  refine (sg_go ht_X8_isAlarmAt (k := 3) (pc' := 7) (L' := [some (.ref 84), some (.int v1), some (.int v2)]) (st' := [.int (I 8415), .int v2]) (h' := (HP I A L F E)) rfl).trans ?_
  refine (sg_cmp ht_X8_isAlarmAt rfl).trans ?_
  refine ite_congr rfl (fun _ => ?_) (fun _ => ?_)
  · refine (sg_go ht_X8_isAlarmAt (k := 1) (pc' := 29) (L' := [some (.ref 84), some (.int v1), some (.int v2)]) (st' := [.int 0]) (h' := (HP I A L F E)) rfl).trans ?_
    exact sg_ret ht_X8_isAlarmAt rfl rfl
  · refine (sg_go ht_X8_isAlarmAt (k := 3) (pc' := 15) (L' := [some (.ref 84), some (.int v1), some (.int v2)]) (st' := [.int v2, .ref 92]) (h' := (HP I A L F E)) rfl).trans ?_
    refine (sg_ldI ht_X8_isAlarmAt rfl hp_o_92).trans ?_
    refine bind_cg fun x1 hx1 => ?_
    refine (sg_go ht_X8_isAlarmAt (k := 1) (pc' := 17) (L' := [some (.ref 84), some (.int v1), some (.int v2)]) (st' := [.int v1, .int x1]) (h' := (HP I A L F E)) rfl).trans ?_
    refine (sg_cmp ht_X8_isAlarmAt rfl).trans ?_
    refine ite_congr rfl (fun _ => ?_) (fun _ => ?_)
    · refine (sg_go ht_X8_isAlarmAt (k := 2) (pc' := 2) (L' := [some (.ref 84), some (.int v1), some (.int (v2 + 1))]) (st' := []) (h' := (HP I A L F E)) rfl).trans ?_
      rfl
    · refine (sg_go ht_X8_isAlarmAt (k := 1) (pc' := 21) (L' := [some (.ref 84), some (.int v1), some (.int v2)]) (st' := [.int 1]) (h' := (HP I A L F E)) rfl).trans ?_
      exact sg_ret ht_X8_isAlarmAt rfl rfl
set_option maxRecDepth 20000 in
theorem sg_X8_isAllSeen_0 {I : Nat → Int32} {A : Nat → List Int32} {L : Nat → List Int64} {F : Nat → Int64} {E : MH} (p1 : Int32) : mm_call G0 171 [.ref 84, .int p1] (HP I A L F E) = mm_run G0 171 2 [some (.ref 84), some (.int p1), some (.int 0)] [] (HP I A L F E) := by
  show mm_run G0 171 0 [some (.ref 84), some (.int p1), none] [] (HP I A L F E) = _
  refine (sg_go ht_X8_isAllSeen (k := 2) (pc' := 2) (L' := [some (.ref 84), some (.int p1), some (.int 0)]) (st' := []) (h' := (HP I A L F E)) rfl).trans ?_
  rfl
set_option maxRecDepth 20000 in
theorem sg_X8_isAllSeen_2 {I : Nat → Int32} {A : Nat → List Int32} {L : Nat → List Int64} {F : Nat → Int64} {E : MH} (v1 : Int32) (v2 : Int32) : mm_run G0 171 2 [some (.ref 84), some (.int v1), some (.int v2)] [] (HP I A L F E) = ((ldI (A 85) 185).bind fun x1 => (if x1 ≤ v2 then some (some (.int 1), (HP I A L F E)) else ((ldI (A 85) (186 + (2 * v2))).bind fun x2 => (if x2 ≠ v1 then mm_run G0 171 2 [some (.ref 84), some (.int v1), some (.int (v2 + 1))] [] (HP I A L F E) else ((ldI (A 85) (187 + (2 * v2))).bind fun x3 => ((mm_call G0 170 [.ref 84, .int x3] (HP I A L F E)).bind fun q => mm_run G0 171 46 [some (.ref 84), some (.int v1), some (.int v2)] (q.1.toList ++ []) q.2)))))) := by
  refine (sg_go ht_X8_isAllSeen (k := 4) (pc' := 10) (L' := [some (.ref 84), some (.int v1), some (.int v2)]) (st' := [.int 185, .ref 85, .int v2]) (h' := (HP I A L F E)) rfl).trans ?_
  refine (sg_ldI ht_X8_isAllSeen rfl hp_o_85).trans ?_
  refine bind_cg fun x1 hx1 => ?_
  refine (sg_cmp ht_X8_isAllSeen rfl).trans ?_
  refine ite_congr rfl (fun _ => ?_) (fun _ => ?_)
  · refine (sg_go ht_X8_isAllSeen (k := 1) (pc' := 58) (L' := [some (.ref 84), some (.int v1), some (.int v2)]) (st' := [.int 1]) (h' := (HP I A L F E)) rfl).trans ?_
    exact sg_ret ht_X8_isAllSeen rfl rfl
  · refine (sg_go ht_X8_isAllSeen (k := 7) (pc' := 25) (L' := [some (.ref 84), some (.int v1), some (.int v2)]) (st' := [.int (186 + (2 * v2)), .ref 85]) (h' := (HP I A L F E)) rfl).trans ?_
    refine (sg_ldI ht_X8_isAllSeen rfl hp_o_85).trans ?_
    refine bind_cg fun x2 hx2 => ?_
    refine (sg_go ht_X8_isAllSeen (k := 1) (pc' := 27) (L' := [some (.ref 84), some (.int v1), some (.int v2)]) (st' := [.int v1, .int x2]) (h' := (HP I A L F E)) rfl).trans ?_
    refine (sg_cmp ht_X8_isAllSeen rfl).trans ?_
    refine ite_congr rfl (fun _ => ?_) (fun _ => ?_)
    · refine (sg_go ht_X8_isAllSeen (k := 2) (pc' := 2) (L' := [some (.ref 84), some (.int v1), some (.int (v2 + 1))]) (st' := []) (h' := (HP I A L F E)) rfl).trans ?_
      rfl
    · refine (sg_go ht_X8_isAllSeen (k := 8) (pc' := 42) (L' := [some (.ref 84), some (.int v1), some (.int v2)]) (st' := [.int (187 + (2 * v2)), .ref 85, .ref 84]) (h' := (HP I A L F E)) rfl).trans ?_
      refine (sg_ldI ht_X8_isAllSeen rfl hp_o_85).trans ?_
      refine bind_cg fun x3 hx3 => ?_
      refine (sg_call ht_X8_isAllSeen (mj := 170) (as := [.ref 84, .int x3]) (rest := []) rfl rfl ⟨by decide, Nat.le_of_ble_eq_true rfl⟩).trans ?_
      rfl
set_option maxRecDepth 20000 in
theorem sg_X8_isAllSeen_46 {I : Nat → Int32} {A : Nat → List Int32} {L : Nat → List Int64} {F : Nat → Int64} {E : MH} (v1 : Int32) (v2 : Int32) (s0 : Int32) : mm_run G0 171 46 [some (.ref 84), some (.int v1), some (.int v2)] [.int s0] (HP I A L F E) = (if s0 ≠ 0 then mm_run G0 171 2 [some (.ref 84), some (.int v1), some (.int (v2 + 1))] [] (HP I A L F E) else some (some (.int 0), (HP I A L F E))) := by
  refine (sg_if ht_X8_isAllSeen rfl).trans ?_
  refine ite_congr rfl (fun _ => ?_) (fun _ => ?_)
  · refine (sg_go ht_X8_isAllSeen (k := 2) (pc' := 2) (L' := [some (.ref 84), some (.int v1), some (.int (v2 + 1))]) (st' := []) (h' := (HP I A L F E)) rfl).trans ?_
    rfl
  · refine (sg_go ht_X8_isAllSeen (k := 1) (pc' := 50) (L' := [some (.ref 84), some (.int v1), some (.int v2)]) (st' := [.int 0]) (h' := (HP I A L F E)) rfl).trans ?_
    exact sg_ret ht_X8_isAllSeen rfl rfl
set_option maxRecDepth 20000 in
theorem sg_X8_fits_0 {I : Nat → Int32} {A : Nat → List Int32} {L : Nat → List Int64} {F : Nat → Int64} {E : MH} (p1 : Int32) (p2 : Int32) : mm_call G0 172 [.ref 84, .int p1, .int p2] (HP I A L F E) = (if ¬ p1 < 0 ∧ ¬ 3 < p1 then (if ¬ p2 < 0 ∧ ¬ 1 < p2 then mm_run G0 172 28 [some (.ref 84), some (.int p1), some (.int p2), some (.int 0), some (.int (-5)), some (.int 12)] [] (HP I A L F E) else some (some (.int (-1)), (HP I A L F E))) else some (some (.int (-1)), (HP I A L F E))) := by
  show mm_run G0 172 0 [some (.ref 84), some (.int p1), some (.int p2), none, none, none] [] (HP I A L F E) = _
  refine (sg_go ht_X8_fits (k := 1) (pc' := 1) (L' := [some (.ref 84), some (.int p1), some (.int p2), none, none, none]) (st' := [.int p1]) (h' := (HP I A L F E)) rfl).trans ?_
  refine (sg_call ht_X8_fits (mj := 114) (as := [.int p1]) (rest := []) rfl rfl ⟨by decide, Nat.le_of_ble_eq_true rfl⟩).trans ?_
  refine (bind_eq (sp_X8_isStream p1)).trans ?_
  show mm_run G0 172 4 [some (.ref 84), some (.int p1), some (.int p2), none, none, none] [.int (bi (decide (¬ p1 < 0 ∧ ¬ 3 < p1)))] (HP I A L F E) = _
  refine (sg_be ht_X8_fits rfl).trans ?_
  refine ite_congr rfl (fun _ => ?_) (fun _ => ?_)
  · refine (sg_go ht_X8_fits (k := 3) (pc' := 10) (L' := [some (.ref 84), some (.int p1), some (.int p2), none, none, none]) (st' := [.int 1, .int 0, .int p2]) (h' := (HP I A L F E)) rfl).trans ?_
    refine (sg_call ht_X8_fits (mj := 113) (as := [.int p2, .int 0, .int 1]) (rest := []) rfl rfl ⟨by decide, Nat.le_of_ble_eq_true rfl⟩).trans ?_
    refine (bind_eq (sp_X8_isIn p2 0 1)).trans ?_
    show mm_run G0 172 13 [some (.ref 84), some (.int p1), some (.int p2), none, none, none] [.int (bi (decide (¬ p2 < 0 ∧ ¬ 1 < p2)))] (HP I A L F E) = _
    refine (sg_bn ht_X8_fits rfl).trans ?_
    refine ite_congr rfl (fun _ => ?_) (fun _ => ?_)
    · refine (sg_go ht_X8_fits (k := 6) (pc' := 28) (L' := [some (.ref 84), some (.int p1), some (.int p2), some (.int 0), some (.int (-5)), some (.int 12)]) (st' := []) (h' := (HP I A L F E)) rfl).trans ?_
      rfl
    · refine (sg_go ht_X8_fits (k := 1) (pc' := 17) (L' := [some (.ref 84), some (.int p1), some (.int p2), none, none, none]) (st' := [.int (-1)]) (h' := (HP I A L F E)) rfl).trans ?_
      exact sg_ret ht_X8_fits rfl rfl
  · refine (sg_go ht_X8_fits (k := 1) (pc' := 17) (L' := [some (.ref 84), some (.int p1), some (.int p2), none, none, none]) (st' := [.int (-1)]) (h' := (HP I A L F E)) rfl).trans ?_
    exact sg_ret ht_X8_fits rfl rfl
set_option maxRecDepth 20000 in
theorem sg_X8_fits_28 {I : Nat → Int32} {A : Nat → List Int32} {L : Nat → List Int64} {F : Nat → Int64} {E : MH} (v1 : Int32) (v2 : Int32) (v3 : Int32) (v4 : Int32) (v5 : Int32) : mm_run G0 172 28 [some (.ref 84), some (.int v1), some (.int v2), some (.int v3), some (.int v4), some (.int v5)] [] (HP I A L F E) = (if v5 ≤ 0 then (if v2 ≠ 0 then some (some (.int v4), (HP I A L F E)) else some (some (.int v3), (HP I A L F E))) else ((mm_call G0 165 [.ref 84, .int v1, .int 3, .int v5] (HP I A L F E)).bind fun q => mm_run G0 172 41 [some (.ref 84), some (.int v1), some (.int v2), some (.int v3), some (.int v4), some (.int v5)] (q.1.toList ++ []) q.2)) := by
  refine (sg_go ht_X8_fits (k := 1) (pc' := 30) (L' := [some (.ref 84), some (.int v1), some (.int v2), some (.int v3), some (.int v4), some (.int v5)]) (st' := [.int v5]) (h' := (HP I A L F E)) rfl).trans ?_
  refine (sg_if ht_X8_fits rfl).trans ?_
  refine ite_congr rfl (fun _ => ?_) (fun _ => ?_)
  · refine (sg_go ht_X8_fits (k := 1) (pc' := 67) (L' := [some (.ref 84), some (.int v1), some (.int v2), some (.int v3), some (.int v4), some (.int v5)]) (st' := [.int v2]) (h' := (HP I A L F E)) rfl).trans ?_
    refine (sg_if ht_X8_fits rfl).trans ?_
    refine ite_congr rfl (fun _ => ?_) (fun _ => ?_)
    · refine (sg_go ht_X8_fits (k := 1) (pc' := 76) (L' := [some (.ref 84), some (.int v1), some (.int v2), some (.int v3), some (.int v4), some (.int v5)]) (st' := [.int v4]) (h' := (HP I A L F E)) rfl).trans ?_
      exact sg_ret ht_X8_fits rfl rfl
    · refine (sg_go ht_X8_fits (k := 2) (pc' := 76) (L' := [some (.ref 84), some (.int v1), some (.int v2), some (.int v3), some (.int v4), some (.int v5)]) (st' := [.int v3]) (h' := (HP I A L F E)) rfl).trans ?_
      exact sg_ret ht_X8_fits rfl rfl
  · refine (sg_go ht_X8_fits (k := 4) (pc' := 38) (L' := [some (.ref 84), some (.int v1), some (.int v2), some (.int v3), some (.int v4), some (.int v5)]) (st' := [.int v5, .int 3, .int v1, .ref 84]) (h' := (HP I A L F E)) rfl).trans ?_
    refine (sg_call ht_X8_fits (mj := 165) (as := [.ref 84, .int v1, .int 3, .int v5]) (rest := []) rfl rfl ⟨by decide, Nat.le_of_ble_eq_true rfl⟩).trans ?_
    rfl
set_option maxRecDepth 20000 in
theorem sg_X8_fits_41 {I : Nat → Int32} {A : Nat → List Int32} {L : Nat → List Int64} {F : Nat → Int64} {E : MH} (v1 : Int32) (v2 : Int32) (v3 : Int32) (v4 : Int32) (v5 : Int32) (s0 : Int32) : mm_run G0 172 41 [some (.ref 84), some (.int v1), some (.int v2), some (.int v3), some (.int v4), some (.int v5)] [.int s0] (HP I A L F E) = ((mm_call G0 171 [.ref 84, .int v1] (HP I A L F E)).bind fun q => mm_run G0 172 47 [some (.ref 84), some (.int v1), some (.int v2), some (.int v3), some (.int v4), some (.int v5)] (q.1.toList ++ []) q.2) := by
  refine (sg_go ht_X8_fits (k := 3) (pc' := 44) (L' := [some (.ref 84), some (.int v1), some (.int v2), some (.int v3), some (.int v4), some (.int v5)]) (st' := [.int v1, .ref 84]) (h' := (HP I A L F E)) rfl).trans ?_
  refine (sg_call ht_X8_fits (mj := 171) (as := [.ref 84, .int v1]) (rest := []) rfl rfl ⟨by decide, Nat.le_of_ble_eq_true rfl⟩).trans ?_
  rfl
set_option maxRecDepth 20000 in
theorem sg_X8_fits_47 {I : Nat → Int32} {A : Nat → List Int32} {L : Nat → List Int64} {F : Nat → Int64} {E : MH} (v1 : Int32) (v2 : Int32) (v3 : Int32) (v4 : Int32) (v5 : Int32) (s0 : Int32) : mm_run G0 172 47 [some (.ref 84), some (.int v1), some (.int v2), some (.int v3), some (.int v4), some (.int v5)] [.int s0] (HP I A L F E) = (if s0 ≠ 0 then mm_run G0 172 28 [some (.ref 84), some (.int v1), some (.int v2), some (.int (v3 + 1)), some (.int v5), some (.int (v5 + (-1)))] [] (HP I A L F E) else mm_run G0 172 28 [some (.ref 84), some (.int v1), some (.int v2), some (.int v3), some (.int v4), some (.int (v5 + (-1)))] [] (HP I A L F E)) := by
  refine (sg_if ht_X8_fits rfl).trans ?_
  refine ite_congr rfl (fun _ => ?_) (fun _ => ?_)
  · refine (sg_go ht_X8_fits (k := 5) (pc' := 28) (L' := [some (.ref 84), some (.int v1), some (.int v2), some (.int (v3 + 1)), some (.int v5), some (.int (v5 + (-1)))]) (st' := []) (h' := (HP I A L F E)) rfl).trans ?_
    rfl
  · refine (sg_go ht_X8_fits (k := 3) (pc' := 28) (L' := [some (.ref 84), some (.int v1), some (.int v2), some (.int v3), some (.int v4), some (.int (v5 + (-1)))]) (st' := []) (h' := (HP I A L F E)) rfl).trans ?_
    rfl
set_option maxRecDepth 20000 in
theorem sg_X8_odds_0 {I : Nat → Int32} {A : Nat → List Int32} {L : Nat → List Int64} {F : Nat → Int64} {E : MH} (p1 : Int32) (p2 : Int32) : mm_call G0 173 [.ref 84, .int p1, .int p2] (HP I A L F E) = (if ¬ p1 < 0 ∧ ¬ 3 < p1 then (if ¬ p2 < 0 ∧ ¬ 1 < p2 then mm_run G0 173 25 [some (.ref 84), some (.int p1), some (.int p2), some (.int 0), some (.int 1)] [] (HP I A L F E) else some (some (.long (-9223372036854775808)), (HP I A L F E))) else some (some (.long (-9223372036854775808)), (HP I A L F E))) := by
  show mm_run G0 173 0 [some (.ref 84), some (.int p1), some (.int p2), none, none] [] (HP I A L F E) = _
  refine (sg_go ht_X8_odds (k := 1) (pc' := 1) (L' := [some (.ref 84), some (.int p1), some (.int p2), none, none]) (st' := [.int p1]) (h' := (HP I A L F E)) rfl).trans ?_
  refine (sg_call ht_X8_odds (mj := 114) (as := [.int p1]) (rest := []) rfl rfl ⟨by decide, Nat.le_of_ble_eq_true rfl⟩).trans ?_
  refine (bind_eq (sp_X8_isStream p1)).trans ?_
  show mm_run G0 173 4 [some (.ref 84), some (.int p1), some (.int p2), none, none] [.int (bi (decide (¬ p1 < 0 ∧ ¬ 3 < p1)))] (HP I A L F E) = _
  refine (sg_be ht_X8_odds rfl).trans ?_
  refine ite_congr rfl (fun _ => ?_) (fun _ => ?_)
  · refine (sg_go ht_X8_odds (k := 3) (pc' := 10) (L' := [some (.ref 84), some (.int p1), some (.int p2), none, none]) (st' := [.int 1, .int 0, .int p2]) (h' := (HP I A L F E)) rfl).trans ?_
    refine (sg_call ht_X8_odds (mj := 113) (as := [.int p2, .int 0, .int 1]) (rest := []) rfl rfl ⟨by decide, Nat.le_of_ble_eq_true rfl⟩).trans ?_
    refine (bind_eq (sp_X8_isIn p2 0 1)).trans ?_
    show mm_run G0 173 13 [some (.ref 84), some (.int p1), some (.int p2), none, none] [.int (bi (decide (¬ p2 < 0 ∧ ¬ 1 < p2)))] (HP I A L F E) = _
    refine (sg_bn ht_X8_odds rfl).trans ?_
    refine ite_congr rfl (fun _ => ?_) (fun _ => ?_)
    · refine (sg_go ht_X8_odds (k := 4) (pc' := 25) (L' := [some (.ref 84), some (.int p1), some (.int p2), some (.int 0), some (.int 1)]) (st' := []) (h' := (HP I A L F E)) rfl).trans ?_
      rfl
    · refine (sg_go ht_X8_odds (k := 1) (pc' := 19) (L' := [some (.ref 84), some (.int p1), some (.int p2), none, none]) (st' := [.long (-9223372036854775808)]) (h' := (HP I A L F E)) rfl).trans ?_
      exact sg_ret ht_X8_odds rfl rfl
  · refine (sg_go ht_X8_odds (k := 1) (pc' := 19) (L' := [some (.ref 84), some (.int p1), some (.int p2), none, none]) (st' := [.long (-9223372036854775808)]) (h' := (HP I A L F E)) rfl).trans ?_
    exact sg_ret ht_X8_odds rfl rfl
set_option maxRecDepth 20000 in
theorem sg_X8_odds_25 {I : Nat → Int32} {A : Nat → List Int32} {L : Nat → List Int64} {F : Nat → Int64} {E : MH} (v1 : Int32) (v2 : Int32) (v3 : Int32) (v4 : Int32) : mm_run G0 173 25 [some (.ref 84), some (.int v1), some (.int v2), some (.int v3), some (.int v4)] [] (HP I A L F E) = (if 10 < v4 then ((mm_call G0 152 [.long (v3).toInt64, .long 10, .int v2] (HP I A L F E)).bind fun q => mm_run G0 173 66 [some (.ref 84), some (.int v1), some (.int v2), some (.int v3), some (.int v4)] (q.1.toList ++ []) q.2) else ((mm_call G0 165 [.ref 84, .int v1, .int 3, .int v4] (HP I A L F E)).bind fun q => mm_run G0 173 41 [some (.ref 84), some (.int v1), some (.int v2), some (.int v3), some (.int v4)] (q.1.toList ++ [.int v3]) q.2)) := by
  refine (sg_go ht_X8_odds (k := 2) (pc' := 29) (L' := [some (.ref 84), some (.int v1), some (.int v2), some (.int v3), some (.int v4)]) (st' := [.int 10, .int v4]) (h' := (HP I A L F E)) rfl).trans ?_
  refine (sg_cmp ht_X8_odds rfl).trans ?_
  refine ite_congr rfl (fun _ => ?_) (fun _ => ?_)
  · refine (sg_go ht_X8_odds (k := 4) (pc' := 63) (L' := [some (.ref 84), some (.int v1), some (.int v2), some (.int v3), some (.int v4)]) (st' := [.int v2, .long 10, .long (v3).toInt64]) (h' := (HP I A L F E)) rfl).trans ?_
    refine (sg_call ht_X8_odds (mj := 152) (as := [.long (v3).toInt64, .long 10, .int v2]) (rest := []) rfl rfl ⟨by decide, Nat.le_of_ble_eq_true rfl⟩).trans ?_
    rfl
  · refine (sg_go ht_X8_odds (k := 5) (pc' := 38) (L' := [some (.ref 84), some (.int v1), some (.int v2), some (.int v3), some (.int v4)]) (st' := [.int v4, .int 3, .int v1, .ref 84, .int v3]) (h' := (HP I A L F E)) rfl).trans ?_
    refine (sg_call ht_X8_odds (mj := 165) (as := [.ref 84, .int v1, .int 3, .int v4]) (rest := [.int v3]) rfl rfl ⟨by decide, Nat.le_of_ble_eq_true rfl⟩).trans ?_
    rfl
set_option maxRecDepth 20000 in
theorem sg_X8_odds_66 {I : Nat → Int32} {A : Nat → List Int32} {L : Nat → List Int64} {F : Nat → Int64} {E : MH} (v1 : Int32) (v2 : Int32) (v3 : Int32) (v4 : Int32) (s0 : Int64) : mm_run G0 173 66 [some (.ref 84), some (.int v1), some (.int v2), some (.int v3), some (.int v4)] [.long s0] (HP I A L F E) = some (some (.long s0), (HP I A L F E)) := by
  exact sg_ret ht_X8_odds rfl rfl
set_option maxRecDepth 20000 in
theorem sg_X8_odds_41 {I : Nat → Int32} {A : Nat → List Int32} {L : Nat → List Int64} {F : Nat → Int64} {E : MH} (v1 : Int32) (v2 : Int32) (v3 : Int32) (v4 : Int32) (s0 : Int32) (s1 : Int32) : mm_run G0 173 41 [some (.ref 84), some (.int v1), some (.int v2), some (.int v3), some (.int v4)] [.int s1, .int s0] (HP I A L F E) = (if s1 < 0 then mm_run G0 173 25 [some (.ref 84), some (.int v1), some (.int v2), some (.int (s0 + 0)), some (.int (v4 + 1))] [] (HP I A L F E) else mm_run G0 173 25 [some (.ref 84), some (.int v1), some (.int v2), some (.int (s0 + 1)), some (.int (v4 + 1))] [] (HP I A L F E)) := by
  refine (sg_if ht_X8_odds rfl).trans ?_
  refine ite_congr rfl (fun _ => ?_) (fun _ => ?_)
  · refine (sg_go ht_X8_odds (k := 5) (pc' := 25) (L' := [some (.ref 84), some (.int v1), some (.int v2), some (.int (s0 + 0)), some (.int (v4 + 1))]) (st' := []) (h' := (HP I A L F E)) rfl).trans ?_
    rfl
  · refine (sg_go ht_X8_odds (k := 6) (pc' := 25) (L' := [some (.ref 84), some (.int v1), some (.int v2), some (.int (s0 + 1)), some (.int (v4 + 1))]) (st' := []) (h' := (HP I A L F E)) rfl).trans ?_
    rfl
set_option maxRecDepth 20000 in
theorem sg_X8_mean_0 {I : Nat → Int32} {A : Nat → List Int32} {L : Nat → List Int64} {F : Nat → Int64} {E : MH} (p1 : Int32) (p2 : Int32) : mm_call G0 174 [.ref 84, .int p1, .int p2] (HP I A L F E) = (if ¬ p1 < 0 ∧ ¬ 3 < p1 then (if ¬ p2 < 0 ∧ ¬ 1 < p2 then ((ldI (A 85) ((45 * p1) + 4)).bind fun x1 => (if x1 ≠ 0 then ((ldI (A 85) ((45 * p1) + 4)).bind fun x2 => ((mm_call G0 146 [.ref 84, .int p1, .int x2] (HP I A L F E)).bind fun q => mm_run G0 174 38 [some (.ref 84), some (.int p1), some (.int p2)] (q.1.toList ++ []) q.2)) else some (some (.long (-9223372036854775808)), (HP I A L F E)))) else some (some (.long (-9223372036854775808)), (HP I A L F E))) else some (some (.long (-9223372036854775808)), (HP I A L F E))) := by
  show mm_run G0 174 0 [some (.ref 84), some (.int p1), some (.int p2)] [] (HP I A L F E) = _
  refine (sg_go ht_X8_mean (k := 1) (pc' := 1) (L' := [some (.ref 84), some (.int p1), some (.int p2)]) (st' := [.int p1]) (h' := (HP I A L F E)) rfl).trans ?_
  refine (sg_call ht_X8_mean (mj := 114) (as := [.int p1]) (rest := []) rfl rfl ⟨by decide, Nat.le_of_ble_eq_true rfl⟩).trans ?_
  refine (bind_eq (sp_X8_isStream p1)).trans ?_
  show mm_run G0 174 4 [some (.ref 84), some (.int p1), some (.int p2)] [.int (bi (decide (¬ p1 < 0 ∧ ¬ 3 < p1)))] (HP I A L F E) = _
  refine (sg_be ht_X8_mean rfl).trans ?_
  refine ite_congr rfl (fun _ => ?_) (fun _ => ?_)
  · refine (sg_go ht_X8_mean (k := 3) (pc' := 10) (L' := [some (.ref 84), some (.int p1), some (.int p2)]) (st' := [.int 1, .int 0, .int p2]) (h' := (HP I A L F E)) rfl).trans ?_
    refine (sg_call ht_X8_mean (mj := 113) (as := [.int p2, .int 0, .int 1]) (rest := []) rfl rfl ⟨by decide, Nat.le_of_ble_eq_true rfl⟩).trans ?_
    refine (bind_eq (sp_X8_isIn p2 0 1)).trans ?_
    show mm_run G0 174 13 [some (.ref 84), some (.int p1), some (.int p2)] [.int (bi (decide (¬ p2 < 0 ∧ ¬ 1 < p2)))] (HP I A L F E) = _
    refine (sg_be ht_X8_mean rfl).trans ?_
    refine ite_congr rfl (fun _ => ?_) (fun _ => ?_)
    · refine (sg_go ht_X8_mean (k := 2) (pc' := 18) (L' := [some (.ref 84), some (.int p1), some (.int p2)]) (st' := [.int p1, .ref 84]) (h' := (HP I A L F E)) rfl).trans ?_
      refine (sg_call ht_X8_mean (mj := 115) (as := [.ref 84, .int p1]) (rest := []) rfl rfl ⟨by decide, Nat.le_of_ble_eq_true rfl⟩).trans ?_
      refine (bind_eq (sg_X8_many_0 p1)).trans ?_
      refine bind_as.trans ?_
      refine bind_cg fun x1 hx1 => ?_
      show mm_run G0 174 21 [some (.ref 84), some (.int p1), some (.int p2)] [.int x1] (HP I A L F E) = _
      refine (sg_if ht_X8_mean rfl).trans ?_
      refine ite_congr rfl (fun _ => ?_) (fun _ => ?_)
      · refine (sg_go ht_X8_mean (k := 4) (pc' := 32) (L' := [some (.ref 84), some (.int p1), some (.int p2)]) (st' := [.int p1, .ref 84, .int p1, .ref 84]) (h' := (HP I A L F E)) rfl).trans ?_
        refine (sg_call ht_X8_mean (mj := 115) (as := [.ref 84, .int p1]) (rest := [.int p1, .ref 84]) rfl rfl ⟨by decide, Nat.le_of_ble_eq_true rfl⟩).trans ?_
        refine (bind_eq (sg_X8_many_0 p1)).trans ?_
        refine bind_as.trans ?_
        refine bind_cg fun x2 hx2 => ?_
        show mm_run G0 174 35 [some (.ref 84), some (.int p1), some (.int p2)] [.int x2, .int p1, .ref 84] (HP I A L F E) = _
        refine (sg_call ht_X8_mean (mj := 146) (as := [.ref 84, .int p1, .int x2]) (rest := []) rfl rfl ⟨by decide, Nat.le_of_ble_eq_true rfl⟩).trans ?_
        rfl
      · refine (sg_go ht_X8_mean (k := 1) (pc' := 27) (L' := [some (.ref 84), some (.int p1), some (.int p2)]) (st' := [.long (-9223372036854775808)]) (h' := (HP I A L F E)) rfl).trans ?_
        exact sg_ret ht_X8_mean rfl rfl
    · refine (sg_go ht_X8_mean (k := 1) (pc' := 27) (L' := [some (.ref 84), some (.int p1), some (.int p2)]) (st' := [.long (-9223372036854775808)]) (h' := (HP I A L F E)) rfl).trans ?_
      exact sg_ret ht_X8_mean rfl rfl
  · refine (sg_go ht_X8_mean (k := 1) (pc' := 27) (L' := [some (.ref 84), some (.int p1), some (.int p2)]) (st' := [.long (-9223372036854775808)]) (h' := (HP I A L F E)) rfl).trans ?_
    exact sg_ret ht_X8_mean rfl rfl
set_option maxRecDepth 20000 in
theorem sg_X8_mean_38 {I : Nat → Int32} {A : Nat → List Int32} {L : Nat → List Int64} {F : Nat → Int64} {E : MH} (v1 : Int32) (v2 : Int32) (s0 : Int64) : mm_run G0 174 38 [some (.ref 84), some (.int v1), some (.int v2)] [.long s0] (HP I A L F E) = ((ldI (A 85) ((45 * v1) + 4)).bind fun x1 => ((mm_call G0 152 [.long s0, .long (x1).toInt64, .int v2] (HP I A L F E)).bind fun q => mm_run G0 174 48 [some (.ref 84), some (.int v1), some (.int v2)] (q.1.toList ++ []) q.2)) := by
  refine (sg_go ht_X8_mean (k := 2) (pc' := 40) (L' := [some (.ref 84), some (.int v1), some (.int v2)]) (st' := [.int v1, .ref 84, .long s0]) (h' := (HP I A L F E)) rfl).trans ?_
  refine (sg_call ht_X8_mean (mj := 115) (as := [.ref 84, .int v1]) (rest := [.long s0]) rfl rfl ⟨by decide, Nat.le_of_ble_eq_true rfl⟩).trans ?_
  refine (bind_eq (sg_X8_many_0 v1)).trans ?_
  refine bind_as.trans ?_
  refine bind_cg fun x1 hx1 => ?_
  show mm_run G0 174 43 [some (.ref 84), some (.int v1), some (.int v2)] [.int x1, .long s0] (HP I A L F E) = _
  refine (sg_go ht_X8_mean (k := 2) (pc' := 45) (L' := [some (.ref 84), some (.int v1), some (.int v2)]) (st' := [.int v2, .long (x1).toInt64, .long s0]) (h' := (HP I A L F E)) rfl).trans ?_
  refine (sg_call ht_X8_mean (mj := 152) (as := [.long s0, .long (x1).toInt64, .int v2]) (rest := []) rfl rfl ⟨by decide, Nat.le_of_ble_eq_true rfl⟩).trans ?_
  rfl
set_option maxRecDepth 20000 in
theorem sg_X8_mean_48 {I : Nat → Int32} {A : Nat → List Int32} {L : Nat → List Int64} {F : Nat → Int64} {E : MH} (v1 : Int32) (v2 : Int32) (s0 : Int64) : mm_run G0 174 48 [some (.ref 84), some (.int v1), some (.int v2)] [.long s0] (HP I A L F E) = some (some (.long s0), (HP I A L F E)) := by
  exact sg_ret ht_X8_mean rfl rfl
set_option maxRecDepth 20000 in
theorem sg_X8_plan_0 {I : Nat → Int32} {A : Nat → List Int32} {L : Nat → List Int64} {F : Nat → Int64} {E : MH} (p1 : Int32) (p2 : Int32) : mm_call G0 175 [.ref 84, .int p1, .int p2] (HP I A L F E) = (if p1 ≠ (-1) then (if ¬ p1 < 0 ∧ ¬ 3 < p1 then (if 2 ≤ p1 then (if p1 ≠ 2 then (if ¬ p2 < 0 ∧ ¬ 40 < p2 then ((ldI (A 85) 198).bind fun x1 => (if x1 ≠ 8 then ((ldI (A 85) 198).bind fun x2 => ((stI (A 85) ((198 + 1) + (2 * x2)) p1).bind fun X3 => ((stI X3 ((198 + 2) + (2 * x2)) p2).bind fun X4 => ((ldI X4 198).bind fun x5 => ((stI X4 198 (x5 + 1)).bind fun X6 => ((ldI X6 198).bind fun x7 => some (some (.int x7), (HP I (fu (fu (fu A 85 X3) 85 X4) 85 X6) L F E)))))))) else some (some (.int (-4)), (HP I A L F E)))) else some (some (.int (-2)), (HP I A L F E))) else (if ¬ p2 < 0 ∧ ¬ 5 < p2 then ((ldI (A 85) 198).bind fun x8 => (if x8 ≠ 8 then ((ldI (A 85) 198).bind fun x9 => ((stI (A 85) ((198 + 1) + (2 * x9)) p1).bind fun X10 => ((stI X10 ((198 + 2) + (2 * x9)) p2).bind fun X11 => ((ldI X11 198).bind fun x12 => ((stI X11 198 (x12 + 1)).bind fun X13 => ((ldI X13 198).bind fun x14 => some (some (.int x14), (HP I (fu (fu (fu A 85 X10) 85 X11) 85 X13) L F E)))))))) else some (some (.int (-4)), (HP I A L F E)))) else some (some (.int (-2)), (HP I A L F E)))) else (if ¬ p2 < (-20) ∧ ¬ 20 < p2 then ((ldI (A 85) 198).bind fun x15 => (if x15 ≠ 8 then ((ldI (A 85) 198).bind fun x16 => ((stI (A 85) ((198 + 1) + (2 * x16)) p1).bind fun X17 => ((stI X17 ((198 + 2) + (2 * x16)) p2).bind fun X18 => ((ldI X18 198).bind fun x19 => ((stI X18 198 (x19 + 1)).bind fun X20 => ((ldI X20 198).bind fun x21 => some (some (.int x21), (HP I (fu (fu (fu A 85 X17) 85 X18) 85 X20) L F E)))))))) else some (some (.int (-4)), (HP I A L F E)))) else some (some (.int (-2)), (HP I A L F E)))) else some (some (.int (-1)), (HP I A L F E))) else ((stI (A 85) 198 0).bind fun X22 => some (some (.int 0), (HP I (fu A 85 X22) L F E)))) := by
  show mm_run G0 175 0 [some (.ref 84), some (.int p1), some (.int p2), none] [] (HP I A L F E) = _
  refine (sg_go ht_X8_plan (k := 2) (pc' := 2) (L' := [some (.ref 84), some (.int p1), some (.int p2), none]) (st' := [.int (-1), .int p1]) (h' := (HP I A L F E)) rfl).trans ?_
  refine (sg_cmp ht_X8_plan rfl).trans ?_
  refine ite_congr rfl (fun _ => ?_) (fun _ => ?_)
  · refine (sg_go ht_X8_plan (k := 3) (pc' := 19) (L' := [some (.ref 84), some (.int p1), some (.int p2), none]) (st' := [.int 3, .int 0, .int p1]) (h' := (HP I A L F E)) rfl).trans ?_
    refine (sg_call ht_X8_plan (mj := 113) (as := [.int p1, .int 0, .int 3]) (rest := []) rfl rfl ⟨by decide, Nat.le_of_ble_eq_true rfl⟩).trans ?_
    refine (bind_eq (sp_X8_isIn p1 0 3)).trans ?_
    show mm_run G0 175 22 [some (.ref 84), some (.int p1), some (.int p2), none] [.int (bi (decide (¬ p1 < 0 ∧ ¬ 3 < p1)))] (HP I A L F E) = _
    refine (sg_bn ht_X8_plan rfl).trans ?_
    refine ite_congr rfl (fun _ => ?_) (fun _ => ?_)
    · refine (sg_go ht_X8_plan (k := 2) (pc' := 29) (L' := [some (.ref 84), some (.int p1), some (.int p2), none]) (st' := [.int 2, .int p1]) (h' := (HP I A L F E)) rfl).trans ?_
      refine (sg_cmp ht_X8_plan rfl).trans ?_
      refine ite_congr rfl (fun _ => ?_) (fun _ => ?_)
      · refine (sg_go ht_X8_plan (k := 2) (pc' := 45) (L' := [some (.ref 84), some (.int p1), some (.int p2), none]) (st' := [.int 2, .int p1]) (h' := (HP I A L F E)) rfl).trans ?_
        refine (sg_cmp ht_X8_plan rfl).trans ?_
        refine ite_congr rfl (fun _ => ?_) (fun _ => ?_)
        · refine (sg_go ht_X8_plan (k := 3) (pc' := 61) (L' := [some (.ref 84), some (.int p1), some (.int p2), none]) (st' := [.int 40, .int 0, .int p2]) (h' := (HP I A L F E)) rfl).trans ?_
          refine (sg_call ht_X8_plan (mj := 113) (as := [.int p2, .int 0, .int 40]) (rest := []) rfl rfl ⟨by decide, Nat.le_of_ble_eq_true rfl⟩).trans ?_
          refine (bind_eq (sp_X8_isIn p2 0 40)).trans ?_
          show mm_run G0 175 64 [some (.ref 84), some (.int p1), some (.int p2), none] [.int (bi (decide (¬ p2 < 0 ∧ ¬ 40 < p2)))] (HP I A L F E) = _
          refine (sg_go ht_X8_plan (k := 2) (pc' := 66) (L' := [some (.ref 84), some (.int p1), some (.int p2), some (.int (bi (decide (¬ p2 < 0 ∧ ¬ 40 < p2))))]) (st' := [.int (bi (decide (¬ p2 < 0 ∧ ¬ 40 < p2)))]) (h' := (HP I A L F E)) rfl).trans ?_
          refine (sg_bn ht_X8_plan rfl).trans ?_
          refine ite_congr rfl (fun _ => ?_) (fun _ => ?_)
          · refine (sg_go ht_X8_plan (k := 3) (pc' := 79) (L' := [some (.ref 84), some (.int p1), some (.int p2), some (.int (bi (decide (¬ p2 < 0 ∧ ¬ 40 < p2))))]) (st' := [.int 198, .ref 85]) (h' := (HP I A L F E)) rfl).trans ?_
            refine (sg_ldI ht_X8_plan rfl hp_o_85).trans ?_
            refine bind_cg fun x1 hx1 => ?_
            refine (sg_go ht_X8_plan (k := 1) (pc' := 82) (L' := [some (.ref 84), some (.int p1), some (.int p2), some (.int (bi (decide (¬ p2 < 0 ∧ ¬ 40 < p2))))]) (st' := [.int 8, .int x1]) (h' := (HP I A L F E)) rfl).trans ?_
            refine (sg_cmp ht_X8_plan rfl).trans ?_
            refine ite_congr rfl (fun _ => ?_) (fun _ => ?_)
            · refine (sg_go ht_X8_plan (k := 4) (pc' := 96) (L' := [some (.ref 84), some (.int p1), some (.int p2), some (.int (bi (decide (¬ p2 < 0 ∧ ¬ 40 < p2))))]) (st' := [.int p2, .int p1, .int 198, .ref 84]) (h' := (HP I A L F E)) rfl).trans ?_
              refine (sg_call ht_X8_plan (mj := 168) (as := [.ref 84, .int 198, .int p1, .int p2]) (rest := []) rfl rfl ⟨by decide, Nat.le_of_ble_eq_true rfl⟩).trans ?_
              refine (bind_eq (sg_X8_row_0 198 p1 p2)).trans ?_
              refine bind_as.trans ?_
              refine bind_cg fun x2 hx2 => ?_
              refine bind_as.trans ?_
              refine bind_cg fun X3 hX3 => ?_
              refine bind_as.trans ?_
              refine bind_cg fun X4 hX4 => ?_
              refine bind_as.trans ?_
              refine bind_cg fun x5 hx5 => ?_
              refine bind_as.trans ?_
              refine bind_cg fun X6 hX6 => ?_
              refine bind_as.trans ?_
              refine bind_cg fun x7 hx7 => ?_
              show mm_run G0 175 99 [some (.ref 84), some (.int p1), some (.int p2), some (.int (bi (decide (¬ p2 < 0 ∧ ¬ 40 < p2))))] [.int x7] (HP I (fu (fu (fu A 85 X3) 85 X4) 85 X6) L F E) = _
              exact sg_ret ht_X8_plan rfl rfl
            · refine (sg_go ht_X8_plan (k := 2) (pc' := 99) (L' := [some (.ref 84), some (.int p1), some (.int p2), some (.int (bi (decide (¬ p2 < 0 ∧ ¬ 40 < p2))))]) (st' := [.int (-4)]) (h' := (HP I A L F E)) rfl).trans ?_
              exact sg_ret ht_X8_plan rfl rfl
          · refine (sg_go ht_X8_plan (k := 1) (pc' := 71) (L' := [some (.ref 84), some (.int p1), some (.int p2), some (.int (bi (decide (¬ p2 < 0 ∧ ¬ 40 < p2))))]) (st' := [.int (-2)]) (h' := (HP I A L F E)) rfl).trans ?_
            exact sg_ret ht_X8_plan rfl rfl
        · refine (sg_go ht_X8_plan (k := 3) (pc' := 51) (L' := [some (.ref 84), some (.int p1), some (.int p2), none]) (st' := [.int 5, .int 0, .int p2]) (h' := (HP I A L F E)) rfl).trans ?_
          refine (sg_call ht_X8_plan (mj := 113) (as := [.int p2, .int 0, .int 5]) (rest := []) rfl rfl ⟨by decide, Nat.le_of_ble_eq_true rfl⟩).trans ?_
          refine (bind_eq (sp_X8_isIn p2 0 5)).trans ?_
          show mm_run G0 175 54 [some (.ref 84), some (.int p1), some (.int p2), none] [.int (bi (decide (¬ p2 < 0 ∧ ¬ 5 < p2)))] (HP I A L F E) = _
          refine (sg_go ht_X8_plan (k := 3) (pc' := 66) (L' := [some (.ref 84), some (.int p1), some (.int p2), some (.int (bi (decide (¬ p2 < 0 ∧ ¬ 5 < p2))))]) (st' := [.int (bi (decide (¬ p2 < 0 ∧ ¬ 5 < p2)))]) (h' := (HP I A L F E)) rfl).trans ?_
          refine (sg_bn ht_X8_plan rfl).trans ?_
          refine ite_congr rfl (fun _ => ?_) (fun _ => ?_)
          · refine (sg_go ht_X8_plan (k := 3) (pc' := 79) (L' := [some (.ref 84), some (.int p1), some (.int p2), some (.int (bi (decide (¬ p2 < 0 ∧ ¬ 5 < p2))))]) (st' := [.int 198, .ref 85]) (h' := (HP I A L F E)) rfl).trans ?_
            refine (sg_ldI ht_X8_plan rfl hp_o_85).trans ?_
            refine bind_cg fun x8 hx8 => ?_
            refine (sg_go ht_X8_plan (k := 1) (pc' := 82) (L' := [some (.ref 84), some (.int p1), some (.int p2), some (.int (bi (decide (¬ p2 < 0 ∧ ¬ 5 < p2))))]) (st' := [.int 8, .int x8]) (h' := (HP I A L F E)) rfl).trans ?_
            refine (sg_cmp ht_X8_plan rfl).trans ?_
            refine ite_congr rfl (fun _ => ?_) (fun _ => ?_)
            · refine (sg_go ht_X8_plan (k := 4) (pc' := 96) (L' := [some (.ref 84), some (.int p1), some (.int p2), some (.int (bi (decide (¬ p2 < 0 ∧ ¬ 5 < p2))))]) (st' := [.int p2, .int p1, .int 198, .ref 84]) (h' := (HP I A L F E)) rfl).trans ?_
              refine (sg_call ht_X8_plan (mj := 168) (as := [.ref 84, .int 198, .int p1, .int p2]) (rest := []) rfl rfl ⟨by decide, Nat.le_of_ble_eq_true rfl⟩).trans ?_
              refine (bind_eq (sg_X8_row_0 198 p1 p2)).trans ?_
              refine bind_as.trans ?_
              refine bind_cg fun x9 hx9 => ?_
              refine bind_as.trans ?_
              refine bind_cg fun X10 hX10 => ?_
              refine bind_as.trans ?_
              refine bind_cg fun X11 hX11 => ?_
              refine bind_as.trans ?_
              refine bind_cg fun x12 hx12 => ?_
              refine bind_as.trans ?_
              refine bind_cg fun X13 hX13 => ?_
              refine bind_as.trans ?_
              refine bind_cg fun x14 hx14 => ?_
              show mm_run G0 175 99 [some (.ref 84), some (.int p1), some (.int p2), some (.int (bi (decide (¬ p2 < 0 ∧ ¬ 5 < p2))))] [.int x14] (HP I (fu (fu (fu A 85 X10) 85 X11) 85 X13) L F E) = _
              exact sg_ret ht_X8_plan rfl rfl
            · refine (sg_go ht_X8_plan (k := 2) (pc' := 99) (L' := [some (.ref 84), some (.int p1), some (.int p2), some (.int (bi (decide (¬ p2 < 0 ∧ ¬ 5 < p2))))]) (st' := [.int (-4)]) (h' := (HP I A L F E)) rfl).trans ?_
              exact sg_ret ht_X8_plan rfl rfl
          · refine (sg_go ht_X8_plan (k := 1) (pc' := 71) (L' := [some (.ref 84), some (.int p1), some (.int p2), some (.int (bi (decide (¬ p2 < 0 ∧ ¬ 5 < p2))))]) (st' := [.int (-2)]) (h' := (HP I A L F E)) rfl).trans ?_
            exact sg_ret ht_X8_plan rfl rfl
      · refine (sg_go ht_X8_plan (k := 3) (pc' := 37) (L' := [some (.ref 84), some (.int p1), some (.int p2), none]) (st' := [.int 20, .int (-20), .int p2]) (h' := (HP I A L F E)) rfl).trans ?_
        refine (sg_call ht_X8_plan (mj := 113) (as := [.int p2, .int (-20), .int 20]) (rest := []) rfl rfl ⟨by decide, Nat.le_of_ble_eq_true rfl⟩).trans ?_
        refine (bind_eq (sp_X8_isIn p2 (-20) 20)).trans ?_
        show mm_run G0 175 40 [some (.ref 84), some (.int p1), some (.int p2), none] [.int (bi (decide (¬ p2 < (-20) ∧ ¬ 20 < p2)))] (HP I A L F E) = _
        refine (sg_go ht_X8_plan (k := 3) (pc' := 66) (L' := [some (.ref 84), some (.int p1), some (.int p2), some (.int (bi (decide (¬ p2 < (-20) ∧ ¬ 20 < p2))))]) (st' := [.int (bi (decide (¬ p2 < (-20) ∧ ¬ 20 < p2)))]) (h' := (HP I A L F E)) rfl).trans ?_
        refine (sg_bn ht_X8_plan rfl).trans ?_
        refine ite_congr rfl (fun _ => ?_) (fun _ => ?_)
        · refine (sg_go ht_X8_plan (k := 3) (pc' := 79) (L' := [some (.ref 84), some (.int p1), some (.int p2), some (.int (bi (decide (¬ p2 < (-20) ∧ ¬ 20 < p2))))]) (st' := [.int 198, .ref 85]) (h' := (HP I A L F E)) rfl).trans ?_
          refine (sg_ldI ht_X8_plan rfl hp_o_85).trans ?_
          refine bind_cg fun x15 hx15 => ?_
          refine (sg_go ht_X8_plan (k := 1) (pc' := 82) (L' := [some (.ref 84), some (.int p1), some (.int p2), some (.int (bi (decide (¬ p2 < (-20) ∧ ¬ 20 < p2))))]) (st' := [.int 8, .int x15]) (h' := (HP I A L F E)) rfl).trans ?_
          refine (sg_cmp ht_X8_plan rfl).trans ?_
          refine ite_congr rfl (fun _ => ?_) (fun _ => ?_)
          · refine (sg_go ht_X8_plan (k := 4) (pc' := 96) (L' := [some (.ref 84), some (.int p1), some (.int p2), some (.int (bi (decide (¬ p2 < (-20) ∧ ¬ 20 < p2))))]) (st' := [.int p2, .int p1, .int 198, .ref 84]) (h' := (HP I A L F E)) rfl).trans ?_
            refine (sg_call ht_X8_plan (mj := 168) (as := [.ref 84, .int 198, .int p1, .int p2]) (rest := []) rfl rfl ⟨by decide, Nat.le_of_ble_eq_true rfl⟩).trans ?_
            refine (bind_eq (sg_X8_row_0 198 p1 p2)).trans ?_
            refine bind_as.trans ?_
            refine bind_cg fun x16 hx16 => ?_
            refine bind_as.trans ?_
            refine bind_cg fun X17 hX17 => ?_
            refine bind_as.trans ?_
            refine bind_cg fun X18 hX18 => ?_
            refine bind_as.trans ?_
            refine bind_cg fun x19 hx19 => ?_
            refine bind_as.trans ?_
            refine bind_cg fun X20 hX20 => ?_
            refine bind_as.trans ?_
            refine bind_cg fun x21 hx21 => ?_
            show mm_run G0 175 99 [some (.ref 84), some (.int p1), some (.int p2), some (.int (bi (decide (¬ p2 < (-20) ∧ ¬ 20 < p2))))] [.int x21] (HP I (fu (fu (fu A 85 X17) 85 X18) 85 X20) L F E) = _
            exact sg_ret ht_X8_plan rfl rfl
          · refine (sg_go ht_X8_plan (k := 2) (pc' := 99) (L' := [some (.ref 84), some (.int p1), some (.int p2), some (.int (bi (decide (¬ p2 < (-20) ∧ ¬ 20 < p2))))]) (st' := [.int (-4)]) (h' := (HP I A L F E)) rfl).trans ?_
            exact sg_ret ht_X8_plan rfl rfl
        · refine (sg_go ht_X8_plan (k := 1) (pc' := 71) (L' := [some (.ref 84), some (.int p1), some (.int p2), some (.int (bi (decide (¬ p2 < (-20) ∧ ¬ 20 < p2))))]) (st' := [.int (-2)]) (h' := (HP I A L F E)) rfl).trans ?_
          exact sg_ret ht_X8_plan rfl rfl
    · refine (sg_go ht_X8_plan (k := 1) (pc' := 26) (L' := [some (.ref 84), some (.int p1), some (.int p2), none]) (st' := [.int (-1)]) (h' := (HP I A L F E)) rfl).trans ?_
      exact sg_ret ht_X8_plan rfl rfl
  · refine (sg_go ht_X8_plan (k := 4) (pc' := 13) (L' := [some (.ref 84), some (.int p1), some (.int p2), none]) (st' := [.int 0, .int 198, .ref 85]) (h' := (HP I A L F E)) rfl).trans ?_
    refine (sg_stI (hh := fun X22 => (HP I (fu A 85 X22) L F E)) ht_X8_plan rfl hp_o_85 (fun _ => hp_s_85)).trans ?_
    refine bind_cg fun X22 hX22 => ?_
    refine (sg_go ht_X8_plan (k := 1) (pc' := 15) (L' := [some (.ref 84), some (.int p1), some (.int p2), none]) (st' := [.int 0]) (h' := (HP I (fu A 85 X22) L F E)) rfl).trans ?_
    exact sg_ret ht_X8_plan rfl rfl
set_option maxRecDepth 20000 in
theorem sg_X8_goes_0 {I : Nat → Int32} {A : Nat → List Int32} {L : Nat → List Int64} {F : Nat → Int64} {E : MH} (p1 : Int32) (p2 : Int32) : mm_call G0 176 [.ref 84, .int p1, .int p2] (HP I A L F E) = (if p1 = 0 then ((ldI (A 85) ((45 * 0) + 4)).bind fun x1 => (if 40 ≤ x1 then some (none, (HP I A L F E)) else ((ldI (A 85) ((45 * 0) + 4)).bind fun x2 => ((stI (A 85) (((45 * 0) + 5) + x2) p2).bind fun X3 => ((ldI ((fu A 85 X3) 85) ((45 * 0) + 4)).bind fun x4 => ((stI ((fu A 85 X3) 85) ((45 * 0) + 4) (x4 + 1)).bind fun X5 => some (none, (HP I (fu (fu A 85 X3) 85 X5) L F E)))))))) else (if p1 = 1 then ((stI (A 85) 1 p2).bind fun X6 => some (none, (HP I (fu A 85 X6) L F E))) else (if p1 = 2 then ((stI (A 85) 2 p2).bind fun X7 => some (none, (HP I (fu A 85 X7) L F E))) else ((ldI (A 85) ((45 * 0) + 4)).bind fun x8 => mm_run G0 176 82 [some (.ref 84), some (.int p1), some (.int p2), some (.int (imax 0 (x8 - p2))), some (.int 0)] [] (HP I A L F E))))) := by
  show mm_run G0 176 0 [some (.ref 84), some (.int p1), some (.int p2), none, none] [] (HP I A L F E) = _
  refine (sg_go ht_X8_goes (k := 1) (pc' := 1) (L' := [some (.ref 84), some (.int p1), some (.int p2), none, none]) (st' := [.int p1]) (h' := (HP I A L F E)) rfl).trans ?_
  refine (sg_sw ht_X8_goes rfl).trans ?_
  rw [swt_cons (k := 0) (lo' := 1) (by decide) (by decide), run_ite]
  refine ite_congr rfl (fun _ => ?_) (fun _ => ?_)
  · refine (sg_go ht_X8_goes (k := 2) (pc' := 30) (L' := [some (.ref 84), some (.int p1), some (.int p2), none, none]) (st' := [.int 0, .ref 84]) (h' := (HP I A L F E)) rfl).trans ?_
    refine (sg_call ht_X8_goes (mj := 115) (as := [.ref 84, .int 0]) (rest := []) rfl rfl ⟨by decide, Nat.le_of_ble_eq_true rfl⟩).trans ?_
    refine (bind_eq (sg_X8_many_0 0)).trans ?_
    refine bind_as.trans ?_
    refine bind_cg fun x1 hx1 => ?_
    show mm_run G0 176 33 [some (.ref 84), some (.int p1), some (.int p2), none, none] [.int x1] (HP I A L F E) = _
    refine (sg_go ht_X8_goes (k := 1) (pc' := 35) (L' := [some (.ref 84), some (.int p1), some (.int p2), none, none]) (st' := [.int 40, .int x1]) (h' := (HP I A L F E)) rfl).trans ?_
    refine (sg_cmp ht_X8_goes rfl).trans ?_
    refine ite_congr rfl (fun _ => ?_) (fun _ => ?_)
    · exact sg_ret ht_X8_goes rfl rfl
    · refine (sg_go ht_X8_goes (k := 3) (pc' := 41) (L' := [some (.ref 84), some (.int p1), some (.int p2), none, none]) (st' := [.int p2, .int 0, .ref 84]) (h' := (HP I A L F E)) rfl).trans ?_
      refine (sg_call ht_X8_goes (mj := 118) (as := [.ref 84, .int 0, .int p2]) (rest := []) rfl rfl ⟨by decide, Nat.le_of_ble_eq_true rfl⟩).trans ?_
      refine (bind_eq (sg_X8_comes_0 0 p2)).trans ?_
      refine bind_as.trans ?_
      refine bind_cg fun x2 hx2 => ?_
      refine bind_as.trans ?_
      refine bind_cg fun X3 hX3 => ?_
      refine bind_as.trans ?_
      refine bind_cg fun x4 hx4 => ?_
      refine bind_as.trans ?_
      refine bind_cg fun X5 hX5 => ?_
      show mm_run G0 176 44 [some (.ref 84), some (.int p1), some (.int p2), none, none] [] (HP I (fu (fu A 85 X3) 85 X5) L F E) = _
      refine (sg_go ht_X8_goes (k := 1) (pc' := 121) (L' := [some (.ref 84), some (.int p1), some (.int p2), none, none]) (st' := []) (h' := (HP I (fu (fu A 85 X3) 85 X5) L F E)) rfl).trans ?_
      exact sg_ret ht_X8_goes rfl rfl
  · rw [swt_cons (k := 1) (lo' := 2) (by decide) (by decide), run_ite]
    refine ite_congr rfl (fun _ => ?_) (fun _ => ?_)
    · refine (sg_go ht_X8_goes (k := 4) (pc' := 53) (L' := [some (.ref 84), some (.int p1), some (.int p2), none, none]) (st' := [.int p2, .int 1, .ref 85]) (h' := (HP I A L F E)) rfl).trans ?_
      refine (sg_stI (hh := fun X6 => (HP I (fu A 85 X6) L F E)) ht_X8_goes rfl hp_o_85 (fun _ => hp_s_85)).trans ?_
      refine bind_cg fun X6 hX6 => ?_
      refine (sg_go ht_X8_goes (k := 1) (pc' := 121) (L' := [some (.ref 84), some (.int p1), some (.int p2), none, none]) (st' := []) (h' := (HP I (fu A 85 X6) L F E)) rfl).trans ?_
      exact sg_ret ht_X8_goes rfl rfl
    · rw [swt_cons (k := 2) (lo' := 3) (by decide) (by decide), run_ite]
      refine ite_congr rfl (fun _ => ?_) (fun _ => ?_)
      · refine (sg_go ht_X8_goes (k := 4) (pc' := 63) (L' := [some (.ref 84), some (.int p1), some (.int p2), none, none]) (st' := [.int p2, .int 2, .ref 85]) (h' := (HP I A L F E)) rfl).trans ?_
        refine (sg_stI (hh := fun X7 => (HP I (fu A 85 X7) L F E)) ht_X8_goes rfl hp_o_85 (fun _ => hp_s_85)).trans ?_
        refine bind_cg fun X7 hX7 => ?_
        refine (sg_go ht_X8_goes (k := 1) (pc' := 121) (L' := [some (.ref 84), some (.int p1), some (.int p2), none, none]) (st' := []) (h' := (HP I (fu A 85 X7) L F E)) rfl).trans ?_
        exact sg_ret ht_X8_goes rfl rfl
      · rw [swt_nil]
        refine (sg_go ht_X8_goes (k := 3) (pc' := 70) (L' := [some (.ref 84), some (.int p1), some (.int p2), none, none]) (st' := [.int 0, .ref 84, .int 0]) (h' := (HP I A L F E)) rfl).trans ?_
        refine (sg_call ht_X8_goes (mj := 115) (as := [.ref 84, .int 0]) (rest := [.int 0]) rfl rfl ⟨by decide, Nat.le_of_ble_eq_true rfl⟩).trans ?_
        refine (bind_eq (sg_X8_many_0 0)).trans ?_
        refine bind_as.trans ?_
        refine bind_cg fun x8 hx8 => ?_
        show mm_run G0 176 73 [some (.ref 84), some (.int p1), some (.int p2), none, none] [.int x8, .int 0] (HP I A L F E) = _
        refine (sg_go ht_X8_goes (k := 6) (pc' := 82) (L' := [some (.ref 84), some (.int p1), some (.int p2), some (.int (imax 0 (x8 - p2))), some (.int 0)]) (st' := []) (h' := (HP I A L F E)) rfl).trans ?_
        rfl
set_option maxRecDepth 20000 in
theorem sg_X8_goes_82 {I : Nat → Int32} {A : Nat → List Int32} {L : Nat → List Int64} {F : Nat → Int64} {E : MH} (v1 : Int32) (v2 : Int32) (v3 : Int32) (v4 : Int32) : mm_run G0 176 82 [some (.ref 84), some (.int v1), some (.int v2), some (.int v3), some (.int v4)] [] (HP I A L F E) = (if v3 ≤ v4 then ((stI (A 85) 4 v3).bind fun X1 => some (none, (HP I (fu A 85 X1) L F E))) else ((ldI (A 85) ((5 + v4) + v2)).bind fun x2 => ((stI (A 85) (5 + v4) x2).bind fun X3 => mm_run G0 176 82 [some (.ref 84), some (.int v1), some (.int v2), some (.int v3), some (.int (v4 + 1))] [] (HP I (fu A 85 X3) L F E)))) := by
  refine (sg_go ht_X8_goes (k := 2) (pc' := 85) (L' := [some (.ref 84), some (.int v1), some (.int v2), some (.int v3), some (.int v4)]) (st' := [.int v3, .int v4]) (h' := (HP I A L F E)) rfl).trans ?_
  refine (sg_cmp ht_X8_goes rfl).trans ?_
  refine ite_congr rfl (fun _ => ?_) (fun _ => ?_)
  · refine (sg_go ht_X8_goes (k := 4) (pc' := 120) (L' := [some (.ref 84), some (.int v1), some (.int v2), some (.int v3), some (.int v4)]) (st' := [.int v3, .int 4, .ref 85]) (h' := (HP I A L F E)) rfl).trans ?_
    refine (sg_stI (hh := fun X1 => (HP I (fu A 85 X1) L F E)) ht_X8_goes rfl hp_o_85 (fun _ => hp_s_85)).trans ?_
    refine bind_cg fun X1 hX1 => ?_
    exact sg_ret ht_X8_goes rfl rfl
  · refine (sg_go ht_X8_goes (k := 10) (pc' := 104) (L' := [some (.ref 84), some (.int v1), some (.int v2), some (.int v3), some (.int v4)]) (st' := [.int (5 + v4), .ref 85, .int (5 + v4), .ref 85]) (h' := (HP I A L F E)) rfl).trans ?_
    refine (sg_go ht_X8_goes (k := 2) (pc' := 106) (L' := [some (.ref 84), some (.int v1), some (.int v2), some (.int v3), some (.int v4)]) (st' := [.int ((5 + v4) + v2), .ref 85, .int (5 + v4), .ref 85]) (h' := (HP I A L F E)) rfl).trans ?_
    refine (sg_ldI ht_X8_goes rfl hp_o_85).trans ?_
    refine bind_cg fun x2 hx2 => ?_
    refine (sg_stI (hh := fun X3 => (HP I (fu A 85 X3) L F E)) ht_X8_goes rfl hp_o_85 (fun _ => hp_s_85)).trans ?_
    refine bind_cg fun X3 hX3 => ?_
    refine (sg_go ht_X8_goes (k := 2) (pc' := 82) (L' := [some (.ref 84), some (.int v1), some (.int v2), some (.int v3), some (.int (v4 + 1))]) (st' := []) (h' := (HP I (fu A 85 X3) L F E)) rfl).trans ?_
    rfl
set_option maxRecDepth 20000 in
theorem sg_X8_ends_0 {I : Nat → Int32} {A : Nat → List Int32} {L : Nat → List Int64} {F : Nat → Int64} {E : MH} (p1 : Int32) : mm_call G0 177 [.ref 84, .int p1] (HP I A L F E) = (if ¬ p1 < 0 ∧ ¬ 2 < p1 then ((mm_call G0 117 [.ref 85, .ref 87] (HP I A L F E)).bind fun q => mm_run G0 177 22 [some (.ref 84), some (.int p1), none] (q.1.toList ++ []) q.2) else some (some (.int (-1)), (HP I A L F E))) := by
  show mm_run G0 177 0 [some (.ref 84), some (.int p1), none] [] (HP I A L F E) = _
  refine (sg_go ht_X8_ends (k := 3) (pc' := 3) (L' := [some (.ref 84), some (.int p1), none]) (st' := [.int 2, .int 0, .int p1]) (h' := (HP I A L F E)) rfl).trans ?_
  refine (sg_call ht_X8_ends (mj := 113) (as := [.int p1, .int 0, .int 2]) (rest := []) rfl rfl ⟨by decide, Nat.le_of_ble_eq_true rfl⟩).trans ?_
  refine (bind_eq (sp_X8_isIn p1 0 2)).trans ?_
  show mm_run G0 177 6 [some (.ref 84), some (.int p1), none] [.int (bi (decide (¬ p1 < 0 ∧ ¬ 2 < p1)))] (HP I A L F E) = _
  refine (sg_bn ht_X8_ends rfl).trans ?_
  refine ite_congr rfl (fun _ => ?_) (fun _ => ?_)
  · refine (sg_go ht_X8_ends (k := 4) (pc' := 19) (L' := [some (.ref 84), some (.int p1), none]) (st' := [.ref 87, .ref 85]) (h' := (HP I A L F E)) rfl).trans ?_
    refine (sg_call ht_X8_ends (mj := 117) (as := [.ref 85, .ref 87]) (rest := []) rfl rfl ⟨by decide, Nat.le_of_ble_eq_true rfl⟩).trans ?_
    rfl
  · refine (sg_go ht_X8_ends (k := 1) (pc' := 10) (L' := [some (.ref 84), some (.int p1), none]) (st' := [.int (-1)]) (h' := (HP I A L F E)) rfl).trans ?_
    exact sg_ret ht_X8_ends rfl rfl
set_option maxRecDepth 20000 in
theorem sg_X8_ends_22 {I : Nat → Int32} {A : Nat → List Int32} {L : Nat → List Int64} {F : Nat → Int64} {E : MH} (v1 : Int32) : mm_run G0 177 22 [some (.ref 84), some (.int v1), none] [] (HP I A L F E) = mm_run G0 177 24 [some (.ref 84), some (.int v1), some (.int 0)] [] (HP I A L F E) := by
  refine (sg_go ht_X8_ends (k := 2) (pc' := 24) (L' := [some (.ref 84), some (.int v1), some (.int 0)]) (st' := []) (h' := (HP I A L F E)) rfl).trans ?_
  rfl
set_option maxRecDepth 20000 in
theorem sg_X8_ends_24 {I : Nat → Int32} {A : Nat → List Int32} {L : Nat → List Int64} {F : Nat → Int64} {E : MH} (v1 : Int32) (v2 : Int32) : mm_run G0 177 24 [some (.ref 84), some (.int v1), some (.int v2)] [] (HP I A L F E) = ((ldI (A 87) 198).bind fun x1 => (if x1 ≤ v2 then ((mm_call G0 138 [.ref 84, .int 0] (HP I A L F E)).bind fun q => mm_run G0 177 75 [some (.ref 84), some (.int v1), some (.int v2)] (q.1.toList ++ []) q.2) else ((ldI (A 87) (199 + (2 * v2))).bind fun x2 => ((ldI (A 87) (200 + (2 * v2))).bind fun x3 => ((mm_call G0 176 [.ref 84, .int x2, .int x3] (HP I A L F E)).bind fun q => mm_run G0 177 64 [some (.ref 84), some (.int v1), some (.int v2)] (q.1.toList ++ []) q.2))))) := by
  refine (sg_go ht_X8_ends (k := 4) (pc' := 32) (L' := [some (.ref 84), some (.int v1), some (.int v2)]) (st' := [.int 198, .ref 87, .int v2]) (h' := (HP I A L F E)) rfl).trans ?_
  refine (sg_ldI ht_X8_ends rfl hp_o_87).trans ?_
  refine bind_cg fun x1 hx1 => ?_
  refine (sg_cmp ht_X8_ends rfl).trans ?_
  refine ite_congr rfl (fun _ => ?_) (fun _ => ?_)
  · refine (sg_go ht_X8_ends (k := 2) (pc' := 72) (L' := [some (.ref 84), some (.int v1), some (.int v2)]) (st' := [.int 0, .ref 84]) (h' := (HP I A L F E)) rfl).trans ?_
    refine (sg_call ht_X8_ends (mj := 138) (as := [.ref 84, .int 0]) (rest := []) rfl rfl ⟨by decide, Nat.le_of_ble_eq_true rfl⟩).trans ?_
    rfl
  · refine (sg_go ht_X8_ends (k := 8) (pc' := 48) (L' := [some (.ref 84), some (.int v1), some (.int v2)]) (st' := [.int (199 + (2 * v2)), .ref 87, .ref 84]) (h' := (HP I A L F E)) rfl).trans ?_
    refine (sg_ldI ht_X8_ends rfl hp_o_87).trans ?_
    refine bind_cg fun x2 hx2 => ?_
    refine (sg_go ht_X8_ends (k := 7) (pc' := 60) (L' := [some (.ref 84), some (.int v1), some (.int v2)]) (st' := [.int (200 + (2 * v2)), .ref 87, .int x2, .ref 84]) (h' := (HP I A L F E)) rfl).trans ?_
    refine (sg_ldI ht_X8_ends rfl hp_o_87).trans ?_
    refine bind_cg fun x3 hx3 => ?_
    refine (sg_call ht_X8_ends (mj := 176) (as := [.ref 84, .int x2, .int x3]) (rest := []) rfl rfl ⟨by decide, Nat.le_of_ble_eq_true rfl⟩).trans ?_
    rfl
set_option maxRecDepth 20000 in
theorem sg_X8_ends_75 {I : Nat → Int32} {A : Nat → List Int32} {L : Nat → List Int64} {F : Nat → Int64} {E : MH} (v1 : Int32) (v2 : Int32) : mm_run G0 177 75 [some (.ref 84), some (.int v1), some (.int v2)] [] (HP I A L F E) = (if v1 ≠ 0 then (if v1 ≠ 1 then ((mm_call G0 149 [.ref 84, .int 0] (HP I A L F E)).bind fun q => mm_run G0 177 103 [some (.ref 84), some (.int v1), some (.int v2)] (q.1.toList ++ []) q.2) else (if (I 8415) ≠ 0 then ((ldI (A 92) 0).bind fun x1 => ((mm_call G0 117 [.ref 87, .ref 85] (HP I A L F E)).bind fun q => mm_run G0 177 115 [some (.ref 84), some (.int v1), some (.int x1)] (q.1.toList ++ []) q.2)) else ((mm_call G0 117 [.ref 87, .ref 85] (HP I A L F E)).bind fun q => mm_run G0 177 115 [some (.ref 84), some (.int v1), some (.int (-5))] (q.1.toList ++ []) q.2))) else ((mm_call G0 117 [.ref 87, .ref 85] (HP I A L F E)).bind fun q => mm_run G0 177 115 [some (.ref 84), some (.int v1), some (.int (I 8415))] (q.1.toList ++ []) q.2)) := by
  refine (sg_go ht_X8_ends (k := 1) (pc' := 76) (L' := [some (.ref 84), some (.int v1), some (.int v2)]) (st' := [.int v1]) (h' := (HP I A L F E)) rfl).trans ?_
  refine (sg_if ht_X8_ends rfl).trans ?_
  refine ite_congr rfl (fun _ => ?_) (fun _ => ?_)
  · refine (sg_go ht_X8_ends (k := 2) (pc' := 88) (L' := [some (.ref 84), some (.int v1), some (.int v2)]) (st' := [.int 1, .int v1]) (h' := (HP I A L F E)) rfl).trans ?_
    refine (sg_cmp ht_X8_ends rfl).trans ?_
    refine ite_congr rfl (fun _ => ?_) (fun _ => ?_)
    · refine (sg_go ht_X8_ends (k := 2) (pc' := 100) (L' := [some (.ref 84), some (.int v1), some (.int v2)]) (st' := [.int 0, .ref 84]) (h' := (HP I A L F E)) rfl).trans ?_
      refine (sg_call ht_X8_ends (mj := 149) (as := [.ref 84, .int 0]) (rest := []) rfl rfl ⟨by decide, Nat.le_of_ble_eq_true rfl⟩).trans ?_
      rfl
    · refine (sg_go ht_X8_ends (k := 1) (pc' := 92) (L' := [some (.ref 84), some (.int v1), some (.int v2)]) (st' := [.ref 84]) (h' := (HP I A L F E)) rfl).trans ?_
      refine (sg_call ht_X8_ends (mj := 139) (as := [.ref 84]) (rest := []) rfl rfl ⟨by decide, Nat.le_of_ble_eq_true rfl⟩).trans ?_
      refine (bind_eq (sg_X8_firstAlarm_0 )).trans ?_
      refine ite_bd.trans ?_
      refine ite_congr rfl (fun _ => ?_) (fun _ => ?_)
      · refine bind_as.trans ?_
        refine bind_cg fun x1 hx1 => ?_
        show mm_run G0 177 95 [some (.ref 84), some (.int v1), some (.int v2)] [.int x1] (HP I A L F E) = _
        refine (sg_go ht_X8_ends (k := 6) (pc' := 112) (L' := [some (.ref 84), some (.int v1), some (.int x1)]) (st' := [.ref 85, .ref 87]) (h' := (HP I A L F E)) rfl).trans ?_
        refine (sg_call ht_X8_ends (mj := 117) (as := [.ref 87, .ref 85]) (rest := []) rfl rfl ⟨by decide, Nat.le_of_ble_eq_true rfl⟩).trans ?_
        rfl
      · show mm_run G0 177 95 [some (.ref 84), some (.int v1), some (.int v2)] [.int (-5)] (HP I A L F E) = _
        refine (sg_go ht_X8_ends (k := 6) (pc' := 112) (L' := [some (.ref 84), some (.int v1), some (.int (-5))]) (st' := [.ref 85, .ref 87]) (h' := (HP I A L F E)) rfl).trans ?_
        refine (sg_call ht_X8_ends (mj := 117) (as := [.ref 87, .ref 85]) (rest := []) rfl rfl ⟨by decide, Nat.le_of_ble_eq_true rfl⟩).trans ?_
        rfl
  · refine (sg_go ht_X8_ends (k := 8) (pc' := 112) (L' := [some (.ref 84), some (.int v1), some (.int (I 8415))]) (st' := [.ref 85, .ref 87]) (h' := (HP I A L F E)) rfl).trans ?_
    refine (sg_call ht_X8_ends (mj := 117) (as := [.ref 87, .ref 85]) (rest := []) rfl rfl ⟨by decide, Nat.le_of_ble_eq_true rfl⟩).trans ?_
    rfl
set_option maxRecDepth 20000 in
theorem sg_X8_ends_64 {I : Nat → Int32} {A : Nat → List Int32} {L : Nat → List Int64} {F : Nat → Int64} {E : MH} (v1 : Int32) (v2 : Int32) : mm_run G0 177 64 [some (.ref 84), some (.int v1), some (.int v2)] [] (HP I A L F E) = mm_run G0 177 24 [some (.ref 84), some (.int v1), some (.int (v2 + 1))] [] (HP I A L F E) := by
  refine (sg_go ht_X8_ends (k := 2) (pc' := 24) (L' := [some (.ref 84), some (.int v1), some (.int (v2 + 1))]) (st' := []) (h' := (HP I A L F E)) rfl).trans ?_
  rfl
set_option maxRecDepth 20000 in
theorem sg_X8_ends_103 {I : Nat → Int32} {A : Nat → List Int32} {L : Nat → List Int64} {F : Nat → Int64} {E : MH} (v1 : Int32) (v2 : Int32) (s0 : Int32) : mm_run G0 177 103 [some (.ref 84), some (.int v1), some (.int v2)] [.int s0] (HP I A L F E) = ((mm_call G0 117 [.ref 87, .ref 85] (HP I A L F E)).bind fun q => mm_run G0 177 115 [some (.ref 84), some (.int v1), some (.int s0)] (q.1.toList ++ []) q.2) := by
  refine (sg_go ht_X8_ends (k := 5) (pc' := 112) (L' := [some (.ref 84), some (.int v1), some (.int s0)]) (st' := [.ref 85, .ref 87]) (h' := (HP I A L F E)) rfl).trans ?_
  refine (sg_call ht_X8_ends (mj := 117) (as := [.ref 87, .ref 85]) (rest := []) rfl rfl ⟨by decide, Nat.le_of_ble_eq_true rfl⟩).trans ?_
  rfl
set_option maxRecDepth 20000 in
theorem sg_X8_ends_115 {I : Nat → Int32} {A : Nat → List Int32} {L : Nat → List Int64} {F : Nat → Int64} {E : MH} (v1 : Int32) (v2 : Int32) : mm_run G0 177 115 [some (.ref 84), some (.int v1), some (.int v2)] [] (HP I A L F E) = some (some (.int v2), (HP I A L F E)) := by
  refine (sg_go ht_X8_ends (k := 1) (pc' := 116) (L' := [some (.ref 84), some (.int v1), some (.int v2)]) (st' := [.int v2]) (h' := (HP I A L F E)) rfl).trans ?_
  exact sg_ret ht_X8_ends rfl rfl
set_option maxRecDepth 20000 in
theorem sg_X8_book_0 {I : Nat → Int32} {A : Nat → List Int32} {L : Nat → List Int64} {F : Nat → Int64} {E : MH} (p1 : Int32) (p2 : Int32) : mm_call G0 178 [.ref 84, .int p1, .int p2] (HP I A L F E) = (if p1 ≠ (-1) then (if ¬ p1 < 0 ∧ ¬ 3 < p1 then (if ¬ p2 < 0 ∧ ¬ 40 < p2 then ((ldI (A 85) 215).bind fun x1 => (if x1 ≠ 8 then ((ldI (A 85) 215).bind fun x2 => ((stI (A 85) ((215 + 1) + (2 * x2)) p1).bind fun X3 => ((stI X3 ((215 + 2) + (2 * x2)) p2).bind fun X4 => ((ldI X4 215).bind fun x5 => ((stI X4 215 (x5 + 1)).bind fun X6 => ((ldI X6 215).bind fun x7 => some (some (.int x7), (HP I (fu (fu (fu A 85 X3) 85 X4) 85 X6) L F E)))))))) else some (some (.int (-4)), (HP I A L F E)))) else some (some (.int (-2)), (HP I A L F E))) else some (some (.int (-1)), (HP I A L F E))) else ((stI (A 85) 215 0).bind fun X8 => some (some (.int 0), (HP I (fu A 85 X8) L F E)))) := by
  show mm_run G0 178 0 [some (.ref 84), some (.int p1), some (.int p2)] [] (HP I A L F E) = _
  refine (sg_go ht_X8_book (k := 2) (pc' := 2) (L' := [some (.ref 84), some (.int p1), some (.int p2)]) (st' := [.int (-1), .int p1]) (h' := (HP I A L F E)) rfl).trans ?_
  refine (sg_cmp ht_X8_book rfl).trans ?_
  refine ite_congr rfl (fun _ => ?_) (fun _ => ?_)
  · refine (sg_go ht_X8_book (k := 1) (pc' := 17) (L' := [some (.ref 84), some (.int p1), some (.int p2)]) (st' := [.int p1]) (h' := (HP I A L F E)) rfl).trans ?_
    refine (sg_call ht_X8_book (mj := 114) (as := [.int p1]) (rest := []) rfl rfl ⟨by decide, Nat.le_of_ble_eq_true rfl⟩).trans ?_
    refine (bind_eq (sp_X8_isStream p1)).trans ?_
    show mm_run G0 178 20 [some (.ref 84), some (.int p1), some (.int p2)] [.int (bi (decide (¬ p1 < 0 ∧ ¬ 3 < p1)))] (HP I A L F E) = _
    refine (sg_bn ht_X8_book rfl).trans ?_
    refine ite_congr rfl (fun _ => ?_) (fun _ => ?_)
    · refine (sg_go ht_X8_book (k := 3) (pc' := 29) (L' := [some (.ref 84), some (.int p1), some (.int p2)]) (st' := [.int 40, .int 0, .int p2]) (h' := (HP I A L F E)) rfl).trans ?_
      refine (sg_call ht_X8_book (mj := 113) (as := [.int p2, .int 0, .int 40]) (rest := []) rfl rfl ⟨by decide, Nat.le_of_ble_eq_true rfl⟩).trans ?_
      refine (bind_eq (sp_X8_isIn p2 0 40)).trans ?_
      show mm_run G0 178 32 [some (.ref 84), some (.int p1), some (.int p2)] [.int (bi (decide (¬ p2 < 0 ∧ ¬ 40 < p2)))] (HP I A L F E) = _
      refine (sg_bn ht_X8_book rfl).trans ?_
      refine ite_congr rfl (fun _ => ?_) (fun _ => ?_)
      · refine (sg_go ht_X8_book (k := 3) (pc' := 45) (L' := [some (.ref 84), some (.int p1), some (.int p2)]) (st' := [.int 215, .ref 85]) (h' := (HP I A L F E)) rfl).trans ?_
        refine (sg_ldI ht_X8_book rfl hp_o_85).trans ?_
        refine bind_cg fun x1 hx1 => ?_
        refine (sg_go ht_X8_book (k := 1) (pc' := 48) (L' := [some (.ref 84), some (.int p1), some (.int p2)]) (st' := [.int 8, .int x1]) (h' := (HP I A L F E)) rfl).trans ?_
        refine (sg_cmp ht_X8_book rfl).trans ?_
        refine ite_congr rfl (fun _ => ?_) (fun _ => ?_)
        · refine (sg_go ht_X8_book (k := 4) (pc' := 62) (L' := [some (.ref 84), some (.int p1), some (.int p2)]) (st' := [.int p2, .int p1, .int 215, .ref 84]) (h' := (HP I A L F E)) rfl).trans ?_
          refine (sg_call ht_X8_book (mj := 168) (as := [.ref 84, .int 215, .int p1, .int p2]) (rest := []) rfl rfl ⟨by decide, Nat.le_of_ble_eq_true rfl⟩).trans ?_
          refine (bind_eq (sg_X8_row_0 215 p1 p2)).trans ?_
          refine bind_as.trans ?_
          refine bind_cg fun x2 hx2 => ?_
          refine bind_as.trans ?_
          refine bind_cg fun X3 hX3 => ?_
          refine bind_as.trans ?_
          refine bind_cg fun X4 hX4 => ?_
          refine bind_as.trans ?_
          refine bind_cg fun x5 hx5 => ?_
          refine bind_as.trans ?_
          refine bind_cg fun X6 hX6 => ?_
          refine bind_as.trans ?_
          refine bind_cg fun x7 hx7 => ?_
          show mm_run G0 178 65 [some (.ref 84), some (.int p1), some (.int p2)] [.int x7] (HP I (fu (fu (fu A 85 X3) 85 X4) 85 X6) L F E) = _
          exact sg_ret ht_X8_book rfl rfl
        · refine (sg_go ht_X8_book (k := 2) (pc' := 65) (L' := [some (.ref 84), some (.int p1), some (.int p2)]) (st' := [.int (-4)]) (h' := (HP I A L F E)) rfl).trans ?_
          exact sg_ret ht_X8_book rfl rfl
      · refine (sg_go ht_X8_book (k := 1) (pc' := 37) (L' := [some (.ref 84), some (.int p1), some (.int p2)]) (st' := [.int (-2)]) (h' := (HP I A L F E)) rfl).trans ?_
        exact sg_ret ht_X8_book rfl rfl
    · refine (sg_go ht_X8_book (k := 1) (pc' := 24) (L' := [some (.ref 84), some (.int p1), some (.int p2)]) (st' := [.int (-1)]) (h' := (HP I A L F E)) rfl).trans ?_
      exact sg_ret ht_X8_book rfl rfl
  · refine (sg_go ht_X8_book (k := 4) (pc' := 13) (L' := [some (.ref 84), some (.int p1), some (.int p2)]) (st' := [.int 0, .int 215, .ref 85]) (h' := (HP I A L F E)) rfl).trans ?_
    refine (sg_stI (hh := fun X8 => (HP I (fu A 85 X8) L F E)) ht_X8_book rfl hp_o_85 (fun _ => hp_s_85)).trans ?_
    refine bind_cg fun X8 hX8 => ?_
    refine (sg_go ht_X8_book (k := 1) (pc' := 15) (L' := [some (.ref 84), some (.int p1), some (.int p2)]) (st' := [.int 0]) (h' := (HP I (fu A 85 X8) L F E)) rfl).trans ?_
    exact sg_ret ht_X8_book rfl rfl
set_option maxRecDepth 20000 in
theorem sg_X8_looked_0 {I : Nat → Int32} {A : Nat → List Int32} {L : Nat → List Int64} {F : Nat → Int64} {E : MH}  : mm_call G0 179 [.ref 84] (HP I A L F E) = mm_run G0 179 2 [some (.ref 84), some (.int 0)] [] (HP I A L F E) := by
  show mm_run G0 179 0 [some (.ref 84), none] [] (HP I A L F E) = _
  refine (sg_go ht_X8_looked (k := 2) (pc' := 2) (L' := [some (.ref 84), some (.int 0)]) (st' := []) (h' := (HP I A L F E)) rfl).trans ?_
  rfl
set_option maxRecDepth 20000 in
theorem sg_X8_looked_2 {I : Nat → Int32} {A : Nat → List Int32} {L : Nat → List Int64} {F : Nat → Int64} {E : MH} (v1 : Int32) : mm_run G0 179 2 [some (.ref 84), some (.int v1)] [] (HP I A L F E) = ((ldI (A 85) 215).bind fun x1 => (if x1 ≤ v1 then some (some (.int (-5)), (HP I A L F E)) else ((ldI (A 85) (216 + (2 * v1))).bind fun x2 => ((mm_call G0 138 [.ref 84, .int x2] (HP I A L F E)).bind fun q => mm_run G0 179 30 [some (.ref 84), some (.int v1)] (q.1.toList ++ []) q.2)))) := by
  refine (sg_go ht_X8_looked (k := 4) (pc' := 10) (L' := [some (.ref 84), some (.int v1)]) (st' := [.int 215, .ref 85, .int v1]) (h' := (HP I A L F E)) rfl).trans ?_
  refine (sg_ldI ht_X8_looked rfl hp_o_85).trans ?_
  refine bind_cg fun x1 hx1 => ?_
  refine (sg_cmp ht_X8_looked rfl).trans ?_
  refine ite_congr rfl (fun _ => ?_) (fun _ => ?_)
  · refine (sg_go ht_X8_looked (k := 1) (pc' := 59) (L' := [some (.ref 84), some (.int v1)]) (st' := [.int (-5)]) (h' := (HP I A L F E)) rfl).trans ?_
    exact sg_ret ht_X8_looked rfl rfl
  · refine (sg_go ht_X8_looked (k := 8) (pc' := 26) (L' := [some (.ref 84), some (.int v1)]) (st' := [.int (216 + (2 * v1)), .ref 85, .ref 84]) (h' := (HP I A L F E)) rfl).trans ?_
    refine (sg_ldI ht_X8_looked rfl hp_o_85).trans ?_
    refine bind_cg fun x2 hx2 => ?_
    refine (sg_call ht_X8_looked (mj := 138) (as := [.ref 84, .int x2]) (rest := []) rfl rfl ⟨by decide, Nat.le_of_ble_eq_true rfl⟩).trans ?_
    rfl
set_option maxRecDepth 20000 in
theorem sg_X8_looked_30 {I : Nat → Int32} {A : Nat → List Int32} {L : Nat → List Int64} {F : Nat → Int64} {E : MH} (v1 : Int32) : mm_run G0 179 30 [some (.ref 84), some (.int v1)] [] (HP I A L F E) = ((ldI (A 85) (217 + (2 * v1))).bind fun x1 => (if (I 8415) = x1 then mm_run G0 179 2 [some (.ref 84), some (.int (v1 + 1))] [] (HP I A L F E) else some (some (.int v1), (HP I A L F E)))) := by
  refine (sg_go ht_X8_looked (k := 9) (pc' := 45) (L' := [some (.ref 84), some (.int v1)]) (st' := [.int (217 + (2 * v1)), .ref 85, .int (I 8415)]) (h' := (HP I A L F E)) rfl).trans ?_
  refine (sg_ldI ht_X8_looked rfl hp_o_85).trans ?_
  refine bind_cg fun x1 hx1 => ?_
  refine (sg_cmp ht_X8_looked rfl).trans ?_
  refine ite_congr rfl (fun _ => ?_) (fun _ => ?_)
  · refine (sg_go ht_X8_looked (k := 2) (pc' := 2) (L' := [some (.ref 84), some (.int (v1 + 1))]) (st' := []) (h' := (HP I A L F E)) rfl).trans ?_
    rfl
  · refine (sg_go ht_X8_looked (k := 1) (pc' := 50) (L' := [some (.ref 84), some (.int v1)]) (st' := [.int v1]) (h' := (HP I A L F E)) rfl).trans ?_
    exact sg_ret ht_X8_looked rfl rfl
set_option maxRecDepth 20000 in
theorem sg_X8_judge_0 {I : Nat → Int32} {A : Nat → List Int32} {L : Nat → List Int64} {F : Nat → Int64} {E : MH} (p1 : Int32) (p2 : Int32) (p3 : Int32) : mm_call G0 181 [.ref 84, .int p1, .int p2, .int p3] (HP I A L F E) = (if ¬ p1 < 0 ∧ ¬ 3 < p1 then (if ¬ p2 < 0 ∧ ¬ 5 < p2 then ((ldI (A 102) p2).bind fun x1 => (if x1 < 0 then ((mm_call G0 138 [.ref 84, .int p1] (HP I A L F E)).bind fun q => mm_run G0 181 43 [some (.ref 84), some (.int p1), some (.int p2), some (.int p3), none, none] (q.1.toList ++ []) q.2) else ((ldI (A 102) p2).bind fun x2 => (if x2 = 3 then ((mm_call G0 138 [.ref 84, .int p1] (HP I A L F E)).bind fun q => mm_run G0 181 43 [some (.ref 84), some (.int p1), some (.int p2), some (.int p3), none, none] (q.1.toList ++ []) q.2) else some (some (.int (-12)), (HP I A L F E)))))) else some (some (.int (-1)), (HP I A L F E))) else some (some (.int (-1)), (HP I A L F E))) := by
  show mm_run G0 181 0 [some (.ref 84), some (.int p1), some (.int p2), some (.int p3), none, none] [] (HP I A L F E) = _
  refine (sg_go ht_X8_judge (k := 1) (pc' := 1) (L' := [some (.ref 84), some (.int p1), some (.int p2), some (.int p3), none, none]) (st' := [.int p1]) (h' := (HP I A L F E)) rfl).trans ?_
  refine (sg_call ht_X8_judge (mj := 114) (as := [.int p1]) (rest := []) rfl rfl ⟨by decide, Nat.le_of_ble_eq_true rfl⟩).trans ?_
  refine (bind_eq (sp_X8_isStream p1)).trans ?_
  show mm_run G0 181 4 [some (.ref 84), some (.int p1), some (.int p2), some (.int p3), none, none] [.int (bi (decide (¬ p1 < 0 ∧ ¬ 3 < p1)))] (HP I A L F E) = _
  refine (sg_be ht_X8_judge rfl).trans ?_
  refine ite_congr rfl (fun _ => ?_) (fun _ => ?_)
  · refine (sg_go ht_X8_judge (k := 1) (pc' := 8) (L' := [some (.ref 84), some (.int p1), some (.int p2), some (.int p3), none, none]) (st' := [.int p2]) (h' := (HP I A L F E)) rfl).trans ?_
    refine (sg_call ht_X8_judge (mj := 180) (as := [.int p2]) (rest := []) rfl rfl ⟨by decide, Nat.le_of_ble_eq_true rfl⟩).trans ?_
    refine (bind_eq (sp_X8_isTape p2)).trans ?_
    show mm_run G0 181 11 [some (.ref 84), some (.int p1), some (.int p2), some (.int p3), none, none] [.int (bi (decide (¬ p2 < 0 ∧ ¬ 5 < p2)))] (HP I A L F E) = _
    refine (sg_bn ht_X8_judge rfl).trans ?_
    refine ite_congr rfl (fun _ => ?_) (fun _ => ?_)
    · refine (sg_go ht_X8_judge (k := 3) (pc' := 21) (L' := [some (.ref 84), some (.int p1), some (.int p2), some (.int p3), none, none]) (st' := [.int p2, .ref 102]) (h' := (HP I A L F E)) rfl).trans ?_
      refine (sg_ldI ht_X8_judge rfl hp_o_102).trans ?_
      refine bind_cg fun x1 hx1 => ?_
      refine (sg_if ht_X8_judge rfl).trans ?_
      refine ite_congr rfl (fun _ => ?_) (fun _ => ?_)
      · refine (sg_go ht_X8_judge (k := 2) (pc' := 40) (L' := [some (.ref 84), some (.int p1), some (.int p2), some (.int p3), none, none]) (st' := [.int p1, .ref 84]) (h' := (HP I A L F E)) rfl).trans ?_
        refine (sg_call ht_X8_judge (mj := 138) (as := [.ref 84, .int p1]) (rest := []) rfl rfl ⟨by decide, Nat.le_of_ble_eq_true rfl⟩).trans ?_
        rfl
      · refine (sg_go ht_X8_judge (k := 3) (pc' := 30) (L' := [some (.ref 84), some (.int p1), some (.int p2), some (.int p3), none, none]) (st' := [.int p2, .ref 102]) (h' := (HP I A L F E)) rfl).trans ?_
        refine (sg_ldI ht_X8_judge rfl hp_o_102).trans ?_
        refine bind_cg fun x2 hx2 => ?_
        refine (sg_go ht_X8_judge (k := 1) (pc' := 32) (L' := [some (.ref 84), some (.int p1), some (.int p2), some (.int p3), none, none]) (st' := [.int 3, .int x2]) (h' := (HP I A L F E)) rfl).trans ?_
        refine (sg_cmp ht_X8_judge rfl).trans ?_
        refine ite_congr rfl (fun _ => ?_) (fun _ => ?_)
        · refine (sg_go ht_X8_judge (k := 2) (pc' := 40) (L' := [some (.ref 84), some (.int p1), some (.int p2), some (.int p3), none, none]) (st' := [.int p1, .ref 84]) (h' := (HP I A L F E)) rfl).trans ?_
          refine (sg_call ht_X8_judge (mj := 138) (as := [.ref 84, .int p1]) (rest := []) rfl rfl ⟨by decide, Nat.le_of_ble_eq_true rfl⟩).trans ?_
          rfl
        · refine (sg_go ht_X8_judge (k := 1) (pc' := 37) (L' := [some (.ref 84), some (.int p1), some (.int p2), some (.int p3), none, none]) (st' := [.int (-12)]) (h' := (HP I A L F E)) rfl).trans ?_
          exact sg_ret ht_X8_judge rfl rfl
    · refine (sg_go ht_X8_judge (k := 1) (pc' := 15) (L' := [some (.ref 84), some (.int p1), some (.int p2), some (.int p3), none, none]) (st' := [.int (-1)]) (h' := (HP I A L F E)) rfl).trans ?_
      exact sg_ret ht_X8_judge rfl rfl
  · refine (sg_go ht_X8_judge (k := 1) (pc' := 15) (L' := [some (.ref 84), some (.int p1), some (.int p2), some (.int p3), none, none]) (st' := [.int (-1)]) (h' := (HP I A L F E)) rfl).trans ?_
    exact sg_ret ht_X8_judge rfl rfl
set_option maxRecDepth 20000 in
theorem sg_X8_judge_43 {I : Nat → Int32} {A : Nat → List Int32} {L : Nat → List Int64} {F : Nat → Int64} {E : MH} (v1 : Int32) (v2 : Int32) (v3 : Int32) : mm_run G0 181 43 [some (.ref 84), some (.int v1), some (.int v2), some (.int v3), none, none] [] (HP I A L F E) = ((ldI (A 102) v2).bind fun x1 => (if x1 < 0 then mm_run G0 181 73 [some (.ref 84), some (.int v1), some (.int v2), some (.int v3), some (.int 0), some (.int 0)] [] (HP I A L F E) else (if 0 ≤ v3 then ((ldI (A 103) v2).bind fun x2 => mm_run G0 181 73 [some (.ref 84), some (.int v1), some (.int v2), some (.int v3), some (.int (x2 - v3)), some (.int 0)] [] (HP I A L F E)) else mm_run G0 181 73 [some (.ref 84), some (.int v1), some (.int v2), some (.int v3), some (.int 0), some (.int 0)] [] (HP I A L F E)))) := by
  refine (sg_go ht_X8_judge (k := 3) (pc' := 48) (L' := [some (.ref 84), some (.int v1), some (.int v2), some (.int v3), none, none]) (st' := [.int v2, .ref 102]) (h' := (HP I A L F E)) rfl).trans ?_
  refine (sg_ldI ht_X8_judge rfl hp_o_102).trans ?_
  refine bind_cg fun x1 hx1 => ?_
  refine (sg_if ht_X8_judge rfl).trans ?_
  refine ite_congr rfl (fun _ => ?_) (fun _ => ?_)
  · refine (sg_go ht_X8_judge (k := 5) (pc' := 73) (L' := [some (.ref 84), some (.int v1), some (.int v2), some (.int v3), some (.int 0), some (.int 0)]) (st' := []) (h' := (HP I A L F E)) rfl).trans ?_
    rfl
  · refine (sg_go ht_X8_judge (k := 1) (pc' := 53) (L' := [some (.ref 84), some (.int v1), some (.int v2), some (.int v3), none, none]) (st' := [.int v3]) (h' := (HP I A L F E)) rfl).trans ?_
    refine (sg_if ht_X8_judge rfl).trans ?_
    refine ite_congr rfl (fun _ => ?_) (fun _ => ?_)
    · refine (sg_go ht_X8_judge (k := 3) (pc' := 65) (L' := [some (.ref 84), some (.int v1), some (.int v2), some (.int v3), none, none]) (st' := [.int v2, .ref 103]) (h' := (HP I A L F E)) rfl).trans ?_
      refine (sg_ldI ht_X8_judge rfl hp_o_103).trans ?_
      refine bind_cg fun x2 hx2 => ?_
      refine (sg_go ht_X8_judge (k := 5) (pc' := 73) (L' := [some (.ref 84), some (.int v1), some (.int v2), some (.int v3), some (.int (x2 - v3)), some (.int 0)]) (st' := []) (h' := (HP I A L F E)) rfl).trans ?_
      rfl
    · refine (sg_go ht_X8_judge (k := 5) (pc' := 73) (L' := [some (.ref 84), some (.int v1), some (.int v2), some (.int v3), some (.int 0), some (.int 0)]) (st' := []) (h' := (HP I A L F E)) rfl).trans ?_
      rfl
set_option maxRecDepth 20000 in
theorem sg_X8_judge_73 {I : Nat → Int32} {A : Nat → List Int32} {L : Nat → List Int64} {F : Nat → Int64} {E : MH} (v1 : Int32) (v2 : Int32) (v3 : Int32) (v4 : Int32) (v5 : Int32) : mm_run G0 181 73 [some (.ref 84), some (.int v1), some (.int v2), some (.int v3), some (.int v4), some (.int v5)] [] (HP I A L F E) = ((ldI (A 85) ((45 * v1) + 4)).bind fun x1 => (if x1 ≤ v5 then some (some (.int (-5)), (HP I A L F E)) else (if v5 < v4 then ((ldL (L 104) (((60 * v2) + v3) + v5)).bind fun x2 => ((ldI (A 90) v5).bind fun x3 => (if (lg_cmp x2 (x3).toInt64) = 0 then mm_run G0 181 73 [some (.ref 84), some (.int v1), some (.int v2), some (.int v3), some (.int v4), some (.int (v5 + 1))] [] (HP I A L F E) else some (some (.int v5), (HP I A L F E))))) else some (some (.int (100 + v5)), (HP I A L F E))))) := by
  refine (sg_go ht_X8_judge (k := 3) (pc' := 77) (L' := [some (.ref 84), some (.int v1), some (.int v2), some (.int v3), some (.int v4), some (.int v5)]) (st' := [.int v1, .ref 84, .int v5]) (h' := (HP I A L F E)) rfl).trans ?_
  refine (sg_call ht_X8_judge (mj := 115) (as := [.ref 84, .int v1]) (rest := [.int v5]) rfl rfl ⟨by decide, Nat.le_of_ble_eq_true rfl⟩).trans ?_
  refine (bind_eq (sg_X8_many_0 v1)).trans ?_
  refine bind_as.trans ?_
  refine bind_cg fun x1 hx1 => ?_
  show mm_run G0 181 80 [some (.ref 84), some (.int v1), some (.int v2), some (.int v3), some (.int v4), some (.int v5)] [.int x1, .int v5] (HP I A L F E) = _
  refine (sg_cmp ht_X8_judge rfl).trans ?_
  refine ite_congr rfl (fun _ => ?_) (fun _ => ?_)
  · refine (sg_go ht_X8_judge (k := 1) (pc' := 133) (L' := [some (.ref 84), some (.int v1), some (.int v2), some (.int v3), some (.int v4), some (.int v5)]) (st' := [.int (-5)]) (h' := (HP I A L F E)) rfl).trans ?_
    exact sg_ret ht_X8_judge rfl rfl
  · refine (sg_go ht_X8_judge (k := 2) (pc' := 87) (L' := [some (.ref 84), some (.int v1), some (.int v2), some (.int v3), some (.int v4), some (.int v5)]) (st' := [.int v4, .int v5]) (h' := (HP I A L F E)) rfl).trans ?_
    refine (sg_cmp ht_X8_judge rfl).trans ?_
    refine ite_congr rfl (fun _ => ?_) (fun _ => ?_)
    · refine (sg_go ht_X8_judge (k := 9) (pc' := 109) (L' := [some (.ref 84), some (.int v1), some (.int v2), some (.int v3), some (.int v4), some (.int v5)]) (st' := [.int (((60 * v2) + v3) + v5), .ref 104]) (h' := (HP I A L F E)) rfl).trans ?_
      refine (sg_ldL ht_X8_judge rfl hp_o_104).trans ?_
      refine bind_cg fun x2 hx2 => ?_
      refine (sg_go ht_X8_judge (k := 3) (pc' := 116) (L' := [some (.ref 84), some (.int v1), some (.int v2), some (.int v3), some (.int v4), some (.int v5)]) (st' := [.int v5, .ref 90, .long x2]) (h' := (HP I A L F E)) rfl).trans ?_
      refine (sg_ldI ht_X8_judge rfl hp_o_90).trans ?_
      refine bind_cg fun x3 hx3 => ?_
      refine (sg_go ht_X8_judge (k := 2) (pc' := 119) (L' := [some (.ref 84), some (.int v1), some (.int v2), some (.int v3), some (.int v4), some (.int v5)]) (st' := [.int (lg_cmp x2 (x3).toInt64)]) (h' := (HP I A L F E)) rfl).trans ?_
      refine (sg_if ht_X8_judge rfl).trans ?_
      refine ite_congr rfl (fun _ => ?_) (fun _ => ?_)
      · refine (sg_go ht_X8_judge (k := 2) (pc' := 73) (L' := [some (.ref 84), some (.int v1), some (.int v2), some (.int v3), some (.int v4), some (.int (v5 + 1))]) (st' := []) (h' := (HP I A L F E)) rfl).trans ?_
        rfl
      · refine (sg_go ht_X8_judge (k := 1) (pc' := 124) (L' := [some (.ref 84), some (.int v1), some (.int v2), some (.int v3), some (.int v4), some (.int v5)]) (st' := [.int v5]) (h' := (HP I A L F E)) rfl).trans ?_
        exact sg_ret ht_X8_judge rfl rfl
    · refine (sg_go ht_X8_judge (k := 3) (pc' := 95) (L' := [some (.ref 84), some (.int v1), some (.int v2), some (.int v3), some (.int v4), some (.int v5)]) (st' := [.int (100 + v5)]) (h' := (HP I A L F E)) rfl).trans ?_
      exact sg_ret ht_X8_judge rfl rfl
set_option maxRecDepth 20000 in
theorem sg_X8_allValues_0 {I : Nat → Int32} {A : Nat → List Int32} {L : Nat → List Int64} {F : Nat → Int64} {E : MH}  : mm_call G0 182 [.ref 84] (HP I A L F E) = ((ldI (A 85) ((45 * 0) + 4)).bind fun x1 => ((ldI (A 85) ((45 * 1) + 4)).bind fun x2 => ((ldI (A 85) ((45 * 2) + 4)).bind fun x3 => ((ldI (A 85) ((45 * 3) + 4)).bind fun x4 => some (some (.int (((x1 + x2) + x3) + x4)), (HP I A L F E)))))) := by
  show mm_run G0 182 0 [some (.ref 84)] [] (HP I A L F E) = _
  refine (sg_go ht_X8_allValues (k := 2) (pc' := 2) (L' := [some (.ref 84)]) (st' := [.int 0, .ref 84]) (h' := (HP I A L F E)) rfl).trans ?_
  refine (sg_call ht_X8_allValues (mj := 115) (as := [.ref 84, .int 0]) (rest := []) rfl rfl ⟨by decide, Nat.le_of_ble_eq_true rfl⟩).trans ?_
  refine (bind_eq (sg_X8_many_0 0)).trans ?_
  refine bind_as.trans ?_
  refine bind_cg fun x1 hx1 => ?_
  show mm_run G0 182 5 [some (.ref 84)] [.int x1] (HP I A L F E) = _
  refine (sg_go ht_X8_allValues (k := 2) (pc' := 7) (L' := [some (.ref 84)]) (st' := [.int 1, .ref 84, .int x1]) (h' := (HP I A L F E)) rfl).trans ?_
  refine (sg_call ht_X8_allValues (mj := 115) (as := [.ref 84, .int 1]) (rest := [.int x1]) rfl rfl ⟨by decide, Nat.le_of_ble_eq_true rfl⟩).trans ?_
  refine (bind_eq (sg_X8_many_0 1)).trans ?_
  refine bind_as.trans ?_
  refine bind_cg fun x2 hx2 => ?_
  show mm_run G0 182 10 [some (.ref 84)] [.int x2, .int x1] (HP I A L F E) = _
  refine (sg_go ht_X8_allValues (k := 3) (pc' := 13) (L' := [some (.ref 84)]) (st' := [.int 2, .ref 84, .int (x1 + x2)]) (h' := (HP I A L F E)) rfl).trans ?_
  refine (sg_call ht_X8_allValues (mj := 115) (as := [.ref 84, .int 2]) (rest := [.int (x1 + x2)]) rfl rfl ⟨by decide, Nat.le_of_ble_eq_true rfl⟩).trans ?_
  refine (bind_eq (sg_X8_many_0 2)).trans ?_
  refine bind_as.trans ?_
  refine bind_cg fun x3 hx3 => ?_
  show mm_run G0 182 16 [some (.ref 84)] [.int x3, .int (x1 + x2)] (HP I A L F E) = _
  refine (sg_go ht_X8_allValues (k := 3) (pc' := 19) (L' := [some (.ref 84)]) (st' := [.int 3, .ref 84, .int ((x1 + x2) + x3)]) (h' := (HP I A L F E)) rfl).trans ?_
  refine (sg_call ht_X8_allValues (mj := 115) (as := [.ref 84, .int 3]) (rest := [.int ((x1 + x2) + x3)]) rfl rfl ⟨by decide, Nat.le_of_ble_eq_true rfl⟩).trans ?_
  refine (bind_eq (sg_X8_many_0 3)).trans ?_
  refine bind_as.trans ?_
  refine bind_cg fun x4 hx4 => ?_
  show mm_run G0 182 22 [some (.ref 84)] [.int x4, .int ((x1 + x2) + x3)] (HP I A L F E) = _
  refine (sg_go ht_X8_allValues (k := 1) (pc' := 23) (L' := [some (.ref 84)]) (st' := [.int (((x1 + x2) + x3) + x4)]) (h' := (HP I A L F E)) rfl).trans ?_
  exact sg_ret ht_X8_allValues rfl rfl
set_option maxRecDepth 20000 in
theorem sg_X8_image_0 {I : Nat → Int32} {A : Nat → List Int32} {L : Nat → List Int64} {F : Nat → Int64} {E : MH}  : mm_call G0 183 [.ref 84] (HP I A L F E) = ((mm_call G0 117 [.ref 85, .ref 86] (HP (fu I 8403 1) A L F E)).bind fun q => mm_run G0 183 16 [some (.ref 84)] (q.1.toList ++ []) q.2) := by
  show mm_run G0 183 0 [some (.ref 84)] [] (HP I A L F E) = _
  refine (sg_go ht_X8_image (k := 2) (pc' := 2) (L' := [some (.ref 84)]) (st' := [.int 1, .ref 84]) (h' := (HP I A L F E)) rfl).trans ?_
  refine (sg_putZ (h' := (HP (fu I 8403 1) A L F E)) ht_X8_image (by decide) rfl hp_o_84 (Nat.le_of_ble_eq_true rfl) hp_p_8403).trans ?_
  refine (sg_go ht_X8_image (k := 4) (pc' := 13) (L' := [some (.ref 84)]) (st' := [.ref 86, .ref 85]) (h' := (HP (fu I 8403 1) A L F E)) rfl).trans ?_
  refine (sg_call ht_X8_image (mj := 117) (as := [.ref 85, .ref 86]) (rest := []) rfl rfl ⟨by decide, Nat.le_of_ble_eq_true rfl⟩).trans ?_
  rfl
set_option maxRecDepth 20000 in
theorem sg_X8_image_16 {I : Nat → Int32} {A : Nat → List Int32} {L : Nat → List Int64} {F : Nat → Int64} {E : MH}  : mm_run G0 183 16 [some (.ref 84)] [] (HP I A L F E) = ((ldI (A 85) ((45 * 0) + 4)).bind fun x1 => ((ldI (A 85) ((45 * 1) + 4)).bind fun x2 => ((ldI (A 85) ((45 * 2) + 4)).bind fun x3 => ((ldI (A 85) ((45 * 3) + 4)).bind fun x4 => some (some (.int (((x1 + x2) + x3) + x4)), (HP I A L F E)))))) := by
  refine (sg_go ht_X8_image (k := 1) (pc' := 17) (L' := [some (.ref 84)]) (st' := [.ref 84]) (h' := (HP I A L F E)) rfl).trans ?_
  refine (sg_call ht_X8_image (mj := 182) (as := [.ref 84]) (rest := []) rfl rfl ⟨by decide, Nat.le_of_ble_eq_true rfl⟩).trans ?_
  refine (bind_eq (sg_X8_allValues_0 )).trans ?_
  refine bind_as.trans ?_
  refine bind_cg fun x1 hx1 => ?_
  refine bind_as.trans ?_
  refine bind_cg fun x2 hx2 => ?_
  refine bind_as.trans ?_
  refine bind_cg fun x3 hx3 => ?_
  refine bind_as.trans ?_
  refine bind_cg fun x4 hx4 => ?_
  show mm_run G0 183 20 [some (.ref 84)] [.int (((x1 + x2) + x3) + x4)] (HP I A L F E) = _
  exact sg_ret ht_X8_image rfl rfl
set_option maxRecDepth 20000 in
theorem sg_X8_undo_0 {I : Nat → Int32} {A : Nat → List Int32} {L : Nat → List Int64} {F : Nat → Int64} {E : MH}  : mm_call G0 184 [.ref 84] (HP I A L F E) = (if (I 8403) ≠ 0 then ((mm_call G0 117 [.ref 86, .ref 85] (HP I A L F E)).bind fun q => mm_run G0 184 21 [some (.ref 84)] (q.1.toList ++ []) q.2) else some (some (.int (-3)), (HP I A L F E))) := by
  show mm_run G0 184 0 [some (.ref 84)] [] (HP I A L F E) = _
  refine (sg_go ht_X8_undo (k := 2) (pc' := 4) (L' := [some (.ref 84)]) (st' := [.int (I 8403)]) (h' := (HP I A L F E)) rfl).trans ?_
  refine (sg_if ht_X8_undo rfl).trans ?_
  refine ite_congr rfl (fun _ => ?_) (fun _ => ?_)
  · refine (sg_go ht_X8_undo (k := 4) (pc' := 18) (L' := [some (.ref 84)]) (st' := [.ref 85, .ref 86]) (h' := (HP I A L F E)) rfl).trans ?_
    refine (sg_call ht_X8_undo (mj := 117) (as := [.ref 86, .ref 85]) (rest := []) rfl rfl ⟨by decide, Nat.le_of_ble_eq_true rfl⟩).trans ?_
    rfl
  · refine (sg_go ht_X8_undo (k := 1) (pc' := 9) (L' := [some (.ref 84)]) (st' := [.int (-3)]) (h' := (HP I A L F E)) rfl).trans ?_
    exact sg_ret ht_X8_undo rfl rfl
set_option maxRecDepth 20000 in
theorem sg_X8_undo_21 {I : Nat → Int32} {A : Nat → List Int32} {L : Nat → List Int64} {F : Nat → Int64} {E : MH}  : mm_run G0 184 21 [some (.ref 84)] [] (HP I A L F E) = ((ldI (A 85) ((45 * 0) + 4)).bind fun x1 => ((ldI (A 85) ((45 * 1) + 4)).bind fun x2 => ((ldI (A 85) ((45 * 2) + 4)).bind fun x3 => ((ldI (A 85) ((45 * 3) + 4)).bind fun x4 => some (some (.int (((x1 + x2) + x3) + x4)), (HP I A L F E)))))) := by
  refine (sg_go ht_X8_undo (k := 1) (pc' := 22) (L' := [some (.ref 84)]) (st' := [.ref 84]) (h' := (HP I A L F E)) rfl).trans ?_
  refine (sg_call ht_X8_undo (mj := 182) (as := [.ref 84]) (rest := []) rfl rfl ⟨by decide, Nat.le_of_ble_eq_true rfl⟩).trans ?_
  refine (bind_eq (sg_X8_allValues_0 )).trans ?_
  refine bind_as.trans ?_
  refine bind_cg fun x1 hx1 => ?_
  refine bind_as.trans ?_
  refine bind_cg fun x2 hx2 => ?_
  refine bind_as.trans ?_
  refine bind_cg fun x3 hx3 => ?_
  refine bind_as.trans ?_
  refine bind_cg fun x4 hx4 => ?_
  show mm_run G0 184 25 [some (.ref 84)] [.int (((x1 + x2) + x3) + x4)] (HP I A L F E) = _
  exact sg_ret ht_X8_undo rfl rfl
set_option maxRecDepth 20000 in
theorem sg_X8_count_0 {I : Nat → Int32} {A : Nat → List Int32} {L : Nat → List Int64} {F : Nat → Int64} {E : MH} (p1 : Int32) : mm_call G0 185 [.ref 84, .int p1] (HP I A L F E) = (if p1 = 0 then ((ldI (A 85) ((45 * 0) + 4)).bind fun x1 => ((ldI (A 85) ((45 * 1) + 4)).bind fun x2 => ((ldI (A 85) ((45 * 2) + 4)).bind fun x3 => ((ldI (A 85) ((45 * 3) + 4)).bind fun x4 => some (some (.int (((x1 + x2) + x3) + x4)), (HP I A L F E)))))) else (if p1 = 1 then ((ldI (A 85) 185).bind fun x5 => some (some (.int x5), (HP I A L F E))) else (if p1 = 2 then ((ldI (A 85) 198).bind fun x6 => some (some (.int x6), (HP I A L F E))) else (if p1 = 3 then ((ldI (A 85) 215).bind fun x7 => some (some (.int x7), (HP I A L F E))) else (if p1 = 4 then some (some (.int (I 8405)), (HP I A L F E)) else some (some (.int (-2)), (HP I A L F E))))))) := by
  show mm_run G0 185 0 [some (.ref 84), some (.int p1)] [] (HP I A L F E) = _
  refine (sg_go ht_X8_count (k := 1) (pc' := 1) (L' := [some (.ref 84), some (.int p1)]) (st' := [.int p1]) (h' := (HP I A L F E)) rfl).trans ?_
  refine (sg_sw ht_X8_count rfl).trans ?_
  rw [swt_cons (k := 0) (lo' := 1) (by decide) (by decide), run_ite]
  refine ite_congr rfl (fun _ => ?_) (fun _ => ?_)
  · refine (sg_go ht_X8_count (k := 1) (pc' := 37) (L' := [some (.ref 84), some (.int p1)]) (st' := [.ref 84]) (h' := (HP I A L F E)) rfl).trans ?_
    refine (sg_call ht_X8_count (mj := 182) (as := [.ref 84]) (rest := []) rfl rfl ⟨by decide, Nat.le_of_ble_eq_true rfl⟩).trans ?_
    refine (bind_eq (sg_X8_allValues_0 )).trans ?_
    refine bind_as.trans ?_
    refine bind_cg fun x1 hx1 => ?_
    refine bind_as.trans ?_
    refine bind_cg fun x2 hx2 => ?_
    refine bind_as.trans ?_
    refine bind_cg fun x3 hx3 => ?_
    refine bind_as.trans ?_
    refine bind_cg fun x4 hx4 => ?_
    show mm_run G0 185 40 [some (.ref 84), some (.int p1)] [.int (((x1 + x2) + x3) + x4)] (HP I A L F E) = _
    exact sg_ret ht_X8_count rfl rfl
  · rw [swt_cons (k := 1) (lo' := 2) (by decide) (by decide), run_ite]
    refine ite_congr rfl (fun _ => ?_) (fun _ => ?_)
    · refine (sg_go ht_X8_count (k := 3) (pc' := 48) (L' := [some (.ref 84), some (.int p1)]) (st' := [.int 185, .ref 85]) (h' := (HP I A L F E)) rfl).trans ?_
      refine (sg_ldI ht_X8_count rfl hp_o_85).trans ?_
      refine bind_cg fun x5 hx5 => ?_
      exact sg_ret ht_X8_count rfl rfl
    · rw [swt_cons (k := 2) (lo' := 3) (by decide) (by decide), run_ite]
      refine ite_congr rfl (fun _ => ?_) (fun _ => ?_)
      · refine (sg_go ht_X8_count (k := 3) (pc' := 57) (L' := [some (.ref 84), some (.int p1)]) (st' := [.int 198, .ref 85]) (h' := (HP I A L F E)) rfl).trans ?_
        refine (sg_ldI ht_X8_count rfl hp_o_85).trans ?_
        refine bind_cg fun x6 hx6 => ?_
        exact sg_ret ht_X8_count rfl rfl
      · rw [swt_cons (k := 3) (lo' := 4) (by decide) (by decide), run_ite]
        refine ite_congr rfl (fun _ => ?_) (fun _ => ?_)
        · refine (sg_go ht_X8_count (k := 3) (pc' := 66) (L' := [some (.ref 84), some (.int p1)]) (st' := [.int 215, .ref 85]) (h' := (HP I A L F E)) rfl).trans ?_
          refine (sg_ldI ht_X8_count rfl hp_o_85).trans ?_
          refine bind_cg fun x7 hx7 => ?_
          exact sg_ret ht_X8_count rfl rfl
        · rw [swt_cons (k := 4) (lo' := 5) (by decide) (by decide), run_ite]
          refine ite_congr rfl (fun _ => ?_) (fun _ => ?_)
          · refine (sg_go ht_X8_count (k := 2) (pc' := 72) (L' := [some (.ref 84), some (.int p1)]) (st' := [.int (I 8405)]) (h' := (HP I A L F E)) rfl).trans ?_
            exact sg_ret ht_X8_count rfl rfl
          · rw [swt_nil]
            refine (sg_go ht_X8_count (k := 1) (pc' := 75) (L' := [some (.ref 84), some (.int p1)]) (st' := [.int (-2)]) (h' := (HP I A L F E)) rfl).trans ?_
            exact sg_ret ht_X8_count rfl rfl
set_option maxRecDepth 20000 in
theorem sg_X8_tape_0 {I : Nat → Int32} {A : Nat → List Int32} {L : Nat → List Int64} {F : Nat → Int64} {E : MH} (p1 : Int32) (p2 : Int32) (p3 : Int32) : mm_call G0 186 [.ref 84, .int p1, .int p2, .int p3] (HP I A L F E) = (if ¬ p1 < 0 ∧ ¬ 5 < p1 then (if ¬ p2 < (-1) ∧ ¬ 4 < p2 then (if p2 < 0 then (if p2 < 0 then ((stI (A 102) p1 p2).bind fun X1 => (if 0 ≤ p2 then ((stI (A 103) p1 p3).bind fun X2 => mm_run G0 186 67 [some (.ref 84), some (.int p1), some (.int p2), some (.int p3), some (.int 0)] [] (HP I (fu (fu A 102 X1) 103 X2) L F E)) else ((stI (A 103) p1 0).bind fun X3 => mm_run G0 186 67 [some (.ref 84), some (.int p1), some (.int p2), some (.int p3), some (.int 0)] [] (HP I (fu (fu A 102 X1) 103 X3) L F E)))) else (if 0 ≤ p3 then ((stI (A 102) p1 p2).bind fun X4 => (if 0 ≤ p2 then ((stI (A 103) p1 p3).bind fun X5 => mm_run G0 186 67 [some (.ref 84), some (.int p1), some (.int p2), some (.int p3), some (.int 0)] [] (HP I (fu (fu A 102 X4) 103 X5) L F E)) else ((stI (A 103) p1 0).bind fun X6 => mm_run G0 186 67 [some (.ref 84), some (.int p1), some (.int p2), some (.int p3), some (.int 0)] [] (HP I (fu (fu A 102 X4) 103 X6) L F E)))) else some (some (.int (-14)), (HP I A L F E)))) else (if p3 ≤ 60 then (if p2 < 0 then ((stI (A 102) p1 p2).bind fun X7 => (if 0 ≤ p2 then ((stI (A 103) p1 p3).bind fun X8 => mm_run G0 186 67 [some (.ref 84), some (.int p1), some (.int p2), some (.int p3), some (.int 0)] [] (HP I (fu (fu A 102 X7) 103 X8) L F E)) else ((stI (A 103) p1 0).bind fun X9 => mm_run G0 186 67 [some (.ref 84), some (.int p1), some (.int p2), some (.int p3), some (.int 0)] [] (HP I (fu (fu A 102 X7) 103 X9) L F E)))) else (if 0 ≤ p3 then ((stI (A 102) p1 p2).bind fun X10 => (if 0 ≤ p2 then ((stI (A 103) p1 p3).bind fun X11 => mm_run G0 186 67 [some (.ref 84), some (.int p1), some (.int p2), some (.int p3), some (.int 0)] [] (HP I (fu (fu A 102 X10) 103 X11) L F E)) else ((stI (A 103) p1 0).bind fun X12 => mm_run G0 186 67 [some (.ref 84), some (.int p1), some (.int p2), some (.int p3), some (.int 0)] [] (HP I (fu (fu A 102 X10) 103 X12) L F E)))) else some (some (.int (-14)), (HP I A L F E)))) else some (some (.int (-2)), (HP I A L F E)))) else some (some (.int (-2)), (HP I A L F E))) else some (some (.int (-1)), (HP I A L F E))) := by
  show mm_run G0 186 0 [some (.ref 84), some (.int p1), some (.int p2), some (.int p3), none] [] (HP I A L F E) = _
  refine (sg_go ht_X8_tape (k := 1) (pc' := 1) (L' := [some (.ref 84), some (.int p1), some (.int p2), some (.int p3), none]) (st' := [.int p1]) (h' := (HP I A L F E)) rfl).trans ?_
  refine (sg_call ht_X8_tape (mj := 180) (as := [.int p1]) (rest := []) rfl rfl ⟨by decide, Nat.le_of_ble_eq_true rfl⟩).trans ?_
  refine (bind_eq (sp_X8_isTape p1)).trans ?_
  show mm_run G0 186 4 [some (.ref 84), some (.int p1), some (.int p2), some (.int p3), none] [.int (bi (decide (¬ p1 < 0 ∧ ¬ 5 < p1)))] (HP I A L F E) = _
  refine (sg_bn ht_X8_tape rfl).trans ?_
  refine ite_congr rfl (fun _ => ?_) (fun _ => ?_)
  · refine (sg_go ht_X8_tape (k := 3) (pc' := 12) (L' := [some (.ref 84), some (.int p1), some (.int p2), some (.int p3), none]) (st' := [.int 4, .int (-1), .int p2]) (h' := (HP I A L F E)) rfl).trans ?_
    refine (sg_call ht_X8_tape (mj := 113) (as := [.int p2, .int (-1), .int 4]) (rest := []) rfl rfl ⟨by decide, Nat.le_of_ble_eq_true rfl⟩).trans ?_
    refine (bind_eq (sp_X8_isIn p2 (-1) 4)).trans ?_
    show mm_run G0 186 15 [some (.ref 84), some (.int p1), some (.int p2), some (.int p3), none] [.int (bi (decide (¬ p2 < (-1) ∧ ¬ 4 < p2)))] (HP I A L F E) = _
    refine (sg_be ht_X8_tape rfl).trans ?_
    refine ite_congr rfl (fun _ => ?_) (fun _ => ?_)
    · refine (sg_go ht_X8_tape (k := 1) (pc' := 19) (L' := [some (.ref 84), some (.int p1), some (.int p2), some (.int p3), none]) (st' := [.int p2]) (h' := (HP I A L F E)) rfl).trans ?_
      refine (sg_if ht_X8_tape rfl).trans ?_
      refine ite_congr rfl (fun _ => ?_) (fun _ => ?_)
      · refine (sg_go ht_X8_tape (k := 1) (pc' := 32) (L' := [some (.ref 84), some (.int p1), some (.int p2), some (.int p3), none]) (st' := [.int p2]) (h' := (HP I A L F E)) rfl).trans ?_
        refine (sg_if ht_X8_tape rfl).trans ?_
        refine ite_congr rfl (fun _ => ?_) (fun _ => ?_)
        · refine (sg_go ht_X8_tape (k := 4) (pc' := 48) (L' := [some (.ref 84), some (.int p1), some (.int p2), some (.int p3), none]) (st' := [.int p2, .int p1, .ref 102]) (h' := (HP I A L F E)) rfl).trans ?_
          refine (sg_stI (hh := fun X1 => (HP I (fu A 102 X1) L F E)) ht_X8_tape rfl hp_o_102 (fun _ => hp_s_102)).trans ?_
          refine bind_cg fun X1 hX1 => ?_
          refine (sg_go ht_X8_tape (k := 4) (pc' := 55) (L' := [some (.ref 84), some (.int p1), some (.int p2), some (.int p3), none]) (st' := [.int p2, .int p1, .ref 103]) (h' := (HP I (fu A 102 X1) L F E)) rfl).trans ?_
          refine (sg_if ht_X8_tape rfl).trans ?_
          refine ite_congr rfl (fun _ => ?_) (fun _ => ?_)
          · refine (sg_go ht_X8_tape (k := 1) (pc' := 63) (L' := [some (.ref 84), some (.int p1), some (.int p2), some (.int p3), none]) (st' := [.int p3, .int p1, .ref 103]) (h' := (HP I (fu A 102 X1) L F E)) rfl).trans ?_
            refine (sg_stI (hh := fun X2 => (HP I (fu (fu A 102 X1) 103 X2) L F E)) ht_X8_tape rfl hp_o_103 (fun _ => hp_s_103)).trans ?_
            refine bind_cg fun X2 hX2 => ?_
            refine (sg_go ht_X8_tape (k := 2) (pc' := 67) (L' := [some (.ref 84), some (.int p1), some (.int p2), some (.int p3), some (.int 0)]) (st' := []) (h' := (HP I (fu (fu A 102 X1) 103 X2) L F E)) rfl).trans ?_
            rfl
          · refine (sg_go ht_X8_tape (k := 2) (pc' := 63) (L' := [some (.ref 84), some (.int p1), some (.int p2), some (.int p3), none]) (st' := [.int 0, .int p1, .ref 103]) (h' := (HP I (fu A 102 X1) L F E)) rfl).trans ?_
            refine (sg_stI (hh := fun X3 => (HP I (fu (fu A 102 X1) 103 X3) L F E)) ht_X8_tape rfl hp_o_103 (fun _ => hp_s_103)).trans ?_
            refine bind_cg fun X3 hX3 => ?_
            refine (sg_go ht_X8_tape (k := 2) (pc' := 67) (L' := [some (.ref 84), some (.int p1), some (.int p2), some (.int p3), some (.int 0)]) (st' := []) (h' := (HP I (fu (fu A 102 X1) 103 X3) L F E)) rfl).trans ?_
            rfl
        · refine (sg_go ht_X8_tape (k := 1) (pc' := 36) (L' := [some (.ref 84), some (.int p1), some (.int p2), some (.int p3), none]) (st' := [.int p3]) (h' := (HP I A L F E)) rfl).trans ?_
          refine (sg_if ht_X8_tape rfl).trans ?_
          refine ite_congr rfl (fun _ => ?_) (fun _ => ?_)
          · refine (sg_go ht_X8_tape (k := 4) (pc' := 48) (L' := [some (.ref 84), some (.int p1), some (.int p2), some (.int p3), none]) (st' := [.int p2, .int p1, .ref 102]) (h' := (HP I A L F E)) rfl).trans ?_
            refine (sg_stI (hh := fun X4 => (HP I (fu A 102 X4) L F E)) ht_X8_tape rfl hp_o_102 (fun _ => hp_s_102)).trans ?_
            refine bind_cg fun X4 hX4 => ?_
            refine (sg_go ht_X8_tape (k := 4) (pc' := 55) (L' := [some (.ref 84), some (.int p1), some (.int p2), some (.int p3), none]) (st' := [.int p2, .int p1, .ref 103]) (h' := (HP I (fu A 102 X4) L F E)) rfl).trans ?_
            refine (sg_if ht_X8_tape rfl).trans ?_
            refine ite_congr rfl (fun _ => ?_) (fun _ => ?_)
            · refine (sg_go ht_X8_tape (k := 1) (pc' := 63) (L' := [some (.ref 84), some (.int p1), some (.int p2), some (.int p3), none]) (st' := [.int p3, .int p1, .ref 103]) (h' := (HP I (fu A 102 X4) L F E)) rfl).trans ?_
              refine (sg_stI (hh := fun X5 => (HP I (fu (fu A 102 X4) 103 X5) L F E)) ht_X8_tape rfl hp_o_103 (fun _ => hp_s_103)).trans ?_
              refine bind_cg fun X5 hX5 => ?_
              refine (sg_go ht_X8_tape (k := 2) (pc' := 67) (L' := [some (.ref 84), some (.int p1), some (.int p2), some (.int p3), some (.int 0)]) (st' := []) (h' := (HP I (fu (fu A 102 X4) 103 X5) L F E)) rfl).trans ?_
              rfl
            · refine (sg_go ht_X8_tape (k := 2) (pc' := 63) (L' := [some (.ref 84), some (.int p1), some (.int p2), some (.int p3), none]) (st' := [.int 0, .int p1, .ref 103]) (h' := (HP I (fu A 102 X4) L F E)) rfl).trans ?_
              refine (sg_stI (hh := fun X6 => (HP I (fu (fu A 102 X4) 103 X6) L F E)) ht_X8_tape rfl hp_o_103 (fun _ => hp_s_103)).trans ?_
              refine bind_cg fun X6 hX6 => ?_
              refine (sg_go ht_X8_tape (k := 2) (pc' := 67) (L' := [some (.ref 84), some (.int p1), some (.int p2), some (.int p3), some (.int 0)]) (st' := []) (h' := (HP I (fu (fu A 102 X4) 103 X6) L F E)) rfl).trans ?_
              rfl
          · refine (sg_go ht_X8_tape (k := 1) (pc' := 41) (L' := [some (.ref 84), some (.int p1), some (.int p2), some (.int p3), none]) (st' := [.int (-14)]) (h' := (HP I A L F E)) rfl).trans ?_
            exact sg_ret ht_X8_tape rfl rfl
      · refine (sg_go ht_X8_tape (k := 2) (pc' := 25) (L' := [some (.ref 84), some (.int p1), some (.int p2), some (.int p3), none]) (st' := [.int 60, .int p3]) (h' := (HP I A L F E)) rfl).trans ?_
        refine (sg_cmp ht_X8_tape rfl).trans ?_
        refine ite_congr rfl (fun _ => ?_) (fun _ => ?_)
        · refine (sg_go ht_X8_tape (k := 1) (pc' := 32) (L' := [some (.ref 84), some (.int p1), some (.int p2), some (.int p3), none]) (st' := [.int p2]) (h' := (HP I A L F E)) rfl).trans ?_
          refine (sg_if ht_X8_tape rfl).trans ?_
          refine ite_congr rfl (fun _ => ?_) (fun _ => ?_)
          · refine (sg_go ht_X8_tape (k := 4) (pc' := 48) (L' := [some (.ref 84), some (.int p1), some (.int p2), some (.int p3), none]) (st' := [.int p2, .int p1, .ref 102]) (h' := (HP I A L F E)) rfl).trans ?_
            refine (sg_stI (hh := fun X7 => (HP I (fu A 102 X7) L F E)) ht_X8_tape rfl hp_o_102 (fun _ => hp_s_102)).trans ?_
            refine bind_cg fun X7 hX7 => ?_
            refine (sg_go ht_X8_tape (k := 4) (pc' := 55) (L' := [some (.ref 84), some (.int p1), some (.int p2), some (.int p3), none]) (st' := [.int p2, .int p1, .ref 103]) (h' := (HP I (fu A 102 X7) L F E)) rfl).trans ?_
            refine (sg_if ht_X8_tape rfl).trans ?_
            refine ite_congr rfl (fun _ => ?_) (fun _ => ?_)
            · refine (sg_go ht_X8_tape (k := 1) (pc' := 63) (L' := [some (.ref 84), some (.int p1), some (.int p2), some (.int p3), none]) (st' := [.int p3, .int p1, .ref 103]) (h' := (HP I (fu A 102 X7) L F E)) rfl).trans ?_
              refine (sg_stI (hh := fun X8 => (HP I (fu (fu A 102 X7) 103 X8) L F E)) ht_X8_tape rfl hp_o_103 (fun _ => hp_s_103)).trans ?_
              refine bind_cg fun X8 hX8 => ?_
              refine (sg_go ht_X8_tape (k := 2) (pc' := 67) (L' := [some (.ref 84), some (.int p1), some (.int p2), some (.int p3), some (.int 0)]) (st' := []) (h' := (HP I (fu (fu A 102 X7) 103 X8) L F E)) rfl).trans ?_
              rfl
            · refine (sg_go ht_X8_tape (k := 2) (pc' := 63) (L' := [some (.ref 84), some (.int p1), some (.int p2), some (.int p3), none]) (st' := [.int 0, .int p1, .ref 103]) (h' := (HP I (fu A 102 X7) L F E)) rfl).trans ?_
              refine (sg_stI (hh := fun X9 => (HP I (fu (fu A 102 X7) 103 X9) L F E)) ht_X8_tape rfl hp_o_103 (fun _ => hp_s_103)).trans ?_
              refine bind_cg fun X9 hX9 => ?_
              refine (sg_go ht_X8_tape (k := 2) (pc' := 67) (L' := [some (.ref 84), some (.int p1), some (.int p2), some (.int p3), some (.int 0)]) (st' := []) (h' := (HP I (fu (fu A 102 X7) 103 X9) L F E)) rfl).trans ?_
              rfl
          · refine (sg_go ht_X8_tape (k := 1) (pc' := 36) (L' := [some (.ref 84), some (.int p1), some (.int p2), some (.int p3), none]) (st' := [.int p3]) (h' := (HP I A L F E)) rfl).trans ?_
            refine (sg_if ht_X8_tape rfl).trans ?_
            refine ite_congr rfl (fun _ => ?_) (fun _ => ?_)
            · refine (sg_go ht_X8_tape (k := 4) (pc' := 48) (L' := [some (.ref 84), some (.int p1), some (.int p2), some (.int p3), none]) (st' := [.int p2, .int p1, .ref 102]) (h' := (HP I A L F E)) rfl).trans ?_
              refine (sg_stI (hh := fun X10 => (HP I (fu A 102 X10) L F E)) ht_X8_tape rfl hp_o_102 (fun _ => hp_s_102)).trans ?_
              refine bind_cg fun X10 hX10 => ?_
              refine (sg_go ht_X8_tape (k := 4) (pc' := 55) (L' := [some (.ref 84), some (.int p1), some (.int p2), some (.int p3), none]) (st' := [.int p2, .int p1, .ref 103]) (h' := (HP I (fu A 102 X10) L F E)) rfl).trans ?_
              refine (sg_if ht_X8_tape rfl).trans ?_
              refine ite_congr rfl (fun _ => ?_) (fun _ => ?_)
              · refine (sg_go ht_X8_tape (k := 1) (pc' := 63) (L' := [some (.ref 84), some (.int p1), some (.int p2), some (.int p3), none]) (st' := [.int p3, .int p1, .ref 103]) (h' := (HP I (fu A 102 X10) L F E)) rfl).trans ?_
                refine (sg_stI (hh := fun X11 => (HP I (fu (fu A 102 X10) 103 X11) L F E)) ht_X8_tape rfl hp_o_103 (fun _ => hp_s_103)).trans ?_
                refine bind_cg fun X11 hX11 => ?_
                refine (sg_go ht_X8_tape (k := 2) (pc' := 67) (L' := [some (.ref 84), some (.int p1), some (.int p2), some (.int p3), some (.int 0)]) (st' := []) (h' := (HP I (fu (fu A 102 X10) 103 X11) L F E)) rfl).trans ?_
                rfl
              · refine (sg_go ht_X8_tape (k := 2) (pc' := 63) (L' := [some (.ref 84), some (.int p1), some (.int p2), some (.int p3), none]) (st' := [.int 0, .int p1, .ref 103]) (h' := (HP I (fu A 102 X10) L F E)) rfl).trans ?_
                refine (sg_stI (hh := fun X12 => (HP I (fu (fu A 102 X10) 103 X12) L F E)) ht_X8_tape rfl hp_o_103 (fun _ => hp_s_103)).trans ?_
                refine bind_cg fun X12 hX12 => ?_
                refine (sg_go ht_X8_tape (k := 2) (pc' := 67) (L' := [some (.ref 84), some (.int p1), some (.int p2), some (.int p3), some (.int 0)]) (st' := []) (h' := (HP I (fu (fu A 102 X10) 103 X12) L F E)) rfl).trans ?_
                rfl
            · refine (sg_go ht_X8_tape (k := 1) (pc' := 41) (L' := [some (.ref 84), some (.int p1), some (.int p2), some (.int p3), none]) (st' := [.int (-14)]) (h' := (HP I A L F E)) rfl).trans ?_
              exact sg_ret ht_X8_tape rfl rfl
        · refine (sg_go ht_X8_tape (k := 1) (pc' := 30) (L' := [some (.ref 84), some (.int p1), some (.int p2), some (.int p3), none]) (st' := [.int (-2)]) (h' := (HP I A L F E)) rfl).trans ?_
          exact sg_ret ht_X8_tape rfl rfl
    · refine (sg_go ht_X8_tape (k := 1) (pc' := 30) (L' := [some (.ref 84), some (.int p1), some (.int p2), some (.int p3), none]) (st' := [.int (-2)]) (h' := (HP I A L F E)) rfl).trans ?_
      exact sg_ret ht_X8_tape rfl rfl
  · refine (sg_go ht_X8_tape (k := 1) (pc' := 8) (L' := [some (.ref 84), some (.int p1), some (.int p2), some (.int p3), none]) (st' := [.int (-1)]) (h' := (HP I A L F E)) rfl).trans ?_
    exact sg_ret ht_X8_tape rfl rfl
set_option maxRecDepth 20000 in
theorem sg_X8_tape_67 {I : Nat → Int32} {A : Nat → List Int32} {L : Nat → List Int64} {F : Nat → Int64} {E : MH} (v1 : Int32) (v2 : Int32) (v3 : Int32) (v4 : Int32) : mm_run G0 186 67 [some (.ref 84), some (.int v1), some (.int v2), some (.int v3), some (.int v4)] [] (HP I A L F E) = (if 60 ≤ v4 then some (some (.int 1), (HP I A L F E)) else ((stL (L 104) ((60 * v1) + v4) 0).bind fun X1 => mm_run G0 186 67 [some (.ref 84), some (.int v1), some (.int v2), some (.int v3), some (.int (v4 + 1))] [] (HP I A (fu L 104 X1) F E))) := by
  refine (sg_go ht_X8_tape (k := 2) (pc' := 71) (L' := [some (.ref 84), some (.int v1), some (.int v2), some (.int v3), some (.int v4)]) (st' := [.int 60, .int v4]) (h' := (HP I A L F E)) rfl).trans ?_
  refine (sg_cmp ht_X8_tape rfl).trans ?_
  refine ite_congr rfl (fun _ => ?_) (fun _ => ?_)
  · refine (sg_go ht_X8_tape (k := 1) (pc' := 94) (L' := [some (.ref 84), some (.int v1), some (.int v2), some (.int v3), some (.int v4)]) (st' := [.int 1]) (h' := (HP I A L F E)) rfl).trans ?_
    exact sg_ret ht_X8_tape rfl rfl
  · refine (sg_go ht_X8_tape (k := 8) (pc' := 86) (L' := [some (.ref 84), some (.int v1), some (.int v2), some (.int v3), some (.int v4)]) (st' := [.long 0, .int ((60 * v1) + v4), .ref 104]) (h' := (HP I A L F E)) rfl).trans ?_
    refine (sg_stL (hh := fun X1 => (HP I A (fu L 104 X1) F E)) ht_X8_tape rfl hp_o_104 (fun _ => hp_s_104)).trans ?_
    refine bind_cg fun X1 hX1 => ?_
    refine (sg_go ht_X8_tape (k := 2) (pc' := 67) (L' := [some (.ref 84), some (.int v1), some (.int v2), some (.int v3), some (.int (v4 + 1))]) (st' := []) (h' := (HP I A (fu L 104 X1) F E)) rfl).trans ?_
    rfl
set_option maxRecDepth 20000 in
theorem sg_X8_item_0 {I : Nat → Int32} {A : Nat → List Int32} {L : Nat → List Int64} {F : Nat → Int64} {E : MH} (p1 : Int32) (p2 : Int32) (p3 : Int64) : mm_call G0 188 [.ref 84, .int p1, .int p2, .long p3] (HP I A L F E) = (if ¬ p1 < 0 ∧ ¬ 5 < p1 then ((ldI (A 102) p1).bind fun x1 => (if 0 ≤ x1 then ((ldI (A 103) p1).bind fun x2 => (if ¬ p2 < 0 ∧ ¬ (x2 - 1) < p2 then ((ldI (A 102) p1).bind fun x3 => (if x3 = 0 then ((stL (L 104) ((60 * p1) + p2) ((p3).toInt32.toInt8.toInt32).toInt64).bind fun X4 => some (some (.int 1), (HP I A (fu L 104 X4) F E))) else (if x3 = 1 then ((stL (L 104) ((60 * p1) + p2) ((p3).toInt32.toInt16.toInt32).toInt64).bind fun X5 => some (some (.int 1), (HP I A (fu L 104 X5) F E))) else (if x3 = 2 then ((stL (L 104) ((60 * p1) + p2) ((p3).toInt32).toInt64).bind fun X6 => some (some (.int 1), (HP I A (fu L 104 X6) F E))) else (if x3 = 3 then ((stL (L 104) ((60 * p1) + p2) p3).bind fun X7 => some (some (.int 1), (HP I A (fu L 104 X7) F E))) else (if (lg_cmp p3 (0)) = 0 then ((stL (L 104) ((60 * p1) + p2) 0).bind fun X8 => some (some (.int 1), (HP I A (fu L 104 X8) F E))) else ((stL (L 104) ((60 * p1) + p2) 1).bind fun X9 => some (some (.int 1), (HP I A (fu L 104 X9) F E))))))))) else some (some (.int (-13)), (HP I A L F E)))) else some (some (.int (-11)), (HP I A L F E)))) else some (some (.int (-1)), (HP I A L F E))) := by
  show mm_run G0 188 0 [some (.ref 84), some (.int p1), some (.int p2), some (.long p3), none] [] (HP I A L F E) = _
  refine (sg_go ht_X8_item (k := 1) (pc' := 1) (L' := [some (.ref 84), some (.int p1), some (.int p2), some (.long p3), none]) (st' := [.int p1]) (h' := (HP I A L F E)) rfl).trans ?_
  refine (sg_call ht_X8_item (mj := 180) (as := [.int p1]) (rest := []) rfl rfl ⟨by decide, Nat.le_of_ble_eq_true rfl⟩).trans ?_
  refine (bind_eq (sp_X8_isTape p1)).trans ?_
  show mm_run G0 188 4 [some (.ref 84), some (.int p1), some (.int p2), some (.long p3), none] [.int (bi (decide (¬ p1 < 0 ∧ ¬ 5 < p1)))] (HP I A L F E) = _
  refine (sg_bn ht_X8_item rfl).trans ?_
  refine ite_congr rfl (fun _ => ?_) (fun _ => ?_)
  · refine (sg_go ht_X8_item (k := 3) (pc' := 14) (L' := [some (.ref 84), some (.int p1), some (.int p2), some (.long p3), none]) (st' := [.int p1, .ref 102]) (h' := (HP I A L F E)) rfl).trans ?_
    refine (sg_ldI ht_X8_item rfl hp_o_102).trans ?_
    refine bind_cg fun x1 hx1 => ?_
    refine (sg_if ht_X8_item rfl).trans ?_
    refine ite_congr rfl (fun _ => ?_) (fun _ => ?_)
    · refine (sg_go ht_X8_item (k := 5) (pc' := 28) (L' := [some (.ref 84), some (.int p1), some (.int p2), some (.long p3), none]) (st' := [.int p1, .ref 103, .int 0, .int p2]) (h' := (HP I A L F E)) rfl).trans ?_
      refine (sg_ldI ht_X8_item rfl hp_o_103).trans ?_
      refine bind_cg fun x2 hx2 => ?_
      refine (sg_go ht_X8_item (k := 2) (pc' := 31) (L' := [some (.ref 84), some (.int p1), some (.int p2), some (.long p3), none]) (st' := [.int (x2 - 1), .int 0, .int p2]) (h' := (HP I A L F E)) rfl).trans ?_
      refine (sg_call ht_X8_item (mj := 113) (as := [.int p2, .int 0, .int (x2 - 1)]) (rest := []) rfl rfl ⟨by decide, Nat.le_of_ble_eq_true rfl⟩).trans ?_
      refine (bind_eq (sp_X8_isIn p2 0 (x2 - 1))).trans ?_
      show mm_run G0 188 34 [some (.ref 84), some (.int p1), some (.int p2), some (.long p3), none] [.int (bi (decide (¬ p2 < 0 ∧ ¬ (x2 - 1) < p2)))] (HP I A L F E) = _
      refine (sg_bn ht_X8_item rfl).trans ?_
      refine ite_congr rfl (fun _ => ?_) (fun _ => ?_)
      · refine (sg_go ht_X8_item (k := 10) (pc' := 55) (L' := [some (.ref 84), some (.int p1), some (.int p2), some (.long p3), none]) (st' := [.int p1, .ref 102, .int ((60 * p1) + p2), .ref 104]) (h' := (HP I A L F E)) rfl).trans ?_
        refine (sg_ldI ht_X8_item rfl hp_o_102).trans ?_
        refine bind_cg fun x3 hx3 => ?_
        refine (sg_go ht_X8_item (k := 1) (pc' := 57) (L' := [some (.ref 84), some (.int p1), some (.int p2), some (.long p3), none]) (st' := [.long p3, .int x3, .int ((60 * p1) + p2), .ref 104]) (h' := (HP I A L F E)) rfl).trans ?_
        refine (sg_call ht_X8_item (mj := 187) (as := [.int x3, .long p3]) (rest := [.int ((60 * p1) + p2), .ref 104]) rfl rfl ⟨by decide, Nat.le_of_ble_eq_true rfl⟩).trans ?_
        refine (bind_eq (sg_X8_lowest_0 x3 p3)).trans ?_
        refine ite_bd.trans ?_
        refine ite_congr rfl (fun _ => ?_) (fun _ => ?_)
        · show mm_run G0 188 60 [some (.ref 84), some (.int p1), some (.int p2), some (.long p3), none] [.long ((p3).toInt32.toInt8.toInt32).toInt64, .int ((60 * p1) + p2), .ref 104] (HP I A L F E) = _
          refine (sg_stL (hh := fun X4 => (HP I A (fu L 104 X4) F E)) ht_X8_item rfl hp_o_104 (fun _ => hp_s_104)).trans ?_
          refine bind_cg fun X4 hX4 => ?_
          refine (sg_go ht_X8_item (k := 1) (pc' := 62) (L' := [some (.ref 84), some (.int p1), some (.int p2), some (.long p3), none]) (st' := [.int 1]) (h' := (HP I A (fu L 104 X4) F E)) rfl).trans ?_
          exact sg_ret ht_X8_item rfl rfl
        · refine ite_bd.trans ?_
          refine ite_congr rfl (fun _ => ?_) (fun _ => ?_)
          · show mm_run G0 188 60 [some (.ref 84), some (.int p1), some (.int p2), some (.long p3), none] [.long ((p3).toInt32.toInt16.toInt32).toInt64, .int ((60 * p1) + p2), .ref 104] (HP I A L F E) = _
            refine (sg_stL (hh := fun X5 => (HP I A (fu L 104 X5) F E)) ht_X8_item rfl hp_o_104 (fun _ => hp_s_104)).trans ?_
            refine bind_cg fun X5 hX5 => ?_
            refine (sg_go ht_X8_item (k := 1) (pc' := 62) (L' := [some (.ref 84), some (.int p1), some (.int p2), some (.long p3), none]) (st' := [.int 1]) (h' := (HP I A (fu L 104 X5) F E)) rfl).trans ?_
            exact sg_ret ht_X8_item rfl rfl
          · refine ite_bd.trans ?_
            refine ite_congr rfl (fun _ => ?_) (fun _ => ?_)
            · show mm_run G0 188 60 [some (.ref 84), some (.int p1), some (.int p2), some (.long p3), none] [.long ((p3).toInt32).toInt64, .int ((60 * p1) + p2), .ref 104] (HP I A L F E) = _
              refine (sg_stL (hh := fun X6 => (HP I A (fu L 104 X6) F E)) ht_X8_item rfl hp_o_104 (fun _ => hp_s_104)).trans ?_
              refine bind_cg fun X6 hX6 => ?_
              refine (sg_go ht_X8_item (k := 1) (pc' := 62) (L' := [some (.ref 84), some (.int p1), some (.int p2), some (.long p3), none]) (st' := [.int 1]) (h' := (HP I A (fu L 104 X6) F E)) rfl).trans ?_
              exact sg_ret ht_X8_item rfl rfl
            · refine ite_bd.trans ?_
              refine ite_congr rfl (fun _ => ?_) (fun _ => ?_)
              · show mm_run G0 188 60 [some (.ref 84), some (.int p1), some (.int p2), some (.long p3), none] [.long p3, .int ((60 * p1) + p2), .ref 104] (HP I A L F E) = _
                refine (sg_stL (hh := fun X7 => (HP I A (fu L 104 X7) F E)) ht_X8_item rfl hp_o_104 (fun _ => hp_s_104)).trans ?_
                refine bind_cg fun X7 hX7 => ?_
                refine (sg_go ht_X8_item (k := 1) (pc' := 62) (L' := [some (.ref 84), some (.int p1), some (.int p2), some (.long p3), none]) (st' := [.int 1]) (h' := (HP I A (fu L 104 X7) F E)) rfl).trans ?_
                exact sg_ret ht_X8_item rfl rfl
              · refine ite_bd.trans ?_
                refine ite_congr rfl (fun _ => ?_) (fun _ => ?_)
                · show mm_run G0 188 60 [some (.ref 84), some (.int p1), some (.int p2), some (.long p3), none] [.long 0, .int ((60 * p1) + p2), .ref 104] (HP I A L F E) = _
                  refine (sg_stL (hh := fun X8 => (HP I A (fu L 104 X8) F E)) ht_X8_item rfl hp_o_104 (fun _ => hp_s_104)).trans ?_
                  refine bind_cg fun X8 hX8 => ?_
                  refine (sg_go ht_X8_item (k := 1) (pc' := 62) (L' := [some (.ref 84), some (.int p1), some (.int p2), some (.long p3), none]) (st' := [.int 1]) (h' := (HP I A (fu L 104 X8) F E)) rfl).trans ?_
                  exact sg_ret ht_X8_item rfl rfl
                · show mm_run G0 188 60 [some (.ref 84), some (.int p1), some (.int p2), some (.long p3), none] [.long 1, .int ((60 * p1) + p2), .ref 104] (HP I A L F E) = _
                  refine (sg_stL (hh := fun X9 => (HP I A (fu L 104 X9) F E)) ht_X8_item rfl hp_o_104 (fun _ => hp_s_104)).trans ?_
                  refine bind_cg fun X9 hX9 => ?_
                  refine (sg_go ht_X8_item (k := 1) (pc' := 62) (L' := [some (.ref 84), some (.int p1), some (.int p2), some (.long p3), none]) (st' := [.int 1]) (h' := (HP I A (fu L 104 X9) F E)) rfl).trans ?_
                  exact sg_ret ht_X8_item rfl rfl
      · refine (sg_go ht_X8_item (k := 1) (pc' := 39) (L' := [some (.ref 84), some (.int p1), some (.int p2), some (.long p3), none]) (st' := [.int (-13)]) (h' := (HP I A L F E)) rfl).trans ?_
        exact sg_ret ht_X8_item rfl rfl
    · refine (sg_go ht_X8_item (k := 1) (pc' := 20) (L' := [some (.ref 84), some (.int p1), some (.int p2), some (.long p3), none]) (st' := [.int (-11)]) (h' := (HP I A L F E)) rfl).trans ?_
      exact sg_ret ht_X8_item rfl rfl
  · refine (sg_go ht_X8_item (k := 1) (pc' := 8) (L' := [some (.ref 84), some (.int p1), some (.int p2), some (.long p3), none]) (st' := [.int (-1)]) (h' := (HP I A L F E)) rfl).trans ?_
    exact sg_ret ht_X8_item rfl rfl
set_option maxRecDepth 20000 in
theorem sg_X8_peek_0 {I : Nat → Int32} {A : Nat → List Int32} {L : Nat → List Int64} {F : Nat → Int64} {E : MH} (p1 : Int32) (p2 : Int32) : mm_call G0 189 [.ref 84, .int p1, .int p2] (HP I A L F E) = (if ¬ p1 < 0 ∧ ¬ 5 < p1 then ((ldI (A 103) p1).bind fun x1 => (if ¬ p2 < 0 ∧ ¬ (x1 - 1) < p2 then ((ldL (L 104) ((60 * p1) + p2)).bind fun x2 => some (some (.long x2), (HP I A L F E))) else some (some (.long (-9223372036854775808)), (HP I A L F E)))) else some (some (.long (-9223372036854775808)), (HP I A L F E))) := by
  show mm_run G0 189 0 [some (.ref 84), some (.int p1), some (.int p2)] [] (HP I A L F E) = _
  refine (sg_go ht_X8_peek (k := 1) (pc' := 1) (L' := [some (.ref 84), some (.int p1), some (.int p2)]) (st' := [.int p1]) (h' := (HP I A L F E)) rfl).trans ?_
  refine (sg_call ht_X8_peek (mj := 180) (as := [.int p1]) (rest := []) rfl rfl ⟨by decide, Nat.le_of_ble_eq_true rfl⟩).trans ?_
  refine (bind_eq (sp_X8_isTape p1)).trans ?_
  show mm_run G0 189 4 [some (.ref 84), some (.int p1), some (.int p2)] [.int (bi (decide (¬ p1 < 0 ∧ ¬ 5 < p1)))] (HP I A L F E) = _
  refine (sg_be ht_X8_peek rfl).trans ?_
  refine ite_congr rfl (fun _ => ?_) (fun _ => ?_)
  · refine (sg_go ht_X8_peek (k := 5) (pc' := 14) (L' := [some (.ref 84), some (.int p1), some (.int p2)]) (st' := [.int p1, .ref 103, .int 0, .int p2]) (h' := (HP I A L F E)) rfl).trans ?_
    refine (sg_ldI ht_X8_peek rfl hp_o_103).trans ?_
    refine bind_cg fun x1 hx1 => ?_
    refine (sg_go ht_X8_peek (k := 2) (pc' := 17) (L' := [some (.ref 84), some (.int p1), some (.int p2)]) (st' := [.int (x1 - 1), .int 0, .int p2]) (h' := (HP I A L F E)) rfl).trans ?_
    refine (sg_call ht_X8_peek (mj := 113) (as := [.int p2, .int 0, .int (x1 - 1)]) (rest := []) rfl rfl ⟨by decide, Nat.le_of_ble_eq_true rfl⟩).trans ?_
    refine (bind_eq (sp_X8_isIn p2 0 (x1 - 1))).trans ?_
    show mm_run G0 189 20 [some (.ref 84), some (.int p1), some (.int p2)] [.int (bi (decide (¬ p2 < 0 ∧ ¬ (x1 - 1) < p2)))] (HP I A L F E) = _
    refine (sg_be ht_X8_peek rfl).trans ?_
    refine ite_congr rfl (fun _ => ?_) (fun _ => ?_)
    · refine (sg_go ht_X8_peek (k := 7) (pc' := 33) (L' := [some (.ref 84), some (.int p1), some (.int p2)]) (st' := [.int ((60 * p1) + p2), .ref 104]) (h' := (HP I A L F E)) rfl).trans ?_
      refine (sg_ldL ht_X8_peek rfl hp_o_104).trans ?_
      refine bind_cg fun x2 hx2 => ?_
      refine (sg_go ht_X8_peek (k := 1) (pc' := 40) (L' := [some (.ref 84), some (.int p1), some (.int p2)]) (st' := [.long x2]) (h' := (HP I A L F E)) rfl).trans ?_
      exact sg_ret ht_X8_peek rfl rfl
    · refine (sg_go ht_X8_peek (k := 1) (pc' := 40) (L' := [some (.ref 84), some (.int p1), some (.int p2)]) (st' := [.long (-9223372036854775808)]) (h' := (HP I A L F E)) rfl).trans ?_
      exact sg_ret ht_X8_peek rfl rfl
  · refine (sg_go ht_X8_peek (k := 1) (pc' := 40) (L' := [some (.ref 84), some (.int p1), some (.int p2)]) (st' := [.long (-9223372036854775808)]) (h' := (HP I A L F E)) rfl).trans ?_
    exact sg_ret ht_X8_peek rfl rfl
set_option maxRecDepth 20000 in
theorem sg_X8_shift_0 {I : Nat → Int32} {A : Nat → List Int32} {L : Nat → List Int64} {F : Nat → Int64} {E : MH} (p1 : Int32) (p2 : Int32) (p3 : Int32) (p4 : Int32) (p5 : Int32) : mm_call G0 190 [.ref 84, .int p1, .int p2, .int p3, .int p4, .int p5] (HP I A L F E) = (if ¬ p1 < 0 ∧ ¬ 5 < p1 then (if ¬ p3 < 0 ∧ ¬ 5 < p3 then ((ldI (A 102) p1).bind fun x1 => (if x1 < 0 then some (some (.int (-11)), (HP I A L F E)) else ((ldI (A 102) p3).bind fun x2 => (if 0 ≤ x2 then ((ldI (A 102) p1).bind fun x3 => ((ldI (A 102) p3).bind fun x4 => (if x3 = x4 then (if p5 < 0 then some (some (.int (-13)), (HP I A L F E)) else (if p2 < 0 then some (some (.int (-13)), (HP I A L F E)) else (if p4 < 0 then some (some (.int (-13)), (HP I A L F E)) else ((ldI (A 103) p1).bind fun x5 => (if (x5 - p5) < p2 then some (some (.int (-13)), (HP I A L F E)) else ((ldI (A 103) p3).bind fun x6 => (if p4 ≤ (x6 - p5) then mm_run G0 190 119 [some (.ref 84), some (.int p1), some (.int p2), some (.int p3), some (.int p4), some (.int p5), some (.int ((60 * p1) + p2)), some (.int ((60 * p3) + p4)), some (.int 0), none] [] (HP I A L F E) else some (some (.int (-13)), (HP I A L F E))))))))) else some (some (.int (-12)), (HP I A L F E))))) else some (some (.int (-11)), (HP I A L F E)))))) else some (some (.int (-1)), (HP I A L F E))) else some (some (.int (-1)), (HP I A L F E))) := by
  show mm_run G0 190 0 [some (.ref 84), some (.int p1), some (.int p2), some (.int p3), some (.int p4), some (.int p5), none, none, none, none] [] (HP I A L F E) = _
  refine (sg_go ht_X8_shift (k := 1) (pc' := 1) (L' := [some (.ref 84), some (.int p1), some (.int p2), some (.int p3), some (.int p4), some (.int p5), none, none, none, none]) (st' := [.int p1]) (h' := (HP I A L F E)) rfl).trans ?_
  refine (sg_call ht_X8_shift (mj := 180) (as := [.int p1]) (rest := []) rfl rfl ⟨by decide, Nat.le_of_ble_eq_true rfl⟩).trans ?_
  refine (bind_eq (sp_X8_isTape p1)).trans ?_
  show mm_run G0 190 4 [some (.ref 84), some (.int p1), some (.int p2), some (.int p3), some (.int p4), some (.int p5), none, none, none, none] [.int (bi (decide (¬ p1 < 0 ∧ ¬ 5 < p1)))] (HP I A L F E) = _
  refine (sg_be ht_X8_shift rfl).trans ?_
  refine ite_congr rfl (fun _ => ?_) (fun _ => ?_)
  · refine (sg_go ht_X8_shift (k := 1) (pc' := 8) (L' := [some (.ref 84), some (.int p1), some (.int p2), some (.int p3), some (.int p4), some (.int p5), none, none, none, none]) (st' := [.int p3]) (h' := (HP I A L F E)) rfl).trans ?_
    refine (sg_call ht_X8_shift (mj := 180) (as := [.int p3]) (rest := []) rfl rfl ⟨by decide, Nat.le_of_ble_eq_true rfl⟩).trans ?_
    refine (bind_eq (sp_X8_isTape p3)).trans ?_
    show mm_run G0 190 11 [some (.ref 84), some (.int p1), some (.int p2), some (.int p3), some (.int p4), some (.int p5), none, none, none, none] [.int (bi (decide (¬ p3 < 0 ∧ ¬ 5 < p3)))] (HP I A L F E) = _
    refine (sg_bn ht_X8_shift rfl).trans ?_
    refine ite_congr rfl (fun _ => ?_) (fun _ => ?_)
    · refine (sg_go ht_X8_shift (k := 3) (pc' := 21) (L' := [some (.ref 84), some (.int p1), some (.int p2), some (.int p3), some (.int p4), some (.int p5), none, none, none, none]) (st' := [.int p1, .ref 102]) (h' := (HP I A L F E)) rfl).trans ?_
      refine (sg_ldI ht_X8_shift rfl hp_o_102).trans ?_
      refine bind_cg fun x1 hx1 => ?_
      refine (sg_if ht_X8_shift rfl).trans ?_
      refine ite_congr rfl (fun _ => ?_) (fun _ => ?_)
      · refine (sg_go ht_X8_shift (k := 1) (pc' := 36) (L' := [some (.ref 84), some (.int p1), some (.int p2), some (.int p3), some (.int p4), some (.int p5), none, none, none, none]) (st' := [.int (-11)]) (h' := (HP I A L F E)) rfl).trans ?_
        exact sg_ret ht_X8_shift rfl rfl
      · refine (sg_go ht_X8_shift (k := 3) (pc' := 30) (L' := [some (.ref 84), some (.int p1), some (.int p2), some (.int p3), some (.int p4), some (.int p5), none, none, none, none]) (st' := [.int p3, .ref 102]) (h' := (HP I A L F E)) rfl).trans ?_
        refine (sg_ldI ht_X8_shift rfl hp_o_102).trans ?_
        refine bind_cg fun x2 hx2 => ?_
        refine (sg_if ht_X8_shift rfl).trans ?_
        refine ite_congr rfl (fun _ => ?_) (fun _ => ?_)
        · refine (sg_go ht_X8_shift (k := 3) (pc' := 42) (L' := [some (.ref 84), some (.int p1), some (.int p2), some (.int p3), some (.int p4), some (.int p5), none, none, none, none]) (st' := [.int p1, .ref 102]) (h' := (HP I A L F E)) rfl).trans ?_
          refine (sg_ldI ht_X8_shift rfl hp_o_102).trans ?_
          refine bind_cg fun x3 hx3 => ?_
          refine (sg_go ht_X8_shift (k := 3) (pc' := 48) (L' := [some (.ref 84), some (.int p1), some (.int p2), some (.int p3), some (.int p4), some (.int p5), none, none, none, none]) (st' := [.int p3, .ref 102, .int x3]) (h' := (HP I A L F E)) rfl).trans ?_
          refine (sg_ldI ht_X8_shift rfl hp_o_102).trans ?_
          refine bind_cg fun x4 hx4 => ?_
          refine (sg_cmp ht_X8_shift rfl).trans ?_
          refine ite_congr rfl (fun _ => ?_) (fun _ => ?_)
          · refine (sg_go ht_X8_shift (k := 1) (pc' := 57) (L' := [some (.ref 84), some (.int p1), some (.int p2), some (.int p3), some (.int p4), some (.int p5), none, none, none, none]) (st' := [.int p5]) (h' := (HP I A L F E)) rfl).trans ?_
            refine (sg_if ht_X8_shift rfl).trans ?_
            refine ite_congr rfl (fun _ => ?_) (fun _ => ?_)
            · refine (sg_go ht_X8_shift (k := 1) (pc' := 98) (L' := [some (.ref 84), some (.int p1), some (.int p2), some (.int p3), some (.int p4), some (.int p5), none, none, none, none]) (st' := [.int (-13)]) (h' := (HP I A L F E)) rfl).trans ?_
              exact sg_ret ht_X8_shift rfl rfl
            · refine (sg_go ht_X8_shift (k := 1) (pc' := 61) (L' := [some (.ref 84), some (.int p1), some (.int p2), some (.int p3), some (.int p4), some (.int p5), none, none, none, none]) (st' := [.int p2]) (h' := (HP I A L F E)) rfl).trans ?_
              refine (sg_if ht_X8_shift rfl).trans ?_
              refine ite_congr rfl (fun _ => ?_) (fun _ => ?_)
              · refine (sg_go ht_X8_shift (k := 1) (pc' := 98) (L' := [some (.ref 84), some (.int p1), some (.int p2), some (.int p3), some (.int p4), some (.int p5), none, none, none, none]) (st' := [.int (-13)]) (h' := (HP I A L F E)) rfl).trans ?_
                exact sg_ret ht_X8_shift rfl rfl
              · refine (sg_go ht_X8_shift (k := 1) (pc' := 66) (L' := [some (.ref 84), some (.int p1), some (.int p2), some (.int p3), some (.int p4), some (.int p5), none, none, none, none]) (st' := [.int p4]) (h' := (HP I A L F E)) rfl).trans ?_
                refine (sg_if ht_X8_shift rfl).trans ?_
                refine ite_congr rfl (fun _ => ?_) (fun _ => ?_)
                · refine (sg_go ht_X8_shift (k := 1) (pc' := 98) (L' := [some (.ref 84), some (.int p1), some (.int p2), some (.int p3), some (.int p4), some (.int p5), none, none, none, none]) (st' := [.int (-13)]) (h' := (HP I A L F E)) rfl).trans ?_
                  exact sg_ret ht_X8_shift rfl rfl
                · refine (sg_go ht_X8_shift (k := 4) (pc' := 75) (L' := [some (.ref 84), some (.int p1), some (.int p2), some (.int p3), some (.int p4), some (.int p5), none, none, none, none]) (st' := [.int p1, .ref 103, .int p2]) (h' := (HP I A L F E)) rfl).trans ?_
                  refine (sg_ldI ht_X8_shift rfl hp_o_103).trans ?_
                  refine bind_cg fun x5 hx5 => ?_
                  refine (sg_go ht_X8_shift (k := 2) (pc' := 79) (L' := [some (.ref 84), some (.int p1), some (.int p2), some (.int p3), some (.int p4), some (.int p5), none, none, none, none]) (st' := [.int (x5 - p5), .int p2]) (h' := (HP I A L F E)) rfl).trans ?_
                  refine (sg_cmp ht_X8_shift rfl).trans ?_
                  refine ite_congr rfl (fun _ => ?_) (fun _ => ?_)
                  · refine (sg_go ht_X8_shift (k := 1) (pc' := 98) (L' := [some (.ref 84), some (.int p1), some (.int p2), some (.int p3), some (.int p4), some (.int p5), none, none, none, none]) (st' := [.int (-13)]) (h' := (HP I A L F E)) rfl).trans ?_
                    exact sg_ret ht_X8_shift rfl rfl
                  · refine (sg_go ht_X8_shift (k := 4) (pc' := 89) (L' := [some (.ref 84), some (.int p1), some (.int p2), some (.int p3), some (.int p4), some (.int p5), none, none, none, none]) (st' := [.int p3, .ref 103, .int p4]) (h' := (HP I A L F E)) rfl).trans ?_
                    refine (sg_ldI ht_X8_shift rfl hp_o_103).trans ?_
                    refine bind_cg fun x6 hx6 => ?_
                    refine (sg_go ht_X8_shift (k := 2) (pc' := 93) (L' := [some (.ref 84), some (.int p1), some (.int p2), some (.int p3), some (.int p4), some (.int p5), none, none, none, none]) (st' := [.int (x6 - p5), .int p4]) (h' := (HP I A L F E)) rfl).trans ?_
                    refine (sg_cmp ht_X8_shift rfl).trans ?_
                    refine ite_congr rfl (fun _ => ?_) (fun _ => ?_)
                    · refine (sg_go ht_X8_shift (k := 10) (pc' := 113) (L' := [some (.ref 84), some (.int p1), some (.int p2), some (.int p3), some (.int p4), some (.int p5), some (.int ((60 * p1) + p2)), none, none, none]) (st' := [.int p4, .int (60 * p3)]) (h' := (HP I A L F E)) rfl).trans ?_
                      refine (sg_go ht_X8_shift (k := 4) (pc' := 119) (L' := [some (.ref 84), some (.int p1), some (.int p2), some (.int p3), some (.int p4), some (.int p5), some (.int ((60 * p1) + p2)), some (.int ((60 * p3) + p4)), some (.int 0), none]) (st' := []) (h' := (HP I A L F E)) rfl).trans ?_
                      rfl
                    · refine (sg_go ht_X8_shift (k := 1) (pc' := 98) (L' := [some (.ref 84), some (.int p1), some (.int p2), some (.int p3), some (.int p4), some (.int p5), none, none, none, none]) (st' := [.int (-13)]) (h' := (HP I A L F E)) rfl).trans ?_
                      exact sg_ret ht_X8_shift rfl rfl
          · refine (sg_go ht_X8_shift (k := 1) (pc' := 54) (L' := [some (.ref 84), some (.int p1), some (.int p2), some (.int p3), some (.int p4), some (.int p5), none, none, none, none]) (st' := [.int (-12)]) (h' := (HP I A L F E)) rfl).trans ?_
            exact sg_ret ht_X8_shift rfl rfl
        · refine (sg_go ht_X8_shift (k := 1) (pc' := 36) (L' := [some (.ref 84), some (.int p1), some (.int p2), some (.int p3), some (.int p4), some (.int p5), none, none, none, none]) (st' := [.int (-11)]) (h' := (HP I A L F E)) rfl).trans ?_
          exact sg_ret ht_X8_shift rfl rfl
    · refine (sg_go ht_X8_shift (k := 1) (pc' := 15) (L' := [some (.ref 84), some (.int p1), some (.int p2), some (.int p3), some (.int p4), some (.int p5), none, none, none, none]) (st' := [.int (-1)]) (h' := (HP I A L F E)) rfl).trans ?_
      exact sg_ret ht_X8_shift rfl rfl
  · refine (sg_go ht_X8_shift (k := 1) (pc' := 15) (L' := [some (.ref 84), some (.int p1), some (.int p2), some (.int p3), some (.int p4), some (.int p5), none, none, none, none]) (st' := [.int (-1)]) (h' := (HP I A L F E)) rfl).trans ?_
    exact sg_ret ht_X8_shift rfl rfl
set_option maxRecDepth 20000 in
theorem sg_X8_shift_119_v0 {I : Nat → Int32} {A : Nat → List Int32} {L : Nat → List Int64} {F : Nat → Int64} {E : MH} (v1 : Int32) (v2 : Int32) (v3 : Int32) (v4 : Int32) (v5 : Int32) (v6 : Int32) (v7 : Int32) (v8 : Int32) : mm_run G0 190 119 [some (.ref 84), some (.int v1), some (.int v2), some (.int v3), some (.int v4), some (.int v5), some (.int v6), some (.int v7), some (.int v8), none] [] (HP I A L F E) = (if v5 ≤ v8 then some (some (.int v5), (HP I A L F E)) else (if v7 ≤ v6 then ((ldL (L 104) (v6 + v8)).bind fun x1 => ((stL (L 104) (v7 + v8) x1).bind fun X2 => mm_run G0 190 119 [some (.ref 84), some (.int v1), some (.int v2), some (.int v3), some (.int v4), some (.int v5), some (.int v6), some (.int v7), some (.int (v8 + 1)), some (.int v8)] [] (HP I A (fu L 104 X2) F E))) else ((ldL (L 104) (v6 + ((v5 - 1) - v8))).bind fun x3 => ((stL (L 104) (v7 + ((v5 - 1) - v8)) x3).bind fun X4 => mm_run G0 190 119 [some (.ref 84), some (.int v1), some (.int v2), some (.int v3), some (.int v4), some (.int v5), some (.int v6), some (.int v7), some (.int (v8 + 1)), some (.int ((v5 - 1) - v8))] [] (HP I A (fu L 104 X4) F E))))) := by
  refine (sg_go ht_X8_shift (k := 2) (pc' := 123) (L' := [some (.ref 84), some (.int v1), some (.int v2), some (.int v3), some (.int v4), some (.int v5), some (.int v6), some (.int v7), some (.int v8), none]) (st' := [.int v5, .int v8]) (h' := (HP I A L F E)) rfl).trans ?_
  refine (sg_cmp ht_X8_shift rfl).trans ?_
  refine ite_congr rfl (fun _ => ?_) (fun _ => ?_)
  · refine (sg_go ht_X8_shift (k := 1) (pc' := 175) (L' := [some (.ref 84), some (.int v1), some (.int v2), some (.int v3), some (.int v4), some (.int v5), some (.int v6), some (.int v7), some (.int v8), none]) (st' := [.int v5]) (h' := (HP I A L F E)) rfl).trans ?_
    exact sg_ret ht_X8_shift rfl rfl
  · refine (sg_go ht_X8_shift (k := 2) (pc' := 130) (L' := [some (.ref 84), some (.int v1), some (.int v2), some (.int v3), some (.int v4), some (.int v5), some (.int v6), some (.int v7), some (.int v8), none]) (st' := [.int v7, .int v6]) (h' := (HP I A L F E)) rfl).trans ?_
    refine (sg_cmp ht_X8_shift rfl).trans ?_
    refine ite_congr rfl (fun _ => ?_) (fun _ => ?_)
    · refine (sg_go ht_X8_shift (k := 10) (pc' := 162) (L' := [some (.ref 84), some (.int v1), some (.int v2), some (.int v3), some (.int v4), some (.int v5), some (.int v6), some (.int v7), some (.int v8), some (.int v8)]) (st' := [.int v6, .ref 104, .int (v7 + v8), .ref 104]) (h' := (HP I A L F E)) rfl).trans ?_
      refine (sg_go ht_X8_shift (k := 2) (pc' := 165) (L' := [some (.ref 84), some (.int v1), some (.int v2), some (.int v3), some (.int v4), some (.int v5), some (.int v6), some (.int v7), some (.int v8), some (.int v8)]) (st' := [.int (v6 + v8), .ref 104, .int (v7 + v8), .ref 104]) (h' := (HP I A L F E)) rfl).trans ?_
      refine (sg_ldL ht_X8_shift rfl hp_o_104).trans ?_
      refine bind_cg fun x1 hx1 => ?_
      refine (sg_stL (hh := fun X2 => (HP I A (fu L 104 X2) F E)) ht_X8_shift rfl hp_o_104 (fun _ => hp_s_104)).trans ?_
      refine bind_cg fun X2 hX2 => ?_
      refine (sg_go ht_X8_shift (k := 2) (pc' := 119) (L' := [some (.ref 84), some (.int v1), some (.int v2), some (.int v3), some (.int v4), some (.int v5), some (.int v6), some (.int v7), some (.int (v8 + 1)), some (.int v8)]) (st' := []) (h' := (HP I A (fu L 104 X2) F E)) rfl).trans ?_
      rfl
    · refine (sg_go ht_X8_shift (k := 10) (pc' := 153) (L' := [some (.ref 84), some (.int v1), some (.int v2), some (.int v3), some (.int v4), some (.int v5), some (.int v6), some (.int v7), some (.int v8), some (.int ((v5 - 1) - v8))]) (st' := [.int v7, .ref 104]) (h' := (HP I A L F E)) rfl).trans ?_
      refine (sg_go ht_X8_shift (k := 7) (pc' := 165) (L' := [some (.ref 84), some (.int v1), some (.int v2), some (.int v3), some (.int v4), some (.int v5), some (.int v6), some (.int v7), some (.int v8), some (.int ((v5 - 1) - v8))]) (st' := [.int (v6 + ((v5 - 1) - v8)), .ref 104, .int (v7 + ((v5 - 1) - v8)), .ref 104]) (h' := (HP I A L F E)) rfl).trans ?_
      refine (sg_ldL ht_X8_shift rfl hp_o_104).trans ?_
      refine bind_cg fun x3 hx3 => ?_
      refine (sg_stL (hh := fun X4 => (HP I A (fu L 104 X4) F E)) ht_X8_shift rfl hp_o_104 (fun _ => hp_s_104)).trans ?_
      refine bind_cg fun X4 hX4 => ?_
      refine (sg_go ht_X8_shift (k := 2) (pc' := 119) (L' := [some (.ref 84), some (.int v1), some (.int v2), some (.int v3), some (.int v4), some (.int v5), some (.int v6), some (.int v7), some (.int (v8 + 1)), some (.int ((v5 - 1) - v8))]) (st' := []) (h' := (HP I A (fu L 104 X4) F E)) rfl).trans ?_
      rfl
set_option maxRecDepth 20000 in
theorem sg_X8_shift_119_v1 {I : Nat → Int32} {A : Nat → List Int32} {L : Nat → List Int64} {F : Nat → Int64} {E : MH} (v1 : Int32) (v2 : Int32) (v3 : Int32) (v4 : Int32) (v5 : Int32) (v6 : Int32) (v7 : Int32) (v8 : Int32) (o9 : Int32) : mm_run G0 190 119 [some (.ref 84), some (.int v1), some (.int v2), some (.int v3), some (.int v4), some (.int v5), some (.int v6), some (.int v7), some (.int v8), some (.int o9)] [] (HP I A L F E) = (if v5 ≤ v8 then some (some (.int v5), (HP I A L F E)) else (if v7 ≤ v6 then ((ldL (L 104) (v6 + v8)).bind fun x1 => ((stL (L 104) (v7 + v8) x1).bind fun X2 => mm_run G0 190 119 [some (.ref 84), some (.int v1), some (.int v2), some (.int v3), some (.int v4), some (.int v5), some (.int v6), some (.int v7), some (.int (v8 + 1)), some (.int v8)] [] (HP I A (fu L 104 X2) F E))) else ((ldL (L 104) (v6 + ((v5 - 1) - v8))).bind fun x3 => ((stL (L 104) (v7 + ((v5 - 1) - v8)) x3).bind fun X4 => mm_run G0 190 119 [some (.ref 84), some (.int v1), some (.int v2), some (.int v3), some (.int v4), some (.int v5), some (.int v6), some (.int v7), some (.int (v8 + 1)), some (.int ((v5 - 1) - v8))] [] (HP I A (fu L 104 X4) F E))))) := by
  refine (sg_go ht_X8_shift (k := 2) (pc' := 123) (L' := [some (.ref 84), some (.int v1), some (.int v2), some (.int v3), some (.int v4), some (.int v5), some (.int v6), some (.int v7), some (.int v8), some (.int o9)]) (st' := [.int v5, .int v8]) (h' := (HP I A L F E)) rfl).trans ?_
  refine (sg_cmp ht_X8_shift rfl).trans ?_
  refine ite_congr rfl (fun _ => ?_) (fun _ => ?_)
  · refine (sg_go ht_X8_shift (k := 1) (pc' := 175) (L' := [some (.ref 84), some (.int v1), some (.int v2), some (.int v3), some (.int v4), some (.int v5), some (.int v6), some (.int v7), some (.int v8), some (.int o9)]) (st' := [.int v5]) (h' := (HP I A L F E)) rfl).trans ?_
    exact sg_ret ht_X8_shift rfl rfl
  · refine (sg_go ht_X8_shift (k := 2) (pc' := 130) (L' := [some (.ref 84), some (.int v1), some (.int v2), some (.int v3), some (.int v4), some (.int v5), some (.int v6), some (.int v7), some (.int v8), some (.int o9)]) (st' := [.int v7, .int v6]) (h' := (HP I A L F E)) rfl).trans ?_
    refine (sg_cmp ht_X8_shift rfl).trans ?_
    refine ite_congr rfl (fun _ => ?_) (fun _ => ?_)
    · refine (sg_go ht_X8_shift (k := 10) (pc' := 162) (L' := [some (.ref 84), some (.int v1), some (.int v2), some (.int v3), some (.int v4), some (.int v5), some (.int v6), some (.int v7), some (.int v8), some (.int v8)]) (st' := [.int v6, .ref 104, .int (v7 + v8), .ref 104]) (h' := (HP I A L F E)) rfl).trans ?_
      refine (sg_go ht_X8_shift (k := 2) (pc' := 165) (L' := [some (.ref 84), some (.int v1), some (.int v2), some (.int v3), some (.int v4), some (.int v5), some (.int v6), some (.int v7), some (.int v8), some (.int v8)]) (st' := [.int (v6 + v8), .ref 104, .int (v7 + v8), .ref 104]) (h' := (HP I A L F E)) rfl).trans ?_
      refine (sg_ldL ht_X8_shift rfl hp_o_104).trans ?_
      refine bind_cg fun x1 hx1 => ?_
      refine (sg_stL (hh := fun X2 => (HP I A (fu L 104 X2) F E)) ht_X8_shift rfl hp_o_104 (fun _ => hp_s_104)).trans ?_
      refine bind_cg fun X2 hX2 => ?_
      refine (sg_go ht_X8_shift (k := 2) (pc' := 119) (L' := [some (.ref 84), some (.int v1), some (.int v2), some (.int v3), some (.int v4), some (.int v5), some (.int v6), some (.int v7), some (.int (v8 + 1)), some (.int v8)]) (st' := []) (h' := (HP I A (fu L 104 X2) F E)) rfl).trans ?_
      rfl
    · refine (sg_go ht_X8_shift (k := 10) (pc' := 153) (L' := [some (.ref 84), some (.int v1), some (.int v2), some (.int v3), some (.int v4), some (.int v5), some (.int v6), some (.int v7), some (.int v8), some (.int ((v5 - 1) - v8))]) (st' := [.int v7, .ref 104]) (h' := (HP I A L F E)) rfl).trans ?_
      refine (sg_go ht_X8_shift (k := 7) (pc' := 165) (L' := [some (.ref 84), some (.int v1), some (.int v2), some (.int v3), some (.int v4), some (.int v5), some (.int v6), some (.int v7), some (.int v8), some (.int ((v5 - 1) - v8))]) (st' := [.int (v6 + ((v5 - 1) - v8)), .ref 104, .int (v7 + ((v5 - 1) - v8)), .ref 104]) (h' := (HP I A L F E)) rfl).trans ?_
      refine (sg_ldL ht_X8_shift rfl hp_o_104).trans ?_
      refine bind_cg fun x3 hx3 => ?_
      refine (sg_stL (hh := fun X4 => (HP I A (fu L 104 X4) F E)) ht_X8_shift rfl hp_o_104 (fun _ => hp_s_104)).trans ?_
      refine bind_cg fun X4 hX4 => ?_
      refine (sg_go ht_X8_shift (k := 2) (pc' := 119) (L' := [some (.ref 84), some (.int v1), some (.int v2), some (.int v3), some (.int v4), some (.int v5), some (.int v6), some (.int v7), some (.int (v8 + 1)), some (.int ((v5 - 1) - v8))]) (st' := []) (h' := (HP I A (fu L 104 X4) F E)) rfl).trans ?_
      rfl
theorem sg_X8_shift_119 {I : Nat → Int32} {A : Nat → List Int32} {L : Nat → List Int64} {F : Nat → Int64} {E : MH} (v1 : Int32) (v2 : Int32) (v3 : Int32) (v4 : Int32) (v5 : Int32) (v6 : Int32) (v7 : Int32) (v8 : Int32) (o9 : Option Int32) : mm_run G0 190 119 [some (.ref 84), some (.int v1), some (.int v2), some (.int v3), some (.int v4), some (.int v5), some (.int v6), some (.int v7), some (.int v8), (o9.map Value.int)] [] (HP I A L F E) = (if v5 ≤ v8 then some (some (.int v5), (HP I A L F E)) else (if v7 ≤ v6 then ((ldL (L 104) (v6 + v8)).bind fun x1 => ((stL (L 104) (v7 + v8) x1).bind fun X2 => mm_run G0 190 119 [some (.ref 84), some (.int v1), some (.int v2), some (.int v3), some (.int v4), some (.int v5), some (.int v6), some (.int v7), some (.int (v8 + 1)), some (.int v8)] [] (HP I A (fu L 104 X2) F E))) else ((ldL (L 104) (v6 + ((v5 - 1) - v8))).bind fun x3 => ((stL (L 104) (v7 + ((v5 - 1) - v8)) x3).bind fun X4 => mm_run G0 190 119 [some (.ref 84), some (.int v1), some (.int v2), some (.int v3), some (.int v4), some (.int v5), some (.int v6), some (.int v7), some (.int (v8 + 1)), some (.int ((v5 - 1) - v8))] [] (HP I A (fu L 104 X4) F E))))) := by
  match o9 with
  | none => exact sg_X8_shift_119_v0 v1 v2 v3 v4 v5 v6 v7 v8
  | some o9 => exact sg_X8_shift_119_v1 v1 v2 v3 v4 v5 v6 v7 v8 o9
