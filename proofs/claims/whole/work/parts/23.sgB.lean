/-! printed by program: the methods by equations -/
set_option maxRecDepth 20000 in
theorem sg_X7_isStream_0 {I : Nat → Int32} {A : Nat → List Int32} {L : Nat → List Int64} {F : Nat → Int64} {E : MH} (p0 : Int32) : mm_call G0 96 [.int p0] (HP I A L F E) = (if p0 < 0 then some (some (.int 0), (HP I A L F E)) else (if 4 ≤ p0 then some (some (.int 0), (HP I A L F E)) else some (some (.int 1), (HP I A L F E)))) := by
  show mm_run G0 96 0 [some (.int p0)] [] (HP I A L F E) = _
  refine (sg_go ht_X7_isStream (k := 1) (pc' := 1) (L' := [some (.int p0)]) (st' := [.int p0]) (h' := (HP I A L F E)) rfl).trans ?_
  refine (sg_if ht_X7_isStream rfl).trans ?_
  refine ite_congr rfl (fun _ => ?_) (fun _ => ?_)
  · refine (sg_go ht_X7_isStream (k := 1) (pc' := 14) (L' := [some (.int p0)]) (st' := [.int 0]) (h' := (HP I A L F E)) rfl).trans ?_
    exact sg_ret ht_X7_isStream rfl rfl
  · refine (sg_go ht_X7_isStream (k := 2) (pc' := 6) (L' := [some (.int p0)]) (st' := [.int 4, .int p0]) (h' := (HP I A L F E)) rfl).trans ?_
    refine (sg_cmp ht_X7_isStream rfl).trans ?_
    refine ite_congr rfl (fun _ => ?_) (fun _ => ?_)
    · refine (sg_go ht_X7_isStream (k := 1) (pc' := 14) (L' := [some (.int p0)]) (st' := [.int 0]) (h' := (HP I A L F E)) rfl).trans ?_
      exact sg_ret ht_X7_isStream rfl rfl
    · refine (sg_go ht_X7_isStream (k := 2) (pc' := 14) (L' := [some (.int p0)]) (st' := [.int 1]) (h' := (HP I A L F E)) rfl).trans ?_
      exact sg_ret ht_X7_isStream rfl rfl
theorem sp_X7_isStream {I : Nat → Int32} {A : Nat → List Int32} {L : Nat → List Int64} {F : Nat → Int64} {E : MH} (p0 : Int32) : mm_call G0 96 [.int p0] (HP I A L F E) = some (some (.int (bi (decide (¬ p0 < 0 ∧ ¬ 4 ≤ p0)))), (HP I A L F E)) := by
  rw [sg_X7_isStream_0 p0]
  exact bi_and (f := fun z => some (some (Value.int z), HP I A L F E))
set_option maxRecDepth 20000 in
theorem sg_X7_isTape_0 {I : Nat → Int32} {A : Nat → List Int32} {L : Nat → List Int64} {F : Nat → Int64} {E : MH} (p0 : Int32) : mm_call G0 97 [.int p0] (HP I A L F E) = (if p0 < 0 then some (some (.int 0), (HP I A L F E)) else (if 6 ≤ p0 then some (some (.int 0), (HP I A L F E)) else some (some (.int 1), (HP I A L F E)))) := by
  show mm_run G0 97 0 [some (.int p0)] [] (HP I A L F E) = _
  refine (sg_go ht_X7_isTape (k := 1) (pc' := 1) (L' := [some (.int p0)]) (st' := [.int p0]) (h' := (HP I A L F E)) rfl).trans ?_
  refine (sg_if ht_X7_isTape rfl).trans ?_
  refine ite_congr rfl (fun _ => ?_) (fun _ => ?_)
  · refine (sg_go ht_X7_isTape (k := 1) (pc' := 15) (L' := [some (.int p0)]) (st' := [.int 0]) (h' := (HP I A L F E)) rfl).trans ?_
    exact sg_ret ht_X7_isTape rfl rfl
  · refine (sg_go ht_X7_isTape (k := 2) (pc' := 7) (L' := [some (.int p0)]) (st' := [.int 6, .int p0]) (h' := (HP I A L F E)) rfl).trans ?_
    refine (sg_cmp ht_X7_isTape rfl).trans ?_
    refine ite_congr rfl (fun _ => ?_) (fun _ => ?_)
    · refine (sg_go ht_X7_isTape (k := 1) (pc' := 15) (L' := [some (.int p0)]) (st' := [.int 0]) (h' := (HP I A L F E)) rfl).trans ?_
      exact sg_ret ht_X7_isTape rfl rfl
    · refine (sg_go ht_X7_isTape (k := 2) (pc' := 15) (L' := [some (.int p0)]) (st' := [.int 1]) (h' := (HP I A L F E)) rfl).trans ?_
      exact sg_ret ht_X7_isTape rfl rfl
theorem sp_X7_isTape {I : Nat → Int32} {A : Nat → List Int32} {L : Nat → List Int64} {F : Nat → Int64} {E : MH} (p0 : Int32) : mm_call G0 97 [.int p0] (HP I A L F E) = some (some (.int (bi (decide (¬ p0 < 0 ∧ ¬ 6 ≤ p0)))), (HP I A L F E)) := by
  rw [sg_X7_isTape_0 p0]
  exact bi_and (f := fun z => some (some (Value.int z), HP I A L F E))
set_option maxRecDepth 20000 in
theorem sg_X7_isStep_0 {I : Nat → Int32} {A : Nat → List Int32} {L : Nat → List Int64} {F : Nat → Int64} {E : MH} (p0 : Int32) : mm_call G0 98 [.int p0] (HP I A L F E) = (if p0 < (-2) then some (some (.int 0), (HP I A L F E)) else (if 2 < p0 then some (some (.int 0), (HP I A L F E)) else some (some (.int 1), (HP I A L F E)))) := by
  show mm_run G0 98 0 [some (.int p0)] [] (HP I A L F E) = _
  refine (sg_go ht_X7_isStep (k := 2) (pc' := 3) (L' := [some (.int p0)]) (st' := [.int (-2), .int p0]) (h' := (HP I A L F E)) rfl).trans ?_
  refine (sg_cmp ht_X7_isStep rfl).trans ?_
  refine ite_congr rfl (fun _ => ?_) (fun _ => ?_)
  · refine (sg_go ht_X7_isStep (k := 1) (pc' := 16) (L' := [some (.int p0)]) (st' := [.int 0]) (h' := (HP I A L F E)) rfl).trans ?_
    exact sg_ret ht_X7_isStep rfl rfl
  · refine (sg_go ht_X7_isStep (k := 2) (pc' := 8) (L' := [some (.int p0)]) (st' := [.int 2, .int p0]) (h' := (HP I A L F E)) rfl).trans ?_
    refine (sg_cmp ht_X7_isStep rfl).trans ?_
    refine ite_congr rfl (fun _ => ?_) (fun _ => ?_)
    · refine (sg_go ht_X7_isStep (k := 1) (pc' := 16) (L' := [some (.int p0)]) (st' := [.int 0]) (h' := (HP I A L F E)) rfl).trans ?_
      exact sg_ret ht_X7_isStep rfl rfl
    · refine (sg_go ht_X7_isStep (k := 2) (pc' := 16) (L' := [some (.int p0)]) (st' := [.int 1]) (h' := (HP I A L F E)) rfl).trans ?_
      exact sg_ret ht_X7_isStep rfl rfl
theorem sp_X7_isStep {I : Nat → Int32} {A : Nat → List Int32} {L : Nat → List Int64} {F : Nat → Int64} {E : MH} (p0 : Int32) : mm_call G0 98 [.int p0] (HP I A L F E) = some (some (.int (bi (decide (¬ p0 < (-2) ∧ ¬ 2 < p0)))), (HP I A L F E)) := by
  rw [sg_X7_isStep_0 p0]
  exact bi_and (f := fun z => some (some (Value.int z), HP I A L F E))
set_option maxRecDepth 20000 in
theorem sg_X7_isValue_0 {I : Nat → Int32} {A : Nat → List Int32} {L : Nat → List Int64} {F : Nat → Int64} {E : MH} (p0 : Int32) : mm_call G0 100 [.int p0] (HP I A L F E) = (if p0 < (-20) then some (some (.int 0), (HP I A L F E)) else (if 20 < p0 then some (some (.int 0), (HP I A L F E)) else some (some (.int 1), (HP I A L F E)))) := by
  show mm_run G0 100 0 [some (.int p0)] [] (HP I A L F E) = _
  refine (sg_go ht_X7_isValue (k := 2) (pc' := 3) (L' := [some (.int p0)]) (st' := [.int (-20), .int p0]) (h' := (HP I A L F E)) rfl).trans ?_
  refine (sg_cmp ht_X7_isValue rfl).trans ?_
  refine ite_congr rfl (fun _ => ?_) (fun _ => ?_)
  · refine (sg_go ht_X7_isValue (k := 1) (pc' := 17) (L' := [some (.int p0)]) (st' := [.int 0]) (h' := (HP I A L F E)) rfl).trans ?_
    exact sg_ret ht_X7_isValue rfl rfl
  · refine (sg_go ht_X7_isValue (k := 2) (pc' := 9) (L' := [some (.int p0)]) (st' := [.int 20, .int p0]) (h' := (HP I A L F E)) rfl).trans ?_
    refine (sg_cmp ht_X7_isValue rfl).trans ?_
    refine ite_congr rfl (fun _ => ?_) (fun _ => ?_)
    · refine (sg_go ht_X7_isValue (k := 1) (pc' := 17) (L' := [some (.int p0)]) (st' := [.int 0]) (h' := (HP I A L F E)) rfl).trans ?_
      exact sg_ret ht_X7_isValue rfl rfl
    · refine (sg_go ht_X7_isValue (k := 2) (pc' := 17) (L' := [some (.int p0)]) (st' := [.int 1]) (h' := (HP I A L F E)) rfl).trans ?_
      exact sg_ret ht_X7_isValue rfl rfl
theorem sp_X7_isValue {I : Nat → Int32} {A : Nat → List Int32} {L : Nat → List Int64} {F : Nat → Int64} {E : MH} (p0 : Int32) : mm_call G0 100 [.int p0] (HP I A L F E) = some (some (.int (bi (decide (¬ p0 < (-20) ∧ ¬ 20 < p0)))), (HP I A L F E)) := by
  rw [sg_X7_isValue_0 p0]
  exact bi_and (f := fun z => some (some (Value.int z), HP I A L F E))
set_option maxRecDepth 20000 in
theorem sg_X7_isPart_0 {I : Nat → Int32} {A : Nat → List Int32} {L : Nat → List Int64} {F : Nat → Int64} {E : MH} (p0 : Int32) : mm_call G0 99 [.int p0] (HP I A L F E) = (if p0 = 0 then some (some (.int 1), (HP I A L F E)) else (if p0 ≠ 1 then some (some (.int 0), (HP I A L F E)) else some (some (.int 1), (HP I A L F E)))) := by
  show mm_run G0 99 0 [some (.int p0)] [] (HP I A L F E) = _
  refine (sg_go ht_X7_isPart (k := 1) (pc' := 1) (L' := [some (.int p0)]) (st' := [.int p0]) (h' := (HP I A L F E)) rfl).trans ?_
  refine (sg_if ht_X7_isPart rfl).trans ?_
  refine ite_congr rfl (fun _ => ?_) (fun _ => ?_)
  · refine (sg_go ht_X7_isPart (k := 2) (pc' := 14) (L' := [some (.int p0)]) (st' := [.int 1]) (h' := (HP I A L F E)) rfl).trans ?_
    exact sg_ret ht_X7_isPart rfl rfl
  · refine (sg_go ht_X7_isPart (k := 2) (pc' := 6) (L' := [some (.int p0)]) (st' := [.int 1, .int p0]) (h' := (HP I A L F E)) rfl).trans ?_
    refine (sg_cmp ht_X7_isPart rfl).trans ?_
    refine ite_congr rfl (fun _ => ?_) (fun _ => ?_)
    · refine (sg_go ht_X7_isPart (k := 1) (pc' := 14) (L' := [some (.int p0)]) (st' := [.int 0]) (h' := (HP I A L F E)) rfl).trans ?_
      exact sg_ret ht_X7_isPart rfl rfl
    · refine (sg_go ht_X7_isPart (k := 2) (pc' := 14) (L' := [some (.int p0)]) (st' := [.int 1]) (h' := (HP I A L F E)) rfl).trans ?_
      exact sg_ret ht_X7_isPart rfl rfl
theorem sp_X7_isPart {I : Nat → Int32} {A : Nat → List Int32} {L : Nat → List Int64} {F : Nat → Int64} {E : MH} (p0 : Int32) : mm_call G0 99 [.int p0] (HP I A L F E) = some (some (.int (bi (decide (p0 = 0 ∨ p0 = 1)))), (HP I A L F E)) := by
  rw [sg_X7_isPart_0 p0]
  exact bi_or (f := fun z => some (some (Value.int z), HP I A L F E))
set_option maxRecDepth 20000 in
theorem sg_X7_isSetting_0 {I : Nat → Int32} {A : Nat → List Int32} {L : Nat → List Int64} {F : Nat → Int64} {E : MH} (p0 : Int32) (p1 : Int32) : mm_call G0 101 [.int p0, .int p1] (HP I A L F E) = (if p0 = 0 then (if p1 < 0 then some (some (.int 0), (HP I A L F E)) else (if 4 < p1 then some (some (.int 0), (HP I A L F E)) else some (some (.int 1), (HP I A L F E)))) else (if p0 = 1 then some (some (.int (bi (decide (¬ p1 < (-20) ∧ ¬ 20 < p1)))), (HP I A L F E)) else (if p0 = 2 then (if p1 < 0 then some (some (.int 0), (HP I A L F E)) else (if 5 < p1 then some (some (.int 0), (HP I A L F E)) else some (some (.int 1), (HP I A L F E)))) else (if p0 = 3 then (if p1 < 1 then some (some (.int 0), (HP I A L F E)) else (if 12 < p1 then some (some (.int 0), (HP I A L F E)) else some (some (.int 1), (HP I A L F E)))) else some (some (.int 0), (HP I A L F E)))))) := by
  show mm_run G0 101 0 [some (.int p0), some (.int p1)] [] (HP I A L F E) = _
  refine (sg_go ht_X7_isSetting (k := 1) (pc' := 1) (L' := [some (.int p0), some (.int p1)]) (st' := [.int p0]) (h' := (HP I A L F E)) rfl).trans ?_
  refine (sg_sw ht_X7_isSetting rfl).trans ?_
  rw [swt_cons (k := 0) (lo' := 1) (by decide) (by decide), run_ite]
  refine ite_congr rfl (fun _ => ?_) (fun _ => ?_)
  · refine (sg_go ht_X7_isSetting (k := 1) (pc' := 33) (L' := [some (.int p0), some (.int p1)]) (st' := [.int p1]) (h' := (HP I A L F E)) rfl).trans ?_
    refine (sg_if ht_X7_isSetting rfl).trans ?_
    refine ite_congr rfl (fun _ => ?_) (fun _ => ?_)
    · refine (sg_go ht_X7_isSetting (k := 1) (pc' := 46) (L' := [some (.int p0), some (.int p1)]) (st' := [.int 0]) (h' := (HP I A L F E)) rfl).trans ?_
      exact sg_ret ht_X7_isSetting rfl rfl
    · refine (sg_go ht_X7_isSetting (k := 2) (pc' := 38) (L' := [some (.int p0), some (.int p1)]) (st' := [.int 4, .int p1]) (h' := (HP I A L F E)) rfl).trans ?_
      refine (sg_cmp ht_X7_isSetting rfl).trans ?_
      refine ite_congr rfl (fun _ => ?_) (fun _ => ?_)
      · refine (sg_go ht_X7_isSetting (k := 1) (pc' := 46) (L' := [some (.int p0), some (.int p1)]) (st' := [.int 0]) (h' := (HP I A L F E)) rfl).trans ?_
        exact sg_ret ht_X7_isSetting rfl rfl
      · refine (sg_go ht_X7_isSetting (k := 2) (pc' := 46) (L' := [some (.int p0), some (.int p1)]) (st' := [.int 1]) (h' := (HP I A L F E)) rfl).trans ?_
        exact sg_ret ht_X7_isSetting rfl rfl
  · rw [swt_cons (k := 1) (lo' := 2) (by decide) (by decide), run_ite]
    refine ite_congr rfl (fun _ => ?_) (fun _ => ?_)
    · refine (sg_go ht_X7_isSetting (k := 1) (pc' := 48) (L' := [some (.int p0), some (.int p1)]) (st' := [.int p1]) (h' := (HP I A L F E)) rfl).trans ?_
      refine (sg_call ht_X7_isSetting (mj := 100) (as := [.int p1]) (rest := []) rfl rfl ⟨by decide, Nat.le_of_ble_eq_true rfl⟩).trans ?_
      refine (bind_eq (sp_X7_isValue p1)).trans ?_
      show mm_run G0 101 51 [some (.int p0), some (.int p1)] [.int (bi (decide (¬ p1 < (-20) ∧ ¬ 20 < p1)))] (HP I A L F E) = _
      exact sg_retB ht_X7_isSetting rfl
    · rw [swt_cons (k := 2) (lo' := 3) (by decide) (by decide), run_ite]
      refine ite_congr rfl (fun _ => ?_) (fun _ => ?_)
      · refine (sg_go ht_X7_isSetting (k := 1) (pc' := 53) (L' := [some (.int p0), some (.int p1)]) (st' := [.int p1]) (h' := (HP I A L F E)) rfl).trans ?_
        refine (sg_if ht_X7_isSetting rfl).trans ?_
        refine ite_congr rfl (fun _ => ?_) (fun _ => ?_)
        · refine (sg_go ht_X7_isSetting (k := 1) (pc' := 66) (L' := [some (.int p0), some (.int p1)]) (st' := [.int 0]) (h' := (HP I A L F E)) rfl).trans ?_
          exact sg_ret ht_X7_isSetting rfl rfl
        · refine (sg_go ht_X7_isSetting (k := 2) (pc' := 58) (L' := [some (.int p0), some (.int p1)]) (st' := [.int 5, .int p1]) (h' := (HP I A L F E)) rfl).trans ?_
          refine (sg_cmp ht_X7_isSetting rfl).trans ?_
          refine ite_congr rfl (fun _ => ?_) (fun _ => ?_)
          · refine (sg_go ht_X7_isSetting (k := 1) (pc' := 66) (L' := [some (.int p0), some (.int p1)]) (st' := [.int 0]) (h' := (HP I A L F E)) rfl).trans ?_
            exact sg_ret ht_X7_isSetting rfl rfl
          · refine (sg_go ht_X7_isSetting (k := 2) (pc' := 66) (L' := [some (.int p0), some (.int p1)]) (st' := [.int 1]) (h' := (HP I A L F E)) rfl).trans ?_
            exact sg_ret ht_X7_isSetting rfl rfl
      · rw [swt_cons (k := 3) (lo' := 4) (by decide) (by decide), run_ite]
        refine ite_congr rfl (fun _ => ?_) (fun _ => ?_)
        · refine (sg_go ht_X7_isSetting (k := 2) (pc' := 69) (L' := [some (.int p0), some (.int p1)]) (st' := [.int 1, .int p1]) (h' := (HP I A L F E)) rfl).trans ?_
          refine (sg_cmp ht_X7_isSetting rfl).trans ?_
          refine ite_congr rfl (fun _ => ?_) (fun _ => ?_)
          · refine (sg_go ht_X7_isSetting (k := 1) (pc' := 83) (L' := [some (.int p0), some (.int p1)]) (st' := [.int 0]) (h' := (HP I A L F E)) rfl).trans ?_
            exact sg_ret ht_X7_isSetting rfl rfl
          · refine (sg_go ht_X7_isSetting (k := 2) (pc' := 75) (L' := [some (.int p0), some (.int p1)]) (st' := [.int 12, .int p1]) (h' := (HP I A L F E)) rfl).trans ?_
            refine (sg_cmp ht_X7_isSetting rfl).trans ?_
            refine ite_congr rfl (fun _ => ?_) (fun _ => ?_)
            · refine (sg_go ht_X7_isSetting (k := 1) (pc' := 83) (L' := [some (.int p0), some (.int p1)]) (st' := [.int 0]) (h' := (HP I A L F E)) rfl).trans ?_
              exact sg_ret ht_X7_isSetting rfl rfl
            · refine (sg_go ht_X7_isSetting (k := 2) (pc' := 83) (L' := [some (.int p0), some (.int p1)]) (st' := [.int 1]) (h' := (HP I A L F E)) rfl).trans ?_
              exact sg_ret ht_X7_isSetting rfl rfl
        · rw [swt_nil]
          refine (sg_go ht_X7_isSetting (k := 1) (pc' := 85) (L' := [some (.int p0), some (.int p1)]) (st' := [.int 0]) (h' := (HP I A L F E)) rfl).trans ?_
          exact sg_ret ht_X7_isSetting rfl rfl
theorem sp_X7_isSetting {I : Nat → Int32} {A : Nat → List Int32} {L : Nat → List Int64} {F : Nat → Int64} {E : MH} (p0 : Int32) (p1 : Int32) : mm_call G0 101 [.int p0, .int p1] (HP I A L F E) = some (some (.int (bi (okS p0 p1))), (HP I A L F E)) := by
  rw [sg_X7_isSetting_0 p0 p1]
  unfold okS
  repeat' split
  all_goals first | rfl | (simp_all [bi]; done)
set_option maxRecDepth 20000 in
theorem sg_X7_isPlannable_0 {I : Nat → Int32} {A : Nat → List Int32} {L : Nat → List Int64} {F : Nat → Int64} {E : MH} (p0 : Int32) (p1 : Int32) : mm_call G0 102 [.int p0, .int p1] (HP I A L F E) = (if p0 ≠ 0 then (if p0 ≠ 3 then some (some (.int (bi (okS p0 p1))), (HP I A L F E)) else (if p1 < 0 then some (some (.int 0), (HP I A L F E)) else (if 40 < p1 then some (some (.int 0), (HP I A L F E)) else some (some (.int 1), (HP I A L F E))))) else some (some (.int (bi (decide (¬ p1 < (-20) ∧ ¬ 20 < p1)))), (HP I A L F E))) := by
  show mm_run G0 102 0 [some (.int p0), some (.int p1)] [] (HP I A L F E) = _
  refine (sg_go ht_X7_isPlannable (k := 1) (pc' := 1) (L' := [some (.int p0), some (.int p1)]) (st' := [.int p0]) (h' := (HP I A L F E)) rfl).trans ?_
  refine (sg_if ht_X7_isPlannable rfl).trans ?_
  refine ite_congr rfl (fun _ => ?_) (fun _ => ?_)
  · refine (sg_go ht_X7_isPlannable (k := 2) (pc' := 11) (L' := [some (.int p0), some (.int p1)]) (st' := [.int 3, .int p0]) (h' := (HP I A L F E)) rfl).trans ?_
    refine (sg_cmp ht_X7_isPlannable rfl).trans ?_
    refine ite_congr rfl (fun _ => ?_) (fun _ => ?_)
    · refine (sg_go ht_X7_isPlannable (k := 2) (pc' := 32) (L' := [some (.int p0), some (.int p1)]) (st' := [.int p1, .int p0]) (h' := (HP I A L F E)) rfl).trans ?_
      refine (sg_call ht_X7_isPlannable (mj := 101) (as := [.int p0, .int p1]) (rest := []) rfl rfl ⟨by decide, Nat.le_of_ble_eq_true rfl⟩).trans ?_
      refine (bind_eq (sp_X7_isSetting p0 p1)).trans ?_
      show mm_run G0 102 35 [some (.int p0), some (.int p1)] [.int (bi (okS p0 p1))] (HP I A L F E) = _
      exact sg_retB ht_X7_isPlannable rfl
    · refine (sg_go ht_X7_isPlannable (k := 1) (pc' := 15) (L' := [some (.int p0), some (.int p1)]) (st' := [.int p1]) (h' := (HP I A L F E)) rfl).trans ?_
      refine (sg_if ht_X7_isPlannable rfl).trans ?_
      refine ite_congr rfl (fun _ => ?_) (fun _ => ?_)
      · refine (sg_go ht_X7_isPlannable (k := 1) (pc' := 29) (L' := [some (.int p0), some (.int p1)]) (st' := [.int 0]) (h' := (HP I A L F E)) rfl).trans ?_
        exact sg_ret ht_X7_isPlannable rfl rfl
      · refine (sg_go ht_X7_isPlannable (k := 2) (pc' := 21) (L' := [some (.int p0), some (.int p1)]) (st' := [.int 40, .int p1]) (h' := (HP I A L F E)) rfl).trans ?_
        refine (sg_cmp ht_X7_isPlannable rfl).trans ?_
        refine ite_congr rfl (fun _ => ?_) (fun _ => ?_)
        · refine (sg_go ht_X7_isPlannable (k := 1) (pc' := 29) (L' := [some (.int p0), some (.int p1)]) (st' := [.int 0]) (h' := (HP I A L F E)) rfl).trans ?_
          exact sg_ret ht_X7_isPlannable rfl rfl
        · refine (sg_go ht_X7_isPlannable (k := 2) (pc' := 29) (L' := [some (.int p0), some (.int p1)]) (st' := [.int 1]) (h' := (HP I A L F E)) rfl).trans ?_
          exact sg_ret ht_X7_isPlannable rfl rfl
  · refine (sg_go ht_X7_isPlannable (k := 1) (pc' := 5) (L' := [some (.int p0), some (.int p1)]) (st' := [.int p1]) (h' := (HP I A L F E)) rfl).trans ?_
    refine (sg_call ht_X7_isPlannable (mj := 100) (as := [.int p1]) (rest := []) rfl rfl ⟨by decide, Nat.le_of_ble_eq_true rfl⟩).trans ?_
    refine (bind_eq (sp_X7_isValue p1)).trans ?_
    show mm_run G0 102 8 [some (.int p0), some (.int p1)] [.int (bi (decide (¬ p1 < (-20) ∧ ¬ 20 < p1)))] (HP I A L F E) = _
    exact sg_retB ht_X7_isPlannable rfl
set_option maxRecDepth 20000 in
theorem sg_X7_lowest_0 {I : Nat → Int32} {A : Nat → List Int32} {L : Nat → List Int64} {F : Nat → Int64} {E : MH} (p0 : Int64) (p1 : Int64) (p2 : Int32) : mm_call G0 103 [.long p0, .long p1, .int p2] (HP I A L F E) = mm_run G0 103 12 [some (.long p0), none, some (.long p1), none, some (.int p2), some (.long (labs p0)), none, some (.long p1), none, some (.int 0), none, none] [] (HP I A L F E) := by
  show mm_run G0 103 0 [some (.long p0), none, some (.long p1), none, some (.int p2), none, none, none, none, none, none, none] [] (HP I A L F E) = _
  refine (sg_go ht_X7_lowest (k := 7) (pc' := 12) (L' := [some (.long p0), none, some (.long p1), none, some (.int p2), some (.long (labs p0)), none, some (.long p1), none, some (.int 0), none, none]) (st' := []) (h' := (HP I A L F E)) rfl).trans ?_
  rfl
set_option maxRecDepth 20000 in
theorem sg_X7_lowest_12_v0 {I : Nat → Int32} {A : Nat → List Int32} {L : Nat → List Int64} {F : Nat → Int64} {E : MH} (v0 : Int64) (v2 : Int64) (v4 : Int32) (v5 : Int64) (v7 : Int64) (v9 : Int32) : mm_run G0 103 12 [some (.long v0), none, some (.long v2), none, some (.int v4), some (.long v5), none, some (.long v7), none, some (.int v9), none, none] [] (HP I A L F E) = (if 100 ≤ v9 then (if (lg_cmp v5 (0)) ≠ 0 then (if v4 ≠ 0 then (if v5 = 0 then none else some (some (.long (v2 / v5)), (HP I A L F E))) else (if v5 = 0 then none else some (some (.long (v0 / v5)), (HP I A L F E)))) else some (some (.long (-9223372036854775808)), (HP I A L F E))) else (if (lg_cmp v7 (0)) = 0 then (if (lg_cmp v5 (0)) ≠ 0 then (if v4 ≠ 0 then (if v5 = 0 then none else some (some (.long (v2 / v5)), (HP I A L F E))) else (if v5 = 0 then none else some (some (.long (v0 / v5)), (HP I A L F E)))) else some (some (.long (-9223372036854775808)), (HP I A L F E))) else (if v7 = 0 then none else mm_run G0 103 12 [some (.long v0), none, some (.long v2), none, some (.int v4), some (.long v7), none, some (.long (v5 - v5 / v7 * v7)), none, some (.int (v9 + 1)), some (.long (v5 - v5 / v7 * v7)), none] [] (HP I A L F E)))) := by
  refine (sg_go ht_X7_lowest (k := 2) (pc' := 16) (L' := [some (.long v0), none, some (.long v2), none, some (.int v4), some (.long v5), none, some (.long v7), none, some (.int v9), none, none]) (st' := [.int 100, .int v9]) (h' := (HP I A L F E)) rfl).trans ?_
  refine (sg_cmp ht_X7_lowest rfl).trans ?_
  refine ite_congr rfl (fun _ => ?_) (fun _ => ?_)
  · refine (sg_go ht_X7_lowest (k := 3) (pc' := 51) (L' := [some (.long v0), none, some (.long v2), none, some (.int v4), some (.long v5), none, some (.long v7), none, some (.int v9), none, none]) (st' := [.int (lg_cmp v5 (0))]) (h' := (HP I A L F E)) rfl).trans ?_
    refine (sg_if ht_X7_lowest rfl).trans ?_
    refine ite_congr rfl (fun _ => ?_) (fun _ => ?_)
    · refine (sg_go ht_X7_lowest (k := 1) (pc' := 60) (L' := [some (.long v0), none, some (.long v2), none, some (.int v4), some (.long v5), none, some (.long v7), none, some (.int v9), none, none]) (st' := [.int v4]) (h' := (HP I A L F E)) rfl).trans ?_
      refine (sg_if ht_X7_lowest rfl).trans ?_
      refine ite_congr rfl (fun _ => ?_) (fun _ => ?_)
      · refine (sg_go ht_X7_lowest (k := 2) (pc' := 73) (L' := [some (.long v0), none, some (.long v2), none, some (.int v4), some (.long v5), none, some (.long v7), none, some (.int v9), none, none]) (st' := [.long v5, .long v2]) (h' := (HP I A L F E)) rfl).trans ?_
        refine (sg_ldiv ht_X7_lowest rfl).trans ?_
        refine ite_congr rfl (fun _ => rfl) (fun _ => ?_)
        exact sg_ret ht_X7_lowest rfl rfl
      · refine (sg_go ht_X7_lowest (k := 2) (pc' := 66) (L' := [some (.long v0), none, some (.long v2), none, some (.int v4), some (.long v5), none, some (.long v7), none, some (.int v9), none, none]) (st' := [.long v5, .long v0]) (h' := (HP I A L F E)) rfl).trans ?_
        refine (sg_ldiv ht_X7_lowest rfl).trans ?_
        refine ite_congr rfl (fun _ => rfl) (fun _ => ?_)
        refine (sg_go ht_X7_lowest (k := 1) (pc' := 74) (L' := [some (.long v0), none, some (.long v2), none, some (.int v4), some (.long v5), none, some (.long v7), none, some (.int v9), none, none]) (st' := [.long (v0 / v5)]) (h' := (HP I A L F E)) rfl).trans ?_
        exact sg_ret ht_X7_lowest rfl rfl
    · refine (sg_go ht_X7_lowest (k := 1) (pc' := 57) (L' := [some (.long v0), none, some (.long v2), none, some (.int v4), some (.long v5), none, some (.long v7), none, some (.int v9), none, none]) (st' := [.long (-9223372036854775808)]) (h' := (HP I A L F E)) rfl).trans ?_
      exact sg_ret ht_X7_lowest rfl rfl
  · refine (sg_go ht_X7_lowest (k := 3) (pc' := 23) (L' := [some (.long v0), none, some (.long v2), none, some (.int v4), some (.long v5), none, some (.long v7), none, some (.int v9), none, none]) (st' := [.int (lg_cmp v7 (0))]) (h' := (HP I A L F E)) rfl).trans ?_
    refine (sg_if ht_X7_lowest rfl).trans ?_
    refine ite_congr rfl (fun _ => ?_) (fun _ => ?_)
    · refine (sg_go ht_X7_lowest (k := 3) (pc' := 51) (L' := [some (.long v0), none, some (.long v2), none, some (.int v4), some (.long v5), none, some (.long v7), none, some (.int v9), none, none]) (st' := [.int (lg_cmp v5 (0))]) (h' := (HP I A L F E)) rfl).trans ?_
      refine (sg_if ht_X7_lowest rfl).trans ?_
      refine ite_congr rfl (fun _ => ?_) (fun _ => ?_)
      · refine (sg_go ht_X7_lowest (k := 1) (pc' := 60) (L' := [some (.long v0), none, some (.long v2), none, some (.int v4), some (.long v5), none, some (.long v7), none, some (.int v9), none, none]) (st' := [.int v4]) (h' := (HP I A L F E)) rfl).trans ?_
        refine (sg_if ht_X7_lowest rfl).trans ?_
        refine ite_congr rfl (fun _ => ?_) (fun _ => ?_)
        · refine (sg_go ht_X7_lowest (k := 2) (pc' := 73) (L' := [some (.long v0), none, some (.long v2), none, some (.int v4), some (.long v5), none, some (.long v7), none, some (.int v9), none, none]) (st' := [.long v5, .long v2]) (h' := (HP I A L F E)) rfl).trans ?_
          refine (sg_ldiv ht_X7_lowest rfl).trans ?_
          refine ite_congr rfl (fun _ => rfl) (fun _ => ?_)
          exact sg_ret ht_X7_lowest rfl rfl
        · refine (sg_go ht_X7_lowest (k := 2) (pc' := 66) (L' := [some (.long v0), none, some (.long v2), none, some (.int v4), some (.long v5), none, some (.long v7), none, some (.int v9), none, none]) (st' := [.long v5, .long v0]) (h' := (HP I A L F E)) rfl).trans ?_
          refine (sg_ldiv ht_X7_lowest rfl).trans ?_
          refine ite_congr rfl (fun _ => rfl) (fun _ => ?_)
          refine (sg_go ht_X7_lowest (k := 1) (pc' := 74) (L' := [some (.long v0), none, some (.long v2), none, some (.int v4), some (.long v5), none, some (.long v7), none, some (.int v9), none, none]) (st' := [.long (v0 / v5)]) (h' := (HP I A L F E)) rfl).trans ?_
          exact sg_ret ht_X7_lowest rfl rfl
      · refine (sg_go ht_X7_lowest (k := 1) (pc' := 57) (L' := [some (.long v0), none, some (.long v2), none, some (.int v4), some (.long v5), none, some (.long v7), none, some (.int v9), none, none]) (st' := [.long (-9223372036854775808)]) (h' := (HP I A L F E)) rfl).trans ?_
        exact sg_ret ht_X7_lowest rfl rfl
    · refine (sg_go ht_X7_lowest (k := 2) (pc' := 30) (L' := [some (.long v0), none, some (.long v2), none, some (.int v4), some (.long v5), none, some (.long v7), none, some (.int v9), none, none]) (st' := [.long v7, .long v5]) (h' := (HP I A L F E)) rfl).trans ?_
      refine (sg_ldiv ht_X7_lowest rfl).trans ?_
      refine ite_congr rfl (fun _ => rfl) (fun _ => ?_)
      refine (sg_go ht_X7_lowest (k := 7) (pc' := 12) (L' := [some (.long v0), none, some (.long v2), none, some (.int v4), some (.long v7), none, some (.long (v5 - v5 / v7 * v7)), none, some (.int (v9 + 1)), some (.long (v5 - v5 / v7 * v7)), none]) (st' := []) (h' := (HP I A L F E)) rfl).trans ?_
      rfl
set_option maxRecDepth 20000 in
theorem sg_X7_lowest_12_v1 {I : Nat → Int32} {A : Nat → List Int32} {L : Nat → List Int64} {F : Nat → Int64} {E : MH} (v0 : Int64) (v2 : Int64) (v4 : Int32) (v5 : Int64) (v7 : Int64) (v9 : Int32) (o10 : Int64) : mm_run G0 103 12 [some (.long v0), none, some (.long v2), none, some (.int v4), some (.long v5), none, some (.long v7), none, some (.int v9), some (.long o10), none] [] (HP I A L F E) = (if 100 ≤ v9 then (if (lg_cmp v5 (0)) ≠ 0 then (if v4 ≠ 0 then (if v5 = 0 then none else some (some (.long (v2 / v5)), (HP I A L F E))) else (if v5 = 0 then none else some (some (.long (v0 / v5)), (HP I A L F E)))) else some (some (.long (-9223372036854775808)), (HP I A L F E))) else (if (lg_cmp v7 (0)) = 0 then (if (lg_cmp v5 (0)) ≠ 0 then (if v4 ≠ 0 then (if v5 = 0 then none else some (some (.long (v2 / v5)), (HP I A L F E))) else (if v5 = 0 then none else some (some (.long (v0 / v5)), (HP I A L F E)))) else some (some (.long (-9223372036854775808)), (HP I A L F E))) else (if v7 = 0 then none else mm_run G0 103 12 [some (.long v0), none, some (.long v2), none, some (.int v4), some (.long v7), none, some (.long (v5 - v5 / v7 * v7)), none, some (.int (v9 + 1)), some (.long (v5 - v5 / v7 * v7)), none] [] (HP I A L F E)))) := by
  refine (sg_go ht_X7_lowest (k := 2) (pc' := 16) (L' := [some (.long v0), none, some (.long v2), none, some (.int v4), some (.long v5), none, some (.long v7), none, some (.int v9), some (.long o10), none]) (st' := [.int 100, .int v9]) (h' := (HP I A L F E)) rfl).trans ?_
  refine (sg_cmp ht_X7_lowest rfl).trans ?_
  refine ite_congr rfl (fun _ => ?_) (fun _ => ?_)
  · refine (sg_go ht_X7_lowest (k := 3) (pc' := 51) (L' := [some (.long v0), none, some (.long v2), none, some (.int v4), some (.long v5), none, some (.long v7), none, some (.int v9), some (.long o10), none]) (st' := [.int (lg_cmp v5 (0))]) (h' := (HP I A L F E)) rfl).trans ?_
    refine (sg_if ht_X7_lowest rfl).trans ?_
    refine ite_congr rfl (fun _ => ?_) (fun _ => ?_)
    · refine (sg_go ht_X7_lowest (k := 1) (pc' := 60) (L' := [some (.long v0), none, some (.long v2), none, some (.int v4), some (.long v5), none, some (.long v7), none, some (.int v9), some (.long o10), none]) (st' := [.int v4]) (h' := (HP I A L F E)) rfl).trans ?_
      refine (sg_if ht_X7_lowest rfl).trans ?_
      refine ite_congr rfl (fun _ => ?_) (fun _ => ?_)
      · refine (sg_go ht_X7_lowest (k := 2) (pc' := 73) (L' := [some (.long v0), none, some (.long v2), none, some (.int v4), some (.long v5), none, some (.long v7), none, some (.int v9), some (.long o10), none]) (st' := [.long v5, .long v2]) (h' := (HP I A L F E)) rfl).trans ?_
        refine (sg_ldiv ht_X7_lowest rfl).trans ?_
        refine ite_congr rfl (fun _ => rfl) (fun _ => ?_)
        exact sg_ret ht_X7_lowest rfl rfl
      · refine (sg_go ht_X7_lowest (k := 2) (pc' := 66) (L' := [some (.long v0), none, some (.long v2), none, some (.int v4), some (.long v5), none, some (.long v7), none, some (.int v9), some (.long o10), none]) (st' := [.long v5, .long v0]) (h' := (HP I A L F E)) rfl).trans ?_
        refine (sg_ldiv ht_X7_lowest rfl).trans ?_
        refine ite_congr rfl (fun _ => rfl) (fun _ => ?_)
        refine (sg_go ht_X7_lowest (k := 1) (pc' := 74) (L' := [some (.long v0), none, some (.long v2), none, some (.int v4), some (.long v5), none, some (.long v7), none, some (.int v9), some (.long o10), none]) (st' := [.long (v0 / v5)]) (h' := (HP I A L F E)) rfl).trans ?_
        exact sg_ret ht_X7_lowest rfl rfl
    · refine (sg_go ht_X7_lowest (k := 1) (pc' := 57) (L' := [some (.long v0), none, some (.long v2), none, some (.int v4), some (.long v5), none, some (.long v7), none, some (.int v9), some (.long o10), none]) (st' := [.long (-9223372036854775808)]) (h' := (HP I A L F E)) rfl).trans ?_
      exact sg_ret ht_X7_lowest rfl rfl
  · refine (sg_go ht_X7_lowest (k := 3) (pc' := 23) (L' := [some (.long v0), none, some (.long v2), none, some (.int v4), some (.long v5), none, some (.long v7), none, some (.int v9), some (.long o10), none]) (st' := [.int (lg_cmp v7 (0))]) (h' := (HP I A L F E)) rfl).trans ?_
    refine (sg_if ht_X7_lowest rfl).trans ?_
    refine ite_congr rfl (fun _ => ?_) (fun _ => ?_)
    · refine (sg_go ht_X7_lowest (k := 3) (pc' := 51) (L' := [some (.long v0), none, some (.long v2), none, some (.int v4), some (.long v5), none, some (.long v7), none, some (.int v9), some (.long o10), none]) (st' := [.int (lg_cmp v5 (0))]) (h' := (HP I A L F E)) rfl).trans ?_
      refine (sg_if ht_X7_lowest rfl).trans ?_
      refine ite_congr rfl (fun _ => ?_) (fun _ => ?_)
      · refine (sg_go ht_X7_lowest (k := 1) (pc' := 60) (L' := [some (.long v0), none, some (.long v2), none, some (.int v4), some (.long v5), none, some (.long v7), none, some (.int v9), some (.long o10), none]) (st' := [.int v4]) (h' := (HP I A L F E)) rfl).trans ?_
        refine (sg_if ht_X7_lowest rfl).trans ?_
        refine ite_congr rfl (fun _ => ?_) (fun _ => ?_)
        · refine (sg_go ht_X7_lowest (k := 2) (pc' := 73) (L' := [some (.long v0), none, some (.long v2), none, some (.int v4), some (.long v5), none, some (.long v7), none, some (.int v9), some (.long o10), none]) (st' := [.long v5, .long v2]) (h' := (HP I A L F E)) rfl).trans ?_
          refine (sg_ldiv ht_X7_lowest rfl).trans ?_
          refine ite_congr rfl (fun _ => rfl) (fun _ => ?_)
          exact sg_ret ht_X7_lowest rfl rfl
        · refine (sg_go ht_X7_lowest (k := 2) (pc' := 66) (L' := [some (.long v0), none, some (.long v2), none, some (.int v4), some (.long v5), none, some (.long v7), none, some (.int v9), some (.long o10), none]) (st' := [.long v5, .long v0]) (h' := (HP I A L F E)) rfl).trans ?_
          refine (sg_ldiv ht_X7_lowest rfl).trans ?_
          refine ite_congr rfl (fun _ => rfl) (fun _ => ?_)
          refine (sg_go ht_X7_lowest (k := 1) (pc' := 74) (L' := [some (.long v0), none, some (.long v2), none, some (.int v4), some (.long v5), none, some (.long v7), none, some (.int v9), some (.long o10), none]) (st' := [.long (v0 / v5)]) (h' := (HP I A L F E)) rfl).trans ?_
          exact sg_ret ht_X7_lowest rfl rfl
      · refine (sg_go ht_X7_lowest (k := 1) (pc' := 57) (L' := [some (.long v0), none, some (.long v2), none, some (.int v4), some (.long v5), none, some (.long v7), none, some (.int v9), some (.long o10), none]) (st' := [.long (-9223372036854775808)]) (h' := (HP I A L F E)) rfl).trans ?_
        exact sg_ret ht_X7_lowest rfl rfl
    · refine (sg_go ht_X7_lowest (k := 2) (pc' := 30) (L' := [some (.long v0), none, some (.long v2), none, some (.int v4), some (.long v5), none, some (.long v7), none, some (.int v9), some (.long o10), none]) (st' := [.long v7, .long v5]) (h' := (HP I A L F E)) rfl).trans ?_
      refine (sg_ldiv ht_X7_lowest rfl).trans ?_
      refine ite_congr rfl (fun _ => rfl) (fun _ => ?_)
      refine (sg_go ht_X7_lowest (k := 7) (pc' := 12) (L' := [some (.long v0), none, some (.long v2), none, some (.int v4), some (.long v7), none, some (.long (v5 - v5 / v7 * v7)), none, some (.int (v9 + 1)), some (.long (v5 - v5 / v7 * v7)), none]) (st' := []) (h' := (HP I A L F E)) rfl).trans ?_
      rfl
theorem sg_X7_lowest_12 {I : Nat → Int32} {A : Nat → List Int32} {L : Nat → List Int64} {F : Nat → Int64} {E : MH} (v0 : Int64) (v2 : Int64) (v4 : Int32) (v5 : Int64) (v7 : Int64) (v9 : Int32) (o10 : Option Int64) : mm_run G0 103 12 [some (.long v0), none, some (.long v2), none, some (.int v4), some (.long v5), none, some (.long v7), none, some (.int v9), (o10.map Value.long), none] [] (HP I A L F E) = (if 100 ≤ v9 then (if (lg_cmp v5 (0)) ≠ 0 then (if v4 ≠ 0 then (if v5 = 0 then none else some (some (.long (v2 / v5)), (HP I A L F E))) else (if v5 = 0 then none else some (some (.long (v0 / v5)), (HP I A L F E)))) else some (some (.long (-9223372036854775808)), (HP I A L F E))) else (if (lg_cmp v7 (0)) = 0 then (if (lg_cmp v5 (0)) ≠ 0 then (if v4 ≠ 0 then (if v5 = 0 then none else some (some (.long (v2 / v5)), (HP I A L F E))) else (if v5 = 0 then none else some (some (.long (v0 / v5)), (HP I A L F E)))) else some (some (.long (-9223372036854775808)), (HP I A L F E))) else (if v7 = 0 then none else mm_run G0 103 12 [some (.long v0), none, some (.long v2), none, some (.int v4), some (.long v7), none, some (.long (v5 - v5 / v7 * v7)), none, some (.int (v9 + 1)), some (.long (v5 - v5 / v7 * v7)), none] [] (HP I A L F E)))) := by
  match o10 with
  | none => exact sg_X7_lowest_12_v0 v0 v2 v4 v5 v7 v9
  | some o10 => exact sg_X7_lowest_12_v1 v0 v2 v4 v5 v7 v9 o10
set_option maxRecDepth 20000 in
theorem sg_X7_value_0 {I : Nat → Int32} {A : Nat → List Int32} {L : Nat → List Int64} {F : Nat → Int64} {E : MH} (p1 : Int32) (p2 : Int32) : mm_call G0 59 [.ref 1, .int p1, .int p2] (HP I A L F E) = (if ¬ p1 < 0 ∧ ¬ 4 ≤ p1 then (if ¬ p2 < (-20) ∧ ¬ 20 < p2 then ((ldR [some 14, some 16, some 18, some 20] p1).bind fun a1 => (if ¬ (I (100 * a1 + 4)) < 40 then some (some (.int (-4)), (HP I A L F E)) else (if ¬ (I (100 * a1 + 4)) < 40 then some (some (.int (I (100 * a1 + 4))), (HP I A L F E)) else ((stI (A (a1 + 1)) (I (100 * a1 + 4)) p2).bind fun X2 => some (some (.int ((fu I (100 * a1 + 4) ((I (100 * a1 + 4)) + 1)) (100 * a1 + 4))), (HP (fu I (100 * a1 + 4) ((I (100 * a1 + 4)) + 1)) (fu A (a1 + 1) X2) L F E)))))) else some (some (.int (-2)), (HP I A L F E))) else some (some (.int (-1)), (HP I A L F E))) := by
  show mm_run G0 59 0 [some (.ref 1), some (.int p1), some (.int p2), none] [] (HP I A L F E) = _
  refine (sg_go ht_X7_value (k := 1) (pc' := 1) (L' := [some (.ref 1), some (.int p1), some (.int p2), none]) (st' := [.int p1]) (h' := (HP I A L F E)) rfl).trans ?_
  refine (sg_call ht_X7_value (mj := 96) (as := [.int p1]) (rest := []) rfl rfl ⟨by decide, Nat.le_of_ble_eq_true rfl⟩).trans ?_
  refine (bind_eq (sp_X7_isStream p1)).trans ?_
  show mm_run G0 59 4 [some (.ref 1), some (.int p1), some (.int p2), none] [.int (bi (decide (¬ p1 < 0 ∧ ¬ 4 ≤ p1)))] (HP I A L F E) = _
  refine (sg_bn ht_X7_value rfl).trans ?_
  refine ite_congr rfl (fun _ => ?_) (fun _ => ?_)
  · refine (sg_go ht_X7_value (k := 1) (pc' := 10) (L' := [some (.ref 1), some (.int p1), some (.int p2), none]) (st' := [.int p2]) (h' := (HP I A L F E)) rfl).trans ?_
    refine (sg_call ht_X7_value (mj := 100) (as := [.int p2]) (rest := []) rfl rfl ⟨by decide, Nat.le_of_ble_eq_true rfl⟩).trans ?_
    refine (bind_eq (sp_X7_isValue p2)).trans ?_
    show mm_run G0 59 13 [some (.ref 1), some (.int p1), some (.int p2), none] [.int (bi (decide (¬ p2 < (-20) ∧ ¬ 20 < p2)))] (HP I A L F E) = _
    refine (sg_bn ht_X7_value rfl).trans ?_
    refine ite_congr rfl (fun _ => ?_) (fun _ => ?_)
    · refine (sg_go ht_X7_value (k := 4) (pc' := 27) (L' := [some (.ref 1), some (.int p1), some (.int p2), none]) (st' := [.int p1, .ref 3]) (h' := (HP I A L F E)) rfl).trans ?_
      refine (sg_ldR ht_X7_value rfl hp_o_3).trans ?_
      refine bind_cg fun a1 ha1 => ?_
      have ha1 := in_3 ha1
      refine (sg_go ht_X7_value (k := 2) (pc' := 30) (L' := [some (.ref 1), some (.int p1), some (.int p2), some (.ref a1)]) (st' := [.ref a1]) (h' := (HP I A L F E)) rfl).trans ?_
      refine (sg_callV ht_X7_value (mj := 29) (as := [.ref a1]) (rest := []) rfl rfl rfl (Nat.le_of_ble_eq_true rfl) (sS_obj ha1) ⟨by decide, Nat.le_of_ble_eq_true rfl⟩).trans ?_
      refine (bind_eq (sp_X4_isFull ha1)).trans ?_
      show mm_run G0 59 33 [some (.ref 1), some (.int p1), some (.int p2), some (.ref a1)] [.int (bi (decide (¬ (I (100 * a1 + 4)) < 40)))] (HP I A L F E) = _
      refine (sg_be ht_X7_value rfl).trans ?_
      refine ite_congr rfl (fun _ => ?_) (fun _ => ?_)
      · refine (sg_go ht_X7_value (k := 1) (pc' := 38) (L' := [some (.ref 1), some (.int p1), some (.int p2), some (.ref a1)]) (st' := [.int (-4)]) (h' := (HP I A L F E)) rfl).trans ?_
        exact sg_ret ht_X7_value rfl rfl
      · refine (sg_go ht_X7_value (k := 2) (pc' := 41) (L' := [some (.ref 1), some (.int p1), some (.int p2), some (.ref a1)]) (st' := [.int p2, .ref a1]) (h' := (HP I A L F E)) rfl).trans ?_
        refine (sg_callV ht_X7_value (mj := 31) (as := [.ref a1, .int p2]) (rest := []) rfl rfl rfl (Nat.le_of_ble_eq_true rfl) (sS_obj ha1) ⟨by decide, Nat.le_of_ble_eq_true rfl⟩).trans ?_
        refine (bind_eq (sg_X4_add_0 ha1 p2)).trans ?_
        refine ite_bd.trans ?_
        refine ite_congr rfl (fun _ => ?_) (fun _ => ?_)
        · show mm_run G0 59 44 [some (.ref 1), some (.int p1), some (.int p2), some (.ref a1)] [] (HP I A L F E) = _
          refine (sg_go ht_X7_value (k := 1) (pc' := 45) (L' := [some (.ref 1), some (.int p1), some (.int p2), some (.ref a1)]) (st' := [.ref a1]) (h' := (HP I A L F E)) rfl).trans ?_
          refine (sg_getI ht_X7_value rfl (sS_obj ha1) rfl).trans ?_
          exact sg_ret ht_X7_value rfl rfl
        · refine bind_as.trans ?_
          refine bind_cg fun X2 hX2 => ?_
          show mm_run G0 59 44 [some (.ref 1), some (.int p1), some (.int p2), some (.ref a1)] [] (HP (fu I (100 * a1 + 4) ((I (100 * a1 + 4)) + 1)) (fu A (a1 + 1) X2) L F E) = _
          refine (sg_go ht_X7_value (k := 1) (pc' := 45) (L' := [some (.ref 1), some (.int p1), some (.int p2), some (.ref a1)]) (st' := [.ref a1]) (h' := (HP (fu I (100 * a1 + 4) ((I (100 * a1 + 4)) + 1)) (fu A (a1 + 1) X2) L F E)) rfl).trans ?_
          refine (sg_getI ht_X7_value rfl (sS_obj ha1) rfl).trans ?_
          exact sg_ret ht_X7_value rfl rfl
    · refine (sg_go ht_X7_value (k := 1) (pc' := 18) (L' := [some (.ref 1), some (.int p1), some (.int p2), none]) (st' := [.int (-2)]) (h' := (HP I A L F E)) rfl).trans ?_
      exact sg_ret ht_X7_value rfl rfl
  · refine (sg_go ht_X7_value (k := 1) (pc' := 8) (L' := [some (.ref 1), some (.int p1), some (.int p2), none]) (st' := [.int (-1)]) (h' := (HP I A L F E)) rfl).trans ?_
    exact sg_ret ht_X7_value rfl rfl
set_option maxRecDepth 20000 in
theorem sg_X7_drop_0 {I : Nat → Int32} {A : Nat → List Int32} {L : Nat → List Int64} {F : Nat → Int64} {E : MH} (p1 : Int32) : mm_call G0 60 [.ref 1, .int p1] (HP I A L F E) = (if ¬ p1 < 0 ∧ ¬ 4 ≤ p1 then ((ldR [some 14, some 16, some 18, some 20] p1).bind fun a1 => (if (I (100 * a1 + 4)) ≠ 0 then some (some (.int ((fu I (100 * a1 + 4) ((I (100 * a1 + 4)) - 1)) (100 * a1 + 4))), (HP (fu I (100 * a1 + 4) ((I (100 * a1 + 4)) - 1)) A L F E)) else some (some (.int (-3)), (HP I A L F E)))) else some (some (.int (-1)), (HP I A L F E))) := by
  show mm_run G0 60 0 [some (.ref 1), some (.int p1), none] [] (HP I A L F E) = _
  refine (sg_go ht_X7_drop (k := 1) (pc' := 1) (L' := [some (.ref 1), some (.int p1), none]) (st' := [.int p1]) (h' := (HP I A L F E)) rfl).trans ?_
  refine (sg_call ht_X7_drop (mj := 96) (as := [.int p1]) (rest := []) rfl rfl ⟨by decide, Nat.le_of_ble_eq_true rfl⟩).trans ?_
  refine (bind_eq (sp_X7_isStream p1)).trans ?_
  show mm_run G0 60 4 [some (.ref 1), some (.int p1), none] [.int (bi (decide (¬ p1 < 0 ∧ ¬ 4 ≤ p1)))] (HP I A L F E) = _
  refine (sg_bn ht_X7_drop rfl).trans ?_
  refine ite_congr rfl (fun _ => ?_) (fun _ => ?_)
  · refine (sg_go ht_X7_drop (k := 4) (pc' := 17) (L' := [some (.ref 1), some (.int p1), none]) (st' := [.int p1, .ref 3]) (h' := (HP I A L F E)) rfl).trans ?_
    refine (sg_ldR ht_X7_drop rfl hp_o_3).trans ?_
    refine bind_cg fun a1 ha1 => ?_
    have ha1 := in_3 ha1
    refine (sg_go ht_X7_drop (k := 2) (pc' := 20) (L' := [some (.ref 1), some (.int p1), some (.ref a1)]) (st' := [.ref a1]) (h' := (HP I A L F E)) rfl).trans ?_
    refine (sg_getI ht_X7_drop rfl (sS_obj ha1) rfl).trans ?_
    refine (sg_if ht_X7_drop rfl).trans ?_
    refine ite_congr rfl (fun _ => ?_) (fun _ => ?_)
    · refine (sg_go ht_X7_drop (k := 2) (pc' := 31) (L' := [some (.ref 1), some (.int p1), some (.ref a1)]) (st' := [.ref a1, .ref a1]) (h' := (HP I A L F E)) rfl).trans ?_
      refine (sg_getI ht_X7_drop rfl (sS_obj ha1) rfl).trans ?_
      refine (sg_go ht_X7_drop (k := 2) (pc' := 36) (L' := [some (.ref 1), some (.int p1), some (.ref a1)]) (st' := [.int ((I (100 * a1 + 4)) - 1), .ref a1]) (h' := (HP I A L F E)) rfl).trans ?_
      refine (sg_putI (h' := (HP (fu I (100 * a1 + 4) ((I (100 * a1 + 4)) - 1)) A L F E)) ht_X7_drop rfl (sS_obj ha1) (Nat.le_of_ble_eq_true rfl) (sS_put4 ha1)).trans ?_
      refine (sg_go ht_X7_drop (k := 1) (pc' := 40) (L' := [some (.ref 1), some (.int p1), some (.ref a1)]) (st' := [.ref a1]) (h' := (HP (fu I (100 * a1 + 4) ((I (100 * a1 + 4)) - 1)) A L F E)) rfl).trans ?_
      refine (sg_getI ht_X7_drop rfl (sS_obj ha1) rfl).trans ?_
      exact sg_ret ht_X7_drop rfl rfl
    · refine (sg_go ht_X7_drop (k := 1) (pc' := 28) (L' := [some (.ref 1), some (.int p1), some (.ref a1)]) (st' := [.int (-3)]) (h' := (HP I A L F E)) rfl).trans ?_
      exact sg_ret ht_X7_drop rfl rfl
  · refine (sg_go ht_X7_drop (k := 1) (pc' := 8) (L' := [some (.ref 1), some (.int p1), none]) (st' := [.int (-1)]) (h' := (HP I A L F E)) rfl).trans ?_
    exact sg_ret ht_X7_drop rfl rfl
set_option maxRecDepth 20000 in
theorem sg_X7_set_0 {I : Nat → Int32} {A : Nat → List Int32} {L : Nat → List Int64} {F : Nat → Int64} {E : MH} (p1 : Int32) (p2 : Int32) (p3 : Int32) : mm_call G0 61 [.ref 1, .int p1, .int p2, .int p3] (HP I A L F E) = (if ¬ p1 < 0 ∧ ¬ 4 ≤ p1 then (if okS p2 p3 = true then ((ldR [some 14, some 16, some 18, some 20] p1).bind fun a1 => (if p2 = 0 then some (some (.long ((stg (I (100 * a1 + 0)) (I (100 * a1 + 1)) (I (100 * a1 + 2)) (I (100 * a1 + 3)) (I (100 * a1 + 4)) p2)).toInt64), (HP (fu I (100 * a1 + 0) p3) A L F E)) else (if p2 = 1 then some (some (.long ((stg (I (100 * a1 + 0)) (I (100 * a1 + 1)) (I (100 * a1 + 2)) (I (100 * a1 + 3)) (I (100 * a1 + 4)) p2)).toInt64), (HP (fu I (100 * a1 + 1) p3) A L F E)) else (if p2 = 2 then some (some (.long ((stg (I (100 * a1 + 0)) (I (100 * a1 + 1)) (I (100 * a1 + 2)) (I (100 * a1 + 3)) (I (100 * a1 + 4)) p2)).toInt64), (HP (fu I (100 * a1 + 2) p3) A L F E)) else (if p2 = 3 then some (some (.long ((stg (I (100 * a1 + 0)) (I (100 * a1 + 1)) (I (100 * a1 + 2)) (I (100 * a1 + 3)) (I (100 * a1 + 4)) p2)).toInt64), (HP (fu I (100 * a1 + 3) p3) A L F E)) else some (some (.long ((stg (I (100 * a1 + 0)) (I (100 * a1 + 1)) (I (100 * a1 + 2)) (I (100 * a1 + 3)) (I (100 * a1 + 4)) p2)).toInt64), (HP I A L F E))))))) else some (some (.long (-9223372036854775808)), (HP I A L F E))) else some (some (.long (-9223372036854775808)), (HP I A L F E))) := by
  show mm_run G0 61 0 [some (.ref 1), some (.int p1), some (.int p2), some (.int p3), none, none, none] [] (HP I A L F E) = _
  refine (sg_go ht_X7_set (k := 1) (pc' := 1) (L' := [some (.ref 1), some (.int p1), some (.int p2), some (.int p3), none, none, none]) (st' := [.int p1]) (h' := (HP I A L F E)) rfl).trans ?_
  refine (sg_call ht_X7_set (mj := 96) (as := [.int p1]) (rest := []) rfl rfl ⟨by decide, Nat.le_of_ble_eq_true rfl⟩).trans ?_
  refine (bind_eq (sp_X7_isStream p1)).trans ?_
  show mm_run G0 61 4 [some (.ref 1), some (.int p1), some (.int p2), some (.int p3), none, none, none] [.int (bi (decide (¬ p1 < 0 ∧ ¬ 4 ≤ p1)))] (HP I A L F E) = _
  refine (sg_be ht_X7_set rfl).trans ?_
  refine ite_congr rfl (fun _ => ?_) (fun _ => ?_)
  · refine (sg_go ht_X7_set (k := 2) (pc' := 9) (L' := [some (.ref 1), some (.int p1), some (.int p2), some (.int p3), none, none, none]) (st' := [.int p3, .int p2]) (h' := (HP I A L F E)) rfl).trans ?_
    refine (sg_call ht_X7_set (mj := 101) (as := [.int p2, .int p3]) (rest := []) rfl rfl ⟨by decide, Nat.le_of_ble_eq_true rfl⟩).trans ?_
    refine (bind_eq (sp_X7_isSetting p2 p3)).trans ?_
    show mm_run G0 61 12 [some (.ref 1), some (.int p1), some (.int p2), some (.int p3), none, none, none] [.int (bi (okS p2 p3))] (HP I A L F E) = _
    refine (sg_bnB ht_X7_set rfl).trans ?_
    refine ite_congr rfl (fun _ => ?_) (fun _ => ?_)
    · refine (sg_go ht_X7_set (k := 4) (pc' := 27) (L' := [some (.ref 1), some (.int p1), some (.int p2), some (.int p3), none, none, none]) (st' := [.int p1, .ref 3]) (h' := (HP I A L F E)) rfl).trans ?_
      refine (sg_ldR ht_X7_set rfl hp_o_3).trans ?_
      refine bind_cg fun a1 ha1 => ?_
      have ha1 := in_3 ha1
      refine (sg_go ht_X7_set (k := 3) (pc' := 33) (L' := [some (.ref 1), some (.int p1), some (.int p2), some (.int p3), some (.ref a1), none, none]) (st' := [.int p2, .ref a1]) (h' := (HP I A L F E)) rfl).trans ?_
      refine (sg_callV ht_X7_set (mj := 34) (as := [.ref a1, .int p2]) (rest := []) rfl rfl rfl (Nat.le_of_ble_eq_true rfl) (sS_obj ha1) ⟨by decide, Nat.le_of_ble_eq_true rfl⟩).trans ?_
      refine (bind_eq (sp_X4_setting ha1 p2)).trans ?_
      show mm_run G0 61 36 [some (.ref 1), some (.int p1), some (.int p2), some (.int p3), some (.ref a1), none, none] [.int (stg (I (100 * a1 + 0)) (I (100 * a1 + 1)) (I (100 * a1 + 2)) (I (100 * a1 + 3)) (I (100 * a1 + 4)) p2)] (HP I A L F E) = _
      refine (sg_go ht_X7_set (k := 5) (pc' := 43) (L' := [some (.ref 1), some (.int p1), some (.int p2), some (.int p3), some (.ref a1), some (.long ((stg (I (100 * a1 + 0)) (I (100 * a1 + 1)) (I (100 * a1 + 2)) (I (100 * a1 + 3)) (I (100 * a1 + 4)) p2)).toInt64), none]) (st' := [.int p3, .int p2, .ref a1]) (h' := (HP I A L F E)) rfl).trans ?_
      refine (sg_callV ht_X7_set (mj := 35) (as := [.ref a1, .int p2, .int p3]) (rest := []) rfl rfl rfl (Nat.le_of_ble_eq_true rfl) (sS_obj ha1) ⟨by decide, Nat.le_of_ble_eq_true rfl⟩).trans ?_
      refine (bind_eq (sg_X4_settle_0 ha1 p2 p3)).trans ?_
      refine ite_bd.trans ?_
      refine ite_congr rfl (fun _ => ?_) (fun _ => ?_)
      · show mm_run G0 61 46 [some (.ref 1), some (.int p1), some (.int p2), some (.int p3), some (.ref a1), some (.long ((stg (I (100 * a1 + 0)) (I (100 * a1 + 1)) (I (100 * a1 + 2)) (I (100 * a1 + 3)) (I (100 * a1 + 4)) p2)).toInt64), none] [] (HP (fu I (100 * a1 + 0) p3) A L F E) = _
        refine (sg_go ht_X7_set (k := 1) (pc' := 48) (L' := [some (.ref 1), some (.int p1), some (.int p2), some (.int p3), some (.ref a1), some (.long ((stg (I (100 * a1 + 0)) (I (100 * a1 + 1)) (I (100 * a1 + 2)) (I (100 * a1 + 3)) (I (100 * a1 + 4)) p2)).toInt64), none]) (st' := [.long ((stg (I (100 * a1 + 0)) (I (100 * a1 + 1)) (I (100 * a1 + 2)) (I (100 * a1 + 3)) (I (100 * a1 + 4)) p2)).toInt64]) (h' := (HP (fu I (100 * a1 + 0) p3) A L F E)) rfl).trans ?_
        exact sg_ret ht_X7_set rfl rfl
      · refine ite_bd.trans ?_
        refine ite_congr rfl (fun _ => ?_) (fun _ => ?_)
        · show mm_run G0 61 46 [some (.ref 1), some (.int p1), some (.int p2), some (.int p3), some (.ref a1), some (.long ((stg (I (100 * a1 + 0)) (I (100 * a1 + 1)) (I (100 * a1 + 2)) (I (100 * a1 + 3)) (I (100 * a1 + 4)) p2)).toInt64), none] [] (HP (fu I (100 * a1 + 1) p3) A L F E) = _
          refine (sg_go ht_X7_set (k := 1) (pc' := 48) (L' := [some (.ref 1), some (.int p1), some (.int p2), some (.int p3), some (.ref a1), some (.long ((stg (I (100 * a1 + 0)) (I (100 * a1 + 1)) (I (100 * a1 + 2)) (I (100 * a1 + 3)) (I (100 * a1 + 4)) p2)).toInt64), none]) (st' := [.long ((stg (I (100 * a1 + 0)) (I (100 * a1 + 1)) (I (100 * a1 + 2)) (I (100 * a1 + 3)) (I (100 * a1 + 4)) p2)).toInt64]) (h' := (HP (fu I (100 * a1 + 1) p3) A L F E)) rfl).trans ?_
          exact sg_ret ht_X7_set rfl rfl
        · refine ite_bd.trans ?_
          refine ite_congr rfl (fun _ => ?_) (fun _ => ?_)
          · show mm_run G0 61 46 [some (.ref 1), some (.int p1), some (.int p2), some (.int p3), some (.ref a1), some (.long ((stg (I (100 * a1 + 0)) (I (100 * a1 + 1)) (I (100 * a1 + 2)) (I (100 * a1 + 3)) (I (100 * a1 + 4)) p2)).toInt64), none] [] (HP (fu I (100 * a1 + 2) p3) A L F E) = _
            refine (sg_go ht_X7_set (k := 1) (pc' := 48) (L' := [some (.ref 1), some (.int p1), some (.int p2), some (.int p3), some (.ref a1), some (.long ((stg (I (100 * a1 + 0)) (I (100 * a1 + 1)) (I (100 * a1 + 2)) (I (100 * a1 + 3)) (I (100 * a1 + 4)) p2)).toInt64), none]) (st' := [.long ((stg (I (100 * a1 + 0)) (I (100 * a1 + 1)) (I (100 * a1 + 2)) (I (100 * a1 + 3)) (I (100 * a1 + 4)) p2)).toInt64]) (h' := (HP (fu I (100 * a1 + 2) p3) A L F E)) rfl).trans ?_
            exact sg_ret ht_X7_set rfl rfl
          · refine ite_bd.trans ?_
            refine ite_congr rfl (fun _ => ?_) (fun _ => ?_)
            · show mm_run G0 61 46 [some (.ref 1), some (.int p1), some (.int p2), some (.int p3), some (.ref a1), some (.long ((stg (I (100 * a1 + 0)) (I (100 * a1 + 1)) (I (100 * a1 + 2)) (I (100 * a1 + 3)) (I (100 * a1 + 4)) p2)).toInt64), none] [] (HP (fu I (100 * a1 + 3) p3) A L F E) = _
              refine (sg_go ht_X7_set (k := 1) (pc' := 48) (L' := [some (.ref 1), some (.int p1), some (.int p2), some (.int p3), some (.ref a1), some (.long ((stg (I (100 * a1 + 0)) (I (100 * a1 + 1)) (I (100 * a1 + 2)) (I (100 * a1 + 3)) (I (100 * a1 + 4)) p2)).toInt64), none]) (st' := [.long ((stg (I (100 * a1 + 0)) (I (100 * a1 + 1)) (I (100 * a1 + 2)) (I (100 * a1 + 3)) (I (100 * a1 + 4)) p2)).toInt64]) (h' := (HP (fu I (100 * a1 + 3) p3) A L F E)) rfl).trans ?_
              exact sg_ret ht_X7_set rfl rfl
            · show mm_run G0 61 46 [some (.ref 1), some (.int p1), some (.int p2), some (.int p3), some (.ref a1), some (.long ((stg (I (100 * a1 + 0)) (I (100 * a1 + 1)) (I (100 * a1 + 2)) (I (100 * a1 + 3)) (I (100 * a1 + 4)) p2)).toInt64), none] [] (HP I A L F E) = _
              refine (sg_go ht_X7_set (k := 1) (pc' := 48) (L' := [some (.ref 1), some (.int p1), some (.int p2), some (.int p3), some (.ref a1), some (.long ((stg (I (100 * a1 + 0)) (I (100 * a1 + 1)) (I (100 * a1 + 2)) (I (100 * a1 + 3)) (I (100 * a1 + 4)) p2)).toInt64), none]) (st' := [.long ((stg (I (100 * a1 + 0)) (I (100 * a1 + 1)) (I (100 * a1 + 2)) (I (100 * a1 + 3)) (I (100 * a1 + 4)) p2)).toInt64]) (h' := (HP I A L F E)) rfl).trans ?_
              exact sg_ret ht_X7_set rfl rfl
    · refine (sg_go ht_X7_set (k := 1) (pc' := 18) (L' := [some (.ref 1), some (.int p1), some (.int p2), some (.int p3), none, none, none]) (st' := [.long (-9223372036854775808)]) (h' := (HP I A L F E)) rfl).trans ?_
      exact sg_ret ht_X7_set rfl rfl
  · refine (sg_go ht_X7_set (k := 1) (pc' := 18) (L' := [some (.ref 1), some (.int p1), some (.int p2), some (.int p3), none, none, none]) (st' := [.long (-9223372036854775808)]) (h' := (HP I A L F E)) rfl).trans ?_
    exact sg_ret ht_X7_set rfl rfl
set_option maxRecDepth 20000 in
theorem sg_X7_of_0 {I : Nat → Int32} {A : Nat → List Int32} {L : Nat → List Int64} {F : Nat → Int64} {E : MH} (p1 : Int32) (p2 : Int32) : mm_call G0 62 [.ref 1, .int p1, .int p2] (HP I A L F E) = (if ¬ p1 < 0 ∧ ¬ 4 ≤ p1 then (if p2 < 0 then some (some (.long (-9223372036854775808)), (HP I A L F E)) else (if p2 ≤ 5 then ((ldR [some 14, some 16, some 18, some 20] p1).bind fun a1 => some (some (.long ((stg (I (100 * a1 + 0)) (I (100 * a1 + 1)) (I (100 * a1 + 2)) (I (100 * a1 + 3)) (I (100 * a1 + 4)) p2)).toInt64), (HP I A L F E))) else some (some (.long (-9223372036854775808)), (HP I A L F E)))) else some (some (.long (-9223372036854775808)), (HP I A L F E))) := by
  show mm_run G0 62 0 [some (.ref 1), some (.int p1), some (.int p2)] [] (HP I A L F E) = _
  refine (sg_go ht_X7_of (k := 1) (pc' := 1) (L' := [some (.ref 1), some (.int p1), some (.int p2)]) (st' := [.int p1]) (h' := (HP I A L F E)) rfl).trans ?_
  refine (sg_call ht_X7_of (mj := 96) (as := [.int p1]) (rest := []) rfl rfl ⟨by decide, Nat.le_of_ble_eq_true rfl⟩).trans ?_
  refine (bind_eq (sp_X7_isStream p1)).trans ?_
  show mm_run G0 62 4 [some (.ref 1), some (.int p1), some (.int p2)] [.int (bi (decide (¬ p1 < 0 ∧ ¬ 4 ≤ p1)))] (HP I A L F E) = _
  refine (sg_be ht_X7_of rfl).trans ?_
  refine ite_congr rfl (fun _ => ?_) (fun _ => ?_)
  · refine (sg_go ht_X7_of (k := 1) (pc' := 8) (L' := [some (.ref 1), some (.int p1), some (.int p2)]) (st' := [.int p2]) (h' := (HP I A L F E)) rfl).trans ?_
    refine (sg_if ht_X7_of rfl).trans ?_
    refine ite_congr rfl (fun _ => ?_) (fun _ => ?_)
    · refine (sg_go ht_X7_of (k := 1) (pc' := 19) (L' := [some (.ref 1), some (.int p1), some (.int p2)]) (st' := [.long (-9223372036854775808)]) (h' := (HP I A L F E)) rfl).trans ?_
      exact sg_ret ht_X7_of rfl rfl
    · refine (sg_go ht_X7_of (k := 2) (pc' := 13) (L' := [some (.ref 1), some (.int p1), some (.int p2)]) (st' := [.int 5, .int p2]) (h' := (HP I A L F E)) rfl).trans ?_
      refine (sg_cmp ht_X7_of rfl).trans ?_
      refine ite_congr rfl (fun _ => ?_) (fun _ => ?_)
      · refine (sg_go ht_X7_of (k := 4) (pc' := 28) (L' := [some (.ref 1), some (.int p1), some (.int p2)]) (st' := [.int p1, .ref 3]) (h' := (HP I A L F E)) rfl).trans ?_
        refine (sg_ldR ht_X7_of rfl hp_o_3).trans ?_
        refine bind_cg fun a1 ha1 => ?_
        have ha1 := in_3 ha1
        refine (sg_go ht_X7_of (k := 1) (pc' := 30) (L' := [some (.ref 1), some (.int p1), some (.int p2)]) (st' := [.int p2, .ref a1]) (h' := (HP I A L F E)) rfl).trans ?_
        refine (sg_callV ht_X7_of (mj := 34) (as := [.ref a1, .int p2]) (rest := []) rfl rfl rfl (Nat.le_of_ble_eq_true rfl) (sS_obj ha1) ⟨by decide, Nat.le_of_ble_eq_true rfl⟩).trans ?_
        refine (bind_eq (sp_X4_setting ha1 p2)).trans ?_
        show mm_run G0 62 33 [some (.ref 1), some (.int p1), some (.int p2)] [.int (stg (I (100 * a1 + 0)) (I (100 * a1 + 1)) (I (100 * a1 + 2)) (I (100 * a1 + 3)) (I (100 * a1 + 4)) p2)] (HP I A L F E) = _
        refine (sg_go ht_X7_of (k := 1) (pc' := 34) (L' := [some (.ref 1), some (.int p1), some (.int p2)]) (st' := [.long ((stg (I (100 * a1 + 0)) (I (100 * a1 + 1)) (I (100 * a1 + 2)) (I (100 * a1 + 3)) (I (100 * a1 + 4)) p2)).toInt64]) (h' := (HP I A L F E)) rfl).trans ?_
        exact sg_ret ht_X7_of rfl rfl
      · refine (sg_go ht_X7_of (k := 1) (pc' := 19) (L' := [some (.ref 1), some (.int p1), some (.int p2)]) (st' := [.long (-9223372036854775808)]) (h' := (HP I A L F E)) rfl).trans ?_
        exact sg_ret ht_X7_of rfl rfl
  · refine (sg_go ht_X7_of (k := 1) (pc' := 19) (L' := [some (.ref 1), some (.int p1), some (.int p2)]) (st' := [.long (-9223372036854775808)]) (h' := (HP I A L F E)) rfl).trans ?_
    exact sg_ret ht_X7_of rfl rfl
set_option maxRecDepth 20000 in
theorem sg_X7_at_0 {I : Nat → Int32} {A : Nat → List Int32} {L : Nat → List Int64} {F : Nat → Int64} {E : MH} (p1 : Int32) (p2 : Int32) : mm_call G0 63 [.ref 1, .int p1, .int p2] (HP I A L F E) = (if ¬ p1 < 0 ∧ ¬ 4 ≤ p1 then ((ldR [some 14, some 16, some 18, some 20] p1).bind fun a1 => (if ¬ p2 < 0 ∧ ¬ (I (100 * a1 + 4)) ≤ p2 then ((ldR [some 14, some 16, some 18, some 20] p1).bind fun a2 => ((ldI (A (a2 + 1)) p2).bind fun x3 => some (some (.long (x3).toInt64), (HP I A L F E)))) else some (some (.long (-9223372036854775808)), (HP I A L F E)))) else some (some (.long (-9223372036854775808)), (HP I A L F E))) := by
  show mm_run G0 63 0 [some (.ref 1), some (.int p1), some (.int p2)] [] (HP I A L F E) = _
  refine (sg_go ht_X7_at (k := 1) (pc' := 1) (L' := [some (.ref 1), some (.int p1), some (.int p2)]) (st' := [.int p1]) (h' := (HP I A L F E)) rfl).trans ?_
  refine (sg_call ht_X7_at (mj := 96) (as := [.int p1]) (rest := []) rfl rfl ⟨by decide, Nat.le_of_ble_eq_true rfl⟩).trans ?_
  refine (bind_eq (sp_X7_isStream p1)).trans ?_
  show mm_run G0 63 4 [some (.ref 1), some (.int p1), some (.int p2)] [.int (bi (decide (¬ p1 < 0 ∧ ¬ 4 ≤ p1)))] (HP I A L F E) = _
  refine (sg_be ht_X7_at rfl).trans ?_
  refine ite_congr rfl (fun _ => ?_) (fun _ => ?_)
  · refine (sg_go ht_X7_at (k := 4) (pc' := 15) (L' := [some (.ref 1), some (.int p1), some (.int p2)]) (st' := [.int p1, .ref 3]) (h' := (HP I A L F E)) rfl).trans ?_
    refine (sg_ldR ht_X7_at rfl hp_o_3).trans ?_
    refine bind_cg fun a1 ha1 => ?_
    have ha1 := in_3 ha1
    refine (sg_go ht_X7_at (k := 1) (pc' := 17) (L' := [some (.ref 1), some (.int p1), some (.int p2)]) (st' := [.int p2, .ref a1]) (h' := (HP I A L F E)) rfl).trans ?_
    refine (sg_callV ht_X7_at (mj := 30) (as := [.ref a1, .int p2]) (rest := []) rfl rfl rfl (Nat.le_of_ble_eq_true rfl) (sS_obj ha1) ⟨by decide, Nat.le_of_ble_eq_true rfl⟩).trans ?_
    refine (bind_eq (sp_X4_has ha1 p2)).trans ?_
    show mm_run G0 63 20 [some (.ref 1), some (.int p1), some (.int p2)] [.int (bi (decide (¬ p2 < 0 ∧ ¬ (I (100 * a1 + 4)) ≤ p2)))] (HP I A L F E) = _
    refine (sg_bn ht_X7_at rfl).trans ?_
    refine ite_congr rfl (fun _ => ?_) (fun _ => ?_)
    · refine (sg_go ht_X7_at (k := 4) (pc' := 35) (L' := [some (.ref 1), some (.int p1), some (.int p2)]) (st' := [.int p1, .ref 3]) (h' := (HP I A L F E)) rfl).trans ?_
      refine (sg_ldR ht_X7_at rfl hp_o_3).trans ?_
      refine bind_cg fun a2 ha2 => ?_
      have ha2 := in_3 ha2
      refine (sg_getR ht_X7_at rfl (sS_obj ha2) rfl).trans ?_
      refine (sg_go ht_X7_at (k := 1) (pc' := 40) (L' := [some (.ref 1), some (.int p1), some (.int p2)]) (st' := [.int p2, .ref (a2 + 1)]) (h' := (HP I A L F E)) rfl).trans ?_
      refine (sg_ldI ht_X7_at rfl (sS_ar1 ha2)).trans ?_
      refine bind_cg fun x3 hx3 => ?_
      refine (sg_go ht_X7_at (k := 1) (pc' := 42) (L' := [some (.ref 1), some (.int p1), some (.int p2)]) (st' := [.long (x3).toInt64]) (h' := (HP I A L F E)) rfl).trans ?_
      exact sg_ret ht_X7_at rfl rfl
    · refine (sg_go ht_X7_at (k := 1) (pc' := 26) (L' := [some (.ref 1), some (.int p1), some (.int p2)]) (st' := [.long (-9223372036854775808)]) (h' := (HP I A L F E)) rfl).trans ?_
      exact sg_ret ht_X7_at rfl rfl
  · refine (sg_go ht_X7_at (k := 1) (pc' := 26) (L' := [some (.ref 1), some (.int p1), some (.int p2)]) (st' := [.long (-9223372036854775808)]) (h' := (HP I A L F E)) rfl).trans ?_
    exact sg_ret ht_X7_at rfl rfl
set_option maxRecDepth 20000 in
theorem sg_X7_off_0 {I : Nat → Int32} {A : Nat → List Int32} {L : Nat → List Int64} {F : Nat → Int64} {E : MH} (p1 : Int32) (p2 : Int32) : mm_call G0 64 [.ref 1, .int p1, .int p2] (HP I A L F E) = (if ¬ p1 < 0 ∧ ¬ 4 ≤ p1 then ((ldR [some 14, some 16, some 18, some 20] p1).bind fun a1 => (if ¬ p2 < 0 ∧ ¬ (I (100 * a1 + 4)) ≤ p2 then ((ldR [some 14, some 16, some 18, some 20] p1).bind fun a2 => ((ldI (A (a2 + 1)) p2).bind fun x3 => some (some (.long ((ofv (I (100 * a2 + 0)) (x3 - (I (100 * a2 + 1))))).toInt64), (HP I A L F E)))) else some (some (.long (-9223372036854775808)), (HP I A L F E)))) else some (some (.long (-9223372036854775808)), (HP I A L F E))) := by
  show mm_run G0 64 0 [some (.ref 1), some (.int p1), some (.int p2)] [] (HP I A L F E) = _
  refine (sg_go ht_X7_off (k := 1) (pc' := 1) (L' := [some (.ref 1), some (.int p1), some (.int p2)]) (st' := [.int p1]) (h' := (HP I A L F E)) rfl).trans ?_
  refine (sg_call ht_X7_off (mj := 96) (as := [.int p1]) (rest := []) rfl rfl ⟨by decide, Nat.le_of_ble_eq_true rfl⟩).trans ?_
  refine (bind_eq (sp_X7_isStream p1)).trans ?_
  show mm_run G0 64 4 [some (.ref 1), some (.int p1), some (.int p2)] [.int (bi (decide (¬ p1 < 0 ∧ ¬ 4 ≤ p1)))] (HP I A L F E) = _
  refine (sg_be ht_X7_off rfl).trans ?_
  refine ite_congr rfl (fun _ => ?_) (fun _ => ?_)
  · refine (sg_go ht_X7_off (k := 4) (pc' := 15) (L' := [some (.ref 1), some (.int p1), some (.int p2)]) (st' := [.int p1, .ref 3]) (h' := (HP I A L F E)) rfl).trans ?_
    refine (sg_ldR ht_X7_off rfl hp_o_3).trans ?_
    refine bind_cg fun a1 ha1 => ?_
    have ha1 := in_3 ha1
    refine (sg_go ht_X7_off (k := 1) (pc' := 17) (L' := [some (.ref 1), some (.int p1), some (.int p2)]) (st' := [.int p2, .ref a1]) (h' := (HP I A L F E)) rfl).trans ?_
    refine (sg_callV ht_X7_off (mj := 30) (as := [.ref a1, .int p2]) (rest := []) rfl rfl rfl (Nat.le_of_ble_eq_true rfl) (sS_obj ha1) ⟨by decide, Nat.le_of_ble_eq_true rfl⟩).trans ?_
    refine (bind_eq (sp_X4_has ha1 p2)).trans ?_
    show mm_run G0 64 20 [some (.ref 1), some (.int p1), some (.int p2)] [.int (bi (decide (¬ p2 < 0 ∧ ¬ (I (100 * a1 + 4)) ≤ p2)))] (HP I A L F E) = _
    refine (sg_bn ht_X7_off rfl).trans ?_
    refine ite_congr rfl (fun _ => ?_) (fun _ => ?_)
    · refine (sg_go ht_X7_off (k := 4) (pc' := 35) (L' := [some (.ref 1), some (.int p1), some (.int p2)]) (st' := [.int p1, .ref 3]) (h' := (HP I A L F E)) rfl).trans ?_
      refine (sg_ldR ht_X7_off rfl hp_o_3).trans ?_
      refine bind_cg fun a2 ha2 => ?_
      have ha2 := in_3 ha2
      refine (sg_go ht_X7_off (k := 1) (pc' := 37) (L' := [some (.ref 1), some (.int p1), some (.int p2)]) (st' := [.int p2, .ref a2]) (h' := (HP I A L F E)) rfl).trans ?_
      refine (sg_callV ht_X7_off (mj := 37) (as := [.ref a2, .int p2]) (rest := []) rfl rfl rfl (Nat.le_of_ble_eq_true rfl) (sS_obj ha2) ⟨by decide, Nat.le_of_ble_eq_true rfl⟩).trans ?_
      refine (bind_eq (sp_X4_offset ha2 p2)).trans ?_
      refine bind_as.trans ?_
      refine bind_cg fun x3 hx3 => ?_
      show mm_run G0 64 40 [some (.ref 1), some (.int p1), some (.int p2)] [.int (ofv (I (100 * a2 + 0)) (x3 - (I (100 * a2 + 1))))] (HP I A L F E) = _
      refine (sg_go ht_X7_off (k := 1) (pc' := 41) (L' := [some (.ref 1), some (.int p1), some (.int p2)]) (st' := [.long ((ofv (I (100 * a2 + 0)) (x3 - (I (100 * a2 + 1))))).toInt64]) (h' := (HP I A L F E)) rfl).trans ?_
      exact sg_ret ht_X7_off rfl rfl
    · refine (sg_go ht_X7_off (k := 1) (pc' := 26) (L' := [some (.ref 1), some (.int p1), some (.int p2)]) (st' := [.long (-9223372036854775808)]) (h' := (HP I A L F E)) rfl).trans ?_
      exact sg_ret ht_X7_off rfl rfl
  · refine (sg_go ht_X7_off (k := 1) (pc' := 26) (L' := [some (.ref 1), some (.int p1), some (.int p2)]) (st' := [.long (-9223372036854775808)]) (h' := (HP I A L F E)) rfl).trans ?_
    exact sg_ret ht_X7_off rfl rfl
set_option maxRecDepth 20000 in
theorem sg_X7_feed_0 {I : Nat → Int32} {A : Nat → List Int32} {L : Nat → List Int64} {F : Nat → Int64} {E : MH} (p1 : Int32) : mm_call G0 65 [.ref 1, .int p1] (HP I A L F E) = (if p1 < 0 then some (some (.int (-2)), (HP I A L F E)) else (if p1 ≤ 127 then (if (I 4201) < 100 then ((mm_call G0 49 [.ref 42, .int p1] (HP I A L F E)).bind fun q => mm_run G0 65 36 [some (.ref 1), some (.int p1)] (q.1.toList ++ []) q.2) else some (some (.int (-4)), (HP I A L F E))) else some (some (.int (-2)), (HP I A L F E)))) := by
  show mm_run G0 65 0 [some (.ref 1), some (.int p1)] [] (HP I A L F E) = _
  refine (sg_go ht_X7_feed (k := 1) (pc' := 1) (L' := [some (.ref 1), some (.int p1)]) (st' := [.int p1]) (h' := (HP I A L F E)) rfl).trans ?_
  refine (sg_if ht_X7_feed rfl).trans ?_
  refine ite_congr rfl (fun _ => ?_) (fun _ => ?_)
  · refine (sg_go ht_X7_feed (k := 1) (pc' := 12) (L' := [some (.ref 1), some (.int p1)]) (st' := [.int (-2)]) (h' := (HP I A L F E)) rfl).trans ?_
    exact sg_ret ht_X7_feed rfl rfl
  · refine (sg_go ht_X7_feed (k := 2) (pc' := 7) (L' := [some (.ref 1), some (.int p1)]) (st' := [.int 127, .int p1]) (h' := (HP I A L F E)) rfl).trans ?_
    refine (sg_cmp ht_X7_feed rfl).trans ?_
    refine ite_congr rfl (fun _ => ?_) (fun _ => ?_)
    · refine (sg_go ht_X7_feed (k := 4) (pc' := 22) (L' := [some (.ref 1), some (.int p1)]) (st' := [.int 100, .int (I 4201)]) (h' := (HP I A L F E)) rfl).trans ?_
      refine (sg_cmp ht_X7_feed rfl).trans ?_
      refine ite_congr rfl (fun _ => ?_) (fun _ => ?_)
      · refine (sg_go ht_X7_feed (k := 3) (pc' := 33) (L' := [some (.ref 1), some (.int p1)]) (st' := [.int p1, .ref 42]) (h' := (HP I A L F E)) rfl).trans ?_
        refine (sg_call ht_X7_feed (mj := 49) (as := [.ref 42, .int p1]) (rest := []) rfl rfl ⟨by decide, Nat.le_of_ble_eq_true rfl⟩).trans ?_
        rfl
      · refine (sg_go ht_X7_feed (k := 1) (pc' := 27) (L' := [some (.ref 1), some (.int p1)]) (st' := [.int (-4)]) (h' := (HP I A L F E)) rfl).trans ?_
        exact sg_ret ht_X7_feed rfl rfl
    · refine (sg_go ht_X7_feed (k := 1) (pc' := 12) (L' := [some (.ref 1), some (.int p1)]) (st' := [.int (-2)]) (h' := (HP I A L F E)) rfl).trans ?_
      exact sg_ret ht_X7_feed rfl rfl
set_option maxRecDepth 20000 in
theorem sg_X7_feed_36 {I : Nat → Int32} {A : Nat → List Int32} {L : Nat → List Int64} {F : Nat → Int64} {E : MH} (v1 : Int32) : mm_run G0 65 36 [some (.ref 1), some (.int v1)] [] (HP I A L F E) = some (some (.int (I 4201)), (HP I A L F E)) := by
  refine (sg_go ht_X7_feed (k := 3) (pc' := 43) (L' := [some (.ref 1), some (.int v1)]) (st' := [.int (I 4201)]) (h' := (HP I A L F E)) rfl).trans ?_
  exact sg_ret ht_X7_feed rfl rfl
set_option maxRecDepth 20000 in
theorem sg_X7_weight_0 {I : Nat → Int32} {A : Nat → List Int32} {L : Nat → List Int64} {F : Nat → Int64} {E : MH} (p1 : Int32) (p2 : Int32) : mm_call G0 74 [.ref 1, .int p1, .int p2] (HP I A L F E) = (if ¬ p1 < (-2) ∧ ¬ 2 < p1 then (if p2 < 0 then some (some (.int (-2)), (HP I A L F E)) else (if p2 ≤ 5 then ((ldI (A 4) (p1 + 2)).bind fun x1 => ((stI (A 4) (p1 + 2) p2).bind fun X2 => some (some (.int x1), (HP I (fu A 4 X2) L F E)))) else some (some (.int (-2)), (HP I A L F E)))) else some (some (.int (-1)), (HP I A L F E))) := by
  show mm_run G0 74 0 [some (.ref 1), some (.int p1), some (.int p2), none] [] (HP I A L F E) = _
  refine (sg_go ht_X7_weight (k := 1) (pc' := 1) (L' := [some (.ref 1), some (.int p1), some (.int p2), none]) (st' := [.int p1]) (h' := (HP I A L F E)) rfl).trans ?_
  refine (sg_call ht_X7_weight (mj := 98) (as := [.int p1]) (rest := []) rfl rfl ⟨by decide, Nat.le_of_ble_eq_true rfl⟩).trans ?_
  refine (bind_eq (sp_X7_isStep p1)).trans ?_
  show mm_run G0 74 4 [some (.ref 1), some (.int p1), some (.int p2), none] [.int (bi (decide (¬ p1 < (-2) ∧ ¬ 2 < p1)))] (HP I A L F E) = _
  refine (sg_bn ht_X7_weight rfl).trans ?_
  refine ite_congr rfl (fun _ => ?_) (fun _ => ?_)
  · refine (sg_go ht_X7_weight (k := 1) (pc' := 10) (L' := [some (.ref 1), some (.int p1), some (.int p2), none]) (st' := [.int p2]) (h' := (HP I A L F E)) rfl).trans ?_
    refine (sg_if ht_X7_weight rfl).trans ?_
    refine ite_congr rfl (fun _ => ?_) (fun _ => ?_)
    · refine (sg_go ht_X7_weight (k := 1) (pc' := 20) (L' := [some (.ref 1), some (.int p1), some (.int p2), none]) (st' := [.int (-2)]) (h' := (HP I A L F E)) rfl).trans ?_
      exact sg_ret ht_X7_weight rfl rfl
    · refine (sg_go ht_X7_weight (k := 2) (pc' := 15) (L' := [some (.ref 1), some (.int p1), some (.int p2), none]) (st' := [.int 5, .int p2]) (h' := (HP I A L F E)) rfl).trans ?_
      refine (sg_cmp ht_X7_weight rfl).trans ?_
      refine ite_congr rfl (fun _ => ?_) (fun _ => ?_)
      · refine (sg_go ht_X7_weight (k := 6) (pc' := 31) (L' := [some (.ref 1), some (.int p1), some (.int p2), none]) (st' := [.int (p1 + 2), .ref 4]) (h' := (HP I A L F E)) rfl).trans ?_
        refine (sg_ldI ht_X7_weight rfl hp_o_4).trans ?_
        refine bind_cg fun x1 hx1 => ?_
        refine (sg_go ht_X7_weight (k := 8) (pc' := 44) (L' := [some (.ref 1), some (.int p1), some (.int p2), some (.int x1)]) (st' := [.int p2, .int (p1 + 2), .ref 4]) (h' := (HP I A L F E)) rfl).trans ?_
        refine (sg_stI (hh := fun X2 => (HP I (fu A 4 X2) L F E)) ht_X7_weight rfl hp_o_4 (fun _ => hp_s_4)).trans ?_
        refine bind_cg fun X2 hX2 => ?_
        refine (sg_go ht_X7_weight (k := 1) (pc' := 46) (L' := [some (.ref 1), some (.int p1), some (.int p2), some (.int x1)]) (st' := [.int x1]) (h' := (HP I (fu A 4 X2) L F E)) rfl).trans ?_
        exact sg_ret ht_X7_weight rfl rfl
      · refine (sg_go ht_X7_weight (k := 1) (pc' := 20) (L' := [some (.ref 1), some (.int p1), some (.int p2), none]) (st' := [.int (-2)]) (h' := (HP I A L F E)) rfl).trans ?_
        exact sg_ret ht_X7_weight rfl rfl
  · refine (sg_go ht_X7_weight (k := 1) (pc' := 8) (L' := [some (.ref 1), some (.int p1), some (.int p2), none]) (st' := [.int (-1)]) (h' := (HP I A L F E)) rfl).trans ?_
    exact sg_ret ht_X7_weight rfl rfl
set_option maxRecDepth 20000 in
theorem sg_X7_obey_0 {I : Nat → Int32} {A : Nat → List Int32} {L : Nat → List Int64} {F : Nat → Int64} {E : MH} (p1 : Int32) (p2 : Int32) (p3 : Int32) : mm_call G0 104 [.ref 1, .int p1, .int p2, .int p3] (HP I A L F E) = (if p1 = 100 then ((mm_call G0 74 [.ref 1, .int (p2 - 2), .int p3] (HP I A L F E)).bind fun q => mm_run G0 104 195 [some (.ref 1), some (.int p1), some (.int p2), some (.int p3)] (q.1.toList ++ []) q.2) else (if p1 = 101 then some (some (.int 0), (HP I A L F E)) else (if p1 = 102 then some (some (.int 0), (HP I A L F E)) else (if p1 = 103 then some (some (.int 0), (HP I A L F E)) else (if p1 = 104 then some (some (.int 0), (HP I A L F E)) else (if p1 = 105 then some (some (.int 0), (HP I A L F E)) else (if p1 = 106 then some (some (.int 0), (HP I A L F E)) else (if p1 = 107 then ((mm_call G0 61 [.ref 1, .int p2, .int 0, .int p3] (HP I A L F E)).bind fun q => mm_run G0 104 134 [some (.ref 1), some (.int p1), some (.int p2), some (.int p3)] (q.1.toList ++ []) q.2) else (if p1 = 108 then ((mm_call G0 61 [.ref 1, .int p2, .int 3, .int p3] (HP I A L F E)).bind fun q => mm_run G0 104 174 [some (.ref 1), some (.int p1), some (.int p2), some (.int p3)] (q.1.toList ++ []) q.2) else (if p1 = 109 then some (some (.int 0), (HP I A L F E)) else (if p1 = 110 then some (some (.int 0), (HP I A L F E)) else (if p1 = 111 then some (some (.int 0), (HP I A L F E)) else (if p1 = 112 then some (some (.int 0), (HP I A L F E)) else (if p1 = 113 then some (some (.int 0), (HP I A L F E)) else (if p1 = 114 then some (some (.int 0), (HP I A L F E)) else (if p1 = 115 then ((mm_call G0 61 [.ref 1, .int p2, .int 2, .int p3] (HP I A L F E)).bind fun q => mm_run G0 104 154 [some (.ref 1), some (.int p1), some (.int p2), some (.int p3)] (q.1.toList ++ []) q.2) else (if p1 = 116 then ((mm_call G0 61 [.ref 1, .int p2, .int 1, .int p3] (HP I A L F E)).bind fun q => mm_run G0 104 114 [some (.ref 1), some (.int p1), some (.int p2), some (.int p3)] (q.1.toList ++ []) q.2) else (if p1 = 117 then some (some (.int 0), (HP I A L F E)) else (if p1 = 118 then ((mm_call G0 59 [.ref 1, .int p2, .int p3] (HP I A L F E)).bind fun q => mm_run G0 104 98 [some (.ref 1), some (.int p1), some (.int p2), some (.int p3)] (q.1.toList ++ []) q.2) else some (some (.int 0), (HP I A L F E))))))))))))))))))))) := by
  show mm_run G0 104 0 [some (.ref 1), some (.int p1), some (.int p2), some (.int p3)] [] (HP I A L F E) = _
  refine (sg_go ht_X7_obey (k := 1) (pc' := 1) (L' := [some (.ref 1), some (.int p1), some (.int p2), some (.int p3)]) (st' := [.int p1]) (h' := (HP I A L F E)) rfl).trans ?_
  refine (sg_sw ht_X7_obey rfl).trans ?_
  rw [swt_cons (k := 100) (lo' := 101) (by decide) (by decide), run_ite]
  refine ite_congr rfl (fun _ => ?_) (fun _ => ?_)
  · refine (sg_go ht_X7_obey (k := 5) (pc' := 192) (L' := [some (.ref 1), some (.int p1), some (.int p2), some (.int p3)]) (st' := [.int p3, .int (p2 - 2), .ref 1]) (h' := (HP I A L F E)) rfl).trans ?_
    refine (sg_call ht_X7_obey (mj := 74) (as := [.ref 1, .int (p2 - 2), .int p3]) (rest := []) rfl rfl ⟨by decide, Nat.le_of_ble_eq_true rfl⟩).trans ?_
    rfl
  · rw [swt_cons (k := 101) (lo' := 102) (by decide) (by decide), run_ite]
    refine ite_congr rfl (fun _ => ?_) (fun _ => ?_)
    · refine (sg_go ht_X7_obey (k := 1) (pc' := 205) (L' := [some (.ref 1), some (.int p1), some (.int p2), some (.int p3)]) (st' := [.int 0]) (h' := (HP I A L F E)) rfl).trans ?_
      exact sg_ret ht_X7_obey rfl rfl
    · rw [swt_cons (k := 102) (lo' := 103) (by decide) (by decide), run_ite]
      refine ite_congr rfl (fun _ => ?_) (fun _ => ?_)
      · refine (sg_go ht_X7_obey (k := 1) (pc' := 205) (L' := [some (.ref 1), some (.int p1), some (.int p2), some (.int p3)]) (st' := [.int 0]) (h' := (HP I A L F E)) rfl).trans ?_
        exact sg_ret ht_X7_obey rfl rfl
      · rw [swt_cons (k := 103) (lo' := 104) (by decide) (by decide), run_ite]
        refine ite_congr rfl (fun _ => ?_) (fun _ => ?_)
        · refine (sg_go ht_X7_obey (k := 1) (pc' := 205) (L' := [some (.ref 1), some (.int p1), some (.int p2), some (.int p3)]) (st' := [.int 0]) (h' := (HP I A L F E)) rfl).trans ?_
          exact sg_ret ht_X7_obey rfl rfl
        · rw [swt_cons (k := 104) (lo' := 105) (by decide) (by decide), run_ite]
          refine ite_congr rfl (fun _ => ?_) (fun _ => ?_)
          · refine (sg_go ht_X7_obey (k := 1) (pc' := 205) (L' := [some (.ref 1), some (.int p1), some (.int p2), some (.int p3)]) (st' := [.int 0]) (h' := (HP I A L F E)) rfl).trans ?_
            exact sg_ret ht_X7_obey rfl rfl
          · rw [swt_cons (k := 105) (lo' := 106) (by decide) (by decide), run_ite]
            refine ite_congr rfl (fun _ => ?_) (fun _ => ?_)
            · refine (sg_go ht_X7_obey (k := 1) (pc' := 205) (L' := [some (.ref 1), some (.int p1), some (.int p2), some (.int p3)]) (st' := [.int 0]) (h' := (HP I A L F E)) rfl).trans ?_
              exact sg_ret ht_X7_obey rfl rfl
            · rw [swt_cons (k := 106) (lo' := 107) (by decide) (by decide), run_ite]
              refine ite_congr rfl (fun _ => ?_) (fun _ => ?_)
              · refine (sg_go ht_X7_obey (k := 1) (pc' := 205) (L' := [some (.ref 1), some (.int p1), some (.int p2), some (.int p3)]) (st' := [.int 0]) (h' := (HP I A L F E)) rfl).trans ?_
                exact sg_ret ht_X7_obey rfl rfl
              · rw [swt_cons (k := 107) (lo' := 108) (by decide) (by decide), run_ite]
                refine ite_congr rfl (fun _ => ?_) (fun _ => ?_)
                · refine (sg_go ht_X7_obey (k := 4) (pc' := 131) (L' := [some (.ref 1), some (.int p1), some (.int p2), some (.int p3)]) (st' := [.int p3, .int 0, .int p2, .ref 1]) (h' := (HP I A L F E)) rfl).trans ?_
                  refine (sg_call ht_X7_obey (mj := 61) (as := [.ref 1, .int p2, .int 0, .int p3]) (rest := []) rfl rfl ⟨by decide, Nat.le_of_ble_eq_true rfl⟩).trans ?_
                  rfl
                · rw [swt_cons (k := 108) (lo' := 109) (by decide) (by decide), run_ite]
                  refine ite_congr rfl (fun _ => ?_) (fun _ => ?_)
                  · refine (sg_go ht_X7_obey (k := 4) (pc' := 171) (L' := [some (.ref 1), some (.int p1), some (.int p2), some (.int p3)]) (st' := [.int p3, .int 3, .int p2, .ref 1]) (h' := (HP I A L F E)) rfl).trans ?_
                    refine (sg_call ht_X7_obey (mj := 61) (as := [.ref 1, .int p2, .int 3, .int p3]) (rest := []) rfl rfl ⟨by decide, Nat.le_of_ble_eq_true rfl⟩).trans ?_
                    rfl
                  · rw [swt_cons (k := 109) (lo' := 110) (by decide) (by decide), run_ite]
                    refine ite_congr rfl (fun _ => ?_) (fun _ => ?_)
                    · refine (sg_go ht_X7_obey (k := 1) (pc' := 205) (L' := [some (.ref 1), some (.int p1), some (.int p2), some (.int p3)]) (st' := [.int 0]) (h' := (HP I A L F E)) rfl).trans ?_
                      exact sg_ret ht_X7_obey rfl rfl
                    · rw [swt_cons (k := 110) (lo' := 111) (by decide) (by decide), run_ite]
                      refine ite_congr rfl (fun _ => ?_) (fun _ => ?_)
                      · refine (sg_go ht_X7_obey (k := 1) (pc' := 205) (L' := [some (.ref 1), some (.int p1), some (.int p2), some (.int p3)]) (st' := [.int 0]) (h' := (HP I A L F E)) rfl).trans ?_
                        exact sg_ret ht_X7_obey rfl rfl
                      · rw [swt_cons (k := 111) (lo' := 112) (by decide) (by decide), run_ite]
                        refine ite_congr rfl (fun _ => ?_) (fun _ => ?_)
                        · refine (sg_go ht_X7_obey (k := 1) (pc' := 205) (L' := [some (.ref 1), some (.int p1), some (.int p2), some (.int p3)]) (st' := [.int 0]) (h' := (HP I A L F E)) rfl).trans ?_
                          exact sg_ret ht_X7_obey rfl rfl
                        · rw [swt_cons (k := 112) (lo' := 113) (by decide) (by decide), run_ite]
                          refine ite_congr rfl (fun _ => ?_) (fun _ => ?_)
                          · refine (sg_go ht_X7_obey (k := 1) (pc' := 205) (L' := [some (.ref 1), some (.int p1), some (.int p2), some (.int p3)]) (st' := [.int 0]) (h' := (HP I A L F E)) rfl).trans ?_
                            exact sg_ret ht_X7_obey rfl rfl
                          · rw [swt_cons (k := 113) (lo' := 114) (by decide) (by decide), run_ite]
                            refine ite_congr rfl (fun _ => ?_) (fun _ => ?_)
                            · refine (sg_go ht_X7_obey (k := 1) (pc' := 205) (L' := [some (.ref 1), some (.int p1), some (.int p2), some (.int p3)]) (st' := [.int 0]) (h' := (HP I A L F E)) rfl).trans ?_
                              exact sg_ret ht_X7_obey rfl rfl
                            · rw [swt_cons (k := 114) (lo' := 115) (by decide) (by decide), run_ite]
                              refine ite_congr rfl (fun _ => ?_) (fun _ => ?_)
                              · refine (sg_go ht_X7_obey (k := 1) (pc' := 205) (L' := [some (.ref 1), some (.int p1), some (.int p2), some (.int p3)]) (st' := [.int 0]) (h' := (HP I A L F E)) rfl).trans ?_
                                exact sg_ret ht_X7_obey rfl rfl
                              · rw [swt_cons (k := 115) (lo' := 116) (by decide) (by decide), run_ite]
                                refine ite_congr rfl (fun _ => ?_) (fun _ => ?_)
                                · refine (sg_go ht_X7_obey (k := 4) (pc' := 151) (L' := [some (.ref 1), some (.int p1), some (.int p2), some (.int p3)]) (st' := [.int p3, .int 2, .int p2, .ref 1]) (h' := (HP I A L F E)) rfl).trans ?_
                                  refine (sg_call ht_X7_obey (mj := 61) (as := [.ref 1, .int p2, .int 2, .int p3]) (rest := []) rfl rfl ⟨by decide, Nat.le_of_ble_eq_true rfl⟩).trans ?_
                                  rfl
                                · rw [swt_cons (k := 116) (lo' := 117) (by decide) (by decide), run_ite]
                                  refine ite_congr rfl (fun _ => ?_) (fun _ => ?_)
                                  · refine (sg_go ht_X7_obey (k := 4) (pc' := 111) (L' := [some (.ref 1), some (.int p1), some (.int p2), some (.int p3)]) (st' := [.int p3, .int 1, .int p2, .ref 1]) (h' := (HP I A L F E)) rfl).trans ?_
                                    refine (sg_call ht_X7_obey (mj := 61) (as := [.ref 1, .int p2, .int 1, .int p3]) (rest := []) rfl rfl ⟨by decide, Nat.le_of_ble_eq_true rfl⟩).trans ?_
                                    rfl
                                  · rw [swt_cons (k := 117) (lo' := 118) (by decide) (by decide), run_ite]
                                    refine ite_congr rfl (fun _ => ?_) (fun _ => ?_)
                                    · refine (sg_go ht_X7_obey (k := 1) (pc' := 205) (L' := [some (.ref 1), some (.int p1), some (.int p2), some (.int p3)]) (st' := [.int 0]) (h' := (HP I A L F E)) rfl).trans ?_
                                      exact sg_ret ht_X7_obey rfl rfl
                                    · rw [swt_cons (k := 118) (lo' := 119) (by decide) (by decide), run_ite]
                                      refine ite_congr rfl (fun _ => ?_) (fun _ => ?_)
                                      · refine (sg_go ht_X7_obey (k := 3) (pc' := 95) (L' := [some (.ref 1), some (.int p1), some (.int p2), some (.int p3)]) (st' := [.int p3, .int p2, .ref 1]) (h' := (HP I A L F E)) rfl).trans ?_
                                        refine (sg_call ht_X7_obey (mj := 59) (as := [.ref 1, .int p2, .int p3]) (rest := []) rfl rfl ⟨by decide, Nat.le_of_ble_eq_true rfl⟩).trans ?_
                                        rfl
                                      · rw [swt_nil]
                                        refine (sg_go ht_X7_obey (k := 1) (pc' := 205) (L' := [some (.ref 1), some (.int p1), some (.int p2), some (.int p3)]) (st' := [.int 0]) (h' := (HP I A L F E)) rfl).trans ?_
                                        exact sg_ret ht_X7_obey rfl rfl
set_option maxRecDepth 20000 in
theorem sg_X7_obey_195 {I : Nat → Int32} {A : Nat → List Int32} {L : Nat → List Int64} {F : Nat → Int64} {E : MH} (v1 : Int32) (v2 : Int32) (v3 : Int32) (s0 : Int32) : mm_run G0 104 195 [some (.ref 1), some (.int v1), some (.int v2), some (.int v3)] [.int s0] (HP I A L F E) = (if s0 < 0 then some (some (.int 0), (HP I A L F E)) else some (some (.int 1), (HP I A L F E))) := by
  refine (sg_if ht_X7_obey rfl).trans ?_
  refine ite_congr rfl (fun _ => ?_) (fun _ => ?_)
  · refine (sg_go ht_X7_obey (k := 1) (pc' := 203) (L' := [some (.ref 1), some (.int v1), some (.int v2), some (.int v3)]) (st' := [.int 0]) (h' := (HP I A L F E)) rfl).trans ?_
    exact sg_ret ht_X7_obey rfl rfl
  · refine (sg_go ht_X7_obey (k := 2) (pc' := 203) (L' := [some (.ref 1), some (.int v1), some (.int v2), some (.int v3)]) (st' := [.int 1]) (h' := (HP I A L F E)) rfl).trans ?_
    exact sg_ret ht_X7_obey rfl rfl
set_option maxRecDepth 20000 in
theorem sg_X7_obey_134 {I : Nat → Int32} {A : Nat → List Int32} {L : Nat → List Int64} {F : Nat → Int64} {E : MH} (v1 : Int32) (v2 : Int32) (v3 : Int32) (s0 : Int64) : mm_run G0 104 134 [some (.ref 1), some (.int v1), some (.int v2), some (.int v3)] [.long s0] (HP I A L F E) = (if (lg_cmp s0 (-9223372036854775808)) = 0 then some (some (.int 0), (HP I A L F E)) else some (some (.int 1), (HP I A L F E))) := by
  refine (sg_go ht_X7_obey (k := 2) (pc' := 138) (L' := [some (.ref 1), some (.int v1), some (.int v2), some (.int v3)]) (st' := [.int (lg_cmp s0 (-9223372036854775808))]) (h' := (HP I A L F E)) rfl).trans ?_
  refine (sg_if ht_X7_obey rfl).trans ?_
  refine ite_congr rfl (fun _ => ?_) (fun _ => ?_)
  · refine (sg_go ht_X7_obey (k := 1) (pc' := 146) (L' := [some (.ref 1), some (.int v1), some (.int v2), some (.int v3)]) (st' := [.int 0]) (h' := (HP I A L F E)) rfl).trans ?_
    exact sg_ret ht_X7_obey rfl rfl
  · refine (sg_go ht_X7_obey (k := 2) (pc' := 146) (L' := [some (.ref 1), some (.int v1), some (.int v2), some (.int v3)]) (st' := [.int 1]) (h' := (HP I A L F E)) rfl).trans ?_
    exact sg_ret ht_X7_obey rfl rfl
set_option maxRecDepth 20000 in
theorem sg_X7_obey_174 {I : Nat → Int32} {A : Nat → List Int32} {L : Nat → List Int64} {F : Nat → Int64} {E : MH} (v1 : Int32) (v2 : Int32) (v3 : Int32) (s0 : Int64) : mm_run G0 104 174 [some (.ref 1), some (.int v1), some (.int v2), some (.int v3)] [.long s0] (HP I A L F E) = (if (lg_cmp s0 (-9223372036854775808)) = 0 then some (some (.int 0), (HP I A L F E)) else some (some (.int 1), (HP I A L F E))) := by
  refine (sg_go ht_X7_obey (k := 2) (pc' := 178) (L' := [some (.ref 1), some (.int v1), some (.int v2), some (.int v3)]) (st' := [.int (lg_cmp s0 (-9223372036854775808))]) (h' := (HP I A L F E)) rfl).trans ?_
  refine (sg_if ht_X7_obey rfl).trans ?_
  refine ite_congr rfl (fun _ => ?_) (fun _ => ?_)
  · refine (sg_go ht_X7_obey (k := 1) (pc' := 186) (L' := [some (.ref 1), some (.int v1), some (.int v2), some (.int v3)]) (st' := [.int 0]) (h' := (HP I A L F E)) rfl).trans ?_
    exact sg_ret ht_X7_obey rfl rfl
  · refine (sg_go ht_X7_obey (k := 2) (pc' := 186) (L' := [some (.ref 1), some (.int v1), some (.int v2), some (.int v3)]) (st' := [.int 1]) (h' := (HP I A L F E)) rfl).trans ?_
    exact sg_ret ht_X7_obey rfl rfl
set_option maxRecDepth 20000 in
theorem sg_X7_obey_154 {I : Nat → Int32} {A : Nat → List Int32} {L : Nat → List Int64} {F : Nat → Int64} {E : MH} (v1 : Int32) (v2 : Int32) (v3 : Int32) (s0 : Int64) : mm_run G0 104 154 [some (.ref 1), some (.int v1), some (.int v2), some (.int v3)] [.long s0] (HP I A L F E) = (if (lg_cmp s0 (-9223372036854775808)) = 0 then some (some (.int 0), (HP I A L F E)) else some (some (.int 1), (HP I A L F E))) := by
  refine (sg_go ht_X7_obey (k := 2) (pc' := 158) (L' := [some (.ref 1), some (.int v1), some (.int v2), some (.int v3)]) (st' := [.int (lg_cmp s0 (-9223372036854775808))]) (h' := (HP I A L F E)) rfl).trans ?_
  refine (sg_if ht_X7_obey rfl).trans ?_
  refine ite_congr rfl (fun _ => ?_) (fun _ => ?_)
  · refine (sg_go ht_X7_obey (k := 1) (pc' := 166) (L' := [some (.ref 1), some (.int v1), some (.int v2), some (.int v3)]) (st' := [.int 0]) (h' := (HP I A L F E)) rfl).trans ?_
    exact sg_ret ht_X7_obey rfl rfl
  · refine (sg_go ht_X7_obey (k := 2) (pc' := 166) (L' := [some (.ref 1), some (.int v1), some (.int v2), some (.int v3)]) (st' := [.int 1]) (h' := (HP I A L F E)) rfl).trans ?_
    exact sg_ret ht_X7_obey rfl rfl
set_option maxRecDepth 20000 in
theorem sg_X7_obey_114 {I : Nat → Int32} {A : Nat → List Int32} {L : Nat → List Int64} {F : Nat → Int64} {E : MH} (v1 : Int32) (v2 : Int32) (v3 : Int32) (s0 : Int64) : mm_run G0 104 114 [some (.ref 1), some (.int v1), some (.int v2), some (.int v3)] [.long s0] (HP I A L F E) = (if (lg_cmp s0 (-9223372036854775808)) = 0 then some (some (.int 0), (HP I A L F E)) else some (some (.int 1), (HP I A L F E))) := by
  refine (sg_go ht_X7_obey (k := 2) (pc' := 118) (L' := [some (.ref 1), some (.int v1), some (.int v2), some (.int v3)]) (st' := [.int (lg_cmp s0 (-9223372036854775808))]) (h' := (HP I A L F E)) rfl).trans ?_
  refine (sg_if ht_X7_obey rfl).trans ?_
  refine ite_congr rfl (fun _ => ?_) (fun _ => ?_)
  · refine (sg_go ht_X7_obey (k := 1) (pc' := 126) (L' := [some (.ref 1), some (.int v1), some (.int v2), some (.int v3)]) (st' := [.int 0]) (h' := (HP I A L F E)) rfl).trans ?_
    exact sg_ret ht_X7_obey rfl rfl
  · refine (sg_go ht_X7_obey (k := 2) (pc' := 126) (L' := [some (.ref 1), some (.int v1), some (.int v2), some (.int v3)]) (st' := [.int 1]) (h' := (HP I A L F E)) rfl).trans ?_
    exact sg_ret ht_X7_obey rfl rfl
set_option maxRecDepth 20000 in
theorem sg_X7_obey_98 {I : Nat → Int32} {A : Nat → List Int32} {L : Nat → List Int64} {F : Nat → Int64} {E : MH} (v1 : Int32) (v2 : Int32) (v3 : Int32) (s0 : Int32) : mm_run G0 104 98 [some (.ref 1), some (.int v1), some (.int v2), some (.int v3)] [.int s0] (HP I A L F E) = (if s0 ≤ 0 then some (some (.int 0), (HP I A L F E)) else some (some (.int 1), (HP I A L F E))) := by
  refine (sg_if ht_X7_obey rfl).trans ?_
  refine ite_congr rfl (fun _ => ?_) (fun _ => ?_)
  · refine (sg_go ht_X7_obey (k := 1) (pc' := 106) (L' := [some (.ref 1), some (.int v1), some (.int v2), some (.int v3)]) (st' := [.int 0]) (h' := (HP I A L F E)) rfl).trans ?_
    exact sg_ret ht_X7_obey rfl rfl
  · refine (sg_go ht_X7_obey (k := 2) (pc' := 106) (L' := [some (.ref 1), some (.int v1), some (.int v2), some (.int v3)]) (st' := [.int 1]) (h' := (HP I A L F E)) rfl).trans ?_
    exact sg_ret ht_X7_obey rfl rfl
set_option maxRecDepth 20000 in
theorem sg_X7_read_0 {I : Nat → Int32} {A : Nat → List Int32} {L : Nat → List Int64} {F : Nat → Int64} {E : MH}  : mm_call G0 66 [.ref 1] (HP I A L F E) = ((mm_call G0 50 [.ref 42] (HP I A L F E)).bind fun q => mm_run G0 66 7 [some (.ref 1), none, none, none] (q.1.toList ++ []) q.2) := by
  show mm_run G0 66 0 [some (.ref 1), none, none, none] [] (HP I A L F E) = _
  refine (sg_go ht_X7_read (k := 2) (pc' := 4) (L' := [some (.ref 1), none, none, none]) (st' := [.ref 42]) (h' := (HP I A L F E)) rfl).trans ?_
  refine (sg_call ht_X7_read (mj := 50) (as := [.ref 42]) (rest := []) rfl rfl ⟨by decide, Nat.le_of_ble_eq_true rfl⟩).trans ?_
  rfl
set_option maxRecDepth 20000 in
theorem sg_X7_read_7 {I : Nat → Int32} {A : Nat → List Int32} {L : Nat → List Int64} {F : Nat → Int64} {E : MH} (s0 : Int32) : mm_run G0 66 7 [some (.ref 1), none, none, none] [.int s0] (HP I A L F E) = (if s0 = (-1) then mm_run G0 66 30 [some (.ref 1), some (.int s0), some (.int 0), some (.int 0)] [] (HP (fu I 4201 0) A L F E) else some (some (.int ((-10) - s0)), (HP (fu I 4201 0) A L F E))) := by
  refine (sg_go ht_X7_read (k := 4) (pc' := 13) (L' := [some (.ref 1), some (.int s0), none, none]) (st' := [.int 0, .ref 42]) (h' := (HP I A L F E)) rfl).trans ?_
  refine (sg_putI (h' := (HP (fu I 4201 0) A L F E)) ht_X7_read rfl hp_o_42 (Nat.le_of_ble_eq_true rfl) hp_p_4201).trans ?_
  refine (sg_go ht_X7_read (k := 2) (pc' := 18) (L' := [some (.ref 1), some (.int s0), none, none]) (st' := [.int (-1), .int s0]) (h' := (HP (fu I 4201 0) A L F E)) rfl).trans ?_
  refine (sg_cmp ht_X7_read rfl).trans ?_
  refine ite_congr rfl (fun _ => ?_) (fun _ => ?_)
  · refine (sg_go ht_X7_read (k := 4) (pc' := 30) (L' := [some (.ref 1), some (.int s0), some (.int 0), some (.int 0)]) (st' := []) (h' := (HP (fu I 4201 0) A L F E)) rfl).trans ?_
    rfl
  · refine (sg_go ht_X7_read (k := 3) (pc' := 25) (L' := [some (.ref 1), some (.int s0), none, none]) (st' := [.int ((-10) - s0)]) (h' := (HP (fu I 4201 0) A L F E)) rfl).trans ?_
    exact sg_ret ht_X7_read rfl rfl
set_option maxRecDepth 20000 in
theorem sg_X7_read_30 {I : Nat → Int32} {A : Nat → List Int32} {L : Nat → List Int64} {F : Nat → Int64} {E : MH} (v1 : Int32) (v2 : Int32) (v3 : Int32) : mm_run G0 66 30 [some (.ref 1), some (.int v1), some (.int v2), some (.int v3)] [] (HP I A L F E) = (if (I 4202) ≤ v3 then some (some (.int v2), (HP I A L F E)) else ((ldI (A 44) v3).bind fun x1 => ((ldI (A 45) v3).bind fun x2 => ((ldI (A 46) v3).bind fun x3 => ((mm_call G0 104 [.ref 1, .int x1, .int x2, .int x3] (HP I A L F E)).bind fun q => mm_run G0 66 72 [some (.ref 1), some (.int v1), some (.int v2), some (.int v3)] (q.1.toList ++ []) q.2))))) := by
  refine (sg_go ht_X7_read (k := 4) (pc' := 38) (L' := [some (.ref 1), some (.int v1), some (.int v2), some (.int v3)]) (st' := [.int (I 4202), .int v3]) (h' := (HP I A L F E)) rfl).trans ?_
  refine (sg_cmp ht_X7_read rfl).trans ?_
  refine ite_congr rfl (fun _ => ?_) (fun _ => ?_)
  · refine (sg_go ht_X7_read (k := 1) (pc' := 85) (L' := [some (.ref 1), some (.int v1), some (.int v2), some (.int v3)]) (st' := [.int v2]) (h' := (HP I A L F E)) rfl).trans ?_
    exact sg_ret ht_X7_read rfl rfl
  · refine (sg_go ht_X7_read (k := 5) (pc' := 50) (L' := [some (.ref 1), some (.int v1), some (.int v2), some (.int v3)]) (st' := [.int v3, .ref 44, .ref 1]) (h' := (HP I A L F E)) rfl).trans ?_
    refine (sg_ldI ht_X7_read rfl hp_o_44).trans ?_
    refine bind_cg fun x1 hx1 => ?_
    refine (sg_go ht_X7_read (k := 4) (pc' := 59) (L' := [some (.ref 1), some (.int v1), some (.int v2), some (.int v3)]) (st' := [.int v3, .ref 45, .int x1, .ref 1]) (h' := (HP I A L F E)) rfl).trans ?_
    refine (sg_ldI ht_X7_read rfl hp_o_45).trans ?_
    refine bind_cg fun x2 hx2 => ?_
    refine (sg_go ht_X7_read (k := 4) (pc' := 68) (L' := [some (.ref 1), some (.int v1), some (.int v2), some (.int v3)]) (st' := [.int v3, .ref 46, .int x2, .int x1, .ref 1]) (h' := (HP I A L F E)) rfl).trans ?_
    refine (sg_ldI ht_X7_read rfl hp_o_46).trans ?_
    refine bind_cg fun x3 hx3 => ?_
    refine (sg_call ht_X7_read (mj := 104) (as := [.ref 1, .int x1, .int x2, .int x3]) (rest := []) rfl rfl ⟨by decide, Nat.le_of_ble_eq_true rfl⟩).trans ?_
    rfl
set_option maxRecDepth 20000 in
theorem sg_X7_read_72 {I : Nat → Int32} {A : Nat → List Int32} {L : Nat → List Int64} {F : Nat → Int64} {E : MH} (v1 : Int32) (v2 : Int32) (v3 : Int32) (s0 : Int32) : mm_run G0 66 72 [some (.ref 1), some (.int v1), some (.int v2), some (.int v3)] [.int s0] (HP I A L F E) = (if s0 = 0 then mm_run G0 66 30 [some (.ref 1), some (.int v1), some (.int v2), some (.int (v3 + 1))] [] (HP I A L F E) else mm_run G0 66 30 [some (.ref 1), some (.int v1), some (.int (v2 + 1)), some (.int (v3 + 1))] [] (HP I A L F E)) := by
  refine (sg_if ht_X7_read rfl).trans ?_
  refine ite_congr rfl (fun _ => ?_) (fun _ => ?_)
  · refine (sg_go ht_X7_read (k := 2) (pc' := 30) (L' := [some (.ref 1), some (.int v1), some (.int v2), some (.int (v3 + 1))]) (st' := []) (h' := (HP I A L F E)) rfl).trans ?_
    rfl
  · refine (sg_go ht_X7_read (k := 3) (pc' := 30) (L' := [some (.ref 1), some (.int v1), some (.int (v2 + 1)), some (.int (v3 + 1))]) (st' := []) (h' := (HP I A L F E)) rfl).trans ?_
    rfl
set_option maxRecDepth 20000 in
theorem sg_X7_draw_0 {I : Nat → Int32} {A : Nat → List Int32} {L : Nat → List Int64} {F : Nat → Int64} {E : MH} {b1 : Nat} (hb1 : isS b1) (p2 : Int32) (p3 : Int32) : mm_call G0 106 [.ref 1, .ref b1, .int p2, .int p3] (HP I A L F E) = mm_run G0 106 3 [some (.ref 1), some (.ref b1), some (.int p2), some (.int p3), some (.int 0)] [] (HP I A L F E) := by
  show mm_run G0 106 0 [some (.ref 1), some (.ref b1), some (.int p2), some (.int p3), none] [] (HP I A L F E) = _
  refine (sg_go ht_X7_draw (k := 2) (pc' := 3) (L' := [some (.ref 1), some (.ref b1), some (.int p2), some (.int p3), some (.int 0)]) (st' := []) (h' := (HP I A L F E)) rfl).trans ?_
  rfl
set_option maxRecDepth 20000 in
theorem sg_X7_draw_3 {I : Nat → Int32} {A : Nat → List Int32} {L : Nat → List Int64} {F : Nat → Int64} {E : MH} {b1 : Nat} (hb1 : isS b1) (v2 : Int32) (v3 : Int32) (v4 : Int32) : mm_run G0 106 3 [some (.ref 1), some (.ref b1), some (.int v2), some (.int v3), some (.int v4)] [] (HP I A L F E) = (if (I (100 * b1 + 4)) ≤ v4 then (if (I (100 * b1 + 0)) ≠ 4 then ((mm_call G0 14 [.ref 48, .ref 71, .int ((fu (fu (fu (fu (fu I 4800 v2) 4801 v3) 4802 (sby (I (100 * b1 + 0)) v3)) 4803 0) 4806 0) (100 * b1 + 4))] (HP (fu (fu (fu (fu (fu I 4800 v2) 4801 v3) 4802 (sby (I (100 * b1 + 0)) v3)) 4803 0) 4806 0) A L F E)).bind fun q => mm_run G0 106 73 [some (.ref 1), some (.ref b1), some (.int v2), some (.int v3), some (.int v4)] (q.1.toList ++ []) q.2) else ((mm_call G0 14 [.ref 48, .ref 71, .int ((fu (fu (fu (fu (fu I 4800 v2) 4801 v3) 4802 (sby (I (100 * b1 + 0)) v3)) 4803 1) 4806 0) (100 * b1 + 4))] (HP (fu (fu (fu (fu (fu I 4800 v2) 4801 v3) 4802 (sby (I (100 * b1 + 0)) v3)) 4803 1) 4806 0) A L F E)).bind fun q => mm_run G0 106 73 [some (.ref 1), some (.ref b1), some (.int v2), some (.int v3), some (.int v4)] (q.1.toList ++ []) q.2)) else ((ldI (A (b1 + 1)) v4).bind fun x1 => ((stI (A 71) v4 (ofv (I (100 * b1 + 0)) (x1 - (I (100 * b1 + 1))))).bind fun X2 => mm_run G0 106 3 [some (.ref 1), some (.ref b1), some (.int v2), some (.int v3), some (.int (v4 + 1))] [] (HP I (fu A 71 X2) L F E)))) := by
  refine (sg_go ht_X7_draw (k := 2) (pc' := 6) (L' := [some (.ref 1), some (.ref b1), some (.int v2), some (.int v3), some (.int v4)]) (st' := [.ref b1, .int v4]) (h' := (HP I A L F E)) rfl).trans ?_
  refine (sg_getI ht_X7_draw rfl (sS_obj hb1) rfl).trans ?_
  refine (sg_cmp ht_X7_draw rfl).trans ?_
  refine ite_congr rfl (fun _ => ?_) (fun _ => ?_)
  · refine (sg_go ht_X7_draw (k := 6) (pc' := 39) (L' := [some (.ref 1), some (.ref b1), some (.int v2), some (.int v3), some (.int v4)]) (st' := [.int v3, .ref b1, .int v3, .int v2, .ref 48]) (h' := (HP I A L F E)) rfl).trans ?_
    refine (sg_callV ht_X7_draw (mj := 36) (as := [.ref b1, .int v3]) (rest := [.int v3, .int v2, .ref 48]) rfl rfl rfl (Nat.le_of_ble_eq_true rfl) (sS_obj hb1) ⟨by decide, Nat.le_of_ble_eq_true rfl⟩).trans ?_
    refine (bind_eq (sp_X4_startBy hb1 v3)).trans ?_
    show mm_run G0 106 42 [some (.ref 1), some (.ref b1), some (.int v2), some (.int v3), some (.int v4)] [.int (sby (I (100 * b1 + 0)) v3), .int v3, .int v2, .ref 48] (HP I A L F E) = _
    refine (sg_go ht_X7_draw (k := 1) (pc' := 43) (L' := [some (.ref 1), some (.ref b1), some (.int v2), some (.int v3), some (.int v4)]) (st' := [.ref b1, .int (sby (I (100 * b1 + 0)) v3), .int v3, .int v2, .ref 48]) (h' := (HP I A L F E)) rfl).trans ?_
    refine (sg_getI ht_X7_draw rfl (sS_obj hb1) rfl).trans ?_
    refine (sg_go ht_X7_draw (k := 1) (pc' := 47) (L' := [some (.ref 1), some (.ref b1), some (.int v2), some (.int v3), some (.int v4)]) (st' := [.int 4, .int (I (100 * b1 + 0)), .int (sby (I (100 * b1 + 0)) v3), .int v3, .int v2, .ref 48]) (h' := (HP I A L F E)) rfl).trans ?_
    refine (sg_cmp ht_X7_draw rfl).trans ?_
    refine ite_congr rfl (fun _ => ?_) (fun _ => ?_)
    · refine (sg_go ht_X7_draw (k := 1) (pc' := 55) (L' := [some (.ref 1), some (.ref b1), some (.int v2), some (.int v3), some (.int v4)]) (st' := [.int 0, .int (sby (I (100 * b1 + 0)) v3), .int v3, .int v2, .ref 48]) (h' := (HP I A L F E)) rfl).trans ?_
      refine (sg_call ht_X7_draw (mj := 13) (as := [.ref 48, .int v2, .int v3, .int (sby (I (100 * b1 + 0)) v3), .int 0]) (rest := []) rfl rfl ⟨by decide, Nat.le_of_ble_eq_true rfl⟩).trans ?_
      refine (bind_eq (sg_X1_begin_0 v2 v3 (sby (I (100 * b1 + 0)) v3) 0 (by decide))).trans ?_
      show mm_run G0 106 58 [some (.ref 1), some (.ref b1), some (.int v2), some (.int v3), some (.int v4)] [] (HP (fu (fu (fu (fu (fu I 4800 v2) 4801 v3) 4802 (sby (I (100 * b1 + 0)) v3)) 4803 0) 4806 0) A L F E) = _
      refine (sg_go ht_X7_draw (k := 5) (pc' := 67) (L' := [some (.ref 1), some (.ref b1), some (.int v2), some (.int v3), some (.int v4)]) (st' := [.ref b1, .ref 71, .ref 48]) (h' := (HP (fu (fu (fu (fu (fu I 4800 v2) 4801 v3) 4802 (sby (I (100 * b1 + 0)) v3)) 4803 0) 4806 0) A L F E)) rfl).trans ?_
      refine (sg_getI ht_X7_draw rfl (sS_obj hb1) rfl).trans ?_
      refine (sg_call ht_X7_draw (mj := 14) (as := [.ref 48, .ref 71, .int ((fu (fu (fu (fu (fu I 4800 v2) 4801 v3) 4802 (sby (I (100 * b1 + 0)) v3)) 4803 0) 4806 0) (100 * b1 + 4))]) (rest := []) rfl rfl ⟨by decide, Nat.le_of_ble_eq_true rfl⟩).trans ?_
      rfl
    · refine (sg_go ht_X7_draw (k := 2) (pc' := 55) (L' := [some (.ref 1), some (.ref b1), some (.int v2), some (.int v3), some (.int v4)]) (st' := [.int 1, .int (sby (I (100 * b1 + 0)) v3), .int v3, .int v2, .ref 48]) (h' := (HP I A L F E)) rfl).trans ?_
      refine (sg_call ht_X7_draw (mj := 13) (as := [.ref 48, .int v2, .int v3, .int (sby (I (100 * b1 + 0)) v3), .int 1]) (rest := []) rfl rfl ⟨by decide, Nat.le_of_ble_eq_true rfl⟩).trans ?_
      refine (bind_eq (sg_X1_begin_0 v2 v3 (sby (I (100 * b1 + 0)) v3) 1 (by decide))).trans ?_
      show mm_run G0 106 58 [some (.ref 1), some (.ref b1), some (.int v2), some (.int v3), some (.int v4)] [] (HP (fu (fu (fu (fu (fu I 4800 v2) 4801 v3) 4802 (sby (I (100 * b1 + 0)) v3)) 4803 1) 4806 0) A L F E) = _
      refine (sg_go ht_X7_draw (k := 5) (pc' := 67) (L' := [some (.ref 1), some (.ref b1), some (.int v2), some (.int v3), some (.int v4)]) (st' := [.ref b1, .ref 71, .ref 48]) (h' := (HP (fu (fu (fu (fu (fu I 4800 v2) 4801 v3) 4802 (sby (I (100 * b1 + 0)) v3)) 4803 1) 4806 0) A L F E)) rfl).trans ?_
      refine (sg_getI ht_X7_draw rfl (sS_obj hb1) rfl).trans ?_
      refine (sg_call ht_X7_draw (mj := 14) (as := [.ref 48, .ref 71, .int ((fu (fu (fu (fu (fu I 4800 v2) 4801 v3) 4802 (sby (I (100 * b1 + 0)) v3)) 4803 1) 4806 0) (100 * b1 + 4))]) (rest := []) rfl rfl ⟨by decide, Nat.le_of_ble_eq_true rfl⟩).trans ?_
      rfl
  · refine (sg_go ht_X7_draw (k := 5) (pc' := 21) (L' := [some (.ref 1), some (.ref b1), some (.int v2), some (.int v3), some (.int v4)]) (st' := [.int v4, .ref b1, .int v4, .ref 71]) (h' := (HP I A L F E)) rfl).trans ?_
    refine (sg_callV ht_X7_draw (mj := 37) (as := [.ref b1, .int v4]) (rest := [.int v4, .ref 71]) rfl rfl rfl (Nat.le_of_ble_eq_true rfl) (sS_obj hb1) ⟨by decide, Nat.le_of_ble_eq_true rfl⟩).trans ?_
    refine (bind_eq (sp_X4_offset hb1 v4)).trans ?_
    refine bind_as.trans ?_
    refine bind_cg fun x1 hx1 => ?_
    show mm_run G0 106 24 [some (.ref 1), some (.ref b1), some (.int v2), some (.int v3), some (.int v4)] [.int (ofv (I (100 * b1 + 0)) (x1 - (I (100 * b1 + 1)))), .int v4, .ref 71] (HP I A L F E) = _
    refine (sg_stI (hh := fun X2 => (HP I (fu A 71 X2) L F E)) ht_X7_draw rfl hp_o_71 (fun _ => hp_s_71)).trans ?_
    refine bind_cg fun X2 hX2 => ?_
    refine (sg_go ht_X7_draw (k := 2) (pc' := 3) (L' := [some (.ref 1), some (.ref b1), some (.int v2), some (.int v3), some (.int (v4 + 1))]) (st' := []) (h' := (HP I (fu A 71 X2) L F E)) rfl).trans ?_
    rfl
set_option maxRecDepth 20000 in
theorem sg_X7_draw_73 {I : Nat → Int32} {A : Nat → List Int32} {L : Nat → List Int64} {F : Nat → Int64} {E : MH} {b1 : Nat} (hb1 : isS b1) (v2 : Int32) (v3 : Int32) (v4 : Int32) : mm_run G0 106 73 [some (.ref 1), some (.ref b1), some (.int v2), some (.int v3), some (.int v4)] [] (HP I A L F E) = some (none, (HP I A L F E)) := by
  exact sg_ret ht_X7_draw rfl rfl
set_option maxRecDepth 20000 in
theorem sg_X7_drawNow_0 {I : Nat → Int32} {A : Nat → List Int32} {L : Nat → List Int64} {F : Nat → Int64} {E : MH} (p1 : Int32) : mm_call G0 105 [.ref 1, .int p1] (HP I A L F E) = ((ldR [some 14, some 16, some 18, some 20] p1).bind fun a1 => ((mm_call G0 106 [.ref 1, .ref a1, .int (I (100 * a1 + 2)), .int (I (100 * a1 + 3))] (HP I A L F E)).bind fun q => mm_run G0 105 23 [some (.ref 1), some (.int p1), some (.ref a1)] (q.1.toList ++ []) q.2)) := by
  show mm_run G0 105 0 [some (.ref 1), some (.int p1), none] [] (HP I A L F E) = _
  refine (sg_go ht_X7_drawNow (k := 4) (pc' := 8) (L' := [some (.ref 1), some (.int p1), none]) (st' := [.int p1, .ref 3]) (h' := (HP I A L F E)) rfl).trans ?_
  refine (sg_ldR ht_X7_drawNow rfl hp_o_3).trans ?_
  refine bind_cg fun a1 ha1 => ?_
  have ha1 := in_3 ha1
  refine (sg_go ht_X7_drawNow (k := 4) (pc' := 13) (L' := [some (.ref 1), some (.int p1), some (.ref a1)]) (st' := [.ref a1, .ref a1, .ref 1]) (h' := (HP I A L F E)) rfl).trans ?_
  refine (sg_getI ht_X7_drawNow rfl (sS_obj ha1) rfl).trans ?_
  refine (sg_go ht_X7_drawNow (k := 1) (pc' := 17) (L' := [some (.ref 1), some (.int p1), some (.ref a1)]) (st' := [.ref a1, .int (I (100 * a1 + 2)), .ref a1, .ref 1]) (h' := (HP I A L F E)) rfl).trans ?_
  refine (sg_getI ht_X7_drawNow rfl (sS_obj ha1) rfl).trans ?_
  refine (sg_call ht_X7_drawNow (mj := 106) (as := [.ref 1, .ref a1, .int (I (100 * a1 + 2)), .int (I (100 * a1 + 3))]) (rest := []) rfl rfl ⟨by decide, Nat.le_of_ble_eq_true rfl⟩).trans ?_
  rfl
set_option maxRecDepth 20000 in
theorem sg_X7_drawNow_23 {I : Nat → Int32} {A : Nat → List Int32} {L : Nat → List Int64} {F : Nat → Int64} {E : MH} (v1 : Int32) {b2 : Nat} (hb2 : isS b2) : mm_run G0 105 23 [some (.ref 1), some (.int v1), some (.ref b2)] [] (HP I A L F E) = some (none, (HP I A L F E)) := by
  exact sg_ret ht_X7_drawNow rfl rfl
set_option maxRecDepth 20000 in
theorem sg_X7_sum_0 {I : Nat → Int32} {A : Nat → List Int32} {L : Nat → List Int64} {F : Nat → Int64} {E : MH} (p1 : Int32) (p2 : Int32) (p3 : Int32) : mm_call G0 67 [.ref 1, .int p1, .int p2, .int p3] (HP I A L F E) = (if ¬ p1 < 0 ∧ ¬ 4 ≤ p1 then (if p2 < 0 then some (some (.int (-1)), (HP I A L F E)) else (if p2 ≤ 1 then ((ldR [some 14, some 16, some 18, some 20] p1).bind fun a1 => (if ¬ p3 < 0 ∧ ¬ (I (100 * a1 + 4)) ≤ p3 then ((mm_call G0 105 [.ref 1, .int p1] (HP I A L F E)).bind fun q => mm_run G0 67 41 [some (.ref 1), some (.int p1), some (.int p2), some (.int p3)] (q.1.toList ++ []) q.2) else some (some (.int (-1)), (HP I A L F E)))) else some (some (.int (-1)), (HP I A L F E)))) else some (some (.int (-1)), (HP I A L F E))) := by
  show mm_run G0 67 0 [some (.ref 1), some (.int p1), some (.int p2), some (.int p3)] [] (HP I A L F E) = _
  refine (sg_go ht_X7_sum (k := 1) (pc' := 1) (L' := [some (.ref 1), some (.int p1), some (.int p2), some (.int p3)]) (st' := [.int p1]) (h' := (HP I A L F E)) rfl).trans ?_
  refine (sg_call ht_X7_sum (mj := 96) (as := [.int p1]) (rest := []) rfl rfl ⟨by decide, Nat.le_of_ble_eq_true rfl⟩).trans ?_
  refine (bind_eq (sp_X7_isStream p1)).trans ?_
  show mm_run G0 67 4 [some (.ref 1), some (.int p1), some (.int p2), some (.int p3)] [.int (bi (decide (¬ p1 < 0 ∧ ¬ 4 ≤ p1)))] (HP I A L F E) = _
  refine (sg_be ht_X7_sum rfl).trans ?_
  refine ite_congr rfl (fun _ => ?_) (fun _ => ?_)
  · refine (sg_go ht_X7_sum (k := 1) (pc' := 8) (L' := [some (.ref 1), some (.int p1), some (.int p2), some (.int p3)]) (st' := [.int p2]) (h' := (HP I A L F E)) rfl).trans ?_
    refine (sg_if ht_X7_sum rfl).trans ?_
    refine ite_congr rfl (fun _ => ?_) (fun _ => ?_)
    · refine (sg_go ht_X7_sum (k := 1) (pc' := 17) (L' := [some (.ref 1), some (.int p1), some (.int p2), some (.int p3)]) (st' := [.int (-1)]) (h' := (HP I A L F E)) rfl).trans ?_
      exact sg_ret ht_X7_sum rfl rfl
    · refine (sg_go ht_X7_sum (k := 2) (pc' := 13) (L' := [some (.ref 1), some (.int p1), some (.int p2), some (.int p3)]) (st' := [.int 1, .int p2]) (h' := (HP I A L F E)) rfl).trans ?_
      refine (sg_cmp ht_X7_sum rfl).trans ?_
      refine ite_congr rfl (fun _ => ?_) (fun _ => ?_)
      · refine (sg_go ht_X7_sum (k := 4) (pc' := 26) (L' := [some (.ref 1), some (.int p1), some (.int p2), some (.int p3)]) (st' := [.int p1, .ref 3]) (h' := (HP I A L F E)) rfl).trans ?_
        refine (sg_ldR ht_X7_sum rfl hp_o_3).trans ?_
        refine bind_cg fun a1 ha1 => ?_
        have ha1 := in_3 ha1
        refine (sg_go ht_X7_sum (k := 1) (pc' := 28) (L' := [some (.ref 1), some (.int p1), some (.int p2), some (.int p3)]) (st' := [.int p3, .ref a1]) (h' := (HP I A L F E)) rfl).trans ?_
        refine (sg_callV ht_X7_sum (mj := 30) (as := [.ref a1, .int p3]) (rest := []) rfl rfl rfl (Nat.le_of_ble_eq_true rfl) (sS_obj ha1) ⟨by decide, Nat.le_of_ble_eq_true rfl⟩).trans ?_
        refine (bind_eq (sp_X4_has ha1 p3)).trans ?_
        show mm_run G0 67 31 [some (.ref 1), some (.int p1), some (.int p2), some (.int p3)] [.int (bi (decide (¬ p3 < 0 ∧ ¬ (I (100 * a1 + 4)) ≤ p3)))] (HP I A L F E) = _
        refine (sg_bn ht_X7_sum rfl).trans ?_
        refine ite_congr rfl (fun _ => ?_) (fun _ => ?_)
        · refine (sg_go ht_X7_sum (k := 2) (pc' := 38) (L' := [some (.ref 1), some (.int p1), some (.int p2), some (.int p3)]) (st' := [.int p1, .ref 1]) (h' := (HP I A L F E)) rfl).trans ?_
          refine (sg_call ht_X7_sum (mj := 105) (as := [.ref 1, .int p1]) (rest := []) rfl rfl ⟨by decide, Nat.le_of_ble_eq_true rfl⟩).trans ?_
          rfl
        · refine (sg_go ht_X7_sum (k := 1) (pc' := 35) (L' := [some (.ref 1), some (.int p1), some (.int p2), some (.int p3)]) (st' := [.int (-1)]) (h' := (HP I A L F E)) rfl).trans ?_
          exact sg_ret ht_X7_sum rfl rfl
      · refine (sg_go ht_X7_sum (k := 1) (pc' := 17) (L' := [some (.ref 1), some (.int p1), some (.int p2), some (.int p3)]) (st' := [.int (-1)]) (h' := (HP I A L F E)) rfl).trans ?_
        exact sg_ret ht_X7_sum rfl rfl
  · refine (sg_go ht_X7_sum (k := 1) (pc' := 17) (L' := [some (.ref 1), some (.int p1), some (.int p2), some (.int p3)]) (st' := [.int (-1)]) (h' := (HP I A L F E)) rfl).trans ?_
    exact sg_ret ht_X7_sum rfl rfl
set_option maxRecDepth 20000 in
theorem sg_X7_sum_41 {I : Nat → Int32} {A : Nat → List Int32} {L : Nat → List Int64} {F : Nat → Int64} {E : MH} (v1 : Int32) (v2 : Int32) (v3 : Int32) : mm_run G0 67 41 [some (.ref 1), some (.int v1), some (.int v2), some (.int v3)] [] (HP I A L F E) = (if v2 ≠ 0 then ((ldI (A 50) v3).bind fun x1 => some (some (.int x1), (HP I A L F E))) else ((ldI (A 49) v3).bind fun x2 => some (some (.int x2), (HP I A L F E)))) := by
  refine (sg_go ht_X7_sum (k := 1) (pc' := 42) (L' := [some (.ref 1), some (.int v1), some (.int v2), some (.int v3)]) (st' := [.int v2]) (h' := (HP I A L F E)) rfl).trans ?_
  refine (sg_if ht_X7_sum rfl).trans ?_
  refine ite_congr rfl (fun _ => ?_) (fun _ => ?_)
  · refine (sg_go ht_X7_sum (k := 4) (pc' := 65) (L' := [some (.ref 1), some (.int v1), some (.int v2), some (.int v3)]) (st' := [.int v3, .ref 50]) (h' := (HP I A L F E)) rfl).trans ?_
    refine (sg_ldI ht_X7_sum rfl hp_o_50).trans ?_
    refine bind_cg fun x1 hx1 => ?_
    exact sg_ret ht_X7_sum rfl rfl
  · refine (sg_go ht_X7_sum (k := 4) (pc' := 53) (L' := [some (.ref 1), some (.int v1), some (.int v2), some (.int v3)]) (st' := [.int v3, .ref 49]) (h' := (HP I A L F E)) rfl).trans ?_
    refine (sg_ldI ht_X7_sum rfl hp_o_49).trans ?_
    refine bind_cg fun x2 hx2 => ?_
    refine (sg_go ht_X7_sum (k := 1) (pc' := 66) (L' := [some (.ref 1), some (.int v1), some (.int v2), some (.int v3)]) (st' := [.int x2]) (h' := (HP I A L F E)) rfl).trans ?_
    exact sg_ret ht_X7_sum rfl rfl
set_option maxRecDepth 20000 in
theorem sg_X7_alarms_0 {I : Nat → Int32} {A : Nat → List Int32} {L : Nat → List Int64} {F : Nat → Int64} {E : MH} (p1 : Int32) : mm_call G0 68 [.ref 1, .int p1] (HP I A L F E) = (if ¬ p1 < 0 ∧ ¬ 4 ≤ p1 then ((mm_call G0 105 [.ref 1, .int p1] (HP I A L F E)).bind fun q => mm_run G0 68 14 [some (.ref 1), some (.int p1)] (q.1.toList ++ []) q.2) else some (some (.int (-1)), (HP I A L F E))) := by
  show mm_run G0 68 0 [some (.ref 1), some (.int p1)] [] (HP I A L F E) = _
  refine (sg_go ht_X7_alarms (k := 1) (pc' := 1) (L' := [some (.ref 1), some (.int p1)]) (st' := [.int p1]) (h' := (HP I A L F E)) rfl).trans ?_
  refine (sg_call ht_X7_alarms (mj := 96) (as := [.int p1]) (rest := []) rfl rfl ⟨by decide, Nat.le_of_ble_eq_true rfl⟩).trans ?_
  refine (bind_eq (sp_X7_isStream p1)).trans ?_
  show mm_run G0 68 4 [some (.ref 1), some (.int p1)] [.int (bi (decide (¬ p1 < 0 ∧ ¬ 4 ≤ p1)))] (HP I A L F E) = _
  refine (sg_bn ht_X7_alarms rfl).trans ?_
  refine ite_congr rfl (fun _ => ?_) (fun _ => ?_)
  · refine (sg_go ht_X7_alarms (k := 2) (pc' := 11) (L' := [some (.ref 1), some (.int p1)]) (st' := [.int p1, .ref 1]) (h' := (HP I A L F E)) rfl).trans ?_
    refine (sg_call ht_X7_alarms (mj := 105) (as := [.ref 1, .int p1]) (rest := []) rfl rfl ⟨by decide, Nat.le_of_ble_eq_true rfl⟩).trans ?_
    rfl
  · refine (sg_go ht_X7_alarms (k := 1) (pc' := 8) (L' := [some (.ref 1), some (.int p1)]) (st' := [.int (-1)]) (h' := (HP I A L F E)) rfl).trans ?_
    exact sg_ret ht_X7_alarms rfl rfl
set_option maxRecDepth 20000 in
theorem sg_X7_alarms_14 {I : Nat → Int32} {A : Nat → List Int32} {L : Nat → List Int64} {F : Nat → Int64} {E : MH} (v1 : Int32) : mm_run G0 68 14 [some (.ref 1), some (.int v1)] [] (HP I A L F E) = some (some (.int (I 4806)), (HP I A L F E)) := by
  refine (sg_go ht_X7_alarms (k := 3) (pc' := 21) (L' := [some (.ref 1), some (.int v1)]) (st' := [.int (I 4806)]) (h' := (HP I A L F E)) rfl).trans ?_
  exact sg_ret ht_X7_alarms rfl rfl
set_option maxRecDepth 20000 in
theorem sg_X7_alarm_0 {I : Nat → Int32} {A : Nat → List Int32} {L : Nat → List Int64} {F : Nat → Int64} {E : MH} (p1 : Int32) (p2 : Int32) (p3 : Int32) : mm_call G0 69 [.ref 1, .int p1, .int p2, .int p3] (HP I A L F E) = (if ¬ p1 < 0 ∧ ¬ 4 ≤ p1 then ((mm_call G0 105 [.ref 1, .int p1] (HP I A L F E)).bind fun q => mm_run G0 69 14 [some (.ref 1), some (.int p1), some (.int p2), some (.int p3)] (q.1.toList ++ []) q.2) else some (some (.int (-1)), (HP I A L F E))) := by
  show mm_run G0 69 0 [some (.ref 1), some (.int p1), some (.int p2), some (.int p3)] [] (HP I A L F E) = _
  refine (sg_go ht_X7_alarm (k := 1) (pc' := 1) (L' := [some (.ref 1), some (.int p1), some (.int p2), some (.int p3)]) (st' := [.int p1]) (h' := (HP I A L F E)) rfl).trans ?_
  refine (sg_call ht_X7_alarm (mj := 96) (as := [.int p1]) (rest := []) rfl rfl ⟨by decide, Nat.le_of_ble_eq_true rfl⟩).trans ?_
  refine (bind_eq (sp_X7_isStream p1)).trans ?_
  show mm_run G0 69 4 [some (.ref 1), some (.int p1), some (.int p2), some (.int p3)] [.int (bi (decide (¬ p1 < 0 ∧ ¬ 4 ≤ p1)))] (HP I A L F E) = _
  refine (sg_bn ht_X7_alarm rfl).trans ?_
  refine ite_congr rfl (fun _ => ?_) (fun _ => ?_)
  · refine (sg_go ht_X7_alarm (k := 2) (pc' := 11) (L' := [some (.ref 1), some (.int p1), some (.int p2), some (.int p3)]) (st' := [.int p1, .ref 1]) (h' := (HP I A L F E)) rfl).trans ?_
    refine (sg_call ht_X7_alarm (mj := 105) (as := [.ref 1, .int p1]) (rest := []) rfl rfl ⟨by decide, Nat.le_of_ble_eq_true rfl⟩).trans ?_
    rfl
  · refine (sg_go ht_X7_alarm (k := 1) (pc' := 8) (L' := [some (.ref 1), some (.int p1), some (.int p2), some (.int p3)]) (st' := [.int (-1)]) (h' := (HP I A L F E)) rfl).trans ?_
    exact sg_ret ht_X7_alarm rfl rfl
set_option maxRecDepth 20000 in
theorem sg_X7_alarm_14 {I : Nat → Int32} {A : Nat → List Int32} {L : Nat → List Int64} {F : Nat → Int64} {E : MH} (v1 : Int32) (v2 : Int32) (v3 : Int32) : mm_run G0 69 14 [some (.ref 1), some (.int v1), some (.int v2), some (.int v3)] [] (HP I A L F E) = (if v2 < 0 then some (some (.int (-1)), (HP I A L F E)) else (if v2 < (I 4806) then (if v3 = 0 then ((ldI (A 51) v2).bind fun x1 => some (some (.int x1), (HP I A L F E))) else (if v3 = 1 then ((ldI (A 52) v2).bind fun x2 => some (some (.int x2), (HP I A L F E))) else (if v3 = 2 then ((ldI (A 53) v2).bind fun x3 => some (some (.int x3), (HP I A L F E))) else some (some (.int (-1)), (HP I A L F E))))) else some (some (.int (-1)), (HP I A L F E)))) := by
  refine (sg_go ht_X7_alarm (k := 1) (pc' := 15) (L' := [some (.ref 1), some (.int v1), some (.int v2), some (.int v3)]) (st' := [.int v2]) (h' := (HP I A L F E)) rfl).trans ?_
  refine (sg_if ht_X7_alarm rfl).trans ?_
  refine ite_congr rfl (fun _ => ?_) (fun _ => ?_)
  · refine (sg_go ht_X7_alarm (k := 1) (pc' := 30) (L' := [some (.ref 1), some (.int v1), some (.int v2), some (.int v3)]) (st' := [.int (-1)]) (h' := (HP I A L F E)) rfl).trans ?_
    exact sg_ret ht_X7_alarm rfl rfl
  · refine (sg_go ht_X7_alarm (k := 4) (pc' := 26) (L' := [some (.ref 1), some (.int v1), some (.int v2), some (.int v3)]) (st' := [.int (I 4806), .int v2]) (h' := (HP I A L F E)) rfl).trans ?_
    refine (sg_cmp ht_X7_alarm rfl).trans ?_
    refine ite_congr rfl (fun _ => ?_) (fun _ => ?_)
    · refine (sg_go ht_X7_alarm (k := 1) (pc' := 32) (L' := [some (.ref 1), some (.int v1), some (.int v2), some (.int v3)]) (st' := [.int v3]) (h' := (HP I A L F E)) rfl).trans ?_
      refine (sg_sw ht_X7_alarm rfl).trans ?_
      rw [swt_cons (k := 0) (lo' := 1) (by decide) (by decide), run_ite]
      refine ite_congr rfl (fun _ => ?_) (fun _ => ?_)
      · refine (sg_go ht_X7_alarm (k := 4) (pc' := 68) (L' := [some (.ref 1), some (.int v1), some (.int v2), some (.int v3)]) (st' := [.int v2, .ref 51]) (h' := (HP I A L F E)) rfl).trans ?_
        refine (sg_ldI ht_X7_alarm rfl hp_o_51).trans ?_
        refine bind_cg fun x1 hx1 => ?_
        exact sg_ret ht_X7_alarm rfl rfl
      · rw [swt_cons (k := 1) (lo' := 2) (by decide) (by decide), run_ite]
        refine ite_congr rfl (fun _ => ?_) (fun _ => ?_)
        · refine (sg_go ht_X7_alarm (k := 4) (pc' := 78) (L' := [some (.ref 1), some (.int v1), some (.int v2), some (.int v3)]) (st' := [.int v2, .ref 52]) (h' := (HP I A L F E)) rfl).trans ?_
          refine (sg_ldI ht_X7_alarm rfl hp_o_52).trans ?_
          refine bind_cg fun x2 hx2 => ?_
          exact sg_ret ht_X7_alarm rfl rfl
        · rw [swt_cons (k := 2) (lo' := 3) (by decide) (by decide), run_ite]
          refine ite_congr rfl (fun _ => ?_) (fun _ => ?_)
          · refine (sg_go ht_X7_alarm (k := 4) (pc' := 88) (L' := [some (.ref 1), some (.int v1), some (.int v2), some (.int v3)]) (st' := [.int v2, .ref 53]) (h' := (HP I A L F E)) rfl).trans ?_
            refine (sg_ldI ht_X7_alarm rfl hp_o_53).trans ?_
            refine bind_cg fun x3 hx3 => ?_
            exact sg_ret ht_X7_alarm rfl rfl
          · rw [swt_nil]
            refine (sg_go ht_X7_alarm (k := 1) (pc' := 91) (L' := [some (.ref 1), some (.int v1), some (.int v2), some (.int v3)]) (st' := [.int (-1)]) (h' := (HP I A L F E)) rfl).trans ?_
            exact sg_ret ht_X7_alarm rfl rfl
    · refine (sg_go ht_X7_alarm (k := 1) (pc' := 30) (L' := [some (.ref 1), some (.int v1), some (.int v2), some (.int v3)]) (st' := [.int (-1)]) (h' := (HP I A L F E)) rfl).trans ?_
      exact sg_ret ht_X7_alarm rfl rfl
set_option maxRecDepth 20000 in
theorem sg_X7_latest_0 {I : Nat → Int32} {A : Nat → List Int32} {L : Nat → List Int64} {F : Nat → Int64} {E : MH} (p1 : Int32) (p2 : Int32) : mm_call G0 70 [.ref 1, .int p1, .int p2] (HP I A L F E) = (if ¬ p1 < 0 ∧ ¬ 4 ≤ p1 then (if 0 ≤ p2 then ((mm_call G0 105 [.ref 1, .int p1] (HP I A L F E)).bind fun q => mm_run G0 70 18 [some (.ref 1), some (.int p1), some (.int p2), none, none] (q.1.toList ++ []) q.2) else some (some (.int (-1)), (HP I A L F E))) else some (some (.int (-1)), (HP I A L F E))) := by
  show mm_run G0 70 0 [some (.ref 1), some (.int p1), some (.int p2), none, none] [] (HP I A L F E) = _
  refine (sg_go ht_X7_latest (k := 1) (pc' := 1) (L' := [some (.ref 1), some (.int p1), some (.int p2), none, none]) (st' := [.int p1]) (h' := (HP I A L F E)) rfl).trans ?_
  refine (sg_call ht_X7_latest (mj := 96) (as := [.int p1]) (rest := []) rfl rfl ⟨by decide, Nat.le_of_ble_eq_true rfl⟩).trans ?_
  refine (bind_eq (sp_X7_isStream p1)).trans ?_
  show mm_run G0 70 4 [some (.ref 1), some (.int p1), some (.int p2), none, none] [.int (bi (decide (¬ p1 < 0 ∧ ¬ 4 ≤ p1)))] (HP I A L F E) = _
  refine (sg_be ht_X7_latest rfl).trans ?_
  refine ite_congr rfl (fun _ => ?_) (fun _ => ?_)
  · refine (sg_go ht_X7_latest (k := 1) (pc' := 8) (L' := [some (.ref 1), some (.int p1), some (.int p2), none, none]) (st' := [.int p2]) (h' := (HP I A L F E)) rfl).trans ?_
    refine (sg_if ht_X7_latest rfl).trans ?_
    refine ite_congr rfl (fun _ => ?_) (fun _ => ?_)
    · refine (sg_go ht_X7_latest (k := 2) (pc' := 15) (L' := [some (.ref 1), some (.int p1), some (.int p2), none, none]) (st' := [.int p1, .ref 1]) (h' := (HP I A L F E)) rfl).trans ?_
      refine (sg_call ht_X7_latest (mj := 105) (as := [.ref 1, .int p1]) (rest := []) rfl rfl ⟨by decide, Nat.le_of_ble_eq_true rfl⟩).trans ?_
      rfl
    · refine (sg_go ht_X7_latest (k := 1) (pc' := 12) (L' := [some (.ref 1), some (.int p1), some (.int p2), none, none]) (st' := [.int (-1)]) (h' := (HP I A L F E)) rfl).trans ?_
      exact sg_ret ht_X7_latest rfl rfl
  · refine (sg_go ht_X7_latest (k := 1) (pc' := 12) (L' := [some (.ref 1), some (.int p1), some (.int p2), none, none]) (st' := [.int (-1)]) (h' := (HP I A L F E)) rfl).trans ?_
    exact sg_ret ht_X7_latest rfl rfl
set_option maxRecDepth 20000 in
theorem sg_X7_latest_18 {I : Nat → Int32} {A : Nat → List Int32} {L : Nat → List Int64} {F : Nat → Int64} {E : MH} (v1 : Int32) (v2 : Int32) : mm_run G0 70 18 [some (.ref 1), some (.int v1), some (.int v2), none, none] [] (HP I A L F E) = mm_run G0 70 24 [some (.ref 1), some (.int v1), some (.int v2), some (.int (-5)), some (.int 0)] [] (HP I A L F E) := by
  refine (sg_go ht_X7_latest (k := 4) (pc' := 24) (L' := [some (.ref 1), some (.int v1), some (.int v2), some (.int (-5)), some (.int 0)]) (st' := []) (h' := (HP I A L F E)) rfl).trans ?_
  rfl
set_option maxRecDepth 20000 in
theorem sg_X7_latest_24 {I : Nat → Int32} {A : Nat → List Int32} {L : Nat → List Int64} {F : Nat → Int64} {E : MH} (v1 : Int32) (v2 : Int32) (v3 : Int32) (v4 : Int32) : mm_run G0 70 24 [some (.ref 1), some (.int v1), some (.int v2), some (.int v3), some (.int v4)] [] (HP I A L F E) = (if (I 4806) ≤ v4 then some (some (.int v3), (HP I A L F E)) else ((ldI (A 51) v4).bind fun x1 => (if v2 < x1 then mm_run G0 70 24 [some (.ref 1), some (.int v1), some (.int v2), some (.int v3), some (.int (v4 + 1))] [] (HP I A L F E) else ((ldI (A 51) v4).bind fun x2 => mm_run G0 70 24 [some (.ref 1), some (.int v1), some (.int v2), some (.int x2), some (.int (v4 + 1))] [] (HP I A L F E))))) := by
  refine (sg_go ht_X7_latest (k := 4) (pc' := 33) (L' := [some (.ref 1), some (.int v1), some (.int v2), some (.int v3), some (.int v4)]) (st' := [.int (I 4806), .int v4]) (h' := (HP I A L F E)) rfl).trans ?_
  refine (sg_cmp ht_X7_latest rfl).trans ?_
  refine ite_congr rfl (fun _ => ?_) (fun _ => ?_)
  · refine (sg_go ht_X7_latest (k := 1) (pc' := 68) (L' := [some (.ref 1), some (.int v1), some (.int v2), some (.int v3), some (.int v4)]) (st' := [.int v3]) (h' := (HP I A L F E)) rfl).trans ?_
    exact sg_ret ht_X7_latest rfl rfl
  · refine (sg_go ht_X7_latest (k := 4) (pc' := 45) (L' := [some (.ref 1), some (.int v1), some (.int v2), some (.int v3), some (.int v4)]) (st' := [.int v4, .ref 51]) (h' := (HP I A L F E)) rfl).trans ?_
    refine (sg_ldI ht_X7_latest rfl hp_o_51).trans ?_
    refine bind_cg fun x1 hx1 => ?_
    refine (sg_go ht_X7_latest (k := 1) (pc' := 47) (L' := [some (.ref 1), some (.int v1), some (.int v2), some (.int v3), some (.int v4)]) (st' := [.int v2, .int x1]) (h' := (HP I A L F E)) rfl).trans ?_
    refine (sg_cmp ht_X7_latest rfl).trans ?_
    refine ite_congr rfl (fun _ => ?_) (fun _ => ?_)
    · refine (sg_go ht_X7_latest (k := 2) (pc' := 24) (L' := [some (.ref 1), some (.int v1), some (.int v2), some (.int v3), some (.int (v4 + 1))]) (st' := []) (h' := (HP I A L F E)) rfl).trans ?_
      rfl
    · refine (sg_go ht_X7_latest (k := 4) (pc' := 59) (L' := [some (.ref 1), some (.int v1), some (.int v2), some (.int v3), some (.int v4)]) (st' := [.int v4, .ref 51]) (h' := (HP I A L F E)) rfl).trans ?_
      refine (sg_ldI ht_X7_latest rfl hp_o_51).trans ?_
      refine bind_cg fun x2 hx2 => ?_
      refine (sg_go ht_X7_latest (k := 3) (pc' := 24) (L' := [some (.ref 1), some (.int v1), some (.int v2), some (.int x2), some (.int (v4 + 1))]) (st' := []) (h' := (HP I A L F E)) rfl).trans ?_
      rfl
set_option maxRecDepth 20000 in
theorem sg_X7_drawJoint_0 {I : Nat → Int32} {A : Nat → List Int32} {L : Nat → List Int64} {F : Nat → Int64} {E : MH} (p1 : Int32) : mm_call G0 107 [.ref 1, .int p1] (HP I A L F E) = mm_run G0 107 2 [some (.ref 1), some (.int p1), some (.int 0)] [] (HP I A L F E) := by
  show mm_run G0 107 0 [some (.ref 1), some (.int p1), none] [] (HP I A L F E) = _
  refine (sg_go ht_X7_drawJoint (k := 2) (pc' := 2) (L' := [some (.ref 1), some (.int p1), some (.int 0)]) (st' := []) (h' := (HP I A L F E)) rfl).trans ?_
  rfl
set_option maxRecDepth 20000 in
theorem sg_X7_drawJoint_2 {I : Nat → Int32} {A : Nat → List Int32} {L : Nat → List Int64} {F : Nat → Int64} {E : MH} (v1 : Int32) (v2 : Int32) : mm_run G0 107 2 [some (.ref 1), some (.int v1), some (.int v2)] [] (HP I A L F E) = (if v1 ≤ v2 then ((mm_call G0 27 [.ref 2, .int 2] (HP I A L F E)).bind fun q => mm_run G0 107 39 [some (.ref 1), some (.int v1), some (.int v2)] (q.1.toList ++ [.ref 48]) q.2) else ((mm_call G0 26 [.ref 2, .int v2] (HP I A L F E)).bind fun q => mm_run G0 107 20 [some (.ref 1), some (.int v1), some (.int v2)] (q.1.toList ++ [.int v2, .ref 71]) q.2)) := by
  refine (sg_go ht_X7_drawJoint (k := 2) (pc' := 4) (L' := [some (.ref 1), some (.int v1), some (.int v2)]) (st' := [.int v1, .int v2]) (h' := (HP I A L F E)) rfl).trans ?_
  refine (sg_cmp ht_X7_drawJoint rfl).trans ?_
  refine ite_congr rfl (fun _ => ?_) (fun _ => ?_)
  · refine (sg_go ht_X7_drawJoint (k := 5) (pc' := 36) (L' := [some (.ref 1), some (.int v1), some (.int v2)]) (st' := [.int 2, .ref 2, .ref 48]) (h' := (HP I A L F E)) rfl).trans ?_
    refine (sg_call ht_X7_drawJoint (mj := 27) (as := [.ref 2, .int 2]) (rest := [.ref 48]) rfl rfl ⟨by decide, Nat.le_of_ble_eq_true rfl⟩).trans ?_
    rfl
  · refine (sg_go ht_X7_drawJoint (k := 6) (pc' := 17) (L' := [some (.ref 1), some (.int v1), some (.int v2)]) (st' := [.int v2, .ref 2, .int v2, .ref 71]) (h' := (HP I A L F E)) rfl).trans ?_
    refine (sg_call ht_X7_drawJoint (mj := 26) (as := [.ref 2, .int v2]) (rest := [.int v2, .ref 71]) rfl rfl ⟨by decide, Nat.le_of_ble_eq_true rfl⟩).trans ?_
    rfl
set_option maxRecDepth 20000 in
theorem sg_X7_drawJoint_39 {I : Nat → Int32} {A : Nat → List Int32} {L : Nat → List Int64} {F : Nat → Int64} {E : MH} (v1 : Int32) (v2 : Int32) (s1 : Int32) : mm_run G0 107 39 [some (.ref 1), some (.int v1), some (.int v2)] [.int s1, .ref 48] (HP I A L F E) = ((mm_call G0 27 [.ref 2, .int 3] (HP I A L F E)).bind fun q => mm_run G0 107 47 [some (.ref 1), some (.int v1), some (.int v2)] (q.1.toList ++ [.int s1, .ref 48]) q.2) := by
  refine (sg_go ht_X7_drawJoint (k := 3) (pc' := 44) (L' := [some (.ref 1), some (.int v1), some (.int v2)]) (st' := [.int 3, .ref 2, .int s1, .ref 48]) (h' := (HP I A L F E)) rfl).trans ?_
  refine (sg_call ht_X7_drawJoint (mj := 27) (as := [.ref 2, .int 3]) (rest := [.int s1, .ref 48]) rfl rfl ⟨by decide, Nat.le_of_ble_eq_true rfl⟩).trans ?_
  rfl
set_option maxRecDepth 20000 in
theorem sg_X7_drawJoint_20 {I : Nat → Int32} {A : Nat → List Int32} {L : Nat → List Int64} {F : Nat → Int64} {E : MH} (v1 : Int32) (v2 : Int32) (s1 : Int32) (s2 : Int32) : mm_run G0 107 20 [some (.ref 1), some (.int v1), some (.int v2)] [.int s2, .int s1, .ref 71] (HP I A L F E) = ((stI (A 71) s1 s2).bind fun X1 => mm_run G0 107 2 [some (.ref 1), some (.int v1), some (.int (v2 + 1))] [] (HP I (fu A 71 X1) L F E)) := by
  refine (sg_stI (hh := fun X1 => (HP I (fu A 71 X1) L F E)) ht_X7_drawJoint rfl hp_o_71 (fun _ => hp_s_71)).trans ?_
  refine bind_cg fun X1 hX1 => ?_
  refine (sg_go ht_X7_drawJoint (k := 2) (pc' := 2) (L' := [some (.ref 1), some (.int v1), some (.int (v2 + 1))]) (st' := []) (h' := (HP I (fu A 71 X1) L F E)) rfl).trans ?_
  rfl
set_option maxRecDepth 20000 in
theorem sg_X7_drawJoint_47 {I : Nat → Int32} {A : Nat → List Int32} {L : Nat → List Int64} {F : Nat → Int64} {E : MH} (v1 : Int32) (v2 : Int32) (s1 : Int32) (s2 : Int32) : mm_run G0 107 47 [some (.ref 1), some (.int v1), some (.int v2)] [.int s2, .int s1, .ref 48] (HP I A L F E) = ((mm_call G0 14 [.ref 48, .ref 71, .int v1] (HP (fu (fu (fu (fu (fu I 4800 s1) 4801 s2) 4802 0) 4803 0) 4806 0) A L F E)).bind fun q => mm_run G0 107 64 [some (.ref 1), some (.int v1), some (.int v2)] (q.1.toList ++ []) q.2) := by
  refine (sg_go ht_X7_drawJoint (k := 2) (pc' := 49) (L' := [some (.ref 1), some (.int v1), some (.int v2)]) (st' := [.int 0, .int 0, .int s2, .int s1, .ref 48]) (h' := (HP I A L F E)) rfl).trans ?_
  refine (sg_call ht_X7_drawJoint (mj := 13) (as := [.ref 48, .int s1, .int s2, .int 0, .int 0]) (rest := []) rfl rfl ⟨by decide, Nat.le_of_ble_eq_true rfl⟩).trans ?_
  refine (bind_eq (sg_X1_begin_0 s1 s2 0 0 (by decide))).trans ?_
  show mm_run G0 107 52 [some (.ref 1), some (.int v1), some (.int v2)] [] (HP (fu (fu (fu (fu (fu I 4800 s1) 4801 s2) 4802 0) 4803 0) 4806 0) A L F E) = _
  refine (sg_go ht_X7_drawJoint (k := 5) (pc' := 61) (L' := [some (.ref 1), some (.int v1), some (.int v2)]) (st' := [.int v1, .ref 71, .ref 48]) (h' := (HP (fu (fu (fu (fu (fu I 4800 s1) 4801 s2) 4802 0) 4803 0) 4806 0) A L F E)) rfl).trans ?_
  refine (sg_call ht_X7_drawJoint (mj := 14) (as := [.ref 48, .ref 71, .int v1]) (rest := []) rfl rfl ⟨by decide, Nat.le_of_ble_eq_true rfl⟩).trans ?_
  rfl
set_option maxRecDepth 20000 in
theorem sg_X7_drawJoint_64 {I : Nat → Int32} {A : Nat → List Int32} {L : Nat → List Int64} {F : Nat → Int64} {E : MH} (v1 : Int32) (v2 : Int32) : mm_run G0 107 64 [some (.ref 1), some (.int v1), some (.int v2)] [] (HP I A L F E) = some (none, (HP I A L F E)) := by
  exact sg_ret ht_X7_drawJoint rfl rfl
set_option maxRecDepth 20000 in
theorem sg_X7_joint_0 {I : Nat → Int32} {A : Nat → List Int32} {L : Nat → List Int64} {F : Nat → Int64} {E : MH} (p1 : Int32) : mm_call G0 71 [.ref 1, .int p1] (HP I A L F E) = ((mm_call G0 25 [.ref 2] (HP I A L F E)).bind fun q => mm_run G0 71 7 [some (.ref 1), some (.int p1), none] (q.1.toList ++ []) q.2) := by
  show mm_run G0 71 0 [some (.ref 1), some (.int p1), none] [] (HP I A L F E) = _
  refine (sg_go ht_X7_joint (k := 2) (pc' := 4) (L' := [some (.ref 1), some (.int p1), none]) (st' := [.ref 2]) (h' := (HP I A L F E)) rfl).trans ?_
  refine (sg_call ht_X7_joint (mj := 25) (as := [.ref 2]) (rest := []) rfl rfl ⟨by decide, Nat.le_of_ble_eq_true rfl⟩).trans ?_
  rfl
set_option maxRecDepth 20000 in
theorem sg_X7_joint_7 {I : Nat → Int32} {A : Nat → List Int32} {L : Nat → List Int64} {F : Nat → Int64} {E : MH} (v1 : Int32) (s0 : Int32) : mm_run G0 71 7 [some (.ref 1), some (.int v1), none] [.int s0] (HP I A L F E) = ((mm_call G0 107 [.ref 1, .int s0] (HP I A L F E)).bind fun q => mm_run G0 71 13 [some (.ref 1), some (.int v1), some (.int s0)] (q.1.toList ++ []) q.2) := by
  refine (sg_go ht_X7_joint (k := 3) (pc' := 10) (L' := [some (.ref 1), some (.int v1), some (.int s0)]) (st' := [.int s0, .ref 1]) (h' := (HP I A L F E)) rfl).trans ?_
  refine (sg_call ht_X7_joint (mj := 107) (as := [.ref 1, .int s0]) (rest := []) rfl rfl ⟨by decide, Nat.le_of_ble_eq_true rfl⟩).trans ?_
  rfl
set_option maxRecDepth 20000 in
theorem sg_X7_joint_13 {I : Nat → Int32} {A : Nat → List Int32} {L : Nat → List Int64} {F : Nat → Int64} {E : MH} (v1 : Int32) (v2 : Int32) : mm_run G0 71 13 [some (.ref 1), some (.int v1), some (.int v2)] [] (HP I A L F E) = (if v1 = 0 then some (some (.int v2), (HP I A L F E)) else (if v1 = 1 then some (some (.int (I 4806)), (HP I A L F E)) else (if v1 = 2 then (if (I 4806) ≠ 0 then ((ldI (A 51) 0).bind fun x1 => some (some (.int x1), (HP I A L F E))) else some (some (.int (-5)), (HP I A L F E))) else (if v1 = 3 then (if (I 4806) ≠ 0 then ((ldI (A 52) 0).bind fun x2 => some (some (.int x2), (HP I A L F E))) else some (some (.int (-5)), (HP I A L F E))) else (if v1 = 4 then (if (I 4806) ≠ 0 then ((ldI (A 53) 0).bind fun x3 => some (some (.int x3), (HP I A L F E))) else some (some (.int (-5)), (HP I A L F E))) else some (some (.int (-1)), (HP I A L F E))))))) := by
  refine (sg_go ht_X7_joint (k := 1) (pc' := 14) (L' := [some (.ref 1), some (.int v1), some (.int v2)]) (st' := [.int v1]) (h' := (HP I A L F E)) rfl).trans ?_
  refine (sg_sw ht_X7_joint rfl).trans ?_
  rw [swt_cons (k := 0) (lo' := 1) (by decide) (by decide), run_ite]
  refine ite_congr rfl (fun _ => ?_) (fun _ => ?_)
  · refine (sg_go ht_X7_joint (k := 1) (pc' := 49) (L' := [some (.ref 1), some (.int v1), some (.int v2)]) (st' := [.int v2]) (h' := (HP I A L F E)) rfl).trans ?_
    exact sg_ret ht_X7_joint rfl rfl
  · rw [swt_cons (k := 1) (lo' := 2) (by decide) (by decide), run_ite]
    refine ite_congr rfl (fun _ => ?_) (fun _ => ?_)
    · refine (sg_go ht_X7_joint (k := 3) (pc' := 57) (L' := [some (.ref 1), some (.int v1), some (.int v2)]) (st' := [.int (I 4806)]) (h' := (HP I A L F E)) rfl).trans ?_
      exact sg_ret ht_X7_joint rfl rfl
    · rw [swt_cons (k := 2) (lo' := 3) (by decide) (by decide), run_ite]
      refine ite_congr rfl (fun _ => ?_) (fun _ => ?_)
      · refine (sg_go ht_X7_joint (k := 2) (pc' := 62) (L' := [some (.ref 1), some (.int v1), some (.int v2)]) (st' := [.ref 48]) (h' := (HP I A L F E)) rfl).trans ?_
        refine (sg_call ht_X7_joint (mj := 16) (as := [.ref 48]) (rest := []) rfl rfl ⟨by decide, Nat.le_of_ble_eq_true rfl⟩).trans ?_
        refine (bind_eq (sg_X1_firstPlace_0 )).trans ?_
        refine ite_bd.trans ?_
        refine ite_congr rfl (fun _ => ?_) (fun _ => ?_)
        · refine bind_as.trans ?_
          refine bind_cg fun x1 hx1 => ?_
          show mm_run G0 71 65 [some (.ref 1), some (.int v1), some (.int v2)] [.int x1] (HP I A L F E) = _
          exact sg_ret ht_X7_joint rfl rfl
        · show mm_run G0 71 65 [some (.ref 1), some (.int v1), some (.int v2)] [.int (-5)] (HP I A L F E) = _
          exact sg_ret ht_X7_joint rfl rfl
      · rw [swt_cons (k := 3) (lo' := 4) (by decide) (by decide), run_ite]
        refine ite_congr rfl (fun _ => ?_) (fun _ => ?_)
        · refine (sg_go ht_X7_joint (k := 3) (pc' := 73) (L' := [some (.ref 1), some (.int v1), some (.int v2)]) (st' := [.int (I 4806)]) (h' := (HP I A L F E)) rfl).trans ?_
          refine (sg_if ht_X7_joint rfl).trans ?_
          refine ite_congr rfl (fun _ => ?_) (fun _ => ?_)
          · refine (sg_go ht_X7_joint (k := 4) (pc' := 89) (L' := [some (.ref 1), some (.int v1), some (.int v2)]) (st' := [.int 0, .ref 52]) (h' := (HP I A L F E)) rfl).trans ?_
            refine (sg_ldI ht_X7_joint rfl hp_o_52).trans ?_
            refine bind_cg fun x2 hx2 => ?_
            exact sg_ret ht_X7_joint rfl rfl
          · refine (sg_go ht_X7_joint (k := 2) (pc' := 90) (L' := [some (.ref 1), some (.int v1), some (.int v2)]) (st' := [.int (-5)]) (h' := (HP I A L F E)) rfl).trans ?_
            exact sg_ret ht_X7_joint rfl rfl
        · rw [swt_cons (k := 4) (lo' := 5) (by decide) (by decide), run_ite]
          refine ite_congr rfl (fun _ => ?_) (fun _ => ?_)
          · refine (sg_go ht_X7_joint (k := 3) (pc' := 98) (L' := [some (.ref 1), some (.int v1), some (.int v2)]) (st' := [.int (I 4806)]) (h' := (HP I A L F E)) rfl).trans ?_
            refine (sg_if ht_X7_joint rfl).trans ?_
            refine ite_congr rfl (fun _ => ?_) (fun _ => ?_)
            · refine (sg_go ht_X7_joint (k := 4) (pc' := 114) (L' := [some (.ref 1), some (.int v1), some (.int v2)]) (st' := [.int 0, .ref 53]) (h' := (HP I A L F E)) rfl).trans ?_
              refine (sg_ldI ht_X7_joint rfl hp_o_53).trans ?_
              refine bind_cg fun x3 hx3 => ?_
              exact sg_ret ht_X7_joint rfl rfl
            · refine (sg_go ht_X7_joint (k := 2) (pc' := 115) (L' := [some (.ref 1), some (.int v1), some (.int v2)]) (st' := [.int (-5)]) (h' := (HP I A L F E)) rfl).trans ?_
              exact sg_ret ht_X7_joint rfl rfl
          · rw [swt_nil]
            refine (sg_go ht_X7_joint (k := 1) (pc' := 117) (L' := [some (.ref 1), some (.int v1), some (.int v2)]) (st' := [.int (-1)]) (h' := (HP I A L F E)) rfl).trans ?_
            exact sg_ret ht_X7_joint rfl rfl
set_option maxRecDepth 20000 in
theorem sg_X7_change_0 {I : Nat → Int32} {A : Nat → List Int32} {L : Nat → List Int64} {F : Nat → Int64} {E : MH} (p1 : Int32) : mm_call G0 72 [.ref 1, .int p1] (HP I A L F E) = (if ¬ p1 < 0 ∧ ¬ 4 ≤ p1 then ((ldR [some 14, some 16, some 18, some 20] p1).bind fun a1 => ((mm_call G0 42 [.ref a1] (HP I A L F E)).bind fun q => mm_run G0 72 21 [some (.ref 1), some (.int p1)] (q.1.toList ++ []) q.2)) else some (some (.int (-1)), (HP I A L F E))) := by
  show mm_run G0 72 0 [some (.ref 1), some (.int p1)] [] (HP I A L F E) = _
  refine (sg_go ht_X7_change (k := 1) (pc' := 1) (L' := [some (.ref 1), some (.int p1)]) (st' := [.int p1]) (h' := (HP I A L F E)) rfl).trans ?_
  refine (sg_call ht_X7_change (mj := 96) (as := [.int p1]) (rest := []) rfl rfl ⟨by decide, Nat.le_of_ble_eq_true rfl⟩).trans ?_
  refine (bind_eq (sp_X7_isStream p1)).trans ?_
  show mm_run G0 72 4 [some (.ref 1), some (.int p1)] [.int (bi (decide (¬ p1 < 0 ∧ ¬ 4 ≤ p1)))] (HP I A L F E) = _
  refine (sg_bn ht_X7_change rfl).trans ?_
  refine ite_congr rfl (fun _ => ?_) (fun _ => ?_)
  · refine (sg_go ht_X7_change (k := 4) (pc' := 17) (L' := [some (.ref 1), some (.int p1)]) (st' := [.int p1, .ref 3]) (h' := (HP I A L F E)) rfl).trans ?_
    refine (sg_ldR ht_X7_change rfl hp_o_3).trans ?_
    refine bind_cg fun a1 ha1 => ?_
    have ha1 := in_3 ha1
    refine (sg_callV ht_X7_change (mj := 42) (as := [.ref a1]) (rest := []) rfl rfl rfl (Nat.le_of_ble_eq_true rfl) (sS_obj ha1) ⟨by decide, Nat.le_of_ble_eq_true rfl⟩).trans ?_
    rfl
  · refine (sg_go ht_X7_change (k := 1) (pc' := 8) (L' := [some (.ref 1), some (.int p1)]) (st' := [.int (-1)]) (h' := (HP I A L F E)) rfl).trans ?_
    exact sg_ret ht_X7_change rfl rfl
set_option maxRecDepth 20000 in
theorem sg_X7_change_21 {I : Nat → Int32} {A : Nat → List Int32} {L : Nat → List Int64} {F : Nat → Int64} {E : MH} (v1 : Int32) (s0 : Int32) : mm_run G0 72 21 [some (.ref 1), some (.int v1)] [.int s0] (HP I A L F E) = some (some (.int s0), (HP I A L F E)) := by
  exact sg_ret ht_X7_change rfl rfl
set_option maxRecDepth 20000 in
theorem sg_X7_gain_0 {I : Nat → Int32} {A : Nat → List Int32} {L : Nat → List Int64} {F : Nat → Int64} {E : MH} (p1 : Int32) (p2 : Int32) (p3 : Int32) : mm_call G0 73 [.ref 1, .int p1, .int p2, .int p3] (HP I A L F E) = (if ¬ p1 < 0 ∧ ¬ 4 ≤ p1 then (if p3 = 0 ∨ p3 = 1 then ((ldR [some 14, some 16, some 18, some 20] p1).bind fun a1 => (if p2 < 1 then some (some (.long (-9223372036854775808)), (HP I A L F E)) else (if p2 < (I (100 * a1 + 4)) then ((mm_call G0 39 [.ref a1, .int p2] (HP I A L F E)).bind fun q => mm_run G0 73 53 [some (.ref 1), some (.int p1), some (.int p2), some (.int p3), some (.ref a1)] (q.1.toList ++ []) q.2) else some (some (.long (-9223372036854775808)), (HP I A L F E))))) else some (some (.long (-9223372036854775808)), (HP I A L F E))) else some (some (.long (-9223372036854775808)), (HP I A L F E))) := by
  show mm_run G0 73 0 [some (.ref 1), some (.int p1), some (.int p2), some (.int p3), none] [] (HP I A L F E) = _
  refine (sg_go ht_X7_gain (k := 1) (pc' := 1) (L' := [some (.ref 1), some (.int p1), some (.int p2), some (.int p3), none]) (st' := [.int p1]) (h' := (HP I A L F E)) rfl).trans ?_
  refine (sg_call ht_X7_gain (mj := 96) (as := [.int p1]) (rest := []) rfl rfl ⟨by decide, Nat.le_of_ble_eq_true rfl⟩).trans ?_
  refine (bind_eq (sp_X7_isStream p1)).trans ?_
  show mm_run G0 73 4 [some (.ref 1), some (.int p1), some (.int p2), some (.int p3), none] [.int (bi (decide (¬ p1 < 0 ∧ ¬ 4 ≤ p1)))] (HP I A L F E) = _
  refine (sg_be ht_X7_gain rfl).trans ?_
  refine ite_congr rfl (fun _ => ?_) (fun _ => ?_)
  · refine (sg_go ht_X7_gain (k := 1) (pc' := 8) (L' := [some (.ref 1), some (.int p1), some (.int p2), some (.int p3), none]) (st' := [.int p3]) (h' := (HP I A L F E)) rfl).trans ?_
    refine (sg_call ht_X7_gain (mj := 99) (as := [.int p3]) (rest := []) rfl rfl ⟨by decide, Nat.le_of_ble_eq_true rfl⟩).trans ?_
    refine (bind_eq (sp_X7_isPart p3)).trans ?_
    show mm_run G0 73 11 [some (.ref 1), some (.int p1), some (.int p2), some (.int p3), none] [.int (bi (decide (p3 = 0 ∨ p3 = 1)))] (HP I A L F E) = _
    refine (sg_bn ht_X7_gain rfl).trans ?_
    refine ite_congr rfl (fun _ => ?_) (fun _ => ?_)
    · refine (sg_go ht_X7_gain (k := 4) (pc' := 26) (L' := [some (.ref 1), some (.int p1), some (.int p2), some (.int p3), none]) (st' := [.int p1, .ref 3]) (h' := (HP I A L F E)) rfl).trans ?_
      refine (sg_ldR ht_X7_gain rfl hp_o_3).trans ?_
      refine bind_cg fun a1 ha1 => ?_
      have ha1 := in_3 ha1
      refine (sg_go ht_X7_gain (k := 3) (pc' := 31) (L' := [some (.ref 1), some (.int p1), some (.int p2), some (.int p3), some (.ref a1)]) (st' := [.int 1, .int p2]) (h' := (HP I A L F E)) rfl).trans ?_
      refine (sg_cmp ht_X7_gain rfl).trans ?_
      refine ite_congr rfl (fun _ => ?_) (fun _ => ?_)
      · refine (sg_go ht_X7_gain (k := 1) (pc' := 46) (L' := [some (.ref 1), some (.int p1), some (.int p2), some (.int p3), some (.ref a1)]) (st' := [.long (-9223372036854775808)]) (h' := (HP I A L F E)) rfl).trans ?_
        exact sg_ret ht_X7_gain rfl rfl
      · refine (sg_go ht_X7_gain (k := 2) (pc' := 37) (L' := [some (.ref 1), some (.int p1), some (.int p2), some (.int p3), some (.ref a1)]) (st' := [.ref a1, .int p2]) (h' := (HP I A L F E)) rfl).trans ?_
        refine (sg_getI ht_X7_gain rfl (sS_obj ha1) rfl).trans ?_
        refine (sg_cmp ht_X7_gain rfl).trans ?_
        refine ite_congr rfl (fun _ => ?_) (fun _ => ?_)
        · refine (sg_go ht_X7_gain (k := 2) (pc' := 50) (L' := [some (.ref 1), some (.int p1), some (.int p2), some (.int p3), some (.ref a1)]) (st' := [.int p2, .ref a1]) (h' := (HP I A L F E)) rfl).trans ?_
          refine (sg_callV ht_X7_gain (mj := 39) (as := [.ref a1, .int p2]) (rest := []) rfl rfl rfl (Nat.le_of_ble_eq_true rfl) (sS_obj ha1) ⟨by decide, Nat.le_of_ble_eq_true rfl⟩).trans ?_
          rfl
        · refine (sg_go ht_X7_gain (k := 1) (pc' := 46) (L' := [some (.ref 1), some (.int p1), some (.int p2), some (.int p3), some (.ref a1)]) (st' := [.long (-9223372036854775808)]) (h' := (HP I A L F E)) rfl).trans ?_
          exact sg_ret ht_X7_gain rfl rfl
    · refine (sg_go ht_X7_gain (k := 1) (pc' := 17) (L' := [some (.ref 1), some (.int p1), some (.int p2), some (.int p3), none]) (st' := [.long (-9223372036854775808)]) (h' := (HP I A L F E)) rfl).trans ?_
      exact sg_ret ht_X7_gain rfl rfl
  · refine (sg_go ht_X7_gain (k := 1) (pc' := 17) (L' := [some (.ref 1), some (.int p1), some (.int p2), some (.int p3), none]) (st' := [.long (-9223372036854775808)]) (h' := (HP I A L F E)) rfl).trans ?_
    exact sg_ret ht_X7_gain rfl rfl
set_option maxRecDepth 20000 in
theorem sg_X7_gain_53 {I : Nat → Int32} {A : Nat → List Int32} {L : Nat → List Int64} {F : Nat → Int64} {E : MH} (v1 : Int32) (v2 : Int32) (v3 : Int32) {b4 : Nat} (hb4 : isS b4) (s0 : Int64) : mm_run G0 73 53 [some (.ref 1), some (.int v1), some (.int v2), some (.int v3), some (.ref b4)] [.long s0] (HP I A L F E) = ((mm_call G0 103 [.long s0, .long ((v2).toInt64 * (((I (100 * b4 + 4)) - v2)).toInt64), .int v3] (HP I A L F E)).bind fun q => mm_run G0 73 63 [some (.ref 1), some (.int v1), some (.int v2), some (.int v3), some (.ref b4)] (q.1.toList ++ []) q.2) := by
  refine (sg_go ht_X7_gain (k := 2) (pc' := 56) (L' := [some (.ref 1), some (.int v1), some (.int v2), some (.int v3), some (.ref b4)]) (st' := [.int v2, .ref b4, .long s0]) (h' := (HP I A L F E)) rfl).trans ?_
  refine (sg_callV ht_X7_gain (mj := 40) (as := [.ref b4, .int v2]) (rest := [.long s0]) rfl rfl rfl (Nat.le_of_ble_eq_true rfl) (sS_obj hb4) ⟨by decide, Nat.le_of_ble_eq_true rfl⟩).trans ?_
  refine (bind_eq (sg_X4_gainBelow_0 hb4 v2)).trans ?_
  show mm_run G0 73 59 [some (.ref 1), some (.int v1), some (.int v2), some (.int v3), some (.ref b4)] [.long ((v2).toInt64 * (((I (100 * b4 + 4)) - v2)).toInt64), .long s0] (HP I A L F E) = _
  refine (sg_go ht_X7_gain (k := 1) (pc' := 60) (L' := [some (.ref 1), some (.int v1), some (.int v2), some (.int v3), some (.ref b4)]) (st' := [.int v3, .long ((v2).toInt64 * (((I (100 * b4 + 4)) - v2)).toInt64), .long s0]) (h' := (HP I A L F E)) rfl).trans ?_
  refine (sg_call ht_X7_gain (mj := 103) (as := [.long s0, .long ((v2).toInt64 * (((I (100 * b4 + 4)) - v2)).toInt64), .int v3]) (rest := []) rfl rfl ⟨by decide, Nat.le_of_ble_eq_true rfl⟩).trans ?_
  rfl
set_option maxRecDepth 20000 in
theorem sg_X7_gain_63 {I : Nat → Int32} {A : Nat → List Int32} {L : Nat → List Int64} {F : Nat → Int64} {E : MH} (v1 : Int32) (v2 : Int32) (v3 : Int32) {b4 : Nat} (hb4 : isS b4) (s0 : Int64) : mm_run G0 73 63 [some (.ref 1), some (.int v1), some (.int v2), some (.int v3), some (.ref b4)] [.long s0] (HP I A L F E) = some (some (.long s0), (HP I A L F E)) := by
  exact sg_ret ht_X7_gain rfl rfl
set_option maxRecDepth 20000 in
theorem sg_X7_weighs_0 {I : Nat → Int32} {A : Nat → List Int32} {L : Nat → List Int64} {F : Nat → Int64} {E : MH} (p1 : Int32) : mm_call G0 75 [.ref 1, .int p1] (HP I A L F E) = (if ¬ p1 < (-2) ∧ ¬ 2 < p1 then ((ldI (A 4) (p1 + 2)).bind fun x1 => some (some (.int x1), (HP I A L F E))) else some (some (.int (-1)), (HP I A L F E))) := by
  show mm_run G0 75 0 [some (.ref 1), some (.int p1)] [] (HP I A L F E) = _
  refine (sg_go ht_X7_weighs (k := 1) (pc' := 1) (L' := [some (.ref 1), some (.int p1)]) (st' := [.int p1]) (h' := (HP I A L F E)) rfl).trans ?_
  refine (sg_call ht_X7_weighs (mj := 98) (as := [.int p1]) (rest := []) rfl rfl ⟨by decide, Nat.le_of_ble_eq_true rfl⟩).trans ?_
  refine (bind_eq (sp_X7_isStep p1)).trans ?_
  show mm_run G0 75 4 [some (.ref 1), some (.int p1)] [.int (bi (decide (¬ p1 < (-2) ∧ ¬ 2 < p1)))] (HP I A L F E) = _
  refine (sg_be ht_X7_weighs rfl).trans ?_
  refine ite_congr rfl (fun _ => ?_) (fun _ => ?_)
  · refine (sg_go ht_X7_weighs (k := 6) (pc' := 17) (L' := [some (.ref 1), some (.int p1)]) (st' := [.int (p1 + 2), .ref 4]) (h' := (HP I A L F E)) rfl).trans ?_
    refine (sg_ldI ht_X7_weighs rfl hp_o_4).trans ?_
    refine bind_cg fun x1 hx1 => ?_
    refine (sg_go ht_X7_weighs (k := 1) (pc' := 22) (L' := [some (.ref 1), some (.int p1)]) (st' := [.int x1]) (h' := (HP I A L F E)) rfl).trans ?_
    exact sg_ret ht_X7_weighs rfl rfl
  · refine (sg_go ht_X7_weighs (k := 1) (pc' := 22) (L' := [some (.ref 1), some (.int p1)]) (st' := [.int (-1)]) (h' := (HP I A L F E)) rfl).trans ?_
    exact sg_ret ht_X7_weighs rfl rfl
set_option maxRecDepth 20000 in
theorem sg_X7_layChain_0 {I : Nat → Int32} {A : Nat → List Int32} {L : Nat → List Int64} {F : Nat → Int64} {E : MH} (p1 : Int32) (p2 : Int32) : mm_call G0 110 [.ref 1, .int p1, .int p2] (HP I A L F E) = ((ldR [some 14, some 16, some 18, some 20] p1).bind fun a1 => (if p2 < 0 then some (some (.int 0), (HP I A L F E)) else (if (I (100 * a1 + 3)) ≤ p2 then some (some (.int 0), (HP I A L F E)) else (if (I (100 * a1 + 3)) ≤ 6 then ((mm_call G0 2 [.ref 54, .int (I (100 * a1 + 2)), .int (I (100 * a1 + 3)), .ref 4] (HP I A L F E)).bind fun q => mm_run G0 110 55 [some (.ref 1), some (.int p1), some (.int p2), some (.ref a1)] (q.1.toList ++ []) q.2) else some (some (.int 0), (HP I A L F E)))))) := by
  show mm_run G0 110 0 [some (.ref 1), some (.int p1), some (.int p2), none] [] (HP I A L F E) = _
  refine (sg_go ht_X7_layChain (k := 4) (pc' := 8) (L' := [some (.ref 1), some (.int p1), some (.int p2), none]) (st' := [.int p1, .ref 3]) (h' := (HP I A L F E)) rfl).trans ?_
  refine (sg_ldR ht_X7_layChain rfl hp_o_3).trans ?_
  refine bind_cg fun a1 ha1 => ?_
  have ha1 := in_3 ha1
  refine (sg_go ht_X7_layChain (k := 2) (pc' := 11) (L' := [some (.ref 1), some (.int p1), some (.int p2), some (.ref a1)]) (st' := [.int p2]) (h' := (HP I A L F E)) rfl).trans ?_
  refine (sg_if ht_X7_layChain rfl).trans ?_
  refine ite_congr rfl (fun _ => ?_) (fun _ => ?_)
  · refine (sg_go ht_X7_layChain (k := 1) (pc' := 32) (L' := [some (.ref 1), some (.int p1), some (.int p2), some (.ref a1)]) (st' := [.int 0]) (h' := (HP I A L F E)) rfl).trans ?_
    exact sg_ret ht_X7_layChain rfl rfl
  · refine (sg_go ht_X7_layChain (k := 2) (pc' := 16) (L' := [some (.ref 1), some (.int p1), some (.int p2), some (.ref a1)]) (st' := [.ref a1, .int p2]) (h' := (HP I A L F E)) rfl).trans ?_
    refine (sg_getI ht_X7_layChain rfl (sS_obj ha1) rfl).trans ?_
    refine (sg_cmp ht_X7_layChain rfl).trans ?_
    refine ite_congr rfl (fun _ => ?_) (fun _ => ?_)
    · refine (sg_go ht_X7_layChain (k := 1) (pc' := 32) (L' := [some (.ref 1), some (.int p1), some (.int p2), some (.ref a1)]) (st' := [.int 0]) (h' := (HP I A L F E)) rfl).trans ?_
      exact sg_ret ht_X7_layChain rfl rfl
    · refine (sg_go ht_X7_layChain (k := 1) (pc' := 23) (L' := [some (.ref 1), some (.int p1), some (.int p2), some (.ref a1)]) (st' := [.ref a1]) (h' := (HP I A L F E)) rfl).trans ?_
      refine (sg_getI ht_X7_layChain rfl (sS_obj ha1) rfl).trans ?_
      refine (sg_go ht_X7_layChain (k := 1) (pc' := 28) (L' := [some (.ref 1), some (.int p1), some (.int p2), some (.ref a1)]) (st' := [.int 6, .int (I (100 * a1 + 3))]) (h' := (HP I A L F E)) rfl).trans ?_
      refine (sg_cmp ht_X7_layChain rfl).trans ?_
      refine ite_congr rfl (fun _ => ?_) (fun _ => ?_)
      · refine (sg_go ht_X7_layChain (k := 3) (pc' := 38) (L' := [some (.ref 1), some (.int p1), some (.int p2), some (.ref a1)]) (st' := [.ref a1, .ref 54]) (h' := (HP I A L F E)) rfl).trans ?_
        refine (sg_getI ht_X7_layChain rfl (sS_obj ha1) rfl).trans ?_
        refine (sg_go ht_X7_layChain (k := 1) (pc' := 42) (L' := [some (.ref 1), some (.int p1), some (.int p2), some (.ref a1)]) (st' := [.ref a1, .int (I (100 * a1 + 2)), .ref 54]) (h' := (HP I A L F E)) rfl).trans ?_
        refine (sg_getI ht_X7_layChain rfl (sS_obj ha1) rfl).trans ?_
        refine (sg_go ht_X7_layChain (k := 3) (pc' := 52) (L' := [some (.ref 1), some (.int p1), some (.int p2), some (.ref a1)]) (st' := [.ref 4, .int (I (100 * a1 + 3)), .int (I (100 * a1 + 2)), .ref 54]) (h' := (HP I A L F E)) rfl).trans ?_
        refine (sg_call ht_X7_layChain (mj := 2) (as := [.ref 54, .int (I (100 * a1 + 2)), .int (I (100 * a1 + 3)), .ref 4]) (rest := []) rfl rfl ⟨by decide, Nat.le_of_ble_eq_true rfl⟩).trans ?_
        rfl
      · refine (sg_go ht_X7_layChain (k := 1) (pc' := 32) (L' := [some (.ref 1), some (.int p1), some (.int p2), some (.ref a1)]) (st' := [.int 0]) (h' := (HP I A L F E)) rfl).trans ?_
        exact sg_ret ht_X7_layChain rfl rfl
set_option maxRecDepth 20000 in
theorem sg_X7_layChain_55 {I : Nat → Int32} {A : Nat → List Int32} {L : Nat → List Int64} {F : Nat → Int64} {E : MH} (v1 : Int32) (v2 : Int32) {b3 : Nat} (hb3 : isS b3) : mm_run G0 110 55 [some (.ref 1), some (.int v1), some (.int v2), some (.ref b3)] [] (HP I A L F E) = (if (I 5403) ≤ 0 then some (some (.int 0), (HP I A L F E)) else some (some (.int 1), (HP I A L F E))) := by
  refine (sg_go ht_X7_layChain (k := 3) (pc' := 62) (L' := [some (.ref 1), some (.int v1), some (.int v2), some (.ref b3)]) (st' := [.int (I 5403)]) (h' := (HP I A L F E)) rfl).trans ?_
  refine (sg_if ht_X7_layChain rfl).trans ?_
  refine ite_congr rfl (fun _ => ?_) (fun _ => ?_)
  · refine (sg_go ht_X7_layChain (k := 1) (pc' := 70) (L' := [some (.ref 1), some (.int v1), some (.int v2), some (.ref b3)]) (st' := [.int 0]) (h' := (HP I A L F E)) rfl).trans ?_
    exact sg_ret ht_X7_layChain rfl rfl
  · refine (sg_go ht_X7_layChain (k := 2) (pc' := 70) (L' := [some (.ref 1), some (.int v1), some (.int v2), some (.ref b3)]) (st' := [.int 1]) (h' := (HP I A L F E)) rfl).trans ?_
    exact sg_ret ht_X7_layChain rfl rfl
set_option maxRecDepth 20000 in
theorem sg_X7_run_0 {I : Nat → Int32} {A : Nat → List Int32} {L : Nat → List Int64} {F : Nat → Int64} {E : MH} (p1 : Int32) (p2 : Int32) (p3 : Int32) : mm_call G0 76 [.ref 1, .int p1, .int p2, .int p3] (HP I A L F E) = (if ¬ p1 < 0 ∧ ¬ 4 ≤ p1 then (if p3 = 0 ∨ p3 = 1 then ((mm_call G0 110 [.ref 1, .int p1, .int p2] (HP I A L F E)).bind fun q => mm_run G0 76 24 [some (.ref 1), some (.int p1), some (.int p2), some (.int p3)] (q.1.toList ++ []) q.2) else some (some (.long (-9223372036854775808)), (HP I A L F E))) else some (some (.long (-9223372036854775808)), (HP I A L F E))) := by
  show mm_run G0 76 0 [some (.ref 1), some (.int p1), some (.int p2), some (.int p3)] [] (HP I A L F E) = _
  refine (sg_go ht_X7_run (k := 1) (pc' := 1) (L' := [some (.ref 1), some (.int p1), some (.int p2), some (.int p3)]) (st' := [.int p1]) (h' := (HP I A L F E)) rfl).trans ?_
  refine (sg_call ht_X7_run (mj := 96) (as := [.int p1]) (rest := []) rfl rfl ⟨by decide, Nat.le_of_ble_eq_true rfl⟩).trans ?_
  refine (bind_eq (sp_X7_isStream p1)).trans ?_
  show mm_run G0 76 4 [some (.ref 1), some (.int p1), some (.int p2), some (.int p3)] [.int (bi (decide (¬ p1 < 0 ∧ ¬ 4 ≤ p1)))] (HP I A L F E) = _
  refine (sg_be ht_X7_run rfl).trans ?_
  refine ite_congr rfl (fun _ => ?_) (fun _ => ?_)
  · refine (sg_go ht_X7_run (k := 1) (pc' := 8) (L' := [some (.ref 1), some (.int p1), some (.int p2), some (.int p3)]) (st' := [.int p3]) (h' := (HP I A L F E)) rfl).trans ?_
    refine (sg_call ht_X7_run (mj := 99) (as := [.int p3]) (rest := []) rfl rfl ⟨by decide, Nat.le_of_ble_eq_true rfl⟩).trans ?_
    refine (bind_eq (sp_X7_isPart p3)).trans ?_
    show mm_run G0 76 11 [some (.ref 1), some (.int p1), some (.int p2), some (.int p3)] [.int (bi (decide (p3 = 0 ∨ p3 = 1)))] (HP I A L F E) = _
    refine (sg_bn ht_X7_run rfl).trans ?_
    refine ite_congr rfl (fun _ => ?_) (fun _ => ?_)
    · refine (sg_go ht_X7_run (k := 3) (pc' := 21) (L' := [some (.ref 1), some (.int p1), some (.int p2), some (.int p3)]) (st' := [.int p2, .int p1, .ref 1]) (h' := (HP I A L F E)) rfl).trans ?_
      refine (sg_call ht_X7_run (mj := 110) (as := [.ref 1, .int p1, .int p2]) (rest := []) rfl rfl ⟨by decide, Nat.le_of_ble_eq_true rfl⟩).trans ?_
      rfl
    · refine (sg_go ht_X7_run (k := 1) (pc' := 17) (L' := [some (.ref 1), some (.int p1), some (.int p2), some (.int p3)]) (st' := [.long (-9223372036854775808)]) (h' := (HP I A L F E)) rfl).trans ?_
      exact sg_ret ht_X7_run rfl rfl
  · refine (sg_go ht_X7_run (k := 1) (pc' := 17) (L' := [some (.ref 1), some (.int p1), some (.int p2), some (.int p3)]) (st' := [.long (-9223372036854775808)]) (h' := (HP I A L F E)) rfl).trans ?_
    exact sg_ret ht_X7_run rfl rfl
set_option maxRecDepth 20000 in
theorem sg_X7_run_24 {I : Nat → Int32} {A : Nat → List Int32} {L : Nat → List Int64} {F : Nat → Int64} {E : MH} (v1 : Int32) (v2 : Int32) (v3 : Int32) (s0 : Int32) : mm_run G0 76 24 [some (.ref 1), some (.int v1), some (.int v2), some (.int v3)] [.int s0] (HP I A L F E) = (if s0 = 0 then some (some (.long (-9223372036854775808)), (HP I A L F E)) else ((mm_call G0 6 [.ref 54, .int v2] (HP I A L F E)).bind fun q => mm_run G0 76 35 [some (.ref 1), some (.int v1), some (.int v2), some (.int v3)] (q.1.toList ++ []) q.2)) := by
  refine (sg_if ht_X7_run rfl).trans ?_
  refine ite_congr rfl (fun _ => ?_) (fun _ => ?_)
  · refine (sg_go ht_X7_run (k := 1) (pc' := 41) (L' := [some (.ref 1), some (.int v1), some (.int v2), some (.int v3)]) (st' := [.long (-9223372036854775808)]) (h' := (HP I A L F E)) rfl).trans ?_
    exact sg_ret ht_X7_run rfl rfl
  · refine (sg_go ht_X7_run (k := 3) (pc' := 32) (L' := [some (.ref 1), some (.int v1), some (.int v2), some (.int v3)]) (st' := [.int v2, .ref 54]) (h' := (HP I A L F E)) rfl).trans ?_
    refine (sg_call ht_X7_run (mj := 6) (as := [.ref 54, .int v2]) (rest := []) rfl rfl ⟨by decide, Nat.le_of_ble_eq_true rfl⟩).trans ?_
    rfl
set_option maxRecDepth 20000 in
theorem sg_X7_run_35 {I : Nat → Int32} {A : Nat → List Int32} {L : Nat → List Int64} {F : Nat → Int64} {E : MH} (v1 : Int32) (v2 : Int32) (v3 : Int32) (s0 : Int32) : mm_run G0 76 35 [some (.ref 1), some (.int v1), some (.int v2), some (.int v3)] [.int s0] (HP I A L F E) = (if s0 ≠ 0 then ((mm_call G0 8 [.ref 54, .int v2] (HP I A L F E)).bind fun q => mm_run G0 76 50 [some (.ref 1), some (.int v1), some (.int v2), some (.int v3)] (q.1.toList ++ []) q.2) else some (some (.long (-9223372036854775808)), (HP I A L F E))) := by
  refine (sg_if ht_X7_run rfl).trans ?_
  refine ite_congr rfl (fun _ => ?_) (fun _ => ?_)
  · refine (sg_go ht_X7_run (k := 3) (pc' := 47) (L' := [some (.ref 1), some (.int v1), some (.int v2), some (.int v3)]) (st' := [.int v2, .ref 54]) (h' := (HP I A L F E)) rfl).trans ?_
    refine (sg_call ht_X7_run (mj := 8) (as := [.ref 54, .int v2]) (rest := []) rfl rfl ⟨by decide, Nat.le_of_ble_eq_true rfl⟩).trans ?_
    rfl
  · refine (sg_go ht_X7_run (k := 1) (pc' := 41) (L' := [some (.ref 1), some (.int v1), some (.int v2), some (.int v3)]) (st' := [.long (-9223372036854775808)]) (h' := (HP I A L F E)) rfl).trans ?_
    exact sg_ret ht_X7_run rfl rfl
set_option maxRecDepth 20000 in
theorem sg_X7_run_50 {I : Nat → Int32} {A : Nat → List Int32} {L : Nat → List Int64} {F : Nat → Int64} {E : MH} (v1 : Int32) (v2 : Int32) (v3 : Int32) : mm_run G0 76 50 [some (.ref 1), some (.int v1), some (.int v2), some (.int v3)] [] (HP I A L F E) = ((mm_call G0 103 [.long (F 5404), .long (F 5405), .int v3] (HP I A L F E)).bind fun q => mm_run G0 76 68 [some (.ref 1), some (.int v1), some (.int v2), some (.int v3)] (q.1.toList ++ []) q.2) := by
  refine (sg_go ht_X7_run (k := 7) (pc' := 65) (L' := [some (.ref 1), some (.int v1), some (.int v2), some (.int v3)]) (st' := [.int v3, .long (F 5405), .long (F 5404)]) (h' := (HP I A L F E)) rfl).trans ?_
  refine (sg_call ht_X7_run (mj := 103) (as := [.long (F 5404), .long (F 5405), .int v3]) (rest := []) rfl rfl ⟨by decide, Nat.le_of_ble_eq_true rfl⟩).trans ?_
  rfl
set_option maxRecDepth 20000 in
theorem sg_X7_run_68 {I : Nat → Int32} {A : Nat → List Int32} {L : Nat → List Int64} {F : Nat → Int64} {E : MH} (v1 : Int32) (v2 : Int32) (v3 : Int32) (s0 : Int64) : mm_run G0 76 68 [some (.ref 1), some (.int v1), some (.int v2), some (.int v3)] [.long s0] (HP I A L F E) = some (some (.long s0), (HP I A L F E)) := by
  exact sg_ret ht_X7_run rfl rfl
set_option maxRecDepth 20000 in
theorem sg_X7_likely_0 {I : Nat → Int32} {A : Nat → List Int32} {L : Nat → List Int64} {F : Nat → Int64} {E : MH} (p1 : Int32) (p2 : Int32) (p3 : Int32) (p4 : Int32) : mm_call G0 77 [.ref 1, .int p1, .int p2, .int p3, .int p4] (HP I A L F E) = (if ¬ p1 < 0 ∧ ¬ 4 ≤ p1 then (if p4 = 0 ∨ p4 = 1 then (if p3 < 0 then some (some (.long (-9223372036854775808)), (HP I A L F E)) else (if 8 < p3 then some (some (.long (-9223372036854775808)), (HP I A L F E)) else ((mm_call G0 110 [.ref 1, .int p1, .int p2] (HP I A L F E)).bind fun q => mm_run G0 77 35 [some (.ref 1), some (.int p1), some (.int p2), some (.int p3), some (.int p4)] (q.1.toList ++ []) q.2))) else some (some (.long (-9223372036854775808)), (HP I A L F E))) else some (some (.long (-9223372036854775808)), (HP I A L F E))) := by
  show mm_run G0 77 0 [some (.ref 1), some (.int p1), some (.int p2), some (.int p3), some (.int p4)] [] (HP I A L F E) = _
  refine (sg_go ht_X7_likely (k := 1) (pc' := 1) (L' := [some (.ref 1), some (.int p1), some (.int p2), some (.int p3), some (.int p4)]) (st' := [.int p1]) (h' := (HP I A L F E)) rfl).trans ?_
  refine (sg_call ht_X7_likely (mj := 96) (as := [.int p1]) (rest := []) rfl rfl ⟨by decide, Nat.le_of_ble_eq_true rfl⟩).trans ?_
  refine (bind_eq (sp_X7_isStream p1)).trans ?_
  show mm_run G0 77 4 [some (.ref 1), some (.int p1), some (.int p2), some (.int p3), some (.int p4)] [.int (bi (decide (¬ p1 < 0 ∧ ¬ 4 ≤ p1)))] (HP I A L F E) = _
  refine (sg_be ht_X7_likely rfl).trans ?_
  refine ite_congr rfl (fun _ => ?_) (fun _ => ?_)
  · refine (sg_go ht_X7_likely (k := 1) (pc' := 9) (L' := [some (.ref 1), some (.int p1), some (.int p2), some (.int p3), some (.int p4)]) (st' := [.int p4]) (h' := (HP I A L F E)) rfl).trans ?_
    refine (sg_call ht_X7_likely (mj := 99) (as := [.int p4]) (rest := []) rfl rfl ⟨by decide, Nat.le_of_ble_eq_true rfl⟩).trans ?_
    refine (bind_eq (sp_X7_isPart p4)).trans ?_
    show mm_run G0 77 12 [some (.ref 1), some (.int p1), some (.int p2), some (.int p3), some (.int p4)] [.int (bi (decide (p4 = 0 ∨ p4 = 1)))] (HP I A L F E) = _
    refine (sg_bn ht_X7_likely rfl).trans ?_
    refine ite_congr rfl (fun _ => ?_) (fun _ => ?_)
    · refine (sg_go ht_X7_likely (k := 1) (pc' := 20) (L' := [some (.ref 1), some (.int p1), some (.int p2), some (.int p3), some (.int p4)]) (st' := [.int p3]) (h' := (HP I A L F E)) rfl).trans ?_
      refine (sg_if ht_X7_likely rfl).trans ?_
      refine ite_congr rfl (fun _ => ?_) (fun _ => ?_)
      · refine (sg_go ht_X7_likely (k := 1) (pc' := 41) (L' := [some (.ref 1), some (.int p1), some (.int p2), some (.int p3), some (.int p4)]) (st' := [.long (-9223372036854775808)]) (h' := (HP I A L F E)) rfl).trans ?_
        exact sg_ret ht_X7_likely rfl rfl
      · refine (sg_go ht_X7_likely (k := 2) (pc' := 26) (L' := [some (.ref 1), some (.int p1), some (.int p2), some (.int p3), some (.int p4)]) (st' := [.int 8, .int p3]) (h' := (HP I A L F E)) rfl).trans ?_
        refine (sg_cmp ht_X7_likely rfl).trans ?_
        refine ite_congr rfl (fun _ => ?_) (fun _ => ?_)
        · refine (sg_go ht_X7_likely (k := 1) (pc' := 41) (L' := [some (.ref 1), some (.int p1), some (.int p2), some (.int p3), some (.int p4)]) (st' := [.long (-9223372036854775808)]) (h' := (HP I A L F E)) rfl).trans ?_
          exact sg_ret ht_X7_likely rfl rfl
        · refine (sg_go ht_X7_likely (k := 3) (pc' := 32) (L' := [some (.ref 1), some (.int p1), some (.int p2), some (.int p3), some (.int p4)]) (st' := [.int p2, .int p1, .ref 1]) (h' := (HP I A L F E)) rfl).trans ?_
          refine (sg_call ht_X7_likely (mj := 110) (as := [.ref 1, .int p1, .int p2]) (rest := []) rfl rfl ⟨by decide, Nat.le_of_ble_eq_true rfl⟩).trans ?_
          rfl
    · refine (sg_go ht_X7_likely (k := 1) (pc' := 18) (L' := [some (.ref 1), some (.int p1), some (.int p2), some (.int p3), some (.int p4)]) (st' := [.long (-9223372036854775808)]) (h' := (HP I A L F E)) rfl).trans ?_
      exact sg_ret ht_X7_likely rfl rfl
  · refine (sg_go ht_X7_likely (k := 1) (pc' := 18) (L' := [some (.ref 1), some (.int p1), some (.int p2), some (.int p3), some (.int p4)]) (st' := [.long (-9223372036854775808)]) (h' := (HP I A L F E)) rfl).trans ?_
    exact sg_ret ht_X7_likely rfl rfl
set_option maxRecDepth 20000 in
theorem sg_X7_likely_35 {I : Nat → Int32} {A : Nat → List Int32} {L : Nat → List Int64} {F : Nat → Int64} {E : MH} (v1 : Int32) (v2 : Int32) (v3 : Int32) (v4 : Int32) (s0 : Int32) : mm_run G0 77 35 [some (.ref 1), some (.int v1), some (.int v2), some (.int v3), some (.int v4)] [.int s0] (HP I A L F E) = (if s0 ≠ 0 then ((mm_call G0 4 [.ref 54, .int v2, .int v3] (HP I A L F E)).bind fun q => mm_run G0 77 51 [some (.ref 1), some (.int v1), some (.int v2), some (.int v3), some (.int v4)] (q.1.toList ++ []) q.2) else some (some (.long (-9223372036854775808)), (HP I A L F E))) := by
  refine (sg_if ht_X7_likely rfl).trans ?_
  refine ite_congr rfl (fun _ => ?_) (fun _ => ?_)
  · refine (sg_go ht_X7_likely (k := 4) (pc' := 48) (L' := [some (.ref 1), some (.int v1), some (.int v2), some (.int v3), some (.int v4)]) (st' := [.int v3, .int v2, .ref 54]) (h' := (HP I A L F E)) rfl).trans ?_
    refine (sg_call ht_X7_likely (mj := 4) (as := [.ref 54, .int v2, .int v3]) (rest := []) rfl rfl ⟨by decide, Nat.le_of_ble_eq_true rfl⟩).trans ?_
    rfl
  · refine (sg_go ht_X7_likely (k := 1) (pc' := 41) (L' := [some (.ref 1), some (.int v1), some (.int v2), some (.int v3), some (.int v4)]) (st' := [.long (-9223372036854775808)]) (h' := (HP I A L F E)) rfl).trans ?_
    exact sg_ret ht_X7_likely rfl rfl
set_option maxRecDepth 20000 in
theorem sg_X7_likely_51 {I : Nat → Int32} {A : Nat → List Int32} {L : Nat → List Int64} {F : Nat → Int64} {E : MH} (v1 : Int32) (v2 : Int32) (v3 : Int32) (v4 : Int32) : mm_run G0 77 51 [some (.ref 1), some (.int v1), some (.int v2), some (.int v3), some (.int v4)] [] (HP I A L F E) = ((mm_call G0 103 [.long (F 5404), .long (F 5405), .int v4] (HP I A L F E)).bind fun q => mm_run G0 77 70 [some (.ref 1), some (.int v1), some (.int v2), some (.int v3), some (.int v4)] (q.1.toList ++ []) q.2) := by
  refine (sg_go ht_X7_likely (k := 7) (pc' := 67) (L' := [some (.ref 1), some (.int v1), some (.int v2), some (.int v3), some (.int v4)]) (st' := [.int v4, .long (F 5405), .long (F 5404)]) (h' := (HP I A L F E)) rfl).trans ?_
  refine (sg_call ht_X7_likely (mj := 103) (as := [.long (F 5404), .long (F 5405), .int v4]) (rest := []) rfl rfl ⟨by decide, Nat.le_of_ble_eq_true rfl⟩).trans ?_
  rfl
set_option maxRecDepth 20000 in
theorem sg_X7_likely_70 {I : Nat → Int32} {A : Nat → List Int32} {L : Nat → List Int64} {F : Nat → Int64} {E : MH} (v1 : Int32) (v2 : Int32) (v3 : Int32) (v4 : Int32) (s0 : Int64) : mm_run G0 77 70 [some (.ref 1), some (.int v1), some (.int v2), some (.int v3), some (.int v4)] [.long s0] (HP I A L F E) = some (some (.long s0), (HP I A L F E)) := by
  exact sg_ret ht_X7_likely rfl rfl
set_option maxRecDepth 20000 in
theorem sg_X7_would_0 {I : Nat → Int32} {A : Nat → List Int32} {L : Nat → List Int64} {F : Nat → Int64} {E : MH} (p1 : Int32) (p2 : Int32) (p3 : Int32) : mm_call G0 78 [.ref 1, .int p1, .int p2, .int p3] (HP I A L F E) = (if ¬ p1 < 0 ∧ ¬ 4 ≤ p1 then (if p2 = 2 then (if okS p2 p3 = true then ((ldR [some 14, some 16, some 18, some 20] p1).bind fun a1 => (if p2 ≠ 2 then ((mm_call G0 106 [.ref 1, .ref a1, .int (I (100 * a1 + 2)), .int p3] (HP I A L F E)).bind fun q => mm_run G0 78 73 [some (.ref 1), some (.int p1), some (.int p2), some (.int p3), some (.ref a1)] (q.1.toList ++ []) q.2) else ((mm_call G0 106 [.ref 1, .ref a1, .int p3, .int (I (100 * a1 + 3))] (HP I A L F E)).bind fun q => mm_run G0 78 58 [some (.ref 1), some (.int p1), some (.int p2), some (.int p3), some (.ref a1)] (q.1.toList ++ []) q.2))) else some (some (.int (-2)), (HP I A L F E))) else (if p2 = 3 then (if okS p2 p3 = true then ((ldR [some 14, some 16, some 18, some 20] p1).bind fun a2 => (if p2 ≠ 2 then ((mm_call G0 106 [.ref 1, .ref a2, .int (I (100 * a2 + 2)), .int p3] (HP I A L F E)).bind fun q => mm_run G0 78 73 [some (.ref 1), some (.int p1), some (.int p2), some (.int p3), some (.ref a2)] (q.1.toList ++ []) q.2) else ((mm_call G0 106 [.ref 1, .ref a2, .int p3, .int (I (100 * a2 + 3))] (HP I A L F E)).bind fun q => mm_run G0 78 58 [some (.ref 1), some (.int p1), some (.int p2), some (.int p3), some (.ref a2)] (q.1.toList ++ []) q.2))) else some (some (.int (-2)), (HP I A L F E))) else some (some (.int (-1)), (HP I A L F E)))) else some (some (.int (-1)), (HP I A L F E))) := by
  show mm_run G0 78 0 [some (.ref 1), some (.int p1), some (.int p2), some (.int p3), none] [] (HP I A L F E) = _
  refine (sg_go ht_X7_would (k := 1) (pc' := 1) (L' := [some (.ref 1), some (.int p1), some (.int p2), some (.int p3), none]) (st' := [.int p1]) (h' := (HP I A L F E)) rfl).trans ?_
  refine (sg_call ht_X7_would (mj := 96) (as := [.int p1]) (rest := []) rfl rfl ⟨by decide, Nat.le_of_ble_eq_true rfl⟩).trans ?_
  refine (bind_eq (sp_X7_isStream p1)).trans ?_
  show mm_run G0 78 4 [some (.ref 1), some (.int p1), some (.int p2), some (.int p3), none] [.int (bi (decide (¬ p1 < 0 ∧ ¬ 4 ≤ p1)))] (HP I A L F E) = _
  refine (sg_be ht_X7_would rfl).trans ?_
  refine ite_congr rfl (fun _ => ?_) (fun _ => ?_)
  · refine (sg_go ht_X7_would (k := 2) (pc' := 9) (L' := [some (.ref 1), some (.int p1), some (.int p2), some (.int p3), none]) (st' := [.int 2, .int p2]) (h' := (HP I A L F E)) rfl).trans ?_
    refine (sg_cmp ht_X7_would rfl).trans ?_
    refine ite_congr rfl (fun _ => ?_) (fun _ => ?_)
    · refine (sg_go ht_X7_would (k := 2) (pc' := 21) (L' := [some (.ref 1), some (.int p1), some (.int p2), some (.int p3), none]) (st' := [.int p3, .int p2]) (h' := (HP I A L F E)) rfl).trans ?_
      refine (sg_call ht_X7_would (mj := 101) (as := [.int p2, .int p3]) (rest := []) rfl rfl ⟨by decide, Nat.le_of_ble_eq_true rfl⟩).trans ?_
      refine (bind_eq (sp_X7_isSetting p2 p3)).trans ?_
      show mm_run G0 78 24 [some (.ref 1), some (.int p1), some (.int p2), some (.int p3), none] [.int (bi (okS p2 p3))] (HP I A L F E) = _
      refine (sg_bnB ht_X7_would rfl).trans ?_
      refine ite_congr rfl (fun _ => ?_) (fun _ => ?_)
      · refine (sg_go ht_X7_would (k := 4) (pc' := 38) (L' := [some (.ref 1), some (.int p1), some (.int p2), some (.int p3), none]) (st' := [.int p1, .ref 3]) (h' := (HP I A L F E)) rfl).trans ?_
        refine (sg_ldR ht_X7_would rfl hp_o_3).trans ?_
        refine bind_cg fun a1 ha1 => ?_
        have ha1 := in_3 ha1
        refine (sg_go ht_X7_would (k := 3) (pc' := 43) (L' := [some (.ref 1), some (.int p1), some (.int p2), some (.int p3), some (.ref a1)]) (st' := [.int 2, .int p2]) (h' := (HP I A L F E)) rfl).trans ?_
        refine (sg_cmp ht_X7_would rfl).trans ?_
        refine ite_congr rfl (fun _ => ?_) (fun _ => ?_)
        · refine (sg_go ht_X7_would (k := 3) (pc' := 66) (L' := [some (.ref 1), some (.int p1), some (.int p2), some (.int p3), some (.ref a1)]) (st' := [.ref a1, .ref a1, .ref 1]) (h' := (HP I A L F E)) rfl).trans ?_
          refine (sg_getI ht_X7_would rfl (sS_obj ha1) rfl).trans ?_
          refine (sg_go ht_X7_would (k := 1) (pc' := 70) (L' := [some (.ref 1), some (.int p1), some (.int p2), some (.int p3), some (.ref a1)]) (st' := [.int p3, .int (I (100 * a1 + 2)), .ref a1, .ref 1]) (h' := (HP I A L F E)) rfl).trans ?_
          refine (sg_call ht_X7_would (mj := 106) (as := [.ref 1, .ref a1, .int (I (100 * a1 + 2)), .int p3]) (rest := []) rfl rfl ⟨by decide, Nat.le_of_ble_eq_true rfl⟩).trans ?_
          rfl
        · refine (sg_go ht_X7_would (k := 4) (pc' := 52) (L' := [some (.ref 1), some (.int p1), some (.int p2), some (.int p3), some (.ref a1)]) (st' := [.ref a1, .int p3, .ref a1, .ref 1]) (h' := (HP I A L F E)) rfl).trans ?_
          refine (sg_getI ht_X7_would rfl (sS_obj ha1) rfl).trans ?_
          refine (sg_call ht_X7_would (mj := 106) (as := [.ref 1, .ref a1, .int p3, .int (I (100 * a1 + 3))]) (rest := []) rfl rfl ⟨by decide, Nat.le_of_ble_eq_true rfl⟩).trans ?_
          rfl
      · refine (sg_go ht_X7_would (k := 1) (pc' := 29) (L' := [some (.ref 1), some (.int p1), some (.int p2), some (.int p3), none]) (st' := [.int (-2)]) (h' := (HP I A L F E)) rfl).trans ?_
        exact sg_ret ht_X7_would rfl rfl
    · refine (sg_go ht_X7_would (k := 2) (pc' := 14) (L' := [some (.ref 1), some (.int p1), some (.int p2), some (.int p3), none]) (st' := [.int 3, .int p2]) (h' := (HP I A L F E)) rfl).trans ?_
      refine (sg_cmp ht_X7_would rfl).trans ?_
      refine ite_congr rfl (fun _ => ?_) (fun _ => ?_)
      · refine (sg_go ht_X7_would (k := 2) (pc' := 21) (L' := [some (.ref 1), some (.int p1), some (.int p2), some (.int p3), none]) (st' := [.int p3, .int p2]) (h' := (HP I A L F E)) rfl).trans ?_
        refine (sg_call ht_X7_would (mj := 101) (as := [.int p2, .int p3]) (rest := []) rfl rfl ⟨by decide, Nat.le_of_ble_eq_true rfl⟩).trans ?_
        refine (bind_eq (sp_X7_isSetting p2 p3)).trans ?_
        show mm_run G0 78 24 [some (.ref 1), some (.int p1), some (.int p2), some (.int p3), none] [.int (bi (okS p2 p3))] (HP I A L F E) = _
        refine (sg_bnB ht_X7_would rfl).trans ?_
        refine ite_congr rfl (fun _ => ?_) (fun _ => ?_)
        · refine (sg_go ht_X7_would (k := 4) (pc' := 38) (L' := [some (.ref 1), some (.int p1), some (.int p2), some (.int p3), none]) (st' := [.int p1, .ref 3]) (h' := (HP I A L F E)) rfl).trans ?_
          refine (sg_ldR ht_X7_would rfl hp_o_3).trans ?_
          refine bind_cg fun a2 ha2 => ?_
          have ha2 := in_3 ha2
          refine (sg_go ht_X7_would (k := 3) (pc' := 43) (L' := [some (.ref 1), some (.int p1), some (.int p2), some (.int p3), some (.ref a2)]) (st' := [.int 2, .int p2]) (h' := (HP I A L F E)) rfl).trans ?_
          refine (sg_cmp ht_X7_would rfl).trans ?_
          refine ite_congr rfl (fun _ => ?_) (fun _ => ?_)
          · refine (sg_go ht_X7_would (k := 3) (pc' := 66) (L' := [some (.ref 1), some (.int p1), some (.int p2), some (.int p3), some (.ref a2)]) (st' := [.ref a2, .ref a2, .ref 1]) (h' := (HP I A L F E)) rfl).trans ?_
            refine (sg_getI ht_X7_would rfl (sS_obj ha2) rfl).trans ?_
            refine (sg_go ht_X7_would (k := 1) (pc' := 70) (L' := [some (.ref 1), some (.int p1), some (.int p2), some (.int p3), some (.ref a2)]) (st' := [.int p3, .int (I (100 * a2 + 2)), .ref a2, .ref 1]) (h' := (HP I A L F E)) rfl).trans ?_
            refine (sg_call ht_X7_would (mj := 106) (as := [.ref 1, .ref a2, .int (I (100 * a2 + 2)), .int p3]) (rest := []) rfl rfl ⟨by decide, Nat.le_of_ble_eq_true rfl⟩).trans ?_
            rfl
          · refine (sg_go ht_X7_would (k := 4) (pc' := 52) (L' := [some (.ref 1), some (.int p1), some (.int p2), some (.int p3), some (.ref a2)]) (st' := [.ref a2, .int p3, .ref a2, .ref 1]) (h' := (HP I A L F E)) rfl).trans ?_
            refine (sg_getI ht_X7_would rfl (sS_obj ha2) rfl).trans ?_
            refine (sg_call ht_X7_would (mj := 106) (as := [.ref 1, .ref a2, .int p3, .int (I (100 * a2 + 3))]) (rest := []) rfl rfl ⟨by decide, Nat.le_of_ble_eq_true rfl⟩).trans ?_
            rfl
        · refine (sg_go ht_X7_would (k := 1) (pc' := 29) (L' := [some (.ref 1), some (.int p1), some (.int p2), some (.int p3), none]) (st' := [.int (-2)]) (h' := (HP I A L F E)) rfl).trans ?_
          exact sg_ret ht_X7_would rfl rfl
      · refine (sg_go ht_X7_would (k := 1) (pc' := 18) (L' := [some (.ref 1), some (.int p1), some (.int p2), some (.int p3), none]) (st' := [.int (-1)]) (h' := (HP I A L F E)) rfl).trans ?_
        exact sg_ret ht_X7_would rfl rfl
  · refine (sg_go ht_X7_would (k := 1) (pc' := 18) (L' := [some (.ref 1), some (.int p1), some (.int p2), some (.int p3), none]) (st' := [.int (-1)]) (h' := (HP I A L F E)) rfl).trans ?_
    exact sg_ret ht_X7_would rfl rfl
set_option maxRecDepth 20000 in
theorem sg_X7_would_73 {I : Nat → Int32} {A : Nat → List Int32} {L : Nat → List Int64} {F : Nat → Int64} {E : MH} (v1 : Int32) (v2 : Int32) (v3 : Int32) {b4 : Nat} (hb4 : isS b4) : mm_run G0 78 73 [some (.ref 1), some (.int v1), some (.int v2), some (.int v3), some (.ref b4)] [] (HP I A L F E) = (if (I 4806) ≠ 0 then ((ldI (A 51) 0).bind fun x1 => some (some (.int x1), (HP I A L F E))) else some (some (.int (-5)), (HP I A L F E))) := by
  refine (sg_go ht_X7_would (k := 2) (pc' := 77) (L' := [some (.ref 1), some (.int v1), some (.int v2), some (.int v3), some (.ref b4)]) (st' := [.ref 48]) (h' := (HP I A L F E)) rfl).trans ?_
  refine (sg_call ht_X7_would (mj := 16) (as := [.ref 48]) (rest := []) rfl rfl ⟨by decide, Nat.le_of_ble_eq_true rfl⟩).trans ?_
  refine (bind_eq (sg_X1_firstPlace_0 )).trans ?_
  refine ite_bd.trans ?_
  refine ite_congr rfl (fun _ => ?_) (fun _ => ?_)
  · refine bind_as.trans ?_
    refine bind_cg fun x1 hx1 => ?_
    show mm_run G0 78 80 [some (.ref 1), some (.int v1), some (.int v2), some (.int v3), some (.ref b4)] [.int x1] (HP I A L F E) = _
    exact sg_ret ht_X7_would rfl rfl
  · show mm_run G0 78 80 [some (.ref 1), some (.int v1), some (.int v2), some (.int v3), some (.ref b4)] [.int (-5)] (HP I A L F E) = _
    exact sg_ret ht_X7_would rfl rfl
set_option maxRecDepth 20000 in
theorem sg_X7_would_58 {I : Nat → Int32} {A : Nat → List Int32} {L : Nat → List Int64} {F : Nat → Int64} {E : MH} (v1 : Int32) (v2 : Int32) (v3 : Int32) {b4 : Nat} (hb4 : isS b4) : mm_run G0 78 58 [some (.ref 1), some (.int v1), some (.int v2), some (.int v3), some (.ref b4)] [] (HP I A L F E) = (if (I 4806) ≠ 0 then ((ldI (A 51) 0).bind fun x1 => some (some (.int x1), (HP I A L F E))) else some (some (.int (-5)), (HP I A L F E))) := by
  refine (sg_go ht_X7_would (k := 3) (pc' := 77) (L' := [some (.ref 1), some (.int v1), some (.int v2), some (.int v3), some (.ref b4)]) (st' := [.ref 48]) (h' := (HP I A L F E)) rfl).trans ?_
  refine (sg_call ht_X7_would (mj := 16) (as := [.ref 48]) (rest := []) rfl rfl ⟨by decide, Nat.le_of_ble_eq_true rfl⟩).trans ?_
  refine (bind_eq (sg_X1_firstPlace_0 )).trans ?_
  refine ite_bd.trans ?_
  refine ite_congr rfl (fun _ => ?_) (fun _ => ?_)
  · refine bind_as.trans ?_
    refine bind_cg fun x1 hx1 => ?_
    show mm_run G0 78 80 [some (.ref 1), some (.int v1), some (.int v2), some (.int v3), some (.ref b4)] [.int x1] (HP I A L F E) = _
    exact sg_ret ht_X7_would rfl rfl
  · show mm_run G0 78 80 [some (.ref 1), some (.int v1), some (.int v2), some (.int v3), some (.ref b4)] [.int (-5)] (HP I A L F E) = _
    exact sg_ret ht_X7_would rfl rfl
set_option maxRecDepth 20000 in
theorem sg_X7_quiet_0 {I : Nat → Int32} {A : Nat → List Int32} {L : Nat → List Int64} {F : Nat → Int64} {E : MH} (p1 : Int32) : mm_call G0 79 [.ref 1, .int p1] (HP I A L F E) = (if ¬ p1 < 0 ∧ ¬ 4 ≤ p1 then ((ldR [some 14, some 16, some 18, some 20] p1).bind fun a1 => mm_run G0 79 21 [some (.ref 1), some (.int p1), some (.ref a1), some (.int 0)] [] (HP I A L F E)) else some (some (.int (-1)), (HP I A L F E))) := by
  show mm_run G0 79 0 [some (.ref 1), some (.int p1), none, none] [] (HP I A L F E) = _
  refine (sg_go ht_X7_quiet (k := 1) (pc' := 1) (L' := [some (.ref 1), some (.int p1), none, none]) (st' := [.int p1]) (h' := (HP I A L F E)) rfl).trans ?_
  refine (sg_call ht_X7_quiet (mj := 96) (as := [.int p1]) (rest := []) rfl rfl ⟨by decide, Nat.le_of_ble_eq_true rfl⟩).trans ?_
  refine (bind_eq (sp_X7_isStream p1)).trans ?_
  show mm_run G0 79 4 [some (.ref 1), some (.int p1), none, none] [.int (bi (decide (¬ p1 < 0 ∧ ¬ 4 ≤ p1)))] (HP I A L F E) = _
  refine (sg_bn ht_X7_quiet rfl).trans ?_
  refine ite_congr rfl (fun _ => ?_) (fun _ => ?_)
  · refine (sg_go ht_X7_quiet (k := 4) (pc' := 17) (L' := [some (.ref 1), some (.int p1), none, none]) (st' := [.int p1, .ref 3]) (h' := (HP I A L F E)) rfl).trans ?_
    refine (sg_ldR ht_X7_quiet rfl hp_o_3).trans ?_
    refine bind_cg fun a1 ha1 => ?_
    have ha1 := in_3 ha1
    refine (sg_go ht_X7_quiet (k := 3) (pc' := 21) (L' := [some (.ref 1), some (.int p1), some (.ref a1), some (.int 0)]) (st' := []) (h' := (HP I A L F E)) rfl).trans ?_
    rfl
  · refine (sg_go ht_X7_quiet (k := 1) (pc' := 8) (L' := [some (.ref 1), some (.int p1), none, none]) (st' := [.int (-1)]) (h' := (HP I A L F E)) rfl).trans ?_
    exact sg_ret ht_X7_quiet rfl rfl
set_option maxRecDepth 20000 in
theorem sg_X7_quiet_21 {I : Nat → Int32} {A : Nat → List Int32} {L : Nat → List Int64} {F : Nat → Int64} {E : MH} (v1 : Int32) {b2 : Nat} (hb2 : isS b2) (v3 : Int32) : mm_run G0 79 21 [some (.ref 1), some (.int v1), some (.ref b2), some (.int v3)] [] (HP I A L F E) = (if 5 < v3 then some (some (.int (-5)), (HP I A L F E)) else ((mm_call G0 106 [.ref 1, .ref b2, .int v3, .int (I (100 * b2 + 3))] (HP I A L F E)).bind fun q => mm_run G0 79 36 [some (.ref 1), some (.int v1), some (.ref b2), some (.int v3)] (q.1.toList ++ []) q.2)) := by
  refine (sg_go ht_X7_quiet (k := 2) (pc' := 23) (L' := [some (.ref 1), some (.int v1), some (.ref b2), some (.int v3)]) (st' := [.int 5, .int v3]) (h' := (HP I A L F E)) rfl).trans ?_
  refine (sg_cmp ht_X7_quiet rfl).trans ?_
  refine ite_congr rfl (fun _ => ?_) (fun _ => ?_)
  · refine (sg_go ht_X7_quiet (k := 1) (pc' := 56) (L' := [some (.ref 1), some (.int v1), some (.ref b2), some (.int v3)]) (st' := [.int (-5)]) (h' := (HP I A L F E)) rfl).trans ?_
    exact sg_ret ht_X7_quiet rfl rfl
  · refine (sg_go ht_X7_quiet (k := 4) (pc' := 30) (L' := [some (.ref 1), some (.int v1), some (.ref b2), some (.int v3)]) (st' := [.ref b2, .int v3, .ref b2, .ref 1]) (h' := (HP I A L F E)) rfl).trans ?_
    refine (sg_getI ht_X7_quiet rfl (sS_obj hb2) rfl).trans ?_
    refine (sg_call ht_X7_quiet (mj := 106) (as := [.ref 1, .ref b2, .int v3, .int (I (100 * b2 + 3))]) (rest := []) rfl rfl ⟨by decide, Nat.le_of_ble_eq_true rfl⟩).trans ?_
    rfl
set_option maxRecDepth 20000 in
theorem sg_X7_quiet_36 {I : Nat → Int32} {A : Nat → List Int32} {L : Nat → List Int64} {F : Nat → Int64} {E : MH} (v1 : Int32) {b2 : Nat} (hb2 : isS b2) (v3 : Int32) : mm_run G0 79 36 [some (.ref 1), some (.int v1), some (.ref b2), some (.int v3)] [] (HP I A L F E) = (if (I 4806) ≠ 0 then mm_run G0 79 21 [some (.ref 1), some (.int v1), some (.ref b2), some (.int (v3 + 1))] [] (HP I A L F E) else some (some (.int v3), (HP I A L F E))) := by
  refine (sg_go ht_X7_quiet (k := 3) (pc' := 43) (L' := [some (.ref 1), some (.int v1), some (.ref b2), some (.int v3)]) (st' := [.int (I 4806)]) (h' := (HP I A L F E)) rfl).trans ?_
  refine (sg_if ht_X7_quiet rfl).trans ?_
  refine ite_congr rfl (fun _ => ?_) (fun _ => ?_)
  · refine (sg_go ht_X7_quiet (k := 2) (pc' := 21) (L' := [some (.ref 1), some (.int v1), some (.ref b2), some (.int (v3 + 1))]) (st' := []) (h' := (HP I A L F E)) rfl).trans ?_
    rfl
  · refine (sg_go ht_X7_quiet (k := 1) (pc' := 47) (L' := [some (.ref 1), some (.int v1), some (.ref b2), some (.int v3)]) (st' := [.int v3]) (h' := (HP I A L F E)) rfl).trans ?_
    exact sg_ret ht_X7_quiet rfl rfl
set_option maxRecDepth 20000 in
theorem sg_X7_see_0 {I : Nat → Int32} {A : Nat → List Int32} {L : Nat → List Int64} {F : Nat → Int64} {E : MH} (p1 : Int32) (p2 : Int32) : mm_call G0 80 [.ref 1, .int p1, .int p2] (HP I A L F E) = (if p1 ≠ (-1) then (if ¬ p1 < 0 ∧ ¬ 4 ≤ p1 then (if p2 < 0 then some (some (.int (-2)), (HP I A L F E)) else (if p2 < 40 then (if (I (100 * 5 + 3)) < (rwM 5) then ((stI (A (5 + 1)) (I (100 * 5 + 3)) p1).bind fun X1 => ((stI ((fu A (5 + 1) X1) (5 + 2)) (I (100 * 5 + 3)) p2).bind fun X2 => some (some (.int ((fu I (100 * 5 + 3) ((I (100 * 5 + 3)) + 1)) (100 * 5 + 3))), (HP (fu I (100 * 5 + 3) ((I (100 * 5 + 3)) + 1)) (fu (fu A (5 + 1) X1) (5 + 2) X2) L F E)))) else some (some (.int (-4)), (HP I A L F E))) else some (some (.int (-2)), (HP I A L F E)))) else some (some (.int (-1)), (HP I A L F E))) else some (some (.int 0), (HP (fu I (100 * 5 + 3) 0) A L F E))) := by
  show mm_run G0 80 0 [some (.ref 1), some (.int p1), some (.int p2)] [] (HP I A L F E) = _
  refine (sg_go ht_X7_see (k := 2) (pc' := 2) (L' := [some (.ref 1), some (.int p1), some (.int p2)]) (st' := [.int (-1), .int p1]) (h' := (HP I A L F E)) rfl).trans ?_
  refine (sg_cmp ht_X7_see rfl).trans ?_
  refine ite_congr rfl (fun _ => ?_) (fun _ => ?_)
  · refine (sg_go ht_X7_see (k := 1) (pc' := 17) (L' := [some (.ref 1), some (.int p1), some (.int p2)]) (st' := [.int p1]) (h' := (HP I A L F E)) rfl).trans ?_
    refine (sg_call ht_X7_see (mj := 96) (as := [.int p1]) (rest := []) rfl rfl ⟨by decide, Nat.le_of_ble_eq_true rfl⟩).trans ?_
    refine (bind_eq (sp_X7_isStream p1)).trans ?_
    show mm_run G0 80 20 [some (.ref 1), some (.int p1), some (.int p2)] [.int (bi (decide (¬ p1 < 0 ∧ ¬ 4 ≤ p1)))] (HP I A L F E) = _
    refine (sg_bn ht_X7_see rfl).trans ?_
    refine ite_congr rfl (fun _ => ?_) (fun _ => ?_)
    · refine (sg_go ht_X7_see (k := 1) (pc' := 26) (L' := [some (.ref 1), some (.int p1), some (.int p2)]) (st' := [.int p2]) (h' := (HP I A L F E)) rfl).trans ?_
      refine (sg_if ht_X7_see rfl).trans ?_
      refine ite_congr rfl (fun _ => ?_) (fun _ => ?_)
      · refine (sg_go ht_X7_see (k := 1) (pc' := 37) (L' := [some (.ref 1), some (.int p1), some (.int p2)]) (st' := [.int (-2)]) (h' := (HP I A L F E)) rfl).trans ?_
        exact sg_ret ht_X7_see rfl rfl
      · refine (sg_go ht_X7_see (k := 2) (pc' := 32) (L' := [some (.ref 1), some (.int p1), some (.int p2)]) (st' := [.int 40, .int p2]) (h' := (HP I A L F E)) rfl).trans ?_
        refine (sg_cmp ht_X7_see rfl).trans ?_
        refine ite_congr rfl (fun _ => ?_) (fun _ => ?_)
        · refine (sg_go ht_X7_see (k := 5) (pc' := 47) (L' := [some (.ref 1), some (.int p1), some (.int p2)]) (st' := [.int p2, .int p1, .ref 5]) (h' := (HP I A L F E)) rfl).trans ?_
          refine (sg_call ht_X7_see (mj := 20) (as := [.ref 5, .int p1, .int p2]) (rest := []) rfl rfl ⟨by decide, Nat.le_of_ble_eq_true rfl⟩).trans ?_
          refine (bind_eq (sg_X2_add_0 (by unfold isRw; decide) p1 p2)).trans ?_
          refine ite_bd.trans ?_
          refine ite_congr rfl (fun _ => ?_) (fun _ => ?_)
          · refine bind_as.trans ?_
            refine bind_cg fun X1 hX1 => ?_
            refine bind_as.trans ?_
            refine bind_cg fun X2 hX2 => ?_
            show mm_run G0 80 50 [some (.ref 1), some (.int p1), some (.int p2)] [.int ((fu I (100 * 5 + 3) ((I (100 * 5 + 3)) + 1)) (100 * 5 + 3))] (HP (fu I (100 * 5 + 3) ((I (100 * 5 + 3)) + 1)) (fu (fu A (5 + 1) X1) (5 + 2) X2) L F E) = _
            exact sg_ret ht_X7_see rfl rfl
          · show mm_run G0 80 50 [some (.ref 1), some (.int p1), some (.int p2)] [.int (-4)] (HP I A L F E) = _
            exact sg_ret ht_X7_see rfl rfl
        · refine (sg_go ht_X7_see (k := 1) (pc' := 37) (L' := [some (.ref 1), some (.int p1), some (.int p2)]) (st' := [.int (-2)]) (h' := (HP I A L F E)) rfl).trans ?_
          exact sg_ret ht_X7_see rfl rfl
    · refine (sg_go ht_X7_see (k := 1) (pc' := 24) (L' := [some (.ref 1), some (.int p1), some (.int p2)]) (st' := [.int (-1)]) (h' := (HP I A L F E)) rfl).trans ?_
      exact sg_ret ht_X7_see rfl rfl
  · refine (sg_go ht_X7_see (k := 3) (pc' := 12) (L' := [some (.ref 1), some (.int p1), some (.int p2)]) (st' := [.ref 5]) (h' := (HP I A L F E)) rfl).trans ?_
    refine (sg_call ht_X7_see (mj := 19) (as := [.ref 5]) (rest := []) rfl rfl ⟨by decide, Nat.le_of_ble_eq_true rfl⟩).trans ?_
    refine (bind_eq (sg_X2_clear_0 (by unfold isRw; decide))).trans ?_
    show mm_run G0 80 15 [some (.ref 1), some (.int p1), some (.int p2)] [.int 0] (HP (fu I (100 * 5 + 3) 0) A L F E) = _
    exact sg_ret ht_X7_see rfl rfl
set_option maxRecDepth 20000 in
theorem sg_X7_showsSeen_0 {I : Nat → Int32} {A : Nat → List Int32} {L : Nat → List Int64} {F : Nat → Int64} {E : MH} (p1 : Int32) : mm_call G0 108 [.ref 1, .int p1] (HP I A L F E) = mm_run G0 108 10 [some (.ref 1), some (.int p1), some (.ref 5), some (.int 0)] [] (HP I A L F E) := by
  show mm_run G0 108 0 [some (.ref 1), some (.int p1), none, none] [] (HP I A L F E) = _
  refine (sg_go ht_X7_showsSeen (k := 6) (pc' := 10) (L' := [some (.ref 1), some (.int p1), some (.ref 5), some (.int 0)]) (st' := []) (h' := (HP I A L F E)) rfl).trans ?_
  rfl
set_option maxRecDepth 20000 in
theorem sg_X7_showsSeen_10 {I : Nat → Int32} {A : Nat → List Int32} {L : Nat → List Int64} {F : Nat → Int64} {E : MH} (v1 : Int32) (v3 : Int32) : mm_run G0 108 10 [some (.ref 1), some (.int v1), some (.ref 5), some (.int v3)] [] (HP I A L F E) = (if (I 503) ≤ v3 then some (some (.int 1), (HP I A L F E)) else ((ldI (A 6) v3).bind fun x1 => (if x1 ≠ v1 then mm_run G0 108 10 [some (.ref 1), some (.int v1), some (.ref 5), some (.int (v3 + 1))] [] (HP I A L F E) else ((ldI (A 7) v3).bind fun x2 => ((mm_call G0 17 [.ref 48, .int x2] (HP I A L F E)).bind fun q => mm_run G0 108 41 [some (.ref 1), some (.int v1), some (.ref 5), some (.int v3)] (q.1.toList ++ []) q.2))))) := by
  refine (sg_go ht_X7_showsSeen (k := 3) (pc' := 15) (L' := [some (.ref 1), some (.int v1), some (.ref 5), some (.int v3)]) (st' := [.int (I 503), .int v3]) (h' := (HP I A L F E)) rfl).trans ?_
  refine (sg_cmp ht_X7_showsSeen rfl).trans ?_
  refine ite_congr rfl (fun _ => ?_) (fun _ => ?_)
  · refine (sg_go ht_X7_showsSeen (k := 1) (pc' := 53) (L' := [some (.ref 1), some (.int v1), some (.ref 5), some (.int v3)]) (st' := [.int 1]) (h' := (HP I A L F E)) rfl).trans ?_
    exact sg_ret ht_X7_showsSeen rfl rfl
  · refine (sg_go ht_X7_showsSeen (k := 3) (pc' := 23) (L' := [some (.ref 1), some (.int v1), some (.ref 5), some (.int v3)]) (st' := [.int v3, .ref 6]) (h' := (HP I A L F E)) rfl).trans ?_
    refine (sg_ldI ht_X7_showsSeen rfl hp_o_6).trans ?_
    refine bind_cg fun x1 hx1 => ?_
    refine (sg_go ht_X7_showsSeen (k := 1) (pc' := 25) (L' := [some (.ref 1), some (.int v1), some (.ref 5), some (.int v3)]) (st' := [.int v1, .int x1]) (h' := (HP I A L F E)) rfl).trans ?_
    refine (sg_cmp ht_X7_showsSeen rfl).trans ?_
    refine ite_congr rfl (fun _ => ?_) (fun _ => ?_)
    · refine (sg_go ht_X7_showsSeen (k := 2) (pc' := 10) (L' := [some (.ref 1), some (.int v1), some (.ref 5), some (.int (v3 + 1))]) (st' := []) (h' := (HP I A L F E)) rfl).trans ?_
      rfl
    · refine (sg_go ht_X7_showsSeen (k := 5) (pc' := 37) (L' := [some (.ref 1), some (.int v1), some (.ref 5), some (.int v3)]) (st' := [.int v3, .ref 7, .ref 48]) (h' := (HP I A L F E)) rfl).trans ?_
      refine (sg_ldI ht_X7_showsSeen rfl hp_o_7).trans ?_
      refine bind_cg fun x2 hx2 => ?_
      refine (sg_call ht_X7_showsSeen (mj := 17) (as := [.ref 48, .int x2]) (rest := []) rfl rfl ⟨by decide, Nat.le_of_ble_eq_true rfl⟩).trans ?_
      rfl
set_option maxRecDepth 20000 in
theorem sg_X7_showsSeen_41 {I : Nat → Int32} {A : Nat → List Int32} {L : Nat → List Int64} {F : Nat → Int64} {E : MH} (v1 : Int32) (v3 : Int32) (s0 : Int32) : mm_run G0 108 41 [some (.ref 1), some (.int v1), some (.ref 5), some (.int v3)] [.int s0] (HP I A L F E) = (if s0 ≠ 0 then mm_run G0 108 10 [some (.ref 1), some (.int v1), some (.ref 5), some (.int (v3 + 1))] [] (HP I A L F E) else some (some (.int 0), (HP I A L F E))) := by
  refine (sg_if ht_X7_showsSeen rfl).trans ?_
  refine ite_congr rfl (fun _ => ?_) (fun _ => ?_)
  · refine (sg_go ht_X7_showsSeen (k := 2) (pc' := 10) (L' := [some (.ref 1), some (.int v1), some (.ref 5), some (.int (v3 + 1))]) (st' := []) (h' := (HP I A L F E)) rfl).trans ?_
    rfl
  · refine (sg_go ht_X7_showsSeen (k := 1) (pc' := 45) (L' := [some (.ref 1), some (.int v1), some (.ref 5), some (.int v3)]) (st' := [.int 0]) (h' := (HP I A L F E)) rfl).trans ?_
    exact sg_ret ht_X7_showsSeen rfl rfl
set_option maxRecDepth 20000 in
theorem sg_X7_fits_0 {I : Nat → Int32} {A : Nat → List Int32} {L : Nat → List Int64} {F : Nat → Int64} {E : MH} (p1 : Int32) (p2 : Int32) : mm_call G0 81 [.ref 1, .int p1, .int p2] (HP I A L F E) = (if ¬ p1 < 0 ∧ ¬ 4 ≤ p1 then (if p2 < 0 then some (some (.int (-1)), (HP I A L F E)) else (if p2 ≤ 1 then ((ldR [some 14, some 16, some 18, some 20] p1).bind fun a1 => mm_run G0 81 39 [some (.ref 1), some (.int p1), some (.int p2), some (.ref a1), some (.int 0), some (.int (-5)), some (.int 12)] [] (HP I A L F E)) else some (some (.int (-1)), (HP I A L F E)))) else some (some (.int (-1)), (HP I A L F E))) := by
  show mm_run G0 81 0 [some (.ref 1), some (.int p1), some (.int p2), none, none, none, none] [] (HP I A L F E) = _
  refine (sg_go ht_X7_fits (k := 1) (pc' := 1) (L' := [some (.ref 1), some (.int p1), some (.int p2), none, none, none, none]) (st' := [.int p1]) (h' := (HP I A L F E)) rfl).trans ?_
  refine (sg_call ht_X7_fits (mj := 96) (as := [.int p1]) (rest := []) rfl rfl ⟨by decide, Nat.le_of_ble_eq_true rfl⟩).trans ?_
  refine (bind_eq (sp_X7_isStream p1)).trans ?_
  show mm_run G0 81 4 [some (.ref 1), some (.int p1), some (.int p2), none, none, none, none] [.int (bi (decide (¬ p1 < 0 ∧ ¬ 4 ≤ p1)))] (HP I A L F E) = _
  refine (sg_be ht_X7_fits rfl).trans ?_
  refine ite_congr rfl (fun _ => ?_) (fun _ => ?_)
  · refine (sg_go ht_X7_fits (k := 1) (pc' := 8) (L' := [some (.ref 1), some (.int p1), some (.int p2), none, none, none, none]) (st' := [.int p2]) (h' := (HP I A L F E)) rfl).trans ?_
    refine (sg_if ht_X7_fits rfl).trans ?_
    refine ite_congr rfl (fun _ => ?_) (fun _ => ?_)
    · refine (sg_go ht_X7_fits (k := 1) (pc' := 17) (L' := [some (.ref 1), some (.int p1), some (.int p2), none, none, none, none]) (st' := [.int (-1)]) (h' := (HP I A L F E)) rfl).trans ?_
      exact sg_ret ht_X7_fits rfl rfl
    · refine (sg_go ht_X7_fits (k := 2) (pc' := 13) (L' := [some (.ref 1), some (.int p1), some (.int p2), none, none, none, none]) (st' := [.int 1, .int p2]) (h' := (HP I A L F E)) rfl).trans ?_
      refine (sg_cmp ht_X7_fits rfl).trans ?_
      refine ite_congr rfl (fun _ => ?_) (fun _ => ?_)
      · refine (sg_go ht_X7_fits (k := 4) (pc' := 26) (L' := [some (.ref 1), some (.int p1), some (.int p2), none, none, none, none]) (st' := [.int p1, .ref 3]) (h' := (HP I A L F E)) rfl).trans ?_
        refine (sg_ldR ht_X7_fits rfl hp_o_3).trans ?_
        refine bind_cg fun a1 ha1 => ?_
        have ha1 := in_3 ha1
        refine (sg_go ht_X7_fits (k := 7) (pc' := 39) (L' := [some (.ref 1), some (.int p1), some (.int p2), some (.ref a1), some (.int 0), some (.int (-5)), some (.int 12)]) (st' := []) (h' := (HP I A L F E)) rfl).trans ?_
        rfl
      · refine (sg_go ht_X7_fits (k := 1) (pc' := 17) (L' := [some (.ref 1), some (.int p1), some (.int p2), none, none, none, none]) (st' := [.int (-1)]) (h' := (HP I A L F E)) rfl).trans ?_
        exact sg_ret ht_X7_fits rfl rfl
  · refine (sg_go ht_X7_fits (k := 1) (pc' := 17) (L' := [some (.ref 1), some (.int p1), some (.int p2), none, none, none, none]) (st' := [.int (-1)]) (h' := (HP I A L F E)) rfl).trans ?_
    exact sg_ret ht_X7_fits rfl rfl
set_option maxRecDepth 20000 in
theorem sg_X7_fits_39 {I : Nat → Int32} {A : Nat → List Int32} {L : Nat → List Int64} {F : Nat → Int64} {E : MH} (v1 : Int32) (v2 : Int32) {b3 : Nat} (hb3 : isS b3) (v4 : Int32) (v5 : Int32) (v6 : Int32) : mm_run G0 81 39 [some (.ref 1), some (.int v1), some (.int v2), some (.ref b3), some (.int v4), some (.int v5), some (.int v6)] [] (HP I A L F E) = (if v6 < 1 then (if v2 ≠ 0 then some (some (.int v5), (HP I A L F E)) else some (some (.int v4), (HP I A L F E))) else ((mm_call G0 106 [.ref 1, .ref b3, .int (I (100 * b3 + 2)), .int v6] (HP I A L F E)).bind fun q => mm_run G0 81 56 [some (.ref 1), some (.int v1), some (.int v2), some (.ref b3), some (.int v4), some (.int v5), some (.int v6)] (q.1.toList ++ []) q.2)) := by
  refine (sg_go ht_X7_fits (k := 2) (pc' := 42) (L' := [some (.ref 1), some (.int v1), some (.int v2), some (.ref b3), some (.int v4), some (.int v5), some (.int v6)]) (st' := [.int 1, .int v6]) (h' := (HP I A L F E)) rfl).trans ?_
  refine (sg_cmp ht_X7_fits rfl).trans ?_
  refine ite_congr rfl (fun _ => ?_) (fun _ => ?_)
  · refine (sg_go ht_X7_fits (k := 1) (pc' := 81) (L' := [some (.ref 1), some (.int v1), some (.int v2), some (.ref b3), some (.int v4), some (.int v5), some (.int v6)]) (st' := [.int v2]) (h' := (HP I A L F E)) rfl).trans ?_
    refine (sg_if ht_X7_fits rfl).trans ?_
    refine ite_congr rfl (fun _ => ?_) (fun _ => ?_)
    · refine (sg_go ht_X7_fits (k := 1) (pc' := 91) (L' := [some (.ref 1), some (.int v1), some (.int v2), some (.ref b3), some (.int v4), some (.int v5), some (.int v6)]) (st' := [.int v5]) (h' := (HP I A L F E)) rfl).trans ?_
      exact sg_ret ht_X7_fits rfl rfl
    · refine (sg_go ht_X7_fits (k := 2) (pc' := 91) (L' := [some (.ref 1), some (.int v1), some (.int v2), some (.ref b3), some (.int v4), some (.int v5), some (.int v6)]) (st' := [.int v4]) (h' := (HP I A L F E)) rfl).trans ?_
      exact sg_ret ht_X7_fits rfl rfl
  · refine (sg_go ht_X7_fits (k := 3) (pc' := 48) (L' := [some (.ref 1), some (.int v1), some (.int v2), some (.ref b3), some (.int v4), some (.int v5), some (.int v6)]) (st' := [.ref b3, .ref b3, .ref 1]) (h' := (HP I A L F E)) rfl).trans ?_
    refine (sg_getI ht_X7_fits rfl (sS_obj hb3) rfl).trans ?_
    refine (sg_go ht_X7_fits (k := 1) (pc' := 53) (L' := [some (.ref 1), some (.int v1), some (.int v2), some (.ref b3), some (.int v4), some (.int v5), some (.int v6)]) (st' := [.int v6, .int (I (100 * b3 + 2)), .ref b3, .ref 1]) (h' := (HP I A L F E)) rfl).trans ?_
    refine (sg_call ht_X7_fits (mj := 106) (as := [.ref 1, .ref b3, .int (I (100 * b3 + 2)), .int v6]) (rest := []) rfl rfl ⟨by decide, Nat.le_of_ble_eq_true rfl⟩).trans ?_
    rfl
set_option maxRecDepth 20000 in
theorem sg_X7_fits_56 {I : Nat → Int32} {A : Nat → List Int32} {L : Nat → List Int64} {F : Nat → Int64} {E : MH} (v1 : Int32) (v2 : Int32) {b3 : Nat} (hb3 : isS b3) (v4 : Int32) (v5 : Int32) (v6 : Int32) : mm_run G0 81 56 [some (.ref 1), some (.int v1), some (.int v2), some (.ref b3), some (.int v4), some (.int v5), some (.int v6)] [] (HP I A L F E) = ((mm_call G0 108 [.ref 1, .int v1] (HP I A L F E)).bind fun q => mm_run G0 81 61 [some (.ref 1), some (.int v1), some (.int v2), some (.ref b3), some (.int v4), some (.int v5), some (.int v6)] (q.1.toList ++ []) q.2) := by
  refine (sg_go ht_X7_fits (k := 2) (pc' := 58) (L' := [some (.ref 1), some (.int v1), some (.int v2), some (.ref b3), some (.int v4), some (.int v5), some (.int v6)]) (st' := [.int v1, .ref 1]) (h' := (HP I A L F E)) rfl).trans ?_
  refine (sg_call ht_X7_fits (mj := 108) (as := [.ref 1, .int v1]) (rest := []) rfl rfl ⟨by decide, Nat.le_of_ble_eq_true rfl⟩).trans ?_
  rfl
set_option maxRecDepth 20000 in
theorem sg_X7_fits_61 {I : Nat → Int32} {A : Nat → List Int32} {L : Nat → List Int64} {F : Nat → Int64} {E : MH} (v1 : Int32) (v2 : Int32) {b3 : Nat} (hb3 : isS b3) (v4 : Int32) (v5 : Int32) (v6 : Int32) (s0 : Int32) : mm_run G0 81 61 [some (.ref 1), some (.int v1), some (.int v2), some (.ref b3), some (.int v4), some (.int v5), some (.int v6)] [.int s0] (HP I A L F E) = (if s0 ≠ 0 then mm_run G0 81 39 [some (.ref 1), some (.int v1), some (.int v2), some (.ref b3), some (.int (v4 + 1)), some (.int v6), some (.int (v6 + (-1)))] [] (HP I A L F E) else mm_run G0 81 39 [some (.ref 1), some (.int v1), some (.int v2), some (.ref b3), some (.int v4), some (.int v5), some (.int (v6 + (-1)))] [] (HP I A L F E)) := by
  refine (sg_if ht_X7_fits rfl).trans ?_
  refine ite_congr rfl (fun _ => ?_) (fun _ => ?_)
  · refine (sg_go ht_X7_fits (k := 5) (pc' := 39) (L' := [some (.ref 1), some (.int v1), some (.int v2), some (.ref b3), some (.int (v4 + 1)), some (.int v6), some (.int (v6 + (-1)))]) (st' := []) (h' := (HP I A L F E)) rfl).trans ?_
    rfl
  · refine (sg_go ht_X7_fits (k := 3) (pc' := 39) (L' := [some (.ref 1), some (.int v1), some (.int v2), some (.ref b3), some (.int v4), some (.int v5), some (.int (v6 + (-1)))]) (st' := []) (h' := (HP I A L F E)) rfl).trans ?_
    rfl
set_option maxRecDepth 20000 in
theorem sg_X7_odds_0 {I : Nat → Int32} {A : Nat → List Int32} {L : Nat → List Int64} {F : Nat → Int64} {E : MH} (p1 : Int32) (p2 : Int32) : mm_call G0 82 [.ref 1, .int p1, .int p2] (HP I A L F E) = (if ¬ p1 < 0 ∧ ¬ 4 ≤ p1 then (if p2 = 0 ∨ p2 = 1 then ((ldR [some 14, some 16, some 18, some 20] p1).bind fun a1 => mm_run G0 82 34 [some (.ref 1), some (.int p1), some (.int p2), some (.ref a1), some (.int 0), some (.int 1)] [] (HP I A L F E)) else some (some (.long (-9223372036854775808)), (HP I A L F E))) else some (some (.long (-9223372036854775808)), (HP I A L F E))) := by
  show mm_run G0 82 0 [some (.ref 1), some (.int p1), some (.int p2), none, none, none] [] (HP I A L F E) = _
  refine (sg_go ht_X7_odds (k := 1) (pc' := 1) (L' := [some (.ref 1), some (.int p1), some (.int p2), none, none, none]) (st' := [.int p1]) (h' := (HP I A L F E)) rfl).trans ?_
  refine (sg_call ht_X7_odds (mj := 96) (as := [.int p1]) (rest := []) rfl rfl ⟨by decide, Nat.le_of_ble_eq_true rfl⟩).trans ?_
  refine (bind_eq (sp_X7_isStream p1)).trans ?_
  show mm_run G0 82 4 [some (.ref 1), some (.int p1), some (.int p2), none, none, none] [.int (bi (decide (¬ p1 < 0 ∧ ¬ 4 ≤ p1)))] (HP I A L F E) = _
  refine (sg_be ht_X7_odds rfl).trans ?_
  refine ite_congr rfl (fun _ => ?_) (fun _ => ?_)
  · refine (sg_go ht_X7_odds (k := 1) (pc' := 8) (L' := [some (.ref 1), some (.int p1), some (.int p2), none, none, none]) (st' := [.int p2]) (h' := (HP I A L F E)) rfl).trans ?_
    refine (sg_call ht_X7_odds (mj := 99) (as := [.int p2]) (rest := []) rfl rfl ⟨by decide, Nat.le_of_ble_eq_true rfl⟩).trans ?_
    refine (bind_eq (sp_X7_isPart p2)).trans ?_
    show mm_run G0 82 11 [some (.ref 1), some (.int p1), some (.int p2), none, none, none] [.int (bi (decide (p2 = 0 ∨ p2 = 1)))] (HP I A L F E) = _
    refine (sg_bn ht_X7_odds rfl).trans ?_
    refine ite_congr rfl (fun _ => ?_) (fun _ => ?_)
    · refine (sg_go ht_X7_odds (k := 4) (pc' := 26) (L' := [some (.ref 1), some (.int p1), some (.int p2), none, none, none]) (st' := [.int p1, .ref 3]) (h' := (HP I A L F E)) rfl).trans ?_
      refine (sg_ldR ht_X7_odds rfl hp_o_3).trans ?_
      refine bind_cg fun a1 ha1 => ?_
      have ha1 := in_3 ha1
      refine (sg_go ht_X7_odds (k := 5) (pc' := 34) (L' := [some (.ref 1), some (.int p1), some (.int p2), some (.ref a1), some (.int 0), some (.int 1)]) (st' := []) (h' := (HP I A L F E)) rfl).trans ?_
      rfl
    · refine (sg_go ht_X7_odds (k := 1) (pc' := 17) (L' := [some (.ref 1), some (.int p1), some (.int p2), none, none, none]) (st' := [.long (-9223372036854775808)]) (h' := (HP I A L F E)) rfl).trans ?_
      exact sg_ret ht_X7_odds rfl rfl
  · refine (sg_go ht_X7_odds (k := 1) (pc' := 17) (L' := [some (.ref 1), some (.int p1), some (.int p2), none, none, none]) (st' := [.long (-9223372036854775808)]) (h' := (HP I A L F E)) rfl).trans ?_
    exact sg_ret ht_X7_odds rfl rfl
set_option maxRecDepth 20000 in
theorem sg_X7_odds_34 {I : Nat → Int32} {A : Nat → List Int32} {L : Nat → List Int64} {F : Nat → Int64} {E : MH} (v1 : Int32) (v2 : Int32) {b3 : Nat} (hb3 : isS b3) (v4 : Int32) (v5 : Int32) : mm_run G0 82 34 [some (.ref 1), some (.int v1), some (.int v2), some (.ref b3), some (.int v4), some (.int v5)] [] (HP I A L F E) = (if 10 < v5 then ((mm_call G0 103 [.long (v4).toInt64, .long 10, .int v2] (HP I A L F E)).bind fun q => mm_run G0 82 81 [some (.ref 1), some (.int v1), some (.int v2), some (.ref b3), some (.int v4), some (.int v5)] (q.1.toList ++ []) q.2) else ((mm_call G0 106 [.ref 1, .ref b3, .int (I (100 * b3 + 2)), .int v5] (HP I A L F E)).bind fun q => mm_run G0 82 52 [some (.ref 1), some (.int v1), some (.int v2), some (.ref b3), some (.int v4), some (.int v5)] (q.1.toList ++ []) q.2)) := by
  refine (sg_go ht_X7_odds (k := 2) (pc' := 38) (L' := [some (.ref 1), some (.int v1), some (.int v2), some (.ref b3), some (.int v4), some (.int v5)]) (st' := [.int 10, .int v5]) (h' := (HP I A L F E)) rfl).trans ?_
  refine (sg_cmp ht_X7_odds rfl).trans ?_
  refine ite_congr rfl (fun _ => ?_) (fun _ => ?_)
  · refine (sg_go ht_X7_odds (k := 4) (pc' := 78) (L' := [some (.ref 1), some (.int v1), some (.int v2), some (.ref b3), some (.int v4), some (.int v5)]) (st' := [.int v2, .long 10, .long (v4).toInt64]) (h' := (HP I A L F E)) rfl).trans ?_
    refine (sg_call ht_X7_odds (mj := 103) (as := [.long (v4).toInt64, .long 10, .int v2]) (rest := []) rfl rfl ⟨by decide, Nat.le_of_ble_eq_true rfl⟩).trans ?_
    rfl
  · refine (sg_go ht_X7_odds (k := 3) (pc' := 44) (L' := [some (.ref 1), some (.int v1), some (.int v2), some (.ref b3), some (.int v4), some (.int v5)]) (st' := [.ref b3, .ref b3, .ref 1]) (h' := (HP I A L F E)) rfl).trans ?_
    refine (sg_getI ht_X7_odds rfl (sS_obj hb3) rfl).trans ?_
    refine (sg_go ht_X7_odds (k := 1) (pc' := 49) (L' := [some (.ref 1), some (.int v1), some (.int v2), some (.ref b3), some (.int v4), some (.int v5)]) (st' := [.int v5, .int (I (100 * b3 + 2)), .ref b3, .ref 1]) (h' := (HP I A L F E)) rfl).trans ?_
    refine (sg_call ht_X7_odds (mj := 106) (as := [.ref 1, .ref b3, .int (I (100 * b3 + 2)), .int v5]) (rest := []) rfl rfl ⟨by decide, Nat.le_of_ble_eq_true rfl⟩).trans ?_
    rfl
set_option maxRecDepth 20000 in
theorem sg_X7_odds_81 {I : Nat → Int32} {A : Nat → List Int32} {L : Nat → List Int64} {F : Nat → Int64} {E : MH} (v1 : Int32) (v2 : Int32) {b3 : Nat} (hb3 : isS b3) (v4 : Int32) (v5 : Int32) (s0 : Int64) : mm_run G0 82 81 [some (.ref 1), some (.int v1), some (.int v2), some (.ref b3), some (.int v4), some (.int v5)] [.long s0] (HP I A L F E) = some (some (.long s0), (HP I A L F E)) := by
  exact sg_ret ht_X7_odds rfl rfl
set_option maxRecDepth 20000 in
theorem sg_X7_odds_52 {I : Nat → Int32} {A : Nat → List Int32} {L : Nat → List Int64} {F : Nat → Int64} {E : MH} (v1 : Int32) (v2 : Int32) {b3 : Nat} (hb3 : isS b3) (v4 : Int32) (v5 : Int32) : mm_run G0 82 52 [some (.ref 1), some (.int v1), some (.int v2), some (.ref b3), some (.int v4), some (.int v5)] [] (HP I A L F E) = (if (I 4806) ≤ 0 then mm_run G0 82 34 [some (.ref 1), some (.int v1), some (.int v2), some (.ref b3), some (.int v4), some (.int (v5 + 1))] [] (HP I A L F E) else mm_run G0 82 34 [some (.ref 1), some (.int v1), some (.int v2), some (.ref b3), some (.int (v4 + 1)), some (.int (v5 + 1))] [] (HP I A L F E)) := by
  refine (sg_go ht_X7_odds (k := 3) (pc' := 59) (L' := [some (.ref 1), some (.int v1), some (.int v2), some (.ref b3), some (.int v4), some (.int v5)]) (st' := [.int (I 4806)]) (h' := (HP I A L F E)) rfl).trans ?_
  refine (sg_if ht_X7_odds rfl).trans ?_
  refine ite_congr rfl (fun _ => ?_) (fun _ => ?_)
  · refine (sg_go ht_X7_odds (k := 2) (pc' := 34) (L' := [some (.ref 1), some (.int v1), some (.int v2), some (.ref b3), some (.int v4), some (.int (v5 + 1))]) (st' := []) (h' := (HP I A L F E)) rfl).trans ?_
    rfl
  · refine (sg_go ht_X7_odds (k := 3) (pc' := 34) (L' := [some (.ref 1), some (.int v1), some (.int v2), some (.ref b3), some (.int (v4 + 1)), some (.int (v5 + 1))]) (st' := []) (h' := (HP I A L F E)) rfl).trans ?_
    rfl
set_option maxRecDepth 20000 in
theorem sg_X7_mean_0 {I : Nat → Int32} {A : Nat → List Int32} {L : Nat → List Int64} {F : Nat → Int64} {E : MH} (p1 : Int32) (p2 : Int32) : mm_call G0 83 [.ref 1, .int p1, .int p2] (HP I A L F E) = (if ¬ p1 < 0 ∧ ¬ 4 ≤ p1 then (if p2 = 0 ∨ p2 = 1 then ((ldR [some 14, some 16, some 18, some 20] p1).bind fun a1 => (if (I (100 * a1 + 4)) ≠ 0 then ((mm_call G0 38 [.ref a1, .int (I (100 * a1 + 4))] (HP I A L F E)).bind fun q => mm_run G0 83 47 [some (.ref 1), some (.int p1), some (.int p2), some (.ref a1)] (q.1.toList ++ []) q.2) else some (some (.long (-9223372036854775808)), (HP I A L F E)))) else some (some (.long (-9223372036854775808)), (HP I A L F E))) else some (some (.long (-9223372036854775808)), (HP I A L F E))) := by
  show mm_run G0 83 0 [some (.ref 1), some (.int p1), some (.int p2), none] [] (HP I A L F E) = _
  refine (sg_go ht_X7_mean (k := 1) (pc' := 1) (L' := [some (.ref 1), some (.int p1), some (.int p2), none]) (st' := [.int p1]) (h' := (HP I A L F E)) rfl).trans ?_
  refine (sg_call ht_X7_mean (mj := 96) (as := [.int p1]) (rest := []) rfl rfl ⟨by decide, Nat.le_of_ble_eq_true rfl⟩).trans ?_
  refine (bind_eq (sp_X7_isStream p1)).trans ?_
  show mm_run G0 83 4 [some (.ref 1), some (.int p1), some (.int p2), none] [.int (bi (decide (¬ p1 < 0 ∧ ¬ 4 ≤ p1)))] (HP I A L F E) = _
  refine (sg_be ht_X7_mean rfl).trans ?_
  refine ite_congr rfl (fun _ => ?_) (fun _ => ?_)
  · refine (sg_go ht_X7_mean (k := 1) (pc' := 8) (L' := [some (.ref 1), some (.int p1), some (.int p2), none]) (st' := [.int p2]) (h' := (HP I A L F E)) rfl).trans ?_
    refine (sg_call ht_X7_mean (mj := 99) (as := [.int p2]) (rest := []) rfl rfl ⟨by decide, Nat.le_of_ble_eq_true rfl⟩).trans ?_
    refine (bind_eq (sp_X7_isPart p2)).trans ?_
    show mm_run G0 83 11 [some (.ref 1), some (.int p1), some (.int p2), none] [.int (bi (decide (p2 = 0 ∨ p2 = 1)))] (HP I A L F E) = _
    refine (sg_bn ht_X7_mean rfl).trans ?_
    refine ite_congr rfl (fun _ => ?_) (fun _ => ?_)
    · refine (sg_go ht_X7_mean (k := 4) (pc' := 26) (L' := [some (.ref 1), some (.int p1), some (.int p2), none]) (st' := [.int p1, .ref 3]) (h' := (HP I A L F E)) rfl).trans ?_
      refine (sg_ldR ht_X7_mean rfl hp_o_3).trans ?_
      refine bind_cg fun a1 ha1 => ?_
      have ha1 := in_3 ha1
      refine (sg_go ht_X7_mean (k := 2) (pc' := 29) (L' := [some (.ref 1), some (.int p1), some (.int p2), some (.ref a1)]) (st' := [.ref a1]) (h' := (HP I A L F E)) rfl).trans ?_
      refine (sg_getI ht_X7_mean rfl (sS_obj ha1) rfl).trans ?_
      refine (sg_if ht_X7_mean rfl).trans ?_
      refine ite_congr rfl (fun _ => ?_) (fun _ => ?_)
      · refine (sg_go ht_X7_mean (k := 2) (pc' := 41) (L' := [some (.ref 1), some (.int p1), some (.int p2), some (.ref a1)]) (st' := [.ref a1, .ref a1]) (h' := (HP I A L F E)) rfl).trans ?_
        refine (sg_getI ht_X7_mean rfl (sS_obj ha1) rfl).trans ?_
        refine (sg_callV ht_X7_mean (mj := 38) (as := [.ref a1, .int (I (100 * a1 + 4))]) (rest := []) rfl rfl rfl (Nat.le_of_ble_eq_true rfl) (sS_obj ha1) ⟨by decide, Nat.le_of_ble_eq_true rfl⟩).trans ?_
        rfl
      · refine (sg_go ht_X7_mean (k := 1) (pc' := 38) (L' := [some (.ref 1), some (.int p1), some (.int p2), some (.ref a1)]) (st' := [.long (-9223372036854775808)]) (h' := (HP I A L F E)) rfl).trans ?_
        exact sg_ret ht_X7_mean rfl rfl
    · refine (sg_go ht_X7_mean (k := 1) (pc' := 17) (L' := [some (.ref 1), some (.int p1), some (.int p2), none]) (st' := [.long (-9223372036854775808)]) (h' := (HP I A L F E)) rfl).trans ?_
      exact sg_ret ht_X7_mean rfl rfl
  · refine (sg_go ht_X7_mean (k := 1) (pc' := 17) (L' := [some (.ref 1), some (.int p1), some (.int p2), none]) (st' := [.long (-9223372036854775808)]) (h' := (HP I A L F E)) rfl).trans ?_
    exact sg_ret ht_X7_mean rfl rfl
set_option maxRecDepth 20000 in
theorem sg_X7_mean_47 {I : Nat → Int32} {A : Nat → List Int32} {L : Nat → List Int64} {F : Nat → Int64} {E : MH} (v1 : Int32) (v2 : Int32) {b3 : Nat} (hb3 : isS b3) (s0 : Int32) : mm_run G0 83 47 [some (.ref 1), some (.int v1), some (.int v2), some (.ref b3)] [.int s0] (HP I A L F E) = ((mm_call G0 103 [.long (s0).toInt64, .long ((I (100 * b3 + 4))).toInt64, .int v2] (HP I A L F E)).bind fun q => mm_run G0 83 57 [some (.ref 1), some (.int v1), some (.int v2), some (.ref b3)] (q.1.toList ++ []) q.2) := by
  refine (sg_go ht_X7_mean (k := 2) (pc' := 49) (L' := [some (.ref 1), some (.int v1), some (.int v2), some (.ref b3)]) (st' := [.ref b3, .long (s0).toInt64]) (h' := (HP I A L F E)) rfl).trans ?_
  refine (sg_getI ht_X7_mean rfl (sS_obj hb3) rfl).trans ?_
  refine (sg_go ht_X7_mean (k := 2) (pc' := 54) (L' := [some (.ref 1), some (.int v1), some (.int v2), some (.ref b3)]) (st' := [.int v2, .long ((I (100 * b3 + 4))).toInt64, .long (s0).toInt64]) (h' := (HP I A L F E)) rfl).trans ?_
  refine (sg_call ht_X7_mean (mj := 103) (as := [.long (s0).toInt64, .long ((I (100 * b3 + 4))).toInt64, .int v2]) (rest := []) rfl rfl ⟨by decide, Nat.le_of_ble_eq_true rfl⟩).trans ?_
  rfl
set_option maxRecDepth 20000 in
theorem sg_X7_mean_57 {I : Nat → Int32} {A : Nat → List Int32} {L : Nat → List Int64} {F : Nat → Int64} {E : MH} (v1 : Int32) (v2 : Int32) {b3 : Nat} (hb3 : isS b3) (s0 : Int64) : mm_run G0 83 57 [some (.ref 1), some (.int v1), some (.int v2), some (.ref b3)] [.long s0] (HP I A L F E) = some (some (.long s0), (HP I A L F E)) := by
  exact sg_ret ht_X7_mean rfl rfl
set_option maxRecDepth 20000 in
theorem sg_X7_plan_0 {I : Nat → Int32} {A : Nat → List Int32} {L : Nat → List Int64} {F : Nat → Int64} {E : MH} (p1 : Int32) (p2 : Int32) : mm_call G0 84 [.ref 1, .int p1, .int p2] (HP I A L F E) = (if p1 ≠ (-1) then (if p1 < 0 then some (some (.int (-1)), (HP I A L F E)) else (if p1 ≤ 3 then (if p1 ≠ 0 then (if p1 ≠ 3 then (if okS p1 p2 = true then (if (I (100 * 8 + 3)) < (rwM 8) then ((stI (A (8 + 1)) (I (100 * 8 + 3)) p1).bind fun X1 => ((stI ((fu A (8 + 1) X1) (8 + 2)) (I (100 * 8 + 3)) p2).bind fun X2 => some (some (.int ((fu I (100 * 8 + 3) ((I (100 * 8 + 3)) + 1)) (100 * 8 + 3))), (HP (fu I (100 * 8 + 3) ((I (100 * 8 + 3)) + 1)) (fu (fu A (8 + 1) X1) (8 + 2) X2) L F E)))) else some (some (.int (-4)), (HP I A L F E))) else some (some (.int (-2)), (HP I A L F E))) else (if p2 < 0 then some (some (.int (-2)), (HP I A L F E)) else (if 40 < p2 then some (some (.int (-2)), (HP I A L F E)) else (if (I (100 * 8 + 3)) < (rwM 8) then ((stI (A (8 + 1)) (I (100 * 8 + 3)) p1).bind fun X3 => ((stI ((fu A (8 + 1) X3) (8 + 2)) (I (100 * 8 + 3)) p2).bind fun X4 => some (some (.int ((fu I (100 * 8 + 3) ((I (100 * 8 + 3)) + 1)) (100 * 8 + 3))), (HP (fu I (100 * 8 + 3) ((I (100 * 8 + 3)) + 1)) (fu (fu A (8 + 1) X3) (8 + 2) X4) L F E)))) else some (some (.int (-4)), (HP I A L F E)))))) else (if ¬ p2 < (-20) ∧ ¬ 20 < p2 then (if (I (100 * 8 + 3)) < (rwM 8) then ((stI (A (8 + 1)) (I (100 * 8 + 3)) p1).bind fun X5 => ((stI ((fu A (8 + 1) X5) (8 + 2)) (I (100 * 8 + 3)) p2).bind fun X6 => some (some (.int ((fu I (100 * 8 + 3) ((I (100 * 8 + 3)) + 1)) (100 * 8 + 3))), (HP (fu I (100 * 8 + 3) ((I (100 * 8 + 3)) + 1)) (fu (fu A (8 + 1) X5) (8 + 2) X6) L F E)))) else some (some (.int (-4)), (HP I A L F E))) else some (some (.int (-2)), (HP I A L F E)))) else some (some (.int (-1)), (HP I A L F E)))) else some (some (.int 0), (HP (fu I (100 * 8 + 3) 0) A L F E))) := by
  show mm_run G0 84 0 [some (.ref 1), some (.int p1), some (.int p2)] [] (HP I A L F E) = _
  refine (sg_go ht_X7_plan (k := 2) (pc' := 2) (L' := [some (.ref 1), some (.int p1), some (.int p2)]) (st' := [.int (-1), .int p1]) (h' := (HP I A L F E)) rfl).trans ?_
  refine (sg_cmp ht_X7_plan rfl).trans ?_
  refine ite_congr rfl (fun _ => ?_) (fun _ => ?_)
  · refine (sg_go ht_X7_plan (k := 1) (pc' := 17) (L' := [some (.ref 1), some (.int p1), some (.int p2)]) (st' := [.int p1]) (h' := (HP I A L F E)) rfl).trans ?_
    refine (sg_if ht_X7_plan rfl).trans ?_
    refine ite_congr rfl (fun _ => ?_) (fun _ => ?_)
    · refine (sg_go ht_X7_plan (k := 1) (pc' := 26) (L' := [some (.ref 1), some (.int p1), some (.int p2)]) (st' := [.int (-1)]) (h' := (HP I A L F E)) rfl).trans ?_
      exact sg_ret ht_X7_plan rfl rfl
    · refine (sg_go ht_X7_plan (k := 2) (pc' := 22) (L' := [some (.ref 1), some (.int p1), some (.int p2)]) (st' := [.int 3, .int p1]) (h' := (HP I A L F E)) rfl).trans ?_
      refine (sg_cmp ht_X7_plan rfl).trans ?_
      refine ite_congr rfl (fun _ => ?_) (fun _ => ?_)
      · refine (sg_go ht_X7_plan (k := 2) (pc' := 29) (L' := [some (.ref 1), some (.int p1), some (.int p2)]) (st' := [.int p2, .int p1]) (h' := (HP I A L F E)) rfl).trans ?_
        refine (sg_call ht_X7_plan (mj := 102) (as := [.int p1, .int p2]) (rest := []) rfl rfl ⟨by decide, Nat.le_of_ble_eq_true rfl⟩).trans ?_
        refine (bind_eq (sg_X7_isPlannable_0 p1 p2)).trans ?_
        refine ite_bd.trans ?_
        refine ite_congr rfl (fun _ => ?_) (fun _ => ?_)
        · refine ite_bd.trans ?_
          refine ite_congr rfl (fun _ => ?_) (fun _ => ?_)
          · show mm_run G0 84 32 [some (.ref 1), some (.int p1), some (.int p2)] [.int (bi (okS p1 p2))] (HP I A L F E) = _
            refine (sg_bnB ht_X7_plan rfl).trans ?_
            refine ite_congr rfl (fun _ => ?_) (fun _ => ?_)
            · refine (sg_go ht_X7_plan (k := 5) (pc' := 47) (L' := [some (.ref 1), some (.int p1), some (.int p2)]) (st' := [.int p2, .int p1, .ref 8]) (h' := (HP I A L F E)) rfl).trans ?_
              refine (sg_call ht_X7_plan (mj := 20) (as := [.ref 8, .int p1, .int p2]) (rest := []) rfl rfl ⟨by decide, Nat.le_of_ble_eq_true rfl⟩).trans ?_
              refine (bind_eq (sg_X2_add_0 (by unfold isRw; decide) p1 p2)).trans ?_
              refine ite_bd.trans ?_
              refine ite_congr rfl (fun _ => ?_) (fun _ => ?_)
              · refine bind_as.trans ?_
                refine bind_cg fun X1 hX1 => ?_
                refine bind_as.trans ?_
                refine bind_cg fun X2 hX2 => ?_
                show mm_run G0 84 50 [some (.ref 1), some (.int p1), some (.int p2)] [.int ((fu I (100 * 8 + 3) ((I (100 * 8 + 3)) + 1)) (100 * 8 + 3))] (HP (fu I (100 * 8 + 3) ((I (100 * 8 + 3)) + 1)) (fu (fu A (8 + 1) X1) (8 + 2) X2) L F E) = _
                exact sg_ret ht_X7_plan rfl rfl
              · show mm_run G0 84 50 [some (.ref 1), some (.int p1), some (.int p2)] [.int (-4)] (HP I A L F E) = _
                exact sg_ret ht_X7_plan rfl rfl
            · refine (sg_go ht_X7_plan (k := 1) (pc' := 37) (L' := [some (.ref 1), some (.int p1), some (.int p2)]) (st' := [.int (-2)]) (h' := (HP I A L F E)) rfl).trans ?_
              exact sg_ret ht_X7_plan rfl rfl
          · refine ite_bd.trans ?_
            refine ite_congr rfl (fun _ => ?_) (fun _ => ?_)
            · show mm_run G0 84 32 [some (.ref 1), some (.int p1), some (.int p2)] [.int 0] (HP I A L F E) = _
              refine (sg_go ht_X7_plan (k := 2) (pc' := 37) (L' := [some (.ref 1), some (.int p1), some (.int p2)]) (st' := [.int (-2)]) (h' := (HP I A L F E)) rfl).trans ?_
              exact sg_ret ht_X7_plan rfl rfl
            · refine ite_bd.trans ?_
              refine ite_congr rfl (fun _ => ?_) (fun _ => ?_)
              · show mm_run G0 84 32 [some (.ref 1), some (.int p1), some (.int p2)] [.int 0] (HP I A L F E) = _
                refine (sg_go ht_X7_plan (k := 2) (pc' := 37) (L' := [some (.ref 1), some (.int p1), some (.int p2)]) (st' := [.int (-2)]) (h' := (HP I A L F E)) rfl).trans ?_
                exact sg_ret ht_X7_plan rfl rfl
              · show mm_run G0 84 32 [some (.ref 1), some (.int p1), some (.int p2)] [.int 1] (HP I A L F E) = _
                refine (sg_go ht_X7_plan (k := 6) (pc' := 47) (L' := [some (.ref 1), some (.int p1), some (.int p2)]) (st' := [.int p2, .int p1, .ref 8]) (h' := (HP I A L F E)) rfl).trans ?_
                refine (sg_call ht_X7_plan (mj := 20) (as := [.ref 8, .int p1, .int p2]) (rest := []) rfl rfl ⟨by decide, Nat.le_of_ble_eq_true rfl⟩).trans ?_
                refine (bind_eq (sg_X2_add_0 (by unfold isRw; decide) p1 p2)).trans ?_
                refine ite_bd.trans ?_
                refine ite_congr rfl (fun _ => ?_) (fun _ => ?_)
                · refine bind_as.trans ?_
                  refine bind_cg fun X3 hX3 => ?_
                  refine bind_as.trans ?_
                  refine bind_cg fun X4 hX4 => ?_
                  show mm_run G0 84 50 [some (.ref 1), some (.int p1), some (.int p2)] [.int ((fu I (100 * 8 + 3) ((I (100 * 8 + 3)) + 1)) (100 * 8 + 3))] (HP (fu I (100 * 8 + 3) ((I (100 * 8 + 3)) + 1)) (fu (fu A (8 + 1) X3) (8 + 2) X4) L F E) = _
                  exact sg_ret ht_X7_plan rfl rfl
                · show mm_run G0 84 50 [some (.ref 1), some (.int p1), some (.int p2)] [.int (-4)] (HP I A L F E) = _
                  exact sg_ret ht_X7_plan rfl rfl
        · show mm_run G0 84 32 [some (.ref 1), some (.int p1), some (.int p2)] [.int (bi (decide (¬ p2 < (-20) ∧ ¬ 20 < p2)))] (HP I A L F E) = _
          refine (sg_bn ht_X7_plan rfl).trans ?_
          refine ite_congr rfl (fun _ => ?_) (fun _ => ?_)
          · refine (sg_go ht_X7_plan (k := 5) (pc' := 47) (L' := [some (.ref 1), some (.int p1), some (.int p2)]) (st' := [.int p2, .int p1, .ref 8]) (h' := (HP I A L F E)) rfl).trans ?_
            refine (sg_call ht_X7_plan (mj := 20) (as := [.ref 8, .int p1, .int p2]) (rest := []) rfl rfl ⟨by decide, Nat.le_of_ble_eq_true rfl⟩).trans ?_
            refine (bind_eq (sg_X2_add_0 (by unfold isRw; decide) p1 p2)).trans ?_
            refine ite_bd.trans ?_
            refine ite_congr rfl (fun _ => ?_) (fun _ => ?_)
            · refine bind_as.trans ?_
              refine bind_cg fun X5 hX5 => ?_
              refine bind_as.trans ?_
              refine bind_cg fun X6 hX6 => ?_
              show mm_run G0 84 50 [some (.ref 1), some (.int p1), some (.int p2)] [.int ((fu I (100 * 8 + 3) ((I (100 * 8 + 3)) + 1)) (100 * 8 + 3))] (HP (fu I (100 * 8 + 3) ((I (100 * 8 + 3)) + 1)) (fu (fu A (8 + 1) X5) (8 + 2) X6) L F E) = _
              exact sg_ret ht_X7_plan rfl rfl
            · show mm_run G0 84 50 [some (.ref 1), some (.int p1), some (.int p2)] [.int (-4)] (HP I A L F E) = _
              exact sg_ret ht_X7_plan rfl rfl
          · refine (sg_go ht_X7_plan (k := 1) (pc' := 37) (L' := [some (.ref 1), some (.int p1), some (.int p2)]) (st' := [.int (-2)]) (h' := (HP I A L F E)) rfl).trans ?_
            exact sg_ret ht_X7_plan rfl rfl
      · refine (sg_go ht_X7_plan (k := 1) (pc' := 26) (L' := [some (.ref 1), some (.int p1), some (.int p2)]) (st' := [.int (-1)]) (h' := (HP I A L F E)) rfl).trans ?_
        exact sg_ret ht_X7_plan rfl rfl
  · refine (sg_go ht_X7_plan (k := 3) (pc' := 12) (L' := [some (.ref 1), some (.int p1), some (.int p2)]) (st' := [.ref 8]) (h' := (HP I A L F E)) rfl).trans ?_
    refine (sg_call ht_X7_plan (mj := 19) (as := [.ref 8]) (rest := []) rfl rfl ⟨by decide, Nat.le_of_ble_eq_true rfl⟩).trans ?_
    refine (bind_eq (sg_X2_clear_0 (by unfold isRw; decide))).trans ?_
    show mm_run G0 84 15 [some (.ref 1), some (.int p1), some (.int p2)] [.int 0] (HP (fu I (100 * 8 + 3) 0) A L F E) = _
    exact sg_ret ht_X7_plan rfl rfl
set_option maxRecDepth 20000 in
theorem sg_X7_followPlan_0 {I : Nat → Int32} {A : Nat → List Int32} {L : Nat → List Int64} {F : Nat → Int64} {E : MH}  : mm_call G0 109 [.ref 1] (HP I A L F E) = ((mm_call G0 33 [.ref 69, .ref 14] (HP I A L F E)).bind fun q => mm_run G0 109 16 [some (.ref 1), none, none, none] (q.1.toList ++ []) q.2) := by
  show mm_run G0 109 0 [some (.ref 1), none, none, none] [] (HP I A L F E) = _
  refine (sg_go ht_X7_followPlan (k := 7) (pc' := 13) (L' := [some (.ref 1), none, none, none]) (st' := [.ref 14, .ref 69]) (h' := (HP I A L F E)) rfl).trans ?_
  refine (sg_call ht_X7_followPlan (mj := 33) (as := [.ref 69, .ref 14]) (rest := []) rfl rfl ⟨by decide, Nat.le_of_ble_eq_true rfl⟩).trans ?_
  rfl
set_option maxRecDepth 20000 in
theorem sg_X7_followPlan_16 {I : Nat → Int32} {A : Nat → List Int32} {L : Nat → List Int64} {F : Nat → Int64} {E : MH}  : mm_run G0 109 16 [some (.ref 1), none, none, none] [] (HP I A L F E) = mm_run G0 109 26 [some (.ref 1), some (.ref 8), some (.int 0), none] [] (HP I A L F E) := by
  refine (sg_go ht_X7_followPlan (k := 6) (pc' := 26) (L' := [some (.ref 1), some (.ref 8), some (.int 0), none]) (st' := []) (h' := (HP I A L F E)) rfl).trans ?_
  rfl
set_option maxRecDepth 20000 in
theorem sg_X7_followPlan_26_v0 {I : Nat → Int32} {A : Nat → List Int32} {L : Nat → List Int64} {F : Nat → Int64} {E : MH} (v2 : Int32) : mm_run G0 109 26 [some (.ref 1), some (.ref 8), some (.int v2), none] [] (HP I A L F E) = (if (I 803) ≤ v2 then some (none, (HP I A L F E)) else ((ldI (A 10) v2).bind fun x1 => ((ldI (A 9) v2).bind fun x2 => (if x2 ≠ 0 then ((ldI (A 9) v2).bind fun x3 => (if x3 ≠ 3 then ((ldI (A 9) v2).bind fun x4 => (if x4 = 0 then mm_run G0 109 26 [some (.ref 1), some (.ref 8), some (.int (v2 + 1)), some (.int x1)] [] (HP (fu I (100 * 69 + 0) x1) A L F E) else (if x4 = 1 then mm_run G0 109 26 [some (.ref 1), some (.ref 8), some (.int (v2 + 1)), some (.int x1)] [] (HP (fu I (100 * 69 + 1) x1) A L F E) else (if x4 = 2 then mm_run G0 109 26 [some (.ref 1), some (.ref 8), some (.int (v2 + 1)), some (.int x1)] [] (HP (fu I (100 * 69 + 2) x1) A L F E) else (if x4 = 3 then mm_run G0 109 26 [some (.ref 1), some (.ref 8), some (.int (v2 + 1)), some (.int x1)] [] (HP (fu I (100 * 69 + 3) x1) A L F E) else mm_run G0 109 26 [some (.ref 1), some (.ref 8), some (.int (v2 + 1)), some (.int x1)] [] (HP I A L F E)))))) else ((mm_call G0 32 [.ref 69, .int x1] (HP I A L F E)).bind fun q => mm_run G0 109 79 [some (.ref 1), some (.ref 8), some (.int v2), some (.int x1)] (q.1.toList ++ []) q.2))) else (if ¬ (I (100 * 69 + 4)) < 40 then mm_run G0 109 26 [some (.ref 1), some (.ref 8), some (.int (v2 + 1)), some (.int x1)] [] (HP I A L F E) else ((stI (A (69 + 1)) (I (100 * 69 + 4)) x1).bind fun X5 => mm_run G0 109 26 [some (.ref 1), some (.ref 8), some (.int (v2 + 1)), some (.int x1)] [] (HP (fu I (100 * 69 + 4) ((I (100 * 69 + 4)) + 1)) (fu A (69 + 1) X5) L F E))))))) := by
  refine (sg_go ht_X7_followPlan (k := 3) (pc' := 31) (L' := [some (.ref 1), some (.ref 8), some (.int v2), none]) (st' := [.int (I 803), .int v2]) (h' := (HP I A L F E)) rfl).trans ?_
  refine (sg_cmp ht_X7_followPlan rfl).trans ?_
  refine ite_congr rfl (fun _ => ?_) (fun _ => ?_)
  · exact sg_ret ht_X7_followPlan rfl rfl
  · refine (sg_go ht_X7_followPlan (k := 3) (pc' := 39) (L' := [some (.ref 1), some (.ref 8), some (.int v2), none]) (st' := [.int v2, .ref 10]) (h' := (HP I A L F E)) rfl).trans ?_
    refine (sg_ldI ht_X7_followPlan rfl hp_o_10).trans ?_
    refine bind_cg fun x1 hx1 => ?_
    refine (sg_go ht_X7_followPlan (k := 4) (pc' := 46) (L' := [some (.ref 1), some (.ref 8), some (.int v2), some (.int x1)]) (st' := [.int v2, .ref 9]) (h' := (HP I A L F E)) rfl).trans ?_
    refine (sg_ldI ht_X7_followPlan rfl hp_o_9).trans ?_
    refine bind_cg fun x2 hx2 => ?_
    refine (sg_if ht_X7_followPlan rfl).trans ?_
    refine ite_congr rfl (fun _ => ?_) (fun _ => ?_)
    · refine (sg_go ht_X7_followPlan (k := 3) (pc' := 66) (L' := [some (.ref 1), some (.ref 8), some (.int v2), some (.int x1)]) (st' := [.int v2, .ref 9]) (h' := (HP I A L F E)) rfl).trans ?_
      refine (sg_ldI ht_X7_followPlan rfl hp_o_9).trans ?_
      refine bind_cg fun x3 hx3 => ?_
      refine (sg_go ht_X7_followPlan (k := 1) (pc' := 68) (L' := [some (.ref 1), some (.ref 8), some (.int v2), some (.int x1)]) (st' := [.int 3, .int x3]) (h' := (HP I A L F E)) rfl).trans ?_
      refine (sg_cmp ht_X7_followPlan rfl).trans ?_
      refine ite_congr rfl (fun _ => ?_) (fun _ => ?_)
      · refine (sg_go ht_X7_followPlan (k := 5) (pc' := 91) (L' := [some (.ref 1), some (.ref 8), some (.int v2), some (.int x1)]) (st' := [.int v2, .ref 9, .ref 69]) (h' := (HP I A L F E)) rfl).trans ?_
        refine (sg_ldI ht_X7_followPlan rfl hp_o_9).trans ?_
        refine bind_cg fun x4 hx4 => ?_
        refine (sg_go ht_X7_followPlan (k := 1) (pc' := 93) (L' := [some (.ref 1), some (.ref 8), some (.int v2), some (.int x1)]) (st' := [.int x1, .int x4, .ref 69]) (h' := (HP I A L F E)) rfl).trans ?_
        refine (sg_call ht_X7_followPlan (mj := 35) (as := [.ref 69, .int x4, .int x1]) (rest := []) rfl rfl ⟨by decide, Nat.le_of_ble_eq_true rfl⟩).trans ?_
        refine (bind_eq (sg_X4_settle_0 (by unfold isS; decide) x4 x1)).trans ?_
        refine ite_bd.trans ?_
        refine ite_congr rfl (fun _ => ?_) (fun _ => ?_)
        · show mm_run G0 109 96 [some (.ref 1), some (.ref 8), some (.int v2), some (.int x1)] [] (HP (fu I (100 * 69 + 0) x1) A L F E) = _
          refine (sg_go ht_X7_followPlan (k := 2) (pc' := 26) (L' := [some (.ref 1), some (.ref 8), some (.int (v2 + 1)), some (.int x1)]) (st' := []) (h' := (HP (fu I (100 * 69 + 0) x1) A L F E)) rfl).trans ?_
          rfl
        · refine ite_bd.trans ?_
          refine ite_congr rfl (fun _ => ?_) (fun _ => ?_)
          · show mm_run G0 109 96 [some (.ref 1), some (.ref 8), some (.int v2), some (.int x1)] [] (HP (fu I (100 * 69 + 1) x1) A L F E) = _
            refine (sg_go ht_X7_followPlan (k := 2) (pc' := 26) (L' := [some (.ref 1), some (.ref 8), some (.int (v2 + 1)), some (.int x1)]) (st' := []) (h' := (HP (fu I (100 * 69 + 1) x1) A L F E)) rfl).trans ?_
            rfl
          · refine ite_bd.trans ?_
            refine ite_congr rfl (fun _ => ?_) (fun _ => ?_)
            · show mm_run G0 109 96 [some (.ref 1), some (.ref 8), some (.int v2), some (.int x1)] [] (HP (fu I (100 * 69 + 2) x1) A L F E) = _
              refine (sg_go ht_X7_followPlan (k := 2) (pc' := 26) (L' := [some (.ref 1), some (.ref 8), some (.int (v2 + 1)), some (.int x1)]) (st' := []) (h' := (HP (fu I (100 * 69 + 2) x1) A L F E)) rfl).trans ?_
              rfl
            · refine ite_bd.trans ?_
              refine ite_congr rfl (fun _ => ?_) (fun _ => ?_)
              · show mm_run G0 109 96 [some (.ref 1), some (.ref 8), some (.int v2), some (.int x1)] [] (HP (fu I (100 * 69 + 3) x1) A L F E) = _
                refine (sg_go ht_X7_followPlan (k := 2) (pc' := 26) (L' := [some (.ref 1), some (.ref 8), some (.int (v2 + 1)), some (.int x1)]) (st' := []) (h' := (HP (fu I (100 * 69 + 3) x1) A L F E)) rfl).trans ?_
                rfl
              · show mm_run G0 109 96 [some (.ref 1), some (.ref 8), some (.int v2), some (.int x1)] [] (HP I A L F E) = _
                refine (sg_go ht_X7_followPlan (k := 2) (pc' := 26) (L' := [some (.ref 1), some (.ref 8), some (.int (v2 + 1)), some (.int x1)]) (st' := []) (h' := (HP I A L F E)) rfl).trans ?_
                rfl
      · refine (sg_go ht_X7_followPlan (k := 3) (pc' := 76) (L' := [some (.ref 1), some (.ref 8), some (.int v2), some (.int x1)]) (st' := [.int x1, .ref 69]) (h' := (HP I A L F E)) rfl).trans ?_
        refine (sg_call ht_X7_followPlan (mj := 32) (as := [.ref 69, .int x1]) (rest := []) rfl rfl ⟨by decide, Nat.le_of_ble_eq_true rfl⟩).trans ?_
        rfl
    · refine (sg_go ht_X7_followPlan (k := 3) (pc' := 55) (L' := [some (.ref 1), some (.ref 8), some (.int v2), some (.int x1)]) (st' := [.int x1, .ref 69]) (h' := (HP I A L F E)) rfl).trans ?_
      refine (sg_call ht_X7_followPlan (mj := 31) (as := [.ref 69, .int x1]) (rest := []) rfl rfl ⟨by decide, Nat.le_of_ble_eq_true rfl⟩).trans ?_
      refine (bind_eq (sg_X4_add_0 (by unfold isS; decide) x1)).trans ?_
      refine ite_bd.trans ?_
      refine ite_congr rfl (fun _ => ?_) (fun _ => ?_)
      · show mm_run G0 109 58 [some (.ref 1), some (.ref 8), some (.int v2), some (.int x1)] [] (HP I A L F E) = _
        refine (sg_go ht_X7_followPlan (k := 3) (pc' := 26) (L' := [some (.ref 1), some (.ref 8), some (.int (v2 + 1)), some (.int x1)]) (st' := []) (h' := (HP I A L F E)) rfl).trans ?_
        rfl
      · refine bind_as.trans ?_
        refine bind_cg fun X5 hX5 => ?_
        show mm_run G0 109 58 [some (.ref 1), some (.ref 8), some (.int v2), some (.int x1)] [] (HP (fu I (100 * 69 + 4) ((I (100 * 69 + 4)) + 1)) (fu A (69 + 1) X5) L F E) = _
        refine (sg_go ht_X7_followPlan (k := 3) (pc' := 26) (L' := [some (.ref 1), some (.ref 8), some (.int (v2 + 1)), some (.int x1)]) (st' := []) (h' := (HP (fu I (100 * 69 + 4) ((I (100 * 69 + 4)) + 1)) (fu A (69 + 1) X5) L F E)) rfl).trans ?_
        rfl
set_option maxRecDepth 20000 in
theorem sg_X7_followPlan_26_v1 {I : Nat → Int32} {A : Nat → List Int32} {L : Nat → List Int64} {F : Nat → Int64} {E : MH} (v2 : Int32) (o3 : Int32) : mm_run G0 109 26 [some (.ref 1), some (.ref 8), some (.int v2), some (.int o3)] [] (HP I A L F E) = (if (I 803) ≤ v2 then some (none, (HP I A L F E)) else ((ldI (A 10) v2).bind fun x1 => ((ldI (A 9) v2).bind fun x2 => (if x2 ≠ 0 then ((ldI (A 9) v2).bind fun x3 => (if x3 ≠ 3 then ((ldI (A 9) v2).bind fun x4 => (if x4 = 0 then mm_run G0 109 26 [some (.ref 1), some (.ref 8), some (.int (v2 + 1)), some (.int x1)] [] (HP (fu I (100 * 69 + 0) x1) A L F E) else (if x4 = 1 then mm_run G0 109 26 [some (.ref 1), some (.ref 8), some (.int (v2 + 1)), some (.int x1)] [] (HP (fu I (100 * 69 + 1) x1) A L F E) else (if x4 = 2 then mm_run G0 109 26 [some (.ref 1), some (.ref 8), some (.int (v2 + 1)), some (.int x1)] [] (HP (fu I (100 * 69 + 2) x1) A L F E) else (if x4 = 3 then mm_run G0 109 26 [some (.ref 1), some (.ref 8), some (.int (v2 + 1)), some (.int x1)] [] (HP (fu I (100 * 69 + 3) x1) A L F E) else mm_run G0 109 26 [some (.ref 1), some (.ref 8), some (.int (v2 + 1)), some (.int x1)] [] (HP I A L F E)))))) else ((mm_call G0 32 [.ref 69, .int x1] (HP I A L F E)).bind fun q => mm_run G0 109 79 [some (.ref 1), some (.ref 8), some (.int v2), some (.int x1)] (q.1.toList ++ []) q.2))) else (if ¬ (I (100 * 69 + 4)) < 40 then mm_run G0 109 26 [some (.ref 1), some (.ref 8), some (.int (v2 + 1)), some (.int x1)] [] (HP I A L F E) else ((stI (A (69 + 1)) (I (100 * 69 + 4)) x1).bind fun X5 => mm_run G0 109 26 [some (.ref 1), some (.ref 8), some (.int (v2 + 1)), some (.int x1)] [] (HP (fu I (100 * 69 + 4) ((I (100 * 69 + 4)) + 1)) (fu A (69 + 1) X5) L F E))))))) := by
  refine (sg_go ht_X7_followPlan (k := 3) (pc' := 31) (L' := [some (.ref 1), some (.ref 8), some (.int v2), some (.int o3)]) (st' := [.int (I 803), .int v2]) (h' := (HP I A L F E)) rfl).trans ?_
  refine (sg_cmp ht_X7_followPlan rfl).trans ?_
  refine ite_congr rfl (fun _ => ?_) (fun _ => ?_)
  · exact sg_ret ht_X7_followPlan rfl rfl
  · refine (sg_go ht_X7_followPlan (k := 3) (pc' := 39) (L' := [some (.ref 1), some (.ref 8), some (.int v2), some (.int o3)]) (st' := [.int v2, .ref 10]) (h' := (HP I A L F E)) rfl).trans ?_
    refine (sg_ldI ht_X7_followPlan rfl hp_o_10).trans ?_
    refine bind_cg fun x1 hx1 => ?_
    refine (sg_go ht_X7_followPlan (k := 4) (pc' := 46) (L' := [some (.ref 1), some (.ref 8), some (.int v2), some (.int x1)]) (st' := [.int v2, .ref 9]) (h' := (HP I A L F E)) rfl).trans ?_
    refine (sg_ldI ht_X7_followPlan rfl hp_o_9).trans ?_
    refine bind_cg fun x2 hx2 => ?_
    refine (sg_if ht_X7_followPlan rfl).trans ?_
    refine ite_congr rfl (fun _ => ?_) (fun _ => ?_)
    · refine (sg_go ht_X7_followPlan (k := 3) (pc' := 66) (L' := [some (.ref 1), some (.ref 8), some (.int v2), some (.int x1)]) (st' := [.int v2, .ref 9]) (h' := (HP I A L F E)) rfl).trans ?_
      refine (sg_ldI ht_X7_followPlan rfl hp_o_9).trans ?_
      refine bind_cg fun x3 hx3 => ?_
      refine (sg_go ht_X7_followPlan (k := 1) (pc' := 68) (L' := [some (.ref 1), some (.ref 8), some (.int v2), some (.int x1)]) (st' := [.int 3, .int x3]) (h' := (HP I A L F E)) rfl).trans ?_
      refine (sg_cmp ht_X7_followPlan rfl).trans ?_
      refine ite_congr rfl (fun _ => ?_) (fun _ => ?_)
      · refine (sg_go ht_X7_followPlan (k := 5) (pc' := 91) (L' := [some (.ref 1), some (.ref 8), some (.int v2), some (.int x1)]) (st' := [.int v2, .ref 9, .ref 69]) (h' := (HP I A L F E)) rfl).trans ?_
        refine (sg_ldI ht_X7_followPlan rfl hp_o_9).trans ?_
        refine bind_cg fun x4 hx4 => ?_
        refine (sg_go ht_X7_followPlan (k := 1) (pc' := 93) (L' := [some (.ref 1), some (.ref 8), some (.int v2), some (.int x1)]) (st' := [.int x1, .int x4, .ref 69]) (h' := (HP I A L F E)) rfl).trans ?_
        refine (sg_call ht_X7_followPlan (mj := 35) (as := [.ref 69, .int x4, .int x1]) (rest := []) rfl rfl ⟨by decide, Nat.le_of_ble_eq_true rfl⟩).trans ?_
        refine (bind_eq (sg_X4_settle_0 (by unfold isS; decide) x4 x1)).trans ?_
        refine ite_bd.trans ?_
        refine ite_congr rfl (fun _ => ?_) (fun _ => ?_)
        · show mm_run G0 109 96 [some (.ref 1), some (.ref 8), some (.int v2), some (.int x1)] [] (HP (fu I (100 * 69 + 0) x1) A L F E) = _
          refine (sg_go ht_X7_followPlan (k := 2) (pc' := 26) (L' := [some (.ref 1), some (.ref 8), some (.int (v2 + 1)), some (.int x1)]) (st' := []) (h' := (HP (fu I (100 * 69 + 0) x1) A L F E)) rfl).trans ?_
          rfl
        · refine ite_bd.trans ?_
          refine ite_congr rfl (fun _ => ?_) (fun _ => ?_)
          · show mm_run G0 109 96 [some (.ref 1), some (.ref 8), some (.int v2), some (.int x1)] [] (HP (fu I (100 * 69 + 1) x1) A L F E) = _
            refine (sg_go ht_X7_followPlan (k := 2) (pc' := 26) (L' := [some (.ref 1), some (.ref 8), some (.int (v2 + 1)), some (.int x1)]) (st' := []) (h' := (HP (fu I (100 * 69 + 1) x1) A L F E)) rfl).trans ?_
            rfl
          · refine ite_bd.trans ?_
            refine ite_congr rfl (fun _ => ?_) (fun _ => ?_)
            · show mm_run G0 109 96 [some (.ref 1), some (.ref 8), some (.int v2), some (.int x1)] [] (HP (fu I (100 * 69 + 2) x1) A L F E) = _
              refine (sg_go ht_X7_followPlan (k := 2) (pc' := 26) (L' := [some (.ref 1), some (.ref 8), some (.int (v2 + 1)), some (.int x1)]) (st' := []) (h' := (HP (fu I (100 * 69 + 2) x1) A L F E)) rfl).trans ?_
              rfl
            · refine ite_bd.trans ?_
              refine ite_congr rfl (fun _ => ?_) (fun _ => ?_)
              · show mm_run G0 109 96 [some (.ref 1), some (.ref 8), some (.int v2), some (.int x1)] [] (HP (fu I (100 * 69 + 3) x1) A L F E) = _
                refine (sg_go ht_X7_followPlan (k := 2) (pc' := 26) (L' := [some (.ref 1), some (.ref 8), some (.int (v2 + 1)), some (.int x1)]) (st' := []) (h' := (HP (fu I (100 * 69 + 3) x1) A L F E)) rfl).trans ?_
                rfl
              · show mm_run G0 109 96 [some (.ref 1), some (.ref 8), some (.int v2), some (.int x1)] [] (HP I A L F E) = _
                refine (sg_go ht_X7_followPlan (k := 2) (pc' := 26) (L' := [some (.ref 1), some (.ref 8), some (.int (v2 + 1)), some (.int x1)]) (st' := []) (h' := (HP I A L F E)) rfl).trans ?_
                rfl
      · refine (sg_go ht_X7_followPlan (k := 3) (pc' := 76) (L' := [some (.ref 1), some (.ref 8), some (.int v2), some (.int x1)]) (st' := [.int x1, .ref 69]) (h' := (HP I A L F E)) rfl).trans ?_
        refine (sg_call ht_X7_followPlan (mj := 32) (as := [.ref 69, .int x1]) (rest := []) rfl rfl ⟨by decide, Nat.le_of_ble_eq_true rfl⟩).trans ?_
        rfl
    · refine (sg_go ht_X7_followPlan (k := 3) (pc' := 55) (L' := [some (.ref 1), some (.ref 8), some (.int v2), some (.int x1)]) (st' := [.int x1, .ref 69]) (h' := (HP I A L F E)) rfl).trans ?_
      refine (sg_call ht_X7_followPlan (mj := 31) (as := [.ref 69, .int x1]) (rest := []) rfl rfl ⟨by decide, Nat.le_of_ble_eq_true rfl⟩).trans ?_
      refine (bind_eq (sg_X4_add_0 (by unfold isS; decide) x1)).trans ?_
      refine ite_bd.trans ?_
      refine ite_congr rfl (fun _ => ?_) (fun _ => ?_)
      · show mm_run G0 109 58 [some (.ref 1), some (.ref 8), some (.int v2), some (.int x1)] [] (HP I A L F E) = _
        refine (sg_go ht_X7_followPlan (k := 3) (pc' := 26) (L' := [some (.ref 1), some (.ref 8), some (.int (v2 + 1)), some (.int x1)]) (st' := []) (h' := (HP I A L F E)) rfl).trans ?_
        rfl
      · refine bind_as.trans ?_
        refine bind_cg fun X5 hX5 => ?_
        show mm_run G0 109 58 [some (.ref 1), some (.ref 8), some (.int v2), some (.int x1)] [] (HP (fu I (100 * 69 + 4) ((I (100 * 69 + 4)) + 1)) (fu A (69 + 1) X5) L F E) = _
        refine (sg_go ht_X7_followPlan (k := 3) (pc' := 26) (L' := [some (.ref 1), some (.ref 8), some (.int (v2 + 1)), some (.int x1)]) (st' := []) (h' := (HP (fu I (100 * 69 + 4) ((I (100 * 69 + 4)) + 1)) (fu A (69 + 1) X5) L F E)) rfl).trans ?_
        rfl
theorem sg_X7_followPlan_26 {I : Nat → Int32} {A : Nat → List Int32} {L : Nat → List Int64} {F : Nat → Int64} {E : MH} (v2 : Int32) (o3 : Option Int32) : mm_run G0 109 26 [some (.ref 1), some (.ref 8), some (.int v2), (o3.map Value.int)] [] (HP I A L F E) = (if (I 803) ≤ v2 then some (none, (HP I A L F E)) else ((ldI (A 10) v2).bind fun x1 => ((ldI (A 9) v2).bind fun x2 => (if x2 ≠ 0 then ((ldI (A 9) v2).bind fun x3 => (if x3 ≠ 3 then ((ldI (A 9) v2).bind fun x4 => (if x4 = 0 then mm_run G0 109 26 [some (.ref 1), some (.ref 8), some (.int (v2 + 1)), some (.int x1)] [] (HP (fu I (100 * 69 + 0) x1) A L F E) else (if x4 = 1 then mm_run G0 109 26 [some (.ref 1), some (.ref 8), some (.int (v2 + 1)), some (.int x1)] [] (HP (fu I (100 * 69 + 1) x1) A L F E) else (if x4 = 2 then mm_run G0 109 26 [some (.ref 1), some (.ref 8), some (.int (v2 + 1)), some (.int x1)] [] (HP (fu I (100 * 69 + 2) x1) A L F E) else (if x4 = 3 then mm_run G0 109 26 [some (.ref 1), some (.ref 8), some (.int (v2 + 1)), some (.int x1)] [] (HP (fu I (100 * 69 + 3) x1) A L F E) else mm_run G0 109 26 [some (.ref 1), some (.ref 8), some (.int (v2 + 1)), some (.int x1)] [] (HP I A L F E)))))) else ((mm_call G0 32 [.ref 69, .int x1] (HP I A L F E)).bind fun q => mm_run G0 109 79 [some (.ref 1), some (.ref 8), some (.int v2), some (.int x1)] (q.1.toList ++ []) q.2))) else (if ¬ (I (100 * 69 + 4)) < 40 then mm_run G0 109 26 [some (.ref 1), some (.ref 8), some (.int (v2 + 1)), some (.int x1)] [] (HP I A L F E) else ((stI (A (69 + 1)) (I (100 * 69 + 4)) x1).bind fun X5 => mm_run G0 109 26 [some (.ref 1), some (.ref 8), some (.int (v2 + 1)), some (.int x1)] [] (HP (fu I (100 * 69 + 4) ((I (100 * 69 + 4)) + 1)) (fu A (69 + 1) X5) L F E))))))) := by
  match o3 with
  | none => exact sg_X7_followPlan_26_v0 v2
  | some o3 => exact sg_X7_followPlan_26_v1 v2 o3
set_option maxRecDepth 20000 in
theorem sg_X7_followPlan_79 {I : Nat → Int32} {A : Nat → List Int32} {L : Nat → List Int64} {F : Nat → Int64} {E : MH} (v2 : Int32) (v3 : Int32) : mm_run G0 109 79 [some (.ref 1), some (.ref 8), some (.int v2), some (.int v3)] [] (HP I A L F E) = mm_run G0 109 26 [some (.ref 1), some (.ref 8), some (.int (v2 + 1)), some (.int v3)] [] (HP I A L F E) := by
  refine (sg_go ht_X7_followPlan (k := 3) (pc' := 26) (L' := [some (.ref 1), some (.ref 8), some (.int (v2 + 1)), some (.int v3)]) (st' := []) (h' := (HP I A L F E)) rfl).trans ?_
  rfl
set_option maxRecDepth 20000 in
theorem sg_X7_ends_0 {I : Nat → Int32} {A : Nat → List Int32} {L : Nat → List Int64} {F : Nat → Int64} {E : MH} (p1 : Int32) : mm_call G0 85 [.ref 1, .int p1] (HP I A L F E) = (if p1 < 0 then some (some (.int (-1)), (HP I A L F E)) else (if p1 ≤ 2 then ((mm_call G0 109 [.ref 1] (HP I A L F E)).bind fun q => mm_run G0 85 15 [some (.ref 1), some (.int p1)] (q.1.toList ++ []) q.2) else some (some (.int (-1)), (HP I A L F E)))) := by
  show mm_run G0 85 0 [some (.ref 1), some (.int p1)] [] (HP I A L F E) = _
  refine (sg_go ht_X7_ends (k := 1) (pc' := 1) (L' := [some (.ref 1), some (.int p1)]) (st' := [.int p1]) (h' := (HP I A L F E)) rfl).trans ?_
  refine (sg_if ht_X7_ends rfl).trans ?_
  refine ite_congr rfl (fun _ => ?_) (fun _ => ?_)
  · refine (sg_go ht_X7_ends (k := 1) (pc' := 10) (L' := [some (.ref 1), some (.int p1)]) (st' := [.int (-1)]) (h' := (HP I A L F E)) rfl).trans ?_
    exact sg_ret ht_X7_ends rfl rfl
  · refine (sg_go ht_X7_ends (k := 2) (pc' := 6) (L' := [some (.ref 1), some (.int p1)]) (st' := [.int 2, .int p1]) (h' := (HP I A L F E)) rfl).trans ?_
    refine (sg_cmp ht_X7_ends rfl).trans ?_
    refine ite_congr rfl (fun _ => ?_) (fun _ => ?_)
    · refine (sg_go ht_X7_ends (k := 1) (pc' := 12) (L' := [some (.ref 1), some (.int p1)]) (st' := [.ref 1]) (h' := (HP I A L F E)) rfl).trans ?_
      refine (sg_call ht_X7_ends (mj := 109) (as := [.ref 1]) (rest := []) rfl rfl ⟨by decide, Nat.le_of_ble_eq_true rfl⟩).trans ?_
      rfl
    · refine (sg_go ht_X7_ends (k := 1) (pc' := 10) (L' := [some (.ref 1), some (.int p1)]) (st' := [.int (-1)]) (h' := (HP I A L F E)) rfl).trans ?_
      exact sg_ret ht_X7_ends rfl rfl
set_option maxRecDepth 20000 in
theorem sg_X7_ends_15 {I : Nat → Int32} {A : Nat → List Int32} {L : Nat → List Int64} {F : Nat → Int64} {E : MH} (v1 : Int32) : mm_run G0 85 15 [some (.ref 1), some (.int v1)] [] (HP I A L F E) = (if v1 ≠ 2 then ((mm_call G0 106 [.ref 1, .ref 69, .int (I 6902), .int (I 6903)] (HP I A L F E)).bind fun q => mm_run G0 85 50 [some (.ref 1), some (.int v1)] (q.1.toList ++ []) q.2) else ((mm_call G0 42 [.ref 69] (HP I A L F E)).bind fun q => mm_run G0 85 27 [some (.ref 1), some (.int v1)] (q.1.toList ++ []) q.2)) := by
  refine (sg_go ht_X7_ends (k := 2) (pc' := 17) (L' := [some (.ref 1), some (.int v1)]) (st' := [.int 2, .int v1]) (h' := (HP I A L F E)) rfl).trans ?_
  refine (sg_cmp ht_X7_ends rfl).trans ?_
  refine ite_congr rfl (fun _ => ?_) (fun _ => ?_)
  · refine (sg_go ht_X7_ends (k := 9) (pc' := 47) (L' := [some (.ref 1), some (.int v1)]) (st' := [.int (I 6903), .int (I 6902), .ref 69, .ref 1]) (h' := (HP I A L F E)) rfl).trans ?_
    refine (sg_call ht_X7_ends (mj := 106) (as := [.ref 1, .ref 69, .int (I 6902), .int (I 6903)]) (rest := []) rfl rfl ⟨by decide, Nat.le_of_ble_eq_true rfl⟩).trans ?_
    rfl
  · refine (sg_go ht_X7_ends (k := 2) (pc' := 24) (L' := [some (.ref 1), some (.int v1)]) (st' := [.ref 69]) (h' := (HP I A L F E)) rfl).trans ?_
    refine (sg_call ht_X7_ends (mj := 42) (as := [.ref 69]) (rest := []) rfl rfl ⟨by decide, Nat.le_of_ble_eq_true rfl⟩).trans ?_
    rfl
set_option maxRecDepth 20000 in
theorem sg_X7_ends_50 {I : Nat → Int32} {A : Nat → List Int32} {L : Nat → List Int64} {F : Nat → Int64} {E : MH} (v1 : Int32) : mm_run G0 85 50 [some (.ref 1), some (.int v1)] [] (HP I A L F E) = (if v1 ≠ 0 then (if (I 4806) ≠ 0 then ((ldI (A 51) 0).bind fun x1 => some (some (.int x1), (HP I A L F E))) else some (some (.int (-5)), (HP I A L F E))) else some (some (.int (I 4806)), (HP I A L F E))) := by
  refine (sg_go ht_X7_ends (k := 1) (pc' := 51) (L' := [some (.ref 1), some (.int v1)]) (st' := [.int v1]) (h' := (HP I A L F E)) rfl).trans ?_
  refine (sg_if ht_X7_ends rfl).trans ?_
  refine ite_congr rfl (fun _ => ?_) (fun _ => ?_)
  · refine (sg_go ht_X7_ends (k := 2) (pc' := 68) (L' := [some (.ref 1), some (.int v1)]) (st' := [.ref 48]) (h' := (HP I A L F E)) rfl).trans ?_
    refine (sg_call ht_X7_ends (mj := 16) (as := [.ref 48]) (rest := []) rfl rfl ⟨by decide, Nat.le_of_ble_eq_true rfl⟩).trans ?_
    refine (bind_eq (sg_X1_firstPlace_0 )).trans ?_
    refine ite_bd.trans ?_
    refine ite_congr rfl (fun _ => ?_) (fun _ => ?_)
    · refine bind_as.trans ?_
      refine bind_cg fun x1 hx1 => ?_
      show mm_run G0 85 71 [some (.ref 1), some (.int v1)] [.int x1] (HP I A L F E) = _
      exact sg_ret ht_X7_ends rfl rfl
    · show mm_run G0 85 71 [some (.ref 1), some (.int v1)] [.int (-5)] (HP I A L F E) = _
      exact sg_ret ht_X7_ends rfl rfl
  · refine (sg_go ht_X7_ends (k := 4) (pc' := 71) (L' := [some (.ref 1), some (.int v1)]) (st' := [.int (I 4806)]) (h' := (HP I A L F E)) rfl).trans ?_
    exact sg_ret ht_X7_ends rfl rfl
set_option maxRecDepth 20000 in
theorem sg_X7_ends_27 {I : Nat → Int32} {A : Nat → List Int32} {L : Nat → List Int64} {F : Nat → Int64} {E : MH} (v1 : Int32) (s0 : Int32) : mm_run G0 85 27 [some (.ref 1), some (.int v1)] [.int s0] (HP I A L F E) = some (some (.int s0), (HP I A L F E)) := by
  exact sg_ret ht_X7_ends rfl rfl
set_option maxRecDepth 20000 in
theorem sg_X7_book_0 {I : Nat → Int32} {A : Nat → List Int32} {L : Nat → List Int64} {F : Nat → Int64} {E : MH} (p1 : Int32) (p2 : Int32) : mm_call G0 86 [.ref 1, .int p1, .int p2] (HP I A L F E) = (if p1 ≠ (-1) then (if ¬ p1 < 0 ∧ ¬ 4 ≤ p1 then (if p2 < 0 then some (some (.int (-2)), (HP I A L F E)) else (if p2 ≤ 40 then (if (I (100 * 11 + 3)) < (rwM 11) then ((stI (A (11 + 1)) (I (100 * 11 + 3)) p1).bind fun X1 => ((stI ((fu A (11 + 1) X1) (11 + 2)) (I (100 * 11 + 3)) p2).bind fun X2 => some (some (.int ((fu I (100 * 11 + 3) ((I (100 * 11 + 3)) + 1)) (100 * 11 + 3))), (HP (fu I (100 * 11 + 3) ((I (100 * 11 + 3)) + 1)) (fu (fu A (11 + 1) X1) (11 + 2) X2) L F E)))) else some (some (.int (-4)), (HP I A L F E))) else some (some (.int (-2)), (HP I A L F E)))) else some (some (.int (-1)), (HP I A L F E))) else some (some (.int 0), (HP (fu I (100 * 11 + 3) 0) A L F E))) := by
  show mm_run G0 86 0 [some (.ref 1), some (.int p1), some (.int p2)] [] (HP I A L F E) = _
  refine (sg_go ht_X7_book (k := 2) (pc' := 2) (L' := [some (.ref 1), some (.int p1), some (.int p2)]) (st' := [.int (-1), .int p1]) (h' := (HP I A L F E)) rfl).trans ?_
  refine (sg_cmp ht_X7_book rfl).trans ?_
  refine ite_congr rfl (fun _ => ?_) (fun _ => ?_)
  · refine (sg_go ht_X7_book (k := 1) (pc' := 17) (L' := [some (.ref 1), some (.int p1), some (.int p2)]) (st' := [.int p1]) (h' := (HP I A L F E)) rfl).trans ?_
    refine (sg_call ht_X7_book (mj := 96) (as := [.int p1]) (rest := []) rfl rfl ⟨by decide, Nat.le_of_ble_eq_true rfl⟩).trans ?_
    refine (bind_eq (sp_X7_isStream p1)).trans ?_
    show mm_run G0 86 20 [some (.ref 1), some (.int p1), some (.int p2)] [.int (bi (decide (¬ p1 < 0 ∧ ¬ 4 ≤ p1)))] (HP I A L F E) = _
    refine (sg_bn ht_X7_book rfl).trans ?_
    refine ite_congr rfl (fun _ => ?_) (fun _ => ?_)
    · refine (sg_go ht_X7_book (k := 1) (pc' := 26) (L' := [some (.ref 1), some (.int p1), some (.int p2)]) (st' := [.int p2]) (h' := (HP I A L F E)) rfl).trans ?_
      refine (sg_if ht_X7_book rfl).trans ?_
      refine ite_congr rfl (fun _ => ?_) (fun _ => ?_)
      · refine (sg_go ht_X7_book (k := 1) (pc' := 37) (L' := [some (.ref 1), some (.int p1), some (.int p2)]) (st' := [.int (-2)]) (h' := (HP I A L F E)) rfl).trans ?_
        exact sg_ret ht_X7_book rfl rfl
      · refine (sg_go ht_X7_book (k := 2) (pc' := 32) (L' := [some (.ref 1), some (.int p1), some (.int p2)]) (st' := [.int 40, .int p2]) (h' := (HP I A L F E)) rfl).trans ?_
        refine (sg_cmp ht_X7_book rfl).trans ?_
        refine ite_congr rfl (fun _ => ?_) (fun _ => ?_)
        · refine (sg_go ht_X7_book (k := 5) (pc' := 47) (L' := [some (.ref 1), some (.int p1), some (.int p2)]) (st' := [.int p2, .int p1, .ref 11]) (h' := (HP I A L F E)) rfl).trans ?_
          refine (sg_call ht_X7_book (mj := 20) (as := [.ref 11, .int p1, .int p2]) (rest := []) rfl rfl ⟨by decide, Nat.le_of_ble_eq_true rfl⟩).trans ?_
          refine (bind_eq (sg_X2_add_0 (by unfold isRw; decide) p1 p2)).trans ?_
          refine ite_bd.trans ?_
          refine ite_congr rfl (fun _ => ?_) (fun _ => ?_)
          · refine bind_as.trans ?_
            refine bind_cg fun X1 hX1 => ?_
            refine bind_as.trans ?_
            refine bind_cg fun X2 hX2 => ?_
            show mm_run G0 86 50 [some (.ref 1), some (.int p1), some (.int p2)] [.int ((fu I (100 * 11 + 3) ((I (100 * 11 + 3)) + 1)) (100 * 11 + 3))] (HP (fu I (100 * 11 + 3) ((I (100 * 11 + 3)) + 1)) (fu (fu A (11 + 1) X1) (11 + 2) X2) L F E) = _
            exact sg_ret ht_X7_book rfl rfl
          · show mm_run G0 86 50 [some (.ref 1), some (.int p1), some (.int p2)] [.int (-4)] (HP I A L F E) = _
            exact sg_ret ht_X7_book rfl rfl
        · refine (sg_go ht_X7_book (k := 1) (pc' := 37) (L' := [some (.ref 1), some (.int p1), some (.int p2)]) (st' := [.int (-2)]) (h' := (HP I A L F E)) rfl).trans ?_
          exact sg_ret ht_X7_book rfl rfl
    · refine (sg_go ht_X7_book (k := 1) (pc' := 24) (L' := [some (.ref 1), some (.int p1), some (.int p2)]) (st' := [.int (-1)]) (h' := (HP I A L F E)) rfl).trans ?_
      exact sg_ret ht_X7_book rfl rfl
  · refine (sg_go ht_X7_book (k := 3) (pc' := 12) (L' := [some (.ref 1), some (.int p1), some (.int p2)]) (st' := [.ref 11]) (h' := (HP I A L F E)) rfl).trans ?_
    refine (sg_call ht_X7_book (mj := 19) (as := [.ref 11]) (rest := []) rfl rfl ⟨by decide, Nat.le_of_ble_eq_true rfl⟩).trans ?_
    refine (bind_eq (sg_X2_clear_0 (by unfold isRw; decide))).trans ?_
    show mm_run G0 86 15 [some (.ref 1), some (.int p1), some (.int p2)] [.int 0] (HP (fu I (100 * 11 + 3) 0) A L F E) = _
    exact sg_ret ht_X7_book rfl rfl
set_option maxRecDepth 20000 in
theorem sg_X7_looked_0 {I : Nat → Int32} {A : Nat → List Int32} {L : Nat → List Int64} {F : Nat → Int64} {E : MH}  : mm_call G0 87 [.ref 1] (HP I A L F E) = mm_run G0 87 10 [some (.ref 1), some (.ref 11), some (.int 0)] [] (HP I A L F E) := by
  show mm_run G0 87 0 [some (.ref 1), none, none] [] (HP I A L F E) = _
  refine (sg_go ht_X7_looked (k := 6) (pc' := 10) (L' := [some (.ref 1), some (.ref 11), some (.int 0)]) (st' := []) (h' := (HP I A L F E)) rfl).trans ?_
  rfl
set_option maxRecDepth 20000 in
theorem sg_X7_looked_10 {I : Nat → Int32} {A : Nat → List Int32} {L : Nat → List Int64} {F : Nat → Int64} {E : MH} (v2 : Int32) : mm_run G0 87 10 [some (.ref 1), some (.ref 11), some (.int v2)] [] (HP I A L F E) = (if (I 1103) ≤ v2 then some (some (.int (-5)), (HP I A L F E)) else ((ldI (A 12) v2).bind fun x1 => ((mm_call G0 105 [.ref 1, .int x1] (HP I A L F E)).bind fun q => mm_run G0 87 28 [some (.ref 1), some (.ref 11), some (.int v2)] (q.1.toList ++ []) q.2))) := by
  refine (sg_go ht_X7_looked (k := 3) (pc' := 15) (L' := [some (.ref 1), some (.ref 11), some (.int v2)]) (st' := [.int (I 1103), .int v2]) (h' := (HP I A L F E)) rfl).trans ?_
  refine (sg_cmp ht_X7_looked rfl).trans ?_
  refine ite_congr rfl (fun _ => ?_) (fun _ => ?_)
  · refine (sg_go ht_X7_looked (k := 1) (pc' := 54) (L' := [some (.ref 1), some (.ref 11), some (.int v2)]) (st' := [.int (-5)]) (h' := (HP I A L F E)) rfl).trans ?_
    exact sg_ret ht_X7_looked rfl rfl
  · refine (sg_go ht_X7_looked (k := 4) (pc' := 24) (L' := [some (.ref 1), some (.ref 11), some (.int v2)]) (st' := [.int v2, .ref 12, .ref 1]) (h' := (HP I A L F E)) rfl).trans ?_
    refine (sg_ldI ht_X7_looked rfl hp_o_12).trans ?_
    refine bind_cg fun x1 hx1 => ?_
    refine (sg_call ht_X7_looked (mj := 105) (as := [.ref 1, .int x1]) (rest := []) rfl rfl ⟨by decide, Nat.le_of_ble_eq_true rfl⟩).trans ?_
    rfl
set_option maxRecDepth 20000 in
theorem sg_X7_looked_28 {I : Nat → Int32} {A : Nat → List Int32} {L : Nat → List Int64} {F : Nat → Int64} {E : MH} (v2 : Int32) : mm_run G0 87 28 [some (.ref 1), some (.ref 11), some (.int v2)] [] (HP I A L F E) = ((ldI (A 13) v2).bind fun x1 => (if (I 4806) = x1 then mm_run G0 87 10 [some (.ref 1), some (.ref 11), some (.int (v2 + 1))] [] (HP I A L F E) else some (some (.int v2), (HP I A L F E)))) := by
  refine (sg_go ht_X7_looked (k := 6) (pc' := 40) (L' := [some (.ref 1), some (.ref 11), some (.int v2)]) (st' := [.int v2, .ref 13, .int (I 4806)]) (h' := (HP I A L F E)) rfl).trans ?_
  refine (sg_ldI ht_X7_looked rfl hp_o_13).trans ?_
  refine bind_cg fun x1 hx1 => ?_
  refine (sg_cmp ht_X7_looked rfl).trans ?_
  refine ite_congr rfl (fun _ => ?_) (fun _ => ?_)
  · refine (sg_go ht_X7_looked (k := 2) (pc' := 10) (L' := [some (.ref 1), some (.ref 11), some (.int (v2 + 1))]) (st' := []) (h' := (HP I A L F E)) rfl).trans ?_
    rfl
  · refine (sg_go ht_X7_looked (k := 1) (pc' := 45) (L' := [some (.ref 1), some (.ref 11), some (.int v2)]) (st' := [.int v2]) (h' := (HP I A L F E)) rfl).trans ?_
    exact sg_ret ht_X7_looked rfl rfl
set_option maxRecDepth 20000 in
theorem sg_X7_judge_0 {I : Nat → Int32} {A : Nat → List Int32} {L : Nat → List Int64} {F : Nat → Int64} {E : MH} (p1 : Int32) (p2 : Int32) (p3 : Int32) : mm_call G0 88 [.ref 1, .int p1, .int p2, .int p3] (HP I A L F E) = (if ¬ p1 < 0 ∧ ¬ 4 ≤ p1 then (if ¬ p2 < 0 ∧ ¬ 6 ≤ p2 then ((ldR [some 72, some 74, some 76, some 78, some 80, some 82] p2).bind fun a1 => (if (I (100 * a1 + 0)) = (-1) then ((mm_call G0 105 [.ref 1, .int p1] (HP I A L F E)).bind fun q => mm_run G0 88 50 [some (.ref 1), some (.int p1), some (.int p2), some (.int p3), some (.ref a1), none, none] (q.1.toList ++ []) q.2) else (if (I (100 * a1 + 0)) = 3 then ((mm_call G0 105 [.ref 1, .int p1] (HP I A L F E)).bind fun q => mm_run G0 88 50 [some (.ref 1), some (.int p1), some (.int p2), some (.int p3), some (.ref a1), none, none] (q.1.toList ++ []) q.2) else some (some (.int (-12)), (HP I A L F E))))) else some (some (.int (-1)), (HP I A L F E))) else some (some (.int (-1)), (HP I A L F E))) := by
  show mm_run G0 88 0 [some (.ref 1), some (.int p1), some (.int p2), some (.int p3), none, none, none] [] (HP I A L F E) = _
  refine (sg_go ht_X7_judge (k := 1) (pc' := 1) (L' := [some (.ref 1), some (.int p1), some (.int p2), some (.int p3), none, none, none]) (st' := [.int p1]) (h' := (HP I A L F E)) rfl).trans ?_
  refine (sg_call ht_X7_judge (mj := 96) (as := [.int p1]) (rest := []) rfl rfl ⟨by decide, Nat.le_of_ble_eq_true rfl⟩).trans ?_
  refine (bind_eq (sp_X7_isStream p1)).trans ?_
  show mm_run G0 88 4 [some (.ref 1), some (.int p1), some (.int p2), some (.int p3), none, none, none] [.int (bi (decide (¬ p1 < 0 ∧ ¬ 4 ≤ p1)))] (HP I A L F E) = _
  refine (sg_be ht_X7_judge rfl).trans ?_
  refine ite_congr rfl (fun _ => ?_) (fun _ => ?_)
  · refine (sg_go ht_X7_judge (k := 1) (pc' := 8) (L' := [some (.ref 1), some (.int p1), some (.int p2), some (.int p3), none, none, none]) (st' := [.int p2]) (h' := (HP I A L F E)) rfl).trans ?_
    refine (sg_call ht_X7_judge (mj := 97) (as := [.int p2]) (rest := []) rfl rfl ⟨by decide, Nat.le_of_ble_eq_true rfl⟩).trans ?_
    refine (bind_eq (sp_X7_isTape p2)).trans ?_
    show mm_run G0 88 11 [some (.ref 1), some (.int p1), some (.int p2), some (.int p3), none, none, none] [.int (bi (decide (¬ p2 < 0 ∧ ¬ 6 ≤ p2)))] (HP I A L F E) = _
    refine (sg_bn ht_X7_judge rfl).trans ?_
    refine ite_congr rfl (fun _ => ?_) (fun _ => ?_)
    · refine (sg_go ht_X7_judge (k := 3) (pc' := 21) (L' := [some (.ref 1), some (.int p1), some (.int p2), some (.int p3), none, none, none]) (st' := [.int p2, .ref 47]) (h' := (HP I A L F E)) rfl).trans ?_
      refine (sg_ldR ht_X7_judge rfl hp_o_47).trans ?_
      refine bind_cg fun a1 ha1 => ?_
      have ha1 := in_47 ha1
      refine (sg_go ht_X7_judge (k := 2) (pc' := 26) (L' := [some (.ref 1), some (.int p1), some (.int p2), some (.int p3), some (.ref a1), none, none]) (st' := [.ref a1]) (h' := (HP I A L F E)) rfl).trans ?_
      refine (sg_getI ht_X7_judge rfl (sT_obj ha1) rfl).trans ?_
      refine (sg_go ht_X7_judge (k := 1) (pc' := 30) (L' := [some (.ref 1), some (.int p1), some (.int p2), some (.int p3), some (.ref a1), none, none]) (st' := [.int (-1), .int (I (100 * a1 + 0))]) (h' := (HP I A L F E)) rfl).trans ?_
      refine (sg_cmp ht_X7_judge rfl).trans ?_
      refine ite_congr rfl (fun _ => ?_) (fun _ => ?_)
      · refine (sg_go ht_X7_judge (k := 2) (pc' := 47) (L' := [some (.ref 1), some (.int p1), some (.int p2), some (.int p3), some (.ref a1), none, none]) (st' := [.int p1, .ref 1]) (h' := (HP I A L F E)) rfl).trans ?_
        refine (sg_call ht_X7_judge (mj := 105) (as := [.ref 1, .int p1]) (rest := []) rfl rfl ⟨by decide, Nat.le_of_ble_eq_true rfl⟩).trans ?_
        rfl
      · refine (sg_go ht_X7_judge (k := 1) (pc' := 35) (L' := [some (.ref 1), some (.int p1), some (.int p2), some (.int p3), some (.ref a1), none, none]) (st' := [.ref a1]) (h' := (HP I A L F E)) rfl).trans ?_
        refine (sg_getI ht_X7_judge rfl (sT_obj ha1) rfl).trans ?_
        refine (sg_go ht_X7_judge (k := 1) (pc' := 39) (L' := [some (.ref 1), some (.int p1), some (.int p2), some (.int p3), some (.ref a1), none, none]) (st' := [.int 3, .int (I (100 * a1 + 0))]) (h' := (HP I A L F E)) rfl).trans ?_
        refine (sg_cmp ht_X7_judge rfl).trans ?_
        refine ite_congr rfl (fun _ => ?_) (fun _ => ?_)
        · refine (sg_go ht_X7_judge (k := 2) (pc' := 47) (L' := [some (.ref 1), some (.int p1), some (.int p2), some (.int p3), some (.ref a1), none, none]) (st' := [.int p1, .ref 1]) (h' := (HP I A L F E)) rfl).trans ?_
          refine (sg_call ht_X7_judge (mj := 105) (as := [.ref 1, .int p1]) (rest := []) rfl rfl ⟨by decide, Nat.le_of_ble_eq_true rfl⟩).trans ?_
          rfl
        · refine (sg_go ht_X7_judge (k := 1) (pc' := 44) (L' := [some (.ref 1), some (.int p1), some (.int p2), some (.int p3), some (.ref a1), none, none]) (st' := [.int (-12)]) (h' := (HP I A L F E)) rfl).trans ?_
          exact sg_ret ht_X7_judge rfl rfl
    · refine (sg_go ht_X7_judge (k := 1) (pc' := 15) (L' := [some (.ref 1), some (.int p1), some (.int p2), some (.int p3), none, none, none]) (st' := [.int (-1)]) (h' := (HP I A L F E)) rfl).trans ?_
      exact sg_ret ht_X7_judge rfl rfl
  · refine (sg_go ht_X7_judge (k := 1) (pc' := 15) (L' := [some (.ref 1), some (.int p1), some (.int p2), some (.int p3), none, none, none]) (st' := [.int (-1)]) (h' := (HP I A L F E)) rfl).trans ?_
    exact sg_ret ht_X7_judge rfl rfl
set_option maxRecDepth 20000 in
theorem sg_X7_judge_50 {I : Nat → Int32} {A : Nat → List Int32} {L : Nat → List Int64} {F : Nat → Int64} {E : MH} (v1 : Int32) (v2 : Int32) (v3 : Int32) {b4 : Nat} (hb4 : isT b4) : mm_run G0 88 50 [some (.ref 1), some (.int v1), some (.int v2), some (.int v3), some (.ref b4), none, none] [] (HP I A L F E) = ((ldR [some 14, some 16, some 18, some 20] v1).bind fun a1 => mm_run G0 88 67 [some (.ref 1), some (.int v1), some (.int v2), some (.int v3), some (.ref b4), some (.int (I (100 * a1 + 4))), some (.int 0)] [] (HP I A L F E)) := by
  refine (sg_go ht_X7_judge (k := 4) (pc' := 58) (L' := [some (.ref 1), some (.int v1), some (.int v2), some (.int v3), some (.ref b4), none, none]) (st' := [.int v1, .ref 3]) (h' := (HP I A L F E)) rfl).trans ?_
  refine (sg_ldR ht_X7_judge rfl hp_o_3).trans ?_
  refine bind_cg fun a1 ha1 => ?_
  have ha1 := in_3 ha1
  refine (sg_getI ht_X7_judge rfl (sS_obj ha1) rfl).trans ?_
  refine (sg_go ht_X7_judge (k := 3) (pc' := 67) (L' := [some (.ref 1), some (.int v1), some (.int v2), some (.int v3), some (.ref b4), some (.int (I (100 * a1 + 4))), some (.int 0)]) (st' := []) (h' := (HP I A L F E)) rfl).trans ?_
  rfl
set_option maxRecDepth 20000 in
theorem sg_X7_judge_67 {I : Nat → Int32} {A : Nat → List Int32} {L : Nat → List Int64} {F : Nat → Int64} {E : MH} (v1 : Int32) (v2 : Int32) (v3 : Int32) {b4 : Nat} (hb4 : isT b4) (v5 : Int32) (v6 : Int32) : mm_run G0 88 67 [some (.ref 1), some (.int v1), some (.int v2), some (.int v3), some (.ref b4), some (.int v5), some (.int v6)] [] (HP I A L F E) = (if v5 ≤ v6 then some (some (.int (-5)), (HP I A L F E)) else (if v3 < 0 then some (some (.int (100 + v6)), (HP I A L F E)) else (if v3 < ((I (100 * b4 + 1)) - v6) then ((ldL (L (b4 + 1)) (v3 + v6)).bind fun x1 => ((ldI (A 49) v6).bind fun x2 => (if (lg_cmp x1 (x2).toInt64) = 0 then mm_run G0 88 67 [some (.ref 1), some (.int v1), some (.int v2), some (.int v3), some (.ref b4), some (.int v5), some (.int (v6 + 1))] [] (HP I A L F E) else some (some (.int v6), (HP I A L F E))))) else some (some (.int (100 + v6)), (HP I A L F E))))) := by
  refine (sg_go ht_X7_judge (k := 2) (pc' := 71) (L' := [some (.ref 1), some (.int v1), some (.int v2), some (.int v3), some (.ref b4), some (.int v5), some (.int v6)]) (st' := [.int v5, .int v6]) (h' := (HP I A L F E)) rfl).trans ?_
  refine (sg_cmp ht_X7_judge rfl).trans ?_
  refine ite_congr rfl (fun _ => ?_) (fun _ => ?_)
  · refine (sg_go ht_X7_judge (k := 1) (pc' := 132) (L' := [some (.ref 1), some (.int v1), some (.int v2), some (.int v3), some (.ref b4), some (.int v5), some (.int v6)]) (st' := [.int (-5)]) (h' := (HP I A L F E)) rfl).trans ?_
    exact sg_ret ht_X7_judge rfl rfl
  · refine (sg_go ht_X7_judge (k := 1) (pc' := 75) (L' := [some (.ref 1), some (.int v1), some (.int v2), some (.int v3), some (.ref b4), some (.int v5), some (.int v6)]) (st' := [.int v3]) (h' := (HP I A L F E)) rfl).trans ?_
    refine (sg_if ht_X7_judge rfl).trans ?_
    refine ite_congr rfl (fun _ => ?_) (fun _ => ?_)
    · refine (sg_go ht_X7_judge (k := 3) (pc' := 95) (L' := [some (.ref 1), some (.int v1), some (.int v2), some (.int v3), some (.ref b4), some (.int v5), some (.int v6)]) (st' := [.int (100 + v6)]) (h' := (HP I A L F E)) rfl).trans ?_
      exact sg_ret ht_X7_judge rfl rfl
    · refine (sg_go ht_X7_judge (k := 2) (pc' := 81) (L' := [some (.ref 1), some (.int v1), some (.int v2), some (.int v3), some (.ref b4), some (.int v5), some (.int v6)]) (st' := [.ref b4, .int v3]) (h' := (HP I A L F E)) rfl).trans ?_
      refine (sg_getI ht_X7_judge rfl (sT_obj hb4) rfl).trans ?_
      refine (sg_go ht_X7_judge (k := 2) (pc' := 87) (L' := [some (.ref 1), some (.int v1), some (.int v2), some (.int v3), some (.ref b4), some (.int v5), some (.int v6)]) (st' := [.int ((I (100 * b4 + 1)) - v6), .int v3]) (h' := (HP I A L F E)) rfl).trans ?_
      refine (sg_cmp ht_X7_judge rfl).trans ?_
      refine ite_congr rfl (fun _ => ?_) (fun _ => ?_)
      · refine (sg_go ht_X7_judge (k := 1) (pc' := 98) (L' := [some (.ref 1), some (.int v1), some (.int v2), some (.int v3), some (.ref b4), some (.int v5), some (.int v6)]) (st' := [.ref b4]) (h' := (HP I A L F E)) rfl).trans ?_
        refine (sg_getR ht_X7_judge rfl (sT_obj hb4) rfl).trans ?_
        refine (sg_go ht_X7_judge (k := 3) (pc' := 105) (L' := [some (.ref 1), some (.int v1), some (.int v2), some (.int v3), some (.ref b4), some (.int v5), some (.int v6)]) (st' := [.int (v3 + v6), .ref (b4 + 1)]) (h' := (HP I A L F E)) rfl).trans ?_
        refine (sg_ldL ht_X7_judge rfl (sT_ar1 hb4)).trans ?_
        refine bind_cg fun x1 hx1 => ?_
        refine (sg_go ht_X7_judge (k := 4) (pc' := 115) (L' := [some (.ref 1), some (.int v1), some (.int v2), some (.int v3), some (.ref b4), some (.int v5), some (.int v6)]) (st' := [.int v6, .ref 49, .long x1]) (h' := (HP I A L F E)) rfl).trans ?_
        refine (sg_ldI ht_X7_judge rfl hp_o_49).trans ?_
        refine bind_cg fun x2 hx2 => ?_
        refine (sg_go ht_X7_judge (k := 2) (pc' := 118) (L' := [some (.ref 1), some (.int v1), some (.int v2), some (.int v3), some (.ref b4), some (.int v5), some (.int v6)]) (st' := [.int (lg_cmp x1 (x2).toInt64)]) (h' := (HP I A L F E)) rfl).trans ?_
        refine (sg_if ht_X7_judge rfl).trans ?_
        refine ite_congr rfl (fun _ => ?_) (fun _ => ?_)
        · refine (sg_go ht_X7_judge (k := 2) (pc' := 67) (L' := [some (.ref 1), some (.int v1), some (.int v2), some (.int v3), some (.ref b4), some (.int v5), some (.int (v6 + 1))]) (st' := []) (h' := (HP I A L F E)) rfl).trans ?_
          rfl
        · refine (sg_go ht_X7_judge (k := 1) (pc' := 123) (L' := [some (.ref 1), some (.int v1), some (.int v2), some (.int v3), some (.ref b4), some (.int v5), some (.int v6)]) (st' := [.int v6]) (h' := (HP I A L F E)) rfl).trans ?_
          exact sg_ret ht_X7_judge rfl rfl
      · refine (sg_go ht_X7_judge (k := 3) (pc' := 95) (L' := [some (.ref 1), some (.int v1), some (.int v2), some (.int v3), some (.ref b4), some (.int v5), some (.int v6)]) (st' := [.int (100 + v6)]) (h' := (HP I A L F E)) rfl).trans ?_
        exact sg_ret ht_X7_judge rfl rfl
set_option maxRecDepth 20000 in
theorem sg_X7_image_0 {I : Nat → Int32} {A : Nat → List Int32} {L : Nat → List Int64} {F : Nat → Int64} {E : MH}  : mm_call G0 89 [.ref 1] (HP I A L F E) = ((mm_call G0 23 [.ref 22, .ref 2] (HP I A L F E)).bind fun q => mm_run G0 89 11 [some (.ref 1)] (q.1.toList ++ []) q.2) := by
  show mm_run G0 89 0 [some (.ref 1)] [] (HP I A L F E) = _
  refine (sg_go ht_X7_image (k := 4) (pc' := 8) (L' := [some (.ref 1)]) (st' := [.ref 2, .ref 22]) (h' := (HP I A L F E)) rfl).trans ?_
  refine (sg_call ht_X7_image (mj := 23) (as := [.ref 22, .ref 2]) (rest := []) rfl rfl ⟨by decide, Nat.le_of_ble_eq_true rfl⟩).trans ?_
  rfl
set_option maxRecDepth 20000 in
theorem sg_X7_image_11 {I : Nat → Int32} {A : Nat → List Int32} {L : Nat → List Int64} {F : Nat → Int64} {E : MH}  : mm_run G0 89 11 [some (.ref 1)] [] (HP I A L F E) = some (some (.int ((((0 + ((fu I 102 1) 1404)) + ((fu I 102 1) 1604)) + ((fu I 102 1) 1804)) + ((fu I 102 1) 2004))), (HP (fu I 102 1) A L F E)) := by
  refine (sg_go ht_X7_image (k := 2) (pc' := 13) (L' := [some (.ref 1)]) (st' := [.int 1, .ref 1]) (h' := (HP I A L F E)) rfl).trans ?_
  refine (sg_putZ (h' := (HP (fu I 102 1) A L F E)) ht_X7_image (by decide) rfl hp_o_1 (Nat.le_of_ble_eq_true rfl) hp_p_102).trans ?_
  refine (sg_go ht_X7_image (k := 2) (pc' := 20) (L' := [some (.ref 1)]) (st' := [.ref 2]) (h' := (HP (fu I 102 1) A L F E)) rfl).trans ?_
  refine (sg_call ht_X7_image (mj := 24) (as := [.ref 2]) (rest := []) rfl rfl ⟨by decide, Nat.le_of_ble_eq_true rfl⟩).trans ?_
  refine (bind_eq (sg_X3_allValues_0 )).trans ?_
  show mm_run G0 89 23 [some (.ref 1)] [.int ((((0 + ((fu I 102 1) 1404)) + ((fu I 102 1) 1604)) + ((fu I 102 1) 1804)) + ((fu I 102 1) 2004))] (HP (fu I 102 1) A L F E) = _
  exact sg_ret ht_X7_image rfl rfl
set_option maxRecDepth 20000 in
theorem sg_X7_undo_0 {I : Nat → Int32} {A : Nat → List Int32} {L : Nat → List Int64} {F : Nat → Int64} {E : MH}  : mm_call G0 90 [.ref 1] (HP I A L F E) = (if (I 102) ≠ 0 then ((mm_call G0 23 [.ref 2, .ref 22] (HP I A L F E)).bind fun q => mm_run G0 90 21 [some (.ref 1)] (q.1.toList ++ []) q.2) else some (some (.int (-3)), (HP I A L F E))) := by
  show mm_run G0 90 0 [some (.ref 1)] [] (HP I A L F E) = _
  refine (sg_go ht_X7_undo (k := 2) (pc' := 4) (L' := [some (.ref 1)]) (st' := [.int (I 102)]) (h' := (HP I A L F E)) rfl).trans ?_
  refine (sg_if ht_X7_undo rfl).trans ?_
  refine ite_congr rfl (fun _ => ?_) (fun _ => ?_)
  · refine (sg_go ht_X7_undo (k := 4) (pc' := 18) (L' := [some (.ref 1)]) (st' := [.ref 22, .ref 2]) (h' := (HP I A L F E)) rfl).trans ?_
    refine (sg_call ht_X7_undo (mj := 23) (as := [.ref 2, .ref 22]) (rest := []) rfl rfl ⟨by decide, Nat.le_of_ble_eq_true rfl⟩).trans ?_
    rfl
  · refine (sg_go ht_X7_undo (k := 1) (pc' := 9) (L' := [some (.ref 1)]) (st' := [.int (-3)]) (h' := (HP I A L F E)) rfl).trans ?_
    exact sg_ret ht_X7_undo rfl rfl
set_option maxRecDepth 20000 in
theorem sg_X7_undo_21 {I : Nat → Int32} {A : Nat → List Int32} {L : Nat → List Int64} {F : Nat → Int64} {E : MH}  : mm_run G0 90 21 [some (.ref 1)] [] (HP I A L F E) = some (some (.int ((((0 + (I 1404)) + (I 1604)) + (I 1804)) + (I 2004))), (HP I A L F E)) := by
  refine (sg_go ht_X7_undo (k := 2) (pc' := 25) (L' := [some (.ref 1)]) (st' := [.ref 2]) (h' := (HP I A L F E)) rfl).trans ?_
  refine (sg_call ht_X7_undo (mj := 24) (as := [.ref 2]) (rest := []) rfl rfl ⟨by decide, Nat.le_of_ble_eq_true rfl⟩).trans ?_
  refine (bind_eq (sg_X3_allValues_0 )).trans ?_
  show mm_run G0 90 28 [some (.ref 1)] [.int ((((0 + (I 1404)) + (I 1604)) + (I 1804)) + (I 2004))] (HP I A L F E) = _
  exact sg_ret ht_X7_undo rfl rfl
set_option maxRecDepth 20000 in
theorem sg_X7_count_0 {I : Nat → Int32} {A : Nat → List Int32} {L : Nat → List Int64} {F : Nat → Int64} {E : MH} (p1 : Int32) : mm_call G0 91 [.ref 1, .int p1] (HP I A L F E) = (if p1 = 0 then some (some (.int ((((0 + (I 1404)) + (I 1604)) + (I 1804)) + (I 2004))), (HP I A L F E)) else (if p1 = 1 then some (some (.int (I 503)), (HP I A L F E)) else (if p1 = 2 then some (some (.int (I 803)), (HP I A L F E)) else (if p1 = 3 then some (some (.int (I 1103)), (HP I A L F E)) else (if p1 = 4 then some (some (.int (I 4201)), (HP I A L F E)) else some (some (.int (-2)), (HP I A L F E))))))) := by
  show mm_run G0 91 0 [some (.ref 1), some (.int p1)] [] (HP I A L F E) = _
  refine (sg_go ht_X7_count (k := 1) (pc' := 1) (L' := [some (.ref 1), some (.int p1)]) (st' := [.int p1]) (h' := (HP I A L F E)) rfl).trans ?_
  refine (sg_sw ht_X7_count rfl).trans ?_
  rw [swt_cons (k := 0) (lo' := 1) (by decide) (by decide), run_ite]
  refine ite_congr rfl (fun _ => ?_) (fun _ => ?_)
  · refine (sg_go ht_X7_count (k := 2) (pc' := 40) (L' := [some (.ref 1), some (.int p1)]) (st' := [.ref 2]) (h' := (HP I A L F E)) rfl).trans ?_
    refine (sg_call ht_X7_count (mj := 24) (as := [.ref 2]) (rest := []) rfl rfl ⟨by decide, Nat.le_of_ble_eq_true rfl⟩).trans ?_
    refine (bind_eq (sg_X3_allValues_0 )).trans ?_
    show mm_run G0 91 43 [some (.ref 1), some (.int p1)] [.int ((((0 + (I 1404)) + (I 1604)) + (I 1804)) + (I 2004))] (HP I A L F E) = _
    exact sg_ret ht_X7_count rfl rfl
  · rw [swt_cons (k := 1) (lo' := 2) (by decide) (by decide), run_ite]
    refine ite_congr rfl (fun _ => ?_) (fun _ => ?_)
    · refine (sg_go ht_X7_count (k := 4) (pc' := 54) (L' := [some (.ref 1), some (.int p1)]) (st' := [.int (I 503)]) (h' := (HP I A L F E)) rfl).trans ?_
      exact sg_ret ht_X7_count rfl rfl
    · rw [swt_cons (k := 2) (lo' := 3) (by decide) (by decide), run_ite]
      refine ite_congr rfl (fun _ => ?_) (fun _ => ?_)
      · refine (sg_go ht_X7_count (k := 4) (pc' := 65) (L' := [some (.ref 1), some (.int p1)]) (st' := [.int (I 803)]) (h' := (HP I A L F E)) rfl).trans ?_
        exact sg_ret ht_X7_count rfl rfl
      · rw [swt_cons (k := 3) (lo' := 4) (by decide) (by decide), run_ite]
        refine ite_congr rfl (fun _ => ?_) (fun _ => ?_)
        · refine (sg_go ht_X7_count (k := 4) (pc' := 76) (L' := [some (.ref 1), some (.int p1)]) (st' := [.int (I 1103)]) (h' := (HP I A L F E)) rfl).trans ?_
          exact sg_ret ht_X7_count rfl rfl
        · rw [swt_cons (k := 4) (lo' := 5) (by decide) (by decide), run_ite]
          refine ite_congr rfl (fun _ => ?_) (fun _ => ?_)
          · refine (sg_go ht_X7_count (k := 3) (pc' := 84) (L' := [some (.ref 1), some (.int p1)]) (st' := [.int (I 4201)]) (h' := (HP I A L F E)) rfl).trans ?_
            exact sg_ret ht_X7_count rfl rfl
          · rw [swt_nil]
            refine (sg_go ht_X7_count (k := 1) (pc' := 87) (L' := [some (.ref 1), some (.int p1)]) (st' := [.int (-2)]) (h' := (HP I A L F E)) rfl).trans ?_
            exact sg_ret ht_X7_count rfl rfl
set_option maxRecDepth 20000 in
theorem sg_X7_tape_0 {I : Nat → Int32} {A : Nat → List Int32} {L : Nat → List Int64} {F : Nat → Int64} {E : MH} (p1 : Int32) (p2 : Int32) (p3 : Int32) : mm_call G0 92 [.ref 1, .int p1, .int p2, .int p3] (HP I A L F E) = (if ¬ p1 < 0 ∧ ¬ 6 ≤ p1 then (if p2 ≠ (-1) then (if p2 < 0 then some (some (.int (-2)), (HP I A L F E)) else (if 4 < p2 then some (some (.int (-2)), (HP I A L F E)) else (if p3 ≤ 60 then (if 0 ≤ p3 then ((ldR [some 72, some 74, some 76, some 78, some 80, some 82] p1).bind fun a1 => ((mm_call G0 44 [.ref a1, .int p2, .int p3] (HP I A L F E)).bind fun q => mm_run G0 92 63 [some (.ref 1), some (.int p1), some (.int p2), some (.int p3)] (q.1.toList ++ []) q.2)) else some (some (.int (-14)), (HP I A L F E))) else some (some (.int (-2)), (HP I A L F E))))) else ((ldR [some 72, some 74, some 76, some 78, some 80, some 82] p1).bind fun a2 => ((mm_call G0 44 [.ref a2, .int (-1), .int 0] (HP I A L F E)).bind fun q => mm_run G0 92 25 [some (.ref 1), some (.int p1), some (.int p2), some (.int p3)] (q.1.toList ++ []) q.2))) else some (some (.int (-1)), (HP I A L F E))) := by
  show mm_run G0 92 0 [some (.ref 1), some (.int p1), some (.int p2), some (.int p3)] [] (HP I A L F E) = _
  refine (sg_go ht_X7_tape (k := 1) (pc' := 1) (L' := [some (.ref 1), some (.int p1), some (.int p2), some (.int p3)]) (st' := [.int p1]) (h' := (HP I A L F E)) rfl).trans ?_
  refine (sg_call ht_X7_tape (mj := 97) (as := [.int p1]) (rest := []) rfl rfl ⟨by decide, Nat.le_of_ble_eq_true rfl⟩).trans ?_
  refine (bind_eq (sp_X7_isTape p1)).trans ?_
  show mm_run G0 92 4 [some (.ref 1), some (.int p1), some (.int p2), some (.int p3)] [.int (bi (decide (¬ p1 < 0 ∧ ¬ 6 ≤ p1)))] (HP I A L F E) = _
  refine (sg_bn ht_X7_tape rfl).trans ?_
  refine ite_congr rfl (fun _ => ?_) (fun _ => ?_)
  · refine (sg_go ht_X7_tape (k := 2) (pc' := 11) (L' := [some (.ref 1), some (.int p1), some (.int p2), some (.int p3)]) (st' := [.int (-1), .int p2]) (h' := (HP I A L F E)) rfl).trans ?_
    refine (sg_cmp ht_X7_tape rfl).trans ?_
    refine ite_congr rfl (fun _ => ?_) (fun _ => ?_)
    · refine (sg_go ht_X7_tape (k := 1) (pc' := 28) (L' := [some (.ref 1), some (.int p1), some (.int p2), some (.int p3)]) (st' := [.int p2]) (h' := (HP I A L F E)) rfl).trans ?_
      refine (sg_if ht_X7_tape rfl).trans ?_
      refine ite_congr rfl (fun _ => ?_) (fun _ => ?_)
      · refine (sg_go ht_X7_tape (k := 1) (pc' := 44) (L' := [some (.ref 1), some (.int p1), some (.int p2), some (.int p3)]) (st' := [.int (-2)]) (h' := (HP I A L F E)) rfl).trans ?_
        exact sg_ret ht_X7_tape rfl rfl
      · refine (sg_go ht_X7_tape (k := 2) (pc' := 33) (L' := [some (.ref 1), some (.int p1), some (.int p2), some (.int p3)]) (st' := [.int 4, .int p2]) (h' := (HP I A L F E)) rfl).trans ?_
        refine (sg_cmp ht_X7_tape rfl).trans ?_
        refine ite_congr rfl (fun _ => ?_) (fun _ => ?_)
        · refine (sg_go ht_X7_tape (k := 1) (pc' := 44) (L' := [some (.ref 1), some (.int p1), some (.int p2), some (.int p3)]) (st' := [.int (-2)]) (h' := (HP I A L F E)) rfl).trans ?_
          exact sg_ret ht_X7_tape rfl rfl
        · refine (sg_go ht_X7_tape (k := 2) (pc' := 39) (L' := [some (.ref 1), some (.int p1), some (.int p2), some (.int p3)]) (st' := [.int 60, .int p3]) (h' := (HP I A L F E)) rfl).trans ?_
          refine (sg_cmp ht_X7_tape rfl).trans ?_
          refine ite_congr rfl (fun _ => ?_) (fun _ => ?_)
          · refine (sg_go ht_X7_tape (k := 1) (pc' := 46) (L' := [some (.ref 1), some (.int p1), some (.int p2), some (.int p3)]) (st' := [.int p3]) (h' := (HP I A L F E)) rfl).trans ?_
            refine (sg_if ht_X7_tape rfl).trans ?_
            refine ite_congr rfl (fun _ => ?_) (fun _ => ?_)
            · refine (sg_go ht_X7_tape (k := 3) (pc' := 57) (L' := [some (.ref 1), some (.int p1), some (.int p2), some (.int p3)]) (st' := [.int p1, .ref 47]) (h' := (HP I A L F E)) rfl).trans ?_
              refine (sg_ldR ht_X7_tape rfl hp_o_47).trans ?_
              refine bind_cg fun a1 ha1 => ?_
              have ha1 := in_47 ha1
              refine (sg_go ht_X7_tape (k := 2) (pc' := 60) (L' := [some (.ref 1), some (.int p1), some (.int p2), some (.int p3)]) (st' := [.int p3, .int p2, .ref a1]) (h' := (HP I A L F E)) rfl).trans ?_
              refine (sg_callV ht_X7_tape (mj := 44) (as := [.ref a1, .int p2, .int p3]) (rest := []) rfl rfl rfl (Nat.le_of_ble_eq_true rfl) (sT_obj ha1) ⟨by decide, Nat.le_of_ble_eq_true rfl⟩).trans ?_
              rfl
            · refine (sg_go ht_X7_tape (k := 1) (pc' := 51) (L' := [some (.ref 1), some (.int p1), some (.int p2), some (.int p3)]) (st' := [.int (-14)]) (h' := (HP I A L F E)) rfl).trans ?_
              exact sg_ret ht_X7_tape rfl rfl
          · refine (sg_go ht_X7_tape (k := 1) (pc' := 44) (L' := [some (.ref 1), some (.int p1), some (.int p2), some (.int p3)]) (st' := [.int (-2)]) (h' := (HP I A L F E)) rfl).trans ?_
            exact sg_ret ht_X7_tape rfl rfl
    · refine (sg_go ht_X7_tape (k := 3) (pc' := 19) (L' := [some (.ref 1), some (.int p1), some (.int p2), some (.int p3)]) (st' := [.int p1, .ref 47]) (h' := (HP I A L F E)) rfl).trans ?_
      refine (sg_ldR ht_X7_tape rfl hp_o_47).trans ?_
      refine bind_cg fun a2 ha2 => ?_
      have ha2 := in_47 ha2
      refine (sg_go ht_X7_tape (k := 2) (pc' := 22) (L' := [some (.ref 1), some (.int p1), some (.int p2), some (.int p3)]) (st' := [.int 0, .int (-1), .ref a2]) (h' := (HP I A L F E)) rfl).trans ?_
      refine (sg_callV ht_X7_tape (mj := 44) (as := [.ref a2, .int (-1), .int 0]) (rest := []) rfl rfl rfl (Nat.le_of_ble_eq_true rfl) (sT_obj ha2) ⟨by decide, Nat.le_of_ble_eq_true rfl⟩).trans ?_
      rfl
  · refine (sg_go ht_X7_tape (k := 1) (pc' := 8) (L' := [some (.ref 1), some (.int p1), some (.int p2), some (.int p3)]) (st' := [.int (-1)]) (h' := (HP I A L F E)) rfl).trans ?_
    exact sg_ret ht_X7_tape rfl rfl
set_option maxRecDepth 20000 in
theorem sg_X7_tape_63 {I : Nat → Int32} {A : Nat → List Int32} {L : Nat → List Int64} {F : Nat → Int64} {E : MH} (v1 : Int32) (v2 : Int32) (v3 : Int32) : mm_run G0 92 63 [some (.ref 1), some (.int v1), some (.int v2), some (.int v3)] [] (HP I A L F E) = some (some (.int 1), (HP I A L F E)) := by
  refine (sg_go ht_X7_tape (k := 1) (pc' := 64) (L' := [some (.ref 1), some (.int v1), some (.int v2), some (.int v3)]) (st' := [.int 1]) (h' := (HP I A L F E)) rfl).trans ?_
  exact sg_ret ht_X7_tape rfl rfl
set_option maxRecDepth 20000 in
theorem sg_X7_tape_25 {I : Nat → Int32} {A : Nat → List Int32} {L : Nat → List Int64} {F : Nat → Int64} {E : MH} (v1 : Int32) (v2 : Int32) (v3 : Int32) : mm_run G0 92 25 [some (.ref 1), some (.int v1), some (.int v2), some (.int v3)] [] (HP I A L F E) = some (some (.int 1), (HP I A L F E)) := by
  refine (sg_go ht_X7_tape (k := 1) (pc' := 26) (L' := [some (.ref 1), some (.int v1), some (.int v2), some (.int v3)]) (st' := [.int 1]) (h' := (HP I A L F E)) rfl).trans ?_
  exact sg_ret ht_X7_tape rfl rfl
set_option maxRecDepth 20000 in
theorem sg_X7_item_0 {I : Nat → Int32} {A : Nat → List Int32} {L : Nat → List Int64} {F : Nat → Int64} {E : MH} (p1 : Int32) (p2 : Int32) (p3 : Int64) : mm_call G0 93 [.ref 1, .int p1, .int p2, .long p3] (HP I A L F E) = (if ¬ p1 < 0 ∧ ¬ 6 ≤ p1 then ((ldR [some 72, some 74, some 76, some 78, some 80, some 82] p1).bind fun a1 => (if (I (100 * a1 + 0)) ≠ (-1) then (if ¬ p2 < 0 ∧ ¬ (I (100 * a1 + 1)) ≤ p2 then (if (I (100 * a1 + 0)) = 0 then ((stL (L (a1 + 1)) p2 ((p3).toInt32.toInt8.toInt32).toInt64).bind fun X2 => some (some (.int 1), (HP I A (fu L (a1 + 1) X2) F E))) else (if (I (100 * a1 + 0)) = 1 then ((stL (L (a1 + 1)) p2 ((p3).toInt32.toInt16.toInt32).toInt64).bind fun X3 => some (some (.int 1), (HP I A (fu L (a1 + 1) X3) F E))) else (if (I (100 * a1 + 0)) = 2 then ((stL (L (a1 + 1)) p2 ((p3).toInt32).toInt64).bind fun X4 => some (some (.int 1), (HP I A (fu L (a1 + 1) X4) F E))) else (if (I (100 * a1 + 0)) = 3 then ((stL (L (a1 + 1)) p2 p3).bind fun X5 => some (some (.int 1), (HP I A (fu L (a1 + 1) X5) F E))) else (if (I (100 * a1 + 0)) = 4 then (if (lg_cmp p3 (0)) = 0 then ((stL (L (a1 + 1)) p2 0).bind fun X6 => some (some (.int 1), (HP I A (fu L (a1 + 1) X6) F E))) else ((stL (L (a1 + 1)) p2 1).bind fun X7 => some (some (.int 1), (HP I A (fu L (a1 + 1) X7) F E)))) else ((stL (L (a1 + 1)) p2 p3).bind fun X8 => some (some (.int 1), (HP I A (fu L (a1 + 1) X8) F E)))))))) else some (some (.int (-13)), (HP I A L F E))) else some (some (.int (-11)), (HP I A L F E)))) else some (some (.int (-1)), (HP I A L F E))) := by
  show mm_run G0 93 0 [some (.ref 1), some (.int p1), some (.int p2), some (.long p3), none, none] [] (HP I A L F E) = _
  refine (sg_go ht_X7_item (k := 1) (pc' := 1) (L' := [some (.ref 1), some (.int p1), some (.int p2), some (.long p3), none, none]) (st' := [.int p1]) (h' := (HP I A L F E)) rfl).trans ?_
  refine (sg_call ht_X7_item (mj := 97) (as := [.int p1]) (rest := []) rfl rfl ⟨by decide, Nat.le_of_ble_eq_true rfl⟩).trans ?_
  refine (bind_eq (sp_X7_isTape p1)).trans ?_
  show mm_run G0 93 4 [some (.ref 1), some (.int p1), some (.int p2), some (.long p3), none, none] [.int (bi (decide (¬ p1 < 0 ∧ ¬ 6 ≤ p1)))] (HP I A L F E) = _
  refine (sg_bn ht_X7_item rfl).trans ?_
  refine ite_congr rfl (fun _ => ?_) (fun _ => ?_)
  · refine (sg_go ht_X7_item (k := 3) (pc' := 14) (L' := [some (.ref 1), some (.int p1), some (.int p2), some (.long p3), none, none]) (st' := [.int p1, .ref 47]) (h' := (HP I A L F E)) rfl).trans ?_
    refine (sg_ldR ht_X7_item rfl hp_o_47).trans ?_
    refine bind_cg fun a1 ha1 => ?_
    have ha1 := in_47 ha1
    refine (sg_go ht_X7_item (k := 2) (pc' := 19) (L' := [some (.ref 1), some (.int p1), some (.int p2), some (.long p3), none, some (.ref a1)]) (st' := [.ref a1]) (h' := (HP I A L F E)) rfl).trans ?_
    refine (sg_getI ht_X7_item rfl (sT_obj ha1) rfl).trans ?_
    refine (sg_go ht_X7_item (k := 1) (pc' := 23) (L' := [some (.ref 1), some (.int p1), some (.int p2), some (.long p3), none, some (.ref a1)]) (st' := [.int (-1), .int (I (100 * a1 + 0))]) (h' := (HP I A L F E)) rfl).trans ?_
    refine (sg_cmp ht_X7_item rfl).trans ?_
    refine ite_congr rfl (fun _ => ?_) (fun _ => ?_)
    · refine (sg_go ht_X7_item (k := 2) (pc' := 32) (L' := [some (.ref 1), some (.int p1), some (.int p2), some (.long p3), none, some (.ref a1)]) (st' := [.int p2, .ref a1]) (h' := (HP I A L F E)) rfl).trans ?_
      refine (sg_callV ht_X7_item (mj := 45) (as := [.ref a1, .int p2]) (rest := []) rfl rfl rfl (Nat.le_of_ble_eq_true rfl) (sT_obj ha1) ⟨by decide, Nat.le_of_ble_eq_true rfl⟩).trans ?_
      refine (bind_eq (sp_X5_has ha1 p2)).trans ?_
      show mm_run G0 93 35 [some (.ref 1), some (.int p1), some (.int p2), some (.long p3), none, some (.ref a1)] [.int (bi (decide (¬ p2 < 0 ∧ ¬ (I (100 * a1 + 1)) ≤ p2)))] (HP I A L F E) = _
      refine (sg_bn ht_X7_item rfl).trans ?_
      refine ite_congr rfl (fun _ => ?_) (fun _ => ?_)
      · refine (sg_go ht_X7_item (k := 1) (pc' := 43) (L' := [some (.ref 1), some (.int p1), some (.int p2), some (.long p3), none, some (.ref a1)]) (st' := [.ref a1]) (h' := (HP I A L F E)) rfl).trans ?_
        refine (sg_getR ht_X7_item rfl (sT_obj ha1) rfl).trans ?_
        refine (sg_go ht_X7_item (k := 3) (pc' := 50) (L' := [some (.ref 1), some (.int p1), some (.int p2), some (.long p3), none, some (.ref a1)]) (st' := [.long p3, .ref a1, .int p2, .ref (a1 + 1)]) (h' := (HP I A L F E)) rfl).trans ?_
        refine (sg_callV ht_X7_item (mj := 47) (as := [.ref a1, .long p3]) (rest := [.int p2, .ref (a1 + 1)]) rfl rfl rfl (Nat.le_of_ble_eq_true rfl) (sT_obj ha1) ⟨by decide, Nat.le_of_ble_eq_true rfl⟩).trans ?_
        refine (bind_eq (sg_X5_narrowed_0 ha1 p3)).trans ?_
        refine ite_bd.trans ?_
        refine ite_congr rfl (fun _ => ?_) (fun _ => ?_)
        · show mm_run G0 93 53 [some (.ref 1), some (.int p1), some (.int p2), some (.long p3), none, some (.ref a1)] [.long ((p3).toInt32.toInt8.toInt32).toInt64, .int p2, .ref (a1 + 1)] (HP I A L F E) = _
          refine (sg_stL (hh := fun X2 => (HP I A (fu L (a1 + 1) X2) F E)) ht_X7_item rfl (sT_ar1 ha1) (fun _ => sT_ast1 ha1)).trans ?_
          refine bind_cg fun X2 hX2 => ?_
          refine (sg_go ht_X7_item (k := 1) (pc' := 55) (L' := [some (.ref 1), some (.int p1), some (.int p2), some (.long p3), none, some (.ref a1)]) (st' := [.int 1]) (h' := (HP I A (fu L (a1 + 1) X2) F E)) rfl).trans ?_
          exact sg_ret ht_X7_item rfl rfl
        · refine ite_bd.trans ?_
          refine ite_congr rfl (fun _ => ?_) (fun _ => ?_)
          · show mm_run G0 93 53 [some (.ref 1), some (.int p1), some (.int p2), some (.long p3), none, some (.ref a1)] [.long ((p3).toInt32.toInt16.toInt32).toInt64, .int p2, .ref (a1 + 1)] (HP I A L F E) = _
            refine (sg_stL (hh := fun X3 => (HP I A (fu L (a1 + 1) X3) F E)) ht_X7_item rfl (sT_ar1 ha1) (fun _ => sT_ast1 ha1)).trans ?_
            refine bind_cg fun X3 hX3 => ?_
            refine (sg_go ht_X7_item (k := 1) (pc' := 55) (L' := [some (.ref 1), some (.int p1), some (.int p2), some (.long p3), none, some (.ref a1)]) (st' := [.int 1]) (h' := (HP I A (fu L (a1 + 1) X3) F E)) rfl).trans ?_
            exact sg_ret ht_X7_item rfl rfl
          · refine ite_bd.trans ?_
            refine ite_congr rfl (fun _ => ?_) (fun _ => ?_)
            · show mm_run G0 93 53 [some (.ref 1), some (.int p1), some (.int p2), some (.long p3), none, some (.ref a1)] [.long ((p3).toInt32).toInt64, .int p2, .ref (a1 + 1)] (HP I A L F E) = _
              refine (sg_stL (hh := fun X4 => (HP I A (fu L (a1 + 1) X4) F E)) ht_X7_item rfl (sT_ar1 ha1) (fun _ => sT_ast1 ha1)).trans ?_
              refine bind_cg fun X4 hX4 => ?_
              refine (sg_go ht_X7_item (k := 1) (pc' := 55) (L' := [some (.ref 1), some (.int p1), some (.int p2), some (.long p3), none, some (.ref a1)]) (st' := [.int 1]) (h' := (HP I A (fu L (a1 + 1) X4) F E)) rfl).trans ?_
              exact sg_ret ht_X7_item rfl rfl
            · refine ite_bd.trans ?_
              refine ite_congr rfl (fun _ => ?_) (fun _ => ?_)
              · show mm_run G0 93 53 [some (.ref 1), some (.int p1), some (.int p2), some (.long p3), none, some (.ref a1)] [.long p3, .int p2, .ref (a1 + 1)] (HP I A L F E) = _
                refine (sg_stL (hh := fun X5 => (HP I A (fu L (a1 + 1) X5) F E)) ht_X7_item rfl (sT_ar1 ha1) (fun _ => sT_ast1 ha1)).trans ?_
                refine bind_cg fun X5 hX5 => ?_
                refine (sg_go ht_X7_item (k := 1) (pc' := 55) (L' := [some (.ref 1), some (.int p1), some (.int p2), some (.long p3), none, some (.ref a1)]) (st' := [.int 1]) (h' := (HP I A (fu L (a1 + 1) X5) F E)) rfl).trans ?_
                exact sg_ret ht_X7_item rfl rfl
              · refine ite_bd.trans ?_
                refine ite_congr rfl (fun _ => ?_) (fun _ => ?_)
                · refine ite_bd.trans ?_
                  refine ite_congr rfl (fun _ => ?_) (fun _ => ?_)
                  · show mm_run G0 93 53 [some (.ref 1), some (.int p1), some (.int p2), some (.long p3), none, some (.ref a1)] [.long 0, .int p2, .ref (a1 + 1)] (HP I A L F E) = _
                    refine (sg_stL (hh := fun X6 => (HP I A (fu L (a1 + 1) X6) F E)) ht_X7_item rfl (sT_ar1 ha1) (fun _ => sT_ast1 ha1)).trans ?_
                    refine bind_cg fun X6 hX6 => ?_
                    refine (sg_go ht_X7_item (k := 1) (pc' := 55) (L' := [some (.ref 1), some (.int p1), some (.int p2), some (.long p3), none, some (.ref a1)]) (st' := [.int 1]) (h' := (HP I A (fu L (a1 + 1) X6) F E)) rfl).trans ?_
                    exact sg_ret ht_X7_item rfl rfl
                  · show mm_run G0 93 53 [some (.ref 1), some (.int p1), some (.int p2), some (.long p3), none, some (.ref a1)] [.long 1, .int p2, .ref (a1 + 1)] (HP I A L F E) = _
                    refine (sg_stL (hh := fun X7 => (HP I A (fu L (a1 + 1) X7) F E)) ht_X7_item rfl (sT_ar1 ha1) (fun _ => sT_ast1 ha1)).trans ?_
                    refine bind_cg fun X7 hX7 => ?_
                    refine (sg_go ht_X7_item (k := 1) (pc' := 55) (L' := [some (.ref 1), some (.int p1), some (.int p2), some (.long p3), none, some (.ref a1)]) (st' := [.int 1]) (h' := (HP I A (fu L (a1 + 1) X7) F E)) rfl).trans ?_
                    exact sg_ret ht_X7_item rfl rfl
                · show mm_run G0 93 53 [some (.ref 1), some (.int p1), some (.int p2), some (.long p3), none, some (.ref a1)] [.long p3, .int p2, .ref (a1 + 1)] (HP I A L F E) = _
                  refine (sg_stL (hh := fun X8 => (HP I A (fu L (a1 + 1) X8) F E)) ht_X7_item rfl (sT_ar1 ha1) (fun _ => sT_ast1 ha1)).trans ?_
                  refine bind_cg fun X8 hX8 => ?_
                  refine (sg_go ht_X7_item (k := 1) (pc' := 55) (L' := [some (.ref 1), some (.int p1), some (.int p2), some (.long p3), none, some (.ref a1)]) (st' := [.int 1]) (h' := (HP I A (fu L (a1 + 1) X8) F E)) rfl).trans ?_
                  exact sg_ret ht_X7_item rfl rfl
      · refine (sg_go ht_X7_item (k := 1) (pc' := 40) (L' := [some (.ref 1), some (.int p1), some (.int p2), some (.long p3), none, some (.ref a1)]) (st' := [.int (-13)]) (h' := (HP I A L F E)) rfl).trans ?_
        exact sg_ret ht_X7_item rfl rfl
    · refine (sg_go ht_X7_item (k := 1) (pc' := 28) (L' := [some (.ref 1), some (.int p1), some (.int p2), some (.long p3), none, some (.ref a1)]) (st' := [.int (-11)]) (h' := (HP I A L F E)) rfl).trans ?_
      exact sg_ret ht_X7_item rfl rfl
  · refine (sg_go ht_X7_item (k := 1) (pc' := 8) (L' := [some (.ref 1), some (.int p1), some (.int p2), some (.long p3), none, none]) (st' := [.int (-1)]) (h' := (HP I A L F E)) rfl).trans ?_
    exact sg_ret ht_X7_item rfl rfl
set_option maxRecDepth 20000 in
theorem sg_X7_peek_0 {I : Nat → Int32} {A : Nat → List Int32} {L : Nat → List Int64} {F : Nat → Int64} {E : MH} (p1 : Int32) (p2 : Int32) : mm_call G0 94 [.ref 1, .int p1, .int p2] (HP I A L F E) = (if ¬ p1 < 0 ∧ ¬ 6 ≤ p1 then ((ldR [some 72, some 74, some 76, some 78, some 80, some 82] p1).bind fun a1 => (if ¬ p2 < 0 ∧ ¬ (I (100 * a1 + 1)) ≤ p2 then ((ldR [some 72, some 74, some 76, some 78, some 80, some 82] p1).bind fun a2 => ((ldL (L (a2 + 1)) p2).bind fun x3 => some (some (.long x3), (HP I A L F E)))) else some (some (.long (-9223372036854775808)), (HP I A L F E)))) else some (some (.long (-9223372036854775808)), (HP I A L F E))) := by
  show mm_run G0 94 0 [some (.ref 1), some (.int p1), some (.int p2)] [] (HP I A L F E) = _
  refine (sg_go ht_X7_peek (k := 1) (pc' := 1) (L' := [some (.ref 1), some (.int p1), some (.int p2)]) (st' := [.int p1]) (h' := (HP I A L F E)) rfl).trans ?_
  refine (sg_call ht_X7_peek (mj := 97) (as := [.int p1]) (rest := []) rfl rfl ⟨by decide, Nat.le_of_ble_eq_true rfl⟩).trans ?_
  refine (bind_eq (sp_X7_isTape p1)).trans ?_
  show mm_run G0 94 4 [some (.ref 1), some (.int p1), some (.int p2)] [.int (bi (decide (¬ p1 < 0 ∧ ¬ 6 ≤ p1)))] (HP I A L F E) = _
  refine (sg_be ht_X7_peek rfl).trans ?_
  refine ite_congr rfl (fun _ => ?_) (fun _ => ?_)
  · refine (sg_go ht_X7_peek (k := 3) (pc' := 12) (L' := [some (.ref 1), some (.int p1), some (.int p2)]) (st' := [.int p1, .ref 47]) (h' := (HP I A L F E)) rfl).trans ?_
    refine (sg_ldR ht_X7_peek rfl hp_o_47).trans ?_
    refine bind_cg fun a1 ha1 => ?_
    have ha1 := in_47 ha1
    refine (sg_go ht_X7_peek (k := 1) (pc' := 14) (L' := [some (.ref 1), some (.int p1), some (.int p2)]) (st' := [.int p2, .ref a1]) (h' := (HP I A L F E)) rfl).trans ?_
    refine (sg_callV ht_X7_peek (mj := 45) (as := [.ref a1, .int p2]) (rest := []) rfl rfl rfl (Nat.le_of_ble_eq_true rfl) (sT_obj ha1) ⟨by decide, Nat.le_of_ble_eq_true rfl⟩).trans ?_
    refine (bind_eq (sp_X5_has ha1 p2)).trans ?_
    show mm_run G0 94 17 [some (.ref 1), some (.int p1), some (.int p2)] [.int (bi (decide (¬ p2 < 0 ∧ ¬ (I (100 * a1 + 1)) ≤ p2)))] (HP I A L F E) = _
    refine (sg_bn ht_X7_peek rfl).trans ?_
    refine ite_congr rfl (fun _ => ?_) (fun _ => ?_)
    · refine (sg_go ht_X7_peek (k := 3) (pc' := 29) (L' := [some (.ref 1), some (.int p1), some (.int p2)]) (st' := [.int p1, .ref 47]) (h' := (HP I A L F E)) rfl).trans ?_
      refine (sg_ldR ht_X7_peek rfl hp_o_47).trans ?_
      refine bind_cg fun a2 ha2 => ?_
      have ha2 := in_47 ha2
      refine (sg_getR ht_X7_peek rfl (sT_obj ha2) rfl).trans ?_
      refine (sg_go ht_X7_peek (k := 1) (pc' := 34) (L' := [some (.ref 1), some (.int p1), some (.int p2)]) (st' := [.int p2, .ref (a2 + 1)]) (h' := (HP I A L F E)) rfl).trans ?_
      refine (sg_ldL ht_X7_peek rfl (sT_ar1 ha2)).trans ?_
      refine bind_cg fun x3 hx3 => ?_
      exact sg_ret ht_X7_peek rfl rfl
    · refine (sg_go ht_X7_peek (k := 1) (pc' := 23) (L' := [some (.ref 1), some (.int p1), some (.int p2)]) (st' := [.long (-9223372036854775808)]) (h' := (HP I A L F E)) rfl).trans ?_
      exact sg_ret ht_X7_peek rfl rfl
  · refine (sg_go ht_X7_peek (k := 1) (pc' := 23) (L' := [some (.ref 1), some (.int p1), some (.int p2)]) (st' := [.long (-9223372036854775808)]) (h' := (HP I A L F E)) rfl).trans ?_
    exact sg_ret ht_X7_peek rfl rfl
set_option maxRecDepth 20000 in
theorem sg_X7_shift_0 {I : Nat → Int32} {A : Nat → List Int32} {L : Nat → List Int64} {F : Nat → Int64} {E : MH} (p1 : Int32) (p2 : Int32) (p3 : Int32) (p4 : Int32) (p5 : Int32) : mm_call G0 95 [.ref 1, .int p1, .int p2, .int p3, .int p4, .int p5] (HP I A L F E) = (if ¬ p1 < 0 ∧ ¬ 6 ≤ p1 then (if ¬ p3 < 0 ∧ ¬ 6 ≤ p3 then ((ldR [some 72, some 74, some 76, some 78, some 80, some 82] p1).bind fun a1 => ((ldR [some 72, some 74, some 76, some 78, some 80, some 82] p3).bind fun a2 => (if (I (100 * a1 + 0)) = (-1) then some (some (.int (-11)), (HP I A L F E)) else (if (I (100 * a2 + 0)) ≠ (-1) then (if (I (100 * a1 + 0)) = (I (100 * a2 + 0)) then (if p2 < 0 then some (some (.int (-13)), (HP I A L F E)) else (if p5 < 0 then some (some (.int (-13)), (HP I A L F E)) else (if (I (100 * a1 + 1)) < p5 then some (some (.int (-13)), (HP I A L F E)) else (if ((I (100 * a1 + 1)) - p5) < p2 then some (some (.int (-13)), (HP I A L F E)) else (if p4 < 0 then some (some (.int (-13)), (HP I A L F E)) else (if p5 < 0 then some (some (.int (-13)), (HP I A L F E)) else (if (I (100 * a2 + 1)) < p5 then some (some (.int (-13)), (HP I A L F E)) else (if ((I (100 * a2 + 1)) - p5) < p4 then some (some (.int (-13)), (HP I A L F E)) else ((cpL (L (a1 + 1)) (L (a2 + 1)) p2 p4 p5).bind fun X3 => some (some (.int p5), (HP I A (fu L (a2 + 1) X3) F E))))))))))) else some (some (.int (-12)), (HP I A L F E))) else some (some (.int (-11)), (HP I A L F E)))))) else some (some (.int (-1)), (HP I A L F E))) else some (some (.int (-1)), (HP I A L F E))) := by
  show mm_run G0 95 0 [some (.ref 1), some (.int p1), some (.int p2), some (.int p3), some (.int p4), some (.int p5), none, none] [] (HP I A L F E) = _
  refine (sg_go ht_X7_shift (k := 1) (pc' := 1) (L' := [some (.ref 1), some (.int p1), some (.int p2), some (.int p3), some (.int p4), some (.int p5), none, none]) (st' := [.int p1]) (h' := (HP I A L F E)) rfl).trans ?_
  refine (sg_call ht_X7_shift (mj := 97) (as := [.int p1]) (rest := []) rfl rfl ⟨by decide, Nat.le_of_ble_eq_true rfl⟩).trans ?_
  refine (bind_eq (sp_X7_isTape p1)).trans ?_
  show mm_run G0 95 4 [some (.ref 1), some (.int p1), some (.int p2), some (.int p3), some (.int p4), some (.int p5), none, none] [.int (bi (decide (¬ p1 < 0 ∧ ¬ 6 ≤ p1)))] (HP I A L F E) = _
  refine (sg_be ht_X7_shift rfl).trans ?_
  refine ite_congr rfl (fun _ => ?_) (fun _ => ?_)
  · refine (sg_go ht_X7_shift (k := 1) (pc' := 8) (L' := [some (.ref 1), some (.int p1), some (.int p2), some (.int p3), some (.int p4), some (.int p5), none, none]) (st' := [.int p3]) (h' := (HP I A L F E)) rfl).trans ?_
    refine (sg_call ht_X7_shift (mj := 97) (as := [.int p3]) (rest := []) rfl rfl ⟨by decide, Nat.le_of_ble_eq_true rfl⟩).trans ?_
    refine (bind_eq (sp_X7_isTape p3)).trans ?_
    show mm_run G0 95 11 [some (.ref 1), some (.int p1), some (.int p2), some (.int p3), some (.int p4), some (.int p5), none, none] [.int (bi (decide (¬ p3 < 0 ∧ ¬ 6 ≤ p3)))] (HP I A L F E) = _
    refine (sg_bn ht_X7_shift rfl).trans ?_
    refine ite_congr rfl (fun _ => ?_) (fun _ => ?_)
    · refine (sg_go ht_X7_shift (k := 3) (pc' := 21) (L' := [some (.ref 1), some (.int p1), some (.int p2), some (.int p3), some (.int p4), some (.int p5), none, none]) (st' := [.int p1, .ref 47]) (h' := (HP I A L F E)) rfl).trans ?_
      refine (sg_ldR ht_X7_shift rfl hp_o_47).trans ?_
      refine bind_cg fun a1 ha1 => ?_
      have ha1 := in_47 ha1
      refine (sg_go ht_X7_shift (k := 4) (pc' := 29) (L' := [some (.ref 1), some (.int p1), some (.int p2), some (.int p3), some (.int p4), some (.int p5), some (.ref a1), none]) (st' := [.int p3, .ref 47]) (h' := (HP I A L F E)) rfl).trans ?_
      refine (sg_ldR ht_X7_shift rfl hp_o_47).trans ?_
      refine bind_cg fun a2 ha2 => ?_
      have ha2 := in_47 ha2
      refine (sg_go ht_X7_shift (k := 2) (pc' := 34) (L' := [some (.ref 1), some (.int p1), some (.int p2), some (.int p3), some (.int p4), some (.int p5), some (.ref a1), some (.ref a2)]) (st' := [.ref a1]) (h' := (HP I A L F E)) rfl).trans ?_
      refine (sg_getI ht_X7_shift rfl (sT_obj ha1) rfl).trans ?_
      refine (sg_go ht_X7_shift (k := 1) (pc' := 38) (L' := [some (.ref 1), some (.int p1), some (.int p2), some (.int p3), some (.int p4), some (.int p5), some (.ref a1), some (.ref a2)]) (st' := [.int (-1), .int (I (100 * a1 + 0))]) (h' := (HP I A L F E)) rfl).trans ?_
      refine (sg_cmp ht_X7_shift rfl).trans ?_
      refine ite_congr rfl (fun _ => ?_) (fun _ => ?_)
      · refine (sg_go ht_X7_shift (k := 1) (pc' := 52) (L' := [some (.ref 1), some (.int p1), some (.int p2), some (.int p3), some (.int p4), some (.int p5), some (.ref a1), some (.ref a2)]) (st' := [.int (-11)]) (h' := (HP I A L F E)) rfl).trans ?_
        exact sg_ret ht_X7_shift rfl rfl
      · refine (sg_go ht_X7_shift (k := 1) (pc' := 43) (L' := [some (.ref 1), some (.int p1), some (.int p2), some (.int p3), some (.int p4), some (.int p5), some (.ref a1), some (.ref a2)]) (st' := [.ref a2]) (h' := (HP I A L F E)) rfl).trans ?_
        refine (sg_getI ht_X7_shift rfl (sT_obj ha2) rfl).trans ?_
        refine (sg_go ht_X7_shift (k := 1) (pc' := 47) (L' := [some (.ref 1), some (.int p1), some (.int p2), some (.int p3), some (.int p4), some (.int p5), some (.ref a1), some (.ref a2)]) (st' := [.int (-1), .int (I (100 * a2 + 0))]) (h' := (HP I A L F E)) rfl).trans ?_
        refine (sg_cmp ht_X7_shift rfl).trans ?_
        refine ite_congr rfl (fun _ => ?_) (fun _ => ?_)
        · refine (sg_go ht_X7_shift (k := 1) (pc' := 55) (L' := [some (.ref 1), some (.int p1), some (.int p2), some (.int p3), some (.int p4), some (.int p5), some (.ref a1), some (.ref a2)]) (st' := [.ref a1]) (h' := (HP I A L F E)) rfl).trans ?_
          refine (sg_getI ht_X7_shift rfl (sT_obj ha1) rfl).trans ?_
          refine (sg_go ht_X7_shift (k := 1) (pc' := 60) (L' := [some (.ref 1), some (.int p1), some (.int p2), some (.int p3), some (.int p4), some (.int p5), some (.ref a1), some (.ref a2)]) (st' := [.ref a2, .int (I (100 * a1 + 0))]) (h' := (HP I A L F E)) rfl).trans ?_
          refine (sg_getI ht_X7_shift rfl (sT_obj ha2) rfl).trans ?_
          refine (sg_cmp ht_X7_shift rfl).trans ?_
          refine ite_congr rfl (fun _ => ?_) (fun _ => ?_)
          · refine (sg_go ht_X7_shift (k := 3) (pc' := 74) (L' := [some (.ref 1), some (.int p1), some (.int p2), some (.int p3), some (.int p4), some (.int p5), some (.ref a1), some (.ref a2)]) (st' := [.int p5, .int p2, .ref a1]) (h' := (HP I A L F E)) rfl).trans ?_
            refine (sg_callV ht_X7_shift (mj := 46) (as := [.ref a1, .int p2, .int p5]) (rest := []) rfl rfl rfl (Nat.le_of_ble_eq_true rfl) (sT_obj ha1) ⟨by decide, Nat.le_of_ble_eq_true rfl⟩).trans ?_
            refine (bind_eq (sg_X5_holds_0 ha1 p2 p5)).trans ?_
            refine ite_bd.trans ?_
            refine ite_congr rfl (fun _ => ?_) (fun _ => ?_)
            · show mm_run G0 95 77 [some (.ref 1), some (.int p1), some (.int p2), some (.int p3), some (.int p4), some (.int p5), some (.ref a1), some (.ref a2)] [.int 0] (HP I A L F E) = _
              refine (sg_go ht_X7_shift (k := 2) (pc' := 94) (L' := [some (.ref 1), some (.int p1), some (.int p2), some (.int p3), some (.int p4), some (.int p5), some (.ref a1), some (.ref a2)]) (st' := [.int (-13)]) (h' := (HP I A L F E)) rfl).trans ?_
              exact sg_ret ht_X7_shift rfl rfl
            · refine ite_bd.trans ?_
              refine ite_congr rfl (fun _ => ?_) (fun _ => ?_)
              · show mm_run G0 95 77 [some (.ref 1), some (.int p1), some (.int p2), some (.int p3), some (.int p4), some (.int p5), some (.ref a1), some (.ref a2)] [.int 0] (HP I A L F E) = _
                refine (sg_go ht_X7_shift (k := 2) (pc' := 94) (L' := [some (.ref 1), some (.int p1), some (.int p2), some (.int p3), some (.int p4), some (.int p5), some (.ref a1), some (.ref a2)]) (st' := [.int (-13)]) (h' := (HP I A L F E)) rfl).trans ?_
                exact sg_ret ht_X7_shift rfl rfl
              · refine ite_bd.trans ?_
                refine ite_congr rfl (fun _ => ?_) (fun _ => ?_)
                · show mm_run G0 95 77 [some (.ref 1), some (.int p1), some (.int p2), some (.int p3), some (.int p4), some (.int p5), some (.ref a1), some (.ref a2)] [.int 0] (HP I A L F E) = _
                  refine (sg_go ht_X7_shift (k := 2) (pc' := 94) (L' := [some (.ref 1), some (.int p1), some (.int p2), some (.int p3), some (.int p4), some (.int p5), some (.ref a1), some (.ref a2)]) (st' := [.int (-13)]) (h' := (HP I A L F E)) rfl).trans ?_
                  exact sg_ret ht_X7_shift rfl rfl
                · refine ite_bd.trans ?_
                  refine ite_congr rfl (fun _ => ?_) (fun _ => ?_)
                  · show mm_run G0 95 77 [some (.ref 1), some (.int p1), some (.int p2), some (.int p3), some (.int p4), some (.int p5), some (.ref a1), some (.ref a2)] [.int 0] (HP I A L F E) = _
                    refine (sg_go ht_X7_shift (k := 2) (pc' := 94) (L' := [some (.ref 1), some (.int p1), some (.int p2), some (.int p3), some (.int p4), some (.int p5), some (.ref a1), some (.ref a2)]) (st' := [.int (-13)]) (h' := (HP I A L F E)) rfl).trans ?_
                    exact sg_ret ht_X7_shift rfl rfl
                  · show mm_run G0 95 77 [some (.ref 1), some (.int p1), some (.int p2), some (.int p3), some (.int p4), some (.int p5), some (.ref a1), some (.ref a2)] [.int 1] (HP I A L F E) = _
                    refine (sg_go ht_X7_shift (k := 4) (pc' := 86) (L' := [some (.ref 1), some (.int p1), some (.int p2), some (.int p3), some (.int p4), some (.int p5), some (.ref a1), some (.ref a2)]) (st' := [.int p5, .int p4, .ref a2]) (h' := (HP I A L F E)) rfl).trans ?_
                    refine (sg_callV ht_X7_shift (mj := 46) (as := [.ref a2, .int p4, .int p5]) (rest := []) rfl rfl rfl (Nat.le_of_ble_eq_true rfl) (sT_obj ha2) ⟨by decide, Nat.le_of_ble_eq_true rfl⟩).trans ?_
                    refine (bind_eq (sg_X5_holds_0 ha2 p4 p5)).trans ?_
                    refine ite_bd.trans ?_
                    refine ite_congr rfl (fun _ => ?_) (fun _ => ?_)
                    · show mm_run G0 95 89 [some (.ref 1), some (.int p1), some (.int p2), some (.int p3), some (.int p4), some (.int p5), some (.ref a1), some (.ref a2)] [.int 0] (HP I A L F E) = _
                      refine (sg_go ht_X7_shift (k := 2) (pc' := 94) (L' := [some (.ref 1), some (.int p1), some (.int p2), some (.int p3), some (.int p4), some (.int p5), some (.ref a1), some (.ref a2)]) (st' := [.int (-13)]) (h' := (HP I A L F E)) rfl).trans ?_
                      exact sg_ret ht_X7_shift rfl rfl
                    · refine ite_bd.trans ?_
                      refine ite_congr rfl (fun _ => ?_) (fun _ => ?_)
                      · show mm_run G0 95 89 [some (.ref 1), some (.int p1), some (.int p2), some (.int p3), some (.int p4), some (.int p5), some (.ref a1), some (.ref a2)] [.int 0] (HP I A L F E) = _
                        refine (sg_go ht_X7_shift (k := 2) (pc' := 94) (L' := [some (.ref 1), some (.int p1), some (.int p2), some (.int p3), some (.int p4), some (.int p5), some (.ref a1), some (.ref a2)]) (st' := [.int (-13)]) (h' := (HP I A L F E)) rfl).trans ?_
                        exact sg_ret ht_X7_shift rfl rfl
                      · refine ite_bd.trans ?_
                        refine ite_congr rfl (fun _ => ?_) (fun _ => ?_)
                        · show mm_run G0 95 89 [some (.ref 1), some (.int p1), some (.int p2), some (.int p3), some (.int p4), some (.int p5), some (.ref a1), some (.ref a2)] [.int 0] (HP I A L F E) = _
                          refine (sg_go ht_X7_shift (k := 2) (pc' := 94) (L' := [some (.ref 1), some (.int p1), some (.int p2), some (.int p3), some (.int p4), some (.int p5), some (.ref a1), some (.ref a2)]) (st' := [.int (-13)]) (h' := (HP I A L F E)) rfl).trans ?_
                          exact sg_ret ht_X7_shift rfl rfl
                        · refine ite_bd.trans ?_
                          refine ite_congr rfl (fun _ => ?_) (fun _ => ?_)
                          · show mm_run G0 95 89 [some (.ref 1), some (.int p1), some (.int p2), some (.int p3), some (.int p4), some (.int p5), some (.ref a1), some (.ref a2)] [.int 0] (HP I A L F E) = _
                            refine (sg_go ht_X7_shift (k := 2) (pc' := 94) (L' := [some (.ref 1), some (.int p1), some (.int p2), some (.int p3), some (.int p4), some (.int p5), some (.ref a1), some (.ref a2)]) (st' := [.int (-13)]) (h' := (HP I A L F E)) rfl).trans ?_
                            exact sg_ret ht_X7_shift rfl rfl
                          · show mm_run G0 95 89 [some (.ref 1), some (.int p1), some (.int p2), some (.int p3), some (.int p4), some (.int p5), some (.ref a1), some (.ref a2)] [.int 1] (HP I A L F E) = _
                            refine (sg_go ht_X7_shift (k := 2) (pc' := 97) (L' := [some (.ref 1), some (.int p1), some (.int p2), some (.int p3), some (.int p4), some (.int p5), some (.ref a1), some (.ref a2)]) (st' := [.ref a1]) (h' := (HP I A L F E)) rfl).trans ?_
                            refine (sg_getR ht_X7_shift rfl (sT_obj ha1) rfl).trans ?_
                            refine (sg_go ht_X7_shift (k := 2) (pc' := 103) (L' := [some (.ref 1), some (.int p1), some (.int p2), some (.int p3), some (.int p4), some (.int p5), some (.ref a1), some (.ref a2)]) (st' := [.ref a2, .int p2, .ref (a1 + 1)]) (h' := (HP I A L F E)) rfl).trans ?_
                            refine (sg_getR ht_X7_shift rfl (sT_obj ha2) rfl).trans ?_
                            refine (sg_go ht_X7_shift (k := 2) (pc' := 110) (L' := [some (.ref 1), some (.int p1), some (.int p2), some (.int p3), some (.int p4), some (.int p5), some (.ref a1), some (.ref a2)]) (st' := [.int p5, .int p4, .ref (a2 + 1), .int p2, .ref (a1 + 1)]) (h' := (HP I A L F E)) rfl).trans ?_
                            refine (sg_cpL (hh := fun X3 => (HP I A (fu L (a2 + 1) X3) F E)) ht_X7_shift (Nat.le_of_ble_eq_true rfl) rfl (sT_ar1 ha1) (sT_ar1 ha2) (fun _ => sT_ast1 ha2)).trans ?_
                            refine bind_cg fun X3 hX3 => ?_
                            refine (sg_go ht_X7_shift (k := 1) (pc' := 115) (L' := [some (.ref 1), some (.int p1), some (.int p2), some (.int p3), some (.int p4), some (.int p5), some (.ref a1), some (.ref a2)]) (st' := [.int p5]) (h' := (HP I A (fu L (a2 + 1) X3) F E)) rfl).trans ?_
                            exact sg_ret ht_X7_shift rfl rfl
          · refine (sg_go ht_X7_shift (k := 1) (pc' := 68) (L' := [some (.ref 1), some (.int p1), some (.int p2), some (.int p3), some (.int p4), some (.int p5), some (.ref a1), some (.ref a2)]) (st' := [.int (-12)]) (h' := (HP I A L F E)) rfl).trans ?_
            exact sg_ret ht_X7_shift rfl rfl
        · refine (sg_go ht_X7_shift (k := 1) (pc' := 52) (L' := [some (.ref 1), some (.int p1), some (.int p2), some (.int p3), some (.int p4), some (.int p5), some (.ref a1), some (.ref a2)]) (st' := [.int (-11)]) (h' := (HP I A L F E)) rfl).trans ?_
          exact sg_ret ht_X7_shift rfl rfl
    · refine (sg_go ht_X7_shift (k := 1) (pc' := 15) (L' := [some (.ref 1), some (.int p1), some (.int p2), some (.int p3), some (.int p4), some (.int p5), none, none]) (st' := [.int (-1)]) (h' := (HP I A L F E)) rfl).trans ?_
      exact sg_ret ht_X7_shift rfl rfl
  · refine (sg_go ht_X7_shift (k := 1) (pc' := 15) (L' := [some (.ref 1), some (.int p1), some (.int p2), some (.int p3), some (.int p4), some (.int p5), none, none]) (st' := [.int (-1)]) (h' := (HP I A L F E)) rfl).trans ?_
    exact sg_ret ht_X7_shift rfl rfl
