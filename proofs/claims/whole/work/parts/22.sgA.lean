set_option maxRecDepth 20000 in
theorem sg_X4_isFull_0 {I : Nat → Int32} {A : Nat → List Int32} {L : Nat → List Int64} {F : Nat → Int64} {E : MH} {b0 : Nat} (hb0 : isS b0) : mm_call G0 29 [.ref b0] (HP I A L F E) = (if (I (100 * b0 + 4)) < 40 then some (some (.int 0), (HP I A L F E)) else some (some (.int 1), (HP I A L F E))) := by
  show mm_run G0 29 0 [some (.ref b0)] [] (HP I A L F E) = _
  refine (sg_go ht_X4_isFull (k := 1) (pc' := 1) (L' := [some (.ref b0)]) (st' := [.ref b0]) (h' := (HP I A L F E)) rfl).trans ?_
  refine (sg_getI ht_X4_isFull rfl (sS_obj hb0) rfl).trans ?_
  refine (sg_go ht_X4_isFull (k := 1) (pc' := 6) (L' := [some (.ref b0)]) (st' := [.int 40, .int (I (100 * b0 + 4))]) (h' := (HP I A L F E)) rfl).trans ?_
  refine (sg_cmp ht_X4_isFull rfl).trans ?_
  refine ite_congr rfl (fun _ => ?_) (fun _ => ?_)
  · refine (sg_go ht_X4_isFull (k := 1) (pc' := 14) (L' := [some (.ref b0)]) (st' := [.int 0]) (h' := (HP I A L F E)) rfl).trans ?_
    exact sg_ret ht_X4_isFull rfl rfl
  · refine (sg_go ht_X4_isFull (k := 2) (pc' := 14) (L' := [some (.ref b0)]) (st' := [.int 1]) (h' := (HP I A L F E)) rfl).trans ?_
    exact sg_ret ht_X4_isFull rfl rfl
set_option maxRecDepth 20000 in
theorem sg_X4_has_0 {I : Nat → Int32} {A : Nat → List Int32} {L : Nat → List Int64} {F : Nat → Int64} {E : MH} {b0 : Nat} (hb0 : isS b0) (p1 : Int32) : mm_call G0 30 [.ref b0, .int p1] (HP I A L F E) = (if p1 < 0 then some (some (.int 0), (HP I A L F E)) else (if (I (100 * b0 + 4)) ≤ p1 then some (some (.int 0), (HP I A L F E)) else some (some (.int 1), (HP I A L F E)))) := by
  show mm_run G0 30 0 [some (.ref b0), some (.int p1)] [] (HP I A L F E) = _
  refine (sg_go ht_X4_has (k := 1) (pc' := 1) (L' := [some (.ref b0), some (.int p1)]) (st' := [.int p1]) (h' := (HP I A L F E)) rfl).trans ?_
  refine (sg_if ht_X4_has rfl).trans ?_
  refine ite_congr rfl (fun _ => ?_) (fun _ => ?_)
  · refine (sg_go ht_X4_has (k := 1) (pc' := 17) (L' := [some (.ref b0), some (.int p1)]) (st' := [.int 0]) (h' := (HP I A L F E)) rfl).trans ?_
    exact sg_ret ht_X4_has rfl rfl
  · refine (sg_go ht_X4_has (k := 2) (pc' := 6) (L' := [some (.ref b0), some (.int p1)]) (st' := [.ref b0, .int p1]) (h' := (HP I A L F E)) rfl).trans ?_
    refine (sg_getI ht_X4_has rfl (sS_obj hb0) rfl).trans ?_
    refine (sg_cmp ht_X4_has rfl).trans ?_
    refine ite_congr rfl (fun _ => ?_) (fun _ => ?_)
    · refine (sg_go ht_X4_has (k := 1) (pc' := 17) (L' := [some (.ref b0), some (.int p1)]) (st' := [.int 0]) (h' := (HP I A L F E)) rfl).trans ?_
      exact sg_ret ht_X4_has rfl rfl
    · refine (sg_go ht_X4_has (k := 2) (pc' := 17) (L' := [some (.ref b0), some (.int p1)]) (st' := [.int 1]) (h' := (HP I A L F E)) rfl).trans ?_
      exact sg_ret ht_X4_has rfl rfl
set_option maxRecDepth 20000 in
theorem sg_X4_add_0 {I : Nat → Int32} {A : Nat → List Int32} {L : Nat → List Int64} {F : Nat → Int64} {E : MH} {b0 : Nat} (hb0 : isS b0) (p1 : Int32) : mm_call G0 31 [.ref b0, .int p1] (HP I A L F E) = (if (I (100 * b0 + 4)) < 40 then ((stI (A (b0 + 1)) (I (100 * b0 + 4)) p1).bind fun X1 => some (none, (HP (fu I (100 * b0 + 4) ((I (100 * b0 + 4)) + 1)) (fu A (b0 + 1) X1) L F E))) else some (none, (HP I A L F E))) := by
  show mm_run G0 31 0 [some (.ref b0), some (.int p1)] [] (HP I A L F E) = _
  refine (sg_go ht_X4_add (k := 1) (pc' := 1) (L' := [some (.ref b0), some (.int p1)]) (st' := [.ref b0]) (h' := (HP I A L F E)) rfl).trans ?_
  refine (sg_callV ht_X4_add (mj := 29) (as := [.ref b0]) (rest := []) rfl rfl rfl (Nat.le_of_ble_eq_true rfl) (sS_obj hb0) ⟨by decide, Nat.le_of_ble_eq_true rfl⟩).trans ?_
  refine (bind_eq (sg_X4_isFull_0 hb0)).trans ?_
  refine ite_bd.trans ?_
  refine ite_congr rfl (fun _ => ?_) (fun _ => ?_)
  · show mm_run G0 31 4 [some (.ref b0), some (.int p1)] [.int 0] (HP I A L F E) = _
    refine (sg_go ht_X4_add (k := 2) (pc' := 9) (L' := [some (.ref b0), some (.int p1)]) (st' := [.ref b0]) (h' := (HP I A L F E)) rfl).trans ?_
    refine (sg_getR ht_X4_add rfl (sS_obj hb0) rfl).trans ?_
    refine (sg_go ht_X4_add (k := 1) (pc' := 13) (L' := [some (.ref b0), some (.int p1)]) (st' := [.ref b0, .ref (b0 + 1)]) (h' := (HP I A L F E)) rfl).trans ?_
    refine (sg_getI ht_X4_add rfl (sS_obj hb0) rfl).trans ?_
    refine (sg_go ht_X4_add (k := 1) (pc' := 17) (L' := [some (.ref b0), some (.int p1)]) (st' := [.int p1, .int (I (100 * b0 + 4)), .ref (b0 + 1)]) (h' := (HP I A L F E)) rfl).trans ?_
    refine (sg_stI (hh := fun X1 => (HP I (fu A (b0 + 1) X1) L F E)) ht_X4_add rfl (sS_ar1 hb0) (fun _ => sS_ast1 hb0)).trans ?_
    refine bind_cg fun X1 hX1 => ?_
    refine (sg_go ht_X4_add (k := 2) (pc' := 20) (L' := [some (.ref b0), some (.int p1)]) (st' := [.ref b0, .ref b0]) (h' := (HP I (fu A (b0 + 1) X1) L F E)) rfl).trans ?_
    refine (sg_getI ht_X4_add rfl (sS_obj hb0) rfl).trans ?_
    refine (sg_go ht_X4_add (k := 2) (pc' := 25) (L' := [some (.ref b0), some (.int p1)]) (st' := [.int ((I (100 * b0 + 4)) + 1), .ref b0]) (h' := (HP I (fu A (b0 + 1) X1) L F E)) rfl).trans ?_
    refine (sg_putI (h' := (HP (fu I (100 * b0 + 4) ((I (100 * b0 + 4)) + 1)) (fu A (b0 + 1) X1) L F E)) ht_X4_add rfl (sS_obj hb0) (Nat.le_of_ble_eq_true rfl) (sS_put4 hb0)).trans ?_
    exact sg_ret ht_X4_add rfl rfl
  · show mm_run G0 31 4 [some (.ref b0), some (.int p1)] [.int 1] (HP I A L F E) = _
    refine (sg_go ht_X4_add (k := 1) (pc' := 7) (L' := [some (.ref b0), some (.int p1)]) (st' := []) (h' := (HP I A L F E)) rfl).trans ?_
    exact sg_ret ht_X4_add rfl rfl
set_option maxRecDepth 20000 in
theorem sg_X4_startBy_0 {I : Nat → Int32} {A : Nat → List Int32} {L : Nat → List Int64} {F : Nat → Int64} {E : MH} {b0 : Nat} (hb0 : isS b0) (p1 : Int32) : mm_call G0 36 [.ref b0, .int p1] (HP I A L F E) = (if (I (100 * b0 + 0)) = 1 then some (some (.int (p1 / 2)), (HP I A L F E)) else (if (I (100 * b0 + 0)) ≠ 3 then some (some (.int 0), (HP I A L F E)) else some (some (.int (p1 / 2)), (HP I A L F E)))) := by
  show mm_run G0 36 0 [some (.ref b0), some (.int p1)] [] (HP I A L F E) = _
  refine (sg_go ht_X4_startBy (k := 1) (pc' := 1) (L' := [some (.ref b0), some (.int p1)]) (st' := [.ref b0]) (h' := (HP I A L F E)) rfl).trans ?_
  refine (sg_getI ht_X4_startBy rfl (sS_obj hb0) rfl).trans ?_
  refine (sg_go ht_X4_startBy (k := 1) (pc' := 5) (L' := [some (.ref b0), some (.int p1)]) (st' := [.int 1, .int (I (100 * b0 + 0))]) (h' := (HP I A L F E)) rfl).trans ?_
  refine (sg_cmp ht_X4_startBy rfl).trans ?_
  refine ite_congr rfl (fun _ => ?_) (fun _ => ?_)
  · refine (sg_go ht_X4_startBy (k := 4) (pc' := 23) (L' := [some (.ref b0), some (.int p1)]) (st' := [.int (p1 / 2)]) (h' := (HP I A L F E)) rfl).trans ?_
    exact sg_ret ht_X4_startBy rfl rfl
  · refine (sg_go ht_X4_startBy (k := 1) (pc' := 9) (L' := [some (.ref b0), some (.int p1)]) (st' := [.ref b0]) (h' := (HP I A L F E)) rfl).trans ?_
    refine (sg_getI ht_X4_startBy rfl (sS_obj hb0) rfl).trans ?_
    refine (sg_go ht_X4_startBy (k := 1) (pc' := 13) (L' := [some (.ref b0), some (.int p1)]) (st' := [.int 3, .int (I (100 * b0 + 0))]) (h' := (HP I A L F E)) rfl).trans ?_
    refine (sg_cmp ht_X4_startBy rfl).trans ?_
    refine ite_congr rfl (fun _ => ?_) (fun _ => ?_)
    · refine (sg_go ht_X4_startBy (k := 1) (pc' := 23) (L' := [some (.ref b0), some (.int p1)]) (st' := [.int 0]) (h' := (HP I A L F E)) rfl).trans ?_
      exact sg_ret ht_X4_startBy rfl rfl
    · refine (sg_go ht_X4_startBy (k := 4) (pc' := 23) (L' := [some (.ref b0), some (.int p1)]) (st' := [.int (p1 / 2)]) (h' := (HP I A L F E)) rfl).trans ?_
      exact sg_ret ht_X4_startBy rfl rfl
set_option maxRecDepth 20000 in
theorem sg_X4_setting_0 {I : Nat → Int32} {A : Nat → List Int32} {L : Nat → List Int64} {F : Nat → Int64} {E : MH} {b0 : Nat} (hb0 : isS b0) (p1 : Int32) : mm_call G0 34 [.ref b0, .int p1] (HP I A L F E) = (if p1 = 0 then some (some (.int (I (100 * b0 + 0))), (HP I A L F E)) else (if p1 = 1 then some (some (.int (I (100 * b0 + 1))), (HP I A L F E)) else (if p1 = 2 then some (some (.int (I (100 * b0 + 2))), (HP I A L F E)) else (if p1 = 3 then some (some (.int (I (100 * b0 + 3))), (HP I A L F E)) else (if p1 = 4 then some (some (.int (I (100 * b0 + 4))), (HP I A L F E)) else (if (I (100 * b0 + 0)) = 1 then some (some (.int ((I (100 * b0 + 3)) / 2)), (HP I A L F E)) else (if (I (100 * b0 + 0)) ≠ 3 then some (some (.int 0), (HP I A L F E)) else some (some (.int ((I (100 * b0 + 3)) / 2)), (HP I A L F E))))))))) := by
  show mm_run G0 34 0 [some (.ref b0), some (.int p1)] [] (HP I A L F E) = _
  refine (sg_go ht_X4_setting (k := 1) (pc' := 1) (L' := [some (.ref b0), some (.int p1)]) (st' := [.int p1]) (h' := (HP I A L F E)) rfl).trans ?_
  refine (sg_sw ht_X4_setting rfl).trans ?_
  rw [swt_cons (k := 0) (lo' := 1) (by decide) (by decide), run_ite]
  refine ite_congr rfl (fun _ => ?_) (fun _ => ?_)
  · refine (sg_go ht_X4_setting (k := 1) (pc' := 37) (L' := [some (.ref b0), some (.int p1)]) (st' := [.ref b0]) (h' := (HP I A L F E)) rfl).trans ?_
    refine (sg_getI ht_X4_setting rfl (sS_obj hb0) rfl).trans ?_
    exact sg_ret ht_X4_setting rfl rfl
  · rw [swt_cons (k := 1) (lo' := 2) (by decide) (by decide), run_ite]
    refine ite_congr rfl (fun _ => ?_) (fun _ => ?_)
    · refine (sg_go ht_X4_setting (k := 1) (pc' := 42) (L' := [some (.ref b0), some (.int p1)]) (st' := [.ref b0]) (h' := (HP I A L F E)) rfl).trans ?_
      refine (sg_getI ht_X4_setting rfl (sS_obj hb0) rfl).trans ?_
      exact sg_ret ht_X4_setting rfl rfl
    · rw [swt_cons (k := 2) (lo' := 3) (by decide) (by decide), run_ite]
      refine ite_congr rfl (fun _ => ?_) (fun _ => ?_)
      · refine (sg_go ht_X4_setting (k := 1) (pc' := 47) (L' := [some (.ref b0), some (.int p1)]) (st' := [.ref b0]) (h' := (HP I A L F E)) rfl).trans ?_
        refine (sg_getI ht_X4_setting rfl (sS_obj hb0) rfl).trans ?_
        exact sg_ret ht_X4_setting rfl rfl
      · rw [swt_cons (k := 3) (lo' := 4) (by decide) (by decide), run_ite]
        refine ite_congr rfl (fun _ => ?_) (fun _ => ?_)
        · refine (sg_go ht_X4_setting (k := 1) (pc' := 52) (L' := [some (.ref b0), some (.int p1)]) (st' := [.ref b0]) (h' := (HP I A L F E)) rfl).trans ?_
          refine (sg_getI ht_X4_setting rfl (sS_obj hb0) rfl).trans ?_
          exact sg_ret ht_X4_setting rfl rfl
        · rw [swt_cons (k := 4) (lo' := 5) (by decide) (by decide), run_ite]
          refine ite_congr rfl (fun _ => ?_) (fun _ => ?_)
          · refine (sg_go ht_X4_setting (k := 1) (pc' := 57) (L' := [some (.ref b0), some (.int p1)]) (st' := [.ref b0]) (h' := (HP I A L F E)) rfl).trans ?_
            refine (sg_getI ht_X4_setting rfl (sS_obj hb0) rfl).trans ?_
            exact sg_ret ht_X4_setting rfl rfl
          · rw [swt_nil]
            refine (sg_go ht_X4_setting (k := 2) (pc' := 63) (L' := [some (.ref b0), some (.int p1)]) (st' := [.ref b0, .ref b0]) (h' := (HP I A L F E)) rfl).trans ?_
            refine (sg_getI ht_X4_setting rfl (sS_obj hb0) rfl).trans ?_
            refine (sg_callV ht_X4_setting (mj := 36) (as := [.ref b0, .int (I (100 * b0 + 3))]) (rest := []) rfl rfl rfl (Nat.le_of_ble_eq_true rfl) (sS_obj hb0) ⟨by decide, Nat.le_of_ble_eq_true rfl⟩).trans ?_
            refine (bind_eq (sg_X4_startBy_0 hb0 (I (100 * b0 + 3)))).trans ?_
            refine ite_bd.trans ?_
            refine ite_congr rfl (fun _ => ?_) (fun _ => ?_)
            · show mm_run G0 34 69 [some (.ref b0), some (.int p1)] [.int ((I (100 * b0 + 3)) / 2)] (HP I A L F E) = _
              exact sg_ret ht_X4_setting rfl rfl
            · refine ite_bd.trans ?_
              refine ite_congr rfl (fun _ => ?_) (fun _ => ?_)
              · show mm_run G0 34 69 [some (.ref b0), some (.int p1)] [.int 0] (HP I A L F E) = _
                exact sg_ret ht_X4_setting rfl rfl
              · show mm_run G0 34 69 [some (.ref b0), some (.int p1)] [.int ((I (100 * b0 + 3)) / 2)] (HP I A L F E) = _
                exact sg_ret ht_X4_setting rfl rfl
set_option maxRecDepth 20000 in
theorem sg_X4_settle_0 {I : Nat → Int32} {A : Nat → List Int32} {L : Nat → List Int64} {F : Nat → Int64} {E : MH} {b0 : Nat} (hb0 : isS b0) (p1 : Int32) (p2 : Int32) : mm_call G0 35 [.ref b0, .int p1, .int p2] (HP I A L F E) = (if p1 = 0 then some (none, (HP (fu I (100 * b0 + 0) p2) A L F E)) else (if p1 = 1 then some (none, (HP (fu I (100 * b0 + 1) p2) A L F E)) else (if p1 = 2 then some (none, (HP (fu I (100 * b0 + 2) p2) A L F E)) else (if p1 = 3 then some (none, (HP (fu I (100 * b0 + 3) p2) A L F E)) else some (none, (HP I A L F E)))))) := by
  show mm_run G0 35 0 [some (.ref b0), some (.int p1), some (.int p2)] [] (HP I A L F E) = _
  refine (sg_go ht_X4_settle (k := 1) (pc' := 1) (L' := [some (.ref b0), some (.int p1), some (.int p2)]) (st' := [.int p1]) (h' := (HP I A L F E)) rfl).trans ?_
  refine (sg_sw ht_X4_settle rfl).trans ?_
  rw [swt_cons (k := 0) (lo' := 1) (by decide) (by decide), run_ite]
  refine ite_congr rfl (fun _ => ?_) (fun _ => ?_)
  · refine (sg_go ht_X4_settle (k := 2) (pc' := 34) (L' := [some (.ref b0), some (.int p1), some (.int p2)]) (st' := [.int p2, .ref b0]) (h' := (HP I A L F E)) rfl).trans ?_
    refine (sg_putI (h' := (HP (fu I (100 * b0 + 0) p2) A L F E)) ht_X4_settle rfl (sS_obj hb0) (Nat.le_of_ble_eq_true rfl) (sS_put0 hb0)).trans ?_
    refine (sg_go ht_X4_settle (k := 1) (pc' := 64) (L' := [some (.ref b0), some (.int p1), some (.int p2)]) (st' := []) (h' := (HP (fu I (100 * b0 + 0) p2) A L F E)) rfl).trans ?_
    exact sg_ret ht_X4_settle rfl rfl
  · rw [swt_cons (k := 1) (lo' := 2) (by decide) (by decide), run_ite]
    refine ite_congr rfl (fun _ => ?_) (fun _ => ?_)
    · refine (sg_go ht_X4_settle (k := 2) (pc' := 42) (L' := [some (.ref b0), some (.int p1), some (.int p2)]) (st' := [.int p2, .ref b0]) (h' := (HP I A L F E)) rfl).trans ?_
      refine (sg_putI (h' := (HP (fu I (100 * b0 + 1) p2) A L F E)) ht_X4_settle rfl (sS_obj hb0) (Nat.le_of_ble_eq_true rfl) (sS_put1 hb0)).trans ?_
      refine (sg_go ht_X4_settle (k := 1) (pc' := 64) (L' := [some (.ref b0), some (.int p1), some (.int p2)]) (st' := []) (h' := (HP (fu I (100 * b0 + 1) p2) A L F E)) rfl).trans ?_
      exact sg_ret ht_X4_settle rfl rfl
    · rw [swt_cons (k := 2) (lo' := 3) (by decide) (by decide), run_ite]
      refine ite_congr rfl (fun _ => ?_) (fun _ => ?_)
      · refine (sg_go ht_X4_settle (k := 2) (pc' := 50) (L' := [some (.ref b0), some (.int p1), some (.int p2)]) (st' := [.int p2, .ref b0]) (h' := (HP I A L F E)) rfl).trans ?_
        refine (sg_putI (h' := (HP (fu I (100 * b0 + 2) p2) A L F E)) ht_X4_settle rfl (sS_obj hb0) (Nat.le_of_ble_eq_true rfl) (sS_put2 hb0)).trans ?_
        refine (sg_go ht_X4_settle (k := 1) (pc' := 64) (L' := [some (.ref b0), some (.int p1), some (.int p2)]) (st' := []) (h' := (HP (fu I (100 * b0 + 2) p2) A L F E)) rfl).trans ?_
        exact sg_ret ht_X4_settle rfl rfl
      · rw [swt_cons (k := 3) (lo' := 4) (by decide) (by decide), run_ite]
        refine ite_congr rfl (fun _ => ?_) (fun _ => ?_)
        · refine (sg_go ht_X4_settle (k := 2) (pc' := 58) (L' := [some (.ref b0), some (.int p1), some (.int p2)]) (st' := [.int p2, .ref b0]) (h' := (HP I A L F E)) rfl).trans ?_
          refine (sg_putI (h' := (HP (fu I (100 * b0 + 3) p2) A L F E)) ht_X4_settle rfl (sS_obj hb0) (Nat.le_of_ble_eq_true rfl) (sS_put3 hb0)).trans ?_
          refine (sg_go ht_X4_settle (k := 1) (pc' := 64) (L' := [some (.ref b0), some (.int p1), some (.int p2)]) (st' := []) (h' := (HP (fu I (100 * b0 + 3) p2) A L F E)) rfl).trans ?_
          exact sg_ret ht_X4_settle rfl rfl
        · rw [swt_nil]
          exact sg_ret ht_X4_settle rfl rfl
set_option maxRecDepth 20000 in
theorem sg_X4_offset_0 {I : Nat → Int32} {A : Nat → List Int32} {L : Nat → List Int64} {F : Nat → Int64} {E : MH} {b0 : Nat} (hb0 : isS b0) (p1 : Int32) : mm_call G0 37 [.ref b0, .int p1] (HP I A L F E) = ((ldI (A (b0 + 1)) p1).bind fun x1 => (if (I (100 * b0 + 0)) = 2 then some (some (.int (imax (-5) (imin 5 (x1 - (I (100 * b0 + 1)))))), (HP I A L F E)) else (if (I (100 * b0 + 0)) = 3 then some (some (.int (imax (-5) (imin 5 (x1 - (I (100 * b0 + 1)))))), (HP I A L F E)) else some (some (.int (x1 - (I (100 * b0 + 1)))), (HP I A L F E))))) := by
  show mm_run G0 37 0 [some (.ref b0), some (.int p1), none] [] (HP I A L F E) = _
  refine (sg_go ht_X4_offset (k := 1) (pc' := 1) (L' := [some (.ref b0), some (.int p1), none]) (st' := [.ref b0]) (h' := (HP I A L F E)) rfl).trans ?_
  refine (sg_getR ht_X4_offset rfl (sS_obj hb0) rfl).trans ?_
  refine (sg_go ht_X4_offset (k := 1) (pc' := 5) (L' := [some (.ref b0), some (.int p1), none]) (st' := [.int p1, .ref (b0 + 1)]) (h' := (HP I A L F E)) rfl).trans ?_
  refine (sg_ldI ht_X4_offset rfl (sS_ar1 hb0)).trans ?_
  refine bind_cg fun x1 hx1 => ?_
  refine (sg_go ht_X4_offset (k := 1) (pc' := 7) (L' := [some (.ref b0), some (.int p1), none]) (st' := [.ref b0, .int x1]) (h' := (HP I A L F E)) rfl).trans ?_
  refine (sg_getI ht_X4_offset rfl (sS_obj hb0) rfl).trans ?_
  refine (sg_go ht_X4_offset (k := 3) (pc' := 13) (L' := [some (.ref b0), some (.int p1), some (.int (x1 - (I (100 * b0 + 1))))]) (st' := [.ref b0]) (h' := (HP I A L F E)) rfl).trans ?_
  refine (sg_getI ht_X4_offset rfl (sS_obj hb0) rfl).trans ?_
  refine (sg_go ht_X4_offset (k := 1) (pc' := 17) (L' := [some (.ref b0), some (.int p1), some (.int (x1 - (I (100 * b0 + 1))))]) (st' := [.int 2, .int (I (100 * b0 + 0))]) (h' := (HP I A L F E)) rfl).trans ?_
  refine (sg_cmp ht_X4_offset rfl).trans ?_
  refine ite_congr rfl (fun _ => ?_) (fun _ => ?_)
  · refine (sg_go ht_X4_offset (k := 5) (pc' := 40) (L' := [some (.ref b0), some (.int p1), some (.int (x1 - (I (100 * b0 + 1))))]) (st' := [.int (imax (-5) (imin 5 (x1 - (I (100 * b0 + 1)))))]) (h' := (HP I A L F E)) rfl).trans ?_
    exact sg_ret ht_X4_offset rfl rfl
  · refine (sg_go ht_X4_offset (k := 1) (pc' := 21) (L' := [some (.ref b0), some (.int p1), some (.int (x1 - (I (100 * b0 + 1))))]) (st' := [.ref b0]) (h' := (HP I A L F E)) rfl).trans ?_
    refine (sg_getI ht_X4_offset rfl (sS_obj hb0) rfl).trans ?_
    refine (sg_go ht_X4_offset (k := 1) (pc' := 25) (L' := [some (.ref b0), some (.int p1), some (.int (x1 - (I (100 * b0 + 1))))]) (st' := [.int 3, .int (I (100 * b0 + 0))]) (h' := (HP I A L F E)) rfl).trans ?_
    refine (sg_cmp ht_X4_offset rfl).trans ?_
    refine ite_congr rfl (fun _ => ?_) (fun _ => ?_)
    · refine (sg_go ht_X4_offset (k := 5) (pc' := 40) (L' := [some (.ref b0), some (.int p1), some (.int (x1 - (I (100 * b0 + 1))))]) (st' := [.int (imax (-5) (imin 5 (x1 - (I (100 * b0 + 1)))))]) (h' := (HP I A L F E)) rfl).trans ?_
      exact sg_ret ht_X4_offset rfl rfl
    · refine (sg_go ht_X4_offset (k := 1) (pc' := 29) (L' := [some (.ref b0), some (.int p1), some (.int (x1 - (I (100 * b0 + 1))))]) (st' := [.int (x1 - (I (100 * b0 + 1)))]) (h' := (HP I A L F E)) rfl).trans ?_
      exact sg_ret ht_X4_offset rfl rfl
set_option maxRecDepth 20000 in
theorem sg_X4_total_0 {I : Nat → Int32} {A : Nat → List Int32} {L : Nat → List Int64} {F : Nat → Int64} {E : MH} {b0 : Nat} (hb0 : isS b0) (p1 : Int32) : mm_call G0 38 [.ref b0, .int p1] (HP I A L F E) = mm_run G0 38 4 [some (.ref b0), some (.int p1), some (.int 0), some (.int 0)] [] (HP I A L F E) := by
  show mm_run G0 38 0 [some (.ref b0), some (.int p1), none, none] [] (HP I A L F E) = _
  refine (sg_go ht_X4_total (k := 4) (pc' := 4) (L' := [some (.ref b0), some (.int p1), some (.int 0), some (.int 0)]) (st' := []) (h' := (HP I A L F E)) rfl).trans ?_
  rfl
set_option maxRecDepth 20000 in
theorem sg_X4_total_4 {I : Nat → Int32} {A : Nat → List Int32} {L : Nat → List Int64} {F : Nat → Int64} {E : MH} {b0 : Nat} (hb0 : isS b0) (v1 : Int32) (v2 : Int32) (v3 : Int32) : mm_run G0 38 4 [some (.ref b0), some (.int v1), some (.int v2), some (.int v3)] [] (HP I A L F E) = (if v1 ≤ v3 then some (some (.int v2), (HP I A L F E)) else ((ldI (A (b0 + 1)) v3).bind fun x1 => mm_run G0 38 4 [some (.ref b0), some (.int v1), some (.int (v2 + x1)), some (.int (v3 + 1))] [] (HP I A L F E))) := by
  refine (sg_go ht_X4_total (k := 2) (pc' := 6) (L' := [some (.ref b0), some (.int v1), some (.int v2), some (.int v3)]) (st' := [.int v1, .int v3]) (h' := (HP I A L F E)) rfl).trans ?_
  refine (sg_cmp ht_X4_total rfl).trans ?_
  refine ite_congr rfl (fun _ => ?_) (fun _ => ?_)
  · refine (sg_go ht_X4_total (k := 1) (pc' := 25) (L' := [some (.ref b0), some (.int v1), some (.int v2), some (.int v3)]) (st' := [.int v2]) (h' := (HP I A L F E)) rfl).trans ?_
    exact sg_ret ht_X4_total rfl rfl
  · refine (sg_go ht_X4_total (k := 2) (pc' := 11) (L' := [some (.ref b0), some (.int v1), some (.int v2), some (.int v3)]) (st' := [.ref b0, .int v2]) (h' := (HP I A L F E)) rfl).trans ?_
    refine (sg_getR ht_X4_total rfl (sS_obj hb0) rfl).trans ?_
    refine (sg_go ht_X4_total (k := 1) (pc' := 15) (L' := [some (.ref b0), some (.int v1), some (.int v2), some (.int v3)]) (st' := [.int v3, .ref (b0 + 1), .int v2]) (h' := (HP I A L F E)) rfl).trans ?_
    refine (sg_ldI ht_X4_total rfl (sS_ar1 hb0)).trans ?_
    refine bind_cg fun x1 hx1 => ?_
    refine (sg_go ht_X4_total (k := 4) (pc' := 4) (L' := [some (.ref b0), some (.int v1), some (.int (v2 + x1)), some (.int (v3 + 1))]) (st' := []) (h' := (HP I A L F E)) rfl).trans ?_
    rfl
set_option maxRecDepth 20000 in
theorem sg_X4_loseFirst_0 {I : Nat → Int32} {A : Nat → List Int32} {L : Nat → List Int64} {F : Nat → Int64} {E : MH} {b0 : Nat} (hb0 : isS b0) (p1 : Int32) : mm_call G0 32 [.ref b0, .int p1] (HP I A L F E) = mm_run G0 32 11 [some (.ref b0), some (.int p1), some (.int (imin p1 (I (100 * b0 + 4)))), some (.int (imin p1 (I (100 * b0 + 4))))] [] (HP I A L F E) := by
  show mm_run G0 32 0 [some (.ref b0), some (.int p1), none, none] [] (HP I A L F E) = _
  refine (sg_go ht_X4_loseFirst (k := 2) (pc' := 2) (L' := [some (.ref b0), some (.int p1), none, none]) (st' := [.ref b0, .int p1]) (h' := (HP I A L F E)) rfl).trans ?_
  refine (sg_getI ht_X4_loseFirst rfl (sS_obj hb0) rfl).trans ?_
  refine (sg_go ht_X4_loseFirst (k := 4) (pc' := 11) (L' := [some (.ref b0), some (.int p1), some (.int (imin p1 (I (100 * b0 + 4)))), some (.int (imin p1 (I (100 * b0 + 4))))]) (st' := []) (h' := (HP I A L F E)) rfl).trans ?_
  rfl
set_option maxRecDepth 20000 in
theorem sg_X4_loseFirst_11 {I : Nat → Int32} {A : Nat → List Int32} {L : Nat → List Int64} {F : Nat → Int64} {E : MH} {b0 : Nat} (hb0 : isS b0) (v1 : Int32) (v2 : Int32) (v3 : Int32) : mm_run G0 32 11 [some (.ref b0), some (.int v1), some (.int v2), some (.int v3)] [] (HP I A L F E) = (if (I (100 * b0 + 4)) ≤ v3 then some (none, (HP (fu I (100 * b0 + 4) ((I (100 * b0 + 4)) - v2)) A L F E)) else ((ldI (A (b0 + 1)) v3).bind fun x1 => ((stI (A (b0 + 1)) (v3 - v2) x1).bind fun X2 => mm_run G0 32 11 [some (.ref b0), some (.int v1), some (.int v2), some (.int (v3 + 1))] [] (HP I (fu A (b0 + 1) X2) L F E)))) := by
  refine (sg_go ht_X4_loseFirst (k := 2) (pc' := 13) (L' := [some (.ref b0), some (.int v1), some (.int v2), some (.int v3)]) (st' := [.ref b0, .int v3]) (h' := (HP I A L F E)) rfl).trans ?_
  refine (sg_getI ht_X4_loseFirst rfl (sS_obj hb0) rfl).trans ?_
  refine (sg_cmp ht_X4_loseFirst rfl).trans ?_
  refine ite_congr rfl (fun _ => ?_) (fun _ => ?_)
  · refine (sg_go ht_X4_loseFirst (k := 2) (pc' := 41) (L' := [some (.ref b0), some (.int v1), some (.int v2), some (.int v3)]) (st' := [.ref b0, .ref b0]) (h' := (HP I A L F E)) rfl).trans ?_
    refine (sg_getI ht_X4_loseFirst rfl (sS_obj hb0) rfl).trans ?_
    refine (sg_go ht_X4_loseFirst (k := 2) (pc' := 46) (L' := [some (.ref b0), some (.int v1), some (.int v2), some (.int v3)]) (st' := [.int ((I (100 * b0 + 4)) - v2), .ref b0]) (h' := (HP I A L F E)) rfl).trans ?_
    refine (sg_putI (h' := (HP (fu I (100 * b0 + 4) ((I (100 * b0 + 4)) - v2)) A L F E)) ht_X4_loseFirst rfl (sS_obj hb0) (Nat.le_of_ble_eq_true rfl) (sS_put4 hb0)).trans ?_
    exact sg_ret ht_X4_loseFirst rfl rfl
  · refine (sg_go ht_X4_loseFirst (k := 1) (pc' := 20) (L' := [some (.ref b0), some (.int v1), some (.int v2), some (.int v3)]) (st' := [.ref b0]) (h' := (HP I A L F E)) rfl).trans ?_
    refine (sg_getR ht_X4_loseFirst rfl (sS_obj hb0) rfl).trans ?_
    refine (sg_go ht_X4_loseFirst (k := 4) (pc' := 27) (L' := [some (.ref b0), some (.int v1), some (.int v2), some (.int v3)]) (st' := [.ref b0, .int (v3 - v2), .ref (b0 + 1)]) (h' := (HP I A L F E)) rfl).trans ?_
    refine (sg_getR ht_X4_loseFirst rfl (sS_obj hb0) rfl).trans ?_
    refine (sg_go ht_X4_loseFirst (k := 1) (pc' := 31) (L' := [some (.ref b0), some (.int v1), some (.int v2), some (.int v3)]) (st' := [.int v3, .ref (b0 + 1), .int (v3 - v2), .ref (b0 + 1)]) (h' := (HP I A L F E)) rfl).trans ?_
    refine (sg_ldI ht_X4_loseFirst rfl (sS_ar1 hb0)).trans ?_
    refine bind_cg fun x1 hx1 => ?_
    refine (sg_stI (hh := fun X2 => (HP I (fu A (b0 + 1) X2) L F E)) ht_X4_loseFirst rfl (sS_ar1 hb0) (fun _ => sS_ast1 hb0)).trans ?_
    refine bind_cg fun X2 hX2 => ?_
    refine (sg_go ht_X4_loseFirst (k := 2) (pc' := 11) (L' := [some (.ref b0), some (.int v1), some (.int v2), some (.int (v3 + 1))]) (st' := []) (h' := (HP I (fu A (b0 + 1) X2) L F E)) rfl).trans ?_
    rfl
set_option maxRecDepth 20000 in
theorem sg_X4_become_0 {I : Nat → Int32} {A : Nat → List Int32} {L : Nat → List Int64} {F : Nat → Int64} {E : MH} {b0 : Nat} (hb0 : isS b0) {b1 : Nat} (hb1 : isS b1) : mm_call G0 33 [.ref b0, .ref b1] (HP I A L F E) = ((cpI (A (b1 + 1)) (A (b0 + 1)) 0 0 40).bind fun X1 => some (none, (HP (fu (fu (fu (fu (fu I (100 * b0 + 0) (I (100 * b1 + 0))) (100 * b0 + 1) ((fu I (100 * b0 + 0) (I (100 * b1 + 0))) (100 * b1 + 1))) (100 * b0 + 2) ((fu (fu I (100 * b0 + 0) (I (100 * b1 + 0))) (100 * b0 + 1) ((fu I (100 * b0 + 0) (I (100 * b1 + 0))) (100 * b1 + 1))) (100 * b1 + 2))) (100 * b0 + 3) ((fu (fu (fu I (100 * b0 + 0) (I (100 * b1 + 0))) (100 * b0 + 1) ((fu I (100 * b0 + 0) (I (100 * b1 + 0))) (100 * b1 + 1))) (100 * b0 + 2) ((fu (fu I (100 * b0 + 0) (I (100 * b1 + 0))) (100 * b0 + 1) ((fu I (100 * b0 + 0) (I (100 * b1 + 0))) (100 * b1 + 1))) (100 * b1 + 2))) (100 * b1 + 3))) (100 * b0 + 4) ((fu (fu (fu (fu I (100 * b0 + 0) (I (100 * b1 + 0))) (100 * b0 + 1) ((fu I (100 * b0 + 0) (I (100 * b1 + 0))) (100 * b1 + 1))) (100 * b0 + 2) ((fu (fu I (100 * b0 + 0) (I (100 * b1 + 0))) (100 * b0 + 1) ((fu I (100 * b0 + 0) (I (100 * b1 + 0))) (100 * b1 + 1))) (100 * b1 + 2))) (100 * b0 + 3) ((fu (fu (fu I (100 * b0 + 0) (I (100 * b1 + 0))) (100 * b0 + 1) ((fu I (100 * b0 + 0) (I (100 * b1 + 0))) (100 * b1 + 1))) (100 * b0 + 2) ((fu (fu I (100 * b0 + 0) (I (100 * b1 + 0))) (100 * b0 + 1) ((fu I (100 * b0 + 0) (I (100 * b1 + 0))) (100 * b1 + 1))) (100 * b1 + 2))) (100 * b1 + 3))) (100 * b1 + 4))) (fu A (b0 + 1) X1) L F E))) := by
  show mm_run G0 33 0 [some (.ref b0), some (.ref b1)] [] (HP I A L F E) = _
  refine (sg_go ht_X4_become (k := 2) (pc' := 2) (L' := [some (.ref b0), some (.ref b1)]) (st' := [.ref b1, .ref b0]) (h' := (HP I A L F E)) rfl).trans ?_
  refine (sg_getI ht_X4_become rfl (sS_obj hb1) rfl).trans ?_
  refine (sg_putI (h' := (HP (fu I (100 * b0 + 0) (I (100 * b1 + 0))) A L F E)) ht_X4_become rfl (sS_obj hb0) (Nat.le_of_ble_eq_true rfl) (sS_put0 hb0)).trans ?_
  refine (sg_go ht_X4_become (k := 2) (pc' := 10) (L' := [some (.ref b0), some (.ref b1)]) (st' := [.ref b1, .ref b0]) (h' := (HP (fu I (100 * b0 + 0) (I (100 * b1 + 0))) A L F E)) rfl).trans ?_
  refine (sg_getI ht_X4_become rfl (sS_obj hb1) rfl).trans ?_
  refine (sg_putI (h' := (HP (fu (fu I (100 * b0 + 0) (I (100 * b1 + 0))) (100 * b0 + 1) ((fu I (100 * b0 + 0) (I (100 * b1 + 0))) (100 * b1 + 1))) A L F E)) ht_X4_become rfl (sS_obj hb0) (Nat.le_of_ble_eq_true rfl) (sS_put1 hb0)).trans ?_
  refine (sg_go ht_X4_become (k := 2) (pc' := 18) (L' := [some (.ref b0), some (.ref b1)]) (st' := [.ref b1, .ref b0]) (h' := (HP (fu (fu I (100 * b0 + 0) (I (100 * b1 + 0))) (100 * b0 + 1) ((fu I (100 * b0 + 0) (I (100 * b1 + 0))) (100 * b1 + 1))) A L F E)) rfl).trans ?_
  refine (sg_getI ht_X4_become rfl (sS_obj hb1) rfl).trans ?_
  refine (sg_putI (h' := (HP (fu (fu (fu I (100 * b0 + 0) (I (100 * b1 + 0))) (100 * b0 + 1) ((fu I (100 * b0 + 0) (I (100 * b1 + 0))) (100 * b1 + 1))) (100 * b0 + 2) ((fu (fu I (100 * b0 + 0) (I (100 * b1 + 0))) (100 * b0 + 1) ((fu I (100 * b0 + 0) (I (100 * b1 + 0))) (100 * b1 + 1))) (100 * b1 + 2))) A L F E)) ht_X4_become rfl (sS_obj hb0) (Nat.le_of_ble_eq_true rfl) (sS_put2 hb0)).trans ?_
  refine (sg_go ht_X4_become (k := 2) (pc' := 26) (L' := [some (.ref b0), some (.ref b1)]) (st' := [.ref b1, .ref b0]) (h' := (HP (fu (fu (fu I (100 * b0 + 0) (I (100 * b1 + 0))) (100 * b0 + 1) ((fu I (100 * b0 + 0) (I (100 * b1 + 0))) (100 * b1 + 1))) (100 * b0 + 2) ((fu (fu I (100 * b0 + 0) (I (100 * b1 + 0))) (100 * b0 + 1) ((fu I (100 * b0 + 0) (I (100 * b1 + 0))) (100 * b1 + 1))) (100 * b1 + 2))) A L F E)) rfl).trans ?_
  refine (sg_getI ht_X4_become rfl (sS_obj hb1) rfl).trans ?_
  refine (sg_putI (h' := (HP (fu (fu (fu (fu I (100 * b0 + 0) (I (100 * b1 + 0))) (100 * b0 + 1) ((fu I (100 * b0 + 0) (I (100 * b1 + 0))) (100 * b1 + 1))) (100 * b0 + 2) ((fu (fu I (100 * b0 + 0) (I (100 * b1 + 0))) (100 * b0 + 1) ((fu I (100 * b0 + 0) (I (100 * b1 + 0))) (100 * b1 + 1))) (100 * b1 + 2))) (100 * b0 + 3) ((fu (fu (fu I (100 * b0 + 0) (I (100 * b1 + 0))) (100 * b0 + 1) ((fu I (100 * b0 + 0) (I (100 * b1 + 0))) (100 * b1 + 1))) (100 * b0 + 2) ((fu (fu I (100 * b0 + 0) (I (100 * b1 + 0))) (100 * b0 + 1) ((fu I (100 * b0 + 0) (I (100 * b1 + 0))) (100 * b1 + 1))) (100 * b1 + 2))) (100 * b1 + 3))) A L F E)) ht_X4_become rfl (sS_obj hb0) (Nat.le_of_ble_eq_true rfl) (sS_put3 hb0)).trans ?_
  refine (sg_go ht_X4_become (k := 2) (pc' := 34) (L' := [some (.ref b0), some (.ref b1)]) (st' := [.ref b1, .ref b0]) (h' := (HP (fu (fu (fu (fu I (100 * b0 + 0) (I (100 * b1 + 0))) (100 * b0 + 1) ((fu I (100 * b0 + 0) (I (100 * b1 + 0))) (100 * b1 + 1))) (100 * b0 + 2) ((fu (fu I (100 * b0 + 0) (I (100 * b1 + 0))) (100 * b0 + 1) ((fu I (100 * b0 + 0) (I (100 * b1 + 0))) (100 * b1 + 1))) (100 * b1 + 2))) (100 * b0 + 3) ((fu (fu (fu I (100 * b0 + 0) (I (100 * b1 + 0))) (100 * b0 + 1) ((fu I (100 * b0 + 0) (I (100 * b1 + 0))) (100 * b1 + 1))) (100 * b0 + 2) ((fu (fu I (100 * b0 + 0) (I (100 * b1 + 0))) (100 * b0 + 1) ((fu I (100 * b0 + 0) (I (100 * b1 + 0))) (100 * b1 + 1))) (100 * b1 + 2))) (100 * b1 + 3))) A L F E)) rfl).trans ?_
  refine (sg_getI ht_X4_become rfl (sS_obj hb1) rfl).trans ?_
  refine (sg_putI (h' := (HP (fu (fu (fu (fu (fu I (100 * b0 + 0) (I (100 * b1 + 0))) (100 * b0 + 1) ((fu I (100 * b0 + 0) (I (100 * b1 + 0))) (100 * b1 + 1))) (100 * b0 + 2) ((fu (fu I (100 * b0 + 0) (I (100 * b1 + 0))) (100 * b0 + 1) ((fu I (100 * b0 + 0) (I (100 * b1 + 0))) (100 * b1 + 1))) (100 * b1 + 2))) (100 * b0 + 3) ((fu (fu (fu I (100 * b0 + 0) (I (100 * b1 + 0))) (100 * b0 + 1) ((fu I (100 * b0 + 0) (I (100 * b1 + 0))) (100 * b1 + 1))) (100 * b0 + 2) ((fu (fu I (100 * b0 + 0) (I (100 * b1 + 0))) (100 * b0 + 1) ((fu I (100 * b0 + 0) (I (100 * b1 + 0))) (100 * b1 + 1))) (100 * b1 + 2))) (100 * b1 + 3))) (100 * b0 + 4) ((fu (fu (fu (fu I (100 * b0 + 0) (I (100 * b1 + 0))) (100 * b0 + 1) ((fu I (100 * b0 + 0) (I (100 * b1 + 0))) (100 * b1 + 1))) (100 * b0 + 2) ((fu (fu I (100 * b0 + 0) (I (100 * b1 + 0))) (100 * b0 + 1) ((fu I (100 * b0 + 0) (I (100 * b1 + 0))) (100 * b1 + 1))) (100 * b1 + 2))) (100 * b0 + 3) ((fu (fu (fu I (100 * b0 + 0) (I (100 * b1 + 0))) (100 * b0 + 1) ((fu I (100 * b0 + 0) (I (100 * b1 + 0))) (100 * b1 + 1))) (100 * b0 + 2) ((fu (fu I (100 * b0 + 0) (I (100 * b1 + 0))) (100 * b0 + 1) ((fu I (100 * b0 + 0) (I (100 * b1 + 0))) (100 * b1 + 1))) (100 * b1 + 2))) (100 * b1 + 3))) (100 * b1 + 4))) A L F E)) ht_X4_become rfl (sS_obj hb0) (Nat.le_of_ble_eq_true rfl) (sS_put4 hb0)).trans ?_
  refine (sg_go ht_X4_become (k := 1) (pc' := 41) (L' := [some (.ref b0), some (.ref b1)]) (st' := [.ref b1]) (h' := (HP (fu (fu (fu (fu (fu I (100 * b0 + 0) (I (100 * b1 + 0))) (100 * b0 + 1) ((fu I (100 * b0 + 0) (I (100 * b1 + 0))) (100 * b1 + 1))) (100 * b0 + 2) ((fu (fu I (100 * b0 + 0) (I (100 * b1 + 0))) (100 * b0 + 1) ((fu I (100 * b0 + 0) (I (100 * b1 + 0))) (100 * b1 + 1))) (100 * b1 + 2))) (100 * b0 + 3) ((fu (fu (fu I (100 * b0 + 0) (I (100 * b1 + 0))) (100 * b0 + 1) ((fu I (100 * b0 + 0) (I (100 * b1 + 0))) (100 * b1 + 1))) (100 * b0 + 2) ((fu (fu I (100 * b0 + 0) (I (100 * b1 + 0))) (100 * b0 + 1) ((fu I (100 * b0 + 0) (I (100 * b1 + 0))) (100 * b1 + 1))) (100 * b1 + 2))) (100 * b1 + 3))) (100 * b0 + 4) ((fu (fu (fu (fu I (100 * b0 + 0) (I (100 * b1 + 0))) (100 * b0 + 1) ((fu I (100 * b0 + 0) (I (100 * b1 + 0))) (100 * b1 + 1))) (100 * b0 + 2) ((fu (fu I (100 * b0 + 0) (I (100 * b1 + 0))) (100 * b0 + 1) ((fu I (100 * b0 + 0) (I (100 * b1 + 0))) (100 * b1 + 1))) (100 * b1 + 2))) (100 * b0 + 3) ((fu (fu (fu I (100 * b0 + 0) (I (100 * b1 + 0))) (100 * b0 + 1) ((fu I (100 * b0 + 0) (I (100 * b1 + 0))) (100 * b1 + 1))) (100 * b0 + 2) ((fu (fu I (100 * b0 + 0) (I (100 * b1 + 0))) (100 * b0 + 1) ((fu I (100 * b0 + 0) (I (100 * b1 + 0))) (100 * b1 + 1))) (100 * b1 + 2))) (100 * b1 + 3))) (100 * b1 + 4))) A L F E)) rfl).trans ?_
  refine (sg_getR ht_X4_become rfl (sS_obj hb1) rfl).trans ?_
  refine (sg_go ht_X4_become (k := 2) (pc' := 46) (L' := [some (.ref b0), some (.ref b1)]) (st' := [.ref b0, .int 0, .ref (b1 + 1)]) (h' := (HP (fu (fu (fu (fu (fu I (100 * b0 + 0) (I (100 * b1 + 0))) (100 * b0 + 1) ((fu I (100 * b0 + 0) (I (100 * b1 + 0))) (100 * b1 + 1))) (100 * b0 + 2) ((fu (fu I (100 * b0 + 0) (I (100 * b1 + 0))) (100 * b0 + 1) ((fu I (100 * b0 + 0) (I (100 * b1 + 0))) (100 * b1 + 1))) (100 * b1 + 2))) (100 * b0 + 3) ((fu (fu (fu I (100 * b0 + 0) (I (100 * b1 + 0))) (100 * b0 + 1) ((fu I (100 * b0 + 0) (I (100 * b1 + 0))) (100 * b1 + 1))) (100 * b0 + 2) ((fu (fu I (100 * b0 + 0) (I (100 * b1 + 0))) (100 * b0 + 1) ((fu I (100 * b0 + 0) (I (100 * b1 + 0))) (100 * b1 + 1))) (100 * b1 + 2))) (100 * b1 + 3))) (100 * b0 + 4) ((fu (fu (fu (fu I (100 * b0 + 0) (I (100 * b1 + 0))) (100 * b0 + 1) ((fu I (100 * b0 + 0) (I (100 * b1 + 0))) (100 * b1 + 1))) (100 * b0 + 2) ((fu (fu I (100 * b0 + 0) (I (100 * b1 + 0))) (100 * b0 + 1) ((fu I (100 * b0 + 0) (I (100 * b1 + 0))) (100 * b1 + 1))) (100 * b1 + 2))) (100 * b0 + 3) ((fu (fu (fu I (100 * b0 + 0) (I (100 * b1 + 0))) (100 * b0 + 1) ((fu I (100 * b0 + 0) (I (100 * b1 + 0))) (100 * b1 + 1))) (100 * b0 + 2) ((fu (fu I (100 * b0 + 0) (I (100 * b1 + 0))) (100 * b0 + 1) ((fu I (100 * b0 + 0) (I (100 * b1 + 0))) (100 * b1 + 1))) (100 * b1 + 2))) (100 * b1 + 3))) (100 * b1 + 4))) A L F E)) rfl).trans ?_
  refine (sg_getR ht_X4_become rfl (sS_obj hb0) rfl).trans ?_
  refine (sg_go ht_X4_become (k := 2) (pc' := 52) (L' := [some (.ref b0), some (.ref b1)]) (st' := [.int 40, .int 0, .ref (b0 + 1), .int 0, .ref (b1 + 1)]) (h' := (HP (fu (fu (fu (fu (fu I (100 * b0 + 0) (I (100 * b1 + 0))) (100 * b0 + 1) ((fu I (100 * b0 + 0) (I (100 * b1 + 0))) (100 * b1 + 1))) (100 * b0 + 2) ((fu (fu I (100 * b0 + 0) (I (100 * b1 + 0))) (100 * b0 + 1) ((fu I (100 * b0 + 0) (I (100 * b1 + 0))) (100 * b1 + 1))) (100 * b1 + 2))) (100 * b0 + 3) ((fu (fu (fu I (100 * b0 + 0) (I (100 * b1 + 0))) (100 * b0 + 1) ((fu I (100 * b0 + 0) (I (100 * b1 + 0))) (100 * b1 + 1))) (100 * b0 + 2) ((fu (fu I (100 * b0 + 0) (I (100 * b1 + 0))) (100 * b0 + 1) ((fu I (100 * b0 + 0) (I (100 * b1 + 0))) (100 * b1 + 1))) (100 * b1 + 2))) (100 * b1 + 3))) (100 * b0 + 4) ((fu (fu (fu (fu I (100 * b0 + 0) (I (100 * b1 + 0))) (100 * b0 + 1) ((fu I (100 * b0 + 0) (I (100 * b1 + 0))) (100 * b1 + 1))) (100 * b0 + 2) ((fu (fu I (100 * b0 + 0) (I (100 * b1 + 0))) (100 * b0 + 1) ((fu I (100 * b0 + 0) (I (100 * b1 + 0))) (100 * b1 + 1))) (100 * b1 + 2))) (100 * b0 + 3) ((fu (fu (fu I (100 * b0 + 0) (I (100 * b1 + 0))) (100 * b0 + 1) ((fu I (100 * b0 + 0) (I (100 * b1 + 0))) (100 * b1 + 1))) (100 * b0 + 2) ((fu (fu I (100 * b0 + 0) (I (100 * b1 + 0))) (100 * b0 + 1) ((fu I (100 * b0 + 0) (I (100 * b1 + 0))) (100 * b1 + 1))) (100 * b1 + 2))) (100 * b1 + 3))) (100 * b1 + 4))) A L F E)) rfl).trans ?_
  refine (sg_cpI (hh := fun X1 => (HP (fu (fu (fu (fu (fu I (100 * b0 + 0) (I (100 * b1 + 0))) (100 * b0 + 1) ((fu I (100 * b0 + 0) (I (100 * b1 + 0))) (100 * b1 + 1))) (100 * b0 + 2) ((fu (fu I (100 * b0 + 0) (I (100 * b1 + 0))) (100 * b0 + 1) ((fu I (100 * b0 + 0) (I (100 * b1 + 0))) (100 * b1 + 1))) (100 * b1 + 2))) (100 * b0 + 3) ((fu (fu (fu I (100 * b0 + 0) (I (100 * b1 + 0))) (100 * b0 + 1) ((fu I (100 * b0 + 0) (I (100 * b1 + 0))) (100 * b1 + 1))) (100 * b0 + 2) ((fu (fu I (100 * b0 + 0) (I (100 * b1 + 0))) (100 * b0 + 1) ((fu I (100 * b0 + 0) (I (100 * b1 + 0))) (100 * b1 + 1))) (100 * b1 + 2))) (100 * b1 + 3))) (100 * b0 + 4) ((fu (fu (fu (fu I (100 * b0 + 0) (I (100 * b1 + 0))) (100 * b0 + 1) ((fu I (100 * b0 + 0) (I (100 * b1 + 0))) (100 * b1 + 1))) (100 * b0 + 2) ((fu (fu I (100 * b0 + 0) (I (100 * b1 + 0))) (100 * b0 + 1) ((fu I (100 * b0 + 0) (I (100 * b1 + 0))) (100 * b1 + 1))) (100 * b1 + 2))) (100 * b0 + 3) ((fu (fu (fu I (100 * b0 + 0) (I (100 * b1 + 0))) (100 * b0 + 1) ((fu I (100 * b0 + 0) (I (100 * b1 + 0))) (100 * b1 + 1))) (100 * b0 + 2) ((fu (fu I (100 * b0 + 0) (I (100 * b1 + 0))) (100 * b0 + 1) ((fu I (100 * b0 + 0) (I (100 * b1 + 0))) (100 * b1 + 1))) (100 * b1 + 2))) (100 * b1 + 3))) (100 * b1 + 4))) (fu A (b0 + 1) X1) L F E)) ht_X4_become (Nat.le_of_ble_eq_true rfl) rfl (sS_ar1 hb1) (sS_ar1 hb0) (fun _ => sS_ast1 hb0)).trans ?_
  refine bind_cg fun X1 hX1 => ?_
  exact sg_ret ht_X4_become rfl rfl
