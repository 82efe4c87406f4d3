/-! the law ends, and answers 1 -/
section LWP
variable {scr : List Int32}
set_option maxRecDepth 20000 in
theorem lw_loop (hs : scr.length ≤ 3072) : ∀ (d i : Nat) (I : Nat → Int32) (A : Nat → List Int32) (L : Nat → List Int64) (F : Nat → Int64) (E : MH), scr.length < i + 6 + 6 * d → i ≤ scr.length → Sim I A L → ∃ hf : MH, mm_run (mm_G scr) 0 18 (lwL i) [] (HP I A L F E) = some (some (.int 1), hf) ∧ hf.length ≤ 105 + E.length + 9 * d := by
  intro d
  induction d with
  | zero =>
    intro i I A L F E hd hi hS
    have hcond : nI scr.length - 6 < nI i := by
      have e6 : (6 : Int32).toInt = 6 := rfl
      rw [i_lt, i_sub (by rw [nI_toInt (by omega)]; omega) (by rw [nI_toInt (by omega)]; omega), nI_toInt (by omega), nI_toInt (by omega), e6]
      omega
    refine ⟨HP I A L F E, ?_, by show E.length + 105 ≤ _; omega⟩
    refine (lw_st (L' := lwL i) (st' := [.int (nI i)]) (h' := HP I A L F E) (pc' := 19) rfl rfl).trans ?_
    refine (lw_st (L' := lwL i) (st' := [.ref 0, .int (nI i)]) (h' := HP I A L F E) (pc' := 20) rfl rfl).trans ?_
    refine (lw_st (L' := lwL i) (st' := [.int (nI scr.length), .int (nI i)]) (h' := HP I A L F E) (pc' := 21) rfl rfl).trans ?_
    refine (lw_st (L' := lwL i) (st' := [.int 6, .int (nI scr.length), .int (nI i)]) (h' := HP I A L F E) (pc' := 23) rfl rfl).trans ?_
    refine (lw_st (L' := lwL i) (st' := [.int (nI scr.length - 6), .int (nI i)]) (h' := HP I A L F E) (pc' := 24) rfl rfl).trans ?_
    refine (lw_st (L' := lwL i) (st' := []) (h' := HP I A L F E) (pc' := 1433) rfl (by
      show some (Sum.inl (if decide (nI scr.length - 6 < nI i) = true then 1433 else 27, _, _, _)) = _
      rw [if_pos (decide_eq_true hcond)])).trans ?_
    refine (lw_st (L' := lwL i) (st' := [.int 1]) (h' := HP I A L F E) (pc' := 1434) rfl rfl).trans ?_
    exact mm_ret (show mm_act (mm_G scr) 0 1434 = some ac_retZ from rfl) rfl
  | succ d ih =>
    intro i I A L F E hd hi hS
    have e6 : (6 : Int32).toInt = 6 := rfl
    have es : (nI scr.length - 6).toInt = (scr.length : Int) - 6 := by rw [i_sub (by rw [nI_toInt (by omega)]; omega) (by rw [nI_toInt (by omega)]; omega), nI_toInt (by omega), e6]
    have head : mm_run (mm_G scr) 0 18 (lwL i) [] (HP I A L F E) = mm_run (mm_G scr) 0 (if decide (nI scr.length - 6 < nI i) = true then 1433 else 27) (lwL i) [] (HP I A L F E) := by
      refine (lw_st (L' := lwL i) (st' := [.int (nI i)]) (h' := HP I A L F E) (pc' := 19) rfl rfl).trans ?_
      refine (lw_st (L' := lwL i) (st' := [.ref 0, .int (nI i)]) (h' := HP I A L F E) (pc' := 20) rfl rfl).trans ?_
      refine (lw_st (L' := lwL i) (st' := [.int (nI scr.length), .int (nI i)]) (h' := HP I A L F E) (pc' := 21) rfl rfl).trans ?_
      refine (lw_st (L' := lwL i) (st' := [.int 6, .int (nI scr.length), .int (nI i)]) (h' := HP I A L F E) (pc' := 23) rfl rfl).trans ?_
      refine (lw_st (L' := lwL i) (st' := [.int (nI scr.length - 6), .int (nI i)]) (h' := HP I A L F E) (pc' := 24) rfl rfl).trans ?_
      exact lw_st rfl rfl
    by_cases hc : scr.length < i + 6
    · have hcond : nI scr.length - 6 < nI i := by
        rw [i_lt, es, nI_toInt (by omega)]
        omega
      refine ⟨HP I A L F E, ?_, by show E.length + 105 ≤ _; omega⟩
      rw [head, if_pos (decide_eq_true hcond)]
      refine (lw_st (L' := lwL i) (st' := [.int 1]) (h' := HP I A L F E) (pc' := 1434) rfl rfl).trans ?_
      exact mm_ret (show mm_act (mm_G scr) 0 1434 = some ac_retZ from rfl) rfl
    · have hcond : ¬ (nI scr.length - 6 < nI i) := by
        rw [i_lt, es, nI_toInt (by omega)]
        omega
      have hi6 : i + 6 ≤ scr.length := by omega
      obtain ⟨j, hj, ej⟩ := pk_andE (scr.getD i 0) (m := 63) 6 (by decide)
      have sw : mm_run (mm_G scr) 0 18 (lwL i) [] (HP I A L F E) = mm_run (mm_G scr) 0 ([196, 229, 252, 296, 330, 364, 398, 421, 434, 477, 500, 543, 576, 599, 622, 666, 699, 722, 766, 820, 863, 886, 919, 952, 986, 1020, 1053, 1076, 1109, 1122, 1165, 1178, 1191, 1214, 1257, 1330, 1364].getD j 1427) (lwL i) [] (HP I A L F E) := by
        rw [head, if_neg (show ¬ decide (nI scr.length - 6 < nI i) = true from fun q => hcond (of_decide_eq_true q))]
        refine (lw_st (L' := lwL i) (st' := [.ref 0]) (h' := HP I A L F E) (pc' := 28) rfl rfl).trans ?_
        refine (lw_st (L' := lwL i) (st' := [.int (nI i), .ref 0]) (h' := HP I A L F E) (pc' := 29) rfl rfl).trans ?_
        refine (lw_st (L' := lwL i) (st' := [.int (scr.getD i 0)]) (h' := HP I A L F E) (pc' := 30) (a := ac_sld scr 30) rfl (by
          have hb : i < 2 ^ 31 := by omega
          show (if ¬ nI i < 0 then (scr[(nI i).toNatClampNeg]?).map _ else none) = _
          rw [if_pos (nI_nneg hb), nI_clamp hb, List.getD_eq_getElem?_getD, List.getElem?_eq_getElem (by omega)]
          rfl)).trans ?_
        refine (lw_st (L' := lwL i) (st' := [.int 63, .int (scr.getD i 0)]) (h' := HP I A L F E) (pc' := 32) rfl rfl).trans ?_
        refine (lw_st (L' := lwL i) (st' := [.int (scr.getD i 0 &&& 63)]) (h' := HP I A L F E) (pc' := 33) rfl rfl).trans ?_
        refine lw_st (a := ac_sw 0 [196, 229, 252, 296, 330, 364, 398, 421, 434, 477, 500, 543, 576, 599, 622, 666, 699, 722, 766, 820, 863, 886, 919, 952, 986, 1020, 1053, 1076, 1109, 1122, 1165, 1178, 1191, 1214, 1257, 1330, 1364] 1427) rfl ?_
        rw [ej]
        show some (Sum.inl (if (nI j).toInt < 0 then _ else List.getD _ ((nI j).toInt - 0).toNat _, _, _, _)) = _
        rw [nI_toInt (by omega), if_neg (by omega), show ((j : Int) - 0).toNat = j by omega]
      have cs : ∃ pc, [196, 229, 252, 296, 330, 364, 398, 421, 434, 477, 500, 543, 576, 599, 622, 666, 699, 722, 766, 820, 863, 886, 919, 952, 986, 1020, 1053, 1076, 1109, 1122, 1165, 1178, 1191, 1214, 1257, 1330, 1364].getD j 1427 = pc ∧ Lc scr pc i I A L F E := by
        match j with
        | 0 => exact ⟨_, rfl, lc_0 hs hi6 hS⟩
        | 1 => exact ⟨_, rfl, lc_1 hs hi6 hS⟩
        | 2 => exact ⟨_, rfl, lc_2 hs hi6 hS⟩
        | 3 => exact ⟨_, rfl, lc_3 hs hi6 hS⟩
        | 4 => exact ⟨_, rfl, lc_4 hs hi6 hS⟩
        | 5 => exact ⟨_, rfl, lc_5 hs hi6 hS⟩
        | 6 => exact ⟨_, rfl, lc_6 hs hi6 hS⟩
        | 7 => exact ⟨_, rfl, lc_7 hs hi6 hS⟩
        | 8 => exact ⟨_, rfl, lc_8 hs hi6 hS⟩
        | 9 => exact ⟨_, rfl, lc_9 hs hi6 hS⟩
        | 10 => exact ⟨_, rfl, lc_10 hs hi6 hS⟩
        | 11 => exact ⟨_, rfl, lc_11 hs hi6 hS⟩
        | 12 => exact ⟨_, rfl, lc_12 hs hi6 hS⟩
        | 13 => exact ⟨_, rfl, lc_13 hs hi6 hS⟩
        | 14 => exact ⟨_, rfl, lc_14 hs hi6 hS⟩
        | 15 => exact ⟨_, rfl, lc_15 hs hi6 hS⟩
        | 16 => exact ⟨_, rfl, lc_16 hs hi6 hS⟩
        | 17 => exact ⟨_, rfl, lc_17 hs hi6 hS⟩
        | 18 => exact ⟨_, rfl, lc_18 hs hi6 hS⟩
        | 19 => exact ⟨_, rfl, lc_19 hs hi6 hS⟩
        | 20 => exact ⟨_, rfl, lc_20 hs hi6 hS⟩
        | 21 => exact ⟨_, rfl, lc_21 hs hi6 hS⟩
        | 22 => exact ⟨_, rfl, lc_22 hs hi6 hS⟩
        | 23 => exact ⟨_, rfl, lc_23 hs hi6 hS⟩
        | 24 => exact ⟨_, rfl, lc_24 hs hi6 hS⟩
        | 25 => exact ⟨_, rfl, lc_25 hs hi6 hS⟩
        | 26 => exact ⟨_, rfl, lc_26 hs hi6 hS⟩
        | 27 => exact ⟨_, rfl, lc_27 hs hi6 hS⟩
        | 28 => exact ⟨_, rfl, lc_28 hs hi6 hS⟩
        | 29 => exact ⟨_, rfl, lc_29 hs hi6 hS⟩
        | 30 => exact ⟨_, rfl, lc_30 hs hi6 hS⟩
        | 31 => exact ⟨_, rfl, lc_31 hs hi6 hS⟩
        | 32 => exact ⟨_, rfl, lc_32 hs hi6 hS⟩
        | 33 => exact ⟨_, rfl, lc_33 hs hi6 hS⟩
        | 34 => exact ⟨_, rfl, lc_34 hs hi6 hS⟩
        | 35 => exact ⟨_, rfl, lc_35 hs hi6 hS⟩
        | 36 => exact ⟨_, rfl, lc_36 hs hi6 hS⟩
        | n + 37 => exact ⟨_, rfl, I, A, L, F, E, rfl, hS, Nat.le_add_right _ _⟩
      obtain ⟨pc, epc, I', A', L', F', E', x1, x2, x3⟩ := cs
      obtain ⟨hf, y1, y2⟩ := ih (i + 6) I' A' L' F' E' (by omega) (by omega) x2
      refine ⟨hf, ?_, by omega⟩
      rw [sw, epc, x1]
      refine (lw_st (L' := lwL (i + 6)) (st' := []) (h' := HP I' A' L' F' E') (pc' := 1430) (a := ac_inc 3 6 1430) rfl ?_).trans ?_
      · show some (Sum.inl (1430, [some (Value.ref 0), some (Value.ref 1), some (Value.ref 84), some (Value.int (nI i + 6))], _, _)) = _
        rw [show (6 : Int32) = nI 6 from rfl, nI_add]
      · exact (lw_st (L' := lwL (i + 6)) (st' := []) (h' := HP I' A' L' F' E') (pc' := 18) rfl rfl).trans y1
set_option maxRecDepth 20000 in
theorem hpure (scr : List Int32) (hs : scr.length ≤ 3072) : ∃ hf : MH, mm_run (mm_G scr) 0 0 (mm_loc [.ref 0] 4) [] [mm_dummy] = some (some (.int 1), hf) ∧ hf.length ≤ 18000 := by
  obtain ⟨hf, x1, x2⟩ := lw_loop hs 512 0 I0 A0 L0 Fl0 [] (by omega) (Nat.zero_le _) sim_0
  refine ⟨hf, ?_, by
    have : ([] : MH).length = 0 := rfl
    omega⟩
  refine Eq.trans ?_ x1
  show mm_run (mm_G scr) 0 0 [some (.ref 0), none, none, none] [] [mm_dummy] = _
  refine (lw_st (L' := [some (.ref 0), none, none, none]) (st' := [.ref 1]) (h' := [mm_dummy, .inl (7, [.null, .null, .int 0, .null, .null, .null, .null, .null, .null])]) (pc' := 3) rfl rfl).trans ?_
  refine (lw_st (L' := [some (.ref 0), none, none, none]) (st' := [.ref 1, .ref 1]) (h' := [mm_dummy, .inl (7, [.null, .null, .int 0, .null, .null, .null, .null, .null, .null])]) (pc' := 4) rfl rfl).trans ?_
  refine (lw_callI (mj := 58) (as := [.ref 1]) (rest := [.ref 1]) rfl rfl rfl (Nat.le_of_ble_eq_true rfl) (lw_k (by decide) (Nat.le_of_ble_eq_true rfl))).trans ?_
  rw [g0_call scr (by decide), cx_call, Option.bind_some]
  show mm_run (mm_G scr) 0 7 [some (.ref 0), none, none, none] [.ref 1] ((HP I0 A0 L0 Fl0 []).take 84) = _
  refine (lw_st (L' := [some (.ref 0), some (.ref 1), none, none]) (st' := []) (h' := (HP I0 A0 L0 Fl0 []).take 84) (pc' := 8) rfl rfl).trans ?_
  refine (lw_st (L' := [some (.ref 0), some (.ref 1), none, none]) (st' := [.ref 84]) (h' := (HP I0 A0 L0 Fl0 []).take 84 ++ [.inl (8, [.null, .null, .null, .int 0, .null, .int 0, .int 0, .int 0, .null, .int 0, .null, .null, .null, .null, .null, .int 0, .int 0, .int 0, .null, .null, .null, .null])]) (pc' := 11) rfl rfl).trans ?_
  refine (lw_st (L' := [some (.ref 0), some (.ref 1), none, none]) (st' := [.ref 84, .ref 84]) (h' := (HP I0 A0 L0 Fl0 []).take 84 ++ [.inl (8, [.null, .null, .null, .int 0, .null, .int 0, .int 0, .int 0, .null, .int 0, .null, .null, .null, .null, .null, .int 0, .int 0, .int 0, .null, .null, .null, .null])]) (pc' := 12) rfl rfl).trans ?_
  refine (lw_callI (mj := 111) (as := [.ref 84]) (rest := [.ref 84]) rfl rfl rfl (Nat.le_of_ble_eq_true rfl) (lw_k (by decide) (Nat.le_of_ble_eq_true rfl))).trans ?_
  rw [g0_call scr (by decide), cm_call, Option.bind_some]
  show mm_run (mm_G scr) 0 15 [some (.ref 0), some (.ref 1), none, none] [.ref 84] (HP I0 A0 L0 Fl0 []) = _
  refine (lw_st (L' := [some (.ref 0), some (.ref 1), some (.ref 84), none]) (st' := []) (h' := HP I0 A0 L0 Fl0 []) (pc' := 16) rfl rfl).trans ?_
  refine (lw_st (L' := [some (.ref 0), some (.ref 1), some (.ref 84), none]) (st' := [.int 0]) (h' := HP I0 A0 L0 Fl0 []) (pc' := 17) rfl rfl).trans ?_
  exact lw_st (L' := lwL 0) (st' := []) (h' := HP I0 A0 L0 Fl0 []) (pc' := 18) rfl rfl
end LWP
