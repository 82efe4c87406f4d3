/-! the law's cases -/
abbrev lwL (i : Nat) : ML := [some (.ref 0), some (.ref 1), some (.ref 84), some (.int (nI i))]
section LWR
variable {scr : List Int32} {pc n : Nat} {L : ML} {h : MH} {r : List Value}
theorem lw_st {a : Act} {pc' : Nat} {L' : ML} {st st' : List Value} {h' : MH} (e : (tb_L_law scr).lookup pc = some a) (hr : a L st h = some (.inl (pc', L', st', h'))) : mm_run (mm_G scr) 0 pc L st h = mm_run (mm_G scr) 0 pc' L' st' h' := mm_step (show mm_act (mm_G scr) 0 pc = some a from e) hr
theorem lw_ld1 {i : Nat} {L : ML} (e : (tb_L_law scr).lookup pc = some (ac_ldA 1 n)) (hL : L = lwL i) : mm_run (mm_G scr) 0 pc L r h = mm_run (mm_G scr) 0 n L (.ref 1 :: r) h := by
  subst hL
  exact lw_st e rfl
theorem lw_ld2 {i : Nat} {L : ML} (e : (tb_L_law scr).lookup pc = some (ac_ldA 2 n)) (hL : L = lwL i) : mm_run (mm_G scr) 0 pc L r h = mm_run (mm_G scr) 0 n L (.ref 84 :: r) h := by
  subst hL
  exact lw_st e rfl
theorem lw_rd {i j p1 p2 p3 p4 : Nat} (hi : i + j < scr.length) (hs : scr.length ≤ 3072) (e0 : (tb_L_law scr).lookup pc = some (ac_ldA 0 p1)) (e1 : (tb_L_law scr).lookup p1 = some (ac_ldI 3 p2)) (e2 : (tb_L_law scr).lookup p2 = some (ac_push (.int (nI j)) p3)) (e3 : (tb_L_law scr).lookup p3 = some (ac_bI (fun x y => x + y) p4)) (e4 : (tb_L_law scr).lookup p4 = some (ac_sld scr n)) : mm_run (mm_G scr) 0 pc (lwL i) r h = mm_run (mm_G scr) 0 n (lwL i) (.int (scr.getD (i + j) 0) :: r) h := by
  refine (lw_st (L' := lwL i) (st' := .ref 0 :: r) (h' := h) (pc' := p1) e0 rfl).trans ?_
  refine (lw_st (L' := lwL i) (st' := .int (nI i) :: .ref 0 :: r) (h' := h) (pc' := p2) e1 rfl).trans ?_
  refine (lw_st (L' := lwL i) (st' := .int (nI j) :: .int (nI i) :: .ref 0 :: r) (h' := h) (pc' := p3) e2 rfl).trans ?_
  refine (lw_st (L' := lwL i) (st' := .int (nI i + nI j) :: .ref 0 :: r) (h' := h) (pc' := p4) e3 rfl).trans ?_
  refine lw_st e4 ?_
  have hb : i + j < 2 ^ 31 := by omega
  rw [nI_add]
  show (if ¬ nI (i + j) < 0 then (scr[(nI (i + j)).toNatClampNeg]?).map _ else none) = _
  rw [if_pos (nI_nneg hb), nI_clamp hb, List.getD_eq_getElem?_getD, List.getElem?_eq_getElem hi]
  rfl
theorem lw_k {mj : Nat} {as : List Value} (h1 : mm_rk G0 mj < mm_rk G0 0) (h2 : (mm_ent as).length ≤ mm_ml G0 mj) : mm_rk (mm_G scr) mj < mm_rk (mm_G scr) 0 ∧ (mm_ent as).length ≤ mm_ml (mm_G scr) mj := by
  rw [g0_rk, g0_rk, g0_ml]
  exact ⟨h1, h2⟩
theorem lw_callV {mj ci np b : Nat} {fs : List Value} {st as rest : List Value} (e : (tb_L_law scr).lookup pc = some (ac_callV mj ci np n)) (hd : st.drop np = .ref b :: rest) (ha : .ref b :: (st.take np).reverse = as) (hcat : mm_cat rest ≤ 8) (hc : h[b]? = some (.inl (ci, fs))) (hk : mm_rk (mm_G scr) mj < mm_rk (mm_G scr) 0 ∧ (mm_ent as).length ≤ mm_ml (mm_G scr) mj) : mm_run (mm_G scr) 0 pc L st h = (mm_call (mm_G scr) mj as h).bind fun q => mm_run (mm_G scr) 0 n L (q.1.toList ++ rest) q.2 := by
  refine mm_cal (show mm_act (mm_G scr) 0 pc = some _ from e) ?_ hk
  have hi : mm_is h b ci = true := by
    unfold mm_is
    rw [hc]
    exact beq_self_eq_true ci
  unfold ac_callV
  rw [hd]
  dsimp only
  rw [if_pos ⟨hcat, hi⟩, ha]
theorem lw_callI {mj np b : Nat} {st as rest : List Value} (e : (tb_L_law scr).lookup pc = some (ac_callI mj np n)) (hd : st.drop np = .ref b :: rest) (ha : .ref b :: (st.take np).reverse = as) (hcat : mm_cat rest ≤ 8) (hk : mm_rk (mm_G scr) mj < mm_rk (mm_G scr) 0 ∧ (mm_ent as).length ≤ mm_ml (mm_G scr) mj) : mm_run (mm_G scr) 0 pc L st h = (mm_call (mm_G scr) mj as h).bind fun q => mm_run (mm_G scr) 0 n L (q.1.toList ++ rest) q.2 := by
  refine mm_cal (show mm_act (mm_G scr) 0 pc = some _ from e) ?_ hk
  unfold ac_callI
  rw [hd]
  dsimp only
  rw [if_pos hcat, ha]
theorem lw_same {z : Int32} (e : (tb_L_law scr).lookup pc = some (ac_cmp (fun x y => decide (x = y)) 1427 n)) : mm_run (mm_G scr) 0 pc L [.int z, .int z] h = mm_run (mm_G scr) 0 1427 L [] h := by
  refine lw_st e ?_
  show some (Sum.inl (if decide (z = z) = true then 1427 else n, L, [], h)) = _
  rw [if_pos (decide_eq_true rfl)]
theorem lw_sameL {z : Int64} {n2 : Nat} (e : (tb_L_law scr).lookup pc = some (ac_lcmp n)) (e2 : (tb_L_law scr).lookup n = some (ac_if (fun x => decide (x = 0)) 1427 n2)) : mm_run (mm_G scr) 0 pc L [.long z, .long z] h = mm_run (mm_G scr) 0 1427 L [] h := by
  refine (lw_st (L' := L) (st' := [.int (lg_cmp z z)]) (h' := h) (pc' := n) e rfl).trans ?_
  refine lw_st e2 ?_
  show some (Sum.inl (if decide (lg_cmp z z = 0) = true then 1427 else n2, L, [], h)) = _
  rw [if_pos (decide_eq_true ((lg_cmp_eq z z).mpr rfl))]
/-- from the case's place to the loop's end -/
def Lc (scr : List Int32) (pc i : Nat) (I : Nat → Int32) (A : Nat → List Int32) (L : Nat → List Int64) (F : Nat → Int64) (E : MH) : Prop := ∃ (I' : Nat → Int32) (A' : Nat → List Int32) (L' : Nat → List Int64) (F' : Nat → Int64) (E' : MH), mm_run (mm_G scr) 0 pc (lwL i) [] (HP I A L F E) = mm_run (mm_G scr) 0 1427 (lwL i) [] (HP I' A' L' F' E') ∧ Sim I' A' L' ∧ E'.length ≤ E.length + 9
set_option maxRecDepth 20000 in
theorem lc_0 {i : Nat} {I : Nat → Int32} {A : Nat → List Int32} {L : Nat → List Int64} {F : Nat → Int64} {E : MH} (hs : scr.length ≤ 3072) (hi : i + 6 ≤ scr.length) (hS : Sim I A L) : Lc scr 196 i I A L F E := by
  obtain ⟨v, I1, A1, L1, F1, E1, I', A', L', F', E', ⟨z, hz⟩, x1, x2, x3, x4⟩ := pr_value ((scr.getD (i + 1) 0)) ((scr.getD (i + 2) 0)) I A L F E hS
  subst hz
  refine ⟨I', A', L', F', E', ?_, x3, x4⟩
  refine (lw_ld1 (L := lwL i) rfl rfl).trans ?_
  refine (lw_rd (j := 1) (by omega) hs rfl rfl rfl rfl rfl).trans ?_
  refine (lw_rd (j := 2) (by omega) hs rfl rfl rfl rfl rfl).trans ?_
  refine (lw_callV (mj := 59) (as := [.ref 1, .int (scr.getD (i + 1) 0), .int (scr.getD (i + 2) 0)]) (rest := []) rfl rfl rfl (Nat.le_of_ble_eq_true rfl) hp_o_1 (lw_k (by decide) (Nat.le_of_ble_eq_true rfl))).trans ?_
  rw [g0_call scr (by decide), x1, Option.bind_some]
  show mm_run (mm_G scr) 0 210 (lwL i) [.int z] (HP I1 A1 L1 F1 E1) = _
  refine (lw_ld2 (L := lwL i) rfl rfl).trans ?_
  refine (lw_rd (j := 1) (by omega) hs rfl rfl rfl rfl rfl).trans ?_
  refine (lw_rd (j := 2) (by omega) hs rfl rfl rfl rfl rfl).trans ?_
  refine (lw_callV (mj := 119) (as := [.ref 84, .int (scr.getD (i + 1) 0), .int (scr.getD (i + 2) 0)]) (rest := [.int z]) rfl rfl rfl (Nat.le_of_ble_eq_true rfl) hp_o_84 (lw_k (by decide) (Nat.le_of_ble_eq_true rfl))).trans ?_
  rw [g0_call scr (by decide), x2, Option.bind_some]
  show mm_run (mm_G scr) 0 224 (lwL i) [.int z, .int z] (HP I' A' L' F' E') = _
  exact lw_same rfl
set_option maxRecDepth 20000 in
theorem lc_1 {i : Nat} {I : Nat → Int32} {A : Nat → List Int32} {L : Nat → List Int64} {F : Nat → Int64} {E : MH} (hs : scr.length ≤ 3072) (hi : i + 6 ≤ scr.length) (hS : Sim I A L) : Lc scr 229 i I A L F E := by
  obtain ⟨v, I1, A1, L1, F1, E1, I', A', L', F', E', ⟨z, hz⟩, x1, x2, x3, x4⟩ := pr_drop ((scr.getD (i + 1) 0)) I A L F E hS
  subst hz
  refine ⟨I', A', L', F', E', ?_, x3, x4⟩
  refine (lw_ld1 (L := lwL i) rfl rfl).trans ?_
  refine (lw_rd (j := 1) (by omega) hs rfl rfl rfl rfl rfl).trans ?_
  refine (lw_callV (mj := 60) (as := [.ref 1, .int (scr.getD (i + 1) 0)]) (rest := []) rfl rfl rfl (Nat.le_of_ble_eq_true rfl) hp_o_1 (lw_k (by decide) (Nat.le_of_ble_eq_true rfl))).trans ?_
  rw [g0_call scr (by decide), x1, Option.bind_some]
  show mm_run (mm_G scr) 0 238 (lwL i) [.int z] (HP I1 A1 L1 F1 E1) = _
  refine (lw_ld2 (L := lwL i) rfl rfl).trans ?_
  refine (lw_rd (j := 1) (by omega) hs rfl rfl rfl rfl rfl).trans ?_
  refine (lw_callV (mj := 120) (as := [.ref 84, .int (scr.getD (i + 1) 0)]) (rest := [.int z]) rfl rfl rfl (Nat.le_of_ble_eq_true rfl) hp_o_84 (lw_k (by decide) (Nat.le_of_ble_eq_true rfl))).trans ?_
  rw [g0_call scr (by decide), x2, Option.bind_some]
  show mm_run (mm_G scr) 0 247 (lwL i) [.int z, .int z] (HP I' A' L' F' E') = _
  exact lw_same rfl
set_option maxRecDepth 20000 in
theorem lc_2 {i : Nat} {I : Nat → Int32} {A : Nat → List Int32} {L : Nat → List Int64} {F : Nat → Int64} {E : MH} (hs : scr.length ≤ 3072) (hi : i + 6 ≤ scr.length) (hS : Sim I A L) : Lc scr 252 i I A L F E := by
  obtain ⟨v, I1, A1, L1, F1, E1, I', A', L', F', E', ⟨z, hz⟩, x1, x2, x3, x4⟩ := pr_set ((scr.getD (i + 1) 0)) ((scr.getD (i + 2) 0)) ((scr.getD (i + 3) 0)) I A L F E hS
  subst hz
  refine ⟨I', A', L', F', E', ?_, x3, x4⟩
  refine (lw_ld1 (L := lwL i) rfl rfl).trans ?_
  refine (lw_rd (j := 1) (by omega) hs rfl rfl rfl rfl rfl).trans ?_
  refine (lw_rd (j := 2) (by omega) hs rfl rfl rfl rfl rfl).trans ?_
  refine (lw_rd (j := 3) (by omega) hs rfl rfl rfl rfl rfl).trans ?_
  refine (lw_callV (mj := 61) (as := [.ref 1, .int (scr.getD (i + 1) 0), .int (scr.getD (i + 2) 0), .int (scr.getD (i + 3) 0)]) (rest := []) rfl rfl rfl (Nat.le_of_ble_eq_true rfl) hp_o_1 (lw_k (by decide) (Nat.le_of_ble_eq_true rfl))).trans ?_
  rw [g0_call scr (by decide), x1, Option.bind_some]
  show mm_run (mm_G scr) 0 271 (lwL i) [.long z] (HP I1 A1 L1 F1 E1) = _
  refine (lw_ld2 (L := lwL i) rfl rfl).trans ?_
  refine (lw_rd (j := 1) (by omega) hs rfl rfl rfl rfl rfl).trans ?_
  refine (lw_rd (j := 2) (by omega) hs rfl rfl rfl rfl rfl).trans ?_
  refine (lw_rd (j := 3) (by omega) hs rfl rfl rfl rfl rfl).trans ?_
  refine (lw_callV (mj := 122) (as := [.ref 84, .int (scr.getD (i + 1) 0), .int (scr.getD (i + 2) 0), .int (scr.getD (i + 3) 0)]) (rest := [.long z]) rfl rfl rfl (Nat.le_of_ble_eq_true rfl) hp_o_84 (lw_k (by decide) (Nat.le_of_ble_eq_true rfl))).trans ?_
  rw [g0_call scr (by decide), x2, Option.bind_some]
  show mm_run (mm_G scr) 0 290 (lwL i) [.long z, .long z] (HP I' A' L' F' E') = _
  exact lw_sameL rfl rfl
set_option maxRecDepth 20000 in
theorem lc_3 {i : Nat} {I : Nat → Int32} {A : Nat → List Int32} {L : Nat → List Int64} {F : Nat → Int64} {E : MH} (hs : scr.length ≤ 3072) (hi : i + 6 ≤ scr.length) (hS : Sim I A L) : Lc scr 296 i I A L F E := by
  obtain ⟨v, I1, A1, L1, F1, E1, I', A', L', F', E', ⟨z, hz⟩, x1, x2, x3, x4⟩ := pr_of ((scr.getD (i + 1) 0)) ((scr.getD (i + 2) 0)) I A L F E hS
  subst hz
  refine ⟨I', A', L', F', E', ?_, x3, x4⟩
  refine (lw_ld1 (L := lwL i) rfl rfl).trans ?_
  refine (lw_rd (j := 1) (by omega) hs rfl rfl rfl rfl rfl).trans ?_
  refine (lw_rd (j := 2) (by omega) hs rfl rfl rfl rfl rfl).trans ?_
  refine (lw_callV (mj := 62) (as := [.ref 1, .int (scr.getD (i + 1) 0), .int (scr.getD (i + 2) 0)]) (rest := []) rfl rfl rfl (Nat.le_of_ble_eq_true rfl) hp_o_1 (lw_k (by decide) (Nat.le_of_ble_eq_true rfl))).trans ?_
  rw [g0_call scr (by decide), x1, Option.bind_some]
  show mm_run (mm_G scr) 0 310 (lwL i) [.long z] (HP I1 A1 L1 F1 E1) = _
  refine (lw_ld2 (L := lwL i) rfl rfl).trans ?_
  refine (lw_rd (j := 1) (by omega) hs rfl rfl rfl rfl rfl).trans ?_
  refine (lw_rd (j := 2) (by omega) hs rfl rfl rfl rfl rfl).trans ?_
  refine (lw_callV (mj := 124) (as := [.ref 84, .int (scr.getD (i + 1) 0), .int (scr.getD (i + 2) 0)]) (rest := [.long z]) rfl rfl rfl (Nat.le_of_ble_eq_true rfl) hp_o_84 (lw_k (by decide) (Nat.le_of_ble_eq_true rfl))).trans ?_
  rw [g0_call scr (by decide), x2, Option.bind_some]
  show mm_run (mm_G scr) 0 324 (lwL i) [.long z, .long z] (HP I' A' L' F' E') = _
  exact lw_sameL rfl rfl
set_option maxRecDepth 20000 in
theorem lc_4 {i : Nat} {I : Nat → Int32} {A : Nat → List Int32} {L : Nat → List Int64} {F : Nat → Int64} {E : MH} (hs : scr.length ≤ 3072) (hi : i + 6 ≤ scr.length) (hS : Sim I A L) : Lc scr 330 i I A L F E := by
  obtain ⟨v, I1, A1, L1, F1, E1, I', A', L', F', E', ⟨z, hz⟩, x1, x2, x3, x4⟩ := pr_at ((scr.getD (i + 1) 0)) ((scr.getD (i + 2) 0)) I A L F E hS
  subst hz
  refine ⟨I', A', L', F', E', ?_, x3, x4⟩
  refine (lw_ld1 (L := lwL i) rfl rfl).trans ?_
  refine (lw_rd (j := 1) (by omega) hs rfl rfl rfl rfl rfl).trans ?_
  refine (lw_rd (j := 2) (by omega) hs rfl rfl rfl rfl rfl).trans ?_
  refine (lw_callV (mj := 63) (as := [.ref 1, .int (scr.getD (i + 1) 0), .int (scr.getD (i + 2) 0)]) (rest := []) rfl rfl rfl (Nat.le_of_ble_eq_true rfl) hp_o_1 (lw_k (by decide) (Nat.le_of_ble_eq_true rfl))).trans ?_
  rw [g0_call scr (by decide), x1, Option.bind_some]
  show mm_run (mm_G scr) 0 344 (lwL i) [.long z] (HP I1 A1 L1 F1 E1) = _
  refine (lw_ld2 (L := lwL i) rfl rfl).trans ?_
  refine (lw_rd (j := 1) (by omega) hs rfl rfl rfl rfl rfl).trans ?_
  refine (lw_rd (j := 2) (by omega) hs rfl rfl rfl rfl rfl).trans ?_
  refine (lw_callV (mj := 127) (as := [.ref 84, .int (scr.getD (i + 1) 0), .int (scr.getD (i + 2) 0)]) (rest := [.long z]) rfl rfl rfl (Nat.le_of_ble_eq_true rfl) hp_o_84 (lw_k (by decide) (Nat.le_of_ble_eq_true rfl))).trans ?_
  rw [g0_call scr (by decide), x2, Option.bind_some]
  show mm_run (mm_G scr) 0 358 (lwL i) [.long z, .long z] (HP I' A' L' F' E') = _
  exact lw_sameL rfl rfl
set_option maxRecDepth 20000 in
theorem lc_5 {i : Nat} {I : Nat → Int32} {A : Nat → List Int32} {L : Nat → List Int64} {F : Nat → Int64} {E : MH} (hs : scr.length ≤ 3072) (hi : i + 6 ≤ scr.length) (hS : Sim I A L) : Lc scr 364 i I A L F E := by
  obtain ⟨v, I1, A1, L1, F1, E1, I', A', L', F', E', ⟨z, hz⟩, x1, x2, x3, x4⟩ := pr_off ((scr.getD (i + 1) 0)) ((scr.getD (i + 2) 0)) I A L F E hS
  subst hz
  refine ⟨I', A', L', F', E', ?_, x3, x4⟩
  refine (lw_ld1 (L := lwL i) rfl rfl).trans ?_
  refine (lw_rd (j := 1) (by omega) hs rfl rfl rfl rfl rfl).trans ?_
  refine (lw_rd (j := 2) (by omega) hs rfl rfl rfl rfl rfl).trans ?_
  refine (lw_callV (mj := 64) (as := [.ref 1, .int (scr.getD (i + 1) 0), .int (scr.getD (i + 2) 0)]) (rest := []) rfl rfl rfl (Nat.le_of_ble_eq_true rfl) hp_o_1 (lw_k (by decide) (Nat.le_of_ble_eq_true rfl))).trans ?_
  rw [g0_call scr (by decide), x1, Option.bind_some]
  show mm_run (mm_G scr) 0 378 (lwL i) [.long z] (HP I1 A1 L1 F1 E1) = _
  refine (lw_ld2 (L := lwL i) rfl rfl).trans ?_
  refine (lw_rd (j := 1) (by omega) hs rfl rfl rfl rfl rfl).trans ?_
  refine (lw_rd (j := 2) (by omega) hs rfl rfl rfl rfl rfl).trans ?_
  refine (lw_callV (mj := 128) (as := [.ref 84, .int (scr.getD (i + 1) 0), .int (scr.getD (i + 2) 0)]) (rest := [.long z]) rfl rfl rfl (Nat.le_of_ble_eq_true rfl) hp_o_84 (lw_k (by decide) (Nat.le_of_ble_eq_true rfl))).trans ?_
  rw [g0_call scr (by decide), x2, Option.bind_some]
  show mm_run (mm_G scr) 0 392 (lwL i) [.long z, .long z] (HP I' A' L' F' E') = _
  exact lw_sameL rfl rfl
set_option maxRecDepth 20000 in
theorem lc_6 {i : Nat} {I : Nat → Int32} {A : Nat → List Int32} {L : Nat → List Int64} {F : Nat → Int64} {E : MH} (hs : scr.length ≤ 3072) (hi : i + 6 ≤ scr.length) (hS : Sim I A L) : Lc scr 398 i I A L F E := by
  obtain ⟨v, I1, A1, L1, F1, E1, I', A', L', F', E', ⟨z, hz⟩, x1, x2, x3, x4⟩ := pr_feed ((scr.getD (i + 1) 0)) I A L F E hS
  subst hz
  refine ⟨I', A', L', F', E', ?_, x3, x4⟩
  refine (lw_ld1 (L := lwL i) rfl rfl).trans ?_
  refine (lw_rd (j := 1) (by omega) hs rfl rfl rfl rfl rfl).trans ?_
  refine (lw_callV (mj := 65) (as := [.ref 1, .int (scr.getD (i + 1) 0)]) (rest := []) rfl rfl rfl (Nat.le_of_ble_eq_true rfl) hp_o_1 (lw_k (by decide) (Nat.le_of_ble_eq_true rfl))).trans ?_
  rw [g0_call scr (by decide), x1, Option.bind_some]
  show mm_run (mm_G scr) 0 407 (lwL i) [.int z] (HP I1 A1 L1 F1 E1) = _
  refine (lw_ld2 (L := lwL i) rfl rfl).trans ?_
  refine (lw_rd (j := 1) (by omega) hs rfl rfl rfl rfl rfl).trans ?_
  refine (lw_callV (mj := 129) (as := [.ref 84, .int (scr.getD (i + 1) 0)]) (rest := [.int z]) rfl rfl rfl (Nat.le_of_ble_eq_true rfl) hp_o_84 (lw_k (by decide) (Nat.le_of_ble_eq_true rfl))).trans ?_
  rw [g0_call scr (by decide), x2, Option.bind_some]
  show mm_run (mm_G scr) 0 416 (lwL i) [.int z, .int z] (HP I' A' L' F' E') = _
  exact lw_same rfl
set_option maxRecDepth 20000 in
theorem lc_7 {i : Nat} {I : Nat → Int32} {A : Nat → List Int32} {L : Nat → List Int64} {F : Nat → Int64} {E : MH} (hs : scr.length ≤ 3072) (hi : i + 6 ≤ scr.length) (hS : Sim I A L) : Lc scr 421 i I A L F E := by
  obtain ⟨v, I1, A1, L1, F1, E1, I', A', L', F', E', ⟨z, hz⟩, x1, x2, x3, x4⟩ := pr_read  I A L F E hS
  subst hz
  refine ⟨I', A', L', F', E', ?_, x3, x4⟩
  refine (lw_ld1 (L := lwL i) rfl rfl).trans ?_
  refine (lw_callV (mj := 66) (as := [.ref 1]) (rest := []) rfl rfl rfl (Nat.le_of_ble_eq_true rfl) hp_o_1 (lw_k (by decide) (Nat.le_of_ble_eq_true rfl))).trans ?_
  rw [g0_call scr (by decide), x1, Option.bind_some]
  show mm_run (mm_G scr) 0 425 (lwL i) [.int z] (HP I1 A1 L1 F1 E1) = _
  refine (lw_ld2 (L := lwL i) rfl rfl).trans ?_
  refine (lw_callV (mj := 136) (as := [.ref 84]) (rest := [.int z]) rfl rfl rfl (Nat.le_of_ble_eq_true rfl) hp_o_84 (lw_k (by decide) (Nat.le_of_ble_eq_true rfl))).trans ?_
  rw [g0_call scr (by decide), x2, Option.bind_some]
  show mm_run (mm_G scr) 0 429 (lwL i) [.int z, .int z] (HP I' A' L' F' E') = _
  exact lw_same rfl
set_option maxRecDepth 20000 in
theorem lc_8 {i : Nat} {I : Nat → Int32} {A : Nat → List Int32} {L : Nat → List Int64} {F : Nat → Int64} {E : MH} (hs : scr.length ≤ 3072) (hi : i + 6 ≤ scr.length) (hS : Sim I A L) : Lc scr 434 i I A L F E := by
  obtain ⟨v, I1, A1, L1, F1, E1, I', A', L', F', E', ⟨z, hz⟩, x1, x2, x3, x4⟩ := pr_sum ((scr.getD (i + 1) 0)) ((scr.getD (i + 2) 0)) ((scr.getD (i + 3) 0)) I A L F E hS
  subst hz
  refine ⟨I', A', L', F', E', ?_, x3, x4⟩
  refine (lw_ld1 (L := lwL i) rfl rfl).trans ?_
  refine (lw_rd (j := 1) (by omega) hs rfl rfl rfl rfl rfl).trans ?_
  refine (lw_rd (j := 2) (by omega) hs rfl rfl rfl rfl rfl).trans ?_
  refine (lw_rd (j := 3) (by omega) hs rfl rfl rfl rfl rfl).trans ?_
  refine (lw_callV (mj := 67) (as := [.ref 1, .int (scr.getD (i + 1) 0), .int (scr.getD (i + 2) 0), .int (scr.getD (i + 3) 0)]) (rest := []) rfl rfl rfl (Nat.le_of_ble_eq_true rfl) hp_o_1 (lw_k (by decide) (Nat.le_of_ble_eq_true rfl))).trans ?_
  rw [g0_call scr (by decide), x1, Option.bind_some]
  show mm_run (mm_G scr) 0 453 (lwL i) [.int z] (HP I1 A1 L1 F1 E1) = _
  refine (lw_ld2 (L := lwL i) rfl rfl).trans ?_
  refine (lw_rd (j := 1) (by omega) hs rfl rfl rfl rfl rfl).trans ?_
  refine (lw_rd (j := 2) (by omega) hs rfl rfl rfl rfl rfl).trans ?_
  refine (lw_rd (j := 3) (by omega) hs rfl rfl rfl rfl rfl).trans ?_
  refine (lw_callV (mj := 140) (as := [.ref 84, .int (scr.getD (i + 1) 0), .int (scr.getD (i + 2) 0), .int (scr.getD (i + 3) 0)]) (rest := [.int z]) rfl rfl rfl (Nat.le_of_ble_eq_true rfl) hp_o_84 (lw_k (by decide) (Nat.le_of_ble_eq_true rfl))).trans ?_
  rw [g0_call scr (by decide), x2, Option.bind_some]
  show mm_run (mm_G scr) 0 472 (lwL i) [.int z, .int z] (HP I' A' L' F' E') = _
  exact lw_same rfl
set_option maxRecDepth 20000 in
theorem lc_9 {i : Nat} {I : Nat → Int32} {A : Nat → List Int32} {L : Nat → List Int64} {F : Nat → Int64} {E : MH} (hs : scr.length ≤ 3072) (hi : i + 6 ≤ scr.length) (hS : Sim I A L) : Lc scr 477 i I A L F E := by
  obtain ⟨v, I1, A1, L1, F1, E1, I', A', L', F', E', ⟨z, hz⟩, x1, x2, x3, x4⟩ := pr_alarms ((scr.getD (i + 1) 0)) I A L F E hS
  subst hz
  refine ⟨I', A', L', F', E', ?_, x3, x4⟩
  refine (lw_ld1 (L := lwL i) rfl rfl).trans ?_
  refine (lw_rd (j := 1) (by omega) hs rfl rfl rfl rfl rfl).trans ?_
  refine (lw_callV (mj := 68) (as := [.ref 1, .int (scr.getD (i + 1) 0)]) (rest := []) rfl rfl rfl (Nat.le_of_ble_eq_true rfl) hp_o_1 (lw_k (by decide) (Nat.le_of_ble_eq_true rfl))).trans ?_
  rw [g0_call scr (by decide), x1, Option.bind_some]
  show mm_run (mm_G scr) 0 486 (lwL i) [.int z] (HP I1 A1 L1 F1 E1) = _
  refine (lw_ld2 (L := lwL i) rfl rfl).trans ?_
  refine (lw_rd (j := 1) (by omega) hs rfl rfl rfl rfl rfl).trans ?_
  refine (lw_callV (mj := 141) (as := [.ref 84, .int (scr.getD (i + 1) 0)]) (rest := [.int z]) rfl rfl rfl (Nat.le_of_ble_eq_true rfl) hp_o_84 (lw_k (by decide) (Nat.le_of_ble_eq_true rfl))).trans ?_
  rw [g0_call scr (by decide), x2, Option.bind_some]
  show mm_run (mm_G scr) 0 495 (lwL i) [.int z, .int z] (HP I' A' L' F' E') = _
  exact lw_same rfl
set_option maxRecDepth 20000 in
theorem lc_10 {i : Nat} {I : Nat → Int32} {A : Nat → List Int32} {L : Nat → List Int64} {F : Nat → Int64} {E : MH} (hs : scr.length ≤ 3072) (hi : i + 6 ≤ scr.length) (hS : Sim I A L) : Lc scr 500 i I A L F E := by
  obtain ⟨v, I1, A1, L1, F1, E1, I', A', L', F', E', ⟨z, hz⟩, x1, x2, x3, x4⟩ := pr_alarm ((scr.getD (i + 1) 0)) ((scr.getD (i + 2) 0)) ((scr.getD (i + 3) 0)) I A L F E hS
  subst hz
  refine ⟨I', A', L', F', E', ?_, x3, x4⟩
  refine (lw_ld1 (L := lwL i) rfl rfl).trans ?_
  refine (lw_rd (j := 1) (by omega) hs rfl rfl rfl rfl rfl).trans ?_
  refine (lw_rd (j := 2) (by omega) hs rfl rfl rfl rfl rfl).trans ?_
  refine (lw_rd (j := 3) (by omega) hs rfl rfl rfl rfl rfl).trans ?_
  refine (lw_callV (mj := 69) (as := [.ref 1, .int (scr.getD (i + 1) 0), .int (scr.getD (i + 2) 0), .int (scr.getD (i + 3) 0)]) (rest := []) rfl rfl rfl (Nat.le_of_ble_eq_true rfl) hp_o_1 (lw_k (by decide) (Nat.le_of_ble_eq_true rfl))).trans ?_
  rw [g0_call scr (by decide), x1, Option.bind_some]
  show mm_run (mm_G scr) 0 519 (lwL i) [.int z] (HP I1 A1 L1 F1 E1) = _
  refine (lw_ld2 (L := lwL i) rfl rfl).trans ?_
  refine (lw_rd (j := 1) (by omega) hs rfl rfl rfl rfl rfl).trans ?_
  refine (lw_rd (j := 2) (by omega) hs rfl rfl rfl rfl rfl).trans ?_
  refine (lw_rd (j := 3) (by omega) hs rfl rfl rfl rfl rfl).trans ?_
  refine (lw_callV (mj := 142) (as := [.ref 84, .int (scr.getD (i + 1) 0), .int (scr.getD (i + 2) 0), .int (scr.getD (i + 3) 0)]) (rest := [.int z]) rfl rfl rfl (Nat.le_of_ble_eq_true rfl) hp_o_84 (lw_k (by decide) (Nat.le_of_ble_eq_true rfl))).trans ?_
  rw [g0_call scr (by decide), x2, Option.bind_some]
  show mm_run (mm_G scr) 0 538 (lwL i) [.int z, .int z] (HP I' A' L' F' E') = _
  exact lw_same rfl
set_option maxRecDepth 20000 in
theorem lc_11 {i : Nat} {I : Nat → Int32} {A : Nat → List Int32} {L : Nat → List Int64} {F : Nat → Int64} {E : MH} (hs : scr.length ≤ 3072) (hi : i + 6 ≤ scr.length) (hS : Sim I A L) : Lc scr 543 i I A L F E := by
  obtain ⟨v, I1, A1, L1, F1, E1, I', A', L', F', E', ⟨z, hz⟩, x1, x2, x3, x4⟩ := pr_latest ((scr.getD (i + 1) 0)) ((scr.getD (i + 2) 0)) I A L F E hS
  subst hz
  refine ⟨I', A', L', F', E', ?_, x3, x4⟩
  refine (lw_ld1 (L := lwL i) rfl rfl).trans ?_
  refine (lw_rd (j := 1) (by omega) hs rfl rfl rfl rfl rfl).trans ?_
  refine (lw_rd (j := 2) (by omega) hs rfl rfl rfl rfl rfl).trans ?_
  refine (lw_callV (mj := 70) (as := [.ref 1, .int (scr.getD (i + 1) 0), .int (scr.getD (i + 2) 0)]) (rest := []) rfl rfl rfl (Nat.le_of_ble_eq_true rfl) hp_o_1 (lw_k (by decide) (Nat.le_of_ble_eq_true rfl))).trans ?_
  rw [g0_call scr (by decide), x1, Option.bind_some]
  show mm_run (mm_G scr) 0 557 (lwL i) [.int z] (HP I1 A1 L1 F1 E1) = _
  refine (lw_ld2 (L := lwL i) rfl rfl).trans ?_
  refine (lw_rd (j := 1) (by omega) hs rfl rfl rfl rfl rfl).trans ?_
  refine (lw_rd (j := 2) (by omega) hs rfl rfl rfl rfl rfl).trans ?_
  refine (lw_callV (mj := 143) (as := [.ref 84, .int (scr.getD (i + 1) 0), .int (scr.getD (i + 2) 0)]) (rest := [.int z]) rfl rfl rfl (Nat.le_of_ble_eq_true rfl) hp_o_84 (lw_k (by decide) (Nat.le_of_ble_eq_true rfl))).trans ?_
  rw [g0_call scr (by decide), x2, Option.bind_some]
  show mm_run (mm_G scr) 0 571 (lwL i) [.int z, .int z] (HP I' A' L' F' E') = _
  exact lw_same rfl
set_option maxRecDepth 20000 in
theorem lc_12 {i : Nat} {I : Nat → Int32} {A : Nat → List Int32} {L : Nat → List Int64} {F : Nat → Int64} {E : MH} (hs : scr.length ≤ 3072) (hi : i + 6 ≤ scr.length) (hS : Sim I A L) : Lc scr 576 i I A L F E := by
  obtain ⟨v, I1, A1, L1, F1, E1, I', A', L', F', E', ⟨z, hz⟩, x1, x2, x3, x4⟩ := pr_joint ((scr.getD (i + 1) 0)) I A L F E hS
  subst hz
  refine ⟨I', A', L', F', E', ?_, x3, x4⟩
  refine (lw_ld1 (L := lwL i) rfl rfl).trans ?_
  refine (lw_rd (j := 1) (by omega) hs rfl rfl rfl rfl rfl).trans ?_
  refine (lw_callV (mj := 71) (as := [.ref 1, .int (scr.getD (i + 1) 0)]) (rest := []) rfl rfl rfl (Nat.le_of_ble_eq_true rfl) hp_o_1 (lw_k (by decide) (Nat.le_of_ble_eq_true rfl))).trans ?_
  rw [g0_call scr (by decide), x1, Option.bind_some]
  show mm_run (mm_G scr) 0 585 (lwL i) [.int z] (HP I1 A1 L1 F1 E1) = _
  refine (lw_ld2 (L := lwL i) rfl rfl).trans ?_
  refine (lw_rd (j := 1) (by omega) hs rfl rfl rfl rfl rfl).trans ?_
  refine (lw_callV (mj := 145) (as := [.ref 84, .int (scr.getD (i + 1) 0)]) (rest := [.int z]) rfl rfl rfl (Nat.le_of_ble_eq_true rfl) hp_o_84 (lw_k (by decide) (Nat.le_of_ble_eq_true rfl))).trans ?_
  rw [g0_call scr (by decide), x2, Option.bind_some]
  show mm_run (mm_G scr) 0 594 (lwL i) [.int z, .int z] (HP I' A' L' F' E') = _
  exact lw_same rfl
set_option maxRecDepth 20000 in
theorem lc_13 {i : Nat} {I : Nat → Int32} {A : Nat → List Int32} {L : Nat → List Int64} {F : Nat → Int64} {E : MH} (hs : scr.length ≤ 3072) (hi : i + 6 ≤ scr.length) (hS : Sim I A L) : Lc scr 599 i I A L F E := by
  obtain ⟨v, I1, A1, L1, F1, E1, I', A', L', F', E', ⟨z, hz⟩, x1, x2, x3, x4⟩ := pr_change ((scr.getD (i + 1) 0)) I A L F E hS
  subst hz
  refine ⟨I', A', L', F', E', ?_, x3, x4⟩
  refine (lw_ld1 (L := lwL i) rfl rfl).trans ?_
  refine (lw_rd (j := 1) (by omega) hs rfl rfl rfl rfl rfl).trans ?_
  refine (lw_callV (mj := 72) (as := [.ref 1, .int (scr.getD (i + 1) 0)]) (rest := []) rfl rfl rfl (Nat.le_of_ble_eq_true rfl) hp_o_1 (lw_k (by decide) (Nat.le_of_ble_eq_true rfl))).trans ?_
  rw [g0_call scr (by decide), x1, Option.bind_some]
  show mm_run (mm_G scr) 0 608 (lwL i) [.int z] (HP I1 A1 L1 F1 E1) = _
  refine (lw_ld2 (L := lwL i) rfl rfl).trans ?_
  refine (lw_rd (j := 1) (by omega) hs rfl rfl rfl rfl rfl).trans ?_
  refine (lw_callV (mj := 150) (as := [.ref 84, .int (scr.getD (i + 1) 0)]) (rest := [.int z]) rfl rfl rfl (Nat.le_of_ble_eq_true rfl) hp_o_84 (lw_k (by decide) (Nat.le_of_ble_eq_true rfl))).trans ?_
  rw [g0_call scr (by decide), x2, Option.bind_some]
  show mm_run (mm_G scr) 0 617 (lwL i) [.int z, .int z] (HP I' A' L' F' E') = _
  exact lw_same rfl
set_option maxRecDepth 20000 in
theorem lc_14 {i : Nat} {I : Nat → Int32} {A : Nat → List Int32} {L : Nat → List Int64} {F : Nat → Int64} {E : MH} (hs : scr.length ≤ 3072) (hi : i + 6 ≤ scr.length) (hS : Sim I A L) : Lc scr 622 i I A L F E := by
  obtain ⟨v, I1, A1, L1, F1, E1, I', A', L', F', E', ⟨z, hz⟩, x1, x2, x3, x4⟩ := pr_gain ((scr.getD (i + 1) 0)) ((scr.getD (i + 2) 0)) ((scr.getD (i + 3) 0)) I A L F E hS
  subst hz
  refine ⟨I', A', L', F', E', ?_, x3, x4⟩
  refine (lw_ld1 (L := lwL i) rfl rfl).trans ?_
  refine (lw_rd (j := 1) (by omega) hs rfl rfl rfl rfl rfl).trans ?_
  refine (lw_rd (j := 2) (by omega) hs rfl rfl rfl rfl rfl).trans ?_
  refine (lw_rd (j := 3) (by omega) hs rfl rfl rfl rfl rfl).trans ?_
  refine (lw_callV (mj := 73) (as := [.ref 1, .int (scr.getD (i + 1) 0), .int (scr.getD (i + 2) 0), .int (scr.getD (i + 3) 0)]) (rest := []) rfl rfl rfl (Nat.le_of_ble_eq_true rfl) hp_o_1 (lw_k (by decide) (Nat.le_of_ble_eq_true rfl))).trans ?_
  rw [g0_call scr (by decide), x1, Option.bind_some]
  show mm_run (mm_G scr) 0 641 (lwL i) [.long z] (HP I1 A1 L1 F1 E1) = _
  refine (lw_ld2 (L := lwL i) rfl rfl).trans ?_
  refine (lw_rd (j := 1) (by omega) hs rfl rfl rfl rfl rfl).trans ?_
  refine (lw_rd (j := 2) (by omega) hs rfl rfl rfl rfl rfl).trans ?_
  refine (lw_rd (j := 3) (by omega) hs rfl rfl rfl rfl rfl).trans ?_
  refine (lw_callV (mj := 153) (as := [.ref 84, .int (scr.getD (i + 1) 0), .int (scr.getD (i + 2) 0), .int (scr.getD (i + 3) 0)]) (rest := [.long z]) rfl rfl rfl (Nat.le_of_ble_eq_true rfl) hp_o_84 (lw_k (by decide) (Nat.le_of_ble_eq_true rfl))).trans ?_
  rw [g0_call scr (by decide), x2, Option.bind_some]
  show mm_run (mm_G scr) 0 660 (lwL i) [.long z, .long z] (HP I' A' L' F' E') = _
  exact lw_sameL rfl rfl
set_option maxRecDepth 20000 in
theorem lc_15 {i : Nat} {I : Nat → Int32} {A : Nat → List Int32} {L : Nat → List Int64} {F : Nat → Int64} {E : MH} (hs : scr.length ≤ 3072) (hi : i + 6 ≤ scr.length) (hS : Sim I A L) : Lc scr 666 i I A L F E := by
  obtain ⟨v, I1, A1, L1, F1, E1, I', A', L', F', E', ⟨z, hz⟩, x1, x2, x3, x4⟩ := pr_weight ((scr.getD (i + 1) 0)) ((scr.getD (i + 2) 0)) I A L F E hS
  subst hz
  refine ⟨I', A', L', F', E', ?_, x3, x4⟩
  refine (lw_ld1 (L := lwL i) rfl rfl).trans ?_
  refine (lw_rd (j := 1) (by omega) hs rfl rfl rfl rfl rfl).trans ?_
  refine (lw_rd (j := 2) (by omega) hs rfl rfl rfl rfl rfl).trans ?_
  refine (lw_callV (mj := 74) (as := [.ref 1, .int (scr.getD (i + 1) 0), .int (scr.getD (i + 2) 0)]) (rest := []) rfl rfl rfl (Nat.le_of_ble_eq_true rfl) hp_o_1 (lw_k (by decide) (Nat.le_of_ble_eq_true rfl))).trans ?_
  rw [g0_call scr (by decide), x1, Option.bind_some]
  show mm_run (mm_G scr) 0 680 (lwL i) [.int z] (HP I1 A1 L1 F1 E1) = _
  refine (lw_ld2 (L := lwL i) rfl rfl).trans ?_
  refine (lw_rd (j := 1) (by omega) hs rfl rfl rfl rfl rfl).trans ?_
  refine (lw_rd (j := 2) (by omega) hs rfl rfl rfl rfl rfl).trans ?_
  refine (lw_callV (mj := 154) (as := [.ref 84, .int (scr.getD (i + 1) 0), .int (scr.getD (i + 2) 0)]) (rest := [.int z]) rfl rfl rfl (Nat.le_of_ble_eq_true rfl) hp_o_84 (lw_k (by decide) (Nat.le_of_ble_eq_true rfl))).trans ?_
  rw [g0_call scr (by decide), x2, Option.bind_some]
  show mm_run (mm_G scr) 0 694 (lwL i) [.int z, .int z] (HP I' A' L' F' E') = _
  exact lw_same rfl
set_option maxRecDepth 20000 in
theorem lc_16 {i : Nat} {I : Nat → Int32} {A : Nat → List Int32} {L : Nat → List Int64} {F : Nat → Int64} {E : MH} (hs : scr.length ≤ 3072) (hi : i + 6 ≤ scr.length) (hS : Sim I A L) : Lc scr 699 i I A L F E := by
  obtain ⟨v, I1, A1, L1, F1, E1, I', A', L', F', E', ⟨z, hz⟩, x1, x2, x3, x4⟩ := pr_weighs ((scr.getD (i + 1) 0)) I A L F E hS
  subst hz
  refine ⟨I', A', L', F', E', ?_, x3, x4⟩
  refine (lw_ld1 (L := lwL i) rfl rfl).trans ?_
  refine (lw_rd (j := 1) (by omega) hs rfl rfl rfl rfl rfl).trans ?_
  refine (lw_callV (mj := 75) (as := [.ref 1, .int (scr.getD (i + 1) 0)]) (rest := []) rfl rfl rfl (Nat.le_of_ble_eq_true rfl) hp_o_1 (lw_k (by decide) (Nat.le_of_ble_eq_true rfl))).trans ?_
  rw [g0_call scr (by decide), x1, Option.bind_some]
  show mm_run (mm_G scr) 0 708 (lwL i) [.int z] (HP I1 A1 L1 F1 E1) = _
  refine (lw_ld2 (L := lwL i) rfl rfl).trans ?_
  refine (lw_rd (j := 1) (by omega) hs rfl rfl rfl rfl rfl).trans ?_
  refine (lw_callV (mj := 155) (as := [.ref 84, .int (scr.getD (i + 1) 0)]) (rest := [.int z]) rfl rfl rfl (Nat.le_of_ble_eq_true rfl) hp_o_84 (lw_k (by decide) (Nat.le_of_ble_eq_true rfl))).trans ?_
  rw [g0_call scr (by decide), x2, Option.bind_some]
  show mm_run (mm_G scr) 0 717 (lwL i) [.int z, .int z] (HP I' A' L' F' E') = _
  exact lw_same rfl
set_option maxRecDepth 20000 in
theorem lc_17 {i : Nat} {I : Nat → Int32} {A : Nat → List Int32} {L : Nat → List Int64} {F : Nat → Int64} {E : MH} (hs : scr.length ≤ 3072) (hi : i + 6 ≤ scr.length) (hS : Sim I A L) : Lc scr 722 i I A L F E := by
  obtain ⟨v, I1, A1, L1, F1, E1, I', A', L', F', E', ⟨z, hz⟩, x1, x2, x3, x4⟩ := pr_run ((scr.getD (i + 1) 0)) ((scr.getD (i + 2) 0)) ((scr.getD (i + 3) 0)) I A L F E hS
  subst hz
  refine ⟨I', A', L', F', E', ?_, x3, x4⟩
  refine (lw_ld1 (L := lwL i) rfl rfl).trans ?_
  refine (lw_rd (j := 1) (by omega) hs rfl rfl rfl rfl rfl).trans ?_
  refine (lw_rd (j := 2) (by omega) hs rfl rfl rfl rfl rfl).trans ?_
  refine (lw_rd (j := 3) (by omega) hs rfl rfl rfl rfl rfl).trans ?_
  refine (lw_callV (mj := 76) (as := [.ref 1, .int (scr.getD (i + 1) 0), .int (scr.getD (i + 2) 0), .int (scr.getD (i + 3) 0)]) (rest := []) rfl rfl rfl (Nat.le_of_ble_eq_true rfl) hp_o_1 (lw_k (by decide) (Nat.le_of_ble_eq_true rfl))).trans ?_
  rw [g0_call scr (by decide), x1, Option.bind_some]
  show mm_run (mm_G scr) 0 741 (lwL i) [.long z] (HP I1 A1 L1 F1 E1) = _
  refine (lw_ld2 (L := lwL i) rfl rfl).trans ?_
  refine (lw_rd (j := 1) (by omega) hs rfl rfl rfl rfl rfl).trans ?_
  refine (lw_rd (j := 2) (by omega) hs rfl rfl rfl rfl rfl).trans ?_
  refine (lw_rd (j := 3) (by omega) hs rfl rfl rfl rfl rfl).trans ?_
  refine (lw_callV (mj := 163) (as := [.ref 84, .int (scr.getD (i + 1) 0), .int (scr.getD (i + 2) 0), .int (scr.getD (i + 3) 0)]) (rest := [.long z]) rfl rfl rfl (Nat.le_of_ble_eq_true rfl) hp_o_84 (lw_k (by decide) (Nat.le_of_ble_eq_true rfl))).trans ?_
  rw [g0_call scr (by decide), x2, Option.bind_some]
  show mm_run (mm_G scr) 0 760 (lwL i) [.long z, .long z] (HP I' A' L' F' E') = _
  exact lw_sameL rfl rfl
set_option maxRecDepth 20000 in
theorem lc_18 {i : Nat} {I : Nat → Int32} {A : Nat → List Int32} {L : Nat → List Int64} {F : Nat → Int64} {E : MH} (hs : scr.length ≤ 3072) (hi : i + 6 ≤ scr.length) (hS : Sim I A L) : Lc scr 766 i I A L F E := by
  obtain ⟨v, I1, A1, L1, F1, E1, I', A', L', F', E', ⟨z, hz⟩, x1, x2, x3, x4⟩ := pr_likely ((scr.getD (i + 1) 0)) ((scr.getD (i + 2) 0)) ((scr.getD (i + 3) 0)) ((scr.getD (i + 4) 0)) I A L F E hS
  subst hz
  refine ⟨I', A', L', F', E', ?_, x3, x4⟩
  refine (lw_ld1 (L := lwL i) rfl rfl).trans ?_
  refine (lw_rd (j := 1) (by omega) hs rfl rfl rfl rfl rfl).trans ?_
  refine (lw_rd (j := 2) (by omega) hs rfl rfl rfl rfl rfl).trans ?_
  refine (lw_rd (j := 3) (by omega) hs rfl rfl rfl rfl rfl).trans ?_
  refine (lw_rd (j := 4) (by omega) hs rfl rfl rfl rfl rfl).trans ?_
  refine (lw_callV (mj := 77) (as := [.ref 1, .int (scr.getD (i + 1) 0), .int (scr.getD (i + 2) 0), .int (scr.getD (i + 3) 0), .int (scr.getD (i + 4) 0)]) (rest := []) rfl rfl rfl (Nat.le_of_ble_eq_true rfl) hp_o_1 (lw_k (by decide) (Nat.le_of_ble_eq_true rfl))).trans ?_
  rw [g0_call scr (by decide), x1, Option.bind_some]
  show mm_run (mm_G scr) 0 790 (lwL i) [.long z] (HP I1 A1 L1 F1 E1) = _
  refine (lw_ld2 (L := lwL i) rfl rfl).trans ?_
  refine (lw_rd (j := 1) (by omega) hs rfl rfl rfl rfl rfl).trans ?_
  refine (lw_rd (j := 2) (by omega) hs rfl rfl rfl rfl rfl).trans ?_
  refine (lw_rd (j := 3) (by omega) hs rfl rfl rfl rfl rfl).trans ?_
  refine (lw_rd (j := 4) (by omega) hs rfl rfl rfl rfl rfl).trans ?_
  refine (lw_callV (mj := 164) (as := [.ref 84, .int (scr.getD (i + 1) 0), .int (scr.getD (i + 2) 0), .int (scr.getD (i + 3) 0), .int (scr.getD (i + 4) 0)]) (rest := [.long z]) rfl rfl rfl (Nat.le_of_ble_eq_true rfl) hp_o_84 (lw_k (by decide) (Nat.le_of_ble_eq_true rfl))).trans ?_
  rw [g0_call scr (by decide), x2, Option.bind_some]
  show mm_run (mm_G scr) 0 814 (lwL i) [.long z, .long z] (HP I' A' L' F' E') = _
  exact lw_sameL rfl rfl
set_option maxRecDepth 20000 in
theorem lc_19 {i : Nat} {I : Nat → Int32} {A : Nat → List Int32} {L : Nat → List Int64} {F : Nat → Int64} {E : MH} (hs : scr.length ≤ 3072) (hi : i + 6 ≤ scr.length) (hS : Sim I A L) : Lc scr 820 i I A L F E := by
  obtain ⟨v, I1, A1, L1, F1, E1, I', A', L', F', E', ⟨z, hz⟩, x1, x2, x3, x4⟩ := pr_would ((scr.getD (i + 1) 0)) ((scr.getD (i + 2) 0)) ((scr.getD (i + 3) 0)) I A L F E hS
  subst hz
  refine ⟨I', A', L', F', E', ?_, x3, x4⟩
  refine (lw_ld1 (L := lwL i) rfl rfl).trans ?_
  refine (lw_rd (j := 1) (by omega) hs rfl rfl rfl rfl rfl).trans ?_
  refine (lw_rd (j := 2) (by omega) hs rfl rfl rfl rfl rfl).trans ?_
  refine (lw_rd (j := 3) (by omega) hs rfl rfl rfl rfl rfl).trans ?_
  refine (lw_callV (mj := 78) (as := [.ref 1, .int (scr.getD (i + 1) 0), .int (scr.getD (i + 2) 0), .int (scr.getD (i + 3) 0)]) (rest := []) rfl rfl rfl (Nat.le_of_ble_eq_true rfl) hp_o_1 (lw_k (by decide) (Nat.le_of_ble_eq_true rfl))).trans ?_
  rw [g0_call scr (by decide), x1, Option.bind_some]
  show mm_run (mm_G scr) 0 839 (lwL i) [.int z] (HP I1 A1 L1 F1 E1) = _
  refine (lw_ld2 (L := lwL i) rfl rfl).trans ?_
  refine (lw_rd (j := 1) (by omega) hs rfl rfl rfl rfl rfl).trans ?_
  refine (lw_rd (j := 2) (by omega) hs rfl rfl rfl rfl rfl).trans ?_
  refine (lw_rd (j := 3) (by omega) hs rfl rfl rfl rfl rfl).trans ?_
  refine (lw_callV (mj := 166) (as := [.ref 84, .int (scr.getD (i + 1) 0), .int (scr.getD (i + 2) 0), .int (scr.getD (i + 3) 0)]) (rest := [.int z]) rfl rfl rfl (Nat.le_of_ble_eq_true rfl) hp_o_84 (lw_k (by decide) (Nat.le_of_ble_eq_true rfl))).trans ?_
  rw [g0_call scr (by decide), x2, Option.bind_some]
  show mm_run (mm_G scr) 0 858 (lwL i) [.int z, .int z] (HP I' A' L' F' E') = _
  exact lw_same rfl
set_option maxRecDepth 20000 in
theorem lc_20 {i : Nat} {I : Nat → Int32} {A : Nat → List Int32} {L : Nat → List Int64} {F : Nat → Int64} {E : MH} (hs : scr.length ≤ 3072) (hi : i + 6 ≤ scr.length) (hS : Sim I A L) : Lc scr 863 i I A L F E := by
  obtain ⟨v, I1, A1, L1, F1, E1, I', A', L', F', E', ⟨z, hz⟩, x1, x2, x3, x4⟩ := pr_quiet ((scr.getD (i + 1) 0)) I A L F E hS
  subst hz
  refine ⟨I', A', L', F', E', ?_, x3, x4⟩
  refine (lw_ld1 (L := lwL i) rfl rfl).trans ?_
  refine (lw_rd (j := 1) (by omega) hs rfl rfl rfl rfl rfl).trans ?_
  refine (lw_callV (mj := 79) (as := [.ref 1, .int (scr.getD (i + 1) 0)]) (rest := []) rfl rfl rfl (Nat.le_of_ble_eq_true rfl) hp_o_1 (lw_k (by decide) (Nat.le_of_ble_eq_true rfl))).trans ?_
  rw [g0_call scr (by decide), x1, Option.bind_some]
  show mm_run (mm_G scr) 0 872 (lwL i) [.int z] (HP I1 A1 L1 F1 E1) = _
  refine (lw_ld2 (L := lwL i) rfl rfl).trans ?_
  refine (lw_rd (j := 1) (by omega) hs rfl rfl rfl rfl rfl).trans ?_
  refine (lw_callV (mj := 167) (as := [.ref 84, .int (scr.getD (i + 1) 0)]) (rest := [.int z]) rfl rfl rfl (Nat.le_of_ble_eq_true rfl) hp_o_84 (lw_k (by decide) (Nat.le_of_ble_eq_true rfl))).trans ?_
  rw [g0_call scr (by decide), x2, Option.bind_some]
  show mm_run (mm_G scr) 0 881 (lwL i) [.int z, .int z] (HP I' A' L' F' E') = _
  exact lw_same rfl
set_option maxRecDepth 20000 in
theorem lc_21 {i : Nat} {I : Nat → Int32} {A : Nat → List Int32} {L : Nat → List Int64} {F : Nat → Int64} {E : MH} (hs : scr.length ≤ 3072) (hi : i + 6 ≤ scr.length) (hS : Sim I A L) : Lc scr 886 i I A L F E := by
  obtain ⟨v, I1, A1, L1, F1, E1, I', A', L', F', E', ⟨z, hz⟩, x1, x2, x3, x4⟩ := pr_see ((scr.getD (i + 1) 0)) ((scr.getD (i + 2) 0)) I A L F E hS
  subst hz
  refine ⟨I', A', L', F', E', ?_, x3, x4⟩
  refine (lw_ld1 (L := lwL i) rfl rfl).trans ?_
  refine (lw_rd (j := 1) (by omega) hs rfl rfl rfl rfl rfl).trans ?_
  refine (lw_rd (j := 2) (by omega) hs rfl rfl rfl rfl rfl).trans ?_
  refine (lw_callV (mj := 80) (as := [.ref 1, .int (scr.getD (i + 1) 0), .int (scr.getD (i + 2) 0)]) (rest := []) rfl rfl rfl (Nat.le_of_ble_eq_true rfl) hp_o_1 (lw_k (by decide) (Nat.le_of_ble_eq_true rfl))).trans ?_
  rw [g0_call scr (by decide), x1, Option.bind_some]
  show mm_run (mm_G scr) 0 900 (lwL i) [.int z] (HP I1 A1 L1 F1 E1) = _
  refine (lw_ld2 (L := lwL i) rfl rfl).trans ?_
  refine (lw_rd (j := 1) (by omega) hs rfl rfl rfl rfl rfl).trans ?_
  refine (lw_rd (j := 2) (by omega) hs rfl rfl rfl rfl rfl).trans ?_
  refine (lw_callV (mj := 169) (as := [.ref 84, .int (scr.getD (i + 1) 0), .int (scr.getD (i + 2) 0)]) (rest := [.int z]) rfl rfl rfl (Nat.le_of_ble_eq_true rfl) hp_o_84 (lw_k (by decide) (Nat.le_of_ble_eq_true rfl))).trans ?_
  rw [g0_call scr (by decide), x2, Option.bind_some]
  show mm_run (mm_G scr) 0 914 (lwL i) [.int z, .int z] (HP I' A' L' F' E') = _
  exact lw_same rfl
set_option maxRecDepth 20000 in
theorem lc_22 {i : Nat} {I : Nat → Int32} {A : Nat → List Int32} {L : Nat → List Int64} {F : Nat → Int64} {E : MH} (hs : scr.length ≤ 3072) (hi : i + 6 ≤ scr.length) (hS : Sim I A L) : Lc scr 919 i I A L F E := by
  obtain ⟨v, I1, A1, L1, F1, E1, I', A', L', F', E', ⟨z, hz⟩, x1, x2, x3, x4⟩ := pr_fits ((scr.getD (i + 1) 0)) ((scr.getD (i + 2) 0)) I A L F E hS
  subst hz
  refine ⟨I', A', L', F', E', ?_, x3, x4⟩
  refine (lw_ld1 (L := lwL i) rfl rfl).trans ?_
  refine (lw_rd (j := 1) (by omega) hs rfl rfl rfl rfl rfl).trans ?_
  refine (lw_rd (j := 2) (by omega) hs rfl rfl rfl rfl rfl).trans ?_
  refine (lw_callV (mj := 81) (as := [.ref 1, .int (scr.getD (i + 1) 0), .int (scr.getD (i + 2) 0)]) (rest := []) rfl rfl rfl (Nat.le_of_ble_eq_true rfl) hp_o_1 (lw_k (by decide) (Nat.le_of_ble_eq_true rfl))).trans ?_
  rw [g0_call scr (by decide), x1, Option.bind_some]
  show mm_run (mm_G scr) 0 933 (lwL i) [.int z] (HP I1 A1 L1 F1 E1) = _
  refine (lw_ld2 (L := lwL i) rfl rfl).trans ?_
  refine (lw_rd (j := 1) (by omega) hs rfl rfl rfl rfl rfl).trans ?_
  refine (lw_rd (j := 2) (by omega) hs rfl rfl rfl rfl rfl).trans ?_
  refine (lw_callV (mj := 172) (as := [.ref 84, .int (scr.getD (i + 1) 0), .int (scr.getD (i + 2) 0)]) (rest := [.int z]) rfl rfl rfl (Nat.le_of_ble_eq_true rfl) hp_o_84 (lw_k (by decide) (Nat.le_of_ble_eq_true rfl))).trans ?_
  rw [g0_call scr (by decide), x2, Option.bind_some]
  show mm_run (mm_G scr) 0 947 (lwL i) [.int z, .int z] (HP I' A' L' F' E') = _
  exact lw_same rfl
set_option maxRecDepth 20000 in
theorem lc_23 {i : Nat} {I : Nat → Int32} {A : Nat → List Int32} {L : Nat → List Int64} {F : Nat → Int64} {E : MH} (hs : scr.length ≤ 3072) (hi : i + 6 ≤ scr.length) (hS : Sim I A L) : Lc scr 952 i I A L F E := by
  obtain ⟨v, I1, A1, L1, F1, E1, I', A', L', F', E', ⟨z, hz⟩, x1, x2, x3, x4⟩ := pr_odds ((scr.getD (i + 1) 0)) ((scr.getD (i + 2) 0)) I A L F E hS
  subst hz
  refine ⟨I', A', L', F', E', ?_, x3, x4⟩
  refine (lw_ld1 (L := lwL i) rfl rfl).trans ?_
  refine (lw_rd (j := 1) (by omega) hs rfl rfl rfl rfl rfl).trans ?_
  refine (lw_rd (j := 2) (by omega) hs rfl rfl rfl rfl rfl).trans ?_
  refine (lw_callV (mj := 82) (as := [.ref 1, .int (scr.getD (i + 1) 0), .int (scr.getD (i + 2) 0)]) (rest := []) rfl rfl rfl (Nat.le_of_ble_eq_true rfl) hp_o_1 (lw_k (by decide) (Nat.le_of_ble_eq_true rfl))).trans ?_
  rw [g0_call scr (by decide), x1, Option.bind_some]
  show mm_run (mm_G scr) 0 966 (lwL i) [.long z] (HP I1 A1 L1 F1 E1) = _
  refine (lw_ld2 (L := lwL i) rfl rfl).trans ?_
  refine (lw_rd (j := 1) (by omega) hs rfl rfl rfl rfl rfl).trans ?_
  refine (lw_rd (j := 2) (by omega) hs rfl rfl rfl rfl rfl).trans ?_
  refine (lw_callV (mj := 173) (as := [.ref 84, .int (scr.getD (i + 1) 0), .int (scr.getD (i + 2) 0)]) (rest := [.long z]) rfl rfl rfl (Nat.le_of_ble_eq_true rfl) hp_o_84 (lw_k (by decide) (Nat.le_of_ble_eq_true rfl))).trans ?_
  rw [g0_call scr (by decide), x2, Option.bind_some]
  show mm_run (mm_G scr) 0 980 (lwL i) [.long z, .long z] (HP I' A' L' F' E') = _
  exact lw_sameL rfl rfl
set_option maxRecDepth 20000 in
theorem lc_24 {i : Nat} {I : Nat → Int32} {A : Nat → List Int32} {L : Nat → List Int64} {F : Nat → Int64} {E : MH} (hs : scr.length ≤ 3072) (hi : i + 6 ≤ scr.length) (hS : Sim I A L) : Lc scr 986 i I A L F E := by
  obtain ⟨v, I1, A1, L1, F1, E1, I', A', L', F', E', ⟨z, hz⟩, x1, x2, x3, x4⟩ := pr_mean ((scr.getD (i + 1) 0)) ((scr.getD (i + 2) 0)) I A L F E hS
  subst hz
  refine ⟨I', A', L', F', E', ?_, x3, x4⟩
  refine (lw_ld1 (L := lwL i) rfl rfl).trans ?_
  refine (lw_rd (j := 1) (by omega) hs rfl rfl rfl rfl rfl).trans ?_
  refine (lw_rd (j := 2) (by omega) hs rfl rfl rfl rfl rfl).trans ?_
  refine (lw_callV (mj := 83) (as := [.ref 1, .int (scr.getD (i + 1) 0), .int (scr.getD (i + 2) 0)]) (rest := []) rfl rfl rfl (Nat.le_of_ble_eq_true rfl) hp_o_1 (lw_k (by decide) (Nat.le_of_ble_eq_true rfl))).trans ?_
  rw [g0_call scr (by decide), x1, Option.bind_some]
  show mm_run (mm_G scr) 0 1000 (lwL i) [.long z] (HP I1 A1 L1 F1 E1) = _
  refine (lw_ld2 (L := lwL i) rfl rfl).trans ?_
  refine (lw_rd (j := 1) (by omega) hs rfl rfl rfl rfl rfl).trans ?_
  refine (lw_rd (j := 2) (by omega) hs rfl rfl rfl rfl rfl).trans ?_
  refine (lw_callV (mj := 174) (as := [.ref 84, .int (scr.getD (i + 1) 0), .int (scr.getD (i + 2) 0)]) (rest := [.long z]) rfl rfl rfl (Nat.le_of_ble_eq_true rfl) hp_o_84 (lw_k (by decide) (Nat.le_of_ble_eq_true rfl))).trans ?_
  rw [g0_call scr (by decide), x2, Option.bind_some]
  show mm_run (mm_G scr) 0 1014 (lwL i) [.long z, .long z] (HP I' A' L' F' E') = _
  exact lw_sameL rfl rfl
set_option maxRecDepth 20000 in
theorem lc_25 {i : Nat} {I : Nat → Int32} {A : Nat → List Int32} {L : Nat → List Int64} {F : Nat → Int64} {E : MH} (hs : scr.length ≤ 3072) (hi : i + 6 ≤ scr.length) (hS : Sim I A L) : Lc scr 1020 i I A L F E := by
  obtain ⟨v, I1, A1, L1, F1, E1, I', A', L', F', E', ⟨z, hz⟩, x1, x2, x3, x4⟩ := pr_plan ((scr.getD (i + 1) 0)) ((scr.getD (i + 2) 0)) I A L F E hS
  subst hz
  refine ⟨I', A', L', F', E', ?_, x3, x4⟩
  refine (lw_ld1 (L := lwL i) rfl rfl).trans ?_
  refine (lw_rd (j := 1) (by omega) hs rfl rfl rfl rfl rfl).trans ?_
  refine (lw_rd (j := 2) (by omega) hs rfl rfl rfl rfl rfl).trans ?_
  refine (lw_callV (mj := 84) (as := [.ref 1, .int (scr.getD (i + 1) 0), .int (scr.getD (i + 2) 0)]) (rest := []) rfl rfl rfl (Nat.le_of_ble_eq_true rfl) hp_o_1 (lw_k (by decide) (Nat.le_of_ble_eq_true rfl))).trans ?_
  rw [g0_call scr (by decide), x1, Option.bind_some]
  show mm_run (mm_G scr) 0 1034 (lwL i) [.int z] (HP I1 A1 L1 F1 E1) = _
  refine (lw_ld2 (L := lwL i) rfl rfl).trans ?_
  refine (lw_rd (j := 1) (by omega) hs rfl rfl rfl rfl rfl).trans ?_
  refine (lw_rd (j := 2) (by omega) hs rfl rfl rfl rfl rfl).trans ?_
  refine (lw_callV (mj := 175) (as := [.ref 84, .int (scr.getD (i + 1) 0), .int (scr.getD (i + 2) 0)]) (rest := [.int z]) rfl rfl rfl (Nat.le_of_ble_eq_true rfl) hp_o_84 (lw_k (by decide) (Nat.le_of_ble_eq_true rfl))).trans ?_
  rw [g0_call scr (by decide), x2, Option.bind_some]
  show mm_run (mm_G scr) 0 1048 (lwL i) [.int z, .int z] (HP I' A' L' F' E') = _
  exact lw_same rfl
set_option maxRecDepth 20000 in
theorem lc_26 {i : Nat} {I : Nat → Int32} {A : Nat → List Int32} {L : Nat → List Int64} {F : Nat → Int64} {E : MH} (hs : scr.length ≤ 3072) (hi : i + 6 ≤ scr.length) (hS : Sim I A L) : Lc scr 1053 i I A L F E := by
  obtain ⟨v, I1, A1, L1, F1, E1, I', A', L', F', E', ⟨z, hz⟩, x1, x2, x3, x4⟩ := pr_ends ((scr.getD (i + 1) 0)) I A L F E hS
  subst hz
  refine ⟨I', A', L', F', E', ?_, x3, x4⟩
  refine (lw_ld1 (L := lwL i) rfl rfl).trans ?_
  refine (lw_rd (j := 1) (by omega) hs rfl rfl rfl rfl rfl).trans ?_
  refine (lw_callV (mj := 85) (as := [.ref 1, .int (scr.getD (i + 1) 0)]) (rest := []) rfl rfl rfl (Nat.le_of_ble_eq_true rfl) hp_o_1 (lw_k (by decide) (Nat.le_of_ble_eq_true rfl))).trans ?_
  rw [g0_call scr (by decide), x1, Option.bind_some]
  show mm_run (mm_G scr) 0 1062 (lwL i) [.int z] (HP I1 A1 L1 F1 E1) = _
  refine (lw_ld2 (L := lwL i) rfl rfl).trans ?_
  refine (lw_rd (j := 1) (by omega) hs rfl rfl rfl rfl rfl).trans ?_
  refine (lw_callV (mj := 177) (as := [.ref 84, .int (scr.getD (i + 1) 0)]) (rest := [.int z]) rfl rfl rfl (Nat.le_of_ble_eq_true rfl) hp_o_84 (lw_k (by decide) (Nat.le_of_ble_eq_true rfl))).trans ?_
  rw [g0_call scr (by decide), x2, Option.bind_some]
  show mm_run (mm_G scr) 0 1071 (lwL i) [.int z, .int z] (HP I' A' L' F' E') = _
  exact lw_same rfl
set_option maxRecDepth 20000 in
theorem lc_27 {i : Nat} {I : Nat → Int32} {A : Nat → List Int32} {L : Nat → List Int64} {F : Nat → Int64} {E : MH} (hs : scr.length ≤ 3072) (hi : i + 6 ≤ scr.length) (hS : Sim I A L) : Lc scr 1076 i I A L F E := by
  obtain ⟨v, I1, A1, L1, F1, E1, I', A', L', F', E', ⟨z, hz⟩, x1, x2, x3, x4⟩ := pr_book ((scr.getD (i + 1) 0)) ((scr.getD (i + 2) 0)) I A L F E hS
  subst hz
  refine ⟨I', A', L', F', E', ?_, x3, x4⟩
  refine (lw_ld1 (L := lwL i) rfl rfl).trans ?_
  refine (lw_rd (j := 1) (by omega) hs rfl rfl rfl rfl rfl).trans ?_
  refine (lw_rd (j := 2) (by omega) hs rfl rfl rfl rfl rfl).trans ?_
  refine (lw_callV (mj := 86) (as := [.ref 1, .int (scr.getD (i + 1) 0), .int (scr.getD (i + 2) 0)]) (rest := []) rfl rfl rfl (Nat.le_of_ble_eq_true rfl) hp_o_1 (lw_k (by decide) (Nat.le_of_ble_eq_true rfl))).trans ?_
  rw [g0_call scr (by decide), x1, Option.bind_some]
  show mm_run (mm_G scr) 0 1090 (lwL i) [.int z] (HP I1 A1 L1 F1 E1) = _
  refine (lw_ld2 (L := lwL i) rfl rfl).trans ?_
  refine (lw_rd (j := 1) (by omega) hs rfl rfl rfl rfl rfl).trans ?_
  refine (lw_rd (j := 2) (by omega) hs rfl rfl rfl rfl rfl).trans ?_
  refine (lw_callV (mj := 178) (as := [.ref 84, .int (scr.getD (i + 1) 0), .int (scr.getD (i + 2) 0)]) (rest := [.int z]) rfl rfl rfl (Nat.le_of_ble_eq_true rfl) hp_o_84 (lw_k (by decide) (Nat.le_of_ble_eq_true rfl))).trans ?_
  rw [g0_call scr (by decide), x2, Option.bind_some]
  show mm_run (mm_G scr) 0 1104 (lwL i) [.int z, .int z] (HP I' A' L' F' E') = _
  exact lw_same rfl
set_option maxRecDepth 20000 in
theorem lc_28 {i : Nat} {I : Nat → Int32} {A : Nat → List Int32} {L : Nat → List Int64} {F : Nat → Int64} {E : MH} (hs : scr.length ≤ 3072) (hi : i + 6 ≤ scr.length) (hS : Sim I A L) : Lc scr 1109 i I A L F E := by
  obtain ⟨v, I1, A1, L1, F1, E1, I', A', L', F', E', ⟨z, hz⟩, x1, x2, x3, x4⟩ := pr_looked  I A L F E hS
  subst hz
  refine ⟨I', A', L', F', E', ?_, x3, x4⟩
  refine (lw_ld1 (L := lwL i) rfl rfl).trans ?_
  refine (lw_callV (mj := 87) (as := [.ref 1]) (rest := []) rfl rfl rfl (Nat.le_of_ble_eq_true rfl) hp_o_1 (lw_k (by decide) (Nat.le_of_ble_eq_true rfl))).trans ?_
  rw [g0_call scr (by decide), x1, Option.bind_some]
  show mm_run (mm_G scr) 0 1113 (lwL i) [.int z] (HP I1 A1 L1 F1 E1) = _
  refine (lw_ld2 (L := lwL i) rfl rfl).trans ?_
  refine (lw_callV (mj := 179) (as := [.ref 84]) (rest := [.int z]) rfl rfl rfl (Nat.le_of_ble_eq_true rfl) hp_o_84 (lw_k (by decide) (Nat.le_of_ble_eq_true rfl))).trans ?_
  rw [g0_call scr (by decide), x2, Option.bind_some]
  show mm_run (mm_G scr) 0 1117 (lwL i) [.int z, .int z] (HP I' A' L' F' E') = _
  exact lw_same rfl
set_option maxRecDepth 20000 in
theorem lc_29 {i : Nat} {I : Nat → Int32} {A : Nat → List Int32} {L : Nat → List Int64} {F : Nat → Int64} {E : MH} (hs : scr.length ≤ 3072) (hi : i + 6 ≤ scr.length) (hS : Sim I A L) : Lc scr 1122 i I A L F E := by
  obtain ⟨v, I1, A1, L1, F1, E1, I', A', L', F', E', ⟨z, hz⟩, x1, x2, x3, x4⟩ := pr_judge ((scr.getD (i + 1) 0)) ((scr.getD (i + 2) 0)) ((scr.getD (i + 3) 0)) I A L F E hS
  subst hz
  refine ⟨I', A', L', F', E', ?_, x3, x4⟩
  refine (lw_ld1 (L := lwL i) rfl rfl).trans ?_
  refine (lw_rd (j := 1) (by omega) hs rfl rfl rfl rfl rfl).trans ?_
  refine (lw_rd (j := 2) (by omega) hs rfl rfl rfl rfl rfl).trans ?_
  refine (lw_rd (j := 3) (by omega) hs rfl rfl rfl rfl rfl).trans ?_
  refine (lw_callV (mj := 88) (as := [.ref 1, .int (scr.getD (i + 1) 0), .int (scr.getD (i + 2) 0), .int (scr.getD (i + 3) 0)]) (rest := []) rfl rfl rfl (Nat.le_of_ble_eq_true rfl) hp_o_1 (lw_k (by decide) (Nat.le_of_ble_eq_true rfl))).trans ?_
  rw [g0_call scr (by decide), x1, Option.bind_some]
  show mm_run (mm_G scr) 0 1141 (lwL i) [.int z] (HP I1 A1 L1 F1 E1) = _
  refine (lw_ld2 (L := lwL i) rfl rfl).trans ?_
  refine (lw_rd (j := 1) (by omega) hs rfl rfl rfl rfl rfl).trans ?_
  refine (lw_rd (j := 2) (by omega) hs rfl rfl rfl rfl rfl).trans ?_
  refine (lw_rd (j := 3) (by omega) hs rfl rfl rfl rfl rfl).trans ?_
  refine (lw_callV (mj := 181) (as := [.ref 84, .int (scr.getD (i + 1) 0), .int (scr.getD (i + 2) 0), .int (scr.getD (i + 3) 0)]) (rest := [.int z]) rfl rfl rfl (Nat.le_of_ble_eq_true rfl) hp_o_84 (lw_k (by decide) (Nat.le_of_ble_eq_true rfl))).trans ?_
  rw [g0_call scr (by decide), x2, Option.bind_some]
  show mm_run (mm_G scr) 0 1160 (lwL i) [.int z, .int z] (HP I' A' L' F' E') = _
  exact lw_same rfl
set_option maxRecDepth 20000 in
theorem lc_30 {i : Nat} {I : Nat → Int32} {A : Nat → List Int32} {L : Nat → List Int64} {F : Nat → Int64} {E : MH} (hs : scr.length ≤ 3072) (hi : i + 6 ≤ scr.length) (hS : Sim I A L) : Lc scr 1165 i I A L F E := by
  obtain ⟨v, I1, A1, L1, F1, E1, I', A', L', F', E', ⟨z, hz⟩, x1, x2, x3, x4⟩ := pr_image  I A L F E hS
  subst hz
  refine ⟨I', A', L', F', E', ?_, x3, x4⟩
  refine (lw_ld1 (L := lwL i) rfl rfl).trans ?_
  refine (lw_callV (mj := 89) (as := [.ref 1]) (rest := []) rfl rfl rfl (Nat.le_of_ble_eq_true rfl) hp_o_1 (lw_k (by decide) (Nat.le_of_ble_eq_true rfl))).trans ?_
  rw [g0_call scr (by decide), x1, Option.bind_some]
  show mm_run (mm_G scr) 0 1169 (lwL i) [.int z] (HP I1 A1 L1 F1 E1) = _
  refine (lw_ld2 (L := lwL i) rfl rfl).trans ?_
  refine (lw_callV (mj := 183) (as := [.ref 84]) (rest := [.int z]) rfl rfl rfl (Nat.le_of_ble_eq_true rfl) hp_o_84 (lw_k (by decide) (Nat.le_of_ble_eq_true rfl))).trans ?_
  rw [g0_call scr (by decide), x2, Option.bind_some]
  show mm_run (mm_G scr) 0 1173 (lwL i) [.int z, .int z] (HP I' A' L' F' E') = _
  exact lw_same rfl
set_option maxRecDepth 20000 in
theorem lc_31 {i : Nat} {I : Nat → Int32} {A : Nat → List Int32} {L : Nat → List Int64} {F : Nat → Int64} {E : MH} (hs : scr.length ≤ 3072) (hi : i + 6 ≤ scr.length) (hS : Sim I A L) : Lc scr 1178 i I A L F E := by
  obtain ⟨v, I1, A1, L1, F1, E1, I', A', L', F', E', ⟨z, hz⟩, x1, x2, x3, x4⟩ := pr_undo  I A L F E hS
  subst hz
  refine ⟨I', A', L', F', E', ?_, x3, x4⟩
  refine (lw_ld1 (L := lwL i) rfl rfl).trans ?_
  refine (lw_callV (mj := 90) (as := [.ref 1]) (rest := []) rfl rfl rfl (Nat.le_of_ble_eq_true rfl) hp_o_1 (lw_k (by decide) (Nat.le_of_ble_eq_true rfl))).trans ?_
  rw [g0_call scr (by decide), x1, Option.bind_some]
  show mm_run (mm_G scr) 0 1182 (lwL i) [.int z] (HP I1 A1 L1 F1 E1) = _
  refine (lw_ld2 (L := lwL i) rfl rfl).trans ?_
  refine (lw_callV (mj := 184) (as := [.ref 84]) (rest := [.int z]) rfl rfl rfl (Nat.le_of_ble_eq_true rfl) hp_o_84 (lw_k (by decide) (Nat.le_of_ble_eq_true rfl))).trans ?_
  rw [g0_call scr (by decide), x2, Option.bind_some]
  show mm_run (mm_G scr) 0 1186 (lwL i) [.int z, .int z] (HP I' A' L' F' E') = _
  exact lw_same rfl
set_option maxRecDepth 20000 in
theorem lc_32 {i : Nat} {I : Nat → Int32} {A : Nat → List Int32} {L : Nat → List Int64} {F : Nat → Int64} {E : MH} (hs : scr.length ≤ 3072) (hi : i + 6 ≤ scr.length) (hS : Sim I A L) : Lc scr 1191 i I A L F E := by
  obtain ⟨v, I1, A1, L1, F1, E1, I', A', L', F', E', ⟨z, hz⟩, x1, x2, x3, x4⟩ := pr_count ((scr.getD (i + 1) 0)) I A L F E hS
  subst hz
  refine ⟨I', A', L', F', E', ?_, x3, x4⟩
  refine (lw_ld1 (L := lwL i) rfl rfl).trans ?_
  refine (lw_rd (j := 1) (by omega) hs rfl rfl rfl rfl rfl).trans ?_
  refine (lw_callV (mj := 91) (as := [.ref 1, .int (scr.getD (i + 1) 0)]) (rest := []) rfl rfl rfl (Nat.le_of_ble_eq_true rfl) hp_o_1 (lw_k (by decide) (Nat.le_of_ble_eq_true rfl))).trans ?_
  rw [g0_call scr (by decide), x1, Option.bind_some]
  show mm_run (mm_G scr) 0 1200 (lwL i) [.int z] (HP I1 A1 L1 F1 E1) = _
  refine (lw_ld2 (L := lwL i) rfl rfl).trans ?_
  refine (lw_rd (j := 1) (by omega) hs rfl rfl rfl rfl rfl).trans ?_
  refine (lw_callV (mj := 185) (as := [.ref 84, .int (scr.getD (i + 1) 0)]) (rest := [.int z]) rfl rfl rfl (Nat.le_of_ble_eq_true rfl) hp_o_84 (lw_k (by decide) (Nat.le_of_ble_eq_true rfl))).trans ?_
  rw [g0_call scr (by decide), x2, Option.bind_some]
  show mm_run (mm_G scr) 0 1209 (lwL i) [.int z, .int z] (HP I' A' L' F' E') = _
  exact lw_same rfl
set_option maxRecDepth 20000 in
theorem lc_33 {i : Nat} {I : Nat → Int32} {A : Nat → List Int32} {L : Nat → List Int64} {F : Nat → Int64} {E : MH} (hs : scr.length ≤ 3072) (hi : i + 6 ≤ scr.length) (hS : Sim I A L) : Lc scr 1214 i I A L F E := by
  obtain ⟨v, I1, A1, L1, F1, E1, I', A', L', F', E', ⟨z, hz⟩, x1, x2, x3, x4⟩ := pr_tape ((scr.getD (i + 1) 0)) ((scr.getD (i + 2) 0)) ((scr.getD (i + 3) 0)) I A L F E hS
  subst hz
  refine ⟨I', A', L', F', E', ?_, x3, x4⟩
  refine (lw_ld1 (L := lwL i) rfl rfl).trans ?_
  refine (lw_rd (j := 1) (by omega) hs rfl rfl rfl rfl rfl).trans ?_
  refine (lw_rd (j := 2) (by omega) hs rfl rfl rfl rfl rfl).trans ?_
  refine (lw_rd (j := 3) (by omega) hs rfl rfl rfl rfl rfl).trans ?_
  refine (lw_callV (mj := 92) (as := [.ref 1, .int (scr.getD (i + 1) 0), .int (scr.getD (i + 2) 0), .int (scr.getD (i + 3) 0)]) (rest := []) rfl rfl rfl (Nat.le_of_ble_eq_true rfl) hp_o_1 (lw_k (by decide) (Nat.le_of_ble_eq_true rfl))).trans ?_
  rw [g0_call scr (by decide), x1, Option.bind_some]
  show mm_run (mm_G scr) 0 1233 (lwL i) [.int z] (HP I1 A1 L1 F1 E1) = _
  refine (lw_ld2 (L := lwL i) rfl rfl).trans ?_
  refine (lw_rd (j := 1) (by omega) hs rfl rfl rfl rfl rfl).trans ?_
  refine (lw_rd (j := 2) (by omega) hs rfl rfl rfl rfl rfl).trans ?_
  refine (lw_rd (j := 3) (by omega) hs rfl rfl rfl rfl rfl).trans ?_
  refine (lw_callV (mj := 186) (as := [.ref 84, .int (scr.getD (i + 1) 0), .int (scr.getD (i + 2) 0), .int (scr.getD (i + 3) 0)]) (rest := [.int z]) rfl rfl rfl (Nat.le_of_ble_eq_true rfl) hp_o_84 (lw_k (by decide) (Nat.le_of_ble_eq_true rfl))).trans ?_
  rw [g0_call scr (by decide), x2, Option.bind_some]
  show mm_run (mm_G scr) 0 1252 (lwL i) [.int z, .int z] (HP I' A' L' F' E') = _
  exact lw_same rfl
set_option maxRecDepth 20000 in
theorem lc_34 {i : Nat} {I : Nat → Int32} {A : Nat → List Int32} {L : Nat → List Int64} {F : Nat → Int64} {E : MH} (hs : scr.length ≤ 3072) (hi : i + 6 ≤ scr.length) (hS : Sim I A L) : Lc scr 1257 i I A L F E := by
  obtain ⟨v, I1, A1, L1, F1, E1, I', A', L', F', E', ⟨z, hz⟩, x1, x2, x3, x4⟩ := pr_item ((scr.getD (i + 1) 0)) ((scr.getD (i + 2) 0)) ((((scr.getD (i + 3) 0).toInt64 <<< ((32 : Int32).toInt64 &&& 63)) ||| ((scr.getD (i + 4) 0).toInt64 &&& 4294967295))) I A L F E hS
  subst hz
  refine ⟨I', A', L', F', E', ?_, x3, x4⟩
  refine (lw_ld1 (L := lwL i) rfl rfl).trans ?_
  refine (lw_rd (j := 1) (by omega) hs rfl rfl rfl rfl rfl).trans ?_
  refine (lw_rd (j := 2) (by omega) hs rfl rfl rfl rfl rfl).trans ?_
  refine (lw_rd (j := 3) (by omega) hs rfl rfl rfl rfl rfl).trans ?_
  refine (lw_st (L' := lwL i) (st' := [.long (scr.getD (i + 3) 0).toInt64, .int (scr.getD (i + 2) 0), .int (scr.getD (i + 1) 0), .ref 1]) (pc' := 1274) rfl rfl).trans ?_
  refine (lw_st (L' := lwL i) (st' := [.int 32, .long (scr.getD (i + 3) 0).toInt64, .int (scr.getD (i + 2) 0), .int (scr.getD (i + 1) 0), .ref 1]) (pc' := 1276) rfl rfl).trans ?_
  refine (lw_st (L' := lwL i) (st' := [.long ((scr.getD (i + 3) 0).toInt64 <<< ((32 : Int32).toInt64 &&& 63)), .int (scr.getD (i + 2) 0), .int (scr.getD (i + 1) 0), .ref 1]) (pc' := 1277) rfl rfl).trans ?_
  refine (lw_rd (j := 4) (by omega) hs rfl rfl rfl rfl rfl).trans ?_
  refine (lw_st (L' := lwL i) (st' := [.long (scr.getD (i + 4) 0).toInt64, .long ((scr.getD (i + 3) 0).toInt64 <<< ((32 : Int32).toInt64 &&& 63)), .int (scr.getD (i + 2) 0), .int (scr.getD (i + 1) 0), .ref 1]) (pc' := 1283) rfl rfl).trans ?_
  refine (lw_st (L' := lwL i) (st' := [.long 4294967295, .long (scr.getD (i + 4) 0).toInt64, .long ((scr.getD (i + 3) 0).toInt64 <<< ((32 : Int32).toInt64 &&& 63)), .int (scr.getD (i + 2) 0), .int (scr.getD (i + 1) 0), .ref 1]) (pc' := 1286) rfl rfl).trans ?_
  refine (lw_st (L' := lwL i) (st' := [.long ((scr.getD (i + 4) 0).toInt64 &&& 4294967295), .long ((scr.getD (i + 3) 0).toInt64 <<< ((32 : Int32).toInt64 &&& 63)), .int (scr.getD (i + 2) 0), .int (scr.getD (i + 1) 0), .ref 1]) (pc' := 1287) rfl rfl).trans ?_
  refine (lw_st (L' := lwL i) (st' := [.long (((scr.getD (i + 3) 0).toInt64 <<< ((32 : Int32).toInt64 &&& 63)) ||| ((scr.getD (i + 4) 0).toInt64 &&& 4294967295)), .int (scr.getD (i + 2) 0), .int (scr.getD (i + 1) 0), .ref 1]) (pc' := 1288) rfl rfl).trans ?_
  refine (lw_callV (mj := 93) (as := [.ref 1, .int (scr.getD (i + 1) 0), .int (scr.getD (i + 2) 0), .long (((scr.getD (i + 3) 0).toInt64 <<< ((32 : Int32).toInt64 &&& 63)) ||| ((scr.getD (i + 4) 0).toInt64 &&& 4294967295))]) (rest := []) rfl rfl rfl (Nat.le_of_ble_eq_true rfl) hp_o_1 (lw_k (by decide) (Nat.le_of_ble_eq_true rfl))).trans ?_
  rw [g0_call scr (by decide), x1, Option.bind_some]
  show mm_run (mm_G scr) 0 1291 (lwL i) [.int z] (HP I1 A1 L1 F1 E1) = _
  refine (lw_ld2 (L := lwL i) rfl rfl).trans ?_
  refine (lw_rd (j := 1) (by omega) hs rfl rfl rfl rfl rfl).trans ?_
  refine (lw_rd (j := 2) (by omega) hs rfl rfl rfl rfl rfl).trans ?_
  refine (lw_rd (j := 3) (by omega) hs rfl rfl rfl rfl rfl).trans ?_
  refine (lw_st (L' := lwL i) (st' := [.long (scr.getD (i + 3) 0).toInt64, .int (scr.getD (i + 2) 0), .int (scr.getD (i + 1) 0), .ref 84, .int z]) (pc' := 1308) rfl rfl).trans ?_
  refine (lw_st (L' := lwL i) (st' := [.int 32, .long (scr.getD (i + 3) 0).toInt64, .int (scr.getD (i + 2) 0), .int (scr.getD (i + 1) 0), .ref 84, .int z]) (pc' := 1310) rfl rfl).trans ?_
  refine (lw_st (L' := lwL i) (st' := [.long ((scr.getD (i + 3) 0).toInt64 <<< ((32 : Int32).toInt64 &&& 63)), .int (scr.getD (i + 2) 0), .int (scr.getD (i + 1) 0), .ref 84, .int z]) (pc' := 1311) rfl rfl).trans ?_
  refine (lw_rd (j := 4) (by omega) hs rfl rfl rfl rfl rfl).trans ?_
  refine (lw_st (L' := lwL i) (st' := [.long (scr.getD (i + 4) 0).toInt64, .long ((scr.getD (i + 3) 0).toInt64 <<< ((32 : Int32).toInt64 &&& 63)), .int (scr.getD (i + 2) 0), .int (scr.getD (i + 1) 0), .ref 84, .int z]) (pc' := 1317) rfl rfl).trans ?_
  refine (lw_st (L' := lwL i) (st' := [.long 4294967295, .long (scr.getD (i + 4) 0).toInt64, .long ((scr.getD (i + 3) 0).toInt64 <<< ((32 : Int32).toInt64 &&& 63)), .int (scr.getD (i + 2) 0), .int (scr.getD (i + 1) 0), .ref 84, .int z]) (pc' := 1320) rfl rfl).trans ?_
  refine (lw_st (L' := lwL i) (st' := [.long ((scr.getD (i + 4) 0).toInt64 &&& 4294967295), .long ((scr.getD (i + 3) 0).toInt64 <<< ((32 : Int32).toInt64 &&& 63)), .int (scr.getD (i + 2) 0), .int (scr.getD (i + 1) 0), .ref 84, .int z]) (pc' := 1321) rfl rfl).trans ?_
  refine (lw_st (L' := lwL i) (st' := [.long (((scr.getD (i + 3) 0).toInt64 <<< ((32 : Int32).toInt64 &&& 63)) ||| ((scr.getD (i + 4) 0).toInt64 &&& 4294967295)), .int (scr.getD (i + 2) 0), .int (scr.getD (i + 1) 0), .ref 84, .int z]) (pc' := 1322) rfl rfl).trans ?_
  refine (lw_callV (mj := 188) (as := [.ref 84, .int (scr.getD (i + 1) 0), .int (scr.getD (i + 2) 0), .long (((scr.getD (i + 3) 0).toInt64 <<< ((32 : Int32).toInt64 &&& 63)) ||| ((scr.getD (i + 4) 0).toInt64 &&& 4294967295))]) (rest := [.int z]) rfl rfl rfl (Nat.le_of_ble_eq_true rfl) hp_o_84 (lw_k (by decide) (Nat.le_of_ble_eq_true rfl))).trans ?_
  rw [g0_call scr (by decide), x2, Option.bind_some]
  show mm_run (mm_G scr) 0 1325 (lwL i) [.int z, .int z] (HP I' A' L' F' E') = _
  exact lw_same rfl
set_option maxRecDepth 20000 in
theorem lc_35 {i : Nat} {I : Nat → Int32} {A : Nat → List Int32} {L : Nat → List Int64} {F : Nat → Int64} {E : MH} (hs : scr.length ≤ 3072) (hi : i + 6 ≤ scr.length) (hS : Sim I A L) : Lc scr 1330 i I A L F E := by
  obtain ⟨v, I1, A1, L1, F1, E1, I', A', L', F', E', ⟨z, hz⟩, x1, x2, x3, x4⟩ := pr_peek ((scr.getD (i + 1) 0)) ((scr.getD (i + 2) 0)) I A L F E hS
  subst hz
  refine ⟨I', A', L', F', E', ?_, x3, x4⟩
  refine (lw_ld1 (L := lwL i) rfl rfl).trans ?_
  refine (lw_rd (j := 1) (by omega) hs rfl rfl rfl rfl rfl).trans ?_
  refine (lw_rd (j := 2) (by omega) hs rfl rfl rfl rfl rfl).trans ?_
  refine (lw_callV (mj := 94) (as := [.ref 1, .int (scr.getD (i + 1) 0), .int (scr.getD (i + 2) 0)]) (rest := []) rfl rfl rfl (Nat.le_of_ble_eq_true rfl) hp_o_1 (lw_k (by decide) (Nat.le_of_ble_eq_true rfl))).trans ?_
  rw [g0_call scr (by decide), x1, Option.bind_some]
  show mm_run (mm_G scr) 0 1344 (lwL i) [.long z] (HP I1 A1 L1 F1 E1) = _
  refine (lw_ld2 (L := lwL i) rfl rfl).trans ?_
  refine (lw_rd (j := 1) (by omega) hs rfl rfl rfl rfl rfl).trans ?_
  refine (lw_rd (j := 2) (by omega) hs rfl rfl rfl rfl rfl).trans ?_
  refine (lw_callV (mj := 189) (as := [.ref 84, .int (scr.getD (i + 1) 0), .int (scr.getD (i + 2) 0)]) (rest := [.long z]) rfl rfl rfl (Nat.le_of_ble_eq_true rfl) hp_o_84 (lw_k (by decide) (Nat.le_of_ble_eq_true rfl))).trans ?_
  rw [g0_call scr (by decide), x2, Option.bind_some]
  show mm_run (mm_G scr) 0 1358 (lwL i) [.long z, .long z] (HP I' A' L' F' E') = _
  exact lw_sameL rfl rfl
set_option maxRecDepth 20000 in
theorem lc_36 {i : Nat} {I : Nat → Int32} {A : Nat → List Int32} {L : Nat → List Int64} {F : Nat → Int64} {E : MH} (hs : scr.length ≤ 3072) (hi : i + 6 ≤ scr.length) (hS : Sim I A L) : Lc scr 1364 i I A L F E := by
  obtain ⟨v, I1, A1, L1, F1, E1, I', A', L', F', E', ⟨z, hz⟩, x1, x2, x3, x4⟩ := pr_shift ((scr.getD (i + 1) 0)) ((scr.getD (i + 2) 0)) ((scr.getD (i + 3) 0)) ((scr.getD (i + 4) 0)) ((scr.getD (i + 5) 0)) I A L F E hS
  subst hz
  refine ⟨I', A', L', F', E', ?_, x3, x4⟩
  refine (lw_ld1 (L := lwL i) rfl rfl).trans ?_
  refine (lw_rd (j := 1) (by omega) hs rfl rfl rfl rfl rfl).trans ?_
  refine (lw_rd (j := 2) (by omega) hs rfl rfl rfl rfl rfl).trans ?_
  refine (lw_rd (j := 3) (by omega) hs rfl rfl rfl rfl rfl).trans ?_
  refine (lw_rd (j := 4) (by omega) hs rfl rfl rfl rfl rfl).trans ?_
  refine (lw_rd (j := 5) (by omega) hs rfl rfl rfl rfl rfl).trans ?_
  refine (lw_callV (mj := 95) (as := [.ref 1, .int (scr.getD (i + 1) 0), .int (scr.getD (i + 2) 0), .int (scr.getD (i + 3) 0), .int (scr.getD (i + 4) 0), .int (scr.getD (i + 5) 0)]) (rest := []) rfl rfl rfl (Nat.le_of_ble_eq_true rfl) hp_o_1 (lw_k (by decide) (Nat.le_of_ble_eq_true rfl))).trans ?_
  rw [g0_call scr (by decide), x1, Option.bind_some]
  show mm_run (mm_G scr) 0 1393 (lwL i) [.int z] (HP I1 A1 L1 F1 E1) = _
  refine (lw_ld2 (L := lwL i) rfl rfl).trans ?_
  refine (lw_rd (j := 1) (by omega) hs rfl rfl rfl rfl rfl).trans ?_
  refine (lw_rd (j := 2) (by omega) hs rfl rfl rfl rfl rfl).trans ?_
  refine (lw_rd (j := 3) (by omega) hs rfl rfl rfl rfl rfl).trans ?_
  refine (lw_rd (j := 4) (by omega) hs rfl rfl rfl rfl rfl).trans ?_
  refine (lw_rd (j := 5) (by omega) hs rfl rfl rfl rfl rfl).trans ?_
  refine (lw_callV (mj := 190) (as := [.ref 84, .int (scr.getD (i + 1) 0), .int (scr.getD (i + 2) 0), .int (scr.getD (i + 3) 0), .int (scr.getD (i + 4) 0), .int (scr.getD (i + 5) 0)]) (rest := [.int z]) rfl rfl rfl (Nat.le_of_ble_eq_true rfl) hp_o_84 (lw_k (by decide) (Nat.le_of_ble_eq_true rfl))).trans ?_
  rw [g0_call scr (by decide), x2, Option.bind_some]
  show mm_run (mm_G scr) 0 1422 (lwL i) [.int z, .int z] (HP I' A' L' F' E') = _
  exact lw_same rfl
end LWR
