/-! likely: the reference walks, over rows made anew -/
theorem sg_newL {mi : Nat} {t : List (Nat × Act)} {pc n k : Nat} {L : ML} {h : MH} {r : List Value} (ht : ∀ pc, mm_act G0 mi pc = t.lookup pc) {x : Int32} (e : t.lookup pc = some (ac_newL n)) (hx : ¬ x < 0) (hk : x.toNatClampNeg = k) (h4 : k ≤ 400) : mm_run G0 mi pc L (.int x :: r) h = mm_run G0 mi n L (.ref h.length :: r) (h ++ [.inr (.inr (.inl (List.replicate k 0)))]) := by
  refine mm_step ((ht pc).trans e) ?_
  show (if _ then _ else _) = _
  rw [if_pos ⟨hx, by rw [hk]; exact h4⟩, hk]
theorem set_last {α : Type} {c c' : α} : ∀ E : List α, (E ++ [c]).set E.length c' = E ++ [c']
  | [] => rfl
  | x :: E => congrArg (x :: ·) (set_last E)
theorem get_last {α : Type} {c : α} : ∀ E : List α, (E ++ [c])[E.length]? = some c
  | [] => rfl
  | x :: E => get_last E
abbrev lgs (l : List Int64) : MC := .inr (.inr (.inl l))
abbrev lkL (p1 p2 p3 p4 lim : Int32) (k : Nat) (wh : Int64) (t : Int32) (o10 o11 o12 : Option Value) : ML := [some (.ref 84), some (.int p1), some (.int p2), some (.int p3), some (.int p4), some (.int lim), some (.ref (k + 105)), some (.long wh), none, some (.int t), o10, o11, o12]
section LKM
variable {I : Nat → Int32} {A : Nat → List Int32} {L : Nat → List Int64} {F : Nat → Int64}
theorem hE_get {E : MH} (k : Nat) : (HP I A L F E)[k + 105]? = E[k]? := rfl
theorem hE_set {E : MH} (k : Nat) (c : MC) : (HP I A L F E).set (k + 105) c = HP I A L F (E.set k c) := rfl
set_option maxRecDepth 20000 in
/-- the first row -/
theorem lk_46 {E : MH} {p1 p3 p4 lim : Int32} {level : Nat} (hl : level < 7) : mm_run G0 164 46 [some (.ref 84), some (.int p1), some (.int (nI level)), some (.int p3), some (.int p4), some (.int lim), none, none, none, none, none, none, none] [] (HP I A L F E) = mm_run G0 164 63 (lkL p1 (nI level) p3 p4 lim E.length 1 0 none none none) [] (HP I A L F (E ++ [lgs ((List.replicate 7 0).set level 1)])) := by
  refine (sg_go ht_X8_likely (k := 1) (pc' := 48) (L' := [some (.ref 84), some (.int p1), some (.int (nI level)), some (.int p3), some (.int p4), some (.int lim), none, none, none, none, none, none, none]) (st' := [.int 7]) (h' := HP I A L F E) rfl).trans ?_
  refine (sg_newL ht_X8_likely (k := 7) rfl (by decide) (by decide) (by decide)).trans ?_
  show mm_run G0 164 50 [some (.ref 84), some (.int p1), some (.int (nI level)), some (.int p3), some (.int p4), some (.int lim), none, none, none, none, none, none, none] [.ref (E.length + 105)] (HP I A L F (E ++ [lgs (List.replicate 7 0)])) = _
  refine (sg_go ht_X8_likely (k := 4) (pc' := 56) (L' := [some (.ref 84), some (.int p1), some (.int (nI level)), some (.int p3), some (.int p4), some (.int lim), some (.ref (E.length + 105)), none, none, none, none, none, none]) (st' := [.long 1, .int (nI level), .ref (E.length + 105)]) (h' := HP I A L F (E ++ [lgs (List.replicate 7 0)])) rfl).trans ?_
  refine (sg_stL (hh := fun X => HP I A L F (E ++ [lgs X])) ht_X8_likely (l := List.replicate 7 0) rfl (by rw [hE_get]; exact get_last E) (fun X => by rw [hE_set, set_last])).trans ?_
  rw [stL_n (by rw [List.length_replicate]; exact hl) (by rw [List.length_replicate]; decide), Option.bind_some]
  exact sg_go ht_X8_likely (k := 4) (pc' := 63) (L' := lkL p1 (nI level) p3 p4 lim E.length 1 0 none none none) (st' := []) (h' := HP I A L F (E ++ [lgs ((List.replicate 7 0).set level 1)])) rfl
set_option maxRecDepth 20000 in
theorem lk_63 {E : MH} {p1 p2 p4 lim : Int32} {n t k : Nat} {wh : Int64} {o10 o11 o12 : Option Value} (hn : n ≤ 8) (ht : t ≤ 8) : mm_run G0 164 63 (lkL p1 p2 (nI n) p4 lim k wh (nI t) o10 o11 o12) [] (HP I A L F E) = if n ≤ t then mm_run G0 164 175 (lkL p1 p2 (nI n) p4 lim k wh (nI t) o10 o11 o12) [] (HP I A L F E) else mm_run G0 164 69 (lkL p1 p2 (nI n) p4 lim k wh (nI t) o10 o11 o12) [] (HP I A L F E) := by
  refine (sg_go ht_X8_likely (k := 2) (pc' := 66) (L' := lkL p1 p2 (nI n) p4 lim k wh (nI t) o10 o11 o12) (st' := [.int (nI n), .int (nI t)]) (h' := HP I A L F E) rfl).trans ?_
  refine (sg_cmp (c := fun x y => y ≤ x) ht_X8_likely rfl).trans ?_
  by_cases h : n ≤ t
  · rw [if_pos h, if_pos (n_le (a := n) (b := t) h (by omega))]
  · rw [if_neg h, if_neg (n_nle (a := t) (b := n) (by omega) (by omega))]
set_option maxRecDepth 20000 in
/-- a new row, with what was at the limit -/
theorem lk_69 {E : MH} {p1 p2 p3 p4 t : Int32} {lim k aw : Nat} {wh : Int64} {o10 o11 o12 : Option Value} {H : List Int64} (hlim : lim ≤ 6) (hk : k < E.length) (hE : E[k]? = some (lgs H)) (hH : H.length = 7) (haw : ∀ E, mm_call G0 156 [.ref 84] (HP I A L F E) = some (some (.int (nI aw)), HP I A L F E)) : mm_run G0 164 69 (lkL p1 p2 p3 p4 (nI lim) k wh t o10 o11 o12) [] (HP I A L F E) = mm_run G0 164 94 (lkL p1 p2 p3 p4 (nI lim) k wh t (some (.ref (E.length + 105))) (some (.int 0)) o12) [] (HP I A L F (E ++ [lgs ((List.replicate 7 0).set lim (H.getD lim 0 * (nI aw).toInt64))])) := by
  refine (sg_go ht_X8_likely (k := 1) (pc' := 71) (L' := lkL p1 p2 p3 p4 (nI lim) k wh t o10 o11 o12) (st' := [.int 7]) (h' := HP I A L F E) rfl).trans ?_
  refine (sg_newL ht_X8_likely (k := 7) rfl (by decide) (by decide) (by decide)).trans ?_
  show mm_run G0 164 73 (lkL p1 p2 p3 p4 (nI lim) k wh t o10 o11 o12) [.ref (E.length + 105)] (HP I A L F (E ++ [lgs (List.replicate 7 0)])) = _
  refine (sg_go ht_X8_likely (k := 5) (pc' := 83) (L' := lkL p1 p2 p3 p4 (nI lim) k wh t (some (.ref (E.length + 105))) o11 o12) (st' := [.int (nI lim), .ref (k + 105), .int (nI lim), .ref (E.length + 105)]) (h' := HP I A L F (E ++ [lgs (List.replicate 7 0)])) rfl).trans ?_
  refine (sg_ldL (l := H) ht_X8_likely rfl (by rw [hE_get, List.getElem?_append_left hk]; exact hE)).trans ?_
  rw [ldL_d (by omega) (by omega), Option.bind_some]
  refine (sg_go ht_X8_likely (k := 1) (pc' := 85) (L' := lkL p1 p2 p3 p4 (nI lim) k wh t (some (.ref (E.length + 105))) o11 o12) (st' := [.ref 84, .long (H.getD lim 0), .int (nI lim), .ref (E.length + 105)]) (h' := HP I A L F (E ++ [lgs (List.replicate 7 0)])) rfl).trans ?_
  refine (sg_callV ht_X8_likely (mj := 156) (as := [.ref 84]) (rest := [.long (H.getD lim 0), .int (nI lim), .ref (E.length + 105)]) rfl rfl rfl (Nat.le_of_ble_eq_true rfl) hp_o_84 ⟨by decide, Nat.le_of_ble_eq_true rfl⟩).trans ?_
  rw [haw, Option.bind_some]
  refine (sg_go ht_X8_likely (k := 2) (pc' := 90) (L' := lkL p1 p2 p3 p4 (nI lim) k wh t (some (.ref (E.length + 105))) o11 o12) (st' := [.long (H.getD lim 0 * (nI aw).toInt64), .int (nI lim), .ref (E.length + 105)]) (h' := HP I A L F (E ++ [lgs (List.replicate 7 0)])) rfl).trans ?_
  refine (sg_stL (hh := fun X => HP I A L F (E ++ [lgs X])) ht_X8_likely (l := List.replicate 7 0) rfl (by rw [hE_get]; exact get_last E) (fun X => by rw [hE_set, set_last])).trans ?_
  rw [stL_n (by rw [List.length_replicate]; omega) (by rw [List.length_replicate]; decide), Option.bind_some]
  exact sg_go ht_X8_likely (k := 2) (pc' := 94) (L' := lkL p1 p2 p3 p4 (nI lim) k wh t (some (.ref (E.length + 105))) (some (.int 0)) o12) (st' := []) rfl
set_option maxRecDepth 20000 in
theorem lk_94 {E : MH} {p1 p2 p3 p4 t : Int32} {lim k l a : Nat} {wh : Int64} {o12 : Option Value} (hlim : lim ≤ 6) (hl : l ≤ 6) : mm_run G0 164 94 (lkL p1 p2 p3 p4 (nI lim) k wh t (some (.ref a)) (some (.int (nI l))) o12) [] (HP I A L F E) = if lim ≤ l then mm_run G0 164 155 (lkL p1 p2 p3 p4 (nI lim) k wh t (some (.ref a)) (some (.int (nI l))) o12) [] (HP I A L F E) else mm_run G0 164 104 (lkL p1 p2 p3 p4 (nI lim) k wh t (some (.ref a)) (some (.int (nI l))) (some (.int 0))) [] (HP I A L F E) := by
  refine (sg_go ht_X8_likely (k := 2) (pc' := 98) (L' := lkL p1 p2 p3 p4 (nI lim) k wh t (some (.ref a)) (some (.int (nI l))) o12) (st' := [.int (nI lim), .int (nI l)]) (h' := HP I A L F E) rfl).trans ?_
  refine (sg_cmp (c := fun x y => y ≤ x) ht_X8_likely rfl).trans ?_
  by_cases h : lim ≤ l
  · rw [if_pos h, if_pos (n_le (a := lim) (b := l) h (by omega))]
  · rw [if_neg h, if_neg (n_nle (a := l) (b := lim) (by omega) (by omega))]
    exact sg_go ht_X8_likely (k := 2) (pc' := 104) (L' := lkL p1 p2 p3 p4 (nI lim) k wh t (some (.ref a)) (some (.int (nI l))) (some (.int 0))) (st' := []) rfl
set_option maxRecDepth 20000 in
theorem lk_104e {E : MH} {p1 p2 p3 p4 t lim : Int32} {k l a : Nat} {wh : Int64} : mm_run G0 164 104 (lkL p1 p2 p3 p4 lim k wh t (some (.ref a)) (some (.int (nI l))) (some (.int 5))) [] (HP I A L F E) = mm_run G0 164 94 (lkL p1 p2 p3 p4 lim k wh t (some (.ref a)) (some (.int (nI l + 1))) (some (.int 5))) [] (HP I A L F E) := by
  refine (sg_go ht_X8_likely (k := 2) (pc' := 107) (L' := lkL p1 p2 p3 p4 lim k wh t (some (.ref a)) (some (.int (nI l))) (some (.int 5))) (st' := [.int 5, .int 5]) (h' := HP I A L F E) rfl).trans ?_
  refine (sg_cmp (c := fun x y => y ≤ x) ht_X8_likely rfl).trans ?_
  rw [if_pos (by decide)]
  exact sg_go ht_X8_likely (k := 2) (pc' := 94) (L' := lkL p1 p2 p3 p4 lim k wh t (some (.ref a)) (some (.int (nI l + 1))) (some (.int 5))) (st' := []) rfl
set_option maxRecDepth 20000 in
/-- one step from one level -/
theorem lk_104 {E : MH} {p1 p2 p3 p4 t lim : Int32} {k l i to w : Nat} {wh : Int64} {H N : List Int64} (hi : i < 5) (hl : l < 7) (hto : to < 7) (hk : k < E.length) (hE : E[k]? = some (lgs H)) (hH : H.length = 7) (hN : N.length = 7) (hld : ∀ E, mm_call G0 157 [.ref 84, .int p1, .int (nI l), .int (nI i)] (HP I A L F E) = some (some (.int (nI to)), HP I A L F E)) (hw : ldI (A 85) (nI (180 + i)) = some (nI w)) : mm_run G0 164 104 (lkL p1 p2 p3 p4 lim k wh t (some (.ref (E.length + 105))) (some (.int (nI l))) (some (.int (nI i)))) [] (HP I A L F (E ++ [lgs N])) = mm_run G0 164 104 (lkL p1 p2 p3 p4 lim k wh t (some (.ref (E.length + 105))) (some (.int (nI l))) (some (.int (nI i + 1)))) [] (HP I A L F (E ++ [lgs (N.set to (N.getD to 0 + H.getD l 0 * (nI w).toInt64))])) := by
  obtain ⟨LL, hLL⟩ : ∃ LL, lkL p1 p2 p3 p4 lim k wh t (some (.ref (E.length + 105))) (some (.int (nI l))) (some (.int (nI i))) = LL := ⟨_, rfl⟩
  refine (sg_go ht_X8_likely (k := 2) (pc' := 107) (L' := lkL p1 p2 p3 p4 lim k wh t (some (.ref (E.length + 105))) (some (.int (nI l))) (some (.int (nI i)))) (st' := [.int 5, .int (nI i)]) (h' := HP I A L F (E ++ [lgs N])) rfl).trans ?_
  refine (sg_cmp (c := fun x y => y ≤ x) ht_X8_likely rfl).trans ?_
  rw [if_neg (show ¬ (5 : Int32) ≤ nI i from n_nle (a := i) (b := 5) hi (by decide))]
  refine (sg_go ht_X8_likely (k := 5) (pc' := 118) (L' := lkL p1 p2 p3 p4 lim k wh t (some (.ref (E.length + 105))) (some (.int (nI l))) (some (.int (nI i)))) (st' := [.int (nI i), .int (nI l), .int p1, .ref 84, .ref (E.length + 105)]) (h' := HP I A L F (E ++ [lgs N])) rfl).trans ?_
  refine (sg_callV ht_X8_likely (mj := 157) (as := [.ref 84, .int p1, .int (nI l), .int (nI i)]) (rest := [.ref (E.length + 105)]) rfl rfl rfl (Nat.le_of_ble_eq_true rfl) hp_o_84 ⟨by decide, Nat.le_of_ble_eq_true rfl⟩).trans ?_
  rw [hld, Option.bind_some]
  refine (sg_go ht_X8_likely (k := 1) (pc' := 122) (L' := lkL p1 p2 p3 p4 lim k wh t (some (.ref (E.length + 105))) (some (.int (nI l))) (some (.int (nI i)))) (st' := [.int (nI to), .ref (E.length + 105), .int (nI to), .ref (E.length + 105)]) (h' := HP I A L F (E ++ [lgs N])) rfl).trans ?_
  refine (sg_ldL (l := N) ht_X8_likely rfl (by rw [hE_get]; exact get_last E)).trans ?_
  rw [ldL_d (by omega) (by omega), Option.bind_some]
  refine (sg_go ht_X8_likely (k := 2) (pc' := 127) (L' := lkL p1 p2 p3 p4 lim k wh t (some (.ref (E.length + 105))) (some (.int (nI l))) (some (.int (nI i)))) (st' := [.int (nI l), .ref (k + 105), .long (N.getD to 0), .int (nI to), .ref (E.length + 105)]) (h' := HP I A L F (E ++ [lgs N])) rfl).trans ?_
  refine (sg_ldL (l := H) ht_X8_likely rfl (by rw [hE_get, List.getElem?_append_left hk]; exact hE)).trans ?_
  rw [ldL_d (by omega) (by omega), Option.bind_some]
  refine (sg_go ht_X8_likely (k := 1) (pc' := 129) (L' := lkL p1 p2 p3 p4 lim k wh t (some (.ref (E.length + 105))) (some (.int (nI l))) (some (.int (nI i)))) (st' := [.ref 84, .long (H.getD l 0), .long (N.getD to 0), .int (nI to), .ref (E.length + 105)]) (h' := HP I A L F (E ++ [lgs N])) rfl).trans ?_
  refine (sg_getR ht_X8_likely rfl hp_o_84 rfl).trans ?_
  refine (sg_go ht_X8_likely (k := 3) (pc' := 138) (L' := lkL p1 p2 p3 p4 lim k wh t (some (.ref (E.length + 105))) (some (.int (nI l))) (some (.int (nI i)))) (st' := [.int (180 + nI i), .ref 85, .long (H.getD l 0), .long (N.getD to 0), .int (nI to), .ref (E.length + 105)]) (h' := HP I A L F (E ++ [lgs N])) rfl).trans ?_
  refine (sg_ldI (l := A 85) ht_X8_likely rfl hp_o_85).trans ?_
  rw [show (180 : Int32) + nI i = nI (180 + i) by rw [show (180 : Int32) = nI 180 from rfl, nI_add], hw, Option.bind_some]
  refine (sg_go ht_X8_likely (k := 3) (pc' := 142) (L' := lkL p1 p2 p3 p4 lim k wh t (some (.ref (E.length + 105))) (some (.int (nI l))) (some (.int (nI i)))) (st' := [.long (N.getD to 0 + H.getD l 0 * (nI w).toInt64), .int (nI to), .ref (E.length + 105)]) (h' := HP I A L F (E ++ [lgs N])) rfl).trans ?_
  refine (sg_stL (hh := fun X => HP I A L F (E ++ [lgs X])) ht_X8_likely (l := N) rfl (by rw [hE_get]; exact get_last E) (fun X => by rw [hE_set, set_last])).trans ?_
  rw [stL_n (by omega) (by omega), Option.bind_some]
  exact sg_go ht_X8_likely (k := 2) (pc' := 104) (L' := lkL p1 p2 p3 p4 lim k wh t (some (.ref (E.length + 105))) (some (.int (nI l))) (some (.int (nI i + 1)))) (st' := []) rfl
set_option maxRecDepth 20000 in
theorem lk_155 {E : MH} {p1 p2 p3 p4 t lim : Int32} {k b aw : Nat} {wh : Int64} {o11 o12 : Option Value} (haw : ∀ E, mm_call G0 156 [.ref 84] (HP I A L F E) = some (some (.int (nI aw)), HP I A L F E)) : mm_run G0 164 155 (lkL p1 p2 p3 p4 lim k wh t (some (.ref (b + 105))) o11 o12) [] (HP I A L F E) = mm_run G0 164 63 (lkL p1 p2 p3 p4 lim b (wh * (nI aw).toInt64) (t + 1) (some (.ref (b + 105))) o11 o12) [] (HP I A L F E) := by
  refine (sg_go ht_X8_likely (k := 4) (pc' := 162) (L' := lkL p1 p2 p3 p4 lim b wh t (some (.ref (b + 105))) o11 o12) (st' := [.ref 84, .long wh]) (h' := HP I A L F E) rfl).trans ?_
  refine (sg_callV ht_X8_likely (mj := 156) (as := [.ref 84]) (rest := [.long wh]) rfl rfl rfl (Nat.le_of_ble_eq_true rfl) hp_o_84 ⟨by decide, Nat.le_of_ble_eq_true rfl⟩).trans ?_
  rw [haw, Option.bind_some]
  exact sg_go ht_X8_likely (k := 5) (pc' := 63) (L' := lkL p1 p2 p3 p4 lim b (wh * (nI aw).toInt64) (t + 1) (some (.ref (b + 105))) o11 o12) (st' := []) (h' := HP I A L F E) rfl
set_option maxRecDepth 20000 in
theorem lk_175 {E : MH} {p1 p2 p3 p4 t : Int32} {lim k : Nat} {wh v : Int64} {o10 o11 o12 : Option Value} {H : List Int64} (hlim : lim ≤ 6) (hE : E[k]? = some (lgs H)) (hH : H.length = 7) (hp : mm_call G0 152 [.long (H.getD lim 0), .long wh, .int p4] (HP I A L F E) = some (some (.long v), HP I A L F E)) : mm_run G0 164 175 (lkL p1 p2 p3 p4 (nI lim) k wh t o10 o11 o12) [] (HP I A L F E) = some (some (.long v), HP I A L F E) := by
  refine (sg_go ht_X8_likely (k := 2) (pc' := 179) (L' := lkL p1 p2 p3 p4 (nI lim) k wh t o10 o11 o12) (st' := [.int (nI lim), .ref (k + 105)]) (h' := HP I A L F E) rfl).trans ?_
  refine (sg_ldL (l := H) ht_X8_likely rfl (by rw [hE_get]; exact hE)).trans ?_
  rw [ldL_d (by omega) (by omega), Option.bind_some]
  refine (sg_go ht_X8_likely (k := 2) (pc' := 184) (L' := lkL p1 p2 p3 p4 (nI lim) k wh t o10 o11 o12) (st' := [.int p4, .long wh, .long (H.getD lim 0)]) (h' := HP I A L F E) rfl).trans ?_
  refine (sg_call ht_X8_likely (mj := 152) (as := [.long (H.getD lim 0), .long wh, .int p4]) (rest := []) rfl rfl ⟨by decide, Nat.le_of_ble_eq_true rfl⟩).trans ?_
  rw [hp, Option.bind_some]
  exact sg_ret ht_X8_likely rfl rfl
set_option maxRecDepth 20000 in
/-- the entry: what must hold before a row is made -/
theorem lk_0 {E : MH} {p1 p2 p3 p4 z lim : Int32} (hc : mm_call G0 159 [.ref 84, .int p1, .int p2] (HP I A L F E) = some (some (.int z), HP I A L F E)) (hl : z ≠ 0 → ldI (A 85) (45 * p1 + 3) = some lim) : mm_call G0 164 [.ref 84, .int p1, .int p2, .int p3, .int p4] (HP I A L F E) = if z ≠ 0 ∧ (¬ p3 < 0 ∧ ¬ 8 < p3) ∧ (p4 = 0 ∨ p4 = 1) then mm_run G0 164 46 [some (.ref 84), some (.int p1), some (.int p2), some (.int p3), some (.int p4), some (.int lim), none, none, none, none, none, none, none] [] (HP I A L F E) else some (some (.long (-9223372036854775808)), HP I A L F E) := by
  have no : mm_run G0 164 29 [some (.ref 84), some (.int p1), some (.int p2), some (.int p3), some (.int p4), none, none, none, none, none, none, none, none] [] (HP I A L F E) = some (some (.long (-9223372036854775808)), HP I A L F E) := by
    refine (sg_go ht_X8_likely (k := 1) (pc' := 32) (L' := [some (.ref 84), some (.int p1), some (.int p2), some (.int p3), some (.int p4), none, none, none, none, none, none, none, none]) (st' := [.long (-9223372036854775808)]) (h' := HP I A L F E) rfl).trans ?_
    exact sg_ret ht_X8_likely rfl rfl
  show mm_run G0 164 0 [some (.ref 84), some (.int p1), some (.int p2), some (.int p3), some (.int p4), none, none, none, none, none, none, none, none] [] (HP I A L F E) = _
  refine (sg_go ht_X8_likely (k := 3) (pc' := 3) (L' := [some (.ref 84), some (.int p1), some (.int p2), some (.int p3), some (.int p4), none, none, none, none, none, none, none, none]) (st' := [.int p2, .int p1, .ref 84]) (h' := HP I A L F E) rfl).trans ?_
  refine (sg_callV ht_X8_likely (mj := 159) (as := [.ref 84, .int p1, .int p2]) (rest := []) rfl rfl rfl (Nat.le_of_ble_eq_true rfl) hp_o_84 ⟨by decide, Nat.le_of_ble_eq_true rfl⟩).trans ?_
  rw [hc, Option.bind_some]
  refine (sg_if (c := fun x => x = 0) ht_X8_likely rfl).trans ?_
  by_cases c1 : z = 0
  · rw [if_pos c1, if_neg (fun q => q.1 c1)]
    exact no
  rw [if_neg c1]
  refine (sg_go ht_X8_likely (k := 3) (pc' := 13) (L' := [some (.ref 84), some (.int p1), some (.int p2), some (.int p3), some (.int p4), none, none, none, none, none, none, none, none]) (st' := [.int 8, .int 0, .int p3]) (h' := HP I A L F E) rfl).trans ?_
  refine (sg_call ht_X8_likely (mj := 113) (as := [.int p3, .int 0, .int 8]) (rest := []) rfl rfl ⟨by decide, Nat.le_of_ble_eq_true rfl⟩).trans ?_
  rw [sp_X8_isIn, Option.bind_some]
  refine (sg_be (c := ¬ p3 < 0 ∧ ¬ 8 < p3) ht_X8_likely rfl).trans ?_
  by_cases c2 : ¬ p3 < 0 ∧ ¬ 8 < p3
  rotate_left 1
  · rw [if_neg c2, if_neg (fun q => c2 q.2.1)]
    exact no
  rw [if_pos c2]
  refine (sg_go ht_X8_likely (k := 3) (pc' := 23) (L' := [some (.ref 84), some (.int p1), some (.int p2), some (.int p3), some (.int p4), none, none, none, none, none, none, none, none]) (st' := [.int 1, .int 0, .int p4]) (h' := HP I A L F E) rfl).trans ?_
  refine (sg_call ht_X8_likely (mj := 113) (as := [.int p4, .int 0, .int 1]) (rest := []) rfl rfl ⟨by decide, Nat.le_of_ble_eq_true rfl⟩).trans ?_
  rw [sp_X8_isIn, Option.bind_some]
  refine (sg_bn (c := ¬ p4 < 0 ∧ ¬ 1 < p4) ht_X8_likely rfl).trans ?_
  by_cases c3 : ¬ p4 < 0 ∧ ¬ 1 < p4
  rotate_left 1
  · rw [if_neg c3, if_neg (fun q => c3 (in01.mpr q.2.2))]
    exact no
  rw [if_pos c3, if_pos ⟨c1, c2, in01.mp c3⟩]
  refine (sg_go ht_X8_likely (k := 1) (pc' := 34) (L' := [some (.ref 84), some (.int p1), some (.int p2), some (.int p3), some (.int p4), none, none, none, none, none, none, none, none]) (st' := [.ref 84]) (h' := HP I A L F E) rfl).trans ?_
  refine (sg_getR ht_X8_likely rfl hp_o_84 rfl).trans ?_
  refine (sg_go ht_X8_likely (k := 1) (pc' := 38) (L' := [some (.ref 84), some (.int p1), some (.int p2), some (.int p3), some (.int p4), none, none, none, none, none, none, none, none]) (st' := [.int p1, .ref 85]) (h' := HP I A L F E) rfl).trans ?_
  refine (sg_call ht_X8_likely (mj := 112) (as := [.int p1]) (rest := [.ref 85]) rfl rfl ⟨by decide, Nat.le_of_ble_eq_true rfl⟩).trans ?_
  rw [sg_X8_base_0, Option.bind_some]
  refine (sg_go ht_X8_likely (k := 2) (pc' := 43) (L' := [some (.ref 84), some (.int p1), some (.int p2), some (.int p3), some (.int p4), none, none, none, none, none, none, none, none]) (st' := [.int (45 * p1 + 3), .ref 85]) (h' := HP I A L F E) rfl).trans ?_
  refine (sg_ldI (l := A 85) ht_X8_likely rfl hp_o_85).trans ?_
  rw [hl c1, Option.bind_some]
  exact sg_go ht_X8_likely (k := 1) (pc' := 46) (L' := [some (.ref 84), some (.int p1), some (.int p2), some (.int p3), some (.int p4), some (.int lim), none, none, none, none, none, none, none]) (st' := []) (h' := HP I A L F E) rfl
end LKM
