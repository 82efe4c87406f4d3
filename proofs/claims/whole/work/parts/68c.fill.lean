/-! the class's system, and its elimination -/
def Rq (s lo : Nat) (v : Rw) (X : List Int64) : Prop := X.length = 7 ∧ (∀ c, lo ≤ c → c < s → (X.getD c 0).toInt = v c) ∧ (X.getD s 0).toInt = v 7
theorem ld63 {r : Nat} (h : r < 6) : ldR [some 63, some 64, some 65, some 66, some 67, some 68] (nI r) = some (63 + r) := by
  rw [ldR_n (by omega)]
  match r, h with
  | 0, _ => rfl
  | 1, _ => rfl
  | 2, _ => rfl
  | 3, _ => rfl
  | 4, _ => rfl
  | 5, _ => rfl
theorem yf_7 {wt to : Nat → Nat} {lim : Nat} {f : Rw} (h : lim ≤ 6) (k : Nat) : yf wt to lim f k 7 = f 7 := yf_out (fun i hi => by omega) k
section FIL
variable {I : Nat → Int32} {A : Nat → List Int32} {F : Nat → Int64} {E : MH}
theorem fs_1 {wt : Nat → Nat} {sl lim s r aw : Nat} {o : Nat → Nat} {L : Nat → List Int64} {o4 : Option Int32} (hsl : sl ≤ 5) (hlim : lim ≤ 6) (hs : s ≤ lim) (hr : r < s) (haw : aw ≤ 25) (h0 : I 5400 = nI sl) (h1 : I 5401 = nI lim) (l55 : (A 55).length = 5) (l60 : (A 60).length = 6) (l61 : (A 61).length = 6) (h5 : ∀ i, i < 5 → (A 55).getD i 0 = nI (wt i)) (hw : ∀ i, i < 5 → wt i ≤ 5) (h60 : (A 60).getD r 0 = nI (o r)) (hor : o r < lim) (hinj : ∀ i j, i < s → j < s → o i = o j → i = j) (h7 : o 7 = 7) (hrk : ∀ i, i < 5 → 0 < wt i → tt sl lim (o r) i < lim → ∃ c, c < s ∧ o c = tt sl lim (o r) i ∧ (A 61).getD (tt sl lim (o r) i) 0 = nI c) {i : Nat} (hi : i < 5) (hR : Rq s 0 (fun c => yf wt (tt sl lim (o r)) lim (yb (o r) aw aw) i (o c)) (L (63 + r))) :
    ∃ (X : List Int64) (o4' : Option Int32), mm_run G0 10 57 [some (.ref 54), some (.int (nI s)), some (.int (nI r)), some (.int (nI i)), (o4.map Value.int)] [] (HP I A L F E) = mm_run G0 10 57 [some (.ref 54), some (.int (nI s)), some (.int (nI r)), some (.int (nI (i + 1))), (o4'.map Value.int)] [] (HP I A (fu L (63 + r) X) F E) ∧ Rq s 0 (fun c => yf wt (tt sl lim (o r)) lim (yb (o r) aw aw) (i + 1) (o c)) X := by
  obtain ⟨r1, r2, r3⟩ := hR
  have htt := tt_le sl lim (o r) i
  have hwi := hw i hi
  rw [sg_X0_fillSystem_57, if_neg (show ¬ (5 : Int32) ≤ nI i from n_nle (a := i) (b := 5) hi (by decide)), ldI_d (by omega) (by omega), Option.bind_some, h60, ldI_d (by omega) (by omega), Option.bind_some, h5 i hi, h0, h1, tt_eq hsl (by omega) (by omega) (by omega), in1]
  have keep : (∀ c, yf wt (tt sl lim (o r)) lim (yb (o r) aw aw) (i + 1) c = yf wt (tt sl lim (o r)) lim (yb (o r) aw aw) i c) → ∃ (X : List Int64) (o4' : Option Int32), mm_run G0 10 57 [some (.ref 54), some (.int (nI s)), some (.int (nI r)), some (.int (nI (i + 1))), some (.int (nI (tt sl lim (o r) i)))] [] (HP I A L F E) = mm_run G0 10 57 [some (.ref 54), some (.int (nI s)), some (.int (nI r)), some (.int (nI (i + 1))), (o4'.map Value.int)] [] (HP I A (fu L (63 + r) X) F E) ∧ Rq s 0 (fun c => yf wt (tt sl lim (o r)) lim (yb (o r) aw aw) (i + 1) (o c)) X := fun e =>
    ⟨L (63 + r), some (nI (tt sl lim (o r) i)), by rw [fu_id]; rfl, r1, fun c q1 q2 => by rw [r2 c q1 q2]; exact (e _).symm, by rw [r3]; exact (e _).symm⟩
  by_cases hz : 0 < wt i
  rotate_left 1
  · rw [if_pos (show nI (wt i) ≤ (0 : Int32) from n_le (a := wt i) (b := 0) (by omega) (by decide))]
    refine keep (fun c => ?_)
    rw [yf]
    split
    · by_cases e : c = tt sl lim (o r) i
      · rw [e, fu_s]
        omega
      · rw [fu_n _ _ e]
    · rfl
  rw [if_neg (show ¬ nI (wt i) ≤ (0 : Int32) from n_nle (a := 0) (b := wt i) hz (by omega))]
  by_cases hto : lim ≤ tt sl lim (o r) i
  · rw [if_pos (n_le (a := lim) (b := tt sl lim (o r) i) hto (by omega))]
    exact keep (fun c => by rw [yf, if_neg (show ¬ tt sl lim (o r) i < lim by omega)])
  obtain ⟨c0, hc0, hoc, h61⟩ := hrk i hi hz (by omega)
  rw [if_neg (n_nle (a := tt sl lim (o r) i) (b := lim) (by omega) (by omega)), ld63 (by omega), Option.bind_some, ldI_d (by omega) (by omega), Option.bind_some, h61, ldL_d (by omega) (by omega), Option.bind_some, Option.bind_some, stL_n (by omega) (by omega), Option.bind_some]
  have hv : ((L (63 + r)).getD c0 0).toInt = yf wt (tt sl lim (o r)) lim (yb (o r) aw aw) i (o c0) := r2 c0 (Nat.zero_le _) hc0
  have hle := yf_le (wt := wt) (to := tt sl lim (o r)) (lim := lim) (f := yb (o r) aw aw) (o c0) i
  have hge := yf_ge (wt := wt) (to := tt sl lim (o r)) (lim := lim) (f := yb (o r) aw aw) (o c0) i
  have hsw : sw wt i ≤ 25 := by
    have g0 := hw 0 (by omega)
    have g1 := hw 1 (by omega)
    have g2 := hw 2 (by omega)
    have g3 := hw 3 (by omega)
    have : i = 0 ∨ i = 1 ∨ i = 2 ∨ i = 3 ∨ i = 4 := by omega
    rcases this with rfl | rfl | rfl | rfl | rfl <;> simp only [sw] <;> omega
  have hyb : 0 ≤ yb (o r) (aw : Int) aw (o c0) ∧ yb (o r) (aw : Int) aw (o c0) ≤ 25 := by
    unfold yb
    repeat' split
    all_goals omega
  have hsub : ((L (63 + r)).getD c0 0 - (nI (wt i)).toInt64).toInt = yf wt (tt sl lim (o r)) lim (yb (o r) aw aw) i (o c0) - (wt i : Int) := by
    rw [l_sub (by rw [hv, l_nI (by omega)]; omega) (by rw [hv, l_nI (by omega)]; omega), hv, l_nI (by omega)]
  refine ⟨(L (63 + r)).set c0 ((L (63 + r)).getD c0 0 - (nI (wt i)).toInt64), some (nI (tt sl lim (o r) i)), rfl, by rw [List.length_set]; exact r1, fun c q1 q2 => ?_, ?_⟩
  · rw [getD_set (by omega)]
    show _ = yf wt (tt sl lim (o r)) lim (yb (o r) aw aw) (i + 1) (o c)
    rw [yf, if_pos (show tt sl lim (o r) i < lim by omega)]
    by_cases e : c = c0
    · rw [if_pos e, e, hsub, hoc, fu_s]
    · rw [if_neg e, fu_n _ _ (fun q => e (hinj c c0 q2 hc0 (by omega)))]
      exact r2 c q1 q2
  · rw [getD_set (by omega), if_neg (by omega), r3]
    show yf wt (tt sl lim (o r)) lim (yb (o r) aw aw) i (o 7) = yf wt (tt sl lim (o r)) lim (yb (o r) aw aw) (i + 1) (o 7)
    rw [h7, yf_7 hlim, yf_7 hlim]
theorem fs_57 {wt : Nat → Nat} {sl lim s r aw : Nat} {o : Nat → Nat} (hsl : sl ≤ 5) (hlim : lim ≤ 6) (hs : s ≤ lim) (hr : r < s) (haw : aw ≤ 25) (h0 : I 5400 = nI sl) (h1 : I 5401 = nI lim) (l55 : (A 55).length = 5) (l60 : (A 60).length = 6) (l61 : (A 61).length = 6) (h5 : ∀ i, i < 5 → (A 55).getD i 0 = nI (wt i)) (hw : ∀ i, i < 5 → wt i ≤ 5) (h60 : (A 60).getD r 0 = nI (o r)) (hor : o r < lim) (hinj : ∀ i j, i < s → j < s → o i = o j → i = j) (h7 : o 7 = 7) (hrk : ∀ i, i < 5 → 0 < wt i → tt sl lim (o r) i < lim → ∃ c, c < s ∧ o c = tt sl lim (o r) i ∧ (A 61).getD (tt sl lim (o r) i) 0 = nI c) : ∀ (d i : Nat) (L : Nat → List Int64) (o4 : Option Int32), i + d = 5 → Rq s 0 (fun c => yf wt (tt sl lim (o r)) lim (yb (o r) aw aw) i (o c)) (L (63 + r)) →
    ∃ (X : List Int64) (o4' : Option Int32), mm_run G0 10 57 [some (.ref 54), some (.int (nI s)), some (.int (nI r)), some (.int (nI i)), (o4.map Value.int)] [] (HP I A L F E) = mm_run G0 10 2 [some (.ref 54), some (.int (nI s)), some (.int (nI (r + 1))), some (.int 5), (o4'.map Value.int)] [] (HP I A (fu L (63 + r) X) F E) ∧ Rq s 0 (fun c => yf wt (tt sl lim (o r)) lim (yb (o r) aw aw) 5 (o c)) X
  | 0, i, L, o4, hi, hR => by
    obtain rfl : i = 5 := by omega
    refine ⟨L (63 + r), o4, ?_, hR⟩
    rw [sg_X0_fillSystem_57, if_pos (by decide), in1, fu_id]
    rfl
  | d + 1, i, L, o4, hi, hR => by
    obtain ⟨X, o5, y1, y2⟩ := fs_1 (F := F) (E := E) (o4 := o4) hsl hlim hs hr haw h0 h1 l55 l60 l61 h5 hw h60 hor hinj h7 hrk (i := i) (by omega) hR
    obtain ⟨X2, o6, z1, z2⟩ := fs_57 hsl hlim hs hr haw h0 h1 l55 l60 l61 h5 hw h60 hor hinj h7 hrk d (i + 1) (fu L (63 + r) X) o5 (by omega) (by rw [fu_s]; exact y2)
    rw [fu_fu] at z1
    exact ⟨X2, o6, y1.trans z1, z2⟩
theorem fs_9 {lim s r aw : Nat} {o : Nat → Nat} (hlim : lim ≤ 6) (hs : s ≤ lim) (hr : r < s) (haw : aw ≤ 25) (h3 : I 5403 = nI aw) (ho : ∀ i, i < s → o i < lim) (hinj : ∀ i j, i < s → j < s → o i = o j → i = j) (h7 : o 7 = 7) : ∀ (d c : Nat) (L : Nat → List Int64) (o4 : Option Int32), c + d = s → (L (63 + r)).length = 7 → (∀ j, j < c → (L (63 + r)).getD j 0 = 0) →
    ∃ (X : List Int64) (o4' : Option Int32), mm_run G0 10 9 [some (.ref 54), some (.int (nI s)), some (.int (nI r)), some (.int (nI c)), (o4.map Value.int)] [] (HP I A L F E) = mm_run G0 10 57 [some (.ref 54), some (.int (nI s)), some (.int (nI r)), some (.int (nI 0)), (o4'.map Value.int)] [] (HP I A (fu L (63 + r) X) F E) ∧ Rq s 0 (fun c => yb (o r) aw aw (o c)) X
  | 0, c, L, o4, hc, hl, hz => by
    obtain rfl : c = s := by omega
    have ea : (nI aw).toInt64.toInt = (aw : Int) := l_nI (by omega)
    refine ⟨((L (63 + r)).set r (nI aw).toInt64).set c (nI aw).toInt64, o4, ?_, by rw [List.length_set, List.length_set]; exact hl, fun j _ hj => ?_, ?_⟩
    · rw [sg_X0_fillSystem_9, if_pos (n_le (a := c) (b := c) (by omega) (by omega)), ld63 (by omega), Option.bind_some, h3, stL_n (by omega) (by omega), Option.bind_some, Option.bind_some, fu_s, stL_n (by rw [List.length_set]; omega) (by rw [List.length_set]; omega), Option.bind_some, fu_fu]
      rfl
    · rw [getD_set (by rw [List.length_set]; omega), if_neg (by omega), getD_set (by omega)]
      show _ = yb (o r) aw aw (o j)
      unfold yb
      by_cases e : j = r
      · rw [if_pos e, e, if_pos rfl, ea]
      · rw [if_neg e, if_neg (fun q => e (hinj j r hj hr q)), if_neg (by have := ho j hj; omega), hz j hj]
        rfl
    · rw [getD_set (by rw [List.length_set]; omega), if_pos rfl, ea]
      show _ = yb (o r) aw aw (o 7)
      unfold yb
      rw [h7, if_neg (by have := ho r hr; omega), if_pos rfl]
  | d + 1, c, L, o4, hc, hl, hz => by
    obtain ⟨X, o5, x1, x2⟩ := fs_9 hlim hs hr haw h3 ho hinj h7 d (c + 1) (fu L (63 + r) ((L (63 + r)).set c 0)) o4 (by omega) (by rw [fu_s, List.length_set]; exact hl) (fun j hj => by
      rw [fu_s, getD_set (by omega)]
      by_cases e : j = c
      · rw [if_pos e]
      · rw [if_neg e]
        exact hz j (by omega))
    refine ⟨X, o5, ?_, x2⟩
    rw [fu_fu] at x1
    rw [sg_X0_fillSystem_9, if_neg (n_nle (a := c) (b := s) (by omega) (by omega)), ld63 (by omega), Option.bind_some, stL_n (by omega) (by omega), Option.bind_some, in1]
    exact x1
theorem fs_2 {wt : Nat → Nat} {sl lim s aw : Nat} {o : Nat → Nat} (hsl : sl ≤ 5) (hlim : lim ≤ 6) (hs : s ≤ lim) (haw : aw ≤ 25) (h0 : I 5400 = nI sl) (h1 : I 5401 = nI lim) (h3 : I 5403 = nI aw) (l55 : (A 55).length = 5) (l60 : (A 60).length = 6) (l61 : (A 61).length = 6) (h5 : ∀ i, i < 5 → (A 55).getD i 0 = nI (wt i)) (hw : ∀ i, i < 5 → wt i ≤ 5) (h60 : ∀ r, r < s → (A 60).getD r 0 = nI (o r)) (hor : ∀ r, r < s → o r < lim) (hinj : ∀ i j, i < s → j < s → o i = o j → i = j) (h7 : o 7 = 7) (hrk : ∀ r i, r < s → i < 5 → 0 < wt i → tt sl lim (o r) i < lim → ∃ c, c < s ∧ o c = tt sl lim (o r) i ∧ (A 61).getD (tt sl lim (o r) i) 0 = nI c) : ∀ (d r : Nat) (L : Nat → List Int64) (o3 o4 : Option Int32), r + d = s → (∀ x, x < 6 → (L (63 + x)).length = 7) → (∀ q, q < r → Rq s 0 (fun c => yf wt (tt sl lim (o q)) lim (yb (o q) aw aw) 5 (o c)) (L (63 + q))) →
    ∃ L' : Nat → List Int64, mm_run G0 10 2 [some (.ref 54), some (.int (nI s)), some (.int (nI r)), (o3.map Value.int), (o4.map Value.int)] [] (HP I A L F E) = some (none, HP I A L' F E) ∧ (∀ q, q < s → Rq s 0 (fun c => yf wt (tt sl lim (o q)) lim (yb (o q) aw aw) 5 (o c)) (L' (63 + q))) ∧ (∀ x, x < 6 → (L' (63 + x)).length = 7) ∧ ∀ x, (∀ q, q < 6 → x ≠ 63 + q) → L' x = L x
  | 0, r, L, o3, o4, hr, hl, hq => by
    obtain rfl : r = s := by omega
    exact ⟨L, by rw [sg_X0_fillSystem_2, if_pos (n_le (a := r) (b := r) (by omega) (by omega))], hq, hl, fun _ _ => rfl⟩
  | d + 1, r, L, o3, o4, hr, hl, hq => by
    obtain ⟨X, p4, x1, x2⟩ := fs_9 (I := I) (A := A) (F := F) (E := E) hlim hs (show r < s by omega) haw h3 hor hinj h7 s 0 L o4 (by omega) (hl r (by omega)) (fun j hj => absurd hj (Nat.not_lt_zero _))
    obtain ⟨X2, p5, y1, y2⟩ := fs_57 (I := I) (A := A) (F := F) (E := E) hsl hlim hs (show r < s by omega) haw h0 h1 l55 l60 l61 h5 hw (h60 r (by omega)) (hor r (by omega)) hinj h7 (fun i => hrk r i (by omega)) 5 0 (fu L (63 + r) X) p4 (by omega) (by rw [fu_s]; exact x2)
    rw [fu_fu] at y1
    obtain ⟨L', z1, z2, z3, z4⟩ := fs_2 hsl hlim hs haw h0 h1 h3 l55 l60 l61 h5 hw h60 hor hinj h7 hrk d (r + 1) (fu L (63 + r) X2) (some 5) p5 (by omega) (fun x hx => by
      by_cases e : x = r
      · rw [e, fu_s]; exact y2.1
      · rw [fu_n _ _ (by omega)]; exact hl x hx) (fun q hq2 => by
      by_cases e : q = r
      · rw [e, fu_s]; exact y2
      · rw [fu_n _ _ (by omega)]; exact hq q (by omega))
    refine ⟨L', ?_, z2, z3, fun x hx => by rw [z4 x hx, fu_n _ _ (hx r (by omega))]⟩
    rw [sg_X0_fillSystem_2, if_neg (n_nle (a := r) (b := s) (by omega) (by omega))]
    exact ((x1 : _ = _).trans y1).trans z1
end FIL
