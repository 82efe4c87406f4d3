/-! image, undo: a whole set-up passes -/
theorem ext_gI {l l' : List Int32} (h : l.length = l'.length) (e : ∀ i, i < l.length → l.getD i 0 = l'.getD i 0) : l = l' := by
  apply List.ext_getElem h
  intro i h1 h2
  have := e i h1
  rw [List.getD_eq_getElem?_getD, List.getD_eq_getElem?_getD, List.getElem?_eq_getElem h1, List.getElem?_eq_getElem h2] at this
  exact this
theorem cpy_g {α : Type} {d : α} {l0 l1 : List α} {sp dp n k : Nat} (hk : k < l1.length) : (mm_cpy d l0 l1 sp dp n).getD k d = if dp ≤ k ∧ k < dp + n then l0.getD (sp + (k - dp)) d else l1.getD k d := by
  unfold mm_cpy
  rw [List.getD_eq_getElem?_getD, List.getElem?_map, List.getElem?_range hk]
  rfl
theorem cpI_all {l0 l1 : List Int32} {n : Nat} (h0 : l0.length = n) (h1 : l1.length = n) (hn : n < 2 ^ 31) : cpI l0 l1 (nI 0) (nI 0) (nI n) = some l0 := by
  have z : (0 : Nat) < 2 ^ 31 := by decide
  unfold cpI
  rw [nI_clamp z, nI_clamp hn, if_pos ⟨nI_nneg z, nI_nneg z, nI_nneg hn, by omega, by omega⟩]
  congr 1
  have e1 : (mm_cpy 0 l0 l1 0 0 n).length = l1.length := by
    unfold mm_cpy
    rw [List.length_map, List.length_range]
  refine ext_gI (by omega) (fun i hi => ?_)
  rw [cpy_g (by omega), if_pos (by omega)]
  congr 1
  omega
section IMG
variable {I : Nat → Int32} {A : Nat → List Int32} {L : Nat → List Int64} {F : Nat → Int64} {E : MH}
theorem Shp.cg {A' : Nat → List Int32} (h : Shp A L) (e : ∀ a, (A' a).length = (A a).length) : Shp A' L := ⟨fun q hq => (e q.1).trans (h.1 q hq), h.2⟩
theorem st_become {b0 b1 : Nat} (hb0 : isS b0) (hb1 : isS b1) (hne : b0 ≠ b1) (l0 : (A (b0 + 1)).length = 40) (l1 : (A (b1 + 1)).length = 40) : ∃ (I' : Nat → Int32) (A' : Nat → List Int32), mm_call G0 33 [.ref b0, .ref b1] (HP I A L F E) = some (none, HP I' A' L F E) ∧ (∀ k, k < 5 → I' (100 * b0 + k) = I (100 * b1 + k)) ∧ (∀ i, ¬ (100 * b0 ≤ i ∧ i < 100 * b0 + 5) → I' i = I i) ∧ A' (b0 + 1) = A (b1 + 1) ∧ (∀ a, a ≠ b0 + 1 → A' a = A a) ∧ ∀ a, (A' a).length = (A a).length := by
  have h := sg_X4_become_0 (I := I) (A := A) (L := L) (F := F) (E := E) hb0 hb1
  rw [show cpI (A (b1 + 1)) (A (b0 + 1)) 0 0 40 = some (A (b1 + 1)) from cpI_all l1 l0 (by decide), Option.bind_some] at h
  refine ⟨_, _, h, fun k hk => ?_, fun i hi => ?_, fu_s _ _ _, fun a ha => fu_n _ _ ha, fun a => ?_⟩
  · match k, hk with
    | 0, _ => simp (disch := omega) only [fu_n, fu_s]
    | 1, _ => simp (disch := omega) only [fu_n, fu_s]
    | 2, _ => simp (disch := omega) only [fu_n, fu_s]
    | 3, _ => simp (disch := omega) only [fu_n, fu_s]
    | 4, _ => simp (disch := omega) only [fu_n, fu_s]
  · simp (disch := omega) only [fu_n]
  · by_cases e : a = b0 + 1
    · rw [e, fu_s]
      omega
    · rw [fu_n _ _ e]
theorem rw_loop {b0 b1 n : Nat} (hb0 : isRw b0) (hb1 : isRw b1) (hd : b0 + 1 ≠ b1 + 1 ∧ b0 + 1 ≠ b1 + 2 ∧ b0 + 2 ≠ b1 + 1 ∧ b0 + 2 ≠ b1 + 2) (hI : I (100 * b0 + 3) = nI n) : ∀ (d j : Nat) (A : Nat → List Int32), j + d = n → (∀ a, a = b0 + 1 ∨ a = b0 + 2 ∨ a = b1 + 1 ∨ a = b1 + 2 → n ≤ (A a).length ∧ (A a).length ≤ 8) →
    ∃ A' : Nat → List Int32, mm_run G0 21 17 [some (.ref b0), some (.ref b1), some (.int (nI j))] [] (HP I A L F E) = some (none, HP I A' L F E) ∧ (∀ i, j ≤ i → i < n → (A' (b0 + 1)).getD i 0 = (A (b1 + 1)).getD i 0 ∧ (A' (b0 + 2)).getD i 0 = (A (b1 + 2)).getD i 0) ∧ (∀ i, i < j → (A' (b0 + 1)).getD i 0 = (A (b0 + 1)).getD i 0 ∧ (A' (b0 + 2)).getD i 0 = (A (b0 + 2)).getD i 0) ∧ (∀ a, a ≠ b0 + 1 → a ≠ b0 + 2 → A' a = A a) ∧ ∀ a, (A' a).length = (A a).length := by
  intro d
  induction d with
  | zero =>
    intro j A hj hl
    have h1 := hl _ (Or.inl rfl)
    refine ⟨A, ?_, fun i h1 h2 => by omega, fun i hi => ⟨rfl, rfl⟩, fun _ _ _ => rfl, fun _ => rfl⟩
    rw [sg_X2_become_17 hb0 hb1, hI, if_pos (n_le (a := n) (b := j) (by omega) (by omega))]
  | succ d ih =>
    intro j A hj hl
    have h1 := hl _ (Or.inl rfl)
    have h2 := hl _ (Or.inr (Or.inl rfl))
    have h3 := hl _ (Or.inr (Or.inr (Or.inl rfl)))
    have h4 := hl _ (Or.inr (Or.inr (Or.inr rfl)))
    have el : ∀ a, ((fu (fu A (b0 + 1) ((A (b0 + 1)).set j ((A (b1 + 1)).getD j 0))) (b0 + 2) ((A (b0 + 2)).set j ((A (b1 + 2)).getD j 0))) a).length = (A a).length := fun a => by
      by_cases e2 : a = b0 + 2
      · rw [e2, fu_s, List.length_set]
      · rw [fu_n _ _ e2]
        by_cases e1 : a = b0 + 1
        · rw [e1, fu_s, List.length_set]
        · rw [fu_n _ _ e1]
    obtain ⟨A', x1, x2, x3, x4, x5⟩ := ih (j + 1) (fu (fu A (b0 + 1) ((A (b0 + 1)).set j ((A (b1 + 1)).getD j 0))) (b0 + 2) ((A (b0 + 2)).set j ((A (b1 + 2)).getD j 0))) (by omega) (fun a ha => by rw [el]; exact hl a ha)
    refine ⟨A', ?_, fun i i1 i2 => ?_, fun i hi => ?_, fun a q1 q2 => by rw [x4 a q1 q2, fu_n _ _ q2, fu_n _ _ q1], fun a => (x5 a).trans (el a)⟩
    · rw [sg_X2_become_17 hb0 hb1, hI, if_neg (n_nle (a := j) (b := n) (by omega) (by omega)), ldI_d (by omega) (by omega), Option.bind_some, stI_n (by omega) (by omega), Option.bind_some, fu_n _ _ (fun q => hd.2.1 q.symm), ldI_d (by omega) (by omega), Option.bind_some, fu_n _ _ (show b0 + 2 ≠ b0 + 1 by omega), stI_n (by omega) (by omega), Option.bind_some, in1]
      exact x1
    · by_cases e : i = j
      · subst e
        have y := x3 i (by omega)
        rw [y.1, y.2, fu_n _ _ (show b0 + 1 ≠ b0 + 2 by omega), fu_s, fu_s, getD_set (by omega), getD_set (by omega), if_pos rfl, if_pos rfl]
        exact ⟨rfl, rfl⟩
      · have y := x2 i (by omega) i2
        rw [y.1, y.2, fu_n _ _ (fun q => hd.2.2.1 q.symm), fu_n _ _ (fun q => hd.1 q.symm), fu_n _ _ (fun q => hd.2.2.2 q.symm), fu_n _ _ (fun q => hd.2.1 q.symm)]
        exact ⟨rfl, rfl⟩
    · have y := x3 i (by omega)
      rw [y.1, y.2, fu_n _ _ (show b0 + 1 ≠ b0 + 2 by omega), fu_s, fu_s, getD_set (by omega), getD_set (by omega), if_neg (by omega), if_neg (by omega)]
      exact ⟨rfl, rfl⟩
theorem imin_l {n m : Nat} (h : n ≤ m) (hm : m < 2 ^ 31) : imin (nI n) (nI m) = nI n := by
  unfold imin
  by_cases e : m = n
  · subst e
    rw [if_neg (nI_nlt (a := m) (b := m) (by omega) hm)]
  · rw [if_neg (nI_nlt (a := m) (b := n) (by omega) hm)]
theorem rw_become {b0 b1 n m : Nat} {w : Nat → Int32} {c : Nat} (hb0 : isRw b0) (hb1 : isRw b1) (hd : b0 + 1 ≠ b1 + 1 ∧ b0 + 1 ≠ b1 + 2 ∧ b0 + 2 ≠ b1 + 1 ∧ b0 + 2 ≠ b1 + 2) (hm : rwM b0 = nI m) (hn : n ≤ m) (hm8 : m ≤ 8) (hw : w c = nI n) (hR : Rr I A b1 w c) (hl : ∀ a, a = b0 + 1 ∨ a = b0 + 2 ∨ a = b1 + 1 ∨ a = b1 + 2 → n ≤ (A a).length ∧ (A a).length ≤ 8) : ∃ (I' : Nat → Int32) (A' : Nat → List Int32), mm_call G0 21 [.ref b0, .ref b1] (HP I A L F E) = some (none, HP I' A' L F E) ∧ Rr I' A' b0 w c ∧ (∀ i, i ≠ 100 * b0 + 3 → I' i = I i) ∧ (∀ a, a ≠ b0 + 1 → a ≠ b0 + 2 → A' a = A a) ∧ ∀ a, (A' a).length = (A a).length := by
  obtain ⟨A', x1, x2, x3, x4, x5⟩ := rw_loop (I := fu I (100 * b0 + 3) (nI n)) (L := L) (F := F) (E := E) hb0 hb1 hd (fu_s _ _ _) n 0 A (by omega) hl
  refine ⟨fu I (100 * b0 + 3) (nI n), A', ?_, ⟨by rw [fu_s, hw], fun n' j hw' hn' hj => ?_⟩, fun i hi => fu_n _ _ hi, x4, x5⟩
  · rw [sg_X2_become_0 hb0 hb1, hR.1, hw, hm, imin_l hn (by omega)]
    exact x1
  · have e : n' = n := (nI_eq (by omega) (by omega)).mp (hw'.symm.trans hw)
    subst e
    have y := x2 j (by omega) hj
    rw [y.1, y.2]
    exact hR.2 n' j hw' hn' hj
end IMG
section IMH
variable {I : Nat → Int32} {A : Nat → List Int32} {L : Nat → List Int64} {F : Nat → Int64} {E : MH}
theorem set_become_k {w : Nat → Int32} (hs : Shp A L) (hR : Rn I A 14 4 5 8 11 w) (hV : Vw w) : ∃ (I' : Nat → Int32) (A' : Nat → List Int32), mm_call G0 23 [.ref 22, .ref 2] (HP I A L F E) = some (none, HP I' A' L F E) ∧ Rn I' A' 34 24 25 28 31 w ∧ (∀ i, ¬ (2500 ≤ i ∧ i < 4100) → I' i = I i) ∧ (∀ a, ¬ (24 ≤ a ∧ a < 42) → A' a = A a) ∧ ∀ a, (A' a).length = (A a).length := by
  obtain ⟨-, -, ⟨n1, v1, e1, -⟩, ⟨n2, v2, e2, -⟩, n3, v3, e3, -⟩ := hV
  have s0 : Shp A L := hs
  obtain ⟨I1, A1, c1, k1, o1, p1, u1, q1⟩ := st_become (I := I) (A := A) (L := L) (F := F) (E := E) (b0 := 34) (b1 := 14) (by unfold isS; omega) (by unfold isS; omega) (by decide) (s0.i (a := 35) (n := 40) (by decide)) (s0.i (a := 15) (n := 40) (by decide))
  have s1 : Shp A1 L := s0.cg q1
  obtain ⟨I2, A2, c2, k2, o2, p2, u2, q2⟩ := st_become (I := I1) (A := A1) (L := L) (F := F) (E := E) (b0 := 36) (b1 := 16) (by unfold isS; omega) (by unfold isS; omega) (by decide) (s1.i (a := 37) (n := 40) (by decide)) (s1.i (a := 17) (n := 40) (by decide))
  have s2 : Shp A2 L := s1.cg q2
  obtain ⟨I3, A3, c3, k3, o3, p3, u3, q3⟩ := st_become (I := I2) (A := A2) (L := L) (F := F) (E := E) (b0 := 38) (b1 := 18) (by unfold isS; omega) (by unfold isS; omega) (by decide) (s2.i (a := 39) (n := 40) (by decide)) (s2.i (a := 19) (n := 40) (by decide))
  have s3 : Shp A3 L := s2.cg q3
  obtain ⟨I4, A4, c4, k4, o4, p4, u4, q4⟩ := st_become (I := I3) (A := A3) (L := L) (F := F) (E := E) (b0 := 40) (b1 := 20) (by unfold isS; omega) (by unfold isS; omega) (by decide) (s3.i (a := 41) (n := 40) (by decide)) (s3.i (a := 21) (n := 40) (by decide))
  have s4 : Shp A4 L := s3.cg q4
  have s5 : Shp (fu A4 24 (A4 4)) L := s4.fuI (by rw [s4.i (a := 4) (n := 5) (by decide), s4.i (a := 24) (n := 5) (by decide)])
  have hc : cpI (A4 4) (A4 24) 0 0 5 = some (A4 4) := cpI_all (s4.i (a := 4) (n := 5) (by decide)) (s4.i (a := 24) (n := 5) (by decide)) (by decide)
  have oI : ∀ i, ¬ (3400 ≤ i ∧ i < 4100) → I4 i = I i := fun i hi => by rw [o4 i (by omega), o3 i (by omega), o2 i (by omega), o1 i (by omega)]
  have oA : ∀ a, ¬ (35 ≤ a ∧ a < 42) → A4 a = A a := fun a hi => by rw [u4 a (by omega), u3 a (by omega), u2 a (by omega), u1 a (by omega)]
  have r5 : Rr I4 (fu A4 24 (A4 4)) 5 w 185 := hR.2.2.1.cg (oI _ (by decide)) ((fu_n _ _ (by decide)).trans (oA _ (by decide))) ((fu_n _ _ (by decide)).trans (oA _ (by decide)))
  have l5 : ∀ a, a = 25 + 1 ∨ a = 25 + 2 ∨ a = 5 + 1 ∨ a = 5 + 2 → n1 ≤ ((fu A4 24 (A4 4)) a).length ∧ ((fu A4 24 (A4 4)) a).length ≤ 8 := fun a ha => by
    have g1 : ((fu A4 24 (A4 4)) (25 + 1)).length = 6 := s5.i (a := 26) (n := 6) (by decide)
    have g2 : ((fu A4 24 (A4 4)) (25 + 2)).length = 6 := s5.i (a := 27) (n := 6) (by decide)
    have g3 : ((fu A4 24 (A4 4)) (5 + 1)).length = 6 := s5.i (a := 6) (n := 6) (by decide)
    have g4 : ((fu A4 24 (A4 4)) (5 + 2)).length = 6 := s5.i (a := 7) (n := 6) (by decide)
    rcases ha with rfl | rfl | rfl | rfl
    · exact ⟨by omega, by omega⟩
    · exact ⟨by omega, by omega⟩
    · exact ⟨by omega, by omega⟩
    · exact ⟨by omega, by omega⟩
  obtain ⟨I5, A5, c5, t5, o5, u5, q5⟩ := rw_become (I := I4) (A := (fu A4 24 (A4 4))) (L := L) (F := F) (E := E) (b0 := 25) (b1 := 5) (n := n1) (m := 6) (w := w) (c := 185) (by unfold isRw; omega) (by unfold isRw; omega) (by decide) (by decide) v1 (by decide) e1 r5 l5
  have s6 : Shp A5 L := s5.cg q5
  have r6 : Rr I5 A5 8 w 198 := hR.2.2.2.1.cg (by rw [o5 _ (by decide), oI _ (by decide)]) (by rw [u5 _ (by decide) (by decide), fu_n _ _ (by decide), oA _ (by decide)]) (by rw [u5 _ (by decide) (by decide), fu_n _ _ (by decide), oA _ (by decide)])
  have l6 : ∀ a, a = 28 + 1 ∨ a = 28 + 2 ∨ a = 8 + 1 ∨ a = 8 + 2 → n2 ≤ (A5 a).length ∧ (A5 a).length ≤ 8 := fun a ha => by
    have g1 : (A5 (28 + 1)).length = 8 := s6.i (a := 29) (n := 8) (by decide)
    have g2 : (A5 (28 + 2)).length = 8 := s6.i (a := 30) (n := 8) (by decide)
    have g3 : (A5 (8 + 1)).length = 8 := s6.i (a := 9) (n := 8) (by decide)
    have g4 : (A5 (8 + 2)).length = 8 := s6.i (a := 10) (n := 8) (by decide)
    rcases ha with rfl | rfl | rfl | rfl
    · exact ⟨by omega, by omega⟩
    · exact ⟨by omega, by omega⟩
    · exact ⟨by omega, by omega⟩
    · exact ⟨by omega, by omega⟩
  obtain ⟨I6, A6, c6, t6, o6, u6, q6⟩ := rw_become (I := I5) (A := A5) (L := L) (F := F) (E := E) (b0 := 28) (b1 := 8) (n := n2) (m := 8) (w := w) (c := 198) (by unfold isRw; omega) (by unfold isRw; omega) (by decide) (by decide) v2 (by decide) e2 r6 l6
  have s7 : Shp A6 L := s6.cg q6
  have r7 : Rr I6 A6 11 w 215 := hR.2.2.2.2.cg (by rw [o6 _ (by decide), o5 _ (by decide), oI _ (by decide)]) (by rw [u6 _ (by decide) (by decide), u5 _ (by decide) (by decide), fu_n _ _ (by decide), oA _ (by decide)]) (by rw [u6 _ (by decide) (by decide), u5 _ (by decide) (by decide), fu_n _ _ (by decide), oA _ (by decide)])
  have l7 : ∀ a, a = 31 + 1 ∨ a = 31 + 2 ∨ a = 11 + 1 ∨ a = 11 + 2 → n3 ≤ (A6 a).length ∧ (A6 a).length ≤ 8 := fun a ha => by
    have g1 : (A6 (31 + 1)).length = 8 := s7.i (a := 32) (n := 8) (by decide)
    have g2 : (A6 (31 + 2)).length = 8 := s7.i (a := 33) (n := 8) (by decide)
    have g3 : (A6 (11 + 1)).length = 8 := s7.i (a := 12) (n := 8) (by decide)
    have g4 : (A6 (11 + 2)).length = 8 := s7.i (a := 13) (n := 8) (by decide)
    rcases ha with rfl | rfl | rfl | rfl
    · exact ⟨by omega, by omega⟩
    · exact ⟨by omega, by omega⟩
    · exact ⟨by omega, by omega⟩
    · exact ⟨by omega, by omega⟩
  obtain ⟨I7, A7, c7, t7, o7, u7, q7⟩ := rw_become (I := I6) (A := A6) (L := L) (F := F) (E := E) (b0 := 31) (b1 := 11) (n := n3) (m := 8) (w := w) (c := 215) (by unfold isRw; omega) (by unfold isRw; omega) (by decide) (by decide) v3 (by decide) e3 r7 l7
  have s8 : Shp A7 L := s7.cg q7
  refine ⟨I7, A7, ?_, ⟨⟨fun s k hs' hk => ?_, fun s n p hs' hn0 hn hp => ?_⟩, fun k hk => ?_, ?_, ?_, ?_⟩, fun i hi => ?_, fun a ha => ?_, fun a => ?_⟩
  · rw [sg_X3_becomek_0, c1, Option.bind_some]
    refine (sg_X3_becomek_22 (I := I1) (A := A1) (L := L) (F := F) (E := E) 0).trans ?_
    rw [if_neg (by decide), show ldR _ ((0 : Int32) + 1) = some 36 from rfl, Option.bind_some, show ldR _ ((0 : Int32) + 1) = some 16 from rfl, Option.bind_some, c2, Option.bind_some]
    refine (sg_X3_becomek_22 (I := I2) (A := A2) (L := L) (F := F) (E := E) 1).trans ?_
    rw [if_neg (by decide), show ldR _ ((1 : Int32) + 1) = some 38 from rfl, Option.bind_some, show ldR _ ((1 : Int32) + 1) = some 18 from rfl, Option.bind_some, c3, Option.bind_some]
    refine (sg_X3_becomek_22 (I := I3) (A := A3) (L := L) (F := F) (E := E) 2).trans ?_
    rw [if_neg (by decide), show ldR _ ((2 : Int32) + 1) = some 40 from rfl, Option.bind_some, show ldR _ ((2 : Int32) + 1) = some 20 from rfl, Option.bind_some, c4, Option.bind_some]
    refine (sg_X3_becomek_22 (I := I4) (A := A4) (L := L) (F := F) (E := E) 3).trans ?_
    rw [if_pos (by decide), hc, Option.bind_some, c5, Option.bind_some]
    refine (sg_X3_becomek_53 (I := I5) (A := A5) (L := L) (F := F) (E := E) (3 + 1)).trans ?_
    rw [c6, Option.bind_some]
    refine (sg_X3_becomek_64 (I := I6) (A := A6) (L := L) (F := F) (E := E) (3 + 1)).trans ?_
    rw [c7, Option.bind_some]
    exact sg_X3_becomek_75 _
  · rw [o7 _ (by omega), o6 _ (by omega), o5 _ (by omega)]
    match s, hs' with
    | 0, _ =>
      rw [o4 _ (by omega), o3 _ (by omega), o2 _ (by omega), show 100 * (34 + 2 * 0) + k = 100 * 34 + k by omega, k1 k hk]
      exact hR.1.1 0 k (by decide) hk
    | 1, _ =>
      rw [o4 _ (by omega), o3 _ (by omega), show 100 * (34 + 2 * 1) + k = 100 * 36 + k by omega, k2 k hk, o1 _ (by omega)]
      exact hR.1.1 1 k (by decide) hk
    | 2, _ =>
      rw [o4 _ (by omega), show 100 * (34 + 2 * 2) + k = 100 * 38 + k by omega, k3 k hk, o2 _ (by omega), o1 _ (by omega)]
      exact hR.1.1 2 k (by decide) hk
    | 3, _ =>
      rw [show 100 * (34 + 2 * 3) + k = 100 * 40 + k by omega, k4 k hk, o3 _ (by omega), o2 _ (by omega), o1 _ (by omega)]
      exact hR.1.1 3 k (by decide) hk
  · have hv := hR.1.2 s n p hs' hn0 hn hp
    match s, hs', hv with
    | 0, _, hv =>
      rw [u7 _ (by decide) (by decide), u6 _ (by decide) (by decide), u5 _ (by decide) (by decide), fu_n _ _ (by decide), u4 _ (by decide), u3 _ (by decide), u2 _ (by decide), show A1 (34 + 1 + 2 * 0) = A (14 + 1) from p1]
      exact hv
    | 1, _, hv =>
      rw [u7 _ (by decide) (by decide), u6 _ (by decide) (by decide), u5 _ (by decide) (by decide), fu_n _ _ (by decide), u4 _ (by decide), u3 _ (by decide), show A2 (34 + 1 + 2 * 1) = A1 (16 + 1) from p2, u1 _ (by decide)]
      exact hv
    | 2, _, hv =>
      rw [u7 _ (by decide) (by decide), u6 _ (by decide) (by decide), u5 _ (by decide) (by decide), fu_n _ _ (by decide), u4 _ (by decide), show A3 (34 + 1 + 2 * 2) = A2 (18 + 1) from p3, u2 _ (by decide), u1 _ (by decide)]
      exact hv
    | 3, _, hv =>
      rw [u7 _ (by decide) (by decide), u6 _ (by decide) (by decide), u5 _ (by decide) (by decide), fu_n _ _ (by decide), show A4 (34 + 1 + 2 * 3) = A3 (20 + 1) from p4, u3 _ (by decide), u2 _ (by decide), u1 _ (by decide)]
      exact hv
  · rw [u7 _ (by decide) (by decide), u6 _ (by decide) (by decide), u5 _ (by decide) (by decide), fu_s, oA _ (by decide)]
    exact hR.2.1 k hk
  · exact (t5.cg (o6 _ (by decide)) (u6 _ (by decide) (by decide)) (u6 _ (by decide) (by decide))).cg (o7 _ (by decide)) (u7 _ (by decide) (by decide)) (u7 _ (by decide) (by decide))
  · exact t6.cg (o7 _ (by decide)) (u7 _ (by decide) (by decide)) (u7 _ (by decide) (by decide))
  · exact t7
  · rw [o7 _ (by omega), o6 _ (by omega), o5 _ (by omega), oI _ (by omega)]
  · rw [u7 _ (by omega) (by omega), u6 _ (by omega) (by omega), u5 _ (by omega) (by omega), fu_n _ _ (by omega), oA _ (by omega)]
  · rw [q7, q6, q5]
    by_cases e : a = 24
    · rw [e, fu_s, s4.i (a := 4) (n := 5) (by decide), hs.i (a := 24) (n := 5) (by decide)]
    · rw [fu_n _ _ e, q4, q3, q2, q1]
theorem set_become_n {w : Nat → Int32} (hs : Shp A L) (hR : Rn I A 34 24 25 28 31 w) (hV : Vw w) : ∃ (I' : Nat → Int32) (A' : Nat → List Int32), mm_call G0 23 [.ref 2, .ref 22] (HP I A L F E) = some (none, HP I' A' L F E) ∧ Rn I' A' 14 4 5 8 11 w ∧ (∀ i, ¬ (500 ≤ i ∧ i < 2100) → I' i = I i) ∧ (∀ a, ¬ (4 ≤ a ∧ a < 22) → A' a = A a) ∧ ∀ a, (A' a).length = (A a).length := by
  obtain ⟨-, -, ⟨n1, v1, e1, -⟩, ⟨n2, v2, e2, -⟩, n3, v3, e3, -⟩ := hV
  have s0 : Shp A L := hs
  obtain ⟨I1, A1, c1, k1, o1, p1, u1, q1⟩ := st_become (I := I) (A := A) (L := L) (F := F) (E := E) (b0 := 14) (b1 := 34) (by unfold isS; omega) (by unfold isS; omega) (by decide) (s0.i (a := 15) (n := 40) (by decide)) (s0.i (a := 35) (n := 40) (by decide))
  have s1 : Shp A1 L := s0.cg q1
  obtain ⟨I2, A2, c2, k2, o2, p2, u2, q2⟩ := st_become (I := I1) (A := A1) (L := L) (F := F) (E := E) (b0 := 16) (b1 := 36) (by unfold isS; omega) (by unfold isS; omega) (by decide) (s1.i (a := 17) (n := 40) (by decide)) (s1.i (a := 37) (n := 40) (by decide))
  have s2 : Shp A2 L := s1.cg q2
  obtain ⟨I3, A3, c3, k3, o3, p3, u3, q3⟩ := st_become (I := I2) (A := A2) (L := L) (F := F) (E := E) (b0 := 18) (b1 := 38) (by unfold isS; omega) (by unfold isS; omega) (by decide) (s2.i (a := 19) (n := 40) (by decide)) (s2.i (a := 39) (n := 40) (by decide))
  have s3 : Shp A3 L := s2.cg q3
  obtain ⟨I4, A4, c4, k4, o4, p4, u4, q4⟩ := st_become (I := I3) (A := A3) (L := L) (F := F) (E := E) (b0 := 20) (b1 := 40) (by unfold isS; omega) (by unfold isS; omega) (by decide) (s3.i (a := 21) (n := 40) (by decide)) (s3.i (a := 41) (n := 40) (by decide))
  have s4 : Shp A4 L := s3.cg q4
  have s5 : Shp (fu A4 4 (A4 24)) L := s4.fuI (by rw [s4.i (a := 24) (n := 5) (by decide), s4.i (a := 4) (n := 5) (by decide)])
  have hc : cpI (A4 24) (A4 4) 0 0 5 = some (A4 24) := cpI_all (s4.i (a := 24) (n := 5) (by decide)) (s4.i (a := 4) (n := 5) (by decide)) (by decide)
  have oI : ∀ i, ¬ (1400 ≤ i ∧ i < 2100) → I4 i = I i := fun i hi => by rw [o4 i (by omega), o3 i (by omega), o2 i (by omega), o1 i (by omega)]
  have oA : ∀ a, ¬ (15 ≤ a ∧ a < 22) → A4 a = A a := fun a hi => by rw [u4 a (by omega), u3 a (by omega), u2 a (by omega), u1 a (by omega)]
  have r5 : Rr I4 (fu A4 4 (A4 24)) 25 w 185 := hR.2.2.1.cg (oI _ (by decide)) ((fu_n _ _ (by decide)).trans (oA _ (by decide))) ((fu_n _ _ (by decide)).trans (oA _ (by decide)))
  have l5 : ∀ a, a = 5 + 1 ∨ a = 5 + 2 ∨ a = 25 + 1 ∨ a = 25 + 2 → n1 ≤ ((fu A4 4 (A4 24)) a).length ∧ ((fu A4 4 (A4 24)) a).length ≤ 8 := fun a ha => by
    have g1 : ((fu A4 4 (A4 24)) (5 + 1)).length = 6 := s5.i (a := 6) (n := 6) (by decide)
    have g2 : ((fu A4 4 (A4 24)) (5 + 2)).length = 6 := s5.i (a := 7) (n := 6) (by decide)
    have g3 : ((fu A4 4 (A4 24)) (25 + 1)).length = 6 := s5.i (a := 26) (n := 6) (by decide)
    have g4 : ((fu A4 4 (A4 24)) (25 + 2)).length = 6 := s5.i (a := 27) (n := 6) (by decide)
    rcases ha with rfl | rfl | rfl | rfl
    · exact ⟨by omega, by omega⟩
    · exact ⟨by omega, by omega⟩
    · exact ⟨by omega, by omega⟩
    · exact ⟨by omega, by omega⟩
  obtain ⟨I5, A5, c5, t5, o5, u5, q5⟩ := rw_become (I := I4) (A := (fu A4 4 (A4 24))) (L := L) (F := F) (E := E) (b0 := 5) (b1 := 25) (n := n1) (m := 6) (w := w) (c := 185) (by unfold isRw; omega) (by unfold isRw; omega) (by decide) (by decide) v1 (by decide) e1 r5 l5
  have s6 : Shp A5 L := s5.cg q5
  have r6 : Rr I5 A5 28 w 198 := hR.2.2.2.1.cg (by rw [o5 _ (by decide), oI _ (by decide)]) (by rw [u5 _ (by decide) (by decide), fu_n _ _ (by decide), oA _ (by decide)]) (by rw [u5 _ (by decide) (by decide), fu_n _ _ (by decide), oA _ (by decide)])
  have l6 : ∀ a, a = 8 + 1 ∨ a = 8 + 2 ∨ a = 28 + 1 ∨ a = 28 + 2 → n2 ≤ (A5 a).length ∧ (A5 a).length ≤ 8 := fun a ha => by
    have g1 : (A5 (8 + 1)).length = 8 := s6.i (a := 9) (n := 8) (by decide)
    have g2 : (A5 (8 + 2)).length = 8 := s6.i (a := 10) (n := 8) (by decide)
    have g3 : (A5 (28 + 1)).length = 8 := s6.i (a := 29) (n := 8) (by decide)
    have g4 : (A5 (28 + 2)).length = 8 := s6.i (a := 30) (n := 8) (by decide)
    rcases ha with rfl | rfl | rfl | rfl
    · exact ⟨by omega, by omega⟩
    · exact ⟨by omega, by omega⟩
    · exact ⟨by omega, by omega⟩
    · exact ⟨by omega, by omega⟩
  obtain ⟨I6, A6, c6, t6, o6, u6, q6⟩ := rw_become (I := I5) (A := A5) (L := L) (F := F) (E := E) (b0 := 8) (b1 := 28) (n := n2) (m := 8) (w := w) (c := 198) (by unfold isRw; omega) (by unfold isRw; omega) (by decide) (by decide) v2 (by decide) e2 r6 l6
  have s7 : Shp A6 L := s6.cg q6
  have r7 : Rr I6 A6 31 w 215 := hR.2.2.2.2.cg (by rw [o6 _ (by decide), o5 _ (by decide), oI _ (by decide)]) (by rw [u6 _ (by decide) (by decide), u5 _ (by decide) (by decide), fu_n _ _ (by decide), oA _ (by decide)]) (by rw [u6 _ (by decide) (by decide), u5 _ (by decide) (by decide), fu_n _ _ (by decide), oA _ (by decide)])
  have l7 : ∀ a, a = 11 + 1 ∨ a = 11 + 2 ∨ a = 31 + 1 ∨ a = 31 + 2 → n3 ≤ (A6 a).length ∧ (A6 a).length ≤ 8 := fun a ha => by
    have g1 : (A6 (11 + 1)).length = 8 := s7.i (a := 12) (n := 8) (by decide)
    have g2 : (A6 (11 + 2)).length = 8 := s7.i (a := 13) (n := 8) (by decide)
    have g3 : (A6 (31 + 1)).length = 8 := s7.i (a := 32) (n := 8) (by decide)
    have g4 : (A6 (31 + 2)).length = 8 := s7.i (a := 33) (n := 8) (by decide)
    rcases ha with rfl | rfl | rfl | rfl
    · exact ⟨by omega, by omega⟩
    · exact ⟨by omega, by omega⟩
    · exact ⟨by omega, by omega⟩
    · exact ⟨by omega, by omega⟩
  obtain ⟨I7, A7, c7, t7, o7, u7, q7⟩ := rw_become (I := I6) (A := A6) (L := L) (F := F) (E := E) (b0 := 11) (b1 := 31) (n := n3) (m := 8) (w := w) (c := 215) (by unfold isRw; omega) (by unfold isRw; omega) (by decide) (by decide) v3 (by decide) e3 r7 l7
  have s8 : Shp A7 L := s7.cg q7
  refine ⟨I7, A7, ?_, ⟨⟨fun s k hs' hk => ?_, fun s n p hs' hn0 hn hp => ?_⟩, fun k hk => ?_, ?_, ?_, ?_⟩, fun i hi => ?_, fun a ha => ?_, fun a => ?_⟩
  · rw [sg_X3_becomen_0, c1, Option.bind_some]
    refine (sg_X3_becomen_22 (I := I1) (A := A1) (L := L) (F := F) (E := E) 0).trans ?_
    rw [if_neg (by decide), show ldR _ ((0 : Int32) + 1) = some 16 from rfl, Option.bind_some, show ldR _ ((0 : Int32) + 1) = some 36 from rfl, Option.bind_some, c2, Option.bind_some]
    refine (sg_X3_becomen_22 (I := I2) (A := A2) (L := L) (F := F) (E := E) 1).trans ?_
    rw [if_neg (by decide), show ldR _ ((1 : Int32) + 1) = some 18 from rfl, Option.bind_some, show ldR _ ((1 : Int32) + 1) = some 38 from rfl, Option.bind_some, c3, Option.bind_some]
    refine (sg_X3_becomen_22 (I := I3) (A := A3) (L := L) (F := F) (E := E) 2).trans ?_
    rw [if_neg (by decide), show ldR _ ((2 : Int32) + 1) = some 20 from rfl, Option.bind_some, show ldR _ ((2 : Int32) + 1) = some 40 from rfl, Option.bind_some, c4, Option.bind_some]
    refine (sg_X3_becomen_22 (I := I4) (A := A4) (L := L) (F := F) (E := E) 3).trans ?_
    rw [if_pos (by decide), hc, Option.bind_some, c5, Option.bind_some]
    refine (sg_X3_becomen_53 (I := I5) (A := A5) (L := L) (F := F) (E := E) (3 + 1)).trans ?_
    rw [c6, Option.bind_some]
    refine (sg_X3_becomen_64 (I := I6) (A := A6) (L := L) (F := F) (E := E) (3 + 1)).trans ?_
    rw [c7, Option.bind_some]
    exact sg_X3_becomen_75 _
  · rw [o7 _ (by omega), o6 _ (by omega), o5 _ (by omega)]
    match s, hs' with
    | 0, _ =>
      rw [o4 _ (by omega), o3 _ (by omega), o2 _ (by omega), show 100 * (14 + 2 * 0) + k = 100 * 14 + k by omega, k1 k hk]
      exact hR.1.1 0 k (by decide) hk
    | 1, _ =>
      rw [o4 _ (by omega), o3 _ (by omega), show 100 * (14 + 2 * 1) + k = 100 * 16 + k by omega, k2 k hk, o1 _ (by omega)]
      exact hR.1.1 1 k (by decide) hk
    | 2, _ =>
      rw [o4 _ (by omega), show 100 * (14 + 2 * 2) + k = 100 * 18 + k by omega, k3 k hk, o2 _ (by omega), o1 _ (by omega)]
      exact hR.1.1 2 k (by decide) hk
    | 3, _ =>
      rw [show 100 * (14 + 2 * 3) + k = 100 * 20 + k by omega, k4 k hk, o3 _ (by omega), o2 _ (by omega), o1 _ (by omega)]
      exact hR.1.1 3 k (by decide) hk
  · have hv := hR.1.2 s n p hs' hn0 hn hp
    match s, hs', hv with
    | 0, _, hv =>
      rw [u7 _ (by decide) (by decide), u6 _ (by decide) (by decide), u5 _ (by decide) (by decide), fu_n _ _ (by decide), u4 _ (by decide), u3 _ (by decide), u2 _ (by decide), show A1 (14 + 1 + 2 * 0) = A (34 + 1) from p1]
      exact hv
    | 1, _, hv =>
      rw [u7 _ (by decide) (by decide), u6 _ (by decide) (by decide), u5 _ (by decide) (by decide), fu_n _ _ (by decide), u4 _ (by decide), u3 _ (by decide), show A2 (14 + 1 + 2 * 1) = A1 (36 + 1) from p2, u1 _ (by decide)]
      exact hv
    | 2, _, hv =>
      rw [u7 _ (by decide) (by decide), u6 _ (by decide) (by decide), u5 _ (by decide) (by decide), fu_n _ _ (by decide), u4 _ (by decide), show A3 (14 + 1 + 2 * 2) = A2 (38 + 1) from p3, u2 _ (by decide), u1 _ (by decide)]
      exact hv
    | 3, _, hv =>
      rw [u7 _ (by decide) (by decide), u6 _ (by decide) (by decide), u5 _ (by decide) (by decide), fu_n _ _ (by decide), show A4 (14 + 1 + 2 * 3) = A3 (40 + 1) from p4, u3 _ (by decide), u2 _ (by decide), u1 _ (by decide)]
      exact hv
  · rw [u7 _ (by decide) (by decide), u6 _ (by decide) (by decide), u5 _ (by decide) (by decide), fu_s, oA _ (by decide)]
    exact hR.2.1 k hk
  · exact (t5.cg (o6 _ (by decide)) (u6 _ (by decide) (by decide)) (u6 _ (by decide) (by decide))).cg (o7 _ (by decide)) (u7 _ (by decide) (by decide)) (u7 _ (by decide) (by decide))
  · exact t6.cg (o7 _ (by decide)) (u7 _ (by decide) (by decide)) (u7 _ (by decide) (by decide))
  · exact t7
  · rw [o7 _ (by omega), o6 _ (by omega), o5 _ (by omega), oI _ (by omega)]
  · rw [u7 _ (by omega) (by omega), u6 _ (by omega) (by omega), u5 _ (by omega) (by omega), fu_n _ _ (by omega), oA _ (by omega)]
  · rw [q7, q6, q5]
    by_cases e : a = 4
    · rw [e, fu_s, s4.i (a := 24) (n := 5) (by decide), hs.i (a := 4) (n := 5) (by decide)]
    · rw [fu_n _ _ e, q4, q3, q2, q1]
theorem pass_loop {b0 b1 : Nat} (hb0 : isW b0) (hb1 : isW b1) (hne : b0 ≠ b1) : ∀ (d j : Nat) (A : Nat → List Int32), j + d = 232 → (A b0).length = 232 → (A b1).length = 232 → (∀ i, i < j → (A b1).getD i 0 = (A b0).getD i 0) → mm_run G0 117 2 [some (.ref b0), some (.ref b1), some (.int (nI j))] [] (HP I A L F E) = some (none, HP I (fu A b1 (A b0)) L F E) := by
  intro d
  induction d with
  | zero =>
    intro j A hj h0 h1 hv
    rw [sg_X8_passes_2 hb0 hb1, if_pos (show (232 : Int32) ≤ nI j from n_le (a := 232) (b := j) (by omega) (by omega)), show A b0 = A b1 from ext_gI (by omega) (fun i hi => (hv i (by omega)).symm), fu_id]
  | succ d ih =>
    intro j A hj h0 h1 hv
    have x := ih (j + 1) (fu A b1 ((A b1).set j ((A b0).getD j 0))) (by omega) (by rw [fu_n _ _ hne]; exact h0) (by rw [fu_s, List.length_set]; exact h1) (fun i hi => by
      rw [fu_s, fu_n _ _ hne, getD_set (by omega)]
      by_cases e : i = j
      · rw [if_pos e, e]
      · rw [if_neg e]
        exact hv i (by omega))
    rw [fu_fu, fu_n _ _ hne] at x
    rw [sg_X8_passes_2 hb0 hb1, if_neg (show ¬ (232 : Int32) ≤ nI j from n_nle (a := j) (b := 232) (by omega) (by omega)), ldI_d (by omega) (by omega), Option.bind_some, stI_n (by omega) (by omega), Option.bind_some, in1]
    exact x
theorem passes {b0 b1 : Nat} (hb0 : isW b0) (hb1 : isW b1) (hne : b0 ≠ b1) (hs : Shp A L) : mm_call G0 117 [.ref b0, .ref b1] (HP I A L F E) = some (none, HP I (fu A b1 (A b0)) L F E) := by
  have lw : ∀ b, isW b → (A b).length = 232 := fun b hb => by
    rcases hb with rfl | rfl | rfl
    · exact hs.i (a := 85) (n := 232) (by decide)
    · exact hs.i (a := 86) (n := 232) (by decide)
    · exact hs.i (a := 87) (n := 232) (by decide)
  rw [sg_X8_passes_0 hb0 hb1]
  exact pass_loop hb0 hb1 hne 232 0 A (by omega) (lw _ hb0) (lw _ hb1) (fun i hi => by omega)
theorem Sim.all (h : Sim I A L) (s : Nat) (hs : s < 4) : ldI (A 85) (45 * nI s + 4) = some (I (100 * (14 + 2 * s) + 4)) := by
  rw [ix4, h.w (by omega), h.fld hs (by decide)]
end IMH
theorem pr_image : Pr tyI 89 183 [] := by
  intro I A L F E hS
  obtain ⟨I1, A1, c1, r1, o1, u1, q1⟩ := set_become_k (F := F) (E := E) hS.1 hS.2.1 hS.2.2.1
  have s1 : Shp A1 L := hS.1.cg q1
  have cp := passes (I := fu (fu I1 102 1) 8403 1) (A := A1) (L := L) (F := F) (E := E) (b0 := 85) (b1 := 86) (Or.inl rfl) (Or.inr (Or.inl rfl)) (by decide) s1
  have e85 : A1 85 = A 85 := u1 _ (by decide)
  have s2 : Shp (fu A1 86 (A1 85)) L := s1.fuI (by rw [s1.i (a := 85) (n := 232) (by decide), s1.i (a := 86) (n := 232) (by decide)])
  have g85 : gw (fu A1 86 (A1 85)) 85 = gw A 85 := by
    unfold gw
    rw [fu_n _ _ (by decide), e85]
  have g86 : gw (fu A1 86 (A1 85)) 86 = gw A 85 := by
    unfold gw
    rw [fu_s, e85]
  have hI : ∀ i, ¬ (2500 ≤ i ∧ i < 4100) → i ≠ 102 → i ≠ 8403 → (fu (fu I1 102 1) 8403 1) i = I i := fun i h1 h2 h3 => by rw [fu_n _ _ h3, fu_n _ _ h2, o1 i h1]
  have hA : ∀ a, ¬ (24 ≤ a ∧ a < 42) → a ≠ 86 → (fu A1 86 (A1 85)) a = A a := fun a h1 h2 => by rw [fu_n _ _ h2, u1 a h1]
  have hS' : Sim (fu (fu I1 102 1) 8403 1) (fu A1 86 (A1 85)) L := by
    refine ⟨s2, ?_, by rw [g85]; exact hS.2.2.1, ⟨by rw [fu_s, fu_n _ _ (by decide), fu_s], Or.inr ⟨by rw [fu_n _ _ (by decide), fu_s], ?_, by rw [g86]; exact hS.2.2.1⟩⟩, ?_, ?_⟩
    · rw [g85]
      exact hS.2.1.cg (fun s k _ _ => hI _ (by omega) (by omega) (by omega)) (fun s _ => hA _ (by omega) (by omega)) (hA _ (by decide) (by decide)) ⟨hI _ (by decide) (by decide) (by decide), hA _ (by decide) (by decide), hA _ (by decide) (by decide)⟩ ⟨hI _ (by decide) (by decide) (by decide), hA _ (by decide) (by decide), hA _ (by decide) (by decide)⟩ ⟨hI _ (by decide) (by decide) (by decide), hA _ (by decide) (by decide), hA _ (by decide) (by decide)⟩
    · rw [g86]
      refine r1.cg (fun s k _ _ => by rw [fu_n _ _ (by omega), fu_n _ _ (by omega)]) (fun s _ => fu_n _ _ (by omega)) (fu_n _ _ (by decide)) ⟨?_, fu_n _ _ (by decide), fu_n _ _ (by decide)⟩ ⟨?_, fu_n _ _ (by decide), fu_n _ _ (by decide)⟩ ⟨?_, fu_n _ _ (by decide), fu_n _ _ (by decide)⟩
      · rw [fu_n _ _ (by decide), fu_n _ _ (by decide)]
      · rw [fu_n _ _ (by decide), fu_n _ _ (by decide)]
      · rw [fu_n _ _ (by decide), fu_n _ _ (by decide)]
    · exact hS.2.2.2.2.1.cg (hI _ (by decide) (by decide) (by decide)) (hI _ (by decide) (by decide) (by decide)) (hA _ (by decide) (by decide)) (hA _ (by decide) (by decide))
    · exact hS.2.2.2.2.2.cg (fun t k _ _ => hI _ (by omega) (by omega) (by omega)) (hA _ (by decide) (by decide)) (hA _ (by decide) (by decide)) (fun _ _ => rfl) rfl
  refine ⟨.int (I 1404 + I 1604 + I 1804 + I 2004), (fu I1 102 1), A1, L, F, E, _, _, L, F, E, ⟨_, rfl⟩, ?_, ?_, hS', Nat.le_add_right _ _⟩
  · rw [sg_X7_image_0, c1, Option.bind_some]
    refine (sg_X7_image_11 (I := I1) (A := A1) (L := L) (F := F) (E := E)).trans ?_
    rw [fu_n _ _ (by decide), fu_n _ _ (by decide), fu_n _ _ (by decide), fu_n _ _ (by decide), o1 _ (by decide), o1 _ (by decide), o1 _ (by decide), o1 _ (by decide), Int32.zero_add]
  · rw [sg_X8_image_0, cp, Option.bind_some]
    refine (sg_X8_image_16 (I := fu (fu I1 102 1) 8403 1) (A := fu A1 86 (A1 85)) (L := L) (F := F) (E := E)).trans ?_
    rw [show ((45 : Int32) * 0 + 4) = 45 * nI 0 + 4 from rfl, show ((45 : Int32) * 1 + 4) = 45 * nI 1 + 4 from rfl, show ((45 : Int32) * 2 + 4) = 45 * nI 2 + 4 from rfl, show ((45 : Int32) * 3 + 4) = 45 * nI 3 + 4 from rfl, hS'.all 0 (by decide), hS'.all 1 (by decide), hS'.all 2 (by decide), hS'.all 3 (by decide)]
    rw [hI _ (by decide) (by decide) (by decide), hI _ (by decide) (by decide) (by decide), hI _ (by decide) (by decide) (by decide), hI _ (by decide) (by decide) (by decide)]
    rfl
theorem pr_undo : Pr tyI 90 184 [] := by
  intro I A L F E hS
  obtain ⟨m1, m2⟩ := hS.2.2.2.1
  rcases m2 with m2 | ⟨m2, m3, m4⟩
  · refine ⟨.int (-3), I, A, L, F, E, I, A, L, F, E, ⟨_, rfl⟩, ?_, ?_, hS, Nat.le_add_right _ _⟩
    · rw [sg_X7_undo_0, m2, if_neg (by decide)]
    · rw [sg_X8_undo_0, ← m1, m2, if_neg (by decide)]
  · obtain ⟨I1, A1, c1, r1, o1, u1, q1⟩ := set_become_n (F := F) (E := E) hS.1 m3 m4
    have s1 : Shp A1 L := hS.1.cg q1
    have cp := passes (I := I1) (A := A1) (L := L) (F := F) (E := E) (b0 := 86) (b1 := 85) (Or.inr (Or.inl rfl)) (Or.inl rfl) (by decide) s1
    have e86 : A1 86 = A 86 := u1 _ (by decide)
    have s2 : Shp (fu A1 85 (A1 86)) L := s1.fuI (by rw [s1.i (a := 85) (n := 232) (by decide), s1.i (a := 86) (n := 232) (by decide)])
    have g85 : gw (fu A1 85 (A1 86)) 85 = gw A 86 := by
      unfold gw
      rw [fu_s, e86]
    have hS' : Sim I1 (fu A1 85 (A1 86)) L := by
      refine sim_now hS s2 (fun i hi => o1 i hi) (fun a h1 h2 => by rw [fu_n _ _ h2, u1 a (by omega)]) ?_ (by rw [g85]; exact m4)
      rw [g85]
      exact r1.cg (fun s k _ _ => rfl) (fun s _ => fu_n _ _ (by omega)) (fu_n _ _ (by decide)) ⟨rfl, fu_n _ _ (by decide), fu_n _ _ (by decide)⟩ ⟨rfl, fu_n _ _ (by decide), fu_n _ _ (by decide)⟩ ⟨rfl, fu_n _ _ (by decide), fu_n _ _ (by decide)⟩
    have n1 : I 102 ≠ 0 := by rw [m2]; decide
    refine ⟨.int (I1 1404 + I1 1604 + I1 1804 + I1 2004), I1, A1, L, F, E, _, _, L, F, E, ⟨_, rfl⟩, ?_, ?_, hS', Nat.le_add_right _ _⟩
    · rw [sg_X7_undo_0, if_pos n1, c1, Option.bind_some]
      refine (sg_X7_undo_21 (I := I1) (A := A1) (L := L) (F := F) (E := E)).trans ?_
      rw [Int32.zero_add]
    · rw [sg_X8_undo_0, o1 _ (by decide), ← m1, if_pos n1, cp, Option.bind_some]
      refine (sg_X8_undo_21 (I := I1) (A := fu A1 85 (A1 86)) (L := L) (F := F) (E := E)).trans ?_
      rw [show ((45 : Int32) * 0 + 4) = 45 * nI 0 + 4 from rfl, show ((45 : Int32) * 1 + 4) = 45 * nI 1 + 4 from rfl, show ((45 : Int32) * 2 + 4) = 45 * nI 2 + 4 from rfl, show ((45 : Int32) * 3 + 4) = 45 * nI 3 + 4 from rfl, hS'.all 0 (by decide), hS'.all 1 (by decide), hS'.all 2 (by decide), hS'.all 3 (by decide)]
      rfl
