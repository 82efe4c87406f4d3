/-! rows told by hand: see, plan, book -/
def xrow (I : Nat → Int32) (A : Nat → List Int32) (L : Nat → List Int64) (F : Nat → Int64) (E : MH) (r : Nat) (p1 p2 : Int32) : Option (Option Value × MH) :=
  if (I (100 * r + 3)) < (rwM r) then ((stI (A (r + 1)) (I (100 * r + 3)) p1).bind fun X1 => ((stI ((fu A (r + 1) X1) (r + 2)) (I (100 * r + 3)) p2).bind fun X2 => some (some (.int ((fu I (100 * r + 3) ((I (100 * r + 3)) + 1)) (100 * r + 3))), (HP (fu I (100 * r + 3) ((I (100 * r + 3)) + 1)) (fu (fu A (r + 1) X1) (r + 2) X2) L F E)))) else some (some (.int (-4)), HP I A L F E)
def mrow (I : Nat → Int32) (A : Nat → List Int32) (L : Nat → List Int64) (F : Nat → Int64) (E : MH) (c m : Int32) (p1 p2 : Int32) : Option (Option Value × MH) :=
  (ldI (A 85) c).bind fun x1 => (if x1 ≠ m then ((ldI (A 85) c).bind fun x2 => ((stI (A 85) ((c + 1) + (2 * x2)) p1).bind fun X3 => ((stI X3 ((c + 2) + (2 * x2)) p2).bind fun X4 => ((ldI X4 c).bind fun x5 => ((stI X4 c (x5 + 1)).bind fun X6 => ((ldI X6 c).bind fun x7 => some (some (.int x7), (HP I (fu (fu (fu A 85 X3) 85 X4) 85 X6) L F E)))))))) else some (some (.int (-4)), HP I A L F E))
section ROW
variable {I : Nat → Int32} {A : Nat → List Int32} {L : Nat → List Int64} {F : Nat → Int64} {E : MH}
theorem ir1 (c n : Nat) : nI c + 1 + 2 * nI n = nI (c + 1 + 2 * n) := by
  rw [show (1 : Int32) = nI 1 from rfl, show (2 : Int32) = nI 2 from rfl, pk_mul, nI_add, nI_add]
theorem ir2 (c n : Nat) : nI c + 2 + 2 * nI n = nI (c + 2 + 2 * n) := by
  rw [show (2 : Int32) = nI 2 from rfl, pk_mul, nI_add, nI_add]
theorem in1 (n : Nat) : nI n + 1 = nI (n + 1) := by
  rw [show (1 : Int32) = nI 1 from rfl, nI_add]
theorem mrow_add {c n : Nat} {m p1 p2 : Int32} (hl : (A 85).length = 232) (hc : c + 2 + 2 * n < 232) (hn : gw A 85 c = nI n) (hm : nI n ≠ m) : mrow I A L F E (nI c) m p1 p2 = some (some (.int (nI (n + 1))), HP I (fu A 85 ((((A 85).set (c + 1 + 2 * n) p1).set (c + 2 + 2 * n) p2).set c (nI (n + 1)))) L F E) := by
  have l0 : ldI (A 85) (nI c) = some (nI n) := by
    rw [ldI_d (by omega) (by omega)]
    exact congrArg some hn
  have g1 : (((A 85).set (c + 1 + 2 * n) p1).set (c + 2 + 2 * n) p2).getD c 0 = nI n := by
    rw [getD_set (by rw [List.length_set]; omega), if_neg (by omega), getD_set (by omega), if_neg (by omega)]
    exact hn
  unfold mrow
  rw [l0, Option.bind_some, if_pos hm, Option.bind_some, ir1, stI_n (by omega) (by omega), Option.bind_some, ir2, stI_n (by rw [List.length_set]; omega) (by rw [List.length_set]; omega), Option.bind_some, ldI_d (by rw [List.length_set, List.length_set]; omega) (by rw [List.length_set, List.length_set]; omega), g1, Option.bind_some, in1, stI_n (by rw [List.length_set, List.length_set]; omega) (by rw [List.length_set, List.length_set]; omega), Option.bind_some, ldI_d (by rw [List.length_set, List.length_set, List.length_set]; omega) (by rw [List.length_set, List.length_set, List.length_set]; omega), getD_set (by rw [List.length_set, List.length_set]; omega), if_pos rfl, Option.bind_some, fu_fu, fu_fu]
theorem mrow_full {c : Nat} {m p1 p2 : Int32} (hl : (A 85).length = 232) (hc : c < 232) (hn : gw A 85 c = m) : mrow I A L F E (nI c) m p1 p2 = some (some (.int (-4)), HP I A L F E) := by
  have l0 : ldI (A 85) (nI c) = some m := by
    rw [ldI_d (by omega) (by omega)]
    exact congrArg some hn
  unfold mrow
  rw [l0, Option.bind_some, if_neg (fun q => q rfl)]
theorem xrow_add {r n : Nat} {p1 p2 : Int32} (hI : I (100 * r + 3) = nI n) (hlt : nI n < rwM r) (l1 : n < (A (r + 1)).length) (l2 : n < (A (r + 2)).length) (s1 : (A (r + 1)).length < 2 ^ 31) (s2 : (A (r + 2)).length < 2 ^ 31) : xrow I A L F E r p1 p2 = some (some (.int (nI (n + 1))), HP (fu I (100 * r + 3) (nI (n + 1))) (fu (fu A (r + 1) ((A (r + 1)).set n p1)) (r + 2) ((A (r + 2)).set n p2)) L F E) := by
  unfold xrow
  rw [hI, if_pos hlt, stI_n l1 s1, Option.bind_some, fu_n _ _ (by omega), stI_n l2 s2, Option.bind_some, fu_s, in1]
theorem xrow_full {r : Nat} {p1 p2 : Int32} (hI : I (100 * r + 3) = rwM r) : xrow I A L F E r p1 p2 = some (some (.int (-4)), HP I A L F E) := by
  unfold xrow
  rw [hI, if_neg (by rw [i_lt]; omega)]
theorem Rr.add {I' : Nat → Int32} {A' : Nat → List Int32} {w : Nat → Int32} {r c n : Nat} {p1 p2 : Int32} (h : Rr I A r w c) (hn : w c = nI n) (hn8 : n < 8) (hl1 : n < (A (r + 1)).length) (hl2 : n < (A (r + 2)).length) (hI' : I' (100 * r + 3) = nI (n + 1)) (hA1 : A' (r + 1) = (A (r + 1)).set n p1) (hA2 : A' (r + 2) = (A (r + 2)).set n p2) : Rr I' A' r (fu (fu (fu w (c + 1 + 2 * n) p1) (c + 2 + 2 * n) p2) c (nI (n + 1))) c := by
  refine ⟨by rw [fu_s]; exact hI', fun n' j hw hn' hj => ?_⟩
  rw [fu_s] at hw
  have en : n + 1 = n' := (nI_eq (by omega) (by omega)).mp hw
  subst en
  rw [hA1, hA2, getD_set hl1, getD_set hl2, fu_n (k := c) _ _ (by omega), fu_n (k := c) _ _ (by omega)]
  by_cases e : j = n
  · subst e
    rw [if_pos rfl, if_pos rfl, fu_n _ _ (by omega), fu_s, fu_s]
    exact ⟨rfl, rfl⟩
  · rw [if_neg e, if_neg e, fu_n _ _ (by omega), fu_n _ _ (by omega), fu_n _ _ (by omega), fu_n _ _ (by omega)]
    exact h.2 n j hn (by omega) (by omega)
theorem Rr.clr {I' : Nat → Int32} {A' : Nat → List Int32} {w : Nat → Int32} {r c : Nat} (hI' : I' (100 * r + 3) = 0) : Rr I' A' r (fu w c 0) c := by
  refine ⟨by rw [fu_s]; exact hI', fun n' j hw hn' hj => ?_⟩
  rw [fu_s] at hw
  have en : 0 = n' := (nI_eq (by omega) (by omega)).mp hw
  omega
/-- one row of the three has changed on both sides -/
theorem sim_row {I' : Nat → Int32} {A' : Nat → List Int32} {w' : Nat → Int32} {r c m : Nat} (hr : (r = 5 ∧ c = 185 ∧ m = 6) ∨ (r = 8 ∧ c = 198 ∧ m = 8) ∨ (r = 11 ∧ c = 215 ∧ m = 8)) (h : Sim I A L) (hs : Shp A' L) (hI : ∀ i, i ≠ 100 * r + 3 → I' i = I i) (hA : ∀ a, a ≠ r + 1 → a ≠ r + 2 → a ≠ 85 → A' a = A a) (hw : gw A' 85 = w') (hwe : ∀ j, ¬ (c ≤ j ∧ j ≤ c + 2 * m) → w' j = gw A 85 j) (hR : Rr I' A' r w' c) (hV : Vw w') : Sim I' A' L := by
  obtain ⟨r1, r2, r3, r4, r5⟩ := h.2.1
  refine sim_now h hs (fun i hi => hI i (by omega)) (fun a h1 h2 => hA a (by omega) (by omega) h2) ?_ (by rw [hw]; exact hV)
  rw [hw]
  refine ⟨⟨fun s j hs hj => ?_, fun s n p hs hn0 hn hp => ?_⟩, fun j hj => ?_, ?_, ?_, ?_⟩
  · rw [hI _ (by omega), hwe _ (by omega)]
    exact r1.1 s j hs hj
  · rw [hA _ (by omega) (by omega) (by omega), hwe _ (by omega)]
    rw [hwe _ (by omega)] at hn0
    exact r1.2 s n p hs hn0 hn hp
  · rw [hA _ (by omega) (by omega) (by omega), hwe _ (by omega)]
    exact r2 j hj
  · rcases hr with ⟨rfl, rfl, rfl⟩ | ⟨rfl, rfl, rfl⟩ | ⟨rfl, rfl, rfl⟩
    · exact hR
    · refine ⟨by rw [hI _ (by decide), hwe _ (by omega)]; exact r3.1, fun n j hn0 hn hj => ?_⟩
      rw [hwe _ (by omega)] at hn0
      obtain ⟨n6, q1, q2, -⟩ := h.2.2.1.2.2.1
      have := (nI_eq (by omega) (by omega)).mp (hn0.symm.trans q2)
      rw [hA _ (by decide) (by decide) (by decide), hA _ (by decide) (by decide) (by decide), hwe _ (by omega), hwe _ (by omega)]
      exact r3.2 n j hn0 hn hj
    · refine ⟨by rw [hI _ (by decide), hwe _ (by omega)]; exact r3.1, fun n j hn0 hn hj => ?_⟩
      rw [hwe _ (by omega)] at hn0
      rw [hA _ (by decide) (by decide) (by decide), hA _ (by decide) (by decide) (by decide), hwe _ (by omega), hwe _ (by omega)]
      exact r3.2 n j hn0 hn hj
  · rcases hr with ⟨rfl, rfl, rfl⟩ | ⟨rfl, rfl, rfl⟩ | ⟨rfl, rfl, rfl⟩
    · exact (r4.cg (hI _ (by decide)) (hA _ (by decide) (by decide) (by decide)) (hA _ (by decide) (by decide) (by decide))).w (fun j _ => hwe _ (by omega))
    · exact hR
    · exact (r4.cg (hI _ (by decide)) (hA _ (by decide) (by decide) (by decide)) (hA _ (by decide) (by decide) (by decide))).w (fun j _ => hwe _ (by omega))
  · rcases hr with ⟨rfl, rfl, rfl⟩ | ⟨rfl, rfl, rfl⟩ | ⟨rfl, rfl, rfl⟩
    · exact (r5.cg (hI _ (by decide)) (hA _ (by decide) (by decide) (by decide)) (hA _ (by decide) (by decide) (by decide))).w (fun j _ => hwe _ (by omega))
    · exact (r5.cg (hI _ (by decide)) (hA _ (by decide) (by decide) (by decide)) (hA _ (by decide) (by decide) (by decide))).w (fun j _ => hwe _ (by omega))
    · exact hR
/-- a row is told: both sides alike -/
theorem row_push {r c m : Nat} {p1 p2 : Int32} (hr : (r = 5 ∧ c = 185 ∧ m = 6) ∨ (r = 8 ∧ c = 198 ∧ m = 8) ∨ (r = 11 ∧ c = 215 ∧ m = 8)) (hS : Sim I A L) (hx : ∃ n, n ≤ m ∧ gw A 85 c = nI n) (hV : ∀ n, n < m → gw A 85 c = nI n → Vw (fu (fu (fu (gw A 85) (c + 1 + 2 * n) p1) (c + 2 + 2 * n) p2) c (nI (n + 1)))) :
    ∃ (v : Int32) (I1 I' : Nat → Int32) (A1 A' : Nat → List Int32), xrow I A L F E r p1 p2 = some (some (.int v), HP I1 A1 L F E) ∧ mrow I1 A1 L F E (nI c) (nI m) p1 p2 = some (some (.int v), HP I' A' L F E) ∧ Sim I' A' L := by
  obtain ⟨n, hn, hg⟩ := hx
  have hl85 := hS.1.i (a := 85) (n := 232) (by decide)
  have hI : I (100 * r + 3) = nI n ∧ rwM r = nI m ∧ (A (r + 1)).length = m ∧ (A (r + 2)).length = m ∧ Rr I A r (gw A 85) c := by
    rcases hr with ⟨rfl, rfl, rfl⟩ | ⟨rfl, rfl, rfl⟩ | ⟨rfl, rfl, rfl⟩
    · exact ⟨hS.2.1.2.2.1.1.trans hg, rfl, hS.1.i (a := 6) (n := 6) (by decide), hS.1.i (a := 7) (n := 6) (by decide), hS.2.1.2.2.1⟩
    · exact ⟨hS.2.1.2.2.2.1.1.trans hg, rfl, hS.1.i (a := 9) (n := 8) (by decide), hS.1.i (a := 10) (n := 8) (by decide), hS.2.1.2.2.2.1⟩
    · exact ⟨hS.2.1.2.2.2.2.1.trans hg, rfl, hS.1.i (a := 12) (n := 8) (by decide), hS.1.i (a := 13) (n := 8) (by decide), hS.2.1.2.2.2.2⟩
  obtain ⟨i1, i2, i3, i4, i5⟩ := hI
  by_cases e : n = m
  · subst e
    refine ⟨-4, I, I, A, A, xrow_full (i1.trans i2.symm), mrow_full hl85 (by omega) hg, hS⟩
  · have hlt : nI n < rwM r := by
      rw [i2]
      exact nI_lt (by omega) (by omega)
    refine ⟨nI (n + 1), fu I (100 * r + 3) (nI (n + 1)), fu I (100 * r + 3) (nI (n + 1)), fu (fu A (r + 1) ((A (r + 1)).set n p1)) (r + 2) ((A (r + 2)).set n p2), fu (fu (fu A (r + 1) ((A (r + 1)).set n p1)) (r + 2) ((A (r + 2)).set n p2)) 85 ((((A 85).set (c + 1 + 2 * n) p1).set (c + 2 + 2 * n) p2).set c (nI (n + 1))), xrow_add i1 hlt (by omega) (by omega) (by omega) (by omega), ?_, ?_⟩
    · have e85 : (fu (fu A (r + 1) ((A (r + 1)).set n p1)) (r + 2) ((A (r + 2)).set n p2)) 85 = A 85 := by rw [fu_n _ _ (by omega), fu_n _ _ (by omega)]
      rw [mrow_add (by rw [e85]; exact hl85) (by omega) (by unfold gw; rw [e85]; exact hg) (nI_ne (by omega) (by omega) e), e85]
    · have hw : gw (fu (fu (fu A (r + 1) ((A (r + 1)).set n p1)) (r + 2) ((A (r + 2)).set n p2)) 85 ((((A 85).set (c + 1 + 2 * n) p1).set (c + 2 + 2 * n) p2).set c (nI (n + 1)))) 85 = fu (fu (fu (gw A 85) (c + 1 + 2 * n) p1) (c + 2 + 2 * n) p2) c (nI (n + 1)) := by
        funext j
        unfold gw
        rw [fu_s, getD_set (by rw [List.length_set, List.length_set]; omega), getD_set (by rw [List.length_set]; omega), getD_set (by omega)]
        rfl
      refine sim_row hr hS ?_ (fun i hi => fu_n _ _ hi) (fun a h1 h2 h3 => by rw [fu_n _ _ h3, fu_n _ _ h2, fu_n _ _ h1]) hw (fun j hj => by rw [fu_n _ _ (by omega), fu_n _ _ (by omega), fu_n _ _ (by omega)]) ?_ (hV n (by omega) hg)
      · refine ((hS.1.fuI (a := r + 1) (by rw [List.length_set])).fuI (a := r + 2) (by rw [List.length_set, fu_n _ _ (by omega)])).fuI (a := 85) ?_
        rw [List.length_set, List.length_set, List.length_set, fu_n _ _ (by omega), fu_n _ _ (by omega)]
      · exact i5.add hg (by omega) (by omega) (by omega) (fu_s _ _ _) (by rw [fu_n _ _ (by omega), fu_n _ _ (by omega), fu_s]) (by rw [fu_n _ _ (by omega), fu_s])
/-- a row is emptied -/
theorem row_clr {r c m : Nat} (hr : (r = 5 ∧ c = 185 ∧ m = 6) ∨ (r = 8 ∧ c = 198 ∧ m = 8) ∨ (r = 11 ∧ c = 215 ∧ m = 8)) (hS : Sim I A L) : stI (A 85) (nI c) 0 = some ((A 85).set c 0) ∧ Sim (fu I (100 * r + 3) 0) (fu A 85 ((A 85).set c 0)) L := by
  have hl85 := hS.1.i (a := 85) (n := 232) (by decide)
  refine ⟨stI_n (by omega) (by omega), ?_⟩
  have hw := gw_set (A := A) (a := 85) (i := c) (x := 0) (by omega)
  refine sim_row hr hS (hS.1.fuI (by rw [List.length_set])) (fun i hi => fu_n _ _ hi) (fun a h1 h2 h3 => fu_n _ _ h3) hw (fun j hj => fu_n _ _ (by omega)) (Rr.clr (fu_s _ _ _)) ?_
  obtain ⟨h1, h2, ⟨n3, a3, b3, c3⟩, ⟨n4, a4, b4, c4⟩, n5, a5, b5, c5⟩ := hS.2.2.1
  rcases hr with ⟨rfl, rfl, rfl⟩ | ⟨rfl, rfl, rfl⟩ | ⟨rfl, rfl, rfl⟩
  · refine ⟨fun s hs => (h1 s hs).cg (fun j hj => fu_n _ _ (by omega)), fun k hk => by rw [fu_n _ _ (by omega)]; exact h2 k hk, ⟨0, by omega, fu_s _ _ _, fun j hj => by omega⟩, ⟨n4, a4, by rw [fu_n _ _ (by omega)]; exact b4, fun j hj => by rw [fu_n _ _ (by omega), fu_n _ _ (by omega)]; exact c4 j hj⟩, n5, a5, by rw [fu_n _ _ (by omega)]; exact b5, fun j hj => by rw [fu_n _ _ (by omega)]; exact c5 j hj⟩
  · refine ⟨fun s hs => (h1 s hs).cg (fun j hj => fu_n _ _ (by omega)), fun k hk => by rw [fu_n _ _ (by omega)]; exact h2 k hk, ⟨n3, a3, by rw [fu_n _ _ (by omega)]; exact b3, fun j hj => by rw [fu_n _ _ (by omega), fu_n _ _ (by omega)]; exact c3 j hj⟩, ⟨0, by omega, fu_s _ _ _, fun j hj => by omega⟩, n5, a5, by rw [fu_n _ _ (by omega)]; exact b5, fun j hj => by rw [fu_n _ _ (by omega)]; exact c5 j hj⟩
  · refine ⟨fun s hs => (h1 s hs).cg (fun j hj => fu_n _ _ (by omega)), fun k hk => by rw [fu_n _ _ (by omega)]; exact h2 k hk, ⟨n3, a3, by rw [fu_n _ _ (by omega)]; exact b3, fun j hj => by rw [fu_n _ _ (by omega), fu_n _ _ (by omega)]; exact c3 j hj⟩, ⟨n4, a4, by rw [fu_n _ _ (by omega)]; exact b4, fun j hj => by rw [fu_n _ _ (by omega), fu_n _ _ (by omega)]; exact c4 j hj⟩, 0, by omega, fu_s _ _ _, fun j hj => by omega⟩
end ROW
