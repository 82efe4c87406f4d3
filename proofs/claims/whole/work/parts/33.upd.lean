/-! what changes a set-up: the relation behind it -/
theorem gw_ne {A : Nat → List Int32} {a b : Nat} {X : List Int32} (h : b ≠ a) : gw (fu A a X) b = gw A b := by
  unfold gw
  rw [fu_n _ _ h]
theorem gw_set {A : Nat → List Int32} {a i : Nat} {x : Int32} (hi : i < (A a).length) : gw (fu A a ((A a).set i x)) a = fu (gw A a) i x := by
  funext j
  unfold gw
  rw [fu_s, getD_set hi]
  rfl
theorem gw_set2 {A : Nat → List Int32} {a i j : Nat} {x y : Int32} (hi : i < (A a).length) (hj : j < (A a).length) : gw (fu A a (((A a).set i x).set j y)) a = fu (fu (gw A a) i x) j y := by
  funext q
  unfold gw
  rw [fu_s, getD_set (by rw [List.length_set]; exact hj), getD_set hi]
  rfl
theorem gw_set3 {A : Nat → List Int32} {a i j k : Nat} {x y z : Int32} (hi : i < (A a).length) (hj : j < (A a).length) (hk : k < (A a).length) : gw (fu A a ((((A a).set i x).set j y).set k z)) a = fu (fu (fu (gw A a) i x) j y) k z := by
  funext q
  unfold gw
  rw [fu_s, getD_set (by rw [List.length_set, List.length_set]; exact hk), getD_set (by rw [List.length_set]; exact hj), getD_set hi]
  rfl
section UPD
variable {I : Nat → Int32} {A : Nat → List Int32} {L : Nat → List Int64}
/-- only what stands for 'now' has changed -/
theorem sim_now {I' : Nat → Int32} {A' : Nat → List Int32} (h : Sim I A L) (hs : Shp A' L) (hI : ∀ i, ¬ (500 ≤ i ∧ i < 2100) → I' i = I i) (hA : ∀ a, 22 ≤ a → a ≠ 85 → A' a = A a) (hR : Rn I' A' 14 4 5 8 11 (gw A' 85)) (hV : Vw (gw A' 85)) : Sim I' A' L := by
  refine ⟨hs, hR, hV, h.2.2.2.1.cg ⟨hI _ (by omega), hI _ (by omega)⟩ (fun s k h1 h2 => hI _ (by omega)) (fun s h1 => hA _ (by omega) (by omega)) (hA _ (by omega) (by omega)) ⟨hI _ (by omega), hA _ (by omega) (by omega), hA _ (by omega) (by omega)⟩ ⟨hI _ (by omega), hA _ (by omega) (by omega), hA _ (by omega) (by omega)⟩ ⟨hI _ (by omega), hA _ (by omega) (by omega), hA _ (by omega) (by omega)⟩ (hA _ (by omega) (by omega)), h.2.2.2.2.1.cg (hI _ (by omega)) (hI _ (by omega)) (hA _ (by omega) (by omega)) (hA _ (by omega) (by omega)), h.2.2.2.2.2.cg (fun t k h1 h2 => hI _ (by omega)) (hA _ (by omega) (by omega)) (hA _ (by omega) (by omega)) (fun _ _ => rfl) rfl⟩
theorem Rr.w {w w' : Nat → Int32} {r c : Nat} (h : Rr I A r w c) (e : ∀ j, j ≤ 16 → w' (c + j) = w (c + j)) : Rr I A r w' c := by
  refine ⟨by have := e 0 (by omega); rw [Nat.add_zero] at this; rw [this]; exact h.1, fun n j hw hn hj => ?_⟩
  have e0 := e 0 (by omega)
  rw [Nat.add_zero] at e0
  rw [e0] at hw
  have := h.2 n j hw hn hj
  rw [show c + 1 + 2 * j = c + (1 + 2 * j) by omega, show c + 2 + 2 * j = c + (2 + 2 * j) by omega] at this ⊢
  rw [e _ (by omega), e _ (by omega)]
  exact this
/-- the rows told by hand stay where w changes below them -/
theorem Vw.st {w w' : Nat → Int32} (h : Vw w) (e : ∀ j, 180 ≤ j → w' j = w j) (hs : ∀ s, s < 4 → Vst (fun j => w' (45 * s + j))) : Vw w' := by
  obtain ⟨-, h2, ⟨n3, a3, b3, c3⟩, ⟨n4, a4, b4, c4⟩, n5, a5, b5, c5⟩ := h
  refine ⟨hs, fun k hk => by rw [e _ (by omega)]; exact h2 k hk, ⟨n3, a3, by rw [e _ (by omega)]; exact b3, fun j hj => by rw [e _ (by omega), e _ (by omega)]; exact c3 j hj⟩, ⟨n4, a4, by rw [e _ (by omega)]; exact b4, fun j hj => by rw [e _ (by omega), e _ (by omega)]; exact c4 j hj⟩, n5, a5, by rw [e _ (by omega)]; exact b5, fun j hj => by rw [e _ (by omega)]; exact c5 j hj⟩
/-- a stream of 'now' changes, on both sides -/
theorem sim_stream {I' : Nat → Int32} {A' : Nat → List Int32} {w' : Nat → Int32} {k : Nat} (hk : k < 4) (h : Sim I A L) (hs : Shp A' L) (hI : ∀ i, ¬ (100 * (14 + 2 * k) ≤ i ∧ i < 100 * (14 + 2 * k) + 5) → I' i = I i) (hA : ∀ a, a ≠ 15 + 2 * k → a ≠ 85 → A' a = A a) (hw : gw A' 85 = w') (hwe : ∀ j, ¬ (45 * k ≤ j ∧ j < 45 * k + 45) → w' j = gw A 85 j)
    (hV : Vst (fun j => w' (45 * k + j))) (hf : ∀ j, j < 5 → I' (100 * (14 + 2 * k) + j) = w' (45 * k + j)) (hv : ∀ n p, w' (45 * k + 4) = nI n → n ≤ 40 → p < n → (A' (15 + 2 * k)).getD p 0 = w' (45 * k + 5 + p)) : Sim I' A' L := by
  obtain ⟨r1, r2, r3, r4, r5⟩ := h.2.1
  refine sim_now h hs (fun i hi => hI i (by omega)) (fun a h1 h2 => hA a (by omega) h2) ?_ ?_
  · rw [hw]
    refine ⟨⟨fun s j hs hj => ?_, fun s n p hs hn0 hn hp => ?_⟩, fun j hj => ?_, ?_, ?_, ?_⟩
    · by_cases e : s = k
      · subst e
        exact hf j hj
      · rw [hI _ (by omega), hwe _ (by omega)]
        exact r1.1 s j hs hj
    · by_cases e : s = k
      · subst e
        rw [show 14 + 1 + 2 * s = 15 + 2 * s by omega]
        exact hv n p hn0 hn hp
      · rw [hA _ (by omega) (by omega), hwe _ (by omega)]
        rw [hwe _ (by omega)] at hn0
        exact r1.2 s n p hs hn0 hn hp
    · rw [hA _ (by omega) (by omega), hwe _ (by omega)]
      exact r2 j hj
    · exact (r3.cg (hI _ (by omega)) (hA _ (by omega) (by omega)) (hA _ (by omega) (by omega))).w (fun j _ => hwe _ (by omega))
    · exact (r4.cg (hI _ (by omega)) (hA _ (by omega) (by omega)) (hA _ (by omega) (by omega))).w (fun j _ => hwe _ (by omega))
    · exact (r5.cg (hI _ (by omega)) (hA _ (by omega) (by omega)) (hA _ (by omega) (by omega))).w (fun j _ => hwe _ (by omega))
  · rw [hw]
    refine h.2.2.1.st (fun j hj => hwe j (by omega)) (fun s hs => ?_)
    by_cases e : s = k
    · subst e
      exact hV
    · exact (h.2.2.1.1 s hs).cg (fun j hj => hwe _ (by omega))
end UPD
