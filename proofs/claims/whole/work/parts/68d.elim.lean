/-! the class's elimination -/
theorem l_dive {x y : Int64} {v : Int} (h : x.toInt = y.toInt * v) (hy : y.toInt ≠ 0) (h1 : -9223372036854775808 ≤ v) (h2 : v < 9223372036854775808) : (x / y).toInt = v := by
  rw [Int64.toInt_div, h, Int.mul_tdiv_cancel_left v hy]
  exact b64 h1 h2
/-- a row while a round of the elimination goes along it -/
def Re (X : Nat → Rw) (s k r c : Nat) (Z : List Int64) : Prop :=
  Z.length = 7 ∧ (∀ j, k + 1 ≤ j → j < c → j < s → (Z.getD j 0).toInt = vv X (k + 1) r j) ∧ (∀ j, (j = k ∨ c ≤ j) → j < s → (Z.getD j 0).toInt = vv X k r j) ∧ (c ≤ s → (Z.getD s 0).toInt = vv X k r 7) ∧ (s < c → (Z.getD s 0).toInt = vv X (k + 1) r 7)
section ELI
variable {I : Nat → Int32} {A : Nat → List Int32} {F : Nat → Int64} {E : MH}
theorem el_37 {X : Nat → Rw} {x : Nat → Int} {s k r : Nat} {v2 : Int64} (hM : Mm X s x) (hs : s ≤ 6) (hk : k + 1 < s) (hkr : k < r) (hr : r < s) (h2 : v2.toInt = dd X k) : ∀ (d c : Nat) (L : Nat → List Int64), c + d = s + 1 → k + 1 ≤ c → Rq s k (vv X k k) (L (63 + k)) → Re X s k r c (L (63 + r)) →
    ∃ Z : List Int64, mm_run G0 11 37 [some (.ref 54), some (.int (nI s)), some (.long v2), none, some (.int (nI k)), some (.int (nI r)), some (.int (nI c))] [] (HP I A L F E) = mm_run G0 11 25 [some (.ref 54), some (.int (nI s)), some (.long v2), none, some (.int (nI k)), some (.int (nI (r + 1))), some (.int (nI (s + 1)))] [] (HP I A (fu L (63 + r) Z) F E) ∧ Re X s k r (s + 1) Z
  | 0, c, L, hc, hkc, hK, hR => by
    obtain rfl : c = s + 1 := by omega
    refine ⟨L (63 + r), ?_, hR⟩
    rw [sg_X0_eliminate_37, if_pos (nI_lt (a := s) (b := s + 1) (by omega) (by omega)), in1, fu_id]
  | d + 1, c, L, hc, hkc, hK, hR => by
    obtain ⟨k1, k2, k3⟩ := hK
    obtain ⟨r1, r2, r3, r4, r5⟩ := hR
    have hd := hM.d25 k (by omega) (by omega)
    have hne : ∀ i, i ≤ k + 1 → dd X i ≠ 0 := hM.ne (k := k + 1) (by omega) (by omega)
    obtain ⟨y, hy⟩ : ∃ y, (if c = s then 7 else c) = y := ⟨_, rfl⟩
    have hyd : y < s ∨ y = 7 := by
      rw [← hy]
      split
      · exact .inr rfl
      · exact .inl (by omega)
    have a3 : ((L (63 + k)).getD k 0).toInt = vv X k k k := k2 k (Nat.le_refl k) (by omega)
    have a5 : ((L (63 + r)).getD c 0).toInt = vv X k r y := by
      by_cases e : c = s
      · rw [← hy, if_pos e, e]; exact r4 (by omega)
      · rw [← hy, if_neg e]; exact r3 c (.inr (Nat.le_refl c)) (by omega)
    have a7 : ((L (63 + r)).getD k 0).toInt = vv X k r k := r3 k (.inl rfl) (by omega)
    have a9 : ((L (63 + k)).getD c 0).toInt = vv X k k y := by
      by_cases e : c = s
      · rw [← hy, if_pos e, e]; exact k3
      · rw [← hy, if_neg e]; exact k2 c (by omega) (by omega)
    have b3 : ((L (63 + k)).getD k 0).toInt.natAbs ≤ 156250000 := by rw [a3]; exact hM.vb (by omega) (Nat.le_refl k) (by omega) (.inl (by omega))
    have b5 : ((L (63 + r)).getD c 0).toInt.natAbs ≤ 156250000 := by rw [a5]; exact hM.vb (by omega) (by omega) hr hyd
    have b7 : ((L (63 + r)).getD k 0).toInt.natAbs ≤ 156250000 := by rw [a7]; exact hM.vb (by omega) (by omega) hr (.inl (by omega))
    have b9 : ((L (63 + k)).getD c 0).toInt.natAbs ≤ 156250000 := by rw [a9]; exact hM.vb (by omega) (Nat.le_refl k) (by omega) hyd
    obtain ⟨m1, m2⟩ := l_mulb b3 b5 (by decide)
    obtain ⟨m3, m4⟩ := l_mulb b7 b9 (by decide)
    obtain ⟨m5, m6⟩ := l_subb m2 m4 (by decide)
    have hex := exa (X := X) (k := k) (by omega) hne r y
    have hb := hM.vb5 (k := k + 1) (r := r) (y := y) (by omega) (by omega) hr hyd
    have hdiv := l_dive (x := (L (63 + k)).getD k 0 * (L (63 + r)).getD c 0 - (L (63 + r)).getD k 0 * (L (63 + k)).getD c 0) (y := v2) (v := vv X (k + 1) r y) (by
      rw [m5, m1, m3, h2, hex, a3, a5, a7, a9]
      rfl) (by omega) (by omega) (by omega)
    have hv0 : ¬ v2 = 0 := fun z => by
      rw [z] at h2
      have : (0 : Int64).toInt = 0 := rfl
      omega
    obtain ⟨Z, z1, z2⟩ := el_37 hM hs hk hkr hr h2 d (c + 1) (fu L (63 + r) ((L (63 + r)).set c (((L (63 + k)).getD k 0 * (L (63 + r)).getD c 0 - (L (63 + r)).getD k 0 * (L (63 + k)).getD c 0) / v2))) (by omega) (by omega) (by rw [fu_n _ _ (by omega)]; exact ⟨k1, k2, k3⟩) (by
      rw [fu_s]
      refine ⟨by rw [List.length_set]; exact r1, fun j q1 q2 q3 => ?_, fun j q1 q2 => ?_, fun q => ?_, fun q => ?_⟩
      · rw [getD_set (by omega)]
        by_cases e : j = c
        · rw [if_pos e, hdiv, ← hy, if_neg (by omega), e]
        · rw [if_neg e]
          exact r2 j q1 (by omega) q3
      · rw [getD_set (by omega), if_neg (by omega)]
        exact r3 j (by omega) q2
      · rw [getD_set (by omega), if_neg (by omega)]
        exact r4 (by omega)
      · rw [getD_set (by omega), if_pos (by omega), hdiv, ← hy, if_pos (by omega)])
    rw [fu_fu] at z1
    refine ⟨Z, ?_, z2⟩
    rw [sg_X0_eliminate_37, if_neg (nI_nlt (a := s) (b := c) (by omega) (by omega)), ld63 (by omega), Option.bind_some, ld63 (by omega), Option.bind_some, ldL_d (by omega) (by omega), Option.bind_some, Option.bind_some, ldL_d (by omega) (by omega), Option.bind_some, Option.bind_some, ldL_d (by omega) (by omega), Option.bind_some, Option.bind_some, ldL_d (by omega) (by omega), Option.bind_some, if_neg hv0, stL_n (by omega) (by omega), Option.bind_some, in1]
    exact z1
theorem el_25 {X : Nat → Rw} {x : Nat → Int} {s k : Nat} {v2 : Int64} (hM : Mm X s x) (hs : s ≤ 6) (hk : k + 1 < s) (h2 : v2.toInt = dd X k) : ∀ (d r : Nat) (L : Nat → List Int64) (o6 : Option Int32), r + d = s → k + 1 ≤ r → Rq s k (vv X k k) (L (63 + k)) → (∀ q, k + 1 ≤ q → q < r → Rq s (k + 1) (vv X (k + 1) q) (L (63 + q))) → (∀ q, r ≤ q → q < s → Rq s k (vv X k q) (L (63 + q))) →
    ∃ (L' : Nat → List Int64) (v2' : Int64) (o6' : Option Int32), mm_run G0 11 25 [some (.ref 54), some (.int (nI s)), some (.long v2), none, some (.int (nI k)), some (.int (nI r)), (o6.map Value.int)] [] (HP I A L F E) = mm_run G0 11 5 [some (.ref 54), some (.int (nI s)), some (.long v2'), none, some (.int (nI (k + 1))), some (.int (nI s)), (o6'.map Value.int)] [] (HP I A L' F E) ∧ v2'.toInt = dd X (k + 1) ∧ (∀ q, k + 1 ≤ q → q < s → Rq s (k + 1) (vv X (k + 1) q) (L' (63 + q))) ∧ (∀ a, (∀ q, q < 6 → a ≠ 63 + q) → L' a = L a) ∧ (∀ q, (L' (63 + q)).length = (L (63 + q)).length)
  | 0, r, L, o6, hr, hkr, hK, h1, h3 => by
    obtain rfl : r = s := by omega
    have k1 := hK.1
    refine ⟨L, (L (63 + k)).getD k 0, o6, ?_, hK.2.1 k (Nat.le_refl k) (by omega), h1, fun _ _ => rfl, fun _ => rfl⟩
    rw [sg_X0_eliminate_25, if_pos (n_le (a := r) (b := r) (by omega) (by omega)), ld63 (by omega), Option.bind_some, ldL_d (by omega) (by omega), Option.bind_some, in1]
  | d + 1, r, L, o6, hr, hkr, hK, h1, h3 => by
    obtain ⟨q1, q2, q3⟩ := h3 r (Nat.le_refl r) (by omega)
    obtain ⟨Z, y1, y2⟩ := el_37 (I := I) (A := A) (F := F) (E := E) hM hs hk (show k < r by omega) (show r < s by omega) h2 (s - k) (k + 1) L (by omega) (Nat.le_refl _) hK ⟨q1, fun j a b => by omega, fun j a b => q2 j (by omega) b, fun _ => q3, fun a => by omega⟩
    obtain ⟨L', v2', p6, z1, z2, z3, z4, z5⟩ := el_25 hM hs hk h2 d (r + 1) (fu L (63 + r) Z) (some (nI (s + 1))) (by omega) (by omega) (by rw [fu_n _ _ (by omega)]; exact hK) (fun q a b => by
      by_cases e : q = r
      · rw [e, fu_s]
        exact ⟨y2.1, fun j a b => y2.2.1 j a (by omega) b, y2.2.2.2.2 (by omega)⟩
      · rw [fu_n _ _ (by omega)]
        exact h1 q a (by omega)) (fun q a b => by
      rw [fu_n _ _ (by omega)]
      exact h3 q (by omega) b)
    refine ⟨L', v2', p6, ?_, z2, z3, fun a ha => by rw [z4 a ha, fu_n _ _ (ha r (by omega))], fun q => ?_⟩
    · rw [sg_X0_eliminate_25, if_neg (n_nle (a := r) (b := s) (by omega) (by omega)), in1]
      exact (y1 : _ = _).trans z1
    · rw [z5]
      by_cases e : q = r
      · rw [e, fu_s, y2.1, q1]
      · rw [fu_n _ _ (by omega)]
theorem el_5 {X : Nat → Rw} {x : Nat → Int} {s : Nat} (hM : Mm X s x) (hs : s ≤ 6) (hs1 : 1 ≤ s) : ∀ (d k : Nat) (L : Nat → List Int64) (v2 : Int64) (o5 o6 : Option Int32), k + d = s - 1 → v2.toInt = dd X k → (∀ q, k ≤ q → q < s → Rq s k (vv X k q) (L (63 + q))) →
    ∃ L' : Nat → List Int64, mm_run G0 11 5 [some (.ref 54), some (.int (nI s)), some (.long v2), none, some (.int (nI k)), (o5.map Value.int), (o6.map Value.int)] [] (HP I A L F E) = some (none, HP I A L' F E) ∧ Rq s (s - 1) (vv X (s - 1) (s - 1)) (L' (63 + (s - 1))) ∧ (∀ a, (∀ q, q < 6 → a ≠ 63 + q) → L' a = L a) ∧ (∀ q, (L' (63 + q)).length = (L (63 + q)).length)
  | 0, k, L, v2, o5, o6, hk, h2, hq => by
    obtain rfl : k = s - 1 := by omega
    refine ⟨L, ?_, hq (s - 1) (Nat.le_refl _) (by omega), fun _ _ => rfl, fun _ => rfl⟩
    rw [sg_X0_eliminate_5, show nI s - 1 = nI (s - 1) from by rw [i_eq, i_sub (by rw [nI_toInt (by omega)]; have : (1 : Int32).toInt = 1 := rfl; omega) (by rw [nI_toInt (by omega)]; have : (1 : Int32).toInt = 1 := rfl; omega), nI_toInt (by omega), nI_toInt (by omega)]; have : (1 : Int32).toInt = 1 := rfl; omega, if_pos (n_le (a := s - 1) (b := s - 1) (by omega) (by omega))]
  | d + 1, k, L, v2, o5, o6, hk, h2, hq => by
    have hd := (hM.d25 k (by omega) (by omega)).1
    have hv0 : ¬ lg_cmp v2 0 = 0 := fun z => by
      have z := (lg_cmp_eq _ _).mp z
      rw [z] at h2
      have : (0 : Int64).toInt = 0 := rfl
      omega
    obtain ⟨L1, w2, p6, y1, y2, y3, y4, y5⟩ := el_25 (I := I) (A := A) (F := F) (E := E) hM hs (show k + 1 < s by omega) h2 (s - (k + 1)) (k + 1) L o6 (by omega) (Nat.le_refl _) (hq k (Nat.le_refl k) (by omega)) (fun q a b => by omega) (fun q a b => hq q (by omega) b)
    obtain ⟨L2, z1, z2, z3, z4⟩ := el_5 hM hs hs1 d (k + 1) L1 w2 (some (nI s)) p6 (by omega) y2 y3
    refine ⟨L2, ?_, z2, fun a ha => by rw [z3 a ha, y4 a ha], fun q => by rw [z4, y5]⟩
    rw [sg_X0_eliminate_5, show nI s - 1 = nI (s - 1) from by rw [i_eq, i_sub (by rw [nI_toInt (by omega)]; have : (1 : Int32).toInt = 1 := rfl; omega) (by rw [nI_toInt (by omega)]; have : (1 : Int32).toInt = 1 := rfl; omega), nI_toInt (by omega), nI_toInt (by omega)]; have : (1 : Int32).toInt = 1 := rfl; omega, if_neg (n_nle (a := k) (b := s - 1) (by omega) (by omega)), if_neg hv0, in1]
    exact (y1 : _ = _).trans z1
end ELI
