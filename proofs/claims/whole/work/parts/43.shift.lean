/-! tapes: shift -/
theorem cpy_get {l0 l1 : List Int64} {sp dp n k : Nat} (hk : k < l1.length) : (mm_cpy 0 l0 l1 sp dp n).getD k 0 = if dp ≤ k ∧ k < dp + n then l0.getD (sp + (k - dp)) 0 else l1.getD k 0 := by
  unfold mm_cpy
  rw [List.getD_eq_getElem?_getD, List.getElem?_map, List.getElem?_range hk]
  rfl
theorem cpy_len {l0 l1 : List Int64} {sp dp n : Nat} : (mm_cpy 0 l0 l1 sp dp n).length = l1.length := by
  unfold mm_cpy
  rw [List.length_map, List.length_range]
theorem cpL_n {l0 l1 : List Int64} {sp dp n : Nat} (h0 : sp + n ≤ l0.length) (h1 : dp + n ≤ l1.length) (s0 : l0.length < 2 ^ 31) (s1 : l1.length < 2 ^ 31) : cpL l0 l1 (nI sp) (nI dp) (nI n) = some (mm_cpy 0 l0 l1 sp dp n) := by
  have e1 : sp < 2 ^ 31 := by omega
  have e2 : dp < 2 ^ 31 := by omega
  have e3 : n < 2 ^ 31 := by omega
  unfold cpL
  rw [nI_clamp e1, nI_clamp e2, nI_clamp e3, if_pos ⟨nI_nneg e1, nI_nneg e2, nI_nneg e3, h0, h1⟩]
theorem nI_mn (m j : Nat) : nI (m + j) - nI j = nI m := by
  rw [← nI_add]
  exact Int32.add_sub_cancel _ _
theorem sub_small {n : Nat} {p : Int32} (hn : n ≤ 60) (hp : 0 ≤ p.toInt) : (nI n - p).toInt = (n : Int) - p.toInt := by
  rw [Int32.toInt_sub, nI_toInt (by omega)]
  have := Int32.toInt_lt p
  exact Int.bmod_eq_of_le_mul_two (by omega) (by omega)
section SHF
variable {I : Nat → Int32} {A : Nat → List Int32} {F : Nat → Int64} {E : MH}
theorem sh_loop (v1 v2 v3 v4 : Int32) {n a b : Nat} (ha : a + n ≤ 360) (hb : b + n ≤ 360) (L0 : List Int64) : ∀ (d j : Nat) (L : Nat → List Int64) (o : Option Int32), j + d = n → (L 104).length = 360 → (∀ i, (L 104).getD i 0 = if (b ≤ a ∧ b ≤ i ∧ i < b + j) ∨ (a < b ∧ b + (n - j) ≤ i ∧ i < b + n) then L0.getD (a + (i - b)) 0 else L0.getD i 0) →
    ∃ X : List Int64, X.length = 360 ∧ (∀ i, X.getD i 0 = if b ≤ i ∧ i < b + n then L0.getD (a + (i - b)) 0 else L0.getD i 0) ∧ mm_run G0 190 119 [some (.ref 84), some (.int v1), some (.int v2), some (.int v3), some (.int v4), some (.int (nI n)), some (.int (nI a)), some (.int (nI b)), some (.int (nI j)), (o.map Value.int)] [] (HP I A L F E) = some (some (.int (nI n)), HP I A (fu L 104 X) F E) := by
  intro d
  induction d with
  | zero =>
    intro j L o hj hl hv
    refine ⟨L 104, hl, fun i => ?_, ?_⟩
    · rw [hv]
      by_cases e : b ≤ i ∧ i < b + n
      · rw [if_pos e, if_pos (by omega)]
      · rw [if_neg e, if_neg (by omega)]
    · rw [sg_X8_shift_119, if_pos (n_le (a := n) (b := j) (by omega) (by omega)), fu_id]
  | succ d ih =>
    intro j L o hj hl hv
    by_cases hd : b ≤ a
    · obtain ⟨X, x1, x2, x3⟩ := ih (j + 1) (fu L 104 ((L 104).set (b + j) ((L 104).getD (a + j) 0))) (some (nI j)) (by omega) (by rw [fu_s, List.length_set]; exact hl) (fun i => by
        rw [fu_s, getD_set (by omega)]
        by_cases e : i = b + j
        · subst e
          rw [if_pos rfl, if_pos (by omega), hv, if_neg (by omega), show a + (b + j - b) = a + j by omega]
        · rw [if_neg e, hv]
          by_cases e2 : b ≤ i ∧ i < b + j
          · rw [if_pos (by omega), if_pos (by omega)]
          · rw [if_neg (by omega), if_neg (by omega)])
      refine ⟨X, x1, x2, ?_⟩
      rw [sg_X8_shift_119, if_neg (n_nle (a := j) (b := n) (by omega) (by omega)), if_pos (n_le (a := b) (b := a) (by omega) (by omega)), nI_add, ldL_d (by omega) (by omega), Option.bind_some, nI_add, stL_n (by omega) (by omega), Option.bind_some, in1]
      rw [fu_fu] at x3
      exact x3
    · obtain ⟨m, rfl⟩ : ∃ m, n = m + 1 + j := ⟨n - 1 - j, by omega⟩
      have en : nI (m + 1 + j) - 1 - nI j = nI m := by
        rw [show m + 1 + j = m + j + 1 by omega, show (1 : Int32) = nI 1 from rfl, nI_mn, nI_mn]
      obtain ⟨X, x1, x2, x3⟩ := ih (j + 1) (fu L 104 ((L 104).set (b + m) ((L 104).getD (a + m) 0))) (some (nI m)) (by omega) (by rw [fu_s, List.length_set]; exact hl) (fun i => by
        rw [fu_s, getD_set (by omega)]
        by_cases e : i = b + m
        · subst e
          rw [if_pos rfl, if_pos (by omega), hv, if_neg (by omega), show a + (b + m - b) = a + m by omega]
        · rw [if_neg e, hv]
          by_cases e2 : b + (m + 1) ≤ i ∧ i < b + (m + 1 + j)
          · rw [if_pos (by omega), if_pos (by omega)]
          · rw [if_neg (by omega), if_neg (by omega)])
      refine ⟨X, x1, x2, ?_⟩
      rw [sg_X8_shift_119, if_neg (n_nle (a := j) (b := m + 1 + j) (by omega) (by omega)), if_neg (n_nle (a := a) (b := b) (by omega) (by omega)), en, nI_add, ldL_d (by omega) (by omega), Option.bind_some, nI_add, stL_n (by omega) (by omega), Option.bind_some, in1]
      rw [fu_fu] at x3
      exact x3
end SHF
theorem to_n {x : Int32} {n : Nat} (h0 : 0 ≤ x.toInt) (h : x.toInt ≤ n) (hn : n < 2 ^ 31) : ∃ k, k ≤ n ∧ x = nI k :=
  ⟨x.toInt.toNat, by omega, i_eq.mpr (by rw [nI_toInt (by omega)]; omega)⟩
theorem pr_shift (p1 p2 p3 p4 p5 : Int32) : Pr tyI 95 190 [.int p1, .int p2, .int p3, .int p4, .int p5] := by
  intro I A L F E hS
  by_cases h1 : ¬ p1 < 0 ∧ ¬ 6 ≤ p1
  · by_cases h3 : ¬ p3 < 0 ∧ ¬ 6 ≤ p3
    · obtain ⟨t, ht, rfl⟩ := st6 h1
      obtain ⟨u, hu, rfl⟩ := st6 h3
      obtain ⟨a1, a2, n, a3, a4, a5, a6, a7⟩ := hS.2.2.2.2.2 t ht
      obtain ⟨b1, b2, m, b3, b4, b5, b6, b7⟩ := hS.2.2.2.2.2 u hu
      have hl := hS.1.tap ht
      have hlu := hS.1.tap hu
      have hl104 := hS.1.l (a := 104) (n := 360) (by decide)
      by_cases s1 : gw A 102 t = -1
      · refine ⟨.int (-11), I, A, L, F, E, I, A, L, F, E, ⟨_, rfl⟩, ?_, ?_, hS, Nat.le_add_right _ _⟩
        · rw [sg_X7_shift_0, if_pos h1, if_pos h3, tape_at ht, Option.bind_some, tape_at hu, Option.bind_some, a1, if_pos s1]
        · rw [sg_X8_shift_0, if_pos (c6.mpr h1), if_pos (c6.mpr h3), hS.t2 ht, Option.bind_some, s1, if_pos (by decide)]
      · have q1 := so5 a2 s1
        have s1' : ¬ gw A 102 t < 0 := by rcases q1 with q | q | q | q | q <;> rw [q] <;> decide
        by_cases s2 : gw A 102 u = -1
        · refine ⟨.int (-11), I, A, L, F, E, I, A, L, F, E, ⟨_, rfl⟩, ?_, ?_, hS, Nat.le_add_right _ _⟩
          · rw [sg_X7_shift_0, if_pos h1, if_pos h3, tape_at ht, Option.bind_some, tape_at hu, Option.bind_some, a1, if_neg s1, b1, if_neg (fun q => q s2)]
          · rw [sg_X8_shift_0, if_pos (c6.mpr h1), if_pos (c6.mpr h3), hS.t2 ht, Option.bind_some, if_neg s1', hS.t2 hu, Option.bind_some, s2, if_neg (by decide)]
        · have q2 := so5 b2 s2
          have s2' : 0 ≤ gw A 102 u := by rcases q2 with q | q | q | q | q <;> rw [q] <;> decide
          by_cases s3 : gw A 102 t = gw A 102 u
          · have e0 := ii0
            have en : (nI n).toInt = n := nI_toInt (by omega)
            have em : (nI m).toInt = m := nI_toInt (by omega)
            by_cases G : 0 ≤ p2.toInt ∧ 0 ≤ p4.toInt ∧ 0 ≤ p5.toInt ∧ p2.toInt + p5.toInt ≤ n ∧ p4.toInt + p5.toInt ≤ m
            · obtain ⟨g1, g2, g3, g4, g5⟩ := G
              obtain ⟨k, hk, rfl⟩ := to_n (x := p5) (n := 60) g3 (by omega) (by omega)
              obtain ⟨a, ha, rfl⟩ := to_n (x := p2) (n := 60) g1 (by omega) (by omega)
              obtain ⟨b, hb, rfl⟩ := to_n (x := p4) (n := 60) g2 (by omega) (by omega)
              rw [nI_toInt (by omega), nI_toInt (by omega)] at g4 g5
              have hcp : cpL (L (72 + 2 * t + 1)) (L (72 + 2 * u + 1)) (nI a) (nI b) (nI k) = some (mm_cpy 0 (L (73 + 2 * t)) (L (73 + 2 * u)) a b k) := by
                rw [show 72 + 2 * t + 1 = 73 + 2 * t by omega, show 72 + 2 * u + 1 = 73 + 2 * u by omega]
                exact cpL_n (by omega) (by omega) (by omega) (by omega)
              obtain ⟨X, x1, x2, x3⟩ := sh_loop (I := I) (A := A) (F := F) (E := E) (nI t) (nI a) (nI u) (nI b) (n := k) (a := 60 * t + a) (b := 60 * u + b) (by omega) (by omega) (L 104) k 0 (fu L (73 + 2 * u) (mm_cpy 0 (L (73 + 2 * t)) (L (73 + 2 * u)) a b k)) none (by omega) (by rw [fu_n _ _ (by omega)]; exact hl104) (fun i => by rw [fu_n _ _ (by omega), if_neg (by omega)])
              refine ⟨.int (nI k), I, A, (fu L (73 + 2 * u) (mm_cpy 0 (L (73 + 2 * t)) (L (73 + 2 * u)) a b k)), F, E, I, A, fu (fu L (73 + 2 * u) (mm_cpy 0 (L (73 + 2 * t)) (L (73 + 2 * u)) a b k)) 104 X, F, E, ⟨_, rfl⟩, ?_, ?_, ?_, Nat.le_add_right _ _⟩
              · rw [sg_X7_shift_0, if_pos h1, if_pos h3, tape_at ht, Option.bind_some, tape_at hu, Option.bind_some, a1, if_neg s1, b1, if_pos s2, if_pos s3, if_neg (nI_nneg (n := a) (by omega)), if_neg (nI_nneg (n := k) (by omega)), a4, if_neg (nI_nlt (a := n) (b := k) (by omega) (by omega)), pk_sub (a := n) (b := k) (by omega), if_neg (nI_nlt (a := n - k) (b := a) (by omega) (by omega)), if_neg (nI_nneg (n := b) (by omega)), if_neg (nI_nneg (n := k) (by omega)), b4, if_neg (nI_nlt (a := m) (b := k) (by omega) (by omega)), pk_sub (a := m) (b := k) (by omega), if_neg (nI_nlt (a := m - k) (b := b) (by omega) (by omega)), hcp, Option.bind_some, show 72 + 2 * u + 1 = 73 + 2 * u by omega]
              · rw [sg_X8_shift_0, if_pos (c6.mpr h1), if_pos (c6.mpr h3), hS.t2 ht, Option.bind_some, if_neg s1', hS.t2 hu, Option.bind_some, if_pos s2', Option.bind_some, Option.bind_some, if_pos s3, if_neg (nI_nneg (n := k) (by omega)), if_neg (nI_nneg (n := a) (by omega)), if_neg (nI_nneg (n := b) (by omega)), hS.t3 ht, Option.bind_some, a5, pk_sub (a := n) (b := k) (by omega), if_neg (nI_nlt (a := n - k) (b := a) (by omega) (by omega)), hS.t3 hu, Option.bind_some, b5, pk_sub (a := m) (b := k) (by omega), if_pos (n_le (a := b) (b := m - k) (by omega) (by omega)), ixt, ixt]
                exact x3
              · refine sim_tape hu hS ((hS.1.fuL (a := 73 + 2 * u) cpy_len).fuL (a := 104) (by rw [x1, fu_n _ _ (by omega)]; omega)) (fun _ _ => rfl) (fun _ _ _ => rfl) (fun _ _ => rfl) (fun _ _ => rfl) (fun a q1 q2 => by rw [fu_n _ _ q2, fu_n _ _ q1]) (fun q j' hq hqt hj' => by rw [fu_s, x2, if_neg (by omega)]) ?_
                refine ⟨b1, b2, m, b3, b4, b5, b6, fun i hi => ?_⟩
                rw [fu_n _ _ (by omega), fu_s, fu_s, x2, cpy_get (by omega)]
                by_cases e : b ≤ i ∧ i < b + k
                · rw [if_pos e, if_pos (by omega), a7 _ (by omega)]
                  congr 1
                  omega
                · rw [if_neg e, if_neg (by omega)]
                  exact b7 i hi
            · refine ⟨.int (-13), I, A, L, F, E, I, A, L, F, E, ⟨_, rfl⟩, ?_, ?_, hS, Nat.le_add_right _ _⟩
              · rw [sg_X7_shift_0, if_pos h1, if_pos h3, tape_at ht, Option.bind_some, tape_at hu, Option.bind_some, a1, if_neg s1, b1, if_pos s2, if_pos s3, a4, b4]
                split
                · rfl
                rename_i k1
                split
                · rfl
                rename_i k2
                split
                · rfl
                rename_i k3
                split
                · rfl
                rename_i k4
                split
                · rfl
                rename_i k5
                split
                · rfl
                rename_i k6
                split
                · rfl
                rename_i k7
                exfalso
                rw [i_lt] at k1 k2 k3 k4 k5 k6 k7
                rw [sub_small a3 (by omega)] at k4
                rw [sub_small b3 (by omega)] at k7
                omega
              · rw [sg_X8_shift_0, if_pos (c6.mpr h1), if_pos (c6.mpr h3), hS.t2 ht, Option.bind_some, if_neg s1', hS.t2 hu, Option.bind_some, if_pos s2', Option.bind_some, Option.bind_some, if_pos s3, hS.t3 ht, Option.bind_some, hS.t3 hu, Option.bind_some, a5, b5]
                split
                · rfl
                rename_i k1
                split
                · rfl
                rename_i k2
                split
                · rfl
                rename_i k3
                split
                · rfl
                rename_i k4
                split
                · rename_i k5
                  exfalso
                  rw [i_lt] at k1 k2 k3 k4
                  rw [i_le] at k5
                  rw [sub_small a3 (by omega)] at k4
                  rw [sub_small b3 (by omega)] at k5
                  omega
                · rfl
          · refine ⟨.int (-12), I, A, L, F, E, I, A, L, F, E, ⟨_, rfl⟩, ?_, ?_, hS, Nat.le_add_right _ _⟩
            · rw [sg_X7_shift_0, if_pos h1, if_pos h3, tape_at ht, Option.bind_some, tape_at hu, Option.bind_some, a1, if_neg s1, b1, if_pos s2, if_neg s3]
            · rw [sg_X8_shift_0, if_pos (c6.mpr h1), if_pos (c6.mpr h3), hS.t2 ht, Option.bind_some, if_neg s1', hS.t2 hu, Option.bind_some, if_pos s2', Option.bind_some, Option.bind_some, if_neg s3]
    · refine ⟨.int (-1), I, A, L, F, E, I, A, L, F, E, ⟨_, rfl⟩, ?_, ?_, hS, Nat.le_add_right _ _⟩
      · rw [sg_X7_shift_0, if_pos h1, if_neg h3]
      · rw [sg_X8_shift_0, if_pos (c6.mpr h1), if_neg (fun q => h3 (c6.mp q))]
  · refine ⟨.int (-1), I, A, L, F, E, I, A, L, F, E, ⟨_, rfl⟩, ?_, ?_, hS, Nat.le_add_right _ _⟩
    · rw [sg_X7_shift_0, if_neg h1]
    · rw [sg_X8_shift_0, if_neg (fun q => h1 (c6.mp q))]
