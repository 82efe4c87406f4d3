/-! tapes: shift -/
theorem cpy_get {l0 l1 : List Int64} {sp dp n k : Nat} (hk : k < l1.length) : (mm_cpy 0 l0 l1 sp dp n).getD k 0 = if dp ≤ k ∧ k < dp + n then l0.getD (sp + (k - dp)) 0 else l1.getD k 0 := by
  unfold mm_cpy
  rw [List.getD_eq_getElem?_getD, List.getElem?_map, List.getElem?_range hk]
  rfl
theorem cpy_len {l0 l1 : List Int64} {sp dp n : Nat} : (mm_cpy 0 l0 l1 sp dp n).length = l1.length := by
  unfold mm_cpy
  rw [List.length_map, List.length_range]
theorem cpL_n {l0 l1 : List Int64} {sp dp n : Nat} (h0 : sp + n ≤ l0.length) (h1 : dp + n ≤ l1.length) (s0 : l0.length < 2 ^ 31) (s1 : l1.length < 2 ^ 31) : cpL l0 l1 (nI sp) (nI dp) (nI n) = some (mm_cpy 0 l0 l1 sp dp n) := by
  have e1 : sp < 2 ^ 31 := by omega
  have e2 : dp < 2 ^ 31 := by omega
  have e3 : n < 2 ^ 31 := by omega
  unfold cpL
  rw [nI_clamp e1, nI_clamp e2, nI_clamp e3, if_pos ⟨nI_nneg e1, nI_nneg e2, nI_nneg e3, h0, h1⟩]
theorem nI_mn (m j : Nat) : nI (m + j) - nI j = nI m := by
  rw [← nI_add]
  exact Int32.add_sub_cancel _ _
theorem sub_small {n : Nat} {p : Int32} (hn : n ≤ 60) (hp : 0 ≤ p.toInt) : (nI n - p).toInt = (n : Int) - p.toInt := by
  rw [Int32.toInt_sub, nI_toInt (by omega)]
  have := Int32.toInt_lt p
  exact Int.bmod_eq_of_le_mul_two (by omega) (by omega)
section SHF
variable {I : Nat → Int32} {A : Nat → List Int32} {F : Nat → Int64} {E : MH}
theorem sh_loop (v1 v2 v3 v4 : Int32) {n a b : Nat} (ha : a + n ≤ 360) (hb : b + n ≤ 360) (L0 : List Int64) : ∀ (d j : Nat) (L : Nat → List Int64) (o : Option Int32), j + d = n → (L 104).length = 360 → (∀ i, (L 104).getD i 0 = if (b ≤ a ∧ b ≤ i ∧ i < b + j) ∨ (a < b ∧ b + (n - j) ≤ i ∧ i < b + n) then L0.getD (a + (i - b)) 0 else L0.getD i 0) →
    ∃ X : List Int64, X.length = 360 ∧ (∀ i, X.getD i 0 = if b ≤ i ∧ i < b + n then L0.getD (a + (i - b)) 0 else L0.getD i 0) ∧ mm_run G0 190 119 [some (.ref 84), some (.int v1), some (.int v2), some (.int v3), some (.int v4), some (.int (nI n)), some (.int (nI a)), some (.int (nI b)), some (.int (nI j)), (o.map Value.int)] [] (HP I A L F E) = some (some (.int (nI n)), HP I A (fu L 104 X) F E) := by
  intro d
  induction d with
  | zero =>
    intro j L o hj hl hv
    refine ⟨L 104, hl, fun i => ?_, ?_⟩
    · rw [hv]
      by_cases e : b ≤ i ∧ i < b + n
      · rw [if_pos e, if_pos (by omega)]
      · rw [if_neg e, if_neg (by omega)]
    · rw [sg_X8_shift_119, if_pos (n_le (a := n) (b := j) (by omega) (by omega)), fu_id]
  | succ d ih =>
    intro j L o hj hl hv
    by_cases hd : b ≤ a
    · obtain ⟨X, x1, x2, x3⟩ := ih (j + 1) (fu L 104 ((L 104).set (b + j) ((L 104).getD (a + j) 0))) (some (nI j)) (by omega) (by rw [fu_s, List.length_set]; exact hl) (fun i => by
        rw [fu_s, getD_set (by omega)]
        by_cases e : i = b + j
        · subst e
          rw [if_pos rfl, if_pos (by omega), hv, if_neg (by omega), show a + (b + j - b) = a + j by omega]
        · rw [if_neg e, hv]
          by_cases e2 : b ≤ i ∧ i < b + j
          · rw [if_pos (by omega), if_pos (by omega)]
          · rw [if_neg (by omega), if_neg (by omega)])
      refine ⟨X, x1, x2, ?_⟩
      rw [sg_X8_shift_119, if_neg (n_nle (a := j) (b := n) (by omega) (by omega)), if_pos (n_le (a := b) (b := a) (by omega) (by omega)), nI_add, ldL_d (by omega) (by omega), Option.bind_some, nI_add, stL_n (by omega) (by omega), Option.bind_some, in1]
      rw [fu_fu] at x3
      exact x3
    · obtain ⟨m, rfl⟩ : ∃ m, n = m + 1 + j := ⟨n - 1 - j, by omega⟩
      have en : nI (m + 1 + j) - 1 - nI j = nI m := by
        rw [show m + 1 + j = m + j + 1 by omega, show (1 : Int32) = nI 1 from rfl, nI_mn, nI_mn]
      obtain ⟨X, x1, x2, x3⟩ := ih (j + 1) (fu L 104 ((L 104).set (b + m) ((L 104).getD (a + m) 0))) (some (nI m)) (by omega) (by rw [fu_s, List.length_set]; exact hl) (fun i => by
        rw [fu_s, getD_set (by omega)]
        by_cases e : i = b + m
        · subst e
          rw [if_pos rfl, if_pos (by omega), hv, if_neg (by omega), show a + (b + m - b) = a + m by omega]
        · rw [if_neg e, hv]
          by_cases e2 : b + (m + 1) ≤ i ∧ i < b + (m + 1 + j)
          · rw [if_pos (by omega), if_pos (by omega)]
          · rw [if_neg (by omega), if_neg (by omega)])
      refine ⟨X, x1, x2, ?_⟩
      rw [sg_X8_shift_119, if_neg (n_nle (a := j) (b := m + 1 + j) (by omega) (by omega)), if_neg (n_nle (a := a) (b := b) (by omega) (by omega)), en, nI_add, ldL_d (by omega) (by omega), Option.bind_some, nI_add, stL_n (by omega) (by omega), Option.bind_some, in1]
      rw [fu_fu] at x3
      exact x3
end SHF
