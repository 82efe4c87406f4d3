/-! pure rows: ints by natural numbers, reads and writes of rows -/
theorem pow31 : (2 : Nat) ^ 31 = 2147483648 := rfl
theorem nI_nneg {n : Nat} (h : n < 2 ^ 31) : ¬ nI n < 0 := nI_pos h
theorem ldI_n {l : List Int32} {j : Nat} (h : j < 2 ^ 31) : ldI l (nI j) = l[j]? := by
  unfold ldI
  rw [if_neg (nI_nneg h), nI_clamp h]
theorem ldL_n {l : List Int64} {j : Nat} (h : j < 2 ^ 31) : ldL l (nI j) = l[j]? := by
  unfold ldL
  rw [if_neg (nI_nneg h), nI_clamp h]
theorem ldI_d {l : List Int32} {j : Nat} (h : j < l.length) (hl : l.length < 2 ^ 31) : ldI l (nI j) = some (l.getD j 0) := by
  rw [ldI_n (by omega), List.getD_eq_getElem?_getD, List.getElem?_eq_getElem h]
  rfl
theorem ldL_d {l : List Int64} {j : Nat} (h : j < l.length) (hl : l.length < 2 ^ 31) : ldL l (nI j) = some (l.getD j 0) := by
  rw [ldL_n (by omega), List.getD_eq_getElem?_getD, List.getElem?_eq_getElem h]
  rfl
theorem stI_n {l : List Int32} {j : Nat} {x : Int32} (h : j < l.length) (hl : l.length < 2 ^ 31) : stI l (nI j) x = some (l.set j x) := by
  unfold stI
  have hj : j < 2 ^ 31 := by omega
  rw [nI_clamp hj, if_pos ⟨nI_nneg hj, h⟩]
theorem stL_n {l : List Int64} {j : Nat} {x : Int64} (h : j < l.length) (hl : l.length < 2 ^ 31) : stL l (nI j) x = some (l.set j x) := by
  unfold stL
  have hj : j < 2 ^ 31 := by omega
  rw [nI_clamp hj, if_pos ⟨nI_nneg hj, h⟩]
theorem ldR_n {l : List (Option Nat)} {j : Nat} (h : j < 2 ^ 31) : ldR l (nI j) = (l[j]?).join := by
  unfold ldR
  rw [if_neg (nI_nneg h), nI_clamp h]
theorem getD_set {α : Type} {l : List α} {i j : Nat} {x d : α} (hi : i < l.length) : (l.set i x).getD j d = if j = i then x else l.getD j d := by
  rw [List.getD_eq_getElem?_getD, List.getElem?_set]
  by_cases e : i = j
  · subst e
    simp [hi]
  · rw [if_neg e, if_neg (fun q => e q.symm), List.getD_eq_getElem?_getD]
/-- a number within bounds is one of few -/
theorem ix_lt {x : Int32} {n : Nat} (hn : n < 2 ^ 31) (h0 : ¬ x < 0) (h : ¬ nI n ≤ x) : ∃ k, k < n ∧ x = nI k := by
  rcases pk_ix x hn with q | q | q
  · exact absurd q h0
  · exact absurd q h
  · exact q
theorem i_le {x y : Int32} : x ≤ y ↔ x.toInt ≤ y.toInt := Int32.le_iff_toInt_le
theorem i_lt {x y : Int32} : x < y ↔ x.toInt < y.toInt := Int32.lt_iff_toInt_lt
theorem i_eq {x y : Int32} : x = y ↔ x.toInt = y.toInt := Int32.toInt_inj.symm
theorem c4 {s : Int32} : (¬ s < 0 ∧ ¬ 3 < s) ↔ (¬ s < 0 ∧ ¬ 4 ≤ s) := by
  rw [i_lt, i_lt, i_le, show (0 : Int32).toInt = 0 from rfl, show (3 : Int32).toInt = 3 from rfl, show (4 : Int32).toInt = 4 from rfl]
  omega
theorem c6 {s : Int32} : (¬ s < 0 ∧ ¬ 5 < s) ↔ (¬ s < 0 ∧ ¬ 6 ≤ s) := by
  rw [i_lt, i_lt, i_le, show (0 : Int32).toInt = 0 from rfl, show (5 : Int32).toInt = 5 from rfl, show (6 : Int32).toInt = 6 from rfl]
  omega
theorem st4 {s : Int32} (h : ¬ s < 0 ∧ ¬ 4 ≤ s) : ∃ k, k < 4 ∧ s = nI k := ix_lt (n := 4) (by decide) h.1 h.2
theorem st6 {s : Int32} (h : ¬ s < 0 ∧ ¬ 6 ≤ s) : ∃ k, k < 6 ∧ s = nI k := ix_lt (n := 6) (by decide) h.1 h.2
theorem now_at {k : Nat} (h : k < 4) : ldR [some 14, some 16, some 18, some 20] (nI k) = some (14 + 2 * k) := by
  match k, h with
  | 0, _ => decide
  | 1, _ => decide
  | 2, _ => decide
  | 3, _ => decide
theorem tape_at {k : Nat} (h : k < 6) : ldR [some 72, some 74, some 76, some 78, some 80, some 82] (nI k) = some (72 + 2 * k) := by
  match k, h with
  | 0, _ => decide
  | 1, _ => decide
  | 2, _ => decide
  | 3, _ => decide
  | 4, _ => decide
  | 5, _ => decide
theorem sys_at {k : Nat} (h : k < 6) : ldR [some 63, some 64, some 65, some 66, some 67, some 68] (nI k) = some (63 + k) := by
  match k, h with
  | 0, _ => decide
  | 1, _ => decide
  | 2, _ => decide
  | 3, _ => decide
  | 4, _ => decide
  | 5, _ => decide
theorem mr_at {k : Nat} (h : k < 6) : ldR [some 96, some 97, some 98, some 99, some 100, some 101] (nI k) = some (96 + k) := by
  match k, h with
  | 0, _ => decide
  | 1, _ => decide
  | 2, _ => decide
  | 3, _ => decide
  | 4, _ => decide
  | 5, _ => decide
theorem isS_now {k : Nat} (h : k < 4) : isS (14 + 2 * k) := by unfold isS; omega
theorem isT_at {k : Nat} (h : k < 6) : isT (72 + 2 * k) := by unfold isT; omega
theorem isSy_at {k : Nat} (h : k < 6) : isSy (63 + k) := by unfold isSy; omega
theorem isMr_at {k : Nat} (h : k < 6) : isMr (96 + k) := by unfold isMr; omega
/-- places in the reference's row -/
theorem ix45 (k : Nat) : (45 : Int32) * nI k = nI (45 * k) := by rw [show (45 : Int32) = nI 45 from rfl, pk_mul]
theorem ixc (a c : Nat) : nI a + nI c = nI (a + c) := nI_add a c
theorem ix0 (k : Nat) : (45 : Int32) * nI k + 0 = nI (45 * k + 0) := by rw [ix45, show (0 : Int32) = nI 0 from rfl, nI_add]
theorem ix1 (k : Nat) : (45 : Int32) * nI k + 1 = nI (45 * k + 1) := by rw [ix45, show (1 : Int32) = nI 1 from rfl, nI_add]
theorem ix2 (k : Nat) : (45 : Int32) * nI k + 2 = nI (45 * k + 2) := by rw [ix45, show (2 : Int32) = nI 2 from rfl, nI_add]
theorem ix3 (k : Nat) : (45 : Int32) * nI k + 3 = nI (45 * k + 3) := by rw [ix45, show (3 : Int32) = nI 3 from rfl, nI_add]
theorem ix4 (k : Nat) : (45 : Int32) * nI k + 4 = nI (45 * k + 4) := by rw [ix45, show (4 : Int32) = nI 4 from rfl, nI_add]
theorem ixv (k p : Nat) : (45 : Int32) * nI k + 5 + nI p = nI (45 * k + 5 + p) := by rw [ix45, show (5 : Int32) = nI 5 from rfl, nI_add, nI_add]
theorem ixw (k p : Nat) : (45 : Int32) * nI k + nI p = nI (45 * k + p) := by rw [ix45, nI_add]
