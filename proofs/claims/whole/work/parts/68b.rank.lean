/-! the class ranks what is reached -/
def Rk (m level l v : Nat) (o : Nat → Nat) (X Z : List Int32) : Prop :=
  (∀ i, i < v → o i < l ∧ o i ≠ level ∧ m.testBit (o i) = true ∧ X.getD i 0 = nI (o i)) ∧ (∀ i j, i < v → j < v → o i = o j → i = j) ∧ (∀ j, j < l → m.testBit j = true → j ≠ level → ∃ i, i < v ∧ o i = j ∧ Z.getD j 0 = nI i) ∧ v ≤ l ∧ (level < l → v + 1 ≤ l)
section RNK
variable {I : Nat → Int32} {L : Nat → List Int64} {F : Nat → Int64} {E : MH}
theorem rk_4 {lim m level : Nat} {W : List Int32} (hlim : lim ≤ 6) (hlv : level < lim) (h1 : I 5401 = nI lim) (hm : Bm lim m W) (hml : m.testBit level = true) : ∀ (d l v : Nat) (o : Nat → Nat) (A : Nat → List Int32), l + d = lim → A 58 = W → (A 60).length = 6 → (A 61).length = 6 → Rk m level l v o (A 60) (A 61) →
    ∃ (A' : Nat → List Int32) (s : Nat) (o' : Nat → Nat), mm_run G0 9 4 [some (.ref 54), some (.int (nI level)), some (.int (nI v)), some (.int (nI l))] [] (HP I A L F E) = some (some (.int (nI s)), HP I A' L F E) ∧ 1 ≤ s ∧ s ≤ lim ∧ o' (s - 1) = level ∧ (∀ i, i < s → o' i < lim ∧ m.testBit (o' i) = true ∧ (A' 60).getD i 0 = nI (o' i)) ∧ (∀ i j, i < s → j < s → o' i = o' j → i = j) ∧ (∀ j, j < lim → m.testBit j = true → ∃ i, i < s ∧ o' i = j ∧ (A' 61).getD j 0 = nI i) ∧ (∀ x, x ≠ 60 → x ≠ 61 → A' x = A x) ∧ (A' 60).length = 6 ∧ (A' 61).length = 6
  | 0, l, v, o, A, hl, h58, l60, l61, ⟨r1, r2, r3, r4, r5⟩ => by
    obtain rfl : l = lim := by omega
    have r6 := r5 hlv
    refine ⟨fu (fu A 60 ((A 60).set v (nI level))) 61 ((A 61).set level (nI v)), v + 1, fu o v level, ?_, by omega, by omega, ?_, fun i hi => ?_, fun i j hi hj e => ?_, fun j hj hb => ?_, fun x q1 q2 => by rw [fu_n _ _ q2, fu_n _ _ q1], by rw [fu_n _ _ (by decide), fu_s, List.length_set]; exact l60, by rw [fu_s, List.length_set]; exact l61⟩
    · rw [sg_X0_rankReached_4, h1, if_pos (n_le (a := l) (b := l) (by omega) (by omega)), stI_n (by omega) (by omega), Option.bind_some, stI_n (by omega) (by omega), Option.bind_some, in1]
    · rw [show v + 1 - 1 = v by omega, fu_s]
    · rw [show (fu (fu A 60 ((A 60).set v (nI level))) 61 ((A 61).set level (nI v))) 60 = (A 60).set v (nI level) by rw [fu_n _ _ (show (60 : Nat) ≠ 61 by decide), fu_s], getD_set (by omega)]
      by_cases e : i = v
      · rw [if_pos e, e, fu_s]
        exact ⟨hlv, hml, rfl⟩
      · rw [if_neg e, fu_n _ _ e]
        obtain ⟨q1, q2, q3, q4⟩ := r1 i (by omega)
        exact ⟨q1, q3, q4⟩
    · by_cases e1 : i = v
      · by_cases e2 : j = v
        · omega
        · rw [e1, fu_s, fu_n _ _ e2] at e
          exact absurd e.symm (r1 j (by omega)).2.1
      · by_cases e2 : j = v
        · rw [e2, fu_s, fu_n _ _ e1] at e
          exact absurd e (r1 i (by omega)).2.1
        · rw [fu_n _ _ e1, fu_n _ _ e2] at e
          exact r2 i j (by omega) (by omega) e
    · rw [show (fu (fu A 60 ((A 60).set v (nI level))) 61 ((A 61).set level (nI v))) 61 = (A 61).set level (nI v) by rw [fu_s], getD_set (by omega)]
      by_cases e : j = level
      · exact ⟨v, by omega, by rw [fu_s, e], by rw [if_pos e]⟩
      · obtain ⟨i, q1, q2, q3⟩ := r3 j hj hb e
        exact ⟨i, by omega, by rw [fu_n _ _ (by omega), q2], by rw [if_neg e, q3]⟩
  | d + 1, l, v, o, A, hl, h58, l60, l61, ⟨r1, r2, r3, r4, r5⟩ => by
    have l58 := hm.1
    have h0 : mm_run G0 9 4 [some (.ref 54), some (.int (nI level)), some (.int (nI v)), some (.int (nI l))] [] (HP I A L F E) = if m.testBit l = true ∧ l ≠ level then mm_run G0 9 4 [some (.ref 54), some (.int (nI level)), some (.int (nI (v + 1))), some (.int (nI (l + 1)))] [] (HP I (fu (fu A 60 ((A 60).set v (nI l))) 61 ((A 61).set l (nI v))) L F E) else mm_run G0 9 4 [some (.ref 54), some (.int (nI level)), some (.int (nI v)), some (.int (nI (l + 1)))] [] (HP I A L F E) := by
      rw [sg_X0_rankReached_4, h1, if_neg (n_nle (a := l) (b := lim) (by omega) (by omega)), h58, ldI_d (by omega) (by omega), Option.bind_some, hm.2 l (by omega), in1, in1]
      by_cases e : m.testBit l = true
      · rw [if_pos e, if_neg (by decide)]
        by_cases e2 : l = level
        · rw [if_neg (show ¬ nI l ≠ nI level from fun z => z (by rw [e2])), if_neg (fun q => q.2 e2)]
        · rw [if_pos (nI_ne (a := l) (b := level) (by omega) (by omega) e2), stI_n (by omega) (by omega), Option.bind_some, stI_n (by omega) (by omega), Option.bind_some, if_pos ⟨e, e2⟩]
      · rw [if_neg e, if_pos rfl, if_neg (fun q => e q.1)]
    rw [h0]
    by_cases e : m.testBit l = true ∧ l ≠ level
    · rw [if_pos e]
      obtain ⟨A', s, o', x1, x2, x3, x4, x5, x6, x7, x8, x9⟩ := rk_4 hlim hlv h1 hm hml d (l + 1) (v + 1) (fu o v l) (fu (fu A 60 ((A 60).set v (nI l))) 61 ((A 61).set l (nI v))) (by omega) (by rw [fu_n _ _ (by decide), fu_n _ _ (by decide)]; exact h58) (by rw [fu_n _ _ (by decide), fu_s, List.length_set]; exact l60) (by rw [fu_s, List.length_set]; exact l61) (by
        rw [fu_n _ _ (show (60 : Nat) ≠ 61 by decide), fu_s, fu_s]
        refine ⟨fun i hi => ?_, fun i j hi hj e' => ?_, fun j hj hb hne => ?_, by omega, fun q => by have := r5; omega⟩
        · rw [getD_set (by omega)]
          by_cases e1 : i = v
          · rw [if_pos e1, e1, fu_s]
            exact ⟨by omega, e.2, e.1, rfl⟩
          · rw [if_neg e1, fu_n _ _ e1]
            obtain ⟨q1, q2, q3, q4⟩ := r1 i (by omega)
            exact ⟨by omega, q2, q3, q4⟩
        · by_cases e1 : i = v
          · by_cases e2 : j = v
            · omega
            · rw [e1, fu_s, fu_n _ _ e2] at e'
              have := (r1 j (by omega)).1
              omega
          · by_cases e2 : j = v
            · rw [e2, fu_s, fu_n _ _ e1] at e'
              have := (r1 i (by omega)).1
              omega
            · rw [fu_n _ _ e1, fu_n _ _ e2] at e'
              exact r2 i j (by omega) (by omega) e'
        · rw [getD_set (by omega)]
          by_cases e1 : j = l
          · exact ⟨v, by omega, by rw [fu_s, e1], by rw [if_pos e1]⟩
          · obtain ⟨i, q1, q2, q3⟩ := r3 j (by omega) hb hne
            exact ⟨i, by omega, by rw [fu_n _ _ (by omega), q2], by rw [if_neg e1, q3]⟩)
      exact ⟨A', s, o', x1, x2, x3, x4, x5, x6, x7, fun x q1 q2 => by rw [x8 x q1 q2, fu_n _ _ q2, fu_n _ _ q1], x9⟩
    · rw [if_neg e]
      exact rk_4 hlim hlv h1 hm hml d (l + 1) v o A (by omega) h58 l60 l61 ⟨fun i hi => by
        obtain ⟨q1, q2, q3, q4⟩ := r1 i hi
        exact ⟨by omega, q2, q3, q4⟩, r2, fun j hj hb hne => r3 j (by
          have : j ≠ l := fun z => e (by rw [← z]; exact ⟨hb, hne⟩)
          omega) hb hne, by omega, fun q => by
          by_cases e2 : level < l
          · have := r5 e2
            omega
          · omega⟩
end RNK
theorem yf_ge {wt to : Nat → Nat} {lim : Nat} {f : Rw} (c : Nat) : ∀ k, f c - (sw wt k : Int) ≤ yf wt to lim f k c
  | 0 => by
    simp only [yf, sw]
    omega
  | k + 1 => by
    have h := yf_ge (wt := wt) (to := to) (lim := lim) (f := f) c k
    rw [yf, sw]
    split
    · by_cases e : c = to k
      · rw [e, fu_s]
        rw [e] at h
        omega
      · rw [fu_n _ _ e]
        omega
    · omega
