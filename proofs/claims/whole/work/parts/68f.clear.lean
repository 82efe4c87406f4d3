/-! the reference clears column after column -/
/-- what is left at the row's own place is above nothing -/
theorem Gr.zr {Y : Nat → Rw} {n c r : Nat} {x : Nat → Int} {v u : Rw} (g : Gr Y n c r v) (gu : Gr Y n c c u) (h : Mm Y n x) (hc : c < n) (h6 : n ≤ 6) (hr : r < n) (hne : r ≠ c) : 0 < u c * v r - v c * u r := by
  obtain ⟨pv, w, s, t, hs, ht, e1, w1, w2⟩ := g.prop h (by omega) (by omega) hr h6
  obtain ⟨pu, w', s', t', hs', ht', e1', -, w2'⟩ := gu.prop h (by omega) (by omega) hc h6
  by_cases e : r < c
  · rw [gu.ze r e hne]
    have := Int.mul_pos pu pv
    omega
  · have ew := w2 (by omega)
    have ew' := w2' (Nat.le_refl c)
    have a1 := e1 r
    have a2 := e1 c
    have b1 := e1' c
    have b2 := e1' r
    rw [ew] at a1 a2
    rw [ew'] at b1 b2
    have hx := exa (X := Y) (k := c) (by omega) (h.ne (k := c + 1) (by omega) (by omega)) r r
    have hd := (h.d25 c (by omega) (by omega)).1
    have hv := (h.all (c + 1) (by omega) (by omega)).dg h.wx (r := r) (by omega) hr
    have p1 := Int.mul_pos (Int.mul_pos ht ht') (Int.mul_pos hd hv)
    have e2 : (s * s') * (u c * v r - v c * u r) = (t * t') * (dd Y c * vv Y (c + 1) r r) := by
      rw [hx, show dd Y (c + 1) = vv Y c c c from rfl]
      have q1 : (s' * u c) * (s * v r) = (t' * vv Y c c c) * (t * vv Y c r r) := by rw [a1, b1]
      have q2 : (s * v c) * (s' * u r) = (t * vv Y c r c) * (t' * vv Y c c r) := by rw [a2, b2]
      grind
    rw [← e2] at p1
    exact Int.pos_of_mul_pos_right p1 (Int.mul_pos hs hs')
/-- columns of a list as columns of a row -/
def cl (n j : Nat) : Nat := if j = n then 7 else j
theorem cl_d {n j : Nat} (h : j ≤ n) : cl n j < n ∨ cl n j = 7 := by
  unfold cl
  split
  · exact .inr rfl
  · exact .inl (by omega)
def Rcl (n : Nat) (v : Rw) (X : List Int64) : Prop := X.length = 7 ∧ ∀ j, j ≤ n → (X.getD j 0).toInt = v (cl n j)
theorem Rcl.of {n : Nat} {v : Rw} {X : List Int64} (h : Rq n 0 v X) : Rcl n v X := by
  refine ⟨h.1, fun j hj => ?_⟩
  unfold cl
  by_cases e : j = n
  · rw [if_pos e, e]; exact h.2.2
  · rw [if_neg e]; exact h.2.1 j (Nat.zero_le j) (by omega)
section CLR
variable {I : Nat → Int32} {A : Nat → List Int32} {F : Nat → Int64} {E : MH}
/-- a row exchanged with itself -/
theorem sw_3 {n c : Nat} {L : Nat → List Int64} (hn : n ≤ 6) (hc : c < n) (hl : (L (96 + c)).length = 7) : ∀ (d j : Nat) (o5 : Option Int64), j + d = n + 1 → mm_run G0 161 3 [some (.ref 84), some (.int (nI c)), some (.int (nI c)), some (.int (nI n)), some (.int (nI j)), (o5.map Value.long), none] [] (HP I A L F E) = some (none, HP I A L F E)
  | 0, j, o5, hj => by
    obtain rfl : j = n + 1 := by omega
    rw [sg_X8_swaps_3, if_pos (nI_lt (a := n) (b := n + 1) (by omega) (by omega))]
  | d + 1, j, o5, hj => by
    have e : (L (96 + c)).set j ((L (96 + c)).getD j 0) = L (96 + c) := by
      apply List.ext_getElem (by rw [List.length_set])
      intro i q1 q2
      rw [List.getElem_set]
      split
      · rename_i h
        subst h
        rw [List.getD_eq_getElem?_getD, List.getElem?_eq_getElem q2]
        rfl
      · rfl
    have ih := sw_3 hn hc hl d (j + 1) (some ((L (96 + c)).getD j 0)) (by omega)
    rw [sg_X8_swaps_3, if_neg (nI_nlt (a := n) (b := j) (by omega) (by omega)), ld96 (by omega), Option.bind_some, ldL_d (by omega) (by omega), Option.bind_some, Option.bind_some, Option.bind_some, ldL_d (by omega) (by omega), Option.bind_some, stL_n (by omega) (by omega), Option.bind_some, e, Option.bind_some, fu_id, stL_n (by omega) (by omega), Option.bind_some, e, fu_id, in1]
    exact ih
/-- what is known of a common divisor on the way -/
def Gd (z : Rw) (n j : Nat) (G : Nat) : Prop := G ≤ 2441406250000000000 ∧ (∀ i, i < j → (G : Int) ∣ z (cl n i)) ∧ ∀ d : Int, (∀ i, i < j → d ∣ z (cl n i)) → d ∣ (G : Int)
theorem Gd.next {z : Rw} {n j G : Nat} (h : Gd z n j G) (hb : (z (cl n j)).natAbs ≤ 2441406250000000000) : Gd z n (j + 1) (Nat.gcd G (z (cl n j)).natAbs) := by
  refine ⟨?_, fun i hi => ?_, fun d hd => ?_⟩
  · by_cases e : G = 0
    · rw [e, Nat.gcd_zero_left]
      exact hb
    · exact Nat.le_trans (Nat.gcd_le_left _ (by omega)) h.1
  · by_cases e : i = j
    · rw [e]
      exact Int.ofNat_dvd_left.mpr (Nat.gcd_dvd_right _ _)
    · exact Int.dvd_trans (Int.natCast_dvd_natCast.mpr (Nat.gcd_dvd_left _ _)) (h.2.1 i (by omega))
  · have h1 := h.2.2 d (fun i hi => hd i (by omega))
    have h2 := hd j (Nat.lt_succ_self j)
    exact Int.ofNat_dvd_right.mpr (Nat.dvd_gcd (Int.ofNat_dvd_right.mp h1) (Int.natAbs_dvd_natAbs.mpr h2))
/-- a row while it's being taken from another -/
def Rz (n : Nat) (v z : Rw) (j : Nat) (X : List Int64) : Prop := X.length = 7 ∧ (∀ i, i < j → i ≤ n → (X.getD i 0).toInt = z (cl n i)) ∧ ∀ i, j ≤ i → i ≤ n → (X.getD i 0).toInt = v (cl n i)
theorem cr_94 {n c r : Nat} {u v z : Rw} {p q : Int64} {v3 : Int32} (hn : n ≤ 6) (hc : c < n) (hr : r < n) (hne : r ≠ c) (hp : p.toInt = u c) (hq : q.toInt = v c) (hz : ∀ y, z y = u c * v y - v c * u y) (bu : ∀ y, y < n ∨ y = 7 → (u y).natAbs ≤ 7812500000) (bv : ∀ y, y < n ∨ y = 7 → (v y).natAbs ≤ 156250000) : ∀ (d j G : Nat) (L : Nat → List Int64), j + d = n + 1 → Rcl n u (L (96 + c)) → Rz n v z j (L (96 + r)) → Gd z n j G →
    ∃ (X : List Int64) (G' : Nat), mm_run G0 162 94 [some (.ref 84), some (.int (nI n)), some (.int (nI c)), some (.int v3), some (.int (nI r)), some (.long p), none, some (.long q), none, some (.long (Int64.ofNat G)), none, some (.int (nI j))] [] (HP I A L F E) = mm_run G0 162 162 [some (.ref 84), some (.int (nI n)), some (.int (nI c)), some (.int v3), some (.int (nI r)), some (.long p), none, some (.long q), none, some (.long (Int64.ofNat G')), none, some (.int (nI 0))] [] (HP I A (fu L (96 + r) X) F E) ∧ Rcl n z X ∧ Gd z n (n + 1) G'
  | 0, j, G, L, hj, hU, hR, hG => by
    obtain rfl : j = n + 1 := by omega
    refine ⟨L (96 + r), G, ?_, ⟨hR.1, fun i hi => hR.2.1 i (by omega) hi⟩, hG⟩
    rw [sg_X8_clears_94, if_pos (nI_lt (a := n) (b := n + 1) (by omega) (by omega)), fu_id]
    rfl
  | d + 1, j, G, L, hj, hU, ⟨r1, r2, r3⟩, hG => by
    obtain ⟨u1, u2⟩ := hU
    have hy := cl_d (n := n) (j := j) (by omega)
    have hcc : c < n ∨ c = 7 := .inl hc
    have a1 := r3 j (Nat.le_refl j) (by omega)
    have a2 := u2 j (by omega)
    have b1 : p.toInt.natAbs ≤ 7812500000 := by rw [hp]; exact bu c hcc
    have b2 : q.toInt.natAbs ≤ 156250000 := by rw [hq]; exact bv c hcc
    have b3 : ((L (96 + r)).getD j 0).toInt.natAbs ≤ 156250000 := by rw [a1]; exact bv _ hy
    have b4 : ((L (96 + c)).getD j 0).toInt.natAbs ≤ 7812500000 := by rw [a2]; exact bu _ hy
    obtain ⟨m1, m2⟩ := l_mulb b1 b3 (by decide)
    obtain ⟨m3, m4⟩ := l_mulb b2 b4 (by decide)
    obtain ⟨m5, m6⟩ := l_subb m2 m4 (by decide)
    have hzj : (p * (L (96 + r)).getD j 0 - q * (L (96 + c)).getD j 0).toInt = z (cl n j) := by
      rw [m5, m1, m3, hp, hq, a1, a2, hz]
    have hzb : (z (cl n j)).natAbs ≤ 2441406250000000000 := by
      rw [← hzj]
      exact m6
    obtain ⟨x, hx⟩ : ∃ x, p * (L (96 + r)).getD j 0 - q * (L (96 + c)).getD j 0 = x := ⟨_, rfl⟩
    rw [hx] at hzj
    have hGt : (Int64.ofNat G).toInt = (G : Int) := lg_ofNat_toInt (by have := hG.1; omega)
    obtain ⟨X, G', y1, y2, y3⟩ := cr_94 hn hc hr hne hp hq hz bu bv d (j + 1) (Nat.gcd G (z (cl n j)).natAbs) (fu L (96 + r) ((L (96 + r)).set j x)) (by omega) (by rw [fu_n _ _ (by omega)]; exact ⟨u1, u2⟩) (by
      rw [fu_s]
      refine ⟨by rw [List.length_set]; exact r1, fun i h1 h2 => ?_, fun i h1 h2 => ?_⟩
      · rw [getD_set (by omega)]
        by_cases e : i = j
        · rw [if_pos e, hzj, e]
        · rw [if_neg e]
          exact r2 i (by omega) h2
      · rw [getD_set (by omega), if_neg (by omega)]
        exact r3 i (by omega) h2) (hG.next hzb)
    rw [fu_fu] at y1
    refine ⟨X, G', ?_, y2, y3⟩
    rw [sg_X8_clears_94, if_neg (nI_nlt (a := n) (b := j) (by omega) (by omega)), ld96 (by omega), Option.bind_some, Option.bind_some, ldL_d (by omega) (by omega), Option.bind_some, ld96 (by omega), Option.bind_some, ldL_d (by omega) (by omega), Option.bind_some, hx, stL_n (by omega) (by omega), Option.bind_some, Option.bind_some, fu_s, ldL_d (by rw [List.length_set]; omega) (by rw [List.length_set]; omega), Option.bind_some, getD_set (by omega), if_pos rfl, com_ok (by rw [hGt]; omega) (by rw [hzj]; omega), Option.bind_some]
    refine (sg_X8_clears_151 (nI n) (nI c) v3 (nI r) p q (Int64.ofNat G) (nI j) _).trans ?_
    rw [hGt, hzj, in1, Int.natAbs_natCast]
    exact y1
/-- and divided by what is common to it -/
theorem cr_162 {n c r G : Nat} {z w : Rw} {p q : Int64} {v3 : Int32} (hn : n ≤ 6) (hr : r < n) (hG1 : 1 < G) (hGb : G ≤ 2441406250000000000) (hw : ∀ y, (G : Int) * w y = z y) (bw : ∀ y, y < n ∨ y = 7 → (w y).natAbs ≤ 2441406250000000000) : ∀ (d j : Nat) (L : Nat → List Int64), j + d = n + 1 → Rz n z w j (L (96 + r)) →
    ∃ (X : List Int64) (o11 : Option Int32), mm_run G0 162 162 [some (.ref 84), some (.int (nI n)), some (.int (nI c)), some (.int v3), some (.int (nI r)), some (.long p), none, some (.long q), none, some (.long (Int64.ofNat G)), none, some (.int (nI j))] [] (HP I A L F E) = mm_run G0 162 38 [some (.ref 84), some (.int (nI n)), some (.int (nI c)), some (.int v3), some (.int (nI (r + 1))), some (.long p), none, some (.long q), none, some (.long (Int64.ofNat G)), none, (o11.map Value.int)] [] (HP I A (fu L (96 + r) X) F E) ∧ Rcl n w X
  | 0, j, L, hj, hR => by
    obtain rfl : j = n + 1 := by omega
    refine ⟨L (96 + r), some (nI (n + 1)), ?_, ⟨hR.1, fun i hi => hR.2.1 i (by omega) hi⟩⟩
    rw [sg_X8_clears_162, if_pos (nI_lt (a := n) (b := n + 1) (by omega) (by omega)), fu_id, in1]
    rfl
  | d + 1, j, L, hj, ⟨r1, r2, r3⟩ => by
    have hGt : (Int64.ofNat G).toInt = (G : Int) := lg_ofNat_toInt (by omega)
    have e1 : (1 : Int64).toInt = 1 := rfl
    have e0 : (0 : Int64).toInt = 0 := rfl
    have hy := cl_d (n := n) (j := j) (by omega)
    have hb := bw _ hy
    have hdiv := l_dive (x := (L (96 + r)).getD j 0) (y := Int64.ofNat G) (v := w (cl n j)) (by rw [r3 j (Nat.le_refl j) (by omega), hGt, hw]) (by omega) (by omega) (by omega)
    obtain ⟨X, o11, y1, y2⟩ := cr_162 hn hr hG1 hGb hw bw d (j + 1) (fu L (96 + r) ((L (96 + r)).set j ((L (96 + r)).getD j 0 / Int64.ofNat G))) (by omega) (by
      rw [fu_s]
      refine ⟨by rw [List.length_set]; exact r1, fun i h1 h2 => ?_, fun i h1 h2 => ?_⟩
      · rw [getD_set (by omega)]
        by_cases e : i = j
        · rw [if_pos e, hdiv, e]
        · rw [if_neg e]
          exact r2 i (by omega) h2
      · rw [getD_set (by omega), if_neg (by omega)]
        exact r3 i (by omega) h2)
    rw [fu_fu] at y1
    refine ⟨X, o11, ?_, y2⟩
    rw [sg_X8_clears_162, if_neg (nI_nlt (a := n) (b := j) (by omega) (by omega)), if_neg (show ¬ lg_cmp (Int64.ofNat G) 1 ≤ 0 from fun q => by
      have q := (lg_cmp_le _ _).mp q
      rw [l_le, hGt, e1] at q
      omega), ld96 (by omega), Option.bind_some, ldL_d (by omega) (by omega), Option.bind_some, if_neg (show ¬ Int64.ofNat G = 0 from fun q => by
      rw [l_eq, hGt, e0] at q
      omega), stL_n (by omega) (by omega), Option.bind_some, in1]
    exact y1
end CLR
