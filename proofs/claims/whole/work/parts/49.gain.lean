/-! totals, change, gain, mean -/
theorem b32 {x : Int} (h1 : -2147483648 ≤ x) (h2 : x < 2147483648) : x.bmod (2 ^ 32) = x := Int.bmod_eq_of_le_mul_two (by omega) (by omega)
theorem i_add {x y : Int32} (h1 : -2147483648 ≤ x.toInt + y.toInt) (h2 : x.toInt + y.toInt < 2147483648) : (x + y).toInt = x.toInt + y.toInt := by
  rw [Int32.toInt_add]
  exact b32 h1 h2
theorem i_sub {x y : Int32} (h1 : -2147483648 ≤ x.toInt - y.toInt) (h2 : x.toInt - y.toInt < 2147483648) : (x - y).toInt = x.toInt - y.toInt := by
  rw [Int32.toInt_sub]
  exact b32 h1 h2
theorem mul_bd {a b : Int} {P Q : Nat} (ha : a.natAbs ≤ P) (hb : b.natAbs ≤ Q) : (a * b).natAbs ≤ P * Q := by
  rw [Int.natAbs_mul]
  exact Nat.mul_le_mul ha hb
theorem l_mulb {x y : Int64} {P Q : Nat} (hx : x.toInt.natAbs ≤ P) (hy : y.toInt.natAbs ≤ Q) (h : P * Q < 9223372036854775808) : (x * y).toInt = x.toInt * y.toInt ∧ (x * y).toInt.natAbs ≤ P * Q := by
  have hb := mul_bd hx hy
  have e : (x * y).toInt = x.toInt * y.toInt := l_mul (by omega) (by omega)
  exact ⟨e, by rw [e]; exact hb⟩
theorem l_subb {x y : Int64} {P Q : Nat} (hx : x.toInt.natAbs ≤ P) (hy : y.toInt.natAbs ≤ Q) (h : P + Q < 9223372036854775808) : (x - y).toInt = x.toInt - y.toInt ∧ (x - y).toInt.natAbs ≤ P + Q := by
  have e : (x - y).toInt = x.toInt - y.toInt := l_sub (by omega) (by omega)
  exact ⟨e, by rw [e]; omega⟩
theorem l_int (x : Int32) : x.toInt64.toInt = x.toInt := Int32.toInt_toInt64 x
theorem l_nI {n : Nat} (h : n < 2 ^ 31) : (nI n).toInt64.toInt = n := by rw [l_int, nI_toInt h]
def vg (g : Nat → Int32) (p : Nat) : Int := (g (5 + p)).toInt
def sm (v : Nat → Int) : Nat → Int
  | 0 => 0
  | n + 1 => sm v n + v n
theorem sm_bd {v : Nat → Int} (h : ∀ p, p < 40 → -20 ≤ v p ∧ v p ≤ 20) : ∀ n, n ≤ 40 → (sm v n).natAbs ≤ 20 * n
  | 0, _ => Nat.le_refl 0
  | n + 1, hn => by
    have h1 := sm_bd h n (by omega)
    have h2 := h n (by omega)
    show (sm v n + v n).natAbs ≤ _
    omega
def ga (v : Nat → Int) (n t : Nat) : Int := ((n : Int) * sm v t - (t : Int) * sm v n) * ((n : Int) * sm v t - (t : Int) * sm v n)
def gb (n t : Nat) : Int := (t : Int) * ((n : Int) - t)
theorem sq_ok {N s1 s2 s3 : Int64} (h0 : N.toInt.natAbs ≤ 40) (h1 : s1.toInt.natAbs ≤ 40) (h2 : s2.toInt.natAbs ≤ 800) (h3 : s3.toInt.natAbs ≤ 800) : ((N * s2 - s1 * s3) * (N * s2 - s1 * s3)).toInt = (N.toInt * s2.toInt - s1.toInt * s3.toInt) * (N.toInt * s2.toInt - s1.toInt * s3.toInt) ∧ ((N * s2 - s1 * s3) * (N * s2 - s1 * s3)).toInt.natAbs ≤ 4096000000 := by
  have a := l_mulb h0 h2 (by decide)
  have b := l_mulb h1 h3 (by decide)
  have c := l_subb a.2 b.2 (by decide)
  have d := l_mulb c.2 c.2 (by decide)
  rw [a.1, b.1] at c
  rw [c.1] at d
  exact d
theorem gb_ok {n t : Nat} (hn : n ≤ 40) (ht : t ≤ n) : ((nI t).toInt64 * (nI n - nI t).toInt64).toInt = gb n t ∧ ((nI t).toInt64 * (nI n - nI t).toInt64).toInt.natAbs ≤ 1600 := by
  have e1 := l_nI (n := t) (by omega)
  have e2 := l_nI (n := n - t) (by omega)
  rw [pk_sub ht]
  have a := l_mulb (x := (nI t).toInt64) (y := (nI (n - t)).toInt64) (P := 40) (Q := 40) (by omega) (by omega) (by decide)
  refine ⟨?_, a.2⟩
  rw [a.1, e1, e2]
  unfold gb
  rw [Int.natCast_sub ht]
theorem gb_pos {n t : Nat} (h0 : 0 < t) (h : t < n) : 0 < gb n t := Int.mul_pos (by omega) (by omega)
theorem ga_nn (v : Nat → Int) (n t : Nat) : 0 ≤ ga v n t := by
  unfold ga
  rw [← Int.natAbs_mul_self]
  exact Int.natCast_nonneg _
section GAI
variable {I : Nat → Int32} {A : Nat → List Int32} {L : Nat → List Int64} {F : Nat → Int64} {E : MH}
theorem tot_x {b n : Nat} (hb : isS b) {g : Nat → Int32} (hR : Rst I A b g) (hV : Vst g) (hn : n ≤ 40) (hg : g 4 = nI n) (hs : Shp A L) {m : Nat} (hm : m ≤ n) : ∃ x : Int32, mm_call G0 38 [.ref b, .int (nI m)] (HP I A L F E) = some (some (.int x), HP I A L F E) ∧ x.toInt = sm (vg g) m := by
  have hbd := sm_bd (v := vg g) (fun p hp => hV.2.2.2.2.2 p hp)
  have lb := hs.vals hb
  have key : ∀ (d i : Nat) (x : Int32), i + d = m → x.toInt = sm (vg g) i → ∃ y : Int32, mm_run G0 38 4 [some (.ref b), some (.int (nI m)), some (.int x), some (.int (nI i))] [] (HP I A L F E) = some (some (.int y), HP I A L F E) ∧ y.toInt = sm (vg g) m := by
    intro d
    induction d with
    | zero =>
      intro i x hi hx
      have e : i = m := by omega
      subst e
      exact ⟨x, by rw [sg_X4_total_4 hb, if_pos (n_le (a := i) (b := i) (by omega) (by omega))], hx⟩
    | succ d ih =>
      intro i x hi hx
      have h1 := hbd i (by omega)
      have h2 : -20 ≤ (g (5 + i)).toInt ∧ (g (5 + i)).toInt ≤ 20 := hV.2.2.2.2.2 i (by omega)
      obtain ⟨y, y1, y2⟩ := ih (i + 1) (x + g (5 + i)) (by omega) (by
        rw [i_add (by omega) (by omega), hx]
        rfl)
      refine ⟨y, ?_, y2⟩
      rw [sg_X4_total_4 hb, if_neg (n_nle (a := i) (b := m) (by omega) (by omega)), ldI_d (by omega) (by omega), Option.bind_some, hR.2 n i hg hn (by omega), in1]
      exact y1
  obtain ⟨y, y1, y2⟩ := key m 0 0 (by omega) rfl
  exact ⟨y, by rw [sg_X4_total_0 hb]; exact y1, y2⟩
theorem tot_m {k n : Nat} (hk : k < 4) {g : Nat → Int32} (hw : ∀ j, j < 45 → gw A 85 (45 * k + j) = g j) (hV : Vst g) (hn : n ≤ 40) (hs : Shp A L) {m : Nat} (hm : m ≤ n) : ∃ x : Int64, mm_call G0 146 [.ref 84, .int (nI k), .int (nI m)] (HP I A L F E) = some (some (.long x), HP I A L F E) ∧ x.toInt = sm (vg g) m := by
  have hbd := sm_bd (v := vg g) (fun p hp => hV.2.2.2.2.2 p hp)
  have l85 := hs.i (a := 85) (n := 232) (by decide)
  have key : ∀ (d i : Nat) (x : Int64), i + d = m → x.toInt = sm (vg g) i → ∃ y : Int64, mm_run G0 146 5 [some (.ref 84), some (.int (nI k)), some (.int (nI m)), some (.long x), none, some (.int (nI i))] [] (HP I A L F E) = some (some (.long y), HP I A L F E) ∧ y.toInt = sm (vg g) m := by
    intro d
    induction d with
    | zero =>
      intro i x hi hx
      have e : i = m := by omega
      subst e
      exact ⟨x, by rw [sg_X8_total_5, if_pos (n_le (a := i) (b := i) (by omega) (by omega))], hx⟩
    | succ d ih =>
      intro i x hi hx
      have h1 := hbd i (by omega)
      have h2 : -20 ≤ (g (5 + i)).toInt ∧ (g (5 + i)).toInt ≤ 20 := hV.2.2.2.2.2 i (by omega)
      obtain ⟨y, y1, y2⟩ := ih (i + 1) (x + (g (5 + i)).toInt64) (by omega) (by
        have e := l_int (g (5 + i))
        rw [l_add (by omega) (by omega), hx, e]
        rfl)
      refine ⟨y, ?_, y2⟩
      have hv : ldI (A 85) (45 * nI k + 5 + nI i) = some (g (5 + i)) := by
        rw [ixv, ldI_d (by omega) (by omega), ← hw (5 + i) (by omega), show 45 * k + (5 + i) = 45 * k + 5 + i by omega]
        rfl
      rw [sg_X8_total_5, if_neg (n_nle (a := i) (b := m) (by omega) (by omega)), hv, Option.bind_some, in1]
      exact y1
  obtain ⟨y, y1, y2⟩ := key m 0 0 (by omega) rfl
  exact ⟨y, by rw [sg_X8_total_0]; exact y1, y2⟩
theorem ga_x {b n t : Nat} (hb : isS b) {g : Nat → Int32} (hR : Rst I A b g) (hV : Vst g) (hn : n ≤ 40) (hg : g 4 = nI n) (hs : Shp A L) (ht : t ≤ n) : ∃ x : Int64, mm_call G0 39 [.ref b, .int (nI t)] (HP I A L F E) = some (some (.long x), HP I A L F E) ∧ x.toInt = ga (vg g) n t ∧ x.toInt.natAbs ≤ 4096000000 := by
  have hbd := sm_bd (v := vg g) (fun p hp => hV.2.2.2.2.2 p hp)
  have f4 : I (100 * b + 4) = nI n := (hR.1 4 (by decide)).trans hg
  obtain ⟨x, x1, x2⟩ := tot_x (F := F) (E := E) hb hR hV hn hg hs ht
  obtain ⟨y, y1, y2⟩ := tot_x (F := F) (E := E) hb hR hV hn hg hs (Nat.le_refl n)
  have e1 := l_nI (n := n) (by omega)
  have e2 := l_nI (n := t) (by omega)
  have e3 := l_int x
  have e4 := l_int y
  have b1 := hbd t (by omega)
  have b2 := hbd n (by omega)
  have q := sq_ok (N := (nI n).toInt64) (s1 := (nI t).toInt64) (s2 := x.toInt64) (s3 := y.toInt64) (by omega) (by omega) (by omega) (by omega)
  refine ⟨_, ?_, ?_, q.2⟩
  · rw [sg_X4_gainAbove_0 hb, x1, Option.bind_some]
    refine (sg_X4_gainAbove_7 hb (nI t) (nI t) x).trans ?_
    rw [f4, y1, Option.bind_some]
    refine (sg_X4_gainAbove_15 hb (nI t) (nI t) x y).trans ?_
    rw [f4]
  · rw [q.1, e1, e2, e3, e4, x2, y2]
    rfl
theorem ga_m {k n t : Nat} (hk : k < 4) {g : Nat → Int32} (hw : ∀ j, j < 45 → gw A 85 (45 * k + j) = g j) (hV : Vst g) (hn : n ≤ 40) (hg : g 4 = nI n) (hs : Shp A L) (ht : t ≤ n) : ∃ x : Int64, mm_call G0 147 [.ref 84, .int (nI k), .int (nI t)] (HP I A L F E) = some (some (.long x), HP I A L F E) ∧ x.toInt = ga (vg g) n t ∧ x.toInt.natAbs ≤ 4096000000 := by
  have hbd := sm_bd (v := vg g) (fun p hp => hV.2.2.2.2.2 p hp)
  have l85 := hs.i (a := 85) (n := 232) (by decide)
  have r4 : ldI (A 85) (45 * nI k + 4) = some (nI n) := by
    rw [ix4, ldI_d (by omega) (by omega), ← hg, ← hw 4 (by omega)]
    rfl
  obtain ⟨x, x1, x2⟩ := tot_m (I := I) (F := F) (E := E) hk hw hV hn hs ht
  obtain ⟨y, y1, y2⟩ := tot_m (I := I) (F := F) (E := E) hk hw hV hn hs (Nat.le_refl n)
  have e1 := l_nI (n := n) (by omega)
  have e2 := l_nI (n := t) (by omega)
  have b1 := hbd t (by omega)
  have b2 := hbd n (by omega)
  have q := sq_ok (N := (nI n).toInt64) (s1 := (nI t).toInt64) (s2 := x) (s3 := y) (by omega) (by omega) (by omega) (by omega)
  refine ⟨_, ?_, ?_, q.2⟩
  · rw [sg_X8_gainAbove_0, r4, Option.bind_some, x1, Option.bind_some]
    refine (sg_X8_gainAbove_14 (nI k) (nI t) (nI n).toInt64 (nI n).toInt64 x).trans ?_
    rw [r4, Option.bind_some, y1, Option.bind_some]
    exact sg_X8_gainAbove_27 (nI k) (nI t) (nI n).toInt64 _ _ y
  · rw [q.1, e1, e2, x2, y2]
    rfl
/-- the place of the best gain; 0: none -/
def bst (v : Nat → Int) (n : Nat) : Nat → Nat → Nat → Nat
  | 0, _, b => b
  | d + 1, t, b => bst v n d (t + 1) (if b = 0 ∨ ga v n b * gb n t < ga v n t * gb n b then t else b)
def bres (b : Nat) : Int32 := if b = 0 then -5 else nI b
theorem chg_x {b n : Nat} (hb : isS b) {g : Nat → Int32} (hR : Rst I A b g) (hV : Vst g) (hn : n ≤ 40) (hg : g 4 = nI n) (hs : Shp A L) : mm_call G0 42 [.ref b] (HP I A L F E) = some (some (.int (bres (bst (vg g) n (n - 1) 1 0))), HP I A L F E) := by
  have hbd := sm_bd (v := vg g) (fun p hp => hV.2.2.2.2.2 p hp)
  have lb := hs.vals hb
  have f4 : I (100 * b + 4) = nI n := (hR.1 4 (by decide)).trans hg
  obtain ⟨al, a1, a2⟩ := tot_x (F := F) (E := E) hb hR hV hn hg hs (Nat.le_refl n)
  have key : ∀ (d t bb : Nat) (fi : Int32) (v4 v6 : Int64) (o9 o11 : Option Int64), t + d = n → 0 < t → bb < t → fi.toInt = sm (vg g) (t - 1) → v4.toInt = (if bb = 0 then -1 else ga (vg g) n bb) → v4.toInt.natAbs ≤ 4096000000 → v6.toInt = (if bb = 0 then 1 else gb n bb) → v6.toInt.natAbs ≤ 1600 → mm_run G0 42 25 [some (.ref b), some (.int al), some (.int fi), some (.int (bres bb)), some (.long v4), none, some (.long v6), none, some (.int (nI t)), (o9.map Value.long), none, (o11.map Value.long), none] [] (HP I A L F E) = some (some (.int (bres (bst (vg g) n d t bb))), HP I A L F E) := by
    intro d
    induction d with
    | zero =>
      intro t bb fi v4 v6 o9 o11 ht h0 hbt hfi h4 h4b h6 h6b
      rw [sg_X4_changePlace_25 hb, f4, if_pos (n_le (a := n) (b := t) (by omega) (by omega))]
      rfl
    | succ d ih =>
      intro t bb fi v4 v6 o9 o11 ht h0 hbt hfi h4 h4b h6 h6b
      have h1 := hbd (t - 1) (by omega)
      have h1t := hbd t (by omega)
      have h1n := hbd n (by omega)
      have h2 : -20 ≤ (g (5 + (t - 1))).toInt ∧ (g (5 + (t - 1))).toInt ≤ 20 := hV.2.2.2.2.2 (t - 1) (by omega)
      have hx : ldI (A (b + 1)) (nI t - 1) = some (g (5 + (t - 1))) := by
        rw [show (1 : Int32) = nI 1 from rfl, pk_sub (by omega), ldI_d (by omega) (by omega), hR.2 n (t - 1) hg hn (by omega)]
      have hfi' : (fi + g (5 + (t - 1))).toInt = sm (vg g) t := by
        rw [i_add (by omega) (by omega), hfi]
        have e : t = t - 1 + 1 := by omega
        rw [show sm (vg g) t = sm (vg g) (t - 1 + 1) by rw [← e]]
        rfl
      have e1 := l_nI (n := n) (by omega)
      have e2 := l_nI (n := t) (by omega)
      have e3 := l_int (fi + g (5 + (t - 1)))
      have e4 := l_int al
      have q := sq_ok (N := (nI n).toInt64) (s1 := (nI t).toInt64) (s2 := (fi + g (5 + (t - 1))).toInt64) (s3 := al.toInt64) (by omega) (by omega) (by omega) (by omega)
      rw [e1, e2, e3, e4, hfi', a2] at q
      have hgb := gb_ok hn (show t ≤ n by omega)
      generalize hU : ((nI n).toInt64 * (fi + g (5 + (t - 1))).toInt64 - (nI t).toInt64 * al.toInt64) * ((nI n).toInt64 * (fi + g (5 + (t - 1))).toInt64 - (nI t).toInt64 * al.toInt64) = U at q
      generalize hW : (nI t).toInt64 * (nI n - nI t).toInt64 = W at hgb
      have m1 := l_mulb q.2 h6b (by decide)
      have m2 := l_mulb h4b hgb.2 (by decide)
      have hcond : 0 < lg_cmp (U * v6) (v4 * W) ↔ (bb = 0 ∨ ga (vg g) n bb * gb n t < ga (vg g) n t * gb n bb) := by
        rw [lg_cmp_gt, l_lt, m1.1, m2.1, h4, h6, q.1, hgb.1]
        have p1 := gb_pos (n := n) h0 (by omega)
        have p2 := ga_nn (vg g) n t
        show _ < ga (vg g) n t * _ ↔ _
        by_cases hz : bb = 0
        · rw [if_pos hz, if_pos hz]
          constructor
          · exact fun _ => Or.inl hz
          · intro _
            omega
        · rw [if_neg hz, if_neg hz]
          constructor
          · exact Or.inr
          · exact fun z => z.resolve_left hz
      rw [sg_X4_changePlace_25 hb, f4, if_neg (n_nle (a := t) (b := n) (by omega) (by omega)), hx, Option.bind_some, hU, hW, in1]
      unfold bst
      by_cases hc : bb = 0 ∨ ga (vg g) n bb * gb n t < ga (vg g) n t * gb n bb
      · rw [if_pos (hcond.mpr hc), if_pos hc]
        have hb' : bres t = nI t := if_neg (by omega)
        have z := ih (t + 1) t (fi + g (5 + (t - 1))) U W (some U) (some W) (by omega) (by omega) (by omega) hfi' (by rw [if_neg (by omega)]; exact q.1) q.2 (by rw [if_neg (by omega)]; exact hgb.1) hgb.2
        rw [hb'] at z
        exact z
      · rw [if_neg (fun z => hc (hcond.mp z)), if_neg hc]
        exact ih (t + 1) bb (fi + g (5 + (t - 1))) v4 v6 (some U) (some W) (by omega) (by omega) (by omega) hfi' h4 h4b h6 h6b
  rw [sg_X4_changePlace_0 hb, f4, a1, Option.bind_some]
  refine (sg_X4_changePlace_8 hb al).trans ?_
  by_cases hn0 : n = 0
  · subst hn0
    refine (sg_X4_changePlace_25 hb al 0 (-5) (-1) 1 1 none none).trans ?_
    rw [f4, if_pos (by decide)]
    rfl
  · exact key (n - 1) 1 0 0 (-1) 1 none none (by omega) (by decide) (by decide) rfl rfl (by decide) rfl (by decide)
theorem chg_m {k n : Nat} (hk : k < 4) {g : Nat → Int32} (hw : ∀ j, j < 45 → gw A 85 (45 * k + j) = g j) (hV : Vst g) (hn : n ≤ 40) (hg : g 4 = nI n) (hs : Shp A L) : mm_call G0 149 [.ref 84, .int (nI k)] (HP I A L F E) = some (some (.int (bres (bst (vg g) n (n - 1) 1 0))), HP I A L F E) := by
  have l85 := hs.i (a := 85) (n := 232) (by decide)
  have r4 : ldI (A 85) (45 * nI k + 4) = some (nI n) := by
    rw [ix4, ldI_d (by omega) (by omega), ← hg, ← hw 4 (by omega)]
    rfl
  have key : ∀ (d t bb : Nat), t + d = n → 0 < t → bb < t → mm_run G0 149 5 [some (.ref 84), some (.int (nI k)), some (.int (bres bb)), some (.int (nI t))] [] (HP I A L F E) = some (some (.int (bres (bst (vg g) n d t bb))), HP I A L F E) := by
    intro d
    induction d with
    | zero =>
      intro t bb ht h0 hbt
      rw [sg_X8_changeOf_5, r4, Option.bind_some, if_pos (n_le (a := n) (b := t) (by omega) (by omega))]
      rfl
    | succ d ih =>
      intro t bb ht h0 hbt
      have hb' : bres t = nI t := if_neg (by omega)
      rw [sg_X8_changeOf_5, r4, Option.bind_some, if_neg (n_nle (a := t) (b := n) (by omega) (by omega)), in1]
      unfold bst
      by_cases hz : bb = 0
      · rw [if_pos (by rw [hz]; decide), if_pos (Or.inl hz), ← hb']
        exact ih (t + 1) t (by omega) (by omega) (by omega)
      · have hbb : bres bb = nI bb := if_neg hz
        obtain ⟨x, x1, x2, x3⟩ := ga_m (I := I) (F := F) (E := E) hk hw hV hn hg hs (show t ≤ n by omega)
        obtain ⟨y, y1, y2, y3⟩ := ga_m (I := I) (F := F) (E := E) hk hw hV hn hg hs (show bb ≤ n by omega)
        have g1 := gb_ok hn (show t ≤ n by omega)
        have g2 := gb_ok hn (show bb ≤ n by omega)
        have m1 := l_mulb x3 g2.2 (by decide)
        have m2 := l_mulb y3 g1.2 (by decide)
        have hcond : lg_cmp (x * ((nI bb).toInt64 * (nI n - nI bb).toInt64)) (y * ((nI t).toInt64 * (nI n - nI t).toInt64)) ≤ 0 ↔ ¬ (bb = 0 ∨ ga (vg g) n bb * gb n t < ga (vg g) n t * gb n bb) := by
          rw [lg_cmp_le, l_le, m1.1, m2.1, x2, y2, g1.1, g2.1]
          constructor
          · intro z w
            rcases w with w | w
            · exact hz w
            · omega
          · intro z
            have := fun w => z (Or.inr w)
            omega
        rw [if_neg (by rw [hbb]; exact nI_nneg (by omega)), x1, Option.bind_some, hbb]
        refine (sg_X8_changeOf_24 (nI k) (nI bb) (nI t) x).trans ?_
        rw [r4, Option.bind_some, y1, Option.bind_some]
        refine (sg_X8_changeOf_37 (nI k) (nI bb) (nI t) _ y).trans ?_
        rw [r4, Option.bind_some]
        by_cases hc : bb = 0 ∨ ga (vg g) n bb * gb n t < ga (vg g) n t * gb n bb
        · rw [if_neg (fun z => hcond.mp z hc), if_pos hc, in1, ← hb']
          exact ih (t + 1) t (by omega) (by omega) (by omega)
        · rw [if_pos (hcond.mpr hc), if_neg hc, in1, ← hbb]
          exact ih (t + 1) bb (by omega) (by omega) (by omega)
  rw [sg_X8_changeOf_0]
  by_cases hn0 : n = 0
  · subst hn0
    rw [sg_X8_changeOf_5, r4, Option.bind_some, if_pos (by decide)]
    rfl
  · exact key (n - 1) 1 0 (by omega) (by decide) (by decide)
theorem Sim.vst (h : Sim I A L) {k : Nat} (hk : k < 4) : Vst (gs A k) := h.2.2.1.1 k hk
end GAI
theorem pr_change (p1 : Int32) : Pr tyI 72 150 [.int p1] := by
  intro I A L F E hS
  by_cases h1 : ¬ p1 < 0 ∧ ¬ 4 ≤ p1
  · obtain ⟨k, hk, rfl⟩ := st4 h1
    obtain ⟨n, hn, e1, e2⟩ := hS.len hk
    refine ⟨.int (bres (bst (vg (gs A k)) n (n - 1) 1 0)), I, A, L, F, E, I, A, L, F, E, ⟨_, rfl⟩, ?_, ?_, hS, Nat.le_add_right _ _⟩
    · rw [sg_X7_change_0, if_pos h1, now_at hk, Option.bind_some, chg_x (isS_now hk) (hS.rst hk) (hS.vst hk) hn e2 hS.1, Option.bind_some]
      exact sg_X7_change_21 _ _
    · rw [sg_X8_change_0, if_pos (c4.mpr h1), chg_m hk (fun _ _ => rfl) (hS.vst hk) hn e2 hS.1, Option.bind_some]
      exact sg_X8_change_12 _ _
  · refine ⟨.int (-1), I, A, L, F, E, I, A, L, F, E, ⟨_, rfl⟩, ?_, ?_, hS, Nat.le_add_right _ _⟩
    · rw [sg_X7_change_0, if_neg h1]
    · rw [sg_X8_change_0, if_neg (fun q => h1 (c4.mp q))]
theorem pr_gain (p1 p2 p3 : Int32) : Pr tyL 73 153 [.int p1, .int p2, .int p3] := by
  intro I A L F E hS
  have i1 : (1 : Int32).toInt = 1 := rfl
  by_cases h1 : ¬ p1 < 0 ∧ ¬ 4 ≤ p1
  · obtain ⟨k, hk, rfl⟩ := st4 h1
    obtain ⟨n, hn, e1, e2⟩ := hS.len hk
    have e2' : gs A k 4 = nI n := e2
    have en : (nI n).toInt = n := nI_toInt (by omega)
    have en1 : (nI n - 1).toInt = (n : Int) - 1 := by rw [i_sub (by omega) (by omega), en, i1]
    by_cases h2 : 1 ≤ p2.toInt ∧ p2.toInt < n
    · have c1 : ¬ p2 < 1 := by rw [i_lt]; omega
      have c2 : p2 < nI n := by rw [i_lt]; omega
      have c3 : ¬ p2 < 1 ∧ ¬ (nI n - 1) < p2 := ⟨c1, by rw [i_lt]; omega⟩
      by_cases h3 : p3 = 0 ∨ p3 = 1
      · obtain ⟨t, ht, rfl⟩ := to_n (x := p2) (n := 40) (by omega) (by omega) (by decide)
        rw [nI_toInt (by omega)] at h2
        obtain ⟨x, x1, x2, x3⟩ := ga_x (F := F) (E := E) (isS_now hk) (hS.rst hk) (hS.vst hk) hn e2' hS.1 (show t ≤ n by omega)
        obtain ⟨y, y1, y2, y3⟩ := ga_m (I := I) (F := F) (E := E) hk (fun _ _ => rfl) (hS.vst hk) hn e2' hS.1 (show t ≤ n by omega)
        have exy : y = x := l_eq.mpr (y2.trans x2.symm)
        subst exy
        have gbk := gb_ok hn (show t ≤ n by omega)
        have gp := gb_pos (n := n) (t := t) (by omega) (by omega)
        refine ⟨.long (lwt y ((nI t).toInt64 * (nI n - nI t).toInt64) p3), I, A, L, F, E, I, A, L, F, E, ⟨_, rfl⟩, ?_, ?_, hS, Nat.le_add_right _ _⟩
        · rw [sg_X7_gain_0, if_pos h1, if_pos h3, now_at hk, Option.bind_some, if_neg c1, e1, if_pos c2, x1, Option.bind_some]
          refine (sg_X7_gain_53 (nI k) (nI t) p3 (isS_now hk) y).trans ?_
          rw [e1, low_ok p3 (by omega) (by omega) (by omega) (by omega), Option.bind_some]
          exact sg_X7_gain_63 _ _ _ (isS_now hk) _
        · rw [sg_X8_gain_0, if_pos (c4.mpr h1), ix4, hS.w (by omega), Option.bind_some, e2, if_pos c3, if_pos (in01.mpr h3), y1, Option.bind_some]
          refine (sg_X8_gain_41 (nI k) (nI t) p3 y).trans ?_
          rw [ix4, hS.w (by omega), Option.bind_some, e2, part_ok p3 (by omega) (by omega), Option.bind_some]
          exact sg_X8_gain_51 _ _ _ _
      · refine ⟨.long (-9223372036854775808), I, A, L, F, E, I, A, L, F, E, ⟨_, rfl⟩, ?_, ?_, hS, Nat.le_add_right _ _⟩
        · rw [sg_X7_gain_0, if_pos h1, if_neg h3]
        · rw [sg_X8_gain_0, if_pos (c4.mpr h1), ix4, hS.w (by omega), Option.bind_some, e2, if_pos c3, if_neg (fun q => h3 (in01.mp q))]
    · refine ⟨.long (-9223372036854775808), I, A, L, F, E, I, A, L, F, E, ⟨_, rfl⟩, ?_, ?_, hS, Nat.le_add_right _ _⟩
      · rw [sg_X7_gain_0, if_pos h1, now_at hk, Option.bind_some, e1]
        split
        · split
          · rfl
          · rename_i q
            rw [if_neg]
            intro z
            rw [i_lt] at q z
            omega
        · rfl
      · rw [sg_X8_gain_0, if_pos (c4.mpr h1), ix4, hS.w (by omega), Option.bind_some, e2, if_neg]
        intro z
        rw [i_lt, i_lt] at z
        omega
  · refine ⟨.long (-9223372036854775808), I, A, L, F, E, I, A, L, F, E, ⟨_, rfl⟩, ?_, ?_, hS, Nat.le_add_right _ _⟩
    · rw [sg_X7_gain_0, if_neg h1]
    · rw [sg_X8_gain_0, if_neg (fun q => h1 (c4.mp q))]
theorem pr_mean (p1 p2 : Int32) : Pr tyL 83 174 [.int p1, .int p2] := by
  intro I A L F E hS
  by_cases h1 : ¬ p1 < 0 ∧ ¬ 4 ≤ p1
  · obtain ⟨k, hk, rfl⟩ := st4 h1
    obtain ⟨n, hn, e1, e2⟩ := hS.len hk
    have e2' : gs A k 4 = nI n := e2
    by_cases h3 : p2 = 0 ∨ p2 = 1
    · by_cases h2 : nI n ≠ 0
      · have hn0 : n ≠ 0 := fun q => h2 (by rw [q]; rfl)
        obtain ⟨x, x1, x2⟩ := tot_x (F := F) (E := E) (isS_now hk) (hS.rst hk) (hS.vst hk) hn e2' hS.1 (Nat.le_refl n)
        obtain ⟨y, y1, y2⟩ := tot_m (I := I) (F := F) (E := E) (g := gs A k) hk (fun _ _ => rfl) (hS.vst hk) hn hS.1 (Nat.le_refl n)
        have exx := l_int x
        have exy : y = x.toInt64 := l_eq.mpr (by rw [y2, l_int, x2])
        subst exy
        have hbd := sm_bd (v := vg (gs A k)) (fun p hp => (hS.vst hk).2.2.2.2.2 p hp) n hn
        have en := l_nI (n := n) (by omega)
        refine ⟨.long (lwt x.toInt64 (nI n).toInt64 p2), I, A, L, F, E, I, A, L, F, E, ⟨_, rfl⟩, ?_, ?_, hS, Nat.le_add_right _ _⟩
        · rw [sg_X7_mean_0, if_pos h1, if_pos h3, now_at hk, Option.bind_some, e1, if_pos h2, x1, Option.bind_some]
          refine (sg_X7_mean_47 (nI k) p2 (isS_now hk) x).trans ?_
          rw [e1, low_ok p2 (by omega) (by omega) (by omega) (by omega), Option.bind_some]
          exact sg_X7_mean_57 _ _ (isS_now hk) _
        · rw [sg_X8_mean_0, if_pos (c4.mpr h1), if_pos (in01.mpr h3), ix4, hS.w (by omega), Option.bind_some, e2, if_pos h2, Option.bind_some, y1, Option.bind_some]
          refine (sg_X8_mean_38 (nI k) p2 x.toInt64).trans ?_
          rw [ix4, hS.w (by omega), Option.bind_some, e2, part_ok p2 (by omega) (by omega), Option.bind_some]
          exact sg_X8_mean_48 _ _ _
      · refine ⟨.long (-9223372036854775808), I, A, L, F, E, I, A, L, F, E, ⟨_, rfl⟩, ?_, ?_, hS, Nat.le_add_right _ _⟩
        · rw [sg_X7_mean_0, if_pos h1, if_pos h3, now_at hk, Option.bind_some, e1, if_neg h2]
        · rw [sg_X8_mean_0, if_pos (c4.mpr h1), if_pos (in01.mpr h3), ix4, hS.w (by omega), Option.bind_some, e2, if_neg h2]
    · refine ⟨.long (-9223372036854775808), I, A, L, F, E, I, A, L, F, E, ⟨_, rfl⟩, ?_, ?_, hS, Nat.le_add_right _ _⟩
      · rw [sg_X7_mean_0, if_pos h1, if_neg h3]
      · rw [sg_X8_mean_0, if_pos (c4.mpr h1), if_neg (fun q => h3 (in01.mp q))]
  · refine ⟨.long (-9223372036854775808), I, A, L, F, E, I, A, L, F, E, ⟨_, rfl⟩, ?_, ?_, hS, Nat.le_add_right _ _⟩
    · rw [sg_X7_mean_0, if_neg h1]
    · rw [sg_X8_mean_0, if_neg (fun q => h1 (c4.mp q))]
