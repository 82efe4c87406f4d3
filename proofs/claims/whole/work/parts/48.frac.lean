/-! longs as integers; fractions in lowest terms -/
theorem b64 {x : Int} (h1 : -9223372036854775808 ≤ x) (h2 : x < 9223372036854775808) : x.bmod (2 ^ 64) = x := Int.bmod_eq_of_le_mul_two (by omega) (by omega)
theorem l_eq {x y : Int64} : x = y ↔ x.toInt = y.toInt := Int64.toInt_inj.symm
theorem l_lt {x y : Int64} : x < y ↔ x.toInt < y.toInt := Int64.lt_iff_toInt_lt
theorem l_le {x y : Int64} : x ≤ y ↔ x.toInt ≤ y.toInt := Int64.le_iff_toInt_le
theorem l_add {x y : Int64} (h1 : -9223372036854775808 ≤ x.toInt + y.toInt) (h2 : x.toInt + y.toInt < 9223372036854775808) : (x + y).toInt = x.toInt + y.toInt := by
  rw [Int64.toInt_add]
  exact b64 h1 h2
theorem l_sub {x y : Int64} (h1 : -9223372036854775808 ≤ x.toInt - y.toInt) (h2 : x.toInt - y.toInt < 9223372036854775808) : (x - y).toInt = x.toInt - y.toInt := by
  rw [Int64.toInt_sub]
  exact b64 h1 h2
theorem l_mul {x y : Int64} (h1 : -9223372036854775808 ≤ x.toInt * y.toInt) (h2 : x.toInt * y.toInt < 9223372036854775808) : (x * y).toInt = x.toInt * y.toInt := by
  rw [Int64.toInt_mul]
  exact b64 h1 h2
theorem l_neg {x : Int64} (h : -9223372036854775808 < x.toInt) : (-x).toInt = -x.toInt := by
  have := Int64.toInt_lt x
  rw [Int64.toInt_neg]
  exact b64 (by omega) (by omega)
theorem l_rem {x y : Int64} {m n : Nat} (hx : x.toInt = m) (hy : y.toInt = n) (hn : 0 < n) : (x - x / y * y).toInt = ((m % n : Nat) : Int) := by
  have hd := lg_ldiv_nonneg (x := x) (y := y) (by omega) (by omega)
  have hlt := Int64.toInt_lt x
  rw [hx, hy] at hd
  have e : (m : Int) / n * n = ((m / n * n : Nat) : Int) := by
    rw [Int.natCast_mul, Int.natCast_ediv]
  have hle : m / n * n ≤ m := Nat.div_mul_le_self m n
  have hm : (x / y * y).toInt = ((m / n * n : Nat) : Int) := by
    rw [l_mul (by rw [hd, hy, e]; omega) (by rw [hd, hy, e]; omega), hd, hy, e]
  have hmod : m % n = m - m / n * n := by
    have := Nat.div_add_mod m n
    rw [Nat.mul_comm] at this
    omega
  rw [l_sub (by rw [hx, hm]; omega) (by rw [hx, hm]; omega), hx, hm, hmod]
  omega
theorem l_0 {x : Int64} {m : Nat} (hx : x.toInt = m) : x = 0 ↔ m = 0 := by
  have : (0 : Int64).toInt = 0 := rfl
  rw [l_eq, hx, this]
  omega
theorem l_nat {x : Int64} {m : Nat} (hx : x.toInt = m) : x = Int64.ofNat m := by
  have := Int64.toInt_lt x
  rw [l_eq, hx, lg_ofNat_toInt (by omega)]
theorem euc_half {x y : Nat} (hy : 0 < y) (h : y ≤ x) : 2 * (y * (x % y)) ≤ x * y := by
  have h1 : x % y < y := Nat.mod_lt x hy
  have h2 : y + x % y ≤ x := by
    have e := Nat.div_add_mod x y
    have q : y * 1 ≤ y * (x / y) := Nat.mul_le_mul_left y (Nat.div_pos h hy)
    omega
  have h3 : (y + x % y) * y ≤ x * y := Nat.mul_le_mul_right y h2
  have h4 : (x % y) * y ≤ y * y := Nat.mul_le_mul_right y (Nat.le_of_lt h1)
  rw [Nat.add_mul] at h3
  rw [Nat.mul_comm y (x % y)]
  omega
theorem gcd_step (x y : Nat) : Nat.gcd y (x % y) = Nat.gcd x y := by
  rw [Nat.gcd_comm x y, Nat.gcd_rec y x, Nat.gcd_comm]
section FRC
variable {I : Nat → Int32} {A : Nat → List Int32} {L : Nat → List Int64} {F : Nat → Int64} {E : MH}
theorem low_end {v0 v2 v5 : Int64} {v4 : Int32} {x : Nat} (hx : v5.toInt = x) (h0 : 0 < x) : (if (lg_cmp v5 (0)) ≠ 0 then (if v4 ≠ 0 then (if v5 = 0 then none else some (some (.long (v2 / v5)), (HP I A L F E))) else (if v5 = 0 then none else some (some (.long (v0 / v5)), (HP I A L F E)))) else some (some (.long (-9223372036854775808)), (HP I A L F E))) = (some (some (.long (if v4 ≠ 0 then v2 / Int64.ofNat x else v0 / Int64.ofNat x)), (HP I A L F E)) : MO) := by
  have hn : ¬ v5 = 0 := fun q => by have := (l_0 hx).mp q; omega
  rw [if_pos (fun q => hn ((lg_cmp_eq _ _).mp q)), if_neg hn, if_neg hn, ← l_nat hx]
  split <;> rfl
theorem low_loop (v0 v2 : Int64) (p : Int32) : ∀ (d i x y : Nat) (a b : Int64) (o : Option Int64), i + d = 100 → a.toInt = x → b.toInt = y → y ≤ x → x * y < 2 ^ d → 0 < x → mm_run G0 103 12 [some (.long v0), none, some (.long v2), none, some (.int p), some (.long a), none, some (.long b), none, some (.int (nI i)), (o.map Value.long), none] [] (HP I A L F E) = some (some (.long (if p ≠ 0 then v2 / Int64.ofNat (Nat.gcd x y) else v0 / Int64.ofNat (Nat.gcd x y))), HP I A L F E) := by
  intro d
  induction d with
  | zero =>
    intro i x y a b o hi ha hb hyx hlt h0
    have hy : y = 0 := by
      rcases Nat.eq_zero_or_pos y with q | q
      · exact q
      · have : 0 < x * y := Nat.mul_pos h0 q
        omega
    rw [sg_X7_lowest_12, if_pos (show (100 : Int32) ≤ nI i from n_le (a := 100) (b := i) (by omega) (by omega)), low_end ha h0, hy, Nat.gcd_zero_right]
  | succ d ih =>
    intro i x y a b o hi ha hb hyx hlt h0
    rw [sg_X7_lowest_12, if_neg (show ¬ (100 : Int32) ≤ nI i from n_nle (a := i) (b := 100) (by omega) (by omega))]
    rcases Nat.eq_zero_or_pos y with q | q
    · have hb0 : b = 0 := (l_0 hb).mpr q
      rw [if_pos ((lg_cmp_eq _ _).mpr hb0), low_end ha h0, q, Nat.gcd_zero_right]
    · have hb0 : ¬ b = 0 := fun z => by have := (l_0 hb).mp z; omega
      have hh := euc_half q hyx
      rw [if_neg (fun z => hb0 ((lg_cmp_eq _ _).mp z)), if_neg hb0, in1]
      have z := ih (i + 1) y (x % y) b (a - a / b * b) (some (a - a / b * b)) (by omega) hb (l_rem ha hb q) (Nat.le_of_lt (Nat.mod_lt x q)) (by rw [Nat.pow_succ] at hlt; omega) q
      rw [gcd_step] at z
      exact z
theorem labs_nat {v : Int64} (h : -9223372036854775808 < v.toInt) : (labs v).toInt = (v.toInt.natAbs : Int) := by
  have e0 : (0 : Int64).toInt = 0 := rfl
  unfold labs
  by_cases q : 0 < v
  · rw [if_pos q]
    rw [l_lt, e0] at q
    omega
  · rw [if_neg q, l_neg h]
    rw [l_lt, e0] at q
    omega
def lwt (a b : Int64) (p : Int32) : Int64 := if p ≠ 0 then b / Int64.ofNat (Nat.gcd a.toInt.natAbs b.toInt.natAbs) else a / Int64.ofNat (Nat.gcd a.toInt.natAbs b.toInt.natAbs)
theorem low_ok {a b : Int64} (p : Int32) (h1 : -562949953421312 < a.toInt) (h2 : a.toInt < 562949953421312) (h3 : 0 < b.toInt) (h4 : b.toInt < 562949953421312) : mm_call G0 103 [.long a, .long b, .int p] (HP I A L F E) = some (some (.long (lwt a b p)), HP I A L F E) := by
  have ha := labs_nat (v := a) (by omega)
  obtain ⟨x, hx⟩ : ∃ x, a.toInt.natAbs = x := ⟨_, rfl⟩
  obtain ⟨y, hy⟩ : ∃ y : Nat, b.toInt.natAbs = y := ⟨_, rfl⟩
  have hb : b.toInt = (y : Int) := by omega
  have hx2 : x < 562949953421312 := by omega
  have hy2 : y < 562949953421312 := by omega
  have hxy : x * y < 2 ^ 98 := by
    have h : x * y ≤ 562949953421312 * 562949953421311 := Nat.mul_le_mul (by omega) (by omega)
    have e : 562949953421312 * 562949953421311 < 2 ^ 98 := by decide
    omega
  rw [sg_X7_lowest_0]
  unfold lwt
  rw [hx, hy]
  rw [hx] at ha
  by_cases hle : y ≤ x
  · exact low_loop a b p 100 0 x y (labs a) b none (by decide) ha hb hle (by have : (2 : Nat) ^ 98 < 2 ^ 100 := by decide
                                                                             omega) (by omega)
  · have hb0 : ¬ b = 0 := fun z => by have := (l_0 hb).mp z; omega
    have e : mm_run G0 103 12 [some (.long a), none, some (.long b), none, some (.int p), some (.long (labs a)), none, some (.long b), none, some (.int 0), none, none] [] (HP I A L F E) = mm_run G0 103 12 [some (.long a), none, some (.long b), none, some (.int p), some (.long b), none, some (.long (labs a - labs a / b * b)), none, some (.int (nI 1)), (some (labs a - labs a / b * b)).map Value.long, none] [] (HP I A L F E) := by
      refine (sg_X7_lowest_12 a b p (labs a) b 0 none).trans ?_
      rw [if_neg (by decide), if_neg (fun z => hb0 ((lg_cmp_eq _ _).mp z)), if_neg hb0]
      rfl
    rw [e, low_loop a b p 99 1 y (x % y) b (labs a - labs a / b * b) _ (by decide) hb (l_rem ha hb (by omega)) (Nat.le_of_lt (Nat.mod_lt x (by omega))) (by
      rw [Nat.mod_eq_of_lt (by omega), Nat.mul_comm]
      have : (2 : Nat) ^ 98 < 2 ^ 99 := by decide
      omega) (by omega), gcd_step]
theorem com_loop (v0 v2 : Int64) : ∀ (y x : Nat) (a b : Int64) (o : Option Int64), a.toInt = x → b.toInt = y → mm_run G0 151 12 [some (.long v0), none, some (.long v2), none, some (.long a), none, some (.long b), none, (o.map Value.long), none] [] (HP I A L F E) = some (some (.long (Int64.ofNat (Nat.gcd x y))), HP I A L F E) := by
  intro y
  induction y using Nat.strongRecOn with
  | ind y ih =>
    intro x a b o ha hb
    rw [sg_X8_common_12]
    rcases Nat.eq_zero_or_pos y with q | q
    · have hb0 : b = 0 := (l_0 hb).mpr q
      rw [if_pos ((lg_cmp_eq _ _).mpr hb0), q, Nat.gcd_zero_right, ← l_nat ha]
    · have hb0 : ¬ b = 0 := fun z => by have := (l_0 hb).mp z; omega
      rw [if_neg (fun z => hb0 ((lg_cmp_eq _ _).mp z)), if_neg hb0]
      have z := ih (x % y) (Nat.mod_lt x q) y b (a - a / b * b) (some (a - a / b * b)) hb (l_rem ha hb q)
      rw [gcd_step] at z
      exact z
theorem com_ok {a b : Int64} (h1 : -9223372036854775808 < a.toInt) (h2 : -9223372036854775808 < b.toInt) : mm_call G0 151 [.long a, .long b] (HP I A L F E) = some (some (.long (Int64.ofNat (Nat.gcd a.toInt.natAbs b.toInt.natAbs))), HP I A L F E) := by
  rw [sg_X8_common_0]
  exact com_loop a b _ _ (labs a) (labs b) none (labs_nat h1) (labs_nat h2)
theorem part_ok {a b : Int64} (p : Int32) (h1 : -562949953421312 < a.toInt) (h3 : 0 < b.toInt) : mm_call G0 152 [.long a, .long b, .int p] (HP I A L F E) = some (some (.long (lwt a b p)), HP I A L F E) := by
  have e0 : (0 : Int64).toInt = 0 := rfl
  have hg : 0 < Nat.gcd a.toInt.natAbs b.toInt.natAbs := Nat.gcd_pos_of_pos_right _ (by omega)
  have hgl : Nat.gcd a.toInt.natAbs b.toInt.natAbs ≤ b.toInt.natAbs := Nat.gcd_le_right _ (by omega)
  have hbl := Int64.toInt_lt b
  have hn : ¬ Int64.ofNat (Nat.gcd a.toInt.natAbs b.toInt.natAbs) = 0 := by
    rw [l_eq, lg_ofNat_toInt (by omega), e0]
    omega
  rw [sg_X8_partOf_0, if_pos ((lg_cmp_ge _ _).mpr (by rw [l_le, e0]; omega)), com_ok (by omega) (by omega), Option.bind_some]
  refine (sg_X8_partOf_20 a b p _).trans ?_
  unfold lwt
  rw [if_neg hn, if_neg hn]
  split <;> rfl
end FRC
