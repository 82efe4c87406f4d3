/-! minors by their last column -/
abbrev Rw := Nat → Int
def e2 (c : Nat) (a b : Rw) : Int := a 0 * b c - b 0 * a c
def e3 (c : Nat) (a b d : Rw) : Int := e2 1 a b * d c - e2 1 a d * b c + e2 1 b d * a c
def e4 (c : Nat) (a b d e : Rw) : Int := e3 2 a b d * e c - e3 2 a b e * d c + e3 2 a d e * b c - e3 2 b d e * a c
def e5 (c : Nat) (a b d e f : Rw) : Int := e4 3 a b d e * f c - e4 3 a b d f * e c + e4 3 a b e f * d c - e4 3 a d e f * b c + e4 3 b d e f * a c
def e6 (c : Nat) (a b d e f g : Rw) : Int := e5 4 a b d e f * g c - e5 4 a b d e g * f c + e5 4 a b d f g * e c - e5 4 a b e f g * d c + e5 4 a d e f g * b c - e5 4 b d e f g * a c
theorem e2_z (a b : Rw) : e2 0 a b = 0 := by unfold e2; grind
theorem e3_z {c : Nat} (hc : c < 2) (a b d : Rw) : e3 c a b d = 0 := by
  have h : c = 1 ∨ c < 1 := by omega
  rcases h with rfl | h
  · unfold e3 e2; grind
  · have : c = 0 := by omega
    subst this
    unfold e3 e2; grind
theorem e4_z {c : Nat} (hc : c < 3) (a b d e : Rw) : e4 c a b d e = 0 := by
  have h : c = 2 ∨ c < 2 := by omega
  rcases h with rfl | h
  · unfold e4 e3; grind
  · have h1 := e3_z h a b d
    have h2 := e3_z h a b e
    have h3 := e3_z h a d e
    have h4 := e3_z h b d e
    unfold e3 at h1 h2 h3 h4
    unfold e4 e3
    grind
theorem e5_z {c : Nat} (hc : c < 4) (a b d e f : Rw) : e5 c a b d e f = 0 := by
  have h : c = 3 ∨ c < 3 := by omega
  rcases h with rfl | h
  · unfold e5 e4; grind
  · have h1 := e4_z h a b d e
    have h2 := e4_z h a b d f
    have h3 := e4_z h a b e f
    have h4 := e4_z h a d e f
    have h5 := e4_z h b d e f
    unfold e4 at h1 h2 h3 h4 h5
    unfold e5 e4
    grind
theorem e6_z {c : Nat} (hc : c < 5) (a b d e f g : Rw) : e6 c a b d e f g = 0 := by
  have h : c = 4 ∨ c < 4 := by omega
  rcases h with rfl | h
  · unfold e6 e5; grind
  · have h1 := e5_z h a b d e f
    have h2 := e5_z h a b d e g
    have h3 := e5_z h a b d f g
    have h4 := e5_z h a b e f g
    have h5 := e5_z h a d e f g
    have h6 := e5_z h b d e f g
    unfold e5 at h1 h2 h3 h4 h5 h6
    unfold e6 e5
    grind
/-- the row r when k rows are taken out of it -/
def vv (X : Nat → Rw) : Nat → Nat → Rw
  | 0, r, c => X r c
  | 1, r, c => e2 c (X 0) (X r)
  | 2, r, c => e3 c (X 0) (X 1) (X r)
  | 3, r, c => e4 c (X 0) (X 1) (X 2) (X r)
  | 4, r, c => e5 c (X 0) (X 1) (X 2) (X 3) (X r)
  | _, r, c => e6 c (X 0) (X 1) (X 2) (X 3) (X 4) (X r)
def dd (X : Nat → Rw) : Nat → Int
  | 0 => 1
  | k + 1 => vv X k k k
theorem vv_z {X : Nat → Rw} {k c : Nat} (r : Nat) (hk : k ≤ 5) (hc : c < k) : vv X k r c = 0 := by
  match k, hk, hc with
  | 1, _, hc => obtain rfl : c = 0 := by omega
                exact e2_z _ _
  | 2, _, hc => exact e3_z hc _ _ _
  | 3, _, hc => exact e4_z hc _ _ _ _
  | 4, _, hc => exact e5_z hc _ _ _ _ _
  | 5, _, hc => exact e6_z hc _ _ _ _ _ _
/-- a sum of the first k rows, each some times -/
def cmb (X : Nat → Rw) (a : Nat → Int) (c : Nat) : Nat → Int
  | 0 => 0
  | k + 1 => cmb X a c k + a k * X k c
def Cm (X : Nat → Rw) (k : Nat) (v : Rw) : Prop := ∃ a : Nat → Int, ∀ c, v c = cmb X a c k
theorem cmb_add {X : Nat → Rw} {a b : Nat → Int} {s t : Int} {c : Nat} : ∀ k, cmb X (fun i => s * a i + t * b i) c k = s * cmb X a c k + t * cmb X b c k
  | 0 => by simp [cmb]
  | k + 1 => by
    simp only [cmb, cmb_add k]
    grind
theorem cmb_congr {X : Nat → Rw} {a b : Nat → Int} {c : Nat} : ∀ k, (∀ i, i < k → a i = b i) → cmb X a c k = cmb X b c k
  | 0, _ => rfl
  | k + 1, h => by
    simp only [cmb]
    rw [cmb_congr k (fun i hi => h i (by omega)), h k (by omega)]
theorem Cm.lin {X : Nat → Rw} {k : Nat} {u v : Rw} (hu : Cm X k u) (hv : Cm X k v) (s t : Int) : Cm X k (fun c => s * u c + t * v c) := by
  obtain ⟨a, ha⟩ := hu
  obtain ⟨b, hb⟩ := hv
  exact ⟨fun i => s * a i + t * b i, fun c => by rw [cmb_add, ← ha, ← hb]⟩
theorem Cm.up {X : Nat → Rw} {k : Nat} {v : Rw} (h : Cm X k v) : Cm X (k + 1) v := by
  obtain ⟨a, ha⟩ := h
  refine ⟨fun i => if i < k then a i else 0, fun c => ?_⟩
  rw [ha, cmb, cmb_congr k (b := a) (fun i hi => if_pos hi), if_neg (by omega)]
  omega
theorem Cm.row {X : Nat → Rw} {k i : Nat} (hi : i < k) : Cm X k (X i) := by
  induction k with
  | zero => omega
  | succ k ih =>
    by_cases e : i = k
    · subst e
      refine ⟨fun j => if j < i then 0 else 1, fun c => ?_⟩
      rw [cmb, cmb_congr i (b := fun _ => 0) (fun j hj => if_pos hj), if_neg (by omega)]
      have : ∀ n, cmb X (fun _ => 0) c n = 0 := by
        intro n
        induction n with
        | zero => rfl
        | succ n ih => rw [cmb, ih]; omega
      rw [this]
      omega
    · exact (ih (by omega)).up
theorem Cm.eq {X : Nat → Rw} {k : Nat} {u v : Rw} (h : Cm X k u) (e : ∀ c, v c = u c) : Cm X k v := by
  obtain ⟨a, ha⟩ := h
  exact ⟨a, fun c => by rw [e, ha]⟩
theorem Cm.zero {X : Nat → Rw} {k : Nat} : Cm X k (fun _ => 0) := by
  induction k with
  | zero => exact ⟨fun _ => 0, fun _ => rfl⟩
  | succ k ih => exact ih.up
/-- what was taken out: k rows, some times each -/
theorem vv_c (X : Nat → Rw) (r : Nat) {k : Nat} (hk : k ≤ 5) : Cm X k (fun c => vv X k r c - dd X k * X r c) := by
  match k, hk with
  | 0, _ => exact ⟨fun _ => 0, fun c => by
      show X r c - 1 * X r c = 0
      omega⟩
  | 1, _ => exact ⟨fun i => - X r 0, fun c => by
      show e2 c (X 0) (X r) - X 0 0 * X r c = 0 + - X r 0 * X 0 c
      unfold e2; grind⟩
  | 2, _ => exact ⟨fun i => if i = 0 then e2 1 (X 1) (X r) else - e2 1 (X 0) (X r), fun c => by
      show e3 c (X 0) (X 1) (X r) - e2 1 (X 0) (X 1) * X r c = 0 + e2 1 (X 1) (X r) * X 0 c + (- e2 1 (X 0) (X r)) * X 1 c
      unfold e3; grind⟩
  | 3, _ => exact ⟨fun i => if i = 0 then - e3 2 (X 1) (X 2) (X r) else if i = 1 then e3 2 (X 0) (X 2) (X r) else - e3 2 (X 0) (X 1) (X r), fun c => by
      show e4 c (X 0) (X 1) (X 2) (X r) - e3 2 (X 0) (X 1) (X 2) * X r c = 0 + - e3 2 (X 1) (X 2) (X r) * X 0 c + e3 2 (X 0) (X 2) (X r) * X 1 c + - e3 2 (X 0) (X 1) (X r) * X 2 c
      unfold e4; grind⟩
  | 4, _ => exact ⟨fun i => if i = 0 then e4 3 (X 1) (X 2) (X 3) (X r) else if i = 1 then - e4 3 (X 0) (X 2) (X 3) (X r) else if i = 2 then e4 3 (X 0) (X 1) (X 3) (X r) else - e4 3 (X 0) (X 1) (X 2) (X r), fun c => by
      show e5 c (X 0) (X 1) (X 2) (X 3) (X r) - e4 3 (X 0) (X 1) (X 2) (X 3) * X r c = 0 + e4 3 (X 1) (X 2) (X 3) (X r) * X 0 c + - e4 3 (X 0) (X 2) (X 3) (X r) * X 1 c + e4 3 (X 0) (X 1) (X 3) (X r) * X 2 c + - e4 3 (X 0) (X 1) (X 2) (X r) * X 3 c
      unfold e5; grind⟩
  | 5, _ => exact ⟨fun i => if i = 0 then - e5 4 (X 1) (X 2) (X 3) (X 4) (X r) else if i = 1 then e5 4 (X 0) (X 2) (X 3) (X 4) (X r) else if i = 2 then - e5 4 (X 0) (X 1) (X 3) (X 4) (X r) else if i = 3 then e5 4 (X 0) (X 1) (X 2) (X 4) (X r) else - e5 4 (X 0) (X 1) (X 2) (X 3) (X r), fun c => by
      show e6 c (X 0) (X 1) (X 2) (X 3) (X 4) (X r) - e5 4 (X 0) (X 1) (X 2) (X 3) (X 4) * X r c = 0 + - e5 4 (X 1) (X 2) (X 3) (X 4) (X r) * X 0 c + e5 4 (X 0) (X 2) (X 3) (X 4) (X r) * X 1 c + - e5 4 (X 0) (X 1) (X 3) (X 4) (X r) * X 2 c + e5 4 (X 0) (X 1) (X 2) (X 4) (X r) * X 3 c + - e5 4 (X 0) (X 1) (X 2) (X 3) (X r) * X 4 c
      unfold e6; grind⟩
/-- rows whose first k columns are all nothing, made of the first k rows, are nothing -/
theorem indp {X : Nat → Rw} : ∀ {k : Nat}, k ≤ 6 → (∀ i, i ≤ k → dd X i ≠ 0) → ∀ {v : Rw}, Cm X k v → (∀ c, c < k → v c = 0) → ∀ c, v c = 0
  | 0, _, _, v, ⟨a, ha⟩, _ => fun c => ha c
  | k + 1, hk, hd, v, ⟨a, ha⟩, hz => by
    have hk5 : k ≤ 5 := by omega
    have q : Cm X k (fun c => dd X k * v c - a k * vv X k k c) := by
      have c1 : Cm X k (fun c => cmb X a c k) := ⟨a, fun _ => rfl⟩
      refine (c1.lin (vv_c X k hk5) (dd X k) (- a k)).eq (fun c => ?_)
      rw [ha c, cmb]
      grind
    have z := indp (k := k) (by omega) (fun i hi => hd i (by omega)) q (fun c hc => by rw [hz c (by omega), vv_z k hk5 hc]; omega)
    have zk := z k
    rw [hz k (by omega)] at zk
    have hdk1 : vv X k k k ≠ 0 := hd (k + 1) (Nat.le_refl _)
    have ak : a k = 0 := by
      have : a k * vv X k k k = 0 := by omega
      rcases Int.mul_eq_zero.mp this with h | h
      · exact h
      · exact absurd h hdk1
    intro c
    have zc := z c
    rw [ak] at zc
    have : dd X k * v c = 0 := by omega
    rcases Int.mul_eq_zero.mp this with h | h
    · exact absurd h (hd k (by omega))
    · exact h
/-- one round of the elimination divides without a rest -/
theorem exa {X : Nat → Rw} {k : Nat} (hk : k ≤ 4) (hd : ∀ i, i ≤ k + 1 → dd X i ≠ 0) (r c : Nat) : dd X k * vv X (k + 1) r c = dd X (k + 1) * vv X k r c - vv X k r k * vv X k k c := by
  have c0 := vv_c X r (k := k + 1) (by omega)
  have c1 := (vv_c X r (k := k) (by omega)).up
  have c2 := (vv_c X k (k := k) (by omega)).up
  have c3 : Cm X (k + 1) (X k) := Cm.row (Nat.lt_succ_self k)
  have q : Cm X (k + 1) (fun c => dd X k * vv X (k + 1) r c - (dd X (k + 1) * vv X k r c - vv X k r k * vv X k k c)) := by
    refine ((((c0.lin c1 (dd X k) (- dd X (k + 1))).lin c2 1 (vv X k r k)).lin c3 1 (vv X k r k * dd X k)).eq (fun c => ?_))
    grind
  have := indp (k := k + 1) (by omega) hd q (fun c hc => by
    rw [vv_z r (by omega) hc]
    by_cases e : c = k
    · subst e
      rw [show dd X (c + 1) = vv X c c c from rfl]
      grind
    · rw [vv_z r (by omega) (show c < k by omega), vv_z k (by omega) (show c < k by omega)]
      omega) c
  omega
/-! a matrix with a weight that every row keeps above nothing -/
def su (f : Nat → Int) : Nat → Int
  | 0 => 0
  | m + 1 => su f m + f m
theorem su_congr {f g : Nat → Int} : ∀ {m : Nat}, (∀ c, c < m → f c = g c) → su f m = su g m
  | 0, _ => rfl
  | m + 1, h => by rw [su, su, su_congr (fun c hc => h c (by omega)), h m (by omega)]
theorem su_lin (a b : Int) (f g : Nat → Int) : ∀ m, su (fun c => a * f c + b * g c) m = a * su f m + b * su g m
  | 0 => by simp [su]
  | m + 1 => by
    rw [su, su, su, su_lin a b f g m]
    grind
theorem su_np {f : Nat → Int} : ∀ {m : Nat}, (∀ c, c < m → f c ≤ 0) → su f m ≤ 0
  | 0, _ => Int.le_refl _
  | m + 1, h => by
    have h1 := su_np (fun c hc => h c (by omega) : ∀ c, c < m → f c ≤ 0)
    have h2 := h m (by omega)
    rw [su]
    omega
theorem su_fu {f : Nat → Int} {j : Nat} (v : Int) : ∀ {m : Nat}, j < m → su (fu f j v) m = su f m + v - f j
  | m + 1, h => by
    rw [su, su]
    by_cases e : j = m
    · subst e
      rw [su_congr (g := f) (fun c hc => fu_n _ _ (by omega)), fu_s]
      omega
    · rw [su_fu v (show j < m by omega), fu_n _ _ (fun q => e q.symm)]
      omega
theorem su_one {f : Nat → Int} {r m : Nat} (hr : r < m) (h : ∀ c, c < m → c ≠ r → f c ≤ 0) : su f m ≤ f r := by
  have h1 := su_fu (f := f) 0 hr
  have h2 : su (fu f r 0) m ≤ 0 := su_np (fun c hc => by
    by_cases e : c = r
    · rw [e, fu_s]; exact Int.le_refl _
    · rw [fu_n _ _ e]; exact h c hc e)
  omega
theorem su_two {f : Nat → Int} {r j m : Nat} (hr : r < m) (hj : j < m) (hne : j ≠ r) (h : ∀ c, c < m → c ≠ r → f c ≤ 0) : su f m ≤ f r + f j := by
  have h1 := su_fu (f := f) 0 hj
  have h2 := su_one (f := fu f j 0) hr (fun c hc e => by
    by_cases e2 : c = j
    · rw [e2, fu_s]; exact Int.le_refl _
    · rw [fu_n _ _ e2]; exact h c hc e)
  rw [fu_n _ _ (fun q => hne q.symm)] at h2
  omega
/-- fewer columns, more of it -/
theorem su_sub {p : Nat → Nat} {n : Nat} : ∀ {m : Nat} {f : Nat → Int}, (∀ i, i < m → p i < n) → (∀ i j, i < m → j < m → p i = p j → i = j) → (∀ c, c < n → (∀ i, i < m → p i ≠ c) → f c ≤ 0) → su f n ≤ su (fun i => f (p i)) m
  | 0, f, _, _, h => su_np (fun c hc => h c hc (fun i hi => absurd hi (Nat.not_lt_zero _)))
  | m + 1, f, hp, hi, h => by
    have h1 := su_fu (f := f) 0 (hp m (by omega))
    have h2 := su_sub (m := m) (f := fu f (p m) 0) (fun i h => hp i (by omega)) (fun i j a b e => hi i j (by omega) (by omega) e) (fun c hc hn => by
      by_cases e : c = p m
      · rw [e, fu_s]; exact Int.le_refl _
      · rw [fu_n _ _ e]
        exact h c hc (fun i h3 => by
          by_cases e2 : i = m
          · rw [e2]; exact fun q => e q.symm
          · exact hn i (by omega)))
    have h3 : su (fun i => fu f (p m) 0 (p i)) m = su (fun i => f (p i)) m := su_congr (fun i h => fu_n _ _ (fun q => by
      have := hi i m (by omega) (by omega) q
      omega))
    rw [su]
    omega
/-- a matrix of rows that a weight keeps above nothing -/
abbrev Mm (X : Nat → Rw) (m : Nat) (x : Nat → Int) : Prop :=
  (∀ r c, r < m → c < m → c ≠ r → X r c ≤ 0) ∧ (∀ c, c < m → 0 < x c) ∧ (∀ r, r < m → 0 < su (fun c => X r c * x c) m) ∧ (∀ r, r < m → 0 ≤ su (X r) m) ∧ (∀ r, r < m → X r r ≤ 25) ∧ (∀ r, r < m → 0 ≤ X r 7) ∧ ∀ r, r < m → X r 7 ≤ 25
section MMM
variable {X : Nat → Rw} {m : Nat} {x : Nat → Int}
theorem Mm.off (h : Mm X m x) : ∀ r c, r < m → c < m → c ≠ r → X r c ≤ 0 := h.1
theorem Mm.wx (h : Mm X m x) : ∀ c, c < m → 0 < x c := h.2.1
theorem Mm.pos (h : Mm X m x) : ∀ r, r < m → 0 < su (fun c => X r c * x c) m := h.2.2.1
theorem Mm.row (h : Mm X m x) : ∀ r, r < m → 0 ≤ su (X r) m := h.2.2.2.1
theorem Mm.dia (h : Mm X m x) : ∀ r, r < m → X r r ≤ 25 := h.2.2.2.2.1
theorem Mm.rh0 (h : Mm X m x) : ∀ r, r < m → 0 ≤ X r 7 := h.2.2.2.2.2.1
theorem Mm.rh1 (h : Mm X m x) : ∀ r, r < m → X r 7 ≤ 25 := h.2.2.2.2.2.2
end MMM
/-- and its rows when k are taken out -/
abbrev Mk (X : Nat → Rw) (m : Nat) (x : Nat → Int) (k : Nat) : Prop :=
  (∀ i, i ≤ k → 0 < dd X i) ∧ (∀ r c, k ≤ r → r < m → c < m → c ≠ r → vv X k r c ≤ 0) ∧ (∀ r, k ≤ r → r < m → 0 < su (fun c => vv X k r c * x c) m) ∧ (∀ r, k ≤ r → r < m → 0 ≤ su (vv X k r) m) ∧ (∀ r, k ≤ r → r < m → vv X k r r ≤ 25 * dd X k) ∧ (∀ r, k ≤ r → r < m → 0 ≤ vv X k r 7) ∧ ∀ r, k ≤ r → r < m → vv X k r 7 ≤ 25 * 50 ^ k
section MKK
variable {X : Nat → Rw} {m k : Nat} {x : Nat → Int}
theorem Mk.dpos (h : Mk X m x k) : ∀ i, i ≤ k → 0 < dd X i := h.1
theorem Mk.off (h : Mk X m x k) : ∀ r c, k ≤ r → r < m → c < m → c ≠ r → vv X k r c ≤ 0 := h.2.1
theorem Mk.pos (h : Mk X m x k) : ∀ r, k ≤ r → r < m → 0 < su (fun c => vv X k r c * x c) m := h.2.2.1
theorem Mk.row (h : Mk X m x k) : ∀ r, k ≤ r → r < m → 0 ≤ su (vv X k r) m := h.2.2.2.1
theorem Mk.dia (h : Mk X m x k) : ∀ r, k ≤ r → r < m → vv X k r r ≤ 25 * dd X k := h.2.2.2.2.1
theorem Mk.rh0 (h : Mk X m x k) : ∀ r, k ≤ r → r < m → 0 ≤ vv X k r 7 := h.2.2.2.2.2.1
theorem Mk.rh1 (h : Mk X m x k) : ∀ r, k ≤ r → r < m → vv X k r 7 ≤ 25 * 50 ^ k := h.2.2.2.2.2.2
end MKK
theorem le_of_mul_le {a b d : Int} (hd : 0 < d) (h : d * a ≤ d * b) : a ≤ b := Int.le_of_mul_le_mul_left h hd
theorem Mk.dg {X : Nat → Rw} {m k : Nat} {x : Nat → Int} (h : Mk X m x k) (hx : ∀ c, c < m → 0 < x c) {r : Nat} (hr : k ≤ r) (hm : r < m) : 0 < vv X k r r := by
  have h1 := h.pos r hr hm
  have h2 := su_one (f := fun c => vv X k r c * x c) hm (fun c hc e => Int.mul_nonpos_of_nonpos_of_nonneg (h.off r c hr hm hc e) (Int.le_of_lt (hx c hc)))
  have h3 := hx r hm
  have h4 : 0 < vv X k r r * x r := Int.lt_of_lt_of_le h1 h2
  exact Int.pos_of_mul_pos_left h4 h3
theorem Mk.ab {X : Nat → Rw} {m k : Nat} {x : Nat → Int} (h : Mk X m x k) {r c : Nat} (hr : k ≤ r) (hm : r < m) (hc : c < m) (e : c ≠ r) : - vv X k r c ≤ vv X k r r := by
  have h1 := h.row r hr hm
  have h2 := su_two (f := vv X k r) hm hc e (fun c hc e => h.off r c hr hm hc e)
  omega
theorem Mm.k0 {X : Nat → Rw} {m : Nat} {x : Nat → Int} (h : Mm X m x) : Mk X m x 0 := by
  refine ⟨fun i hi => ?_, fun r c _ hr hc e => h.off r c hr hc e, fun r _ hr => h.pos r hr, fun r _ hr => h.row r hr, fun r _ hr => ?_, fun r _ hr => h.rh0 r hr, fun r _ hr => ?_⟩
  · obtain rfl : i = 0 := by omega
    exact Int.one_pos
  · have := h.dia r hr
    show X r r ≤ 25 * 1
    omega
  · have := h.rh1 r hr
    show X r 7 ≤ 25 * 1
    omega
theorem Mk.next {X : Nat → Rw} {m k : Nat} {x : Nat → Int} (h : Mk X m x k) (hx : ∀ c, c < m → 0 < x c) (hk : k ≤ 4) (hm : k < m) : Mk X m x (k + 1) := by
  have hp : 0 < dd X (k + 1) := h.dg hx (Nat.le_refl k) hm
  have hd0 : 0 < dd X k := h.dpos k (Nat.le_refl k)
  have hd : ∀ i, i ≤ k + 1 → 0 < dd X i := fun i hi => by
    by_cases e : i = k + 1
    · rw [e]; exact hp
    · exact h.dpos i (by omega)
  have ex := exa (X := X) hk (fun i hi => by have := hd i hi; omega)
  have hq (r : Nat) (h1 : k + 1 ≤ r) (h2 : r < m) : vv X k r k ≤ 0 := h.off r k (by omega) h2 hm (by omega)
  have hpl : dd X (k + 1) ≤ 25 * dd X k := h.dia k (Nat.le_refl k) hm
  refine ⟨hd, fun r c h1 h2 hc e => ?_, fun r h1 h2 => ?_, fun r h1 h2 => ?_, fun r h1 h2 => ?_, fun r h1 h2 => ?_, fun r h1 h2 => ?_⟩
  · by_cases hck : c ≤ k
    · rw [vv_z r (by omega) (by omega)]
      exact Int.le_refl _
    · have q := ex r c
      have a1 := h.off r c (by omega) h2 hc e
      have a2 := h.off k c (Nat.le_refl k) hm hc (by omega)
      have a3 := hq r h1 h2
      have b1 := Int.mul_nonpos_of_nonneg_of_nonpos (Int.le_of_lt hp) a1
      have b2 := Int.mul_nonneg_of_nonpos_of_nonpos a3 a2
      refine le_of_mul_le hd0 ?_
      omega
  · have q : su (fun c => dd X k * (vv X (k + 1) r c * x c) + 0 * 0) m = su (fun c => dd X (k + 1) * (vv X k r c * x c) + (- vv X k r k) * (vv X k k c * x c)) m := su_congr (fun c _ => by
      have := ex r c
      grind)
    rw [su_lin _ _ _ (fun _ => 0), su_lin] at q
    have a1 := h.pos r (by omega) h2
    have a2 := h.pos k (Nat.le_refl k) hm
    have a3 := hq r h1 h2
    have b1 := Int.mul_pos hp a1
    have b2 := Int.mul_nonneg (show 0 ≤ - vv X k r k by omega) (Int.le_of_lt a2)
    have b3 : 0 < dd X k * su (fun c => vv X (k + 1) r c * x c) m := by omega
    exact Int.pos_of_mul_pos_right b3 hd0
  · have q : su (fun c => dd X k * (vv X (k + 1) r c) + 0 * 0) m = su (fun c => dd X (k + 1) * (vv X k r c) + (- vv X k r k) * (vv X k k c)) m := su_congr (fun c _ => by
      have := ex r c
      grind)
    rw [su_lin _ _ _ (fun _ => 0), su_lin] at q
    have q : dd X k * su (vv X (k + 1) r) m + 0 * su (fun _ => 0) m = dd X (k + 1) * su (vv X k r) m + (- vv X k r k) * su (vv X k k) m := q
    have a1 := h.row r (by omega) h2
    have a2 := h.row k (Nat.le_refl k) hm
    have a3 := hq r h1 h2
    have b1 := Int.mul_nonneg (Int.le_of_lt hp) a1
    have b2 := Int.mul_nonneg (show 0 ≤ - vv X k r k by omega) a2
    refine le_of_mul_le hd0 ?_
    omega
  · have q := ex r r
    have a1 := h.dia r (by omega) h2
    have a2 := h.off k r (Nat.le_refl k) hm h2 (by omega)
    have a3 := hq r h1 h2
    have b2 := Int.mul_nonneg_of_nonpos_of_nonpos a3 a2
    have b1 := Int.mul_le_mul_of_nonneg_left a1 (Int.le_of_lt hp)
    refine le_of_mul_le hd0 ?_
    grind
  · have q := ex r 7
    have a1 := h.rh0 r (by omega) h2
    have a2 := h.rh0 k (Nat.le_refl k) hm
    have a3 := hq r h1 h2
    have b1 := Int.mul_nonneg (Int.le_of_lt hp) a1
    have b2 := Int.mul_nonneg (show 0 ≤ - vv X k r k by omega) a2
    refine le_of_mul_le hd0 ?_
    grind
  · have q := ex r 7
    have a1 := h.rh1 r (by omega) h2
    have a2 := h.rh1 k (Nat.le_refl k) hm
    have a0 := h.rh0 r (by omega) h2
    have a02 := h.rh0 k (Nat.le_refl k) hm
    have a3 := hq r h1 h2
    have a4 := h.ab (r := r) (c := k) (by omega) h2 hm (by omega)
    have a5 := h.dia r (by omega) h2
    have b1 := Int.mul_le_mul hpl a1 a0 (by omega : (0 : Int) ≤ 25 * dd X k)
    have b2 := Int.mul_le_mul (show - vv X k r k ≤ 25 * dd X k by omega) a2 a02 (by omega : (0 : Int) ≤ 25 * dd X k)
    refine le_of_mul_le hd0 ?_
    rw [Int.pow_succ]
    grind
theorem Mm.all {X : Nat → Rw} {m : Nat} {x : Nat → Int} (h : Mm X m x) : ∀ k, k ≤ 5 → k ≤ m → Mk X m x k
  | 0, _, _ => h.k0
  | k + 1, h5, hm => (h.all k (by omega) (by omega)).next h.wx (by omega) (by omega)
theorem Mm.d25 {X : Nat → Rw} {m : Nat} {x : Nat → Int} (h : Mm X m x) : ∀ k, k ≤ 6 → k ≤ m → 0 < dd X k ∧ dd X k ≤ 25 ^ k
  | 0, _, _ => ⟨Int.one_pos, Int.le_refl 1⟩
  | k + 1, h5, hm => by
    have hk := h.all k (by omega) (by omega)
    have h1 := hk.dg h.wx (Nat.le_refl k) hm
    have h2 := hk.dia k (Nat.le_refl k) hm
    have h3 := (h.d25 k (by omega) (by omega)).2
    refine ⟨h1, ?_⟩
    rw [Int.pow_succ]
    show vv X k k k ≤ _
    omega
/-- how large a row can be -/
theorem Mm.bd {X : Nat → Rw} {m : Nat} {x : Nat → Int} (h : Mm X m x) {k r c : Nat} (hk : k ≤ 5) (hr : k ≤ r) (hm : r < m) (hc : c < m) : - 25 ^ (k + 1) ≤ vv X k r c ∧ vv X k r c ≤ 25 ^ (k + 1) := by
  have hM := h.all k hk (by omega)
  have h1 := hM.dia r hr hm
  have h2 := (h.d25 k (by omega) (by omega)).2
  have h3 := hM.dg h.wx hr hm
  have h4 : (25 : Int) ^ (k + 1) = 25 ^ k * 25 := Int.pow_succ _ _
  by_cases e : c = r
  · rw [e]
    omega
  · have h5 := hM.ab hr hm hc e
    have h6 := hM.off r c hr hm hc e
    omega
