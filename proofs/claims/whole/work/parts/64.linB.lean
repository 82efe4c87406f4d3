/-! some of the rows and columns, in another order -/
def sel (p : Nat → Nat) (Y : Nat → Rw) : Nat → Rw := fun i c => Y (p i) (p c)
theorem Mm.sub {Y : Nat → Rw} {n m : Nat} {x : Nat → Int} (h : Mm Y n x) {p : Nat → Nat} (h7 : p 7 = 7) (hp : ∀ i, i < m → p i < n) (hi : ∀ i j, i < m → j < m → p i = p j → i = j) : Mm (sel p Y) m (fun i => x (p i)) := by
  refine ⟨fun r c hr hc e => h.off (p r) (p c) (hp r hr) (hp c hc) (fun q => e (hi c r hc hr q)), fun c hc => h.wx (p c) (hp c hc), fun r hr => Int.lt_of_lt_of_le (h.pos (p r) (hp r hr)) (su_sub (f := fun c => Y (p r) c * x c) hp hi (fun c hc hn => Int.mul_nonpos_of_nonpos_of_nonneg (h.off (p r) c (hp r hr) hc (fun q => hn r hr q.symm)) (Int.le_of_lt (h.wx c hc)))), fun r hr => Int.le_trans (h.row (p r) (hp r hr)) (su_sub (f := Y (p r)) hp hi (fun c hc hn => h.off (p r) c (hp r hr) hc (fun q => hn r hr q.symm))), fun r hr => h.dia (p r) (hp r hr), fun r hr => ?_, fun r hr => ?_⟩
  · have := h.rh0 (p r) (hp r hr)
    show 0 ≤ Y (p r) (p 7)
    rw [h7]
    exact this
  · have := h.rh1 (p r) (hp r hr)
    show Y (p r) (p 7) ≤ 25
    rw [h7]
    exact this
theorem Cm.cmbs {Y : Nat → Rw} {n : Nat} {p : Nat → Nat} {a : Nat → Int} : ∀ {k : Nat}, (∀ i, i < k → p i < n) → Cm Y n (fun c => cmb (fun i => Y (p i)) a c k)
  | 0, _ => Cm.zero
  | k + 1, h => by
    refine ((Cm.cmbs (a := a) (fun i hi => h i (by omega) : ∀ i, i < k → p i < n)).lin (Cm.row (h k (by omega))) 1 (a k)).eq (fun c => ?_)
    rw [cmb]
    omega
theorem Mm.ne {Y : Nat → Rw} {n : Nat} {x : Nat → Int} (h : Mm Y n x) {k : Nat} (hk : k ≤ 6) (hn : k ≤ n) : ∀ i, i ≤ k → dd Y i ≠ 0 := fun i hi => by
  have := (h.d25 i (by omega) (by omega)).1
  omega
/-- a row r < c, by minors of the rows 0 .. c-1 with r put last -/
def pm (r k i : Nat) : Nat := if i < r then i else if i < k then i + 1 else if i = k then r else i
def qm (r k y : Nat) : Nat := if y < r then y else if y = r then k else if y ≤ k then y - 1 else y
theorem pq {r k : Nat} (h : r ≤ k) (y : Nat) : pm r k (qm r k y) = y := by
  unfold pm qm
  by_cases h1 : y < r
  · rw [if_pos h1, if_pos h1]
  · rw [if_neg h1]
    by_cases h2 : y = r
    · rw [if_pos h2, if_neg (by omega), if_neg (by omega), if_pos rfl, h2]
    · rw [if_neg h2]
      by_cases h3 : y ≤ k
      · rw [if_pos h3, if_neg (by omega), if_pos (by omega)]
        omega
      · rw [if_neg h3, if_neg (by omega), if_neg (by omega), if_neg (by omega)]
theorem pm_i {r k i j : Nat} (h : r ≤ k) (e : pm r k i = pm r k j) : i = j := by
  unfold pm at e
  split at e <;> split at e <;> (repeat' split at e) <;> omega
theorem pm_l {r k i n : Nat} (h : r ≤ k) (hk : k < n) (hi : i < n) : pm r k i < n := by
  unfold pm
  repeat' split
  all_goals omega
def upv (Y : Nat → Rw) (c r : Nat) : Rw := fun y => vv (sel (pm r (c - 1)) Y) (c - 1) (c - 1) (qm r (c - 1) y)
theorem Mm.up {Y : Nat → Rw} {n : Nat} {x : Nat → Int} (h : Mm Y n x) {c r : Nat} (hr : r < c) (hn : c ≤ n) (h6 : c ≤ 6) : Cm Y c (upv Y c r) ∧ 0 < upv Y c r r ∧ (∀ j, j < c → j ≠ r → upv Y c r j = 0) ∧ (∀ j, j < n → - 25 ^ c ≤ upv Y c r j ∧ upv Y c r j ≤ 25 ^ c) ∧ 0 ≤ upv Y c r 7 ∧ upv Y c r 7 ≤ 25 * 50 ^ (c - 1) := by
  have hk : r ≤ c - 1 := by omega
  have h7 : pm r (c - 1) 7 = 7 := by
    unfold pm
    rw [if_neg (by omega), if_neg (by omega), if_neg (by omega)]
  have q7 : qm r (c - 1) 7 = 7 := by
    unfold qm
    rw [if_neg (by omega), if_neg (by omega), if_neg (by omega)]
  have qr : qm r (c - 1) r = c - 1 := by
    unfold qm
    rw [if_neg (by omega), if_pos rfl]
  have hM : Mm (sel (pm r (c - 1)) Y) n (fun i => x (pm r (c - 1) i)) := h.sub h7 (fun i hi => pm_l hk (by omega) hi) (fun i j _ _ e => pm_i hk e)
  have hA := hM.all (c - 1) (by omega) (by omega)
  obtain ⟨a, ha⟩ := vv_c (sel (pm r (c - 1)) Y) (c - 1) (k := c - 1) (by omega)
  have e25 : (25 : Int) ^ c = 25 ^ (c - 1 + 1) := by rw [show c - 1 + 1 = c by omega]
  refine ⟨?_, ?_, fun j hj e => ?_, fun j hj => ?_, ?_, ?_⟩
  · have c1 : Cm Y c (fun y => cmb (fun i => Y (pm r (c - 1) i)) a y (c - 1)) := Cm.cmbs (fun i hi => pm_l hk (by omega) (by omega))
    refine (c1.lin (Cm.row hr) 1 (dd (sel (pm r (c - 1)) Y) (c - 1))).eq (fun y => ?_)
    have z : vv (sel (pm r (c - 1)) Y) (c - 1) (c - 1) (qm r (c - 1) y) - dd (sel (pm r (c - 1)) Y) (c - 1) * sel (pm r (c - 1)) Y (c - 1) (qm r (c - 1) y) = cmb (sel (pm r (c - 1)) Y) a (qm r (c - 1) y) (c - 1) := ha (qm r (c - 1) y)
    have e1 : ∀ k, cmb (sel (pm r (c - 1)) Y) a (qm r (c - 1) y) k = cmb (fun i => Y (pm r (c - 1) i)) a y k := by
      intro k
      induction k with
      | zero => rfl
      | succ k ih =>
        rw [cmb, cmb, ih]
        unfold sel
        rw [pq hk]
    have e2 : sel (pm r (c - 1)) Y (c - 1) (qm r (c - 1) y) = Y r y := by
      unfold sel
      rw [pq hk]
      congr 1
      unfold pm
      rw [if_neg (by omega), if_neg (by omega), if_pos rfl]
    rw [e1, e2] at z
    show vv _ _ _ _ = _
    omega
  · show 0 < vv _ _ _ _
    rw [qr]
    exact hA.dg (fun i hi => hM.wx i hi) (Nat.le_refl _) (by omega)
  · refine vv_z _ (by omega) ?_
    unfold qm
    repeat' split
    all_goals omega
  · rw [e25]
    refine hM.bd (by omega) (Nat.le_refl _) (by omega) ?_
    unfold qm
    repeat' split
    all_goals omega
  · show 0 ≤ vv _ _ _ _
    rw [q7]
    exact hA.rh0 _ (Nat.le_refl _) (by omega)
  · show vv _ _ _ _ ≤ _
    rw [q7]
    exact hA.rh1 _ (Nat.le_refl _) (by omega)
/-! a row while the columns below c are cleared -/
def Prm (n : Nat) (v : Rw) : Prop := ∀ d : Int, (∀ j, j < n → d ∣ v j) → d ∣ v 7 → d ∣ 1
abbrev Gr (Y : Nat → Rw) (n c r : Nat) (v : Rw) : Prop :=
  (r < c → (∃ s : Int, 0 < s ∧ Cm Y c (fun y => s * v y)) ∧ 0 < v r) ∧ (c ≤ r → ∃ s a : Int, 0 < s ∧ 0 < a ∧ Cm Y c (fun y => s * v y - a * Y r y)) ∧ (∀ j, j < c → j ≠ r → v j = 0) ∧ ((∀ y, v y = Y r y) ∨ Prm n v)
section GRR
variable {Y : Nat → Rw} {n c r : Nat} {v : Rw}
theorem Gr.lo (g : Gr Y n c r v) : r < c → (∃ s : Int, 0 < s ∧ Cm Y c (fun y => s * v y)) ∧ 0 < v r := g.1
theorem Gr.hi (g : Gr Y n c r v) : c ≤ r → ∃ s a : Int, 0 < s ∧ 0 < a ∧ Cm Y c (fun y => s * v y - a * Y r y) := g.2.1
theorem Gr.ze (g : Gr Y n c r v) : ∀ j, j < c → j ≠ r → v j = 0 := g.2.2.1
theorem Gr.pr (g : Gr Y n c r v) : (∀ y, v y = Y r y) ∨ Prm n v := g.2.2.2
end GRR
theorem Gr.prop {Y : Nat → Rw} {n c r : Nat} {x : Nat → Int} {v : Rw} (g : Gr Y n c r v) (h : Mm Y n x) (hc : c ≤ n) (h6 : c ≤ 6) (hr : r < n) (h5 : n ≤ 6) : 0 < v r ∧ ∃ (w : Rw) (s t : Int), 0 < s ∧ 0 < t ∧ (∀ y, s * v y = t * w y) ∧ (r < c → w = upv Y c r) ∧ (c ≤ r → w = vv Y c r) := by
  by_cases e : r < c
  · obtain ⟨⟨s, hs, c1⟩, hv⟩ := g.lo e
    obtain ⟨u1, u2, u3, -, -, -⟩ := h.up e hc h6
    refine ⟨hv, upv Y c r, upv Y c r r, v r, u2, hv, ?_, fun _ => rfl, fun q => absurd q (by omega)⟩
    have q := indp h6 (h.ne h6 hc) (c1.lin u1 (upv Y c r r) (- (s * v r))) (fun j hj => by
      by_cases e2 : j = r
      · rw [e2]; grind
      · rw [g.ze j hj e2, u3 j hj e2]; omega)
    intro y
    have z := q y
    have : s * (upv Y c r r * v y - v r * upv Y c r y) = 0 := by grind
    rcases Int.mul_eq_zero.mp this with k | k
    · omega
    · omega
  · obtain ⟨s, a, hs, ha, c1⟩ := g.hi (by omega)
    have c2 := vv_c Y r (k := c) (by omega)
    have hd := (h.d25 c h6 hc).1
    have q := indp h6 (h.ne h6 hc) (c1.lin c2 (dd Y c) (- a)) (fun j hj => by
      rw [g.ze j hj (by omega), vv_z r (by omega) hj]
      grind)
    have hpos : ∀ y, (dd Y c * s) * v y = a * vv Y c r y := fun y => by
      have := q y
      grind
    have hvr := (h.all c (by omega) hc).dg h.wx (r := r) (by omega) hr
    refine ⟨?_, vv Y c r, dd Y c * s, a, Int.mul_pos hd hs, ha, hpos, fun q => absurd q e, fun _ => rfl⟩
    have z := hpos r
    have p1 := Int.mul_pos ha hvr
    rw [← z] at p1
    exact Int.pos_of_mul_pos_right p1 (Int.mul_pos hd hs)
theorem prm_le {n : Nat} {v w : Rw} {s t : Int} (hp : Prm n v) (hs : 0 < s) (ht : 0 < t) (h : ∀ y, s * v y = t * w y) (y : Nat) : (v y).natAbs ≤ (w y).natAbs := by
  have hg : ∃ g : Int, s = t * g := by
    have hb : (↑(Int.gcd s t) : Int) ∣ s := Int.gcd_dvd_left ..
    have hb2 : (↑(Int.gcd s t) : Int) ∣ t := Int.gcd_dvd_right ..
    obtain ⟨s', hs'⟩ := hb
    obtain ⟨t', ht'⟩ := hb2
    have hg0 : (0 : Int) < (Int.gcd s t : Int) := by
      have : 0 < Int.gcd s t := Int.gcd_pos_of_ne_zero_left _ (by omega)
      omega
    have hcop : Int.gcd s' t' = 1 := by
      have e : Int.gcd s t = Int.gcd s t * Int.gcd s' t' := by
        have e0 : Int.gcd ((Int.gcd s t : Int) * s') ((Int.gcd s t : Int) * t') = (Int.gcd s t : Int).natAbs * Int.gcd s' t' := Int.gcd_mul_left ..
        rw [← hs', ← ht'] at e0
        simpa using e0
      have : 0 < Int.gcd s t := by omega
      have e2 : Int.gcd s t * 1 = Int.gcd s t * Int.gcd s' t' := by omega
      exact (Nat.eq_of_mul_eq_mul_left this e2).symm
    have hd : ∀ y, t' ∣ v y := fun y => by
      have e := h y
      have e3 : (Int.gcd s t : Int) * (s' * v y) = (Int.gcd s t : Int) * (t' * w y) := by
        rw [← Int.mul_assoc, ← Int.mul_assoc, ← hs', ← ht']
        exact e
      have e4 : s' * v y = t' * w y := Int.eq_of_mul_eq_mul_left (by omega) e3
      have e5 : t' ∣ s' * v y := ⟨w y, e4⟩
      have e6 := Int.natAbs_dvd_natAbs.mpr e5
      rw [Int.natAbs_mul] at e6
      exact Int.natAbs_dvd_natAbs.mp (Nat.Coprime.dvd_of_dvd_mul_left (show Nat.Coprime t'.natAbs s'.natAbs from by rw [Nat.Coprime, Nat.gcd_comm]; exact hcop) e6)
    have h1 := hp t' (fun j _ => hd j) (hd 7)
    obtain ⟨k, hk⟩ := h1
    exact ⟨k * s', by rw [ht', hs']; grind⟩
  obtain ⟨g, hg⟩ := hg
  have e := h y
  have e2 : g * v y = w y := by
    have : t * (g * v y) = t * w y := by rw [← Int.mul_assoc, ← hg]; exact e
    exact Int.eq_of_mul_eq_mul_left (by omega) this
  have hg0 : 0 < g := by
    rw [hg] at hs
    exact Int.pos_of_mul_pos_right hs ht
  rw [← e2, Int.natAbs_mul]
  exact Nat.le_mul_of_pos_left _ (by omega)
theorem pw25 {c : Nat} (h : c ≤ 5) : (25 : Int) ^ c ≤ 9765625 := by
  have : c = 0 ∨ c = 1 ∨ c = 2 ∨ c = 3 ∨ c = 4 ∨ c = 5 := by omega
  rcases this with rfl | rfl | rfl | rfl | rfl | rfl <;> decide
theorem pw50 {c : Nat} (h : c ≤ 4) : (50 : Int) ^ c ≤ 6250000 := by
  have : c = 0 ∨ c = 1 ∨ c = 2 ∨ c = 3 ∨ c = 4 := by omega
  rcases this with rfl | rfl | rfl | rfl | rfl <;> decide
theorem pw506 {c : Nat} (h : c ≤ 5) : (50 : Int) ^ c ≤ 312500000 := by
  have : c = 0 ∨ c = 1 ∨ c = 2 ∨ c = 3 ∨ c = 4 ∨ c = 5 := by omega
  rcases this with rfl | rfl | rfl | rfl | rfl | rfl <;> decide
theorem Mm.vb {Y : Nat → Rw} {n : Nat} {x : Nat → Int} (h : Mm Y n x) {k r y : Nat} (hk : k ≤ 4) (hr : k ≤ r) (hm : r < n) (hy : y < n ∨ y = 7) : (vv Y k r y).natAbs ≤ 156250000 := by
  rcases hy with hy | rfl
  · have b := h.bd (k := k) (r := r) (c := y) (by omega) hr hm hy
    have := pw25 (c := k + 1) (by omega)
    omega
  · have hA := h.all k (by omega) (by omega)
    have b1 := hA.rh0 r hr hm
    have b2 := hA.rh1 r hr hm
    have := pw50 (c := k) hk
    omega
theorem Mm.vb5 {Y : Nat → Rw} {n : Nat} {x : Nat → Int} (h : Mm Y n x) {k r y : Nat} (hk : k ≤ 5) (hr : k ≤ r) (hm : r < n) (hy : y < n ∨ y = 7) : (vv Y k r y).natAbs ≤ 7812500000 := by
  rcases hy with hy | rfl
  · have b := h.bd (k := k) (r := r) (c := y) (by omega) hr hm hy
    have := pw25 (c := k) (by omega)
    rw [Int.pow_succ] at b
    omega
  · have hA := h.all k (by omega) (by omega)
    have b1 := hA.rh0 r hr hm
    have b2 := hA.rh1 r hr hm
    have := pw506 (c := k) hk
    omega
theorem Gr.bnd {Y : Nat → Rw} {n c r : Nat} {x : Nat → Int} {v : Rw} (g : Gr Y n c r v) (h : Mm Y n x) (hc : c < n) (h6 : n ≤ 6) (hr : r < n) {y : Nat} (hy : y < n ∨ y = 7) : (v y).natAbs ≤ 7812500000 ∧ (r ≠ c → (v y).natAbs ≤ 156250000) := by
  rcases g.pr with e | e
  · have := h.vb (k := 0) (r := r) (by omega) (by omega) hr hy
    rw [e y]
    have e0 : vv Y 0 r y = Y r y := rfl
    rw [e0] at this
    exact ⟨by omega, fun _ => this⟩
  · obtain ⟨-, w, s, t, hs, ht, hw, w1, w2⟩ := g.prop h (by omega) (by omega) hr h6
    have q := prm_le e hs ht hw y
    by_cases e2 : r < c
    · rw [w1 e2] at q
      obtain ⟨-, -, -, u4, u5, u6⟩ := h.up e2 (by omega) (by omega)
      have : (upv Y c r y).natAbs ≤ 156250000 := by
        rcases hy with hy | rfl
        · have b := u4 y hy
          have := pw25 (c := c) (by omega)
          omega
        · have := pw50 (c := c - 1) (by omega)
          omega
      exact ⟨by omega, fun _ => by omega⟩
    · rw [w2 (by omega)] at q
      have b5 := h.vb5 (k := c) (r := r) (by omega) (by omega) hr hy
      refine ⟨by omega, fun e3 => ?_⟩
      have b4 := h.vb (k := c) (r := r) (by omega) (by omega) hr hy
      omega
theorem Gr.zero {Y : Nat → Rw} {n r : Nat} : Gr Y n 0 r (Y r) :=
  ⟨fun h => absurd h (Nat.not_lt_zero _), fun _ => ⟨1, 1, Int.one_pos, Int.one_pos, Cm.zero.eq (fun c => by omega)⟩, fun j hj => absurd hj (Nat.not_lt_zero _), .inl fun _ => rfl⟩
theorem Gr.nx {Y : Nat → Rw} {n c : Nat} {v : Rw} (g : Gr Y n c c v) (hv : 0 < v c) : Gr Y n (c + 1) c v := by
  refine ⟨fun _ => ?_, fun h => absurd h (by omega), fun j hj e => g.ze j (by omega) e, g.pr⟩
  obtain ⟨s, a, hs, ha, c1⟩ := g.hi (Nat.le_refl c)
  exact ⟨⟨s, hs, (c1.up.lin (Cm.row (Nat.lt_succ_self c)) 1 a).eq (fun y => by omega)⟩, hv⟩
theorem Gr.sk {Y : Nat → Rw} {n c r : Nat} {v : Rw} (g : Gr Y n c r v) (hv : v c = 0) (hr : r ≠ c) : Gr Y n (c + 1) r v := by
  refine ⟨fun h => ?_, fun h => ?_, fun j hj e => ?_, g.pr⟩
  · obtain ⟨⟨s, hs, c1⟩, hp⟩ := g.lo (by omega)
    exact ⟨⟨s, hs, c1.up⟩, hp⟩
  · obtain ⟨s, a, hs, ha, c1⟩ := g.hi (by omega)
    exact ⟨s, a, hs, ha, c1.up⟩
  · by_cases e2 : j = c
    · rw [e2]; exact hv
    · exact g.ze j (by omega) e
theorem Gr.st {Y : Nat → Rw} {n c r : Nat} {v u v' : Rw} {g : Int} (hV : Gr Y n c r v) (hU : Gr Y n c c u) (hp : 0 < u c) (hr : r ≠ c) (hg : 0 < g) (h : ∀ y, g * v' y = u c * v y - v c * u y) (hP : Prm n v') : Gr Y n (c + 1) r v' := by
  obtain ⟨s2, a2, hs2, ha2, c2⟩ := hU.hi (Nat.le_refl c)
  have c2' : Cm Y (c + 1) (fun y => s2 * u y) := (c2.up.lin (Cm.row (Nat.lt_succ_self c)) 1 a2).eq (fun y => by omega)
  refine ⟨fun q => ?_, fun q => ?_, fun j hj e => ?_, .inr hP⟩
  · obtain ⟨⟨s, hs, c1⟩, hpos⟩ := hV.lo (by omega)
    refine ⟨⟨s * s2 * g, Int.mul_pos (Int.mul_pos hs hs2) hg, (c1.up.lin c2' (s2 * u c) (- (s * v c))).eq (fun y => ?_)⟩, ?_⟩
    · have := h y
      grind
    · have z := h r
      rw [hU.ze r (by omega) hr] at z
      have p1 := Int.mul_pos hp hpos
      have p2 : 0 < g * v' r := by omega
      exact Int.pos_of_mul_pos_right p2 hg
  · obtain ⟨s, a, hs, ha, c1⟩ := hV.hi (by omega)
    refine ⟨s * s2 * g, s2 * u c * a, Int.mul_pos (Int.mul_pos hs hs2) hg, Int.mul_pos (Int.mul_pos hs2 hp) ha, (c1.up.lin c2' (s2 * u c) (- (s * v c))).eq (fun y => ?_)⟩
    have := h y
    grind
  · have z := h j
    have : g * v' j = 0 := by
      by_cases e2 : j = c
      · rw [z, e2]
        grind
      · rw [z, hV.ze j (by omega) e, hU.ze j (by omega) e2]
        omega
    rcases Int.mul_eq_zero.mp this with k | k
    · omega
    · exact k
theorem cmb_0 {X : Nat → Rw} {a : Nat → Int} {c : Nat} : ∀ {k : Nat}, (∀ i, i < k → X i c = 0) → cmb X a c k = 0
  | 0, _ => rfl
  | k + 1, h => by
    rw [cmb, cmb_0 (fun i hi => h i (by omega)), h k (by omega)]
    omega
/-- both eliminations lay the same fraction bare -/
theorem cls {Y : Nat → Rw} {n s : Nat} {x : Nat → Int} {o : Nat → Nat} {v : Rw} (h : Mm Y n x) (h6 : n ≤ 6) (h7 : o 7 = 7) (ho : ∀ i, i < s → o i < n) (hi : ∀ i j, i < s → j < s → o i = o j → i = j) (hcl : ∀ i y, i < s → y < n → (∀ j, j < s → o j ≠ y) → Y (o i) y = 0) (hs1 : 1 ≤ s) (hs : s ≤ n) (hG : Gr Y n n (o (s - 1)) v) : 0 < v (o (s - 1)) ∧ 0 < vv (sel o Y) (s - 1) (s - 1) (s - 1) ∧ vv (sel o Y) (s - 1) (s - 1) (s - 1) * v 7 = v (o (s - 1)) * vv (sel o Y) (s - 1) (s - 1) 7 := by
  have hX : Mm (sel o Y) s (fun i => x (o i)) := h.sub h7 ho hi
  have hpos := (hX.all (s - 1) (by omega) (by omega)).dg hX.wx (Nat.le_refl (s - 1)) (by omega)
  have hl : o (s - 1) < n := ho (s - 1) (by omega)
  obtain ⟨⟨t, ht, c1⟩, hv⟩ := hG.lo hl
  obtain ⟨a, ha⟩ := vv_c (sel o Y) (s - 1) (k := s - 1) (by omega)
  have c2 : Cm Y n (fun y => 1 * cmb (fun i => Y (o i)) a y (s - 1) + dd (sel o Y) (s - 1) * Y (o (s - 1)) y) := (Cm.cmbs (fun i hi => ho i (by omega))).lin (Cm.row hl) 1 _
  obtain ⟨W, hW⟩ : ∃ W : Rw, (fun y => 1 * cmb (fun i => Y (o i)) a y (s - 1) + dd (sel o Y) (s - 1) * Y (o (s - 1)) y) = W := ⟨_, rfl⟩
  have e1 : ∀ j k, cmb (sel o Y) a j k = cmb (fun i => Y (o i)) a (o j) k := by
    intro j k
    induction k with
    | zero => rfl
    | succ k ih =>
      rw [cmb, cmb, ih]
      rfl
  have wo : ∀ j, W (o j) = vv (sel o Y) (s - 1) (s - 1) j := fun j => by
    have z : vv (sel o Y) (s - 1) (s - 1) j - dd (sel o Y) (s - 1) * sel o Y (s - 1) j = cmb (sel o Y) a j (s - 1) := ha j
    rw [e1, show sel o Y (s - 1) j = Y (o (s - 1)) (o j) from rfl] at z
    rw [← hW]
    show 1 * cmb (fun i => Y (o i)) a (o j) (s - 1) + dd (sel o Y) (s - 1) * Y (o (s - 1)) (o j) = _
    omega
  rw [hW] at c2
  have q := indp h6 (h.ne h6 (Nat.le_refl n)) (c1.lin c2 (W (o (s - 1))) (- (t * v (o (s - 1))))) (fun y hy => by
    by_cases e : y = o (s - 1)
    · rw [e]; grind
    · have w0 : W y = 0 := by
        by_cases e2 : ∃ j, j < s ∧ o j = y
        · obtain ⟨j, hj, rfl⟩ := e2
          rw [wo]
          exact vv_z _ (by omega) (by
            have : j ≠ s - 1 := fun q => e (by rw [q])
            omega)
        · have hn : ∀ j, j < s → o j ≠ y := fun j hj q => e2 ⟨j, hj, q⟩
          rw [← hW]
          show 1 * cmb (fun i => Y (o i)) a y (s - 1) + dd (sel o Y) (s - 1) * Y (o (s - 1)) y = 0
          rw [cmb_0 (fun i hi => hcl i y (by omega) hy hn), hcl (s - 1) y (by omega) hy hn]
          omega
      rw [hG.ze y hy e, w0]
      omega) 7
  have w7 : W 7 = vv (sel o Y) (s - 1) (s - 1) 7 := by
    have := wo 7
    rw [h7] at this
    exact this
  have wl := wo (s - 1)
  refine ⟨hv, hpos, ?_⟩
  rw [← wl, ← w7]
  have : t * (W (o (s - 1)) * v 7 - v (o (s - 1)) * W 7) = 0 := by grind
  rcases Int.mul_eq_zero.mp this with k | k
  · omega
  · omega
