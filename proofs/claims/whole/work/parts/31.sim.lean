/-! the relation: the class's cells are a picture of the reference's rows -/
def lenI : List (Nat × Nat) := [(4, 5), (6, 6), (7, 6), (9, 8), (10, 8), (12, 8), (13, 8), (15, 40), (17, 40), (19, 40), (21, 40), (24, 5), (26, 6), (27, 6), (29, 8), (30, 8), (32, 8), (33, 8), (35, 40), (37, 40), (39, 40), (41, 40), (43, 100), (44, 12), (45, 12), (46, 12), (49, 40), (50, 40), (51, 40), (52, 40), (53, 40), (55, 5), (58, 6), (59, 6), (60, 6), (61, 6), (70, 40), (71, 40), (85, 232), (86, 232), (87, 232), (88, 100), (89, 36), (90, 40), (91, 40), (92, 40), (93, 40), (94, 40), (102, 6), (103, 6)]
def lenL : List (Nat × Nat) := [(56, 6), (57, 6), (63, 7), (64, 7), (65, 7), (66, 7), (67, 7), (68, 7), (73, 60), (75, 60), (77, 60), (79, 60), (81, 60), (83, 60), (96, 7), (97, 7), (98, 7), (99, 7), (100, 7), (101, 7), (104, 360)]
def Shp (A : Nat → List Int32) (L : Nat → List Int64) : Prop := (∀ q ∈ lenI, (A q.1).length = q.2) ∧ ∀ q ∈ lenL, (L q.1).length = q.2
section SIM
variable {I : Nat → Int32} {A : Nat → List Int32} {L : Nat → List Int64}
theorem Shp.i (h : Shp A L) {a n : Nat} (hm : (a, n) ∈ lenI) : (A a).length = n := h.1 (a, n) hm
theorem Shp.l (h : Shp A L) {a n : Nat} (hm : (a, n) ∈ lenL) : (L a).length = n := h.2 (a, n) hm
theorem Shp.fuI {a : Nat} {X : List Int32} (h : Shp A L) (hx : X.length = (A a).length) : Shp (fu A a X) L := by
  refine ⟨fun q hq => ?_, h.2⟩
  by_cases e : q.1 = a
  · rw [e, fu_s, hx, ← e]
    exact h.1 q hq
  · rw [fu_n _ _ e]
    exact h.1 q hq
theorem Shp.fuL {a : Nat} {X : List Int64} (h : Shp A L) (hx : X.length = (L a).length) : Shp A (fu L a X) := by
  refine ⟨h.1, fun q hq => ?_⟩
  by_cases e : q.1 = a
  · rw [e, fu_s, hx, ← e]
    exact h.2 q hq
  · rw [fu_n _ _ e]
    exact h.2 q hq
theorem Shp.val (h : Shp A L) {k : Nat} (hk : k < 4) : (A (15 + 2 * k)).length = 40 := h.i (by
  match k, hk with
  | 0, _ => decide
  | 1, _ => decide
  | 2, _ => decide
  | 3, _ => decide)
theorem Shp.tap (h : Shp A L) {k : Nat} (hk : k < 6) : (L (73 + 2 * k)).length = 60 := h.l (by
  match k, hk with
  | 0, _ => decide
  | 1, _ => decide
  | 2, _ => decide
  | 3, _ => decide
  | 4, _ => decide
  | 5, _ => decide)
theorem fu_fu {α : Type} (f : Nat → α) (k : Nat) (x y : α) : fu (fu f k x) k y = fu f k y := by
  funext j
  unfold fu
  split <;> rfl
theorem fu_cm {α : Type} (f : Nat → α) {k j : Nat} (x y : α) (h : k ≠ j) : fu (fu f k x) j y = fu (fu f j y) k x := by
  funext i
  unfold fu
  by_cases e1 : i = j
  · rw [if_pos e1, if_neg (by omega), if_pos e1]
  · rw [if_neg e1]
    by_cases e2 : i = k
    · rw [if_pos e2, if_pos e2]
    · rw [if_neg e2, if_neg e2, if_neg e1]
/-- a row as a function -/
def gw (A : Nat → List Int32) (a : Nat) : Nat → Int32 := fun j => (A a).getD j 0
/-- what a row of numbers of the reference holds: all within its bounds -/
def Vst (g : Nat → Int32) : Prop := (0 ≤ (g 0).toInt ∧ (g 0).toInt ≤ 4) ∧ (-20 ≤ (g 1).toInt ∧ (g 1).toInt ≤ 20) ∧ (0 ≤ (g 2).toInt ∧ (g 2).toInt ≤ 5) ∧ (1 ≤ (g 3).toInt ∧ (g 3).toInt ≤ 12) ∧ (∃ n, n ≤ 40 ∧ g 4 = nI n) ∧ ∀ p, p < 40 → -20 ≤ (g (5 + p)).toInt ∧ (g (5 + p)).toInt ≤ 20
theorem Vst.cg {g g' : Nat → Int32} (h : Vst g) (e : ∀ j, j < 45 → g' j = g j) : Vst g' := by
  unfold Vst
  rw [e 0 (by decide), e 1 (by decide), e 2 (by decide), e 3 (by decide), e 4 (by decide)]
  exact ⟨h.1, h.2.1, h.2.2.1, h.2.2.2.1, h.2.2.2.2.1, fun p hp => by rw [e (5 + p) (by omega)]; exact h.2.2.2.2.2 p hp⟩
def Vw (w : Nat → Int32) : Prop :=
  (∀ s, s < 4 → Vst (fun j => w (45 * s + j))) ∧
  (∀ k, k < 5 → 0 ≤ (w (180 + k)).toInt ∧ (w (180 + k)).toInt ≤ 5) ∧
  (∃ n, n ≤ 6 ∧ w 185 = nI n ∧ ∀ j, j < n → (∃ s, s < 4 ∧ w (186 + 2 * j) = nI s) ∧ ∃ p, p < 40 ∧ w (187 + 2 * j) = nI p) ∧
  (∃ n, n ≤ 8 ∧ w 198 = nI n ∧ ∀ j, j < n → ∃ s, s < 4 ∧ w (199 + 2 * j) = nI s ∧ (s < 2 → -20 ≤ (w (200 + 2 * j)).toInt ∧ (w (200 + 2 * j)).toInt ≤ 20) ∧ (s = 2 → 0 ≤ (w (200 + 2 * j)).toInt ∧ (w (200 + 2 * j)).toInt ≤ 5) ∧ (s = 3 → ∃ m, m ≤ 40 ∧ w (200 + 2 * j) = nI m)) ∧
  ∃ n, n ≤ 8 ∧ w 215 = nI n ∧ ∀ j, j < n → ∃ s, s < 4 ∧ w (216 + 2 * j) = nI s
/-- a set-up of the class (streams from b on, weights at wt, rows told by hand at r1, r2, r3) is w's picture -/
def Rs (I : Nat → Int32) (A : Nat → List Int32) (b : Nat) (w : Nat → Int32) : Prop := (∀ s k, s < 4 → k < 5 → I (100 * (b + 2 * s) + k) = w (45 * s + k)) ∧ ∀ s n p, s < 4 → w (45 * s + 4) = nI n → n ≤ 40 → p < n → (A (b + 1 + 2 * s)).getD p 0 = w (45 * s + 5 + p)
def Rr (I : Nat → Int32) (A : Nat → List Int32) (r : Nat) (w : Nat → Int32) (c : Nat) : Prop := I (100 * r + 3) = w c ∧ ∀ n j, w c = nI n → n ≤ 8 → j < n → (A (r + 1)).getD j 0 = w (c + 1 + 2 * j) ∧ (A (r + 2)).getD j 0 = w (c + 2 + 2 * j)
def Rn (I : Nat → Int32) (A : Nat → List Int32) (b wt r1 r2 r3 : Nat) (w : Nat → Int32) : Prop := Rs I A b w ∧ (∀ k, k < 5 → (A wt).getD k 0 = w (180 + k)) ∧ Rr I A r1 w 185 ∧ Rr I A r2 w 198 ∧ Rr I A r3 w 215
def Tx (I : Nat → Int32) (A : Nat → List Int32) : Prop := ∃ n, n ≤ 100 ∧ I 4201 = nI n ∧ I 8405 = nI n ∧ ∀ j, j < n → (A 43).getD j 0 = (A 88).getD j 0
def Tp (I : Nat → Int32) (A : Nat → List Int32) (L : Nat → List Int64) : Prop := ∀ t, t < 6 → I (100 * (72 + 2 * t) + 0) = gw A 102 t ∧ (-1 ≤ (gw A 102 t).toInt ∧ (gw A 102 t).toInt ≤ 4) ∧ ∃ n, n ≤ 60 ∧ I (100 * (72 + 2 * t) + 1) = nI n ∧ gw A 103 t = nI n ∧ (gw A 102 t = -1 → n = 0) ∧ ∀ j, j < n → (L (73 + 2 * t)).getD j 0 = (L 104).getD (60 * t + j) 0
def Im (I : Nat → Int32) (A : Nat → List Int32) : Prop := I 102 = I 8403 ∧ (I 102 = 0 ∨ (I 102 = 1 ∧ Rn I A 34 24 25 28 31 (gw A 86) ∧ Vw (gw A 86)))
def Sim (I : Nat → Int32) (A : Nat → List Int32) (L : Nat → List Int64) : Prop := Shp A L ∧ Rn I A 14 4 5 8 11 (gw A 85) ∧ Vw (gw A 85) ∧ Im I A ∧ Tx I A ∧ Tp I A L
def tyI (v : Value) : Prop := ∃ y, v = .int y
def tyL (v : Value) : Prop := ∃ y, v = .long y
/-- both sides answer alike, and the relation stays -/
def Pr (T : Value → Prop) (X M : Nat) (as : List Value) : Prop := ∀ (I : Nat → Int32) (A : Nat → List Int32) (L : Nat → List Int64) (F : Nat → Int64) (E : MH), Sim I A L → ∃ (v : Value) (I1 : Nat → Int32) (A1 : Nat → List Int32) (L1 : Nat → List Int64) (F1 : Nat → Int64) (E1 : MH) (I' : Nat → Int32) (A' : Nat → List Int32) (L' : Nat → List Int64) (F' : Nat → Int64) (E' : MH), T v ∧ mm_call G0 X (.ref 1 :: as) (HP I A L F E) = some (some v, HP I1 A1 L1 F1 E1) ∧ mm_call G0 M (.ref 84 :: as) (HP I1 A1 L1 F1 E1) = some (some v, HP I' A' L' F' E') ∧ Sim I' A' L' ∧ E'.length ≤ E.length + 9
theorem Sim.w (h : Sim I A L) {j : Nat} (hj : j < 232) : ldI (A 85) (nI j) = some (gw A 85 j) := by
  have hl := h.1.i (a := 85) (n := 232) (by decide)
  exact ldI_d (by omega) (by omega)
theorem Sim.fld (h : Sim I A L) {s k : Nat} (hs : s < 4) (hk : k < 5) : I (100 * (14 + 2 * s) + k) = gw A 85 (45 * s + k) := h.2.1.1.1 s k hs hk
theorem Sim.len (h : Sim I A L) {s : Nat} (hs : s < 4) : ∃ n, n ≤ 40 ∧ I (100 * (14 + 2 * s) + 4) = nI n ∧ gw A 85 (45 * s + 4) = nI n := by
  obtain ⟨n, h1, h2⟩ := (h.2.2.1.1 s hs).2.2.2.2.1
  exact ⟨n, h1, (h.fld hs (by decide)).trans h2, h2⟩
theorem Sim.val (h : Sim I A L) {s n p : Nat} (hs : s < 4) (hn : n ≤ 40) (hw : gw A 85 (45 * s + 4) = nI n) (hp : p < n) : (A (15 + 2 * s)).getD p 0 = gw A 85 (45 * s + 5 + p) := h.2.1.1.2 s n p hs hw hn hp
/-- what the relation reads: it stays where that stays -/
theorem Rs.cg {I' : Nat → Int32} {A' : Nat → List Int32} {b : Nat} {w : Nat → Int32} (h : Rs I A b w) (h1 : ∀ s k, s < 4 → k < 5 → I' (100 * (b + 2 * s) + k) = I (100 * (b + 2 * s) + k)) (h2 : ∀ s, s < 4 → A' (b + 1 + 2 * s) = A (b + 1 + 2 * s)) : Rs I' A' b w :=
  ⟨fun s k hs hk => (h1 s k hs hk).trans (h.1 s k hs hk), fun s n p hs hw hn hp => by rw [h2 s hs]; exact h.2 s n p hs hw hn hp⟩
theorem Rr.cg {I' : Nat → Int32} {A' : Nat → List Int32} {r c : Nat} {w : Nat → Int32} (h : Rr I A r w c) (h1 : I' (100 * r + 3) = I (100 * r + 3)) (h2 : A' (r + 1) = A (r + 1)) (h3 : A' (r + 2) = A (r + 2)) : Rr I' A' r w c :=
  ⟨h1.trans h.1, fun n j hw hn hj => by rw [h2, h3]; exact h.2 n j hw hn hj⟩
theorem Rn.cg {I' : Nat → Int32} {A' : Nat → List Int32} {b wt r1 r2 r3 : Nat} {w : Nat → Int32} (h : Rn I A b wt r1 r2 r3 w) (h1 : ∀ s k, s < 4 → k < 5 → I' (100 * (b + 2 * s) + k) = I (100 * (b + 2 * s) + k)) (h2 : ∀ s, s < 4 → A' (b + 1 + 2 * s) = A (b + 1 + 2 * s)) (h3 : A' wt = A wt)
    (h4 : I' (100 * r1 + 3) = I (100 * r1 + 3) ∧ A' (r1 + 1) = A (r1 + 1) ∧ A' (r1 + 2) = A (r1 + 2)) (h5 : I' (100 * r2 + 3) = I (100 * r2 + 3) ∧ A' (r2 + 1) = A (r2 + 1) ∧ A' (r2 + 2) = A (r2 + 2)) (h6 : I' (100 * r3 + 3) = I (100 * r3 + 3) ∧ A' (r3 + 1) = A (r3 + 1) ∧ A' (r3 + 2) = A (r3 + 2)) : Rn I' A' b wt r1 r2 r3 w :=
  ⟨h.1.cg h1 h2, fun k hk => by rw [h3]; exact h.2.1 k hk, h.2.2.1.cg h4.1 h4.2.1 h4.2.2, h.2.2.2.1.cg h5.1 h5.2.1 h5.2.2, h.2.2.2.2.cg h6.1 h6.2.1 h6.2.2⟩
theorem Im.cg {I' : Nat → Int32} {A' : Nat → List Int32} (h : Im I A) (h0 : I' 102 = I 102 ∧ I' 8403 = I 8403) (h1 : ∀ s k, s < 4 → k < 5 → I' (100 * (34 + 2 * s) + k) = I (100 * (34 + 2 * s) + k)) (h2 : ∀ s, s < 4 → A' (34 + 1 + 2 * s) = A (34 + 1 + 2 * s)) (h3 : A' 24 = A 24)
    (h4 : I' 2503 = I 2503 ∧ A' 26 = A 26 ∧ A' 27 = A 27) (h5 : I' 2803 = I 2803 ∧ A' 29 = A 29 ∧ A' 30 = A 30) (h6 : I' 3103 = I 3103 ∧ A' 32 = A 32 ∧ A' 33 = A 33) (h7 : A' 86 = A 86) : Im I' A' := by
  have e : gw A' 86 = gw A 86 := by unfold gw; rw [h7]
  refine ⟨by rw [h0.1, h0.2]; exact h.1, ?_⟩
  rw [h0.1, e]
  rcases h.2 with q | q
  · exact Or.inl q
  · exact Or.inr ⟨q.1, q.2.1.cg h1 h2 h3 h4 h5 h6, q.2.2⟩
theorem Tx.cg {I' : Nat → Int32} {A' : Nat → List Int32} (h : Tx I A) (h1 : I' 4201 = I 4201) (h2 : I' 8405 = I 8405) (h3 : A' 43 = A 43) (h4 : A' 88 = A 88) : Tx I' A' := by
  obtain ⟨n, a1, a2, a3, a4⟩ := h
  exact ⟨n, a1, h1.trans a2, h2.trans a3, fun j hj => by rw [h3, h4]; exact a4 j hj⟩
theorem Tp.cg {I' : Nat → Int32} {A' : Nat → List Int32} {L' : Nat → List Int64} (h : Tp I A L) (h1 : ∀ t k, t < 6 → k < 2 → I' (100 * (72 + 2 * t) + k) = I (100 * (72 + 2 * t) + k)) (h2 : A' 102 = A 102) (h3 : A' 103 = A 103) (h4 : ∀ t, t < 6 → L' (73 + 2 * t) = L (73 + 2 * t)) (h5 : L' 104 = L 104) : Tp I' A' L' := by
  intro t ht
  obtain ⟨a1, a2, n, a3, a4, a5, a6, a7⟩ := h t ht
  have e2 : gw A' 102 = gw A 102 := by unfold gw; rw [h2]
  have e3 : gw A' 103 = gw A 103 := by unfold gw; rw [h3]
  rw [e2, e3, h1 t 0 ht (by decide), h1 t 1 ht (by decide), h4 t ht, h5]
  exact ⟨a1, a2, n, a3, a4, a5, a6, a7⟩
end SIM
