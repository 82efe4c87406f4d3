/-! the whole text; read -/
abbrev Cl : Type := Int32 × Int32 × Int32
theorem pn2_q {t : Nat → Int32} {n r : Nat} {neg : Bool} (hr : r ≤ n) : match pn2 t n r neg with
    | .inl q => q ≤ n
    | .inr (_, q) => q ≤ n := by
  unfold pn2
  by_cases h : n ≤ r
  · rw [if_pos h]
    exact hr
  · rw [if_neg h]
    by_cases hd : dgp (t r)
    · rw [if_pos hd]
      by_cases h2 : r + 1 < n ∧ dgp (t (r + 1))
      · rw [if_pos h2]
        show r + 2 ≤ n
        omega
      · rw [if_neg h2]
        show r + 1 ≤ n
        omega
    · rw [if_neg hd]
      exact hr
theorem pnm_q {t : Nat → Int32} {n p : Nat} (hp : p ≤ n) : match pnm t n p with
    | .inl q => q ≤ n
    | .inr (_, q) => q ≤ n := by
  unfold pnm
  by_cases h : p < n ∧ t p = 45
  · rw [if_pos h]
    exact pn2_q (by omega)
  · rw [if_neg h]
    exact pn2_q hp
theorem pcl_q {t : Nat → Int32} {n p : Nat} (hp : p ≤ n) : match pcl t n p with
    | .inl q => q ≤ n
    | .inr (cl, q) => q ≤ n ∧ okL cl.1 := by
  unfold pcl
  by_cases h : n ≤ p
  · rw [if_pos h]
    exact hp
  rw [if_neg h]
  by_cases hL : okL (t p)
  rotate_left 1
  · rw [if_neg hL]
    exact hp
  rw [if_pos hL]
  by_cases h1 : n ≤ p + 1
  · rw [if_pos h1]
    show p + 1 ≤ n
    omega
  rw [if_neg h1]
  by_cases hD : dgp (t (p + 1))
  rotate_left 1
  · rw [if_neg hD]
    show p + 1 ≤ n
    omega
  rw [if_pos hD]
  by_cases hN : okN (t p) = true
  · rw [if_pos hN]
    have hq := pnm_q (t := t) (n := n) (p := p + 2) (by omega)
    cases hR : pnm t n (p + 2) with
    | inl q =>
      rw [hR] at hq
      exact hq
    | inr vq =>
      obtain ⟨v, q⟩ := vq
      rw [hR] at hq
      exact ⟨hq, hL⟩
  · rw [if_neg hN]
    by_cases h2 : n ≤ p + 2
    · rw [if_pos h2]
      show p + 2 ≤ n
      omega
    rw [if_neg h2]
    by_cases hD2 : dgp (t (p + 2))
    · rw [if_pos hD2]
      exact ⟨show p + 3 ≤ n by omega, hL⟩
    · rw [if_neg hD2]
      show p + 2 ≤ n
      omega
/-- a text: its fault, or its clauses -/
noncomputable def ptx (t : Nat → Int32) (n : Nat) : Nat → Nat → List Cl → Nat ⊕ List Cl
  | 0, p, _ => .inl p
  | f + 1, p, C => match pcl t n p with
    | .inl q => .inl q
    | .inr (c, q) => if q = n then .inr (C ++ [c]) else if f = 0 then .inl q else if t q = 59 then ptx t n f (q + 1) (C ++ [c]) else .inl q
def PX (I : Nat → Int32) (A : Nat → List Int32) (C : List Cl) : Prop := I 4202 = nI C.length ∧ ∀ j c, C[j]? = some c → (A 44).getD j 0 = c.1 ∧ (A 45).getD j 0 = c.2.1 ∧ (A 46).getD j 0 = c.2.2
def PM (I : Nat → Int32) (A : Nat → List Int32) (C : List Cl) : Prop := I 8409 = nI C.length ∧ ∀ j c, C[j]? = some c → (A 89).getD (3 * j) 0 = c.1 ∧ (A 89).getD (3 * j + 1) 0 = c.2.1 ∧ (A 89).getD (3 * j + 2) 0 = c.2.2
def OkC (C : List Cl) : Prop := ∀ (j : Nat) (c : Cl), C[j]? = some c → okL c.1
theorem app_get {C : List Cl} {c d : Cl} {j : Nat} (h : (C ++ [c])[j]? = some d) : (j < C.length ∧ C[j]? = some d) ∨ (j = C.length ∧ d = c) := by
  by_cases hj : j < C.length
  · rw [List.getElem?_append_left hj] at h
    exact Or.inl ⟨hj, h⟩
  · rw [List.getElem?_append_right (by omega)] at h
    match hk : j - C.length, h with
    | 0, h =>
      exact Or.inr ⟨by omega, (Option.some.inj h).symm⟩
    | k + 1, h =>
      cases h
theorem OkC.app {C : List Cl} {c : Cl} (h : OkC C) (hc : okL c.1) : OkC (C ++ [c]) := fun j d hd => by
  rcases app_get hd with ⟨-, q⟩ | ⟨-, q⟩
  · exact h j d q
  · rw [q]
    exact hc
section TXT
variable {L : Nat → List Int64} {F : Nat → Int64} {E : MH}
theorem txt_x {n : Nat} {t : Nat → Int32} (hn : n ≤ 100) : ∀ (f p : Nat) (C : List Cl) (I : Nat → Int32) (A : Nat → List Int32), 0 < f → C.length + f = 12 → p ≤ n → I 4201 = nI n → Shp A L → (∀ j, j < n → (A 43).getD j 0 = t j) → PX I A C → OkC C → match ptx t n f p C with
    | .inl q => ∃ (I' : Nat → Int32) (A' : Nat → List Int32), mm_run G0 50 9 [some (.ref 42), some (.int 0), some (.int (nI p))] [] (HP I A L F E) = some (some (.int (nI q)), HP I' A' L F E) ∧ CX I A I' A' ∧ q ≤ n
    | .inr D => ∃ (I' : Nat → Int32) (A' : Nat → List Int32), mm_run G0 50 9 [some (.ref 42), some (.int 0), some (.int (nI p))] [] (HP I A L F E) = some (some (.int (-1)), HP I' A' L F E) ∧ CX I A I' A' ∧ PX I' A' D ∧ OkC D ∧ D.length ≤ 12 := by
  intro f
  induction f with
  | zero => intro p C I A h0; exact absurd h0 (Nat.lt_irrefl _)
  | succ f ih =>
    intro p C I A h0 hC hp h1 hs ht hP hO
    have l43 := hs.i (a := 43) (n := 100) (by decide)
    have l44 := hs.i (a := 44) (n := 12) (by decide)
    have l45 := hs.i (a := 45) (n := 12) (by decide)
    have l46 := hs.i (a := 46) (n := 12) (by decide)
    have hcl := clause_x (L := L) (F := F) (E := E) hn h1 (show C.length < 12 by omega) hP.1 hs ht hp
    have hq := pcl_q (t := t) hp
    unfold ptx
    cases hR : pcl t n p with
    | inl q =>
      rw [hR] at hcl hq
      obtain ⟨I', A', x1, x2⟩ := hcl
      exact ⟨I', A', x1, x2, hq⟩
    | inr cq =>
      obtain ⟨c, q⟩ := cq
      rw [hR] at hcl hq
      obtain ⟨I', A', due, x1, x2, x3, x4, x5, x6, x7, x8⟩ := hcl
      have h1' : I' 4201 = nI n := (x2.1 _ (by decide) (by decide)).trans h1
      have ht' : ∀ j, j < n → (A' 43).getD j 0 = t j := fun j hj => by rw [x2.2.1 _ (by decide) (by decide) (by decide)]; exact ht j hj
      have hs' : Shp A' L := hs.cg x2.2.2
      have m43 := hs'.i (a := 43) (n := 100) (by decide)
      have elen : (C ++ [c]).length = C.length + 1 := by rw [List.length_append]; rfl
      have hP' : PX I' A' (C ++ [c]) := by
        refine ⟨by rw [elen]; exact x5, fun j d hd => ?_⟩
        rw [x6, x7, x8, getD_set (by omega), getD_set (by omega), getD_set (by omega)]
        rcases app_get hd with ⟨hj, q⟩ | ⟨hj, q⟩
        · rw [if_neg (by omega), if_neg (by omega), if_neg (by omega)]
          exact hP.2 j d q
        · rw [if_pos hj, if_pos hj, if_pos hj, q]
          exact ⟨rfl, rfl, rfl⟩
      have hO' := hO.app hq.2
      dsimp only
      by_cases e : q = n
      · rw [if_pos e]
        refine ⟨I', A', ?_, x2, hP', hO', by omega⟩
        rw [x1, sg_X6_fault_9, h1', if_pos (n_le (a := n) (b := q) (by omega) (by omega))]
        rcases x3 with z | z
        · rw [z, if_neg (by decide), if_neg (fun y => y rfl)]
        · rw [z.1, if_pos rfl]
      · rw [if_neg e]
        have hqn : q < n := by omega
        -- the sign between clauses
        have te : ∀ s : Int32, mm_call G0 55 [.ref 42, .int (t q)] (HP I' A' L F E) = some (some (.int s), HP I' A' L F E) → mm_call G0 51 [.ref 42, .int due, .int (t q)] (HP I' A' L F E) = some (some (.int s), HP I' A' L F E) := fun s hs5 => by
          rcases x3 with z | z
          · rw [z, sg_X6_take_0, if_neg (by decide), if_neg (by decide), if_neg (by decide), if_neg (by decide), if_neg (by decide), if_neg (by decide), hs5, Option.bind_some]
            exact sg_X6_take_128 6 _ s
          · rw [z.1, sg_X6_take_0, if_neg (by decide), if_neg (by decide), if_neg (by decide), if_neg (by decide), if_neg (by decide), if_pos rfl, if_neg (z.2.resolve_left (by omega)), hs5, Option.bind_some]
            exact sg_X6_take_122 5 _ s
        have bad : mm_call G0 55 [.ref 42, .int (t q)] (HP I' A' L F E) = some (some (.int (-1)), HP I' A' L F E) → ∃ (I'' : Nat → Int32) (A'' : Nat → List Int32), mm_run G0 50 9 [some (.ref 42), some (.int 0), some (.int (nI p))] [] (HP I A L F E) = some (some (.int (nI q)), HP I'' A'' L F E) ∧ CX I A I'' A'' ∧ q ≤ n := fun hb =>
          ⟨I', A', x1.trans (fx_no hn h1' m43 ht' hqn (te _ hb)), x2, x4⟩
        by_cases hf : f = 0
        · rw [if_pos hf]
          refine bad ?_
          rw [sg_X6_takeEnd_0, x5]
          by_cases h59 : t q = 59
          · rw [if_neg (fun z => z h59), if_pos (show (12 : Int32) ≤ nI (C.length + 1) from n_le (a := 12) (b := C.length + 1) (by omega) (by omega))]
          · rw [if_pos h59]
        · rw [if_neg hf]
          by_cases h59 : t q = 59
          · rw [if_pos h59]
            have ok : mm_call G0 55 [.ref 42, .int (t q)] (HP I' A' L F E) = some (some (.int 0), HP I' A' L F E) := by
              rw [sg_X6_takeEnd_0, if_neg (fun z => z h59), x5, if_neg (show ¬ (12 : Int32) ≤ nI (C.length + 1) from n_nle (a := C.length + 1) (b := 12) (by omega) (by omega))]
            have st := fx_go hn h1' m43 ht' hqn (te _ ok) (by decide)
            have y := ih (q + 1) (C ++ [c]) I' A' (by omega) (by omega) (by omega) h1' hs' ht' hP' hO'
            cases hR2 : ptx t n f (q + 1) (C ++ [c]) with
            | inl q2 =>
              rw [hR2] at y
              obtain ⟨I2, A2, y1, y2, y3⟩ := y
              exact ⟨I2, A2, (x1.trans st).trans y1, x2.tr y2, y3⟩
            | inr D =>
              rw [hR2] at y
              obtain ⟨I2, A2, y1, y2, y3⟩ := y
              exact ⟨I2, A2, (x1.trans st).trans y1, x2.tr y2, y3⟩
          · rw [if_neg h59]
            refine bad ?_
            rw [sg_X6_takeEnd_0, if_pos h59]
def KP (I : Nat → Int32) (A : Nat → List Int32) (I' : Nat → Int32) (A' : Nat → List Int32) : Prop := MX I I' ∧ (∀ a, a ≠ 89 → A' a = A a) ∧ ∀ a, (A' a).length = (A a).length
theorem KP.tr {I I1 I2 : Nat → Int32} {A A1 A2 : Nat → List Int32} (h : KP I A I1 A1) (h2 : KP I1 A1 I2 A2) : KP I A I2 A2 := ⟨h.1.tr h2.1, fun a x => (h2.2.1 a x).trans (h.2.1 a x), fun a => (h2.2.2 a).trans (h.2.2 a)⟩
theorem txt_m {n : Nat} {t : Nat → Int32} (hn : n ≤ 100) : ∀ (f p : Nat) (C : List Cl) (I : Nat → Int32) (A : Nat → List Int32), 0 < f → C.length + f = 12 → p ≤ n → I 8405 = nI n → I 8406 = nI p → Shp A L → (∀ j, j < n → (A 88).getD j 0 = t j) → PM I A C → match ptx t n f p C with
    | .inl q => ∃ (I' : Nat → Int32) (A' : Nat → List Int32), mm_run G0 134 10 [some (.ref 84)] [] (HP I A L F E) = some (some (.int 0), HP I' A' L F E) ∧ KP I A I' A' ∧ I' 8406 = nI q
    | .inr D => ∃ (I' : Nat → Int32) (A' : Nat → List Int32), mm_run G0 134 10 [some (.ref 84)] [] (HP I A L F E) = some (some (.int 1), HP I' A' L F E) ∧ KP I A I' A' ∧ PM I' A' D := by
  intro f
  induction f with
  | zero => intro p C I A h0; exact absurd h0 (Nat.lt_irrefl _)
  | succ f ih =>
    intro p C I A h0 hC hp h5 h6 hs ht hP
    have l88 := hs.i (a := 88) (n := 100) (by decide)
    have l89 := hs.i (a := 89) (n := 36) (by decide)
    have hcl := clause_m (L := L) (F := F) (E := E) hn h5 h6 hP.1 (show C.length < 12 by omega) hp hs ht
    have hq := pcl_q (t := t) hp
    unfold ptx
    cases hR : pcl t n p with
    | inl q =>
      rw [hR] at hcl hq
      obtain ⟨I', x1, x2, x3⟩ := hcl
      refine ⟨I', A, ?_, ⟨x3, fun _ _ => rfl, fun _ => rfl⟩, x2⟩
      rw [sg_X8_readsText_10, x1, Option.bind_some]
      refine (sg_X8_readsText_14 0).trans ?_
      rw [if_neg (fun z => z rfl)]
    | inr cq =>
      obtain ⟨c, q⟩ := cq
      rw [hR] at hcl hq
      obtain ⟨I', x1, x2, x3, x4⟩ := hcl
      have h5' : I' 8405 = nI n := (x4 _ (by decide) (by decide) (by decide)).trans h5
      have elen : (C ++ [c]).length = C.length + 1 := by rw [List.length_append]; rfl
      have el : (row3 (A 89) C.length c).length = (A 89).length := by
        unfold row3
        rw [List.length_set, List.length_set, List.length_set]
      have kp : KP I A I' (fu A 89 (row3 (A 89) C.length c)) := ⟨x4, fun a ha => fu_n _ _ ha, fun a => by
        by_cases e : a = 89
        · rw [e, fu_s, el]
        · rw [fu_n _ _ e]⟩
      have hs' : Shp (fu A 89 (row3 (A 89) C.length c)) L := hs.cg kp.2.2
      have ht' : ∀ j, j < n → ((fu A 89 (row3 (A 89) C.length c)) 88).getD j 0 = t j := fun j hj => by rw [fu_n _ _ (by decide)]; exact ht j hj
      have hP' : ∀ I2 : Nat → Int32, I2 8409 = nI (C.length + 1) → PM I2 (fu A 89 (row3 (A 89) C.length c)) (C ++ [c]) := fun I2 h9 => by
        refine ⟨by rw [elen]; exact h9, fun j d hd => ?_⟩
        rw [fu_s]
        unfold row3
        rw [getD_set (by rw [List.length_set, List.length_set]; omega), getD_set (by rw [List.length_set]; omega), getD_set (by omega), getD_set (by rw [List.length_set, List.length_set]; omega), getD_set (by rw [List.length_set]; omega), getD_set (by omega), getD_set (by rw [List.length_set, List.length_set]; omega), getD_set (by rw [List.length_set]; omega), getD_set (by omega)]
        rcases app_get hd with ⟨hj, q⟩ | ⟨hj, q⟩
        · repeat rw [if_neg (by omega)]
          exact hP.2 j d q
        · subst hj
          rw [q]
          refine ⟨?_, ?_, ?_⟩
          · rw [if_neg (by omega), if_neg (by omega), if_pos rfl]
          · rw [if_neg (by omega), if_pos rfl]
          · rw [if_pos rfl]
      have head : mm_run G0 134 10 [some (.ref 84)] [] (HP I A L F E) = mm_run G0 134 14 [some (.ref 84)] [.int 1] (HP I' (fu A 89 (row3 (A 89) C.length c)) L F E) := by
        rw [sg_X8_readsText_10, x1, Option.bind_some]
        rfl
      rw [head, sg_X8_readsText_14, if_pos (by decide), x2, h5']
      dsimp only
      by_cases e : q = n
      · rw [if_pos e, if_neg (fun z => z (by rw [e]))]
        exact ⟨I', _, rfl, kp, hP' I' x3⟩
      · have ne : nI q ≠ nI n := fun z => e ((nI_eq (by omega) (by omega)).mp z)
        rw [if_neg e, if_pos ne, x3]
        by_cases hf : f = 0
        · rw [if_pos hf, if_pos (show nI (C.length + 1) = (12 : Int32) by rw [show C.length + 1 = 12 by omega]; rfl)]
          exact ⟨I', _, rfl, kp, x2⟩
        · rw [if_neg hf, if_neg (show ¬ nI (C.length + 1) = (12 : Int32) from fun z => by
            have := (nI_eq (a := C.length + 1) (b := 12) (by omega) (by decide)).mp z
            omega), ldI_d (by rw [fu_n _ _ (by decide)]; omega) (by rw [fu_n _ _ (by decide)]; omega), Option.bind_some, ht' q (by omega)]
          by_cases h59 : t q = 59
          · rw [if_pos h59, if_pos h59, in1]
            have k2 : KP I' (fu A 89 (row3 (A 89) C.length c)) (fu I' 8406 (nI (q + 1))) (fu A 89 (row3 (A 89) C.length c)) := ⟨fun x q1 q2 q3 => fu_n _ _ q1, fun _ _ => rfl, fun _ => rfl⟩
            have y := ih (q + 1) (C ++ [c]) (fu I' 8406 (nI (q + 1))) (fu A 89 (row3 (A 89) C.length c)) (by omega) (by omega) (by omega) (by rw [fu_n _ _ (by decide)]; exact h5') (fu_s _ _ _) hs' ht' (hP' _ (by rw [fu_n _ _ (by decide)]; exact x3))
            cases hR2 : ptx t n f (q + 1) (C ++ [c]) with
            | inl q2 =>
              rw [hR2] at y
              obtain ⟨I2, A2, y1, y2, y3⟩ := y
              exact ⟨I2, A2, y1, (kp.tr k2).tr y2, y3⟩
            | inr D =>
              rw [hR2] at y
              obtain ⟨I2, A2, y1, y2, y3⟩ := y
              exact ⟨I2, A2, y1, (kp.tr k2).tr y2, y3⟩
          · rw [if_neg h59, if_neg h59]
            exact ⟨I', _, rfl, kp, x2⟩
/-- the clauses are done, each side by itself -/
theorem do_loop {C : List Cl} (hC : C.length ≤ 12) (hO : OkC C) (z : Int32) (v1 : Int32) : ∀ (d j : Nat) (m : Int32) (I : Nat → Int32) (A : Nat → List Int32) (W : List Int32), j + d = C.length → Sim (fu I 8405 z) (fu A 85 W) L → PX I A C → ∃ (m' : Int32) (I' : Nat → Int32) (A' : Nat → List Int32) (W' : List Int32), (∀ (F : Nat → Int64) (E : MH), mm_run G0 66 30 [some (.ref 1), some (.int v1), some (.int m), some (.int (nI j))] [] (HP I A L F E) = some (some (.int m'), HP I' A' L F E)) ∧ (∀ (I2 : Nat → Int32) (A2 : Nat → List Int32) (L2 : Nat → List Int64) (F : Nat → Int64) (E : MH) (y1 : Int32), A2 85 = W → Shp A2 L2 → PM I2 A2 C → mm_run G0 136 26 [some (.ref 84), some (.int y1), some (.int m), some (.int (nI j))] [] (HP I2 A2 L2 F E) = some (some (.int m'), HP I2 (fu A2 85 W') L2 F E)) ∧ Sim (fu I' 8405 z) (fu A' 85 W') L ∧ (∀ a, 22 ≤ a → A' a = A a) ∧ ∀ x, ¬ (500 ≤ x ∧ x < 2100) → I' x = I x := by
  intro d
  induction d with
  | zero =>
    intro j m I A W hj hS hP
    refine ⟨m, I, A, W, fun F E => ?_, fun I2 A2 L2 F E y1 hW hs2 hP2 => ?_, hS, fun _ _ => rfl, fun _ _ => rfl⟩
    · rw [sg_X7_read_30, hP.1, if_pos (n_le (a := C.length) (b := j) (by omega) (by omega))]
    · rw [sg_X8_read_26, hP2.1, if_pos (n_le (a := C.length) (b := j) (by omega) (by omega)), fu_same hW]
  | succ d ih =>
    intro j m I A W hj hS hP
    have l44 := hS.1.i (a := 44) (n := 12) (by decide)
    have l45 := hS.1.i (a := 45) (n := 12) (by decide)
    have l46 := hS.1.i (a := 46) (n := 12) (by decide)
    rw [fu_n _ _ (by decide)] at l44 l45 l46
    obtain ⟨c, hc⟩ : ∃ c, C[j]? = some c := ⟨C[j], List.getElem?_eq_getElem (by omega)⟩
    obtain ⟨e1, e2, e3⟩ := hP.2 j c hc
    obtain ⟨v, I1, A1, W1, ⟨y, ey⟩, q1, q2, q3, q4, q5⟩ := ps_clause (hO j c hc) c.2.1 c.2.2 I A L W z hS
    subst ey
    have hP1 : PX I1 A1 C := ⟨(q5 _ (by decide)).trans hP.1, fun j' c' h' => by rw [q4 _ (by decide), q4 _ (by decide), q4 _ (by decide)]; exact hP.2 j' c' h'⟩
    obtain ⟨m', I', A', W', x1, x2, x3, x4, x5⟩ := ih (j + 1) (if y = 0 then m else m + 1) I1 A1 W1 (by omega) q3 hP1
    refine ⟨m', I', A', W', fun F E => ?_, fun I2 A2 L2 F E y1 hW hs2 hP2 => ?_, x3, fun a ha => (x4 a ha).trans (q4 a ha), fun x hx => (x5 x hx).trans (q5 x hx)⟩
    · rw [sg_X7_read_30, hP.1, if_neg (n_nle (a := j) (b := C.length) (by omega) (by omega)), ldI_d (by omega) (by omega), Option.bind_some, ldI_d (by omega) (by omega), Option.bind_some, ldI_d (by omega) (by omega), Option.bind_some, e1, e2, e3, q1, Option.bind_some]
      refine (sg_X7_read_72 v1 m (nI j) y).trans ?_
      rw [in1, ← x1 F E]
      by_cases h : y = 0
      · rw [if_pos h, if_pos h]
      · rw [if_neg h, if_neg h]
    · have l89 := hs2.i (a := 89) (n := 36) (by decide)
      obtain ⟨f1, f2, f3⟩ := hP2.2 j c hc
      have i0 : (3 : Int32) * nI j = nI (3 * j) := by rw [show (3 : Int32) = nI 3 from rfl, pk_mul]
      have hl85 : W1.length = 232 := q3.1.i (a := 85) (n := 232) (by decide)
      have hW85 : W.length = 232 := hS.1.i (a := 85) (n := 232) (by decide)
      rw [sg_X8_read_26, hP2.1, if_neg (n_nle (a := j) (b := C.length) (by omega) (by omega)), i0, ldI_d (by omega) (by omega), Option.bind_some, show nI (3 * j) + 1 = nI (3 * j + 1) from in1 _, ldI_d (by omega) (by omega), Option.bind_some, show nI (3 * j) + 2 = nI (3 * j + 2) by rw [show (2 : Int32) = nI 2 from rfl, nI_add], ldI_d (by omega) (by omega), Option.bind_some, f1, f2, f3, q2 I2 A2 L2 F E hW, Option.bind_some]
      refine (sg_X8_read_67 y1 m (nI j) m y).trans ?_
      have hx := x2 I2 (fu A2 85 W1) L2 F E y1 (fu_s _ _ _) (hs2.fuI (by rw [hW, hl85, hW85])) ⟨hP2.1, fun j' c' h' => by rw [fu_n _ _ (by decide)]; exact hP2.2 j' c' h'⟩
      rw [fu_fu] at hx
      rw [in1, ← hx, Int32.add_zero]
      by_cases h : y = 0
      · rw [if_pos h, if_pos h]
      · rw [if_neg h, if_neg h]
end TXT
theorem sim_txt0 {I : Nat → Int32} {A : Nat → List Int32} {L : Nat → List Int64} (h : Sim I A L) : Sim (fu (fu I 4201 0) 8405 0) A L := by
  have hI : ∀ x, x ≠ 4201 → x ≠ 8405 → fu (fu I 4201 0) 8405 0 x = I x := fun x h1 h2 => by rw [fu_n _ _ h2, fu_n _ _ h1]
  refine ⟨h.1, h.2.1.cg (fun s k _ _ => hI _ (by omega) (by omega)) (fun _ _ => rfl) rfl ⟨hI _ (by decide) (by decide), rfl, rfl⟩ ⟨hI _ (by decide) (by decide), rfl, rfl⟩ ⟨hI _ (by decide) (by decide), rfl, rfl⟩, h.2.2.1, h.2.2.2.1.cg ⟨hI _ (by decide) (by decide), hI _ (by decide) (by decide)⟩ (fun s k _ _ => hI _ (by omega) (by omega)) (fun _ _ => rfl) rfl ⟨hI _ (by decide) (by decide), rfl, rfl⟩ ⟨hI _ (by decide) (by decide), rfl, rfl⟩ ⟨hI _ (by decide) (by decide), rfl, rfl⟩ rfl, ⟨0, by decide, by rw [fu_n _ _ (by decide), fu_s]; rfl, fu_s _ _ _, fun j hj => absurd hj (Nat.not_lt_zero _)⟩, h.2.2.2.2.2.cg (fun t k _ _ => hI _ (by omega) (by omega)) rfl rfl (fun _ _ => rfl) rfl⟩
theorem pr_read : Pr tyI 66 136 [] := by
  intro I A L F E hS
  obtain ⟨n, hn, t1, t2, t3⟩ := hS.2.2.2.2.1
  have ht43 : ∀ j, j < n → (A 43).getD j 0 = (fun j => (A 88).getD j 0) j := t3
  have hx := txt_x (L := L) (F := F) (E := E) (t := fun j => (A 88).getD j 0) hn 12 0 [] (fu I 4202 0) A (by decide) rfl (Nat.zero_le _) (by rw [fu_n _ _ (by decide)]; exact t1) hS.1 ht43 ⟨fu_s _ _ _, fun j c h => by cases h⟩ (fun j c h => by cases h)
  have k0 : CX I A (fu I 4202 0) A := ⟨fun x q _ => fu_n _ _ q, fun _ _ _ _ => rfl, fun _ => rfl⟩
  -- the reference's text, over any heap that has kept its cells
  have hy : ∀ (I1 : Nat → Int32) (A1 : Nat → List Int32), Shp A1 L → I1 8405 = nI n → A1 88 = A 88 → _ := fun I1 A1 s1 g5 e88 => txt_m (L := L) (F := F) (E := E) (t := fun j => (A 88).getD j 0) hn 12 0 [] (fu (fu I1 8406 0) 8409 0) A1 (by decide) rfl (Nat.zero_le _) (by rw [fu_n _ _ (by decide), fu_n _ _ (by decide)]; exact g5) (by rw [fu_n _ _ (by decide), fu_s]; rfl) s1 (fun j hj => by rw [e88]) ⟨fu_s _ _ _, fun j c h => by cases h⟩
  cases hR : ptx (fun j => (A 88).getD j 0) n 12 0 [] with
  | inl q =>
    rw [hR] at hx
    obtain ⟨I1, A1, x1, x2, x3⟩ := hx
    have kx : CX I A I1 A1 := k0.tr x2
    have s1 : Sim I1 A1 L := sim_scr hS kx.2.2 (fun _ => rfl) (fun x h1 h2 => kx.1 x (by omega) (by omega)) (fun a h1 h2 h3 => kx.2.1 a (by omega) (by omega) (by omega)) (fun _ _ _ => rfl)
    have y := hy (fu I1 4201 0) A1 s1.1 (by rw [fu_n _ _ (by decide), kx.1 _ (by decide) (by decide)]; exact t2) (kx.2.1 _ (by decide) (by decide) (by decide))
    rw [hR] at y
    obtain ⟨I2, A2, y1, y2, y3⟩ := y
    have kp : ∀ x, x ≠ 8406 → x ≠ 8407 → x ≠ 8409 → I2 x = fu I1 4201 0 x := fun x a b c => by rw [y2.1 x a b c, fu_n _ _ c, fu_n _ _ a]
    refine ⟨.int (-10 - nI q), (fu I1 4201 0), A1, L, F, E, fu I2 8405 0, A2, L, F, E, ⟨_, rfl⟩, ?_, ?_, ?_, Nat.le_add_right _ _⟩
    · rw [sg_X7_read_0, sg_X6_fault_0, show (0 : Int32) = nI 0 from rfl]
      rw [show mm_run G0 50 9 [some (.ref 42), some (.int (nI 0)), some (.int (nI 0))] [] (HP (fu I 4202 (nI 0)) A L F E) = _ from x1, Option.bind_some]
      refine (sg_X7_read_7 (nI q)).trans ?_
      have hne : ¬ nI q = -1 := by
        rw [i_eq, nI_toInt (by omega), ci1]
        omega
      rw [if_neg hne]
      rfl
    · rw [sg_X8_read_0, sg_X8_readsText_0, y1, Option.bind_some]
      refine (sg_X8_read_4 0).trans ?_
      rw [if_neg (fun z => z rfl), y3]
    · have e : fu I2 8405 0 = fu (fu (fu I2 4201 (I1 4201)) 4201 0) 8405 0 := by
        rw [fu_fu, fu_same (f := I2) (a := 4201) (x := 0) (by rw [kp _ (by decide) (by decide) (by decide), fu_s])]
      rw [e]
      refine sim_txt0 (sim_scr s1 y2.2.2 (fun _ => rfl) (fun x h1 h2 => ?_) (fun a h1 h2 h3 => y2.2.1 a (by omega)) (fun _ _ _ => rfl))
      by_cases e4 : x = 4201
      · rw [e4, fu_s]
      · rw [fu_n _ _ e4, kp x (by omega) (by omega) (by omega), fu_n _ _ e4]
  | inr D =>
    rw [hR] at hx
    obtain ⟨I1, A1, x1, x2, x3, x4, x5⟩ := hx
    have kx : CX I A I1 A1 := k0.tr x2
    have s1 : Sim I1 A1 L := sim_scr hS kx.2.2 (fun _ => rfl) (fun x h1 h2 => kx.1 x (by omega) (by omega)) (fun a h1 h2 h3 => kx.2.1 a (by omega) (by omega) (by omega)) (fun _ _ _ => rfl)
    have s1' : Sim (fu (fu I1 4201 0) 8405 0) (fu A1 85 (A1 85)) L := by
      rw [fu_id]
      exact sim_txt0 s1
    obtain ⟨m', I3, A3, W3, z1, z2, z3, z4, z5⟩ := do_loop (L := L) x5 x4 0 (-1) D.length 0 0 (fu I1 4201 0) A1 (A1 85) (by omega) s1' ⟨by rw [fu_n _ _ (by decide)]; exact x3.1, x3.2⟩
    have e88 : A3 88 = A 88 := by rw [z4 _ (by decide), kx.2.1 _ (by decide) (by decide) (by decide)]
    have sh3 : Shp A3 L := ⟨fun q hq => by
      by_cases e : q.1 = 85
      · have := s1.1.1 q hq
        rw [e] at this ⊢
        rw [z4 _ (by decide)]
        exact this
      · have := z3.1.1 q hq
        rw [fu_n _ _ e] at this
        exact this, z3.1.2⟩
    have y := hy I3 A3 sh3 (by rw [z5 _ (by decide), fu_n _ _ (by decide), kx.1 _ (by decide) (by decide)]; exact t2) e88
    rw [hR] at y
    obtain ⟨I2, A2, y1, y2, y3⟩ := y
    have e85 : A2 85 = A1 85 := by rw [y2.2.1 _ (by decide), z4 _ (by decide)]
    have hm := z2 (fu I2 8405 0) A2 L F E 1 e85 (sh3.cg y2.2.2) ⟨by rw [fu_n _ _ (by decide)]; exact y3.1, y3.2⟩
    have kp : ∀ x, x ≠ 8406 → x ≠ 8407 → x ≠ 8409 → I2 x = I3 x := fun x a b c => by rw [y2.1 x a b c, fu_n _ _ c, fu_n _ _ a]
    have el3 := z3.1.i (a := 85) (n := 232) (by decide)
    refine ⟨.int m', I3, A3, L, F, E, fu I2 8405 0, fu A2 85 W3, L, F, E, ⟨_, rfl⟩, ?_, ?_, ?_, Nat.le_add_right _ _⟩
    · rw [sg_X7_read_0, sg_X6_fault_0, show (0 : Int32) = nI 0 from rfl]
      rw [show mm_run G0 50 9 [some (.ref 42), some (.int (nI 0)), some (.int (nI 0))] [] (HP (fu I 4202 (nI 0)) A L F E) = _ from x1, Option.bind_some]
      refine (sg_X7_read_7 (-1)).trans ?_
      rw [if_pos rfl]
      exact z1 F E
    · rw [sg_X8_read_0, sg_X8_readsText_0, y1, Option.bind_some]
      refine (sg_X8_read_4 1).trans ?_
      rw [if_pos (by decide)]
      exact hm
    · refine sim_scr z3 (fun a => ?_) (fun _ => rfl) (fun x h1 h2 => ?_) (fun a h1 h2 h3 => ?_) (fun _ _ _ => rfl)
      · by_cases e : a = 85
        · rw [e, fu_s, fu_s]
        · rw [fu_n _ _ e, fu_n _ _ e, y2.2.2]
      · by_cases e : x = 8405
        · rw [e, fu_s, fu_s]
        · rw [fu_n _ _ e, fu_n _ _ e, kp x (by omega) (by omega) (by omega)]
      · by_cases e : a = 85
        · rw [e, fu_s, fu_s]
        · rw [fu_n _ _ e, fu_n _ _ e, y2.2.1 a (by omega)]
