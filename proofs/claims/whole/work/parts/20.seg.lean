/-! the run by stretches: rules for the printed equations -/
def G0 : MG := mm_G []
def mm_gt (t : List (Nat × Act)) : Nat → Nat → ML → List Value → MH → Option (Nat × ML × List Value × MH)
  | 0, pc, L, st, h => some (pc, L, st, h)
  | k + 1, pc, L, st, h => match t.lookup pc with
    | none => none
    | some a => match a L st h with
      | some (.inl (pc', L', st', h')) => mm_gt t k pc' L' st' h'
      | _ => none
def fu {α : Type} (f : Nat → α) (k : Nat) (v : α) : Nat → α := fun j => if j = k then v else f j
theorem fu_s {α : Type} (f : Nat → α) (k : Nat) (v : α) : fu f k v k = v := if_pos rfl
theorem fu_n {α : Type} (f : Nat → α) {k j : Nat} (v : α) (h : j ≠ k) : fu f k v j = f j := if_neg h
def ldI (l : List Int32) (i : Int32) : Option Int32 := if i < 0 then none else l[i.toNatClampNeg]?
def ldL (l : List Int64) (i : Int32) : Option Int64 := if i < 0 then none else l[i.toNatClampNeg]?
def ldR (l : List (Option Nat)) (i : Int32) : Option Nat := if i < 0 then none else (l[i.toNatClampNeg]?).join
def stI (l : List Int32) (i x : Int32) : Option (List Int32) := if ¬ i < 0 ∧ i.toNatClampNeg < l.length then some (l.set i.toNatClampNeg x) else none
def stL (l : List Int64) (i : Int32) (x : Int64) : Option (List Int64) := if ¬ i < 0 ∧ i.toNatClampNeg < l.length then some (l.set i.toNatClampNeg x) else none
def cpI (l0 l1 : List Int32) (sp dp n : Int32) : Option (List Int32) := if ¬ sp < 0 ∧ ¬ dp < 0 ∧ ¬ n < 0 ∧ sp.toNatClampNeg + n.toNatClampNeg ≤ l0.length ∧ dp.toNatClampNeg + n.toNatClampNeg ≤ l1.length then some (mm_cpy 0 l0 l1 sp.toNatClampNeg dp.toNatClampNeg n.toNatClampNeg) else none
def cpL (l0 l1 : List Int64) (sp dp n : Int32) : Option (List Int64) := if ¬ sp < 0 ∧ ¬ dp < 0 ∧ ¬ n < 0 ∧ sp.toNatClampNeg + n.toNatClampNeg ≤ l0.length ∧ dp.toNatClampNeg + n.toNatClampNeg ≤ l1.length then some (mm_cpy 0 l0 l1 sp.toNatClampNeg dp.toNatClampNeg n.toNatClampNeg) else none
def imax (x y : Int32) : Int32 := if x < y then y else x
def imin (x y : Int32) : Int32 := if y < x then y else x
def lmax (x y : Int64) : Int64 := if y < x then x else y
def labs (x : Int64) : Int64 := if 0 < x then x else -x
def bi (b : Bool) : Int32 := if b = true then 1 else 0
def swt (x : Int32) (lo : Int) (ts : List Nat) (d : Nat) : Nat := if x.toInt < lo then d else ts.getD (x.toInt - lo).toNat d
theorem swt_nil (x : Int32) (lo : Int) (d : Nat) : swt x lo [] d = d := by
  unfold swt
  split <;> rfl
theorem swt_cons {x k : Int32} {lo lo' : Int} {t d : Nat} {ts : List Nat} (hk : k.toInt = lo) (hl : lo + 1 = lo') : swt x lo (t :: ts) d = if x = k then t else swt x lo' ts d := by
  unfold swt
  by_cases e : x = k
  · subst e
    rw [if_neg (by omega), if_pos rfl, hk, Int.sub_self]
    rfl
  · rw [if_neg e]
    have hne : x.toInt ≠ lo := fun q => e (Int32.toInt_inj.mp (q.trans hk.symm))
    by_cases h : x.toInt < lo
    · rw [if_pos h, if_pos (by omega)]
    · rw [if_neg h, if_neg (by omega)]
      have : (x.toInt - lo).toNat = (x.toInt - lo').toNat + 1 := by omega
      rw [this]
      rfl
theorem bind_cg {α β : Type} {o : Option α} {f g : α → Option β} (h : ∀ x, o = some x → f x = g x) : o.bind f = o.bind g := by
  cases o with
  | none => rfl
  | some x => exact h x rfl
theorem bind_eq {α β : Type} {o o' : Option α} {f : α → Option β} (h : o = o') : o.bind f = o'.bind f := by rw [h]
theorem ite_bd {α β : Type} {c : Prop} [Decidable c] {a b : Option α} {f : α → Option β} : (if c then a else b).bind f = if c then a.bind f else b.bind f := by
  split <;> rfl
theorem bind_as {α β γ : Type} {o : Option α} {f : α → Option β} {g : β → Option γ} : (o.bind f).bind g = o.bind fun x => (f x).bind g := by
  cases o <;> rfl
theorem none_bd {α β : Type} {f : α → Option β} : (none : Option α).bind f = none := rfl
section SG
variable {mi : Nat} {t : List (Nat × Act)} {pc n : Nat} {L : ML} {h : MH} {r : List Value}
theorem sg_go (ht : ∀ pc, mm_act G0 mi pc = t.lookup pc) {k pc' : Nat} {L' : ML} {st st' : List Value} {h' : MH} (e : mm_gt t k pc L st h = some (pc', L', st', h')) : mm_run G0 mi pc L st h = mm_run G0 mi pc' L' st' h' := by
  induction k generalizing pc L st h with
  | zero => cases e; rfl
  | succ k ih =>
    unfold mm_gt at e
    split at e
    · cases e
    · rename_i a ha
      split at e
      · rename_i hr
        exact (mm_step ((ht pc).trans ha) hr).trans (ih e)
      · cases e
theorem sg_ret (ht : ∀ pc, mm_act G0 mi pc = t.lookup pc) {a : Act} {v : Option Value} {st : List Value} (e : t.lookup pc = some a) (e2 : a L st h = some (.inr (.inr v))) : mm_run G0 mi pc L st h = some (v, h) := mm_ret ((ht pc).trans e) e2
theorem sg_fail (ht : ∀ pc, mm_act G0 mi pc = t.lookup pc) {a : Act} {st : List Value} (e : t.lookup pc = some a) (e2 : a L st h = none) : mm_run G0 mi pc L st h = none := mm_fail ((ht pc).trans e) e2
theorem sg_call (ht : ∀ pc, mm_act G0 mi pc = t.lookup pc) {a : Act} {mj : Nat} {st as rest : List Value} (e : t.lookup pc = some a) (e2 : a L st h = some (.inr (.inl (mj, as, rest, n)))) (hk : mm_rk G0 mj < mm_rk G0 mi ∧ (mm_ent as).length ≤ mm_ml G0 mj) : mm_run G0 mi pc L st h = (mm_call G0 mj as h).bind fun q => mm_run G0 mi n L (q.1.toList ++ rest) q.2 := mm_cal ((ht pc).trans e) e2 hk
theorem sg_if {c : Int32 → Prop} {ic : ∀ x, Decidable (c x)} (ht : ∀ pc, mm_act G0 mi pc = t.lookup pc) {tg : Nat} {x : Int32} (e : t.lookup pc = some (ac_if (fun x => @decide (c x) (ic x)) tg n)) : mm_run G0 mi pc L (.int x :: r) h = @ite _ (c x) (ic x) (mm_run G0 mi tg L r h) (mm_run G0 mi n L r h) := by
  by_cases q : c x
  · rw [if_pos q]
    refine mm_step ((ht pc).trans e) ?_
    show some (Sum.inl (if @decide (c x) (ic x) = true then tg else n, L, r, h)) = _
    rw [if_pos (decide_eq_true q)]
  · rw [if_neg q]
    refine mm_step ((ht pc).trans e) ?_
    show some (Sum.inl (if @decide (c x) (ic x) = true then tg else n, L, r, h)) = _
    rw [if_neg (fun z => q (of_decide_eq_true z))]
theorem sg_cmp {c : Int32 → Int32 → Prop} {ic : ∀ x y, Decidable (c x y)} (ht : ∀ pc, mm_act G0 mi pc = t.lookup pc) {tg : Nat} {x y : Int32} (e : t.lookup pc = some (ac_cmp (fun x y => @decide (c x y) (ic x y)) tg n)) : mm_run G0 mi pc L (.int y :: .int x :: r) h = @ite _ (c x y) (ic x y) (mm_run G0 mi tg L r h) (mm_run G0 mi n L r h) := by
  by_cases q : c x y
  · rw [if_pos q]
    refine mm_step ((ht pc).trans e) ?_
    show some (Sum.inl (if @decide (c x y) (ic x y) = true then tg else n, L, r, h)) = _
    rw [if_pos (decide_eq_true q)]
  · rw [if_neg q]
    refine mm_step ((ht pc).trans e) ?_
    show some (Sum.inl (if @decide (c x y) (ic x y) = true then tg else n, L, r, h)) = _
    rw [if_neg (fun z => q (of_decide_eq_true z))]
/-- a branch on a truth value -/
theorem sg_bn {c : Prop} [Decidable c] (ht : ∀ pc, mm_act G0 mi pc = t.lookup pc) {tg : Nat} (e : t.lookup pc = some (ac_if (fun x => decide (x ≠ 0)) tg n)) : mm_run G0 mi pc L (.int (bi (decide c)) :: r) h = if c then mm_run G0 mi tg L r h else mm_run G0 mi n L r h := by
  rw [sg_if (c := fun x => x ≠ 0) ht e]
  by_cases q : c
  · rw [if_pos q, decide_eq_true q]
    exact if_pos (by decide)
  · rw [if_neg q, decide_eq_false q]
    exact if_neg (by decide)
theorem sg_be {c : Prop} [Decidable c] (ht : ∀ pc, mm_act G0 mi pc = t.lookup pc) {tg : Nat} (e : t.lookup pc = some (ac_if (fun x => decide (x = 0)) tg n)) : mm_run G0 mi pc L (.int (bi (decide c)) :: r) h = if c then mm_run G0 mi n L r h else mm_run G0 mi tg L r h := by
  rw [sg_if (c := fun x => x = 0) ht e]
  by_cases q : c
  · rw [if_pos q, decide_eq_true q]
    exact if_neg (by decide)
  · rw [if_neg q, decide_eq_false q]
    exact if_pos (by decide)
theorem sg_sw (ht : ∀ pc, mm_act G0 mi pc = t.lookup pc) {lo : Int} {ts : List Nat} {d : Nat} {x : Int32} (e : t.lookup pc = some (ac_sw lo ts d)) : mm_run G0 mi pc L (.int x :: r) h = mm_run G0 mi (swt x lo ts d) L r h := mm_step ((ht pc).trans e) rfl
theorem run_ite {c : Prop} [Decidable c] {p1 p2 : Nat} : mm_run G0 mi (if c then p1 else p2) L r h = if c then mm_run G0 mi p1 L r h else mm_run G0 mi p2 L r h := by
  split <;> rfl
theorem sg_getI (ht : ∀ pc, mm_act G0 mi pc = t.lookup pc) {ci k a : Nat} {fs : List Value} {x : Int32} (e : t.lookup pc = some (ac_getI ci k n)) (hc : h[a]? = some (.inl (ci, fs))) (hk : fs[k]? = some (.int x)) : mm_run G0 mi pc L (.ref a :: r) h = mm_run G0 mi n L (.int x :: r) h := by
  refine mm_step ((ht pc).trans e) ?_
  show Option.map _ (mm_getI h a ci k) = _
  unfold mm_getI
  rw [hc]
  simp only [if_pos, hk]
  rfl
theorem sg_getL (ht : ∀ pc, mm_act G0 mi pc = t.lookup pc) {ci k a : Nat} {fs : List Value} {x : Int64} (e : t.lookup pc = some (ac_getL ci k n)) (hc : h[a]? = some (.inl (ci, fs))) (hk : fs[k]? = some (.long x)) : mm_run G0 mi pc L (.ref a :: r) h = mm_run G0 mi n L (.long x :: r) h := by
  refine mm_step ((ht pc).trans e) ?_
  show Option.map _ (mm_getL h a ci k) = _
  unfold mm_getL
  rw [hc]
  simp only [if_pos, hk]
  rfl
theorem sg_getR (ht : ∀ pc, mm_act G0 mi pc = t.lookup pc) {ci k a x : Nat} {fs : List Value} (e : t.lookup pc = some (ac_getR ci k n)) (hc : h[a]? = some (.inl (ci, fs))) (hk : fs[k]? = some (.ref x)) : mm_run G0 mi pc L (.ref a :: r) h = mm_run G0 mi n L (.ref x :: r) h := by
  refine mm_step ((ht pc).trans e) ?_
  show Option.map _ (mm_getR h a ci k) = _
  unfold mm_getR
  rw [hc]
  simp only [if_pos, hk]
  rfl
theorem put_eq {ci k a : Nat} {fs : List Value} {v : Value} {h' : MH} (hc : h[a]? = some (.inl (ci, fs))) (hk : k < fs.length) (hs : h.set a (.inl (ci, fs.set k v)) = h') : mm_put h a ci k v = some h' := by
  unfold mm_put
  rw [hc]
  show (if _ then _ else _) = _
  rw [if_pos ⟨rfl, hk⟩, hs]
theorem sg_putI (ht : ∀ pc, mm_act G0 mi pc = t.lookup pc) {ci k a : Nat} {fs : List Value} {x : Int32} {h' : MH} (e : t.lookup pc = some (ac_putI ci k n)) (hc : h[a]? = some (.inl (ci, fs))) (hk : k < fs.length) (hs : h.set a (.inl (ci, fs.set k (.int x))) = h') : mm_run G0 mi pc L (.int x :: .ref a :: r) h = mm_run G0 mi n L r h' := by
  refine mm_step ((ht pc).trans e) ?_
  show Option.map _ (mm_put h a ci k (.int x)) = _
  rw [put_eq hc hk hs]
  rfl
theorem sg_putZ (ht : ∀ pc, mm_act G0 mi pc = t.lookup pc) {ci k a : Nat} {fs : List Value} {x : Int32} {h' : MH} (hz : x = 0 ∨ x = 1) (e : t.lookup pc = some (ac_putZ ci k n)) (hc : h[a]? = some (.inl (ci, fs))) (hk : k < fs.length) (hs : h.set a (.inl (ci, fs.set k (.int x))) = h') : mm_run G0 mi pc L (.int x :: .ref a :: r) h = mm_run G0 mi n L r h' := by
  refine mm_step ((ht pc).trans e) ?_
  show (if x = 0 ∨ x = 1 then Option.map _ (mm_put h a ci k (.int x)) else none) = _
  rw [if_pos hz, put_eq hc hk hs]
  rfl
theorem sg_putL (ht : ∀ pc, mm_act G0 mi pc = t.lookup pc) {ci k a : Nat} {fs : List Value} {x : Int64} {h' : MH} (e : t.lookup pc = some (ac_putL ci k n)) (hc : h[a]? = some (.inl (ci, fs))) (hk : k < fs.length) (hs : h.set a (.inl (ci, fs.set k (.long x))) = h') : mm_run G0 mi pc L (.long x :: .ref a :: r) h = mm_run G0 mi n L r h' := by
  refine mm_step ((ht pc).trans e) ?_
  show Option.map _ (mm_put h a ci k (.long x)) = _
  rw [put_eq hc hk hs]
  rfl
theorem sg_ldI (ht : ∀ pc, mm_act G0 mi pc = t.lookup pc) {tag a : Nat} {l : List Int32} {i : Int32} (e : t.lookup pc = some (ac_aldI tag n)) (hc : h[a]? = some (.inr (.inl (tag, l)))) : mm_run G0 mi pc L (.int i :: .ref a :: r) h = (ldI l i).bind fun x => mm_run G0 mi n L (.int x :: r) h := by
  have key : mm_aldI h a tag i = ldI l i := by
    unfold mm_aldI ldI
    rw [hc]
    by_cases q : i < 0
    · simp [q]
    · simp [q]
  cases hq : ldI l i with
  | none => exact mm_fail ((ht pc).trans e) (by show Option.map _ (mm_aldI h a tag i) = none; rw [key, hq]; rfl)
  | some x => exact mm_step ((ht pc).trans e) (by show Option.map _ (mm_aldI h a tag i) = _; rw [key, hq]; rfl)
theorem sg_ldL (ht : ∀ pc, mm_act G0 mi pc = t.lookup pc) {a : Nat} {l : List Int64} {i : Int32} (e : t.lookup pc = some (ac_aldL n)) (hc : h[a]? = some (.inr (.inr (.inl l)))) : mm_run G0 mi pc L (.int i :: .ref a :: r) h = (ldL l i).bind fun x => mm_run G0 mi n L (.long x :: r) h := by
  have key : mm_aldL h a i = ldL l i := by
    unfold mm_aldL ldL
    rw [hc]
    by_cases q : i < 0
    · simp [q]
    · simp [q]
  cases hq : ldL l i with
  | none => exact mm_fail ((ht pc).trans e) (by show Option.map _ (mm_aldL h a i) = none; rw [key, hq]; rfl)
  | some x => exact mm_step ((ht pc).trans e) (by show Option.map _ (mm_aldL h a i) = _; rw [key, hq]; rfl)
theorem sg_ldR (ht : ∀ pc, mm_act G0 mi pc = t.lookup pc) {tag a : Nat} {l : List (Option Nat)} {i : Int32} (e : t.lookup pc = some (ac_aldR tag n)) (hc : h[a]? = some (.inr (.inr (.inr (tag, l))))) : mm_run G0 mi pc L (.int i :: .ref a :: r) h = (ldR l i).bind fun x => mm_run G0 mi n L (.ref x :: r) h := by
  have key : mm_aldR h a tag i = ldR l i := by
    unfold mm_aldR ldR
    rw [hc]
    by_cases q : i < 0
    · simp [q]
    · simp [q]
  cases hq : ldR l i with
  | none => exact mm_fail ((ht pc).trans e) (by show Option.map _ (mm_aldR h a tag i) = none; rw [key, hq]; rfl)
  | some x => exact mm_step ((ht pc).trans e) (by show Option.map _ (mm_aldR h a tag i) = _; rw [key, hq]; rfl)
theorem sg_stI (ht : ∀ pc, mm_act G0 mi pc = t.lookup pc) {a : Nat} {l : List Int32} {i x : Int32} {hh : List Int32 → MH} (e : t.lookup pc = some (ac_astI n)) (hc : h[a]? = some (.inr (.inl (0, l)))) (hs : ∀ X, h.set a (.inr (.inl (0, X))) = hh X) : mm_run G0 mi pc L (.int x :: .int i :: .ref a :: r) h = (stI l i x).bind fun X => mm_run G0 mi n L r (hh X) := by
  unfold stI
  split
  · rename_i q
    refine mm_step ((ht pc).trans e) ?_
    show Option.map _ (mm_astI h a 0 i x) = _
    unfold mm_astI
    rw [hc]
    show Option.map _ (if _ then _ else _) = _
    rw [if_pos ⟨rfl, q⟩, hs]
    rfl
  · rename_i q
    refine mm_fail ((ht pc).trans e) ?_
    show Option.map _ (mm_astI h a 0 i x) = _
    unfold mm_astI
    rw [hc]
    show Option.map _ (if _ then _ else _) = _
    rw [if_neg (fun z => q z.2)]
    rfl
theorem sg_stZ (ht : ∀ pc, mm_act G0 mi pc = t.lookup pc) {a : Nat} {l : List Int32} {i x : Int32} {hh : List Int32 → MH} (hz : x = 0 ∨ x = 1) (e : t.lookup pc = some (ac_astZ n)) (hc : h[a]? = some (.inr (.inl (1, l)))) (hs : ∀ X, h.set a (.inr (.inl (1, X))) = hh X) : mm_run G0 mi pc L (.int x :: .int i :: .ref a :: r) h = (stI l i x).bind fun X => mm_run G0 mi n L r (hh X) := by
  unfold stI
  split
  · rename_i q
    refine mm_step ((ht pc).trans e) ?_
    show (if x = 0 ∨ x = 1 then Option.map _ (mm_astI h a 1 i x) else none) = _
    rw [if_pos hz]
    unfold mm_astI
    rw [hc]
    show Option.map _ (if _ then _ else _) = _
    rw [if_pos ⟨rfl, q⟩, hs]
    rfl
  · rename_i q
    refine mm_fail ((ht pc).trans e) ?_
    show (if x = 0 ∨ x = 1 then Option.map _ (mm_astI h a 1 i x) else none) = _
    rw [if_pos hz]
    unfold mm_astI
    rw [hc]
    show Option.map _ (if _ then _ else _) = _
    rw [if_neg (fun z => q z.2)]
    rfl
theorem sg_stL (ht : ∀ pc, mm_act G0 mi pc = t.lookup pc) {a : Nat} {l : List Int64} {i : Int32} {x : Int64} {hh : List Int64 → MH} (e : t.lookup pc = some (ac_astL n)) (hc : h[a]? = some (.inr (.inr (.inl l)))) (hs : ∀ X, h.set a (.inr (.inr (.inl X))) = hh X) : mm_run G0 mi pc L (.long x :: .int i :: .ref a :: r) h = (stL l i x).bind fun X => mm_run G0 mi n L r (hh X) := by
  unfold stL
  split
  · rename_i q
    refine mm_step ((ht pc).trans e) ?_
    show Option.map _ (mm_astL h a i x) = _
    unfold mm_astL
    rw [hc]
    show Option.map _ (if _ then _ else _) = _
    rw [if_pos q, hs]
    rfl
  · rename_i q
    refine mm_fail ((ht pc).trans e) ?_
    show Option.map _ (mm_astL h a i x) = _
    unfold mm_astL
    rw [hc]
    show Option.map _ (if _ then _ else _) = _
    rw [if_neg q]
    rfl
theorem sg_cpI (ht : ∀ pc, mm_act G0 mi pc = t.lookup pc) {a0 a1 : Nat} {l0 l1 : List Int32} {sp dp k : Int32} {hh : List Int32 → MH} (hr : mm_cat r ≤ 8) (e : t.lookup pc = some (ac_jdk 5 (ac_cpyI n))) (hc0 : h[a0]? = some (.inr (.inl (0, l0)))) (hc1 : h[a1]? = some (.inr (.inl (0, l1)))) (hs : ∀ X, h.set a1 (.inr (.inl (0, X))) = hh X) : mm_run G0 mi pc L (.int k :: .int dp :: .ref a1 :: .int sp :: .ref a0 :: r) h = (cpI l0 l1 sp dp k).bind fun X => mm_run G0 mi n L r (hh X) := by
  have key : mm_cpyI h a0 sp a1 dp k = (cpI l0 l1 sp dp k).map hh := by
    unfold mm_cpyI cpI
    rw [hc0, hc1]
    show (if _ then _ else _) = _
    by_cases q : ¬ sp < 0 ∧ ¬ dp < 0 ∧ ¬ k < 0 ∧ sp.toNatClampNeg + k.toNatClampNeg ≤ l0.length ∧ dp.toNatClampNeg + k.toNatClampNeg ≤ l1.length
    · rw [if_pos ⟨rfl, rfl, q⟩, if_pos q, hs]
      rfl
    · rw [if_neg (fun z => q z.2.2), if_neg q]
      rfl
  cases hq : cpI l0 l1 sp dp k with
  | none =>
    refine mm_fail ((ht pc).trans e) ?_
    show (if mm_cat r ≤ 8 then Option.map _ (mm_cpyI h a0 sp a1 dp k) else none) = _
    rw [if_pos hr, key, hq]
    rfl
  | some X =>
    refine mm_step ((ht pc).trans e) ?_
    show (if mm_cat r ≤ 8 then Option.map _ (mm_cpyI h a0 sp a1 dp k) else none) = _
    rw [if_pos hr, key, hq]
    rfl
theorem sg_cpL (ht : ∀ pc, mm_act G0 mi pc = t.lookup pc) {a0 a1 : Nat} {l0 l1 : List Int64} {sp dp k : Int32} {hh : List Int64 → MH} (hr : mm_cat r ≤ 8) (e : t.lookup pc = some (ac_jdk 5 (ac_cpyL n))) (hc0 : h[a0]? = some (.inr (.inr (.inl l0)))) (hc1 : h[a1]? = some (.inr (.inr (.inl l1)))) (hs : ∀ X, h.set a1 (.inr (.inr (.inl X))) = hh X) : mm_run G0 mi pc L (.int k :: .int dp :: .ref a1 :: .int sp :: .ref a0 :: r) h = (cpL l0 l1 sp dp k).bind fun X => mm_run G0 mi n L r (hh X) := by
  have key : mm_cpyL h a0 sp a1 dp k = (cpL l0 l1 sp dp k).map hh := by
    unfold mm_cpyL cpL
    rw [hc0, hc1]
    show (if _ then _ else _) = _
    by_cases q : ¬ sp < 0 ∧ ¬ dp < 0 ∧ ¬ k < 0 ∧ sp.toNatClampNeg + k.toNatClampNeg ≤ l0.length ∧ dp.toNatClampNeg + k.toNatClampNeg ≤ l1.length
    · rw [if_pos q, if_pos q, hs]
      rfl
    · rw [if_neg q, if_neg q]
      rfl
  cases hq : cpL l0 l1 sp dp k with
  | none =>
    refine mm_fail ((ht pc).trans e) ?_
    show (if mm_cat r ≤ 8 then Option.map _ (mm_cpyL h a0 sp a1 dp k) else none) = _
    rw [if_pos hr, key, hq]
    rfl
  | some X =>
    refine mm_step ((ht pc).trans e) ?_
    show (if mm_cat r ≤ 8 then Option.map _ (mm_cpyL h a0 sp a1 dp k) else none) = _
    rw [if_pos hr, key, hq]
    rfl
theorem sg_ldiv (ht : ∀ pc, mm_act G0 mi pc = t.lookup pc) {x y : Int64} {f : Int64 → Int64 → Int64} (e : t.lookup pc = some (ac_dL f n)) : mm_run G0 mi pc L (.long y :: .long x :: r) h = if y = 0 then none else mm_run G0 mi n L (.long (f x y) :: r) h := by
  by_cases q : y = 0
  · rw [if_pos q]
    refine mm_fail ((ht pc).trans e) ?_
    show (if y = 0 then none else _) = _
    rw [if_pos q]
  · rw [if_neg q]
    refine mm_step ((ht pc).trans e) ?_
    show (if y = 0 then none else _) = _
    rw [if_neg q]
end SG
/-- the law's script touches no other method -/
theorem g0_get (scr : List Int32) (mi : Nat) (h : mi ≠ 0) : mm_G scr mi = G0 mi := by
  cases mi with
  | zero => exact absurd rfl h
  | succ k => rfl
theorem g0_rk (scr : List Int32) (mi : Nat) : mm_rk (mm_G scr) mi = mm_rk G0 mi := by
  cases mi with
  | zero => rfl
  | succ k => rfl
theorem g0_ml (scr : List Int32) (mi : Nat) : mm_ml (mm_G scr) mi = mm_ml G0 mi := by
  cases mi with
  | zero => rfl
  | succ k => rfl
theorem g0_le (mi : Nat) (h : mi ≠ 0) : mm_rk G0 mi ≤ 7 := by
  cases mi with
  | zero => exact absurd rfl h
  | succ k =>
    have hall : (mm_Gl []).tail.all (fun q => decide (q.1 ≤ 7)) = true := by decide +kernel
    unfold mm_rk
    split
    · rename_i r k2 t e
      have e : (mm_Gl []).tail[k]? = some (r, k2, t) := e
      exact of_decide_eq_true (List.all_eq_true.mp hall _ (List.mem_of_getElem? e))
    · exact Nat.zero_le _
theorem g0_mx (scr : List Int32) : ∀ (n mi pc : Nat) (L : ML) (st : List Value) (h : MH), mi ≠ 0 → mx (mm_G scr) n mi pc L st h = mx G0 n mi pc L st h
  | 0, _, _, _, _, _, _ => rfl
  | n + 1, mi, pc, L, st, h, h0 => by
    show mm_res (mm_G scr) mi L h (mx (mm_G scr) n mi) (fun mj as h => mx (mm_G scr) n mj 0 (mm_loc as (mm_ml (mm_G scr) mj)) [] h) ((mm_act (mm_G scr) mi pc).bind fun a => a L st h) = mm_res G0 mi L h (mx G0 n mi) (fun mj as h => mx G0 n mj 0 (mm_loc as (mm_ml G0 mj)) [] h) ((mm_act G0 mi pc).bind fun a => a L st h)
    have ea : mm_act (mm_G scr) mi pc = mm_act G0 mi pc := by unfold mm_act; rw [g0_get scr mi h0]
    rw [ea]
    generalize (mm_act G0 mi pc).bind (fun a => a L st h) = o
    unfold mm_res
    split
    · rfl
    · exact g0_mx scr n mi _ _ _ _ h0
    · rename_i mj as rest pc'
      rw [g0_rk, g0_rk, g0_ml]
      split
      · rename_i hc
        have hj : mj ≠ 0 := fun q => by
          have h1 := g0_le mi h0
          have h2 : mm_rk G0 0 = 8 := rfl
          rw [q, h2] at hc
          omega
        show (mx (mm_G scr) n mj 0 (mm_loc as (mm_ml (mm_G scr) mj)) [] h).bind _ = (mx G0 n mj 0 (mm_loc as (mm_ml G0 mj)) [] h).bind _
        rw [g0_ml, g0_mx scr n mj _ _ _ _ hj]
        exact bind_cg fun q _ => g0_mx scr n mi _ _ _ _ h0
      · rfl
    · rfl
theorem g0_call (scr : List Int32) {mj : Nat} (h0 : mj ≠ 0) (as : List Value) (h : MH) : mm_call (mm_G scr) mj as h = mm_call G0 mj as h := by
  unfold mm_call
  rw [g0_ml]
  apply Option.ext
  intro r
  rw [mm_run_iff, mm_run_iff]
  constructor
  · rintro ⟨n, e⟩
    exact ⟨n, by rw [← g0_mx scr n mj _ _ _ _ h0]; exact e⟩
  · rintro ⟨n, e⟩
    exact ⟨n, by rw [g0_mx scr n mj _ _ _ _ h0]; exact e⟩
