/-! THE MINI-MACHINE: cells, acts, execution with fuel, its limit -/
/-- a cell: an object (kind, fields) | ints (0 int[], 1 boolean[]) | longs | references (3 Stream[], 4 Tape[], 5 long[][]) -/
abbrev MC : Type := (Nat × List Value) ⊕ (Nat × List Int32) ⊕ (List Int64) ⊕ (Nat × List (Option Nat))
abbrev MH : Type := List MC
abbrev ML : Type := List (Option Value)
/-- goes on (pc, locals, stack, heap) | calls (method, arguments, the rest of the stack, pc behind) | returns -/
abbrev MR : Type := (Nat × ML × List Value × MH) ⊕ (Nat × List Value × List Value × Nat) ⊕ (Option Value)
abbrev Act : Type := ML → List Value → MH → Option MR
abbrev MO : Type := Option (Option Value × MH)
def mm_dummy : MC := .inl (99, [])
-- the heap's reads and writes
def mm_getI (h : MH) (a ci k : Nat) : Option Int32 := match h[a]? with
  | some (.inl (c, fs)) => if c = ci then (match fs[k]? with
    | some (.int x) => some x
    | _ => none) else none
  | _ => none
def mm_getL (h : MH) (a ci k : Nat) : Option Int64 := match h[a]? with
  | some (.inl (c, fs)) => if c = ci then (match fs[k]? with
    | some (.long x) => some x
    | _ => none) else none
  | _ => none
def mm_getR (h : MH) (a ci k : Nat) : Option Nat := match h[a]? with
  | some (.inl (c, fs)) => if c = ci then (match fs[k]? with
    | some (.ref x) => some x
    | _ => none) else none
  | _ => none
def mm_put (h : MH) (a ci k : Nat) (v : Value) : Option MH := match h[a]? with
  | some (.inl (c, fs)) => if c = ci ∧ k < fs.length then some (h.set a (.inl (c, fs.set k v))) else none
  | _ => none
def mm_aldI (h : MH) (a tag : Nat) (i : Int32) : Option Int32 := match h[a]? with
  | some (.inr (.inl (t, l))) => if t = tag ∧ ¬ i < 0 then l[i.toNatClampNeg]? else none
  | _ => none
def mm_aldL (h : MH) (a : Nat) (i : Int32) : Option Int64 := match h[a]? with
  | some (.inr (.inr (.inl l))) => if ¬ i < 0 then l[i.toNatClampNeg]? else none
  | _ => none
def mm_aldR (h : MH) (a tag : Nat) (i : Int32) : Option Nat := match h[a]? with
  | some (.inr (.inr (.inr (t, l)))) => if t = tag ∧ ¬ i < 0 then (l[i.toNatClampNeg]?).join else none
  | _ => none
def mm_astI (h : MH) (a tag : Nat) (i x : Int32) : Option MH := match h[a]? with
  | some (.inr (.inl (t, l))) => if t = tag ∧ ¬ i < 0 ∧ i.toNatClampNeg < l.length then some (h.set a (.inr (.inl (t, l.set i.toNatClampNeg x)))) else none
  | _ => none
def mm_astL (h : MH) (a : Nat) (i : Int32) (x : Int64) : Option MH := match h[a]? with
  | some (.inr (.inr (.inl l))) => if ¬ i < 0 ∧ i.toNatClampNeg < l.length then some (h.set a (.inr (.inr (.inl (l.set i.toNatClampNeg x))))) else none
  | _ => none
def mm_is (h : MH) (a ci : Nat) : Bool := match h[a]? with
  | some (.inl (c, _)) => c == ci
  | _ => false
def mm_astR (h : MH) (a tag ci : Nat) (i : Int32) (v : Nat) : Option MH := match h[a]? with
  | some (.inr (.inr (.inr (t, l)))) => if t = tag ∧ ¬ i < 0 ∧ i.toNatClampNeg < l.length ∧ mm_is h v ci = true then some (h.set a (.inr (.inr (.inr (t, l.set i.toNatClampNeg (some v)))))) else none
  | _ => none
def mm_cpy {α : Type} (d : α) (l0 l1 : List α) (sp dp n : Nat) : List α := (List.range l1.length).map fun k => if dp ≤ k ∧ k < dp + n then l0.getD (sp + (k - dp)) d else l1.getD k d
def mm_cpyI (h : MH) (a0 : Nat) (sp : Int32) (a1 : Nat) (dp n : Int32) : Option MH := match h[a0]? with
  | some (.inr (.inl (t0, l0))) => (match h[a1]? with
    | some (.inr (.inl (t1, l1))) => if t0 = 0 ∧ t1 = 0 ∧ ¬ sp < 0 ∧ ¬ dp < 0 ∧ ¬ n < 0 ∧ sp.toNatClampNeg + n.toNatClampNeg ≤ l0.length ∧ dp.toNatClampNeg + n.toNatClampNeg ≤ l1.length then some (h.set a1 (.inr (.inl (0, mm_cpy 0 l0 l1 sp.toNatClampNeg dp.toNatClampNeg n.toNatClampNeg)))) else none
    | _ => none)
  | _ => none
def mm_cpyL (h : MH) (a0 : Nat) (sp : Int32) (a1 : Nat) (dp n : Int32) : Option MH := match h[a0]? with
  | some (.inr (.inr (.inl l0))) => (match h[a1]? with
    | some (.inr (.inr (.inl l1))) => if ¬ sp < 0 ∧ ¬ dp < 0 ∧ ¬ n < 0 ∧ sp.toNatClampNeg + n.toNatClampNeg ≤ l0.length ∧ dp.toNatClampNeg + n.toNatClampNeg ≤ l1.length then some (h.set a1 (.inr (.inr (.inl (mm_cpy 0 l0 l1 sp.toNatClampNeg dp.toNatClampNeg n.toNatClampNeg))))) else none
    | _ => none)
  | _ => none
-- the locals
def mm_clr (L : ML) (i : Nat) : ML := match i with
  | 0 => L
  | j + 1 => (match L[j]? with
    | some (some v) => if v.category = 2 then L.set j none else L
    | _ => L)
def mm_set1 (L : ML) (i : Nat) (v : Value) : ML := (mm_clr L i).set i (some v)
def mm_set2 (L : ML) (i : Nat) (v : Value) : ML := ((mm_clr L i).set i (some v)).set (i + 1) none
def mm_ent : List Value → ML
  | [] => []
  | v :: r => if v.category = 2 then some v :: none :: mm_ent r else some v :: mm_ent r
def mm_loc (as : List Value) (maxL : Nat) : ML := mm_ent as ++ List.replicate (maxL - (mm_ent as).length) none
-- the acts
def ac_push (v : Value) (n : Nat) : Act := fun L st h => some (.inl (n, L, v :: st, h))
def ac_ldI (i n : Nat) : Act := fun L st h => match L[i]? with
  | some (some (.int x)) => some (.inl (n, L, .int x :: st, h))
  | _ => none
def ac_ldL (i n : Nat) : Act := fun L st h => match L[i]? with
  | some (some (.long x)) => some (.inl (n, L, .long x :: st, h))
  | _ => none
def ac_ldA (i n : Nat) : Act := fun L st h => match L[i]? with
  | some (some (.ref x)) => some (.inl (n, L, .ref x :: st, h))
  | _ => none
def ac_stI (i n : Nat) : Act := fun L st h => match st with
  | .int x :: r => if i < L.length then some (.inl (n, mm_set1 L i (.int x), r, h)) else none
  | _ => none
def ac_stL (i n : Nat) : Act := fun L st h => match st with
  | .long x :: r => if i + 1 < L.length then some (.inl (n, mm_set2 L i (.long x), r, h)) else none
  | _ => none
def ac_stA (i n : Nat) : Act := fun L st h => match st with
  | .ref x :: r => if i < L.length then some (.inl (n, mm_set1 L i (.ref x), r, h)) else none
  | _ => none
def ac_inc (i : Nat) (d : Int32) (n : Nat) : Act := fun L st h => match L[i]? with
  | some (some (.int x)) => some (.inl (n, mm_set1 L i (.int (x + d)), st, h))
  | _ => none
def ac_bI (f : Int32 → Int32 → Int32) (n : Nat) : Act := fun L st h => match st with
  | .int y :: .int x :: r => some (.inl (n, L, .int (f x y) :: r, h))
  | _ => none
def ac_dI (f : Int32 → Int32 → Int32) (n : Nat) : Act := fun L st h => match st with
  | .int y :: .int x :: r => if y = 0 then none else some (.inl (n, L, .int (f x y) :: r, h))
  | _ => none
def ac_uI (f : Int32 → Int32) (n : Nat) : Act := fun L st h => match st with
  | .int x :: r => some (.inl (n, L, .int (f x) :: r, h))
  | _ => none
def ac_bL (f : Int64 → Int64 → Int64) (n : Nat) : Act := fun L st h => match st with
  | .long y :: .long x :: r => some (.inl (n, L, .long (f x y) :: r, h))
  | _ => none
def ac_dL (f : Int64 → Int64 → Int64) (n : Nat) : Act := fun L st h => match st with
  | .long y :: .long x :: r => if y = 0 then none else some (.inl (n, L, .long (f x y) :: r, h))
  | _ => none
def ac_sL (f : Int64 → Int32 → Int64) (n : Nat) : Act := fun L st h => match st with
  | .int y :: .long x :: r => some (.inl (n, L, .long (f x y) :: r, h))
  | _ => none
def ac_uL (f : Int64 → Int64) (n : Nat) : Act := fun L st h => match st with
  | .long x :: r => some (.inl (n, L, .long (f x) :: r, h))
  | _ => none
def ac_i2l (n : Nat) : Act := fun L st h => match st with
  | .int x :: r => some (.inl (n, L, .long x.toInt64 :: r, h))
  | _ => none
def ac_l2i (n : Nat) : Act := fun L st h => match st with
  | .long x :: r => some (.inl (n, L, .int x.toInt32 :: r, h))
  | _ => none
def ac_lcmp (n : Nat) : Act := fun L st h => match st with
  | .long y :: .long x :: r => some (.inl (n, L, .int (lg_cmp x y) :: r, h))
  | _ => none
def ac_dup (n : Nat) : Act := fun L st h => match st with
  | v :: r => if v.category = 1 then some (.inl (n, L, v :: v :: r, h)) else none
  | _ => none
def ac_pop (n : Nat) : Act := fun L st h => match st with
  | v :: r => if v.category = 1 then some (.inl (n, L, r, h)) else none
  | _ => none
def ac_dup2 (n : Nat) : Act := fun L st h => match st with
  | v :: w :: r => if v.category = 1 ∧ w.category = 1 then some (.inl (n, L, v :: w :: v :: w :: r, h)) else none
  | _ => none
def ac_dup2L (n : Nat) : Act := fun L st h => match st with
  | .long x :: r => some (.inl (n, L, .long x :: .long x :: r, h))
  | _ => none
def ac_if (c : Int32 → Bool) (t n : Nat) : Act := fun L st h => match st with
  | .int x :: r => some (.inl (if c x = true then t else n, L, r, h))
  | _ => none
def ac_cmp (c : Int32 → Int32 → Bool) (t n : Nat) : Act := fun L st h => match st with
  | .int y :: .int x :: r => some (.inl (if c x y = true then t else n, L, r, h))
  | _ => none
def ac_goto (t : Nat) : Act := fun L st h => some (.inl (t, L, st, h))
def ac_sw (lo : Int) (ts : List Nat) (d : Nat) : Act := fun L st h => match st with
  | .int x :: r => some (.inl (if x.toInt < lo then d else ts.getD (x.toInt - lo).toNat d, L, r, h))
  | _ => none
def ac_getI (ci k n : Nat) : Act := fun L st h => match st with
  | .ref a :: r => (mm_getI h a ci k).map fun x => .inl (n, L, .int x :: r, h)
  | _ => none
def ac_getL (ci k n : Nat) : Act := fun L st h => match st with
  | .ref a :: r => (mm_getL h a ci k).map fun x => .inl (n, L, .long x :: r, h)
  | _ => none
def ac_getR (ci k n : Nat) : Act := fun L st h => match st with
  | .ref a :: r => (mm_getR h a ci k).map fun x => .inl (n, L, .ref x :: r, h)
  | _ => none
def ac_putI (ci k n : Nat) : Act := fun L st h => match st with
  | .int x :: .ref a :: r => (mm_put h a ci k (.int x)).map fun h' => .inl (n, L, r, h')
  | _ => none
def ac_putZ (ci k n : Nat) : Act := fun L st h => match st with
  | .int x :: .ref a :: r => if x = 0 ∨ x = 1 then (mm_put h a ci k (.int x)).map fun h' => .inl (n, L, r, h') else none
  | _ => none
def ac_putL (ci k n : Nat) : Act := fun L st h => match st with
  | .long x :: .ref a :: r => (mm_put h a ci k (.long x)).map fun h' => .inl (n, L, r, h')
  | _ => none
def ac_putR (ci k n : Nat) : Act := fun L st h => match st with
  | .ref x :: .ref a :: r => (mm_put h a ci k (.ref x)).map fun h' => .inl (n, L, r, h')
  | _ => none
def ac_aldI (tag n : Nat) : Act := fun L st h => match st with
  | .int i :: .ref a :: r => (mm_aldI h a tag i).map fun x => .inl (n, L, .int x :: r, h)
  | _ => none
def ac_aldL (n : Nat) : Act := fun L st h => match st with
  | .int i :: .ref a :: r => (mm_aldL h a i).map fun x => .inl (n, L, .long x :: r, h)
  | _ => none
def ac_aldR (tag n : Nat) : Act := fun L st h => match st with
  | .int i :: .ref a :: r => (mm_aldR h a tag i).map fun x => .inl (n, L, .ref x :: r, h)
  | _ => none
def ac_astI (n : Nat) : Act := fun L st h => match st with
  | .int x :: .int i :: .ref a :: r => (mm_astI h a 0 i x).map fun h' => .inl (n, L, r, h')
  | _ => none
def ac_astZ (n : Nat) : Act := fun L st h => match st with
  | .int x :: .int i :: .ref a :: r => if x = 0 ∨ x = 1 then (mm_astI h a 1 i x).map fun h' => .inl (n, L, r, h') else none
  | _ => none
def ac_astL (n : Nat) : Act := fun L st h => match st with
  | .long x :: .int i :: .ref a :: r => (mm_astL h a i x).map fun h' => .inl (n, L, r, h')
  | _ => none
def ac_astR (tag ci n : Nat) : Act := fun L st h => match st with
  | .ref v :: .int i :: .ref a :: r => (mm_astR h a tag ci i v).map fun h' => .inl (n, L, r, h')
  | _ => none
def ac_new (ci : Nat) (fs : List Value) (n : Nat) : Act := fun L st h => some (.inl (n, L, .ref h.length :: st, h ++ [.inl (ci, fs)]))
def ac_newI (tag n : Nat) : Act := fun L st h => match st with
  | .int x :: r => if ¬ x < 0 ∧ x.toNatClampNeg ≤ 400 then some (.inl (n, L, .ref h.length :: r, h ++ [.inr (.inl (tag, List.replicate x.toNatClampNeg 0))])) else none
  | _ => none
def ac_newL (n : Nat) : Act := fun L st h => match st with
  | .int x :: r => if ¬ x < 0 ∧ x.toNatClampNeg ≤ 400 then some (.inl (n, L, .ref h.length :: r, h ++ [.inr (.inr (.inl (List.replicate x.toNatClampNeg 0)))])) else none
  | _ => none
def ac_newR (tag n : Nat) : Act := fun L st h => match st with
  | .int x :: r => if ¬ x < 0 ∧ x.toNatClampNeg ≤ 400 then some (.inl (n, L, .ref h.length :: r, h ++ [.inr (.inr (.inr (tag, List.replicate x.toNatClampNeg none)))])) else none
  | _ => none
def ac_mna (n : Nat) : Act := fun L st h => match st with
  | .int y :: .int x :: r => if ¬ x < 0 ∧ ¬ y < 0 ∧ x.toNatClampNeg ≤ 20 ∧ y.toNatClampNeg ≤ 20 then
      some (.inl (n, L, .ref h.length :: r, (h ++ [.inr (.inr (.inr (5, (List.range x.toNatClampNeg).map fun i => some (h.length + 1 + i))))]) ++ List.replicate x.toNatClampNeg (.inr (.inr (.inl (List.replicate y.toNatClampNeg 0)))))) else none
  | _ => none
def ac_max (n : Nat) : Act := ac_bI (fun x y => if x < y then y else x) n
def ac_min (n : Nat) : Act := ac_bI (fun x y => if y < x then y else x) n
def ac_lmax (n : Nat) : Act := ac_bL (fun x y => if y < x then x else y) n
def ac_labs (n : Nat) : Act := ac_uL (fun x => if 0 < x then x else -x) n
def mm_cat (st : List Value) : Nat := (st.map fun v => v.category).sum
/-- a plain act of the JDK, with the rest of the stack small -/
def ac_jdk (k : Nat) (a : Act) : Act := fun L st h => if mm_cat (st.drop k) ≤ 8 then a L st h else none
def ac_oinit (n : Nat) : Act := fun L st h => match st with
  | .ref _ :: r => some (.inl (n, L, r, h))
  | _ => none
def ac_cpyI (n : Nat) : Act := fun L st h => match st with
  | .int k :: .int dp :: .ref a1 :: .int sp :: .ref a0 :: r => (mm_cpyI h a0 sp a1 dp k).map fun h' => .inl (n, L, r, h')
  | _ => none
def ac_cpyL (n : Nat) : Act := fun L st h => match st with
  | .int k :: .int dp :: .ref a1 :: .int sp :: .ref a0 :: r => (mm_cpyL h a0 sp a1 dp k).map fun h' => .inl (n, L, r, h')
  | _ => none
def ac_callS (mj np n : Nat) : Act := fun _ st _ => if np ≤ st.length ∧ mm_cat (st.drop np) ≤ 8 then some (.inr (.inl (mj, (st.take np).reverse, st.drop np, n))) else none
/-- np: how many arguments beside the receiver -/
def ac_callI (mj np n : Nat) : Act := fun _ st _ => match st.drop np with
  | .ref b :: r => if mm_cat r ≤ 8 then some (.inr (.inl (mj, .ref b :: (st.take np).reverse, r, n))) else none
  | _ => none
def ac_callV (mj ci np n : Nat) : Act := fun _ st h => match st.drop np with
  | .ref b :: r => if mm_cat r ≤ 8 ∧ mm_is h b ci = true then some (.inr (.inl (mj, .ref b :: (st.take np).reverse, r, n))) else none
  | _ => none
def ac_retI : Act := fun _ st _ => match st with
  | [.int x] => some (.inr (.inr (some (.int x))))
  | _ => none
def ac_retZ : Act := fun _ st _ => match st with
  | [.int x] => if x = 0 ∨ x = 1 then some (.inr (.inr (some (.int x)))) else none
  | _ => none
def ac_retL : Act := fun _ st _ => match st with
  | [.long x] => some (.inr (.inr (some (.long x))))
  | _ => none
def ac_retV : Act := fun _ st _ => match st with
  | [] => some (.inr (.inr none))
  | _ => none
def ac_sld (scr : List Int32) (n : Nat) : Act := fun L st h => match st with
  | .int i :: .ref 0 :: r => if ¬ i < 0 then (scr[i.toNatClampNeg]?).map fun x => .inl (n, L, .int x :: r, h) else none
  | _ => none
def ac_slen (scr : List Int32) (n : Nat) : Act := fun L st h => match st with
  | .ref 0 :: r => some (.inl (n, L, .int (nI scr.length) :: r, h))
  | _ => none
-- execution
/-- a program: by a method's number its rank, its maxLocals, its table -/
abbrev MG : Type := Nat → Option (Nat × Nat × List (Nat × Act))
def mm_act (G : MG) (mi pc : Nat) : Option Act := match G mi with
  | some (_, _, t) => t.lookup pc
  | none => none
def mm_rk (G : MG) (mi : Nat) : Nat := match G mi with
  | some (r, _, _) => r
  | none => 0
def mm_ml (G : MG) (mi : Nat) : Nat := match G mi with
  | some (_, k, _) => k
  | none => 0
def mm_res (G : MG) (mi : Nat) (L : ML) (h : MH) (go : Nat → ML → List Value → MH → MO) (ca : Nat → List Value → MH → MO) (o : Option MR) : MO := match o with
  | none => none
  | some (.inl (pc', L', st', h')) => go pc' L' st' h'
  | some (.inr (.inl (mj, as, rest, pc'))) => if mm_rk G mj < mm_rk G mi ∧ (mm_ent as).length ≤ mm_ml G mj then (ca mj as h).bind fun q => go pc' L (q.1.toList ++ rest) q.2 else none
  | some (.inr (.inr r)) => some (r, h)
def mx (G : MG) : Nat → Nat → Nat → ML → List Value → MH → MO
  | 0, _, _, _, _, _ => none
  | n + 1, mi, pc, L, st, h => mm_res G mi L h (mx G n mi) (fun mj as h => mx G n mj 0 (mm_loc as (mm_ml G mj)) [] h) ((mm_act G mi pc).bind fun a => a L st h)
theorem mm_res_mono {G : MG} {mi : Nat} {L : ML} {h : MH} {go go' : Nat → ML → List Value → MH → MO} {ca ca' : Nat → List Value → MH → MO} {o : Option MR} {r : Option Value × MH}
    (hg : ∀ pc L st h r, go pc L st h = some r → go' pc L st h = some r) (hc : ∀ mj as h r, ca mj as h = some r → ca' mj as h = some r) (e : mm_res G mi L h go ca o = some r) : mm_res G mi L h go' ca' o = some r := by
  unfold mm_res at e ⊢
  split at e
  · cases e
  · exact hg _ _ _ _ _ e
  · split at e
    · rename_i hr
      rw [if_pos hr]
      obtain ⟨q, h1, h2⟩ := Option.bind_eq_some_iff.mp e
      exact Option.bind_eq_some_iff.mpr ⟨q, hc _ _ _ _ h1, hg _ _ _ _ _ h2⟩
    · cases e
  · exact e
theorem mx_mono (G : MG) : ∀ (n mi pc : Nat) (L : ML) (st : List Value) (h : MH) (r : Option Value × MH), mx G n mi pc L st h = some r → mx G (n + 1) mi pc L st h = some r
  | 0, _, _, _, _, _, _, e => by cases e
  | n + 1, mi, pc, L, st, h, r, e => mm_res_mono (fun pc L st h r => mx_mono G n mi pc L st h r) (fun mj as h r => mx_mono G n mj 0 _ _ h r) e
theorem mx_le (G : MG) {n k mi pc : Nat} {L : ML} {st : List Value} {h : MH} {r : Option Value × MH} (e : mx G n mi pc L st h = some r) (hk : n ≤ k) : mx G k mi pc L st h = some r := by
  induction hk with
  | refl => exact e
  | step _ ih => exact mx_mono G _ mi pc L st h r ih
noncomputable def mm_run (G : MG) (mi pc : Nat) (L : ML) (st : List Value) (h : MH) : MO :=
  @dite _ (∃ r, ∃ n, mx G n mi pc L st h = some r) (Classical.propDecidable _) (fun e => some (Classical.choose e)) (fun _ => none)
theorem mm_run_iff {G : MG} {mi pc : Nat} {L : ML} {st : List Value} {h : MH} {r : Option Value × MH} : mm_run G mi pc L st h = some r ↔ ∃ n, mx G n mi pc L st h = some r := by
  unfold mm_run
  by_cases e : ∃ r, ∃ n, mx G n mi pc L st h = some r
  · rw [dif_pos e]
    have hs := Classical.choose_spec e
    constructor
    · intro q
      cases q
      exact hs
    · rintro ⟨n, hn⟩
      obtain ⟨k, hk⟩ := hs
      have h1 := mx_le G hn (Nat.le_max_left n k)
      have h2 := mx_le G hk (Nat.le_max_right n k)
      rw [h1] at h2
      exact h2.symm
  · rw [dif_neg e]
    constructor
    · intro q
      cases q
    · rintro ⟨n, hn⟩
      exact absurd ⟨r, n, hn⟩ e
noncomputable def mm_call (G : MG) (mj : Nat) (as : List Value) (h : MH) : MO := mm_run G mj 0 (mm_loc as (mm_ml G mj)) [] h
theorem mm_run_eq (G : MG) (mi pc : Nat) (L : ML) (st : List Value) (h : MH) : mm_run G mi pc L st h = mm_res G mi L h (mm_run G mi) (mm_call G) ((mm_act G mi pc).bind fun a => a L st h) := by
  apply Option.ext
  intro r
  rw [mm_run_iff]
  constructor
  · rintro ⟨n, hn⟩
    cases n with
    | zero => cases hn
    | succ n => exact mm_res_mono (fun pc L st h r e => mm_run_iff.mpr ⟨n, e⟩) (fun mj as h r e => mm_run_iff.mpr ⟨n, e⟩) hn
  · intro e
    generalize ho : (mm_act G mi pc).bind (fun a => a L st h) = o at e
    have key : ∃ n, mm_res G mi L h (mx G n mi) (fun mj as h => mx G n mj 0 (mm_loc as (mm_ml G mj)) [] h) o = some r := by
      unfold mm_res at e ⊢
      split at e
      · cases e
      · exact mm_run_iff.mp e
      · split at e
        · rename_i hr
          obtain ⟨q, h1, h2⟩ := Option.bind_eq_some_iff.mp e
          obtain ⟨n1, k1⟩ := mm_run_iff.mp h1
          obtain ⟨n2, k2⟩ := mm_run_iff.mp h2
          refine ⟨max n1 n2, ?_⟩
          simp only [if_pos hr]
          exact Option.bind_eq_some_iff.mpr ⟨q, mx_le G k1 (Nat.le_max_left _ _), mx_le G k2 (Nat.le_max_right _ _)⟩
        · cases e
      · exact ⟨0, e⟩
    obtain ⟨n, hn⟩ := key
    refine ⟨n + 1, ?_⟩
    show mm_res G mi L h (mx G n mi) (fun mj as h => mx G n mj 0 (mm_loc as (mm_ml G mj)) [] h) ((mm_act G mi pc).bind fun a => a L st h) = some r
    rw [ho]
    exact hn
theorem mm_step {G : MG} {mi pc : Nat} {L : ML} {st : List Value} {h : MH} {a : Act} {pc' : Nat} {L' : ML} {st' : List Value} {h' : MH} (ha : mm_act G mi pc = some a) (hr : a L st h = some (.inl (pc', L', st', h'))) : mm_run G mi pc L st h = mm_run G mi pc' L' st' h' := by
  rw [mm_run_eq, ha, Option.bind_some, hr]
  rfl
theorem mm_ret {G : MG} {mi pc : Nat} {L : ML} {st : List Value} {h : MH} {a : Act} {r : Option Value} (ha : mm_act G mi pc = some a) (hr : a L st h = some (.inr (.inr r))) : mm_run G mi pc L st h = some (r, h) := by
  rw [mm_run_eq, ha, Option.bind_some, hr]
  rfl
theorem mm_fail {G : MG} {mi pc : Nat} {L : ML} {st : List Value} {h : MH} {a : Act} (ha : mm_act G mi pc = some a) (hr : a L st h = none) : mm_run G mi pc L st h = none := by
  rw [mm_run_eq, ha, Option.bind_some, hr]
  rfl
theorem mm_cal {G : MG} {mi pc : Nat} {L : ML} {st : List Value} {h : MH} {a : Act} {mj pc' : Nat} {as rest : List Value} (ha : mm_act G mi pc = some a) (hr : a L st h = some (.inr (.inl (mj, as, rest, pc')))) (hk : mm_rk G mj < mm_rk G mi ∧ (mm_ent as).length ≤ mm_ml G mj) : mm_run G mi pc L st h = (mm_call G mj as h).bind fun q => mm_run G mi pc' L (q.1.toList ++ rest) q.2 := by
  rw [mm_run_eq, ha, Option.bind_some, hr]
  show (if _ then _ else _) = _
  rw [if_pos hk]
