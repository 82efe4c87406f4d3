/-! THE MINI-MACHINE IS SOUND: what an act does, the machine does -/
def adr (B b0 : Nat) : Nat → Nat
  | 0 => b0
  | k + 1 => B + k
def ab (B b0 : Nat) : Value → Value
  | .ref k => .ref (adr B b0 k)
  | v => v
theorem ab_cat (B b0 : Nat) (v : Value) : (ab B b0 v).category = v.category := by cases v <;> rfl
theorem ab_cats (B b0 : Nat) (st : List Value) : ((st.map (ab B b0)).map fun v => v.category).sum = mm_cat st := by
  unfold mm_cat
  rw [List.map_map]
  congr 1
  apply List.map_congr_left
  intro v _
  exact ab_cat B b0 v
def mm_enc (B b0 : Nat) (aC : Nat → ClassId) : MC → va_E
  | .inl (ci, fs) => .inr (ci, fs.map (ab B b0))
  | .inr (.inl (t, l)) => .inl (aC t, l.length, .inl (fun i => l.getD i 0))
  | .inr (.inr (.inl l)) => .inl (aC 2, l.length, .inr (.inl (fun i => l.getD i 0)))
  | .inr (.inr (.inr (t, l))) => .inl (aC t, l.length, .inr (.inr (.inr (.inr (fun i => (l.getD i none).map (adr B b0))))))
/-- the cells as the kit lists them -/
def mm_ws (B b0 : Nat) (aC : Nat → ClassId) (h : MH) : va_W := h.tail.mapIdx (fun k c => (B + k, mm_enc B b0 aC c))
theorem ws_get {B b0 : Nat} {aC : Nat → ClassId} {h : MH} {k : Nat} {c : MC} (e : h[k + 1]? = some c) : (mm_ws B b0 aC h)[k]? = some (B + k, mm_enc B b0 aC c) := by
  unfold mm_ws
  rw [List.getElem?_mapIdx, List.getElem?_tail, e]
  rfl
theorem ws_len {B b0 : Nat} {aC : Nat → ClassId} {h : MH} : (mm_ws B b0 aC h).length = h.length - 1 := by
  unfold mm_ws
  rw [List.length_mapIdx, List.length_tail]
theorem ws_of {B b0 : Nat} {aC : Nat → ClassId} {h : MH} {k : Nat} {q : Nat × va_E} (e : (mm_ws B b0 aC h)[k]? = some q) : ∃ c, h[k + 1]? = some c ∧ q = (B + k, mm_enc B b0 aC c) := by
  unfold mm_ws at e
  rw [List.getElem?_mapIdx, List.getElem?_tail] at e
  cases hc : h[k + 1]? with
  | none => rw [hc] at e; cases e
  | some c => rw [hc] at e; cases e; exact ⟨c, rfl, rfl⟩
theorem ws_set {B b0 : Nat} {aC : Nat → ClassId} {h : MH} {k : Nat} {c : MC} : (mm_ws B b0 aC h).set k (B + k, mm_enc B b0 aC c) = mm_ws B b0 aC (h.set (k + 1) c) := by
  apply List.ext_getElem?
  intro j
  unfold mm_ws
  cases h with
  | nil => rfl
  | cons x t =>
    show ((List.mapIdx _ t).set k _)[j]? = (List.mapIdx _ (t.set k c))[j]?
    rw [List.getElem?_set, List.getElem?_mapIdx, List.getElem?_mapIdx, List.getElem?_set, List.length_mapIdx]
    by_cases hj : k = j
    · subst hj
      by_cases hl : k < t.length
      · simp [hl]
      · simp [hl]
    · simp [hj]
theorem ws_push {B b0 : Nat} {aC : Nat → ClassId} {h : MH} {c : MC} {a : Nat} (h0 : 0 < h.length) (ha : a + 1 = B + h.length) : mm_ws B b0 aC h ++ [(a, mm_enc B b0 aC c)] = mm_ws B b0 aC (h ++ [c]) := by
  cases h with
  | nil => cases h0
  | cons x t =>
    show List.mapIdx _ t ++ _ = List.mapIdx _ (t ++ [c])
    have ea : a = B + t.length := by simp only [List.length_cons] at ha; omega
    subst ea
    rw [List.mapIdx_append]
    simp
theorem ws_D (B b0 : Nat) (aC : Nat → ClassId) (h : MH) : va_D (fun q => B ≤ q) (mm_ws B b0 aC h) := by
  refine ⟨fun i j p q hi hj e => ?_, fun k q hk => ?_⟩
  · obtain ⟨c, -, rfl⟩ := ws_of hi
    obtain ⟨d, -, rfl⟩ := ws_of hj
    have e : B + i = B + j := e
    omega
  · obtain ⟨c, -, rfl⟩ := ws_of hk
    exact Nat.le_add_right _ _
/-- what the tables say: the classes, the arrays' classes, words on nest mates, on arrays over arrays -/
def mm_tys (aC : Nat → ClassId) : List (ClassId × FieldType) := [(aC 0, .int), (aC 1, .boolean), (aC 2, .long), (aC 3, .object "ShiftCharts$Stream"), (aC 4, .object "ShiftCharts$Tape"), (aC 5, .array .long)]
def mm_T (U : State) : Prop := (∀ w ∈ nT, va_Nw w U) ∧ va_AO "ShiftCharts$Stream" U ∧ va_AO "ShiftCharts$Tape" U ∧ (Cond.arrayOver (.array .long)).before #[] U = true
def mm_K (D : va_G) (aC : Nat → ClassId) (U : State) : Prop := va_K D vwCl (mm_tys aC) U ∧ mm_T U
theorem nest_warm {w : Cond} (hw : isNest w = true) {s U : State} (hW : s.WarmedH U.vm) (h : va_Nw w s) : va_Nw w U := by
  cases w <;> first | (cases hw; done) | exact va_Nw.warmF hW h | exact va_Nw.warmM hW h
theorem nest_on {w : Cond} (hw : isNest w = true) : w.onTables = true := by
  cases w <;> first | (cases hw; done) | rfl
theorem mm_K.warm {D : va_G} {aC : Nat → ClassId} {s U : State} (hW : s.WarmedH U.vm) (h : mm_K D aC s) : mm_K D aC U :=
  ⟨va_K.moved hW.alike h.1, fun w hw => nest_warm (List.mem_filter.mp hw).2 hW (h.2.1 w hw), h.2.2.1.moved hW.alike, h.2.2.2.1.moved hW.alike, over_moved hW.alike h.2.2.2.2⟩
theorem mm_K.same {D : va_G} {aC : Nat → ClassId} {u U : State} (hv : u.vm = U.vm) (h : mm_K D aC u) : mm_K D aC U :=
  ⟨va_K.moved (by rw [hv]; exact Vm.Alike.refl U.vm) h.1, fun w hw => va_Nw.same (nest_on (List.mem_filter.mp hw).2) hv (h.2.1 w hw), h.2.2.1.moved (by rw [hv]; exact Vm.Alike.refl U.vm), h.2.2.2.1.moved (by rw [hv]; exact Vm.Alike.refl U.vm), over_moved (by rw [hv]; exact Vm.Alike.refl U.vm) h.2.2.2.2⟩
/-- the locals -/
def mm_hld (B b0 : Nat) (ls : Array Slot) (nL : Nat) (L : ML) : Prop := ls.size = nL ∧ lv_wf ls ∧ L.length ≤ nL ∧ ∀ (i : Nat) (v : Value), L[i]? = some (some v) → ls[i]? = some (.val (ab B b0 v))
/-- the listed values, as the kit lists them -/
def mm_lst (B b0 : Nat) (L : ML) : List (Nat × Value) := (List.range L.length).filterMap fun i => match L[i]? with
  | some (some v) => some (i, ab B b0 v)
  | _ => none
theorem lst_mem {B b0 : Nat} {L : ML} {i : Nat} {v : Value} (h : L[i]? = some (some v)) : (i, ab B b0 v) ∈ mm_lst B b0 L := by
  refine List.mem_filterMap.mpr ⟨i, List.mem_range.mpr (List.getElem?_eq_some_iff.mp h).1, ?_⟩
  rw [h]
theorem mm_hld.has {B b0 : Nat} {ls : Array Slot} {nL : Nat} {L : ML} (h : mm_hld B b0 ls nL L) : lv_has ls nL (mm_lst B b0 L) := by
  refine ⟨h.1, h.2.1, fun q hq => ?_⟩
  obtain ⟨i, -, hi⟩ := List.mem_filterMap.mp hq
  split at hi
  · rename_i v hv
    cases hi
    exact h.2.2.2 i v hv
  · cases hi
theorem clr_len (L : ML) (i : Nat) : (mm_clr L i).length = L.length := by
  unfold mm_clr
  split
  · rfl
  · split
    · split
      · exact List.length_set
      · rfl
    · rfl
theorem clr_get {L : ML} {i j : Nat} {v : Value} (h : (mm_clr L i)[j]? = some (some v)) : L[j]? = some (some v) ∧ ¬ (j + 1 = i ∧ v.category = 2) := by
  unfold mm_clr at h
  split at h
  · refine ⟨h, fun q => by omega⟩
  · split at h
    · rename_i k _ w hw
      split at h
      · rw [List.getElem?_set] at h
        split at h
        · split at h <;> simp at h
        · exact ⟨h, fun q => by omega⟩
      · rename_i hc
        refine ⟨h, fun q => ?_⟩
        have : j = k := by omega
        subst this
        rw [h] at hw
        cases hw
        exact hc q.2
    · rename_i k _ hx
      refine ⟨h, fun q => ?_⟩
      have : j = k := by omega
      subst this
      exact hx v h
def mm_plain (_ : ML) : Prop := True
theorem hld_set1 {B b0 : Nat} {ls' : Array Slot} {nL i : Nat} {L : ML} {v : Value} (hl : L.length ≤ nL) (hp : mm_plain L) (h : lv_has ls' nL ((i, ab B b0 v) :: (mm_lst B b0 L).filter (fun q => !(q.1 == i) && !(q.1 + 1 == i && q.2.category == 2)))) : mm_hld B b0 ls' nL (mm_set1 L i v) := by
  refine ⟨h.1, h.2.1, by unfold mm_set1; rw [List.length_set, clr_len]; exact hl, fun j w hj => ?_⟩
  unfold mm_set1 at hj
  rw [List.getElem?_set] at hj
  split at hj
  · rename_i e
    subst e
    split at hj
    · cases hj
      exact h.2.2 _ (List.mem_cons_self)
    · cases hj
  · rename_i e
    obtain ⟨h1, h2⟩ := clr_get hj
    refine h.2.2 (j, ab B b0 w) (List.mem_cons_of_mem _ (List.mem_filter.mpr ⟨lst_mem h1, ?_⟩))
    simp only [Bool.and_eq_true, Bool.not_eq_true', beq_eq_false_iff_ne, ne_eq, Bool.and_eq_false_iff, ab_cat]
    refine ⟨fun q => e q.symm, ?_⟩
    by_cases c : j + 1 = i
    · right
      intro z
      exact h2 ⟨c, z⟩
    · exact Or.inl c
theorem hld_set2 {B b0 : Nat} {ls' : Array Slot} {nL i : Nat} {L : ML} {v : Value} (hl : L.length ≤ nL) (hp : mm_plain L) (h : lv_has ls' nL ((i, ab B b0 v) :: (mm_lst B b0 L).filter (fun q => !(q.1 == i) && (!(q.1 == i + 1) && !(q.1 + 1 == i && q.2.category == 2))))) : mm_hld B b0 ls' nL (mm_set2 L i v) := by
  refine ⟨h.1, h.2.1, by unfold mm_set2; rw [List.length_set, List.length_set, clr_len]; exact hl, fun j w hj => ?_⟩
  unfold mm_set2 at hj
  rw [List.getElem?_set] at hj
  split at hj
  · split at hj <;> simp at hj
  · rename_i e1
    rw [List.getElem?_set] at hj
    split at hj
    · rename_i e
      subst e
      split at hj
      · cases hj
        exact h.2.2 _ (List.mem_cons_self)
      · cases hj
    · rename_i e
      obtain ⟨h1, h2⟩ := clr_get hj
      refine h.2.2 (j, ab B b0 w) (List.mem_cons_of_mem _ (List.mem_filter.mpr ⟨lst_mem h1, ?_⟩))
      simp only [Bool.and_eq_true, Bool.not_eq_true', beq_eq_false_iff_ne, ne_eq, Bool.and_eq_false_iff, ab_cat]
      refine ⟨fun q => e q.symm, fun q => e1 q.symm, ?_⟩
      by_cases c : j + 1 = i
      · right
        intro z
        exact h2 ⟨c, z⟩
      · exact Or.inl c
theorem plain_set1 {L : ML} {i : Nat} {v : Value} (_ : mm_plain L) (_ : v.category = 2 → ∃ x, v = .long x) : mm_plain (mm_set1 L i v) := trivial
theorem plain_set2 {L : ML} {i : Nat} {x : Int64} (_ : mm_plain L) : mm_plain (mm_set2 L i (.long x)) := trivial
