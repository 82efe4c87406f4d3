/-! THE CLAIM OUT OF ONE WALK OF THE LAW'S BODY. Your part is whole_start (and what it stands on); all else here is the same for every law, but numbers. -/
def R_law : String := "ShiftChartsLaw"
def lw_P (b : Addr) (xs : List Int32) (args : Array Value) (s : State) : Prop := args = #[.ref b] ∧ s.IntsAt b xs ∧ xs.length ≤ 3072 ∧ (Jvm.Cond.and given_1 narrow_1).before args s = true
def lw_Q (_ : Array Value) (s : State) (o : Outcome) (t : State) : Prop := o = .returned (some (.int 1)) ∧ Framed s o t [] 600000 7302250
def lw_Z (below : List Frame) (a : Array Value) (s : State) : State → Prop := fun t => ∃ o, t.status = .running ∧ Ended t below o ∧ lw_Q a s o t
/-- the law's own end, with 1 on the stack, nothing written that was there before, its room as the claim has it -/
theorem lw_ret {p : Program} {l : Launch} {e : Env} {s : State} {m : MethodId} {below : List Frame} {meth : Method} {c : Code} {b : Nat} (hx : p.tables.exec = Jvm.exec) (hb : c.code = code) (hr : meth.sig.returnType = ret) (hlocks : meth.locks = false) {pc : Nat} {H : Heap} {ls : Array Slot} (hdg : decode code pc = .ok (.ireturn, 1)) : W p l e room_1 s m #[Value.ref b] below meth c H [] 600000 7302250 (lw_Z below #[Value.ref b] s) (F0 m pc ls [.int 1]) := by
  intro T hT X
  obtain ⟨fs, hret, hrun, hended, hW, hframe⟩ := X.leave (v := some (.int 1)) (hlocks := hlocks) (fun h => by rw [hr] at h; cases h)
  have hmeth' : T.vm.method? m = some meth := X.method'
  refine ⟨T.setFrames fs, ?_, .returned (some (.int 1)), hrun, hended, rfl, ⟨_, rfl⟩, hW, hframe⟩
  jvm_step X.here [X.here.top, hx, hb, hdg, hmeth', hr, ret, narrow_b1]
  (try refine ⟨rfl, ?_⟩); (try refine ⟨rfl, ?_⟩)
  first | (intro acts; rw [hret _ acts rfl rfl rfl]) | rw [hret _ _ rfl rfl rfl]
  exact Steps.refl _
/-- what holds at the law's entry: the machine, the code, the tables' words (any of lw_tbl by 'hts w (by decide +kernel)'), the script of L ints xs at the cell b, what the Statement gives of the start (any of its parts by flat_of_before) -/
def lw_At (p : Program) (s : State) (m : MethodId) (meth : Method) (c : Code) (b L : Nat) (xs : Nat → Int32) : Prop :=
  p.tables.exec = Jvm.exec ∧ c.code = code ∧ meth.sig.returnType = ret ∧ c.maxLocals = 4 ∧ s.vm.findClass R_law = some m.cls ∧ (∀ w ∈ lw_tbl, w.before #[Value.ref b] s = true) ∧ va_X b L xs s s.heap ∧ b < s.heap.size ∧ meth.locks = false ∧ (Jvm.Cond.and given_1 narrow_1).before #[Value.ref b] s = true

theorem w_weaken {p : Program} {l : Launch} {e : Env} {R : Room} {s : State} {m : MethodId} {args : Array Value} {below : List Frame} {meth : Method} {c : Code} {H : Heap} {locs : List Loc} {cells slots : Nat} {Q Q' : State → Prop} {g : JFrame} (hq : ∀ t, Q t → Q' t) (k : W p l e R s m args below meth c H locs cells slots Q g) : W p l e R s m args below meth c H locs cells slots Q' g := fun T hT X => by
  obtain ⟨t, a, b⟩ := k T hT X
  exact ⟨t, a, hq t b⟩
theorem known9 {s : State} {args : Array Value} (hts : ∀ w ∈ gT, w.before args s = true) : ∃ (dC : Nat → ClassId) (dI : Nat → Nat → Nat), ∀ (k : Nat) (q : vw_C), vwCl[k]? = some q → u_Kn s q.1 q.2.1 q.2.2 (dC k) (dI k) := by
  have key : ∀ (k : Nat) (q : vw_C), vwCl[k]? = some q → ∃ (c : ClassId) (i : Nat → Nat), u_Kn s q.1 q.2.1 q.2.2 c i := by
    intro k q hq
    match k, hq with
    | 0, hq => cases hq; exact u_known (n := 13) hts inX0 (hts _ g_ia_RX0)
    | 1, hq => cases hq; exact u_known (n := 10) hts inX1 (hts _ g_ia_RX1)
    | 2, hq => cases hq; exact u_known (n := 4) hts inX2 (hts _ g_ia_RX2)
    | 3, hq => cases hq; exact u_known (n := 5) hts inX3 (hts _ g_ia_RX3)
    | 4, hq => cases hq; exact u_known (n := 6) hts inX4 (hts _ g_ia_RX4)
    | 5, hq => cases hq; exact u_known (n := 3) hts inX5 (hts _ g_ia_RX5)
    | 6, hq => cases hq; exact u_known (n := 7) hts inX6 (hts _ g_ia_RX6)
    | 7, hq => cases hq; exact u_known (n := 9) hts inX7 (hts _ g_ia_RX7)
    | 8, hq => cases hq; exact u_known (n := 22) hts inX8 (hts _ g_ia_RX8)
    | k + 9, hq => simp [vwCl] at hq
  have key2 : ∀ k : Nat, ∃ (c : ClassId) (i : Nat → Nat), ∀ q : vw_C, vwCl[k]? = some q → u_Kn s q.1 q.2.1 q.2.2 c i := by
    intro k
    cases hq : vwCl[k]? with
    | none => exact ⟨0, fun _ => 0, fun q h => by cases h⟩
    | some q =>
      obtain ⟨c, i, h⟩ := key k q hq
      exact ⟨c, i, fun q' h' => by cases h'; exact h⟩
  exact ⟨fun k => Classical.choose (key2 k), fun k => Classical.choose (Classical.choose_spec (key2 k)), fun k q hq => Classical.choose_spec (Classical.choose_spec (key2 k)) q hq⟩
theorem prim_arr {s : State} {args : Array Value} {t : FieldType} (h : (Cond.arrayClass t).before args s = true) (ho : ∀ C, t ≠ .object C) : ∃ c : ClassId, ArrOfT s c t ∧ va_RA s c t := by
  obtain ⟨c, k, comp, h1, h2, h3⟩ := Cond.arrayClass_spec h
  refine ⟨c, fun N z => ⟨(fun q hq => by cases hq), k, h2, comp, h3⟩, ?_⟩
  cases t <;> first | exact h1 | exact absurd rfl (ho _)
theorem obj_arr {s : State} {C : String} (h : va_AO C s) : ∃ c : ClassId, ArrOfT s c (.object C) ∧ va_RA s c (.object C) := by
  obtain ⟨comp, c, k, h1, h2, h3, h4, h5⟩ := Cond.arrayOver_spec h
  exact ⟨c, fun N z => ⟨(fun q hq => by cases hq), k, h3, comp, h4⟩, k, comp, h3, h4, h1, h5⟩
theorem arr_arr {s : State} (h : (Cond.arrayOver (.array .long)).before #[] s = true) : ∃ c : ClassId, ArrOfT s c (.array .long) ∧ va_RA s c (.array .long) := by
  obtain ⟨comp, c, k, h1, h2, h3, h4, h5⟩ := arrayOverA_spec h
  exact ⟨c, fun N z => ⟨(fun q hq => by cases hq), k, h3, comp, h4⟩, h5⟩
theorem start_K {s : State} {args : Array Value} (hts : ∀ w ∈ lw_tbl, w.before args s = true) (hT : mm_T s) : ∃ (D : va_G) (aC : Nat → ClassId), mm_K D aC s := by
  have hg : ∀ w ∈ gT, w.before args s = true := fun w h => hts w (gt_in h)
  obtain ⟨dC, dI, hKn⟩ := known9 hg
  obtain ⟨c0, h0⟩ := prim_arr (hg _ g_ac_int) (fun C h => by cases h)
  obtain ⟨c1, h1⟩ := prim_arr (hg _ g_ac_boolean) (fun C h => by cases h)
  obtain ⟨c2, h2⟩ := prim_arr (hg _ g_ac_long) (fun C h => by cases h)
  obtain ⟨c3, h3⟩ := obj_arr hT.2.1
  obtain ⟨c4, h4⟩ := obj_arr hT.2.2.1
  obtain ⟨c5, h5⟩ := arr_arr hT.2.2.2
  refine ⟨(dC, dI), fun k => [c0, c1, c2, c3, c4, c5].getD k 0, ⟨hKn, fun k q hq => ?_⟩, hT⟩
  match k, hq with
  | 0, hq => cases hq; exact h0
  | 1, hq => cases hq; exact h1
  | 2, hq => cases hq; exact h2
  | 3, hq => cases hq; exact h3
  | 4, hq => cases hq; exact h4
  | 5, hq => cases hq; exact h5
  | k + 6, hq => simp [mm_tys] at hq
theorem ao_in : Cond.arrayOver (.object "ShiftCharts$Stream") ∈ lw_tbl ∧ Cond.arrayOver (.object "ShiftCharts$Tape") ∈ lw_tbl ∧ Cond.arrayOver (.array .long) ∈ lw_tbl := ⟨List.mem_of_getElem? (i := 80) (by decide +kernel), List.mem_of_getElem? (i := 192) (by decide +kernel), List.mem_of_getElem? (i := 243) (by decide +kernel)⟩
/-- THE CLAIM OUT OF THE MINI-MACHINE -/
theorem whole_open (hpure : ∀ scr : List Int32, scr.length ≤ 3072 → ∃ hf : MH, mm_run (mm_G scr) 0 0 (mm_loc [.ref 0] 4) [] [mm_dummy] = some (some (.int 1), hf) ∧ hf.length ≤ 18000) {p : Program} {e : Env} {s : State} {m : MethodId} {below : List Frame} {meth : Method} {c : Code} (l : Launch) {b L : Nat} {xs : Nat → Int32} (hL : L ≤ 3072) (C0 : lw_At p s m meth c b L xs) : W p l e room_1 s m #[Value.ref b] below meth c s.heap [] 0 0 (lw_Z below #[Value.ref b] s) (entryFrame m ([Value.ref b] : List Value).toArray 4) := by
  obtain ⟨hx, hb, hr, hml, hown, hts, hX, hbl, hlocks, hgv⟩ := C0
  generalize hscr : (List.range L).map xs = scr
  have hlen : scr.length = L := by rw [← hscr, List.length_map, List.length_range]
  have hval : ∀ j, j < L → scr.getD j 0 = xs j := fun j hj => by
    rw [← hscr, List.getD_eq_getElem?_getD, List.getElem?_map, List.getElem?_range hj]
    rfl
  have hX2 : va_X b scr.length (fun j => scr.getD j 0) s s.heap := by
    obtain ⟨sc, x1, x2, x3, x4, x5⟩ := hX
    rw [hlen]
    exact ⟨sc, x1, x2, x3, x4, fun j hj => by show _ = some (Value.int (scr.getD j 0)); rw [hval j hj]; exact x5 j hj⟩
  obtain ⟨hf, hrun, hfl⟩ := hpure scr (by rw [hlen]; exact hL)
  obtain ⟨n, hn⟩ := mm_run_iff.mp hrun
  obtain ⟨⟨-, hf0⟩, hw⟩ := mm_master (mm_pg scr) l n 0 0 _ [] [mm_dummy] _ hf hn rfl
  have hT : mm_T s := ⟨fun w hw => va_Nw.of (nest_on (List.mem_filter.mp hw).2) (hts w (List.mem_filter.mp hw).1), va_AO.of (hts _ ao_in.1), va_AO.of (hts _ ao_in.2.1), over_moved (Vm.Alike.refl s.vm) (hts _ ao_in.2.2)⟩
  obtain ⟨D, aC, hK⟩ := start_K hts hT
  rw [lg_entry_eq]
  have hS : mm_S D aC s.heap.size b s 4 (mm_loc [.ref 0] 4) [mm_dummy] _ s.heap [] 0 := ⟨hld_ent (as := [.ref 0]) (n := 4) (by decide), trivial, rfl, (fun k q hq => by cases hq), va_S.rf, rfl⟩
  refine hw D aC s.heap.size b p e room_1 s m #[Value.ref b] below meth c _ ⟨⟨hx, hb, hml, hr, hlocks⟩, hown, fun w hw => hts w (gt_in hw), hK, fun hq => absurd hq (by decide), fun _ => ⟨hX2, hbl, hbl⟩, Nat.le_refl _, by decide⟩ (show 8 ≤ 9 by decide) (show 35 * 8 ≤ 308 by decide) ?_ ?_ _ _ _ _ hS
  · show s.heap.size + hf.length ≤ s.heap.size + mm_rc room_1 + 1
    have : mm_rc room_1 = 18255 := by decide
    omega
  · intro pc L2 st ls H locs cells hS2 k
    refine va_forget (fun q hq => hS2.2.2.2.2.1.2.2 q hq) ?_
    have hz := hS2.2.2.2.2.2
    refine W.widen (k := 600000) (n := 7302250) (by omega) (by omega) ?_
    refine w_weaken (fun t ht => ?_) (k [] 600000 7302250 (fun _ _ o _ => o = .returned (some (.int 1))) (fun _ => False) (fun t _ _ => rfl) (fun q hq => by cases hq))
    obtain ⟨o, t1, t2, t3, Lc, t4, t5⟩ := ht
    have : Lc = [] := by
      cases Lc with
      | nil => rfl
      | cons q r => exact (t5 q List.mem_cons_self).elim
    subst this
    exact ⟨o, t1, t2, t3, t4⟩
