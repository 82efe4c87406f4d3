/-! calls, returns, the whole machine -/
abbrev MY : Type := Nat → MethodName × ByteArray × Nat × Option FieldType
def mm_wY (Y : MY) (mj : Nat) : List Cond := Cond.code (Y mj).1 (Y mj).2.1 (Y mj).2.2.1 (Y mj).2.2.2 :: gT
def mm_okC (law : Bool) (scr : List Int32) (own : String) (cc : ByteArray) (nL : Nat) (ini : Bool) (rt : Option FieldType) (Y : MY) (pc : Nat) (a : Act) : Prop :=
  (∀ L st h o, a L st h = some o → ∃ mj as rest, o = .inr (.inl (mj, as, rest, pc + 3))) ∧
  ∀ (D : va_G) (aC : Nat → ClassId) (B b0 : Nat) (p : Program) (l : Launch) (e : Env) (R : Room) (s : State) (m : MethodId) (args : Array Value) (below : List Frame) (meth : Method) (c : Code), mm_C law scr own cc nL ini rt D aC B b0 p R s m args meth c →
  ∀ (L : ML) (st : List Value) (h : MH) (ls : Array Slot) (H : Heap) (locs : List Loc) (cells : Nat), mm_S D aC B b0 s nL L h ls H locs cells →
  ∀ (mj : Nat) (as rest : List Value), a L st h = some (.inr (.inl (mj, as, rest, pc + 3))) →
  ∀ (rm : Room) (Pc : Array Value → State → Prop) (Qc : Array Value → State → Outcome → State → Prop) (mc ms : Nat) (free : Addr → Prop), Met l (Y mj).1 (mm_wY Y mj) rm Pc Qc mc ms free → rm.cells = mc → rm.slots = ms → rm.frames + 1 ≤ R.frames → 8 + ((Y mj).2.2.1 + 11) + rm.locals ≤ R.locals →
    FrameBlind Pc → (∀ U : State, U.heap = H → s.WarmedH U.vm → Pc (as.map (ab B b0)).toArray U) → cells + mc ≤ R.cells → 400 * cells + ms ≤ R.slots →
    va_Run p l e R s m args below meth c H locs cells (400 * cells) mc ms (F0 m pc ls (st.map (ab B b0))) (rest.map (ab B b0)) (Qc (as.map (ab B b0)).toArray) free
def mm_okR (law : Bool) (scr : List Int32) (own : String) (cc : ByteArray) (nL : Nat) (ini : Bool) (rt : Option FieldType) (pc : Nat) (a : Act) : Prop :=
  (∀ L st h o, a L st h = some o → ∃ r, o = .inr (.inr r)) ∧
  ∀ (D : va_G) (aC : Nat → ClassId) (B b0 : Nat) (p : Program) (l : Launch) (e : Env) (R : Room) (s : State) (m : MethodId) (args : Array Value) (below : List Frame) (meth : Method) (c : Code), mm_C law scr own cc nL ini rt D aC B b0 p R s m args meth c →
  ∀ (L : ML) (st : List Value) (h : MH) (r : Option Value), a L st h = some (.inr (.inr r)) →
  ∀ (ls : Array Slot) (H : Heap) (locs : List Loc) (cells slots : Nat) (Qc : Array Value → State → Outcome → State → Prop) (free : Addr → Prop), (∀ t : State, t.heap = H → s.WarmedH t.vm → Qc args s (.returned (r.map (ab B b0))) t) → (∀ q ∈ locs, free q.base) →
    W p l e R s m args below meth c H locs cells slots (MQ below Qc args s cells slots free) (F0 m pc ls (st.map (ab B b0)))
def mm_ok (law : Bool) (scr : List Int32) (own : String) (cc : ByteArray) (nL : Nat) (ini : Bool) (rt : Option FieldType) (Y : MY) (pc : Nat) (a : Act) : Prop :=
  mm_okP law scr own cc nL ini rt pc a ∨ mm_okC law scr own cc nL ini rt Y pc a ∨ mm_okR law scr own cc nL ini rt pc a
theorem good_Y {y : MethodName} {by_ : ByteArray} {ml : Nat} {r0 : Option FieldType} (hc : Cond.code y by_ ml r0 ∈ gT) : GoodIn gT (Cond.code y by_ ml r0 :: gT) := fun w hw => by
  rcases List.mem_cons.mp hw with rfl | hw
  · exact ⟨hc, good_of_word (List.mem_filter.mp hc).2⟩
  · exact ⟨hw, good_of_word (List.mem_filter.mp hw).2⟩
section OK5
variable {law : Bool} {scr : List Int32} {own : String} {cc : ByteArray} {nL : Nat} {ini : Bool} {rt : Option FieldType} {pc : Nat} {Y : MY}
theorem ok_retI (hrt : rt = some .int) (hd : decode cc pc = .ok (.ireturn, 1)) : mm_okR law scr own cc nL ini rt pc ac_retI := by
  refine ⟨fun L st h o e => ?_, fun D aC B b0 p l e R s m args below meth c hC L st h r ea ls H locs cells slots Qc free hq hf => ?_⟩
  · unfold ac_retI at e
    split at e
    · cases e; exact ⟨_, rfl⟩
    · cases e
  · obtain ⟨⟨hx, hb, hml, hr, hlk⟩, -⟩ := hC
    unfold ac_retI at ea
    split at ea
    · rename_i x
      cases ea
      exact W.iret (v := x) hx hb (hr.trans hrt) hq hf hd hlk
    · cases ea
theorem ok_retZ (hrt : rt = some .boolean) (hd : decode cc pc = .ok (.ireturn, 1)) : mm_okR law scr own cc nL ini rt pc ac_retZ := by
  refine ⟨fun L st h o e => ?_, fun D aC B b0 p l e R s m args below meth c hC L st h r ea ls H locs cells slots Qc free hq hf => ?_⟩
  · unfold ac_retZ at e
    split at e
    · split at e
      · cases e; exact ⟨_, rfl⟩
      · cases e
    · cases e
  · obtain ⟨⟨hx, hb, hml, hr, hlk⟩, -⟩ := hC
    unfold ac_retZ at ea
    split at ea
    · rename_i x
      split at ea
      · rename_i hz
        cases ea
        exact W.zret (v := x) (ty := .boolean) hx hb (hr.trans hrt) (by rcases hz with rfl | rfl <;> rfl) hq hf hd hlk
      · cases ea
    · cases ea
theorem ok_retL (hrt : rt = some .long) (hd : decode cc pc = .ok (.lreturn, 1)) : mm_okR law scr own cc nL ini rt pc ac_retL := by
  refine ⟨fun L st h o e => ?_, fun D aC B b0 p l e R s m args below meth c hC L st h r ea ls H locs cells slots Qc free hq hf => ?_⟩
  · unfold ac_retL at e
    split at e
    · cases e; exact ⟨_, rfl⟩
    · cases e
  · obtain ⟨⟨hx, hb, hml, hr, hlk⟩, -⟩ := hC
    unfold ac_retL at ea
    split at ea
    · rename_i x
      cases ea
      exact W.lret (v := x) hx hb (hr.trans hrt) hq hf hd hlk
    · cases ea
theorem ok_retV (hrt : rt = none) (hd : decode cc pc = .ok (.return_, 1)) : mm_okR law scr own cc nL ini rt pc ac_retV := by
  refine ⟨fun L st h o e => ?_, fun D aC B b0 p l e R s m args below meth c hC L st h r ea ls H locs cells slots Qc free hq hf => ?_⟩
  · unfold ac_retV at e
    split at e
    · cases e; exact ⟨_, rfl⟩
    · cases e
  · obtain ⟨⟨hx, hb, hml, hr, hlk⟩, -⟩ := hC
    unfold ac_retV at ea
    split at ea
    · cases ea
      exact W.vret hx hb (hr.trans hrt) hq hf hd hlk
    · cases ea
theorem ok_callS {mj np idx ml : Nat} {y : MethodName} {by_ : ByteArray} {r0 : Option FieldType} (hY : Y mj = (y, by_, ml, r0)) (hl : Cond.methodLink own idx y ∈ gT) (hs0 : Cond.static y ∈ gT) (hi0 : Cond.initialized y.cls ∈ gT) (hc0 : Cond.code y by_ ml r0 ∈ gT)
    (hd9 : y.cls ≠ "java/lang/invoke/MethodHandle" ∧ y.cls ≠ "java/lang/invoke/VarHandle" ∧ (parseMethodDescriptor y.desc).map (fun d => d.parameters.length) = some np) (hd : decode cc pc = .ok (.invokestatic idx, 3)) : mm_okC law scr own cc nL ini rt Y pc (ac_callS mj np (pc + 3)) := by
  refine ⟨fun L st h o e => ?_, fun D aC B b0 p l e R s m args below meth c hC L st h ls H locs cells hS mj' as rest ea rm Pc Qc mc ms free hM h1 h2 h3 h4 hbl hpc h5 h6 => ?_⟩
  · unfold ac_callS at e
    split at e
    · cases e; exact ⟨_, _, _, rfl⟩
    · cases e
  · obtain ⟨⟨hx, hb, hml, hr, hlk⟩, hown, hts, hK, hini, hlaw, hB, hR⟩ := hC
    unfold ac_callS at ea
    split at ea
    · rename_i hc
      cases ea
      unfold mm_wY at hM
      rw [hY] at hM h4
      have hst : st.map (ab B b0) = ((((st.take np).reverse).map (ab B b0))).reverse ++ (st.drop np).map (ab B b0) := by
        rw [← List.map_reverse, List.reverse_reverse, ← List.map_append, List.take_append_drop]
      exact va_runS (Ts := gT) ⟨hx, hb, hml, hown, hts⟩ hM ⟨callB_of np hts (good_Y hc0) rfl h1 h2 (hts _ hi0) (hts _ hl) hd9 ⟨h3, h4⟩, hts _ hs0⟩ ⟨hbl, hpc⟩ rfl (by simp [Nat.min_eq_left hc.1]) hS.1.1 hst (by show 2 * 0 + _ ≤ 8; rw [ab_cats]; have := hc.2; omega) hd ⟨h5, h6⟩
    · cases ea
theorem ok_callI {mj np idx ml : Nat} {y : MethodName} {by_ : ByteArray} (hY : Y mj = (y, by_, ml, none)) (hl : Cond.methodLink own idx y ∈ gT) (hs0 : Cond.instanceMethod y ∈ gT) (hn0 : y.name = "<init>") (hi0 : Cond.initialized y.cls ∈ gT) (hc0 : Cond.code y by_ ml none ∈ gT)
    (hd9 : y.cls ≠ "java/lang/invoke/MethodHandle" ∧ y.cls ≠ "java/lang/invoke/VarHandle" ∧ (parseMethodDescriptor y.desc).map (fun d => d.parameters.length) = some np) (hd : decode cc pc = .ok (.invokespecial idx, 3)) : mm_okC law scr own cc nL ini rt Y pc (ac_callI mj np (pc + 3)) := by
  refine ⟨fun L st h o e => ?_, fun D aC B b0 p l e R s m args below meth c hC L st h ls H locs cells hS mj' as rest ea rm Pc Qc mc ms free hM h1 h2 h3 h4 hbl hpc h5 h6 => ?_⟩
  · unfold ac_callI at e
    repeat' split at e
    all_goals first | (cases e; exact ⟨_, _, _, rfl⟩) | cases e
  · obtain ⟨⟨hx, hb, hml, hr, hlk⟩, hown, hts, hK, hini, hlaw, hB, hR⟩ := hC
    unfold ac_callI at ea
    split at ea
    · rename_i b r hdr
      split at ea
      · rename_i hc
        cases ea
        unfold mm_wY at hM
        rw [hY] at hM h4
        have hst : st.map (ab B b0) = ((((st.take np).reverse).map (ab B b0))).reverse ++ .ref (adr B b0 b) :: rest.map (ab B b0) := by
          rw [← List.map_reverse, List.reverse_reverse]
          conv => lhs; rw [← List.take_append_drop np st, hdr, List.map_append]
          rfl
        have hlen : np ≤ st.length := by
          rcases Nat.lt_or_ge st.length np with q | q
          · rw [List.drop_eq_nil_of_le (Nat.le_of_lt q)] at hdr
            cases hdr
          · exact q
        exact va_runI (Ts := gT) (b := adr B b0 b) (As := ((st.take np).reverse).map (ab B b0)) ⟨hx, hb, hml, hown, hts⟩ hM ⟨callB_of np hts (good_Y hc0) rfl h1 h2 (hts _ hi0) (hts _ hl) hd9 ⟨h3, h4⟩, hn0, hts _ hs0⟩ ⟨hbl, hpc⟩ rfl (by simp [Nat.min_eq_left hlen]) hS.1.1 hst (by show 2 * 0 + _ ≤ 8; rw [ab_cats]; omega) hd ⟨h5, h6⟩
      · cases ea
    · cases ea
theorem ok_callIN {mj np idx ml : Nat} {y : MethodName} {by_ : ByteArray} {host : String} (hY : Y mj = (y, by_, ml, none)) (hl : Cond.methodLinkNest own idx y host ∈ nT) (hs0 : Cond.instanceMethod y ∈ gT) (hn0 : y.name = "<init>") (hi0 : Cond.initialized y.cls ∈ gT) (hc0 : Cond.code y by_ ml none ∈ gT)
    (hd9 : y.cls ≠ "java/lang/invoke/MethodHandle" ∧ y.cls ≠ "java/lang/invoke/VarHandle" ∧ (parseMethodDescriptor y.desc).map (fun d => d.parameters.length) = some np) (hd : decode cc pc = .ok (.invokespecial idx, 3)) : mm_okC law scr own cc nL ini rt Y pc (ac_callI mj np (pc + 3)) := by
  refine ⟨fun L st h o e => ?_, fun D aC B b0 p l e R s m args below meth c hC L st h ls H locs cells hS mj' as rest ea rm Pc Qc mc ms free hM h1 h2 h3 h4 hbl hpc h5 h6 => ?_⟩
  · unfold ac_callI at e
    repeat' split at e
    all_goals first | (cases e; exact ⟨_, _, _, rfl⟩) | cases e
  · obtain ⟨⟨hx, hb, hml, hr, hlk⟩, hown, hts, hK, hini, hlaw, hB, hR⟩ := hC
    unfold ac_callI at ea
    split at ea
    · rename_i b r hdr
      split at ea
      · rename_i hc
        cases ea
        unfold mm_wY at hM
        rw [hY] at hM h4
        have hst : st.map (ab B b0) = ((((st.take np).reverse).map (ab B b0))).reverse ++ .ref (adr B b0 b) :: rest.map (ab B b0) := by
          rw [← List.map_reverse, List.reverse_reverse]
          conv => lhs; rw [← List.take_append_drop np st, hdr, List.map_append]
          rfl
        have hlen : np ≤ st.length := by
          rcases Nat.lt_or_ge st.length np with q | q
          · rw [List.drop_eq_nil_of_le (Nat.le_of_lt q)] at hdr
            cases hdr
          · exact q
        exact va_runIN (Ts := gT) (b := adr B b0 b) (As := ((st.take np).reverse).map (ab B b0)) ⟨hx, hb, hml, hown, hts⟩ hM ⟨va_cnB np hts (good_Y hc0) rfl h1 h2 (hK.2.1 _ hl) (hts _ hi0) hd9 ⟨h3, h4⟩, hn0, hts _ hs0⟩ ⟨hbl, hpc⟩ rfl (by simp [Nat.min_eq_left hlen]) hS.1.1 hst (by show 2 * 0 + _ ≤ 8; rw [ab_cats]; omega) hd ⟨h5, h6⟩
      · cases ea
    · cases ea
theorem ok_callV {mj ci np idx ml : Nat} {y : MethodName} {by_ : ByteArray} {r0 : Option FieldType} {q0 : vw_C} (hY : Y mj = (y, by_, ml, r0)) (hc : vwCl[ci]? = some q0) (hcq : q0.1 = y.cls) (hl : Cond.methodLink own idx y ∈ gT) (hs0 : Cond.instanceMethod y ∈ gT) (hse : Cond.selects y.cls y y ∈ gT) (hi0 : Cond.initialized y.cls ∈ gT) (hc0 : Cond.code y by_ ml r0 ∈ gT)
    (hd9 : y.cls ≠ "java/lang/invoke/MethodHandle" ∧ y.cls ≠ "java/lang/invoke/VarHandle" ∧ (parseMethodDescriptor y.desc).map (fun d => d.parameters.length) = some np) (hd : decode cc pc = .ok (.invokevirtual idx, 3)) : mm_okC law scr own cc nL ini rt Y pc (ac_callV mj ci np (pc + 3)) := by
  refine ⟨fun L st h o e => ?_, fun D aC B b0 p l e R s m args below meth c hC L st h ls H locs cells hS mj' as rest ea rm Pc Qc mc ms free hM h1 h2 h3 h4 hbl hpc h5 h6 => ?_⟩
  · unfold ac_callV at e
    repeat' split at e
    all_goals first | (cases e; exact ⟨_, _, _, rfl⟩) | cases e
  · obtain ⟨⟨hx, hb, hml, hr, hlk⟩, hown, hts, hK, hini, hlaw, hB, hR⟩ := hC
    unfold ac_callV at ea
    split at ea
    · rename_i b r hdr
      split at ea
      · rename_i hcc
        cases ea
        unfold mm_wY at hM
        rw [hY] at hM h4
        obtain ⟨fs, g1⟩ := is_inv hcc.2
        obtain ⟨q, rfl⟩ := at_pos hS.2.2.1 g1 (cls_ne hc)
        have hrv := va_recv hK.1 hS.2.2.2.1 hc (ws_get g1)
        rw [hcq] at hrv
        have hst : st.map (ab B b0) = ((((st.take np).reverse).map (ab B b0))).reverse ++ .ref (B + q) :: rest.map (ab B b0) := by
          rw [← List.map_reverse, List.reverse_reverse]
          conv => lhs; rw [← List.take_append_drop np st, hdr, List.map_append]
          rfl
        have hlen : np ≤ st.length := by
          rcases Nat.lt_or_ge st.length np with q | q
          · rw [List.drop_eq_nil_of_le (Nat.le_of_lt q)] at hdr
            cases hdr
          · exact q
        exact va_runV (Ts := gT) (b := B + q) (C := y.cls) (As := ((st.take np).reverse).map (ab B b0)) ⟨hx, hb, hml, hown, hts⟩ hM ⟨callB_of np hts (good_Y hc0) rfl h1 h2 (hts _ hi0) (hts _ hl) hd9 ⟨h3, h4⟩, hts _ hs0, hts _ hse⟩ ⟨hbl, hrv, hpc⟩ rfl (by simp [Nat.min_eq_left hlen]) hS.1.1 hst (by show 2 * 0 + _ ≤ 8; rw [ab_cats]; have := hcc.1; omega) hd ⟨h5, h6⟩
      · cases ea
    · cases ea
end OK5
