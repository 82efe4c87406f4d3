/-! what it means that an act is sound, and the plain acts one by one -/
/-- how many cells a room holds, at 400 places each -/
def mm_rc (R : Room) : Nat := min R.cells (R.slots / 400)
/-- what holds all along a method's walk -/
def mm_C (law : Bool) (scr : List Int32) (own : String) (cc : ByteArray) (nL : Nat) (ini : Bool) (rt : Option FieldType) (D : va_G) (aC : Nat → ClassId) (B b0 : Nat) (p : Program) (R : Room) (s : State) (m : MethodId) (args : Array Value) (meth : Method) (c : Code) : Prop :=
  (p.tables.exec = Jvm.exec ∧ c.code = cc ∧ c.maxLocals = nL ∧ meth.sig.returnType = rt ∧ meth.locks = false) ∧ s.vm.findClass own = some m.cls ∧ (∀ w ∈ gT, w.before args s = true) ∧ mm_K D aC s ∧ (ini = true → meth.name = "<init>") ∧
  (law = true → va_X b0 scr.length (fun j => scr.getD j 0) s s.heap ∧ b0 < s.heap.size ∧ b0 < B) ∧ B ≤ s.heap.size ∧ (1 ≤ R.frames ∧ 35 ≤ R.locals ∧ mm_rc R ≤ R.cells ∧ 400 * mm_rc R ≤ R.slots)
/-- what holds at a point of it -/
def mm_S (D : va_G) (aC : Nat → ClassId) (B b0 : Nat) (s : State) (nL : Nat) (L : ML) (h : MH) (ls : Array Slot) (H : Heap) (locs : List Loc) (cells : Nat) : Prop :=
  mm_hld B b0 ls nL L ∧ mm_plain L ∧ h[0]? = some mm_dummy ∧ va_P D vwCl (mm_ws B b0 aC h) H ∧ va_S (fun q => B ≤ q) s.heap H locs ∧ s.heap.size + cells + 1 = B + h.length
def mm_okP (law : Bool) (scr : List Int32) (own : String) (cc : ByteArray) (nL : Nat) (ini : Bool) (rt : Option FieldType) (pc : Nat) (a : Act) : Prop :=
  (∀ (L : ML) (st : List Value) (h : MH) (o : MR), a L st h = some o → ∃ pc' L' st' h', o = .inl (pc', L', st', h') ∧ h.length ≤ h'.length ∧ (h[0]? = some mm_dummy → h'[0]? = some mm_dummy)) ∧
  ∀ (D : va_G) (aC : Nat → ClassId) (B b0 : Nat) (p : Program) (l : Launch) (e : Env) (R : Room) (s : State) (m : MethodId) (args : Array Value) (below : List Frame) (meth : Method) (c : Code) (Q : State → Prop), mm_C law scr own cc nL ini rt D aC B b0 p R s m args meth c →
  ∀ (L : ML) (st : List Value) (h : MH) (ls : Array Slot) (H : Heap) (locs : List Loc) (cells : Nat), mm_S D aC B b0 s nL L h ls H locs cells →
  ∀ (pc' : Nat) (L' : ML) (st' : List Value) (h' : MH), a L st h = some (.inl (pc', L', st', h')) → h.length ≤ h'.length ∧ (B + h'.length ≤ s.heap.size + mm_rc R + 1 →
    (∀ (ls' : Array Slot) (H' : Heap) (locs' : List Loc) (cells' : Nat), mm_S D aC B b0 s nL L' h' ls' H' locs' cells' → W p l e R s m args below meth c H' locs' cells' (400 * cells') Q (F0 m pc' ls' (st'.map (ab B b0)))) →
    W p l e R s m args below meth c H locs cells (400 * cells) Q (F0 m pc ls (st.map (ab B b0))))
section OK1
variable {law : Bool} {scr : List Int32} {own : String} {cc : ByteArray} {nL : Nat} {ini : Bool} {rt : Option FieldType} {pc : Nat}
theorem ok_iconst {k : Int} {v : Int32} (hd : decode cc pc = .ok (.iconst k, 1)) (hv : Int32.ofInt k = v) : mm_okP law scr own cc nL ini rt pc (ac_push (.int v) (pc + 1)) := by
  refine ⟨fun L st h o e => ?_, fun D aC B b0 p l e R s m args below meth c Q hC L st h ls H locs cells hS pc' L' st' h' ea => ?_⟩
  · unfold ac_push at e
    repeat' split at e
    all_goals first | (cases e; exact ⟨_, _, _, _, rfl, Nat.le_refl _, id⟩) | cases e
  · obtain ⟨⟨hx, hb, hml, hr, hlk⟩, hown, hts, hK, hini, hlaw, hB, hR⟩ := hC
    unfold ac_push at ea
    cases ea
    exact ⟨Nat.le_refl _, fun _ kk => lv_iconst hx hb hd hv (kk _ _ _ _ hS)⟩
theorem ok_bipush {k : Int} {v : Int32} (hd : decode cc pc = .ok (.bipush k, 2)) (hv : (Int8.ofInt k).toInt32 = v) : mm_okP law scr own cc nL ini rt pc (ac_push (.int v) (pc + 2)) := by
  refine ⟨fun L st h o e => ?_, fun D aC B b0 p l e R s m args below meth c Q hC L st h ls H locs cells hS pc' L' st' h' ea => ?_⟩
  · unfold ac_push at e
    repeat' split at e
    all_goals first | (cases e; exact ⟨_, _, _, _, rfl, Nat.le_refl _, id⟩) | cases e
  · obtain ⟨⟨hx, hb, hml, hr, hlk⟩, hown, hts, hK, hini, hlaw, hB, hR⟩ := hC
    unfold ac_push at ea
    cases ea
    exact ⟨Nat.le_refl _, fun _ kk => lv_bipush hx hb hd hv (kk _ _ _ _ hS)⟩
theorem ok_sipush {k : Int} {v : Int32} (hd : decode cc pc = .ok (.sipush k, 3)) (hv : (Int16.ofInt k).toInt32 = v) : mm_okP law scr own cc nL ini rt pc (ac_push (.int v) (pc + 3)) := by
  refine ⟨fun L st h o e => ?_, fun D aC B b0 p l e R s m args below meth c Q hC L st h ls H locs cells hS pc' L' st' h' ea => ?_⟩
  · unfold ac_push at e
    repeat' split at e
    all_goals first | (cases e; exact ⟨_, _, _, _, rfl, Nat.le_refl _, id⟩) | cases e
  · obtain ⟨⟨hx, hb, hml, hr, hlk⟩, hown, hts, hK, hini, hlaw, hB, hR⟩ := hC
    unfold ac_push at ea
    cases ea
    exact ⟨Nat.le_refl _, fun _ kk => lv_sipush hx hb hd hv (kk _ _ _ _ hS)⟩
theorem ok_lconst {k : Fin 2} {v : Int64} (hd : decode cc pc = .ok (.lconst k, 1)) (hv : Int64.ofNat (k : Nat) = v) : mm_okP law scr own cc nL ini rt pc (ac_push (.long v) (pc + 1)) := by
  refine ⟨fun L st h o e => ?_, fun D aC B b0 p l e R s m args below meth c Q hC L st h ls H locs cells hS pc' L' st' h' ea => ?_⟩
  · unfold ac_push at e
    repeat' split at e
    all_goals first | (cases e; exact ⟨_, _, _, _, rfl, Nat.le_refl _, id⟩) | cases e
  · obtain ⟨⟨hx, hb, hml, hr, hlk⟩, hown, hts, hK, hini, hlaw, hB, hR⟩ := hC
    unfold ac_push at ea
    cases ea
    exact ⟨Nat.le_refl _, fun _ kk => lv_lconst hx hb hd hv (kk _ _ _ _ hS)⟩
theorem ok_ldc2 {k : Nat} {v : Int64} (hw : Cond.constantLong own k v ∈ gT) (hd : decode cc pc = .ok (.ldc2_w k, 3)) : mm_okP law scr own cc nL ini rt pc (ac_push (.long v) (pc + 3)) := by
  refine ⟨fun L st h o e => ?_, fun D aC B b0 p l e R s m args below meth c Q hC L st h ls H locs cells hS pc' L' st' h' ea => ?_⟩
  · unfold ac_push at e
    repeat' split at e
    all_goals first | (cases e; exact ⟨_, _, _, _, rfl, Nat.le_refl _, id⟩) | cases e
  · obtain ⟨⟨hx, hb, hml, hr, hlk⟩, hown, hts, hK, hini, hlaw, hB, hR⟩ := hC
    unfold ac_push at ea
    cases ea
    exact ⟨Nat.le_refl _, fun _ kk => lv_ldc2 hx hb hown (hts _ hw) hd (kk _ _ _ _ hS)⟩
theorem ok_iload_n {k : Fin 4} {i : Nat} (hd : decode cc pc = .ok (.iload_n k, 1)) (hi : (k : Nat) = i) : mm_okP law scr own cc nL ini rt pc (ac_ldI i (pc + 1)) := by
  refine ⟨fun L st h o e => ?_, fun D aC B b0 p l e R s m args below meth c Q hC L st h ls H locs cells hS pc' L' st' h' ea => ?_⟩
  · unfold ac_ldI at e
    repeat' split at e
    all_goals first | (cases e; exact ⟨_, _, _, _, rfl, Nat.le_refl _, id⟩) | cases e
  · obtain ⟨⟨hx, hb, hml, hr, hlk⟩, hown, hts, hK, hini, hlaw, hB, hR⟩ := hC
    unfold ac_ldI at ea
    split at ea
    · rename_i x hl
      cases ea
      exact ⟨Nat.le_refl _, fun _ kk => lv_iload_n hx hb hd hi (hS.1.2.2.2 _ _ hl) (kk _ _ _ _ hS)⟩
    · cases ea
theorem ok_iload {i : Nat} (hd : decode cc pc = .ok (.iload i, 2)) : mm_okP law scr own cc nL ini rt pc (ac_ldI i (pc + 2)) := by
  refine ⟨fun L st h o e => ?_, fun D aC B b0 p l e R s m args below meth c Q hC L st h ls H locs cells hS pc' L' st' h' ea => ?_⟩
  · unfold ac_ldI at e
    repeat' split at e
    all_goals first | (cases e; exact ⟨_, _, _, _, rfl, Nat.le_refl _, id⟩) | cases e
  · obtain ⟨⟨hx, hb, hml, hr, hlk⟩, hown, hts, hK, hini, hlaw, hB, hR⟩ := hC
    unfold ac_ldI at ea
    split at ea
    · rename_i x hl
      cases ea
      exact ⟨Nat.le_refl _, fun _ kk => lv_iload hx hb hd (hS.1.2.2.2 _ _ hl) (kk _ _ _ _ hS)⟩
    · cases ea
theorem ok_lload_n {k : Fin 4} {i : Nat} (hd : decode cc pc = .ok (.lload_n k, 1)) (hi : (k : Nat) = i) : mm_okP law scr own cc nL ini rt pc (ac_ldL i (pc + 1)) := by
  refine ⟨fun L st h o e => ?_, fun D aC B b0 p l e R s m args below meth c Q hC L st h ls H locs cells hS pc' L' st' h' ea => ?_⟩
  · unfold ac_ldL at e
    repeat' split at e
    all_goals first | (cases e; exact ⟨_, _, _, _, rfl, Nat.le_refl _, id⟩) | cases e
  · obtain ⟨⟨hx, hb, hml, hr, hlk⟩, hown, hts, hK, hini, hlaw, hB, hR⟩ := hC
    unfold ac_ldL at ea
    split at ea
    · rename_i x hl
      cases ea
      exact ⟨Nat.le_refl _, fun _ kk => lv_lload_n hx hb hd hi (hS.1.2.2.2 _ _ hl) (kk _ _ _ _ hS)⟩
    · cases ea
theorem ok_lload {i : Nat} (hd : decode cc pc = .ok (.lload i, 2)) : mm_okP law scr own cc nL ini rt pc (ac_ldL i (pc + 2)) := by
  refine ⟨fun L st h o e => ?_, fun D aC B b0 p l e R s m args below meth c Q hC L st h ls H locs cells hS pc' L' st' h' ea => ?_⟩
  · unfold ac_ldL at e
    repeat' split at e
    all_goals first | (cases e; exact ⟨_, _, _, _, rfl, Nat.le_refl _, id⟩) | cases e
  · obtain ⟨⟨hx, hb, hml, hr, hlk⟩, hown, hts, hK, hini, hlaw, hB, hR⟩ := hC
    unfold ac_ldL at ea
    split at ea
    · rename_i x hl
      cases ea
      exact ⟨Nat.le_refl _, fun _ kk => lv_lload hx hb hd (hS.1.2.2.2 _ _ hl) (kk _ _ _ _ hS)⟩
    · cases ea
theorem ok_aload_n {k : Fin 4} {i : Nat} (hd : decode cc pc = .ok (.aload_n k, 1)) (hi : (k : Nat) = i) : mm_okP law scr own cc nL ini rt pc (ac_ldA i (pc + 1)) := by
  refine ⟨fun L st h o e => ?_, fun D aC B b0 p l e R s m args below meth c Q hC L st h ls H locs cells hS pc' L' st' h' ea => ?_⟩
  · unfold ac_ldA at e
    repeat' split at e
    all_goals first | (cases e; exact ⟨_, _, _, _, rfl, Nat.le_refl _, id⟩) | cases e
  · obtain ⟨⟨hx, hb, hml, hr, hlk⟩, hown, hts, hK, hini, hlaw, hB, hR⟩ := hC
    unfold ac_ldA at ea
    split at ea
    · rename_i x hl
      cases ea
      exact ⟨Nat.le_refl _, fun _ kk => lv_aload_n hx hb hd hi (hS.1.2.2.2 _ _ hl) (kk _ _ _ _ hS)⟩
    · cases ea
theorem ok_aload {i : Nat} (hd : decode cc pc = .ok (.aload i, 2)) : mm_okP law scr own cc nL ini rt pc (ac_ldA i (pc + 2)) := by
  refine ⟨fun L st h o e => ?_, fun D aC B b0 p l e R s m args below meth c Q hC L st h ls H locs cells hS pc' L' st' h' ea => ?_⟩
  · unfold ac_ldA at e
    repeat' split at e
    all_goals first | (cases e; exact ⟨_, _, _, _, rfl, Nat.le_refl _, id⟩) | cases e
  · obtain ⟨⟨hx, hb, hml, hr, hlk⟩, hown, hts, hK, hini, hlaw, hB, hR⟩ := hC
    unfold ac_ldA at ea
    split at ea
    · rename_i x hl
      cases ea
      exact ⟨Nat.le_refl _, fun _ kk => lv_aload hx hb hd (hS.1.2.2.2 _ _ hl) (kk _ _ _ _ hS)⟩
    · cases ea
theorem ok_istore_n {k : Fin 4} {i : Nat} (hd : decode cc pc = .ok (.istore_n k, 1)) (hi : (k : Nat) = i) : mm_okP law scr own cc nL ini rt pc (ac_stI i (pc + 1)) := by
  refine ⟨fun L st h o e => ?_, fun D aC B b0 p l e R s m args below meth c Q hC L st h ls H locs cells hS pc' L' st' h' ea => ?_⟩
  · unfold ac_stI at e
    repeat' split at e
    all_goals first | (cases e; exact ⟨_, _, _, _, rfl, Nat.le_refl _, id⟩) | cases e
  · obtain ⟨⟨hx, hb, hml, hr, hlk⟩, hown, hts, hK, hini, hlaw, hB, hR⟩ := hC
    unfold ac_stI at ea
    split at ea
    · rename_i x r
      split at ea
      · rename_i hlt
        cases ea
        exact ⟨Nat.le_refl _, fun _ kk => lv_istore_n hx hb hd hi hS.1.has (Nat.lt_of_lt_of_le hlt hS.1.2.2.1) rfl (fun ls' hl' => kk _ _ _ _ ⟨hld_set1 (v := .int x) hS.1.2.2.1 hS.2.1 hl', plain_set1 hS.2.1 (fun q => by cases q), hS.2.2⟩)⟩
      · cases ea
    · cases ea
theorem ok_istore {i : Nat} (hd : decode cc pc = .ok (.istore i, 2)) : mm_okP law scr own cc nL ini rt pc (ac_stI i (pc + 2)) := by
  refine ⟨fun L st h o e => ?_, fun D aC B b0 p l e R s m args below meth c Q hC L st h ls H locs cells hS pc' L' st' h' ea => ?_⟩
  · unfold ac_stI at e
    repeat' split at e
    all_goals first | (cases e; exact ⟨_, _, _, _, rfl, Nat.le_refl _, id⟩) | cases e
  · obtain ⟨⟨hx, hb, hml, hr, hlk⟩, hown, hts, hK, hini, hlaw, hB, hR⟩ := hC
    unfold ac_stI at ea
    split at ea
    · rename_i x r
      split at ea
      · rename_i hlt
        cases ea
        exact ⟨Nat.le_refl _, fun _ kk => lv_istore hx hb hd hS.1.has (Nat.lt_of_lt_of_le hlt hS.1.2.2.1) rfl (fun ls' hl' => kk _ _ _ _ ⟨hld_set1 (v := .int x) hS.1.2.2.1 hS.2.1 hl', plain_set1 hS.2.1 (fun q => by cases q), hS.2.2⟩)⟩
      · cases ea
    · cases ea
theorem ok_astore_n {k : Fin 4} {i : Nat} (hd : decode cc pc = .ok (.astore_n k, 1)) (hi : (k : Nat) = i) : mm_okP law scr own cc nL ini rt pc (ac_stA i (pc + 1)) := by
  refine ⟨fun L st h o e => ?_, fun D aC B b0 p l e R s m args below meth c Q hC L st h ls H locs cells hS pc' L' st' h' ea => ?_⟩
  · unfold ac_stA at e
    repeat' split at e
    all_goals first | (cases e; exact ⟨_, _, _, _, rfl, Nat.le_refl _, id⟩) | cases e
  · obtain ⟨⟨hx, hb, hml, hr, hlk⟩, hown, hts, hK, hini, hlaw, hB, hR⟩ := hC
    unfold ac_stA at ea
    split at ea
    · rename_i x r
      split at ea
      · rename_i hlt
        cases ea
        exact ⟨Nat.le_refl _, fun _ kk => lv_astore_n hx hb hd hi hS.1.has (Nat.lt_of_lt_of_le hlt hS.1.2.2.1) rfl (fun ls' hl' => kk _ _ _ _ ⟨hld_set1 (v := .ref x) hS.1.2.2.1 hS.2.1 hl', plain_set1 hS.2.1 (fun q => by cases q), hS.2.2⟩)⟩
      · cases ea
    · cases ea
theorem ok_astore {i : Nat} (hd : decode cc pc = .ok (.astore i, 2)) : mm_okP law scr own cc nL ini rt pc (ac_stA i (pc + 2)) := by
  refine ⟨fun L st h o e => ?_, fun D aC B b0 p l e R s m args below meth c Q hC L st h ls H locs cells hS pc' L' st' h' ea => ?_⟩
  · unfold ac_stA at e
    repeat' split at e
    all_goals first | (cases e; exact ⟨_, _, _, _, rfl, Nat.le_refl _, id⟩) | cases e
  · obtain ⟨⟨hx, hb, hml, hr, hlk⟩, hown, hts, hK, hini, hlaw, hB, hR⟩ := hC
    unfold ac_stA at ea
    split at ea
    · rename_i x r
      split at ea
      · rename_i hlt
        cases ea
        exact ⟨Nat.le_refl _, fun _ kk => lv_astore hx hb hd hS.1.has (Nat.lt_of_lt_of_le hlt hS.1.2.2.1) rfl (fun ls' hl' => kk _ _ _ _ ⟨hld_set1 (v := .ref x) hS.1.2.2.1 hS.2.1 hl', plain_set1 hS.2.1 (fun q => by cases q), hS.2.2⟩)⟩
      · cases ea
    · cases ea
theorem ok_lstore_n {k : Fin 4} {i : Nat} (hd : decode cc pc = .ok (.lstore_n k, 1)) (hi : (k : Nat) = i) : mm_okP law scr own cc nL ini rt pc (ac_stL i (pc + 1)) := by
  refine ⟨fun L st h o e => ?_, fun D aC B b0 p l e R s m args below meth c Q hC L st h ls H locs cells hS pc' L' st' h' ea => ?_⟩
  · unfold ac_stL at e
    repeat' split at e
    all_goals first | (cases e; exact ⟨_, _, _, _, rfl, Nat.le_refl _, id⟩) | cases e
  · obtain ⟨⟨hx, hb, hml, hr, hlk⟩, hown, hts, hK, hini, hlaw, hB, hR⟩ := hC
    unfold ac_stL at ea
    split at ea
    · rename_i x r
      split at ea
      · rename_i hlt
        cases ea
        exact ⟨Nat.le_refl _, fun _ kk => lv_lstore_n hx hb hd hi hS.1.has (Nat.lt_of_lt_of_le hlt hS.1.2.2.1) rfl (fun ls' hl' => kk _ _ _ _ ⟨hld_set2 (v := .long x) hS.1.2.2.1 hS.2.1 hl', plain_set2 hS.2.1, hS.2.2⟩)⟩
      · cases ea
    · cases ea
theorem ok_lstore {i : Nat} (hd : decode cc pc = .ok (.lstore i, 2)) : mm_okP law scr own cc nL ini rt pc (ac_stL i (pc + 2)) := by
  refine ⟨fun L st h o e => ?_, fun D aC B b0 p l e R s m args below meth c Q hC L st h ls H locs cells hS pc' L' st' h' ea => ?_⟩
  · unfold ac_stL at e
    repeat' split at e
    all_goals first | (cases e; exact ⟨_, _, _, _, rfl, Nat.le_refl _, id⟩) | cases e
  · obtain ⟨⟨hx, hb, hml, hr, hlk⟩, hown, hts, hK, hini, hlaw, hB, hR⟩ := hC
    unfold ac_stL at ea
    split at ea
    · rename_i x r
      split at ea
      · rename_i hlt
        cases ea
        exact ⟨Nat.le_refl _, fun _ kk => lv_lstore hx hb hd hS.1.has (Nat.lt_of_lt_of_le hlt hS.1.2.2.1) rfl (fun ls' hl' => kk _ _ _ _ ⟨hld_set2 (v := .long x) hS.1.2.2.1 hS.2.1 hl', plain_set2 hS.2.1, hS.2.2⟩)⟩
      · cases ea
    · cases ea
theorem ok_iinc {i : Nat} {k : Int} {d : Int32} (hd : decode cc pc = .ok (.iinc i k, 3)) (hv : Int32.ofInt k = d) : mm_okP law scr own cc nL ini rt pc (ac_inc i d (pc + 3)) := by
  refine ⟨fun L st h o e => ?_, fun D aC B b0 p l e R s m args below meth c Q hC L st h ls H locs cells hS pc' L' st' h' ea => ?_⟩
  · unfold ac_inc at e
    repeat' split at e
    all_goals first | (cases e; exact ⟨_, _, _, _, rfl, Nat.le_refl _, id⟩) | cases e
  · obtain ⟨⟨hx, hb, hml, hr, hlk⟩, hown, hts, hK, hini, hlaw, hB, hR⟩ := hC
    unfold ac_inc at ea
    split at ea
    · rename_i x hl
      cases ea
      obtain ⟨j, hj⟩ := List.getElem?_of_mem (lst_mem (B := B) (b0 := b0) hl)
      subst hv
      exact ⟨Nat.le_refl _, fun _ kk => lv_iinc hx hb hd hS.1.has hj rfl (Nat.lt_of_lt_of_le (List.getElem?_eq_some_iff.mp hl).1 hS.1.2.2.1) rfl (fun ls' hl' => kk _ _ _ _ ⟨hld_set1 (v := .int _) hS.1.2.2.1 hS.2.1 hl', plain_set1 hS.2.1 (fun q => by cases q), hS.2.2⟩)⟩
    · cases ea
theorem ok_iadd (hd : decode cc pc = .ok (.iadd, 1)) : mm_okP law scr own cc nL ini rt pc (ac_bI (fun x y => x + y) (pc + 1)) := by
  refine ⟨fun L st h o e => ?_, fun D aC B b0 p l e R s m args below meth c Q hC L st h ls H locs cells hS pc' L' st' h' ea => ?_⟩
  · unfold ac_bI at e
    repeat' split at e
    all_goals first | (cases e; exact ⟨_, _, _, _, rfl, Nat.le_refl _, id⟩) | cases e
  · obtain ⟨⟨hx, hb, hml, hr, hlk⟩, hown, hts, hK, hini, hlaw, hB, hR⟩ := hC
    unfold ac_bI at ea
    split at ea
    · cases ea
      exact ⟨Nat.le_refl _, fun _ kk => lv_iadd hx hb hd (kk _ _ _ _ hS)⟩
    · cases ea
theorem ok_isub (hd : decode cc pc = .ok (.isub, 1)) : mm_okP law scr own cc nL ini rt pc (ac_bI (fun x y => x - y) (pc + 1)) := by
  refine ⟨fun L st h o e => ?_, fun D aC B b0 p l e R s m args below meth c Q hC L st h ls H locs cells hS pc' L' st' h' ea => ?_⟩
  · unfold ac_bI at e
    repeat' split at e
    all_goals first | (cases e; exact ⟨_, _, _, _, rfl, Nat.le_refl _, id⟩) | cases e
  · obtain ⟨⟨hx, hb, hml, hr, hlk⟩, hown, hts, hK, hini, hlaw, hB, hR⟩ := hC
    unfold ac_bI at ea
    split at ea
    · cases ea
      exact ⟨Nat.le_refl _, fun _ kk => lv_isub hx hb hd (kk _ _ _ _ hS)⟩
    · cases ea
theorem ok_imul (hd : decode cc pc = .ok (.imul, 1)) : mm_okP law scr own cc nL ini rt pc (ac_bI (fun x y => x * y) (pc + 1)) := by
  refine ⟨fun L st h o e => ?_, fun D aC B b0 p l e R s m args below meth c Q hC L st h ls H locs cells hS pc' L' st' h' ea => ?_⟩
  · unfold ac_bI at e
    repeat' split at e
    all_goals first | (cases e; exact ⟨_, _, _, _, rfl, Nat.le_refl _, id⟩) | cases e
  · obtain ⟨⟨hx, hb, hml, hr, hlk⟩, hown, hts, hK, hini, hlaw, hB, hR⟩ := hC
    unfold ac_bI at ea
    split at ea
    · cases ea
      exact ⟨Nat.le_refl _, fun _ kk => lv_imul hx hb hd (kk _ _ _ _ hS)⟩
    · cases ea
theorem ok_iand (hd : decode cc pc = .ok (.iand, 1)) : mm_okP law scr own cc nL ini rt pc (ac_bI (fun x y => x &&& y) (pc + 1)) := by
  refine ⟨fun L st h o e => ?_, fun D aC B b0 p l e R s m args below meth c Q hC L st h ls H locs cells hS pc' L' st' h' ea => ?_⟩
  · unfold ac_bI at e
    repeat' split at e
    all_goals first | (cases e; exact ⟨_, _, _, _, rfl, Nat.le_refl _, id⟩) | cases e
  · obtain ⟨⟨hx, hb, hml, hr, hlk⟩, hown, hts, hK, hini, hlaw, hB, hR⟩ := hC
    unfold ac_bI at ea
    split at ea
    · cases ea
      exact ⟨Nat.le_refl _, fun _ kk => lv_iand hx hb hd (kk _ _ _ _ hS)⟩
    · cases ea
theorem ok_ior (hd : decode cc pc = .ok (.ior, 1)) : mm_okP law scr own cc nL ini rt pc (ac_bI (fun x y => x ||| y) (pc + 1)) := by
  refine ⟨fun L st h o e => ?_, fun D aC B b0 p l e R s m args below meth c Q hC L st h ls H locs cells hS pc' L' st' h' ea => ?_⟩
  · unfold ac_bI at e
    repeat' split at e
    all_goals first | (cases e; exact ⟨_, _, _, _, rfl, Nat.le_refl _, id⟩) | cases e
  · obtain ⟨⟨hx, hb, hml, hr, hlk⟩, hown, hts, hK, hini, hlaw, hB, hR⟩ := hC
    unfold ac_bI at ea
    split at ea
    · cases ea
      exact ⟨Nat.le_refl _, fun _ kk => lv_ior hx hb hd (kk _ _ _ _ hS)⟩
    · cases ea
theorem ok_ishl (hd : decode cc pc = .ok (.ishl, 1)) : mm_okP law scr own cc nL ini rt pc (ac_bI (fun x y => x <<< (y &&& 31)) (pc + 1)) := by
  refine ⟨fun L st h o e => ?_, fun D aC B b0 p l e R s m args below meth c Q hC L st h ls H locs cells hS pc' L' st' h' ea => ?_⟩
  · unfold ac_bI at e
    repeat' split at e
    all_goals first | (cases e; exact ⟨_, _, _, _, rfl, Nat.le_refl _, id⟩) | cases e
  · obtain ⟨⟨hx, hb, hml, hr, hlk⟩, hown, hts, hK, hini, hlaw, hB, hR⟩ := hC
    unfold ac_bI at ea
    split at ea
    · cases ea
      exact ⟨Nat.le_refl _, fun _ kk => lv_ishl hx hb hd (kk _ _ _ _ hS)⟩
    · cases ea
theorem ok_ishr (hd : decode cc pc = .ok (.ishr, 1)) : mm_okP law scr own cc nL ini rt pc (ac_bI (fun x y => x >>> (y &&& 31)) (pc + 1)) := by
  refine ⟨fun L st h o e => ?_, fun D aC B b0 p l e R s m args below meth c Q hC L st h ls H locs cells hS pc' L' st' h' ea => ?_⟩
  · unfold ac_bI at e
    repeat' split at e
    all_goals first | (cases e; exact ⟨_, _, _, _, rfl, Nat.le_refl _, id⟩) | cases e
  · obtain ⟨⟨hx, hb, hml, hr, hlk⟩, hown, hts, hK, hini, hlaw, hB, hR⟩ := hC
    unfold ac_bI at ea
    split at ea
    · cases ea
      exact ⟨Nat.le_refl _, fun _ kk => lv_ishr hx hb hd (kk _ _ _ _ hS)⟩
    · cases ea
theorem ok_idiv (hd : decode cc pc = .ok (.idiv, 1)) : mm_okP law scr own cc nL ini rt pc (ac_dI (fun x y => x / y) (pc + 1)) := by
  refine ⟨fun L st h o e => ?_, fun D aC B b0 p l e R s m args below meth c Q hC L st h ls H locs cells hS pc' L' st' h' ea => ?_⟩
  · unfold ac_dI at e
    repeat' split at e
    all_goals first | (cases e; exact ⟨_, _, _, _, rfl, Nat.le_refl _, id⟩) | cases e
  · obtain ⟨⟨hx, hb, hml, hr, hlk⟩, hown, hts, hK, hini, hlaw, hB, hR⟩ := hC
    unfold ac_dI at ea
    split at ea
    · split at ea
      · cases ea
      · rename_i hne
        cases ea
        exact ⟨Nat.le_refl _, fun _ kk => lv_idiv hx hb hd hne (kk _ _ _ _ hS)⟩
    · cases ea
theorem ok_ineg (hd : decode cc pc = .ok (.ineg, 1)) : mm_okP law scr own cc nL ini rt pc (ac_uI (fun x => -x) (pc + 1)) := by
  refine ⟨fun L st h o e => ?_, fun D aC B b0 p l e R s m args below meth c Q hC L st h ls H locs cells hS pc' L' st' h' ea => ?_⟩
  · unfold ac_uI at e
    repeat' split at e
    all_goals first | (cases e; exact ⟨_, _, _, _, rfl, Nat.le_refl _, id⟩) | cases e
  · obtain ⟨⟨hx, hb, hml, hr, hlk⟩, hown, hts, hK, hini, hlaw, hB, hR⟩ := hC
    unfold ac_uI at ea
    split at ea
    · cases ea
      exact ⟨Nat.le_refl _, fun _ kk => lv_ineg hx hb hd (kk _ _ _ _ hS)⟩
    · cases ea
theorem ok_i2b (hd : decode cc pc = .ok (.i2b, 1)) : mm_okP law scr own cc nL ini rt pc (ac_uI (fun x => x.toInt8.toInt32) (pc + 1)) := by
  refine ⟨fun L st h o e => ?_, fun D aC B b0 p l e R s m args below meth c Q hC L st h ls H locs cells hS pc' L' st' h' ea => ?_⟩
  · unfold ac_uI at e
    repeat' split at e
    all_goals first | (cases e; exact ⟨_, _, _, _, rfl, Nat.le_refl _, id⟩) | cases e
  · obtain ⟨⟨hx, hb, hml, hr, hlk⟩, hown, hts, hK, hini, hlaw, hB, hR⟩ := hC
    unfold ac_uI at ea
    split at ea
    · cases ea
      exact ⟨Nat.le_refl _, fun _ kk => lv_i2b hx hb hd rfl (kk _ _ _ _ hS)⟩
    · cases ea
theorem ok_i2s (hd : decode cc pc = .ok (.i2s, 1)) : mm_okP law scr own cc nL ini rt pc (ac_uI (fun x => x.toInt16.toInt32) (pc + 1)) := by
  refine ⟨fun L st h o e => ?_, fun D aC B b0 p l e R s m args below meth c Q hC L st h ls H locs cells hS pc' L' st' h' ea => ?_⟩
  · unfold ac_uI at e
    repeat' split at e
    all_goals first | (cases e; exact ⟨_, _, _, _, rfl, Nat.le_refl _, id⟩) | cases e
  · obtain ⟨⟨hx, hb, hml, hr, hlk⟩, hown, hts, hK, hini, hlaw, hB, hR⟩ := hC
    unfold ac_uI at ea
    split at ea
    · cases ea
      exact ⟨Nat.le_refl _, fun _ kk => lv_i2s hx hb hd rfl (kk _ _ _ _ hS)⟩
    · cases ea
theorem ok_ladd (hd : decode cc pc = .ok (.ladd, 1)) : mm_okP law scr own cc nL ini rt pc (ac_bL (fun x y => x + y) (pc + 1)) := by
  refine ⟨fun L st h o e => ?_, fun D aC B b0 p l e R s m args below meth c Q hC L st h ls H locs cells hS pc' L' st' h' ea => ?_⟩
  · unfold ac_bL at e
    repeat' split at e
    all_goals first | (cases e; exact ⟨_, _, _, _, rfl, Nat.le_refl _, id⟩) | cases e
  · obtain ⟨⟨hx, hb, hml, hr, hlk⟩, hown, hts, hK, hini, hlaw, hB, hR⟩ := hC
    unfold ac_bL at ea
    split at ea
    · cases ea
      exact ⟨Nat.le_refl _, fun _ kk => lv_ladd hx hb hd (kk _ _ _ _ hS)⟩
    · cases ea
theorem ok_lsub (hd : decode cc pc = .ok (.lsub, 1)) : mm_okP law scr own cc nL ini rt pc (ac_bL (fun x y => x - y) (pc + 1)) := by
  refine ⟨fun L st h o e => ?_, fun D aC B b0 p l e R s m args below meth c Q hC L st h ls H locs cells hS pc' L' st' h' ea => ?_⟩
  · unfold ac_bL at e
    repeat' split at e
    all_goals first | (cases e; exact ⟨_, _, _, _, rfl, Nat.le_refl _, id⟩) | cases e
  · obtain ⟨⟨hx, hb, hml, hr, hlk⟩, hown, hts, hK, hini, hlaw, hB, hR⟩ := hC
    unfold ac_bL at ea
    split at ea
    · cases ea
      exact ⟨Nat.le_refl _, fun _ kk => lv_lsub hx hb hd (kk _ _ _ _ hS)⟩
    · cases ea
theorem ok_lmul (hd : decode cc pc = .ok (.lmul, 1)) : mm_okP law scr own cc nL ini rt pc (ac_bL (fun x y => x * y) (pc + 1)) := by
  refine ⟨fun L st h o e => ?_, fun D aC B b0 p l e R s m args below meth c Q hC L st h ls H locs cells hS pc' L' st' h' ea => ?_⟩
  · unfold ac_bL at e
    repeat' split at e
    all_goals first | (cases e; exact ⟨_, _, _, _, rfl, Nat.le_refl _, id⟩) | cases e
  · obtain ⟨⟨hx, hb, hml, hr, hlk⟩, hown, hts, hK, hini, hlaw, hB, hR⟩ := hC
    unfold ac_bL at ea
    split at ea
    · cases ea
      exact ⟨Nat.le_refl _, fun _ kk => lv_lmul hx hb hd (kk _ _ _ _ hS)⟩
    · cases ea
theorem ok_land (hd : decode cc pc = .ok (.land, 1)) : mm_okP law scr own cc nL ini rt pc (ac_bL (fun x y => x &&& y) (pc + 1)) := by
  refine ⟨fun L st h o e => ?_, fun D aC B b0 p l e R s m args below meth c Q hC L st h ls H locs cells hS pc' L' st' h' ea => ?_⟩
  · unfold ac_bL at e
    repeat' split at e
    all_goals first | (cases e; exact ⟨_, _, _, _, rfl, Nat.le_refl _, id⟩) | cases e
  · obtain ⟨⟨hx, hb, hml, hr, hlk⟩, hown, hts, hK, hini, hlaw, hB, hR⟩ := hC
    unfold ac_bL at ea
    split at ea
    · cases ea
      exact ⟨Nat.le_refl _, fun _ kk => lv_land hx hb hd (kk _ _ _ _ hS)⟩
    · cases ea
theorem ok_lor (hd : decode cc pc = .ok (.lor, 1)) : mm_okP law scr own cc nL ini rt pc (ac_bL (fun x y => x ||| y) (pc + 1)) := by
  refine ⟨fun L st h o e => ?_, fun D aC B b0 p l e R s m args below meth c Q hC L st h ls H locs cells hS pc' L' st' h' ea => ?_⟩
  · unfold ac_bL at e
    repeat' split at e
    all_goals first | (cases e; exact ⟨_, _, _, _, rfl, Nat.le_refl _, id⟩) | cases e
  · obtain ⟨⟨hx, hb, hml, hr, hlk⟩, hown, hts, hK, hini, hlaw, hB, hR⟩ := hC
    unfold ac_bL at ea
    split at ea
    · cases ea
      exact ⟨Nat.le_refl _, fun _ kk => lv_lor hx hb hd (kk _ _ _ _ hS)⟩
    · cases ea
theorem ok_ldiv (hd : decode cc pc = .ok (.ldiv, 1)) : mm_okP law scr own cc nL ini rt pc (ac_dL (fun x y => x / y) (pc + 1)) := by
  refine ⟨fun L st h o e => ?_, fun D aC B b0 p l e R s m args below meth c Q hC L st h ls H locs cells hS pc' L' st' h' ea => ?_⟩
  · unfold ac_dL at e
    repeat' split at e
    all_goals first | (cases e; exact ⟨_, _, _, _, rfl, Nat.le_refl _, id⟩) | cases e
  · obtain ⟨⟨hx, hb, hml, hr, hlk⟩, hown, hts, hK, hini, hlaw, hB, hR⟩ := hC
    unfold ac_dL at ea
    split at ea
    · split at ea
      · cases ea
      · rename_i hne
        cases ea
        exact ⟨Nat.le_refl _, fun _ kk => lv_ldiv hx hb hd hne (kk _ _ _ _ hS)⟩
    · cases ea
theorem ok_lrem (hd : decode cc pc = .ok (.lrem, 1)) : mm_okP law scr own cc nL ini rt pc (ac_dL (fun x y => x - x / y * y) (pc + 1)) := by
  refine ⟨fun L st h o e => ?_, fun D aC B b0 p l e R s m args below meth c Q hC L st h ls H locs cells hS pc' L' st' h' ea => ?_⟩
  · unfold ac_dL at e
    repeat' split at e
    all_goals first | (cases e; exact ⟨_, _, _, _, rfl, Nat.le_refl _, id⟩) | cases e
  · obtain ⟨⟨hx, hb, hml, hr, hlk⟩, hown, hts, hK, hini, hlaw, hB, hR⟩ := hC
    unfold ac_dL at ea
    split at ea
    · split at ea
      · cases ea
      · rename_i hne
        cases ea
        exact ⟨Nat.le_refl _, fun _ kk => lv_lrem hx hb hd hne (kk _ _ _ _ hS)⟩
    · cases ea
theorem ok_lneg (hd : decode cc pc = .ok (.lneg, 1)) : mm_okP law scr own cc nL ini rt pc (ac_uL (fun x => -x) (pc + 1)) := by
  refine ⟨fun L st h o e => ?_, fun D aC B b0 p l e R s m args below meth c Q hC L st h ls H locs cells hS pc' L' st' h' ea => ?_⟩
  · unfold ac_uL at e
    repeat' split at e
    all_goals first | (cases e; exact ⟨_, _, _, _, rfl, Nat.le_refl _, id⟩) | cases e
  · obtain ⟨⟨hx, hb, hml, hr, hlk⟩, hown, hts, hK, hini, hlaw, hB, hR⟩ := hC
    unfold ac_uL at ea
    split at ea
    · cases ea
      exact ⟨Nat.le_refl _, fun _ kk => lv_lneg hx hb hd (kk _ _ _ _ hS)⟩
    · cases ea
theorem ok_lshl (hd : decode cc pc = .ok (.lshl, 1)) : mm_okP law scr own cc nL ini rt pc (ac_sL (fun x y => x <<< (y.toInt64 &&& 63)) (pc + 1)) := by
  refine ⟨fun L st h o e => ?_, fun D aC B b0 p l e R s m args below meth c Q hC L st h ls H locs cells hS pc' L' st' h' ea => ?_⟩
  · unfold ac_sL at e
    repeat' split at e
    all_goals first | (cases e; exact ⟨_, _, _, _, rfl, Nat.le_refl _, id⟩) | cases e
  · obtain ⟨⟨hx, hb, hml, hr, hlk⟩, hown, hts, hK, hini, hlaw, hB, hR⟩ := hC
    unfold ac_sL at ea
    split at ea
    · cases ea
      exact ⟨Nat.le_refl _, fun _ kk => lv_lshl hx hb hd rfl (kk _ _ _ _ hS)⟩
    · cases ea
theorem ok_i2l (hd : decode cc pc = .ok (.i2l, 1)) : mm_okP law scr own cc nL ini rt pc (ac_i2l (pc + 1)) := by
  refine ⟨fun L st h o e => ?_, fun D aC B b0 p l e R s m args below meth c Q hC L st h ls H locs cells hS pc' L' st' h' ea => ?_⟩
  · unfold ac_i2l at e
    repeat' split at e
    all_goals first | (cases e; exact ⟨_, _, _, _, rfl, Nat.le_refl _, id⟩) | cases e
  · obtain ⟨⟨hx, hb, hml, hr, hlk⟩, hown, hts, hK, hini, hlaw, hB, hR⟩ := hC
    unfold ac_i2l at ea
    split at ea
    · cases ea
      exact ⟨Nat.le_refl _, fun _ kk => lv_i2l hx hb hd rfl (kk _ _ _ _ hS)⟩
    · cases ea
theorem ok_l2i (hd : decode cc pc = .ok (.l2i, 1)) : mm_okP law scr own cc nL ini rt pc (ac_l2i (pc + 1)) := by
  refine ⟨fun L st h o e => ?_, fun D aC B b0 p l e R s m args below meth c Q hC L st h ls H locs cells hS pc' L' st' h' ea => ?_⟩
  · unfold ac_l2i at e
    repeat' split at e
    all_goals first | (cases e; exact ⟨_, _, _, _, rfl, Nat.le_refl _, id⟩) | cases e
  · obtain ⟨⟨hx, hb, hml, hr, hlk⟩, hown, hts, hK, hini, hlaw, hB, hR⟩ := hC
    unfold ac_l2i at ea
    split at ea
    · cases ea
      exact ⟨Nat.le_refl _, fun _ kk => lv_l2i hx hb hd rfl (kk _ _ _ _ hS)⟩
    · cases ea
theorem ok_lcmp (hd : decode cc pc = .ok (.lcmp, 1)) : mm_okP law scr own cc nL ini rt pc (ac_lcmp (pc + 1)) := by
  refine ⟨fun L st h o e => ?_, fun D aC B b0 p l e R s m args below meth c Q hC L st h ls H locs cells hS pc' L' st' h' ea => ?_⟩
  · unfold ac_lcmp at e
    repeat' split at e
    all_goals first | (cases e; exact ⟨_, _, _, _, rfl, Nat.le_refl _, id⟩) | cases e
  · obtain ⟨⟨hx, hb, hml, hr, hlk⟩, hown, hts, hK, hini, hlaw, hB, hR⟩ := hC
    unfold ac_lcmp at ea
    split at ea
    · cases ea
      exact ⟨Nat.le_refl _, fun _ kk => W.lcmp hx hb hd (kk _ _ _ _ hS)⟩
    · cases ea
theorem ok_dup (hd : decode cc pc = .ok (.dup, 1)) : mm_okP law scr own cc nL ini rt pc (ac_dup (pc + 1)) := by
  refine ⟨fun L st h o e => ?_, fun D aC B b0 p l e R s m args below meth c Q hC L st h ls H locs cells hS pc' L' st' h' ea => ?_⟩
  · unfold ac_dup at e
    repeat' split at e
    all_goals first | (cases e; exact ⟨_, _, _, _, rfl, Nat.le_refl _, id⟩) | cases e
  · obtain ⟨⟨hx, hb, hml, hr, hlk⟩, hown, hts, hK, hini, hlaw, hB, hR⟩ := hC
    unfold ac_dup at ea
    split at ea
    · split at ea
      · rename_i hv
        cases ea
        exact ⟨Nat.le_refl _, fun _ kk => lv_dup hx hb hd (by rw [ab_cat]; exact hv) (kk _ _ _ _ hS)⟩
      · cases ea
    · cases ea
theorem ok_pop (hd : decode cc pc = .ok (.pop, 1)) : mm_okP law scr own cc nL ini rt pc (ac_pop (pc + 1)) := by
  refine ⟨fun L st h o e => ?_, fun D aC B b0 p l e R s m args below meth c Q hC L st h ls H locs cells hS pc' L' st' h' ea => ?_⟩
  · unfold ac_pop at e
    repeat' split at e
    all_goals first | (cases e; exact ⟨_, _, _, _, rfl, Nat.le_refl _, id⟩) | cases e
  · obtain ⟨⟨hx, hb, hml, hr, hlk⟩, hown, hts, hK, hini, hlaw, hB, hR⟩ := hC
    unfold ac_pop at ea
    split at ea
    · split at ea
      · rename_i hv
        cases ea
        exact ⟨Nat.le_refl _, fun _ kk => lv_pop hx hb hd (by rw [ab_cat]; exact hv) (kk _ _ _ _ hS)⟩
      · cases ea
    · cases ea
theorem ok_dup2 (hd : decode cc pc = .ok (.dup2, 1)) : mm_okP law scr own cc nL ini rt pc (ac_dup2 (pc + 1)) := by
  refine ⟨fun L st h o e => ?_, fun D aC B b0 p l e R s m args below meth c Q hC L st h ls H locs cells hS pc' L' st' h' ea => ?_⟩
  · unfold ac_dup2 at e
    repeat' split at e
    all_goals first | (cases e; exact ⟨_, _, _, _, rfl, Nat.le_refl _, id⟩) | cases e
  · obtain ⟨⟨hx, hb, hml, hr, hlk⟩, hown, hts, hK, hini, hlaw, hB, hR⟩ := hC
    unfold ac_dup2 at ea
    split at ea
    · split at ea
      · rename_i hv
        cases ea
        exact ⟨Nat.le_refl _, fun _ kk => lv_dup2_11 hx hb hd (by rw [ab_cat]; exact hv.1) (by rw [ab_cat]; exact hv.2) (kk _ _ _ _ hS)⟩
      · cases ea
    · cases ea
theorem ok_dup2L (hd : decode cc pc = .ok (.dup2, 1)) : mm_okP law scr own cc nL ini rt pc (ac_dup2L (pc + 1)) := by
  refine ⟨fun L st h o e => ?_, fun D aC B b0 p l e R s m args below meth c Q hC L st h ls H locs cells hS pc' L' st' h' ea => ?_⟩
  · unfold ac_dup2L at e
    repeat' split at e
    all_goals first | (cases e; exact ⟨_, _, _, _, rfl, Nat.le_refl _, id⟩) | cases e
  · obtain ⟨⟨hx, hb, hml, hr, hlk⟩, hown, hts, hK, hini, hlaw, hB, hR⟩ := hC
    unfold ac_dup2L at ea
    split at ea
    · cases ea
      exact ⟨Nat.le_refl _, fun _ kk => lv_dup2_2 hx hb hd rfl (kk _ _ _ _ hS)⟩
    · cases ea
theorem ok_goto {k : Int} {t : Nat} (hd : decode cc pc = .ok (.goto k, 3)) (ht : (pc : Int) + k = (t : Int)) : mm_okP law scr own cc nL ini rt pc (ac_goto t) := by
  refine ⟨fun L st h o e => ?_, fun D aC B b0 p l e R s m args below meth c Q hC L st h ls H locs cells hS pc' L' st' h' ea => ?_⟩
  · unfold ac_goto at e
    repeat' split at e
    all_goals first | (cases e; exact ⟨_, _, _, _, rfl, Nat.le_refl _, id⟩) | cases e
  · obtain ⟨⟨hx, hb, hml, hr, hlk⟩, hown, hts, hK, hini, hlaw, hB, hR⟩ := hC
    unfold ac_goto at ea
    cases ea
    exact ⟨Nat.le_refl _, fun _ kk => lv_goto hx hb hd ht (kk _ _ _ _ hS)⟩
theorem ok_if_eq {k : Int} {t : Nat} (hd : decode cc pc = .ok (.ifCond .eq k, 3)) (ht : (pc : Int) + k = (t : Int)) : mm_okP law scr own cc nL ini rt pc (ac_if (fun x => decide (x = 0)) t (pc + 3)) := by
  refine ⟨fun L st h o e => ?_, fun D aC B b0 p l e R s m args below meth c Q hC L st h ls H locs cells hS pc' L' st' h' ea => ?_⟩
  · unfold ac_if at e
    repeat' split at e
    all_goals first | (cases e; exact ⟨_, _, _, _, rfl, Nat.le_refl _, id⟩) | cases e
  · obtain ⟨⟨hx, hb, hml, hr, hlk⟩, hown, hts, hK, hini, hlaw, hB, hR⟩ := hC
    unfold ac_if at ea
    split at ea
    · rename_i x r
      cases ea
      refine ⟨Nat.le_refl _, fun _ kk => lv_if_eq hx hb hd ht (fun q => ?_) (fun q => ?_)⟩
      · have := kk _ _ _ _ hS
        rw [if_pos (decide_eq_true q)] at this
        exact this
      · have := kk _ _ _ _ hS
        rw [if_neg (fun z => q (of_decide_eq_true z))] at this
        exact this
    · cases ea
theorem ok_icmp_eq {k : Int} {t : Nat} (hd : decode cc pc = .ok (.if_icmp .eq k, 3)) (ht : (pc : Int) + k = (t : Int)) : mm_okP law scr own cc nL ini rt pc (ac_cmp (fun x y => decide (x = y)) t (pc + 3)) := by
  refine ⟨fun L st h o e => ?_, fun D aC B b0 p l e R s m args below meth c Q hC L st h ls H locs cells hS pc' L' st' h' ea => ?_⟩
  · unfold ac_cmp at e
    repeat' split at e
    all_goals first | (cases e; exact ⟨_, _, _, _, rfl, Nat.le_refl _, id⟩) | cases e
  · obtain ⟨⟨hx, hb, hml, hr, hlk⟩, hown, hts, hK, hini, hlaw, hB, hR⟩ := hC
    unfold ac_cmp at ea
    split at ea
    · rename_i y x r
      cases ea
      refine ⟨Nat.le_refl _, fun _ kk => lv_icmp_eq hx hb hd ht (fun q => ?_) (fun q => ?_)⟩
      · have := kk _ _ _ _ hS
        rw [if_pos (decide_eq_true q)] at this
        exact this
      · have := kk _ _ _ _ hS
        rw [if_neg (fun z => q (of_decide_eq_true z))] at this
        exact this
    · cases ea
theorem ok_if_ne {k : Int} {t : Nat} (hd : decode cc pc = .ok (.ifCond .ne k, 3)) (ht : (pc : Int) + k = (t : Int)) : mm_okP law scr own cc nL ini rt pc (ac_if (fun x => decide (x ≠ 0)) t (pc + 3)) := by
  refine ⟨fun L st h o e => ?_, fun D aC B b0 p l e R s m args below meth c Q hC L st h ls H locs cells hS pc' L' st' h' ea => ?_⟩
  · unfold ac_if at e
    repeat' split at e
    all_goals first | (cases e; exact ⟨_, _, _, _, rfl, Nat.le_refl _, id⟩) | cases e
  · obtain ⟨⟨hx, hb, hml, hr, hlk⟩, hown, hts, hK, hini, hlaw, hB, hR⟩ := hC
    unfold ac_if at ea
    split at ea
    · rename_i x r
      cases ea
      refine ⟨Nat.le_refl _, fun _ kk => lv_if_ne hx hb hd ht (fun q => ?_) (fun q => ?_)⟩
      · have := kk _ _ _ _ hS
        rw [if_pos (decide_eq_true q)] at this
        exact this
      · have := kk _ _ _ _ hS
        rw [if_neg (fun z => (of_decide_eq_true z) q)] at this
        exact this
    · cases ea
theorem ok_icmp_ne {k : Int} {t : Nat} (hd : decode cc pc = .ok (.if_icmp .ne k, 3)) (ht : (pc : Int) + k = (t : Int)) : mm_okP law scr own cc nL ini rt pc (ac_cmp (fun x y => decide (x ≠ y)) t (pc + 3)) := by
  refine ⟨fun L st h o e => ?_, fun D aC B b0 p l e R s m args below meth c Q hC L st h ls H locs cells hS pc' L' st' h' ea => ?_⟩
  · unfold ac_cmp at e
    repeat' split at e
    all_goals first | (cases e; exact ⟨_, _, _, _, rfl, Nat.le_refl _, id⟩) | cases e
  · obtain ⟨⟨hx, hb, hml, hr, hlk⟩, hown, hts, hK, hini, hlaw, hB, hR⟩ := hC
    unfold ac_cmp at ea
    split at ea
    · rename_i y x r
      cases ea
      refine ⟨Nat.le_refl _, fun _ kk => lv_icmp_ne hx hb hd ht (fun q => ?_) (fun q => ?_)⟩
      · have := kk _ _ _ _ hS
        rw [if_pos (decide_eq_true q)] at this
        exact this
      · have := kk _ _ _ _ hS
        rw [if_neg (fun z => (of_decide_eq_true z) q)] at this
        exact this
    · cases ea
theorem ok_if_lt {k : Int} {t : Nat} (hd : decode cc pc = .ok (.ifCond .lt k, 3)) (ht : (pc : Int) + k = (t : Int)) : mm_okP law scr own cc nL ini rt pc (ac_if (fun x => decide (x < 0)) t (pc + 3)) := by
  refine ⟨fun L st h o e => ?_, fun D aC B b0 p l e R s m args below meth c Q hC L st h ls H locs cells hS pc' L' st' h' ea => ?_⟩
  · unfold ac_if at e
    repeat' split at e
    all_goals first | (cases e; exact ⟨_, _, _, _, rfl, Nat.le_refl _, id⟩) | cases e
  · obtain ⟨⟨hx, hb, hml, hr, hlk⟩, hown, hts, hK, hini, hlaw, hB, hR⟩ := hC
    unfold ac_if at ea
    split at ea
    · rename_i x r
      cases ea
      refine ⟨Nat.le_refl _, fun _ kk => lv_if_lt hx hb hd ht (fun q => ?_) (fun q => ?_)⟩
      · have := kk _ _ _ _ hS
        rw [if_pos (decide_eq_true q)] at this
        exact this
      · have := kk _ _ _ _ hS
        rw [if_neg (fun z => q (of_decide_eq_true z))] at this
        exact this
    · cases ea
theorem ok_icmp_lt {k : Int} {t : Nat} (hd : decode cc pc = .ok (.if_icmp .lt k, 3)) (ht : (pc : Int) + k = (t : Int)) : mm_okP law scr own cc nL ini rt pc (ac_cmp (fun x y => decide (x < y)) t (pc + 3)) := by
  refine ⟨fun L st h o e => ?_, fun D aC B b0 p l e R s m args below meth c Q hC L st h ls H locs cells hS pc' L' st' h' ea => ?_⟩
  · unfold ac_cmp at e
    repeat' split at e
    all_goals first | (cases e; exact ⟨_, _, _, _, rfl, Nat.le_refl _, id⟩) | cases e
  · obtain ⟨⟨hx, hb, hml, hr, hlk⟩, hown, hts, hK, hini, hlaw, hB, hR⟩ := hC
    unfold ac_cmp at ea
    split at ea
    · rename_i y x r
      cases ea
      refine ⟨Nat.le_refl _, fun _ kk => lv_icmp_lt hx hb hd ht (fun q => ?_) (fun q => ?_)⟩
      · have := kk _ _ _ _ hS
        rw [if_pos (decide_eq_true q)] at this
        exact this
      · have := kk _ _ _ _ hS
        rw [if_neg (fun z => q (of_decide_eq_true z))] at this
        exact this
    · cases ea
theorem ok_if_ge {k : Int} {t : Nat} (hd : decode cc pc = .ok (.ifCond .ge k, 3)) (ht : (pc : Int) + k = (t : Int)) : mm_okP law scr own cc nL ini rt pc (ac_if (fun x => decide (0 ≤ x)) t (pc + 3)) := by
  refine ⟨fun L st h o e => ?_, fun D aC B b0 p l e R s m args below meth c Q hC L st h ls H locs cells hS pc' L' st' h' ea => ?_⟩
  · unfold ac_if at e
    repeat' split at e
    all_goals first | (cases e; exact ⟨_, _, _, _, rfl, Nat.le_refl _, id⟩) | cases e
  · obtain ⟨⟨hx, hb, hml, hr, hlk⟩, hown, hts, hK, hini, hlaw, hB, hR⟩ := hC
    unfold ac_if at ea
    split at ea
    · rename_i x r
      cases ea
      refine ⟨Nat.le_refl _, fun _ kk => lv_if_ge hx hb hd ht (fun q => ?_) (fun q => ?_)⟩
      · have := kk _ _ _ _ hS
        rw [if_pos (decide_eq_true q)] at this
        exact this
      · have := kk _ _ _ _ hS
        rw [if_neg (fun z => q (of_decide_eq_true z))] at this
        exact this
    · cases ea
theorem ok_icmp_ge {k : Int} {t : Nat} (hd : decode cc pc = .ok (.if_icmp .ge k, 3)) (ht : (pc : Int) + k = (t : Int)) : mm_okP law scr own cc nL ini rt pc (ac_cmp (fun x y => decide (y ≤ x)) t (pc + 3)) := by
  refine ⟨fun L st h o e => ?_, fun D aC B b0 p l e R s m args below meth c Q hC L st h ls H locs cells hS pc' L' st' h' ea => ?_⟩
  · unfold ac_cmp at e
    repeat' split at e
    all_goals first | (cases e; exact ⟨_, _, _, _, rfl, Nat.le_refl _, id⟩) | cases e
  · obtain ⟨⟨hx, hb, hml, hr, hlk⟩, hown, hts, hK, hini, hlaw, hB, hR⟩ := hC
    unfold ac_cmp at ea
    split at ea
    · rename_i y x r
      cases ea
      refine ⟨Nat.le_refl _, fun _ kk => lv_icmp_ge hx hb hd ht (fun q => ?_) (fun q => ?_)⟩
      · have := kk _ _ _ _ hS
        rw [if_pos (decide_eq_true q)] at this
        exact this
      · have := kk _ _ _ _ hS
        rw [if_neg (fun z => q (of_decide_eq_true z))] at this
        exact this
    · cases ea
theorem ok_if_gt {k : Int} {t : Nat} (hd : decode cc pc = .ok (.ifCond .gt k, 3)) (ht : (pc : Int) + k = (t : Int)) : mm_okP law scr own cc nL ini rt pc (ac_if (fun x => decide (0 < x)) t (pc + 3)) := by
  refine ⟨fun L st h o e => ?_, fun D aC B b0 p l e R s m args below meth c Q hC L st h ls H locs cells hS pc' L' st' h' ea => ?_⟩
  · unfold ac_if at e
    repeat' split at e
    all_goals first | (cases e; exact ⟨_, _, _, _, rfl, Nat.le_refl _, id⟩) | cases e
  · obtain ⟨⟨hx, hb, hml, hr, hlk⟩, hown, hts, hK, hini, hlaw, hB, hR⟩ := hC
    unfold ac_if at ea
    split at ea
    · rename_i x r
      cases ea
      refine ⟨Nat.le_refl _, fun _ kk => lv_if_gt hx hb hd ht (fun q => ?_) (fun q => ?_)⟩
      · have := kk _ _ _ _ hS
        rw [if_pos (decide_eq_true q)] at this
        exact this
      · have := kk _ _ _ _ hS
        rw [if_neg (fun z => q (of_decide_eq_true z))] at this
        exact this
    · cases ea
theorem ok_icmp_gt {k : Int} {t : Nat} (hd : decode cc pc = .ok (.if_icmp .gt k, 3)) (ht : (pc : Int) + k = (t : Int)) : mm_okP law scr own cc nL ini rt pc (ac_cmp (fun x y => decide (y < x)) t (pc + 3)) := by
  refine ⟨fun L st h o e => ?_, fun D aC B b0 p l e R s m args below meth c Q hC L st h ls H locs cells hS pc' L' st' h' ea => ?_⟩
  · unfold ac_cmp at e
    repeat' split at e
    all_goals first | (cases e; exact ⟨_, _, _, _, rfl, Nat.le_refl _, id⟩) | cases e
  · obtain ⟨⟨hx, hb, hml, hr, hlk⟩, hown, hts, hK, hini, hlaw, hB, hR⟩ := hC
    unfold ac_cmp at ea
    split at ea
    · rename_i y x r
      cases ea
      refine ⟨Nat.le_refl _, fun _ kk => lv_icmp_gt hx hb hd ht (fun q => ?_) (fun q => ?_)⟩
      · have := kk _ _ _ _ hS
        rw [if_pos (decide_eq_true q)] at this
        exact this
      · have := kk _ _ _ _ hS
        rw [if_neg (fun z => q (of_decide_eq_true z))] at this
        exact this
    · cases ea
theorem ok_if_le {k : Int} {t : Nat} (hd : decode cc pc = .ok (.ifCond .le k, 3)) (ht : (pc : Int) + k = (t : Int)) : mm_okP law scr own cc nL ini rt pc (ac_if (fun x => decide (x ≤ 0)) t (pc + 3)) := by
  refine ⟨fun L st h o e => ?_, fun D aC B b0 p l e R s m args below meth c Q hC L st h ls H locs cells hS pc' L' st' h' ea => ?_⟩
  · unfold ac_if at e
    repeat' split at e
    all_goals first | (cases e; exact ⟨_, _, _, _, rfl, Nat.le_refl _, id⟩) | cases e
  · obtain ⟨⟨hx, hb, hml, hr, hlk⟩, hown, hts, hK, hini, hlaw, hB, hR⟩ := hC
    unfold ac_if at ea
    split at ea
    · rename_i x r
      cases ea
      refine ⟨Nat.le_refl _, fun _ kk => lv_if_le hx hb hd ht (fun q => ?_) (fun q => ?_)⟩
      · have := kk _ _ _ _ hS
        rw [if_pos (decide_eq_true q)] at this
        exact this
      · have := kk _ _ _ _ hS
        rw [if_neg (fun z => q (of_decide_eq_true z))] at this
        exact this
    · cases ea
theorem ok_icmp_le {k : Int} {t : Nat} (hd : decode cc pc = .ok (.if_icmp .le k, 3)) (ht : (pc : Int) + k = (t : Int)) : mm_okP law scr own cc nL ini rt pc (ac_cmp (fun x y => decide (x ≤ y)) t (pc + 3)) := by
  refine ⟨fun L st h o e => ?_, fun D aC B b0 p l e R s m args below meth c Q hC L st h ls H locs cells hS pc' L' st' h' ea => ?_⟩
  · unfold ac_cmp at e
    repeat' split at e
    all_goals first | (cases e; exact ⟨_, _, _, _, rfl, Nat.le_refl _, id⟩) | cases e
  · obtain ⟨⟨hx, hb, hml, hr, hlk⟩, hown, hts, hK, hini, hlaw, hB, hR⟩ := hC
    unfold ac_cmp at ea
    split at ea
    · rename_i y x r
      cases ea
      refine ⟨Nat.le_refl _, fun _ kk => lv_icmp_le hx hb hd ht (fun q => ?_) (fun q => ?_)⟩
      · have := kk _ _ _ _ hS
        rw [if_pos (decide_eq_true q)] at this
        exact this
      · have := kk _ _ _ _ hS
        rw [if_neg (fun z => q (of_decide_eq_true z))] at this
        exact this
    · cases ea
theorem ok_sw {dflt lo hi : Int} {offs : Array Int} {len d : Nat} {ts : List Nat} (hd : decode cc pc = .ok (.tableswitch dflt lo hi offs, len)) (h1 : offs.toList.map (fun o => (pc : Int) + o) = ts.map (fun t : Nat => (t : Int))) (h2 : (pc : Int) + dflt = (d : Int)) (h3 : lo ≤ hi + 1 ∧ hi + 1 - lo = ts.length) : mm_okP law scr own cc nL ini rt pc (ac_sw lo ts d) := by
  refine ⟨fun L st h o e => ?_, fun D aC B b0 p l e R s m args below meth c Q hC L st h ls H locs cells hS pc' L' st' h' ea => ?_⟩
  · unfold ac_sw at e
    repeat' split at e
    all_goals first | (cases e; exact ⟨_, _, _, _, rfl, Nat.le_refl _, id⟩) | cases e
  · obtain ⟨⟨hx, hb, hml, hr, hlk⟩, hown, hts, hK, hini, hlaw, hB, hR⟩ := hC
    unfold ac_sw at ea
    split at ea
    · rename_i x r
      cases ea
      refine ⟨Nat.le_refl _, fun _ kk => ?_⟩
      have k1 := kk _ _ _ _ hS
      by_cases q1 : x.toInt < lo
      · rw [if_pos q1] at k1
        exact lv_tableOut hx hb hd (Or.inl q1) h2 k1
      · rw [if_neg q1] at k1
        by_cases q2 : hi < x.toInt
        · have hz : ts.getD (x.toInt - lo).toNat d = d := by
            rw [List.getD_eq_getElem?_getD, List.getElem?_eq_none (by omega)]
            rfl
          rw [hz] at k1
          exact lv_tableOut hx hb hd (Or.inr q2) h2 k1
        · have hj : (x.toInt - lo).toNat < ts.length := by omega
          have hl : offs.toList.length = ts.length := by
            have := congrArg List.length h1
            rw [List.length_map, List.length_map] at this
            exact this
          have hj' : (x.toInt - lo).toNat < offs.size := by rw [← Array.length_toList, hl]; exact hj
          have e1 : offs[(x.toInt - lo).toNat]? = some offs[(x.toInt - lo).toNat] := Array.getElem?_eq_getElem hj'
          have e2 : ts.getD (x.toInt - lo).toNat d = ts[(x.toInt - lo).toNat] := by rw [List.getD_eq_getElem?_getD, List.getElem?_eq_getElem hj]; rfl
          have e3 : (pc : Int) + offs[(x.toInt - lo).toNat] = ((ts[(x.toInt - lo).toNat] : Nat) : Int) := by
            have := congrArg (fun l => l[(x.toInt - lo).toNat]?) h1
            simp only [List.getElem?_map, Array.getElem?_toList, e1, List.getElem?_eq_getElem hj, Option.map_some] at this
            exact Option.some.inj this
          rw [e2] at k1
          exact lv_tableIn hx hb hd q1 q2 e1 e3 k1
    · cases ea
end OK1
