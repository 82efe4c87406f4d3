/-! making cells, the JDK's methods, the script: sound -/
theorem w_size {p : Program} {l : Launch} {e : Env} {R : Room} {s : State} {m : MethodId} {args : Array Value} {below : List Frame} {meth : Method} {c : Code} {H : Heap} {locs : List Loc} {cells slots : Nat} {Q : State → Prop} {g : JFrame} (k : H.size ≤ s.heap.size + cells → W p l e R s m args below meth c H locs cells slots Q g) : W p l e R s m args below meth c H locs cells slots Q g :=
  fun T hT X => k (by rw [← hT]; exact X.heapSize) T hT X
/-- where a new cell lies -/
theorem new_at {D : va_G} {aC : Nat → ClassId} {B b0 q : Nat} {h : MH} {H1 : Heap} {e : va_E} (h0 : 0 < h.length) (hP : va_P D vwCl (mm_ws B b0 aC h ++ [(q, e)]) H1) (hD : va_D (fun q => B ≤ q) (mm_ws B b0 aC h ++ [(q, e)])) (hz : H1.size ≤ B + h.length) : q + 1 = B + h.length := by
  have hl : (mm_ws B b0 aC h).length = h.length - 1 := ws_len
  have hg : (mm_ws B b0 aC h ++ [(q, e)])[h.length - 1]? = some (q, e) := by rw [← hl]; simp
  have h1 : q < H1.size := (hP _ _ hg).lt
  have h2 : B ≤ q := hD.2 _ _ hg
  rcases Nat.lt_or_ge q (B + (h.length - 1)) with hq | hq
  · have hk : q - B < h.length - 1 := by omega
    have hj : (mm_ws B b0 aC h)[q - B]? = some ((mm_ws B b0 aC h)[q - B]'(by rw [hl]; exact hk)) := List.getElem?_eq_getElem _
    obtain ⟨cc, -, hcc⟩ := ws_of hj
    rw [hcc] at hj
    have hj2 : (mm_ws B b0 aC h ++ [(q, e)])[q - B]? = some (B + (q - B), mm_enc B b0 aC cc) := by rw [List.getElem?_append_left (by rw [hl]; exact hk)]; exact hj
    have := hD.1 (q - B) (h.length - 1) _ _ hj2 hg (show B + (q - B) = q by omega)
    omega
  · omega
theorem mm_S.pos {D : va_G} {aC : Nat → ClassId} {B b0 : Nat} {s : State} {nL : Nat} {L : ML} {h : MH} {ls : Array Slot} {H : Heap} {locs : List Loc} {cells : Nat} (hS : mm_S D aC B b0 s nL L h ls H locs cells) : 0 < h.length := (List.getElem?_eq_some_iff.mp hS.2.2.1).1
theorem mm_S.push {D : va_G} {aC : Nat → ClassId} {B b0 : Nat} {s : State} {nL : Nat} {L : ML} {h : MH} {ls : Array Slot} {H H1 : Heap} {locs : List Loc} {cells q : Nat} {c : MC} (hS : mm_S D aC B b0 s nL L h ls H locs cells)
    (hP : va_P D vwCl (mm_ws B b0 aC h ++ [(q, mm_enc B b0 aC c)]) H1) (hq : q + 1 = B + h.length) (hS1 : va_S (fun q => B ≤ q) s.heap H1 locs) : mm_S D aC B b0 s nL L (h ++ [c]) ls H1 locs (cells + 1) := by
  refine ⟨hS.1, hS.2.1, ?_, ?_, hS1, ?_⟩
  · rw [List.getElem?_append_left hS.pos]
    exact hS.2.2.1
  · rw [← ws_push hS.pos hq]
    exact hP
  · rw [List.length_append]
    have := hS.2.2.2.2.2
    show s.heap.size + (cells + 1) + 1 = B + (h.length + 1)
    omega
theorem adr_len {B b0 q n : Nat} (h0 : 0 < n) (hq : q + 1 = B + n) : adr B b0 n = q := by
  cases n with
  | zero => cases h0
  | succ n => show B + n = q; omega
theorem getD_rep {α : Type} {d : α} (n i : Nat) : (List.replicate n d).getD i d = d := by
  rw [List.getD_eq_getElem?_getD, List.getElem?_replicate]
  split <;> rfl
theorem nat_frame : nativeFrameWords "java/lang/System" "arraycopy" 5 + 11 ≤ 27 := by decide +kernel
theorem cpyI_inv {h h' : MH} {a0 a1 : Nat} {sp dp n : Int32} (e : mm_cpyI h a0 sp a1 dp n = some h') : ∃ l0 l1 : List Int32, h[a0]? = some (.inr (.inl (0, l0))) ∧ h[a1]? = some (.inr (.inl (0, l1))) ∧ (¬ sp < 0 ∧ ¬ dp < 0 ∧ ¬ n < 0 ∧ sp.toNatClampNeg + n.toNatClampNeg ≤ l0.length ∧ dp.toNatClampNeg + n.toNatClampNeg ≤ l1.length) ∧ h' = h.set a1 (.inr (.inl (0, mm_cpy 0 l0 l1 sp.toNatClampNeg dp.toNatClampNeg n.toNatClampNeg))) := by
  unfold mm_cpyI at e
  split at e
  · rename_i t0 l0 h0
    split at e
    · rename_i t1 l1 h1
      split at e
      · rename_i hc
        obtain ⟨rfl, rfl, hc⟩ := hc
        cases e
        exact ⟨l0, l1, h0, h1, hc, rfl⟩
      · cases e
    · cases e
  · cases e
theorem cpyI_get {l0 l1 : List Int32} {sp dp n : Nat} (h5 : dp + n ≤ l1.length) : va_cpy (fun i => l0.getD i 0) (fun i => l1.getD i 0) sp dp n = fun i => (mm_cpy 0 l0 l1 sp dp n).getD i 0 := by
  funext i
  unfold mm_cpy
  rw [List.getD_eq_getElem?_getD, List.getElem?_map]
  by_cases hi : i < l1.length
  · rw [List.getElem?_range hi]
    rfl
  · rw [List.getElem?_eq_none (by rw [List.length_range]; omega)]
    unfold va_cpy
    rw [if_neg (by omega)]
    show l1.getD i 0 = _
    rw [List.getD_eq_getElem?_getD, List.getElem?_eq_none (by omega)]
    rfl
theorem mon_cpyI {h h' : MH} {a0 a1 : Nat} {sp dp n : Int32} (e : mm_cpyI h a0 sp a1 dp n = some h') : h.length ≤ h'.length ∧ (h[0]? = some mm_dummy → h'[0]? = some mm_dummy) := by
  obtain ⟨l0, l1, g0, g1, -, rfl⟩ := cpyI_inv e
  exact mon_set g1 (fun z => by cases z)
theorem cpyL_inv {h h' : MH} {a0 a1 : Nat} {sp dp n : Int32} (e : mm_cpyL h a0 sp a1 dp n = some h') : ∃ l0 l1 : List Int64, h[a0]? = some (.inr (.inr (.inl (l0)))) ∧ h[a1]? = some (.inr (.inr (.inl (l1)))) ∧ (¬ sp < 0 ∧ ¬ dp < 0 ∧ ¬ n < 0 ∧ sp.toNatClampNeg + n.toNatClampNeg ≤ l0.length ∧ dp.toNatClampNeg + n.toNatClampNeg ≤ l1.length) ∧ h' = h.set a1 (.inr (.inr (.inl (mm_cpy 0 l0 l1 sp.toNatClampNeg dp.toNatClampNeg n.toNatClampNeg)))) := by
  unfold mm_cpyL at e
  split at e
  · rename_i l0 h0
    split at e
    · rename_i l1 h1
      split at e
      · rename_i hc
        skip
        cases e
        exact ⟨l0, l1, h0, h1, hc, rfl⟩
      · cases e
    · cases e
  · cases e
theorem cpyL_get {l0 l1 : List Int64} {sp dp n : Nat} (h5 : dp + n ≤ l1.length) : va_cpy (fun i => l0.getD i 0) (fun i => l1.getD i 0) sp dp n = fun i => (mm_cpy 0 l0 l1 sp dp n).getD i 0 := by
  funext i
  unfold mm_cpy
  rw [List.getD_eq_getElem?_getD, List.getElem?_map]
  by_cases hi : i < l1.length
  · rw [List.getElem?_range hi]
    rfl
  · rw [List.getElem?_eq_none (by rw [List.length_range]; omega)]
    unfold va_cpy
    rw [if_neg (by omega)]
    show l1.getD i 0 = _
    rw [List.getD_eq_getElem?_getD, List.getElem?_eq_none (by omega)]
    rfl
theorem mon_cpyL {h h' : MH} {a0 a1 : Nat} {sp dp n : Int32} (e : mm_cpyL h a0 sp a1 dp n = some h') : h.length ≤ h'.length ∧ (h[0]? = some mm_dummy → h'[0]? = some mm_dummy) := by
  obtain ⟨l0, l1, g0, g1, -, rfl⟩ := cpyL_inv e
  exact mon_set g1 (fun z => by cases z)
section OK3
variable {law : Bool} {scr : List Int32} {own : String} {cc : ByteArray} {nL : Nat} {ini : Bool} {rt : Option FieldType} {pc : Nat}
theorem ok_new {ci idx N : Nat} {C : String} {T : u_T} {fs : List Value} (hc : vwCl[ci]? = some (C, T, N)) (hin : ∀ w ∈ u_ws C T N, w ∈ gT) (ty0 : Nat → FieldType) (hty : ∀ k, k < N → parseFieldDescriptor (T k).2.2.1 = some (ty0 k)) (hl : Cond.classLink own idx C ∈ gT) (hi1 : Cond.instantiable C N ∈ gT) (hi2 : Cond.initialized C ∈ gT) (hfs : ∀ j, j < N → defaultValue (ty0 j) = vp_V fs j) (hab : ∀ B b0, fs.map (ab B b0) = fs) (hN : N ≤ 400) (hd : decode cc pc = .ok (.new idx, 3)) : mm_okP law scr own cc nL ini rt pc (ac_new ci fs (pc + 3)) := by
  refine ⟨fun L st h o e => ?_, fun D aC B b0 p l e R s m args below meth c Q hC L st h ls H locs cells hS pc' L' st' h' ea => ?_⟩
  · unfold ac_new at e
    repeat' split at e
    all_goals first | (cases e; exact ⟨_, _, _, _, rfl, Nat.le_refl _, id⟩) | (cases e; exact ⟨_, _, _, _, rfl, mon_app _ _⟩) | (cases e; exact ⟨_, _, _, _, rfl, mon_app2 _ _ _⟩) | (obtain ⟨_, hq, rfl⟩ := Option.map_eq_some_iff.mp e; first | exact ⟨_, _, _, _, rfl, Nat.le_refl _, id⟩ | exact ⟨_, _, _, _, rfl, mon_put hq⟩ | exact ⟨_, _, _, _, rfl, mon_astI hq⟩ | exact ⟨_, _, _, _, rfl, mon_astL hq⟩ | exact ⟨_, _, _, _, rfl, mon_astR hq⟩ | exact ⟨_, _, _, _, rfl, mon_cpyI hq⟩ | exact ⟨_, _, _, _, rfl, mon_cpyL hq⟩) | cases e
  · obtain ⟨⟨hx, hb, hml, hr, hlk⟩, hown, hts, hK, hini, hlaw, hB, hR⟩ := hC
    unfold ac_new at ea
    cases ea
    refine ⟨by rw [List.length_append]; exact Nat.le_add_right _ _, fun hroom kk => ?_⟩
    have hz := hS.2.2.2.2.2
    rw [List.length_append] at hroom
    have hroom : B + (h.length + 1) ≤ s.heap.size + mm_rc R + 1 := hroom
    have hA : ∀ q, s.heap.size ≤ q → B ≤ q := fun q hq => Nat.le_trans hB hq
    refine va_new (ci := ci) (fs := fs) hx hb hts hin ty0 hty hown (hts _ hl) (hts _ hi1) (hts _ hi2) hK.1 hS.2.2.2.1 (ws_D B b0 aC h) hS.2.2.2.2.1 hA hc hfs (by omega) (by omega) hd (fun q H1 hP1 hD1 hS1 => ?_)
    refine w_size (fun hsz => ?_)
    have hq := new_at hS.pos hP1 hD1 (by omega)
    refine W.widen (k := cells + 1) (n := 400 * (cells + 1)) (Nat.le_refl _) (by omega) ?_
    have k1 := kk _ _ _ _ (hS.push (c := .inl (ci, fs)) (by show va_P D vwCl (mm_ws B b0 aC h ++ [(q, .inr (ci, fs.map (ab B b0)))]) H1; rw [hab]; exact hP1) hq hS1)
    have e9 : (.ref h.length :: st : List Value).map (ab B b0) = .ref q :: st.map (ab B b0) := by
      show Value.ref (adr B b0 h.length) :: _ = _
      rw [adr_len hS.pos hq]
    rw [e9] at k1
    exact k1
theorem ok_newI (hw : Cond.arrayClass .int ∈ gT) (hd : decode cc pc = .ok (.newarray .int, 2)) : mm_okP law scr own cc nL ini rt pc (ac_newI 0 (pc + 2)) := by
  refine ⟨fun L st h o e => ?_, fun D aC B b0 p l e R s m args below meth c Q hC L st h ls H locs cells hS pc' L' st' h' ea => ?_⟩
  · unfold ac_newI at e
    repeat' split at e
    all_goals first | (cases e; exact ⟨_, _, _, _, rfl, Nat.le_refl _, id⟩) | (cases e; exact ⟨_, _, _, _, rfl, mon_app _ _⟩) | (cases e; exact ⟨_, _, _, _, rfl, mon_app2 _ _ _⟩) | (obtain ⟨_, hq, rfl⟩ := Option.map_eq_some_iff.mp e; first | exact ⟨_, _, _, _, rfl, Nat.le_refl _, id⟩ | exact ⟨_, _, _, _, rfl, mon_put hq⟩ | exact ⟨_, _, _, _, rfl, mon_astI hq⟩ | exact ⟨_, _, _, _, rfl, mon_astL hq⟩ | exact ⟨_, _, _, _, rfl, mon_astR hq⟩ | exact ⟨_, _, _, _, rfl, mon_cpyI hq⟩ | exact ⟨_, _, _, _, rfl, mon_cpyL hq⟩) | cases e
  · obtain ⟨⟨hx, hb, hml, hr, hlk⟩, hown, hts, hK, hini, hlaw, hB, hR⟩ := hC
    unfold ac_newI at ea
    split at ea
    · rename_i x r
      split at ea
      · rename_i hn
        cases ea
        refine ⟨by rw [List.length_append]; exact Nat.le_add_right _ _, fun hroom kk => ?_⟩
        have hz := hS.2.2.2.2.2
        rw [List.length_append] at hroom
        have hroom : B + (h.length + 1) ≤ s.heap.size + mm_rc R + 1 := hroom
        have hA : ∀ q, s.heap.size ≤ q → B ≤ q := fun q hq => Nat.le_trans hB hq
        refine va_newa (atype := .int) (ty := .int) (a0 := (x.toNatClampNeg, .inl (fun i => (List.replicate x.toNatClampNeg (0 : Int32)).getD i 0))) hx hb (hts _ hw) rfl hK.1 hS.2.2.2.1 (ws_D B b0 aC h) hS.2.2.2.2.1 hA (fun cA => ?_) hn.1 rfl (by show _ * 4 ≤ _; omega) (by omega) (by omega) hd (fun q cA H1 hK1 hP1 hD1 hS1 => ?_)
        · rw [vp_cell_i]
          congr 1
          funext j
          show Value.int ((List.replicate x.toNatClampNeg 0).getD j 0) = Value.int 0
          rw [getD_rep]
        · have hcA : cA = aC 0 := by
            have g1 := (hK1.2 6 (cA, .int) rfl).2
            have g2 := (hK.1.2 0 (aC 0, .int) rfl).2
            exact Option.some.inj (g1.symm.trans g2)
          subst hcA
          refine w_size (fun hsz => ?_)
          have hq := new_at hS.pos hP1 hD1 (by omega)
          refine W.widen (k := cells + 1) (n := 400 * (cells + 1)) (Nat.le_refl _) (by omega) ?_
          have k1 := kk _ _ _ _ (hS.push (c := .inr (.inl (0, List.replicate x.toNatClampNeg 0))) (by show va_P D vwCl (mm_ws B b0 aC h ++ [(q, .inl (aC 0, (List.replicate x.toNatClampNeg _).length, _))]) H1; rw [List.length_replicate]; exact hP1) hq hS1)
          have e9 : (.ref h.length :: r : List Value).map (ab B b0) = .ref q :: r.map (ab B b0) := by
            show Value.ref (adr B b0 h.length) :: _ = _
            rw [adr_len hS.pos hq]
          rw [e9] at k1
          exact k1
      · cases ea
    · cases ea
theorem ok_newZ (hw : Cond.arrayClass .boolean ∈ gT) (hd : decode cc pc = .ok (.newarray .boolean, 2)) : mm_okP law scr own cc nL ini rt pc (ac_newI 1 (pc + 2)) := by
  refine ⟨fun L st h o e => ?_, fun D aC B b0 p l e R s m args below meth c Q hC L st h ls H locs cells hS pc' L' st' h' ea => ?_⟩
  · unfold ac_newI at e
    repeat' split at e
    all_goals first | (cases e; exact ⟨_, _, _, _, rfl, Nat.le_refl _, id⟩) | (cases e; exact ⟨_, _, _, _, rfl, mon_app _ _⟩) | (cases e; exact ⟨_, _, _, _, rfl, mon_app2 _ _ _⟩) | (obtain ⟨_, hq, rfl⟩ := Option.map_eq_some_iff.mp e; first | exact ⟨_, _, _, _, rfl, Nat.le_refl _, id⟩ | exact ⟨_, _, _, _, rfl, mon_put hq⟩ | exact ⟨_, _, _, _, rfl, mon_astI hq⟩ | exact ⟨_, _, _, _, rfl, mon_astL hq⟩ | exact ⟨_, _, _, _, rfl, mon_astR hq⟩ | exact ⟨_, _, _, _, rfl, mon_cpyI hq⟩ | exact ⟨_, _, _, _, rfl, mon_cpyL hq⟩) | cases e
  · obtain ⟨⟨hx, hb, hml, hr, hlk⟩, hown, hts, hK, hini, hlaw, hB, hR⟩ := hC
    unfold ac_newI at ea
    split at ea
    · rename_i x r
      split at ea
      · rename_i hn
        cases ea
        refine ⟨by rw [List.length_append]; exact Nat.le_add_right _ _, fun hroom kk => ?_⟩
        have hz := hS.2.2.2.2.2
        rw [List.length_append] at hroom
        have hroom : B + (h.length + 1) ≤ s.heap.size + mm_rc R + 1 := hroom
        have hA : ∀ q, s.heap.size ≤ q → B ≤ q := fun q hq => Nat.le_trans hB hq
        refine va_newa (atype := .boolean) (ty := .boolean) (a0 := (x.toNatClampNeg, .inl (fun i => (List.replicate x.toNatClampNeg (0 : Int32)).getD i 0))) hx hb (hts _ hw) rfl hK.1 hS.2.2.2.1 (ws_D B b0 aC h) hS.2.2.2.2.1 hA (fun cA => ?_) hn.1 rfl (by show _ * 1 ≤ _; omega) (by omega) (by omega) hd (fun q cA H1 hK1 hP1 hD1 hS1 => ?_)
        · rw [vp_cell_i]
          congr 1
          funext j
          show Value.int ((List.replicate x.toNatClampNeg 0).getD j 0) = Value.int 0
          rw [getD_rep]
        · have hcA : cA = aC 1 := by
            have g1 := (hK1.2 6 (cA, .boolean) rfl).2
            have g2 := (hK.1.2 1 (aC 1, .boolean) rfl).2
            exact Option.some.inj (g1.symm.trans g2)
          subst hcA
          refine w_size (fun hsz => ?_)
          have hq := new_at hS.pos hP1 hD1 (by omega)
          refine W.widen (k := cells + 1) (n := 400 * (cells + 1)) (Nat.le_refl _) (by omega) ?_
          have k1 := kk _ _ _ _ (hS.push (c := .inr (.inl (1, List.replicate x.toNatClampNeg 0))) (by show va_P D vwCl (mm_ws B b0 aC h ++ [(q, .inl (aC 1, (List.replicate x.toNatClampNeg _).length, _))]) H1; rw [List.length_replicate]; exact hP1) hq hS1)
          have e9 : (.ref h.length :: r : List Value).map (ab B b0) = .ref q :: r.map (ab B b0) := by
            show Value.ref (adr B b0 h.length) :: _ = _
            rw [adr_len hS.pos hq]
          rw [e9] at k1
          exact k1
      · cases ea
    · cases ea
theorem ok_newL (hw : Cond.arrayClass .long ∈ gT) (hd : decode cc pc = .ok (.newarray .long, 2)) : mm_okP law scr own cc nL ini rt pc (ac_newL (pc + 2)) := by
  refine ⟨fun L st h o e => ?_, fun D aC B b0 p l e R s m args below meth c Q hC L st h ls H locs cells hS pc' L' st' h' ea => ?_⟩
  · unfold ac_newL at e
    repeat' split at e
    all_goals first | (cases e; exact ⟨_, _, _, _, rfl, Nat.le_refl _, id⟩) | (cases e; exact ⟨_, _, _, _, rfl, mon_app _ _⟩) | (cases e; exact ⟨_, _, _, _, rfl, mon_app2 _ _ _⟩) | (obtain ⟨_, hq, rfl⟩ := Option.map_eq_some_iff.mp e; first | exact ⟨_, _, _, _, rfl, Nat.le_refl _, id⟩ | exact ⟨_, _, _, _, rfl, mon_put hq⟩ | exact ⟨_, _, _, _, rfl, mon_astI hq⟩ | exact ⟨_, _, _, _, rfl, mon_astL hq⟩ | exact ⟨_, _, _, _, rfl, mon_astR hq⟩ | exact ⟨_, _, _, _, rfl, mon_cpyI hq⟩ | exact ⟨_, _, _, _, rfl, mon_cpyL hq⟩) | cases e
  · obtain ⟨⟨hx, hb, hml, hr, hlk⟩, hown, hts, hK, hini, hlaw, hB, hR⟩ := hC
    unfold ac_newL at ea
    split at ea
    · rename_i x r
      split at ea
      · rename_i hn
        cases ea
        refine ⟨by rw [List.length_append]; exact Nat.le_add_right _ _, fun hroom kk => ?_⟩
        have hz := hS.2.2.2.2.2
        rw [List.length_append] at hroom
        have hroom : B + (h.length + 1) ≤ s.heap.size + mm_rc R + 1 := hroom
        have hA : ∀ q, s.heap.size ≤ q → B ≤ q := fun q hq => Nat.le_trans hB hq
        refine va_newa (atype := .long) (ty := .long) (a0 := (x.toNatClampNeg, .inr (.inl (fun i => (List.replicate x.toNatClampNeg (0 : Int64)).getD i 0)))) hx hb (hts _ hw) rfl hK.1 hS.2.2.2.1 (ws_D B b0 aC h) hS.2.2.2.2.1 hA (fun cA => ?_) hn.1 rfl (by show _ * 8 ≤ _; omega) (by omega) (by omega) hd (fun q cA H1 hK1 hP1 hD1 hS1 => ?_)
        · rw [vp_cell_l]
          congr 1
          funext j
          show Value.long ((List.replicate x.toNatClampNeg 0).getD j 0) = Value.long 0
          rw [getD_rep]
        · have hcA : cA = aC 2 := by
            have g1 := (hK1.2 6 (cA, .long) rfl).2
            have g2 := (hK.1.2 2 (aC 2, .long) rfl).2
            exact Option.some.inj (g1.symm.trans g2)
          subst hcA
          refine w_size (fun hsz => ?_)
          have hq := new_at hS.pos hP1 hD1 (by omega)
          refine W.widen (k := cells + 1) (n := 400 * (cells + 1)) (Nat.le_refl _) (by omega) ?_
          have k1 := kk _ _ _ _ (hS.push (c := .inr (.inr (.inl (List.replicate x.toNatClampNeg 0)))) (by show va_P D vwCl (mm_ws B b0 aC h ++ [(q, .inl (aC 2, (List.replicate x.toNatClampNeg _).length, _))]) H1; rw [List.length_replicate]; exact hP1) hq hS1)
          have e9 : (.ref h.length :: r : List Value).map (ab B b0) = .ref q :: r.map (ab B b0) := by
            show Value.ref (adr B b0 h.length) :: _ = _
            rw [adr_len hS.pos hq]
          rw [e9] at k1
          exact k1
      · cases ea
    · cases ea
theorem ok_newR {tag idx : Nat} {C : String} (hty : ∀ aC, (mm_tys aC)[tag]? = some (aC tag, .object C)) (hl : Cond.classLink own idx C ∈ gT) (hov : ∀ U, mm_T U → va_AO C U) (hd : decode cc pc = .ok (.anewarray idx, 3)) : mm_okP law scr own cc nL ini rt pc (ac_newR tag (pc + 3)) := by
  refine ⟨fun L st h o e => ?_, fun D aC B b0 p l e R s m args below meth c Q hC L st h ls H locs cells hS pc' L' st' h' ea => ?_⟩
  · unfold ac_newR at e
    repeat' split at e
    all_goals first | (cases e; exact ⟨_, _, _, _, rfl, Nat.le_refl _, id⟩) | (cases e; exact ⟨_, _, _, _, rfl, mon_app _ _⟩) | (cases e; exact ⟨_, _, _, _, rfl, mon_app2 _ _ _⟩) | (obtain ⟨_, hq, rfl⟩ := Option.map_eq_some_iff.mp e; first | exact ⟨_, _, _, _, rfl, Nat.le_refl _, id⟩ | exact ⟨_, _, _, _, rfl, mon_put hq⟩ | exact ⟨_, _, _, _, rfl, mon_astI hq⟩ | exact ⟨_, _, _, _, rfl, mon_astL hq⟩ | exact ⟨_, _, _, _, rfl, mon_astR hq⟩ | exact ⟨_, _, _, _, rfl, mon_cpyI hq⟩ | exact ⟨_, _, _, _, rfl, mon_cpyL hq⟩) | cases e
  · obtain ⟨⟨hx, hb, hml, hr, hlk⟩, hown, hts, hK, hini, hlaw, hB, hR⟩ := hC
    unfold ac_newR at ea
    split at ea
    · rename_i x r
      split at ea
      · rename_i hn
        cases ea
        refine ⟨by rw [List.length_append]; exact Nat.le_add_right _ _, fun hroom kk => ?_⟩
        have hz := hS.2.2.2.2.2
        rw [List.length_append] at hroom
        have hroom : B + (h.length + 1) ≤ s.heap.size + mm_rc R + 1 := hroom
        have hA : ∀ q, s.heap.size ≤ q → B ≤ q := fun q hq => Nat.le_trans hB hq
        refine va_newq (C := C) hx hb hown (hts _ hl) (hov _ hK.2) hK.1 hS.2.2.2.1 (ws_D B b0 aC h) hS.2.2.2.2.1 hA hn.1 rfl (by omega) (by omega) (by omega) hd (fun q cA H1 hK1 hP1 hD1 hS1 => ?_)
        have hcA : cA = aC tag := by
          obtain ⟨_, _, _, _, _, g1⟩ := (hK1.2 6 (cA, .object C) rfl).2
          obtain ⟨_, _, _, _, _, g2⟩ := (hK.1.2 tag (aC tag, .object C) (hty aC)).2
          exact Option.some.inj (g1.symm.trans g2)
        subst hcA
        refine w_size (fun hsz => ?_)
        have hq := new_at hS.pos hP1 hD1 (by omega)
        refine W.widen (k := cells + 1) (n := 400 * (cells + 1)) (Nat.le_refl _) (by omega) ?_
        have ef : (fun i : Nat => ((List.replicate x.toNatClampNeg (none : Option Nat)).getD i none).map (adr B b0)) = fun _ => none := by
          funext i
          rw [getD_rep]
          rfl
        have k1 := kk _ _ _ _ (hS.push (c := .inr (.inr (.inr (tag, List.replicate x.toNatClampNeg none)))) (by show va_P D vwCl (mm_ws B b0 aC h ++ [(q, .inl (aC tag, (List.replicate x.toNatClampNeg _).length, .inr (.inr (.inr (.inr _)))))]) H1; rw [List.length_replicate, ef]; exact hP1) hq hS1)
        have e9 : (.ref h.length :: r : List Value).map (ab B b0) = .ref q :: r.map (ab B b0) := by
          show Value.ref (adr B b0 h.length) :: _ = _
          rw [adr_len hS.pos hq]
        rw [e9] at k1
        exact k1
      · cases ea
    · cases ea
theorem ok_max {idx : Nat} (hl : Cond.methodLink own idx Lib.Math.max.name ∈ gT) (hs0 : Cond.static Lib.Math.max.name ∈ gT) (hi0 : Cond.initialized "java/lang/Math" ∈ gT) (hc0 : Cond.code Lib.Math.max.name Lib.Math.max.code 2 (some .int) ∈ gT) (hd : decode cc pc = .ok (.invokestatic idx, 3)) : mm_okP law scr own cc nL ini rt pc (ac_jdk 2 (ac_max (pc + 3))) := by
  refine ⟨fun L st h o e => ?_, fun D aC B b0 p l e R s m args below meth c Q hC L st h ls H locs cells hS pc' L' st' h' ea => ?_⟩
  · unfold ac_jdk ac_max ac_bI at e
    repeat' split at e
    all_goals first | (cases e; exact ⟨_, _, _, _, rfl, Nat.le_refl _, id⟩) | (cases e; exact ⟨_, _, _, _, rfl, mon_app _ _⟩) | (cases e; exact ⟨_, _, _, _, rfl, mon_app2 _ _ _⟩) | (obtain ⟨_, hq, rfl⟩ := Option.map_eq_some_iff.mp e; first | exact ⟨_, _, _, _, rfl, Nat.le_refl _, id⟩ | exact ⟨_, _, _, _, rfl, mon_put hq⟩ | exact ⟨_, _, _, _, rfl, mon_astI hq⟩ | exact ⟨_, _, _, _, rfl, mon_astL hq⟩ | exact ⟨_, _, _, _, rfl, mon_astR hq⟩ | exact ⟨_, _, _, _, rfl, mon_cpyI hq⟩ | exact ⟨_, _, _, _, rfl, mon_cpyL hq⟩) | cases e
  · obtain ⟨⟨hx, hb, hml, hr, hlk⟩, hown, hts, hK, hini, hlaw, hB, hR⟩ := hC
    unfold ac_jdk ac_max ac_bI at ea
    split at ea
    · rename_i hcat
      split at ea
      · cases ea
        have hz := hS.2.2.2.2.2
        have hcat : mm_cat _ ≤ 8 := hcat
        refine ⟨Nat.le_refl _, fun hroom kk => ?_⟩
        rw [List.drop_succ_cons, List.drop_succ_cons, List.drop_zero] at hcat
        exact va_mmax hx hb (by rw [hml]; exact hS.1.1.symm) hown (hts _ hl) (hts _ hs0) (hts _ hi0) (hts _ hc0) hR.1 (by rw [ab_cats]; omega) (by omega) (by omega) hd (kk _ _ _ _ hS)
      · cases ea
    · cases ea
theorem ok_min {idx : Nat} (hl : Cond.methodLink own idx Lib.Math.min.name ∈ gT) (hs0 : Cond.static Lib.Math.min.name ∈ gT) (hi0 : Cond.initialized "java/lang/Math" ∈ gT) (hc0 : Cond.code Lib.Math.min.name Lib.Math.min.code 2 (some .int) ∈ gT) (hd : decode cc pc = .ok (.invokestatic idx, 3)) : mm_okP law scr own cc nL ini rt pc (ac_jdk 2 (ac_min (pc + 3))) := by
  refine ⟨fun L st h o e => ?_, fun D aC B b0 p l e R s m args below meth c Q hC L st h ls H locs cells hS pc' L' st' h' ea => ?_⟩
  · unfold ac_jdk ac_min ac_bI at e
    repeat' split at e
    all_goals first | (cases e; exact ⟨_, _, _, _, rfl, Nat.le_refl _, id⟩) | (cases e; exact ⟨_, _, _, _, rfl, mon_app _ _⟩) | (cases e; exact ⟨_, _, _, _, rfl, mon_app2 _ _ _⟩) | (obtain ⟨_, hq, rfl⟩ := Option.map_eq_some_iff.mp e; first | exact ⟨_, _, _, _, rfl, Nat.le_refl _, id⟩ | exact ⟨_, _, _, _, rfl, mon_put hq⟩ | exact ⟨_, _, _, _, rfl, mon_astI hq⟩ | exact ⟨_, _, _, _, rfl, mon_astL hq⟩ | exact ⟨_, _, _, _, rfl, mon_astR hq⟩ | exact ⟨_, _, _, _, rfl, mon_cpyI hq⟩ | exact ⟨_, _, _, _, rfl, mon_cpyL hq⟩) | cases e
  · obtain ⟨⟨hx, hb, hml, hr, hlk⟩, hown, hts, hK, hini, hlaw, hB, hR⟩ := hC
    unfold ac_jdk ac_min ac_bI at ea
    split at ea
    · rename_i hcat
      split at ea
      · cases ea
        have hz := hS.2.2.2.2.2
        have hcat : mm_cat _ ≤ 8 := hcat
        refine ⟨Nat.le_refl _, fun hroom kk => ?_⟩
        rw [List.drop_succ_cons, List.drop_succ_cons, List.drop_zero] at hcat
        exact va_mmin hx hb (by rw [hml]; exact hS.1.1.symm) hown (hts _ hl) (hts _ hs0) (hts _ hi0) (hts _ hc0) hR.1 (by rw [ab_cats]; omega) (by omega) (by omega) hd (kk _ _ _ _ hS)
      · cases ea
    · cases ea
theorem ok_lmax {idx : Nat} (hl : Cond.methodLink own idx Lib.MathLoose.max_long.x ∈ gT) (hs0 : Cond.static Lib.MathLoose.max_long.x ∈ gT) (hi0 : Cond.initialized "java/lang/Math" ∈ gT) (hc0 : Cond.code Lib.MathLoose.max_long.x Lib.MathLoose.max_long.code 4 (some .long) ∈ gT) (hd : decode cc pc = .ok (.invokestatic idx, 3)) : mm_okP law scr own cc nL ini rt pc (ac_jdk 2 (ac_lmax (pc + 3))) := by
  refine ⟨fun L st h o e => ?_, fun D aC B b0 p l e R s m args below meth c Q hC L st h ls H locs cells hS pc' L' st' h' ea => ?_⟩
  · unfold ac_jdk ac_lmax ac_bL at e
    repeat' split at e
    all_goals first | (cases e; exact ⟨_, _, _, _, rfl, Nat.le_refl _, id⟩) | (cases e; exact ⟨_, _, _, _, rfl, mon_app _ _⟩) | (cases e; exact ⟨_, _, _, _, rfl, mon_app2 _ _ _⟩) | (obtain ⟨_, hq, rfl⟩ := Option.map_eq_some_iff.mp e; first | exact ⟨_, _, _, _, rfl, Nat.le_refl _, id⟩ | exact ⟨_, _, _, _, rfl, mon_put hq⟩ | exact ⟨_, _, _, _, rfl, mon_astI hq⟩ | exact ⟨_, _, _, _, rfl, mon_astL hq⟩ | exact ⟨_, _, _, _, rfl, mon_astR hq⟩ | exact ⟨_, _, _, _, rfl, mon_cpyI hq⟩ | exact ⟨_, _, _, _, rfl, mon_cpyL hq⟩) | cases e
  · obtain ⟨⟨hx, hb, hml, hr, hlk⟩, hown, hts, hK, hini, hlaw, hB, hR⟩ := hC
    unfold ac_jdk ac_lmax ac_bL at ea
    split at ea
    · rename_i hcat
      split at ea
      · cases ea
        have hz := hS.2.2.2.2.2
        have hcat : mm_cat _ ≤ 8 := hcat
        refine ⟨Nat.le_refl _, fun hroom kk => ?_⟩
        rw [List.drop_succ_cons, List.drop_succ_cons, List.drop_zero] at hcat
        exact va_mmax_long hx hb (by rw [hml]; exact hS.1.1.symm) hown (hts _ hl) (hts _ hs0) (hts _ hi0) (hts _ hc0) hR.1 (by rw [ab_cats]; omega) (by omega) (by omega) hd (kk _ _ _ _ hS)
      · cases ea
    · cases ea
theorem ok_labs {idx : Nat} (hl : Cond.methodLink own idx Lib.MathLoose.abs_long.x ∈ gT) (hs0 : Cond.static Lib.MathLoose.abs_long.x ∈ gT) (hi0 : Cond.initialized "java/lang/Math" ∈ gT) (hc0 : Cond.code Lib.MathLoose.abs_long.x Lib.MathLoose.abs_long.code 2 (some .long) ∈ gT) (hd : decode cc pc = .ok (.invokestatic idx, 3)) : mm_okP law scr own cc nL ini rt pc (ac_jdk 1 (ac_labs (pc + 3))) := by
  refine ⟨fun L st h o e => ?_, fun D aC B b0 p l e R s m args below meth c Q hC L st h ls H locs cells hS pc' L' st' h' ea => ?_⟩
  · unfold ac_jdk ac_labs ac_uL at e
    repeat' split at e
    all_goals first | (cases e; exact ⟨_, _, _, _, rfl, Nat.le_refl _, id⟩) | (cases e; exact ⟨_, _, _, _, rfl, mon_app _ _⟩) | (cases e; exact ⟨_, _, _, _, rfl, mon_app2 _ _ _⟩) | (obtain ⟨_, hq, rfl⟩ := Option.map_eq_some_iff.mp e; first | exact ⟨_, _, _, _, rfl, Nat.le_refl _, id⟩ | exact ⟨_, _, _, _, rfl, mon_put hq⟩ | exact ⟨_, _, _, _, rfl, mon_astI hq⟩ | exact ⟨_, _, _, _, rfl, mon_astL hq⟩ | exact ⟨_, _, _, _, rfl, mon_astR hq⟩ | exact ⟨_, _, _, _, rfl, mon_cpyI hq⟩ | exact ⟨_, _, _, _, rfl, mon_cpyL hq⟩) | cases e
  · obtain ⟨⟨hx, hb, hml, hr, hlk⟩, hown, hts, hK, hini, hlaw, hB, hR⟩ := hC
    unfold ac_jdk ac_labs ac_uL at ea
    split at ea
    · rename_i hcat
      split at ea
      · cases ea
        have hz := hS.2.2.2.2.2
        have hcat : mm_cat _ ≤ 8 := hcat
        refine ⟨Nat.le_refl _, fun hroom kk => ?_⟩
        rw [List.drop_succ_cons, List.drop_zero] at hcat
        exact va_mabs_long hx hb (by rw [hml]; exact hS.1.1.symm) hown (hts _ hl) (hts _ hs0) (hts _ hi0) (hts _ hc0) hR.1 (by rw [ab_cats]; omega) (by omega) (by omega) hd (kk _ _ _ _ hS)
      · cases ea
    · cases ea
theorem ok_oinit {idx : Nat} (hl : Cond.methodLink own idx objectInit ∈ gT) (hs0 : Cond.instanceMethod objectInit ∈ gT) (hc0 : Cond.code objectInit ⟨#[0xb1]⟩ 1 none ∈ gT) (hd : decode cc pc = .ok (.invokespecial idx, 3)) : mm_okP law scr own cc nL ini rt pc (ac_jdk 1 (ac_oinit (pc + 3))) := by
  refine ⟨fun L st h o e => ?_, fun D aC B b0 p l e R s m args below meth c Q hC L st h ls H locs cells hS pc' L' st' h' ea => ?_⟩
  · unfold ac_jdk ac_oinit at e
    repeat' split at e
    all_goals first | (cases e; exact ⟨_, _, _, _, rfl, Nat.le_refl _, id⟩) | (cases e; exact ⟨_, _, _, _, rfl, mon_app _ _⟩) | (cases e; exact ⟨_, _, _, _, rfl, mon_app2 _ _ _⟩) | (obtain ⟨_, hq, rfl⟩ := Option.map_eq_some_iff.mp e; first | exact ⟨_, _, _, _, rfl, Nat.le_refl _, id⟩ | exact ⟨_, _, _, _, rfl, mon_put hq⟩ | exact ⟨_, _, _, _, rfl, mon_astI hq⟩ | exact ⟨_, _, _, _, rfl, mon_astL hq⟩ | exact ⟨_, _, _, _, rfl, mon_astR hq⟩ | exact ⟨_, _, _, _, rfl, mon_cpyI hq⟩ | exact ⟨_, _, _, _, rfl, mon_cpyL hq⟩) | cases e
  · obtain ⟨⟨hx, hb, hml, hr, hlk⟩, hown, hts, hK, hini, hlaw, hB, hR⟩ := hC
    unfold ac_jdk ac_oinit at ea
    split at ea
    · rename_i hcat
      split at ea
      · rename_i a r
        cases ea
        refine ⟨Nat.le_refl _, fun hroom kk => ?_⟩
        rw [List.drop_succ_cons, List.drop_zero] at hcat
        exact W.objInit hx hb hown (hts _ hl) (hts _ hs0) (hts _ hc0) rfl (by rw [hml]; exact hS.1.1) rfl hd hR.1 (by show 2 * 0 + _ + 12 ≤ _; rw [ab_cats]; omega) (kk _ _ _ _ hS)
      · cases ea
    · cases ea
theorem ok_cpyI {idx : Nat} (hl : Cond.methodLink own idx arraycopyName ∈ gT) (hn0 : Cond.native arraycopyName ∈ gT) (hs0 : Cond.static arraycopyName ∈ gT) (hi0 : Cond.initialized "java/lang/System" ∈ gT) (hd : decode cc pc = .ok (.invokestatic idx, 3)) : mm_okP law scr own cc nL ini rt pc (ac_jdk 5 (ac_cpyI (pc + 3))) := by
  refine ⟨fun L st h o e => ?_, fun D aC B b0 p l e R s m args below meth c Q hC L st h ls H locs cells hS pc' L' st' h' ea => ?_⟩
  · unfold ac_jdk ac_cpyI at e
    repeat' split at e
    all_goals first | (cases e; exact ⟨_, _, _, _, rfl, Nat.le_refl _, id⟩) | (cases e; exact ⟨_, _, _, _, rfl, mon_app _ _⟩) | (cases e; exact ⟨_, _, _, _, rfl, mon_app2 _ _ _⟩) | (obtain ⟨_, hq, rfl⟩ := Option.map_eq_some_iff.mp e; first | exact ⟨_, _, _, _, rfl, Nat.le_refl _, id⟩ | exact ⟨_, _, _, _, rfl, mon_put hq⟩ | exact ⟨_, _, _, _, rfl, mon_astI hq⟩ | exact ⟨_, _, _, _, rfl, mon_astL hq⟩ | exact ⟨_, _, _, _, rfl, mon_astR hq⟩ | exact ⟨_, _, _, _, rfl, mon_cpyI hq⟩ | exact ⟨_, _, _, _, rfl, mon_cpyL hq⟩) | cases e
  · obtain ⟨⟨hx, hb, hml, hr, hlk⟩, hown, hts, hK, hini, hlaw, hB, hR⟩ := hC
    unfold ac_jdk ac_cpyI at ea
    split at ea
    · rename_i hcat
      split at ea
      · rename_i n dp a1 sp a0 r
        obtain ⟨h1, hg, e1⟩ := Option.map_eq_some_iff.mp ea
        cases e1
        obtain ⟨l0, l1, g0, g1, ⟨c1, c2, c3, c4, c5⟩, rfl⟩ := cpyI_inv hg
        obtain ⟨q0, rfl⟩ := at_pos hS.2.2.1 g0 (fun z => by cases z)
        obtain ⟨q1, rfl⟩ := at_pos hS.2.2.1 g1 (fun z => by cases z)
        refine ⟨by rw [List.length_set]; exact Nat.le_refl _, fun hroom kk => ?_⟩
        have hcat : mm_cat st' ≤ 8 := hcat
        refine va_copyi (ty := .int) hx hb (by rw [hml]; exact hS.1.1.symm) hown (hts _ hl) (hts _ hn0) (hts _ hs0) (hts _ hi0) hK.1 hS.2.2.2.1 (ws_D B b0 aC h) hS.2.2.2.2.1 q0 q1 0 0 (ws_get g0) (ws_get g1) rfl rfl rfl c1 c2 c3 c4 c5 (fun _ _ => rfl) hR.1 (by rw [ab_cats]; have := nat_frame; omega) hd (fun H1 locs1 hP1 hD1 hS1 => kk _ _ _ _ (hS.set (c := .inr (.inl (0, mm_cpy 0 l0 l1 sp.toNatClampNeg dp.toNatClampNeg n.toNatClampNeg))) ?_ hS1))
        show va_P D vwCl ((mm_ws B b0 aC h).set q1 (B + q1, .inl (aC 0, (mm_cpy 0 l0 l1 sp.toNatClampNeg dp.toNatClampNeg n.toNatClampNeg).length, .inl (fun i => (mm_cpy 0 l0 l1 sp.toNatClampNeg dp.toNatClampNeg n.toNatClampNeg).getD i 0)))) H1
        rw [← cpyI_get c5]
        have el : (mm_cpy 0 l0 l1 sp.toNatClampNeg dp.toNatClampNeg n.toNatClampNeg).length = l1.length := by unfold mm_cpy; rw [List.length_map, List.length_range]
        rw [el]
        exact hP1
      · cases ea
    · cases ea
theorem ok_cpyL {idx : Nat} (hl : Cond.methodLink own idx arraycopyName ∈ gT) (hn0 : Cond.native arraycopyName ∈ gT) (hs0 : Cond.static arraycopyName ∈ gT) (hi0 : Cond.initialized "java/lang/System" ∈ gT) (hd : decode cc pc = .ok (.invokestatic idx, 3)) : mm_okP law scr own cc nL ini rt pc (ac_jdk 5 (ac_cpyL (pc + 3))) := by
  refine ⟨fun L st h o e => ?_, fun D aC B b0 p l e R s m args below meth c Q hC L st h ls H locs cells hS pc' L' st' h' ea => ?_⟩
  · unfold ac_jdk ac_cpyL at e
    repeat' split at e
    all_goals first | (cases e; exact ⟨_, _, _, _, rfl, Nat.le_refl _, id⟩) | (cases e; exact ⟨_, _, _, _, rfl, mon_app _ _⟩) | (cases e; exact ⟨_, _, _, _, rfl, mon_app2 _ _ _⟩) | (obtain ⟨_, hq, rfl⟩ := Option.map_eq_some_iff.mp e; first | exact ⟨_, _, _, _, rfl, Nat.le_refl _, id⟩ | exact ⟨_, _, _, _, rfl, mon_put hq⟩ | exact ⟨_, _, _, _, rfl, mon_astI hq⟩ | exact ⟨_, _, _, _, rfl, mon_astL hq⟩ | exact ⟨_, _, _, _, rfl, mon_astR hq⟩ | exact ⟨_, _, _, _, rfl, mon_cpyI hq⟩ | exact ⟨_, _, _, _, rfl, mon_cpyL hq⟩) | cases e
  · obtain ⟨⟨hx, hb, hml, hr, hlk⟩, hown, hts, hK, hini, hlaw, hB, hR⟩ := hC
    unfold ac_jdk ac_cpyL at ea
    split at ea
    · rename_i hcat
      split at ea
      · rename_i n dp a1 sp a0 r
        obtain ⟨h1, hg, e1⟩ := Option.map_eq_some_iff.mp ea
        cases e1
        obtain ⟨l0, l1, g0, g1, ⟨c1, c2, c3, c4, c5⟩, rfl⟩ := cpyL_inv hg
        obtain ⟨q0, rfl⟩ := at_pos hS.2.2.1 g0 (fun z => by cases z)
        obtain ⟨q1, rfl⟩ := at_pos hS.2.2.1 g1 (fun z => by cases z)
        refine ⟨by rw [List.length_set]; exact Nat.le_refl _, fun hroom kk => ?_⟩
        have hcat : mm_cat st' ≤ 8 := hcat
        refine va_copyl (ty := .long) hx hb (by rw [hml]; exact hS.1.1.symm) hown (hts _ hl) (hts _ hn0) (hts _ hs0) (hts _ hi0) hK.1 hS.2.2.2.1 (ws_D B b0 aC h) hS.2.2.2.2.1 q0 q1 2 2 (ws_get g0) (ws_get g1) rfl rfl rfl c1 c2 c3 c4 c5 (fun _ _ => rfl) hR.1 (by rw [ab_cats]; have := nat_frame; omega) hd (fun H1 locs1 hP1 hD1 hS1 => kk _ _ _ _ (hS.set (c := .inr (.inr (.inl (mm_cpy 0 l0 l1 sp.toNatClampNeg dp.toNatClampNeg n.toNatClampNeg)))) ?_ hS1))
        show va_P D vwCl ((mm_ws B b0 aC h).set q1 (B + q1, .inl (aC 2, (mm_cpy 0 l0 l1 sp.toNatClampNeg dp.toNatClampNeg n.toNatClampNeg).length, .inr (.inl (fun i => (mm_cpy 0 l0 l1 sp.toNatClampNeg dp.toNatClampNeg n.toNatClampNeg).getD i 0))))) H1
        rw [← cpyL_get c5]
        have el : (mm_cpy 0 l0 l1 sp.toNatClampNeg dp.toNatClampNeg n.toNatClampNeg).length = l1.length := by unfold mm_cpy; rw [List.length_map, List.length_range]
        rw [el]
        exact hP1
      · cases ea
    · cases ea
theorem ok_sld (hd : decode cc pc = .ok (.iaload, 1)) : mm_okP true scr own cc nL ini rt pc (ac_sld scr (pc + 1)) := by
  refine ⟨fun L st h o e => ?_, fun D aC B b0 p l e R s m args below meth c Q hC L st h ls H locs cells hS pc' L' st' h' ea => ?_⟩
  · unfold ac_sld at e
    repeat' split at e
    all_goals first | (cases e; exact ⟨_, _, _, _, rfl, Nat.le_refl _, id⟩) | (cases e; exact ⟨_, _, _, _, rfl, mon_app _ _⟩) | (cases e; exact ⟨_, _, _, _, rfl, mon_app2 _ _ _⟩) | (obtain ⟨_, hq, rfl⟩ := Option.map_eq_some_iff.mp e; first | exact ⟨_, _, _, _, rfl, Nat.le_refl _, id⟩ | exact ⟨_, _, _, _, rfl, mon_put hq⟩ | exact ⟨_, _, _, _, rfl, mon_astI hq⟩ | exact ⟨_, _, _, _, rfl, mon_astL hq⟩ | exact ⟨_, _, _, _, rfl, mon_astR hq⟩ | exact ⟨_, _, _, _, rfl, mon_cpyI hq⟩ | exact ⟨_, _, _, _, rfl, mon_cpyL hq⟩) | cases e
  · obtain ⟨⟨hx, hb, hml, hr, hlk⟩, hown, hts, hK, hini, hlaw, hB, hR⟩ := hC
    unfold ac_sld at ea
    split at ea
    · rename_i i r
      split at ea
      · rename_i hi
        obtain ⟨x, hg, e1⟩ := Option.map_eq_some_iff.mp ea
        cases e1
        obtain ⟨hX, hb1, hb2⟩ := hlaw rfl
        refine ⟨Nat.le_refl _, fun hroom kk => ?_⟩
        refine va_sld hx hb hX hb1 (Nat.not_le.mpr hb2) hS.2.2.2.2.1 (in_of hi (List.getElem?_eq_some_iff.mp hg).1) hd ?_
        rw [List.getD_eq_getElem?_getD, hg]
        exact kk _ _ _ _ hS
      · cases ea
    · cases ea
theorem ok_slen (hd : decode cc pc = .ok (.arraylength, 1)) : mm_okP true scr own cc nL ini rt pc (ac_slen scr (pc + 1)) := by
  refine ⟨fun L st h o e => ?_, fun D aC B b0 p l e R s m args below meth c Q hC L st h ls H locs cells hS pc' L' st' h' ea => ?_⟩
  · unfold ac_slen at e
    repeat' split at e
    all_goals first | (cases e; exact ⟨_, _, _, _, rfl, Nat.le_refl _, id⟩) | (cases e; exact ⟨_, _, _, _, rfl, mon_app _ _⟩) | (cases e; exact ⟨_, _, _, _, rfl, mon_app2 _ _ _⟩) | (obtain ⟨_, hq, rfl⟩ := Option.map_eq_some_iff.mp e; first | exact ⟨_, _, _, _, rfl, Nat.le_refl _, id⟩ | exact ⟨_, _, _, _, rfl, mon_put hq⟩ | exact ⟨_, _, _, _, rfl, mon_astI hq⟩ | exact ⟨_, _, _, _, rfl, mon_astL hq⟩ | exact ⟨_, _, _, _, rfl, mon_astR hq⟩ | exact ⟨_, _, _, _, rfl, mon_cpyI hq⟩ | exact ⟨_, _, _, _, rfl, mon_cpyL hq⟩) | cases e
  · obtain ⟨⟨hx, hb, hml, hr, hlk⟩, hown, hts, hK, hini, hlaw, hB, hR⟩ := hC
    unfold ac_slen at ea
    split at ea
    · rename_i r
      cases ea
      obtain ⟨hX, hb1, hb2⟩ := hlaw rfl
      exact ⟨Nat.le_refl _, fun hroom kk => va_slen hx hb hX hb1 (Nat.not_le.mpr hb2) hS.2.2.2.2.1 hd (kk _ _ _ _ hS)⟩
    · cases ea
end OK3
