/-! the acts on the heap are sound -/
theorem at_pos {h : MH} {a : Nat} {c : MC} (h0 : h[0]? = some mm_dummy) (e : h[a]? = some c) (hc : c ≠ mm_dummy) : ∃ k, a = k + 1 := by
  cases a with
  | zero => rw [h0] at e; exact absurd (Option.some.inj e).symm hc
  | succ k => exact ⟨k, rfl⟩
theorem getI_inv {h : MH} {a ci k : Nat} {x : Int32} (e : mm_getI h a ci k = some x) : ∃ fs : List Value, h[a]? = some (.inl (ci, fs)) ∧ fs[k]? = some (.int x) := by
  unfold mm_getI at e
  split at e
  · rename_i c fs hc
    split at e
    · rename_i hci
      subst hci
      split at e
      · rename_i y hy
        cases e
        exact ⟨fs, hc, hy⟩
      · cases e
    · cases e
  · cases e
theorem getL_inv {h : MH} {a ci k : Nat} {x : Int64} (e : mm_getL h a ci k = some x) : ∃ fs : List Value, h[a]? = some (.inl (ci, fs)) ∧ fs[k]? = some (.long x) := by
  unfold mm_getL at e
  split at e
  · rename_i c fs hc
    split at e
    · rename_i hci
      subst hci
      split at e
      · rename_i y hy
        cases e
        exact ⟨fs, hc, hy⟩
      · cases e
    · cases e
  · cases e
theorem getR_inv {h : MH} {a ci k : Nat} {x : Nat} (e : mm_getR h a ci k = some x) : ∃ fs : List Value, h[a]? = some (.inl (ci, fs)) ∧ fs[k]? = some (.ref x) := by
  unfold mm_getR at e
  split at e
  · rename_i c fs hc
    split at e
    · rename_i hci
      subst hci
      split at e
      · rename_i y hy
        cases e
        exact ⟨fs, hc, hy⟩
      · cases e
    · cases e
  · cases e
theorem put_inv {h h' : MH} {a ci k : Nat} {v : Value} (e : mm_put h a ci k v = some h') : ∃ fs : List Value, h[a]? = some (.inl (ci, fs)) ∧ k < fs.length ∧ h' = h.set a (.inl (ci, fs.set k v)) := by
  unfold mm_put at e
  split at e
  · rename_i c fs hc
    split at e
    · rename_i hci
      obtain ⟨rfl, hk⟩ := hci
      cases e
      exact ⟨fs, hc, hk, rfl⟩
    · cases e
  · cases e
theorem aldI_inv {h : MH} {a tag : Nat} {i x : Int32} (e : mm_aldI h a tag i = some x) : ∃ l : List Int32, h[a]? = some (.inr (.inl (tag, l))) ∧ ¬ i < 0 ∧ l[i.toNatClampNeg]? = some x := by
  unfold mm_aldI at e
  split at e
  · rename_i t l hc
    split at e
    · rename_i hci
      obtain ⟨rfl, hk⟩ := hci
      exact ⟨l, hc, hk, e⟩
    · cases e
  · cases e
theorem aldL_inv {h : MH} {a : Nat} {i : Int32} {x : Int64} (e : mm_aldL h a i = some x) : ∃ l : List Int64, h[a]? = some (.inr (.inr (.inl l))) ∧ ¬ i < 0 ∧ l[i.toNatClampNeg]? = some x := by
  unfold mm_aldL at e
  split at e
  · rename_i l hc
    split at e
    · rename_i hk
      exact ⟨l, hc, hk, e⟩
    · cases e
  · cases e
theorem aldR_inv {h : MH} {a tag x : Nat} {i : Int32} (e : mm_aldR h a tag i = some x) : ∃ l : List (Option Nat), h[a]? = some (.inr (.inr (.inr (tag, l)))) ∧ ¬ i < 0 ∧ l[i.toNatClampNeg]? = some (some x) := by
  unfold mm_aldR at e
  split at e
  · rename_i t l hc
    split at e
    · rename_i hci
      obtain ⟨rfl, hk⟩ := hci
      refine ⟨l, hc, hk, ?_⟩
      cases hq : l[i.toNatClampNeg]? with
      | none => rw [hq] at e; cases e
      | some y => rw [hq] at e; cases y with
        | none => cases e
        | some z => cases e; rfl
    · cases e
  · cases e
theorem astI_inv {h h' : MH} {a tag : Nat} {i x : Int32} (e : mm_astI h a tag i x = some h') : ∃ l : List Int32, h[a]? = some (.inr (.inl (tag, l))) ∧ ¬ i < 0 ∧ i.toNatClampNeg < l.length ∧ h' = h.set a (.inr (.inl (tag, l.set i.toNatClampNeg x))) := by
  unfold mm_astI at e
  split at e
  · rename_i t l hc
    split at e
    · rename_i hci
      obtain ⟨rfl, hk, hk2⟩ := hci
      cases e
      exact ⟨l, hc, hk, hk2, rfl⟩
    · cases e
  · cases e
theorem astL_inv {h h' : MH} {a : Nat} {i : Int32} {x : Int64} (e : mm_astL h a i x = some h') : ∃ l : List Int64, h[a]? = some (.inr (.inr (.inl l))) ∧ ¬ i < 0 ∧ i.toNatClampNeg < l.length ∧ h' = h.set a (.inr (.inr (.inl (l.set i.toNatClampNeg x)))) := by
  unfold mm_astL at e
  split at e
  · rename_i l hc
    split at e
    · rename_i hci
      cases e
      exact ⟨l, hc, hci.1, hci.2, rfl⟩
    · cases e
  · cases e
theorem is_inv {h : MH} {a ci : Nat} (e : mm_is h a ci = true) : ∃ fs : List Value, h[a]? = some (.inl (ci, fs)) := by
  unfold mm_is at e
  split at e
  · rename_i c fs hc
    have : c = ci := by simpa using e
    subst this
    exact ⟨fs, hc⟩
  · cases e
theorem astR_inv {h h' : MH} {a tag ci v : Nat} {i : Int32} (e : mm_astR h a tag ci i v = some h') : ∃ l : List (Option Nat), h[a]? = some (.inr (.inr (.inr (tag, l)))) ∧ ¬ i < 0 ∧ i.toNatClampNeg < l.length ∧ (∃ fs : List Value, h[v]? = some (.inl (ci, fs))) ∧ h' = h.set a (.inr (.inr (.inr (tag, l.set i.toNatClampNeg (some v))))) := by
  unfold mm_astR at e
  split at e
  · rename_i t l hc
    split at e
    · rename_i hci
      obtain ⟨rfl, hk, hk2, hk3⟩ := hci
      cases e
      exact ⟨l, hc, hk, hk2, is_inv hk3, rfl⟩
    · cases e
  · cases e
theorem mon_set {h : MH} {a : Nat} {c0 c : MC} (e : h[a]? = some c0) (hc : c0 ≠ mm_dummy) : h.length ≤ (h.set a c).length ∧ (h[0]? = some mm_dummy → (h.set a c)[0]? = some mm_dummy) := by
  refine ⟨by rw [List.length_set]; exact Nat.le_refl _, fun h0 => ?_⟩
  obtain ⟨k, rfl⟩ := at_pos h0 e hc
  rw [List.getElem?_set_ne (by omega)]
  exact h0
theorem mon_app (h l : MH) : h.length ≤ (h ++ l).length ∧ (h[0]? = some mm_dummy → (h ++ l)[0]? = some mm_dummy) := by
  refine ⟨by rw [List.length_append]; exact Nat.le_add_right _ _, fun h0 => ?_⟩
  rw [List.getElem?_append_left (List.getElem?_eq_some_iff.mp h0).1]
  exact h0
theorem mon_app2 (h l l2 : MH) : h.length ≤ (h ++ l ++ l2).length ∧ (h[0]? = some mm_dummy → (h ++ l ++ l2)[0]? = some mm_dummy) := by
  rw [List.append_assoc]
  exact mon_app h _
theorem mon_put {h h' : MH} {a ci k : Nat} {v : Value} (e : mm_put h a ci k v = some h') : h.length ≤ h'.length ∧ (h[0]? = some mm_dummy → h'[0]? = some mm_dummy) := by
  obtain ⟨fs, g1, g2, rfl⟩ := put_inv e
  exact mon_set g1 (fun z => by cases z; cases g2)
theorem mon_astI {h h' : MH} {a tag : Nat} {i x : Int32} (e : mm_astI h a tag i x = some h') : h.length ≤ h'.length ∧ (h[0]? = some mm_dummy → h'[0]? = some mm_dummy) := by
  obtain ⟨l, g1, g2, g3, rfl⟩ := astI_inv e
  exact mon_set g1 (fun z => by cases z)
theorem mon_astL {h h' : MH} {a : Nat} {i : Int32} {x : Int64} (e : mm_astL h a i x = some h') : h.length ≤ h'.length ∧ (h[0]? = some mm_dummy → h'[0]? = some mm_dummy) := by
  obtain ⟨l, g1, g2, g3, rfl⟩ := astL_inv e
  exact mon_set g1 (fun z => by cases z)
theorem mon_astR {h h' : MH} {a tag ci v : Nat} {i : Int32} (e : mm_astR h a tag ci i v = some h') : h.length ≤ h'.length ∧ (h[0]? = some mm_dummy → h'[0]? = some mm_dummy) := by
  obtain ⟨l, g1, g2, g3, g4, rfl⟩ := astR_inv e
  exact mon_set g1 (fun z => by cases z)
theorem in_of {i : Int32} {n : Nat} (h0 : ¬ i < 0) (h : i.toNatClampNeg < n) : vp_in i n := fun q => q.elim h0 (fun z => absurd z (Nat.not_le.mpr h))
theorem upd_setI {l : List Int32} {j : Nat} {x : Int32} (hj : j < l.length) : upd (fun i => l.getD i 0) j x = fun i => (l.set j x).getD i 0 := by
  funext i
  rw [List.getD_eq_getElem?_getD, List.getElem?_set]
  by_cases e : j = i
  · subst e
    simp [upd, hj]
  · simp [upd, e, Ne.symm e, List.getD_eq_getElem?_getD]
theorem upd_setL {l : List Int64} {j : Nat} {x : Int64} (hj : j < l.length) : vp_updL (fun i => l.getD i 0) j x = fun i => (l.set j x).getD i 0 := by
  funext i
  rw [List.getD_eq_getElem?_getD, List.getElem?_set]
  by_cases e : j = i
  · subst e
    simp [vp_updL, hj]
  · simp [vp_updL, e, Ne.symm e, List.getD_eq_getElem?_getD]
theorem upd_setR {B b0 : Nat} {l : List (Option Nat)} {j v : Nat} (hj : j < l.length) : va_up (fun i => (l.getD i none).map (adr B b0)) j (some (adr B b0 v)) = fun i => ((l.set j (some v)).getD i none).map (adr B b0) := by
  funext i
  rw [List.getD_eq_getElem?_getD, List.getElem?_set]
  by_cases e : j = i
  · subst e
    simp [va_up, hj]
  · simp [va_up, e, Ne.symm e, List.getD_eq_getElem?_getD]
theorem cls_ne {ci : Nat} {q : vw_C} {fs : List Value} (hc : vwCl[ci]? = some q) : (Sum.inl (ci, fs) : MC) ≠ mm_dummy := by
  intro e
  have h1 : ci = 99 := congrArg Prod.fst (Sum.inl.inj e)
  subst h1
  cases hc
/-- behind a store -/
theorem mm_S.set {D : va_G} {aC : Nat → ClassId} {B b0 : Nat} {s : State} {nL : Nat} {L : ML} {h : MH} {ls : Array Slot} {H H1 : Heap} {locs locs1 : List Loc} {cells k : Nat} {c : MC} (hS : mm_S D aC B b0 s nL L h ls H locs cells)
    (hP : va_P D vwCl ((mm_ws B b0 aC h).set k (B + k, mm_enc B b0 aC c)) H1) (hS1 : va_S (fun q => B ≤ q) s.heap H1 locs1) : mm_S D aC B b0 s nL L (h.set (k + 1) c) ls H1 locs1 cells := by
  refine ⟨hS.1, hS.2.1, ?_, ?_, hS1, ?_⟩
  · rw [List.getElem?_set_ne (by omega)]
    exact hS.2.2.1
  · rw [← ws_set]
    exact hP
  · rw [List.length_set]
    exact hS.2.2.2.2.2
section OK2
variable {law : Bool} {scr : List Int32} {own : String} {cc : ByteArray} {nL : Nat} {ini : Bool} {rt : Option FieldType} {pc : Nat}
theorem ok_getI {ci k idx N : Nat} {C : String} {T : u_T} (hc : vwCl[ci]? = some (C, T, N)) (hin : ∀ w ∈ u_ws C T N, w ∈ gT) (hk : k < N) (hl : Cond.fieldLink own idx (T k).1 (T k).2.1 (T k).2.2.1 ∈ gT) (hd : decode cc pc = .ok (.getfield idx, 3)) : mm_okP law scr own cc nL ini rt pc (ac_getI ci k (pc + 3)) := by
  refine ⟨fun L st h o e => ?_, fun D aC B b0 p l e R s m args below meth c Q hC L st h ls H locs cells hS pc' L' st' h' ea => ?_⟩
  · unfold ac_getI at e
    repeat' split at e
    all_goals first | (cases e; exact ⟨_, _, _, _, rfl, Nat.le_refl _, id⟩) | (cases e; exact ⟨_, _, _, _, rfl, mon_app _ _⟩) | (cases e; exact ⟨_, _, _, _, rfl, mon_app2 _ _ _⟩) | (obtain ⟨_, hq, rfl⟩ := Option.map_eq_some_iff.mp e; first | exact ⟨_, _, _, _, rfl, Nat.le_refl _, id⟩ | exact ⟨_, _, _, _, rfl, mon_put hq⟩ | exact ⟨_, _, _, _, rfl, mon_astI hq⟩ | exact ⟨_, _, _, _, rfl, mon_astL hq⟩ | exact ⟨_, _, _, _, rfl, mon_astR hq⟩) | cases e
  · obtain ⟨⟨hx, hb, hml, hr, hlk⟩, hown, hts, hK, hini, hlaw, hB, hR⟩ := hC
    unfold ac_getI at ea
    split at ea
    · rename_i a r
      obtain ⟨x, hg, e1⟩ := Option.map_eq_some_iff.mp ea
      cases e1
      obtain ⟨fs, g1, g2⟩ := getI_inv hg
      obtain ⟨q, rfl⟩ := at_pos hS.2.2.1 g1 (cls_ne hc)
      exact ⟨Nat.le_refl _, fun _ kk => va_get (v := ab B b0 (.int x)) hx hb hts hin hown hK.1 hS.2.2.2.1 q (ws_get g1) hc k hk (hts _ hl) (fun _ z => z) (by rw [List.getElem?_map, g2]; rfl) hd (kk _ _ _ _ hS)⟩
    · cases ea
theorem ok_getIN {ci k idx N : Nat} {C : String} {T : u_T} {host : String} (hc : vwCl[ci]? = some (C, T, N)) (hin : ∀ w ∈ u_ws C T N, w ∈ gT) (hk : k < N) (hl : Cond.fieldLinkNest own idx (T k).1 (T k).2.1 (T k).2.2.1 host ∈ nT) (hd : decode cc pc = .ok (.getfield idx, 3)) : mm_okP law scr own cc nL ini rt pc (ac_getI ci k (pc + 3)) := by
  refine ⟨fun L st h o e => ?_, fun D aC B b0 p l e R s m args below meth c Q hC L st h ls H locs cells hS pc' L' st' h' ea => ?_⟩
  · unfold ac_getI at e
    repeat' split at e
    all_goals first | (cases e; exact ⟨_, _, _, _, rfl, Nat.le_refl _, id⟩) | (cases e; exact ⟨_, _, _, _, rfl, mon_app _ _⟩) | (cases e; exact ⟨_, _, _, _, rfl, mon_app2 _ _ _⟩) | (obtain ⟨_, hq, rfl⟩ := Option.map_eq_some_iff.mp e; first | exact ⟨_, _, _, _, rfl, Nat.le_refl _, id⟩ | exact ⟨_, _, _, _, rfl, mon_put hq⟩ | exact ⟨_, _, _, _, rfl, mon_astI hq⟩ | exact ⟨_, _, _, _, rfl, mon_astL hq⟩ | exact ⟨_, _, _, _, rfl, mon_astR hq⟩) | cases e
  · obtain ⟨⟨hx, hb, hml, hr, hlk⟩, hown, hts, hK, hini, hlaw, hB, hR⟩ := hC
    unfold ac_getI at ea
    split at ea
    · rename_i a r
      obtain ⟨x, hg, e1⟩ := Option.map_eq_some_iff.mp ea
      cases e1
      obtain ⟨fs, g1, g2⟩ := getI_inv hg
      obtain ⟨q, rfl⟩ := at_pos hS.2.2.1 g1 (cls_ne hc)
      exact ⟨Nat.le_refl _, fun _ kk => va_getN (v := ab B b0 (.int x)) hx hb hts hin hown hK.1 hS.2.2.2.1 q (ws_get g1) hc k hk (va_Nw.use rfl (hK.2.1 _ hl)) (fun _ z => z) (by rw [List.getElem?_map, g2]; rfl) hd (kk _ _ _ _ hS)⟩
    · cases ea
theorem ok_getL {ci k idx N : Nat} {C : String} {T : u_T} (hc : vwCl[ci]? = some (C, T, N)) (hin : ∀ w ∈ u_ws C T N, w ∈ gT) (hk : k < N) (hl : Cond.fieldLink own idx (T k).1 (T k).2.1 (T k).2.2.1 ∈ gT) (hd : decode cc pc = .ok (.getfield idx, 3)) : mm_okP law scr own cc nL ini rt pc (ac_getL ci k (pc + 3)) := by
  refine ⟨fun L st h o e => ?_, fun D aC B b0 p l e R s m args below meth c Q hC L st h ls H locs cells hS pc' L' st' h' ea => ?_⟩
  · unfold ac_getL at e
    repeat' split at e
    all_goals first | (cases e; exact ⟨_, _, _, _, rfl, Nat.le_refl _, id⟩) | (cases e; exact ⟨_, _, _, _, rfl, mon_app _ _⟩) | (cases e; exact ⟨_, _, _, _, rfl, mon_app2 _ _ _⟩) | (obtain ⟨_, hq, rfl⟩ := Option.map_eq_some_iff.mp e; first | exact ⟨_, _, _, _, rfl, Nat.le_refl _, id⟩ | exact ⟨_, _, _, _, rfl, mon_put hq⟩ | exact ⟨_, _, _, _, rfl, mon_astI hq⟩ | exact ⟨_, _, _, _, rfl, mon_astL hq⟩ | exact ⟨_, _, _, _, rfl, mon_astR hq⟩) | cases e
  · obtain ⟨⟨hx, hb, hml, hr, hlk⟩, hown, hts, hK, hini, hlaw, hB, hR⟩ := hC
    unfold ac_getL at ea
    split at ea
    · rename_i a r
      obtain ⟨x, hg, e1⟩ := Option.map_eq_some_iff.mp ea
      cases e1
      obtain ⟨fs, g1, g2⟩ := getL_inv hg
      obtain ⟨q, rfl⟩ := at_pos hS.2.2.1 g1 (cls_ne hc)
      exact ⟨Nat.le_refl _, fun _ kk => va_get (v := ab B b0 (.long x)) hx hb hts hin hown hK.1 hS.2.2.2.1 q (ws_get g1) hc k hk (hts _ hl) (fun _ z => z) (by rw [List.getElem?_map, g2]; rfl) hd (kk _ _ _ _ hS)⟩
    · cases ea
theorem ok_getLN {ci k idx N : Nat} {C : String} {T : u_T} {host : String} (hc : vwCl[ci]? = some (C, T, N)) (hin : ∀ w ∈ u_ws C T N, w ∈ gT) (hk : k < N) (hl : Cond.fieldLinkNest own idx (T k).1 (T k).2.1 (T k).2.2.1 host ∈ nT) (hd : decode cc pc = .ok (.getfield idx, 3)) : mm_okP law scr own cc nL ini rt pc (ac_getL ci k (pc + 3)) := by
  refine ⟨fun L st h o e => ?_, fun D aC B b0 p l e R s m args below meth c Q hC L st h ls H locs cells hS pc' L' st' h' ea => ?_⟩
  · unfold ac_getL at e
    repeat' split at e
    all_goals first | (cases e; exact ⟨_, _, _, _, rfl, Nat.le_refl _, id⟩) | (cases e; exact ⟨_, _, _, _, rfl, mon_app _ _⟩) | (cases e; exact ⟨_, _, _, _, rfl, mon_app2 _ _ _⟩) | (obtain ⟨_, hq, rfl⟩ := Option.map_eq_some_iff.mp e; first | exact ⟨_, _, _, _, rfl, Nat.le_refl _, id⟩ | exact ⟨_, _, _, _, rfl, mon_put hq⟩ | exact ⟨_, _, _, _, rfl, mon_astI hq⟩ | exact ⟨_, _, _, _, rfl, mon_astL hq⟩ | exact ⟨_, _, _, _, rfl, mon_astR hq⟩) | cases e
  · obtain ⟨⟨hx, hb, hml, hr, hlk⟩, hown, hts, hK, hini, hlaw, hB, hR⟩ := hC
    unfold ac_getL at ea
    split at ea
    · rename_i a r
      obtain ⟨x, hg, e1⟩ := Option.map_eq_some_iff.mp ea
      cases e1
      obtain ⟨fs, g1, g2⟩ := getL_inv hg
      obtain ⟨q, rfl⟩ := at_pos hS.2.2.1 g1 (cls_ne hc)
      exact ⟨Nat.le_refl _, fun _ kk => va_getN (v := ab B b0 (.long x)) hx hb hts hin hown hK.1 hS.2.2.2.1 q (ws_get g1) hc k hk (va_Nw.use rfl (hK.2.1 _ hl)) (fun _ z => z) (by rw [List.getElem?_map, g2]; rfl) hd (kk _ _ _ _ hS)⟩
    · cases ea
theorem ok_getR {ci k idx N : Nat} {C : String} {T : u_T} (hc : vwCl[ci]? = some (C, T, N)) (hin : ∀ w ∈ u_ws C T N, w ∈ gT) (hk : k < N) (hl : Cond.fieldLink own idx (T k).1 (T k).2.1 (T k).2.2.1 ∈ gT) (hd : decode cc pc = .ok (.getfield idx, 3)) : mm_okP law scr own cc nL ini rt pc (ac_getR ci k (pc + 3)) := by
  refine ⟨fun L st h o e => ?_, fun D aC B b0 p l e R s m args below meth c Q hC L st h ls H locs cells hS pc' L' st' h' ea => ?_⟩
  · unfold ac_getR at e
    repeat' split at e
    all_goals first | (cases e; exact ⟨_, _, _, _, rfl, Nat.le_refl _, id⟩) | (cases e; exact ⟨_, _, _, _, rfl, mon_app _ _⟩) | (cases e; exact ⟨_, _, _, _, rfl, mon_app2 _ _ _⟩) | (obtain ⟨_, hq, rfl⟩ := Option.map_eq_some_iff.mp e; first | exact ⟨_, _, _, _, rfl, Nat.le_refl _, id⟩ | exact ⟨_, _, _, _, rfl, mon_put hq⟩ | exact ⟨_, _, _, _, rfl, mon_astI hq⟩ | exact ⟨_, _, _, _, rfl, mon_astL hq⟩ | exact ⟨_, _, _, _, rfl, mon_astR hq⟩) | cases e
  · obtain ⟨⟨hx, hb, hml, hr, hlk⟩, hown, hts, hK, hini, hlaw, hB, hR⟩ := hC
    unfold ac_getR at ea
    split at ea
    · rename_i a r
      obtain ⟨x, hg, e1⟩ := Option.map_eq_some_iff.mp ea
      cases e1
      obtain ⟨fs, g1, g2⟩ := getR_inv hg
      obtain ⟨q, rfl⟩ := at_pos hS.2.2.1 g1 (cls_ne hc)
      exact ⟨Nat.le_refl _, fun _ kk => va_get (v := ab B b0 (.ref x)) hx hb hts hin hown hK.1 hS.2.2.2.1 q (ws_get g1) hc k hk (hts _ hl) (fun _ z => z) (by rw [List.getElem?_map, g2]; rfl) hd (kk _ _ _ _ hS)⟩
    · cases ea
theorem ok_getRN {ci k idx N : Nat} {C : String} {T : u_T} {host : String} (hc : vwCl[ci]? = some (C, T, N)) (hin : ∀ w ∈ u_ws C T N, w ∈ gT) (hk : k < N) (hl : Cond.fieldLinkNest own idx (T k).1 (T k).2.1 (T k).2.2.1 host ∈ nT) (hd : decode cc pc = .ok (.getfield idx, 3)) : mm_okP law scr own cc nL ini rt pc (ac_getR ci k (pc + 3)) := by
  refine ⟨fun L st h o e => ?_, fun D aC B b0 p l e R s m args below meth c Q hC L st h ls H locs cells hS pc' L' st' h' ea => ?_⟩
  · unfold ac_getR at e
    repeat' split at e
    all_goals first | (cases e; exact ⟨_, _, _, _, rfl, Nat.le_refl _, id⟩) | (cases e; exact ⟨_, _, _, _, rfl, mon_app _ _⟩) | (cases e; exact ⟨_, _, _, _, rfl, mon_app2 _ _ _⟩) | (obtain ⟨_, hq, rfl⟩ := Option.map_eq_some_iff.mp e; first | exact ⟨_, _, _, _, rfl, Nat.le_refl _, id⟩ | exact ⟨_, _, _, _, rfl, mon_put hq⟩ | exact ⟨_, _, _, _, rfl, mon_astI hq⟩ | exact ⟨_, _, _, _, rfl, mon_astL hq⟩ | exact ⟨_, _, _, _, rfl, mon_astR hq⟩) | cases e
  · obtain ⟨⟨hx, hb, hml, hr, hlk⟩, hown, hts, hK, hini, hlaw, hB, hR⟩ := hC
    unfold ac_getR at ea
    split at ea
    · rename_i a r
      obtain ⟨x, hg, e1⟩ := Option.map_eq_some_iff.mp ea
      cases e1
      obtain ⟨fs, g1, g2⟩ := getR_inv hg
      obtain ⟨q, rfl⟩ := at_pos hS.2.2.1 g1 (cls_ne hc)
      exact ⟨Nat.le_refl _, fun _ kk => va_getN (v := ab B b0 (.ref x)) hx hb hts hin hown hK.1 hS.2.2.2.1 q (ws_get g1) hc k hk (va_Nw.use rfl (hK.2.1 _ hl)) (fun _ z => z) (by rw [List.getElem?_map, g2]; rfl) hd (kk _ _ _ _ hS)⟩
    · cases ea
theorem ok_putI {ci k idx N : Nat} {C : String} {T : u_T} (hc : vwCl[ci]? = some (C, T, N)) (hin : ∀ w ∈ u_ws C T N, w ∈ gT) (ty0 : Nat → FieldType) (hty : ∀ k, k < N → parseFieldDescriptor (T k).2.2.1 = some (ty0 k)) (hnm : ∀ a, a < N → ∀ b, b < N → a ≠ b → (T a).2.1 ≠ (T b).2.1) (hk : k < N) (hl : Cond.fieldLink own idx (T k).1 (T k).2.1 (T k).2.2.1 ∈ gT) (hfin : (T k).2.2.2 = false) (hfd : parseFieldDescriptor (T k).2.2.1 = some .int) (hd : decode cc pc = .ok (.putfield idx, 3)) : mm_okP law scr own cc nL ini rt pc (ac_putI ci k (pc + 3)) := by
  refine ⟨fun L st h o e => ?_, fun D aC B b0 p l e R s m args below meth c Q hC L st h ls H locs cells hS pc' L' st' h' ea => ?_⟩
  · unfold ac_putI at e
    repeat' split at e
    all_goals first | (cases e; exact ⟨_, _, _, _, rfl, Nat.le_refl _, id⟩) | (cases e; exact ⟨_, _, _, _, rfl, mon_app _ _⟩) | (cases e; exact ⟨_, _, _, _, rfl, mon_app2 _ _ _⟩) | (obtain ⟨_, hq, rfl⟩ := Option.map_eq_some_iff.mp e; first | exact ⟨_, _, _, _, rfl, Nat.le_refl _, id⟩ | exact ⟨_, _, _, _, rfl, mon_put hq⟩ | exact ⟨_, _, _, _, rfl, mon_astI hq⟩ | exact ⟨_, _, _, _, rfl, mon_astL hq⟩ | exact ⟨_, _, _, _, rfl, mon_astR hq⟩) | cases e
  · obtain ⟨⟨hx, hb, hml, hr, hlk⟩, hown, hts, hK, hini, hlaw, hB, hR⟩ := hC
    unfold ac_putI at ea
    split at ea
    · rename_i x a r
      obtain ⟨h1, hg, e1⟩ := Option.map_eq_some_iff.mp ea
      cases e1
      obtain ⟨fs, g1, g2, rfl⟩ := put_inv hg
      obtain ⟨q, rfl⟩ := at_pos hS.2.2.1 g1 (cls_ne hc)
      refine ⟨by rw [List.length_set]; exact Nat.le_refl _, fun _ kk => va_put (ty := .int) (v := ab B b0 (.int x)) hx hb hts hin ty0 hty hnm hown hK.1 hS.2.2.2.1 (ws_D B b0 aC h) hS.2.2.2.2.1 q (ws_get g1) hc k hk (hts _ hl) (fun _ z => z) hfin hfd rfl rfl (by rw [List.length_map]; exact g2) hd (fun H1 locs1 hP1 hD1 hS1 => kk _ _ _ _ (hS.set (c := .inl (ci, fs.set k (.int x))) ?_ hS1))⟩
      show va_P D vwCl ((mm_ws B b0 aC h).set q (B + q, .inr (ci, (fs.set k (.int x)).map (ab B b0)))) H1
      rw [List.map_set]
      exact hP1
    · cases ea
theorem ok_putIN {ci k idx N : Nat} {C : String} {T : u_T} {host : String} (hc : vwCl[ci]? = some (C, T, N)) (hin : ∀ w ∈ u_ws C T N, w ∈ gT) (ty0 : Nat → FieldType) (hty : ∀ k, k < N → parseFieldDescriptor (T k).2.2.1 = some (ty0 k)) (hnm : ∀ a, a < N → ∀ b, b < N → a ≠ b → (T a).2.1 ≠ (T b).2.1) (hk : k < N) (hl : Cond.fieldLinkNest own idx (T k).1 (T k).2.1 (T k).2.2.1 host ∈ nT) (hfin : (T k).2.2.2 = false) (hfd : parseFieldDescriptor (T k).2.2.1 = some .int) (hd : decode cc pc = .ok (.putfield idx, 3)) : mm_okP law scr own cc nL ini rt pc (ac_putI ci k (pc + 3)) := by
  refine ⟨fun L st h o e => ?_, fun D aC B b0 p l e R s m args below meth c Q hC L st h ls H locs cells hS pc' L' st' h' ea => ?_⟩
  · unfold ac_putI at e
    repeat' split at e
    all_goals first | (cases e; exact ⟨_, _, _, _, rfl, Nat.le_refl _, id⟩) | (cases e; exact ⟨_, _, _, _, rfl, mon_app _ _⟩) | (cases e; exact ⟨_, _, _, _, rfl, mon_app2 _ _ _⟩) | (obtain ⟨_, hq, rfl⟩ := Option.map_eq_some_iff.mp e; first | exact ⟨_, _, _, _, rfl, Nat.le_refl _, id⟩ | exact ⟨_, _, _, _, rfl, mon_put hq⟩ | exact ⟨_, _, _, _, rfl, mon_astI hq⟩ | exact ⟨_, _, _, _, rfl, mon_astL hq⟩ | exact ⟨_, _, _, _, rfl, mon_astR hq⟩) | cases e
  · obtain ⟨⟨hx, hb, hml, hr, hlk⟩, hown, hts, hK, hini, hlaw, hB, hR⟩ := hC
    unfold ac_putI at ea
    split at ea
    · rename_i x a r
      obtain ⟨h1, hg, e1⟩ := Option.map_eq_some_iff.mp ea
      cases e1
      obtain ⟨fs, g1, g2, rfl⟩ := put_inv hg
      obtain ⟨q, rfl⟩ := at_pos hS.2.2.1 g1 (cls_ne hc)
      refine ⟨by rw [List.length_set]; exact Nat.le_refl _, fun _ kk => va_putN (ty := .int) (v := ab B b0 (.int x)) hx hb hts hin ty0 hty hnm hown hK.1 hS.2.2.2.1 (ws_D B b0 aC h) hS.2.2.2.2.1 q (ws_get g1) hc k hk (va_Nw.use rfl (hK.2.1 _ hl)) (fun _ z => z) hfin hfd rfl rfl (by rw [List.length_map]; exact g2) hd (fun H1 locs1 hP1 hD1 hS1 => kk _ _ _ _ (hS.set (c := .inl (ci, fs.set k (.int x))) ?_ hS1))⟩
      show va_P D vwCl ((mm_ws B b0 aC h).set q (B + q, .inr (ci, (fs.set k (.int x)).map (ab B b0)))) H1
      rw [List.map_set]
      exact hP1
    · cases ea
theorem ok_putIF {ci k idx N : Nat} {C : String} {T : u_T} (hc : vwCl[ci]? = some (C, T, N)) (hin : ∀ w ∈ u_ws C T N, w ∈ gT) (ty0 : Nat → FieldType) (hty : ∀ k, k < N → parseFieldDescriptor (T k).2.2.1 = some (ty0 k)) (hnm : ∀ a, a < N → ∀ b, b < N → a ≠ b → (T a).2.1 ≠ (T b).2.1) (hk : k < N) (hl : Cond.fieldLink own idx (T k).1 (T k).2.1 (T k).2.2.1 ∈ gT) (hfin : (T k).2.2.2 = true) (hfd : parseFieldDescriptor (T k).2.2.1 = some .int) (hdecl : (T k).1 = own) (hd : decode cc pc = .ok (.putfield idx, 3)) : mm_okP law scr own cc nL true rt pc (ac_putI ci k (pc + 3)) := by
  refine ⟨fun L st h o e => ?_, fun D aC B b0 p l e R s m args below meth c Q hC L st h ls H locs cells hS pc' L' st' h' ea => ?_⟩
  · unfold ac_putI at e
    repeat' split at e
    all_goals first | (cases e; exact ⟨_, _, _, _, rfl, Nat.le_refl _, id⟩) | (cases e; exact ⟨_, _, _, _, rfl, mon_app _ _⟩) | (cases e; exact ⟨_, _, _, _, rfl, mon_app2 _ _ _⟩) | (obtain ⟨_, hq, rfl⟩ := Option.map_eq_some_iff.mp e; first | exact ⟨_, _, _, _, rfl, Nat.le_refl _, id⟩ | exact ⟨_, _, _, _, rfl, mon_put hq⟩ | exact ⟨_, _, _, _, rfl, mon_astI hq⟩ | exact ⟨_, _, _, _, rfl, mon_astL hq⟩ | exact ⟨_, _, _, _, rfl, mon_astR hq⟩) | cases e
  · obtain ⟨⟨hx, hb, hml, hr, hlk⟩, hown, hts, hK, hini, hlaw, hB, hR⟩ := hC
    unfold ac_putI at ea
    split at ea
    · rename_i x a r
      obtain ⟨h1, hg, e1⟩ := Option.map_eq_some_iff.mp ea
      cases e1
      obtain ⟨fs, g1, g2, rfl⟩ := put_inv hg
      obtain ⟨q, rfl⟩ := at_pos hS.2.2.1 g1 (cls_ne hc)
      refine ⟨by rw [List.length_set]; exact Nat.le_refl _, fun _ kk => va_putF (ty := .int) (v := ab B b0 (.int x)) hx hb hts hin ty0 hty hnm hown hK.1 hS.2.2.2.1 (ws_D B b0 aC h) hS.2.2.2.2.1 q (ws_get g1) hc k hk (hts _ hl) (fun _ z => z) hfin (hini rfl) hdecl hfd rfl rfl (by rw [List.length_map]; exact g2) hd (fun H1 locs1 hP1 hD1 hS1 => kk _ _ _ _ (hS.set (c := .inl (ci, fs.set k (.int x))) ?_ hS1))⟩
      show va_P D vwCl ((mm_ws B b0 aC h).set q (B + q, .inr (ci, (fs.set k (.int x)).map (ab B b0)))) H1
      rw [List.map_set]
      exact hP1
    · cases ea
theorem ok_putZ {ci k idx N : Nat} {C : String} {T : u_T} (hc : vwCl[ci]? = some (C, T, N)) (hin : ∀ w ∈ u_ws C T N, w ∈ gT) (ty0 : Nat → FieldType) (hty : ∀ k, k < N → parseFieldDescriptor (T k).2.2.1 = some (ty0 k)) (hnm : ∀ a, a < N → ∀ b, b < N → a ≠ b → (T a).2.1 ≠ (T b).2.1) (hk : k < N) (hl : Cond.fieldLink own idx (T k).1 (T k).2.1 (T k).2.2.1 ∈ gT) (hfin : (T k).2.2.2 = false) (hfd : parseFieldDescriptor (T k).2.2.1 = some .boolean) (hd : decode cc pc = .ok (.putfield idx, 3)) : mm_okP law scr own cc nL ini rt pc (ac_putZ ci k (pc + 3)) := by
  refine ⟨fun L st h o e => ?_, fun D aC B b0 p l e R s m args below meth c Q hC L st h ls H locs cells hS pc' L' st' h' ea => ?_⟩
  · unfold ac_putZ at e
    repeat' split at e
    all_goals first | (cases e; exact ⟨_, _, _, _, rfl, Nat.le_refl _, id⟩) | (cases e; exact ⟨_, _, _, _, rfl, mon_app _ _⟩) | (cases e; exact ⟨_, _, _, _, rfl, mon_app2 _ _ _⟩) | (obtain ⟨_, hq, rfl⟩ := Option.map_eq_some_iff.mp e; first | exact ⟨_, _, _, _, rfl, Nat.le_refl _, id⟩ | exact ⟨_, _, _, _, rfl, mon_put hq⟩ | exact ⟨_, _, _, _, rfl, mon_astI hq⟩ | exact ⟨_, _, _, _, rfl, mon_astL hq⟩ | exact ⟨_, _, _, _, rfl, mon_astR hq⟩) | cases e
  · obtain ⟨⟨hx, hb, hml, hr, hlk⟩, hown, hts, hK, hini, hlaw, hB, hR⟩ := hC
    unfold ac_putZ at ea
    split at ea
    · rename_i x a r
      split at ea
      · rename_i hz
        obtain ⟨h1, hg, e1⟩ := Option.map_eq_some_iff.mp ea
        cases e1
        obtain ⟨fs, g1, g2, rfl⟩ := put_inv hg
        obtain ⟨q, rfl⟩ := at_pos hS.2.2.1 g1 (cls_ne hc)
        refine ⟨by rw [List.length_set]; exact Nat.le_refl _, fun _ kk => va_put (ty := .boolean) (v := ab B b0 (.int x)) hx hb hts hin ty0 hty hnm hown hK.1 hS.2.2.2.1 (ws_D B b0 aC h) hS.2.2.2.2.1 q (ws_get g1) hc k hk (hts _ hl) (fun _ z => z) hfin hfd (by rcases hz with rfl | rfl <;> rfl) (by rcases hz with rfl | rfl <;> rfl) (by rw [List.length_map]; exact g2) hd (fun H1 locs1 hP1 hD1 hS1 => kk _ _ _ _ (hS.set (c := .inl (ci, fs.set k (.int x))) ?_ hS1))⟩
        show va_P D vwCl ((mm_ws B b0 aC h).set q (B + q, .inr (ci, (fs.set k (.int x)).map (ab B b0)))) H1
        rw [List.map_set]
        exact hP1
      · cases ea
    · cases ea
theorem ok_putZN {ci k idx N : Nat} {C : String} {T : u_T} {host : String} (hc : vwCl[ci]? = some (C, T, N)) (hin : ∀ w ∈ u_ws C T N, w ∈ gT) (ty0 : Nat → FieldType) (hty : ∀ k, k < N → parseFieldDescriptor (T k).2.2.1 = some (ty0 k)) (hnm : ∀ a, a < N → ∀ b, b < N → a ≠ b → (T a).2.1 ≠ (T b).2.1) (hk : k < N) (hl : Cond.fieldLinkNest own idx (T k).1 (T k).2.1 (T k).2.2.1 host ∈ nT) (hfin : (T k).2.2.2 = false) (hfd : parseFieldDescriptor (T k).2.2.1 = some .boolean) (hd : decode cc pc = .ok (.putfield idx, 3)) : mm_okP law scr own cc nL ini rt pc (ac_putZ ci k (pc + 3)) := by
  refine ⟨fun L st h o e => ?_, fun D aC B b0 p l e R s m args below meth c Q hC L st h ls H locs cells hS pc' L' st' h' ea => ?_⟩
  · unfold ac_putZ at e
    repeat' split at e
    all_goals first | (cases e; exact ⟨_, _, _, _, rfl, Nat.le_refl _, id⟩) | (cases e; exact ⟨_, _, _, _, rfl, mon_app _ _⟩) | (cases e; exact ⟨_, _, _, _, rfl, mon_app2 _ _ _⟩) | (obtain ⟨_, hq, rfl⟩ := Option.map_eq_some_iff.mp e; first | exact ⟨_, _, _, _, rfl, Nat.le_refl _, id⟩ | exact ⟨_, _, _, _, rfl, mon_put hq⟩ | exact ⟨_, _, _, _, rfl, mon_astI hq⟩ | exact ⟨_, _, _, _, rfl, mon_astL hq⟩ | exact ⟨_, _, _, _, rfl, mon_astR hq⟩) | cases e
  · obtain ⟨⟨hx, hb, hml, hr, hlk⟩, hown, hts, hK, hini, hlaw, hB, hR⟩ := hC
    unfold ac_putZ at ea
    split at ea
    · rename_i x a r
      split at ea
      · rename_i hz
        obtain ⟨h1, hg, e1⟩ := Option.map_eq_some_iff.mp ea
        cases e1
        obtain ⟨fs, g1, g2, rfl⟩ := put_inv hg
        obtain ⟨q, rfl⟩ := at_pos hS.2.2.1 g1 (cls_ne hc)
        refine ⟨by rw [List.length_set]; exact Nat.le_refl _, fun _ kk => va_putN (ty := .boolean) (v := ab B b0 (.int x)) hx hb hts hin ty0 hty hnm hown hK.1 hS.2.2.2.1 (ws_D B b0 aC h) hS.2.2.2.2.1 q (ws_get g1) hc k hk (va_Nw.use rfl (hK.2.1 _ hl)) (fun _ z => z) hfin hfd (by rcases hz with rfl | rfl <;> rfl) (by rcases hz with rfl | rfl <;> rfl) (by rw [List.length_map]; exact g2) hd (fun H1 locs1 hP1 hD1 hS1 => kk _ _ _ _ (hS.set (c := .inl (ci, fs.set k (.int x))) ?_ hS1))⟩
        show va_P D vwCl ((mm_ws B b0 aC h).set q (B + q, .inr (ci, (fs.set k (.int x)).map (ab B b0)))) H1
        rw [List.map_set]
        exact hP1
      · cases ea
    · cases ea
theorem ok_putZF {ci k idx N : Nat} {C : String} {T : u_T} (hc : vwCl[ci]? = some (C, T, N)) (hin : ∀ w ∈ u_ws C T N, w ∈ gT) (ty0 : Nat → FieldType) (hty : ∀ k, k < N → parseFieldDescriptor (T k).2.2.1 = some (ty0 k)) (hnm : ∀ a, a < N → ∀ b, b < N → a ≠ b → (T a).2.1 ≠ (T b).2.1) (hk : k < N) (hl : Cond.fieldLink own idx (T k).1 (T k).2.1 (T k).2.2.1 ∈ gT) (hfin : (T k).2.2.2 = true) (hfd : parseFieldDescriptor (T k).2.2.1 = some .boolean) (hdecl : (T k).1 = own) (hd : decode cc pc = .ok (.putfield idx, 3)) : mm_okP law scr own cc nL true rt pc (ac_putZ ci k (pc + 3)) := by
  refine ⟨fun L st h o e => ?_, fun D aC B b0 p l e R s m args below meth c Q hC L st h ls H locs cells hS pc' L' st' h' ea => ?_⟩
  · unfold ac_putZ at e
    repeat' split at e
    all_goals first | (cases e; exact ⟨_, _, _, _, rfl, Nat.le_refl _, id⟩) | (cases e; exact ⟨_, _, _, _, rfl, mon_app _ _⟩) | (cases e; exact ⟨_, _, _, _, rfl, mon_app2 _ _ _⟩) | (obtain ⟨_, hq, rfl⟩ := Option.map_eq_some_iff.mp e; first | exact ⟨_, _, _, _, rfl, Nat.le_refl _, id⟩ | exact ⟨_, _, _, _, rfl, mon_put hq⟩ | exact ⟨_, _, _, _, rfl, mon_astI hq⟩ | exact ⟨_, _, _, _, rfl, mon_astL hq⟩ | exact ⟨_, _, _, _, rfl, mon_astR hq⟩) | cases e
  · obtain ⟨⟨hx, hb, hml, hr, hlk⟩, hown, hts, hK, hini, hlaw, hB, hR⟩ := hC
    unfold ac_putZ at ea
    split at ea
    · rename_i x a r
      split at ea
      · rename_i hz
        obtain ⟨h1, hg, e1⟩ := Option.map_eq_some_iff.mp ea
        cases e1
        obtain ⟨fs, g1, g2, rfl⟩ := put_inv hg
        obtain ⟨q, rfl⟩ := at_pos hS.2.2.1 g1 (cls_ne hc)
        refine ⟨by rw [List.length_set]; exact Nat.le_refl _, fun _ kk => va_putF (ty := .boolean) (v := ab B b0 (.int x)) hx hb hts hin ty0 hty hnm hown hK.1 hS.2.2.2.1 (ws_D B b0 aC h) hS.2.2.2.2.1 q (ws_get g1) hc k hk (hts _ hl) (fun _ z => z) hfin (hini rfl) hdecl hfd (by rcases hz with rfl | rfl <;> rfl) (by rcases hz with rfl | rfl <;> rfl) (by rw [List.length_map]; exact g2) hd (fun H1 locs1 hP1 hD1 hS1 => kk _ _ _ _ (hS.set (c := .inl (ci, fs.set k (.int x))) ?_ hS1))⟩
        show va_P D vwCl ((mm_ws B b0 aC h).set q (B + q, .inr (ci, (fs.set k (.int x)).map (ab B b0)))) H1
        rw [List.map_set]
        exact hP1
      · cases ea
    · cases ea
theorem ok_putL {ci k idx N : Nat} {C : String} {T : u_T} (hc : vwCl[ci]? = some (C, T, N)) (hin : ∀ w ∈ u_ws C T N, w ∈ gT) (ty0 : Nat → FieldType) (hty : ∀ k, k < N → parseFieldDescriptor (T k).2.2.1 = some (ty0 k)) (hnm : ∀ a, a < N → ∀ b, b < N → a ≠ b → (T a).2.1 ≠ (T b).2.1) (hk : k < N) (hl : Cond.fieldLink own idx (T k).1 (T k).2.1 (T k).2.2.1 ∈ gT) (hfin : (T k).2.2.2 = false) (hfd : parseFieldDescriptor (T k).2.2.1 = some .long) (hd : decode cc pc = .ok (.putfield idx, 3)) : mm_okP law scr own cc nL ini rt pc (ac_putL ci k (pc + 3)) := by
  refine ⟨fun L st h o e => ?_, fun D aC B b0 p l e R s m args below meth c Q hC L st h ls H locs cells hS pc' L' st' h' ea => ?_⟩
  · unfold ac_putL at e
    repeat' split at e
    all_goals first | (cases e; exact ⟨_, _, _, _, rfl, Nat.le_refl _, id⟩) | (cases e; exact ⟨_, _, _, _, rfl, mon_app _ _⟩) | (cases e; exact ⟨_, _, _, _, rfl, mon_app2 _ _ _⟩) | (obtain ⟨_, hq, rfl⟩ := Option.map_eq_some_iff.mp e; first | exact ⟨_, _, _, _, rfl, Nat.le_refl _, id⟩ | exact ⟨_, _, _, _, rfl, mon_put hq⟩ | exact ⟨_, _, _, _, rfl, mon_astI hq⟩ | exact ⟨_, _, _, _, rfl, mon_astL hq⟩ | exact ⟨_, _, _, _, rfl, mon_astR hq⟩) | cases e
  · obtain ⟨⟨hx, hb, hml, hr, hlk⟩, hown, hts, hK, hini, hlaw, hB, hR⟩ := hC
    unfold ac_putL at ea
    split at ea
    · rename_i x a r
      obtain ⟨h1, hg, e1⟩ := Option.map_eq_some_iff.mp ea
      cases e1
      obtain ⟨fs, g1, g2, rfl⟩ := put_inv hg
      obtain ⟨q, rfl⟩ := at_pos hS.2.2.1 g1 (cls_ne hc)
      refine ⟨by rw [List.length_set]; exact Nat.le_refl _, fun _ kk => va_put (ty := .long) (v := ab B b0 (.long x)) hx hb hts hin ty0 hty hnm hown hK.1 hS.2.2.2.1 (ws_D B b0 aC h) hS.2.2.2.2.1 q (ws_get g1) hc k hk (hts _ hl) (fun _ z => z) hfin hfd rfl rfl (by rw [List.length_map]; exact g2) hd (fun H1 locs1 hP1 hD1 hS1 => kk _ _ _ _ (hS.set (c := .inl (ci, fs.set k (.long x))) ?_ hS1))⟩
      show va_P D vwCl ((mm_ws B b0 aC h).set q (B + q, .inr (ci, (fs.set k (.long x)).map (ab B b0)))) H1
      rw [List.map_set]
      exact hP1
    · cases ea
theorem ok_putLN {ci k idx N : Nat} {C : String} {T : u_T} {host : String} (hc : vwCl[ci]? = some (C, T, N)) (hin : ∀ w ∈ u_ws C T N, w ∈ gT) (ty0 : Nat → FieldType) (hty : ∀ k, k < N → parseFieldDescriptor (T k).2.2.1 = some (ty0 k)) (hnm : ∀ a, a < N → ∀ b, b < N → a ≠ b → (T a).2.1 ≠ (T b).2.1) (hk : k < N) (hl : Cond.fieldLinkNest own idx (T k).1 (T k).2.1 (T k).2.2.1 host ∈ nT) (hfin : (T k).2.2.2 = false) (hfd : parseFieldDescriptor (T k).2.2.1 = some .long) (hd : decode cc pc = .ok (.putfield idx, 3)) : mm_okP law scr own cc nL ini rt pc (ac_putL ci k (pc + 3)) := by
  refine ⟨fun L st h o e => ?_, fun D aC B b0 p l e R s m args below meth c Q hC L st h ls H locs cells hS pc' L' st' h' ea => ?_⟩
  · unfold ac_putL at e
    repeat' split at e
    all_goals first | (cases e; exact ⟨_, _, _, _, rfl, Nat.le_refl _, id⟩) | (cases e; exact ⟨_, _, _, _, rfl, mon_app _ _⟩) | (cases e; exact ⟨_, _, _, _, rfl, mon_app2 _ _ _⟩) | (obtain ⟨_, hq, rfl⟩ := Option.map_eq_some_iff.mp e; first | exact ⟨_, _, _, _, rfl, Nat.le_refl _, id⟩ | exact ⟨_, _, _, _, rfl, mon_put hq⟩ | exact ⟨_, _, _, _, rfl, mon_astI hq⟩ | exact ⟨_, _, _, _, rfl, mon_astL hq⟩ | exact ⟨_, _, _, _, rfl, mon_astR hq⟩) | cases e
  · obtain ⟨⟨hx, hb, hml, hr, hlk⟩, hown, hts, hK, hini, hlaw, hB, hR⟩ := hC
    unfold ac_putL at ea
    split at ea
    · rename_i x a r
      obtain ⟨h1, hg, e1⟩ := Option.map_eq_some_iff.mp ea
      cases e1
      obtain ⟨fs, g1, g2, rfl⟩ := put_inv hg
      obtain ⟨q, rfl⟩ := at_pos hS.2.2.1 g1 (cls_ne hc)
      refine ⟨by rw [List.length_set]; exact Nat.le_refl _, fun _ kk => va_putN (ty := .long) (v := ab B b0 (.long x)) hx hb hts hin ty0 hty hnm hown hK.1 hS.2.2.2.1 (ws_D B b0 aC h) hS.2.2.2.2.1 q (ws_get g1) hc k hk (va_Nw.use rfl (hK.2.1 _ hl)) (fun _ z => z) hfin hfd rfl rfl (by rw [List.length_map]; exact g2) hd (fun H1 locs1 hP1 hD1 hS1 => kk _ _ _ _ (hS.set (c := .inl (ci, fs.set k (.long x))) ?_ hS1))⟩
      show va_P D vwCl ((mm_ws B b0 aC h).set q (B + q, .inr (ci, (fs.set k (.long x)).map (ab B b0)))) H1
      rw [List.map_set]
      exact hP1
    · cases ea
theorem ok_putLF {ci k idx N : Nat} {C : String} {T : u_T} (hc : vwCl[ci]? = some (C, T, N)) (hin : ∀ w ∈ u_ws C T N, w ∈ gT) (ty0 : Nat → FieldType) (hty : ∀ k, k < N → parseFieldDescriptor (T k).2.2.1 = some (ty0 k)) (hnm : ∀ a, a < N → ∀ b, b < N → a ≠ b → (T a).2.1 ≠ (T b).2.1) (hk : k < N) (hl : Cond.fieldLink own idx (T k).1 (T k).2.1 (T k).2.2.1 ∈ gT) (hfin : (T k).2.2.2 = true) (hfd : parseFieldDescriptor (T k).2.2.1 = some .long) (hdecl : (T k).1 = own) (hd : decode cc pc = .ok (.putfield idx, 3)) : mm_okP law scr own cc nL true rt pc (ac_putL ci k (pc + 3)) := by
  refine ⟨fun L st h o e => ?_, fun D aC B b0 p l e R s m args below meth c Q hC L st h ls H locs cells hS pc' L' st' h' ea => ?_⟩
  · unfold ac_putL at e
    repeat' split at e
    all_goals first | (cases e; exact ⟨_, _, _, _, rfl, Nat.le_refl _, id⟩) | (cases e; exact ⟨_, _, _, _, rfl, mon_app _ _⟩) | (cases e; exact ⟨_, _, _, _, rfl, mon_app2 _ _ _⟩) | (obtain ⟨_, hq, rfl⟩ := Option.map_eq_some_iff.mp e; first | exact ⟨_, _, _, _, rfl, Nat.le_refl _, id⟩ | exact ⟨_, _, _, _, rfl, mon_put hq⟩ | exact ⟨_, _, _, _, rfl, mon_astI hq⟩ | exact ⟨_, _, _, _, rfl, mon_astL hq⟩ | exact ⟨_, _, _, _, rfl, mon_astR hq⟩) | cases e
  · obtain ⟨⟨hx, hb, hml, hr, hlk⟩, hown, hts, hK, hini, hlaw, hB, hR⟩ := hC
    unfold ac_putL at ea
    split at ea
    · rename_i x a r
      obtain ⟨h1, hg, e1⟩ := Option.map_eq_some_iff.mp ea
      cases e1
      obtain ⟨fs, g1, g2, rfl⟩ := put_inv hg
      obtain ⟨q, rfl⟩ := at_pos hS.2.2.1 g1 (cls_ne hc)
      refine ⟨by rw [List.length_set]; exact Nat.le_refl _, fun _ kk => va_putF (ty := .long) (v := ab B b0 (.long x)) hx hb hts hin ty0 hty hnm hown hK.1 hS.2.2.2.1 (ws_D B b0 aC h) hS.2.2.2.2.1 q (ws_get g1) hc k hk (hts _ hl) (fun _ z => z) hfin (hini rfl) hdecl hfd rfl rfl (by rw [List.length_map]; exact g2) hd (fun H1 locs1 hP1 hD1 hS1 => kk _ _ _ _ (hS.set (c := .inl (ci, fs.set k (.long x))) ?_ hS1))⟩
      show va_P D vwCl ((mm_ws B b0 aC h).set q (B + q, .inr (ci, (fs.set k (.long x)).map (ab B b0)))) H1
      rw [List.map_set]
      exact hP1
    · cases ea
theorem ok_putR {ci k idx N : Nat} {C : String} {T : u_T} (hc : vwCl[ci]? = some (C, T, N)) (hin : ∀ w ∈ u_ws C T N, w ∈ gT) (ty0 : Nat → FieldType) (hty : ∀ k, k < N → parseFieldDescriptor (T k).2.2.1 = some (ty0 k)) (hnm : ∀ a, a < N → ∀ b, b < N → a ≠ b → (T a).2.1 ≠ (T b).2.1) (hk : k < N) (hl : Cond.fieldLink own idx (T k).1 (T k).2.1 (T k).2.2.1 ∈ gT) (hfin : (T k).2.2.2 = false) {fty : FieldType} (hfd : parseFieldDescriptor (T k).2.2.1 = some fty) (href : (∃ n, fty = .object n) ∨ ∃ t, fty = .array t) (hd : decode cc pc = .ok (.putfield idx, 3)) : mm_okP law scr own cc nL ini rt pc (ac_putR ci k (pc + 3)) := by
  refine ⟨fun L st h o e => ?_, fun D aC B b0 p l e R s m args below meth c Q hC L st h ls H locs cells hS pc' L' st' h' ea => ?_⟩
  · unfold ac_putR at e
    repeat' split at e
    all_goals first | (cases e; exact ⟨_, _, _, _, rfl, Nat.le_refl _, id⟩) | (cases e; exact ⟨_, _, _, _, rfl, mon_app _ _⟩) | (cases e; exact ⟨_, _, _, _, rfl, mon_app2 _ _ _⟩) | (obtain ⟨_, hq, rfl⟩ := Option.map_eq_some_iff.mp e; first | exact ⟨_, _, _, _, rfl, Nat.le_refl _, id⟩ | exact ⟨_, _, _, _, rfl, mon_put hq⟩ | exact ⟨_, _, _, _, rfl, mon_astI hq⟩ | exact ⟨_, _, _, _, rfl, mon_astL hq⟩ | exact ⟨_, _, _, _, rfl, mon_astR hq⟩) | cases e
  · obtain ⟨⟨hx, hb, hml, hr, hlk⟩, hown, hts, hK, hini, hlaw, hB, hR⟩ := hC
    unfold ac_putR at ea
    split at ea
    · rename_i x a r
      obtain ⟨h1, hg, e1⟩ := Option.map_eq_some_iff.mp ea
      cases e1
      obtain ⟨fs, g1, g2, rfl⟩ := put_inv hg
      obtain ⟨q, rfl⟩ := at_pos hS.2.2.1 g1 (cls_ne hc)
      refine ⟨by rw [List.length_set]; exact Nat.le_refl _, fun _ kk => va_put (ty := fty) (v := ab B b0 (.ref x)) hx hb hts hin ty0 hty hnm hown hK.1 hS.2.2.2.1 (ws_D B b0 aC h) hS.2.2.2.2.1 q (ws_get g1) hc k hk (hts _ hl) (fun _ z => z) hfin hfd (by rcases href with ⟨n, rfl⟩ | ⟨t, rfl⟩ <;> rfl) (by rcases href with ⟨n, rfl⟩ | ⟨t, rfl⟩ <;> rfl) (by rw [List.length_map]; exact g2) hd (fun H1 locs1 hP1 hD1 hS1 => kk _ _ _ _ (hS.set (c := .inl (ci, fs.set k (.ref x))) ?_ hS1))⟩
      show va_P D vwCl ((mm_ws B b0 aC h).set q (B + q, .inr (ci, (fs.set k (.ref x)).map (ab B b0)))) H1
      rw [List.map_set]
      exact hP1
    · cases ea
theorem ok_putRF {ci k idx N : Nat} {C : String} {T : u_T} (hc : vwCl[ci]? = some (C, T, N)) (hin : ∀ w ∈ u_ws C T N, w ∈ gT) (ty0 : Nat → FieldType) (hty : ∀ k, k < N → parseFieldDescriptor (T k).2.2.1 = some (ty0 k)) (hnm : ∀ a, a < N → ∀ b, b < N → a ≠ b → (T a).2.1 ≠ (T b).2.1) (hk : k < N) (hl : Cond.fieldLink own idx (T k).1 (T k).2.1 (T k).2.2.1 ∈ gT) (hfin : (T k).2.2.2 = true) {fty : FieldType} (hfd : parseFieldDescriptor (T k).2.2.1 = some fty) (href : (∃ n, fty = .object n) ∨ ∃ t, fty = .array t) (hdecl : (T k).1 = own) (hd : decode cc pc = .ok (.putfield idx, 3)) : mm_okP law scr own cc nL true rt pc (ac_putR ci k (pc + 3)) := by
  refine ⟨fun L st h o e => ?_, fun D aC B b0 p l e R s m args below meth c Q hC L st h ls H locs cells hS pc' L' st' h' ea => ?_⟩
  · unfold ac_putR at e
    repeat' split at e
    all_goals first | (cases e; exact ⟨_, _, _, _, rfl, Nat.le_refl _, id⟩) | (cases e; exact ⟨_, _, _, _, rfl, mon_app _ _⟩) | (cases e; exact ⟨_, _, _, _, rfl, mon_app2 _ _ _⟩) | (obtain ⟨_, hq, rfl⟩ := Option.map_eq_some_iff.mp e; first | exact ⟨_, _, _, _, rfl, Nat.le_refl _, id⟩ | exact ⟨_, _, _, _, rfl, mon_put hq⟩ | exact ⟨_, _, _, _, rfl, mon_astI hq⟩ | exact ⟨_, _, _, _, rfl, mon_astL hq⟩ | exact ⟨_, _, _, _, rfl, mon_astR hq⟩) | cases e
  · obtain ⟨⟨hx, hb, hml, hr, hlk⟩, hown, hts, hK, hini, hlaw, hB, hR⟩ := hC
    unfold ac_putR at ea
    split at ea
    · rename_i x a r
      obtain ⟨h1, hg, e1⟩ := Option.map_eq_some_iff.mp ea
      cases e1
      obtain ⟨fs, g1, g2, rfl⟩ := put_inv hg
      obtain ⟨q, rfl⟩ := at_pos hS.2.2.1 g1 (cls_ne hc)
      refine ⟨by rw [List.length_set]; exact Nat.le_refl _, fun _ kk => va_putF (ty := fty) (v := ab B b0 (.ref x)) hx hb hts hin ty0 hty hnm hown hK.1 hS.2.2.2.1 (ws_D B b0 aC h) hS.2.2.2.2.1 q (ws_get g1) hc k hk (hts _ hl) (fun _ z => z) hfin (hini rfl) hdecl hfd (by rcases href with ⟨n, rfl⟩ | ⟨t, rfl⟩ <;> rfl) (by rcases href with ⟨n, rfl⟩ | ⟨t, rfl⟩ <;> rfl) (by rw [List.length_map]; exact g2) hd (fun H1 locs1 hP1 hD1 hS1 => kk _ _ _ _ (hS.set (c := .inl (ci, fs.set k (.ref x))) ?_ hS1))⟩
      show va_P D vwCl ((mm_ws B b0 aC h).set q (B + q, .inr (ci, (fs.set k (.ref x)).map (ab B b0)))) H1
      rw [List.map_set]
      exact hP1
    · cases ea
theorem ok_iald (hd : decode cc pc = .ok (.iaload, 1)) : mm_okP law scr own cc nL ini rt pc (ac_aldI 0 (pc + 1)) := by
  refine ⟨fun L st h o e => ?_, fun D aC B b0 p l e R s m args below meth c Q hC L st h ls H locs cells hS pc' L' st' h' ea => ?_⟩
  · unfold ac_aldI at e
    repeat' split at e
    all_goals first | (cases e; exact ⟨_, _, _, _, rfl, Nat.le_refl _, id⟩) | (cases e; exact ⟨_, _, _, _, rfl, mon_app _ _⟩) | (cases e; exact ⟨_, _, _, _, rfl, mon_app2 _ _ _⟩) | (obtain ⟨_, hq, rfl⟩ := Option.map_eq_some_iff.mp e; first | exact ⟨_, _, _, _, rfl, Nat.le_refl _, id⟩ | exact ⟨_, _, _, _, rfl, mon_put hq⟩ | exact ⟨_, _, _, _, rfl, mon_astI hq⟩ | exact ⟨_, _, _, _, rfl, mon_astL hq⟩ | exact ⟨_, _, _, _, rfl, mon_astR hq⟩) | cases e
  · obtain ⟨⟨hx, hb, hml, hr, hlk⟩, hown, hts, hK, hini, hlaw, hB, hR⟩ := hC
    unfold ac_aldI at ea
    split at ea
    · rename_i i a r
      obtain ⟨x, hg, e1⟩ := Option.map_eq_some_iff.mp ea
      cases e1
      obtain ⟨l1, g1, g2, g3⟩ := aldI_inv hg
      obtain ⟨q, rfl⟩ := at_pos hS.2.2.1 g1 (fun z => by cases z)
      refine ⟨Nat.le_refl _, fun _ kk => va_iald hx hb hK.1 hS.2.2.2.1 q 0 (ws_get g1) rfl (in_of g2 (List.getElem?_eq_some_iff.mp g3).1) hd ?_⟩
      show W p l e R s m args below meth c H locs cells (400 * cells) Q (F0 m (pc + 1) ls (.int (l1.getD i.toNatClampNeg 0) :: r.map (ab B b0)))
      rw [List.getD_eq_getElem?_getD, g3]
      exact kk _ _ _ _ hS
    · cases ea
theorem ok_zald (hd : decode cc pc = .ok (.baload, 1)) : mm_okP law scr own cc nL ini rt pc (ac_aldI 1 (pc + 1)) := by
  refine ⟨fun L st h o e => ?_, fun D aC B b0 p l e R s m args below meth c Q hC L st h ls H locs cells hS pc' L' st' h' ea => ?_⟩
  · unfold ac_aldI at e
    repeat' split at e
    all_goals first | (cases e; exact ⟨_, _, _, _, rfl, Nat.le_refl _, id⟩) | (cases e; exact ⟨_, _, _, _, rfl, mon_app _ _⟩) | (cases e; exact ⟨_, _, _, _, rfl, mon_app2 _ _ _⟩) | (obtain ⟨_, hq, rfl⟩ := Option.map_eq_some_iff.mp e; first | exact ⟨_, _, _, _, rfl, Nat.le_refl _, id⟩ | exact ⟨_, _, _, _, rfl, mon_put hq⟩ | exact ⟨_, _, _, _, rfl, mon_astI hq⟩ | exact ⟨_, _, _, _, rfl, mon_astL hq⟩ | exact ⟨_, _, _, _, rfl, mon_astR hq⟩) | cases e
  · obtain ⟨⟨hx, hb, hml, hr, hlk⟩, hown, hts, hK, hini, hlaw, hB, hR⟩ := hC
    unfold ac_aldI at ea
    split at ea
    · rename_i i a r
      obtain ⟨x, hg, e1⟩ := Option.map_eq_some_iff.mp ea
      cases e1
      obtain ⟨l1, g1, g2, g3⟩ := aldI_inv hg
      obtain ⟨q, rfl⟩ := at_pos hS.2.2.1 g1 (fun z => by cases z)
      refine ⟨Nat.le_refl _, fun _ kk => va_zald hx hb hK.1 hS.2.2.2.1 q 1 (ws_get g1) rfl (in_of g2 (List.getElem?_eq_some_iff.mp g3).1) hd ?_⟩
      show W p l e R s m args below meth c H locs cells (400 * cells) Q (F0 m (pc + 1) ls (.int (l1.getD i.toNatClampNeg 0) :: r.map (ab B b0)))
      rw [List.getD_eq_getElem?_getD, g3]
      exact kk _ _ _ _ hS
    · cases ea
theorem ok_lald (hd : decode cc pc = .ok (.laload, 1)) : mm_okP law scr own cc nL ini rt pc (ac_aldL (pc + 1)) := by
  refine ⟨fun L st h o e => ?_, fun D aC B b0 p l e R s m args below meth c Q hC L st h ls H locs cells hS pc' L' st' h' ea => ?_⟩
  · unfold ac_aldL at e
    repeat' split at e
    all_goals first | (cases e; exact ⟨_, _, _, _, rfl, Nat.le_refl _, id⟩) | (cases e; exact ⟨_, _, _, _, rfl, mon_app _ _⟩) | (cases e; exact ⟨_, _, _, _, rfl, mon_app2 _ _ _⟩) | (obtain ⟨_, hq, rfl⟩ := Option.map_eq_some_iff.mp e; first | exact ⟨_, _, _, _, rfl, Nat.le_refl _, id⟩ | exact ⟨_, _, _, _, rfl, mon_put hq⟩ | exact ⟨_, _, _, _, rfl, mon_astI hq⟩ | exact ⟨_, _, _, _, rfl, mon_astL hq⟩ | exact ⟨_, _, _, _, rfl, mon_astR hq⟩) | cases e
  · obtain ⟨⟨hx, hb, hml, hr, hlk⟩, hown, hts, hK, hini, hlaw, hB, hR⟩ := hC
    unfold ac_aldL at ea
    split at ea
    · rename_i i a r
      obtain ⟨x, hg, e1⟩ := Option.map_eq_some_iff.mp ea
      cases e1
      obtain ⟨l1, g1, g2, g3⟩ := aldL_inv hg
      obtain ⟨q, rfl⟩ := at_pos hS.2.2.1 g1 (fun z => by cases z)
      refine ⟨Nat.le_refl _, fun _ kk => va_lald hx hb hK.1 hS.2.2.2.1 q 2 (ws_get g1) rfl (in_of g2 (List.getElem?_eq_some_iff.mp g3).1) hd ?_⟩
      show W p l e R s m args below meth c H locs cells (400 * cells) Q (F0 m (pc + 1) ls (.long (l1.getD i.toNatClampNeg 0) :: r.map (ab B b0)))
      rw [List.getD_eq_getElem?_getD, g3]
      exact kk _ _ _ _ hS
    · cases ea
theorem ok_aald {tag : Nat} {ty : FieldType} (hty : ∀ aC, (mm_tys aC)[tag]? = some (aC tag, ty)) (href : ty.isReference = true) (hd : decode cc pc = .ok (.aaload, 1)) : mm_okP law scr own cc nL ini rt pc (ac_aldR tag (pc + 1)) := by
  refine ⟨fun L st h o e => ?_, fun D aC B b0 p l e R s m args below meth c Q hC L st h ls H locs cells hS pc' L' st' h' ea => ?_⟩
  · unfold ac_aldR at e
    repeat' split at e
    all_goals first | (cases e; exact ⟨_, _, _, _, rfl, Nat.le_refl _, id⟩) | (cases e; exact ⟨_, _, _, _, rfl, mon_app _ _⟩) | (cases e; exact ⟨_, _, _, _, rfl, mon_app2 _ _ _⟩) | (obtain ⟨_, hq, rfl⟩ := Option.map_eq_some_iff.mp e; first | exact ⟨_, _, _, _, rfl, Nat.le_refl _, id⟩ | exact ⟨_, _, _, _, rfl, mon_put hq⟩ | exact ⟨_, _, _, _, rfl, mon_astI hq⟩ | exact ⟨_, _, _, _, rfl, mon_astL hq⟩ | exact ⟨_, _, _, _, rfl, mon_astR hq⟩) | cases e
  · obtain ⟨⟨hx, hb, hml, hr, hlk⟩, hown, hts, hK, hini, hlaw, hB, hR⟩ := hC
    unfold ac_aldR at ea
    split at ea
    · rename_i i a r
      obtain ⟨x, hg, e1⟩ := Option.map_eq_some_iff.mp ea
      cases e1
      obtain ⟨l1, g1, g2, g3⟩ := aldR_inv hg
      obtain ⟨q, rfl⟩ := at_pos hS.2.2.1 g1 (fun z => by cases z)
      have hlt := (List.getElem?_eq_some_iff.mp g3).1
      have hcell : H[B + q]? = some (vp_cell (aC tag) (l1.length, .inr (.inr (.inr (.inr (fun i => (l1.getD i none).map (adr B b0))))))) := hS.2.2.2.1 q _ (ws_get g1)
      refine ⟨Nat.le_refl _, fun _ kk => W.aald (v := ab B b0 (.ref x)) (ty := ty) hx hb hcell ((hK.1.2 tag _ (hty aC)).1 l1.length (fun j => va_rf ((l1.getD j none).map (adr B b0)))) href (fun z => by cases z) (by show ¬ (i < 0 ∨ (arrV _ _ _).slots.size ≤ _); rw [arrV_size]; exact in_of g2 hlt) ?_ rfl rfl hd (kk _ _ _ _ hS)⟩
      show (arrV _ _ _).slots[_]? = _
      rw [arrV_read _ _ hlt]
      show some (va_rf ((l1.getD i.toNatClampNeg none).map (adr B b0))) = _
      rw [List.getD_eq_getElem?_getD, g3]
      rfl
    · cases ea
theorem ok_iast (hd : decode cc pc = .ok (.iastore, 1)) : mm_okP law scr own cc nL ini rt pc (ac_astI (pc + 1)) := by
  refine ⟨fun L st h o e => ?_, fun D aC B b0 p l e R s m args below meth c Q hC L st h ls H locs cells hS pc' L' st' h' ea => ?_⟩
  · unfold ac_astI at e
    repeat' split at e
    all_goals first | (cases e; exact ⟨_, _, _, _, rfl, Nat.le_refl _, id⟩) | (cases e; exact ⟨_, _, _, _, rfl, mon_app _ _⟩) | (cases e; exact ⟨_, _, _, _, rfl, mon_app2 _ _ _⟩) | (obtain ⟨_, hq, rfl⟩ := Option.map_eq_some_iff.mp e; first | exact ⟨_, _, _, _, rfl, Nat.le_refl _, id⟩ | exact ⟨_, _, _, _, rfl, mon_put hq⟩ | exact ⟨_, _, _, _, rfl, mon_astI hq⟩ | exact ⟨_, _, _, _, rfl, mon_astL hq⟩ | exact ⟨_, _, _, _, rfl, mon_astR hq⟩) | cases e
  · obtain ⟨⟨hx, hb, hml, hr, hlk⟩, hown, hts, hK, hini, hlaw, hB, hR⟩ := hC
    unfold ac_astI at ea
    split at ea
    · rename_i x i a r
      obtain ⟨h1, hg, e1⟩ := Option.map_eq_some_iff.mp ea
      cases e1
      obtain ⟨l1, g1, g2, g3, rfl⟩ := astI_inv hg
      obtain ⟨q, rfl⟩ := at_pos hS.2.2.1 g1 (fun z => by cases z)
      refine ⟨by rw [List.length_set]; exact Nat.le_refl _, fun _ kk => va_iast hx hb hK.1 hS.2.2.2.1 (ws_D B b0 aC h) hS.2.2.2.2.1 q 0 (ws_get g1) rfl (in_of g2 g3) hd (fun H1 locs1 hP1 hD1 hS1 => kk _ _ _ _ (hS.set (c := .inr (.inl (0, l1.set i.toNatClampNeg x))) ?_ hS1))⟩
      show va_P D vwCl ((mm_ws B b0 aC h).set q (B + q, .inl (aC 0, (l1.set i.toNatClampNeg x).length, .inl (fun j => (l1.set i.toNatClampNeg x).getD j 0)))) H1
      rw [← upd_setI g3, List.length_set]
      exact hP1
    · cases ea
theorem ok_zast (hd : decode cc pc = .ok (.bastore, 1)) : mm_okP law scr own cc nL ini rt pc (ac_astZ (pc + 1)) := by
  refine ⟨fun L st h o e => ?_, fun D aC B b0 p l e R s m args below meth c Q hC L st h ls H locs cells hS pc' L' st' h' ea => ?_⟩
  · unfold ac_astZ at e
    repeat' split at e
    all_goals first | (cases e; exact ⟨_, _, _, _, rfl, Nat.le_refl _, id⟩) | (cases e; exact ⟨_, _, _, _, rfl, mon_app _ _⟩) | (cases e; exact ⟨_, _, _, _, rfl, mon_app2 _ _ _⟩) | (obtain ⟨_, hq, rfl⟩ := Option.map_eq_some_iff.mp e; first | exact ⟨_, _, _, _, rfl, Nat.le_refl _, id⟩ | exact ⟨_, _, _, _, rfl, mon_put hq⟩ | exact ⟨_, _, _, _, rfl, mon_astI hq⟩ | exact ⟨_, _, _, _, rfl, mon_astL hq⟩ | exact ⟨_, _, _, _, rfl, mon_astR hq⟩) | cases e
  · obtain ⟨⟨hx, hb, hml, hr, hlk⟩, hown, hts, hK, hini, hlaw, hB, hR⟩ := hC
    unfold ac_astZ at ea
    split at ea
    · rename_i x i a r
      split at ea
      · rename_i hz
        obtain ⟨h1, hg, e1⟩ := Option.map_eq_some_iff.mp ea
        cases e1
        obtain ⟨l1, g1, g2, g3, rfl⟩ := astI_inv hg
        obtain ⟨q, rfl⟩ := at_pos hS.2.2.1 g1 (fun z => by cases z)
        refine ⟨by rw [List.length_set]; exact Nat.le_refl _, fun _ kk => va_zast hx hb hK.1 hS.2.2.2.1 (ws_D B b0 aC h) hS.2.2.2.2.1 q 1 (ws_get g1) rfl (in_of g2 g3) hd (fun H1 locs1 hP1 hD1 hS1 => kk _ _ _ _ (hS.set (c := .inr (.inl (1, l1.set i.toNatClampNeg x))) ?_ hS1))⟩
        show va_P D vwCl ((mm_ws B b0 aC h).set q (B + q, .inl (aC 1, (l1.set i.toNatClampNeg x).length, .inl (fun j => (l1.set i.toNatClampNeg x).getD j 0)))) H1
        rw [← upd_setI g3, List.length_set]
        have hnz : vp_nar .boolean x = x := by rcases hz with rfl | rfl <;> rfl
        rw [hnz] at hP1
        exact hP1
      · cases ea
    · cases ea
theorem ok_last (hd : decode cc pc = .ok (.lastore, 1)) : mm_okP law scr own cc nL ini rt pc (ac_astL (pc + 1)) := by
  refine ⟨fun L st h o e => ?_, fun D aC B b0 p l e R s m args below meth c Q hC L st h ls H locs cells hS pc' L' st' h' ea => ?_⟩
  · unfold ac_astL at e
    repeat' split at e
    all_goals first | (cases e; exact ⟨_, _, _, _, rfl, Nat.le_refl _, id⟩) | (cases e; exact ⟨_, _, _, _, rfl, mon_app _ _⟩) | (cases e; exact ⟨_, _, _, _, rfl, mon_app2 _ _ _⟩) | (obtain ⟨_, hq, rfl⟩ := Option.map_eq_some_iff.mp e; first | exact ⟨_, _, _, _, rfl, Nat.le_refl _, id⟩ | exact ⟨_, _, _, _, rfl, mon_put hq⟩ | exact ⟨_, _, _, _, rfl, mon_astI hq⟩ | exact ⟨_, _, _, _, rfl, mon_astL hq⟩ | exact ⟨_, _, _, _, rfl, mon_astR hq⟩) | cases e
  · obtain ⟨⟨hx, hb, hml, hr, hlk⟩, hown, hts, hK, hini, hlaw, hB, hR⟩ := hC
    unfold ac_astL at ea
    split at ea
    · rename_i x i a r
      obtain ⟨h1, hg, e1⟩ := Option.map_eq_some_iff.mp ea
      cases e1
      obtain ⟨l1, g1, g2, g3, rfl⟩ := astL_inv hg
      obtain ⟨q, rfl⟩ := at_pos hS.2.2.1 g1 (fun z => by cases z)
      refine ⟨by rw [List.length_set]; exact Nat.le_refl _, fun _ kk => va_last hx hb hK.1 hS.2.2.2.1 (ws_D B b0 aC h) hS.2.2.2.2.1 q 2 (ws_get g1) rfl (in_of g2 g3) hd (fun H1 locs1 hP1 hD1 hS1 => kk _ _ _ _ (hS.set (c := .inr (.inr (.inl (l1.set i.toNatClampNeg x)))) ?_ hS1))⟩
      show va_P D vwCl ((mm_ws B b0 aC h).set q (B + q, .inl (aC 2, (l1.set i.toNatClampNeg x).length, .inr (.inl (fun j => (l1.set i.toNatClampNeg x).getD j 0))))) H1
      rw [← upd_setL g3, List.length_set]
      exact hP1
    · cases ea
theorem ok_aast {tag ci : Nat} {r0 : vw_C} (hc : vwCl[ci]? = some r0) (hty : ∀ aC, (mm_tys aC)[tag]? = some (aC tag, .object r0.1)) (hd : decode cc pc = .ok (.aastore, 1)) : mm_okP law scr own cc nL ini rt pc (ac_astR tag ci (pc + 1)) := by
  refine ⟨fun L st h o e => ?_, fun D aC B b0 p l e R s m args below meth c Q hC L st h ls H locs cells hS pc' L' st' h' ea => ?_⟩
  · unfold ac_astR at e
    repeat' split at e
    all_goals first | (cases e; exact ⟨_, _, _, _, rfl, Nat.le_refl _, id⟩) | (cases e; exact ⟨_, _, _, _, rfl, mon_app _ _⟩) | (cases e; exact ⟨_, _, _, _, rfl, mon_app2 _ _ _⟩) | (obtain ⟨_, hq, rfl⟩ := Option.map_eq_some_iff.mp e; first | exact ⟨_, _, _, _, rfl, Nat.le_refl _, id⟩ | exact ⟨_, _, _, _, rfl, mon_put hq⟩ | exact ⟨_, _, _, _, rfl, mon_astI hq⟩ | exact ⟨_, _, _, _, rfl, mon_astL hq⟩ | exact ⟨_, _, _, _, rfl, mon_astR hq⟩) | cases e
  · obtain ⟨⟨hx, hb, hml, hr, hlk⟩, hown, hts, hK, hini, hlaw, hB, hR⟩ := hC
    unfold ac_astR at ea
    split at ea
    · rename_i v i a r
      obtain ⟨h1, hg, e1⟩ := Option.map_eq_some_iff.mp ea
      cases e1
      obtain ⟨l1, g1, g2, g3, ⟨fs, g4⟩, rfl⟩ := astR_inv hg
      obtain ⟨q, rfl⟩ := at_pos hS.2.2.1 g1 (fun z => by cases z)
      obtain ⟨u, rfl⟩ := at_pos hS.2.2.1 g4 (cls_ne hc)
      refine ⟨by rw [List.length_set]; exact Nat.le_refl _, fun _ kk => va_astq hx hb hK.1 hS.2.2.2.1 (ws_D B b0 aC h) hS.2.2.2.2.1 q tag u ci (ws_get g1) (hty aC) (ws_get g4) hc (in_of g2 g3) hd (fun H1 locs1 hP1 hD1 hS1 => kk _ _ _ _ (hS.set (c := .inr (.inr (.inr (tag, l1.set i.toNatClampNeg (some (u + 1)))))) ?_ hS1))⟩
      show va_P D vwCl ((mm_ws B b0 aC h).set q (B + q, .inl (aC tag, (l1.set i.toNatClampNeg (some (u + 1))).length, .inr (.inr (.inr (.inr (fun j => ((l1.set i.toNatClampNeg (some (u + 1))).getD j none).map (adr B b0)))))))) H1
      rw [← upd_setR g3, List.length_set]
      exact hP1
    · cases ea
end OK2
