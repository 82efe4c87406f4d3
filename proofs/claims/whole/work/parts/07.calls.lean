/-! arrays of arrays, calls, returns; the whole machine -/
theorem outer_is (c : ClassId) (N h0 : Nat) : ∀ i : Nat, Jvm.Free.Multi.outerC c N h0 i = arrV c N (fun j => va_rf (if j < i then some (h0 + 1 + j) else none))
  | 0 => by
    show ({ cls := c, slots := Array.replicate N .null, vm := .none } : Cell) = _
    rw [arrV_new]
    refine congrArg (arrV c N) (funext fun j => ?_)
    simp [va_rf]
  | i + 1 => by
    show (Jvm.Free.Multi.outerC c N h0 i).setSlot i (.ref (h0 + 1 + i)) = _
    rw [outer_is c N h0 i, arrV_store]
    refine congrArg (arrV c N) (funext fun j => ?_)
    by_cases e : j = i
    · subst e
      simp [updV, va_rf]
    · by_cases h : j < i
      · simp [updV, e, h, Nat.lt_succ_of_lt h]
      · simp [updV, e, h, show ¬ j < i + 1 by omega]
theorem arrV_ext {c : ClassId} {N : Nat} {f g : Nat → Value} (h : ∀ j, j < N → f j = g j) : arrV c N f = arrV c N g := by
  unfold arrV
  congr 1
  apply Array.ext
  · simp
  · intro i h1 h2
    simp at h1
    simp [h i h1]
theorem mm_S.size_ge {D : va_G} {aC : Nat → ClassId} {B b0 : Nat} {s : State} {nL : Nat} {L : ML} {h : MH} {ls : Array Slot} {H : Heap} {locs : List Loc} {cells : Nat} (hB : B ≤ s.heap.size) (hS : mm_S D aC B b0 s nL L h ls H locs cells) : B + h.length ≤ H.size + 1 := by
  have h0 := hS.pos
  have h1 := hS.2.2.2.2.1.1
  by_cases hl : h.length = 1
  · omega
  · have hk : h.length - 2 < (mm_ws B b0 aC h).length := by rw [ws_len]; omega
    have hj : (mm_ws B b0 aC h)[h.length - 2]? = some ((mm_ws B b0 aC h)[h.length - 2]) := List.getElem?_eq_getElem hk
    obtain ⟨cc, -, hcc⟩ := ws_of hj
    have := (hS.2.2.2.1 _ _ hj).lt
    rw [hcc] at this
    have : B + (h.length - 2) < H.size := this
    omega
section OK4
variable {law : Bool} {scr : List Int32} {own : String} {cc : ByteArray} {nL : Nat} {ini : Bool} {rt : Option FieldType} {pc : Nat}
set_option maxHeartbeats 1000000 in
theorem ok_mna {idx : Nat} (hl : Cond.classLink own idx ("[" ++ (FieldType.array .long).toString) ∈ gT) (hw : Cond.arrayClass .long ∈ gT) (hd : decode cc pc = .ok (.multianewarray idx 2, 4)) : mm_okP law scr own cc nL ini rt pc (ac_mna (pc + 4)) := by
  refine ⟨fun L st h o e => ?_, fun D aC B b0 p l e R s m args below meth c Q hC L st h ls H locs cells hS pc' L' st' h' ea => ?_⟩
  · unfold ac_mna at e
    repeat' split at e
    all_goals first | (cases e; exact ⟨_, _, _, _, rfl, mon_app2 _ _ _⟩) | cases e
  · obtain ⟨⟨hx, hb, hml, hr, hlk⟩, hown, hts, hK, hini, hlaw, hB, hR⟩ := hC
    unfold ac_mna at ea
    split at ea
    · rename_i y x r
      split at ea
      · rename_i hn
        obtain ⟨n1, n2, n3, n4⟩ := hn
        cases ea
        generalize hN : x.toNatClampNeg = N at *
        generalize hKK : y.toNatClampNeg = K at *
        have hlen : ((h ++ [.inr (.inr (.inr (5, (List.range N).map fun i => some (h.length + 1 + i))))]) ++ List.replicate N (.inr (.inr (.inl (List.replicate K 0)))) : MH).length = h.length + 1 + N := by
          simp
          omega
        refine ⟨by rw [hlen]; omega, fun hroom kk => ?_⟩
        rw [hlen] at hroom
        have hz := hS.2.2.2.2.2
        have hge := hS.size_ge hB
        have hNK : N * K ≤ 400 := Nat.le_trans (Nat.mul_le_mul n3 n4) (by decide)
        intro T hT X
        have hle := X.heapSize
        rw [hT] at hle
        obtain ⟨vm₁, cA, comp, -, fA, fC, hO, -, X', step⟩ := X.multianewarray2F (ty := .long) hx hown (hts _ hl) (over_moved (Vm.Alike.refl s.vm) hK.2.2.2.2) (hts _ hw) (g := F0 m pc ls ((.int y :: .int x :: r : List Value).map (ab B b0))) rfl (by rw [hb]; exact hd) (n := x) (k := y) (rest := r.map (ab B b0)) rfl n1 n2 (by rw [hN]; omega) (by rw [hKK]; show K * 8 ≤ _; omega) (by rw [hKK]; omega) rfl rfl (by rw [hN]; omega) (by rw [hN, hKK]; omega)
        rw [hN, hKK] at X' step
        have ec : cA = aC 5 := by
          have g2 := (hK.1.2 5 (aC 5, .array .long) rfl).2
          exact Option.some.inj (fA.symm.trans g2)
        have ed : comp = aC 2 := by
          have g2 := (hK.1.2 2 (aC 2, .long) rfl).2
          exact Option.some.inj (fC.symm.trans g2)
        subst ec
        subst ed
        generalize hF : Jvm.Free.Multi.fill (T.setVm vm₁) (aC 5) (aC 2) N K (defaultValue .long) N = F at X' step
        have hTh : (T.setVm vm₁).heap = H := hT
        obtain ⟨f1, f2, -, -⟩ := Jvm.Free.Multi.fill_facts (T.setVm vm₁) (aC 5) (aC 2) N K (defaultValue .long) N
        rw [hF, hTh] at f1 f2
        have hold : ∀ x : Nat, x < H.size → F.heap[x]? = H[x]? := fun x hx => by
          have := Jvm.Free.Multi.fill_old (T.setVm vm₁) (aC 5) (aC 2) N K (defaultValue .long) (a := x) (by rw [hTh]; exact hx) N
          rw [hF, hTh] at this
          exact this
        have hrow : ∀ j : Nat, j < N → F.heap[H.size + 1 + j]? = some (Jvm.Free.Multi.innerC (aC 2) K (defaultValue .long)) := fun j hj => by
          have := Jvm.Free.Multi.fill_inner (T.setVm vm₁) (aC 5) (aC 2) N K (defaultValue .long) N j hj
          rw [hF, hTh] at this
          exact this
        have hHs : H.size + 1 = B + h.length := by omega
        have hS2 : mm_S D aC B b0 s nL L ((h ++ [.inr (.inr (.inr (5, (List.range N).map fun i => some (h.length + 1 + i))))]) ++ List.replicate N (.inr (.inr (.inl (List.replicate K 0))))) ls F.heap locs (cells + 1 + N) := by
          refine ⟨hS.1, hS.2.1, ?_, ?_, ?_, ?_⟩
          · rw [List.getElem?_append_left (by simp), List.getElem?_append_left hS.pos]
            exact hS.2.2.1
          · intro k q hq
            obtain ⟨c0, g0, rfl⟩ := ws_of hq
            rw [List.append_assoc] at g0
            by_cases a1 : k + 1 < h.length
            · rw [List.getElem?_append_left a1] at g0
              exact (hS.2.2.2.1 k _ (ws_get g0)).kept (hold _ (hS.2.2.2.1 k _ (ws_get g0)).lt)
            · rw [List.getElem?_append_right (by omega)] at g0
              by_cases a2 : k + 1 = h.length
              · rw [show k + 1 - h.length = 0 by omega] at g0
                cases g0
                show F.heap[B + k]? = some (vp_cell _ _)
                rw [show B + k = H.size by omega, f2, vp_cell_q, outer_is, List.length_map, List.length_range]
                refine congrArg some (arrV_ext fun j hj => ?_)
                rw [if_pos hj, List.getD_eq_getElem?_getD, List.getElem?_map, List.getElem?_range hj]
                show va_rf (some (H.size + 1 + j)) = va_rf (some (adr B b0 (h.length + 1 + j)))
                rw [show h.length + 1 + j = (h.length + j) + 1 by omega]
                show va_rf (some (H.size + 1 + j)) = va_rf (some (B + (h.length + j)))
                rw [show H.size + 1 + j = B + (h.length + j) by omega]
              · rw [show k + 1 - h.length = (k - h.length) + 1 by omega] at g0
                show va_at _ _ _ _
                have g1 : (List.replicate N (.inr (.inr (.inl (List.replicate K 0))) : MC))[k - h.length]? = some c0 := g0
                have hlt : k - h.length < N := by
                  have := (List.getElem?_eq_some_iff.mp g1).1
                  rw [List.length_replicate] at this
                  exact this
                rw [List.getElem?_replicate, if_pos hlt] at g1
                cases g1
                show F.heap[B + k]? = some (vp_cell _ _)
                rw [show B + k = H.size + 1 + (k - h.length) by omega, hrow _ hlt, vp_cell_l, List.length_replicate]
                show some ({ cls := aC 2, slots := Array.replicate K (defaultValue .long), vm := .none } : Cell) = _
                rw [arrV_new]
                refine congrArg some (arrV_ext fun j hj => ?_)
                show Value.long 0 = Value.long ((List.replicate K 0).getD j 0)
                rw [getD_rep]
          · refine ⟨by rw [f1]; have := hS.2.2.2.2.1.1; omega, fun q h1 h2 => ?_, hS.2.2.2.2.1.2.2⟩
            rw [hold q (Nat.lt_of_lt_of_le h1 hS.2.2.2.2.1.1)]
            exact hS.2.2.2.2.1.2.1 q h1 h2
          · rw [hlen]
            omega
        have k1 := kk _ _ _ _ hS2
        have e9 : (.ref h.length :: r : List Value).map (ab B b0) = .ref H.size :: r.map (ab B b0) := by
          show Value.ref (adr B b0 h.length) :: _ = _
          rw [adr_len hS.pos hHs]
        rw [e9] at k1
        obtain ⟨t, a1, b1⟩ := (W.widen (k := cells + 1 + N) (n := 400 * (cells + 1 + N)) (slots := 400 * cells + N + N * K) (Nat.le_refl _) (by
          have : N * K ≤ N * 20 := Nat.mul_le_mul (Nat.le_refl _) n4
          omega) k1) F rfl X'
        refine ⟨t, step t ?_, b1⟩
        have eT : T.heap.size = H.size := by rw [hT]
        rw [eT]
        exact a1
      · cases ea
    · cases ea
end OK4
