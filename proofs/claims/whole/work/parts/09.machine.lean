/-! a method's start; the whole machine, by induction on the fuel -/
theorem ent_len (B b0 : Nat) : ∀ as : List Value, (lg_sl (as.map (ab B b0))).length = (mm_ent as).length
  | [] => rfl
  | v :: r => by
    have ih := ent_len B b0 r
    unfold lg_sl at ih ⊢
    rw [List.map_cons, List.flatMap_cons, List.length_append, ih, ab_cat]
    show _ = (if v.category = 2 then some v :: none :: mm_ent r else some v :: mm_ent r).length
    split
    · simp only [List.length_cons, List.length_nil]; omega
    · simp only [List.length_cons, List.length_nil]; omega
theorem ent_mem (B b0 : Nat) : ∀ (as : List Value) (k i : Nat) (v : Value), (mm_ent as)[i]? = some (some v) → (k + i, ab B b0 v) ∈ lv_args k (as.map (ab B b0))
  | [], k, i, v, h => by simp [mm_ent] at h
  | w :: r, k, i, v, h => by
    rw [List.map_cons]
    show (k + i, ab B b0 v) ∈ (k, ab B b0 w) :: lv_args (if (ab B b0 w).category = 2 then k + 2 else k + 1) (r.map (ab B b0))
    rw [ab_cat]
    unfold mm_ent at h
    split at h
    · rename_i hc
      rw [if_pos hc]
      match i, h with
      | 0, h => cases h; exact List.mem_cons_self
      | 1, h => cases h
      | i + 2, h =>
        have := ent_mem B b0 r (k + 2) i v h
        rw [show k + (i + 2) = k + 2 + i by omega]
        exact List.mem_cons_of_mem _ this
    · rename_i hc
      rw [if_neg hc]
      match i, h with
      | 0, h => cases h; exact List.mem_cons_self
      | i + 1, h =>
        have := ent_mem B b0 r (k + 1) i v h
        rw [show k + (i + 1) = k + 1 + i by omega]
        exact List.mem_cons_of_mem _ this
theorem hld_ent {B b0 : Nat} {as : List Value} {n : Nat} (h : (mm_ent as).length ≤ n) : mm_hld B b0 ((lg_sl (as.map (ab B b0)) ++ List.replicate (n - (lg_sl (as.map (ab B b0))).length) Slot.unset).toArray) n (mm_loc as n) := by
  have h1 := lv_entry (as.map (ab B b0)) (n := n) (by rw [ent_len]; exact h)
  refine ⟨h1.1, h1.2.1, ?_, fun i v hi => ?_⟩
  · unfold mm_loc
    rw [List.length_append, List.length_replicate]
    omega
  · unfold mm_loc at hi
    by_cases hl : i < (mm_ent as).length
    · rw [List.getElem?_append_left hl] at hi
      have := ent_mem B b0 as 0 i v hi
      rw [Nat.zero_add] at this
      exact h1.2.2 _ this
    · rw [List.getElem?_append_right (by omega)] at hi
      have := List.eq_of_mem_replicate (List.mem_of_getElem? hi)
      cases this
/-- the program is sound -/
def mm_prog (scr : List Int32) (G : MG) (Y : MY) (LW : Nat) : Prop := ∀ (mi rk ml : Nat) (t : List (Nat × Act)), G mi = some (rk, ml, t) → (1 ≤ rk ∧ rk ≤ mm_rk G LW ∧ (Y mi).2.2.1 = ml ∧ ml ≤ 16 ∧ plainName (Y mi).1.cls = true) ∧
  ∀ (pc : Nat) (a : Act), t.lookup pc = some a → mm_ok (decide (mi = LW)) scr (Y mi).1.cls (Y mi).2.1 (Y mi).2.2.1 (decide ((Y mi).1.name = "<init>")) (Y mi).2.2.2 Y pc a
/-- what a run that answers (r, hf) gives at every point of the machine -/
def mm_wok (scr : List Int32) (G : MG) (Y : MY) (LW : Nat) (l : Launch) (mi pc : Nat) (L : ML) (st : List Value) (h : MH) (r : Option Value) (hf : MH) : Prop :=
  ∀ (D : va_G) (aC : Nat → ClassId) (B b0 : Nat) (p : Program) (e : Env) (R : Room) (s : State) (m : MethodId) (args : Array Value) (below : List Frame) (meth : Method) (c : Code) (Q : State → Prop),
  mm_C (decide (mi = LW)) scr (Y mi).1.cls (Y mi).2.1 (Y mi).2.2.1 (decide ((Y mi).1.name = "<init>")) (Y mi).2.2.2 D aC B b0 p R s m args meth c → mm_rk G mi ≤ R.frames → 35 * mm_rk G mi ≤ R.locals → B + hf.length ≤ s.heap.size + mm_rc R + 1 →
  (∀ (pc : Nat) (L : ML) (st : List Value) (ls : Array Slot) (H : Heap) (locs : List Loc) (cells : Nat), mm_S D aC B b0 s (Y mi).2.2.1 L hf ls H locs cells →
    (∀ (locs' : List Loc) (cells' slots' : Nat) (Qc : Array Value → State → Outcome → State → Prop) (free : Addr → Prop), (∀ t : State, t.heap = H → s.WarmedH t.vm → Qc args s (.returned (r.map (ab B b0))) t) → (∀ q ∈ locs', free q.base) → W p l e R s m args below meth c H locs' cells' slots' (MQ below Qc args s cells' slots' free) (F0 m pc ls (st.map (ab B b0)))) →
    W p l e R s m args below meth c H locs cells (400 * cells) Q (F0 m pc ls (st.map (ab B b0)))) →
  ∀ (ls : Array Slot) (H : Heap) (locs : List Loc) (cells : Nat), mm_S D aC B b0 s (Y mi).2.2.1 L h ls H locs cells → W p l e R s m args below meth c H locs cells (400 * cells) Q (F0 m pc ls (st.map (ab B b0)))
/-- a callee's contract out of its run -/
def mm_Pc (D : va_G) (aC : Nat → ClassId) (B b0 : Nat) (as : List Value) (h : MH) : Array Value → State → Prop := va_Pc (as.map (ab B b0)) (fun U => mm_K D aC U ∧ h[0]? = some mm_dummy ∧ va_P D vwCl (mm_ws B b0 aC h) U.heap ∧ U.heap.size + 1 = B + h.length ∧ B ≤ U.heap.size)
def mm_Qc (D : va_G) (aC : Nat → ClassId) (B b0 : Nat) (r : Option Value) (hf : MH) : Array Value → State → Outcome → State → Prop := fun _ st o t => o = .returned (r.map (ab B b0)) ∧ (hf[0]? = some mm_dummy ∧ va_P D vwCl (mm_ws B b0 aC hf) t.heap) ∧ va_F (fun q => B ≤ q) st t
theorem pc_blind {D : va_G} {aC : Nat → ClassId} {B b0 : Nat} {as : List Value} {h : MH} : FrameBlind (mm_Pc D aC B b0 as h) := fun a U g mk q => ⟨q.1, mm_K.same (u := U) (U := U.calling g mk a) rfl q.2.1, q.2.2⟩
theorem rc_exact {f n k : Nat} : mm_rc ({ frames := f, cells := n, slots := 400 * n, locals := k } : Room) = n := by
  show min n (400 * n / 400) = n
  rw [Nat.mul_div_cancel_left n (by decide)]
  exact Nat.min_self n
theorem mm_met {scr : List Int32} {G : MG} {Y : MY} {LW : Nat} {l : Launch} {mj : Nat} {as : List Value} {h hf : MH} {r : Option Value} (hG : mm_prog scr G Y LW) (hgj : (G mj).isSome = true) (hne : mj ≠ LW) (hent : (mm_ent as).length ≤ mm_ml G mj) (hle : h.length ≤ hf.length)
    (hw : mm_wok scr G Y LW l mj 0 (mm_loc as (mm_ml G mj)) [] h r hf) (D : va_G) (aC : Nat → ClassId) (B b0 : Nat) :
    Met l (Y mj).1 (mm_wY Y mj) { frames := mm_rk G mj, cells := hf.length - h.length, slots := 400 * (hf.length - h.length), locals := 35 * mm_rk G mj } (mm_Pc D aC B b0 as h) (mm_Qc D aC B b0 r hf) (hf.length - h.length) (400 * (hf.length - h.length)) (fun q => B ≤ q) := by
  obtain ⟨⟨rk, ml, t⟩, hg⟩ := Option.isSome_iff_exists.mp hgj
  obtain ⟨⟨g1, g2, g3, g4, g5⟩, -⟩ := hG mj rk ml t hg
  have ek : mm_rk G mj = rk := by unfold mm_rk; rw [hg]
  have em : mm_ml G mj = ml := by unfold mm_ml; rw [hg]
  refine Met.ofW (cc := (Y mj).2.1) (maxL := (Y mj).2.2.1) (ret := (Y mj).2.2.2) g5 rfl ?_
  intro p e s m args below meth c s₁ Bd hml hv
  obtain ⟨rfl, hK, h0, hP, hsz, hB⟩ := hv
  have hts := atoms_spec (ws := mm_wY Y mj) Bd.pre
  rw [lg_entry_eq]
  have em2 : mm_ml G mj = (Y mj).2.2.1 := em.trans g3.symm
  rw [em2] at hw hent
  have hS : mm_S D aC B b0 s (Y mj).2.2.1 (mm_loc as (Y mj).2.2.1) h _ s.heap [] 0 := ⟨hld_ent hent, trivial, h0, hP, va_S.rf, by omega⟩
  refine hw D aC B b0 p e _ s m _ below meth c _ ⟨⟨Bd.exec, Bd.bytes, hml, Bd.returns, Bd.notSynchronized⟩, findClass_of_methodNamed Bd.named, fun w hq => hts w (List.mem_cons_of_mem _ hq), hK, fun hq => ?_, fun hq => absurd (of_decide_eq_true hq) hne, hB, ?_⟩ ?_ ?_ ?_ ?_ _ _ _ _ hS
  · rw [(name_of_methodNamed Bd.named Bd.method).1]
    exact of_decide_eq_true hq
  · show 1 ≤ mm_rk G mj ∧ 35 ≤ 35 * mm_rk G mj ∧ mm_rc ({ frames := mm_rk G mj, cells := hf.length - h.length, slots := 400 * (hf.length - h.length), locals := 35 * mm_rk G mj } : Room) ≤ hf.length - h.length ∧ 400 * mm_rc ({ frames := mm_rk G mj, cells := hf.length - h.length, slots := 400 * (hf.length - h.length), locals := 35 * mm_rk G mj } : Room) ≤ 400 * (hf.length - h.length)
    rw [rc_exact, ek]
    omega
  · exact Nat.le_refl _
  · exact Nat.le_refl _
  · show B + hf.length ≤ s.heap.size + mm_rc ({ frames := mm_rk G mj, cells := hf.length - h.length, slots := 400 * (hf.length - h.length), locals := 35 * mm_rk G mj } : Room) + 1
    rw [rc_exact]
    omega
  · intro pc L st ls H locs cells hS2 k
    have hcell : cells = hf.length - h.length := by
      have := hS2.2.2.2.2.2
      omega
    subst hcell
    refine k locs _ _ _ _ (fun t ht hW => ⟨rfl, ⟨hS2.2.2.1, by rw [ht]; exact hS2.2.2.2.1⟩, hS2.2.2.2.2.1.F ht⟩) hS2.2.2.2.2.1.2.2
theorem mm_master {scr : List Int32} {G : MG} {Y : MY} {LW : Nat} (hG : mm_prog scr G Y LW) (l : Launch) : ∀ (n mi pc : Nat) (L : ML) (st : List Value) (h : MH) (r : Option Value) (hf : MH), mx G n mi pc L st h = some (r, hf) → h[0]? = some mm_dummy → (h.length ≤ hf.length ∧ hf[0]? = some mm_dummy) ∧ mm_wok scr G Y LW l mi pc L st h r hf := by
  intro n
  induction n with
  | zero => intro mi pc L st h r hf e; cases e
  | succ n ih =>
    intro mi pc L st h r hf e h0
    have e : mm_res G mi L h (mx G n mi) (fun mj as h => mx G n mj 0 (mm_loc as (mm_ml G mj)) [] h) ((mm_act G mi pc).bind fun a => a L st h) = some (r, hf) := e
    cases ha : mm_act G mi pc with
    | none => rw [ha] at e; cases e
    | some a =>
      rw [ha, Option.bind_some] at e
      unfold mm_act at ha
      split at ha
      · rename_i rk ml t hg
        obtain ⟨⟨g1, g2, g3, g4, g5⟩, hok⟩ := hG mi rk ml t hg
        have ek : mm_rk G mi = rk := by unfold mm_rk; rw [hg]
        cases ho : a L st h with
        | none => rw [ho] at e; cases e
        | some o =>
          rw [ho] at e
          rcases hok pc a ha with hp | hc | hr
          · obtain ⟨pc', L', st', h', rfl, hlen, hdm⟩ := hp.1 L st h o ho
            have e : mx G n mi pc' L' st' h' = some (r, hf) := e
            obtain ⟨⟨i1, i3⟩, i2⟩ := ih mi pc' L' st' h' r hf e (hdm h0)
            refine ⟨⟨Nat.le_trans hlen i1, i3⟩, ?_⟩
            intro D aC B b0 p e2 R s m args below meth c Q hC k1 k2 k3 hret ls H locs cells hS
            have k := (hp.2 D aC B b0 p l e2 R s m args below meth c Q hC L st h ls H locs cells hS pc' L' st' h' ho).2
            exact k (by omega) (fun ls' H' locs' cells' hS' => i2 D aC B b0 p e2 R s m args below meth c Q hC k1 k2 k3 hret ls' H' locs' cells' hS')
          · obtain ⟨mj, as, rest, rfl⟩ := hc.1 L st h o ho
            have e : (if mm_rk G mj < mm_rk G mi ∧ (mm_ent as).length ≤ mm_ml G mj then (mx G n mj 0 (mm_loc as (mm_ml G mj)) [] h).bind fun q => mx G n mi (pc + 3) L (q.1.toList ++ rest) q.2 else none) = some (r, hf) := e
            split at e
            · rename_i hcd
              obtain ⟨⟨r1, h1⟩, e1, e2⟩ := Option.bind_eq_some_iff.mp e
              have e2 : mx G n mi (pc + 3) L (r1.toList ++ rest) h1 = some (r, hf) := e2
              obtain ⟨⟨i1, h10⟩, i2⟩ := ih mj 0 _ [] h r1 h1 e1 h0
              obtain ⟨⟨j1, j3⟩, j2⟩ := ih mi (pc + 3) L _ h1 r hf e2 h10
              refine ⟨⟨Nat.le_trans i1 j1, j3⟩, ?_⟩
              have hgj : (G mj).isSome = true := by
                cases hq : G mj with
                | some v => rfl
                | none =>
                  have h9 : mx G n mj 0 (mm_loc as (mm_ml G mj)) [] h = some (r1, h1) := e1
                  cases n with
                  | zero => cases h9
                  | succ n =>
                    have h9 : mm_res G mj _ h (mx G n mj) (fun mj as h => mx G n mj 0 (mm_loc as (mm_ml G mj)) [] h) ((mm_act G mj 0).bind fun a => a _ [] h) = some (r1, h1) := h9
                    have : mm_act G mj 0 = none := by unfold mm_act; rw [hq]
                    rw [this] at h9
                    cases h9
              have hne : mj ≠ LW := fun q => by
                have := hcd.1
                rw [q, ek] at this
                omega
              intro D aC B b0 p e3 R s m args below meth c Q hC k1 k2 k3 hret ls H locs cells hS
              obtain ⟨⟨rk', ml', t'⟩, hg'⟩ := Option.isSome_iff_exists.mp hgj
              obtain ⟨⟨q1, q2, q3, q4, q5⟩, -⟩ := hG mj rk' ml' t' hg'
              have hM := mm_met hG hgj hne hcd.2 i1 i2 D aC B b0
              have hz := hS.2.2.2.2.2
              have hBB := hC.2.2.2.2.2.2.1
              have hge := hS.size_ge hBB
              refine w_size (fun hsz => ?_)
              have hRR := hC.2.2.2.2.2.2.2
              have hrun := hc.2 D aC B b0 p l e3 R s m args below meth c hC L st h ls H locs cells hS mj as rest ho _ _ _ _ _ _ hM rfl rfl (by show mm_rk G mj + 1 ≤ _; have := hcd.1; omega) (by show 8 + ((Y mj).2.2.1 + 11) + 35 * mm_rk G mj ≤ R.locals; have := hcd.1; omega) pc_blind (fun U hU hW => ⟨rfl, hC.2.2.2.1.warm hW, h0, by rw [hU]; exact hS.2.2.2.1, by rw [hU]; omega, by rw [hU]; have := hS.2.2.2.2.1.1; omega⟩) (by omega) (by omega)
              intro T hT X
              obtain ⟨v, st0, t0, T', L0, z0, X', hL, e4, e5, ⟨hv, hpic, hF1, hF2⟩, step⟩ := hrun T hT X
              have hv : Outcome.returned v = Outcome.returned (r1.map (ab B b0)) := hv
              cases hv
              rw [z0] at hF1 hF2
              have hS' : mm_S D aC B b0 s (Y mi).2.2.1 L h1 ls T'.heap (locs ++ L0) (cells + (h1.length - h.length)) := by
                refine ⟨hS.1, trivial, h10, by rw [e4]; exact hpic.2, ⟨?_, fun q a1 a2 => ?_, fun q hq => ?_⟩, by omega⟩
                · rw [e4]
                  exact Nat.le_trans hS.2.2.2.2.1.1 hF1
                · rw [e4, hF2 q (Nat.lt_of_lt_of_le a1 hS.2.2.2.2.1.1) a2]
                  exact hS.2.2.2.2.1.2.1 q a1 a2
                · rcases List.mem_append.mp hq with a | a
                  · exact hS.2.2.2.2.1.2.2 q a
                  · exact hL q a
              have k9 := j2 D aC B b0 p e3 R s m args below meth c Q hC k1 k2 k3 hret ls T'.heap _ _ hS'
              have ee : ((r1.toList ++ rest).map (ab B b0)) = (r1.map (ab B b0)).toList ++ rest.map (ab B b0) := by
                rw [List.map_append]
                cases r1 <;> rfl
              rw [ee, show 400 * (cells + (h1.length - h.length)) = 400 * cells + 400 * (h1.length - h.length) by omega] at k9
              obtain ⟨t2, a1, b1⟩ := k9 T' rfl X'
              exact ⟨t2, step t2 a1, b1⟩
            · cases e
          · obtain ⟨r1, rfl⟩ := hr.1 L st h o ho
            have e : some (r1, h) = some (r, hf) := e
            cases e
            refine ⟨⟨Nat.le_refl _, h0⟩, ?_⟩
            intro D aC B b0 p e2 R s m args below meth c Q hC k1 k2 k3 hret ls H locs cells hS
            exact hret pc L st ls H locs cells hS (fun locs' cells' slots' Qc free hq hf => hr.2 D aC B b0 p l e2 R s m args below meth c hC L st h r ho ls H locs' cells' slots' Qc free hq hf)
      · cases ha
