/-! the picture of the heap behind the constructors: I int fields (100 a + k), A int arrays, L long arrays, F long fields, E what was made later -/
def HP (I : Nat → Int32) (A : Nat → List Int32) (L : Nat → List Int64) (F : Nat → Int64) (E : MH) : MH :=
  mm_dummy ::
  .inl (7, [.ref 2, .ref 22, .int (I 102), .ref 42, .ref 47, .ref 48, .ref 54, .ref 69, .ref 71]) ::
  .inl (3, [.ref 3, .ref 4, .ref 5, .ref 8, .ref 11]) ::
  .inr (.inr (.inr (3, [some 14, some 16, some 18, some 20]))) ::
  .inr (.inl (0, A 4)) ::
  .inl (2, [.ref 6, .ref 7, .int 6, .int (I 503)]) ::
  .inr (.inl (0, A 6)) ::
  .inr (.inl (0, A 7)) ::
  .inl (2, [.ref 9, .ref 10, .int 8, .int (I 803)]) ::
  .inr (.inl (0, A 9)) ::
  .inr (.inl (0, A 10)) ::
  .inl (2, [.ref 12, .ref 13, .int 8, .int (I 1103)]) ::
  .inr (.inl (0, A 12)) ::
  .inr (.inl (0, A 13)) ::
  .inl (4, [.int (I 1400), .int (I 1401), .int (I 1402), .int (I 1403), .int (I 1404), .ref 15]) ::
  .inr (.inl (0, A 15)) ::
  .inl (4, [.int (I 1600), .int (I 1601), .int (I 1602), .int (I 1603), .int (I 1604), .ref 17]) ::
  .inr (.inl (0, A 17)) ::
  .inl (4, [.int (I 1800), .int (I 1801), .int (I 1802), .int (I 1803), .int (I 1804), .ref 19]) ::
  .inr (.inl (0, A 19)) ::
  .inl (4, [.int (I 2000), .int (I 2001), .int (I 2002), .int (I 2003), .int (I 2004), .ref 21]) ::
  .inr (.inl (0, A 21)) ::
  .inl (3, [.ref 23, .ref 24, .ref 25, .ref 28, .ref 31]) ::
  .inr (.inr (.inr (3, [some 34, some 36, some 38, some 40]))) ::
  .inr (.inl (0, A 24)) ::
  .inl (2, [.ref 26, .ref 27, .int 6, .int (I 2503)]) ::
  .inr (.inl (0, A 26)) ::
  .inr (.inl (0, A 27)) ::
  .inl (2, [.ref 29, .ref 30, .int 8, .int (I 2803)]) ::
  .inr (.inl (0, A 29)) ::
  .inr (.inl (0, A 30)) ::
  .inl (2, [.ref 32, .ref 33, .int 8, .int (I 3103)]) ::
  .inr (.inl (0, A 32)) ::
  .inr (.inl (0, A 33)) ::
  .inl (4, [.int (I 3400), .int (I 3401), .int (I 3402), .int (I 3403), .int (I 3404), .ref 35]) ::
  .inr (.inl (0, A 35)) ::
  .inl (4, [.int (I 3600), .int (I 3601), .int (I 3602), .int (I 3603), .int (I 3604), .ref 37]) ::
  .inr (.inl (0, A 37)) ::
  .inl (4, [.int (I 3800), .int (I 3801), .int (I 3802), .int (I 3803), .int (I 3804), .ref 39]) ::
  .inr (.inl (0, A 39)) ::
  .inl (4, [.int (I 4000), .int (I 4001), .int (I 4002), .int (I 4003), .int (I 4004), .ref 41]) ::
  .inr (.inl (0, A 41)) ::
  .inl (6, [.ref 43, .int (I 4201), .int (I 4202), .ref 44, .ref 45, .ref 46, .int (I 4206)]) ::
  .inr (.inl (0, A 43)) ::
  .inr (.inl (0, A 44)) ::
  .inr (.inl (0, A 45)) ::
  .inr (.inl (0, A 46)) ::
  .inr (.inr (.inr (4, [some 72, some 74, some 76, some 78, some 80, some 82]))) ::
  .inl (1, [.int (I 4800), .int (I 4801), .int (I 4802), .int (I 4803), .ref 49, .ref 50, .int (I 4806), .ref 51, .ref 52, .ref 53]) ::
  .inr (.inl (0, A 49)) ::
  .inr (.inl (0, A 50)) ::
  .inr (.inl (0, A 51)) ::
  .inr (.inl (0, A 52)) ::
  .inr (.inl (0, A 53)) ::
  .inl (0, [.int (I 5400), .int (I 5401), .ref 55, .int (I 5403), .long (F 5404), .long (F 5405), .ref 56, .ref 57, .ref 58, .ref 59, .ref 60, .ref 61, .ref 62]) ::
  .inr (.inl (0, A 55)) ::
  .inr (.inr (.inl (L 56))) ::
  .inr (.inr (.inl (L 57))) ::
  .inr (.inl (1, A 58)) ::
  .inr (.inl (1, A 59)) ::
  .inr (.inl (0, A 60)) ::
  .inr (.inl (0, A 61)) ::
  .inr (.inr (.inr (5, [some 63, some 64, some 65, some 66, some 67, some 68]))) ::
  .inr (.inr (.inl (L 63))) ::
  .inr (.inr (.inl (L 64))) ::
  .inr (.inr (.inl (L 65))) ::
  .inr (.inr (.inl (L 66))) ::
  .inr (.inr (.inl (L 67))) ::
  .inr (.inr (.inl (L 68))) ::
  .inl (4, [.int (I 6900), .int (I 6901), .int (I 6902), .int (I 6903), .int (I 6904), .ref 70]) ::
  .inr (.inl (0, A 70)) ::
  .inr (.inl (0, A 71)) ::
  .inl (5, [.int (I 7200), .int (I 7201), .ref 73]) ::
  .inr (.inr (.inl (L 73))) ::
  .inl (5, [.int (I 7400), .int (I 7401), .ref 75]) ::
  .inr (.inr (.inl (L 75))) ::
  .inl (5, [.int (I 7600), .int (I 7601), .ref 77]) ::
  .inr (.inr (.inl (L 77))) ::
  .inl (5, [.int (I 7800), .int (I 7801), .ref 79]) ::
  .inr (.inr (.inl (L 79))) ::
  .inl (5, [.int (I 8000), .int (I 8001), .ref 81]) ::
  .inr (.inr (.inl (L 81))) ::
  .inl (5, [.int (I 8200), .int (I 8201), .ref 83]) ::
  .inr (.inr (.inl (L 83))) ::
  .inl (8, [.ref 85, .ref 86, .ref 87, .int (I 8403), .ref 88, .int (I 8405), .int (I 8406), .int (I 8407), .ref 89, .int (I 8409), .ref 90, .ref 91, .ref 92, .ref 93, .ref 94, .int (I 8415), .int (I 8416), .int (I 8417), .ref 95, .ref 102, .ref 103, .ref 104]) ::
  .inr (.inl (0, A 85)) ::
  .inr (.inl (0, A 86)) ::
  .inr (.inl (0, A 87)) ::
  .inr (.inl (0, A 88)) ::
  .inr (.inl (0, A 89)) ::
  .inr (.inl (0, A 90)) ::
  .inr (.inl (0, A 91)) ::
  .inr (.inl (0, A 92)) ::
  .inr (.inl (0, A 93)) ::
  .inr (.inl (0, A 94)) ::
  .inr (.inr (.inr (5, [some 96, some 97, some 98, some 99, some 100, some 101]))) ::
  .inr (.inr (.inl (L 96))) ::
  .inr (.inr (.inl (L 97))) ::
  .inr (.inr (.inl (L 98))) ::
  .inr (.inr (.inl (L 99))) ::
  .inr (.inr (.inl (L 100))) ::
  .inr (.inr (.inl (L 101))) ::
  .inr (.inl (0, A 102)) ::
  .inr (.inl (0, A 103)) ::
  .inr (.inr (.inl (L 104))) :: E
def isS (a : Nat) : Prop := a = 14 ∨ a = 16 ∨ a = 18 ∨ a = 20 ∨ a = 34 ∨ a = 36 ∨ a = 38 ∨ a = 40 ∨ a = 69
def isRw (a : Nat) : Prop := a = 5 ∨ a = 8 ∨ a = 11 ∨ a = 25 ∨ a = 28 ∨ a = 31
def isT (a : Nat) : Prop := a = 72 ∨ a = 74 ∨ a = 76 ∨ a = 78 ∨ a = 80 ∨ a = 82
def isSy (a : Nat) : Prop := a = 63 ∨ a = 64 ∨ a = 65 ∨ a = 66 ∨ a = 67 ∨ a = 68
def isMr (a : Nat) : Prop := a = 96 ∨ a = 97 ∨ a = 98 ∨ a = 99 ∨ a = 100 ∨ a = 101
def isW (a : Nat) : Prop := a = 85 ∨ a = 86 ∨ a = 87
def rwM (a : Nat) : Int32 := if a = 5 ∨ a = 25 then 6 else 8
section HPS
variable {I : Nat → Int32} {A : Nat → List Int32} {L : Nat → List Int64} {F : Nat → Int64} {E : MH} {a : Nat}
theorem sS_obj (h : isS a) : (HP I A L F E)[a]? = some (.inl (4, [.int (I (100 * a + 0)), .int (I (100 * a + 1)), .int (I (100 * a + 2)), .int (I (100 * a + 3)), .int (I (100 * a + 4)), .ref (a + 1)])) := by rcases h with rfl | rfl | rfl | rfl | rfl | rfl | rfl | rfl | rfl <;> rfl
theorem sS_put0 {x : Int32} (h : isS a) : (HP I A L F E).set a (.inl (4, List.set [.int (I (100 * a + 0)), .int (I (100 * a + 1)), .int (I (100 * a + 2)), .int (I (100 * a + 3)), .int (I (100 * a + 4)), .ref (a + 1)] 0 (.int x))) = HP (fu I (100 * a + 0) x) A L F E := by rcases h with rfl | rfl | rfl | rfl | rfl | rfl | rfl | rfl | rfl <;> rfl
theorem sS_put1 {x : Int32} (h : isS a) : (HP I A L F E).set a (.inl (4, List.set [.int (I (100 * a + 0)), .int (I (100 * a + 1)), .int (I (100 * a + 2)), .int (I (100 * a + 3)), .int (I (100 * a + 4)), .ref (a + 1)] 1 (.int x))) = HP (fu I (100 * a + 1) x) A L F E := by rcases h with rfl | rfl | rfl | rfl | rfl | rfl | rfl | rfl | rfl <;> rfl
theorem sS_put2 {x : Int32} (h : isS a) : (HP I A L F E).set a (.inl (4, List.set [.int (I (100 * a + 0)), .int (I (100 * a + 1)), .int (I (100 * a + 2)), .int (I (100 * a + 3)), .int (I (100 * a + 4)), .ref (a + 1)] 2 (.int x))) = HP (fu I (100 * a + 2) x) A L F E := by rcases h with rfl | rfl | rfl | rfl | rfl | rfl | rfl | rfl | rfl <;> rfl
theorem sS_put3 {x : Int32} (h : isS a) : (HP I A L F E).set a (.inl (4, List.set [.int (I (100 * a + 0)), .int (I (100 * a + 1)), .int (I (100 * a + 2)), .int (I (100 * a + 3)), .int (I (100 * a + 4)), .ref (a + 1)] 3 (.int x))) = HP (fu I (100 * a + 3) x) A L F E := by rcases h with rfl | rfl | rfl | rfl | rfl | rfl | rfl | rfl | rfl <;> rfl
theorem sS_put4 {x : Int32} (h : isS a) : (HP I A L F E).set a (.inl (4, List.set [.int (I (100 * a + 0)), .int (I (100 * a + 1)), .int (I (100 * a + 2)), .int (I (100 * a + 3)), .int (I (100 * a + 4)), .ref (a + 1)] 4 (.int x))) = HP (fu I (100 * a + 4) x) A L F E := by rcases h with rfl | rfl | rfl | rfl | rfl | rfl | rfl | rfl | rfl <;> rfl
theorem sRw_obj (h : isRw a) : (HP I A L F E)[a]? = some (.inl (2, [.ref (a + 1), .ref (a + 2), .int (rwM a), .int (I (100 * a + 3))])) := by rcases h with rfl | rfl | rfl | rfl | rfl | rfl <;> rfl
theorem sRw_put3 {x : Int32} (h : isRw a) : (HP I A L F E).set a (.inl (2, List.set [.ref (a + 1), .ref (a + 2), .int (rwM a), .int (I (100 * a + 3))] 3 (.int x))) = HP (fu I (100 * a + 3) x) A L F E := by rcases h with rfl | rfl | rfl | rfl | rfl | rfl <;> rfl
theorem sT_obj (h : isT a) : (HP I A L F E)[a]? = some (.inl (5, [.int (I (100 * a + 0)), .int (I (100 * a + 1)), .ref (a + 1)])) := by rcases h with rfl | rfl | rfl | rfl | rfl | rfl <;> rfl
theorem sT_put0 {x : Int32} (h : isT a) : (HP I A L F E).set a (.inl (5, List.set [.int (I (100 * a + 0)), .int (I (100 * a + 1)), .ref (a + 1)] 0 (.int x))) = HP (fu I (100 * a + 0) x) A L F E := by rcases h with rfl | rfl | rfl | rfl | rfl | rfl <;> rfl
theorem sT_put1 {x : Int32} (h : isT a) : (HP I A L F E).set a (.inl (5, List.set [.int (I (100 * a + 0)), .int (I (100 * a + 1)), .ref (a + 1)] 1 (.int x))) = HP (fu I (100 * a + 1) x) A L F E := by rcases h with rfl | rfl | rfl | rfl | rfl | rfl <;> rfl
theorem sS_ar1 (h : isS a) : (HP I A L F E)[a + 1]? = some (.inr (.inl (0, A (a + 1)))) := by rcases h with rfl | rfl | rfl | rfl | rfl | rfl | rfl | rfl | rfl <;> rfl
theorem sS_ast1 {X : List Int32} (h : isS a) : (HP I A L F E).set (a + 1) (.inr (.inl (0, X))) = HP I (fu A (a + 1) X) L F E := by rcases h with rfl | rfl | rfl | rfl | rfl | rfl | rfl | rfl | rfl <;> rfl
theorem sRw_ar1 (h : isRw a) : (HP I A L F E)[a + 1]? = some (.inr (.inl (0, A (a + 1)))) := by rcases h with rfl | rfl | rfl | rfl | rfl | rfl <;> rfl
theorem sRw_ast1 {X : List Int32} (h : isRw a) : (HP I A L F E).set (a + 1) (.inr (.inl (0, X))) = HP I (fu A (a + 1) X) L F E := by rcases h with rfl | rfl | rfl | rfl | rfl | rfl <;> rfl
theorem sRw_ar2 (h : isRw a) : (HP I A L F E)[a + 2]? = some (.inr (.inl (0, A (a + 2)))) := by rcases h with rfl | rfl | rfl | rfl | rfl | rfl <;> rfl
theorem sRw_ast2 {X : List Int32} (h : isRw a) : (HP I A L F E).set (a + 2) (.inr (.inl (0, X))) = HP I (fu A (a + 2) X) L F E := by rcases h with rfl | rfl | rfl | rfl | rfl | rfl <;> rfl
theorem sT_ar1 (h : isT a) : (HP I A L F E)[a + 1]? = some (.inr (.inr (.inl (L (a + 1))))) := by rcases h with rfl | rfl | rfl | rfl | rfl | rfl <;> rfl
theorem sT_ast1 {X : List Int64} (h : isT a) : (HP I A L F E).set (a + 1) (.inr (.inr (.inl X))) = HP I A (fu L (a + 1) X) F E := by rcases h with rfl | rfl | rfl | rfl | rfl | rfl <;> rfl
theorem sSy_obj (h : isSy a) : (HP I A L F E)[a]? = some (.inr (.inr (.inl (L a)))) := by rcases h with rfl | rfl | rfl | rfl | rfl | rfl <;> rfl
theorem sSy_ast {X : List Int64} (h : isSy a) : (HP I A L F E).set a (.inr (.inr (.inl X))) = HP I A (fu L a X) F E := by rcases h with rfl | rfl | rfl | rfl | rfl | rfl <;> rfl
theorem sMr_obj (h : isMr a) : (HP I A L F E)[a]? = some (.inr (.inr (.inl (L a)))) := by rcases h with rfl | rfl | rfl | rfl | rfl | rfl <;> rfl
theorem sMr_ast {X : List Int64} (h : isMr a) : (HP I A L F E).set a (.inr (.inr (.inl X))) = HP I A (fu L a X) F E := by rcases h with rfl | rfl | rfl | rfl | rfl | rfl <;> rfl
theorem sW_obj (h : isW a) : (HP I A L F E)[a]? = some (.inr (.inl (0, A a))) := by rcases h with rfl | rfl | rfl <;> rfl
theorem sW_ast {X : List Int32} (h : isW a) : (HP I A L F E).set a (.inr (.inl (0, X))) = HP I (fu A a X) L F E := by rcases h with rfl | rfl | rfl <;> rfl
end HPS
theorem ldR_mem {l : List (Option Nat)} {i : Int32} {a : Nat} (h : ldR l i = some a) : some a ∈ l := by
  unfold ldR at h
  split at h
  · cases h
  · cases hq : l[i.toNatClampNeg]? with
    | none => rw [hq] at h; cases h
    | some y =>
      rw [hq] at h
      have h : y = some a := h
      subst h
      exact List.mem_of_getElem? hq
theorem in_3 {i : Int32} {a : Nat} (h : ldR [some 14, some 16, some 18, some 20] i = some a) : isS a := by
  have := ldR_mem h
  simp at this
  unfold isS
  omega
theorem in_23 {i : Int32} {a : Nat} (h : ldR [some 34, some 36, some 38, some 40] i = some a) : isS a := by
  have := ldR_mem h
  simp at this
  unfold isS
  omega
theorem in_47 {i : Int32} {a : Nat} (h : ldR [some 72, some 74, some 76, some 78, some 80, some 82] i = some a) : isT a := by
  have := ldR_mem h
  simp at this
  unfold isT
  omega
theorem in_62 {i : Int32} {a : Nat} (h : ldR [some 63, some 64, some 65, some 66, some 67, some 68] i = some a) : isSy a := by
  have := ldR_mem h
  simp at this
  unfold isSy
  omega
theorem in_95 {i : Int32} {a : Nat} (h : ldR [some 96, some 97, some 98, some 99, some 100, some 101] i = some a) : isMr a := by
  have := ldR_mem h
  simp at this
  unfold isMr
  omega
theorem sg_retB {mi : Nat} {t : List (Nat × Act)} {pc : Nat} {L : ML} {h : MH} {b : Bool} (ht : ∀ pc, mm_act G0 mi pc = t.lookup pc) (e : t.lookup pc = some ac_retZ) : mm_run G0 mi pc L [.int (bi b)] h = some (some (.int (bi b)), h) := by
  refine mm_ret ((ht pc).trans e) ?_
  cases b <;> rfl
theorem sg_callV {mi : Nat} {t : List (Nat × Act)} {pc n : Nat} {L : ML} {h : MH} (ht : ∀ pc, mm_act G0 mi pc = t.lookup pc) {mj ci np b : Nat} {fs : List Value} {st as rest : List Value} (e : t.lookup pc = some (ac_callV mj ci np n)) (hd : st.drop np = .ref b :: rest) (ha : .ref b :: (st.take np).reverse = as) (hcat : mm_cat rest ≤ 8) (hc : h[b]? = some (.inl (ci, fs))) (hk : mm_rk G0 mj < mm_rk G0 mi ∧ (mm_ent as).length ≤ mm_ml G0 mj) : mm_run G0 mi pc L st h = (mm_call G0 mj as h).bind fun q => mm_run G0 mi n L (q.1.toList ++ rest) q.2 := by
  refine mm_cal ((ht pc).trans e) ?_ hk
  have hi : mm_is h b ci = true := by
    unfold mm_is
    rw [hc]
    exact beq_self_eq_true ci
  unfold ac_callV
  rw [hd]
  show (if _ then _ else _) = _
  rw [if_pos ⟨hcat, hi⟩, ha]
theorem ht_X0_init : ∀ pc, mm_act G0 1 pc = tb_X0_init.lookup pc := fun _ => rfl
theorem ht_X0_lay : ∀ pc, mm_act G0 2 pc = tb_X0_lay.lookup pc := fun _ => rfl
theorem ht_X0_next : ∀ pc, mm_act G0 3 pc = tb_X0_next.lookup pc := fun _ => rfl
theorem ht_X0_walk : ∀ pc, mm_act G0 4 pc = tb_X0_walk.lookup pc := fun _ => rfl
theorem ht_X0_walkOneStep : ∀ pc, mm_act G0 5 pc = tb_X0_walkOneStep.lookup pc := fun _ => rfl
theorem ht_X0_surelyEnds : ∀ pc, mm_act G0 6 pc = tb_X0_surelyEnds.lookup pc := fun _ => rfl
theorem ht_X0_spread : ∀ pc, mm_act G0 7 pc = tb_X0_spread.lookup pc := fun _ => rfl
theorem ht_X0_solve : ∀ pc, mm_act G0 8 pc = tb_X0_solve.lookup pc := fun _ => rfl
theorem ht_X0_rankReached : ∀ pc, mm_act G0 9 pc = tb_X0_rankReached.lookup pc := fun _ => rfl
theorem ht_X0_fillSystem : ∀ pc, mm_act G0 10 pc = tb_X0_fillSystem.lookup pc := fun _ => rfl
theorem ht_X0_eliminate : ∀ pc, mm_act G0 11 pc = tb_X0_eliminate.lookup pc := fun _ => rfl
theorem ht_X1_init : ∀ pc, mm_act G0 12 pc = tb_X1_init.lookup pc := fun _ => rfl
theorem ht_X1_begin : ∀ pc, mm_act G0 13 pc = tb_X1_begin.lookup pc := fun _ => rfl
theorem ht_X1_follow : ∀ pc, mm_act G0 14 pc = tb_X1_follow.lookup pc := fun _ => rfl
theorem ht_X1_alarmed : ∀ pc, mm_act G0 15 pc = tb_X1_alarmed.lookup pc := fun _ => rfl
theorem ht_X1_firstPlace : ∀ pc, mm_act G0 16 pc = tb_X1_firstPlace.lookup pc := fun _ => rfl
theorem ht_X1_alarmsAt : ∀ pc, mm_act G0 17 pc = tb_X1_alarmsAt.lookup pc := fun _ => rfl
theorem ht_X2_init : ∀ pc, mm_act G0 18 pc = tb_X2_init.lookup pc := fun _ => rfl
theorem ht_X2_clear : ∀ pc, mm_act G0 19 pc = tb_X2_clear.lookup pc := fun _ => rfl
theorem ht_X2_add : ∀ pc, mm_act G0 20 pc = tb_X2_add.lookup pc := fun _ => rfl
theorem ht_X2_become : ∀ pc, mm_act G0 21 pc = tb_X2_become.lookup pc := fun _ => rfl
theorem ht_X3_init : ∀ pc, mm_act G0 22 pc = tb_X3_init.lookup pc := fun _ => rfl
theorem ht_X3_become : ∀ pc, mm_act G0 23 pc = tb_X3_become.lookup pc := fun _ => rfl
theorem ht_X3_allValues : ∀ pc, mm_act G0 24 pc = tb_X3_allValues.lookup pc := fun _ => rfl
theorem ht_X3_jointPlaces : ∀ pc, mm_act G0 25 pc = tb_X3_jointPlaces.lookup pc := fun _ => rfl
theorem ht_X3_jointOffset : ∀ pc, mm_act G0 26 pc = tb_X3_jointOffset.lookup pc := fun _ => rfl
theorem ht_X3_jointSetting : ∀ pc, mm_act G0 27 pc = tb_X3_jointSetting.lookup pc := fun _ => rfl
theorem ht_X4_init : ∀ pc, mm_act G0 28 pc = tb_X4_init.lookup pc := fun _ => rfl
theorem ht_X4_isFull : ∀ pc, mm_act G0 29 pc = tb_X4_isFull.lookup pc := fun _ => rfl
theorem ht_X4_has : ∀ pc, mm_act G0 30 pc = tb_X4_has.lookup pc := fun _ => rfl
theorem ht_X4_add : ∀ pc, mm_act G0 31 pc = tb_X4_add.lookup pc := fun _ => rfl
theorem ht_X4_loseFirst : ∀ pc, mm_act G0 32 pc = tb_X4_loseFirst.lookup pc := fun _ => rfl
theorem ht_X4_become : ∀ pc, mm_act G0 33 pc = tb_X4_become.lookup pc := fun _ => rfl
theorem ht_X4_setting : ∀ pc, mm_act G0 34 pc = tb_X4_setting.lookup pc := fun _ => rfl
theorem ht_X4_settle : ∀ pc, mm_act G0 35 pc = tb_X4_settle.lookup pc := fun _ => rfl
theorem ht_X4_startBy : ∀ pc, mm_act G0 36 pc = tb_X4_startBy.lookup pc := fun _ => rfl
theorem ht_X4_offset : ∀ pc, mm_act G0 37 pc = tb_X4_offset.lookup pc := fun _ => rfl
theorem ht_X4_total : ∀ pc, mm_act G0 38 pc = tb_X4_total.lookup pc := fun _ => rfl
theorem ht_X4_gainAbove : ∀ pc, mm_act G0 39 pc = tb_X4_gainAbove.lookup pc := fun _ => rfl
theorem ht_X4_gainBelow : ∀ pc, mm_act G0 40 pc = tb_X4_gainBelow.lookup pc := fun _ => rfl
theorem ht_X4_squareApart : ∀ pc, mm_act G0 41 pc = tb_X4_squareApart.lookup pc := fun _ => rfl
theorem ht_X4_changePlace : ∀ pc, mm_act G0 42 pc = tb_X4_changePlace.lookup pc := fun _ => rfl
theorem ht_X5_init : ∀ pc, mm_act G0 43 pc = tb_X5_init.lookup pc := fun _ => rfl
theorem ht_X5_lay : ∀ pc, mm_act G0 44 pc = tb_X5_lay.lookup pc := fun _ => rfl
theorem ht_X5_has : ∀ pc, mm_act G0 45 pc = tb_X5_has.lookup pc := fun _ => rfl
theorem ht_X5_holds : ∀ pc, mm_act G0 46 pc = tb_X5_holds.lookup pc := fun _ => rfl
theorem ht_X5_narrowed : ∀ pc, mm_act G0 47 pc = tb_X5_narrowed.lookup pc := fun _ => rfl
theorem ht_X6_init : ∀ pc, mm_act G0 48 pc = tb_X6_init.lookup pc := fun _ => rfl
theorem ht_X6_add : ∀ pc, mm_act G0 49 pc = tb_X6_add.lookup pc := fun _ => rfl
theorem ht_X6_fault : ∀ pc, mm_act G0 50 pc = tb_X6_fault.lookup pc := fun _ => rfl
theorem ht_X6_take : ∀ pc, mm_act G0 51 pc = tb_X6_take.lookup pc := fun _ => rfl
theorem ht_X6_takeLetter : ∀ pc, mm_act G0 52 pc = tb_X6_takeLetter.lookup pc := fun _ => rfl
theorem ht_X6_takeWhich : ∀ pc, mm_act G0 53 pc = tb_X6_takeWhich.lookup pc := fun _ => rfl
theorem ht_X6_takeDigit : ∀ pc, mm_act G0 54 pc = tb_X6_takeDigit.lookup pc := fun _ => rfl
theorem ht_X6_takeEnd : ∀ pc, mm_act G0 55 pc = tb_X6_takeEnd.lookup pc := fun _ => rfl
theorem ht_X6_takesNumber : ∀ pc, mm_act G0 56 pc = tb_X6_takesNumber.lookup pc := fun _ => rfl
theorem ht_X6_isDigit : ∀ pc, mm_act G0 57 pc = tb_X6_isDigit.lookup pc := fun _ => rfl
theorem ht_X7_init : ∀ pc, mm_act G0 58 pc = tb_X7_init.lookup pc := fun _ => rfl
theorem ht_X7_value : ∀ pc, mm_act G0 59 pc = tb_X7_value.lookup pc := fun _ => rfl
theorem ht_X7_drop : ∀ pc, mm_act G0 60 pc = tb_X7_drop.lookup pc := fun _ => rfl
theorem ht_X7_set : ∀ pc, mm_act G0 61 pc = tb_X7_set.lookup pc := fun _ => rfl
theorem ht_X7_of : ∀ pc, mm_act G0 62 pc = tb_X7_of.lookup pc := fun _ => rfl
theorem ht_X7_at : ∀ pc, mm_act G0 63 pc = tb_X7_at.lookup pc := fun _ => rfl
theorem ht_X7_off : ∀ pc, mm_act G0 64 pc = tb_X7_off.lookup pc := fun _ => rfl
theorem ht_X7_feed : ∀ pc, mm_act G0 65 pc = tb_X7_feed.lookup pc := fun _ => rfl
theorem ht_X7_read : ∀ pc, mm_act G0 66 pc = tb_X7_read.lookup pc := fun _ => rfl
theorem ht_X7_sum : ∀ pc, mm_act G0 67 pc = tb_X7_sum.lookup pc := fun _ => rfl
theorem ht_X7_alarms : ∀ pc, mm_act G0 68 pc = tb_X7_alarms.lookup pc := fun _ => rfl
theorem ht_X7_alarm : ∀ pc, mm_act G0 69 pc = tb_X7_alarm.lookup pc := fun _ => rfl
theorem ht_X7_latest : ∀ pc, mm_act G0 70 pc = tb_X7_latest.lookup pc := fun _ => rfl
theorem ht_X7_joint : ∀ pc, mm_act G0 71 pc = tb_X7_joint.lookup pc := fun _ => rfl
theorem ht_X7_change : ∀ pc, mm_act G0 72 pc = tb_X7_change.lookup pc := fun _ => rfl
theorem ht_X7_gain : ∀ pc, mm_act G0 73 pc = tb_X7_gain.lookup pc := fun _ => rfl
theorem ht_X7_weight : ∀ pc, mm_act G0 74 pc = tb_X7_weight.lookup pc := fun _ => rfl
theorem ht_X7_weighs : ∀ pc, mm_act G0 75 pc = tb_X7_weighs.lookup pc := fun _ => rfl
theorem ht_X7_run : ∀ pc, mm_act G0 76 pc = tb_X7_run.lookup pc := fun _ => rfl
theorem ht_X7_likely : ∀ pc, mm_act G0 77 pc = tb_X7_likely.lookup pc := fun _ => rfl
theorem ht_X7_would : ∀ pc, mm_act G0 78 pc = tb_X7_would.lookup pc := fun _ => rfl
theorem ht_X7_quiet : ∀ pc, mm_act G0 79 pc = tb_X7_quiet.lookup pc := fun _ => rfl
theorem ht_X7_see : ∀ pc, mm_act G0 80 pc = tb_X7_see.lookup pc := fun _ => rfl
theorem ht_X7_fits : ∀ pc, mm_act G0 81 pc = tb_X7_fits.lookup pc := fun _ => rfl
theorem ht_X7_odds : ∀ pc, mm_act G0 82 pc = tb_X7_odds.lookup pc := fun _ => rfl
theorem ht_X7_mean : ∀ pc, mm_act G0 83 pc = tb_X7_mean.lookup pc := fun _ => rfl
theorem ht_X7_plan : ∀ pc, mm_act G0 84 pc = tb_X7_plan.lookup pc := fun _ => rfl
theorem ht_X7_ends : ∀ pc, mm_act G0 85 pc = tb_X7_ends.lookup pc := fun _ => rfl
theorem ht_X7_book : ∀ pc, mm_act G0 86 pc = tb_X7_book.lookup pc := fun _ => rfl
theorem ht_X7_looked : ∀ pc, mm_act G0 87 pc = tb_X7_looked.lookup pc := fun _ => rfl
theorem ht_X7_judge : ∀ pc, mm_act G0 88 pc = tb_X7_judge.lookup pc := fun _ => rfl
theorem ht_X7_image : ∀ pc, mm_act G0 89 pc = tb_X7_image.lookup pc := fun _ => rfl
theorem ht_X7_undo : ∀ pc, mm_act G0 90 pc = tb_X7_undo.lookup pc := fun _ => rfl
theorem ht_X7_count : ∀ pc, mm_act G0 91 pc = tb_X7_count.lookup pc := fun _ => rfl
theorem ht_X7_tape : ∀ pc, mm_act G0 92 pc = tb_X7_tape.lookup pc := fun _ => rfl
theorem ht_X7_item : ∀ pc, mm_act G0 93 pc = tb_X7_item.lookup pc := fun _ => rfl
theorem ht_X7_peek : ∀ pc, mm_act G0 94 pc = tb_X7_peek.lookup pc := fun _ => rfl
theorem ht_X7_shift : ∀ pc, mm_act G0 95 pc = tb_X7_shift.lookup pc := fun _ => rfl
theorem ht_X7_isStream : ∀ pc, mm_act G0 96 pc = tb_X7_isStream.lookup pc := fun _ => rfl
theorem ht_X7_isTape : ∀ pc, mm_act G0 97 pc = tb_X7_isTape.lookup pc := fun _ => rfl
theorem ht_X7_isStep : ∀ pc, mm_act G0 98 pc = tb_X7_isStep.lookup pc := fun _ => rfl
theorem ht_X7_isPart : ∀ pc, mm_act G0 99 pc = tb_X7_isPart.lookup pc := fun _ => rfl
theorem ht_X7_isValue : ∀ pc, mm_act G0 100 pc = tb_X7_isValue.lookup pc := fun _ => rfl
theorem ht_X7_isSetting : ∀ pc, mm_act G0 101 pc = tb_X7_isSetting.lookup pc := fun _ => rfl
theorem ht_X7_isPlannable : ∀ pc, mm_act G0 102 pc = tb_X7_isPlannable.lookup pc := fun _ => rfl
theorem ht_X7_lowest : ∀ pc, mm_act G0 103 pc = tb_X7_lowest.lookup pc := fun _ => rfl
theorem ht_X7_obey : ∀ pc, mm_act G0 104 pc = tb_X7_obey.lookup pc := fun _ => rfl
theorem ht_X7_drawNow : ∀ pc, mm_act G0 105 pc = tb_X7_drawNow.lookup pc := fun _ => rfl
theorem ht_X7_draw : ∀ pc, mm_act G0 106 pc = tb_X7_draw.lookup pc := fun _ => rfl
theorem ht_X7_drawJoint : ∀ pc, mm_act G0 107 pc = tb_X7_drawJoint.lookup pc := fun _ => rfl
theorem ht_X7_showsSeen : ∀ pc, mm_act G0 108 pc = tb_X7_showsSeen.lookup pc := fun _ => rfl
theorem ht_X7_followPlan : ∀ pc, mm_act G0 109 pc = tb_X7_followPlan.lookup pc := fun _ => rfl
theorem ht_X7_layChain : ∀ pc, mm_act G0 110 pc = tb_X7_layChain.lookup pc := fun _ => rfl
theorem ht_X8_init : ∀ pc, mm_act G0 111 pc = tb_X8_init.lookup pc := fun _ => rfl
theorem ht_X8_base : ∀ pc, mm_act G0 112 pc = tb_X8_base.lookup pc := fun _ => rfl
theorem ht_X8_isIn : ∀ pc, mm_act G0 113 pc = tb_X8_isIn.lookup pc := fun _ => rfl
theorem ht_X8_isStream : ∀ pc, mm_act G0 114 pc = tb_X8_isStream.lookup pc := fun _ => rfl
theorem ht_X8_many : ∀ pc, mm_act G0 115 pc = tb_X8_many.lookup pc := fun _ => rfl
theorem ht_X8_isPlace : ∀ pc, mm_act G0 116 pc = tb_X8_isPlace.lookup pc := fun _ => rfl
theorem ht_X8_passes : ∀ pc, mm_act G0 117 pc = tb_X8_passes.lookup pc := fun _ => rfl
theorem ht_X8_comes : ∀ pc, mm_act G0 118 pc = tb_X8_comes.lookup pc := fun _ => rfl
theorem ht_X8_value : ∀ pc, mm_act G0 119 pc = tb_X8_value.lookup pc := fun _ => rfl
theorem ht_X8_drop : ∀ pc, mm_act G0 120 pc = tb_X8_drop.lookup pc := fun _ => rfl
theorem ht_X8_isFit : ∀ pc, mm_act G0 121 pc = tb_X8_isFit.lookup pc := fun _ => rfl
theorem ht_X8_set : ∀ pc, mm_act G0 122 pc = tb_X8_set.lookup pc := fun _ => rfl
theorem ht_X8_startOf : ∀ pc, mm_act G0 123 pc = tb_X8_startOf.lookup pc := fun _ => rfl
theorem ht_X8_of : ∀ pc, mm_act G0 124 pc = tb_X8_of.lookup pc := fun _ => rfl
theorem ht_X8_valueAt : ∀ pc, mm_act G0 125 pc = tb_X8_valueAt.lookup pc := fun _ => rfl
theorem ht_X8_offAt : ∀ pc, mm_act G0 126 pc = tb_X8_offAt.lookup pc := fun _ => rfl
theorem ht_X8_at : ∀ pc, mm_act G0 127 pc = tb_X8_at.lookup pc := fun _ => rfl
theorem ht_X8_off : ∀ pc, mm_act G0 128 pc = tb_X8_off.lookup pc := fun _ => rfl
theorem ht_X8_feed : ∀ pc, mm_act G0 129 pc = tb_X8_feed.lookup pc := fun _ => rfl
theorem ht_X8_isSign : ∀ pc, mm_act G0 130 pc = tb_X8_isSign.lookup pc := fun _ => rfl
theorem ht_X8_digit : ∀ pc, mm_act G0 131 pc = tb_X8_digit.lookup pc := fun _ => rfl
theorem ht_X8_number : ∀ pc, mm_act G0 132 pc = tb_X8_number.lookup pc := fun _ => rfl
theorem ht_X8_readsClause : ∀ pc, mm_act G0 133 pc = tb_X8_readsClause.lookup pc := fun _ => rfl
theorem ht_X8_readsText : ∀ pc, mm_act G0 134 pc = tb_X8_readsText.lookup pc := fun _ => rfl
theorem ht_X8_isDone : ∀ pc, mm_act G0 135 pc = tb_X8_isDone.lookup pc := fun _ => rfl
theorem ht_X8_read : ∀ pc, mm_act G0 136 pc = tb_X8_read.lookup pc := fun _ => rfl
theorem ht_X8_goesOn : ∀ pc, mm_act G0 137 pc = tb_X8_goesOn.lookup pc := fun _ => rfl
theorem ht_X8_goesThrough : ∀ pc, mm_act G0 138 pc = tb_X8_goesThrough.lookup pc := fun _ => rfl
theorem ht_X8_firstAlarm : ∀ pc, mm_act G0 139 pc = tb_X8_firstAlarm.lookup pc := fun _ => rfl
theorem ht_X8_sum : ∀ pc, mm_act G0 140 pc = tb_X8_sum.lookup pc := fun _ => rfl
theorem ht_X8_alarms : ∀ pc, mm_act G0 141 pc = tb_X8_alarms.lookup pc := fun _ => rfl
theorem ht_X8_alarm : ∀ pc, mm_act G0 142 pc = tb_X8_alarm.lookup pc := fun _ => rfl
theorem ht_X8_latest : ∀ pc, mm_act G0 143 pc = tb_X8_latest.lookup pc := fun _ => rfl
theorem ht_X8_goesJoint : ∀ pc, mm_act G0 144 pc = tb_X8_goesJoint.lookup pc := fun _ => rfl
theorem ht_X8_joint : ∀ pc, mm_act G0 145 pc = tb_X8_joint.lookup pc := fun _ => rfl
theorem ht_X8_total : ∀ pc, mm_act G0 146 pc = tb_X8_total.lookup pc := fun _ => rfl
theorem ht_X8_gainAbove : ∀ pc, mm_act G0 147 pc = tb_X8_gainAbove.lookup pc := fun _ => rfl
theorem ht_X8_gainBelow : ∀ pc, mm_act G0 148 pc = tb_X8_gainBelow.lookup pc := fun _ => rfl
theorem ht_X8_changeOf : ∀ pc, mm_act G0 149 pc = tb_X8_changeOf.lookup pc := fun _ => rfl
theorem ht_X8_change : ∀ pc, mm_act G0 150 pc = tb_X8_change.lookup pc := fun _ => rfl
theorem ht_X8_common : ∀ pc, mm_act G0 151 pc = tb_X8_common.lookup pc := fun _ => rfl
theorem ht_X8_partOf : ∀ pc, mm_act G0 152 pc = tb_X8_partOf.lookup pc := fun _ => rfl
theorem ht_X8_gain : ∀ pc, mm_act G0 153 pc = tb_X8_gain.lookup pc := fun _ => rfl
theorem ht_X8_weight : ∀ pc, mm_act G0 154 pc = tb_X8_weight.lookup pc := fun _ => rfl
theorem ht_X8_weighs : ∀ pc, mm_act G0 155 pc = tb_X8_weighs.lookup pc := fun _ => rfl
theorem ht_X8_allWeights : ∀ pc, mm_act G0 156 pc = tb_X8_allWeights.lookup pc := fun _ => rfl
theorem ht_X8_leads : ∀ pc, mm_act G0 157 pc = tb_X8_leads.lookup pc := fun _ => rfl
theorem ht_X8_reaches : ∀ pc, mm_act G0 158 pc = tb_X8_reaches.lookup pc := fun _ => rfl
theorem ht_X8_isChain : ∀ pc, mm_act G0 159 pc = tb_X8_isChain.lookup pc := fun _ => rfl
theorem ht_X8_equations : ∀ pc, mm_act G0 160 pc = tb_X8_equations.lookup pc := fun _ => rfl
theorem ht_X8_swaps : ∀ pc, mm_act G0 161 pc = tb_X8_swaps.lookup pc := fun _ => rfl
theorem ht_X8_clears : ∀ pc, mm_act G0 162 pc = tb_X8_clears.lookup pc := fun _ => rfl
theorem ht_X8_run : ∀ pc, mm_act G0 163 pc = tb_X8_run.lookup pc := fun _ => rfl
theorem ht_X8_likely : ∀ pc, mm_act G0 164 pc = tb_X8_likely.lookup pc := fun _ => rfl
theorem ht_X8_firstBy : ∀ pc, mm_act G0 165 pc = tb_X8_firstBy.lookup pc := fun _ => rfl
theorem ht_X8_would : ∀ pc, mm_act G0 166 pc = tb_X8_would.lookup pc := fun _ => rfl
theorem ht_X8_quiet : ∀ pc, mm_act G0 167 pc = tb_X8_quiet.lookup pc := fun _ => rfl
theorem ht_X8_row : ∀ pc, mm_act G0 168 pc = tb_X8_row.lookup pc := fun _ => rfl
theorem ht_X8_see : ∀ pc, mm_act G0 169 pc = tb_X8_see.lookup pc := fun _ => rfl
theorem ht_X8_isAlarmAt : ∀ pc, mm_act G0 170 pc = tb_X8_isAlarmAt.lookup pc := fun _ => rfl
theorem ht_X8_isAllSeen : ∀ pc, mm_act G0 171 pc = tb_X8_isAllSeen.lookup pc := fun _ => rfl
theorem ht_X8_fits : ∀ pc, mm_act G0 172 pc = tb_X8_fits.lookup pc := fun _ => rfl
theorem ht_X8_odds : ∀ pc, mm_act G0 173 pc = tb_X8_odds.lookup pc := fun _ => rfl
theorem ht_X8_mean : ∀ pc, mm_act G0 174 pc = tb_X8_mean.lookup pc := fun _ => rfl
theorem ht_X8_plan : ∀ pc, mm_act G0 175 pc = tb_X8_plan.lookup pc := fun _ => rfl
theorem ht_X8_goes : ∀ pc, mm_act G0 176 pc = tb_X8_goes.lookup pc := fun _ => rfl
theorem ht_X8_ends : ∀ pc, mm_act G0 177 pc = tb_X8_ends.lookup pc := fun _ => rfl
theorem ht_X8_book : ∀ pc, mm_act G0 178 pc = tb_X8_book.lookup pc := fun _ => rfl
theorem ht_X8_looked : ∀ pc, mm_act G0 179 pc = tb_X8_looked.lookup pc := fun _ => rfl
theorem ht_X8_isTape : ∀ pc, mm_act G0 180 pc = tb_X8_isTape.lookup pc := fun _ => rfl
theorem ht_X8_judge : ∀ pc, mm_act G0 181 pc = tb_X8_judge.lookup pc := fun _ => rfl
theorem ht_X8_allValues : ∀ pc, mm_act G0 182 pc = tb_X8_allValues.lookup pc := fun _ => rfl
theorem ht_X8_image : ∀ pc, mm_act G0 183 pc = tb_X8_image.lookup pc := fun _ => rfl
theorem ht_X8_undo : ∀ pc, mm_act G0 184 pc = tb_X8_undo.lookup pc := fun _ => rfl
theorem ht_X8_count : ∀ pc, mm_act G0 185 pc = tb_X8_count.lookup pc := fun _ => rfl
theorem ht_X8_tape : ∀ pc, mm_act G0 186 pc = tb_X8_tape.lookup pc := fun _ => rfl
theorem ht_X8_lowest : ∀ pc, mm_act G0 187 pc = tb_X8_lowest.lookup pc := fun _ => rfl
theorem ht_X8_item : ∀ pc, mm_act G0 188 pc = tb_X8_item.lookup pc := fun _ => rfl
theorem ht_X8_peek : ∀ pc, mm_act G0 189 pc = tb_X8_peek.lookup pc := fun _ => rfl
theorem ht_X8_shift : ∀ pc, mm_act G0 190 pc = tb_X8_shift.lookup pc := fun _ => rfl
