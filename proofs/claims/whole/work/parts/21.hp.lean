/-! the picture of the heap behind the constructors: I int fields (100 a + k), A int arrays, L long arrays, F long fields, E what was made later -/
def HP (I : Nat → Int32) (A : Nat → List Int32) (L : Nat → List Int64) (F : Nat → Int64) (E : MH) : MH :=
  mm_dummy ::
  .inl (7, [.ref 2, .ref 22, .int (I 102), .ref 42, .ref 47, .ref 48, .ref 54, .ref 69, .ref 71]) ::
  .inl (3, [.ref 3, .ref 4, .ref 5, .ref 8, .ref 11]) ::
  .inr (.inr (.inr (3, [some 14, some 16, some 18, some 20]))) ::
  .inr (.inl (0, A 4)) ::
  .inl (2, [.ref 6, .ref 7, .int 6, .int (I 503)]) ::
  .inr (.inl (0, A 6)) ::
  .inr (.inl (0, A 7)) ::
  .inl (2, [.ref 9, .ref 10, .int 8, .int (I 803)]) ::
  .inr (.inl (0, A 9)) ::
  .inr (.inl (0, A 10)) ::
  .inl (2, [.ref 12, .ref 13, .int 8, .int (I 1103)]) ::
  .inr (.inl (0, A 12)) ::
  .inr (.inl (0, A 13)) ::
  .inl (4, [.int (I 1400), .int (I 1401), .int (I 1402), .int (I 1403), .int (I 1404), .ref 15]) ::
  .inr (.inl (0, A 15)) ::
  .inl (4, [.int (I 1600), .int (I 1601), .int (I 1602), .int (I 1603), .int (I 1604), .ref 17]) ::
  .inr (.inl (0, A 17)) ::
  .inl (4, [.int (I 1800), .int (I 1801), .int (I 1802), .int (I 1803), .int (I 1804), .ref 19]) ::
  .inr (.inl (0, A 19)) ::
  .inl (4, [.int (I 2000), .int (I 2001), .int (I 2002), .int (I 2003), .int (I 2004), .ref 21]) ::
  .inr (.inl (0, A 21)) ::
  .inl (3, [.ref 23, .ref 24, .ref 25, .ref 28, .ref 31]) ::
  .inr (.inr (.inr (3, [some 34, some 36, some 38, some 40]))) ::
  .inr (.inl (0, A 24)) ::
  .inl (2, [.ref 26, .ref 27, .int 6, .int (I 2503)]) ::
  .inr (.inl (0, A 26)) ::
  .inr (.inl (0, A 27)) ::
  .inl (2, [.ref 29, .ref 30, .int 8, .int (I 2803)]) ::
  .inr (.inl (0, A 29)) ::
  .inr (.inl (0, A 30)) ::
  .inl (2, [.ref 32, .ref 33, .int 8, .int (I 3103)]) ::
  .inr (.inl (0, A 32)) ::
  .inr (.inl (0, A 33)) ::
  .inl (4, [.int (I 3400), .int (I 3401), .int (I 3402), .int (I 3403), .int (I 3404), .ref 35]) ::
  .inr (.inl (0, A 35)) ::
  .inl (4, [.int (I 3600), .int (I 3601), .int (I 3602), .int (I 3603), .int (I 3604), .ref 37]) ::
  .inr (.inl (0, A 37)) ::
  .inl (4, [.int (I 3800), .int (I 3801), .int (I 3802), .int (I 3803), .int (I 3804), .ref 39]) ::
  .inr (.inl (0, A 39)) ::
  .inl (4, [.int (I 4000), .int (I 4001), .int (I 4002), .int (I 4003), .int (I 4004), .ref 41]) ::
  .inr (.inl (0, A 41)) ::
  .inl (6, [.ref 43, .int (I 4201), .int (I 4202), .ref 44, .ref 45, .ref 46, .int (I 4206)]) ::
  .inr (.inl (0, A 43)) ::
  .inr (.inl (0, A 44)) ::
  .inr (.inl (0, A 45)) ::
  .inr (.inl (0, A 46)) ::
  .inr (.inr (.inr (4, [some 72, some 74, some 76, some 78, some 80, some 82]))) ::
  .inl (1, [.int (I 4800), .int (I 4801), .int (I 4802), .int (I 4803), .ref 49, .ref 50, .int (I 4806), .ref 51, .ref 52, .ref 53]) ::
  .inr (.inl (0, A 49)) ::
  .inr (.inl (0, A 50)) ::
  .inr (.inl (0, A 51)) ::
  .inr (.inl (0, A 52)) ::
  .inr (.inl (0, A 53)) ::
  .inl (0, [.int (I 5400), .int (I 5401), .ref 55, .int (I 5403), .long (F 5404), .long (F 5405), .ref 56, .ref 57, .ref 58, .ref 59, .ref 60, .ref 61, .ref 62]) ::
  .inr (.inl (0, A 55)) ::
  .inr (.inr (.inl (L 56))) ::
  .inr (.inr (.inl (L 57))) ::
  .inr (.inl (1, A 58)) ::
  .inr (.inl (1, A 59)) ::
  .inr (.inl (0, A 60)) ::
  .inr (.inl (0, A 61)) ::
  .inr (.inr (.inr (5, [some 63, some 64, some 65, some 66, some 67, some 68]))) ::
  .inr (.inr (.inl (L 63))) ::
  .inr (.inr (.inl (L 64))) ::
  .inr (.inr (.inl (L 65))) ::
  .inr (.inr (.inl (L 66))) ::
  .inr (.inr (.inl (L 67))) ::
  .inr (.inr (.inl (L 68))) ::
  .inl (4, [.int (I 6900), .int (I 6901), .int (I 6902), .int (I 6903), .int (I 6904), .ref 70]) ::
  .inr (.inl (0, A 70)) ::
  .inr (.inl (0, A 71)) ::
  .inl (5, [.int (I 7200), .int (I 7201), .ref 73]) ::
  .inr (.inr (.inl (L 73))) ::
  .inl (5, [.int (I 7400), .int (I 7401), .ref 75]) ::
  .inr (.inr (.inl (L 75))) ::
  .inl (5, [.int (I 7600), .int (I 7601), .ref 77]) ::
  .inr (.inr (.inl (L 77))) ::
  .inl (5, [.int (I 7800), .int (I 7801), .ref 79]) ::
  .inr (.inr (.inl (L 79))) ::
  .inl (5, [.int (I 8000), .int (I 8001), .ref 81]) ::
  .inr (.inr (.inl (L 81))) ::
  .inl (5, [.int (I 8200), .int (I 8201), .ref 83]) ::
  .inr (.inr (.inl (L 83))) ::
  .inl (8, [.ref 85, .ref 86, .ref 87, .int (I 8403), .ref 88, .int (I 8405), .int (I 8406), .int (I 8407), .ref 89, .int (I 8409), .ref 90, .ref 91, .ref 92, .ref 93, .ref 94, .int (I 8415), .int (I 8416), .int (I 8417), .ref 95, .ref 102, .ref 103, .ref 104]) ::
  .inr (.inl (0, A 85)) ::
  .inr (.inl (0, A 86)) ::
  .inr (.inl (0, A 87)) ::
  .inr (.inl (0, A 88)) ::
  .inr (.inl (0, A 89)) ::
  .inr (.inl (0, A 90)) ::
  .inr (.inl (0, A 91)) ::
  .inr (.inl (0, A 92)) ::
  .inr (.inl (0, A 93)) ::
  .inr (.inl (0, A 94)) ::
  .inr (.inr (.inr (5, [some 96, some 97, some 98, some 99, some 100, some 101]))) ::
  .inr (.inr (.inl (L 96))) ::
  .inr (.inr (.inl (L 97))) ::
  .inr (.inr (.inl (L 98))) ::
  .inr (.inr (.inl (L 99))) ::
  .inr (.inr (.inl (L 100))) ::
  .inr (.inr (.inl (L 101))) ::
  .inr (.inl (0, A 102)) ::
  .inr (.inl (0, A 103)) ::
  .inr (.inr (.inl (L 104))) :: E
def isS (a : Nat) : Prop := a = 14 ∨ a = 16 ∨ a = 18 ∨ a = 20 ∨ a = 34 ∨ a = 36 ∨ a = 38 ∨ a = 40 ∨ a = 69
def isRw (a : Nat) : Prop := a = 5 ∨ a = 8 ∨ a = 11 ∨ a = 25 ∨ a = 28 ∨ a = 31
def isT (a : Nat) : Prop := a = 72 ∨ a = 74 ∨ a = 76 ∨ a = 78 ∨ a = 80 ∨ a = 82
def isSy (a : Nat) : Prop := a = 63 ∨ a = 64 ∨ a = 65 ∨ a = 66 ∨ a = 67 ∨ a = 68
def isMr (a : Nat) : Prop := a = 96 ∨ a = 97 ∨ a = 98 ∨ a = 99 ∨ a = 100 ∨ a = 101
def isW (a : Nat) : Prop := a = 85 ∨ a = 86 ∨ a = 87
def rwM (a : Nat) : Int32 := if a = 5 ∨ a = 25 then 6 else 8
section HPS
variable {I : Nat → Int32} {A : Nat → List Int32} {L : Nat → List Int64} {F : Nat → Int64} {E : MH} {a : Nat}
theorem sS_obj (h : isS a) : (HP I A L F E)[a]? = some (.inl (4, [.int (I (100 * a + 0)), .int (I (100 * a + 1)), .int (I (100 * a + 2)), .int (I (100 * a + 3)), .int (I (100 * a + 4)), .ref (a + 1)])) := by rcases h with rfl | rfl | rfl | rfl | rfl | rfl | rfl | rfl | rfl <;> rfl
theorem sS_put0 {x : Int32} (h : isS a) : (HP I A L F E).set a (.inl (4, List.set [.int (I (100 * a + 0)), .int (I (100 * a + 1)), .int (I (100 * a + 2)), .int (I (100 * a + 3)), .int (I (100 * a + 4)), .ref (a + 1)] 0 (.int x))) = HP (fu I (100 * a + 0) x) A L F E := by rcases h with rfl | rfl | rfl | rfl | rfl | rfl | rfl | rfl | rfl <;> rfl
theorem sS_put1 {x : Int32} (h : isS a) : (HP I A L F E).set a (.inl (4, List.set [.int (I (100 * a + 0)), .int (I (100 * a + 1)), .int (I (100 * a + 2)), .int (I (100 * a + 3)), .int (I (100 * a + 4)), .ref (a + 1)] 1 (.int x))) = HP (fu I (100 * a + 1) x) A L F E := by rcases h with rfl | rfl | rfl | rfl | rfl | rfl | rfl | rfl | rfl <;> rfl
theorem sS_put2 {x : Int32} (h : isS a) : (HP I A L F E).set a (.inl (4, List.set [.int (I (100 * a + 0)), .int (I (100 * a + 1)), .int (I (100 * a + 2)), .int (I (100 * a + 3)), .int (I (100 * a + 4)), .ref (a + 1)] 2 (.int x))) = HP (fu I (100 * a + 2) x) A L F E := by rcases h with rfl | rfl | rfl | rfl | rfl | rfl | rfl | rfl | rfl <;> rfl
theorem sS_put3 {x : Int32} (h : isS a) : (HP I A L F E).set a (.inl (4, List.set [.int (I (100 * a + 0)), .int (I (100 * a + 1)), .int (I (100 * a + 2)), .int (I (100 * a + 3)), .int (I (100 * a + 4)), .ref (a + 1)] 3 (.int x))) = HP (fu I (100 * a + 3) x) A L F E := by rcases h with rfl | rfl | rfl | rfl | rfl | rfl | rfl | rfl | rfl <;> rfl
theorem sS_put4 {x : Int32} (h : isS a) : (HP I A L F E).set a (.inl (4, List.set [.int (I (100 * a + 0)), .int (I (100 * a + 1)), .int (I (100 * a + 2)), .int (I (100 * a + 3)), .int (I (100 * a + 4)), .ref (a + 1)] 4 (.int x))) = HP (fu I (100 * a + 4) x) A L F E := by rcases h with rfl | rfl | rfl | rfl | rfl | rfl | rfl | rfl | rfl <;> rfl
theorem sRw_obj (h : isRw a) : (HP I A L F E)[a]? = some (.inl (2, [.ref (a + 1), .ref (a + 2), .int (rwM a), .int (I (100 * a + 3))])) := by rcases h with rfl | rfl | rfl | rfl | rfl | rfl <;> rfl
theorem sRw_put3 {x : Int32} (h : isRw a) : (HP I A L F E).set a (.inl (2, List.set [.ref (a + 1), .ref (a + 2), .int (rwM a), .int (I (100 * a + 3))] 3 (.int x))) = HP (fu I (100 * a + 3) x) A L F E := by rcases h with rfl | rfl | rfl | rfl | rfl | rfl <;> rfl
theorem sT_obj (h : isT a) : (HP I A L F E)[a]? = some (.inl (5, [.int (I (100 * a + 0)), .int (I (100 * a + 1)), .ref (a + 1)])) := by rcases h with rfl | rfl | rfl | rfl | rfl | rfl <;> rfl
theorem sT_put0 {x : Int32} (h : isT a) : (HP I A L F E).set a (.inl (5, List.set [.int (I (100 * a + 0)), .int (I (100 * a + 1)), .ref (a + 1)] 0 (.int x))) = HP (fu I (100 * a + 0) x) A L F E := by rcases h with rfl | rfl | rfl | rfl | rfl | rfl <;> rfl
theorem sT_put1 {x : Int32} (h : isT a) : (HP I A L F E).set a (.inl (5, List.set [.int (I (100 * a + 0)), .int (I (100 * a + 1)), .ref (a + 1)] 1 (.int x))) = HP (fu I (100 * a + 1) x) A L F E := by rcases h with rfl | rfl | rfl | rfl | rfl | rfl <;> rfl
theorem sS_ar1 (h : isS a) : (HP I A L F E)[a + 1]? = some (.inr (.inl (0, A (a + 1)))) := by rcases h with rfl | rfl | rfl | rfl | rfl | rfl | rfl | rfl | rfl <;> rfl
theorem sS_ast1 {X : List Int32} (h : isS a) : (HP I A L F E).set (a + 1) (.inr (.inl (0, X))) = HP I (fu A (a + 1) X) L F E := by rcases h with rfl | rfl | rfl | rfl | rfl | rfl | rfl | rfl | rfl <;> rfl
theorem sRw_ar1 (h : isRw a) : (HP I A L F E)[a + 1]? = some (.inr (.inl (0, A (a + 1)))) := by rcases h with rfl | rfl | rfl | rfl | rfl | rfl <;> rfl
theorem sRw_ast1 {X : List Int32} (h : isRw a) : (HP I A L F E).set (a + 1) (.inr (.inl (0, X))) = HP I (fu A (a + 1) X) L F E := by rcases h with rfl | rfl | rfl | rfl | rfl | rfl <;> rfl
theorem sRw_ar2 (h : isRw a) : (HP I A L F E)[a + 2]? = some (.inr (.inl (0, A (a + 2)))) := by rcases h with rfl | rfl | rfl | rfl | rfl | rfl <;> rfl
theorem sRw_ast2 {X : List Int32} (h : isRw a) : (HP I A L F E).set (a + 2) (.inr (.inl (0, X))) = HP I (fu A (a + 2) X) L F E := by rcases h with rfl | rfl | rfl | rfl | rfl | rfl <;> rfl
theorem sT_ar1 (h : isT a) : (HP I A L F E)[a + 1]? = some (.inr (.inr (.inl (L (a + 1))))) := by rcases h with rfl | rfl | rfl | rfl | rfl | rfl <;> rfl
theorem sT_ast1 {X : List Int64} (h : isT a) : (HP I A L F E).set (a + 1) (.inr (.inr (.inl X))) = HP I A (fu L (a + 1) X) F E := by rcases h with rfl | rfl | rfl | rfl | rfl | rfl <;> rfl
theorem sSy_obj (h : isSy a) : (HP I A L F E)[a]? = some (.inr (.inr (.inl (L a)))) := by rcases h with rfl | rfl | rfl | rfl | rfl | rfl <;> rfl
theorem sSy_ast {X : List Int64} (h : isSy a) : (HP I A L F E).set a (.inr (.inr (.inl X))) = HP I A (fu L a X) F E := by rcases h with rfl | rfl | rfl | rfl | rfl | rfl <;> rfl
theorem sMr_obj (h : isMr a) : (HP I A L F E)[a]? = some (.inr (.inr (.inl (L a)))) := by rcases h with rfl | rfl | rfl | rfl | rfl | rfl <;> rfl
theorem sMr_ast {X : List Int64} (h : isMr a) : (HP I A L F E).set a (.inr (.inr (.inl X))) = HP I A (fu L a X) F E := by rcases h with rfl | rfl | rfl | rfl | rfl | rfl <;> rfl
theorem sW_obj (h : isW a) : (HP I A L F E)[a]? = some (.inr (.inl (0, A a))) := by rcases h with rfl | rfl | rfl <;> rfl
theorem sW_ast {X : List Int32} (h : isW a) : (HP I A L F E).set a (.inr (.inl (0, X))) = HP I (fu A a X) L F E := by rcases h with rfl | rfl | rfl <;> rfl
end HPS
section HPN
variable {I : Nat → Int32} {A : Nat → List Int32} {L : Nat → List Int64} {F : Nat → Int64} {E : MH}
theorem hp_o_1 : (HP I A L F E)[1]? = some (.inl (7, [.ref 2, .ref 22, .int (I 102), .ref 42, .ref 47, .ref 48, .ref 54, .ref 69, .ref 71])) := rfl
theorem hp_p_102 {x : Int32} : (HP I A L F E).set 1 (.inl (7, List.set [.ref 2, .ref 22, .int (I 102), .ref 42, .ref 47, .ref 48, .ref 54, .ref 69, .ref 71] 2 (.int x))) = HP (fu I 102 x) A L F E := rfl
theorem hp_o_2 : (HP I A L F E)[2]? = some (.inl (3, [.ref 3, .ref 4, .ref 5, .ref 8, .ref 11])) := rfl
theorem hp_o_3 : (HP I A L F E)[3]? = some (.inr (.inr (.inr (3, [some 14, some 16, some 18, some 20])))) := rfl
theorem hp_o_4 : (HP I A L F E)[4]? = some (.inr (.inl (0, A 4))) := rfl
theorem hp_s_4 {X : List Int32} : (HP I A L F E).set 4 (.inr (.inl (0, X))) = HP I (fu A 4 X) L F E := rfl
theorem hp_o_5 : (HP I A L F E)[5]? = some (.inl (2, [.ref 6, .ref 7, .int 6, .int (I 503)])) := rfl
theorem hp_p_503 {x : Int32} : (HP I A L F E).set 5 (.inl (2, List.set [.ref 6, .ref 7, .int 6, .int (I 503)] 3 (.int x))) = HP (fu I 503 x) A L F E := rfl
theorem hp_o_6 : (HP I A L F E)[6]? = some (.inr (.inl (0, A 6))) := rfl
theorem hp_s_6 {X : List Int32} : (HP I A L F E).set 6 (.inr (.inl (0, X))) = HP I (fu A 6 X) L F E := rfl
theorem hp_o_7 : (HP I A L F E)[7]? = some (.inr (.inl (0, A 7))) := rfl
theorem hp_s_7 {X : List Int32} : (HP I A L F E).set 7 (.inr (.inl (0, X))) = HP I (fu A 7 X) L F E := rfl
theorem hp_o_8 : (HP I A L F E)[8]? = some (.inl (2, [.ref 9, .ref 10, .int 8, .int (I 803)])) := rfl
theorem hp_p_803 {x : Int32} : (HP I A L F E).set 8 (.inl (2, List.set [.ref 9, .ref 10, .int 8, .int (I 803)] 3 (.int x))) = HP (fu I 803 x) A L F E := rfl
theorem hp_o_9 : (HP I A L F E)[9]? = some (.inr (.inl (0, A 9))) := rfl
theorem hp_s_9 {X : List Int32} : (HP I A L F E).set 9 (.inr (.inl (0, X))) = HP I (fu A 9 X) L F E := rfl
theorem hp_o_10 : (HP I A L F E)[10]? = some (.inr (.inl (0, A 10))) := rfl
theorem hp_s_10 {X : List Int32} : (HP I A L F E).set 10 (.inr (.inl (0, X))) = HP I (fu A 10 X) L F E := rfl
theorem hp_o_11 : (HP I A L F E)[11]? = some (.inl (2, [.ref 12, .ref 13, .int 8, .int (I 1103)])) := rfl
theorem hp_p_1103 {x : Int32} : (HP I A L F E).set 11 (.inl (2, List.set [.ref 12, .ref 13, .int 8, .int (I 1103)] 3 (.int x))) = HP (fu I 1103 x) A L F E := rfl
theorem hp_o_12 : (HP I A L F E)[12]? = some (.inr (.inl (0, A 12))) := rfl
theorem hp_s_12 {X : List Int32} : (HP I A L F E).set 12 (.inr (.inl (0, X))) = HP I (fu A 12 X) L F E := rfl
theorem hp_o_13 : (HP I A L F E)[13]? = some (.inr (.inl (0, A 13))) := rfl
theorem hp_s_13 {X : List Int32} : (HP I A L F E).set 13 (.inr (.inl (0, X))) = HP I (fu A 13 X) L F E := rfl
theorem hp_o_14 : (HP I A L F E)[14]? = some (.inl (4, [.int (I 1400), .int (I 1401), .int (I 1402), .int (I 1403), .int (I 1404), .ref 15])) := rfl
theorem hp_p_1400 {x : Int32} : (HP I A L F E).set 14 (.inl (4, List.set [.int (I 1400), .int (I 1401), .int (I 1402), .int (I 1403), .int (I 1404), .ref 15] 0 (.int x))) = HP (fu I 1400 x) A L F E := rfl
theorem hp_p_1401 {x : Int32} : (HP I A L F E).set 14 (.inl (4, List.set [.int (I 1400), .int (I 1401), .int (I 1402), .int (I 1403), .int (I 1404), .ref 15] 1 (.int x))) = HP (fu I 1401 x) A L F E := rfl
theorem hp_p_1402 {x : Int32} : (HP I A L F E).set 14 (.inl (4, List.set [.int (I 1400), .int (I 1401), .int (I 1402), .int (I 1403), .int (I 1404), .ref 15] 2 (.int x))) = HP (fu I 1402 x) A L F E := rfl
theorem hp_p_1403 {x : Int32} : (HP I A L F E).set 14 (.inl (4, List.set [.int (I 1400), .int (I 1401), .int (I 1402), .int (I 1403), .int (I 1404), .ref 15] 3 (.int x))) = HP (fu I 1403 x) A L F E := rfl
theorem hp_p_1404 {x : Int32} : (HP I A L F E).set 14 (.inl (4, List.set [.int (I 1400), .int (I 1401), .int (I 1402), .int (I 1403), .int (I 1404), .ref 15] 4 (.int x))) = HP (fu I 1404 x) A L F E := rfl
theorem hp_o_15 : (HP I A L F E)[15]? = some (.inr (.inl (0, A 15))) := rfl
theorem hp_s_15 {X : List Int32} : (HP I A L F E).set 15 (.inr (.inl (0, X))) = HP I (fu A 15 X) L F E := rfl
theorem hp_o_16 : (HP I A L F E)[16]? = some (.inl (4, [.int (I 1600), .int (I 1601), .int (I 1602), .int (I 1603), .int (I 1604), .ref 17])) := rfl
theorem hp_p_1600 {x : Int32} : (HP I A L F E).set 16 (.inl (4, List.set [.int (I 1600), .int (I 1601), .int (I 1602), .int (I 1603), .int (I 1604), .ref 17] 0 (.int x))) = HP (fu I 1600 x) A L F E := rfl
theorem hp_p_1601 {x : Int32} : (HP I A L F E).set 16 (.inl (4, List.set [.int (I 1600), .int (I 1601), .int (I 1602), .int (I 1603), .int (I 1604), .ref 17] 1 (.int x))) = HP (fu I 1601 x) A L F E := rfl
theorem hp_p_1602 {x : Int32} : (HP I A L F E).set 16 (.inl (4, List.set [.int (I 1600), .int (I 1601), .int (I 1602), .int (I 1603), .int (I 1604), .ref 17] 2 (.int x))) = HP (fu I 1602 x) A L F E := rfl
theorem hp_p_1603 {x : Int32} : (HP I A L F E).set 16 (.inl (4, List.set [.int (I 1600), .int (I 1601), .int (I 1602), .int (I 1603), .int (I 1604), .ref 17] 3 (.int x))) = HP (fu I 1603 x) A L F E := rfl
theorem hp_p_1604 {x : Int32} : (HP I A L F E).set 16 (.inl (4, List.set [.int (I 1600), .int (I 1601), .int (I 1602), .int (I 1603), .int (I 1604), .ref 17] 4 (.int x))) = HP (fu I 1604 x) A L F E := rfl
theorem hp_o_17 : (HP I A L F E)[17]? = some (.inr (.inl (0, A 17))) := rfl
theorem hp_s_17 {X : List Int32} : (HP I A L F E).set 17 (.inr (.inl (0, X))) = HP I (fu A 17 X) L F E := rfl
theorem hp_o_18 : (HP I A L F E)[18]? = some (.inl (4, [.int (I 1800), .int (I 1801), .int (I 1802), .int (I 1803), .int (I 1804), .ref 19])) := rfl
theorem hp_p_1800 {x : Int32} : (HP I A L F E).set 18 (.inl (4, List.set [.int (I 1800), .int (I 1801), .int (I 1802), .int (I 1803), .int (I 1804), .ref 19] 0 (.int x))) = HP (fu I 1800 x) A L F E := rfl
theorem hp_p_1801 {x : Int32} : (HP I A L F E).set 18 (.inl (4, List.set [.int (I 1800), .int (I 1801), .int (I 1802), .int (I 1803), .int (I 1804), .ref 19] 1 (.int x))) = HP (fu I 1801 x) A L F E := rfl
theorem hp_p_1802 {x : Int32} : (HP I A L F E).set 18 (.inl (4, List.set [.int (I 1800), .int (I 1801), .int (I 1802), .int (I 1803), .int (I 1804), .ref 19] 2 (.int x))) = HP (fu I 1802 x) A L F E := rfl
theorem hp_p_1803 {x : Int32} : (HP I A L F E).set 18 (.inl (4, List.set [.int (I 1800), .int (I 1801), .int (I 1802), .int (I 1803), .int (I 1804), .ref 19] 3 (.int x))) = HP (fu I 1803 x) A L F E := rfl
theorem hp_p_1804 {x : Int32} : (HP I A L F E).set 18 (.inl (4, List.set [.int (I 1800), .int (I 1801), .int (I 1802), .int (I 1803), .int (I 1804), .ref 19] 4 (.int x))) = HP (fu I 1804 x) A L F E := rfl
theorem hp_o_19 : (HP I A L F E)[19]? = some (.inr (.inl (0, A 19))) := rfl
theorem hp_s_19 {X : List Int32} : (HP I A L F E).set 19 (.inr (.inl (0, X))) = HP I (fu A 19 X) L F E := rfl
theorem hp_o_20 : (HP I A L F E)[20]? = some (.inl (4, [.int (I 2000), .int (I 2001), .int (I 2002), .int (I 2003), .int (I 2004), .ref 21])) := rfl
theorem hp_p_2000 {x : Int32} : (HP I A L F E).set 20 (.inl (4, List.set [.int (I 2000), .int (I 2001), .int (I 2002), .int (I 2003), .int (I 2004), .ref 21] 0 (.int x))) = HP (fu I 2000 x) A L F E := rfl
theorem hp_p_2001 {x : Int32} : (HP I A L F E).set 20 (.inl (4, List.set [.int (I 2000), .int (I 2001), .int (I 2002), .int (I 2003), .int (I 2004), .ref 21] 1 (.int x))) = HP (fu I 2001 x) A L F E := rfl
theorem hp_p_2002 {x : Int32} : (HP I A L F E).set 20 (.inl (4, List.set [.int (I 2000), .int (I 2001), .int (I 2002), .int (I 2003), .int (I 2004), .ref 21] 2 (.int x))) = HP (fu I 2002 x) A L F E := rfl
theorem hp_p_2003 {x : Int32} : (HP I A L F E).set 20 (.inl (4, List.set [.int (I 2000), .int (I 2001), .int (I 2002), .int (I 2003), .int (I 2004), .ref 21] 3 (.int x))) = HP (fu I 2003 x) A L F E := rfl
theorem hp_p_2004 {x : Int32} : (HP I A L F E).set 20 (.inl (4, List.set [.int (I 2000), .int (I 2001), .int (I 2002), .int (I 2003), .int (I 2004), .ref 21] 4 (.int x))) = HP (fu I 2004 x) A L F E := rfl
theorem hp_o_21 : (HP I A L F E)[21]? = some (.inr (.inl (0, A 21))) := rfl
theorem hp_s_21 {X : List Int32} : (HP I A L F E).set 21 (.inr (.inl (0, X))) = HP I (fu A 21 X) L F E := rfl
theorem hp_o_22 : (HP I A L F E)[22]? = some (.inl (3, [.ref 23, .ref 24, .ref 25, .ref 28, .ref 31])) := rfl
theorem hp_o_23 : (HP I A L F E)[23]? = some (.inr (.inr (.inr (3, [some 34, some 36, some 38, some 40])))) := rfl
theorem hp_o_24 : (HP I A L F E)[24]? = some (.inr (.inl (0, A 24))) := rfl
theorem hp_s_24 {X : List Int32} : (HP I A L F E).set 24 (.inr (.inl (0, X))) = HP I (fu A 24 X) L F E := rfl
theorem hp_o_25 : (HP I A L F E)[25]? = some (.inl (2, [.ref 26, .ref 27, .int 6, .int (I 2503)])) := rfl
theorem hp_p_2503 {x : Int32} : (HP I A L F E).set 25 (.inl (2, List.set [.ref 26, .ref 27, .int 6, .int (I 2503)] 3 (.int x))) = HP (fu I 2503 x) A L F E := rfl
theorem hp_o_26 : (HP I A L F E)[26]? = some (.inr (.inl (0, A 26))) := rfl
theorem hp_s_26 {X : List Int32} : (HP I A L F E).set 26 (.inr (.inl (0, X))) = HP I (fu A 26 X) L F E := rfl
theorem hp_o_27 : (HP I A L F E)[27]? = some (.inr (.inl (0, A 27))) := rfl
theorem hp_s_27 {X : List Int32} : (HP I A L F E).set 27 (.inr (.inl (0, X))) = HP I (fu A 27 X) L F E := rfl
theorem hp_o_28 : (HP I A L F E)[28]? = some (.inl (2, [.ref 29, .ref 30, .int 8, .int (I 2803)])) := rfl
theorem hp_p_2803 {x : Int32} : (HP I A L F E).set 28 (.inl (2, List.set [.ref 29, .ref 30, .int 8, .int (I 2803)] 3 (.int x))) = HP (fu I 2803 x) A L F E := rfl
theorem hp_o_29 : (HP I A L F E)[29]? = some (.inr (.inl (0, A 29))) := rfl
theorem hp_s_29 {X : List Int32} : (HP I A L F E).set 29 (.inr (.inl (0, X))) = HP I (fu A 29 X) L F E := rfl
theorem hp_o_30 : (HP I A L F E)[30]? = some (.inr (.inl (0, A 30))) := rfl
theorem hp_s_30 {X : List Int32} : (HP I A L F E).set 30 (.inr (.inl (0, X))) = HP I (fu A 30 X) L F E := rfl
theorem hp_o_31 : (HP I A L F E)[31]? = some (.inl (2, [.ref 32, .ref 33, .int 8, .int (I 3103)])) := rfl
theorem hp_p_3103 {x : Int32} : (HP I A L F E).set 31 (.inl (2, List.set [.ref 32, .ref 33, .int 8, .int (I 3103)] 3 (.int x))) = HP (fu I 3103 x) A L F E := rfl
theorem hp_o_32 : (HP I A L F E)[32]? = some (.inr (.inl (0, A 32))) := rfl
theorem hp_s_32 {X : List Int32} : (HP I A L F E).set 32 (.inr (.inl (0, X))) = HP I (fu A 32 X) L F E := rfl
theorem hp_o_33 : (HP I A L F E)[33]? = some (.inr (.inl (0, A 33))) := rfl
theorem hp_s_33 {X : List Int32} : (HP I A L F E).set 33 (.inr (.inl (0, X))) = HP I (fu A 33 X) L F E := rfl
theorem hp_o_34 : (HP I A L F E)[34]? = some (.inl (4, [.int (I 3400), .int (I 3401), .int (I 3402), .int (I 3403), .int (I 3404), .ref 35])) := rfl
theorem hp_p_3400 {x : Int32} : (HP I A L F E).set 34 (.inl (4, List.set [.int (I 3400), .int (I 3401), .int (I 3402), .int (I 3403), .int (I 3404), .ref 35] 0 (.int x))) = HP (fu I 3400 x) A L F E := rfl
theorem hp_p_3401 {x : Int32} : (HP I A L F E).set 34 (.inl (4, List.set [.int (I 3400), .int (I 3401), .int (I 3402), .int (I 3403), .int (I 3404), .ref 35] 1 (.int x))) = HP (fu I 3401 x) A L F E := rfl
theorem hp_p_3402 {x : Int32} : (HP I A L F E).set 34 (.inl (4, List.set [.int (I 3400), .int (I 3401), .int (I 3402), .int (I 3403), .int (I 3404), .ref 35] 2 (.int x))) = HP (fu I 3402 x) A L F E := rfl
theorem hp_p_3403 {x : Int32} : (HP I A L F E).set 34 (.inl (4, List.set [.int (I 3400), .int (I 3401), .int (I 3402), .int (I 3403), .int (I 3404), .ref 35] 3 (.int x))) = HP (fu I 3403 x) A L F E := rfl
theorem hp_p_3404 {x : Int32} : (HP I A L F E).set 34 (.inl (4, List.set [.int (I 3400), .int (I 3401), .int (I 3402), .int (I 3403), .int (I 3404), .ref 35] 4 (.int x))) = HP (fu I 3404 x) A L F E := rfl
theorem hp_o_35 : (HP I A L F E)[35]? = some (.inr (.inl (0, A 35))) := rfl
theorem hp_s_35 {X : List Int32} : (HP I A L F E).set 35 (.inr (.inl (0, X))) = HP I (fu A 35 X) L F E := rfl
theorem hp_o_36 : (HP I A L F E)[36]? = some (.inl (4, [.int (I 3600), .int (I 3601), .int (I 3602), .int (I 3603), .int (I 3604), .ref 37])) := rfl
theorem hp_p_3600 {x : Int32} : (HP I A L F E).set 36 (.inl (4, List.set [.int (I 3600), .int (I 3601), .int (I 3602), .int (I 3603), .int (I 3604), .ref 37] 0 (.int x))) = HP (fu I 3600 x) A L F E := rfl
theorem hp_p_3601 {x : Int32} : (HP I A L F E).set 36 (.inl (4, List.set [.int (I 3600), .int (I 3601), .int (I 3602), .int (I 3603), .int (I 3604), .ref 37] 1 (.int x))) = HP (fu I 3601 x) A L F E := rfl
theorem hp_p_3602 {x : Int32} : (HP I A L F E).set 36 (.inl (4, List.set [.int (I 3600), .int (I 3601), .int (I 3602), .int (I 3603), .int (I 3604), .ref 37] 2 (.int x))) = HP (fu I 3602 x) A L F E := rfl
theorem hp_p_3603 {x : Int32} : (HP I A L F E).set 36 (.inl (4, List.set [.int (I 3600), .int (I 3601), .int (I 3602), .int (I 3603), .int (I 3604), .ref 37] 3 (.int x))) = HP (fu I 3603 x) A L F E := rfl
theorem hp_p_3604 {x : Int32} : (HP I A L F E).set 36 (.inl (4, List.set [.int (I 3600), .int (I 3601), .int (I 3602), .int (I 3603), .int (I 3604), .ref 37] 4 (.int x))) = HP (fu I 3604 x) A L F E := rfl
theorem hp_o_37 : (HP I A L F E)[37]? = some (.inr (.inl (0, A 37))) := rfl
theorem hp_s_37 {X : List Int32} : (HP I A L F E).set 37 (.inr (.inl (0, X))) = HP I (fu A 37 X) L F E := rfl
theorem hp_o_38 : (HP I A L F E)[38]? = some (.inl (4, [.int (I 3800), .int (I 3801), .int (I 3802), .int (I 3803), .int (I 3804), .ref 39])) := rfl
theorem hp_p_3800 {x : Int32} : (HP I A L F E).set 38 (.inl (4, List.set [.int (I 3800), .int (I 3801), .int (I 3802), .int (I 3803), .int (I 3804), .ref 39] 0 (.int x))) = HP (fu I 3800 x) A L F E := rfl
theorem hp_p_3801 {x : Int32} : (HP I A L F E).set 38 (.inl (4, List.set [.int (I 3800), .int (I 3801), .int (I 3802), .int (I 3803), .int (I 3804), .ref 39] 1 (.int x))) = HP (fu I 3801 x) A L F E := rfl
theorem hp_p_3802 {x : Int32} : (HP I A L F E).set 38 (.inl (4, List.set [.int (I 3800), .int (I 3801), .int (I 3802), .int (I 3803), .int (I 3804), .ref 39] 2 (.int x))) = HP (fu I 3802 x) A L F E := rfl
theorem hp_p_3803 {x : Int32} : (HP I A L F E).set 38 (.inl (4, List.set [.int (I 3800), .int (I 3801), .int (I 3802), .int (I 3803), .int (I 3804), .ref 39] 3 (.int x))) = HP (fu I 3803 x) A L F E := rfl
theorem hp_p_3804 {x : Int32} : (HP I A L F E).set 38 (.inl (4, List.set [.int (I 3800), .int (I 3801), .int (I 3802), .int (I 3803), .int (I 3804), .ref 39] 4 (.int x))) = HP (fu I 3804 x) A L F E := rfl
theorem hp_o_39 : (HP I A L F E)[39]? = some (.inr (.inl (0, A 39))) := rfl
theorem hp_s_39 {X : List Int32} : (HP I A L F E).set 39 (.inr (.inl (0, X))) = HP I (fu A 39 X) L F E := rfl
theorem hp_o_40 : (HP I A L F E)[40]? = some (.inl (4, [.int (I 4000), .int (I 4001), .int (I 4002), .int (I 4003), .int (I 4004), .ref 41])) := rfl
theorem hp_p_4000 {x : Int32} : (HP I A L F E).set 40 (.inl (4, List.set [.int (I 4000), .int (I 4001), .int (I 4002), .int (I 4003), .int (I 4004), .ref 41] 0 (.int x))) = HP (fu I 4000 x) A L F E := rfl
theorem hp_p_4001 {x : Int32} : (HP I A L F E).set 40 (.inl (4, List.set [.int (I 4000), .int (I 4001), .int (I 4002), .int (I 4003), .int (I 4004), .ref 41] 1 (.int x))) = HP (fu I 4001 x) A L F E := rfl
theorem hp_p_4002 {x : Int32} : (HP I A L F E).set 40 (.inl (4, List.set [.int (I 4000), .int (I 4001), .int (I 4002), .int (I 4003), .int (I 4004), .ref 41] 2 (.int x))) = HP (fu I 4002 x) A L F E := rfl
theorem hp_p_4003 {x : Int32} : (HP I A L F E).set 40 (.inl (4, List.set [.int (I 4000), .int (I 4001), .int (I 4002), .int (I 4003), .int (I 4004), .ref 41] 3 (.int x))) = HP (fu I 4003 x) A L F E := rfl
theorem hp_p_4004 {x : Int32} : (HP I A L F E).set 40 (.inl (4, List.set [.int (I 4000), .int (I 4001), .int (I 4002), .int (I 4003), .int (I 4004), .ref 41] 4 (.int x))) = HP (fu I 4004 x) A L F E := rfl
theorem hp_o_41 : (HP I A L F E)[41]? = some (.inr (.inl (0, A 41))) := rfl
theorem hp_s_41 {X : List Int32} : (HP I A L F E).set 41 (.inr (.inl (0, X))) = HP I (fu A 41 X) L F E := rfl
theorem hp_o_42 : (HP I A L F E)[42]? = some (.inl (6, [.ref 43, .int (I 4201), .int (I 4202), .ref 44, .ref 45, .ref 46, .int (I 4206)])) := rfl
theorem hp_p_4201 {x : Int32} : (HP I A L F E).set 42 (.inl (6, List.set [.ref 43, .int (I 4201), .int (I 4202), .ref 44, .ref 45, .ref 46, .int (I 4206)] 1 (.int x))) = HP (fu I 4201 x) A L F E := rfl
theorem hp_p_4202 {x : Int32} : (HP I A L F E).set 42 (.inl (6, List.set [.ref 43, .int (I 4201), .int (I 4202), .ref 44, .ref 45, .ref 46, .int (I 4206)] 2 (.int x))) = HP (fu I 4202 x) A L F E := rfl
theorem hp_p_4206 {x : Int32} : (HP I A L F E).set 42 (.inl (6, List.set [.ref 43, .int (I 4201), .int (I 4202), .ref 44, .ref 45, .ref 46, .int (I 4206)] 6 (.int x))) = HP (fu I 4206 x) A L F E := rfl
theorem hp_o_43 : (HP I A L F E)[43]? = some (.inr (.inl (0, A 43))) := rfl
theorem hp_s_43 {X : List Int32} : (HP I A L F E).set 43 (.inr (.inl (0, X))) = HP I (fu A 43 X) L F E := rfl
theorem hp_o_44 : (HP I A L F E)[44]? = some (.inr (.inl (0, A 44))) := rfl
theorem hp_s_44 {X : List Int32} : (HP I A L F E).set 44 (.inr (.inl (0, X))) = HP I (fu A 44 X) L F E := rfl
theorem hp_o_45 : (HP I A L F E)[45]? = some (.inr (.inl (0, A 45))) := rfl
theorem hp_s_45 {X : List Int32} : (HP I A L F E).set 45 (.inr (.inl (0, X))) = HP I (fu A 45 X) L F E := rfl
theorem hp_o_46 : (HP I A L F E)[46]? = some (.inr (.inl (0, A 46))) := rfl
theorem hp_s_46 {X : List Int32} : (HP I A L F E).set 46 (.inr (.inl (0, X))) = HP I (fu A 46 X) L F E := rfl
theorem hp_o_47 : (HP I A L F E)[47]? = some (.inr (.inr (.inr (4, [some 72, some 74, some 76, some 78, some 80, some 82])))) := rfl
theorem hp_o_48 : (HP I A L F E)[48]? = some (.inl (1, [.int (I 4800), .int (I 4801), .int (I 4802), .int (I 4803), .ref 49, .ref 50, .int (I 4806), .ref 51, .ref 52, .ref 53])) := rfl
theorem hp_p_4800 {x : Int32} : (HP I A L F E).set 48 (.inl (1, List.set [.int (I 4800), .int (I 4801), .int (I 4802), .int (I 4803), .ref 49, .ref 50, .int (I 4806), .ref 51, .ref 52, .ref 53] 0 (.int x))) = HP (fu I 4800 x) A L F E := rfl
theorem hp_p_4801 {x : Int32} : (HP I A L F E).set 48 (.inl (1, List.set [.int (I 4800), .int (I 4801), .int (I 4802), .int (I 4803), .ref 49, .ref 50, .int (I 4806), .ref 51, .ref 52, .ref 53] 1 (.int x))) = HP (fu I 4801 x) A L F E := rfl
theorem hp_p_4802 {x : Int32} : (HP I A L F E).set 48 (.inl (1, List.set [.int (I 4800), .int (I 4801), .int (I 4802), .int (I 4803), .ref 49, .ref 50, .int (I 4806), .ref 51, .ref 52, .ref 53] 2 (.int x))) = HP (fu I 4802 x) A L F E := rfl
theorem hp_p_4803 {x : Int32} : (HP I A L F E).set 48 (.inl (1, List.set [.int (I 4800), .int (I 4801), .int (I 4802), .int (I 4803), .ref 49, .ref 50, .int (I 4806), .ref 51, .ref 52, .ref 53] 3 (.int x))) = HP (fu I 4803 x) A L F E := rfl
theorem hp_p_4806 {x : Int32} : (HP I A L F E).set 48 (.inl (1, List.set [.int (I 4800), .int (I 4801), .int (I 4802), .int (I 4803), .ref 49, .ref 50, .int (I 4806), .ref 51, .ref 52, .ref 53] 6 (.int x))) = HP (fu I 4806 x) A L F E := rfl
theorem hp_o_49 : (HP I A L F E)[49]? = some (.inr (.inl (0, A 49))) := rfl
theorem hp_s_49 {X : List Int32} : (HP I A L F E).set 49 (.inr (.inl (0, X))) = HP I (fu A 49 X) L F E := rfl
theorem hp_o_50 : (HP I A L F E)[50]? = some (.inr (.inl (0, A 50))) := rfl
theorem hp_s_50 {X : List Int32} : (HP I A L F E).set 50 (.inr (.inl (0, X))) = HP I (fu A 50 X) L F E := rfl
theorem hp_o_51 : (HP I A L F E)[51]? = some (.inr (.inl (0, A 51))) := rfl
theorem hp_s_51 {X : List Int32} : (HP I A L F E).set 51 (.inr (.inl (0, X))) = HP I (fu A 51 X) L F E := rfl
theorem hp_o_52 : (HP I A L F E)[52]? = some (.inr (.inl (0, A 52))) := rfl
theorem hp_s_52 {X : List Int32} : (HP I A L F E).set 52 (.inr (.inl (0, X))) = HP I (fu A 52 X) L F E := rfl
theorem hp_o_53 : (HP I A L F E)[53]? = some (.inr (.inl (0, A 53))) := rfl
theorem hp_s_53 {X : List Int32} : (HP I A L F E).set 53 (.inr (.inl (0, X))) = HP I (fu A 53 X) L F E := rfl
theorem hp_o_54 : (HP I A L F E)[54]? = some (.inl (0, [.int (I 5400), .int (I 5401), .ref 55, .int (I 5403), .long (F 5404), .long (F 5405), .ref 56, .ref 57, .ref 58, .ref 59, .ref 60, .ref 61, .ref 62])) := rfl
theorem hp_p_5400 {x : Int32} : (HP I A L F E).set 54 (.inl (0, List.set [.int (I 5400), .int (I 5401), .ref 55, .int (I 5403), .long (F 5404), .long (F 5405), .ref 56, .ref 57, .ref 58, .ref 59, .ref 60, .ref 61, .ref 62] 0 (.int x))) = HP (fu I 5400 x) A L F E := rfl
theorem hp_p_5401 {x : Int32} : (HP I A L F E).set 54 (.inl (0, List.set [.int (I 5400), .int (I 5401), .ref 55, .int (I 5403), .long (F 5404), .long (F 5405), .ref 56, .ref 57, .ref 58, .ref 59, .ref 60, .ref 61, .ref 62] 1 (.int x))) = HP (fu I 5401 x) A L F E := rfl
theorem hp_p_5403 {x : Int32} : (HP I A L F E).set 54 (.inl (0, List.set [.int (I 5400), .int (I 5401), .ref 55, .int (I 5403), .long (F 5404), .long (F 5405), .ref 56, .ref 57, .ref 58, .ref 59, .ref 60, .ref 61, .ref 62] 3 (.int x))) = HP (fu I 5403 x) A L F E := rfl
theorem hp_p_5404 {x : Int64} : (HP I A L F E).set 54 (.inl (0, List.set [.int (I 5400), .int (I 5401), .ref 55, .int (I 5403), .long (F 5404), .long (F 5405), .ref 56, .ref 57, .ref 58, .ref 59, .ref 60, .ref 61, .ref 62] 4 (.long x))) = HP I A L (fu F 5404 x) E := rfl
theorem hp_p_5405 {x : Int64} : (HP I A L F E).set 54 (.inl (0, List.set [.int (I 5400), .int (I 5401), .ref 55, .int (I 5403), .long (F 5404), .long (F 5405), .ref 56, .ref 57, .ref 58, .ref 59, .ref 60, .ref 61, .ref 62] 5 (.long x))) = HP I A L (fu F 5405 x) E := rfl
theorem hp_o_55 : (HP I A L F E)[55]? = some (.inr (.inl (0, A 55))) := rfl
theorem hp_s_55 {X : List Int32} : (HP I A L F E).set 55 (.inr (.inl (0, X))) = HP I (fu A 55 X) L F E := rfl
theorem hp_o_56 : (HP I A L F E)[56]? = some (.inr (.inr (.inl (L 56)))) := rfl
theorem hp_s_56 {X : List Int64} : (HP I A L F E).set 56 (.inr (.inr (.inl X))) = HP I A (fu L 56 X) F E := rfl
theorem hp_o_57 : (HP I A L F E)[57]? = some (.inr (.inr (.inl (L 57)))) := rfl
theorem hp_s_57 {X : List Int64} : (HP I A L F E).set 57 (.inr (.inr (.inl X))) = HP I A (fu L 57 X) F E := rfl
theorem hp_o_58 : (HP I A L F E)[58]? = some (.inr (.inl (1, A 58))) := rfl
theorem hp_s_58 {X : List Int32} : (HP I A L F E).set 58 (.inr (.inl (1, X))) = HP I (fu A 58 X) L F E := rfl
theorem hp_o_59 : (HP I A L F E)[59]? = some (.inr (.inl (1, A 59))) := rfl
theorem hp_s_59 {X : List Int32} : (HP I A L F E).set 59 (.inr (.inl (1, X))) = HP I (fu A 59 X) L F E := rfl
theorem hp_o_60 : (HP I A L F E)[60]? = some (.inr (.inl (0, A 60))) := rfl
theorem hp_s_60 {X : List Int32} : (HP I A L F E).set 60 (.inr (.inl (0, X))) = HP I (fu A 60 X) L F E := rfl
theorem hp_o_61 : (HP I A L F E)[61]? = some (.inr (.inl (0, A 61))) := rfl
theorem hp_s_61 {X : List Int32} : (HP I A L F E).set 61 (.inr (.inl (0, X))) = HP I (fu A 61 X) L F E := rfl
theorem hp_o_62 : (HP I A L F E)[62]? = some (.inr (.inr (.inr (5, [some 63, some 64, some 65, some 66, some 67, some 68])))) := rfl
theorem hp_o_63 : (HP I A L F E)[63]? = some (.inr (.inr (.inl (L 63)))) := rfl
theorem hp_s_63 {X : List Int64} : (HP I A L F E).set 63 (.inr (.inr (.inl X))) = HP I A (fu L 63 X) F E := rfl
theorem hp_o_64 : (HP I A L F E)[64]? = some (.inr (.inr (.inl (L 64)))) := rfl
theorem hp_s_64 {X : List Int64} : (HP I A L F E).set 64 (.inr (.inr (.inl X))) = HP I A (fu L 64 X) F E := rfl
theorem hp_o_65 : (HP I A L F E)[65]? = some (.inr (.inr (.inl (L 65)))) := rfl
theorem hp_s_65 {X : List Int64} : (HP I A L F E).set 65 (.inr (.inr (.inl X))) = HP I A (fu L 65 X) F E := rfl
theorem hp_o_66 : (HP I A L F E)[66]? = some (.inr (.inr (.inl (L 66)))) := rfl
theorem hp_s_66 {X : List Int64} : (HP I A L F E).set 66 (.inr (.inr (.inl X))) = HP I A (fu L 66 X) F E := rfl
theorem hp_o_67 : (HP I A L F E)[67]? = some (.inr (.inr (.inl (L 67)))) := rfl
theorem hp_s_67 {X : List Int64} : (HP I A L F E).set 67 (.inr (.inr (.inl X))) = HP I A (fu L 67 X) F E := rfl
theorem hp_o_68 : (HP I A L F E)[68]? = some (.inr (.inr (.inl (L 68)))) := rfl
theorem hp_s_68 {X : List Int64} : (HP I A L F E).set 68 (.inr (.inr (.inl X))) = HP I A (fu L 68 X) F E := rfl
theorem hp_o_69 : (HP I A L F E)[69]? = some (.inl (4, [.int (I 6900), .int (I 6901), .int (I 6902), .int (I 6903), .int (I 6904), .ref 70])) := rfl
theorem hp_p_6900 {x : Int32} : (HP I A L F E).set 69 (.inl (4, List.set [.int (I 6900), .int (I 6901), .int (I 6902), .int (I 6903), .int (I 6904), .ref 70] 0 (.int x))) = HP (fu I 6900 x) A L F E := rfl
theorem hp_p_6901 {x : Int32} : (HP I A L F E).set 69 (.inl (4, List.set [.int (I 6900), .int (I 6901), .int (I 6902), .int (I 6903), .int (I 6904), .ref 70] 1 (.int x))) = HP (fu I 6901 x) A L F E := rfl
theorem hp_p_6902 {x : Int32} : (HP I A L F E).set 69 (.inl (4, List.set [.int (I 6900), .int (I 6901), .int (I 6902), .int (I 6903), .int (I 6904), .ref 70] 2 (.int x))) = HP (fu I 6902 x) A L F E := rfl
theorem hp_p_6903 {x : Int32} : (HP I A L F E).set 69 (.inl (4, List.set [.int (I 6900), .int (I 6901), .int (I 6902), .int (I 6903), .int (I 6904), .ref 70] 3 (.int x))) = HP (fu I 6903 x) A L F E := rfl
theorem hp_p_6904 {x : Int32} : (HP I A L F E).set 69 (.inl (4, List.set [.int (I 6900), .int (I 6901), .int (I 6902), .int (I 6903), .int (I 6904), .ref 70] 4 (.int x))) = HP (fu I 6904 x) A L F E := rfl
theorem hp_o_70 : (HP I A L F E)[70]? = some (.inr (.inl (0, A 70))) := rfl
theorem hp_s_70 {X : List Int32} : (HP I A L F E).set 70 (.inr (.inl (0, X))) = HP I (fu A 70 X) L F E := rfl
theorem hp_o_71 : (HP I A L F E)[71]? = some (.inr (.inl (0, A 71))) := rfl
theorem hp_s_71 {X : List Int32} : (HP I A L F E).set 71 (.inr (.inl (0, X))) = HP I (fu A 71 X) L F E := rfl
theorem hp_o_72 : (HP I A L F E)[72]? = some (.inl (5, [.int (I 7200), .int (I 7201), .ref 73])) := rfl
theorem hp_p_7200 {x : Int32} : (HP I A L F E).set 72 (.inl (5, List.set [.int (I 7200), .int (I 7201), .ref 73] 0 (.int x))) = HP (fu I 7200 x) A L F E := rfl
theorem hp_p_7201 {x : Int32} : (HP I A L F E).set 72 (.inl (5, List.set [.int (I 7200), .int (I 7201), .ref 73] 1 (.int x))) = HP (fu I 7201 x) A L F E := rfl
theorem hp_o_73 : (HP I A L F E)[73]? = some (.inr (.inr (.inl (L 73)))) := rfl
theorem hp_s_73 {X : List Int64} : (HP I A L F E).set 73 (.inr (.inr (.inl X))) = HP I A (fu L 73 X) F E := rfl
theorem hp_o_74 : (HP I A L F E)[74]? = some (.inl (5, [.int (I 7400), .int (I 7401), .ref 75])) := rfl
theorem hp_p_7400 {x : Int32} : (HP I A L F E).set 74 (.inl (5, List.set [.int (I 7400), .int (I 7401), .ref 75] 0 (.int x))) = HP (fu I 7400 x) A L F E := rfl
theorem hp_p_7401 {x : Int32} : (HP I A L F E).set 74 (.inl (5, List.set [.int (I 7400), .int (I 7401), .ref 75] 1 (.int x))) = HP (fu I 7401 x) A L F E := rfl
theorem hp_o_75 : (HP I A L F E)[75]? = some (.inr (.inr (.inl (L 75)))) := rfl
theorem hp_s_75 {X : List Int64} : (HP I A L F E).set 75 (.inr (.inr (.inl X))) = HP I A (fu L 75 X) F E := rfl
theorem hp_o_76 : (HP I A L F E)[76]? = some (.inl (5, [.int (I 7600), .int (I 7601), .ref 77])) := rfl
theorem hp_p_7600 {x : Int32} : (HP I A L F E).set 76 (.inl (5, List.set [.int (I 7600), .int (I 7601), .ref 77] 0 (.int x))) = HP (fu I 7600 x) A L F E := rfl
theorem hp_p_7601 {x : Int32} : (HP I A L F E).set 76 (.inl (5, List.set [.int (I 7600), .int (I 7601), .ref 77] 1 (.int x))) = HP (fu I 7601 x) A L F E := rfl
theorem hp_o_77 : (HP I A L F E)[77]? = some (.inr (.inr (.inl (L 77)))) := rfl
theorem hp_s_77 {X : List Int64} : (HP I A L F E).set 77 (.inr (.inr (.inl X))) = HP I A (fu L 77 X) F E := rfl
theorem hp_o_78 : (HP I A L F E)[78]? = some (.inl (5, [.int (I 7800), .int (I 7801), .ref 79])) := rfl
theorem hp_p_7800 {x : Int32} : (HP I A L F E).set 78 (.inl (5, List.set [.int (I 7800), .int (I 7801), .ref 79] 0 (.int x))) = HP (fu I 7800 x) A L F E := rfl
theorem hp_p_7801 {x : Int32} : (HP I A L F E).set 78 (.inl (5, List.set [.int (I 7800), .int (I 7801), .ref 79] 1 (.int x))) = HP (fu I 7801 x) A L F E := rfl
theorem hp_o_79 : (HP I A L F E)[79]? = some (.inr (.inr (.inl (L 79)))) := rfl
theorem hp_s_79 {X : List Int64} : (HP I A L F E).set 79 (.inr (.inr (.inl X))) = HP I A (fu L 79 X) F E := rfl
theorem hp_o_80 : (HP I A L F E)[80]? = some (.inl (5, [.int (I 8000), .int (I 8001), .ref 81])) := rfl
theorem hp_p_8000 {x : Int32} : (HP I A L F E).set 80 (.inl (5, List.set [.int (I 8000), .int (I 8001), .ref 81] 0 (.int x))) = HP (fu I 8000 x) A L F E := rfl
theorem hp_p_8001 {x : Int32} : (HP I A L F E).set 80 (.inl (5, List.set [.int (I 8000), .int (I 8001), .ref 81] 1 (.int x))) = HP (fu I 8001 x) A L F E := rfl
theorem hp_o_81 : (HP I A L F E)[81]? = some (.inr (.inr (.inl (L 81)))) := rfl
theorem hp_s_81 {X : List Int64} : (HP I A L F E).set 81 (.inr (.inr (.inl X))) = HP I A (fu L 81 X) F E := rfl
theorem hp_o_82 : (HP I A L F E)[82]? = some (.inl (5, [.int (I 8200), .int (I 8201), .ref 83])) := rfl
theorem hp_p_8200 {x : Int32} : (HP I A L F E).set 82 (.inl (5, List.set [.int (I 8200), .int (I 8201), .ref 83] 0 (.int x))) = HP (fu I 8200 x) A L F E := rfl
theorem hp_p_8201 {x : Int32} : (HP I A L F E).set 82 (.inl (5, List.set [.int (I 8200), .int (I 8201), .ref 83] 1 (.int x))) = HP (fu I 8201 x) A L F E := rfl
theorem hp_o_83 : (HP I A L F E)[83]? = some (.inr (.inr (.inl (L 83)))) := rfl
theorem hp_s_83 {X : List Int64} : (HP I A L F E).set 83 (.inr (.inr (.inl X))) = HP I A (fu L 83 X) F E := rfl
theorem hp_o_84 : (HP I A L F E)[84]? = some (.inl (8, [.ref 85, .ref 86, .ref 87, .int (I 8403), .ref 88, .int (I 8405), .int (I 8406), .int (I 8407), .ref 89, .int (I 8409), .ref 90, .ref 91, .ref 92, .ref 93, .ref 94, .int (I 8415), .int (I 8416), .int (I 8417), .ref 95, .ref 102, .ref 103, .ref 104])) := rfl
theorem hp_p_8403 {x : Int32} : (HP I A L F E).set 84 (.inl (8, List.set [.ref 85, .ref 86, .ref 87, .int (I 8403), .ref 88, .int (I 8405), .int (I 8406), .int (I 8407), .ref 89, .int (I 8409), .ref 90, .ref 91, .ref 92, .ref 93, .ref 94, .int (I 8415), .int (I 8416), .int (I 8417), .ref 95, .ref 102, .ref 103, .ref 104] 3 (.int x))) = HP (fu I 8403 x) A L F E := rfl
theorem hp_p_8405 {x : Int32} : (HP I A L F E).set 84 (.inl (8, List.set [.ref 85, .ref 86, .ref 87, .int (I 8403), .ref 88, .int (I 8405), .int (I 8406), .int (I 8407), .ref 89, .int (I 8409), .ref 90, .ref 91, .ref 92, .ref 93, .ref 94, .int (I 8415), .int (I 8416), .int (I 8417), .ref 95, .ref 102, .ref 103, .ref 104] 5 (.int x))) = HP (fu I 8405 x) A L F E := rfl
theorem hp_p_8406 {x : Int32} : (HP I A L F E).set 84 (.inl (8, List.set [.ref 85, .ref 86, .ref 87, .int (I 8403), .ref 88, .int (I 8405), .int (I 8406), .int (I 8407), .ref 89, .int (I 8409), .ref 90, .ref 91, .ref 92, .ref 93, .ref 94, .int (I 8415), .int (I 8416), .int (I 8417), .ref 95, .ref 102, .ref 103, .ref 104] 6 (.int x))) = HP (fu I 8406 x) A L F E := rfl
theorem hp_p_8407 {x : Int32} : (HP I A L F E).set 84 (.inl (8, List.set [.ref 85, .ref 86, .ref 87, .int (I 8403), .ref 88, .int (I 8405), .int (I 8406), .int (I 8407), .ref 89, .int (I 8409), .ref 90, .ref 91, .ref 92, .ref 93, .ref 94, .int (I 8415), .int (I 8416), .int (I 8417), .ref 95, .ref 102, .ref 103, .ref 104] 7 (.int x))) = HP (fu I 8407 x) A L F E := rfl
theorem hp_p_8409 {x : Int32} : (HP I A L F E).set 84 (.inl (8, List.set [.ref 85, .ref 86, .ref 87, .int (I 8403), .ref 88, .int (I 8405), .int (I 8406), .int (I 8407), .ref 89, .int (I 8409), .ref 90, .ref 91, .ref 92, .ref 93, .ref 94, .int (I 8415), .int (I 8416), .int (I 8417), .ref 95, .ref 102, .ref 103, .ref 104] 9 (.int x))) = HP (fu I 8409 x) A L F E := rfl
theorem hp_p_8415 {x : Int32} : (HP I A L F E).set 84 (.inl (8, List.set [.ref 85, .ref 86, .ref 87, .int (I 8403), .ref 88, .int (I 8405), .int (I 8406), .int (I 8407), .ref 89, .int (I 8409), .ref 90, .ref 91, .ref 92, .ref 93, .ref 94, .int (I 8415), .int (I 8416), .int (I 8417), .ref 95, .ref 102, .ref 103, .ref 104] 15 (.int x))) = HP (fu I 8415 x) A L F E := rfl
theorem hp_p_8416 {x : Int32} : (HP I A L F E).set 84 (.inl (8, List.set [.ref 85, .ref 86, .ref 87, .int (I 8403), .ref 88, .int (I 8405), .int (I 8406), .int (I 8407), .ref 89, .int (I 8409), .ref 90, .ref 91, .ref 92, .ref 93, .ref 94, .int (I 8415), .int (I 8416), .int (I 8417), .ref 95, .ref 102, .ref 103, .ref 104] 16 (.int x))) = HP (fu I 8416 x) A L F E := rfl
theorem hp_p_8417 {x : Int32} : (HP I A L F E).set 84 (.inl (8, List.set [.ref 85, .ref 86, .ref 87, .int (I 8403), .ref 88, .int (I 8405), .int (I 8406), .int (I 8407), .ref 89, .int (I 8409), .ref 90, .ref 91, .ref 92, .ref 93, .ref 94, .int (I 8415), .int (I 8416), .int (I 8417), .ref 95, .ref 102, .ref 103, .ref 104] 17 (.int x))) = HP (fu I 8417 x) A L F E := rfl
theorem hp_o_85 : (HP I A L F E)[85]? = some (.inr (.inl (0, A 85))) := rfl
theorem hp_s_85 {X : List Int32} : (HP I A L F E).set 85 (.inr (.inl (0, X))) = HP I (fu A 85 X) L F E := rfl
theorem hp_o_86 : (HP I A L F E)[86]? = some (.inr (.inl (0, A 86))) := rfl
theorem hp_s_86 {X : List Int32} : (HP I A L F E).set 86 (.inr (.inl (0, X))) = HP I (fu A 86 X) L F E := rfl
theorem hp_o_87 : (HP I A L F E)[87]? = some (.inr (.inl (0, A 87))) := rfl
theorem hp_s_87 {X : List Int32} : (HP I A L F E).set 87 (.inr (.inl (0, X))) = HP I (fu A 87 X) L F E := rfl
theorem hp_o_88 : (HP I A L F E)[88]? = some (.inr (.inl (0, A 88))) := rfl
theorem hp_s_88 {X : List Int32} : (HP I A L F E).set 88 (.inr (.inl (0, X))) = HP I (fu A 88 X) L F E := rfl
theorem hp_o_89 : (HP I A L F E)[89]? = some (.inr (.inl (0, A 89))) := rfl
theorem hp_s_89 {X : List Int32} : (HP I A L F E).set 89 (.inr (.inl (0, X))) = HP I (fu A 89 X) L F E := rfl
theorem hp_o_90 : (HP I A L F E)[90]? = some (.inr (.inl (0, A 90))) := rfl
theorem hp_s_90 {X : List Int32} : (HP I A L F E).set 90 (.inr (.inl (0, X))) = HP I (fu A 90 X) L F E := rfl
theorem hp_o_91 : (HP I A L F E)[91]? = some (.inr (.inl (0, A 91))) := rfl
theorem hp_s_91 {X : List Int32} : (HP I A L F E).set 91 (.inr (.inl (0, X))) = HP I (fu A 91 X) L F E := rfl
theorem hp_o_92 : (HP I A L F E)[92]? = some (.inr (.inl (0, A 92))) := rfl
theorem hp_s_92 {X : List Int32} : (HP I A L F E).set 92 (.inr (.inl (0, X))) = HP I (fu A 92 X) L F E := rfl
theorem hp_o_93 : (HP I A L F E)[93]? = some (.inr (.inl (0, A 93))) := rfl
theorem hp_s_93 {X : List Int32} : (HP I A L F E).set 93 (.inr (.inl (0, X))) = HP I (fu A 93 X) L F E := rfl
theorem hp_o_94 : (HP I A L F E)[94]? = some (.inr (.inl (0, A 94))) := rfl
theorem hp_s_94 {X : List Int32} : (HP I A L F E).set 94 (.inr (.inl (0, X))) = HP I (fu A 94 X) L F E := rfl
theorem hp_o_95 : (HP I A L F E)[95]? = some (.inr (.inr (.inr (5, [some 96, some 97, some 98, some 99, some 100, some 101])))) := rfl
theorem hp_o_96 : (HP I A L F E)[96]? = some (.inr (.inr (.inl (L 96)))) := rfl
theorem hp_s_96 {X : List Int64} : (HP I A L F E).set 96 (.inr (.inr (.inl X))) = HP I A (fu L 96 X) F E := rfl
theorem hp_o_97 : (HP I A L F E)[97]? = some (.inr (.inr (.inl (L 97)))) := rfl
theorem hp_s_97 {X : List Int64} : (HP I A L F E).set 97 (.inr (.inr (.inl X))) = HP I A (fu L 97 X) F E := rfl
theorem hp_o_98 : (HP I A L F E)[98]? = some (.inr (.inr (.inl (L 98)))) := rfl
theorem hp_s_98 {X : List Int64} : (HP I A L F E).set 98 (.inr (.inr (.inl X))) = HP I A (fu L 98 X) F E := rfl
theorem hp_o_99 : (HP I A L F E)[99]? = some (.inr (.inr (.inl (L 99)))) := rfl
theorem hp_s_99 {X : List Int64} : (HP I A L F E).set 99 (.inr (.inr (.inl X))) = HP I A (fu L 99 X) F E := rfl
theorem hp_o_100 : (HP I A L F E)[100]? = some (.inr (.inr (.inl (L 100)))) := rfl
theorem hp_s_100 {X : List Int64} : (HP I A L F E).set 100 (.inr (.inr (.inl X))) = HP I A (fu L 100 X) F E := rfl
theorem hp_o_101 : (HP I A L F E)[101]? = some (.inr (.inr (.inl (L 101)))) := rfl
theorem hp_s_101 {X : List Int64} : (HP I A L F E).set 101 (.inr (.inr (.inl X))) = HP I A (fu L 101 X) F E := rfl
theorem hp_o_102 : (HP I A L F E)[102]? = some (.inr (.inl (0, A 102))) := rfl
theorem hp_s_102 {X : List Int32} : (HP I A L F E).set 102 (.inr (.inl (0, X))) = HP I (fu A 102 X) L F E := rfl
theorem hp_o_103 : (HP I A L F E)[103]? = some (.inr (.inl (0, A 103))) := rfl
theorem hp_s_103 {X : List Int32} : (HP I A L F E).set 103 (.inr (.inl (0, X))) = HP I (fu A 103 X) L F E := rfl
theorem hp_o_104 : (HP I A L F E)[104]? = some (.inr (.inr (.inl (L 104)))) := rfl
theorem hp_s_104 {X : List Int64} : (HP I A L F E).set 104 (.inr (.inr (.inl X))) = HP I A (fu L 104 X) F E := rfl
end HPN
theorem ldR_mem {l : List (Option Nat)} {i : Int32} {a : Nat} (h : ldR l i = some a) : some a ∈ l := by
  unfold ldR at h
  split at h
  · cases h
  · cases hq : l[i.toNatClampNeg]? with
    | none => rw [hq] at h; cases h
    | some y =>
      rw [hq] at h
      have h : y = some a := h
      subst h
      exact List.mem_of_getElem? hq
theorem in_3 {i : Int32} {a : Nat} (h : ldR [some 14, some 16, some 18, some 20] i = some a) : isS a := by
  have := ldR_mem h
  simp at this
  unfold isS
  omega
theorem in_23 {i : Int32} {a : Nat} (h : ldR [some 34, some 36, some 38, some 40] i = some a) : isS a := by
  have := ldR_mem h
  simp at this
  unfold isS
  omega
theorem in_47 {i : Int32} {a : Nat} (h : ldR [some 72, some 74, some 76, some 78, some 80, some 82] i = some a) : isT a := by
  have := ldR_mem h
  simp at this
  unfold isT
  omega
theorem in_62 {i : Int32} {a : Nat} (h : ldR [some 63, some 64, some 65, some 66, some 67, some 68] i = some a) : isSy a := by
  have := ldR_mem h
  simp at this
  unfold isSy
  omega
theorem in_95 {i : Int32} {a : Nat} (h : ldR [some 96, some 97, some 98, some 99, some 100, some 101] i = some a) : isMr a := by
  have := ldR_mem h
  simp at this
  unfold isMr
  omega
theorem sg_retB {mi : Nat} {t : List (Nat × Act)} {pc : Nat} {L : ML} {h : MH} {b : Bool} (ht : ∀ pc, mm_act G0 mi pc = t.lookup pc) (e : t.lookup pc = some ac_retZ) : mm_run G0 mi pc L [.int (bi b)] h = some (some (.int (bi b)), h) := by
  refine mm_ret ((ht pc).trans e) ?_
  cases b <;> rfl
theorem sg_callV {mi : Nat} {t : List (Nat × Act)} {pc n : Nat} {L : ML} {h : MH} (ht : ∀ pc, mm_act G0 mi pc = t.lookup pc) {mj ci np b : Nat} {fs : List Value} {st as rest : List Value} (e : t.lookup pc = some (ac_callV mj ci np n)) (hd : st.drop np = .ref b :: rest) (ha : .ref b :: (st.take np).reverse = as) (hcat : mm_cat rest ≤ 8) (hc : h[b]? = some (.inl (ci, fs))) (hk : mm_rk G0 mj < mm_rk G0 mi ∧ (mm_ent as).length ≤ mm_ml G0 mj) : mm_run G0 mi pc L st h = (mm_call G0 mj as h).bind fun q => mm_run G0 mi n L (q.1.toList ++ rest) q.2 := by
  refine mm_cal ((ht pc).trans e) ?_ hk
  have hi : mm_is h b ci = true := by
    unfold mm_is
    rw [hc]
    exact beq_self_eq_true ci
  unfold ac_callV
  rw [hd]
  show (if _ then _ else _) = _
  rw [if_pos ⟨hcat, hi⟩, ha]
theorem ht_X0_init : ∀ pc, mm_act G0 1 pc = tb_X0_init.lookup pc := fun _ => rfl
theorem ht_X0_lay : ∀ pc, mm_act G0 2 pc = tb_X0_lay.lookup pc := fun _ => rfl
theorem ht_X0_next : ∀ pc, mm_act G0 3 pc = tb_X0_next.lookup pc := fun _ => rfl
theorem ht_X0_walk : ∀ pc, mm_act G0 4 pc = tb_X0_walk.lookup pc := fun _ => rfl
theorem ht_X0_walkOneStep : ∀ pc, mm_act G0 5 pc = tb_X0_walkOneStep.lookup pc := fun _ => rfl
theorem ht_X0_surelyEnds : ∀ pc, mm_act G0 6 pc = tb_X0_surelyEnds.lookup pc := fun _ => rfl
theorem ht_X0_spread : ∀ pc, mm_act G0 7 pc = tb_X0_spread.lookup pc := fun _ => rfl
theorem ht_X0_solve : ∀ pc, mm_act G0 8 pc = tb_X0_solve.lookup pc := fun _ => rfl
theorem ht_X0_rankReached : ∀ pc, mm_act G0 9 pc = tb_X0_rankReached.lookup pc := fun _ => rfl
theorem ht_X0_fillSystem : ∀ pc, mm_act G0 10 pc = tb_X0_fillSystem.lookup pc := fun _ => rfl
theorem ht_X0_eliminate : ∀ pc, mm_act G0 11 pc = tb_X0_eliminate.lookup pc := fun _ => rfl
theorem ht_X1_init : ∀ pc, mm_act G0 12 pc = tb_X1_init.lookup pc := fun _ => rfl
theorem ht_X1_begin : ∀ pc, mm_act G0 13 pc = tb_X1_begin.lookup pc := fun _ => rfl
theorem ht_X1_follow : ∀ pc, mm_act G0 14 pc = tb_X1_follow.lookup pc := fun _ => rfl
theorem ht_X1_alarmed : ∀ pc, mm_act G0 15 pc = tb_X1_alarmed.lookup pc := fun _ => rfl
theorem ht_X1_firstPlace : ∀ pc, mm_act G0 16 pc = tb_X1_firstPlace.lookup pc := fun _ => rfl
theorem ht_X1_alarmsAt : ∀ pc, mm_act G0 17 pc = tb_X1_alarmsAt.lookup pc := fun _ => rfl
theorem ht_X2_init : ∀ pc, mm_act G0 18 pc = tb_X2_init.lookup pc := fun _ => rfl
theorem ht_X2_clear : ∀ pc, mm_act G0 19 pc = tb_X2_clear.lookup pc := fun _ => rfl
theorem ht_X2_add : ∀ pc, mm_act G0 20 pc = tb_X2_add.lookup pc := fun _ => rfl
theorem ht_X2_become : ∀ pc, mm_act G0 21 pc = tb_X2_become.lookup pc := fun _ => rfl
theorem ht_X3_init : ∀ pc, mm_act G0 22 pc = tb_X3_init.lookup pc := fun _ => rfl
theorem ht_X3_become : ∀ pc, mm_act G0 23 pc = tb_X3_become.lookup pc := fun _ => rfl
theorem ht_X3_allValues : ∀ pc, mm_act G0 24 pc = tb_X3_allValues.lookup pc := fun _ => rfl
theorem ht_X3_jointPlaces : ∀ pc, mm_act G0 25 pc = tb_X3_jointPlaces.lookup pc := fun _ => rfl
theorem ht_X3_jointOffset : ∀ pc, mm_act G0 26 pc = tb_X3_jointOffset.lookup pc := fun _ => rfl
theorem ht_X3_jointSetting : ∀ pc, mm_act G0 27 pc = tb_X3_jointSetting.lookup pc := fun _ => rfl
theorem ht_X4_init : ∀ pc, mm_act G0 28 pc = tb_X4_init.lookup pc := fun _ => rfl
theorem ht_X4_isFull : ∀ pc, mm_act G0 29 pc = tb_X4_isFull.lookup pc := fun _ => rfl
theorem ht_X4_has : ∀ pc, mm_act G0 30 pc = tb_X4_has.lookup pc := fun _ => rfl
theorem ht_X4_add : ∀ pc, mm_act G0 31 pc = tb_X4_add.lookup pc := fun _ => rfl
theorem ht_X4_loseFirst : ∀ pc, mm_act G0 32 pc = tb_X4_loseFirst.lookup pc := fun _ => rfl
theorem ht_X4_become : ∀ pc, mm_act G0 33 pc = tb_X4_become.lookup pc := fun _ => rfl
theorem ht_X4_setting : ∀ pc, mm_act G0 34 pc = tb_X4_setting.lookup pc := fun _ => rfl
theorem ht_X4_settle : ∀ pc, mm_act G0 35 pc = tb_X4_settle.lookup pc := fun _ => rfl
theorem ht_X4_startBy : ∀ pc, mm_act G0 36 pc = tb_X4_startBy.lookup pc := fun _ => rfl
theorem ht_X4_offset : ∀ pc, mm_act G0 37 pc = tb_X4_offset.lookup pc := fun _ => rfl
theorem ht_X4_total : ∀ pc, mm_act G0 38 pc = tb_X4_total.lookup pc := fun _ => rfl
theorem ht_X4_gainAbove : ∀ pc, mm_act G0 39 pc = tb_X4_gainAbove.lookup pc := fun _ => rfl
theorem ht_X4_gainBelow : ∀ pc, mm_act G0 40 pc = tb_X4_gainBelow.lookup pc := fun _ => rfl
theorem ht_X4_squareApart : ∀ pc, mm_act G0 41 pc = tb_X4_squareApart.lookup pc := fun _ => rfl
theorem ht_X4_changePlace : ∀ pc, mm_act G0 42 pc = tb_X4_changePlace.lookup pc := fun _ => rfl
theorem ht_X5_init : ∀ pc, mm_act G0 43 pc = tb_X5_init.lookup pc := fun _ => rfl
theorem ht_X5_lay : ∀ pc, mm_act G0 44 pc = tb_X5_lay.lookup pc := fun _ => rfl
theorem ht_X5_has : ∀ pc, mm_act G0 45 pc = tb_X5_has.lookup pc := fun _ => rfl
theorem ht_X5_holds : ∀ pc, mm_act G0 46 pc = tb_X5_holds.lookup pc := fun _ => rfl
theorem ht_X5_narrowed : ∀ pc, mm_act G0 47 pc = tb_X5_narrowed.lookup pc := fun _ => rfl
theorem ht_X6_init : ∀ pc, mm_act G0 48 pc = tb_X6_init.lookup pc := fun _ => rfl
theorem ht_X6_add : ∀ pc, mm_act G0 49 pc = tb_X6_add.lookup pc := fun _ => rfl
theorem ht_X6_fault : ∀ pc, mm_act G0 50 pc = tb_X6_fault.lookup pc := fun _ => rfl
theorem ht_X6_take : ∀ pc, mm_act G0 51 pc = tb_X6_take.lookup pc := fun _ => rfl
theorem ht_X6_takeLetter : ∀ pc, mm_act G0 52 pc = tb_X6_takeLetter.lookup pc := fun _ => rfl
theorem ht_X6_takeWhich : ∀ pc, mm_act G0 53 pc = tb_X6_takeWhich.lookup pc := fun _ => rfl
theorem ht_X6_takeDigit : ∀ pc, mm_act G0 54 pc = tb_X6_takeDigit.lookup pc := fun _ => rfl
theorem ht_X6_takeEnd : ∀ pc, mm_act G0 55 pc = tb_X6_takeEnd.lookup pc := fun _ => rfl
theorem ht_X6_takesNumber : ∀ pc, mm_act G0 56 pc = tb_X6_takesNumber.lookup pc := fun _ => rfl
theorem ht_X6_isDigit : ∀ pc, mm_act G0 57 pc = tb_X6_isDigit.lookup pc := fun _ => rfl
theorem ht_X7_init : ∀ pc, mm_act G0 58 pc = tb_X7_init.lookup pc := fun _ => rfl
theorem ht_X7_value : ∀ pc, mm_act G0 59 pc = tb_X7_value.lookup pc := fun _ => rfl
theorem ht_X7_drop : ∀ pc, mm_act G0 60 pc = tb_X7_drop.lookup pc := fun _ => rfl
theorem ht_X7_set : ∀ pc, mm_act G0 61 pc = tb_X7_set.lookup pc := fun _ => rfl
theorem ht_X7_of : ∀ pc, mm_act G0 62 pc = tb_X7_of.lookup pc := fun _ => rfl
theorem ht_X7_at : ∀ pc, mm_act G0 63 pc = tb_X7_at.lookup pc := fun _ => rfl
theorem ht_X7_off : ∀ pc, mm_act G0 64 pc = tb_X7_off.lookup pc := fun _ => rfl
theorem ht_X7_feed : ∀ pc, mm_act G0 65 pc = tb_X7_feed.lookup pc := fun _ => rfl
theorem ht_X7_read : ∀ pc, mm_act G0 66 pc = tb_X7_read.lookup pc := fun _ => rfl
theorem ht_X7_sum : ∀ pc, mm_act G0 67 pc = tb_X7_sum.lookup pc := fun _ => rfl
theorem ht_X7_alarms : ∀ pc, mm_act G0 68 pc = tb_X7_alarms.lookup pc := fun _ => rfl
theorem ht_X7_alarm : ∀ pc, mm_act G0 69 pc = tb_X7_alarm.lookup pc := fun _ => rfl
theorem ht_X7_latest : ∀ pc, mm_act G0 70 pc = tb_X7_latest.lookup pc := fun _ => rfl
theorem ht_X7_joint : ∀ pc, mm_act G0 71 pc = tb_X7_joint.lookup pc := fun _ => rfl
theorem ht_X7_change : ∀ pc, mm_act G0 72 pc = tb_X7_change.lookup pc := fun _ => rfl
theorem ht_X7_gain : ∀ pc, mm_act G0 73 pc = tb_X7_gain.lookup pc := fun _ => rfl
theorem ht_X7_weight : ∀ pc, mm_act G0 74 pc = tb_X7_weight.lookup pc := fun _ => rfl
theorem ht_X7_weighs : ∀ pc, mm_act G0 75 pc = tb_X7_weighs.lookup pc := fun _ => rfl
theorem ht_X7_run : ∀ pc, mm_act G0 76 pc = tb_X7_run.lookup pc := fun _ => rfl
theorem ht_X7_likely : ∀ pc, mm_act G0 77 pc = tb_X7_likely.lookup pc := fun _ => rfl
theorem ht_X7_would : ∀ pc, mm_act G0 78 pc = tb_X7_would.lookup pc := fun _ => rfl
theorem ht_X7_quiet : ∀ pc, mm_act G0 79 pc = tb_X7_quiet.lookup pc := fun _ => rfl
theorem ht_X7_see : ∀ pc, mm_act G0 80 pc = tb_X7_see.lookup pc := fun _ => rfl
theorem ht_X7_fits : ∀ pc, mm_act G0 81 pc = tb_X7_fits.lookup pc := fun _ => rfl
theorem ht_X7_odds : ∀ pc, mm_act G0 82 pc = tb_X7_odds.lookup pc := fun _ => rfl
theorem ht_X7_mean : ∀ pc, mm_act G0 83 pc = tb_X7_mean.lookup pc := fun _ => rfl
theorem ht_X7_plan : ∀ pc, mm_act G0 84 pc = tb_X7_plan.lookup pc := fun _ => rfl
theorem ht_X7_ends : ∀ pc, mm_act G0 85 pc = tb_X7_ends.lookup pc := fun _ => rfl
theorem ht_X7_book : ∀ pc, mm_act G0 86 pc = tb_X7_book.lookup pc := fun _ => rfl
theorem ht_X7_looked : ∀ pc, mm_act G0 87 pc = tb_X7_looked.lookup pc := fun _ => rfl
theorem ht_X7_judge : ∀ pc, mm_act G0 88 pc = tb_X7_judge.lookup pc := fun _ => rfl
theorem ht_X7_image : ∀ pc, mm_act G0 89 pc = tb_X7_image.lookup pc := fun _ => rfl
theorem ht_X7_undo : ∀ pc, mm_act G0 90 pc = tb_X7_undo.lookup pc := fun _ => rfl
theorem ht_X7_count : ∀ pc, mm_act G0 91 pc = tb_X7_count.lookup pc := fun _ => rfl
theorem ht_X7_tape : ∀ pc, mm_act G0 92 pc = tb_X7_tape.lookup pc := fun _ => rfl
theorem ht_X7_item : ∀ pc, mm_act G0 93 pc = tb_X7_item.lookup pc := fun _ => rfl
theorem ht_X7_peek : ∀ pc, mm_act G0 94 pc = tb_X7_peek.lookup pc := fun _ => rfl
theorem ht_X7_shift : ∀ pc, mm_act G0 95 pc = tb_X7_shift.lookup pc := fun _ => rfl
theorem ht_X7_isStream : ∀ pc, mm_act G0 96 pc = tb_X7_isStream.lookup pc := fun _ => rfl
theorem ht_X7_isTape : ∀ pc, mm_act G0 97 pc = tb_X7_isTape.lookup pc := fun _ => rfl
theorem ht_X7_isStep : ∀ pc, mm_act G0 98 pc = tb_X7_isStep.lookup pc := fun _ => rfl
theorem ht_X7_isPart : ∀ pc, mm_act G0 99 pc = tb_X7_isPart.lookup pc := fun _ => rfl
theorem ht_X7_isValue : ∀ pc, mm_act G0 100 pc = tb_X7_isValue.lookup pc := fun _ => rfl
theorem ht_X7_isSetting : ∀ pc, mm_act G0 101 pc = tb_X7_isSetting.lookup pc := fun _ => rfl
theorem ht_X7_isPlannable : ∀ pc, mm_act G0 102 pc = tb_X7_isPlannable.lookup pc := fun _ => rfl
theorem ht_X7_lowest : ∀ pc, mm_act G0 103 pc = tb_X7_lowest.lookup pc := fun _ => rfl
theorem ht_X7_obey : ∀ pc, mm_act G0 104 pc = tb_X7_obey.lookup pc := fun _ => rfl
theorem ht_X7_drawNow : ∀ pc, mm_act G0 105 pc = tb_X7_drawNow.lookup pc := fun _ => rfl
theorem ht_X7_draw : ∀ pc, mm_act G0 106 pc = tb_X7_draw.lookup pc := fun _ => rfl
theorem ht_X7_drawJoint : ∀ pc, mm_act G0 107 pc = tb_X7_drawJoint.lookup pc := fun _ => rfl
theorem ht_X7_showsSeen : ∀ pc, mm_act G0 108 pc = tb_X7_showsSeen.lookup pc := fun _ => rfl
theorem ht_X7_followPlan : ∀ pc, mm_act G0 109 pc = tb_X7_followPlan.lookup pc := fun _ => rfl
theorem ht_X7_layChain : ∀ pc, mm_act G0 110 pc = tb_X7_layChain.lookup pc := fun _ => rfl
theorem ht_X8_init : ∀ pc, mm_act G0 111 pc = tb_X8_init.lookup pc := fun _ => rfl
theorem ht_X8_base : ∀ pc, mm_act G0 112 pc = tb_X8_base.lookup pc := fun _ => rfl
theorem ht_X8_isIn : ∀ pc, mm_act G0 113 pc = tb_X8_isIn.lookup pc := fun _ => rfl
theorem ht_X8_isStream : ∀ pc, mm_act G0 114 pc = tb_X8_isStream.lookup pc := fun _ => rfl
theorem ht_X8_many : ∀ pc, mm_act G0 115 pc = tb_X8_many.lookup pc := fun _ => rfl
theorem ht_X8_isPlace : ∀ pc, mm_act G0 116 pc = tb_X8_isPlace.lookup pc := fun _ => rfl
theorem ht_X8_passes : ∀ pc, mm_act G0 117 pc = tb_X8_passes.lookup pc := fun _ => rfl
theorem ht_X8_comes : ∀ pc, mm_act G0 118 pc = tb_X8_comes.lookup pc := fun _ => rfl
theorem ht_X8_value : ∀ pc, mm_act G0 119 pc = tb_X8_value.lookup pc := fun _ => rfl
theorem ht_X8_drop : ∀ pc, mm_act G0 120 pc = tb_X8_drop.lookup pc := fun _ => rfl
theorem ht_X8_isFit : ∀ pc, mm_act G0 121 pc = tb_X8_isFit.lookup pc := fun _ => rfl
theorem ht_X8_set : ∀ pc, mm_act G0 122 pc = tb_X8_set.lookup pc := fun _ => rfl
theorem ht_X8_startOf : ∀ pc, mm_act G0 123 pc = tb_X8_startOf.lookup pc := fun _ => rfl
theorem ht_X8_of : ∀ pc, mm_act G0 124 pc = tb_X8_of.lookup pc := fun _ => rfl
theorem ht_X8_valueAt : ∀ pc, mm_act G0 125 pc = tb_X8_valueAt.lookup pc := fun _ => rfl
theorem ht_X8_offAt : ∀ pc, mm_act G0 126 pc = tb_X8_offAt.lookup pc := fun _ => rfl
theorem ht_X8_at : ∀ pc, mm_act G0 127 pc = tb_X8_at.lookup pc := fun _ => rfl
theorem ht_X8_off : ∀ pc, mm_act G0 128 pc = tb_X8_off.lookup pc := fun _ => rfl
theorem ht_X8_feed : ∀ pc, mm_act G0 129 pc = tb_X8_feed.lookup pc := fun _ => rfl
theorem ht_X8_isSign : ∀ pc, mm_act G0 130 pc = tb_X8_isSign.lookup pc := fun _ => rfl
theorem ht_X8_digit : ∀ pc, mm_act G0 131 pc = tb_X8_digit.lookup pc := fun _ => rfl
theorem ht_X8_number : ∀ pc, mm_act G0 132 pc = tb_X8_number.lookup pc := fun _ => rfl
theorem ht_X8_readsClause : ∀ pc, mm_act G0 133 pc = tb_X8_readsClause.lookup pc := fun _ => rfl
theorem ht_X8_readsText : ∀ pc, mm_act G0 134 pc = tb_X8_readsText.lookup pc := fun _ => rfl
theorem ht_X8_isDone : ∀ pc, mm_act G0 135 pc = tb_X8_isDone.lookup pc := fun _ => rfl
theorem ht_X8_read : ∀ pc, mm_act G0 136 pc = tb_X8_read.lookup pc := fun _ => rfl
theorem ht_X8_goesOn : ∀ pc, mm_act G0 137 pc = tb_X8_goesOn.lookup pc := fun _ => rfl
theorem ht_X8_goesThrough : ∀ pc, mm_act G0 138 pc = tb_X8_goesThrough.lookup pc := fun _ => rfl
theorem ht_X8_firstAlarm : ∀ pc, mm_act G0 139 pc = tb_X8_firstAlarm.lookup pc := fun _ => rfl
theorem ht_X8_sum : ∀ pc, mm_act G0 140 pc = tb_X8_sum.lookup pc := fun _ => rfl
theorem ht_X8_alarms : ∀ pc, mm_act G0 141 pc = tb_X8_alarms.lookup pc := fun _ => rfl
theorem ht_X8_alarm : ∀ pc, mm_act G0 142 pc = tb_X8_alarm.lookup pc := fun _ => rfl
theorem ht_X8_latest : ∀ pc, mm_act G0 143 pc = tb_X8_latest.lookup pc := fun _ => rfl
theorem ht_X8_goesJoint : ∀ pc, mm_act G0 144 pc = tb_X8_goesJoint.lookup pc := fun _ => rfl
theorem ht_X8_joint : ∀ pc, mm_act G0 145 pc = tb_X8_joint.lookup pc := fun _ => rfl
theorem ht_X8_total : ∀ pc, mm_act G0 146 pc = tb_X8_total.lookup pc := fun _ => rfl
theorem ht_X8_gainAbove : ∀ pc, mm_act G0 147 pc = tb_X8_gainAbove.lookup pc := fun _ => rfl
theorem ht_X8_gainBelow : ∀ pc, mm_act G0 148 pc = tb_X8_gainBelow.lookup pc := fun _ => rfl
theorem ht_X8_changeOf : ∀ pc, mm_act G0 149 pc = tb_X8_changeOf.lookup pc := fun _ => rfl
theorem ht_X8_change : ∀ pc, mm_act G0 150 pc = tb_X8_change.lookup pc := fun _ => rfl
theorem ht_X8_common : ∀ pc, mm_act G0 151 pc = tb_X8_common.lookup pc := fun _ => rfl
theorem ht_X8_partOf : ∀ pc, mm_act G0 152 pc = tb_X8_partOf.lookup pc := fun _ => rfl
theorem ht_X8_gain : ∀ pc, mm_act G0 153 pc = tb_X8_gain.lookup pc := fun _ => rfl
theorem ht_X8_weight : ∀ pc, mm_act G0 154 pc = tb_X8_weight.lookup pc := fun _ => rfl
theorem ht_X8_weighs : ∀ pc, mm_act G0 155 pc = tb_X8_weighs.lookup pc := fun _ => rfl
theorem ht_X8_allWeights : ∀ pc, mm_act G0 156 pc = tb_X8_allWeights.lookup pc := fun _ => rfl
theorem ht_X8_leads : ∀ pc, mm_act G0 157 pc = tb_X8_leads.lookup pc := fun _ => rfl
theorem ht_X8_reaches : ∀ pc, mm_act G0 158 pc = tb_X8_reaches.lookup pc := fun _ => rfl
theorem ht_X8_isChain : ∀ pc, mm_act G0 159 pc = tb_X8_isChain.lookup pc := fun _ => rfl
theorem ht_X8_equations : ∀ pc, mm_act G0 160 pc = tb_X8_equations.lookup pc := fun _ => rfl
theorem ht_X8_swaps : ∀ pc, mm_act G0 161 pc = tb_X8_swaps.lookup pc := fun _ => rfl
theorem ht_X8_clears : ∀ pc, mm_act G0 162 pc = tb_X8_clears.lookup pc := fun _ => rfl
theorem ht_X8_run : ∀ pc, mm_act G0 163 pc = tb_X8_run.lookup pc := fun _ => rfl
theorem ht_X8_likely : ∀ pc, mm_act G0 164 pc = tb_X8_likely.lookup pc := fun _ => rfl
theorem ht_X8_firstBy : ∀ pc, mm_act G0 165 pc = tb_X8_firstBy.lookup pc := fun _ => rfl
theorem ht_X8_would : ∀ pc, mm_act G0 166 pc = tb_X8_would.lookup pc := fun _ => rfl
theorem ht_X8_quiet : ∀ pc, mm_act G0 167 pc = tb_X8_quiet.lookup pc := fun _ => rfl
theorem ht_X8_row : ∀ pc, mm_act G0 168 pc = tb_X8_row.lookup pc := fun _ => rfl
theorem ht_X8_see : ∀ pc, mm_act G0 169 pc = tb_X8_see.lookup pc := fun _ => rfl
theorem ht_X8_isAlarmAt : ∀ pc, mm_act G0 170 pc = tb_X8_isAlarmAt.lookup pc := fun _ => rfl
theorem ht_X8_isAllSeen : ∀ pc, mm_act G0 171 pc = tb_X8_isAllSeen.lookup pc := fun _ => rfl
theorem ht_X8_fits : ∀ pc, mm_act G0 172 pc = tb_X8_fits.lookup pc := fun _ => rfl
theorem ht_X8_odds : ∀ pc, mm_act G0 173 pc = tb_X8_odds.lookup pc := fun _ => rfl
theorem ht_X8_mean : ∀ pc, mm_act G0 174 pc = tb_X8_mean.lookup pc := fun _ => rfl
theorem ht_X8_plan : ∀ pc, mm_act G0 175 pc = tb_X8_plan.lookup pc := fun _ => rfl
theorem ht_X8_goes : ∀ pc, mm_act G0 176 pc = tb_X8_goes.lookup pc := fun _ => rfl
theorem ht_X8_ends : ∀ pc, mm_act G0 177 pc = tb_X8_ends.lookup pc := fun _ => rfl
theorem ht_X8_book : ∀ pc, mm_act G0 178 pc = tb_X8_book.lookup pc := fun _ => rfl
theorem ht_X8_looked : ∀ pc, mm_act G0 179 pc = tb_X8_looked.lookup pc := fun _ => rfl
theorem ht_X8_isTape : ∀ pc, mm_act G0 180 pc = tb_X8_isTape.lookup pc := fun _ => rfl
theorem ht_X8_judge : ∀ pc, mm_act G0 181 pc = tb_X8_judge.lookup pc := fun _ => rfl
theorem ht_X8_allValues : ∀ pc, mm_act G0 182 pc = tb_X8_allValues.lookup pc := fun _ => rfl
theorem ht_X8_image : ∀ pc, mm_act G0 183 pc = tb_X8_image.lookup pc := fun _ => rfl
theorem ht_X8_undo : ∀ pc, mm_act G0 184 pc = tb_X8_undo.lookup pc := fun _ => rfl
theorem ht_X8_count : ∀ pc, mm_act G0 185 pc = tb_X8_count.lookup pc := fun _ => rfl
theorem ht_X8_tape : ∀ pc, mm_act G0 186 pc = tb_X8_tape.lookup pc := fun _ => rfl
theorem ht_X8_lowest : ∀ pc, mm_act G0 187 pc = tb_X8_lowest.lookup pc := fun _ => rfl
theorem ht_X8_item : ∀ pc, mm_act G0 188 pc = tb_X8_item.lookup pc := fun _ => rfl
theorem ht_X8_peek : ∀ pc, mm_act G0 189 pc = tb_X8_peek.lookup pc := fun _ => rfl
theorem ht_X8_shift : ∀ pc, mm_act G0 190 pc = tb_X8_shift.lookup pc := fun _ => rfl
