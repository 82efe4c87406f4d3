/-! what the constructors leave -/
def W0 : List Int32 := [0, 0, 1, 4] ++ List.replicate 41 0 ++ ([0, 0, 1, 4] ++ List.replicate 41 0) ++ ([0, 0, 1, 4] ++ List.replicate 41 0) ++ ([0, 0, 1, 4] ++ List.replicate 41 0) ++ [1, 1, 1, 1, 1] ++ List.replicate 47 0
def I0 (x : Nat) : Int32 := if [1402, 1602, 1802, 2002, 3402, 3602, 3802, 4002, 6902].contains x = true then 1 else if [1403, 1603, 1803, 2003, 3403, 3603, 3803, 4003, 6903].contains x = true then 4 else if [7200, 7400, 7600, 7800, 8000, 8200].contains x = true then -1 else 0
def A0 (a : Nat) : List Int32 := if a = 85 then W0 else if a = 4 ∨ a = 24 then List.replicate 5 1 else if a = 102 then List.replicate 6 (-1) else List.replicate ((lenI.lookup a).getD 0) 0
def L0 (a : Nat) : List Int64 := List.replicate ((lenL.lookup a).getD 0) 0
def Fl0 (x : Nat) : Int64 := if x = 5405 then 1 else 0
def dq_A : DecidableEq (Nat × List Value) := inferInstance
def dq_I : DecidableEq (Nat × List Int32) := inferInstance
def dq_B : DecidableEq ((List Int64) ⊕ (Nat × List (Option Nat))) := inferInstance
def dq_C : DecidableEq MC := @instDecidableEqSum _ _ dq_A (@instDecidableEqSum _ _ dq_I dq_B)
def dq_H : DecidableEq MH := @instDecidableEqList _ dq_C
def dq_P : DecidableEq (Option Value × MH) := @instDecidableEqProd _ _ inferInstance dq_H
def dq_O : DecidableEq MO := let _ : DecidableEq (Option Value × MH) := dq_P; (inferInstance : DecidableEq (Option (Option Value × MH)))
set_option maxRecDepth 100000 in
theorem ct_x : mx G0 2000 58 0 (mm_loc [.ref 1] (mm_ml G0 58)) [] [mm_dummy, .inl (7, [.null, .null, .int 0, .null, .null, .null, .null, .null, .null])] = some (none, (HP I0 A0 L0 Fl0 []).take 84) := @of_decide_eq_true _ (dq_O _ _) (by decide +kernel)
set_option maxRecDepth 100000 in
theorem ct_m : mx G0 2000 111 0 (mm_loc [.ref 84] (mm_ml G0 111)) [] ((HP I0 A0 L0 Fl0 []).take 84 ++ [.inl (8, [.null, .null, .null, .int 0, .null, .int 0, .int 0, .int 0, .null, .int 0, .null, .null, .null, .null, .null, .int 0, .int 0, .int 0, .null, .null, .null, .null])]) = some (none, HP I0 A0 L0 Fl0 []) := @of_decide_eq_true _ (dq_O _ _) (by decide +kernel)
theorem cx_call : mm_call G0 58 [.ref 1] [mm_dummy, .inl (7, [.null, .null, .int 0, .null, .null, .null, .null, .null, .null])] = some (none, (HP I0 A0 L0 Fl0 []).take 84) := mm_run_iff.mpr ⟨2000, ct_x⟩
theorem cm_call : mm_call G0 111 [.ref 84] ((HP I0 A0 L0 Fl0 []).take 84 ++ [.inl (8, [.null, .null, .null, .int 0, .null, .int 0, .int 0, .int 0, .null, .int 0, .null, .null, .null, .null, .null, .int 0, .int 0, .int 0, .null, .null, .null, .null])]) = some (none, HP I0 A0 L0 Fl0 []) := mm_run_iff.mpr ⟨2000, ct_m⟩
theorem sim_0 : Sim I0 A0 L0 := by
  have z4 : ∀ s, s < 4 → gw A0 85 (45 * s + 4) = nI 0 := by decide +kernel
  have zq : ∀ s, s < 4 → ∀ k, k < 5 → I0 (100 * (14 + 2 * s) + k) = gw A0 85 (45 * s + k) := by decide +kernel
  have zr : gw A0 85 185 = nI 0 ∧ gw A0 85 198 = nI 0 ∧ gw A0 85 215 = nI 0 := by decide +kernel
  refine ⟨⟨by decide +kernel, by decide +kernel⟩, ⟨⟨fun s k hs hk => zq s hs k hk, fun s n p hs hw hn hp => ?_⟩, by decide +kernel, ⟨by decide +kernel, fun n j hw hn hj => ?_⟩, ⟨by decide +kernel, fun n j hw hn hj => ?_⟩, ⟨by decide +kernel, fun n j hw hn hj => ?_⟩⟩, ⟨fun s hs => ⟨?_, ?_, ?_, ?_, ⟨0, by decide, z4 s hs⟩, fun p hp => ?_⟩, by decide +kernel, ⟨0, by decide, zr.1, fun j hj => absurd hj (Nat.not_lt_zero _)⟩, ⟨0, by decide, zr.2.1, fun j hj => absurd hj (Nat.not_lt_zero _)⟩, ⟨0, by decide, zr.2.2, fun j hj => absurd hj (Nat.not_lt_zero _)⟩⟩, ⟨by decide +kernel, Or.inl (by decide +kernel)⟩, ⟨0, by decide, by decide +kernel, by decide +kernel, fun j hj => absurd hj (Nat.not_lt_zero _)⟩, fun t ht => ⟨?_, ?_, 0, by decide, ?_, ?_, fun _ => rfl, fun j hj => absurd hj (Nat.not_lt_zero _)⟩⟩
  · have : n = 0 := (nI_eq (by omega) (by decide)).mp (hw.symm.trans (z4 s hs))
    omega
  · have : n = 0 := (nI_eq (by omega) (by decide)).mp (hw.symm.trans zr.1)
    omega
  · have : n = 0 := (nI_eq (by omega) (by decide)).mp (hw.symm.trans zr.2.1)
    omega
  · have : n = 0 := (nI_eq (by omega) (by decide)).mp (hw.symm.trans zr.2.2)
    omega
  · revert s
    decide +kernel
  · revert s
    decide +kernel
  · revert s
    decide +kernel
  · revert s
    decide +kernel
  · revert p
    revert s
    decide +kernel
  · revert t
    decide +kernel
  · revert t
    decide +kernel
  · revert t
    decide +kernel
  · revert t
    decide +kernel
