/-! the start: both are new -/
def z0 : Sz := (fun _ => 0, fun _ => 1, fun _ => 1, fun _ => 0, fun _ => 1, fun _ => 0, fun _ => [], 0)
theorem z0_mz : Mz z0 (mZ newM) := by
  refine ⟨fun c _ => rfl, fun c _ => ?_, fun c _ => ?_, fun c _ => rfl, fun c _ => ?_, fun p _ => rfl, fun p _ => rfl, fun p i _ _ => ?_, rfl⟩
  · show (0 : Int32) = nI 1 - 1
    decide
  · show (0 : Int32) = nI 1 - 1
    decide
  · show (0 : Int32) = nI 1 - 1
    decide
  · show (0 : Int32) = nI (hd0 (([] : List Nat).drop i))
    rw [List.drop_nil]; rfl
theorem newT_ht : Ht (clrS 0) (Wz (clrS 0) (fun _ => 0)) newT := by
  refine ⟨fun c hc => ⟨?_, rfl, rfl, rfl, rfl, ?_, ?_⟩, fun p hp => ⟨rfl, rfl⟩, rfl⟩
  · show (if c = 0 then (1 : Int32) else 0) = nI (if c = 0 then 1 else 0)
    by_cases e : c = 0
    · rw [if_pos e, if_pos e]; rfl
    · rw [if_neg e, if_neg e]; rfl
  · rw [clr_msk]; rfl
  · rw [clr_W]; rfl
theorem s_start : ∃ o, fM_clearTable newM = some o ∧ ∀ ad : Nat → Nat → Nat, Rl ((newT, newT, 0, 0, 0), (ad, fun _ => newT)) o := by
  obtain ⟨o, ho, f, rfl, h1⟩ := z_clearTable z0_mz
  refine ⟨_, ho, fun ad => ⟨clrS 0, fun _ => 0, [], 0, ⟨clr_wf 0, newT_ht, h1, okw_nil, rfl, rfl, fun i hi => absurd hi (Nat.not_lt_zero i), rfl, rfl, rfl, by omega⟩, fun i hi => absurd hi (Nat.not_lt_zero i)⟩⟩
