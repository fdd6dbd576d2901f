abbrev iOkP (C : iMeth) : Prop := iOkM C = true ∧ iOkT iProg C = true
def iOkC (P : Nat → Option iMeth) (M : iMeth) (k : Nat) : Bool := (List.range 16).all (fun j => match iFetch (iMt M) (16 * k + j) with
  | none => true
  | some en => iOkE P M (16 * k + j) en)
theorem iOkC_all {P : Nat → Option iMeth} {M : iMeth} (h : ∀ k, k < (iMt M).length → iOkC P M k = true) : iOkT P M = true := by
  unfold iOkT
  apply List.all_eq_true.mpr
  intro pc hpc
  have hlt := List.mem_range.mp hpc
  have h1 := List.all_eq_true.mp (h (pc / 16) (by omega)) (pc % 16) (List.mem_range.mpr (Nat.mod_lt _ (by decide)))
  rw [show 16 * (pc / 16) + pc % 16 = pc by omega] at h1
  exact h1
theorem ok_X0_init : iOkP mX0_init := ⟨by decide +kernel, by decide +kernel⟩
theorem ok_X0_run : iOkP mX0_run := ⟨by decide +kernel, by decide +kernel⟩
theorem ok_X0_beginMinute : iOkP mX0_beginMinute := ⟨by decide +kernel, by decide +kernel⟩
theorem ok_X0_move : iOkP mX0_move := ⟨by decide +kernel, by decide +kernel⟩
theorem ok_X0_putIn : iOkP mX0_putIn := ⟨by decide +kernel, by decide +kernel⟩
theorem ok_X0_lierIn : iOkP mX0_lierIn := ⟨by decide +kernel, by decide +kernel⟩
theorem ok_X0_afloatOrLying : iOkP mX0_afloatOrLying := ⟨by decide +kernel, by decide +kernel⟩
theorem ok_X0_minuteOut : iOkP mX0_minuteOut := ⟨by decide +kernel, by decide +kernel⟩
theorem ok_X0_minutesIn : iOkP mX0_minutesIn := ⟨by decide +kernel, by decide +kernel⟩
theorem ok_X0_minutesOfAll : iOkP mX0_minutesOfAll := ⟨by decide +kernel, by decide +kernel⟩
theorem ok_X0_outBits : iOkP mX0_outBits := ⟨by decide +kernel, by decide +kernel⟩
theorem ok_X0_trace : iOkP mX0_trace := ⟨by decide +kernel, by decide +kernel⟩
theorem ok_X1_init : iOkP mX1_init := ⟨by decide +kernel, by decide +kernel⟩
theorem ok_X1_mayBe : iOkP mX1_mayBe := ⟨by decide +kernel, by decide +kernel⟩
theorem ok_X1_append : iOkP mX1_append := ⟨by decide +kernel, by decide +kernel⟩
theorem ok_X1_bits : iOkP mX1_bits := ⟨by decide +kernel, by decide +kernel⟩
theorem ok_X1_mark : iOkP mX1_mark := ⟨by decide +kernel, by decide +kernel⟩
theorem ok_X2_init : iOkP mX2_init := ⟨by decide +kernel, by decide +kernel⟩
theorem ok_X2_isLost : iOkP mX2_isLost := ⟨by decide +kernel, by decide +kernel⟩
theorem ok_X2_renew : iOkP mX2_renew := ⟨by decide +kernel, by decide +kernel⟩
theorem ok_X2_findingAt : iOkP mX2_findingAt := ⟨by decide +kernel, by decide +kernel⟩
theorem ok_X2_hasRun : iOkP mX2_hasRun := ⟨by decide +kernel, by decide +kernel⟩
theorem ok_X2_put : iOkP mX2_put := ⟨by decide +kernel, by decide +kernel⟩
theorem ok_X3_init : iOkP mX3_init := ⟨by decide +kernel, by decide +kernel⟩
theorem ok_X3_append : iOkP mX3_append := ⟨by decide +kernel, by decide +kernel⟩
theorem ok_X3_fit : iOkP mX3_fit := ⟨by decide +kernel, by decide +kernel⟩
theorem ok_X4_init : iOkP mX4_init := ⟨by decide +kernel, by decide +kernel⟩
theorem ok_X4_append : iOkP mX4_append := ⟨by decide +kernel, by decide +kernel⟩
theorem ok_X5_init : iOkP mX5_init := ⟨by decide +kernel, by decide +kernel⟩
theorem ok_X5_tellSlopes : iOkP mX5_tellSlopes := ⟨by decide +kernel, by decide +kernel⟩
theorem ok_X5_tellFeeders : iOkP mX5_tellFeeders := ⟨by decide +kernel, by decide +kernel⟩
theorem ok_X5_tellFigures : iOkP mX5_tellFigures := ⟨by decide +kernel, by decide +kernel⟩
theorem ok_X5_tellLogs : iOkP mX5_tellLogs := ⟨by decide +kernel, by decide +kernel⟩
theorem ok_X5_faultOfLogs : iOkP mX5_faultOfLogs := ⟨by decide +kernel, by decide +kernel⟩
theorem ok_X5_mayStand : iOkP mX5_mayStand := ⟨by decide +kernel, by decide +kernel⟩
theorem ok_X5_logBits : iOkP mX5_logBits := ⟨by decide +kernel, by decide +kernel⟩
theorem ok_X6_init : iOkP mX6_init := ⟨by decide +kernel, by decide +kernel⟩
theorem ok_X6_pour : iOkP mX6_pour := ⟨by decide +kernel, by decide +kernel⟩
theorem ok_X6_together : iOkP mX6_together := ⟨by decide +kernel, by decide +kernel⟩
theorem ok_X6_dryBits : iOkP mX6_dryBits := ⟨by decide +kernel, by decide +kernel⟩
theorem ok_X7_init : iOkP mX7_init := ⟨by decide +kernel, by decide +kernel⟩
theorem ok_X7_type : iOkP mX7_type := ⟨by decide +kernel, by decide +kernel⟩
theorem ok_X7_wipe : iOkP mX7_wipe := ⟨by decide +kernel, by decide +kernel⟩
theorem ok_X7_undo : iOkP mX7_undo := ⟨by decide +kernel, by decide +kernel⟩
theorem ok_X7_fault : iOkP mX7_fault := ⟨by decide +kernel, by decide +kernel⟩
theorem ok_X7_span : iOkP mX7_span := ⟨by decide +kernel, by decide +kernel⟩
theorem ok_X7_log : iOkP mX7_log := ⟨by decide +kernel, by decide +kernel⟩
theorem ok_X7_event : iOkP mX7_event := ⟨by decide +kernel, by decide +kernel⟩
theorem ok_X7_back : iOkP mX7_back := ⟨by decide +kernel, by decide +kernel⟩
theorem ok_X7_read : iOkP mX7_read := ⟨by decide +kernel, by decide +kernel⟩
theorem ok_X7_flume : iOkP mX7_flume := ⟨by decide +kernel, by decide +kernel⟩
theorem ok_X7_at : iOkP mX7_at := ⟨by decide +kernel, by decide +kernel⟩
theorem ok_X7_all : iOkP mX7_all := ⟨by decide +kernel, by decide +kernel⟩
