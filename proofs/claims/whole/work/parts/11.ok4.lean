theorem ok_X8_at : iOkP mX8_at := ⟨by decide +kernel, by decide +kernel⟩
theorem ok_X8_allBy : iOkP mX8_allBy := ⟨by decide +kernel, by decide +kernel⟩
theorem ok_X8_all : iOkP mX8_all := ⟨by decide +kernel, by decide +kernel⟩
theorem ok_X8_outBy : iOkP mX8_outBy := ⟨by decide +kernel, by decide +kernel⟩
theorem ok_X8_out : iOkP mX8_out := ⟨by decide +kernel, by decide +kernel⟩
theorem ok_X8_jamNow : iOkP mX8_jamNow := ⟨by decide +kernel, by decide +kernel⟩
theorem ok_X8_jam : iOkP mX8_jam := ⟨by decide +kernel, by decide +kernel⟩
theorem ok_X8_dryNow : iOkP mX8_dryNow := ⟨by decide +kernel, by decide +kernel⟩
theorem ok_X8_lateNow : iOkP mX8_lateNow := ⟨by decide +kernel, by decide +kernel⟩
theorem ok_X8_leftBy : iOkP mX8_leftBy := ⟨by decide +kernel, by decide +kernel⟩
theorem ok_X8_left : iOkP mX8_left := ⟨by decide +kernel, by decide +kernel⟩
theorem ok_X8_worstNow : iOkP mX8_worstNow := ⟨by decide +kernel, by decide +kernel⟩
theorem ok_X8_worst : iOkP mX8_worst := ⟨by decide +kernel, by decide +kernel⟩
theorem ok_X8_manyOut : iOkP mX8_manyOut := ⟨by decide +kernel, by decide +kernel⟩
theorem ok_X8_allLain : iOkP mX8_allLain := ⟨by decide +kernel, by decide +kernel⟩
theorem ok_X8_allHalts : iOkP mX8_allHalts := ⟨by decide +kernel, by decide +kernel⟩
theorem ok_X8_sendOf : iOkP mX8_sendOf := ⟨by decide +kernel, by decide +kernel⟩
theorem ok_X8_send : iOkP mX8_send := ⟨by decide +kernel, by decide +kernel⟩
theorem ok_X8_steepBy : iOkP mX8_steepBy := ⟨by decide +kernel, by decide +kernel⟩
theorem ok_X8_steep : iOkP mX8_steep := ⟨by decide +kernel, by decide +kernel⟩
theorem ok_X8_fillBy : iOkP mX8_fillBy := ⟨by decide +kernel, by decide +kernel⟩
theorem ok_X8_fill : iOkP mX8_fill := ⟨by decide +kernel, by decide +kernel⟩
theorem ok_X8_isSpared : iOkP mX8_isSpared := ⟨by decide +kernel, by decide +kernel⟩
theorem ok_X8_spareBy : iOkP mX8_spareBy := ⟨by decide +kernel, by decide +kernel⟩
theorem ok_X8_spare : iOkP mX8_spare := ⟨by decide +kernel, by decide +kernel⟩
theorem ok_X8_seen : iOkP mX8_seen := ⟨by decide +kernel, by decide +kernel⟩
theorem ok_X8_forget : iOkP mX8_forget := ⟨by decide +kernel, by decide +kernel⟩
theorem ok_X8_isSeen : iOkP mX8_isSeen := ⟨by decide +kernel, by decide +kernel⟩
theorem ok_X8_neverNow : iOkP mX8_neverNow := ⟨by decide +kernel, by decide +kernel⟩
theorem ok_X8_never : iOkP mX8_never := ⟨by decide +kernel, by decide +kernel⟩
theorem ok_X8_rowOf : iOkP mX8_rowOf := ⟨by decide +kernel, by decide +kernel⟩
theorem ok_X8_draughtsOf : iOkP mX8_draughtsOf := ⟨by decide +kernel, by decide +kernel⟩
theorem ok_X8_draughts : iOkP mX8_draughts := ⟨by decide +kernel, by decide +kernel⟩
theorem ok_X8_gradeOf : iOkP mX8_gradeOf := ⟨by decide +kernel, by decide +kernel⟩
theorem ok_X8_grade : iOkP mX8_grade := ⟨by decide +kernel, by decide +kernel⟩
theorem ok_X8_alike : iOkP mX8_alike := ⟨by decide +kernel, by decide +kernel⟩
theorem ok_X8_askOf : iOkP mX8_askOf := ⟨by decide +kernel, by decide +kernel⟩
theorem ok_X8_ask : iOkP mX8_ask := ⟨by decide +kernel, by decide +kernel⟩
theorem ok_X8_chanceOf : iOkP mX8_chanceOf := ⟨by decide +kernel, by decide +kernel⟩
theorem ok_X8_chance : iOkP mX8_chance := ⟨by decide +kernel, by decide +kernel⟩
theorem ok_X8_lot : iOkP mX8_lot := ⟨by decide +kernel, by decide +kernel⟩
theorem ok_X8_seasonsOf : iOkP mX8_seasonsOf := ⟨by decide +kernel, by decide +kernel⟩
theorem ok_X8_seasons : iOkP mX8_seasons := ⟨by decide +kernel, by decide +kernel⟩
theorem ok_X8_write : iOkP mX8_write := ⟨by decide +kernel, by decide +kernel⟩
theorem ok_X8_count : iOkP mX8_count := ⟨by decide +kernel, by decide +kernel⟩
theorem ok_X8_tellsSpan : iOkP mX8_tellsSpan := ⟨by decide +kernel, by decide +kernel⟩
theorem ok_X8_tellsMinute : iOkP mX8_tellsMinute := ⟨by decide +kernel, by decide +kernel⟩
theorem ok_X8_tellsLog : iOkP mX8_tellsLog := ⟨by decide +kernel, by decide +kernel⟩
theorem ok_X8_digest : iOkP mX8_digest := ⟨by decide +kernel, by decide +kernel⟩
theorem ok_J6_bitCount_0f7a4 : iOkP mJ6_bitCount_0f7a4 := ⟨by decide +kernel, by decide +kernel⟩
theorem okPr0 : ∀ C ∈ iPr0, iOkP C := List.forall_mem_cons.mpr ⟨ok_X0_init, List.forall_mem_cons.mpr ⟨ok_X0_run, List.forall_mem_cons.mpr ⟨ok_X0_beginMinute, List.forall_mem_cons.mpr ⟨ok_X0_move, List.forall_mem_cons.mpr ⟨ok_X0_putIn, List.forall_mem_cons.mpr ⟨ok_X0_lierIn, List.forall_mem_cons.mpr ⟨ok_X0_afloatOrLying, List.forall_mem_cons.mpr ⟨ok_X0_minuteOut, List.forall_mem_cons.mpr ⟨ok_X0_minutesIn, List.forall_mem_cons.mpr ⟨ok_X0_minutesOfAll, List.forall_mem_cons.mpr ⟨ok_X0_outBits, List.forall_mem_cons.mpr ⟨ok_X0_trace, List.forall_mem_cons.mpr ⟨ok_X1_init, List.forall_mem_cons.mpr ⟨ok_X1_mayBe, List.forall_mem_cons.mpr ⟨ok_X1_append, List.forall_mem_cons.mpr ⟨ok_X1_bits, fun _ h => absurd h List.not_mem_nil⟩⟩⟩⟩⟩⟩⟩⟩⟩⟩⟩⟩⟩⟩⟩⟩
theorem okPr1 : ∀ C ∈ iPr1, iOkP C := List.forall_mem_cons.mpr ⟨ok_X1_mark, List.forall_mem_cons.mpr ⟨ok_X2_init, List.forall_mem_cons.mpr ⟨ok_X2_isLost, List.forall_mem_cons.mpr ⟨ok_X2_renew, List.forall_mem_cons.mpr ⟨ok_X2_findingAt, List.forall_mem_cons.mpr ⟨ok_X2_hasRun, List.forall_mem_cons.mpr ⟨ok_X2_put, List.forall_mem_cons.mpr ⟨ok_X3_init, List.forall_mem_cons.mpr ⟨ok_X3_append, List.forall_mem_cons.mpr ⟨ok_X3_fit, List.forall_mem_cons.mpr ⟨ok_X4_init, List.forall_mem_cons.mpr ⟨ok_X4_append, List.forall_mem_cons.mpr ⟨ok_X5_init, List.forall_mem_cons.mpr ⟨ok_X5_tellSlopes, List.forall_mem_cons.mpr ⟨ok_X5_tellFeeders, List.forall_mem_cons.mpr ⟨ok_X5_tellFigures, fun _ h => absurd h List.not_mem_nil⟩⟩⟩⟩⟩⟩⟩⟩⟩⟩⟩⟩⟩⟩⟩⟩
theorem okPr2 : ∀ C ∈ iPr2, iOkP C := List.forall_mem_cons.mpr ⟨ok_X5_tellLogs, List.forall_mem_cons.mpr ⟨ok_X5_faultOfLogs, List.forall_mem_cons.mpr ⟨ok_X5_mayStand, List.forall_mem_cons.mpr ⟨ok_X5_logBits, List.forall_mem_cons.mpr ⟨ok_X6_init, List.forall_mem_cons.mpr ⟨ok_X6_pour, List.forall_mem_cons.mpr ⟨ok_X6_together, List.forall_mem_cons.mpr ⟨ok_X6_dryBits, List.forall_mem_cons.mpr ⟨ok_X7_init, List.forall_mem_cons.mpr ⟨ok_X7_type, List.forall_mem_cons.mpr ⟨ok_X7_wipe, List.forall_mem_cons.mpr ⟨ok_X7_undo, List.forall_mem_cons.mpr ⟨ok_X7_fault, List.forall_mem_cons.mpr ⟨ok_X7_span, List.forall_mem_cons.mpr ⟨ok_X7_log, List.forall_mem_cons.mpr ⟨ok_X7_event, fun _ h => absurd h List.not_mem_nil⟩⟩⟩⟩⟩⟩⟩⟩⟩⟩⟩⟩⟩⟩⟩⟩
theorem okPr3 : ∀ C ∈ iPr3, iOkP C := List.forall_mem_cons.mpr ⟨ok_X7_back, List.forall_mem_cons.mpr ⟨ok_X7_read, List.forall_mem_cons.mpr ⟨ok_X7_flume, List.forall_mem_cons.mpr ⟨ok_X7_at, List.forall_mem_cons.mpr ⟨ok_X7_all, List.forall_mem_cons.mpr ⟨ok_X7_out, List.forall_mem_cons.mpr ⟨ok_X7_jam, List.forall_mem_cons.mpr ⟨ok_X7_left, List.forall_mem_cons.mpr ⟨ok_X7_worst, List.forall_mem_cons.mpr ⟨ok_X7_send, List.forall_mem_cons.mpr ⟨ok_X7_steep, List.forall_mem_cons.mpr ⟨ok_X7_fill, List.forall_mem_cons.mpr ⟨ok_X7_spare, List.forall_mem_cons.mpr ⟨ok_X7_seen, List.forall_mem_cons.mpr ⟨ok_X7_forget, List.forall_mem_cons.mpr ⟨ok_X7_never, fun _ h => absurd h List.not_mem_nil⟩⟩⟩⟩⟩⟩⟩⟩⟩⟩⟩⟩⟩⟩⟩⟩
theorem okPr4 : ∀ C ∈ iPr4, iOkP C := List.forall_mem_cons.mpr ⟨ok_X7_draughts, List.forall_mem_cons.mpr ⟨ok_X7_grade, List.forall_mem_cons.mpr ⟨ok_X7_ask, List.forall_mem_cons.mpr ⟨ok_X7_chance, List.forall_mem_cons.mpr ⟨ok_X7_seasons, List.forall_mem_cons.mpr ⟨ok_X7_sheet, List.forall_mem_cons.mpr ⟨ok_X7_lose, List.forall_mem_cons.mpr ⟨ok_X7_lay, List.forall_mem_cons.mpr ⟨ok_X7_get, List.forall_mem_cons.mpr ⟨ok_X7_copy, List.forall_mem_cons.mpr ⟨ok_X7_write, List.forall_mem_cons.mpr ⟨ok_X7_count, List.forall_mem_cons.mpr ⟨ok_X7_digest, List.forall_mem_cons.mpr ⟨ok_X7_within, List.forall_mem_cons.mpr ⟨ok_X7_bitAt, List.forall_mem_cons.mpr ⟨ok_X7_isLog, fun _ h => absurd h List.not_mem_nil⟩⟩⟩⟩⟩⟩⟩⟩⟩⟩⟩⟩⟩⟩⟩⟩
theorem okPr5 : ∀ C ∈ iPr5, iOkP C := List.forall_mem_cons.mpr ⟨ok_X7_found, List.forall_mem_cons.mpr ⟨ok_X7_tellAgain, List.forall_mem_cons.mpr ⟨ok_X7_unsettle, List.forall_mem_cons.mpr ⟨ok_X7_settle, List.forall_mem_cons.mpr ⟨ok_X7_startSearch, List.forall_mem_cons.mpr ⟨ok_X7_weigh, List.forall_mem_cons.mpr ⟨ok_X7_searchSend, List.forall_mem_cons.mpr ⟨ok_X7_searchSteep, List.forall_mem_cons.mpr ⟨ok_X7_searchFill, List.forall_mem_cons.mpr ⟨ok_X7_sparedEvents, List.forall_mem_cons.mpr ⟨ok_X7_outcome, List.forall_mem_cons.mpr ⟨ok_X7_sixteenthsOut, List.forall_mem_cons.mpr ⟨ok_X7_traceDraughts, List.forall_mem_cons.mpr ⟨ok_X7_mostAlike, List.forall_mem_cons.mpr ⟨ok_X7_mixSpan, List.forall_mem_cons.mpr ⟨ok_X7_mixLogMinutes, fun _ h => absurd h List.not_mem_nil⟩⟩⟩⟩⟩⟩⟩⟩⟩⟩⟩⟩⟩⟩⟩⟩
theorem okPr6 : ∀ C ∈ iPr6, iOkP C := List.forall_mem_cons.mpr ⟨ok_X7_mixLogPlans, List.forall_mem_cons.mpr ⟨ok_X7_mixWhole, List.forall_mem_cons.mpr ⟨ok_X8_init, List.forall_mem_cons.mpr ⟨ok_X8_in, List.forall_mem_cons.mpr ⟨ok_X8_no, List.forall_mem_cons.mpr ⟨ok_X8_isTwo, List.forall_mem_cons.mpr ⟨ok_X8_isIn, List.forall_mem_cons.mpr ⟨ok_X8_lesser, List.forall_mem_cons.mpr ⟨ok_X8_greater, List.forall_mem_cons.mpr ⟨ok_X8_part, List.forall_mem_cons.mpr ⟨ok_X8_finds, List.forall_mem_cons.mpr ⟨ok_X8_isSheet, List.forall_mem_cons.mpr ⟨ok_X8_sheet, List.forall_mem_cons.mpr ⟨ok_X8_lose, List.forall_mem_cons.mpr ⟨ok_X8_lacks, List.forall_mem_cons.mpr ⟨ok_X8_cut, fun _ h => absurd h List.not_mem_nil⟩⟩⟩⟩⟩⟩⟩⟩⟩⟩⟩⟩⟩⟩⟩⟩
theorem okPr7 : ∀ C ∈ iPr7, iOkP C := List.forall_mem_cons.mpr ⟨ok_X8_lay, List.forall_mem_cons.mpr ⟨ok_X8_get, List.forall_mem_cons.mpr ⟨ok_X8_copy, List.forall_mem_cons.mpr ⟨ok_X8_isText, List.forall_mem_cons.mpr ⟨ok_X8_type, List.forall_mem_cons.mpr ⟨ok_X8_wipe, List.forall_mem_cons.mpr ⟨ok_X8_undo, List.forall_mem_cons.mpr ⟨ok_X8_figureOf, List.forall_mem_cons.mpr ⟨ok_X8_gentle, List.forall_mem_cons.mpr ⟨ok_X8_readsSlopes, List.forall_mem_cons.mpr ⟨ok_X8_dries, List.forall_mem_cons.mpr ⟨ok_X8_readsFeeders, List.forall_mem_cons.mpr ⟨ok_X8_logOf, List.forall_mem_cons.mpr ⟨ok_X8_readsLogs, List.forall_mem_cons.mpr ⟨ok_X8_readsText, List.forall_mem_cons.mpr ⟨ok_X8_fault, fun _ h => absurd h List.not_mem_nil⟩⟩⟩⟩⟩⟩⟩⟩⟩⟩⟩⟩⟩⟩⟩⟩
theorem okPr8 : ∀ C ∈ iPr8, iOkP C := List.forall_mem_cons.mpr ⟨ok_X8_isSpan, List.forall_mem_cons.mpr ⟨ok_X8_isMinute, List.forall_mem_cons.mpr ⟨ok_X8_isLog, List.forall_mem_cons.mpr ⟨ok_X8_spanBy, List.forall_mem_cons.mpr ⟨ok_X8_span, List.forall_mem_cons.mpr ⟨ok_X8_log, List.forall_mem_cons.mpr ⟨ok_X8_event, List.forall_mem_cons.mpr ⟨ok_X8_back, List.forall_mem_cons.mpr ⟨ok_X8_read, List.forall_mem_cons.mpr ⟨ok_X8_told, List.forall_mem_cons.mpr ⟨ok_X8_flows, List.forall_mem_cons.mpr ⟨ok_X8_lies, List.forall_mem_cons.mpr ⟨ok_X8_whoBut, List.forall_mem_cons.mpr ⟨ok_X8_floats, List.forall_mem_cons.mpr ⟨ok_X8_logsGo, List.forall_mem_cons.mpr ⟨ok_X8_passes, fun _ h => absurd h List.not_mem_nil⟩⟩⟩⟩⟩⟩⟩⟩⟩⟩⟩⟩⟩⟩⟩⟩
theorem okPr9 : ∀ C ∈ iPr9, iOkP C := List.forall_mem_cons.mpr ⟨ok_X8_lives, List.forall_mem_cons.mpr ⟨ok_X8_find, List.forall_mem_cons.mpr ⟨ok_X8_whoBy, List.forall_mem_cons.mpr ⟨ok_X8_flumeBy, List.forall_mem_cons.mpr ⟨ok_X8_flume, List.forall_mem_cons.mpr ⟨ok_X8_atBy, List.forall_mem_cons.mpr ⟨ok_X8_at, List.forall_mem_cons.mpr ⟨ok_X8_allBy, List.forall_mem_cons.mpr ⟨ok_X8_all, List.forall_mem_cons.mpr ⟨ok_X8_outBy, List.forall_mem_cons.mpr ⟨ok_X8_out, List.forall_mem_cons.mpr ⟨ok_X8_jamNow, List.forall_mem_cons.mpr ⟨ok_X8_jam, List.forall_mem_cons.mpr ⟨ok_X8_dryNow, List.forall_mem_cons.mpr ⟨ok_X8_lateNow, List.forall_mem_cons.mpr ⟨ok_X8_leftBy, fun _ h => absurd h List.not_mem_nil⟩⟩⟩⟩⟩⟩⟩⟩⟩⟩⟩⟩⟩⟩⟩⟩
theorem okPr10 : ∀ C ∈ iPr10, iOkP C := List.forall_mem_cons.mpr ⟨ok_X8_left, List.forall_mem_cons.mpr ⟨ok_X8_worstNow, List.forall_mem_cons.mpr ⟨ok_X8_worst, List.forall_mem_cons.mpr ⟨ok_X8_manyOut, List.forall_mem_cons.mpr ⟨ok_X8_allLain, List.forall_mem_cons.mpr ⟨ok_X8_allHalts, List.forall_mem_cons.mpr ⟨ok_X8_sendOf, List.forall_mem_cons.mpr ⟨ok_X8_send, List.forall_mem_cons.mpr ⟨ok_X8_steepBy, List.forall_mem_cons.mpr ⟨ok_X8_steep, List.forall_mem_cons.mpr ⟨ok_X8_fillBy, List.forall_mem_cons.mpr ⟨ok_X8_fill, List.forall_mem_cons.mpr ⟨ok_X8_isSpared, List.forall_mem_cons.mpr ⟨ok_X8_spareBy, List.forall_mem_cons.mpr ⟨ok_X8_spare, List.forall_mem_cons.mpr ⟨ok_X8_seen, fun _ h => absurd h List.not_mem_nil⟩⟩⟩⟩⟩⟩⟩⟩⟩⟩⟩⟩⟩⟩⟩⟩
theorem okPr11 : ∀ C ∈ iPr11, iOkP C := List.forall_mem_cons.mpr ⟨ok_X8_forget, List.forall_mem_cons.mpr ⟨ok_X8_isSeen, List.forall_mem_cons.mpr ⟨ok_X8_neverNow, List.forall_mem_cons.mpr ⟨ok_X8_never, List.forall_mem_cons.mpr ⟨ok_X8_rowOf, List.forall_mem_cons.mpr ⟨ok_X8_draughtsOf, List.forall_mem_cons.mpr ⟨ok_X8_draughts, List.forall_mem_cons.mpr ⟨ok_X8_gradeOf, List.forall_mem_cons.mpr ⟨ok_X8_grade, List.forall_mem_cons.mpr ⟨ok_X8_alike, List.forall_mem_cons.mpr ⟨ok_X8_askOf, List.forall_mem_cons.mpr ⟨ok_X8_ask, List.forall_mem_cons.mpr ⟨ok_X8_chanceOf, List.forall_mem_cons.mpr ⟨ok_X8_chance, List.forall_mem_cons.mpr ⟨ok_X8_lot, List.forall_mem_cons.mpr ⟨ok_X8_seasonsOf, fun _ h => absurd h List.not_mem_nil⟩⟩⟩⟩⟩⟩⟩⟩⟩⟩⟩⟩⟩⟩⟩⟩
theorem okPr12 : ∀ C ∈ iPr12, iOkP C := List.forall_mem_cons.mpr ⟨ok_X8_seasons, List.forall_mem_cons.mpr ⟨ok_X8_write, List.forall_mem_cons.mpr ⟨ok_X8_count, List.forall_mem_cons.mpr ⟨ok_X8_tellsSpan, List.forall_mem_cons.mpr ⟨ok_X8_tellsMinute, List.forall_mem_cons.mpr ⟨ok_X8_tellsLog, List.forall_mem_cons.mpr ⟨ok_X8_digest, List.forall_mem_cons.mpr ⟨ok_J6_bitCount_0f7a4, fun _ h => absurd h List.not_mem_nil⟩⟩⟩⟩⟩⟩⟩⟩
theorem okProgL : ∀ r ∈ iProgL, ∀ C ∈ r, iOkP C := List.forall_mem_cons.mpr ⟨okPr0, List.forall_mem_cons.mpr ⟨okPr1, List.forall_mem_cons.mpr ⟨okPr2, List.forall_mem_cons.mpr ⟨okPr3, List.forall_mem_cons.mpr ⟨okPr4, List.forall_mem_cons.mpr ⟨okPr5, List.forall_mem_cons.mpr ⟨okPr6, List.forall_mem_cons.mpr ⟨okPr7, List.forall_mem_cons.mpr ⟨okPr8, List.forall_mem_cons.mpr ⟨okPr9, List.forall_mem_cons.mpr ⟨okPr10, List.forall_mem_cons.mpr ⟨okPr11, List.forall_mem_cons.mpr ⟨okPr12, fun _ h => absurd h List.not_mem_nil⟩⟩⟩⟩⟩⟩⟩⟩⟩⟩⟩⟩⟩
theorem iProg_ok : ∀ n C, iProg n = some C → iOkM C = true ∧ iOkT iProg C = true := by
  intro n C h
  unfold iProg at h
  split at h
  · rename_i r hr
    rw [iLg_eq] at hr h
    exact okProgL r (List.mem_of_getElem? hr) C (List.mem_of_getElem? h)
  · cases h
