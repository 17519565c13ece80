/-- the pure part: an invariant under which class and reference answer alike -/
theorem kb_alike : ∃ I : kb_I, kb_OK I ∧ ok_init I := ⟨vt_I, ⟨vt_ok_begin, vt_ok_feed, vt_ok_work, vt_ok_rows, vt_ok_unravel, vt_ok_live, vt_ok_loop, vt_ok_chart, vt_ok_row, vt_ok_shorten, vt_ok_out, vt_ok_ladder, vt_ok_total⟩, vt_ok_init⟩
