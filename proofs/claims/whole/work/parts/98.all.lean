/-! ALL CALLS; the law's walk from its entry -/
theorem p_all : P_all (Inv LW) := ⟨op_folk lwF_LW, op_sky lwF_LW, op_skies lwF_LW, op_decree lwF_LW, op_chance lwF_LW, op_ruin lwF_LW, op_feed lwF_LW, op_end lwF_LW, op_text, op_fault, op_by lwF_LW, op_warrant, op_letGo, op_undo lwF_LW, op_of, op_on, op_gain, op_sum, op_ruined, op_led, op_odds, op_plan, op_found, op_even, op_flood, op_reform, op_sing lwF_LW, op_heard lwF_LW, op_image lwF_LW, op_back lwF_LW, op_about⟩
theorem whole_start {p : Program} {e : Env} {s : State} {m : MethodId} {below : List Frame} {meth : Method} {c : Code} (l : Launch) {b L : Nat} {xs : Nat → Int32} (hL : L ≤ 3072) (C0 : lw_At p s m meth c b L xs) : W p l e room_1 s m #[Value.ref b] below meth c s.heap [] 0 0 (lw_Z below #[Value.ref b] s) (entryFrame m ([Value.ref b] : List Value).toArray 4) := by
  obtain ⟨V2, hc, hI⟩ := init_inv lwF_LW LW_0
  exact whole_start_of p_all V2 hc hI l hL C0
