/-! the small methods -/
theorem i_vc0 (k0 : Int32) : wpX_init (fun u => wpY_init (fun v => i_Rel 1 u v) k0) k0 := by
  have key : ∀ r, (∃ q, r = nI q ∧ 1 ≤ q ∧ q ≤ 6) → wpY_init (fun v => i_Rel 1 (0, 0, 0, (-1), (-1), (-1), 0, 0, 0, 0, r, 0, 0, 0, 0, 0, (-1), 0, 0, 0, (fun _ => 0), (fun _ => 0), (fun _ => 0), (fun _ => 0), (fun _ => 0), (fun _ => 0), (fun _ => 0), (fun _ => 0), (fun _ => 0), (fun _ => 0), (fun _ => 0), (fun _ => 0), (fun _ => 0), (fun _ => 0), (fun _ => 0), (fun _ => 0), (fun _ => 0), (fun _ => 0), (fun _ => 0)) v) k0 := by
    intro r hr
    unfold wpY_init
    exact rl_mk ⟨⟨0, rfl, rfl, by decide, fun j hj => absurd hj (by omega)⟩, rfl, rfl, rfl, rfl, rfl, hr, rfl, rfl, rfl, rfl, rfl, rfl, Or.inl ⟨rfl, rfl⟩⟩
  refine br_c (fun h1 => br_c (fun h6 => key k0 ?_) (fun _ => key 6 ⟨6, rfl, by decide, by decide⟩)) (fun _ => key 1 ⟨1, rfl, by decide, by decide⟩)
  have h0 : ¬ k0 < 0 := Int32.not_lt.mpr (Int32.le_trans (by decide) h1)
  obtain ⟨q, hq, rfl⟩ := nI_of2 (M := 6) (n := 6) (by decide) h0 h6
  refine ⟨q, rfl, ?_, hq⟩
  exact (nI_leI (a := 1) (by decide) (by omega)).mp h1
theorem i_vc_wipe {k : Nat} {u : SX} {v : SY} (I : i_Rel k u v) (hk : k + 5 ≤ 2561) : wpX_wipe (fun r u' => wpY_wipe (fun r' v' => r' = r ∧ i_Rel (k + 5) u' v') v) u := by
  obtain ⟨f_tokenCount, f_planCount, f_next, f_wrongToken, f_looseJump, f_latestPlace, f_openLoopCount, f_codeCount, f_labelCount, f_functionCount, f_registerCount, f_activeCalls, f_stackCount, f_nextCode, f_running, f_ending, f_endingPlace, f_resultValue, f_ticksUsed, f_printedCount, a_tokenKind, a_tokenValue, a_planKind, a_planValue, a_planPlace, a_argumentCount, a_openLoop, a_codeKind, a_codeValue, a_codePlace, a_labelTarget, a_functionStart, a_functionParameters, a_register, a_frame, a_returnTo, a_stack, a_element, a_outputValue⟩ := u; obtain ⟨f_count, f_place, f_length, f_functions, f_loaded, f_loops, f_outside, f_tt, f_vt, f_pos, f_bad, f_checking, f_live, f_pending, f_carry, f_active, f_ticks, f_status, f_result, f_endedAt, f_used, f_printed, a_kind, a_value, a_code, a_number, a_given, a_begins, a_params, a_todo, a_val, a_vars, a_output, a_memory⟩ := v
  obtain ⟨⟨n, t1, t2, hn, htk⟩, rfl, rfl, rfl, rfl, rfl, hreg, rfl, rfl, rfl, rfl, rfl, rfl, hL⟩ := I
  exact ⟨t2.trans t1.symm, rl_mk ⟨⟨0, rfl, rfl, by decide, fun j hj => absurd hj (by omega)⟩, rfl, rfl, rfl, rfl, rfl, hreg, rfl, rfl, rfl, rfl, rfl, rfl, hL⟩⟩
theorem i_vc_place {k : Nat} {u : SX} {v : SY} (I : i_Rel k u v) (hk : k + 5 ≤ 2561) : wpX_place (fun r => wpY_place (fun r' => r' = r ∧ i_Rel (k + 5) u v) v) u := by
  obtain ⟨f_tokenCount, f_planCount, f_next, f_wrongToken, f_looseJump, f_latestPlace, f_openLoopCount, f_codeCount, f_labelCount, f_functionCount, f_registerCount, f_activeCalls, f_stackCount, f_nextCode, f_running, f_ending, f_endingPlace, f_resultValue, f_ticksUsed, f_printedCount, a_tokenKind, a_tokenValue, a_planKind, a_planValue, a_planPlace, a_argumentCount, a_openLoop, a_codeKind, a_codeValue, a_codePlace, a_labelTarget, a_functionStart, a_functionParameters, a_register, a_frame, a_returnTo, a_stack, a_element, a_outputValue⟩ := u; obtain ⟨f_count, f_place, f_length, f_functions, f_loaded, f_loops, f_outside, f_tt, f_vt, f_pos, f_bad, f_checking, f_live, f_pending, f_carry, f_active, f_ticks, f_status, f_result, f_endedAt, f_used, f_printed, a_kind, a_value, a_code, a_number, a_given, a_begins, a_params, a_todo, a_val, a_vars, a_output, a_memory⟩ := v
  have I' := I
  obtain ⟨⟨n, t1, t2, hn, htk⟩, rfl, rfl, rfl, rfl, rfl, hreg, rfl, rfl, rfl, rfl, rfl, rfl, hL⟩ := I
  exact ⟨rfl, I'⟩
theorem i_vc_result {k : Nat} {u : SX} {v : SY} (I : i_Rel k u v) (hk : k + 5 ≤ 2561) : wpX_result (fun r => wpY_result (fun r' => r' = r ∧ i_Rel (k + 5) u v) v) u := by
  obtain ⟨f_tokenCount, f_planCount, f_next, f_wrongToken, f_looseJump, f_latestPlace, f_openLoopCount, f_codeCount, f_labelCount, f_functionCount, f_registerCount, f_activeCalls, f_stackCount, f_nextCode, f_running, f_ending, f_endingPlace, f_resultValue, f_ticksUsed, f_printedCount, a_tokenKind, a_tokenValue, a_planKind, a_planValue, a_planPlace, a_argumentCount, a_openLoop, a_codeKind, a_codeValue, a_codePlace, a_labelTarget, a_functionStart, a_functionParameters, a_register, a_frame, a_returnTo, a_stack, a_element, a_outputValue⟩ := u; obtain ⟨f_count, f_place, f_length, f_functions, f_loaded, f_loops, f_outside, f_tt, f_vt, f_pos, f_bad, f_checking, f_live, f_pending, f_carry, f_active, f_ticks, f_status, f_result, f_endedAt, f_used, f_printed, a_kind, a_value, a_code, a_number, a_given, a_begins, a_params, a_todo, a_val, a_vars, a_output, a_memory⟩ := v
  have I' := I
  obtain ⟨⟨n, t1, t2, hn, htk⟩, rfl, rfl, rfl, rfl, rfl, hreg, rfl, rfl, rfl, rfl, rfl, rfl, hL⟩ := I
  exact ⟨rfl, I'⟩
theorem i_vc_endedAt {k : Nat} {u : SX} {v : SY} (I : i_Rel k u v) (hk : k + 5 ≤ 2561) : wpX_endedAt (fun r => wpY_endedAt (fun r' => r' = r ∧ i_Rel (k + 5) u v) v) u := by
  obtain ⟨f_tokenCount, f_planCount, f_next, f_wrongToken, f_looseJump, f_latestPlace, f_openLoopCount, f_codeCount, f_labelCount, f_functionCount, f_registerCount, f_activeCalls, f_stackCount, f_nextCode, f_running, f_ending, f_endingPlace, f_resultValue, f_ticksUsed, f_printedCount, a_tokenKind, a_tokenValue, a_planKind, a_planValue, a_planPlace, a_argumentCount, a_openLoop, a_codeKind, a_codeValue, a_codePlace, a_labelTarget, a_functionStart, a_functionParameters, a_register, a_frame, a_returnTo, a_stack, a_element, a_outputValue⟩ := u; obtain ⟨f_count, f_place, f_length, f_functions, f_loaded, f_loops, f_outside, f_tt, f_vt, f_pos, f_bad, f_checking, f_live, f_pending, f_carry, f_active, f_ticks, f_status, f_result, f_endedAt, f_used, f_printed, a_kind, a_value, a_code, a_number, a_given, a_begins, a_params, a_todo, a_val, a_vars, a_output, a_memory⟩ := v
  have I' := I
  obtain ⟨⟨n, t1, t2, hn, htk⟩, rfl, rfl, rfl, rfl, rfl, hreg, rfl, rfl, rfl, rfl, rfl, rfl, hL⟩ := I
  exact ⟨rfl, I'⟩
theorem i_vc_used {k : Nat} {u : SX} {v : SY} (I : i_Rel k u v) (hk : k + 5 ≤ 2561) : wpX_used (fun r => wpY_used (fun r' => r' = r ∧ i_Rel (k + 5) u v) v) u := by
  obtain ⟨f_tokenCount, f_planCount, f_next, f_wrongToken, f_looseJump, f_latestPlace, f_openLoopCount, f_codeCount, f_labelCount, f_functionCount, f_registerCount, f_activeCalls, f_stackCount, f_nextCode, f_running, f_ending, f_endingPlace, f_resultValue, f_ticksUsed, f_printedCount, a_tokenKind, a_tokenValue, a_planKind, a_planValue, a_planPlace, a_argumentCount, a_openLoop, a_codeKind, a_codeValue, a_codePlace, a_labelTarget, a_functionStart, a_functionParameters, a_register, a_frame, a_returnTo, a_stack, a_element, a_outputValue⟩ := u; obtain ⟨f_count, f_place, f_length, f_functions, f_loaded, f_loops, f_outside, f_tt, f_vt, f_pos, f_bad, f_checking, f_live, f_pending, f_carry, f_active, f_ticks, f_status, f_result, f_endedAt, f_used, f_printed, a_kind, a_value, a_code, a_number, a_given, a_begins, a_params, a_todo, a_val, a_vars, a_output, a_memory⟩ := v
  have I' := I
  obtain ⟨⟨n, t1, t2, hn, htk⟩, rfl, rfl, rfl, rfl, rfl, hreg, rfl, rfl, rfl, rfl, rfl, rfl, hL⟩ := I
  exact ⟨rfl, I'⟩
theorem i_vc_printed {k : Nat} {u : SX} {v : SY} (I : i_Rel k u v) (hk : k + 5 ≤ 2561) : wpX_printed (fun r => wpY_printed (fun r' => r' = r ∧ i_Rel (k + 5) u v) v) u := by
  obtain ⟨f_tokenCount, f_planCount, f_next, f_wrongToken, f_looseJump, f_latestPlace, f_openLoopCount, f_codeCount, f_labelCount, f_functionCount, f_registerCount, f_activeCalls, f_stackCount, f_nextCode, f_running, f_ending, f_endingPlace, f_resultValue, f_ticksUsed, f_printedCount, a_tokenKind, a_tokenValue, a_planKind, a_planValue, a_planPlace, a_argumentCount, a_openLoop, a_codeKind, a_codeValue, a_codePlace, a_labelTarget, a_functionStart, a_functionParameters, a_register, a_frame, a_returnTo, a_stack, a_element, a_outputValue⟩ := u; obtain ⟨f_count, f_place, f_length, f_functions, f_loaded, f_loops, f_outside, f_tt, f_vt, f_pos, f_bad, f_checking, f_live, f_pending, f_carry, f_active, f_ticks, f_status, f_result, f_endedAt, f_used, f_printed, a_kind, a_value, a_code, a_number, a_given, a_begins, a_params, a_todo, a_val, a_vars, a_output, a_memory⟩ := v
  have I' := I
  obtain ⟨⟨n, t1, t2, hn, htk⟩, rfl, rfl, rfl, rfl, rfl, hreg, rfl, rfl, rfl, rfl, rfl, rfl, hL⟩ := I
  exact ⟨rfl, I'⟩
theorem rl_in {x : Int32} {N : Nat} {M : Int32} (hM : M.toInt = N) (h0 : ¬ x < 0) (h : x ≤ M) (hN : N < 2 ^ 30) : vp_in x (N + 1) := by
  obtain ⟨j, hj, rfl⟩ := nI_of2 hM h0 h
  exact vp_in_nI (by omega) (by omega)
theorem i_vc_output {k : Nat} {u : SX} {v : SY} (I : i_Rel k u v) (hk : k + 5 ≤ 2561) (v1 : Int32) : wpX_output (fun r => wpY_output (fun r' => r' = r ∧ i_Rel (k + 5) u v) v v1) u v1 := by
  obtain ⟨f_tokenCount, f_planCount, f_next, f_wrongToken, f_looseJump, f_latestPlace, f_openLoopCount, f_codeCount, f_labelCount, f_functionCount, f_registerCount, f_activeCalls, f_stackCount, f_nextCode, f_running, f_ending, f_endingPlace, f_resultValue, f_ticksUsed, f_printedCount, a_tokenKind, a_tokenValue, a_planKind, a_planValue, a_planPlace, a_argumentCount, a_openLoop, a_codeKind, a_codeValue, a_codePlace, a_labelTarget, a_functionStart, a_functionParameters, a_register, a_frame, a_returnTo, a_stack, a_element, a_outputValue⟩ := u; obtain ⟨f_count, f_place, f_length, f_functions, f_loaded, f_loops, f_outside, f_tt, f_vt, f_pos, f_bad, f_checking, f_live, f_pending, f_carry, f_active, f_ticks, f_status, f_result, f_endedAt, f_used, f_printed, a_kind, a_value, a_code, a_number, a_given, a_begins, a_params, a_todo, a_val, a_vars, a_output, a_memory⟩ := v
  have I' := I
  obtain ⟨⟨n, t1, t2, hn, htk⟩, rfl, rfl, rfl, rfl, rfl, hreg, rfl, rfl, rfl, rfl, rfl, rfl, hL⟩ := I
  refine br_c (fun h => br_t h ⟨rfl, I'⟩) (fun h => br_c (fun h2 => ?_) (fun h2 => ?_))
  · exact br_f h (br_t (Int32.lt_of_lt_of_le (by decide) h2) ⟨rfl, I'⟩)
  · have h3 : v1 ≤ 23 := by
      obtain ⟨j, hj, rfl⟩ := nI_of h
      have : ¬ 24 ≤ j := fun z => h2 (nI_le (a := 24) z hj)
      exact nI_le (b := 23) (by omega) (by decide)
    have vi : vp_in v1 24 := rl_in (N := 23) (by decide) h h3 (by decide)
    refine br_c (fun h4 => ?_) (fun h4 => ⟨vi, ?_⟩)
    · exact br_f h (br_f (Int32.not_lt.mpr h3) (br_f (Int32.not_lt.mpr h4) ⟨rfl, I'⟩))
    · exact br_f h (br_f (Int32.not_lt.mpr h3) (br_t (Int32.not_le.mp h4) ⟨vi, rfl, I'⟩))
theorem xm_isE {post : Int32 → Prop} {x : Int32} (H0 : (x < 0 ∨ ¬ x ≤ 15) → post 0) (H1 : ¬ x < 0 → x ≤ 15 → post 1) : wpX_isElement post x := by
  refine br_c (fun h => H0 (Or.inl h)) (fun h => br_c (fun h2 => H0 (Or.inr (fun z => ?_))) (fun h2 => H1 h ?_))
  · exact absurd (Int32.le_trans h2 z) (by decide)
  · obtain ⟨j, hj, rfl⟩ := nI_of h
    have : ¬ 16 ≤ j := fun z => h2 (nI_le (a := 16) z hj)
    exact nI_le (b := 15) (by omega) (by decide)
theorem i_vc_memory {k : Nat} {u : SX} {v : SY} (I : i_Rel k u v) (hk : k + 5 ≤ 2561) (v1 : Int32) : wpX_memory (fun r => wpY_memory (fun r' => r' = r ∧ i_Rel (k + 5) u v) v v1) u v1 := by
  obtain ⟨f_tokenCount, f_planCount, f_next, f_wrongToken, f_looseJump, f_latestPlace, f_openLoopCount, f_codeCount, f_labelCount, f_functionCount, f_registerCount, f_activeCalls, f_stackCount, f_nextCode, f_running, f_ending, f_endingPlace, f_resultValue, f_ticksUsed, f_printedCount, a_tokenKind, a_tokenValue, a_planKind, a_planValue, a_planPlace, a_argumentCount, a_openLoop, a_codeKind, a_codeValue, a_codePlace, a_labelTarget, a_functionStart, a_functionParameters, a_register, a_frame, a_returnTo, a_stack, a_element, a_outputValue⟩ := u; obtain ⟨f_count, f_place, f_length, f_functions, f_loaded, f_loops, f_outside, f_tt, f_vt, f_pos, f_bad, f_checking, f_live, f_pending, f_carry, f_active, f_ticks, f_status, f_result, f_endedAt, f_used, f_printed, a_kind, a_value, a_code, a_number, a_given, a_begins, a_params, a_todo, a_val, a_vars, a_output, a_memory⟩ := v
  have I' := I
  obtain ⟨⟨n, t1, t2, hn, htk⟩, rfl, rfl, rfl, rfl, rfl, hreg, rfl, rfl, rfl, rfl, rfl, rfl, hL⟩ := I
  unfold wpX_memory
  refine xm_isE (fun h => br_t rfl ?_) (fun h h2 => br_f (by decide) ⟨rl_in (N := 15) (by decide) h h2 (by decide), br_f h (br_t h2 ⟨rl_in (N := 15) (by decide) h h2 (by decide), rfl, I'⟩)⟩)
  by_cases h0 : v1 < 0
  · exact br_t h0 ⟨rfl, I'⟩
  · exact br_f h0 (br_f (h.resolve_left h0) ⟨rfl, I'⟩)
theorem i_vc_store {k : Nat} {u : SX} {v : SY} (I : i_Rel k u v) (hk : k + 5 ≤ 2561) (v1 : Int32) (v2 : Int32) : wpX_store (fun r u' => wpY_store (fun r' v' => r' = r ∧ i_Rel (k + 5) u' v') v v1 v2) u v1 v2 := by
  obtain ⟨f_tokenCount, f_planCount, f_next, f_wrongToken, f_looseJump, f_latestPlace, f_openLoopCount, f_codeCount, f_labelCount, f_functionCount, f_registerCount, f_activeCalls, f_stackCount, f_nextCode, f_running, f_ending, f_endingPlace, f_resultValue, f_ticksUsed, f_printedCount, a_tokenKind, a_tokenValue, a_planKind, a_planValue, a_planPlace, a_argumentCount, a_openLoop, a_codeKind, a_codeValue, a_codePlace, a_labelTarget, a_functionStart, a_functionParameters, a_register, a_frame, a_returnTo, a_stack, a_element, a_outputValue⟩ := u; obtain ⟨f_count, f_place, f_length, f_functions, f_loaded, f_loops, f_outside, f_tt, f_vt, f_pos, f_bad, f_checking, f_live, f_pending, f_carry, f_active, f_ticks, f_status, f_result, f_endedAt, f_used, f_printed, a_kind, a_value, a_code, a_number, a_given, a_begins, a_params, a_todo, a_val, a_vars, a_output, a_memory⟩ := v
  have I' := I
  obtain ⟨⟨n, t1, t2, hn, htk⟩, rfl, rfl, rfl, rfl, rfl, hreg, rfl, rfl, rfl, rfl, rfl, rfl, hL⟩ := I
  unfold wpX_store
  refine xm_isE (fun h => br_t rfl ?_) (fun h h2 => br_f (by decide) ⟨rl_in (N := 15) (by decide) h h2 (by decide), nm_e (br_f h (br_t h2 ⟨rl_in (N := 15) (by decide) h h2 (by decide), nm_e ⟨rfl, rl_mk ⟨⟨n, t1, t2, hn, htk⟩, rfl, rfl, rfl, rfl, rfl, hreg, rfl, rfl, rfl, rfl, rfl, rfl, hL⟩⟩⟩))⟩)
  by_cases h0 : v1 < 0
  · exact br_t h0 ⟨rfl, I'⟩
  · exact br_f h0 (br_f (h.resolve_left h0) ⟨rfl, I'⟩)
theorem rl_app {K V : Nat → Int32} {n : Nat} {a b : Int32} (h : gm_tok K V n) (ha : ∃ k, k ≤ 41 ∧ a = nI k) (h1 : a = 1 → ∃ u, u ≤ 5 ∧ b = nI u) (h2 : a = 2 → ∃ u, u ≤ 3 ∧ b = nI u) : gm_tok (upd K n a) (upd V n b) (n + 1) := by
  intro j hj
  by_cases e : j = n
  · subst e
    rw [pk_us, pk_us]
    exact ⟨ha, h1, h2⟩
  · rw [pk_un e, pk_un e]
    exact h j (by omega)
theorem i_vc_token {k : Nat} {u : SX} {v : SY} (I : i_Rel k u v) (hk : k + 5 ≤ 2561) (v1 : Int32) (v2 : Int32) : wpX_token (fun r u' => wpY_token (fun r' v' => r' = r ∧ i_Rel (k + 5) u' v') v v1 v2) u v1 v2 := by
  obtain ⟨f_tokenCount, f_planCount, f_next, f_wrongToken, f_looseJump, f_latestPlace, f_openLoopCount, f_codeCount, f_labelCount, f_functionCount, f_registerCount, f_activeCalls, f_stackCount, f_nextCode, f_running, f_ending, f_endingPlace, f_resultValue, f_ticksUsed, f_printedCount, a_tokenKind, a_tokenValue, a_planKind, a_planValue, a_planPlace, a_argumentCount, a_openLoop, a_codeKind, a_codeValue, a_codePlace, a_labelTarget, a_functionStart, a_functionParameters, a_register, a_frame, a_returnTo, a_stack, a_element, a_outputValue⟩ := u; obtain ⟨f_count, f_place, f_length, f_functions, f_loaded, f_loops, f_outside, f_tt, f_vt, f_pos, f_bad, f_checking, f_live, f_pending, f_carry, f_active, f_ticks, f_status, f_result, f_endedAt, f_used, f_printed, a_kind, a_value, a_code, a_number, a_given, a_begins, a_params, a_todo, a_val, a_vars, a_output, a_memory⟩ := v
  have I' := I
  obtain ⟨⟨n, t1, t2, hn, htk⟩, rfl, rfl, rfl, rfl, rfl, hreg, rfl, rfl, rfl, rfl, rfl, rfl, hL⟩ := I
  refine br_c (fun h => br_t h ⟨rfl, I'⟩) (fun h => br_c (fun h2 => ?_) (fun h2 => ?_))
  · exact br_f h (br_t (Int32.lt_of_lt_of_le (by decide) h2) ⟨rfl, I'⟩)
  obtain ⟨a, ha, rfl⟩ := nI_of h
  have ha' : a ≤ 41 := by
    have : ¬ 42 ≤ a := fun z => h2 (nI_le (a := 42) z ha)
    omega
  have h3 : ¬ (41 : Int32) < nI a := nI_nlt (a := 41) ha' (by decide)
  subst t1 t2
  have e3 : (nI n).toNatClampNeg = n := nI_clamp (by omega)
  refine pk_lt n 120 (fun hn2 => ?_) (fun hn2 => ?_)
  · have e120 : ¬ nI n = 120 := fun z => by have := (nI_eq (a := n) (b := 120) (by omega) (by decide)).mp z; omega
    have vi : vp_in (nI n) 120 := vp_in_nI hn2 (by decide)
    have fin : (nI a = 1 → ∃ u, u ≤ 5 ∧ v2 = nI u) → (nI a = 2 → ∃ u, u ≤ 3 ∧ v2 = nI u) → wX_token_54 (fun r u' => wpY_token (fun r' v' => r' = r ∧ i_Rel (k + 5) u' v') (nI n, f_place, f_length, f_functions, f_loaded, f_loops, f_outside, f_tt, f_vt, f_pos, f_bad, f_checking, f_live, f_pending, f_carry, f_active, f_ticks, f_status, f_result, f_endedAt, f_used, f_printed, a_kind, a_value, a_code, a_number, a_given, a_begins, a_params, a_todo, a_val, a_vars, a_output, a_memory) (nI a) v2) (nI a) v2 (nI n) f_planCount f_next f_wrongToken f_looseJump f_place f_openLoopCount f_codeCount f_labelCount f_functionCount f_registerCount f_activeCalls f_stackCount f_nextCode f_running f_ending f_endedAt f_result f_used f_printed a_kind a_value a_planKind a_planValue a_planPlace a_given a_openLoop a_codeKind a_codeValue a_codePlace a_labelTarget a_functionStart a_params a_register a_frame a_returnTo a_stack a_memory a_output := by
      intro h1 h2
      have y38 : ∀ P : Int32 → SY → Prop, P 1 (nI (n + 1), f_place, f_length, f_functions, f_loaded, f_loops, f_outside, f_tt, f_vt, f_pos, f_bad, f_checking, f_live, f_pending, f_carry, f_active, f_ticks, f_status, f_result, f_endedAt, f_used, f_printed, upd a_kind n (nI a), upd a_value n v2, a_code, a_number, a_given, a_begins, a_params, a_todo, a_val, a_vars, a_output, a_memory) → wpY_token P (nI n, f_place, f_length, f_functions, f_loaded, f_loops, f_outside, f_tt, f_vt, f_pos, f_bad, f_checking, f_live, f_pending, f_carry, f_active, f_ticks, f_status, f_result, f_endedAt, f_used, f_printed, a_kind, a_value, a_code, a_number, a_given, a_begins, a_params, a_todo, a_val, a_vars, a_output, a_memory) (nI a) v2 := by
        intro P hP
        have z38 : wY_token_38 P (nI a) v2 (nI n) f_place f_length f_functions f_loaded f_loops f_outside f_tt f_vt f_pos f_bad f_checking f_live f_pending f_carry f_active f_ticks f_status f_result f_endedAt f_used f_printed a_kind a_value a_code a_number a_given a_begins a_params a_todo a_val a_vars a_output a_memory := br_f e120 ⟨vi, nm_r (e' := upd a_kind n (nI a)) (by rw [e3]; exact congrArg (upd a_kind n) (ym_nb (by omega))) (nm_r (nI_1 _) ⟨vi, nm_r (e' := upd a_value n v2) (by rw [e3]) hP⟩)⟩
        have z24 : wY_token_24 P (nI a) v2 (nI n) f_place f_length f_functions f_loaded f_loops f_outside f_tt f_vt f_pos f_bad f_checking f_live f_pending f_carry f_active f_ticks f_status f_result f_endedAt f_used f_printed a_kind a_value a_code a_number a_given a_begins a_params a_todo a_val a_vars a_output a_memory := br_c (fun q => by
          obtain ⟨w, hw, ew⟩ := h2 q
          exact br_f (by rw [ew]; exact nI_pos (by omega)) (br_f (by rw [ew]; exact nI_nlt (a := 3) hw (by decide)) z38)) (fun _ => z38)
        exact br_f h (br_f h3 (br_c (fun q => by
          obtain ⟨w, hw, ew⟩ := h1 q
          exact br_f (by rw [ew]; exact nI_pos (by omega)) (br_f (by rw [ew]; exact nI_nlt (a := 5) hw (by decide)) z24)) (fun _ => z24)))
      refine ⟨vi, nm_r (e' := upd a_kind n (nI a)) (by rw [e3]) ⟨vi, nm_r (e' := upd a_value n v2) (by rw [e3]) (nm_r (nI_1 _) (y38 _ ⟨rfl, ?_⟩))⟩⟩
      exact rl_mk ⟨⟨n + 1, rfl, rfl, by omega, rl_app htk ⟨a, ha', rfl⟩ h1 h2⟩, rfl, rfl, rfl, rfl, rfl, hreg, rfl, rfl, rfl, rfl, rfl, rfl, hL⟩
    refine br_c (fun q1 => br_c (fun q2 => ?_) (fun q2 => br_c (fun q3 => ?_) (fun q3 => ?_))) (fun q1 => ?_)
    · exact br_f h (br_f h3 (br_t q1 (br_t q2 ⟨rfl, I'⟩)))
    · have n2 : ¬ nI a = 2 := by rw [q1]; decide
      refine br_f n2 (fin (fun _ => ?_) (fun z => absurd z n2))
      obtain ⟨w, hw, rfl⟩ := nI_of q2
      exact ⟨w, by have := (nI_ltI (a := w) (b := 6) hw (by decide)).mp q3; omega, rfl⟩
    · refine br_f h (br_f h3 (br_t q1 (br_f q2 (br_t ?_ ⟨rfl, I'⟩))))
      exact Int32.lt_of_lt_of_le (by decide) (Int32.not_lt.mp q3)
    · refine br_c (fun q2 => br_c (fun q3 => ?_) (fun q3 => br_c (fun q4 => ?_) (fun q4 => ?_))) (fun q2 => fin (fun z => absurd z q1) (fun z => absurd z q2))
      · exact br_f h (br_f h3 (br_f q1 (br_t q2 (br_t q3 ⟨rfl, I'⟩))))
      · refine fin (fun z => absurd z q1) (fun _ => ?_)
        obtain ⟨w, hw, rfl⟩ := nI_of q3
        exact ⟨w, by have := (nI_ltI (a := w) (b := 4) hw (by decide)).mp q4; omega, rfl⟩
      · refine br_f h (br_f h3 (br_f q1 (br_t q2 (br_f q3 (br_t ?_ ⟨rfl, I'⟩)))))
        exact Int32.lt_of_lt_of_le (by decide) (Int32.not_lt.mp q4)
  · have : n = 120 := by omega
    subst this
    have z38 : wY_token_38 (fun r' v' => r' = 0 ∧ i_Rel (k + 5) (nI 120, f_planCount, f_next, f_wrongToken, f_looseJump, f_place, f_openLoopCount, f_codeCount, f_labelCount, f_functionCount, f_registerCount, f_activeCalls, f_stackCount, f_nextCode, f_running, f_ending, f_endedAt, f_result, f_used, f_printed, a_kind, a_value, a_planKind, a_planValue, a_planPlace, a_given, a_openLoop, a_codeKind, a_codeValue, a_codePlace, a_labelTarget, a_functionStart, a_params, a_register, a_frame, a_returnTo, a_stack, a_memory, a_output) v') (nI a) v2 (nI 120) f_place f_length f_functions f_loaded f_loops f_outside f_tt f_vt f_pos f_bad f_checking f_live f_pending f_carry f_active f_ticks f_status f_result f_endedAt f_used f_printed a_kind a_value a_code a_number a_given a_begins a_params a_todo a_val a_vars a_output a_memory := br_t rfl ⟨rfl, I'⟩
    have z24 : wY_token_24 (fun r' v' => r' = 0 ∧ i_Rel (k + 5) (nI 120, f_planCount, f_next, f_wrongToken, f_looseJump, f_place, f_openLoopCount, f_codeCount, f_labelCount, f_functionCount, f_registerCount, f_activeCalls, f_stackCount, f_nextCode, f_running, f_ending, f_endedAt, f_result, f_used, f_printed, a_kind, a_value, a_planKind, a_planValue, a_planPlace, a_given, a_openLoop, a_codeKind, a_codeValue, a_codePlace, a_labelTarget, a_functionStart, a_params, a_register, a_frame, a_returnTo, a_stack, a_memory, a_output) v') (nI a) v2 (nI 120) f_place f_length f_functions f_loaded f_loops f_outside f_tt f_vt f_pos f_bad f_checking f_live f_pending f_carry f_active f_ticks f_status f_result f_endedAt f_used f_printed a_kind a_value a_code a_number a_given a_begins a_params a_todo a_val a_vars a_output a_memory := br_c (fun _ => br_c (fun _ => ⟨rfl, I'⟩) (fun _ => br_c (fun _ => ⟨rfl, I'⟩) (fun _ => z38))) (fun _ => z38)
    exact br_f h (br_f h3 (br_c (fun _ => br_c (fun _ => ⟨rfl, I'⟩) (fun _ => br_c (fun _ => ⟨rfl, I'⟩) (fun _ => z24))) (fun _ => z24)))
