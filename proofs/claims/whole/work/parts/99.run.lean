/-! run on both sides -/
theorem i_vc_run {k : Nat} {u : SX} {v : SY} (I : i_Rel k u v) (hk : k + 5 ≤ 2561) (v1 : Int32) (v2 : Int32) (v3 : Int32) (v4 : Int32) : wpX_run (fun r u' => wpY_run (fun r' v' => r' = r ∧ i_Rel (k + 5) u' v') v v1 v2 v3 v4) u v1 v2 v3 v4 := by
  obtain ⟨f_tokenCount, f_planCount, f_next, f_wrongToken, f_looseJump, f_latestPlace, f_openLoopCount, f_codeCount, f_labelCount, f_functionCount, f_registerCount, f_activeCalls, f_stackCount, f_nextCode, f_running, f_ending, f_endingPlace, f_resultValue, f_ticksUsed, f_printedCount, a_tokenKind, a_tokenValue, a_planKind, a_planValue, a_planPlace, a_argumentCount, a_openLoop, a_codeKind, a_codeValue, a_codePlace, a_labelTarget, a_functionStart, a_functionParameters, a_register, a_frame, a_returnTo, a_stack, a_element, a_outputValue⟩ := u
  obtain ⟨f_count, f_place, f_length, f_functions, f_loaded, f_loops, f_outside, f_tt, f_vt, f_pos, f_bad, f_checking, f_live, f_pending, f_carry, f_active, f_ticks, f_status, f_result, f_endedAt, f_used, f_printed, a_kind, a_value, a_code, a_number, a_given, a_begins, a_params, a_todo, a_val, a_vars, a_output, a_memory⟩ := v
  have I' := I
  obtain ⟨⟨n0, t1, t2, hn0, htk⟩, rfl, rfl, rfl, rfl, rfl, hreg, rfl, rfl, rfl, rfl, rfl, rfl, hL⟩ := I
  have I5 : i_Rel (k + 5) (f_tokenCount, f_planCount, f_next, f_wrongToken, f_looseJump, f_place, f_openLoopCount, f_codeCount, f_labelCount, f_functionCount, f_registerCount, f_activeCalls, f_stackCount, f_nextCode, f_running, f_ending, f_endedAt, f_result, f_used, f_printed, a_kind, a_value, a_planKind, a_planValue, a_planPlace, a_given, a_openLoop, a_codeKind, a_codeValue, a_codePlace, a_labelTarget, a_functionStart, a_params, a_register, a_frame, a_returnTo, a_stack, a_memory, a_output) (f_count, f_place, f_length, f_functions, f_loaded, f_loops, f_outside, f_tt, f_vt, f_pos, f_bad, f_checking, f_live, f_pending, f_carry, f_active, f_ticks, f_status, f_result, f_endedAt, f_used, f_printed, a_kind, a_value, a_code, a_number, a_given, a_begins, a_params, a_todo, a_val, a_vars, a_output, a_memory) := I'
  by_cases h0 : v1 < 0
  · refine br_t h0 ?_
    refine br_c (fun _ => ⟨rfl, I5⟩) (fun _ => br_t h0 ⟨rfl, I5⟩)
  rcases hL with ⟨l1, l2⟩ | ⟨l1, n, NF, e1, hn, e2, e3, hNF, hK, hok, hcnt⟩
  · subst l1 l2
    refine br_f h0 (br_c (fun _ => br_t rfl ⟨rfl, I5⟩) (fun _ => br_f h0 (br_t rfl ⟨rfl, I5⟩)))
  obtain ⟨f, hf31, rfl⟩ := nI_of h0
  by_cases hf : f < NF
  · obtain ⟨r, hr, hr1, hr6⟩ := hreg
    obtain ⟨m', p', cc', lc', w, hm', hokf, hbg, hst, hfp, hw0, hw3⟩ := gm_fun hf 400 0 [gi_P] 0 0 0 hok (by omega)
    obtain ⟨c, hc3, rfl⟩ := nI_of2 (M := 3) (n := 3) (by decide) (Int32.not_lt.mpr hw0) hw3
    have hfun : ∀ f, f < NF → ∃ m p cc lc c, m ≤ 400 ∧ gm_ok a_code a_number n (a_codeKind, a_codeValue, a_codePlace, a_labelTarget, a_given, a_functionStart, a_params, a_begins) NF m p [gi_B, gi_F, gi_P] cc lc (f + 1) ∧ a_begins f = nI p ∧ a_functionStart f = nI cc ∧ a_params f = nI c ∧ c ≤ 3 := by
      intro f hf
      obtain ⟨m', p', cc', lc', w, hm', hokf, hbg, hst, hfp, hw0, hw3⟩ := gm_fun hf 400 0 [gi_P] 0 0 0 hok (by omega)
      obtain ⟨c, hc3, rfl⟩ := nI_of2 (M := 3) (n := 3) (by decide) (Int32.not_lt.mpr hw0) hw3
      exact ⟨m', p', cc', lc', c, by omega, hokf, hbg, hst, hfp, hc3⟩
    have C : cx (fun r u' => wpY_run (fun r' v' => r' = r ∧ i_Rel (k + 5) u' v') (f_count, f_place, f_length, f_functions, f_loaded, f_loops, f_outside, f_tt, f_vt, f_pos, f_bad, f_checking, f_live, f_pending, f_carry, f_active, f_ticks, f_status, f_result, f_endedAt, f_used, f_printed, a_kind, a_value, a_code, a_number, a_given, a_begins, a_params, a_todo, a_val, a_vars, a_output, a_memory) (nI f) v2 v3 v4)
        (fun Q => ∀ td, yp_Td td [yp_n 2 0 0, yp_n 26 0 0] → yL Q 0 (f_count, f_place, f_length, f_functions, f_loaded, f_loops, f_outside, nI 2, nI 0, nI p', 0, 0, 1, 0, f_carry, nI 1, nI 120, 0, f_result, -1, f_used, nI 0, a_kind, a_value, a_code, a_number, a_given, a_begins, a_params, td, upd (upd (upd a_val 0 v2) 1 v3) 2 v4, zp_ent 0 c 6 a_vars (zr_vs c v2 v3 v4), a_output, a_memory))
        (f_tokenCount, f_planCount, f_next, f_wrongToken, f_looseJump, f_place, f_openLoopCount, f_codeCount, f_labelCount, f_functionCount, f_registerCount, f_activeCalls, f_stackCount, f_nextCode, f_running, f_ending, f_endedAt, f_result, f_used, f_printed, a_kind, a_value, a_planKind, a_planValue, a_planPlace, a_given, a_openLoop, a_codeKind, a_codeValue, a_codePlace, a_labelTarget, a_functionStart, a_params, a_register, a_frame, a_returnTo, a_stack, a_memory, a_output) (f_count, f_place, f_length, f_functions, f_loaded, f_loops, f_outside, f_tt, f_vt, f_pos, f_bad, 0, f_live, f_pending, f_carry, f_active, f_ticks, f_status, f_result, f_endedAt, f_used, f_printed, a_kind, a_value, a_code, a_number, a_given, a_begins, a_params, a_todo, a_val, a_vars, a_output, a_memory) n NF r (a_codeKind, a_codeValue, a_codePlace, a_labelTarget, a_given, a_functionStart, a_params, a_begins) := by
      refine ⟨⟨rfl, rfl, rfl, rfl, rfl, rfl, hr, hr1, hr6⟩, ⟨e1, hn, hK, rfl⟩, rfl, rfl, hNF, hcnt, hfun, ?_⟩
      intro how pl v t pr mem out ht hv HQ ac sc nc reg fr rt st
      refine yz_all l1 rfl hf hNF e2 hfp hc3 hbg (HQ _ ?_)
      intro tt vt pos bad live pe ca ac' td va vr hva
      have eu : 120 - nI t = nI (120 - t) := pk_sub (a := 120) ht
      refine br_c (fun z => nm_r eu ⟨rfl, ?_⟩) (fun z => nm_r eu ⟨rfl, ?_⟩)
      · rw [hva z]
        exact rl_mk ⟨⟨n0, t1, t2, hn0, htk⟩, rfl, rfl, rfl, rfl, rfl, ⟨r, hr, hr1, hr6⟩, rfl, rfl, rfl, rfl, rfl, rfl, Or.inr ⟨l1, n, NF, e1, hn, e2, e3, hNF, hK, hok, hcnt⟩⟩
      · have ev : v = 0 := hv.resolve_left z
        subst ev
        exact rl_mk ⟨⟨n0, t1, t2, hn0, htk⟩, rfl, rfl, rfl, rfl, rfl, ⟨r, hr, hr1, hr6⟩, rfl, rfl, rfl, rfl, rfl, rfl, Or.inr ⟨l1, n, NF, e1, hn, e2, e3, hNF, hK, hok, hcnt⟩⟩
    refine xr_all (vr := a_vars) rfl hf hNF e3 hfp hc3 hst hr hr1 hr6 fun reg fr st hR => ?_
    refine mn_all C 49000 0 0 0 p' 120 0 cc' lc' (f + 1) m' 0 0 [] [gi_B, gi_F, gi_P] [yp_n 2 0 0, yp_n 26 0 0] [yp_n 26 0 0] (zp_ent 0 c 6 a_vars (zr_vs c v2 v3 v4)) (upd a_returnTo 0 0) a_memory a_output hokf ?_ ⟨rfl, rfl, rfl⟩ ?_ (by omega) (by omega) (by omega) (by omega) (by omega) (by omega) (by omega) reg fr st hR trivial
    · exact zl_e (by simp) (yp_e_n (a := 2) (b := 0) (h := 0) (by decide) (by decide) (by decide)) (fun z => absurd z (by simp)) ⟨rfl, rfl, rfl⟩
    · intro Q hq td hd
      exact hq 0 (Nat.le_refl _) td _ f_carry hd trivial
  · have hlt : ¬ nI f < nI NF := nI_nlt (by omega) hf31
    have y5 : wpY_run (fun r' v' => r' = 5 ∧ i_Rel (k + 5) (f_tokenCount, f_planCount, f_next, f_wrongToken, f_looseJump, f_place, f_openLoopCount, f_codeCount, f_labelCount, f_functionCount, f_registerCount, f_activeCalls, f_stackCount, f_nextCode, f_running, f_ending, f_endedAt, f_result, f_used, f_printed, a_kind, a_value, a_planKind, a_planValue, a_planPlace, a_given, a_openLoop, a_codeKind, a_codeValue, a_codePlace, a_labelTarget, a_functionStart, a_params, a_register, a_frame, a_returnTo, a_stack, a_memory, a_output) v') (f_count, f_place, f_length, f_functions, f_loaded, f_loops, f_outside, f_tt, f_vt, f_pos, f_bad, f_checking, f_live, f_pending, f_carry, f_active, f_ticks, f_status, f_result, f_endedAt, f_used, f_printed, a_kind, a_value, a_code, a_number, a_given, a_begins, a_params, a_todo, a_val, a_vars, a_output, a_memory) (nI f) v2 v3 v4 := by
      refine br_f (by rw [l1]; decide) (br_f h0 ?_)
      rw [e2]
      rw [e2] at I5
      exact br_f hlt ⟨rfl, I5⟩
    refine br_f h0 (br_c (fun _ => y5) (fun _ => ?_))
    rw [e3]
    rw [e3] at y5
    exact br_f hlt y5
