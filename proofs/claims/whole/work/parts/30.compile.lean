/-! compile on both sides -/
theorem i_vc_compile {k : Nat} {u : SX} {v : SY} (I : i_Rel k u v) (hk : k + 5 ≤ 2561) : wpX_compile (fun r u' => wpY_compile (fun r' v' => r' = r ∧ i_Rel (k + 5) u' v') v) u := by
  obtain ⟨f_tokenCount, f_planCount, f_next, f_wrongToken, f_looseJump, f_latestPlace, f_openLoopCount, f_codeCount, f_labelCount, f_functionCount, f_registerCount, f_activeCalls, f_stackCount, f_nextCode, f_running, f_ending, f_endingPlace, f_resultValue, f_ticksUsed, f_printedCount, a_tokenKind, a_tokenValue, a_planKind, a_planValue, a_planPlace, a_argumentCount, a_openLoop, a_codeKind, a_codeValue, a_codePlace, a_labelTarget, a_functionStart, a_functionParameters, a_register, a_frame, a_returnTo, a_stack, a_element, a_outputValue⟩ := u
  obtain ⟨f_count, f_place, f_length, f_functions, f_loaded, f_loops, f_outside, f_tt, f_vt, f_pos, f_bad, f_checking, f_live, f_pending, f_carry, f_active, f_ticks, f_status, f_result, f_endedAt, f_used, f_printed, a_kind, a_value, a_code, a_number, a_given, a_begins, a_params, a_todo, a_val, a_vars, a_output, a_memory⟩ := v
  obtain ⟨⟨n, t1, t2, hn, htk⟩, rfl, rfl, rfl, rfl, rfl, hreg, rfl, rfl, rfl, rfl, rfl, rfl, _⟩ := I
  have eK : ∀ j, j < n → yc_K n a_kind a_code j = a_kind j := fun j hj => if_pos hj
  have eV : ∀ j, j < n → yc_K n a_value a_number j = a_value j := fun j hj => if_pos hj
  have hK : gm_tok (yc_K n a_kind a_code) (yc_K n a_value a_number) n := rl_tok htk eK eV
  have eT : ∀ p, gm_tk a_kind n p = gm_tk (yc_K n a_kind a_code) n p := by
    intro p
    unfold gm_tk
    by_cases h : p < n
    · rw [if_pos h, if_pos h, eK p h]
    · rw [if_neg h, if_neg h]
  have hU : xh (f_tokenCount, f_planCount, f_next, f_wrongToken, f_looseJump, f_place, f_openLoopCount, f_codeCount, f_labelCount, f_functionCount, f_registerCount, f_activeCalls, f_stackCount, f_nextCode, f_running, f_ending, f_endedAt, f_result, f_used, f_printed, a_kind, a_value, a_planKind, a_planValue, a_planPlace, a_given, a_openLoop, a_codeKind, a_codeValue, a_codePlace, a_labelTarget, a_functionStart, a_params, a_register, a_frame, a_returnTo, a_stack, a_memory, a_output) (yc_K n a_kind a_code) (yc_K n a_value a_number) n := ⟨t1, hn, eT, fun p hp => (eV p hp).symm, fun q hq => (htk q hq).1⟩
  have hW : yh (f_count, f_place, nI n, 0, 0, 0, -1, 0, 0, 0, 0, 1, 0, 0, f_carry, 0, f_ticks, 0, f_result, f_endedAt, f_used, f_printed, a_kind, a_value, yc_K n a_kind a_code, yc_K n a_value a_number, a_given, a_begins, a_params, a_todo, a_val, a_vars, a_output, a_memory) true n 0 := ⟨rfl, hn, rfl, by decide, hK, fun _ => (by decide : ¬ (1 : Int32) = 0), fun h => by cases h⟩
  have hY0 : yd_R true 0 [] [gi_P] [1] := ⟨rfl, 1, [], rfl, ⟨rfl, by decide⟩, rfl⟩
  have hav : gm_av a_given [gi_P] := ⟨fun z => absurd z (by decide), trivial⟩
  have hI0 := gm_inv0 (yc_K n a_kind a_code) (yc_K n a_value a_number) n
  have hv : ∀ j, j < n → a_kind j = 2 → ∃ u, u ≤ 3 ∧ a_value j = nI u := fun j hj h => (htk j hj).2.2 h
  have hv' : ∀ j, j < n → yc_K n a_kind a_code j = 2 → ∃ u, u ≤ 3 ∧ yc_K n a_value a_number j = nI u := fun j hj h => (hK j hj).2.2 h
  unfold wpX_compile
  refine xm_start fun pk pv pp hP => ⟨1000001, ?_⟩
  rcases gm_fin hK hn 400 0 [gi_P] 0 0 0 (-1) (a_codeKind, a_codeValue, a_codePlace, a_labelTarget, a_given, a_functionStart, a_params, a_begins) hI0 (by simp [gm_sm, gw_m]; omega) (Or.inl rfl) with ⟨e, ac, fp, he, hr⟩ | ⟨p', cc', lc', fc', o', A', ho, hfc, hr⟩
  · refine xc_run (U := (f_tokenCount, f_planCount, f_next, f_wrongToken, f_looseJump, f_place, f_openLoopCount, f_codeCount, f_labelCount, f_functionCount, f_registerCount, f_activeCalls, f_stackCount, f_nextCode, f_running, f_ending, f_endedAt, f_result, f_used, f_printed, a_kind, a_value, a_planKind, a_planValue, a_planPlace, a_given, a_openLoop, a_codeKind, a_codeValue, a_codePlace, a_labelTarget, a_functionStart, a_params, a_register, a_frame, a_returnTo, a_stack, a_memory, a_output)) hU hK (E := fun e' ac' fp' => e' = e ∧ ac' = ac ∧ fp' = fp) (D := fun _ _ _ _ _ _ => False) ?_ (fun _ _ _ _ _ _ h => h.elim) 400 0 0 [gi_P] 0 0 0 (-1) (a_codeKind, a_codeValue, a_codePlace, a_labelTarget, a_given, a_functionStart, a_params, a_begins) (by decide) hI0 hav (hr _ _ ⟨rfl, rfl, rfl⟩) pk pv pp a_openLoop hP trivial 1000001 (by decide)
    rintro e' ac' fp' ⟨rfl, rfl, rfl⟩ s hs pc nx lj oc cc lc fc pk pv pp oa ck cv cp lt fs
    refine xe_end hs (Or.inr (nI_pos' (by omega))) (xj_err rfl (by omega) ?_)
    refine yc_all (A := (a_codeKind, a_codeValue, a_codePlace, a_labelTarget, a_given, a_functionStart, a_params, a_begins)) t2 hn (fun j hj => (htk j hj).1) rfl rfl rfl ?_
    refine yc_run hW (E := fun e1 ac1 fp1 => e1 = e' ∧ ac1 = ac' ∧ fp1 = fp') (D := fun _ _ _ _ _ _ => False) ?_ (fun _ _ _ _ _ _ h => h.elim) 400 0 0 [gi_P] 0 0 0 (-1) (a_codeKind, a_codeValue, a_codePlace, a_labelTarget, a_given, a_functionStart, a_params, a_begins) [1] (by decide) hI0 hav (hr _ _ ⟨rfl, rfl, rfl⟩) hY0
    rintro e1 ac1 fp1 ⟨rfl, rfl, rfl⟩ g hg tt lo ou fn td be
    refine ye_end hg (Or.inr (Or.inl (by decide))) ?_
    refine br_f (by decide) ⟨rfl, ?_⟩
    exact rl_mk ⟨⟨n, t1, t2, hn, htk⟩, rfl, rfl, rfl, rfl, rfl, hreg, rfl, rfl, rfl, rfl, rfl, rfl, Or.inl ⟨rfl, rfl⟩⟩
  · have Yrun : ∀ postY : Int32 → SY → Prop, (∀ td, yc_P postY (f_count, f_place, nI n, nI fc', 0, 0, o', 0, 0, nI p', 0, 1, 0, 0, f_carry, 0, f_ticks, 0, f_result, f_endedAt, f_used, f_printed, a_kind, a_value, yc_K n a_kind a_code, yc_K n a_value a_number, A'.2.2.2.2.1, A'.2.2.2.2.2.2.2, A'.2.2.2.2.2.2.1, td, a_val, a_vars, a_output, a_memory)) → wpY_compile postY (f_count, f_place, f_length, f_functions, f_loaded, f_loops, f_outside, f_tt, f_vt, f_pos, f_bad, f_checking, f_live, f_pending, f_carry, f_active, f_ticks, f_status, f_result, f_endedAt, f_used, f_printed, a_kind, a_value, a_code, a_number, a_given, a_begins, a_params, a_todo, a_val, a_vars, a_output, a_memory) := by
      intro postY hy
      refine yc_all (A := (a_codeKind, a_codeValue, a_codePlace, a_labelTarget, a_given, a_functionStart, a_params, a_begins)) t2 hn (fun j hj => (htk j hj).1) rfl rfl rfl ?_
      refine yc_run hW (E := fun _ _ _ => False) (D := fun p cc lc fc o A => p = p' ∧ cc = cc' ∧ lc = lc' ∧ fc = fc' ∧ o = o' ∧ A = A') (fun _ _ _ h => h.elim) ?_ 400 0 0 [gi_P] 0 0 0 (-1) (a_codeKind, a_codeValue, a_codePlace, a_labelTarget, a_given, a_functionStart, a_params, a_begins) [1] (by decide) hI0 hav (hr _ _ ⟨rfl, rfl, rfl, rfl, rfl, rfl⟩) hY0
      rintro p cc lc fc o A ⟨rfl, rfl, rfl, rfl, rfl, rfl⟩ g hg td hd
      exact ye_end hg (Or.inl (by decide)) (hy td)
    refine xc_run (U := (f_tokenCount, f_planCount, f_next, f_wrongToken, f_looseJump, f_place, f_openLoopCount, f_codeCount, f_labelCount, f_functionCount, f_registerCount, f_activeCalls, f_stackCount, f_nextCode, f_running, f_ending, f_endedAt, f_result, f_used, f_printed, a_kind, a_value, a_planKind, a_planValue, a_planPlace, a_given, a_openLoop, a_codeKind, a_codeValue, a_codePlace, a_labelTarget, a_functionStart, a_params, a_register, a_frame, a_returnTo, a_stack, a_memory, a_output)) hU hK (E := fun _ _ _ => False) (D := fun p cc lc fc o A => p = p' ∧ cc = cc' ∧ lc = lc' ∧ fc = fc' ∧ o = o' ∧ A = A') (fun _ _ _ h => h.elim) ?_ 400 0 0 [gi_P] 0 0 0 (-1) (a_codeKind, a_codeValue, a_codePlace, a_labelTarget, a_given, a_functionStart, a_params, a_begins) (by decide) hI0 hav (hr _ _ ⟨rfl, rfl, rfl, rfl, rfl, rfl⟩) pk pv pp a_openLoop hP trivial 1000001 (by decide)
    rintro p cc lc fc o A ⟨rfl, rfl, rfl, rfl, rfl, rfl⟩ s hs pk pv pp oa hP hO
    refine xe_end hs (Or.inl (by decide)) ?_
    by_cases hneg : o < 0
    · have hq3 : ∀ j, j < n → ((a_kind j = 2 ∧ ¬ a_value j < nI fc) ↔ (yc_K n a_kind a_code j = 2 ∧ ¬ yc_K n a_value a_number j < nI fc)) := fun j hj => by rw [eK j hj, eV j hj]
      have hq4 : ∀ j, j < n → ((a_kind j = 2 ∧ ¬ A.2.2.2.2.1 j = A.2.2.2.2.2.2.1 (a_value j).toNatClampNeg) ↔ (yc_K n a_kind a_code j = 2 ∧ ¬ A.2.2.2.2.1 j = A.2.2.2.2.2.2.1 (yc_K n a_value a_number j).toNatClampNeg)) := fun j hj => by rw [eK j hj, eV j hj]
      refine xj_rest t1 hn hv rfl hneg (fun i hi a b => ?_) (fun z i hi a b => ?_) (fun z y => ?_)
      · refine Yrun _ fun td => br_t rfl (br_t hneg ?_)
        refine ym_unk rfl hn hv' (fun i' hi' a' b' => ⟨rfl, ?_⟩) (fun z' => absurd ((hq3 i hi).mp a) (z' i hi)) (fun z' => absurd ((hq3 i hi).mp a) (z' i hi))
        have e : i = i' := rl_first hi hi' a b a' b' hq3
        subst e
        exact rl_mk ⟨⟨n, t1, t2, hn, htk⟩, rfl, rfl, rfl, rfl, rfl, hreg, rfl, rfl, rfl, rfl, rfl, rfl, Or.inl ⟨rfl, rfl⟩⟩
      · refine Yrun _ fun td => br_t rfl (br_t hneg ?_)
        refine ym_unk rfl hn hv' (fun i' hi' a' b' => absurd ((hq3 i' hi').mpr a') (z i' hi')) (fun z' i' hi' a' b' => ⟨rfl, ?_⟩) (fun z' y' => absurd ((hq4 i hi).mp a) (y' i hi))
        have e : i = i' := rl_first hi hi' a b a' b' hq4
        subst e
        exact rl_mk ⟨⟨n, t1, t2, hn, htk⟩, rfl, rfl, rfl, rfl, rfl, hreg, rfl, rfl, rfl, rfl, rfl, rfl, Or.inl ⟨rfl, rfl⟩⟩
      · refine Yrun _ fun td => br_t rfl (br_t hneg ?_)
        refine ym_unk rfl hn hv' (fun i' hi' a' b' => absurd ((hq3 i' hi').mpr a') (z i' hi')) (fun z' i' hi' a' b' => absurd ((hq4 i' hi').mpr a') (y i' hi')) (fun z' y' => ⟨rfl, ?_⟩)
        have ho' : o = -1 := ho.resolve_right (fun h => absurd hneg (Int32.not_lt.mpr h))
        have hok := (gm_okT (F := A) (NF := fc) hK hn 400 0 [gi_P] 0 0 0 (-1) (a_codeKind, a_codeValue, a_codePlace, a_labelTarget, a_given, a_functionStart, a_params, a_begins) hI0 hav (hr _ _ ⟨rfl, rfl, ho'⟩)).1
        refine rl_mk ⟨⟨n, t1, t2, hn, htk⟩, rfl, rfl, rfl, rfl, rfl, hreg, rfl, rfl, rfl, rfl, rfl, rfl, Or.inr ⟨rfl, n, fc, rfl, hn, rfl, rfl, hfc, hK, hok, fun q hq h2 => ⟨?_, ?_⟩⟩⟩
        · exact Decidable.byContradiction fun w => z' q hq ⟨h2, w⟩
        · exact Decidable.byContradiction fun w => y' q hq ⟨h2, w⟩
    · refine xj_loop rfl hneg ?_
      refine Yrun _ fun td => br_t rfl (br_f hneg ⟨rfl, ?_⟩)
      exact rl_mk ⟨⟨n, t1, t2, hn, htk⟩, rfl, rfl, rfl, rfl, rfl, hreg, rfl, rfl, rfl, rfl, rfl, rfl, Or.inl ⟨rfl, rfl⟩⟩
