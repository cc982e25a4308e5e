/-! X: judge -/
theorem xm_unk {post : Int32 → Prop} {f_tokenCount f_planCount f_next f_wrongToken f_looseJump f_latestPlace f_openLoopCount f_codeCount f_labelCount f_functionCount f_registerCount f_activeCalls f_stackCount f_nextCode f_running f_ending f_endingPlace f_resultValue f_ticksUsed f_printedCount : Int32} {a_tokenKind a_tokenValue a_planKind a_planValue a_planPlace a_argumentCount a_openLoop a_codeKind a_codeValue a_codePlace a_labelTarget a_functionStart a_functionParameters a_register a_frame a_returnTo a_stack a_element a_outputValue : Nat → Int32} {n : Nat} (ht : f_tokenCount = nI n) (hn : n ≤ 120)
    (H1 : ∀ i, i < n → (a_tokenKind i = 2 ∧ ¬ a_tokenValue i < f_functionCount) → (∀ j, j < i → ¬ (a_tokenKind j = 2 ∧ ¬ a_tokenValue j < f_functionCount)) → post (nI i))
    (H2 : (∀ j, j < n → ¬ (a_tokenKind j = 2 ∧ ¬ a_tokenValue j < f_functionCount)) → post (-1)) : wpX_firstUnknownCall post (f_tokenCount, f_planCount, f_next, f_wrongToken, f_looseJump, f_latestPlace, f_openLoopCount, f_codeCount, f_labelCount, f_functionCount, f_registerCount, f_activeCalls, f_stackCount, f_nextCode, f_running, f_ending, f_endingPlace, f_resultValue, f_ticksUsed, f_printedCount, a_tokenKind, a_tokenValue, a_planKind, a_planValue, a_planPlace, a_argumentCount, a_openLoop, a_codeKind, a_codeValue, a_codePlace, a_labelTarget, a_functionStart, a_functionParameters, a_register, a_frame, a_returnTo, a_stack, a_element, a_outputValue) := by
  have key : ∀ d i, i + d = n → (∀ j, j < i → ¬ (a_tokenKind j = 2 ∧ ¬ a_tokenValue j < f_functionCount)) → wX_firstUnknownCall_2 post f_tokenCount f_planCount f_next f_wrongToken f_looseJump f_latestPlace f_openLoopCount f_codeCount f_labelCount f_functionCount f_registerCount f_activeCalls f_stackCount f_nextCode f_running f_ending f_endingPlace f_resultValue f_ticksUsed f_printedCount a_tokenKind a_tokenValue a_planKind a_planValue a_planPlace a_argumentCount a_openLoop a_codeKind a_codeValue a_codePlace a_labelTarget a_functionStart a_functionParameters a_register a_frame a_returnTo a_stack a_element a_outputValue (d + 1) (nI i) := by
    intro d
    induction d with
    | zero =>
      intro i hi h
      have : i = n := by omega
      subst this ht
      refine br_c (fun _ => H2 h) (fun _ => br_t (nI_le (Nat.le_refl _) (by omega)) (H2 h))
    | succ d ih =>
      intro i hi h
      have e : (nI i).toNatClampNeg = i := nI_clamp (by omega)
      have vi : vp_in (nI i) 120 := vp_in_nI (by omega) (by decide)
      have nx : ¬ (a_tokenKind i = 2 ∧ ¬ a_tokenValue i < f_functionCount) → wX_firstUnknownCall_2 post f_tokenCount f_planCount f_next f_wrongToken f_looseJump f_latestPlace f_openLoopCount f_codeCount f_labelCount f_functionCount f_registerCount f_activeCalls f_stackCount f_nextCode f_running f_ending f_endingPlace f_resultValue f_ticksUsed f_printedCount a_tokenKind a_tokenValue a_planKind a_planValue a_planPlace a_argumentCount a_openLoop a_codeKind a_codeValue a_codePlace a_labelTarget a_functionStart a_functionParameters a_register a_frame a_returnTo a_stack a_element a_outputValue (d + 1) (nI (i + 1)) := fun z => ih (i + 1) (by omega) (fun j hj => by
        by_cases y : j = i
        · rw [y]; exact z
        · exact h j (by omega))
      refine br_f (nI_ge (b := 120) (by omega) (by decide)) (br_f (by rw [ht]; exact nI_ge (by omega) (by omega)) ?_)
      rw [e]
      refine ⟨vi, br_c (fun a => ⟨vi, br_c (fun b => nm_r (nI_1 _) (nx (fun z => z.2 b))) (fun b => H1 i (by omega) ⟨a, b⟩ h)⟩) (fun a => nm_r (nI_1 _) (nx (fun z => a z.1)))⟩
  unfold wpX_firstUnknownCall
  exact ⟨n + 1, key n 0 (by omega) (fun j hj => by omega)⟩
theorem xm_mis {post : Int32 → Prop} {f_tokenCount f_planCount f_next f_wrongToken f_looseJump f_latestPlace f_openLoopCount f_codeCount f_labelCount f_functionCount f_registerCount f_activeCalls f_stackCount f_nextCode f_running f_ending f_endingPlace f_resultValue f_ticksUsed f_printedCount : Int32} {a_tokenKind a_tokenValue a_planKind a_planValue a_planPlace a_argumentCount a_openLoop a_codeKind a_codeValue a_codePlace a_labelTarget a_functionStart a_functionParameters a_register a_frame a_returnTo a_stack a_element a_outputValue : Nat → Int32} {n : Nat} (ht : f_tokenCount = nI n) (hn : n ≤ 120) (hv : ∀ j, j < n → a_tokenKind j = 2 → ∃ u, u ≤ 3 ∧ a_tokenValue j = nI u)
    (H1 : ∀ i, i < n → (a_tokenKind i = 2 ∧ ¬ a_argumentCount i = a_functionParameters (a_tokenValue i).toNatClampNeg) → (∀ j, j < i → ¬ (a_tokenKind j = 2 ∧ ¬ a_argumentCount j = a_functionParameters (a_tokenValue j).toNatClampNeg)) → post (nI i))
    (H2 : (∀ j, j < n → ¬ (a_tokenKind j = 2 ∧ ¬ a_argumentCount j = a_functionParameters (a_tokenValue j).toNatClampNeg)) → post (-1)) : wpX_firstMiscountedCall post (f_tokenCount, f_planCount, f_next, f_wrongToken, f_looseJump, f_latestPlace, f_openLoopCount, f_codeCount, f_labelCount, f_functionCount, f_registerCount, f_activeCalls, f_stackCount, f_nextCode, f_running, f_ending, f_endingPlace, f_resultValue, f_ticksUsed, f_printedCount, a_tokenKind, a_tokenValue, a_planKind, a_planValue, a_planPlace, a_argumentCount, a_openLoop, a_codeKind, a_codeValue, a_codePlace, a_labelTarget, a_functionStart, a_functionParameters, a_register, a_frame, a_returnTo, a_stack, a_element, a_outputValue) := by
  have key : ∀ d i, i + d = n → (∀ j, j < i → ¬ (a_tokenKind j = 2 ∧ ¬ a_argumentCount j = a_functionParameters (a_tokenValue j).toNatClampNeg)) → wX_firstMiscountedCall_2 post f_tokenCount f_planCount f_next f_wrongToken f_looseJump f_latestPlace f_openLoopCount f_codeCount f_labelCount f_functionCount f_registerCount f_activeCalls f_stackCount f_nextCode f_running f_ending f_endingPlace f_resultValue f_ticksUsed f_printedCount a_tokenKind a_tokenValue a_planKind a_planValue a_planPlace a_argumentCount a_openLoop a_codeKind a_codeValue a_codePlace a_labelTarget a_functionStart a_functionParameters a_register a_frame a_returnTo a_stack a_element a_outputValue (d + 1) (nI i) := by
    intro d
    induction d with
    | zero =>
      intro i hi h
      have : i = n := by omega
      subst this ht
      refine br_c (fun _ => H2 h) (fun _ => br_t (nI_le (Nat.le_refl _) (by omega)) (H2 h))
    | succ d ih =>
      intro i hi h
      have e : (nI i).toNatClampNeg = i := nI_clamp (by omega)
      have vi : vp_in (nI i) 120 := vp_in_nI (by omega) (by decide)
      have nx : ¬ (a_tokenKind i = 2 ∧ ¬ a_argumentCount i = a_functionParameters (a_tokenValue i).toNatClampNeg) → wX_firstMiscountedCall_2 post f_tokenCount f_planCount f_next f_wrongToken f_looseJump f_latestPlace f_openLoopCount f_codeCount f_labelCount f_functionCount f_registerCount f_activeCalls f_stackCount f_nextCode f_running f_ending f_endingPlace f_resultValue f_ticksUsed f_printedCount a_tokenKind a_tokenValue a_planKind a_planValue a_planPlace a_argumentCount a_openLoop a_codeKind a_codeValue a_codePlace a_labelTarget a_functionStart a_functionParameters a_register a_frame a_returnTo a_stack a_element a_outputValue (d + 1) (nI (i + 1)) := fun z => ih (i + 1) (by omega) (fun j hj => by
        by_cases y : j = i
        · rw [y]; exact z
        · exact h j (by omega))
      refine br_f (nI_ge (b := 120) (by omega) (by decide)) (br_f (by rw [ht]; exact nI_ge (by omega) (by omega)) ?_)
      rw [e]
      refine ⟨vi, br_c (fun a => ⟨vi, vi, ?_⟩) (fun a => nm_r (nI_1 _) (nx (fun z => a z.1)))⟩
      obtain ⟨u, hu, eu⟩ := hv i (by omega) a
      rw [eu]
      have e2 : (nI u).toNatClampNeg = u := nI_clamp (by omega)
      unfold wpX_parametersOf
      refine br_f (nI_pos (by omega)) (br_f (nI_ge (b := 4) (by omega) (by decide)) ⟨vp_in_nI (by omega) (by decide), ?_⟩)
      refine br_c (fun b => nm_r (nI_1 _) (nx (fun z => z.2 ?_))) (fun b => H1 i (by omega) ⟨a, ?_⟩ h)
      · rw [eu]; exact b
      · rw [eu]; exact b
  unfold wpX_firstMiscountedCall
  exact ⟨n + 1, key n 0 (by omega) (fun j hj => by omega)⟩
theorem xj_err {post : Int32 → SX → Prop} {f_tokenCount f_planCount f_next f_wrongToken f_looseJump f_latestPlace f_openLoopCount f_codeCount f_labelCount f_functionCount f_registerCount f_activeCalls f_stackCount f_nextCode f_running f_ending f_endingPlace f_resultValue f_ticksUsed f_printedCount : Int32} {a_tokenKind a_tokenValue a_planKind a_planValue a_planPlace a_argumentCount a_openLoop a_codeKind a_codeValue a_codePlace a_labelTarget a_functionStart a_functionParameters a_register a_frame a_returnTo a_stack a_element a_outputValue : Nat → Int32} {e : Nat} (h : f_wrongToken = nI e) (he : e < 2 ^ 31) (H : post 1 (f_tokenCount, f_planCount, f_next, f_wrongToken, f_looseJump, nI e, f_openLoopCount, f_codeCount, f_labelCount, 0, f_registerCount, f_activeCalls, f_stackCount, f_nextCode, f_running, f_ending, f_endingPlace, f_resultValue, f_ticksUsed, f_printedCount, a_tokenKind, a_tokenValue, a_planKind, a_planValue, a_planPlace, a_argumentCount, a_openLoop, a_codeKind, a_codeValue, a_codePlace, a_labelTarget, a_functionStart, a_functionParameters, a_register, a_frame, a_returnTo, a_stack, a_element, a_outputValue)) : wX_compile_73 post f_tokenCount f_planCount f_next f_wrongToken f_looseJump f_latestPlace f_openLoopCount f_codeCount f_labelCount f_functionCount f_registerCount f_activeCalls f_stackCount f_nextCode f_running f_ending f_endingPlace f_resultValue f_ticksUsed f_printedCount a_tokenKind a_tokenValue a_planKind a_planValue a_planPlace a_argumentCount a_openLoop a_codeKind a_codeValue a_codePlace a_labelTarget a_functionStart a_functionParameters a_register a_frame a_returnTo a_stack a_element a_outputValue := by
  unfold wX_compile_73 wpX_judge
  subst h
  exact br_f (nI_pos he) (br_f (by decide) H)
theorem xj_loop {post : Int32 → SX → Prop} {f_tokenCount f_planCount f_next f_wrongToken f_looseJump f_latestPlace f_openLoopCount f_codeCount f_labelCount f_functionCount f_registerCount f_activeCalls f_stackCount f_nextCode f_running f_ending f_endingPlace f_resultValue f_ticksUsed f_printedCount : Int32} {a_tokenKind a_tokenValue a_planKind a_planValue a_planPlace a_argumentCount a_openLoop a_codeKind a_codeValue a_codePlace a_labelTarget a_functionStart a_functionParameters a_register a_frame a_returnTo a_stack a_element a_outputValue : Nat → Int32} (h : f_wrongToken = -1) (hl : ¬ f_looseJump < 0) (H : post 2 (f_tokenCount, f_planCount, f_next, f_wrongToken, f_looseJump, f_looseJump, f_openLoopCount, f_codeCount, f_labelCount, 0, f_registerCount, f_activeCalls, f_stackCount, f_nextCode, f_running, f_ending, f_endingPlace, f_resultValue, f_ticksUsed, f_printedCount, a_tokenKind, a_tokenValue, a_planKind, a_planValue, a_planPlace, a_argumentCount, a_openLoop, a_codeKind, a_codeValue, a_codePlace, a_labelTarget, a_functionStart, a_functionParameters, a_register, a_frame, a_returnTo, a_stack, a_element, a_outputValue)) : wX_compile_73 post f_tokenCount f_planCount f_next f_wrongToken f_looseJump f_latestPlace f_openLoopCount f_codeCount f_labelCount f_functionCount f_registerCount f_activeCalls f_stackCount f_nextCode f_running f_ending f_endingPlace f_resultValue f_ticksUsed f_printedCount a_tokenKind a_tokenValue a_planKind a_planValue a_planPlace a_argumentCount a_openLoop a_codeKind a_codeValue a_codePlace a_labelTarget a_functionStart a_functionParameters a_register a_frame a_returnTo a_stack a_element a_outputValue := by
  unfold wX_compile_73 wpX_judge
  subst h
  exact br_t (by decide) (br_f hl (br_f (by decide) H))
theorem xj_rest {post : Int32 → SX → Prop} {f_tokenCount f_planCount f_next f_wrongToken f_looseJump f_latestPlace f_openLoopCount f_codeCount f_labelCount f_functionCount f_registerCount f_activeCalls f_stackCount f_nextCode f_running f_ending f_endingPlace f_resultValue f_ticksUsed f_printedCount : Int32} {a_tokenKind a_tokenValue a_planKind a_planValue a_planPlace a_argumentCount a_openLoop a_codeKind a_codeValue a_codePlace a_labelTarget a_functionStart a_functionParameters a_register a_frame a_returnTo a_stack a_element a_outputValue : Nat → Int32} {n : Nat} (ht : f_tokenCount = nI n) (hn : n ≤ 120) (hv : ∀ j, j < n → a_tokenKind j = 2 → ∃ u, u ≤ 3 ∧ a_tokenValue j = nI u) (h : f_wrongToken = -1) (hl : f_looseJump < 0)
    (H3 : ∀ i, i < n → (a_tokenKind i = 2 ∧ ¬ a_tokenValue i < f_functionCount) → (∀ j, j < i → ¬ (a_tokenKind j = 2 ∧ ¬ a_tokenValue j < f_functionCount)) → post 3 (f_tokenCount, f_planCount, f_next, f_wrongToken, f_looseJump, nI i, f_openLoopCount, f_codeCount, f_labelCount, 0, f_registerCount, f_activeCalls, f_stackCount, f_nextCode, f_running, f_ending, f_endingPlace, f_resultValue, f_ticksUsed, f_printedCount, a_tokenKind, a_tokenValue, a_planKind, a_planValue, a_planPlace, a_argumentCount, a_openLoop, a_codeKind, a_codeValue, a_codePlace, a_labelTarget, a_functionStart, a_functionParameters, a_register, a_frame, a_returnTo, a_stack, a_element, a_outputValue))
    (H4 : (∀ j, j < n → ¬ (a_tokenKind j = 2 ∧ ¬ a_tokenValue j < f_functionCount)) → ∀ i, i < n → (a_tokenKind i = 2 ∧ ¬ a_argumentCount i = a_functionParameters (a_tokenValue i).toNatClampNeg) → (∀ j, j < i → ¬ (a_tokenKind j = 2 ∧ ¬ a_argumentCount j = a_functionParameters (a_tokenValue j).toNatClampNeg)) → post 4 (f_tokenCount, f_planCount, f_next, f_wrongToken, f_looseJump, nI i, f_openLoopCount, f_codeCount, f_labelCount, 0, f_registerCount, f_activeCalls, f_stackCount, f_nextCode, f_running, f_ending, f_endingPlace, f_resultValue, f_ticksUsed, f_printedCount, a_tokenKind, a_tokenValue, a_planKind, a_planValue, a_planPlace, a_argumentCount, a_openLoop, a_codeKind, a_codeValue, a_codePlace, a_labelTarget, a_functionStart, a_functionParameters, a_register, a_frame, a_returnTo, a_stack, a_element, a_outputValue))
    (H0 : (∀ j, j < n → ¬ (a_tokenKind j = 2 ∧ ¬ a_tokenValue j < f_functionCount)) → (∀ j, j < n → ¬ (a_tokenKind j = 2 ∧ ¬ a_argumentCount j = a_functionParameters (a_tokenValue j).toNatClampNeg)) → post 0 (f_tokenCount, f_planCount, f_next, f_wrongToken, f_looseJump, -1, f_openLoopCount, f_codeCount, f_labelCount, f_functionCount, f_registerCount, f_activeCalls, f_stackCount, f_nextCode, f_running, f_ending, f_endingPlace, f_resultValue, f_ticksUsed, f_printedCount, a_tokenKind, a_tokenValue, a_planKind, a_planValue, a_planPlace, a_argumentCount, a_openLoop, a_codeKind, a_codeValue, a_codePlace, a_labelTarget, a_functionStart, a_functionParameters, a_register, a_frame, a_returnTo, a_stack, a_element, a_outputValue)) : wX_compile_73 post f_tokenCount f_planCount f_next f_wrongToken f_looseJump f_latestPlace f_openLoopCount f_codeCount f_labelCount f_functionCount f_registerCount f_activeCalls f_stackCount f_nextCode f_running f_ending f_endingPlace f_resultValue f_ticksUsed f_printedCount a_tokenKind a_tokenValue a_planKind a_planValue a_planPlace a_argumentCount a_openLoop a_codeKind a_codeValue a_codePlace a_labelTarget a_functionStart a_functionParameters a_register a_frame a_returnTo a_stack a_element a_outputValue := by
  unfold wX_compile_73 wpX_judge
  subst h
  refine br_t (by decide) (br_t hl ?_)
  refine xm_unk ht hn (fun i hi a b => ?_) (fun z => ?_)
  · exact br_f (nI_pos (by omega)) (br_f (by decide) (H3 i hi a b))
  · refine br_t (by decide) ?_
    refine xm_mis ht hn hv (fun i hi a b => ?_) (fun y => ?_)
    · exact br_f (nI_pos (by omega)) (br_f (by decide) (H4 z i hi a b))
    · exact br_t (by decide) (br_t rfl (H0 z y))
