/-! X, run: variables, calls, returns -/
def zp_R (r b : Nat) (reg fr vr : Nat → Int32) : Prop :=
  (∀ v, v < 6 → (v < r → reg v = vr (6 * b + v)) ∧ (r ≤ v → fr (6 * b + v) = vr (6 * b + v))) ∧ (∀ w, w < 6 * b → fr w = vr w)
theorem zp_slot (b u : Nat) : (nI (b + 1) - 1) * 6 + nI u = nI (6 * b + u) := by
  rw [nI_pred, show (6 : Int32) = nI 6 from rfl, pk_mul, nI_add]
  exact congrArg nI (by omega)
theorem zz_load {post : SX → Prop} {f_tokenCount f_planCount f_next f_wrongToken f_looseJump f_latestPlace f_openLoopCount f_codeCount f_labelCount f_functionCount f_registerCount f_activeCalls f_stackCount f_nextCode f_running f_ending f_endingPlace f_resultValue f_ticksUsed f_printedCount : Int32} {a_tokenKind a_tokenValue a_planKind a_planValue a_planPlace a_argumentCount a_openLoop a_codeKind a_codeValue a_codePlace a_labelTarget a_functionStart a_functionParameters a_register a_frame a_returnTo a_stack a_element a_outputValue : Nat → Int32} {pc : Nat} (hpc : f_nextCode = nI pc) (hp : pc < 360) {r : Nat} (hr : f_registerCount = nI r) (hr1 : 1 ≤ r) (hr6 : r ≤ 6) {vs : List Int32} {u b : Nat} {vr : Nat → Int32} (hk : a_codeKind pc = nI 52) (hu : a_codeValue pc = nI u) (hu' : u ≤ 5) (ha : f_activeCalls = nI (b + 1)) (hb : b ≤ 7) (hR : zp_R r b a_register a_frame vr)
    (hc : f_stackCount = nI vs.length) (hl : vs.length < 960) (hv : zp_V a_stack vs)
    (H : ∀ st, zp_V st (vr (6 * b + u) :: vs) → post (f_tokenCount, f_planCount, f_next, f_wrongToken, f_looseJump, f_latestPlace, f_openLoopCount, f_codeCount, f_labelCount, f_functionCount, f_registerCount, f_activeCalls, nI (vr (6 * b + u) :: vs).length, nI (pc + 1), f_running, f_ending, f_endingPlace, f_resultValue, f_ticksUsed, f_printedCount, a_tokenKind, a_tokenValue, a_planKind, a_planValue, a_planPlace, a_argumentCount, a_openLoop, a_codeKind, a_codeValue, a_codePlace, a_labelTarget, a_functionStart, a_functionParameters, a_register, a_frame, a_returnTo, st, a_element, a_outputValue)) : wpX_executeNext post (f_tokenCount, f_planCount, f_next, f_wrongToken, f_looseJump, f_latestPlace, f_openLoopCount, f_codeCount, f_labelCount, f_functionCount, f_registerCount, f_activeCalls, f_stackCount, f_nextCode, f_running, f_ending, f_endingPlace, f_resultValue, f_ticksUsed, f_printedCount, a_tokenKind, a_tokenValue, a_planKind, a_planValue, a_planPlace, a_argumentCount, a_openLoop, a_codeKind, a_codeValue, a_codePlace, a_labelTarget, a_functionStart, a_functionParameters, a_register, a_frame, a_returnTo, a_stack, a_element, a_outputValue) := by
  refine ze_move hpc hp hk (by omega) (br_f (by decide) (br_f (by decide) (br_f (by decide) (br_f (by decide) (br_f (by decide) (br_f (by decide) (br_f (by decide) (br_f (by decide) (br_f (by decide) (br_f (by decide) (br_f (by decide) (br_f (by decide) (br_f (by decide) (br_f (by decide) (br_f (by decide) (br_t (by decide) (?_)))))))))))))))))
  unfold wpX_pushVariable
  rw [hu]
  have hu2 : (nI u).toNatClampNeg = u := nI_clamp (by omega)
  refine br_f (nI_pos (by omega)) (br_f (nI_ge (b := 6) (by omega) (by decide)) ?_)
  rw [hr]
  refine pk_le r u (fun h => ?_) (fun h => ?_)
  · rw [← hr]
    unfold wX_pushVariable_29
    rw [ha, zp_slot]
    refine nm_e (br_f (nI_pos (by omega)) (br_f (nI_ge (b := 48) (by omega) (by decide)) ⟨vp_in_nI (by omega) (by decide), ?_⟩))
    rw [nI_clamp (by omega), (hR.1 u (by omega)).2 h, ← ha]
    exact zm_push hc hl hv H
  · refine ⟨vp_in_nI (by omega) (by decide), ?_⟩
    rw [hu2, (hR.1 u (by omega)).1 h, ← hr]
    exact zm_push hc hl hv H
theorem zm_set {post : SX → Prop} {f_tokenCount f_planCount f_next f_wrongToken f_looseJump f_latestPlace f_openLoopCount f_codeCount f_labelCount f_functionCount f_registerCount f_activeCalls f_stackCount f_nextCode f_running f_ending f_endingPlace f_resultValue f_ticksUsed f_printedCount : Int32} {a_tokenKind a_tokenValue a_planKind a_planValue a_planPlace a_argumentCount a_openLoop a_codeKind a_codeValue a_codePlace a_labelTarget a_functionStart a_functionParameters a_register a_frame a_returnTo a_stack a_element a_outputValue : Nat → Int32} {r : Nat} (hr : f_registerCount = nI r) (hr1 : 1 ≤ r) (hr6 : r ≤ 6) {u b : Nat} {x v : Int32} {vr : Nat → Int32} (hu : x = nI u) (hu' : u ≤ 5) (ha : f_activeCalls = nI (b + 1)) (hb : b ≤ 7) (hR : zp_R r b a_register a_frame vr)
    (H : ∀ reg fr, zp_R r b reg fr (upd vr (6 * b + u) v) → post (f_tokenCount, f_planCount, f_next, f_wrongToken, f_looseJump, f_latestPlace, f_openLoopCount, f_codeCount, f_labelCount, f_functionCount, f_registerCount, f_activeCalls, f_stackCount, f_nextCode, f_running, f_ending, f_endingPlace, f_resultValue, f_ticksUsed, f_printedCount, a_tokenKind, a_tokenValue, a_planKind, a_planValue, a_planPlace, a_argumentCount, a_openLoop, a_codeKind, a_codeValue, a_codePlace, a_labelTarget, a_functionStart, a_functionParameters, reg, fr, a_returnTo, a_stack, a_element, a_outputValue)) : wpX_setVariable post (f_tokenCount, f_planCount, f_next, f_wrongToken, f_looseJump, f_latestPlace, f_openLoopCount, f_codeCount, f_labelCount, f_functionCount, f_registerCount, f_activeCalls, f_stackCount, f_nextCode, f_running, f_ending, f_endingPlace, f_resultValue, f_ticksUsed, f_printedCount, a_tokenKind, a_tokenValue, a_planKind, a_planValue, a_planPlace, a_argumentCount, a_openLoop, a_codeKind, a_codeValue, a_codePlace, a_labelTarget, a_functionStart, a_functionParameters, a_register, a_frame, a_returnTo, a_stack, a_element, a_outputValue) x v := by
  subst hu
  have hu2 : (nI u).toNatClampNeg = u := nI_clamp (by omega)
  refine br_f (nI_pos (by omega)) (br_f (nI_ge (b := 6) (by omega) (by decide)) ?_)
  rw [hr]
  refine pk_le r u (fun h => ?_) (fun h => ?_)
  · unfold wX_setVariable_26
    rw [ha, zp_slot]
    refine nm_e (br_f (nI_pos (by omega)) (br_f (nI_ge (b := 48) (by omega) (by decide)) ⟨vp_in_nI (by omega) (by decide), nm_r (e' := upd a_frame (6 * b + u) v) (by rw [nI_clamp (by omega)]) ?_⟩))
    rw [← ha, ← hr]
    refine H _ _ ⟨fun w hw => ⟨fun h1 => ?_, fun h1 => ?_⟩, fun w hw => ?_⟩
    · rw [pk_un (by omega)]; exact (hR.1 w hw).1 h1
    · by_cases e : w = u
      · subst e; rw [pk_us, pk_us]
      · rw [pk_un (by omega), pk_un (by omega)]; exact (hR.1 w hw).2 h1
    · rw [pk_un (by omega), pk_un (by omega)]; exact hR.2 w hw
  · refine ⟨vp_in_nI (by omega) (by decide), nm_r (e' := upd a_register u v) (by rw [hu2]) ?_⟩
    rw [← hr]
    refine H _ _ ⟨fun w hw => ⟨fun h1 => ?_, fun h1 => ?_⟩, fun w hw => ?_⟩
    · by_cases e : w = u
      · subst e; rw [pk_us, pk_us]
      · rw [pk_un e, pk_un (by omega)]; exact (hR.1 w hw).1 h1
    · rw [pk_un (by omega)]; exact (hR.1 w hw).2 h1
    · rw [pk_un (by omega)]; exact hR.2 w hw
theorem zz_set {post : SX → Prop} {f_tokenCount f_planCount f_next f_wrongToken f_looseJump f_latestPlace f_openLoopCount f_codeCount f_labelCount f_functionCount f_registerCount f_activeCalls f_stackCount f_nextCode f_running f_ending f_endingPlace f_resultValue f_ticksUsed f_printedCount : Int32} {a_tokenKind a_tokenValue a_planKind a_planValue a_planPlace a_argumentCount a_openLoop a_codeKind a_codeValue a_codePlace a_labelTarget a_functionStart a_functionParameters a_register a_frame a_returnTo a_stack a_element a_outputValue : Nat → Int32} {pc : Nat} (hpc : f_nextCode = nI pc) (hp : pc < 360) {r : Nat} (hr : f_registerCount = nI r) (hr1 : 1 ≤ r) (hr6 : r ≤ 6) {vs : List Int32} {v : Int32} {u b : Nat} {vr : Nat → Int32} (hk : a_codeKind pc = nI 53) (hu : a_codeValue pc = nI u) (hu' : u ≤ 5) (ha : f_activeCalls = nI (b + 1)) (hb : b ≤ 7) (hR : zp_R r b a_register a_frame vr)
    (hc : f_stackCount = nI (v :: vs).length) (hl : vs.length < 960) (hv : zp_V a_stack (v :: vs))
    (H : ∀ reg fr, zp_R r b reg fr (upd vr (6 * b + u) v) → post (f_tokenCount, f_planCount, f_next, f_wrongToken, f_looseJump, f_latestPlace, f_openLoopCount, f_codeCount, f_labelCount, f_functionCount, f_registerCount, f_activeCalls, nI vs.length, nI (pc + 1), f_running, f_ending, f_endingPlace, f_resultValue, f_ticksUsed, f_printedCount, a_tokenKind, a_tokenValue, a_planKind, a_planValue, a_planPlace, a_argumentCount, a_openLoop, a_codeKind, a_codeValue, a_codePlace, a_labelTarget, a_functionStart, a_functionParameters, reg, fr, a_returnTo, a_stack, a_element, a_outputValue)) : wpX_executeNext post (f_tokenCount, f_planCount, f_next, f_wrongToken, f_looseJump, f_latestPlace, f_openLoopCount, f_codeCount, f_labelCount, f_functionCount, f_registerCount, f_activeCalls, f_stackCount, f_nextCode, f_running, f_ending, f_endingPlace, f_resultValue, f_ticksUsed, f_printedCount, a_tokenKind, a_tokenValue, a_planKind, a_planValue, a_planPlace, a_argumentCount, a_openLoop, a_codeKind, a_codeValue, a_codePlace, a_labelTarget, a_functionStart, a_functionParameters, a_register, a_frame, a_returnTo, a_stack, a_element, a_outputValue) := by
  refine ze_move hpc hp hk (by omega) (br_f (by decide) (br_f (by decide) (br_f (by decide) (br_f (by decide) (br_f (by decide) (br_f (by decide) (br_f (by decide) (br_f (by decide) (br_f (by decide) (br_f (by decide) (br_f (by decide) (br_f (by decide) (br_f (by decide) (br_f (by decide) (br_f (by decide) (br_f (by decide) (br_t (by decide) (?_))))))))))))))))))
  unfold wpX_popVariable
  refine zm_pop hc hl hv ?_
  exact zm_set hr hr1 hr6 hu hu' ha hb hR H
theorem zm_save {post : SX → Prop} {f_tokenCount f_planCount f_next f_wrongToken f_looseJump f_latestPlace f_openLoopCount f_codeCount f_labelCount f_functionCount f_registerCount f_activeCalls f_stackCount f_nextCode f_running f_ending f_endingPlace f_resultValue f_ticksUsed f_printedCount : Int32} {a_tokenKind a_tokenValue a_planKind a_planValue a_planPlace a_argumentCount a_openLoop a_codeKind a_codeValue a_codePlace a_labelTarget a_functionStart a_functionParameters a_register a_frame a_returnTo a_stack a_element a_outputValue : Nat → Int32} {r : Nat} (hr : f_registerCount = nI r) (hr1 : 1 ≤ r) (hr6 : r ≤ 6) {b : Nat} {vr : Nat → Int32} (ha : f_activeCalls = nI (b + 1)) (hb : b ≤ 7) (hR : zp_R r b a_register a_frame vr)
    (H : ∀ fr, (∀ w, w < 6 * (b + 1) → fr w = vr w) → post (f_tokenCount, f_planCount, f_next, f_wrongToken, f_looseJump, f_latestPlace, f_openLoopCount, f_codeCount, f_labelCount, f_functionCount, f_registerCount, f_activeCalls, f_stackCount, f_nextCode, f_running, f_ending, f_endingPlace, f_resultValue, f_ticksUsed, f_printedCount, a_tokenKind, a_tokenValue, a_planKind, a_planValue, a_planPlace, a_argumentCount, a_openLoop, a_codeKind, a_codeValue, a_codePlace, a_labelTarget, a_functionStart, a_functionParameters, a_register, fr, a_returnTo, a_stack, a_element, a_outputValue)) : wpX_saveRegisters post (f_tokenCount, f_planCount, f_next, f_wrongToken, f_looseJump, f_latestPlace, f_openLoopCount, f_codeCount, f_labelCount, f_functionCount, f_registerCount, f_activeCalls, f_stackCount, f_nextCode, f_running, f_ending, f_endingPlace, f_resultValue, f_ticksUsed, f_printedCount, a_tokenKind, a_tokenValue, a_planKind, a_planValue, a_planPlace, a_argumentCount, a_openLoop, a_codeKind, a_codeValue, a_codePlace, a_labelTarget, a_functionStart, a_functionParameters, a_register, a_frame, a_returnTo, a_stack, a_element, a_outputValue) := by
  have key : ∀ d v fr, v + d = 6 → (∀ w, w < 6 * b → fr w = vr w) → (∀ w, w < 6 → (w < v ∨ r ≤ w) → fr (6 * b + w) = vr (6 * b + w)) → wX_saveRegisters_2 post f_tokenCount f_planCount f_next f_wrongToken f_looseJump f_latestPlace f_openLoopCount f_codeCount f_labelCount f_functionCount f_registerCount f_activeCalls f_stackCount f_nextCode f_running f_ending f_endingPlace f_resultValue f_ticksUsed f_printedCount (d + 1) (nI v) a_tokenKind a_tokenValue a_planKind a_planValue a_planPlace a_argumentCount a_openLoop a_codeKind a_codeValue a_codePlace a_labelTarget a_functionStart a_functionParameters a_register fr a_returnTo a_stack a_element a_outputValue := by
    intro d
    induction d with
    | zero =>
      intro v fr hv h1 h2
      have : v = 6 := by omega
      subst this
      refine br_t (by decide) (H fr fun w hw => ?_)
      by_cases z : w < 6 * b
      · exact h1 w z
      · have := h2 (w - 6 * b) (by omega) (Or.inl (by omega))
        rw [show 6 * b + (w - 6 * b) = w by omega] at this
        exact this
    | succ d ih =>
      intro v fr hv h1 h2
      refine br_f (nI_ge (b := 6) (by omega) (by decide)) ?_
      rw [hr]
      refine pk_le r v (fun h => ?_) (fun h => ?_)
      · rw [← hr]
        refine H fr fun w hw => ?_
        by_cases z : w < 6 * b
        · exact h1 w z
        · have := h2 (w - 6 * b) (by omega) (by omega)
          rw [show 6 * b + (w - 6 * b) = w by omega] at this
          exact this
      · rw [← hr, ha, zp_slot]
        refine nm_e (br_f (nI_pos (by omega)) (br_f (nI_ge (b := 48) (by omega) (by decide)) ⟨vp_in_nI (by omega) (by decide), vp_in_nI (by omega) (by decide), nm_r (e' := upd fr (6 * b + v) (a_register v)) (by rw [nI_clamp (by omega), nI_clamp (by omega)]) (nm_r (nI_1 _) ?_)⟩))
        rw [← ha]
        refine ih (v + 1) _ (by omega) (fun w hw => ?_) (fun w hw hw2 => ?_)
        · rw [pk_un (by omega)]; exact h1 w hw
        · by_cases e : w = v
          · subst e; rw [pk_us]; exact (hR.1 w hw).1 h
          · rw [pk_un (by omega)]; exact h2 w hw (by omega)
  unfold wpX_saveRegisters
  refine ⟨7, ?_⟩
  exact key 6 0 a_frame rfl hR.2 (fun w hw hw2 => (hR.1 w hw).2 (by omega))
theorem zm_save0 {post : SX → Prop} {f_tokenCount f_planCount f_next f_wrongToken f_looseJump f_latestPlace f_openLoopCount f_codeCount f_labelCount f_functionCount f_registerCount f_activeCalls f_stackCount f_nextCode f_running f_ending f_endingPlace f_resultValue f_ticksUsed f_printedCount : Int32} {a_tokenKind a_tokenValue a_planKind a_planValue a_planPlace a_argumentCount a_openLoop a_codeKind a_codeValue a_codePlace a_labelTarget a_functionStart a_functionParameters a_register a_frame a_returnTo a_stack a_element a_outputValue : Nat → Int32} {r : Nat} (hr : f_registerCount = nI r) (hr1 : 1 ≤ r) (hr6 : r ≤ 6) (ha : f_activeCalls = 0) (H : post (f_tokenCount, f_planCount, f_next, f_wrongToken, f_looseJump, f_latestPlace, f_openLoopCount, f_codeCount, f_labelCount, f_functionCount, f_registerCount, f_activeCalls, f_stackCount, f_nextCode, f_running, f_ending, f_endingPlace, f_resultValue, f_ticksUsed, f_printedCount, a_tokenKind, a_tokenValue, a_planKind, a_planValue, a_planPlace, a_argumentCount, a_openLoop, a_codeKind, a_codeValue, a_codePlace, a_labelTarget, a_functionStart, a_functionParameters, a_register, a_frame, a_returnTo, a_stack, a_element, a_outputValue)) : wpX_saveRegisters post (f_tokenCount, f_planCount, f_next, f_wrongToken, f_looseJump, f_latestPlace, f_openLoopCount, f_codeCount, f_labelCount, f_functionCount, f_registerCount, f_activeCalls, f_stackCount, f_nextCode, f_running, f_ending, f_endingPlace, f_resultValue, f_ticksUsed, f_printedCount, a_tokenKind, a_tokenValue, a_planKind, a_planValue, a_planPlace, a_argumentCount, a_openLoop, a_codeKind, a_codeValue, a_codePlace, a_labelTarget, a_functionStart, a_functionParameters, a_register, a_frame, a_returnTo, a_stack, a_element, a_outputValue) := by
  have key : ∀ d v, v + d = 6 → wX_saveRegisters_2 post f_tokenCount f_planCount f_next f_wrongToken f_looseJump f_latestPlace f_openLoopCount f_codeCount f_labelCount f_functionCount f_registerCount f_activeCalls f_stackCount f_nextCode f_running f_ending f_endingPlace f_resultValue f_ticksUsed f_printedCount (d + 1) (nI v) a_tokenKind a_tokenValue a_planKind a_planValue a_planPlace a_argumentCount a_openLoop a_codeKind a_codeValue a_codePlace a_labelTarget a_functionStart a_functionParameters a_register a_frame a_returnTo a_stack a_element a_outputValue := by
    intro d
    induction d with
    | zero =>
      intro v hv
      have : v = 6 := by omega
      subst this
      exact br_t (by decide) H
    | succ d ih =>
      intro v hv
      refine br_f (nI_ge (b := 6) (by omega) (by decide)) (br_c (fun _ => H) (fun _ => nm_e (br_t ?_ (nm_r (nI_1 _) (ih (v + 1) (by omega))))))
      have hv5 : v < 6 := by omega
      have : ∀ v : Fin 6, ((0 : Int32) - 1) * 6 + nI v.val < 0 := by decide
      rw [ha]
      exact this ⟨v, hv5⟩
  unfold wpX_saveRegisters
  exact ⟨7, key 6 0 rfl⟩
theorem zm_restore {post : SX → Prop} {f_tokenCount f_planCount f_next f_wrongToken f_looseJump f_latestPlace f_openLoopCount f_codeCount f_labelCount f_functionCount f_registerCount f_activeCalls f_stackCount f_nextCode f_running f_ending f_endingPlace f_resultValue f_ticksUsed f_printedCount : Int32} {a_tokenKind a_tokenValue a_planKind a_planValue a_planPlace a_argumentCount a_openLoop a_codeKind a_codeValue a_codePlace a_labelTarget a_functionStart a_functionParameters a_register a_frame a_returnTo a_stack a_element a_outputValue : Nat → Int32} {r : Nat} (hr : f_registerCount = nI r) (hr1 : 1 ≤ r) (hr6 : r ≤ 6) {b : Nat} {vr : Nat → Int32} (ha : f_activeCalls = nI (b + 1)) (hb : b ≤ 7) (hR : ∀ w, w < 6 * (b + 1) → a_frame w = vr w)
    (H : ∀ reg, zp_R r b reg a_frame vr → post (f_tokenCount, f_planCount, f_next, f_wrongToken, f_looseJump, f_latestPlace, f_openLoopCount, f_codeCount, f_labelCount, f_functionCount, f_registerCount, f_activeCalls, f_stackCount, f_nextCode, f_running, f_ending, f_endingPlace, f_resultValue, f_ticksUsed, f_printedCount, a_tokenKind, a_tokenValue, a_planKind, a_planValue, a_planPlace, a_argumentCount, a_openLoop, a_codeKind, a_codeValue, a_codePlace, a_labelTarget, a_functionStart, a_functionParameters, reg, a_frame, a_returnTo, a_stack, a_element, a_outputValue)) : wpX_restoreRegisters post (f_tokenCount, f_planCount, f_next, f_wrongToken, f_looseJump, f_latestPlace, f_openLoopCount, f_codeCount, f_labelCount, f_functionCount, f_registerCount, f_activeCalls, f_stackCount, f_nextCode, f_running, f_ending, f_endingPlace, f_resultValue, f_ticksUsed, f_printedCount, a_tokenKind, a_tokenValue, a_planKind, a_planValue, a_planPlace, a_argumentCount, a_openLoop, a_codeKind, a_codeValue, a_codePlace, a_labelTarget, a_functionStart, a_functionParameters, a_register, a_frame, a_returnTo, a_stack, a_element, a_outputValue) := by
  have fin : ∀ reg : Nat → Int32, (∀ w, w < r → reg w = vr (6 * b + w)) → zp_R r b reg a_frame vr := fun reg h => ⟨fun w hw => ⟨fun h1 => h w h1, fun h1 => hR _ (by omega)⟩, fun w hw => hR _ (by omega)⟩
  have key : ∀ d v reg, v + d = 6 → (∀ w, w < v → reg w = vr (6 * b + w)) → wX_restoreRegisters_2 post f_tokenCount f_planCount f_next f_wrongToken f_looseJump f_latestPlace f_openLoopCount f_codeCount f_labelCount f_functionCount f_registerCount f_activeCalls f_stackCount f_nextCode f_running f_ending f_endingPlace f_resultValue f_ticksUsed f_printedCount (d + 1) (nI v) a_tokenKind a_tokenValue a_planKind a_planValue a_planPlace a_argumentCount a_openLoop a_codeKind a_codeValue a_codePlace a_labelTarget a_functionStart a_functionParameters reg a_frame a_returnTo a_stack a_element a_outputValue := by
    intro d
    induction d with
    | zero =>
      intro v reg hv h1
      have : v = 6 := by omega
      subst this
      exact br_t (by decide) (H reg (fin reg fun w hw => h1 w (by omega)))
    | succ d ih =>
      intro v reg hv h1
      refine br_f (nI_ge (b := 6) (by omega) (by decide)) ?_
      rw [hr]
      refine pk_le r v (fun h => ?_) (fun h => ?_)
      · rw [← hr]
        exact H reg (fin reg fun w hw => h1 w (by omega))
      · rw [← hr, ha, zp_slot]
        refine nm_e (br_f (nI_pos (by omega)) (br_f (nI_ge (b := 48) (by omega) (by decide)) ⟨vp_in_nI (by omega) (by decide), vp_in_nI (by omega) (by decide), nm_r (e' := upd reg v (vr (6 * b + v))) (by rw [nI_clamp (by omega), nI_clamp (by omega), hR _ (by omega)]) (nm_r (nI_1 _) ?_)⟩))
        rw [← ha]
        refine ih (v + 1) _ (by omega) (fun w hw => ?_)
        by_cases e : w = v
        · subst e; rw [pk_us]
        · rw [pk_un e]; exact h1 w (by omega)
  unfold wpX_restoreRegisters
  exact ⟨7, key 6 0 a_register rfl (fun w hw => by omega)⟩
theorem zz_ret0 {post : SX → Prop} {f_tokenCount f_planCount f_next f_wrongToken f_looseJump f_latestPlace f_openLoopCount f_codeCount f_labelCount f_functionCount f_registerCount f_activeCalls f_stackCount f_nextCode f_running f_ending f_endingPlace f_resultValue f_ticksUsed f_printedCount : Int32} {a_tokenKind a_tokenValue a_planKind a_planValue a_planPlace a_argumentCount a_openLoop a_codeKind a_codeValue a_codePlace a_labelTarget a_functionStart a_functionParameters a_register a_frame a_returnTo a_stack a_element a_outputValue : Nat → Int32} {pc : Nat} (hpc : f_nextCode = nI pc) (hp : pc < 360) {vs : List Int32} {v : Int32} (hk : a_codeKind pc = nI 39) (ha : f_activeCalls = nI 1) (hc : f_stackCount = nI (v :: vs).length) (hl : vs.length < 960) (hv : zp_V a_stack (v :: vs))
    (H : post (f_tokenCount, f_planCount, f_next, f_wrongToken, f_looseJump, f_latestPlace, f_openLoopCount, f_codeCount, f_labelCount, f_functionCount, f_registerCount, nI 0, nI vs.length, nI (pc + 1), 0, f_ending, f_endingPlace, v, f_ticksUsed, f_printedCount, a_tokenKind, a_tokenValue, a_planKind, a_planValue, a_planPlace, a_argumentCount, a_openLoop, a_codeKind, a_codeValue, a_codePlace, a_labelTarget, a_functionStart, a_functionParameters, a_register, a_frame, a_returnTo, a_stack, a_element, a_outputValue)) : wpX_executeNext post (f_tokenCount, f_planCount, f_next, f_wrongToken, f_looseJump, f_latestPlace, f_openLoopCount, f_codeCount, f_labelCount, f_functionCount, f_registerCount, f_activeCalls, f_stackCount, f_nextCode, f_running, f_ending, f_endingPlace, f_resultValue, f_ticksUsed, f_printedCount, a_tokenKind, a_tokenValue, a_planKind, a_planValue, a_planPlace, a_argumentCount, a_openLoop, a_codeKind, a_codeValue, a_codePlace, a_labelTarget, a_functionStart, a_functionParameters, a_register, a_frame, a_returnTo, a_stack, a_element, a_outputValue) := by
  refine ze_move hpc hp hk (by omega) (br_f (by decide) (br_f (by decide) (br_t (by decide) (?_))))
  unfold wpX_leave
  refine zm_pop hc hl hv ?_
  subst ha
  exact nm_r (e' := nI 0) (by decide) (br_t (by decide) H)
theorem zz_ret {post : SX → Prop} {f_tokenCount f_planCount f_next f_wrongToken f_looseJump f_latestPlace f_openLoopCount f_codeCount f_labelCount f_functionCount f_registerCount f_activeCalls f_stackCount f_nextCode f_running f_ending f_endingPlace f_resultValue f_ticksUsed f_printedCount : Int32} {a_tokenKind a_tokenValue a_planKind a_planValue a_planPlace a_argumentCount a_openLoop a_codeKind a_codeValue a_codePlace a_labelTarget a_functionStart a_functionParameters a_register a_frame a_returnTo a_stack a_element a_outputValue : Nat → Int32} {pc : Nat} (hpc : f_nextCode = nI pc) (hp : pc < 360) {r : Nat} (hr : f_registerCount = nI r) (hr1 : 1 ≤ r) (hr6 : r ≤ 6) {vs : List Int32} {v : Int32} {b : Nat} {vr : Nat → Int32} (hk : a_codeKind pc = nI 39) (ha : f_activeCalls = nI (b + 2)) (hb : b ≤ 6) (hR : ∀ w, w < 6 * (b + 1) → a_frame w = vr w)
    (hc : f_stackCount = nI (v :: vs).length) (hl : vs.length < 960) (hv : zp_V a_stack (v :: vs))
    (H : ∀ reg st, zp_R r b reg a_frame vr → zp_V st (v :: vs) → post (f_tokenCount, f_planCount, f_next, f_wrongToken, f_looseJump, f_latestPlace, f_openLoopCount, f_codeCount, f_labelCount, f_functionCount, f_registerCount, nI (b + 1), nI (v :: vs).length, a_returnTo (b + 1), f_running, f_ending, f_endingPlace, f_resultValue, f_ticksUsed, f_printedCount, a_tokenKind, a_tokenValue, a_planKind, a_planValue, a_planPlace, a_argumentCount, a_openLoop, a_codeKind, a_codeValue, a_codePlace, a_labelTarget, a_functionStart, a_functionParameters, reg, a_frame, a_returnTo, st, a_element, a_outputValue)) : wpX_executeNext post (f_tokenCount, f_planCount, f_next, f_wrongToken, f_looseJump, f_latestPlace, f_openLoopCount, f_codeCount, f_labelCount, f_functionCount, f_registerCount, f_activeCalls, f_stackCount, f_nextCode, f_running, f_ending, f_endingPlace, f_resultValue, f_ticksUsed, f_printedCount, a_tokenKind, a_tokenValue, a_planKind, a_planValue, a_planPlace, a_argumentCount, a_openLoop, a_codeKind, a_codeValue, a_codePlace, a_labelTarget, a_functionStart, a_functionParameters, a_register, a_frame, a_returnTo, a_stack, a_element, a_outputValue) := by
  refine ze_move hpc hp hk (by omega) (br_f (by decide) (br_f (by decide) (br_t (by decide) (?_))))
  unfold wpX_leave
  refine zm_pop hc hl hv ?_
  subst ha
  refine nm_r (nI_pred _) (br_f (nI_nle (by omega) (by omega)) (br_t (nI_lt (b := 8) (by omega) (by decide)) ?_))
  refine zm_restore hr hr1 hr6 rfl (by omega) hR fun reg hreg => ?_
  refine ⟨vp_in_nI (by omega) (by decide), nm_r (e' := a_returnTo (b + 1)) (by rw [nI_clamp (by omega)]) ?_⟩
  exact zm_push rfl hl hv.2 fun st hs => H reg st hreg hs
/-- the variables of a call: the arguments from the top of the stack, the last first -/
def zp_ent (b c : Nat) : Nat → (Nat → Int32) → List Int32 → Nat → Int32
  | 0, vr, _ => vr
  | v + 1, vr, vs => if v < c then (match vs with | [] => vr | w :: l => zp_ent b c v (upd vr (6 * b + v) w) l) else zp_ent b c v (upd vr (6 * b + v) 0) vs
theorem zm_ent {post : SX → Prop} {b c f r : Nat} (hr1 : 1 ≤ r) (hr6 : r ≤ 6) (hb : b ≤ 7) (hf : f < 4) (hc3 : c ≤ 3) : ∀ (v : Nat) {f_tokenCount f_planCount f_next f_wrongToken f_looseJump f_latestPlace f_openLoopCount f_codeCount f_labelCount f_functionCount f_registerCount f_activeCalls f_stackCount f_nextCode f_running f_ending f_endingPlace f_resultValue f_ticksUsed f_printedCount : Int32} {a_tokenKind a_tokenValue a_planKind a_planValue a_planPlace a_argumentCount a_openLoop a_codeKind a_codeValue a_codePlace a_labelTarget a_functionStart a_functionParameters a_register a_frame a_returnTo a_stack a_element a_outputValue : Nat → Int32} {vr : Nat → Int32} {vs : List Int32} {x : Int32}, v ≤ 6 → f_registerCount = nI r → a_functionParameters f = nI c → (0 < v → x = nI (v - 1)) → (v = 0 → x = -1) → f_activeCalls = nI (b + 1) → zp_R r b a_register a_frame vr →
    f_stackCount = nI vs.length → vs.length < 960 → zp_V a_stack vs → (if v < c then v else c) ≤ vs.length →
    (∀ reg fr, zp_R r b reg fr (zp_ent b c v vr vs) → zp_V a_stack (vs.drop (if v < c then v else c)) → post (f_tokenCount, f_planCount, f_next, f_wrongToken, f_looseJump, f_latestPlace, f_openLoopCount, f_codeCount, f_labelCount, f_functionCount, f_registerCount, f_activeCalls, nI (vs.drop (if v < c then v else c)).length, a_functionStart f, f_running, f_ending, f_endingPlace, f_resultValue, f_ticksUsed, f_printedCount, a_tokenKind, a_tokenValue, a_planKind, a_planValue, a_planPlace, a_argumentCount, a_openLoop, a_codeKind, a_codeValue, a_codePlace, a_labelTarget, a_functionStart, a_functionParameters, reg, fr, a_returnTo, a_stack, a_element, a_outputValue)) → wX_enter_60 post (nI f) (v + 1) x f_tokenCount f_planCount f_next f_wrongToken f_looseJump f_latestPlace f_openLoopCount f_codeCount f_labelCount f_functionCount f_registerCount f_activeCalls f_stackCount f_nextCode f_running f_ending f_endingPlace f_resultValue f_ticksUsed f_printedCount a_tokenKind a_tokenValue a_planKind a_planValue a_planPlace a_argumentCount a_openLoop a_codeKind a_codeValue a_codePlace a_labelTarget a_functionStart a_functionParameters a_register a_frame a_returnTo a_stack a_element a_outputValue := by
  intro v
  induction v with
  | zero =>
    intro f_tokenCount f_planCount f_next f_wrongToken f_looseJump f_latestPlace f_openLoopCount f_codeCount f_labelCount f_functionCount f_registerCount f_activeCalls f_stackCount f_nextCode f_running f_ending f_endingPlace f_resultValue f_ticksUsed f_printedCount a_tokenKind a_tokenValue a_planKind a_planValue a_planPlace a_argumentCount a_openLoop a_codeKind a_codeValue a_codePlace a_labelTarget a_functionStart a_functionParameters a_register a_frame a_returnTo a_stack a_element a_outputValue vr vs x hv6 hr hfp hx hx0 ha hR hc hl hv hle H
    have := hx0 rfl
    subst this
    refine br_t (by decide) ⟨vp_in_nI hf (by decide), nm_r (e' := a_functionStart f) (by rw [nI_clamp (by omega)]) ?_⟩
    have e : (if 0 < c then 0 else c) = 0 := by split <;> omega
    rw [e] at H
    have H := H a_register a_frame hR hv
    rw [List.drop_zero, ← hc] at H
    exact H
  | succ v ih =>
    intro f_tokenCount f_planCount f_next f_wrongToken f_looseJump f_latestPlace f_openLoopCount f_codeCount f_labelCount f_functionCount f_registerCount f_activeCalls f_stackCount f_nextCode f_running f_ending f_endingPlace f_resultValue f_ticksUsed f_printedCount a_tokenKind a_tokenValue a_planKind a_planValue a_planPlace a_argumentCount a_openLoop a_codeKind a_codeValue a_codePlace a_labelTarget a_functionStart a_functionParameters a_register a_frame a_returnTo a_stack a_element a_outputValue vr vs x hv6 hr hfp hx hx0 ha hR hc hl hv hle H
    have hxx := hx (by omega)
    rw [Nat.add_sub_cancel] at hxx
    subst hxx
    refine br_f (nI_pos (by omega)) ⟨vp_in_nI hf (by decide), ?_⟩
    rw [nI_clamp (n := f) (by omega), hfp]
    have nx0 : 0 < v → nI v + (-1) = nI (v - 1) := fun h => by
      obtain ⟨w, rfl⟩ : ∃ w, v = w + 1 := ⟨v - 1, by omega⟩
      exact pk_m1 w
    have nx1 : v = 0 → nI v + (-1) = -1 := fun h => by subst h; decide
    refine pk_le c v (fun h => ?_) (fun h => ?_)
    · unfold wX_enter_81
      refine zm_set hr hr1 hr6 rfl (by omega) ha hb hR fun reg fr hR' => ?_
      refine nm_e ?_
      have e1 : (if v + 1 < c then v + 1 else c) = c := if_neg (by omega)
      have e2 : (if v < c then v else c) = c := if_neg (by omega)
      rw [e1] at hle H
      refine ih (by omega) hr hfp nx0 nx1 ha hR' hc hl hv (by rw [e2]; exact hle) ?_
      rw [e2]
      have e3 : zp_ent b c (v + 1) vr vs = zp_ent b c v (upd vr (6 * b + v) 0) vs := if_neg (by omega)
      rw [e3] at H
      exact H
    · have e2 : (if v < c then v else c) = v := if_pos h
      have e1 : (if v + 1 < c then v + 1 else c) = v + 1 := by split <;> omega
      rw [e1] at hle H
      cases vs with
      | nil => simp at hle
      | cons w l =>
        simp only [List.length_cons] at hl hle
        refine zm_pop hc (by omega) hv ?_
        unfold wX_enter_81
        refine zm_set hr hr1 hr6 rfl (by omega) ha hb hR fun reg fr hR' => ?_
        refine nm_e ?_
        refine ih (by omega) hr hfp nx0 nx1 ha hR' rfl (by omega) hv.2 (by rw [e2]; omega) ?_
        rw [e2]
        have e3 : zp_ent b c (v + 1) vr (w :: l) = zp_ent b c v (upd vr (6 * b + v) w) l := if_pos h
        rw [e3] at H
        exact H
theorem zp_ent_eq {a c : Nat} : ∀ (v : Nat) (X Y : Nat → Int32) (vs : List Int32), v ≤ 6 → (if v < c then v else c) ≤ vs.length → (∀ j, (j < 6 * a ∨ (6 * a + v ≤ j ∧ j < 6 * a + 6)) → X j = Y j) → ∀ j, j < 6 * a + 6 → zp_ent a c v X vs j = zp_ent a c v Y vs j := by
  intro v
  induction v with
  | zero => intro X Y vs _ _ h j hj; exact h j (by omega)
  | succ v ih =>
    intro X Y vs hv hle h j hj
    have up : ∀ (w : Int32) j, (j < 6 * a ∨ (6 * a + v ≤ j ∧ j < 6 * a + 6)) → upd X (6 * a + v) w j = upd Y (6 * a + v) w j := by
      intro w j hj
      by_cases e : j = 6 * a + v
      · rw [e, pk_us, pk_us]
      · rw [pk_un e, pk_un e]; exact h j (by omega)
    unfold zp_ent
    by_cases hc : v < c
    · rw [if_pos hc, if_pos hc]
      have hle' : v + 1 ≤ vs.length := by
        have : (if v + 1 < c then v + 1 else c) = v + 1 := by split <;> omega
        omega
      cases vs with
      | nil => simp at hle'
      | cons w l =>
        simp only [List.length_cons] at hle'
        exact ih _ _ l (by omega) (by rw [if_pos hc]; omega) (up w) j hj
    · rw [if_neg hc, if_neg hc]
      rw [if_neg (by omega)] at hle
      exact ih _ _ vs (by omega) (by rw [if_neg hc]; exact hle) (up 0) j hj
theorem zp_R_eq {r b : Nat} {reg fr X Y : Nat → Int32} (h : ∀ j, j < 6 * b + 6 → X j = Y j) (hR : zp_R r b reg fr X) : zp_R r b reg fr Y :=
  ⟨fun v hv => ⟨fun h1 => ((hR.1 v hv).1 h1).trans (h _ (by omega)), fun h1 => ((hR.1 v hv).2 h1).trans (h _ (by omega))⟩, fun w hw => (hR.2 w hw).trans (h _ (by omega))⟩
theorem zm_enter {post : SX → Prop} {f_tokenCount f_planCount f_next f_wrongToken f_looseJump f_latestPlace f_openLoopCount f_codeCount f_labelCount f_functionCount f_registerCount f_activeCalls f_stackCount f_nextCode f_running f_ending f_endingPlace f_resultValue f_ticksUsed f_printedCount : Int32} {a_tokenKind a_tokenValue a_planKind a_planValue a_planPlace a_argumentCount a_openLoop a_codeKind a_codeValue a_codePlace a_labelTarget a_functionStart a_functionParameters a_register a_frame a_returnTo a_stack a_element a_outputValue : Nat → Int32} {r : Nat} (hr : f_registerCount = nI r) (hr1 : 1 ≤ r) (hr6 : r ≤ 6) {a c f : Nat} {vr : Nat → Int32} {vs : List Int32} {x : Int32} (hx : x = nI f) (hf : f < 4) (hfp : a_functionParameters f = nI c) (hc3 : c ≤ 3) (ha : f_activeCalls = nI a) (ha8 : a < 8)
    (hR : ∀ b, a = b + 1 → zp_R r b a_register a_frame vr) (hc : f_stackCount = nI vs.length) (hl : vs.length < 960) (hv : zp_V a_stack vs) (hle : c ≤ vs.length)
    (H : ∀ reg fr, zp_R r a reg fr (zp_ent a c 6 vr vs) → zp_V a_stack (vs.drop c) → post (f_tokenCount, f_planCount, f_next, f_wrongToken, f_looseJump, f_latestPlace, f_openLoopCount, f_codeCount, f_labelCount, f_functionCount, f_registerCount, nI (a + 1), nI (vs.drop c).length, a_functionStart f, f_running, f_ending, f_endingPlace, f_resultValue, f_ticksUsed, f_printedCount, a_tokenKind, a_tokenValue, a_planKind, a_planValue, a_planPlace, a_argumentCount, a_openLoop, a_codeKind, a_codeValue, a_codePlace, a_labelTarget, a_functionStart, a_functionParameters, reg, fr, upd a_returnTo a f_nextCode, a_stack, a_element, a_outputValue)) : wpX_enter post (f_tokenCount, f_planCount, f_next, f_wrongToken, f_looseJump, f_latestPlace, f_openLoopCount, f_codeCount, f_labelCount, f_functionCount, f_registerCount, f_activeCalls, f_stackCount, f_nextCode, f_running, f_ending, f_endingPlace, f_resultValue, f_ticksUsed, f_printedCount, a_tokenKind, a_tokenValue, a_planKind, a_planValue, a_planPlace, a_argumentCount, a_openLoop, a_codeKind, a_codeValue, a_codePlace, a_labelTarget, a_functionStart, a_functionParameters, a_register, a_frame, a_returnTo, a_stack, a_element, a_outputValue) x := by
  subst hx
  have e : (if 6 < c then 6 else c) = c := if_neg (by omega)
  have tail : ∀ fr, (∀ w, w < 6 * a → fr w = vr w) → (∃ n60 : Nat, wX_enter_60 post (nI f) n60 5 f_tokenCount f_planCount f_next f_wrongToken f_looseJump f_latestPlace f_openLoopCount f_codeCount f_labelCount f_functionCount f_registerCount (nI (a + 1)) f_stackCount f_nextCode f_running f_ending f_endingPlace f_resultValue f_ticksUsed f_printedCount a_tokenKind a_tokenValue a_planKind a_planValue a_planPlace a_argumentCount a_openLoop a_codeKind a_codeValue a_codePlace a_labelTarget a_functionStart a_functionParameters a_register fr (upd a_returnTo a f_nextCode) a_stack a_element a_outputValue) := by
    intro fr hfr
    -- any start serves: all six variables are set
    refine ⟨7, ?_⟩
    have h0 : zp_R r a a_register fr (fun j => if j < 6 * a then vr j else if j - 6 * a < r then a_register (j - 6 * a) else fr j) := by
      refine ⟨fun w hw => ⟨fun h1 => ?_, fun h1 => ?_⟩, fun w hw => ?_⟩
      · show _ = if 6 * a + w < 6 * a then _ else _
        rw [if_neg (by omega), if_pos (by omega)]
        exact congrArg _ (by omega)
      · show _ = if 6 * a + w < 6 * a then _ else _
        rw [if_neg (by omega), if_neg (by omega)]
      · show _ = if w < 6 * a then _ else _
        rw [if_pos hw]; exact hfr w hw
    refine zm_ent hr1 hr6 (by omega) hf hc3 6 (by omega) hr hfp (fun _ => rfl) (fun h => absurd h (by decide)) rfl h0 hc hl hv (by rw [e]; exact hle) ?_
    rw [e]
    intro reg fr' hR' hv'
    refine H reg fr' ?_ hv'
    refine zp_R_eq (fun j hj => ?_) hR'
    refine zp_ent_eq 6 _ _ vs (by omega) (by rw [e]; exact hle) (fun j hj => ?_) j hj
    show (if j < 6 * a then _ else _) = _
    rw [if_pos (by omega)]
  refine br_f (nI_pos (by omega)) (br_f (nI_ge (b := 4) hf (by decide)) ?_)
  rw [ha]
  refine br_f (nI_pos (by omega)) (br_t (nI_lt (b := 8) ha8 (by decide)) ?_)
  have e3 : (nI a).toNatClampNeg = a := nI_clamp (by omega)
  cases a with
  | zero =>
    refine zm_save0 hr hr1 hr6 rfl ⟨vp_in_nI ha8 (by decide), nm_r (e' := upd a_returnTo 0 f_nextCode) rfl (nm_r (nI_1 _) ?_)⟩
    exact tail a_frame (fun w hw => by omega)
  | succ b =>
    refine zm_save hr hr1 hr6 rfl (by omega) (hR b rfl) fun fr hfr => ⟨vp_in_nI ha8 (by decide), nm_r (e' := upd a_returnTo (b + 1) f_nextCode) (by rw [e3]) (nm_r (nI_1 _) ?_)⟩
    exact tail fr hfr
