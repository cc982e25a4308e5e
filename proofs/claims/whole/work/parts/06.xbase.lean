/-! X, compile: the plan stack as a list, the small methods -/
def xp_Pd (pk pv pp : Nat → Int32) : List gm_M → Prop
  | [] => True
  | x :: P => pk P.length = nI x.1 ∧ pv P.length = x.2.1 ∧ pp P.length = nI x.2.2 ∧ xp_Pd pk pv pp P
def xp_Ol (ol : Nat → Int32) : List Nat → Prop
  | [] => True
  | a :: l => ol l.length = nI a ∧ xp_Ol ol l
theorem xp_Pd_up {pk pv pp : Nat → Int32} {k : Nat} {a b c : Int32} : ∀ {P : List gm_M}, xp_Pd pk pv pp P → P.length ≤ k → xp_Pd (upd pk k a) (upd pv k b) (upd pp k c) P
  | [], _, _ => trivial
  | x :: P, h, hk => by
    have h1 : P.length + 1 ≤ k := hk
    have h2 : P.length ≠ k := by omega
    exact ⟨(pk_un h2).trans h.1, (pk_un h2).trans h.2.1, (pk_un h2).trans h.2.2.1, xp_Pd_up h.2.2.2 (by omega)⟩
theorem xp_Ol_up {ol : Nat → Int32} {k : Nat} {a : Int32} : ∀ {l : List Nat}, xp_Ol ol l → l.length ≤ k → xp_Ol (upd ol k a) l
  | [], _, _ => trivial
  | x :: l, h, hk => by
    have h1 : l.length + 1 ≤ k := hk
    have h2 : l.length ≠ k := by omega
    exact ⟨(pk_un h2).trans h.1, xp_Ol_up h.2 (by omega)⟩
theorem xm_plan {post : SX → Prop} {f_tokenCount f_planCount f_next f_wrongToken f_looseJump f_latestPlace f_openLoopCount f_codeCount f_labelCount f_functionCount f_registerCount f_activeCalls f_stackCount f_nextCode f_running f_ending f_endingPlace f_resultValue f_ticksUsed f_printedCount : Int32} {a_tokenKind a_tokenValue a_planKind a_planValue a_planPlace a_argumentCount a_openLoop a_codeKind a_codeValue a_codePlace a_labelTarget a_functionStart a_functionParameters a_register a_frame a_returnTo a_stack a_element a_outputValue : Nat → Int32} {P : List gm_M} (k : Nat) (v : Int32) (q : Nat) (hc : f_planCount = nI P.length) (hl : P.length < 960) (hP : xp_Pd a_planKind a_planValue a_planPlace P)
    (H : ∀ pk pv pp, xp_Pd pk pv pp ((k, v, q) :: P) → post (f_tokenCount, nI ((k, v, q) :: P).length, f_next, f_wrongToken, f_looseJump, f_latestPlace, f_openLoopCount, f_codeCount, f_labelCount, f_functionCount, f_registerCount, f_activeCalls, f_stackCount, f_nextCode, f_running, f_ending, f_endingPlace, f_resultValue, f_ticksUsed, f_printedCount, a_tokenKind, a_tokenValue, pk, pv, pp, a_argumentCount, a_openLoop, a_codeKind, a_codeValue, a_codePlace, a_labelTarget, a_functionStart, a_functionParameters, a_register, a_frame, a_returnTo, a_stack, a_element, a_outputValue)) : wpX_plan post (f_tokenCount, f_planCount, f_next, f_wrongToken, f_looseJump, f_latestPlace, f_openLoopCount, f_codeCount, f_labelCount, f_functionCount, f_registerCount, f_activeCalls, f_stackCount, f_nextCode, f_running, f_ending, f_endingPlace, f_resultValue, f_ticksUsed, f_printedCount, a_tokenKind, a_tokenValue, a_planKind, a_planValue, a_planPlace, a_argumentCount, a_openLoop, a_codeKind, a_codeValue, a_codePlace, a_labelTarget, a_functionStart, a_functionParameters, a_register, a_frame, a_returnTo, a_stack, a_element, a_outputValue) (nI k) v (nI q) := by
  subst hc
  have h1 : ¬ (960 : Int32) ≤ nI P.length := nI_ge (b := 960) hl (by decide)
  have h2 : vp_in (nI P.length) 960 := vp_in_nI hl (by decide)
  have h3 : (nI P.length).toNatClampNeg = P.length := nI_clamp (by omega)
  refine br_f h1 ⟨h2, nm_r (by rw [h3]) ⟨h2, nm_r (by rw [h3]) ⟨h2, nm_r (by rw [h3]) (nm_r (nI_1 _) ?_)⟩⟩⟩
  exact H _ _ _ ⟨pk_us, pk_us, pk_us, xp_Pd_up hP (Nat.le_refl _)⟩
theorem xm_kindAt {post : Int32 → Prop} {f_tokenCount f_planCount f_next f_wrongToken f_looseJump f_latestPlace f_openLoopCount f_codeCount f_labelCount f_functionCount f_registerCount f_activeCalls f_stackCount f_nextCode f_running f_ending f_endingPlace f_resultValue f_ticksUsed f_printedCount : Int32} {a_tokenKind a_tokenValue a_planKind a_planValue a_planPlace a_argumentCount a_openLoop a_codeKind a_codeValue a_codePlace a_labelTarget a_functionStart a_functionParameters a_register a_frame a_returnTo a_stack a_element a_outputValue : Nat → Int32} {n p : Nat} {x : Int32} (hx : x = nI p) (ht : f_tokenCount = nI n) (hn : n ≤ 120) (hp : p ≤ 120)
    (H : post (gm_tk a_tokenKind n p)) : wpX_kindAt post (f_tokenCount, f_planCount, f_next, f_wrongToken, f_looseJump, f_latestPlace, f_openLoopCount, f_codeCount, f_labelCount, f_functionCount, f_registerCount, f_activeCalls, f_stackCount, f_nextCode, f_running, f_ending, f_endingPlace, f_resultValue, f_ticksUsed, f_printedCount, a_tokenKind, a_tokenValue, a_planKind, a_planValue, a_planPlace, a_argumentCount, a_openLoop, a_codeKind, a_codeValue, a_codePlace, a_labelTarget, a_functionStart, a_functionParameters, a_register, a_frame, a_returnTo, a_stack, a_element, a_outputValue) x := by
  subst hx ht
  refine br_f (nI_pos (by omega)) ?_
  refine pk_le 120 p (fun h => ?_) (fun h => ?_)
  · rwa [show gm_tk a_tokenKind n p = -1 from if_neg (by omega)] at H
  · refine pk_le n p (fun h => ?_) (fun h => ?_)
    · rwa [show gm_tk a_tokenKind n p = -1 from if_neg (by omega)] at H
    · rw [show gm_tk a_tokenKind n p = a_tokenKind p from if_pos h] at H
      refine ⟨vp_in_nI (by omega) (by decide), ?_⟩
      rw [nI_clamp (by omega)]
      exact H
theorem xm_valueAt {post : Int32 → Prop} {f_tokenCount f_planCount f_next f_wrongToken f_looseJump f_latestPlace f_openLoopCount f_codeCount f_labelCount f_functionCount f_registerCount f_activeCalls f_stackCount f_nextCode f_running f_ending f_endingPlace f_resultValue f_ticksUsed f_printedCount : Int32} {a_tokenKind a_tokenValue a_planKind a_planValue a_planPlace a_argumentCount a_openLoop a_codeKind a_codeValue a_codePlace a_labelTarget a_functionStart a_functionParameters a_register a_frame a_returnTo a_stack a_element a_outputValue : Nat → Int32} {p : Nat} {x : Int32} (hx : x = nI p) (hp : p < 120)
    (H : post (a_tokenValue p)) : wpX_valueAt post (f_tokenCount, f_planCount, f_next, f_wrongToken, f_looseJump, f_latestPlace, f_openLoopCount, f_codeCount, f_labelCount, f_functionCount, f_registerCount, f_activeCalls, f_stackCount, f_nextCode, f_running, f_ending, f_endingPlace, f_resultValue, f_ticksUsed, f_printedCount, a_tokenKind, a_tokenValue, a_planKind, a_planValue, a_planPlace, a_argumentCount, a_openLoop, a_codeKind, a_codeValue, a_codePlace, a_labelTarget, a_functionStart, a_functionParameters, a_register, a_frame, a_returnTo, a_stack, a_element, a_outputValue) x := by
  subst hx
  refine br_f (nI_pos (by omega)) (br_f (nI_ge (b := 120) hp (by decide)) ⟨vp_in_nI hp (by decide), ?_⟩)
  rw [nI_clamp (by omega)]
  exact H
theorem xm_valueAt0 {post : Int32 → Prop} {f_tokenCount f_planCount f_next f_wrongToken f_looseJump f_latestPlace f_openLoopCount f_codeCount f_labelCount f_functionCount f_registerCount f_activeCalls f_stackCount f_nextCode f_running f_ending f_endingPlace f_resultValue f_ticksUsed f_printedCount : Int32} {a_tokenKind a_tokenValue a_planKind a_planValue a_planPlace a_argumentCount a_openLoop a_codeKind a_codeValue a_codePlace a_labelTarget a_functionStart a_functionParameters a_register a_frame a_returnTo a_stack a_element a_outputValue : Nat → Int32} {p : Nat} {x : Int32} (hx : x = nI p) (hp : p ≤ 120)
    (H : ∀ v, (p < 120 → v = a_tokenValue p) → post v) : wpX_valueAt post (f_tokenCount, f_planCount, f_next, f_wrongToken, f_looseJump, f_latestPlace, f_openLoopCount, f_codeCount, f_labelCount, f_functionCount, f_registerCount, f_activeCalls, f_stackCount, f_nextCode, f_running, f_ending, f_endingPlace, f_resultValue, f_ticksUsed, f_printedCount, a_tokenKind, a_tokenValue, a_planKind, a_planValue, a_planPlace, a_argumentCount, a_openLoop, a_codeKind, a_codeValue, a_codePlace, a_labelTarget, a_functionStart, a_functionParameters, a_register, a_frame, a_returnTo, a_stack, a_element, a_outputValue) x := by
  by_cases h : p < 120
  · exact xm_valueAt hx h (H _ fun _ => rfl)
  · subst hx
    refine br_f (nI_pos (by omega)) (br_t (nI_le (a := 120) (by omega) (by omega)) (H _ fun z => absurd z h))
theorem xm_take {post : SX → Prop} {f_tokenCount f_planCount f_next f_wrongToken f_looseJump f_latestPlace f_openLoopCount f_codeCount f_labelCount f_functionCount f_registerCount f_activeCalls f_stackCount f_nextCode f_running f_ending f_endingPlace f_resultValue f_ticksUsed f_printedCount : Int32} {a_tokenKind a_tokenValue a_planKind a_planValue a_planPlace a_argumentCount a_openLoop a_codeKind a_codeValue a_codePlace a_labelTarget a_functionStart a_functionParameters a_register a_frame a_returnTo a_stack a_element a_outputValue : Nat → Int32} {n p : Nat} (k : Int32) (hx : f_next = nI p) (ht : f_tokenCount = nI n) (hn : n ≤ 120) (hp : p ≤ 120)
    (H1 : gm_tk a_tokenKind n p = k → post (f_tokenCount, f_planCount, nI (p + 1), f_wrongToken, f_looseJump, f_latestPlace, f_openLoopCount, f_codeCount, f_labelCount, f_functionCount, f_registerCount, f_activeCalls, f_stackCount, f_nextCode, f_running, f_ending, f_endingPlace, f_resultValue, f_ticksUsed, f_printedCount, a_tokenKind, a_tokenValue, a_planKind, a_planValue, a_planPlace, a_argumentCount, a_openLoop, a_codeKind, a_codeValue, a_codePlace, a_labelTarget, a_functionStart, a_functionParameters, a_register, a_frame, a_returnTo, a_stack, a_element, a_outputValue)) (H2 : ¬ gm_tk a_tokenKind n p = k → post (f_tokenCount, f_planCount, f_next, nI p, f_looseJump, f_latestPlace, f_openLoopCount, f_codeCount, f_labelCount, f_functionCount, f_registerCount, f_activeCalls, f_stackCount, f_nextCode, f_running, f_ending, f_endingPlace, f_resultValue, f_ticksUsed, f_printedCount, a_tokenKind, a_tokenValue, a_planKind, a_planValue, a_planPlace, a_argumentCount, a_openLoop, a_codeKind, a_codeValue, a_codePlace, a_labelTarget, a_functionStart, a_functionParameters, a_register, a_frame, a_returnTo, a_stack, a_element, a_outputValue)) : wpX_take post (f_tokenCount, f_planCount, f_next, f_wrongToken, f_looseJump, f_latestPlace, f_openLoopCount, f_codeCount, f_labelCount, f_functionCount, f_registerCount, f_activeCalls, f_stackCount, f_nextCode, f_running, f_ending, f_endingPlace, f_resultValue, f_ticksUsed, f_printedCount, a_tokenKind, a_tokenValue, a_planKind, a_planValue, a_planPlace, a_argumentCount, a_openLoop, a_codeKind, a_codeValue, a_codePlace, a_labelTarget, a_functionStart, a_functionParameters, a_register, a_frame, a_returnTo, a_stack, a_element, a_outputValue) k := by
  unfold wpX_take
  refine xm_kindAt hx ht hn hp ?_
  refine (br_c (fun h => ?_) (fun h => ?_))
  · subst hx
    exact nm_r (nI_1 _) (H1 h)
  · subst hx
    exact H2 h
theorem xm_emit {post : SX → Prop} {f_tokenCount f_planCount f_next f_wrongToken f_looseJump f_latestPlace f_openLoopCount f_codeCount f_labelCount f_functionCount f_registerCount f_activeCalls f_stackCount f_nextCode f_running f_ending f_endingPlace f_resultValue f_ticksUsed f_printedCount : Int32} {a_tokenKind a_tokenValue a_planKind a_planValue a_planPlace a_argumentCount a_openLoop a_codeKind a_codeValue a_codePlace a_labelTarget a_functionStart a_functionParameters a_register a_frame a_returnTo a_stack a_element a_outputValue : Nat → Int32} {cc : Nat} {k v q : Int32} (hc : f_codeCount = nI cc) (hl : cc < 360)
    (H : post (f_tokenCount, f_planCount, f_next, f_wrongToken, f_looseJump, f_latestPlace, f_openLoopCount, nI (cc + 1), f_labelCount, f_functionCount, f_registerCount, f_activeCalls, f_stackCount, f_nextCode, f_running, f_ending, f_endingPlace, f_resultValue, f_ticksUsed, f_printedCount, a_tokenKind, a_tokenValue, a_planKind, a_planValue, a_planPlace, a_argumentCount, a_openLoop, upd a_codeKind cc k, upd a_codeValue cc v, upd a_codePlace cc q, a_labelTarget, a_functionStart, a_functionParameters, a_register, a_frame, a_returnTo, a_stack, a_element, a_outputValue)) : wpX_emit post (f_tokenCount, f_planCount, f_next, f_wrongToken, f_looseJump, f_latestPlace, f_openLoopCount, f_codeCount, f_labelCount, f_functionCount, f_registerCount, f_activeCalls, f_stackCount, f_nextCode, f_running, f_ending, f_endingPlace, f_resultValue, f_ticksUsed, f_printedCount, a_tokenKind, a_tokenValue, a_planKind, a_planValue, a_planPlace, a_argumentCount, a_openLoop, a_codeKind, a_codeValue, a_codePlace, a_labelTarget, a_functionStart, a_functionParameters, a_register, a_frame, a_returnTo, a_stack, a_element, a_outputValue) k v q := by
  subst hc
  have h2 : vp_in (nI cc) 360 := vp_in_nI hl (by decide)
  have h3 : (nI cc).toNatClampNeg = cc := nI_clamp (by omega)
  refine br_f (nI_ge (b := 360) hl (by decide)) ⟨h2, nm_r (by rw [h3]) ⟨h2, nm_r (by rw [h3]) ⟨h2, nm_r (by rw [h3]) (nm_r (nI_1 _) ?_)⟩⟩⟩
  exact H
theorem xm_putLabel {post : SX → Prop} {f_tokenCount f_planCount f_next f_wrongToken f_looseJump f_latestPlace f_openLoopCount f_codeCount f_labelCount f_functionCount f_registerCount f_activeCalls f_stackCount f_nextCode f_running f_ending f_endingPlace f_resultValue f_ticksUsed f_printedCount : Int32} {a_tokenKind a_tokenValue a_planKind a_planValue a_planPlace a_argumentCount a_openLoop a_codeKind a_codeValue a_codePlace a_labelTarget a_functionStart a_functionParameters a_register a_frame a_returnTo a_stack a_element a_outputValue : Nat → Int32} {l : Nat} {x : Int32} (hx : x = nI l) (hl : l < 240)
    (H : post (f_tokenCount, f_planCount, f_next, f_wrongToken, f_looseJump, f_latestPlace, f_openLoopCount, f_codeCount, f_labelCount, f_functionCount, f_registerCount, f_activeCalls, f_stackCount, f_nextCode, f_running, f_ending, f_endingPlace, f_resultValue, f_ticksUsed, f_printedCount, a_tokenKind, a_tokenValue, a_planKind, a_planValue, a_planPlace, a_argumentCount, a_openLoop, a_codeKind, a_codeValue, a_codePlace, upd a_labelTarget l f_codeCount, a_functionStart, a_functionParameters, a_register, a_frame, a_returnTo, a_stack, a_element, a_outputValue)) : wpX_putLabel post (f_tokenCount, f_planCount, f_next, f_wrongToken, f_looseJump, f_latestPlace, f_openLoopCount, f_codeCount, f_labelCount, f_functionCount, f_registerCount, f_activeCalls, f_stackCount, f_nextCode, f_running, f_ending, f_endingPlace, f_resultValue, f_ticksUsed, f_printedCount, a_tokenKind, a_tokenValue, a_planKind, a_planValue, a_planPlace, a_argumentCount, a_openLoop, a_codeKind, a_codeValue, a_codePlace, a_labelTarget, a_functionStart, a_functionParameters, a_register, a_frame, a_returnTo, a_stack, a_element, a_outputValue) x := by
  subst hx
  have h3 : (nI l).toNatClampNeg = l := nI_clamp (by omega)
  exact br_f (nI_pos (by omega)) (br_f (nI_ge (b := 240) hl (by decide)) ⟨vp_in_nI hl (by decide), nm_r (by rw [h3]) H⟩)
