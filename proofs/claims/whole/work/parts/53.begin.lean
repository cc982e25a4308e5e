/-! run: the induction -/
theorem mn_all {PX : Int32 → SX → Prop} {YS : (SY → Prop) → Prop} {U : SX} {W : SY} {n NF r : Nat} {F : gm_A} (c : cx PX YS U W n NF r F) : ∀ N, RG PX YS U W n NF r F N := by
  intro N
  induction N with
  | zero => intro s G b p t pr cc lc fc m hb u vs S T Tb vr rt mem out _ _ _ _ _ _ _ _ hN; omega
  | succ N IH =>
    intro s G b p t pr cc lc fc m hb u vs S T Tb vr rt mem out hok hz hf HY hm hb7 ht hpr hN hG hs
    cases S with
    | nil => exact hz.elim
    | cons x S =>
      obtain ⟨k, a, d, e0, v⟩ := x
      have hv := (gm_ok_inv hok).2.2.2.2.2.1.1
      by_cases z : k = 2
      · subst z; exact mn_2 c IH hok hz hf HY hm hb7 ht hpr hN hG hs
      by_cases z : k = 3
      · subst z; exact mn_3 c IH hok hz hf HY hm hb7 ht hpr hN hG hs
      by_cases z : k = 4
      · subst z; exact mn_4 c IH hok hz hf HY hm hb7 ht hpr hN hG hs
      by_cases z : k = 5
      · subst z; exact mn_5 c IH hok hz hf HY hm hb7 ht hpr hN hG hs
      by_cases z : k = 6
      · subst z; exact mn_6 c IH hok hz hf HY hm hb7 ht hpr hN hG hs
      by_cases z : k = 7
      · subst z; exact mn_7 c IH hok hz hf HY hm hb7 ht hpr hN hG hs
      by_cases z : k = 8
      · subst z; exact mn_8 c IH hok hz hf HY hm hb7 ht hpr hN hG hs
      by_cases z : k = 9
      · subst z; exact mn_9 c IH hok hz hf HY hm hb7 ht hpr hN hG hs
      by_cases z : k = 10
      · subst z; exact mn_10 c IH hok hz hf HY hm hb7 ht hpr hN hG hs
      by_cases z : k = 11
      · subst z; exact mn_11 c IH hok hz hf HY hm hb7 ht hpr hN hG hs
      by_cases z : k = 12
      · subst z; exact mn_12 c IH hok hz hf HY hm hb7 ht hpr hN hG hs
      by_cases z : k = 13
      · subst z; exact mn_13 c IH hok hz hf HY hm hb7 ht hpr hN hG hs
      by_cases z : k = 14
      · subst z; exact mn_14 c IH hok hz hf HY hm hb7 ht hpr hN hG hs
      by_cases z : k = 15
      · subst z; exact mn_15 c IH hok hz hf HY hm hb7 ht hpr hN hG hs
      by_cases z : k = 16
      · subst z; exact mn_16 c IH hok hz hf HY hm hb7 ht hpr hN hG hs
      by_cases z : k = 17
      · subst z; exact mn_17 c IH hok hz hf HY hm hb7 ht hpr hN hG hs
      by_cases z : k = 18
      · subst z; exact mn_18 c IH hok hz hf HY hm hb7 ht hpr hN hG hs
      by_cases z : k = 19
      · subst z; exact mn_19 c IH hok hz hf HY hm hb7 ht hpr hN hG hs
      by_cases z : k = 20
      · subst z; exact mn_20 c IH hok hz hf HY hm hb7 ht hpr hN hG hs
      exfalso
      by_cases z1 : k = 1
      · subst z1
        unfold zl at hz
        rw [if_pos rfl] at hz
        exact hz
      unfold gm_vl at hv
      dsimp only at hv
      repeat' split at hv
      all_goals omega
/-! run: the two beginnings -/
def zr_vs (c : Nat) (a b d : Int32) : List Int32 := if c = 0 then [] else if c = 1 then [a] else if c = 2 then [b, a] else [d, b, a]
theorem zr_len {c : Nat} {a b d : Int32} (hc : c ≤ 3) : (zr_vs c a b d).length = c := by
  have : c = 0 ∨ c = 1 ∨ c = 2 ∨ c = 3 := by omega
  rcases this with rfl | rfl | rfl | rfl <;> rfl
theorem zr_V {c : Nat} {a b d : Int32} {va : Nat → Int32} (hc : c ≤ 3) : zp_V (upd (upd (upd va 0 a) 1 b) 2 d) (zr_vs c a b d) := by
  have h0 : upd (upd (upd va 0 a) 1 b) 2 d 0 = a := by rw [pk_un (by decide), pk_un (by decide), pk_us]
  have h1 : upd (upd (upd va 0 a) 1 b) 2 d 1 = b := by rw [pk_un (by decide), pk_us]
  have h2 : upd (upd (upd va 0 a) 1 b) 2 d 2 = d := pk_us
  have : c = 0 ∨ c = 1 ∨ c = 2 ∨ c = 3 := by omega
  rcases this with rfl | rfl | rfl | rfl
  · trivial
  · exact ⟨h0, trivial⟩
  · exact ⟨h1, h0, trivial⟩
  · exact ⟨h2, h1, h0, trivial⟩
def yz_P (post : Int32 → SY → Prop) : SY → Prop := fun u => match u with
  | (f_count, f_place, f_length, f_functions, f_loaded, f_loops, f_outside, f_tt, f_vt, f_pos, f_bad, f_checking, f_live, f_pending, f_carry, f_active, f_ticks, f_status, f_result, f_endedAt, f_used, f_printed, a_kind, a_value, a_code, a_number, a_given, a_begins, a_params, a_todo, a_val, a_vars, a_output, a_memory) => ((f_status = 0 → wY_run_93 post (a_val 0) f_count f_place f_length f_functions f_loaded f_loops f_outside f_tt f_vt f_pos f_bad f_checking f_live f_pending f_carry f_active f_ticks f_status f_result f_endedAt f_used f_printed a_kind a_value a_code a_number a_given a_begins a_params a_todo a_val a_vars a_output a_memory) ∧ (¬ f_status = 0 → wY_run_93 post 0 f_count f_place f_length f_functions f_loaded f_loops f_outside f_tt f_vt f_pos f_bad f_checking f_live f_pending f_carry f_active f_ticks f_status f_result f_endedAt f_used f_printed a_kind a_value a_code a_number a_given a_begins a_params a_todo a_val a_vars a_output a_memory))
theorem yz_all {post : Int32 → SY → Prop} {f_count f_place f_length f_functions f_loaded f_loops f_outside f_tt f_vt f_pos f_bad f_checking f_live f_pending f_carry f_active f_ticks f_status f_result f_endedAt f_used f_printed : Int32} {a_kind a_value a_code a_number a_given a_begins a_params a_todo a_val a_vars a_output a_memory : Nat → Int32} {f c q NF : Nat} {x p1 p2 p3 : Int32} (hl : f_loaded = 1) (hx : x = nI f) (hf : f < NF) (hNF : NF ≤ 4) (hfn : f_functions = nI NF) (hc : a_params f = nI c) (hc3 : c ≤ 3) (hb : a_begins f = nI q)
    (H : ∀ td, yp_Td td [yp_n 2 0 0, yp_n 26 0 0] → yL (yz_P post) 0 (f_count, f_place, f_length, f_functions, f_loaded, f_loops, f_outside, nI 2, nI 0, nI q, 0, 0, 1, 0, f_carry, nI 1, nI 120, 0, f_result, -1, f_used, nI 0, a_kind, a_value, a_code, a_number, a_given, a_begins, a_params, td, upd (upd (upd a_val 0 p1) 1 p2) 2 p3, zp_ent 0 c 6 a_vars (zr_vs c p1 p2 p3), a_output, a_memory)) : wpY_run post (f_count, f_place, f_length, f_functions, f_loaded, f_loops, f_outside, f_tt, f_vt, f_pos, f_bad, f_checking, f_live, f_pending, f_carry, f_active, f_ticks, f_status, f_result, f_endedAt, f_used, f_printed, a_kind, a_value, a_code, a_number, a_given, a_begins, a_params, a_todo, a_val, a_vars, a_output, a_memory) x p1 p2 p3 := by
  subst hl hx
  refine br_f (by decide) (br_f (nI_pos (by omega)) ?_)
  rw [hfn]
  refine br_t (nI_lt hf (by omega)) ?_
  unfold wpY_begin
  refine ⟨rfl, rfl, br_t rfl ⟨rfl, rfl, nm_e (nm_e (nm_e ?_))⟩⟩
  unfold wpY_enter
  refine br_f (show ¬ (0 : Int32) = 8 by decide) (br_t (by decide) ?_)
  refine ym_ent (h := 0) (a := 0) (p := 0) (T := []) rfl (by omega) hc hc3 rfl (by decide) rfl (by decide) rfl (by decide) hb rfl (by simp) trivial (by rw [zr_len hc3]; omega) (zr_V hc3) fun td hd => ?_
  unfold wpY_work
  have H := H td hd 400001 (by decide)
  rw [hfn] at H
  exact ⟨400001, H⟩
theorem xr_all {post : Int32 → SX → Prop} {f_tokenCount f_planCount f_next f_wrongToken f_looseJump f_latestPlace f_openLoopCount f_codeCount f_labelCount f_functionCount f_registerCount f_activeCalls f_stackCount f_nextCode f_running f_ending f_endingPlace f_resultValue f_ticksUsed f_printedCount : Int32} {a_tokenKind a_tokenValue a_planKind a_planValue a_planPlace a_argumentCount a_openLoop a_codeKind a_codeValue a_codePlace a_labelTarget a_functionStart a_functionParameters a_register a_frame a_returnTo a_stack a_element a_outputValue : Nat → Int32} {f c pc NF r : Nat} {x p1 p2 p3 : Int32} {vr : Nat → Int32} (hx : x = nI f) (hf : f < NF) (hNF : NF ≤ 4) (hfn : f_functionCount = nI NF) (hc : a_functionParameters f = nI c) (hc3 : c ≤ 3) (hst : a_functionStart f = nI pc) (hr : f_registerCount = nI r) (hr1 : 1 ≤ r) (hr6 : r ≤ 6)
    (H : ∀ reg fr st, zp_R r 0 reg fr (zp_ent 0 c 6 vr (zr_vs c p1 p2 p3)) → zL post 0 (f_tokenCount, f_planCount, f_next, f_wrongToken, f_looseJump, f_latestPlace, f_openLoopCount, f_codeCount, f_labelCount, f_functionCount, f_registerCount, nI 1, nI 0, nI pc, 1, 0, -1, 0, nI 0, nI 0, a_tokenKind, a_tokenValue, a_planKind, a_planValue, a_planPlace, a_argumentCount, a_openLoop, a_codeKind, a_codeValue, a_codePlace, a_labelTarget, a_functionStart, a_functionParameters, reg, fr, upd a_returnTo 0 0, st, a_element, a_outputValue)) : wpX_run post (f_tokenCount, f_planCount, f_next, f_wrongToken, f_looseJump, f_latestPlace, f_openLoopCount, f_codeCount, f_labelCount, f_functionCount, f_registerCount, f_activeCalls, f_stackCount, f_nextCode, f_running, f_ending, f_endingPlace, f_resultValue, f_ticksUsed, f_printedCount, a_tokenKind, a_tokenValue, a_planKind, a_planValue, a_planPlace, a_argumentCount, a_openLoop, a_codeKind, a_codeValue, a_codePlace, a_labelTarget, a_functionStart, a_functionParameters, a_register, a_frame, a_returnTo, a_stack, a_element, a_outputValue) x p1 p2 p3 := by
  subst hx
  have ef : (nI f).toNatClampNeg = f := nI_clamp (by omega)
  refine br_f (nI_pos (by omega)) (br_f (nI_ge (b := 4) (by omega) (by decide)) ?_)
  rw [hfn]
  refine br_t (nI_lt hf (by omega)) ?_
  refine ⟨vp_in_nI (by omega) (by decide), nm_r (e' := nI c) (by rw [ef]; exact hc) ?_⟩
  have ent : ∀ st, zp_V st (zr_vs c p1 p2 p3) → wX_run_64 post (nI f) f_tokenCount f_planCount f_next f_wrongToken f_looseJump f_latestPlace f_openLoopCount f_codeCount f_labelCount f_functionCount f_registerCount 0 (nI (zr_vs c p1 p2 p3).length) 0 1 0 (-1) 0 0 0 a_tokenKind a_tokenValue a_planKind a_planValue a_planPlace a_argumentCount a_openLoop a_codeKind a_codeValue a_codePlace a_labelTarget a_functionStart a_functionParameters a_register a_frame a_returnTo st a_element a_outputValue := by
    intro st hv
    unfold wX_run_64
    refine zm_enter (a := 0) (vr := vr) hr hr1 hr6 rfl (by omega) hc hc3 rfl (by decide) (fun b hb => absurd hb (by omega)) rfl (by rw [zr_len hc3]; omega) hv (by rw [zr_len hc3]; omega) fun reg fr hR hV => ⟨1000001, ?_⟩
    rw [hst]
    have e0 : ((zr_vs c p1 p2 p3).drop c).length = 0 := by rw [List.length_drop, zr_len hc3]; omega
    rw [e0]
    exact H reg fr st hR 1000001 (by decide)
  rw [← hfn]
  have : c = 0 ∨ c = 1 ∨ c = 2 ∨ c = 3 := by omega
  rcases this with rfl | rfl | rfl | rfl
  · exact br_t (by decide) (br_t (by decide) (br_t (by decide) (ent _ trivial)))
  · refine br_f (by decide) ?_
    refine zm_push (vs := []) rfl (by simp) trivial fun st hv => ?_
    exact br_t (by decide) (br_t (by decide) (ent st hv))
  · refine br_f (by decide) ?_
    refine zm_push (vs := []) rfl (by simp) trivial fun st hv => ?_
    refine br_f (by decide) ?_
    refine zm_push (vs := [p1]) rfl (by simp) hv fun st hv => ?_
    exact br_t (by decide) (ent st hv)
  · refine br_f (by decide) ?_
    refine zm_push (vs := []) rfl (by simp) trivial fun st hv => ?_
    refine br_f (by decide) ?_
    refine zm_push (vs := [p1]) rfl (by simp) hv fun st hv => ?_
    refine br_f (by decide) ?_
    exact zm_push (vs := [p2, p1]) rfl (by simp) hv fun st hv => ent st hv
