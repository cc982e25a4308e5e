/-! X, compile: the whole loop, then judge -/
theorem xe_end {post : Int32 → SX → Prop} {f_tokenCount f_planCount f_next f_wrongToken f_looseJump f_latestPlace f_openLoopCount f_codeCount f_labelCount f_functionCount f_registerCount f_activeCalls f_stackCount f_nextCode f_running f_ending f_endingPlace f_resultValue f_ticksUsed f_printedCount : Int32} {a_tokenKind a_tokenValue a_planKind a_planValue a_planPlace a_argumentCount a_openLoop a_codeKind a_codeValue a_codePlace a_labelTarget a_functionStart a_functionParameters a_register a_frame a_returnTo a_stack a_element a_outputValue : Nat → Int32} {s : Nat} (hs : s ≤ 1000000) (h : f_planCount ≤ 0 ∨ 0 ≤ f_wrongToken) (H : wX_compile_73 post f_tokenCount f_planCount f_next f_wrongToken f_looseJump f_latestPlace f_openLoopCount f_codeCount f_labelCount f_functionCount f_registerCount f_activeCalls f_stackCount f_nextCode f_running f_ending f_endingPlace f_resultValue f_ticksUsed f_printedCount a_tokenKind a_tokenValue a_planKind a_planValue a_planPlace a_argumentCount a_openLoop a_codeKind a_codeValue a_codePlace a_labelTarget a_functionStart a_functionParameters a_register a_frame a_returnTo a_stack a_element a_outputValue) : xL post s (f_tokenCount, f_planCount, f_next, f_wrongToken, f_looseJump, f_latestPlace, f_openLoopCount, f_codeCount, f_labelCount, f_functionCount, f_registerCount, f_activeCalls, f_stackCount, f_nextCode, f_running, f_ending, f_endingPlace, f_resultValue, f_ticksUsed, f_printedCount, a_tokenKind, a_tokenValue, a_planKind, a_planValue, a_planPlace, a_argumentCount, a_openLoop, a_codeKind, a_codeValue, a_codePlace, a_labelTarget, a_functionStart, a_functionParameters, a_register, a_frame, a_returnTo, a_stack, a_element, a_outputValue) := by
  intro m hm
  obtain ⟨m, rfl⟩ : ∃ m', m = m' + 1 := ⟨m - 1, by omega⟩
  refine br_c (fun _ => H) (fun _ => ?_)
  refine br_c (fun _ => H) (fun z => ?_)
  rcases h with h | h
  · exact absurd h z
  · exact br_t h H
theorem xc_run {post : Int32 → SX → Prop} {U : SX} {K V : Nat → Int32} {n : Nat} (hU : xh U K V n) (ht : gm_tok K V n)
    {E : Nat → (Nat → Int32) → (Nat → Int32) → Prop} {D : Nat → Nat → Nat → Nat → Int32 → gm_A → Prop}
    (hE : ∀ e ac fp, E e ac fp → ∀ s, s ≤ 1000000 → xE post U s e ac fp) (hD : ∀ p cc lc fc o A, D p cc lc fc o A → ∀ s, s ≤ 1000000 → xQ post U s p [] o [] cc lc fc A) :
    ∀ (m s p : Nat) (S : List gm_I) (cc lc fc : Nat) (o : Int32) (A : gm_A), s + 5 * m ≤ 1000000 → gm_inv K V n p S cc lc fc → gm_av A.2.2.2.2.1 S → gm_run K V n E D m p S cc lc fc o A →
      xQ post U s p (gm_fl S) o (gm_ol S) cc lc fc A := by
  intro m
  induction m with
  | zero => intro s p S cc lc fc o A _ _ _ h; exact h.elim
  | succ m ih =>
    intro s p S cc lc fc o A hs hI hA h
    cases S with
    | nil => exact hD _ _ _ _ _ _ h s (by omega)
    | cons x S =>
      have h1 := gm_inv_d ht hI
      have h2 := gf_d (K := K) (V := V) (n := n) (cc := cc) (fc := fc) hI.2.2.1 hI.2.2.2.1 hI.2.2.2.2.1 hA
      refine xg_d hU (by omega) ht hI hA.1 ?_
      refine gm_and h (gm_and (E2 := fun _ _ => True) (C2 := fun p' S' lc' fc' b es lw aw fw => gm_inv K V n p' S' (cc + es.length) lc' fc' ∧ gm_av (gu_l A.2.2.2.2.1 aw) S') h1 h2 (fun _ _ _ _ => trivial) (fun p S lc fc b es lw aw fw a c => ⟨a.1, c.1⟩)) ?_ ?_
      · intro e w a _ s' h3 h4
        exact hE _ _ _ a s' (by omega)
      · intro p' S' lc' fc' b es lw aw fw a c s' h3 h4
        exact ih s' p' S' _ _ _ _ _ (by omega) c.1 c.2 a
theorem gm_inv0 (K V : Nat → Int32) (n : Nat) : gm_inv K V n 0 [gi_P] 0 0 0 := by
  simp [gm_inv, gm_lin, gm_sh, gm_nw, gm_s2, gm_sl, gm_hd_n, gm_hd_c, gm_lb, gm_pl, gm_va, gm_vl, gm_sm, gw_e, gw_p, gw_c, gw_a, gw_b, gm_tb]
/-- G comes to its end within its measure -/
theorem gm_fin {K V : Nat → Int32} {n : Nat} (ht : gm_tok K V n) (hn : n ≤ 120) : ∀ (m p : Nat) (S : List gm_I) (cc lc fc : Nat) (o : Int32) (A : gm_A), gm_inv K V n p S cc lc fc → gm_sm gw_m S + 3 * (n - p) < m → (o = -1 ∨ 0 ≤ o) →
    (∃ e ac fp, e ≤ n + 2 ∧ ∀ E D, E e ac fp → gm_run K V n E D m p S cc lc fc o A) ∨ (∃ p' cc' lc' fc' o' A', (o' = -1 ∨ 0 ≤ o') ∧ fc' ≤ 4 ∧ ∀ E D, D p' cc' lc' fc' o' A' → gm_run K V n E D m p S cc lc fc o A) := by
  intro m
  induction m with
  | zero => intro p S cc lc fc o A _ h; omega
  | succ m ih =>
    intro p S cc lc fc o A hI hm ho
    cases S with
    | nil => exact Or.inr ⟨p, cc, lc, fc, o, A, ho, hI.2.2.2.2.2.2.1, fun E D h => h⟩
    | cons x S =>
      have h1 := gm_and (E2 := fun e _ => e ≤ p + 2) (ge_d (cc := cc) (lc := lc) (fc := fc)) (gm_inv_d ht hI) (fun _ _ a _ => a) (fun _ _ _ _ _ _ _ _ _ _ c => c)
      have hp := hI.1
      have hO : ∀ b, (gm_o b p o = -1 ∨ 0 ≤ gm_o b p o) := by
        intro b
        unfold gm_o
        repeat' split
        · exact Or.inr (nI_pos' (by omega))
        · exact ho
        · exact ho
      simp only [gm_run, gm_eq K V n _ _ p x S cc lc fc] at h1 ⊢
      revert h1
      generalize gm_v K V n p x S cc lc fc = r
      intro h1
      match r, h1 with
      | Sum.inl (e, w), h1 => exact Or.inl ⟨e, _, _, by have : e ≤ p + 2 := h1; omega, fun E D h => h⟩
      | Sum.inr (p', S', lc', fc', b, es, lw, aw, fw), h1 =>
        exact ih p' S' _ _ _ _ _ h1.1 (by have := h1.2.2.1; omega) (hO b)
theorem xm_start {post : SX → Prop} {f_tokenCount f_planCount f_next f_wrongToken f_looseJump f_latestPlace f_openLoopCount f_codeCount f_labelCount f_functionCount f_registerCount f_activeCalls f_stackCount f_nextCode f_running f_ending f_endingPlace f_resultValue f_ticksUsed f_printedCount : Int32} {a_tokenKind a_tokenValue a_planKind a_planValue a_planPlace a_argumentCount a_openLoop a_codeKind a_codeValue a_codePlace a_labelTarget a_functionStart a_functionParameters a_register a_frame a_returnTo a_stack a_element a_outputValue : Nat → Int32} (H : ∀ pk pv pp, xp_Pd pk pv pp [(100, 0, 0)] → post (f_tokenCount, nI 1, nI 0, -1, -1, f_latestPlace, nI 0, nI 0, nI 0, nI 0, f_registerCount, f_activeCalls, f_stackCount, f_nextCode, f_running, f_ending, f_endingPlace, f_resultValue, f_ticksUsed, f_printedCount, a_tokenKind, a_tokenValue, pk, pv, pp, a_argumentCount, a_openLoop, a_codeKind, a_codeValue, a_codePlace, a_labelTarget, a_functionStart, a_functionParameters, a_register, a_frame, a_returnTo, a_stack, a_element, a_outputValue)) : wpX_startParse post (f_tokenCount, f_planCount, f_next, f_wrongToken, f_looseJump, f_latestPlace, f_openLoopCount, f_codeCount, f_labelCount, f_functionCount, f_registerCount, f_activeCalls, f_stackCount, f_nextCode, f_running, f_ending, f_endingPlace, f_resultValue, f_ticksUsed, f_printedCount, a_tokenKind, a_tokenValue, a_planKind, a_planValue, a_planPlace, a_argumentCount, a_openLoop, a_codeKind, a_codeValue, a_codePlace, a_labelTarget, a_functionStart, a_functionParameters, a_register, a_frame, a_returnTo, a_stack, a_element, a_outputValue) := by
  unfold wpX_startParse
  exact xm_plan (P := []) 100 0 0 rfl (by decide) trivial H
