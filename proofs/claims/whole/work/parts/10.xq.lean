/-! X, compile: the loop over its plans -/
theorem gu_uu {f : Nat → Int32} {k : Nat} {a b : Int32} : upd (upd f k a) k b = upd f k b := by
  funext j
  by_cases h : j = k
  · subst h; rw [pk_us, pk_us]
  · rw [pk_un h, pk_un h, pk_un h]
def xW (post : Int32 → SX → Prop) (m : Nat) (s : Int32) (u : SX) : Prop := match u with
  | (f_tokenCount, f_planCount, f_next, f_wrongToken, f_looseJump, f_latestPlace, f_openLoopCount, f_codeCount, f_labelCount, f_functionCount, f_registerCount, f_activeCalls, f_stackCount, f_nextCode, f_running, f_ending, f_endingPlace, f_resultValue, f_ticksUsed, f_printedCount, a_tokenKind, a_tokenValue, a_planKind, a_planValue, a_planPlace, a_argumentCount, a_openLoop, a_codeKind, a_codeValue, a_codePlace, a_labelTarget, a_functionStart, a_functionParameters, a_register, a_frame, a_returnTo, a_stack, a_element, a_outputValue) => wX_compile_6 post m s f_tokenCount f_planCount f_next f_wrongToken f_looseJump f_latestPlace f_openLoopCount f_codeCount f_labelCount f_functionCount f_registerCount f_activeCalls f_stackCount f_nextCode f_running f_ending f_endingPlace f_resultValue f_ticksUsed f_printedCount a_tokenKind a_tokenValue a_planKind a_planValue a_planPlace a_argumentCount a_openLoop a_codeKind a_codeValue a_codePlace a_labelTarget a_functionStart a_functionParameters a_register a_frame a_returnTo a_stack a_element a_outputValue
def xL (post : Int32 → SX → Prop) (s : Nat) (u : SX) : Prop := ∀ m, 1000000 < m + s → xW post m (nI s) u
theorem xi_step {post : Int32 → SX → Prop} {f_tokenCount f_planCount f_next f_wrongToken f_looseJump f_latestPlace f_openLoopCount f_codeCount f_labelCount f_functionCount f_registerCount f_activeCalls f_stackCount f_nextCode f_running f_ending f_endingPlace f_resultValue f_ticksUsed f_printedCount : Int32} {a_tokenKind a_tokenValue a_planKind a_planValue a_planPlace a_argumentCount a_openLoop a_codeKind a_codeValue a_codePlace a_labelTarget a_functionStart a_functionParameters a_register a_frame a_returnTo a_stack a_element a_outputValue : Nat → Int32} {P : List gm_M} {k : Nat} {v : Int32} {q s : Nat} (hs : s < 1000000) (hc : f_planCount = nI ((k, v, q) :: P).length) (hl : P.length < 960)
    (hP : xp_Pd a_planKind a_planValue a_planPlace ((k, v, q) :: P)) (hw : f_wrongToken = -1)
    (H : ∀ Q : SX → Prop, (∀ u, xL post (s + 1) u → Q u) → wpX_follow Q (f_tokenCount, nI P.length, f_next, f_wrongToken, f_looseJump, f_latestPlace, f_openLoopCount, f_codeCount, f_labelCount, f_functionCount, f_registerCount, f_activeCalls, f_stackCount, f_nextCode, f_running, f_ending, f_endingPlace, f_resultValue, f_ticksUsed, f_printedCount, a_tokenKind, a_tokenValue, a_planKind, a_planValue, a_planPlace, a_argumentCount, a_openLoop, a_codeKind, a_codeValue, a_codePlace, a_labelTarget, a_functionStart, a_functionParameters, a_register, a_frame, a_returnTo, a_stack, a_element, a_outputValue) (nI k) v (nI q)) : xL post s (f_tokenCount, f_planCount, f_next, f_wrongToken, f_looseJump, f_latestPlace, f_openLoopCount, f_codeCount, f_labelCount, f_functionCount, f_registerCount, f_activeCalls, f_stackCount, f_nextCode, f_running, f_ending, f_endingPlace, f_resultValue, f_ticksUsed, f_printedCount, a_tokenKind, a_tokenValue, a_planKind, a_planValue, a_planPlace, a_argumentCount, a_openLoop, a_codeKind, a_codeValue, a_codePlace, a_labelTarget, a_functionStart, a_functionParameters, a_register, a_frame, a_returnTo, a_stack, a_element, a_outputValue) := by
  intro m hm
  obtain ⟨m, rfl⟩ : ∃ m', m = m' + 1 := ⟨m - 1, by omega⟩
  subst hc hw
  have h3 : (nI P.length).toNatClampNeg = P.length := nI_clamp (by omega)
  have h2 : vp_in (nI P.length) 960 := vp_in_nI hl (by decide)
  refine br_f (nI_ge (b := 1000000) hs (by decide)) (br_f (nI_nle (by simp) (by simp; omega)) (br_f (by decide) (nm_r (nI_pred _) ⟨h2, h2, h2, ?_⟩)))
  rw [h3, hP.1, hP.2.1, hP.2.2.1]
  refine H _ (fun u hu => ?_)
  obtain ⟨f_tokenCount', f_planCount', f_next', f_wrongToken', f_looseJump', f_latestPlace', f_openLoopCount', f_codeCount', f_labelCount', f_functionCount', f_registerCount', f_activeCalls', f_stackCount', f_nextCode', f_running', f_ending', f_endingPlace', f_resultValue', f_ticksUsed', f_printedCount', a_tokenKind', a_tokenValue', a_planKind', a_planValue', a_planPlace', a_argumentCount', a_openLoop', a_codeKind', a_codeValue', a_codePlace', a_labelTarget', a_functionStart', a_functionParameters', a_register', a_frame', a_returnTo', a_stack', a_element', a_outputValue'⟩ := u
  exact nm_r (nI_1 _) (hu m (by omega))
def xQ (post : Int32 → SX → Prop) (U : SX) (s p : Nat) (P : List gm_M) (lj : Int32) (ol : List Nat) (cc lc fc : Nat) (A : gm_A) : Prop :=
  ∀ pk pv pp oa : Nat → Int32, xp_Pd pk pv pp P → xp_Ol oa ol → xL post s (U.1, nI P.length, nI p, -1, lj, U.2.2.2.2.2.1, nI ol.length, nI cc, nI lc, nI fc, U.2.2.2.2.2.2.2.2.2.2.1, U.2.2.2.2.2.2.2.2.2.2.2.1, U.2.2.2.2.2.2.2.2.2.2.2.2.1, U.2.2.2.2.2.2.2.2.2.2.2.2.2.1, U.2.2.2.2.2.2.2.2.2.2.2.2.2.2.1, U.2.2.2.2.2.2.2.2.2.2.2.2.2.2.2.1, U.2.2.2.2.2.2.2.2.2.2.2.2.2.2.2.2.1, U.2.2.2.2.2.2.2.2.2.2.2.2.2.2.2.2.2.1, U.2.2.2.2.2.2.2.2.2.2.2.2.2.2.2.2.2.2.1, U.2.2.2.2.2.2.2.2.2.2.2.2.2.2.2.2.2.2.2.1, U.2.2.2.2.2.2.2.2.2.2.2.2.2.2.2.2.2.2.2.2.1, U.2.2.2.2.2.2.2.2.2.2.2.2.2.2.2.2.2.2.2.2.2.1, pk, pv, pp, A.2.2.2.2.1, oa, A.1, A.2.1, A.2.2.1, A.2.2.2.1, A.2.2.2.2.2.1, A.2.2.2.2.2.2.1, U.2.2.2.2.2.2.2.2.2.2.2.2.2.2.2.2.2.2.2.2.2.2.2.2.2.2.2.2.2.2.2.2.2.1, U.2.2.2.2.2.2.2.2.2.2.2.2.2.2.2.2.2.2.2.2.2.2.2.2.2.2.2.2.2.2.2.2.2.2.1, U.2.2.2.2.2.2.2.2.2.2.2.2.2.2.2.2.2.2.2.2.2.2.2.2.2.2.2.2.2.2.2.2.2.2.2.1, U.2.2.2.2.2.2.2.2.2.2.2.2.2.2.2.2.2.2.2.2.2.2.2.2.2.2.2.2.2.2.2.2.2.2.2.2.1, U.2.2.2.2.2.2.2.2.2.2.2.2.2.2.2.2.2.2.2.2.2.2.2.2.2.2.2.2.2.2.2.2.2.2.2.2.2.1, U.2.2.2.2.2.2.2.2.2.2.2.2.2.2.2.2.2.2.2.2.2.2.2.2.2.2.2.2.2.2.2.2.2.2.2.2.2.2)
def xE (post : Int32 → SX → Prop) (U : SX) (s e : Nat) (ac fp : Nat → Int32) : Prop :=
  ∀ (pc nx lj oc cc lc fc : Int32) (pk pv pp oa ck cv cp lt fs : Nat → Int32), xL post s (U.1, pc, nx, nI e, lj, U.2.2.2.2.2.1, oc, cc, lc, fc, U.2.2.2.2.2.2.2.2.2.2.1, U.2.2.2.2.2.2.2.2.2.2.2.1, U.2.2.2.2.2.2.2.2.2.2.2.2.1, U.2.2.2.2.2.2.2.2.2.2.2.2.2.1, U.2.2.2.2.2.2.2.2.2.2.2.2.2.2.1, U.2.2.2.2.2.2.2.2.2.2.2.2.2.2.2.1, U.2.2.2.2.2.2.2.2.2.2.2.2.2.2.2.2.1, U.2.2.2.2.2.2.2.2.2.2.2.2.2.2.2.2.2.1, U.2.2.2.2.2.2.2.2.2.2.2.2.2.2.2.2.2.2.1, U.2.2.2.2.2.2.2.2.2.2.2.2.2.2.2.2.2.2.2.1, U.2.2.2.2.2.2.2.2.2.2.2.2.2.2.2.2.2.2.2.2.1, U.2.2.2.2.2.2.2.2.2.2.2.2.2.2.2.2.2.2.2.2.2.1, pk, pv, pp, ac, oa, ck, cv, cp, lt, fs, fp, U.2.2.2.2.2.2.2.2.2.2.2.2.2.2.2.2.2.2.2.2.2.2.2.2.2.2.2.2.2.2.2.2.2.1, U.2.2.2.2.2.2.2.2.2.2.2.2.2.2.2.2.2.2.2.2.2.2.2.2.2.2.2.2.2.2.2.2.2.2.1, U.2.2.2.2.2.2.2.2.2.2.2.2.2.2.2.2.2.2.2.2.2.2.2.2.2.2.2.2.2.2.2.2.2.2.2.1, U.2.2.2.2.2.2.2.2.2.2.2.2.2.2.2.2.2.2.2.2.2.2.2.2.2.2.2.2.2.2.2.2.2.2.2.2.1, U.2.2.2.2.2.2.2.2.2.2.2.2.2.2.2.2.2.2.2.2.2.2.2.2.2.2.2.2.2.2.2.2.2.2.2.2.2.1, U.2.2.2.2.2.2.2.2.2.2.2.2.2.2.2.2.2.2.2.2.2.2.2.2.2.2.2.2.2.2.2.2.2.2.2.2.2.2)
def xh (U : SX) (K V : Nat → Int32) (n : Nat) : Prop :=
  U.1 = nI n ∧ n ≤ 120 ∧ (∀ p, gm_tk U.2.2.2.2.2.2.2.2.2.2.2.2.2.2.2.2.2.2.2.2.1 n p = gm_tk K n p) ∧ (∀ p, p < n → U.2.2.2.2.2.2.2.2.2.2.2.2.2.2.2.2.2.2.2.2.2.1 p = V p) ∧ (∀ q, q < n → ∃ k, k ≤ 41 ∧ U.2.2.2.2.2.2.2.2.2.2.2.2.2.2.2.2.2.2.2.2.1 q = nI k)
section
variable {post : Int32 → SX → Prop} {U : SX} {K V : Nat → Int32} {n s p cc lc fc : Nat} {P : List gm_M} {lj : Int32} {ol : List Nat} {A : gm_A}
theorem xq_tok {k : Nat} {v : Int32} {q : Nat} (hU : xh U K V n) (hs : s < 1000000) (hl : P.length < 960) (hp : p ≤ 120) (hk : k < 42)
    (H1 : gm_tk K n p = nI k → xQ post U (s + 1) (p + 1) P lj ol cc lc fc A) (H2 : ¬ gm_tk K n p = nI k → xE post U (s + 1) p A.2.2.2.2.1 A.2.2.2.2.2.2.1) : xQ post U s p ((k, v, q) :: P) lj ol cc lc fc A := by
  intro pk pv pp oa hP hO
  refine xi_step hs rfl hl hP rfl fun Q hQ => ?_
  refine br_f (nI_ge (b := 42) hk (by decide)) ?_
  rw [← hU.2.2.1 p] at H1 H2
  exact xm_take (nI k) rfl hU.1 hU.2.1 hp (fun h => hQ _ (H1 h _ _ _ _ hP.2.2.2 hO)) (fun h => hQ _ (H2 h _ _ _ _ _ _ _ _ _ _ _ _ _ _ _ _))
theorem xq_emit {k : Nat} {v : Int32} {q : Nat} (hs : s < 1000000) (hl : P.length < 960) (hc : cc < 360) (hk : k < 100)
    (H : xQ post U (s + 1) p P lj ol (cc + 1) lc fc (gm_up A cc fc p [(k, v, q)] none none none)) : xQ post U s p ((200 + k, v, q) :: P) lj ol cc lc fc A := by
  intro pk pv pp oa hP hO
  refine xi_step hs rfl hl hP rfl fun Q hQ => ?_
  refine br_t (nI_le (a := 42) (by omega) (by omega)) (br_f (nI_nlt (b := 200) (by omega) (by omega)) ?_)
  rw [show nI (200 + k) - 200 = nI k from (pk_sub (a := 200 + k) (b := 200) (by omega)).trans (congrArg nI (by omega))]
  exact xm_emit rfl hc (hQ _ (H _ _ _ _ hP.2.2.2 hO))
theorem xq_100 {v : Int32} {q : Nat} (hU : xh U K V n) (hs : s < 1000000) (hl : P.length + 9 < 960) (hp : p ≤ 120) (hf : fc ≤ 4)
    (H0 : gm_tk K n p = -1 → 0 < fc → xQ post U (s + 1) p P lj ol cc lc fc A) (H4 : ¬ (gm_tk K n p = -1 ∧ 0 < fc) → fc = 4 → xE post U (s + 1) p A.2.2.2.2.1 A.2.2.2.2.2.2.1)
    (H : ¬ (gm_tk K n p = -1 ∧ 0 < fc) → fc < 4 → xQ post U (s + 1) p ((41, 0, 0) :: (101, 0, 0) :: (8, 0, 0) :: (102, 0, 0) :: (9, 0, 0) :: (251, 0, 0) :: (239, 0, 0) :: (100, 0, 0) :: P) lj ol cc lc fc A) :
    xQ post U s p ((100, v, q) :: P) lj ol cc lc fc A := by
  intro pk pv pp oa hP hO
  refine xi_step hs rfl (by omega) hP rfl fun Q hQ => ?_
  rw [← hU.2.2.1 p] at H0 H4 H
  exact br_t (by decide) (br_t (by decide) (br_f (by decide) (br_f (by decide) (br_t (by decide) (xm_funs rfl hU.1 hU.2.1 hp rfl hP.2.2.2 rfl hf (by omega) (fun a b => hQ _ (H0 a b _ _ _ _ hP.2.2.2 hO)) (fun a b => hQ _ (H4 a b _ _ _ _ _ _ _ _ _ _ _ _ _ _ _ _)) (fun a b pk pv pp hP => hQ _ (H a b _ _ _ _ hP hO)))))))
theorem xq_101 {v : Int32} {q : Nat} (hU : xh U K V n) (hs : s < 1000000) (hl : P.length < 960) (hp : p ≤ 120) (hf : fc < 4)
    (H1 : gm_tk K n p = 0 → 0 ≤ V p → V p ≤ 3 → xQ post U (s + 1) (p + 1) P lj ol cc lc (fc + 1) (gm_up A cc fc (p + 2) [] none none (some (V p))))
    (H2 : ¬ (gm_tk K n p = 0 ∧ 0 ≤ V p ∧ V p ≤ 3) → xE post U (s + 1) p A.2.2.2.2.1 A.2.2.2.2.2.2.1) :
    xQ post U s p ((101, v, q) :: P) lj ol cc lc fc A := by
  intro pk pv pp oa hP hO
  refine xi_step hs rfl (by omega) hP rfl fun Q hQ => ?_
  have e : ∀ v, (p < n → v = U.2.2.2.2.2.2.2.2.2.2.2.2.2.2.2.2.2.2.2.2.2.1 p) → gm_tk K n p = 0 → v = V p := fun v hv h => (hv (gm_tk_lt h (by decide))).trans (hU.2.2.2.1 p (gm_tk_lt h (by decide)))
  have hk := hU.2.2.1 p
  exact br_t (by decide) (br_t (by decide) (br_f (by decide) (br_f (by decide) (br_f (by decide) (br_t (by decide) (xm_par rfl hU.1 hU.2.1 hp rfl hf (fun v hv a b c => by rw [e v hv (hk ▸ a)] at b c ⊢; exact hQ _ (H1 (hk ▸ a) b c _ _ _ _ hP.2.2.2 hO)) (fun v hv a => hQ _ (H2 (fun z => a ⟨hk.trans z.1, by rw [e v hv z.1]; exact z.2⟩) _ _ _ _ _ _ _ _ _ _ _ _ _ _ _ _))))))))
theorem xq_102 {v : Int32} {q : Nat} (hU : xh U K V n) (hs : s < 1000000) (hl : P.length + 2 < 960) (hp : p ≤ 120)
    (H1 : gm_tk K n p = 9 → xQ post U (s + 1) p P lj ol cc lc fc A) (H2 : ¬ gm_tk K n p = 9 → xQ post U (s + 1) p ((103, 0, 0) :: (102, 0, 0) :: P) lj ol cc lc fc A) :
    xQ post U s p ((102, v, q) :: P) lj ol cc lc fc A := by
  intro pk pv pp oa hP hO
  refine xi_step hs rfl (by omega) hP rfl fun Q hQ => ?_
  rw [← hU.2.2.1 p] at H1 H2
  exact br_t (by decide) (br_t (by decide) (br_f (by decide) (br_f (by decide) (br_f (by decide) (br_f (by decide) (br_t (by decide) (xm_stmts rfl hU.1 hU.2.1 hp rfl hP.2.2.2 hl (fun h => hQ _ (H1 h _ _ _ _ hP.2.2.2 hO)) (fun h pk pv pp hP => hQ _ (H2 h _ _ _ _ hP hO)))))))))
theorem xq_106 {w : Int32} {q : Nat} (hs : s < 1000000) (hl : P.length + 2 < 960)
    (H : xQ post U (s + 1) p ((108, 0, 0) :: (107, w, 0) :: P) lj ol cc lc fc A) : xQ post U s p ((106, w, q) :: P) lj ol cc lc fc A := by
  intro pk pv pp oa hP hO
  refine xi_step hs rfl (by omega) hP rfl fun Q hQ => ?_
  exact br_t (by decide) (br_t (by decide) (br_f (by decide) (br_f (by decide) (br_f (by decide) (br_f (by decide) (br_f (by decide) (br_f (by decide) (br_f (by decide) (br_f (by decide) (br_t (by decide) (xm_plan 107 w 0 rfl (by omega) hP.2.2.2 fun pk pv pp hP => xm_plan 108 0 0 rfl (by simp only [List.length_cons]; omega) hP fun pk pv pp hP => hQ _ (H _ _ _ _ hP hO))))))))))))
theorem xq_111 {l q : Nat} (hs : s < 1000000) (hl : P.length < 960) (hll : l < 240)
    (H : xQ post U (s + 1) p P lj ol cc lc fc (gm_up A cc fc p [] (some (l, cc)) none none)) : xQ post U s p ((111, nI l, q) :: P) lj ol cc lc fc A := by
  intro pk pv pp oa hP hO
  refine xi_step hs rfl (by omega) hP rfl fun Q hQ => ?_
  exact br_t (by decide) (br_t (by decide) (br_f (by decide) (br_f (by decide) (br_f (by decide) (br_f (by decide) (br_f (by decide) (br_f (by decide) (br_f (by decide) (br_f (by decide) (br_f (by decide) (br_f (by decide) (br_f (by decide) (br_f (by decide) (br_f (by decide) (br_t (by decide) (xm_putLabel rfl hll (hQ _ (H _ _ _ _ hP.2.2.2 hO))))))))))))))))))
theorem xq_104 {l q : Nat} (hU : xh U K V n) (hs : s < 1000000) (hl : P.length + 2 < 960) (hp : p ≤ 120) (hll : l < 240) (hc : cc < 360)
    (H1 : gm_tk K n p = 35 → xQ post U (s + 1) (p + 1) ((103, 0, 0) :: (111, nI (l + 1), 0) :: P) lj ol (cc + 1) lc fc (gm_up A cc fc (p + 1) [(58, nI (l + 1), 0)] (some (l, cc + 1)) none none))
    (H2 : ¬ gm_tk K n p = 35 → xQ post U (s + 1) p P lj ol cc lc fc (gm_up A cc fc p [] (some (l, cc)) none none)) : xQ post U s p ((104, nI l, q) :: P) lj ol cc lc fc A := by
  intro pk pv pp oa hP hO
  refine xi_step hs rfl (by omega) hP rfl fun Q hQ => ?_
  rw [← hU.2.2.1 p] at H1 H2
  refine br_t (by decide) (br_t (by decide) (br_f (by decide) (br_f (by decide) (br_f (by decide) (br_f (by decide) (br_f (by decide) (br_f (by decide) (br_t (by decide) (?_)))))))))
  by_cases h : gm_tk U.2.2.2.2.2.2.2.2.2.2.2.2.2.2.2.2.2.2.2.2.1 n p = 35
  · exact xm_els1 rfl hU.1 hU.2.1 hp rfl hP.2.2.2 rfl hll h rfl hc hl (fun pk pv pp hP => hQ _ (H1 h _ _ _ _ hP hO))
  · exact xm_els0 rfl hU.1 hU.2.1 hp rfl hll h (hQ _ (H2 h _ _ _ _ hP.2.2.2 hO))
theorem xq_105 {a b q : Nat} (hs : s < 1000000) (hl : P.length < 960) (hll : a + 1 < 240) (hc : cc < 360) (hol : ol.length < 120)
    (H : xQ post U (s + 1) p P lj ol (cc + 1) lc fc (gm_up A cc fc p [(58, nI a, 0)] (some (a + 1, cc + 1)) none none)) : xQ post U s p ((105, nI a, q) :: P) lj (b :: ol) cc lc fc A := by
  intro pk pv pp oa hP hO
  refine xi_step hs rfl (by omega) hP rfl fun Q hQ => ?_
  exact br_t (by decide) (br_t (by decide) (br_f (by decide) (br_f (by decide) (br_f (by decide) (br_f (by decide) (br_f (by decide) (br_f (by decide) (br_f (by decide) (br_t (by decide) (xm_endLoop rfl hll rfl hc rfl hol (hQ _ (H _ _ _ _ hP.2.2.2 hO.2))))))))))))
theorem xq_109 {v : Int32} {q : Nat} (hU : xh U K V n) (hs : s < 1000000) (hl : P.length + 2 < 960) (hp : p ≤ 120) (hq : q < 120)
    (H1 : gm_tk K n p = 5 → xQ post U (s + 1) (p + 1) P lj ol cc lc fc (gm_up A cc fc (p + 1) [] none (some (q, 0)) none))
    (H2 : ¬ gm_tk K n p = 5 → xQ post U (s + 1) p ((106, 1, 0) :: (110, 0, q) :: P) lj ol cc lc fc (gm_up A cc fc p [] none (some (q, 1)) none)) : xQ post U s p ((109, v, q) :: P) lj ol cc lc fc A := by
  intro pk pv pp oa hP hO
  refine xi_step hs rfl (by omega) hP rfl fun Q hQ => ?_
  rw [← hU.2.2.1 p] at H1 H2
  refine br_t (by decide) (br_t (by decide) (br_f (by decide) (br_f (by decide) (br_f (by decide) (br_f (by decide) (br_f (by decide) (br_f (by decide) (br_f (by decide) (br_f (by decide) (br_f (by decide) (br_f (by decide) (br_f (by decide) (br_t (by decide) (?_))))))))))))))
  refine xm_args rfl hU.1 hU.2.1 hp rfl hP.2.2.2 rfl hq hl (fun h => hQ _ (H1 h _ _ _ _ hP.2.2.2 hO)) (fun h pk pv pp hP => ?_)
  rw [gu_uu, show (0 : Int32) + 1 = nI 1 from by decide]
  exact hQ _ (H2 h _ _ _ _ hP hO)
theorem xq_110 {v : Int32} {q c : Nat} (hU : xh U K V n) (hs : s < 1000000) (hl : P.length + 2 < 960) (hp : p ≤ 120) (hq : q < 120) (hc : A.2.2.2.2.1 q = nI c)
    (H1 : gm_tk K n p = 11 → xQ post U (s + 1) (p + 1) ((106, 1, 0) :: (110, 0, q) :: P) lj ol cc lc fc (gm_up A cc fc (p + 1) [] none (some (q, c + 1)) none))
    (H2 : gm_tk K n p = 5 → xQ post U (s + 1) (p + 1) P lj ol cc lc fc A) (H3 : ¬ gm_tk K n p = 11 → ¬ gm_tk K n p = 5 → xE post U (s + 1) p A.2.2.2.2.1 A.2.2.2.2.2.2.1) :
    xQ post U s p ((110, v, q) :: P) lj ol cc lc fc A := by
  intro pk pv pp oa hP hO
  refine xi_step hs rfl (by omega) hP rfl fun Q hQ => ?_
  rw [← hU.2.2.1 p] at H1 H2 H3
  refine br_t (by decide) (br_t (by decide) (br_f (by decide) (br_f (by decide) (br_f (by decide) (br_f (by decide) (br_f (by decide) (br_f (by decide) (br_f (by decide) (br_f (by decide) (br_f (by decide) (br_f (by decide) (br_f (by decide) (br_f (by decide) (br_t (by decide) (?_)))))))))))))))
  refine xm_margs rfl hU.1 hU.2.1 hp rfl hP.2.2.2 rfl hq hl (fun h pk pv pp hP => ?_) (fun h => hQ _ (H2 h _ _ _ _ hP.2.2.2 hO)) (fun h h' => hQ _ (H3 h h' _ _ _ _ _ _ _ _ _ _ _ _ _ _ _ _))
  rw [hc, nI_1]
  exact hQ _ (H1 h _ _ _ _ hP hO)
end
