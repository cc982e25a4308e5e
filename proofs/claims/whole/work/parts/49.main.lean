/-! run: both sides step by step -/
def cx (PX : Int32 → SX → Prop) (YS : (SY → Prop) → Prop) (U : SX) (W : SY) (n NF r : Nat) (F : gm_A) : Prop :=
  zh U F r ∧ yb W n ∧ W.2.2.2.2.2.2.2.2.2.2.2.2.2.2.2.2.2.2.2.2.2.2.2.2.2.2.2.2.1 = F.2.2.2.2.2.2.1 ∧ W.2.2.2.2.2.2.2.2.2.2.2.2.2.2.2.2.2.2.2.2.2.2.2.2.2.2.2.1 = F.2.2.2.2.2.2.2 ∧ NF ≤ 4 ∧ (∀ q, q < n → W.2.2.2.2.2.2.2.2.2.2.2.2.2.2.2.2.2.2.2.2.2.2.2.2.1 q = 2 → W.2.2.2.2.2.2.2.2.2.2.2.2.2.2.2.2.2.2.2.2.2.2.2.2.2.1 q < nI NF ∧ F.2.2.2.2.1 q = F.2.2.2.2.2.2.1 (W.2.2.2.2.2.2.2.2.2.2.2.2.2.2.2.2.2.2.2.2.2.2.2.2.2.1 q).toNatClampNeg)
  ∧ (∀ f, f < NF → ∃ m p cc lc c, m ≤ 400 ∧ gm_ok W.2.2.2.2.2.2.2.2.2.2.2.2.2.2.2.2.2.2.2.2.2.2.2.2.1 W.2.2.2.2.2.2.2.2.2.2.2.2.2.2.2.2.2.2.2.2.2.2.2.2.2.1 n F NF m p [gi_B, gi_F, gi_P] cc lc (f + 1) ∧ F.2.2.2.2.2.2.2 f = nI p ∧ F.2.2.2.2.2.1 f = nI cc ∧ F.2.2.2.2.2.2.1 f = nI c ∧ c ≤ 3)
  ∧ (∀ how pl v t pr mem out, t ≤ 120 → (how = 0 ∨ v = 0) → (∀ Q, yF Q W how pl v t pr mem out → YS Q) → zF PX U how pl v t pr mem out)
def RG (PX : Int32 → SX → Prop) (YS : (SY → Prop) → Prop) (U : SX) (W : SY) (n NF r : Nat) (F : gm_A) (N : Nat) : Prop :=
  ∀ (s G b p t pr cc lc fc m hb u : Nat) (vs : List Int32) (S : List gm_I) (T Tb : List Nat) (vr rt mem out : Nat → Int32),
    gm_ok W.2.2.2.2.2.2.2.2.2.2.2.2.2.2.2.2.2.2.2.2.2.2.2.2.1 W.2.2.2.2.2.2.2.2.2.2.2.2.2.2.2.2.2.2.2.2.2.2.2.2.2.1 n F NF m p S cc lc fc → zl W.2.2.2.2.2.2.2.2.2.2.2.2.2.2.2.2.2.2.2.2.2.2.2.2.1 W.2.2.2.2.2.2.2.2.2.2.2.2.2.2.2.2.2.2.2.2.2.2.2.2.2.1 n F NF Tb hb S T vs.length → frs W.2.2.2.2.2.2.2.2.2.2.2.2.2.2.2.2.2.2.2.2.2.2.2.2.1 W.2.2.2.2.2.2.2.2.2.2.2.2.2.2.2.2.2.2.2.2.2.2.2.2.2.1 n F NF rt b Tb hb u →
    (∀ Q, (∀ g, g ≤ G → yR Q W g (b + 1) vs p t pr T vr mem out) → YS Q) → m ≤ 400 → b ≤ 7 → t ≤ 120 → pr ≤ s → t * 401 + m + u < N → G + 2 * (t * 401 + m + u) + 5 ≤ 400000 → s + 4 * (t * 401 + m + u) + 5 ≤ 1000000 →
    zX PX U r s b vs cc t pr vr rt mem out
theorem mn_bd {PX : Int32 → SX → Prop} {YS : (SY → Prop) → Prop} {U : SX} {W : SY} {n NF r : Nat} {F : gm_A} {b p cc lc fc m hb u : Nat} {vs : List Int32} {S : List gm_I} {T Tb : List Nat} {rt : Nat → Int32} (c : cx PX YS U W n NF r F) (hok : gm_ok W.2.2.2.2.2.2.2.2.2.2.2.2.2.2.2.2.2.2.2.2.2.2.2.2.1 W.2.2.2.2.2.2.2.2.2.2.2.2.2.2.2.2.2.2.2.2.2.2.2.2.2.1 n F NF m p S cc lc fc) (hz : zl W.2.2.2.2.2.2.2.2.2.2.2.2.2.2.2.2.2.2.2.2.2.2.2.2.1 W.2.2.2.2.2.2.2.2.2.2.2.2.2.2.2.2.2.2.2.2.2.2.2.2.2.1 n F NF Tb hb S T vs.length) (hf : frs W.2.2.2.2.2.2.2.2.2.2.2.2.2.2.2.2.2.2.2.2.2.2.2.2.1 W.2.2.2.2.2.2.2.2.2.2.2.2.2.2.2.2.2.2.2.2.2.2.2.2.2.1 n F NF rt b Tb hb u) (hb7 : b ≤ 7) : T.length < 1100 ∧ vs.length < 500 ∧ Tb.length < 980 ∧ hb < 440 := by
  have h1 := frs_bd c.2.1.2.2.1 c.2.1.2.1 b hf
  have h2 := zl_bd c.2.1.2.2.1 c.2.1.2.1 hok hz
  omega
theorem mn_up1 {F : gm_A} {cc fc p' k q : Nat} {v : Int32} {es : List gm_M} {lw : Option (Nat × Nat)} {fw : Option Int32} (h : gm_up F cc fc p' ((k, v, q) :: es) lw none fw = F) : F.1 cc = nI k ∧ F.2.1 cc = v ∧ F.2.2.1 cc = nI q := by
  have h1 := congrArg (fun z : gm_A => z.1 cc) h
  have h2 := congrArg (fun z : gm_A => z.2.1 cc) h
  have h3 := congrArg (fun z : gm_A => z.2.2.1 cc) h
  simp only [gm_up, gu_k] at h1 h2 h3
  rw [gu_lo _ _ _ _ _ (by omega), pk_us] at h1 h2 h3
  exact ⟨h1.symm, h2.symm, h3.symm⟩
theorem mn_up2 {F : gm_A} {cc fc p' k q : Nat} {v : Int32} {x : gm_M} {es : List gm_M} {lw : Option (Nat × Nat)} {fw : Option Int32} (h : gm_up F cc fc p' (x :: (k, v, q) :: es) lw none fw = F) : F.1 (cc + 1) = nI k ∧ F.2.1 (cc + 1) = v ∧ F.2.2.1 (cc + 1) = nI q := by
  have h1 := congrArg (fun z : gm_A => z.1 (cc + 1)) h
  have h2 := congrArg (fun z : gm_A => z.2.1 (cc + 1)) h
  have h3 := congrArg (fun z : gm_A => z.2.2.1 (cc + 1)) h
  simp only [gm_up, gu_k] at h1 h2 h3
  rw [gu_lo _ _ _ _ _ (by omega), pk_us] at h1 h2 h3
  exact ⟨h1.symm, h2.symm, h3.symm⟩
theorem mn_up3 {F : gm_A} {cc fc p' k q : Nat} {v : Int32} {x y : gm_M} {es : List gm_M} {lw : Option (Nat × Nat)} {fw : Option Int32} (h : gm_up F cc fc p' (x :: y :: (k, v, q) :: es) lw none fw = F) : F.1 (cc + 2) = nI k ∧ F.2.1 (cc + 2) = v ∧ F.2.2.1 (cc + 2) = nI q := by
  have h1 := congrArg (fun z : gm_A => z.1 (cc + 2)) h
  have h2 := congrArg (fun z : gm_A => z.2.1 (cc + 2)) h
  have h3 := congrArg (fun z : gm_A => z.2.2.1 (cc + 2)) h
  simp only [gm_up, gu_k] at h1 h2 h3
  rw [gu_lo _ _ _ _ _ (by omega), pk_us] at h1 h2 h3
  exact ⟨h1.symm, h2.symm, h3.symm⟩
theorem mn_lab {F : gm_A} {cc fc p' : Nat} {es : List gm_M} {l t : Nat} {fw : Option Int32} (h : gm_up F cc fc p' es (some (l, t)) none fw = F) : F.2.2.2.1 l = nI t := by
  have h1 := congrArg (fun z : gm_A => z.2.2.2.1 l) h
  simp only [gm_up, gu_l, pk_us] at h1
  exact h1.symm
theorem mn_fun {PX : Int32 → SX → Prop} {YS : (SY → Prop) → Prop} {U : SX} {W : SY} {n NF r : Nat} {F : gm_A} (c : cx PX YS U W n NF r F) {q : Nat} (hq : q < n) (h2 : W.2.2.2.2.2.2.2.2.2.2.2.2.2.2.2.2.2.2.2.2.2.2.2.2.1 q = 2) : ∃ f cn, f < NF ∧ W.2.2.2.2.2.2.2.2.2.2.2.2.2.2.2.2.2.2.2.2.2.2.2.2.2.1 q = nI f ∧ (W.2.2.2.2.2.2.2.2.2.2.2.2.2.2.2.2.2.2.2.2.2.2.2.2.2.1 q).toNatClampNeg = f ∧ F.2.2.2.2.2.2.1 f = nI cn ∧ cn ≤ 3 ∧ F.2.2.2.2.1 q = nI cn := by
  obtain ⟨f, hf, ef⟩ := (c.2.1.2.2.1 q hq).2.2 h2
  have h3 := c.2.2.2.2.2.1 q hq h2
  have hNF := c.2.2.2.2.1
  have e : (nI f).toNatClampNeg = f := nI_clamp (by omega)
  rw [ef] at h3
  have hlt : f < NF := (nI_ltI (by omega) (by omega)).mp h3.1
  obtain ⟨m, p, cc, lc, cn, _, _, _, _, h4, h5⟩ := c.2.2.2.2.2.2.1 f hlt
  exact ⟨f, cn, hlt, ef, by rw [ef]; exact e, h4, h5, by rw [h3.2, e]; exact h4⟩
theorem zl_e {K V : Nat → Int32} {n : Nat} {F : gm_A} {NF : Nat} {Tb T : List Nat} {hb h e : Nat} {x : gm_I} {S : List gm_I} (hx : x.1 = 3 ∨ x.1 = 4 ∨ x.1 = 5 ∨ x.1 = 11 ∨ x.1 = 13 ∨ x.1 = 15) (he : yp_e e (yd_c x)) (h1 : (x.1 = 11 ∨ x.1 = 13 ∨ x.1 = 15) → 1 ≤ h) (hz : zl K V n F NF Tb hb S T h) : zl K V n F NF Tb hb (x :: S) (e :: T) h := by
  unfold zl
  rw [if_neg (by omega), if_neg (by omega), if_neg (by omega), if_neg (by omega), if_neg (by omega), if_neg (by omega), if_neg (by omega), if_neg (by omega), if_neg (by omega), if_neg (by omega), if_neg (by omega), if_neg (by omega), if_neg (by omega), if_neg (by omega)]
  exact ⟨e, T, rfl, he, h1, hz⟩
theorem mn_2 {PX : Int32 → SX → Prop} {YS : (SY → Prop) → Prop} {U : SX} {W : SY} {n NF r N : Nat} {F : gm_A} {s G b p t pr cc lc fc m hb u : Nat} {vs : List Int32} {S : List gm_I} {T Tb : List Nat} {vr rt mem out : Nat → Int32} (c : cx PX YS U W n NF r F) (IH : RG PX YS U W n NF r F N) {a d e0 : Nat} {v : Int32} (hok : gm_ok W.2.2.2.2.2.2.2.2.2.2.2.2.2.2.2.2.2.2.2.2.2.2.2.2.1 W.2.2.2.2.2.2.2.2.2.2.2.2.2.2.2.2.2.2.2.2.2.2.2.2.2.1 n F NF m p ((2, a, d, e0, v) :: S) cc lc fc) (hz : zl W.2.2.2.2.2.2.2.2.2.2.2.2.2.2.2.2.2.2.2.2.2.2.2.2.1 W.2.2.2.2.2.2.2.2.2.2.2.2.2.2.2.2.2.2.2.2.2.2.2.2.2.1 n F NF Tb hb ((2, a, d, e0, v) :: S) T vs.length) (hf : frs W.2.2.2.2.2.2.2.2.2.2.2.2.2.2.2.2.2.2.2.2.2.2.2.2.1 W.2.2.2.2.2.2.2.2.2.2.2.2.2.2.2.2.2.2.2.2.2.2.2.2.2.1 n F NF rt b Tb hb u)
    (HY : ∀ Q, (∀ g, g ≤ G → yR Q W g (b + 1) vs p t pr T vr mem out) → YS Q) (hm : m ≤ 400) (hb7 : b ≤ 7) (ht : t ≤ 120) (hpr : pr ≤ s) (hN : t * 401 + m + u < N + 1) (hG : G + 2 * (t * 401 + m + u) + 5 ≤ 400000) (hs : s + 4 * (t * 401 + m + u) + 5 ≤ 1000000) : zX PX U r s b vs cc t pr vr rt mem out := by
  have hn := c.2.1.2.1
  have bd := mn_bd c hok hz hf hb7
  obtain ⟨m, rfl⟩ : ∃ m', m = m' + 1 := by
    cases m with
    | zero => exact hok.elim
    | succ m => exact ⟨m, rfl⟩
  obtain ⟨hI, hsc, hd⟩ := hok
  have hp := hI.1
  have l1 := hI.2.1.1
  have hv := hI.2.2.2.2.2.1.1
  have hs2 := hI.2.2.2.2.2.2.2
  unfold gm_d at hd
  dsimp only at hd
  rw [if_neg (by decide), if_pos rfl] at hd
  unfold zl at hz
  dsimp only at hz
  rw [if_neg (by decide), if_pos rfl] at hz
  obtain ⟨rfl, rfl, hvs⟩ := hz
  obtain ⟨_, hu, hok⟩ := hd
  have u1 := mn_up1 hu
  have u2 := mn_up2 hu
  simp only [gm_sm] at l1
  simp [gw_e] at l1
  cases b with
  | zero =>
    obtain ⟨rfl, rfl, rfl⟩ := hf
    have e0 : vs = [] := List.length_eq_zero_iff.mp hvs
    subst e0
    refine zx_push c.1 (by omega) (by omega) (by simp) u1.1 u1.2.1 ?_
    refine zx_ret0 (b := 0) c.1 (by omega) (by omega) (by simp) u2.1 ?_
    refine c.2.2.2.2.2.2.2 0 (-1) 0 t pr mem out ht (by simp) (fun Q hq => HY Q (fun g hg => ?_))
    refine yl_frame (b := 0) c.2.1 (by omega) hp (by simp) (by simp) rfl (by decide) rfl ?_
    exact yl_done (n := n) (vs := []) (T := []) (by omega) hq
  | succ b =>
    obtain ⟨mc, pc, Sc, ccc, lcc, fcc, T', Tb', hb', u', rfl, hokc, hmc, hrt, hzc, hfc, rfl⟩ := hf
    have hpc := (gm_ok_inv hokc).1
    refine zx_push c.1 (by omega) (by omega) (by omega) u1.1 u1.2.1 ?_
    refine zx_ret c.1 (by omega) (by omega) (by omega) u2.1 (by omega) hrt ?_
    refine IH (s + 1 + 1) (G + 1) _ _ _ _ _ _ _ _ _ _ _ _ _ _ _ _ _ _ hokc (by rw [List.length_cons, hvs]; exact hzc) hfc (fun Q q => HY Q (fun g hg => yl_frame (q := pc) (b := b + 1) c.2.1 (by omega) hp (by omega) (by simp only [List.length_cons] at bd; omega) (by rw [hvs]) (by omega) rfl (q _ (by omega)))) hmc (by omega) ht (by omega) (by omega) (by omega) (by omega)
theorem mn_5 {PX : Int32 → SX → Prop} {YS : (SY → Prop) → Prop} {U : SX} {W : SY} {n NF r N : Nat} {F : gm_A} {s G b p t pr cc lc fc m hb u : Nat} {vs : List Int32} {S : List gm_I} {T Tb : List Nat} {vr rt mem out : Nat → Int32} (c : cx PX YS U W n NF r F) (IH : RG PX YS U W n NF r F N) {a d e0 : Nat} {v : Int32} (hok : gm_ok W.2.2.2.2.2.2.2.2.2.2.2.2.2.2.2.2.2.2.2.2.2.2.2.2.1 W.2.2.2.2.2.2.2.2.2.2.2.2.2.2.2.2.2.2.2.2.2.2.2.2.2.1 n F NF m p ((5, a, d, e0, v) :: S) cc lc fc) (hz : zl W.2.2.2.2.2.2.2.2.2.2.2.2.2.2.2.2.2.2.2.2.2.2.2.2.1 W.2.2.2.2.2.2.2.2.2.2.2.2.2.2.2.2.2.2.2.2.2.2.2.2.2.1 n F NF Tb hb ((5, a, d, e0, v) :: S) T vs.length) (hf : frs W.2.2.2.2.2.2.2.2.2.2.2.2.2.2.2.2.2.2.2.2.2.2.2.2.1 W.2.2.2.2.2.2.2.2.2.2.2.2.2.2.2.2.2.2.2.2.2.2.2.2.2.1 n F NF rt b Tb hb u)
    (HY : ∀ Q, (∀ g, g ≤ G → yR Q W g (b + 1) vs p t pr T vr mem out) → YS Q) (hm : m ≤ 400) (hb7 : b ≤ 7) (ht : t ≤ 120) (hpr : pr ≤ s) (hN : t * 401 + m + u < N + 1) (hG : G + 2 * (t * 401 + m + u) + 5 ≤ 400000) (hs : s + 4 * (t * 401 + m + u) + 5 ≤ 1000000) : zX PX U r s b vs cc t pr vr rt mem out := by
  have hn := c.2.1.2.1
  have bd := mn_bd c hok hz hf hb7
  obtain ⟨m, rfl⟩ : ∃ m', m = m' + 1 := by
    cases m with
    | zero => exact hok.elim
    | succ m => exact ⟨m, rfl⟩
  obtain ⟨hI, hsc, hd⟩ := hok
  have hp := hI.1
  have l1 := hI.2.1.1
  have hv := hI.2.2.2.2.2.1.1
  have hs2 := hI.2.2.2.2.2.2.2
  unfold gm_d at hd
  dsimp only at hd
  rw [if_neg (by decide), if_neg (by decide), if_neg (by decide), if_neg (by decide), if_pos rfl] at hd
  unfold zl at hz
  dsimp only at hz
  rw [if_neg (by decide), if_neg (by decide), if_neg (by decide), if_neg (by decide), if_neg (by decide), if_neg (by decide), if_neg (by decide), if_neg (by decide), if_neg (by decide), if_neg (by decide), if_neg (by decide), if_neg (by decide), if_neg (by decide), if_neg (by decide)] at hz
  obtain ⟨e, T', rfl, he, _, hz⟩ := hz
  have ha : a ≤ 41 := by simpa [gm_vl] using hv
  by_cases h1 : gm_tk W.2.2.2.2.2.2.2.2.2.2.2.2.2.2.2.2.2.2.2.2.2.2.2.2.1 n p = nI a
  · rw [if_pos h1] at hd
    exact IH s (G + 1) _ _ _ _ _ _ _ _ _ _ _ _ _ _ _ _ _ _ hd.2.2 hz hf (fun Q q => HY Q (fun g hg => yl_X c.2.1 (by omega) hp (by omega) (by simp only [List.length_cons] at bd; omega) he ha h1 (q _ (by omega)))) (by omega) hb7 ht (by omega) (by omega) (by omega) (by omega)
  · rw [if_neg h1] at hd
    exact hd.elim
theorem mn_8 {PX : Int32 → SX → Prop} {YS : (SY → Prop) → Prop} {U : SX} {W : SY} {n NF r N : Nat} {F : gm_A} {s G b p t pr cc lc fc m hb u : Nat} {vs : List Int32} {S : List gm_I} {T Tb : List Nat} {vr rt mem out : Nat → Int32} (c : cx PX YS U W n NF r F) (IH : RG PX YS U W n NF r F N) {a d e0 : Nat} {v : Int32} (hok : gm_ok W.2.2.2.2.2.2.2.2.2.2.2.2.2.2.2.2.2.2.2.2.2.2.2.2.1 W.2.2.2.2.2.2.2.2.2.2.2.2.2.2.2.2.2.2.2.2.2.2.2.2.2.1 n F NF m p ((8, a, d, e0, v) :: S) cc lc fc) (hz : zl W.2.2.2.2.2.2.2.2.2.2.2.2.2.2.2.2.2.2.2.2.2.2.2.2.1 W.2.2.2.2.2.2.2.2.2.2.2.2.2.2.2.2.2.2.2.2.2.2.2.2.2.1 n F NF Tb hb ((8, a, d, e0, v) :: S) T vs.length) (hf : frs W.2.2.2.2.2.2.2.2.2.2.2.2.2.2.2.2.2.2.2.2.2.2.2.2.1 W.2.2.2.2.2.2.2.2.2.2.2.2.2.2.2.2.2.2.2.2.2.2.2.2.2.1 n F NF rt b Tb hb u)
    (HY : ∀ Q, (∀ g, g ≤ G → yR Q W g (b + 1) vs p t pr T vr mem out) → YS Q) (hm : m ≤ 400) (hb7 : b ≤ 7) (ht : t ≤ 120) (hpr : pr ≤ s) (hN : t * 401 + m + u < N + 1) (hG : G + 2 * (t * 401 + m + u) + 5 ≤ 400000) (hs : s + 4 * (t * 401 + m + u) + 5 ≤ 1000000) : zX PX U r s b vs cc t pr vr rt mem out := by
  have hn := c.2.1.2.1
  have bd := mn_bd c hok hz hf hb7
  obtain ⟨m, rfl⟩ : ∃ m', m = m' + 1 := by
    cases m with
    | zero => exact hok.elim
    | succ m => exact ⟨m, rfl⟩
  obtain ⟨hI, hsc, hd⟩ := hok
  have hp := hI.1
  have l1 := hI.2.1.1
  have hv := hI.2.2.2.2.2.1.1
  have hs2 := hI.2.2.2.2.2.2.2
  unfold gm_d at hd
  dsimp only at hd
  rw [if_neg (by decide), if_neg (by decide), if_neg (by decide), if_neg (by decide), if_neg (by decide), if_neg (by decide), if_neg (by decide), if_pos rfl] at hd
  unfold zl at hz
  dsimp only at hz
  rw [if_neg (by decide), if_neg (by decide), if_pos rfl] at hz
  exact IH s G _ _ _ _ _ _ _ _ _ _ _ _ _ _ _ _ _ _ hd.2.2 hz hf HY (by omega) hb7 ht (by omega) (by omega) (by omega) (by omega)
theorem mn_15 {PX : Int32 → SX → Prop} {YS : (SY → Prop) → Prop} {U : SX} {W : SY} {n NF r N : Nat} {F : gm_A} {s G b p t pr cc lc fc m hb u : Nat} {vs : List Int32} {S : List gm_I} {T Tb : List Nat} {vr rt mem out : Nat → Int32} (c : cx PX YS U W n NF r F) (IH : RG PX YS U W n NF r F N) {a d e0 : Nat} {v : Int32} (hok : gm_ok W.2.2.2.2.2.2.2.2.2.2.2.2.2.2.2.2.2.2.2.2.2.2.2.2.1 W.2.2.2.2.2.2.2.2.2.2.2.2.2.2.2.2.2.2.2.2.2.2.2.2.2.1 n F NF m p ((15, a, d, e0, v) :: S) cc lc fc) (hz : zl W.2.2.2.2.2.2.2.2.2.2.2.2.2.2.2.2.2.2.2.2.2.2.2.2.1 W.2.2.2.2.2.2.2.2.2.2.2.2.2.2.2.2.2.2.2.2.2.2.2.2.2.1 n F NF Tb hb ((15, a, d, e0, v) :: S) T vs.length) (hf : frs W.2.2.2.2.2.2.2.2.2.2.2.2.2.2.2.2.2.2.2.2.2.2.2.2.1 W.2.2.2.2.2.2.2.2.2.2.2.2.2.2.2.2.2.2.2.2.2.2.2.2.2.1 n F NF rt b Tb hb u)
    (HY : ∀ Q, (∀ g, g ≤ G → yR Q W g (b + 1) vs p t pr T vr mem out) → YS Q) (hm : m ≤ 400) (hb7 : b ≤ 7) (ht : t ≤ 120) (hpr : pr ≤ s) (hN : t * 401 + m + u < N + 1) (hG : G + 2 * (t * 401 + m + u) + 5 ≤ 400000) (hs : s + 4 * (t * 401 + m + u) + 5 ≤ 1000000) : zX PX U r s b vs cc t pr vr rt mem out := by
  have hn := c.2.1.2.1
  have bd := mn_bd c hok hz hf hb7
  obtain ⟨m, rfl⟩ : ∃ m', m = m' + 1 := by
    cases m with
    | zero => exact hok.elim
    | succ m => exact ⟨m, rfl⟩
  obtain ⟨hI, hsc, hd⟩ := hok
  have hp := hI.1
  have l1 := hI.2.1.1
  have hv := hI.2.2.2.2.2.1.1
  have hs2 := hI.2.2.2.2.2.2.2
  unfold gm_d at hd
  dsimp only at hd
  rw [if_neg (by decide), if_neg (by decide), if_neg (by decide), if_neg (by decide), if_neg (by decide), if_neg (by decide), if_neg (by decide), if_neg (by decide), if_neg (by decide), if_neg (by decide), if_neg (by decide), if_neg (by decide), if_neg (by decide), if_neg (by decide), if_pos rfl] at hd
  unfold zl at hz
  dsimp only at hz
  rw [if_neg (by decide), if_neg (by decide), if_neg (by decide), if_neg (by decide), if_neg (by decide), if_neg (by decide), if_neg (by decide), if_neg (by decide), if_neg (by decide), if_neg (by decide), if_neg (by decide), if_neg (by decide), if_neg (by decide), if_neg (by decide)] at hz
  obtain ⟨e, T', rfl, he, h1, hz⟩ := hz
  obtain ⟨_, hu, hok⟩ := hd
  have u1 := mn_up1 hu
  simp only [gm_sm] at l1
  simp [gw_e] at l1
  have h1 := h1 (by simp)
  obtain ⟨v1, vs, rfl⟩ : ∃ v1 vs', vs = v1 :: vs' := by
    cases vs with
    | nil => simp at h1
    | cons v1 vs => exact ⟨v1, vs, rfl⟩
  refine zx_un c.1 (by omega) (by omega) (by simp only [List.length_cons] at bd; omega) u1.1 (by omega) ?_
  exact IH (s + 1) (G + 1) _ _ _ _ _ _ _ _ _ _ _ _ _ _ _ _ _ _ hok (by simpa using hz) hf (fun Q q => HY Q (fun g hg => yl_tru c.2.1 (by omega) hp (by simp only [List.length_cons] at bd ⊢; omega) (by simp only [List.length_cons] at bd ⊢; omega) he (q _ (by omega)))) (by omega) hb7 ht (by omega) (by omega) (by omega) (by omega)
theorem mn_11 {PX : Int32 → SX → Prop} {YS : (SY → Prop) → Prop} {U : SX} {W : SY} {n NF r N : Nat} {F : gm_A} {s G b p t pr cc lc fc m hb u : Nat} {vs : List Int32} {S : List gm_I} {T Tb : List Nat} {vr rt mem out : Nat → Int32} (c : cx PX YS U W n NF r F) (IH : RG PX YS U W n NF r F N) {a d e0 : Nat} {v : Int32} (hok : gm_ok W.2.2.2.2.2.2.2.2.2.2.2.2.2.2.2.2.2.2.2.2.2.2.2.2.1 W.2.2.2.2.2.2.2.2.2.2.2.2.2.2.2.2.2.2.2.2.2.2.2.2.2.1 n F NF m p ((11, a, d, e0, v) :: S) cc lc fc) (hz : zl W.2.2.2.2.2.2.2.2.2.2.2.2.2.2.2.2.2.2.2.2.2.2.2.2.1 W.2.2.2.2.2.2.2.2.2.2.2.2.2.2.2.2.2.2.2.2.2.2.2.2.2.1 n F NF Tb hb ((11, a, d, e0, v) :: S) T vs.length) (hf : frs W.2.2.2.2.2.2.2.2.2.2.2.2.2.2.2.2.2.2.2.2.2.2.2.2.1 W.2.2.2.2.2.2.2.2.2.2.2.2.2.2.2.2.2.2.2.2.2.2.2.2.2.1 n F NF rt b Tb hb u)
    (HY : ∀ Q, (∀ g, g ≤ G → yR Q W g (b + 1) vs p t pr T vr mem out) → YS Q) (hm : m ≤ 400) (hb7 : b ≤ 7) (ht : t ≤ 120) (hpr : pr ≤ s) (hN : t * 401 + m + u < N + 1) (hG : G + 2 * (t * 401 + m + u) + 5 ≤ 400000) (hs : s + 4 * (t * 401 + m + u) + 5 ≤ 1000000) : zX PX U r s b vs cc t pr vr rt mem out := by
  have hn := c.2.1.2.1
  have bd := mn_bd c hok hz hf hb7
  obtain ⟨m, rfl⟩ : ∃ m', m = m' + 1 := by
    cases m with
    | zero => exact hok.elim
    | succ m => exact ⟨m, rfl⟩
  obtain ⟨hI, hsc, hd⟩ := hok
  have hp := hI.1
  have l1 := hI.2.1.1
  have hv := hI.2.2.2.2.2.1.1
  have hs2 := hI.2.2.2.2.2.2.2
  unfold gm_d at hd
  dsimp only at hd
  rw [if_neg (by decide), if_neg (by decide), if_neg (by decide), if_neg (by decide), if_neg (by decide), if_neg (by decide), if_neg (by decide), if_neg (by decide), if_neg (by decide), if_neg (by decide), if_pos (by decide)] at hd
  unfold zl at hz
  dsimp only at hz
  rw [if_neg (by decide), if_neg (by decide), if_neg (by decide), if_neg (by decide), if_neg (by decide), if_neg (by decide), if_neg (by decide), if_neg (by decide), if_neg (by decide), if_neg (by decide), if_neg (by decide), if_neg (by decide), if_neg (by decide), if_neg (by decide)] at hz
  obtain ⟨e, T', rfl, he, h1, hz⟩ := hz
  obtain ⟨_, hu, hok⟩ := hd
  have u1 := mn_up1 hu
  simp only [gm_sm] at l1
  simp [gw_e] at l1
  have h1 := h1 (by simp)
  have hv2 : gm_ve W.2.2.2.2.2.2.2.2.2.2.2.2.2.2.2.2.2.2.2.2.2.2.2.2.1 n (11, a, d, e0, v) := by simpa [gm_vl] using hv
  unfold gm_ve at hv2
  dsimp only at hv2
  rw [if_pos rfl] at hv2
  have he : yp_e e e0 := he
  obtain ⟨v1, vs, rfl⟩ : ∃ v1 vs', vs = v1 :: vs' := by
    cases vs with
    | nil => simp at h1
    | cons v1 vs => exact ⟨v1, vs, rfl⟩
  rcases hv2 with ⟨rfl, rfl⟩ | ⟨rfl, rfl⟩ | ⟨rfl, rfl⟩ | ⟨rfl, hd2, rfl⟩
  · refine zx_un c.1 (by omega) (by omega) (by simp only [List.length_cons] at bd; omega) u1.1 (by omega) ?_
    exact IH (s + 1) (G + 1) _ _ _ _ _ _ _ _ _ _ _ _ _ _ _ _ _ _ hok (by simpa using hz) hf (fun Q q => HY Q (fun g hg => yl_sign (d := 28) (k := 50) c.2.1 (by omega) hp (by simp only [List.length_cons] at bd ⊢; omega) (by simp only [List.length_cons] at bd ⊢; omega) (by omega) he (q _ (by omega)))) (by omega) hb7 ht (by omega) (by omega) (by omega) (by omega)
  · refine zx_un c.1 (by omega) (by omega) (by simp only [List.length_cons] at bd; omega) u1.1 (by omega) ?_
    exact IH (s + 1) (G + 1) _ _ _ _ _ _ _ _ _ _ _ _ _ _ _ _ _ _ hok (by simpa using hz) hf (fun Q q => HY Q (fun g hg => yl_sign (d := 32) (k := 32) c.2.1 (by omega) hp (by simp only [List.length_cons] at bd ⊢; omega) (by simp only [List.length_cons] at bd ⊢; omega) (by omega) he (q _ (by omega)))) (by omega) hb7 ht (by omega) (by omega) (by omega) (by omega)
  · refine zx_un c.1 (by omega) (by omega) (by simp only [List.length_cons] at bd; omega) u1.1 (by omega) ?_
    exact IH (s + 1) (G + 1) _ _ _ _ _ _ _ _ _ _ _ _ _ _ _ _ _ _ hok (by simpa using hz) hf (fun Q q => HY Q (fun g hg => yl_sign (d := 33) (k := 33) c.2.1 (by omega) hp (by simp only [List.length_cons] at bd ⊢; omega) (by simp only [List.length_cons] at bd ⊢; omega) (by omega) he (q _ (by omega)))) (by omega) hb7 ht (by omega) (by omega) (by omega) (by omega)
  · refine zx_lde c.1 (by omega) (by omega) (by simp only [List.length_cons] at bd; omega) u1.1 u1.2.2 (fun z y => ?_) (fun z => ?_)
    · exact IH (s + 1) (G + 1) _ _ _ _ _ _ _ _ _ _ _ _ _ _ _ _ _ _ hok (by simpa using hz) hf (fun Q q => HY Q (fun g hg => yl_cell c.2.1 (by omega) hp (by simp only [List.length_cons] at bd ⊢; omega) (by simp only [List.length_cons] at bd ⊢; omega) he (by omega) (fun _ _ => (q _ (by omega))) (fun w => absurd w (fun w => w.elim z (fun w => w y))))) (by omega) hb7 ht (by omega) (by omega) (by omega) (by omega)
    · exact c.2.2.2.2.2.2.2 2 _ 0 t pr mem out ht (by simp) (fun Q hq => HY Q (fun g hg => yl_cell c.2.1 (by omega) hp (by simp only [List.length_cons] at bd ⊢; omega) (by simp only [List.length_cons] at bd ⊢; omega) he (by omega) (fun z1 z2 => absurd z (fun w => w.elim z1 (fun w => w z2))) (fun _ => hq)))
theorem mn_20 {PX : Int32 → SX → Prop} {YS : (SY → Prop) → Prop} {U : SX} {W : SY} {n NF r N : Nat} {F : gm_A} {s G b p t pr cc lc fc m hb u : Nat} {vs : List Int32} {S : List gm_I} {T Tb : List Nat} {vr rt mem out : Nat → Int32} (c : cx PX YS U W n NF r F) (IH : RG PX YS U W n NF r F N) {a d e0 : Nat} {v : Int32} (hok : gm_ok W.2.2.2.2.2.2.2.2.2.2.2.2.2.2.2.2.2.2.2.2.2.2.2.2.1 W.2.2.2.2.2.2.2.2.2.2.2.2.2.2.2.2.2.2.2.2.2.2.2.2.2.1 n F NF m p ((20, a, d, e0, v) :: S) cc lc fc) (hz : zl W.2.2.2.2.2.2.2.2.2.2.2.2.2.2.2.2.2.2.2.2.2.2.2.2.1 W.2.2.2.2.2.2.2.2.2.2.2.2.2.2.2.2.2.2.2.2.2.2.2.2.2.1 n F NF Tb hb ((20, a, d, e0, v) :: S) T vs.length) (hf : frs W.2.2.2.2.2.2.2.2.2.2.2.2.2.2.2.2.2.2.2.2.2.2.2.2.1 W.2.2.2.2.2.2.2.2.2.2.2.2.2.2.2.2.2.2.2.2.2.2.2.2.2.1 n F NF rt b Tb hb u)
    (HY : ∀ Q, (∀ g, g ≤ G → yR Q W g (b + 1) vs p t pr T vr mem out) → YS Q) (hm : m ≤ 400) (hb7 : b ≤ 7) (ht : t ≤ 120) (hpr : pr ≤ s) (hN : t * 401 + m + u < N + 1) (hG : G + 2 * (t * 401 + m + u) + 5 ≤ 400000) (hs : s + 4 * (t * 401 + m + u) + 5 ≤ 1000000) : zX PX U r s b vs cc t pr vr rt mem out := by
  have hn := c.2.1.2.1
  have bd := mn_bd c hok hz hf hb7
  obtain ⟨m, rfl⟩ : ∃ m', m = m' + 1 := by
    cases m with
    | zero => exact hok.elim
    | succ m => exact ⟨m, rfl⟩
  obtain ⟨hI, hsc, hd⟩ := hok
  have hp := hI.1
  have l1 := hI.2.1.1
  have hv := hI.2.2.2.2.2.1.1
  have hs2 := hI.2.2.2.2.2.2.2
  unfold gm_d at hd
  dsimp only at hd
  rw [if_neg (by decide), if_neg (by decide), if_neg (by decide), if_neg (by decide), if_neg (by decide), if_neg (by decide), if_neg (by decide), if_neg (by decide), if_neg (by decide), if_neg (by decide), if_pos (by decide)] at hd
  unfold zl at hz
  dsimp only at hz
  rw [if_neg (by decide), if_neg (by decide), if_neg (by decide), if_neg (by decide), if_neg (by decide), if_neg (by decide), if_neg (by decide), if_neg (by decide), if_neg (by decide), if_neg (by decide), if_pos rfl] at hz
  obtain ⟨e, T', h', hh, rfl, he, hz⟩ := hz
  obtain ⟨_, hu, hok⟩ := hd
  have u1 := mn_up1 hu
  simp only [gm_sm] at l1
  simp [gw_e] at l1
  have hv2 : gm_ve W.2.2.2.2.2.2.2.2.2.2.2.2.2.2.2.2.2.2.2.2.2.2.2.2.1 n (20, a, d, e0, v) := by simpa [gm_vl] using hv
  unfold gm_ve at hv2
  dsimp only at hv2
  rw [if_neg (by decide), if_pos rfl] at hv2
  obtain ⟨rfl, hd2, rfl⟩ := hv2
  obtain ⟨v1, i1, vs, rfl⟩ : ∃ v1 i1 vs', vs = v1 :: i1 :: vs' := by
    match vs, hh with
    | [], hh => simp at hh
    | [_], hh => simp at hh
    | v1 :: i1 :: vs, _ => exact ⟨v1, i1, vs, rfl⟩
  have e9 : vs.length = h' := by simpa using hh
  subst e9
  refine zx_ste c.1 (by omega) (by omega) (by simp only [List.length_cons] at bd; omega) u1.1 u1.2.2 (fun z y => ?_) (fun z => ?_)
  · exact IH (s + 1) (G + 1) _ _ _ _ _ _ _ _ _ _ _ _ _ _ _ _ _ _ hok hz hf (fun Q q => HY Q (fun g hg => yl_setc c.2.1 (by omega) hp (by simp only [List.length_cons] at bd ⊢; omega) (by simp only [List.length_cons] at bd ⊢; omega) he (by omega) (fun _ _ => (q _ (by omega))) (fun w => absurd w (fun w => w.elim z (fun w => w y))))) (by omega) hb7 ht (by omega) (by omega) (by omega) (by omega)
  · exact c.2.2.2.2.2.2.2 2 _ 0 t pr mem out ht (by simp) (fun Q hq => HY Q (fun g hg => yl_setc c.2.1 (by omega) hp (by simp only [List.length_cons] at bd ⊢; omega) (by simp only [List.length_cons] at bd ⊢; omega) he (by omega) (fun z1 z2 => absurd z (fun w => w.elim z1 (fun w => w z2))) (fun _ => hq)))
theorem mn_16 {PX : Int32 → SX → Prop} {YS : (SY → Prop) → Prop} {U : SX} {W : SY} {n NF r N : Nat} {F : gm_A} {s G b p t pr cc lc fc m hb u : Nat} {vs : List Int32} {S : List gm_I} {T Tb : List Nat} {vr rt mem out : Nat → Int32} (c : cx PX YS U W n NF r F) (IH : RG PX YS U W n NF r F N) {a d e0 : Nat} {v : Int32} (hok : gm_ok W.2.2.2.2.2.2.2.2.2.2.2.2.2.2.2.2.2.2.2.2.2.2.2.2.1 W.2.2.2.2.2.2.2.2.2.2.2.2.2.2.2.2.2.2.2.2.2.2.2.2.2.1 n F NF m p ((16, a, d, e0, v) :: S) cc lc fc) (hz : zl W.2.2.2.2.2.2.2.2.2.2.2.2.2.2.2.2.2.2.2.2.2.2.2.2.1 W.2.2.2.2.2.2.2.2.2.2.2.2.2.2.2.2.2.2.2.2.2.2.2.2.2.1 n F NF Tb hb ((16, a, d, e0, v) :: S) T vs.length) (hf : frs W.2.2.2.2.2.2.2.2.2.2.2.2.2.2.2.2.2.2.2.2.2.2.2.2.1 W.2.2.2.2.2.2.2.2.2.2.2.2.2.2.2.2.2.2.2.2.2.2.2.2.2.1 n F NF rt b Tb hb u)
    (HY : ∀ Q, (∀ g, g ≤ G → yR Q W g (b + 1) vs p t pr T vr mem out) → YS Q) (hm : m ≤ 400) (hb7 : b ≤ 7) (ht : t ≤ 120) (hpr : pr ≤ s) (hN : t * 401 + m + u < N + 1) (hG : G + 2 * (t * 401 + m + u) + 5 ≤ 400000) (hs : s + 4 * (t * 401 + m + u) + 5 ≤ 1000000) : zX PX U r s b vs cc t pr vr rt mem out := by
  have hn := c.2.1.2.1
  have bd := mn_bd c hok hz hf hb7
  obtain ⟨m, rfl⟩ : ∃ m', m = m' + 1 := by
    cases m with
    | zero => exact hok.elim
    | succ m => exact ⟨m, rfl⟩
  obtain ⟨hI, hsc, hd⟩ := hok
  have hp := hI.1
  have l1 := hI.2.1.1
  have hv := hI.2.2.2.2.2.1.1
  have hs2 := hI.2.2.2.2.2.2.2
  unfold gm_d at hd
  dsimp only at hd
  rw [if_neg (by decide), if_neg (by decide), if_neg (by decide), if_neg (by decide), if_neg (by decide), if_neg (by decide), if_neg (by decide), if_neg (by decide), if_neg (by decide), if_neg (by decide), if_neg (by decide), if_neg (by decide), if_neg (by decide), if_neg (by decide), if_neg (by decide), if_pos rfl] at hd
  unfold zl at hz
  dsimp only at hz
  rw [if_neg (by decide), if_neg (by decide), if_neg (by decide), if_neg (by decide), if_neg (by decide), if_neg (by decide), if_neg (by decide), if_neg (by decide), if_neg (by decide), if_neg (by decide), if_neg (by decide), if_neg (by decide), if_pos rfl] at hz
  obtain ⟨e, T', cn, rfl, he, hc, hc3, hS, hz⟩ := hz
  have ha : a < n := by simpa [gm_vl] using hv
  obtain ⟨v2, S2, rfl⟩ := hS
  have hK2 : W.2.2.2.2.2.2.2.2.2.2.2.2.2.2.2.2.2.2.2.2.2.2.2.2.1 a = 2 := by
    have := hI.2.2.2.2.2.1.2.1
    simp [gm_vl] at this
    exact this.2.2
  obtain ⟨f, c2, hf1, hf2, hf3, hf4, hf5, hf6⟩ := mn_fun c ha hK2
  rw [hf3, hf4] at hc
  have ecn : c2 = cn := (nI_eq (by omega) (by omega)).mp hc
  by_cases h1 : gm_tk W.2.2.2.2.2.2.2.2.2.2.2.2.2.2.2.2.2.2.2.2.2.2.2.2.1 n p = 5
  · rw [if_pos h1] at hd
    have h5 := hsc.1 rfl h1
    have ec : cn = 0 := by
      dsimp only at h5
      rw [hf6, ← nI_0] at h5
      have := (nI_eq (by omega) (by omega)).mp h5
      omega
    subst ec
    exact IH (s) (G + 1) _ _ _ _ _ _ _ _ _ _ _ _ _ _ _ _ _ _ hd.2.2 hz hf (fun Q q => HY Q (fun g hg => yl_args c.2.1 (by omega) hp (by simp only [List.length_cons] at bd ⊢; omega) (by simp only [List.length_cons] at bd ⊢; omega) he ha (fun _ => (q _ (by omega))) (fun z => absurd h1 z))) (by omega) hb7 ht (by omega) (by omega) (by omega) (by omega)
  · rw [if_neg h1] at hd
    refine IH s (G + 1) _ _ _ _ _ _ _ _ _ _ _ _ (yp_n 16 0 vs.length :: yp_n 24 a vs.length :: T') _ _ _ _ _ hd.2.2 ?_ hf (fun Q q => HY Q (fun g hg => yl_args c.2.1 (by omega) hp (by simp only [List.length_cons] at bd ⊢; omega) (by simp only [List.length_cons] at bd ⊢; omega) he ha (fun z => absurd z h1) (fun _ => (q _ (by omega))))) (by omega) hb7 ht (by omega) (by omega) (by omega) (by omega)
    exact Or.inl ⟨rfl, _, _, rfl, (yp_e_n (a := 16) (b := 0) (h := vs.length) (by decide) (by omega) (by simp only [List.length_cons] at bd; omega)), ⟨_, T', cn, vs.length, rfl, rfl, (yp_e_n (a := 24) (b := a) (h := vs.length) (by decide) (by omega) (by simp only [List.length_cons] at bd; omega)), by rw [hf3, hf4]; exact hc, hc3, ⟨v2, S2, rfl⟩, hz⟩⟩
theorem mn_17 {PX : Int32 → SX → Prop} {YS : (SY → Prop) → Prop} {U : SX} {W : SY} {n NF r N : Nat} {F : gm_A} {s G b p t pr cc lc fc m hb u : Nat} {vs : List Int32} {S : List gm_I} {T Tb : List Nat} {vr rt mem out : Nat → Int32} (c : cx PX YS U W n NF r F) (IH : RG PX YS U W n NF r F N) {a d e0 : Nat} {v : Int32} (hok : gm_ok W.2.2.2.2.2.2.2.2.2.2.2.2.2.2.2.2.2.2.2.2.2.2.2.2.1 W.2.2.2.2.2.2.2.2.2.2.2.2.2.2.2.2.2.2.2.2.2.2.2.2.2.1 n F NF m p ((17, a, d, e0, v) :: S) cc lc fc) (hz : zl W.2.2.2.2.2.2.2.2.2.2.2.2.2.2.2.2.2.2.2.2.2.2.2.2.1 W.2.2.2.2.2.2.2.2.2.2.2.2.2.2.2.2.2.2.2.2.2.2.2.2.2.1 n F NF Tb hb ((17, a, d, e0, v) :: S) T vs.length) (hf : frs W.2.2.2.2.2.2.2.2.2.2.2.2.2.2.2.2.2.2.2.2.2.2.2.2.1 W.2.2.2.2.2.2.2.2.2.2.2.2.2.2.2.2.2.2.2.2.2.2.2.2.2.1 n F NF rt b Tb hb u)
    (HY : ∀ Q, (∀ g, g ≤ G → yR Q W g (b + 1) vs p t pr T vr mem out) → YS Q) (hm : m ≤ 400) (hb7 : b ≤ 7) (ht : t ≤ 120) (hpr : pr ≤ s) (hN : t * 401 + m + u < N + 1) (hG : G + 2 * (t * 401 + m + u) + 5 ≤ 400000) (hs : s + 4 * (t * 401 + m + u) + 5 ≤ 1000000) : zX PX U r s b vs cc t pr vr rt mem out := by
  have hn := c.2.1.2.1
  have bd := mn_bd c hok hz hf hb7
  obtain ⟨m, rfl⟩ : ∃ m', m = m' + 1 := by
    cases m with
    | zero => exact hok.elim
    | succ m => exact ⟨m, rfl⟩
  obtain ⟨hI, hsc, hd⟩ := hok
  have hp := hI.1
  have l1 := hI.2.1.1
  have hv := hI.2.2.2.2.2.1.1
  have hs2 := hI.2.2.2.2.2.2.2
  unfold gm_d at hd
  dsimp only at hd
  rw [if_neg (by decide), if_neg (by decide), if_neg (by decide), if_neg (by decide), if_neg (by decide), if_neg (by decide), if_neg (by decide), if_neg (by decide), if_neg (by decide), if_neg (by decide), if_neg (by decide), if_neg (by decide), if_neg (by decide), if_neg (by decide), if_neg (by decide), if_neg (by decide), if_pos rfl] at hd
  unfold zl at hz
  dsimp only at hz
  rw [if_neg (by decide), if_neg (by decide), if_neg (by decide), if_neg (by decide), if_neg (by decide), if_neg (by decide), if_neg (by decide), if_neg (by decide), if_neg (by decide), if_neg (by decide), if_neg (by decide), if_neg (by decide), if_neg (by decide), if_pos rfl] at hz
  obtain ⟨e, T', cn, h0, hh, rfl, he, hc, hc3, hS, hz⟩ := hz
  have ha : a < n ∧ 1 ≤ d ∧ d ≤ p := by simpa [gm_vl] using hv
  obtain ⟨v2, S2, rfl⟩ := hS
  have hK2 : W.2.2.2.2.2.2.2.2.2.2.2.2.2.2.2.2.2.2.2.2.2.2.2.2.1 a = 2 := by
    have := hI.2.2.2.2.2.1.2.1
    simp [gm_vl] at this
    exact this.2.2
  obtain ⟨f, c2, hf1, hf2, hf3, hf4, hf5, hf6⟩ := mn_fun c ha.1 hK2
  rw [hf3, hf4] at hc
  have ecn : c2 = cn := (nI_eq (by omega) (by omega)).mp hc
  by_cases h1 : gm_tk W.2.2.2.2.2.2.2.2.2.2.2.2.2.2.2.2.2.2.2.2.2.2.2.2.1 n p = 5
  · rw [if_pos h1] at hd
    have h5 := hsc.2 rfl h1
    have ec : cn = d := by
      dsimp only at h5
      rw [hf6] at h5
      have := (nI_eq (by omega) (by omega)).mp h5
      omega
    subst ec
    exact IH (s) (G + 1) _ _ _ _ _ _ _ _ _ _ _ _ _ _ _ _ _ _ hd.2.2 (by rw [hh]; exact hz) hf (fun Q q => HY Q (fun g hg => yl_margs c.2.1 (by omega) hp (by simp only [List.length_cons] at bd ⊢; omega) (by simp only [List.length_cons] at bd ⊢; omega) he ha.1 (Or.inl h1) (fun _ => (q _ (by omega))) (fun z => absurd (z.symm.trans h1) (by decide)))) (by omega) hb7 ht (by omega) (by omega) (by omega) (by omega)
  · rw [if_neg h1] at hd
    by_cases h2 : gm_tk W.2.2.2.2.2.2.2.2.2.2.2.2.2.2.2.2.2.2.2.2.2.2.2.2.1 n p = 11
    · rw [if_pos h2] at hd
      refine IH s (G + 1) _ _ _ _ _ _ _ _ _ _ _ _ (yp_n 16 0 vs.length :: yp_n 24 a vs.length :: T') _ _ _ _ _ hd.2.2 ?_ hf (fun Q q => HY Q (fun g hg => yl_margs c.2.1 (by omega) hp (by simp only [List.length_cons] at bd ⊢; omega) (by simp only [List.length_cons] at bd ⊢; omega) he ha.1 (Or.inr h2) (fun z => absurd z h1) (fun _ => (q _ (by omega))))) (by omega) hb7 ht (by omega) (by omega) (by omega) (by omega)
      exact Or.inl ⟨rfl, _, _, rfl, (yp_e_n (a := 16) (b := 0) (h := vs.length) (by decide) (by omega) (by simp only [List.length_cons] at bd; omega)), ⟨_, T', cn, h0, by dsimp only; omega, rfl, (yp_e_n (a := 24) (b := a) (h := vs.length) (by decide) (by omega) (by simp only [List.length_cons] at bd; omega)), by rw [hf3, hf4]; exact hc, hc3, ⟨v2, S2, rfl⟩, hz⟩⟩
    · rw [if_neg h2] at hd
      exact hd.elim
theorem mn_18 {PX : Int32 → SX → Prop} {YS : (SY → Prop) → Prop} {U : SX} {W : SY} {n NF r N : Nat} {F : gm_A} {s G b p t pr cc lc fc m hb u : Nat} {vs : List Int32} {S : List gm_I} {T Tb : List Nat} {vr rt mem out : Nat → Int32} (c : cx PX YS U W n NF r F) (IH : RG PX YS U W n NF r F N) {a d e0 : Nat} {v : Int32} (hok : gm_ok W.2.2.2.2.2.2.2.2.2.2.2.2.2.2.2.2.2.2.2.2.2.2.2.2.1 W.2.2.2.2.2.2.2.2.2.2.2.2.2.2.2.2.2.2.2.2.2.2.2.2.2.1 n F NF m p ((18, a, d, e0, v) :: S) cc lc fc) (hz : zl W.2.2.2.2.2.2.2.2.2.2.2.2.2.2.2.2.2.2.2.2.2.2.2.2.1 W.2.2.2.2.2.2.2.2.2.2.2.2.2.2.2.2.2.2.2.2.2.2.2.2.2.1 n F NF Tb hb ((18, a, d, e0, v) :: S) T vs.length) (hf : frs W.2.2.2.2.2.2.2.2.2.2.2.2.2.2.2.2.2.2.2.2.2.2.2.2.1 W.2.2.2.2.2.2.2.2.2.2.2.2.2.2.2.2.2.2.2.2.2.2.2.2.2.1 n F NF rt b Tb hb u)
    (HY : ∀ Q, (∀ g, g ≤ G → yR Q W g (b + 1) vs p t pr T vr mem out) → YS Q) (hm : m ≤ 400) (hb7 : b ≤ 7) (ht : t ≤ 120) (hpr : pr ≤ s) (hN : t * 401 + m + u < N + 1) (hG : G + 2 * (t * 401 + m + u) + 5 ≤ 400000) (hs : s + 4 * (t * 401 + m + u) + 5 ≤ 1000000) : zX PX U r s b vs cc t pr vr rt mem out := by
  have hn := c.2.1.2.1
  have bd := mn_bd c hok hz hf hb7
  obtain ⟨m, rfl⟩ : ∃ m', m = m' + 1 := by
    cases m with
    | zero => exact hok.elim
    | succ m => exact ⟨m, rfl⟩
  obtain ⟨hI, hsc, hd⟩ := hok
  have hp := hI.1
  have l1 := hI.2.1.1
  have hv := hI.2.2.2.2.2.1.1
  have hs2 := hI.2.2.2.2.2.2.2
  unfold gm_d at hd
  dsimp only at hd
  rw [if_neg (by decide), if_neg (by decide), if_neg (by decide), if_neg (by decide), if_neg (by decide), if_neg (by decide), if_neg (by decide), if_neg (by decide), if_neg (by decide), if_neg (by decide), if_neg (by decide), if_neg (by decide), if_neg (by decide), if_neg (by decide), if_neg (by decide), if_neg (by decide), if_neg (by decide), if_pos rfl] at hd
  unfold zl at hz
  dsimp only at hz
  rw [if_neg (by decide), if_neg (by decide), if_neg (by decide), if_neg (by decide), if_neg (by decide), if_neg (by decide), if_neg (by decide), if_neg (by decide), if_neg (by decide), if_neg (by decide), if_neg (by decide), if_pos rfl] at hz
  obtain ⟨e, T', h0, cn, hh, rfl, he, hc, hc3, hz⟩ := hz
  have ha : a < n ∧ v = W.2.2.2.2.2.2.2.2.2.2.2.2.2.2.2.2.2.2.2.2.2.2.2.2.2.1 a ∧ W.2.2.2.2.2.2.2.2.2.2.2.2.2.2.2.2.2.2.2.2.2.2.2.2.1 a = 2 := by simpa [gm_vl] using hv
  obtain ⟨ha, rfl, hK2⟩ := ha
  obtain ⟨f, c2, hf1, hf2, hf3, hf4, hf5, hf6⟩ := mn_fun c ha hK2
  rw [hf3, hf4] at hc
  have ecn : c2 = cn := (nI_eq (by omega) (by omega)).mp hc
  subst ecn
  obtain ⟨_, hu, hok⟩ := hd
  have u1 := mn_up1 hu
  have u2 := mn_up2 hu
  have u3 := mn_up3 hu
  simp only [gm_sm] at l1
  simp [gw_e] at l1
  obtain ⟨mf, pf, ccf, lcf, c3, hmf, hokf, hbf, hsf, hcf, _⟩ := c.2.2.2.2.2.2.1 f hf1
  have hNF := c.2.2.2.2.1
  have dl : (vs.drop c2).length = h0 := by rw [List.length_drop]; omega
  have hpar : W.2.2.2.2.2.2.2.2.2.2.2.2.2.2.2.2.2.2.2.2.2.2.2.2.2.2.2.2.1 f = nI c2 := (congrFun c.2.2.1 f).trans hf4
  have hbeg : W.2.2.2.2.2.2.2.2.2.2.2.2.2.2.2.2.2.2.2.2.2.2.2.2.2.2.2.1 f = nI pf := (congrFun c.2.2.2.1 f).trans hbf
  refine zx_room c.1 (by omega) (by omega) (by omega) u1.1 u1.2.2 hb7 (fun hb => ?_) (fun hb => ?_)
  · refine zx_tick c.1 (by omega) (by omega) (by omega) u2.1 u2.2.2 ht (fun hT => ?_) (fun hT => ?_)
    · refine zx_enter c.1 (by omega) (by omega) (by omega) u3.1 (u3.2.1.trans hf2) (by omega) hf4 hc3 (by omega) hsf hb ?_
      refine IH (s + 1 + 1 + 1) (G + 1) _ _ _ _ _ _ _ _ h0 (m + u) _ _ _ (yp_n 26 p h0 :: T') _ _ _ _ hokf ?_ ?_ (fun Q q => HY Q (fun g hg => yl_call c.2.1 (by omega) hp (by simp only [List.length_cons] at bd ⊢; omega) (by simp only [List.length_cons] at bd ⊢; omega) he ha hf2 (by omega) hpar hc3 (by omega) hbeg (by omega) ht (fun z => absurd z (by omega)) (fun _ z => absurd z (by omega)) (fun _ _ => (q _ (by omega))))) hmf (by omega) (by omega) (by omega) (by omega) (by omega) (by omega)
      · rw [dl]
        exact zl_e (by simp) (yp_e_n (by decide) (by decide) (by omega)) (fun z => absurd z (by simp)) ⟨rfl, rfl, rfl⟩
      · exact ⟨m, p, S, cc + 3, lc, fc, T', Tb, _, u, rfl, hok, by omega, pk_us, hz, frs_rt b (fun j hj => pk_un (by omega)) hf, rfl⟩
    · exact c.2.2.2.2.2.2.2 4 _ 0 t pr mem out ht (by simp) (fun Q hq => HY Q (fun g hg => yl_call c.2.1 (by omega) hp (by simp only [List.length_cons] at bd ⊢; omega) (by simp only [List.length_cons] at bd ⊢; omega) he ha hf2 (by omega) hpar hc3 (by omega) hbeg (by omega) ht (fun z => absurd z (by omega)) (fun _ _ => hq) (fun _ z => absurd z (by omega))))
  · exact c.2.2.2.2.2.2.2 3 _ 0 t pr mem out ht (by simp) (fun Q hq => HY Q (fun g hg => yl_call c.2.1 (by omega) hp (by simp only [List.length_cons] at bd ⊢; omega) (by simp only [List.length_cons] at bd ⊢; omega) he ha hf2 (by omega) hpar hc3 (by omega) hbeg (by omega) ht (fun _ => hq) (fun z => absurd z (by omega)) (fun z => absurd z (by omega))))
