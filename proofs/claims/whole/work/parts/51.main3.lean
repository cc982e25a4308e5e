/-! run: expressions -/
theorem vs_c {vs : List Int32} (h : 1 ≤ vs.length) : ∃ v1 l, vs = v1 :: l := by
  cases vs with
  | nil => simp at h
  | cons v1 l => exact ⟨v1, l, rfl⟩
theorem mn_una {PX : Int32 → SX → Prop} {YS : (SY → Prop) → Prop} {U : SX} {W : SY} {n NF r N : Nat} {F : gm_A} {s G b p t pr cc lc fc m hb u : Nat} {vs : List Int32} {S : List gm_I} {T Tb : List Nat} {vr rt mem out : Nat → Int32} (c : cx PX YS U W n NF r F) (IH : RG PX YS U W n NF r F N) {R : List gm_I} (hd : gm_una W.2.2.2.2.2.2.2.2.2.2.2.2.2.2.2.2.2.2.2.2.2.2.2.2.1 W.2.2.2.2.2.2.2.2.2.2.2.2.2.2.2.2.2.2.2.2.2.2.2.2.2.1 n (fun _ _ => False) (fun p' S' lc' fc' b es lw _ fw => b = false ∧ gm_up F cc fc p' es lw none fw = F ∧ gm_ok W.2.2.2.2.2.2.2.2.2.2.2.2.2.2.2.2.2.2.2.2.2.2.2.2.1 W.2.2.2.2.2.2.2.2.2.2.2.2.2.2.2.2.2.2.2.2.2.2.2.2.2.1 n F NF m p' S' (cc + es.length) lc' fc') p R lc fc) (hz : zl W.2.2.2.2.2.2.2.2.2.2.2.2.2.2.2.2.2.2.2.2.2.2.2.2.1 W.2.2.2.2.2.2.2.2.2.2.2.2.2.2.2.2.2.2.2.2.2.2.2.2.2.1 n F NF Tb hb R T (vs.length + 1)) (hf : frs W.2.2.2.2.2.2.2.2.2.2.2.2.2.2.2.2.2.2.2.2.2.2.2.2.1 W.2.2.2.2.2.2.2.2.2.2.2.2.2.2.2.2.2.2.2.2.2.2.2.2.2.1 n F NF rt b Tb hb u)
    (HY : ∀ Q, (∀ g, g ≤ G → yUn Q W g (b + 1) vs p t pr T vr mem out) → YS Q) (hp : p ≤ n) (l1 : cc ≤ 3 * p) (bd : T.length < 1150 ∧ vs.length < 500) (hm : m ≤ 400) (hb7 : b ≤ 7) (ht : t ≤ 120) (hpr : pr ≤ s) (hN : t * 401 + (m + 1) + u < N + 1) (hG : G + 2 * (t * 401 + (m + 1) + u) + 5 ≤ 400000) (hs : s + 4 * (t * 401 + (m + 1) + u) + 5 ≤ 1000000) : zX PX U r s b vs cc t pr vr rt mem out := by
  have hn := c.2.1.2.1
  have hb1 := bd.1
  have hb2 := bd.2
  unfold gm_una at hd
  by_cases h28 : gm_tk W.2.2.2.2.2.2.2.2.2.2.2.2.2.2.2.2.2.2.2.2.2.2.2.2.1 n p = 28
  · rw [if_pos h28] at hd
    refine IH (s) (G + 1) _ _ _ _ _ _ _ _ _ _ _ _ (yp_n 18 0 vs.length :: yp_n 19 28 vs.length :: T) _ _ _ _ _ hd.2.2 ?_ hf (fun Q q => HY Q (fun g hg => yu_s (d := 28) c.2.1 (by omega) hp (by omega) (by omega) (by omega) h28 (q _ (by omega)))) (by omega) hb7 ht (by omega) (by omega) (by omega) (by omega)
    exact ⟨_, _, rfl, (yp_e_n (a := 18) (b := 0) (h := vs.length) (by decide) (by omega) (by omega)), zl_e (by simp) (yp_e_n (a := 19) (b := 28) (h := vs.length) (by decide) (by omega) (by omega)) (fun _ => by omega) hz⟩
  rw [if_neg h28] at hd
  by_cases h32 : gm_tk W.2.2.2.2.2.2.2.2.2.2.2.2.2.2.2.2.2.2.2.2.2.2.2.2.1 n p = 32
  · rw [if_pos h32] at hd
    refine IH (s) (G + 1) _ _ _ _ _ _ _ _ _ _ _ _ (yp_n 18 0 vs.length :: yp_n 19 32 vs.length :: T) _ _ _ _ _ hd.2.2 ?_ hf (fun Q q => HY Q (fun g hg => yu_s (d := 32) c.2.1 (by omega) hp (by omega) (by omega) (by omega) h32 (q _ (by omega)))) (by omega) hb7 ht (by omega) (by omega) (by omega) (by omega)
    exact ⟨_, _, rfl, (yp_e_n (a := 18) (b := 0) (h := vs.length) (by decide) (by omega) (by omega)), zl_e (by simp) (yp_e_n (a := 19) (b := 32) (h := vs.length) (by decide) (by omega) (by omega)) (fun _ => by omega) hz⟩
  rw [if_neg h32] at hd
  by_cases h33 : gm_tk W.2.2.2.2.2.2.2.2.2.2.2.2.2.2.2.2.2.2.2.2.2.2.2.2.1 n p = 33
  · rw [if_pos h33] at hd
    refine IH (s) (G + 1) _ _ _ _ _ _ _ _ _ _ _ _ (yp_n 18 0 vs.length :: yp_n 19 33 vs.length :: T) _ _ _ _ _ hd.2.2 ?_ hf (fun Q q => HY Q (fun g hg => yu_s (d := 33) c.2.1 (by omega) hp (by omega) (by omega) (by omega) h33 (q _ (by omega)))) (by omega) hb7 ht (by omega) (by omega) (by omega) (by omega)
    exact ⟨_, _, rfl, (yp_e_n (a := 18) (b := 0) (h := vs.length) (by decide) (by omega) (by omega)), zl_e (by simp) (yp_e_n (a := 19) (b := 33) (h := vs.length) (by decide) (by omega) (by omega)) (fun _ => by omega) hz⟩
  rw [if_neg h33] at hd
  by_cases h0 : gm_tk W.2.2.2.2.2.2.2.2.2.2.2.2.2.2.2.2.2.2.2.2.2.2.2.2.1 n p = 0
  · rw [if_pos h0] at hd
    have hq := gm_tk_lt h0 (by decide)
    have u1 := mn_up1 hd.2.1
    refine zx_push c.1 (by omega) (by omega) (by omega) u1.1 u1.2.1 ?_
    exact IH (s + 1) (G + 1) _ _ _ _ _ _ _ _ _ _ _ _ _ _ _ _ _ _ hd.2.2 hz hf (fun Q q => HY Q (fun g hg => yu_0 c.2.1 (by omega) hp (by omega) (by omega) h0 (q _ (by omega)))) (by omega) hb7 ht (by omega) (by omega) (by omega) (by omega)
  rw [if_neg h0] at hd
  by_cases h1 : gm_tk W.2.2.2.2.2.2.2.2.2.2.2.2.2.2.2.2.2.2.2.2.2.2.2.2.1 n p = 1
  · rw [if_pos h1] at hd
    have hq := gm_tk_lt h1 (by decide)
    have u1 := mn_up1 hd.2.1
    obtain ⟨w, hw, ew⟩ := (c.2.1.2.2.1 p hq).2.1 ((gm_tk_K hq).symm.trans h1)
    refine zx_load c.1 (by omega) (by omega) (by omega) u1.1 (u1.2.1.trans ew) hw hb7 ?_
    exact IH (s + 1) (G + 1) _ _ _ _ _ _ _ _ _ _ _ _ _ _ _ _ _ _ hd.2.2 hz hf (fun Q q => HY Q (fun g hg => yu_1 c.2.1 (by omega) hp (by omega) (by omega) rfl hb7 h1 ew hw (q _ (by omega)))) (by omega) hb7 ht (by omega) (by omega) (by omega) (by omega)
  rw [if_neg h1] at hd
  by_cases h2 : gm_tk W.2.2.2.2.2.2.2.2.2.2.2.2.2.2.2.2.2.2.2.2.2.2.2.2.1 n p = 2
  · rw [if_pos h2] at hd
    have hq := gm_tk_lt h2 (by decide)
    by_cases h4 : gm_tk W.2.2.2.2.2.2.2.2.2.2.2.2.2.2.2.2.2.2.2.2.2.2.2.2.1 n (p + 1) = 4
    · rw [if_pos h4] at hd
      obtain ⟨f, cn, hf1, hf2, hf3, hf4, hf5, hf6⟩ := mn_fun c hq ((gm_tk_K hq).symm.trans h2)
      refine IH (s) (G + 1) _ _ _ _ _ _ _ _ _ _ _ _ (yp_n 23 p vs.length :: yp_n 25 p vs.length :: T) _ _ _ _ _ hd.2.2 ?_ hf (fun Q q => HY Q (fun g hg => yu_2 c.2.1 (by omega) hp (by omega) (by omega) h2 h4 (q _ (by omega)))) (by omega) hb7 ht (by omega) (by omega) (by omega) (by omega)
      exact ⟨_, _, cn, rfl, (yp_e_n (a := 23) (b := p) (h := vs.length) (by decide) (by omega) (by omega)), by rw [hf3]; exact hf4, hf5, ⟨_, R, rfl⟩, ⟨_, T, vs.length, cn, rfl, rfl, rfl, by rw [hf3]; exact hf4, hf5, hz⟩⟩
    · rw [if_neg h4] at hd
      exact hd.elim
  rw [if_neg h2] at hd
  by_cases h3 : gm_tk W.2.2.2.2.2.2.2.2.2.2.2.2.2.2.2.2.2.2.2.2.2.2.2.2.1 n p = 3
  · rw [if_pos h3] at hd
    have hq := gm_tk_lt h3 (by decide)
    by_cases h4 : gm_tk W.2.2.2.2.2.2.2.2.2.2.2.2.2.2.2.2.2.2.2.2.2.2.2.2.1 n (p + 1) = 6
    · rw [if_pos h4] at hd
      refine IH (s) (G + 1) _ _ _ _ _ _ _ _ _ _ _ _ (yp_n 16 0 vs.length :: yp_n 4 7 vs.length :: yp_n 22 p vs.length :: T) _ _ _ _ _ hd.2.2 ?_ hf (fun Q q => HY Q (fun g hg => yu_3 c.2.1 (by omega) hp (by omega) (by omega) h3 h4 (q _ (by omega)))) (by omega) hb7 ht (by omega) (by omega) (by omega) (by omega)
      exact Or.inl ⟨rfl, _, _, rfl, (yp_e_n (a := 16) (b := 0) (h := vs.length) (by decide) (by omega) (by omega)), zl_e (by simp) (yp_e_n (a := 4) (b := 7) (h := vs.length) (by decide) (by omega) (by omega)) (fun z => absurd z (by simp)) (zl_e (by simp) (yp_e_n (a := 22) (b := p) (h := vs.length) (by decide) (by omega) (by omega)) (fun _ => by omega) hz)⟩
    · rw [if_neg h4] at hd
      exact hd.elim
  rw [if_neg h3] at hd
  by_cases h4 : gm_tk W.2.2.2.2.2.2.2.2.2.2.2.2.2.2.2.2.2.2.2.2.2.2.2.2.1 n p = 4
  · rw [if_pos h4] at hd
    refine IH (s) (G + 1) _ _ _ _ _ _ _ _ _ _ _ _ (yp_n 16 0 vs.length :: yp_n 4 5 vs.length :: T) _ _ _ _ _ hd.2.2 ?_ hf (fun Q q => HY Q (fun g hg => yu_4 c.2.1 (by omega) hp (by omega) (by omega) h4 (q _ (by omega)))) (by omega) hb7 ht (by omega) (by omega) (by omega) (by omega)
    exact Or.inl ⟨rfl, _, _, rfl, (yp_e_n (a := 16) (b := 0) (h := vs.length) (by decide) (by omega) (by omega)), zl_e (by simp) (yp_e_n (a := 4) (b := 5) (h := vs.length) (by decide) (by omega) (by omega)) (fun z => absurd z (by simp)) hz⟩
  rw [if_neg h4] at hd
  exact hd.elim
theorem mn_14 {PX : Int32 → SX → Prop} {YS : (SY → Prop) → Prop} {U : SX} {W : SY} {n NF r N : Nat} {F : gm_A} {s G b p t pr cc lc fc m hb u : Nat} {vs : List Int32} {S : List gm_I} {T Tb : List Nat} {vr rt mem out : Nat → Int32} (c : cx PX YS U W n NF r F) (IH : RG PX YS U W n NF r F N) {a d e0 : Nat} {v : Int32} (hok : gm_ok W.2.2.2.2.2.2.2.2.2.2.2.2.2.2.2.2.2.2.2.2.2.2.2.2.1 W.2.2.2.2.2.2.2.2.2.2.2.2.2.2.2.2.2.2.2.2.2.2.2.2.2.1 n F NF m p ((14, a, d, e0, v) :: S) cc lc fc) (hz : zl W.2.2.2.2.2.2.2.2.2.2.2.2.2.2.2.2.2.2.2.2.2.2.2.2.1 W.2.2.2.2.2.2.2.2.2.2.2.2.2.2.2.2.2.2.2.2.2.2.2.2.2.1 n F NF Tb hb ((14, a, d, e0, v) :: S) T vs.length) (hf : frs W.2.2.2.2.2.2.2.2.2.2.2.2.2.2.2.2.2.2.2.2.2.2.2.2.1 W.2.2.2.2.2.2.2.2.2.2.2.2.2.2.2.2.2.2.2.2.2.2.2.2.2.1 n F NF rt b Tb hb u)
    (HY : ∀ Q, (∀ g, g ≤ G → yR Q W g (b + 1) vs p t pr T vr mem out) → YS Q) (hm : m ≤ 400) (hb7 : b ≤ 7) (ht : t ≤ 120) (hpr : pr ≤ s) (hN : t * 401 + m + u < N + 1) (hG : G + 2 * (t * 401 + m + u) + 5 ≤ 400000) (hs : s + 4 * (t * 401 + m + u) + 5 ≤ 1000000) : zX PX U r s b vs cc t pr vr rt mem out := by
  have hn := c.2.1.2.1
  have bd := mn_bd c hok hz hf hb7
  obtain ⟨m, rfl⟩ : ∃ m', m = m' + 1 := by
    cases m with
    | zero => exact hok.elim
    | succ m => exact ⟨m, rfl⟩
  obtain ⟨hI, hsc, hd⟩ := hok
  have hp := hI.1
  have l1 := hI.2.1.1
  have hv := hI.2.2.2.2.2.1.1
  have hs2 := hI.2.2.2.2.2.2.2
  unfold gm_d at hd
  dsimp only at hd
  rw [if_neg (by decide), if_neg (by decide), if_neg (by decide), if_neg (by decide), if_neg (by decide), if_neg (by decide), if_neg (by decide), if_neg (by decide), if_neg (by decide), if_neg (by decide), if_neg (by decide), if_neg (by decide), if_neg (by decide), if_pos rfl] at hd
  unfold zl at hz
  dsimp only at hz
  rw [if_neg (by decide), if_neg (by decide), if_neg (by decide), if_neg (by decide), if_neg (by decide), if_neg (by decide), if_pos rfl] at hz
  obtain ⟨e, T', rfl, he, hz⟩ := hz
  simp only [List.length_cons] at bd
  exact mn_una (S := []) (G := G) c IH hd hz hf (fun Q q => HY Q (fun g hg => yl_N c.2.1 (by omega) hp (by omega) (by omega) he (q g hg))) hp (by omega) (by omega) (by omega) hb7 ht hpr hN hG hs
theorem mn_12 {PX : Int32 → SX → Prop} {YS : (SY → Prop) → Prop} {U : SX} {W : SY} {n NF r N : Nat} {F : gm_A} {s G b p t pr cc lc fc m hb u : Nat} {vs : List Int32} {S : List gm_I} {T Tb : List Nat} {vr rt mem out : Nat → Int32} (c : cx PX YS U W n NF r F) (IH : RG PX YS U W n NF r F N) {a d e0 : Nat} {v : Int32} (hok : gm_ok W.2.2.2.2.2.2.2.2.2.2.2.2.2.2.2.2.2.2.2.2.2.2.2.2.1 W.2.2.2.2.2.2.2.2.2.2.2.2.2.2.2.2.2.2.2.2.2.2.2.2.2.1 n F NF m p ((12, a, d, e0, v) :: S) cc lc fc) (hz : zl W.2.2.2.2.2.2.2.2.2.2.2.2.2.2.2.2.2.2.2.2.2.2.2.2.1 W.2.2.2.2.2.2.2.2.2.2.2.2.2.2.2.2.2.2.2.2.2.2.2.2.2.1 n F NF Tb hb ((12, a, d, e0, v) :: S) T vs.length) (hf : frs W.2.2.2.2.2.2.2.2.2.2.2.2.2.2.2.2.2.2.2.2.2.2.2.2.1 W.2.2.2.2.2.2.2.2.2.2.2.2.2.2.2.2.2.2.2.2.2.2.2.2.2.1 n F NF rt b Tb hb u)
    (HY : ∀ Q, (∀ g, g ≤ G → yR Q W g (b + 1) vs p t pr T vr mem out) → YS Q) (hm : m ≤ 400) (hb7 : b ≤ 7) (ht : t ≤ 120) (hpr : pr ≤ s) (hN : t * 401 + m + u < N + 1) (hG : G + 2 * (t * 401 + m + u) + 5 ≤ 400000) (hs : s + 4 * (t * 401 + m + u) + 5 ≤ 1000000) : zX PX U r s b vs cc t pr vr rt mem out := by
  have hn := c.2.1.2.1
  have bd := mn_bd c hok hz hf hb7
  obtain ⟨m, rfl⟩ : ∃ m', m = m' + 1 := by
    cases m with
    | zero => exact hok.elim
    | succ m => exact ⟨m, rfl⟩
  obtain ⟨hI, hsc, hd⟩ := hok
  have hp := hI.1
  have l1 := hI.2.1.1
  have hv := hI.2.2.2.2.2.1.1
  have hs2 := hI.2.2.2.2.2.2.2
  unfold gm_d at hd
  dsimp only at hd
  rw [if_neg (by decide), if_neg (by decide), if_neg (by decide), if_neg (by decide), if_neg (by decide), if_neg (by decide), if_neg (by decide), if_neg (by decide), if_neg (by decide), if_neg (by decide), if_neg (by decide), if_pos rfl] at hd
  unfold zl at hz
  dsimp only at hz
  rw [if_neg (by decide), if_neg (by decide), if_neg (by decide), if_neg (by decide), if_neg (by decide), if_pos rfl] at hz
  simp only [gm_sm] at l1
  simp [gw_e] at l1
  rcases hz with ⟨h1, e, T', rfl, he, hz⟩ | ⟨h1, e, f, T', rfl, he, hf2, hz⟩
  · simp only [List.length_cons] at bd
    subst h1
    exact mn_una (S := []) (G := G) c IH hd (zl_e (e := yp_n 17 1 vs.length) (by simp) (yp_e_n (a := 17) (b := 1) (h := vs.length) (by decide) (by omega) (by omega)) (fun _ => by omega) hz) hf (fun Q q => HY Q (fun g hg => yl_E1 c.2.1 (by omega) hp (by omega) (by omega) he (q g hg))) hp (by omega) (by simp only [List.length_cons]; omega) (by omega) hb7 ht hpr hN hG hs
  · simp only [List.length_cons] at bd
    exact mn_una (S := []) (G := G) c IH hd (zl_e (by simp) hf2 (fun _ => by omega) hz) hf (fun Q q => HY Q (fun g hg => yl_N c.2.1 (by omega) hp (by omega) (by simp only [List.length_cons]; omega) he (q g hg))) hp (by omega) (by simp only [List.length_cons]; omega) (by omega) hb7 ht hpr hN hG hs
theorem mn_13 {PX : Int32 → SX → Prop} {YS : (SY → Prop) → Prop} {U : SX} {W : SY} {n NF r N : Nat} {F : gm_A} {s G b p t pr cc lc fc m hb u : Nat} {vs : List Int32} {S : List gm_I} {T Tb : List Nat} {vr rt mem out : Nat → Int32} (c : cx PX YS U W n NF r F) (IH : RG PX YS U W n NF r F N) {a d e0 : Nat} {v : Int32} (hok : gm_ok W.2.2.2.2.2.2.2.2.2.2.2.2.2.2.2.2.2.2.2.2.2.2.2.2.1 W.2.2.2.2.2.2.2.2.2.2.2.2.2.2.2.2.2.2.2.2.2.2.2.2.2.1 n F NF m p ((13, a, d, e0, v) :: S) cc lc fc) (hz : zl W.2.2.2.2.2.2.2.2.2.2.2.2.2.2.2.2.2.2.2.2.2.2.2.2.1 W.2.2.2.2.2.2.2.2.2.2.2.2.2.2.2.2.2.2.2.2.2.2.2.2.2.1 n F NF Tb hb ((13, a, d, e0, v) :: S) T vs.length) (hf : frs W.2.2.2.2.2.2.2.2.2.2.2.2.2.2.2.2.2.2.2.2.2.2.2.2.1 W.2.2.2.2.2.2.2.2.2.2.2.2.2.2.2.2.2.2.2.2.2.2.2.2.2.1 n F NF rt b Tb hb u)
    (HY : ∀ Q, (∀ g, g ≤ G → yR Q W g (b + 1) vs p t pr T vr mem out) → YS Q) (hm : m ≤ 400) (hb7 : b ≤ 7) (ht : t ≤ 120) (hpr : pr ≤ s) (hN : t * 401 + m + u < N + 1) (hG : G + 2 * (t * 401 + m + u) + 5 ≤ 400000) (hs : s + 4 * (t * 401 + m + u) + 5 ≤ 1000000) : zX PX U r s b vs cc t pr vr rt mem out := by
  have hn := c.2.1.2.1
  have bd := mn_bd c hok hz hf hb7
  obtain ⟨m, rfl⟩ : ∃ m', m = m' + 1 := by
    cases m with
    | zero => exact hok.elim
    | succ m => exact ⟨m, rfl⟩
  obtain ⟨hI, hsc, hd⟩ := hok
  have hp := hI.1
  have l1 := hI.2.1.1
  have hv := hI.2.2.2.2.2.1.1
  have hs2 := hI.2.2.2.2.2.2.2
  unfold gm_d at hd
  dsimp only at hd
  rw [if_neg (by decide), if_neg (by decide), if_neg (by decide), if_neg (by decide), if_neg (by decide), if_neg (by decide), if_neg (by decide), if_neg (by decide), if_neg (by decide), if_neg (by decide), if_neg (by decide), if_neg (by decide), if_pos rfl] at hd
  unfold zl at hz
  dsimp only at hz
  rw [if_neg (by decide), if_neg (by decide), if_neg (by decide), if_neg (by decide), if_neg (by decide), if_neg (by decide), if_neg (by decide), if_neg (by decide), if_neg (by decide), if_neg (by decide), if_neg (by decide), if_neg (by decide), if_neg (by decide), if_neg (by decide)] at hz
  obtain ⟨e, T', rfl, he, h1, hz⟩ := hz
  have he : yp_e e (17 + 32 * a) := he
  have h1 := h1 (by simp)
  have hw : 1 ≤ a ∧ a ≤ 11 := by simpa [gm_vl] using hv
  have hs2' := gm_str_le (gm_tk W.2.2.2.2.2.2.2.2.2.2.2.2.2.2.2.2.2.2.2.2.2.2.2.2.1 n p)
  simp only [List.length_cons] at bd
  simp only [gm_sm] at l1
  simp [gw_e] at l1
  unfold gm_bin at hd
  by_cases h0 : gm_str (gm_tk W.2.2.2.2.2.2.2.2.2.2.2.2.2.2.2.2.2.2.2.2.2.2.2.2.1 n p) < a
  · rw [if_pos h0] at hd
    exact IH (s) (G + 1) _ _ _ _ _ _ _ _ _ _ _ _ _ _ _ _ _ _ hd.2.2 hz hf (fun Q q => HY Q (fun g hg => yl_R0 c.2.1 (by omega) hp (by omega) (by omega) he hw.2 h0 (q _ (by omega)))) (by omega) hb7 ht (by omega) (by omega) (by omega) (by omega)
  rw [if_neg h0] at hd
  have hq : p < n := by
    by_cases z : p < n
    · exact z
    · rw [show gm_tk W.2.2.2.2.2.2.2.2.2.2.2.2.2.2.2.2.2.2.2.2.2.2.2.2.1 n p = -1 from if_neg z, gm_str0] at h0
      omega
  have sc : ∀ (q k : Nat), (q = 1 ∧ k = 61 ∨ q = 2 ∧ k = 60) → gm_str (gm_tk W.2.2.2.2.2.2.2.2.2.2.2.2.2.2.2.2.2.2.2.2.2.2.2.2.1 n p) = q → (gm_up F cc fc (p + 1) [(57, 0, p), (k, nI lc, p)] none none none = F) → gm_ok W.2.2.2.2.2.2.2.2.2.2.2.2.2.2.2.2.2.2.2.2.2.2.2.2.1 W.2.2.2.2.2.2.2.2.2.2.2.2.2.2.2.2.2.2.2.2.2.2.2.2.2.1 n F NF m (p + 1) (gi_E (q + 1) :: gi_T lc p :: gi_R a :: S) (cc + 2) (lc + 2) fc → zX PX U r s b vs cc t pr vr rt mem out := by
    intro q k hqk hstr hu hok
    obtain ⟨v1, vs, rfl⟩ := vs_c h1
    simp only [List.length_cons] at bd h1 hz
    have u1 := mn_up1 hu
    have u2 := mn_up2 hu
    have l2' := hI.2.1.2.1
    obtain ⟨m2, p2, cc2, lc2, fc2, hm2, hok2, dw⟩ := mn_dw c (S1 := [gi_E (q + 1)]) hok
    obtain ⟨m3, rfl⟩ := ok_s hok2
    obtain ⟨hI2, _, hd2⟩ := hok2
    have hp2 := hI2.1
    unfold gm_d at hd2
    dsimp only at hd2
    rw [if_neg (by decide), if_neg (by decide), if_neg (by decide), if_neg (by decide), if_neg (by decide), if_neg (by decide), if_neg (by decide), if_neg (by decide), if_neg (by decide), if_neg (by decide), if_neg (by decide), if_neg (by decide), if_neg (by decide), if_neg (by decide), if_pos rfl] at hd2
    obtain ⟨_, hu2, hok3⟩ := hd2
    have hL := mn_lab hu2
    have zR : ∀ e, yp_e e (17 + 32 * a) → zl W.2.2.2.2.2.2.2.2.2.2.2.2.2.2.2.2.2.2.2.2.2.2.2.2.1 W.2.2.2.2.2.2.2.2.2.2.2.2.2.2.2.2.2.2.2.2.2.2.2.2.2.1 n F NF Tb hb (gi_R a :: S) (e :: T') (vs.length + 1) := fun e he => zl_e (by simp) he (fun _ => by omega) hz
    refine zx_un c.1 (by omega) (by omega) (by omega) u1.1 (by omega) ?_
    have short : (v1 = 0 ↔ q = 2) → zX PX U r (s + 1 + 1) b (zv_u 57 v1 :: vs) (cc2 + 1) t pr vr rt mem out := by
      intro hi
      refine IH (s + 1 + 1) (G + 1 + (m - (m3 + 1)) + 2) _ _ _ _ _ _ _ _ _ _ _ _ (yp_n 17 a (vs.length + 1) :: T') _ _ _ _ _ hok3 (zR _ (yp_e_n (a := 17) (b := a) (h := vs.length + 1) (by decide) (by omega) (by omega))) hf (fun Q q => HY Q (fun g hg => yl_R2 c.2.1 (by omega) hp (by omega) (by omega) he hw.2 hq (by omega) hstr (by omega) (fun _ va ca hva => dw Q (G + 1) (vs.length + 1) (b + 1) t pr _ (yp_n 21 0 (vs.length + 1) :: yp_n 5 0 (vs.length + 1) :: yp_n 17 a (vs.length + 1) :: T') 0 ca va vr mem out (yr_E (by omega) (yp_e_n (a := 18) (b := 0) (h := vs.length + 1) (by decide) (by omega) (by omega)) (yp_e_n (a := 17) (b := _) (h := vs.length + 1) (by decide) (by omega) (by omega)) rfl) (by simp only [List.length_cons]; omega) (by omega) (by omega) (fun g' hg' => yk_tru (by omega) (by simp only [List.length_cons]; omega) (yp_e_n (a := 21) (b := 0) (h := vs.length + 1) (by decide) (by omega) (by omega)) (yk_rev (vs := zv_u 57 v1 :: vs) c.2.1 (by omega) hp2 (by simp only [List.length_cons]; omega) (by simp only [List.length_cons]; omega) (yp_e_n (a := 5) (b := 0) (h := vs.length + 1) (by decide) (by omega) (by omega)) hva (q _ (by omega)))) _ (by omega)) (fun z => absurd hi z))) (by omega) hb7 ht (by omega) (by omega) (by omega) (by omega)
    have long : ¬ (v1 = 0 ↔ q = 2) → zX PX U r (s + 1 + 1) b vs (cc + 1 + 1) t pr vr rt mem out := by
      intro hi
      refine IH (s + 1 + 1) (G + 1) _ _ _ _ _ _ _ _ _ _ _ _ (yp_n 18 0 vs.length :: yp_n 17 (q + 1) vs.length :: yp_n 21 0 vs.length :: yp_n 17 a (vs.length + 1) :: T') _ _ _ _ _ hok ?_ hf (fun Q q => HY Q (fun g hg => yl_R2 c.2.1 (by omega) hp (by omega) (by omega) he hw.2 hq (by omega) hstr (by omega) (fun z => absurd z hi) (fun _ => (q _ (by omega))))) (by omega) hb7 ht (by omega) (by omega) (by omega) (by omega)
      exact Or.inr ⟨by dsimp only; omega, _, _, _, rfl, (yp_e_n (a := 18) (b := 0) (h := vs.length) (by decide) (by omega) (by omega)), (yp_e_n (a := 17) (b := _) (h := vs.length) (by decide) (by omega) (by omega)), zl_e (by simp) (yp_e_n (a := 21) (b := 0) (h := vs.length) (by decide) (by omega) (by omega)) (fun _ => by omega) (zR _ (yp_e_n (a := 17) (b := a) (h := vs.length + 1) (by decide) (by omega) (by omega)))⟩
    have tv : zv_u 57 v1 = 0 ↔ v1 = 0 := by
      by_cases z : v1 = 0
      · rw [show zv_u 57 v1 = 0 from if_pos z]; exact ⟨fun _ => z, fun _ => rfl⟩
      · rw [show zv_u 57 v1 = 1 from if_neg z]; exact ⟨fun w => absurd w (by decide), fun w => absurd w z⟩
    rcases hqk with ⟨rfl, rfl⟩ | ⟨rfl, rfl⟩
    · exact zx_j61 (pc' := cc2 + 1) c.1 (by omega) (by omega) (by omega) u2.1 u2.2.1 (by omega) (fun _ => hL) (fun z => short ⟨fun w => absurd (tv.mpr w) z, fun w => absurd w (by decide)⟩) (fun z => long (fun i => absurd (i.mp (tv.mp z)) (by decide)))
    · exact zx_j60 (pc' := cc2 + 1) c.1 (by omega) (by omega) (by omega) u2.1 u2.2.1 (by omega) (fun _ => hL) (fun z => short ⟨fun _ => rfl, fun _ => tv.mp z⟩) (fun z => long (fun i => z (tv.mpr (i.mpr rfl))))
  by_cases h13 : gm_tk W.2.2.2.2.2.2.2.2.2.2.2.2.2.2.2.2.2.2.2.2.2.2.2.2.1 n p = 13
  · rw [if_pos h13] at hd
    exact sc 1 61 (Or.inl ⟨rfl, rfl⟩) (by rw [h13]; decide) hd.2.1 hd.2.2
  rw [if_neg h13] at hd
  by_cases h14 : gm_tk W.2.2.2.2.2.2.2.2.2.2.2.2.2.2.2.2.2.2.2.2.2.2.2.2.1 n p = 14
  · rw [if_pos h14] at hd
    exact sc 2 60 (Or.inr ⟨rfl, rfl⟩) (by rw [h14]; decide) hd.2.1 hd.2.2
  rw [if_neg h14] at hd
  have h2 : 2 < gm_str (gm_tk W.2.2.2.2.2.2.2.2.2.2.2.2.2.2.2.2.2.2.2.2.2.2.2.2.1 n p) := by
    obtain ⟨k, hk1, hk2⟩ := (c.2.1.2.2.1 p hq).1
    rw [gm_tk_K hq, hk2] at h0 h13 h14 ⊢
    have := gm_str_k hk1 (by omega)
    have e13 : k ≠ 13 := fun z => h13 (by rw [z]; rfl)
    have e14 : k ≠ 14 := fun z => h14 (by rw [z]; rfl)
    unfold gm_str
    rw [nI_clamp (by omega)]
    repeat' split
    all_goals omega
  refine IH s (G + 1) _ _ _ _ _ _ _ _ _ _ _ _ (yp_n 18 0 vs.length :: yp_n 17 (gm_str (gm_tk W.2.2.2.2.2.2.2.2.2.2.2.2.2.2.2.2.2.2.2.2.2.2.2.2.1 n p) + 1) vs.length :: yp_n 20 p vs.length :: yp_n 17 a vs.length :: T') _ _ _ _ _ hd.2.2 ?_ hf (fun Q q => HY Q (fun g hg => yl_R1 c.2.1 (by omega) hp (by omega) (by omega) he hw.2 hq h0 h2 (q _ (by omega)))) (by omega) hb7 ht (by omega) (by omega) (by omega) (by omega)
  exact Or.inr ⟨by dsimp only; omega, _, _, _, rfl, (yp_e_n (a := 18) (b := 0) (h := vs.length) (by decide) (by omega) (by omega)), (yp_e_n (a := 17) (b := _) (h := vs.length) (by decide) (by omega) (by omega)), ⟨_, _, vs.length, rfl, rfl, (yp_e_n (a := 20) (b := p) (h := vs.length) (by decide) (by omega) (by omega)), fun _ => h1, zl_e (by simp) (yp_e_n (a := 17) (b := a) (h := vs.length) (by decide) (by omega) (by omega)) (fun _ => h1) hz⟩⟩
