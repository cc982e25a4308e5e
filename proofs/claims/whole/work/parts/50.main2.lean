/-! run: conditions and loops; the walk down to a marker -/
theorem yk_tru {post : SY → Prop} {W : SY} {g a p t pr h : Nat} {T : List Nat} {vr mem out va : Nat → Int32} {ca pd : Int32} (hg : g < 400000) (hT : T.length + 10 < 1300) {e : Nat} (he : yp_e e 21) (H : yD post W (g + 1) p T h pd ca a t pr va vr mem out) : yD post W g p (e :: T) h pd ca a t pr va vr mem out := by
  intro td hd
  refine yi_e 21 0 (by decide) (by decide) he (by omega) hg rfl (by omega) hd rfl rfl fun Q hQ => ?_
  exact br_f (by decide) (br_t (by decide) (br_t rfl (hQ _ (H td hd.2))))
theorem mn_dw {PX : Int32 → SX → Prop} {YS : (SY → Prop) → Prop} {U : SX} {W : SY} {n NF r : Nat} {F : gm_A} (c : cx PX YS U W n NF r F) {m p cc lc fc : Nat} {S1 Sb : List gm_I} (hok : gm_ok W.2.2.2.2.2.2.2.2.2.2.2.2.2.2.2.2.2.2.2.2.2.2.2.2.1 W.2.2.2.2.2.2.2.2.2.2.2.2.2.2.2.2.2.2.2.2.2.2.2.2.2.1 n F NF m p (S1 ++ Sb) cc lc fc) :
    ∃ m' p' cc' lc' fc', m' ≤ m ∧ gm_ok W.2.2.2.2.2.2.2.2.2.2.2.2.2.2.2.2.2.2.2.2.2.2.2.2.1 W.2.2.2.2.2.2.2.2.2.2.2.2.2.2.2.2.2.2.2.2.2.2.2.2.2.1 n F NF m' p' Sb cc' lc' fc' ∧ ∀ (Q : SY → Prop) (G h a t pr : Nat) (T Tb : List Nat) (pd ca : Int32) (va vr mem out : Nat → Int32), yd_R false pd Tb S1 T → Tb.length + 150 < 1300 → h < 1024 → G + m ≤ 400000 →
      (∀ g', g' ≤ G + (m - m') → yD Q W g' p' Tb h pd ca a t pr va vr mem out) → ∀ g, g ≤ G → yD Q W g p T h pd ca a t pr va vr mem out := by
  obtain ⟨k, m', p', cc', lc', fc', e1, hto, hok'⟩ := gm_to_ex c.2.1.2.2.1 m p S1 cc lc fc hok
  refine ⟨m', p', cc', lc', fc', by omega, hok', fun Q G h a t pr T Tb pd ca va vr mem out hR hTb hh hG H g hg => ?_⟩
  exact yd_walk (W := wD W h pd ca a t pr va vr mem out) (o := 0) (f0 := 0) (A0 := yA0) (R0 := []) (yb_h c.2.1 hh) rfl hTb k g p S1 cc lc fc T [] hto hR (by omega) (fun g' h1 h2 => H g' (by omega))
theorem ok_s {K V : Nat → Int32} {n : Nat} {F : gm_A} {NF m p : Nat} {S : List gm_I} {cc lc fc : Nat} (h : gm_ok K V n F NF m p S cc lc fc) : ∃ m', m = m' + 1 := by
  cases m with
  | zero => exact h.elim
  | succ m => exact ⟨m, rfl⟩
theorem mn_6 {PX : Int32 → SX → Prop} {YS : (SY → Prop) → Prop} {U : SX} {W : SY} {n NF r N : Nat} {F : gm_A} {s G b p t pr cc lc fc m hb u : Nat} {vs : List Int32} {S : List gm_I} {T Tb : List Nat} {vr rt mem out : Nat → Int32} (c : cx PX YS U W n NF r F) (IH : RG PX YS U W n NF r F N) {a d e0 : Nat} {v : Int32} (hok : gm_ok W.2.2.2.2.2.2.2.2.2.2.2.2.2.2.2.2.2.2.2.2.2.2.2.2.1 W.2.2.2.2.2.2.2.2.2.2.2.2.2.2.2.2.2.2.2.2.2.2.2.2.2.1 n F NF m p ((6, a, d, e0, v) :: S) cc lc fc) (hz : zl W.2.2.2.2.2.2.2.2.2.2.2.2.2.2.2.2.2.2.2.2.2.2.2.2.1 W.2.2.2.2.2.2.2.2.2.2.2.2.2.2.2.2.2.2.2.2.2.2.2.2.2.1 n F NF Tb hb ((6, a, d, e0, v) :: S) T vs.length) (hf : frs W.2.2.2.2.2.2.2.2.2.2.2.2.2.2.2.2.2.2.2.2.2.2.2.2.1 W.2.2.2.2.2.2.2.2.2.2.2.2.2.2.2.2.2.2.2.2.2.2.2.2.2.1 n F NF rt b Tb hb u)
    (HY : ∀ Q, (∀ g, g ≤ G → yR Q W g (b + 1) vs p t pr T vr mem out) → YS Q) (hm : m ≤ 400) (hb7 : b ≤ 7) (ht : t ≤ 120) (hpr : pr ≤ s) (hN : t * 401 + m + u < N + 1) (hG : G + 2 * (t * 401 + m + u) + 5 ≤ 400000) (hs : s + 4 * (t * 401 + m + u) + 5 ≤ 1000000) : zX PX U r s b vs cc t pr vr rt mem out := by
  have hn := c.2.1.2.1
  have bd := mn_bd c hok hz hf hb7
  obtain ⟨m, rfl⟩ : ∃ m', m = m' + 1 := by
    cases m with
    | zero => exact hok.elim
    | succ m => exact ⟨m, rfl⟩
  obtain ⟨hI, hsc, hd⟩ := hok
  have hp := hI.1
  have l1 := hI.2.1.1
  have hv := hI.2.2.2.2.2.1.1
  have hs2 := hI.2.2.2.2.2.2.2
  unfold gm_d at hd
  dsimp only at hd
  rw [if_neg (by decide), if_neg (by decide), if_neg (by decide), if_neg (by decide), if_neg (by decide), if_pos rfl] at hd
  unfold zl at hz
  dsimp only at hz
  rw [if_neg (by decide), if_neg (by decide), if_neg (by decide), if_neg (by decide), if_neg (by decide), if_neg (by decide), if_neg (by decide), if_pos rfl] at hz
  obtain ⟨e, T', h', hh, rfl, he, hz⟩ := hz
  obtain ⟨_, hu, hok⟩ := hd
  have u1 := mn_up1 hu
  simp only [gm_sm] at l1
  simp [gw_e] at l1
  obtain ⟨v1, vs, rfl⟩ : ∃ v1 vs', vs = v1 :: vs' := by
    cases vs with
    | nil => simp at hh
    | cons v1 vs => exact ⟨v1, vs, rfl⟩
  have e9 : vs.length = h' := by simpa using hh
  subst e9
  have lb : a + 2 ≤ lc := by have := hI.2.2.2.1; simp [gm_lb] at this; omega
  have l2' := hI.2.1.2.1
  obtain ⟨m2, p2, cc2, lc2, fc2, hm2, hok2, dw⟩ := mn_dw c (S1 := [gi_S]) hok
  obtain ⟨m3, rfl⟩ := ok_s hok2
  obtain ⟨hI2, _, hd2⟩ := hok2
  have hp2 := hI2.1
  have l2 := hI2.2.1.1
  unfold gm_d at hd2
  dsimp only at hd2
  rw [if_neg (by decide), if_neg (by decide), if_neg (by decide), if_neg (by decide), if_neg (by decide), if_neg (by decide), if_pos rfl] at hd2
  by_cases h1 : v1 = 0
  · by_cases h35 : gm_tk W.2.2.2.2.2.2.2.2.2.2.2.2.2.2.2.2.2.2.2.2.2.2.2.2.1 n p2 = 35
    · rw [if_pos h35] at hd2
      obtain ⟨_, hu2, hok3⟩ := hd2
      have hL := mn_lab hu2
      refine zx_j59 (pc' := cc2 + 1) c.1 (by omega) (by omega) (by simp only [List.length_cons] at bd; omega) u1.1 u1.2.1 (by omega) (fun _ => hL) (fun _ => ?_) (fun z => absurd h1 z)
      refine IH (s + 1) (G + 1 + (m - (m3 + 1)) + 1) _ _ _ _ _ _ _ _ _ _ _ _ (yp_n 3 0 vs.length :: T') _ _ _ _ _ hok3 (zl_e (by simp) (yp_e_n (a := 3) (b := 0) (h := vs.length) (by decide) (by omega) (by simp only [List.length_cons] at bd ⊢; omega)) (fun z => absurd z (by simp)) hz) hf (fun Q q => HY Q (fun g hg => yl_I c.2.1 (by omega) hp (by simp only [List.length_cons] at bd ⊢; omega) (by simp only [List.length_cons] at bd ⊢; omega) he (fun _ va ca hva => dw Q (G + 1) vs.length (b + 1) t pr _ (yp_n 7 2 vs.length :: T') 0 ca va vr mem out (yr_1 (by simp) (yp_e_n (a := 3) (b := 0) (h := vs.length) (by decide) (by omega) (by simp only [List.length_cons] at bd ⊢; omega)) rfl) (by simp only [List.length_cons] at bd ⊢; omega) (by simp only [List.length_cons] at bd ⊢; omega) (by omega) (fun g' hg' => yk_els c.2.1 (by omega) hp2 (by simp only [List.length_cons] at bd ⊢; omega) (by simp only [List.length_cons] at bd ⊢; omega) (yp_e_n (a := 7) (b := 2) (h := vs.length) (by decide) (by omega) (by simp only [List.length_cons] at bd ⊢; omega)) hva (fun z => absurd h35 z) (fun _ => (q _ (by omega)))) _ (by omega)) (fun z => absurd h1 z))) (by omega) hb7 ht (by omega) (by omega) (by omega) (by omega)
    · rw [if_neg h35] at hd2
      obtain ⟨_, hu2, hok3⟩ := hd2
      have hL := mn_lab hu2
      refine zx_j59 (pc' := cc2) c.1 (by omega) (by omega) (by simp only [List.length_cons] at bd; omega) u1.1 u1.2.1 (by omega) (fun _ => hL) (fun _ => ?_) (fun z => absurd h1 z)
      exact IH (s + 1) (G + 1 + (m - (m3 + 1)) + 1) _ _ _ _ _ _ _ _ _ _ _ _ _ _ _ _ _ _ hok3 hz hf (fun Q q => HY Q (fun g hg => yl_I c.2.1 (by omega) hp (by simp only [List.length_cons] at bd ⊢; omega) (by simp only [List.length_cons] at bd ⊢; omega) he (fun _ va ca hva => dw Q (G + 1) vs.length (b + 1) t pr _ (yp_n 7 2 vs.length :: T') 0 ca va vr mem out (yr_1 (by simp) (yp_e_n (a := 3) (b := 0) (h := vs.length) (by decide) (by omega) (by simp only [List.length_cons] at bd ⊢; omega)) rfl) (by simp only [List.length_cons] at bd ⊢; omega) (by simp only [List.length_cons] at bd ⊢; omega) (by omega) (fun g' hg' => yk_els c.2.1 (by omega) hp2 (by simp only [List.length_cons] at bd ⊢; omega) (by simp only [List.length_cons] at bd ⊢; omega) (yp_e_n (a := 7) (b := 2) (h := vs.length) (by decide) (by omega) (by simp only [List.length_cons] at bd ⊢; omega)) hva (fun _ => (q _ (by omega))) (fun z => absurd z h35)) _ (by omega)) (fun z => absurd h1 z))) (by omega) hb7 ht (by omega) (by omega) (by omega) (by omega)
  · refine zx_j59 (pc' := 0) c.1 (by omega) (by omega) (by simp only [List.length_cons] at bd; omega) u1.1 u1.2.1 (by omega) (fun z => absurd z h1) (fun z => absurd z h1) (fun _ => ?_)
    exact IH (s + 1) (G + 1) _ _ _ _ _ _ _ _ _ _ _ _ (yp_n 3 0 vs.length :: yp_n 7 1 vs.length :: T') _ _ _ _ _ hok (zl_e (by simp) (yp_e_n (a := 3) (b := 0) (h := vs.length) (by decide) (by omega) (by simp only [List.length_cons] at bd ⊢; omega)) (fun z => absurd z (by simp)) ⟨_, T', rfl, (yp_e_n (a := 7) (b := 1) (h := vs.length) (by decide) (by omega) (by simp only [List.length_cons] at bd ⊢; omega)), hz⟩) hf (fun Q q => HY Q (fun g hg => yl_I c.2.1 (by omega) hp (by simp only [List.length_cons] at bd ⊢; omega) (by simp only [List.length_cons] at bd ⊢; omega) he (fun z => absurd z h1) (fun _ => (q _ (by omega))))) (by omega) hb7 ht (by omega) (by omega) (by omega) (by omega)
theorem mn_7 {PX : Int32 → SX → Prop} {YS : (SY → Prop) → Prop} {U : SX} {W : SY} {n NF r N : Nat} {F : gm_A} {s G b p t pr cc lc fc m hb u : Nat} {vs : List Int32} {S : List gm_I} {T Tb : List Nat} {vr rt mem out : Nat → Int32} (c : cx PX YS U W n NF r F) (IH : RG PX YS U W n NF r F N) {a d e0 : Nat} {v : Int32} (hok : gm_ok W.2.2.2.2.2.2.2.2.2.2.2.2.2.2.2.2.2.2.2.2.2.2.2.2.1 W.2.2.2.2.2.2.2.2.2.2.2.2.2.2.2.2.2.2.2.2.2.2.2.2.2.1 n F NF m p ((7, a, d, e0, v) :: S) cc lc fc) (hz : zl W.2.2.2.2.2.2.2.2.2.2.2.2.2.2.2.2.2.2.2.2.2.2.2.2.1 W.2.2.2.2.2.2.2.2.2.2.2.2.2.2.2.2.2.2.2.2.2.2.2.2.2.1 n F NF Tb hb ((7, a, d, e0, v) :: S) T vs.length) (hf : frs W.2.2.2.2.2.2.2.2.2.2.2.2.2.2.2.2.2.2.2.2.2.2.2.2.1 W.2.2.2.2.2.2.2.2.2.2.2.2.2.2.2.2.2.2.2.2.2.2.2.2.2.1 n F NF rt b Tb hb u)
    (HY : ∀ Q, (∀ g, g ≤ G → yR Q W g (b + 1) vs p t pr T vr mem out) → YS Q) (hm : m ≤ 400) (hb7 : b ≤ 7) (ht : t ≤ 120) (hpr : pr ≤ s) (hN : t * 401 + m + u < N + 1) (hG : G + 2 * (t * 401 + m + u) + 5 ≤ 400000) (hs : s + 4 * (t * 401 + m + u) + 5 ≤ 1000000) : zX PX U r s b vs cc t pr vr rt mem out := by
  have hn := c.2.1.2.1
  have bd := mn_bd c hok hz hf hb7
  obtain ⟨m, rfl⟩ : ∃ m', m = m' + 1 := by
    cases m with
    | zero => exact hok.elim
    | succ m => exact ⟨m, rfl⟩
  obtain ⟨hI, hsc, hd⟩ := hok
  have hp := hI.1
  have l1 := hI.2.1.1
  have hv := hI.2.2.2.2.2.1.1
  have hs2 := hI.2.2.2.2.2.2.2
  unfold gm_d at hd
  dsimp only at hd
  rw [if_neg (by decide), if_neg (by decide), if_neg (by decide), if_neg (by decide), if_neg (by decide), if_neg (by decide), if_pos rfl] at hd
  unfold zl at hz
  dsimp only at hz
  rw [if_neg (by decide), if_neg (by decide), if_neg (by decide), if_neg (by decide), if_pos rfl] at hz
  obtain ⟨e, T', rfl, he, hz⟩ := hz
  have lb : a + 2 ≤ lc := by have := hI.2.2.2.1; simp [gm_lb] at this; omega
  have l2' := hI.2.1.2.1
  by_cases h35 : gm_tk W.2.2.2.2.2.2.2.2.2.2.2.2.2.2.2.2.2.2.2.2.2.2.2.2.1 n p = 35
  · rw [if_pos h35] at hd
    obtain ⟨_, hu, hok⟩ := hd
    have u1 := mn_up1 hu
    simp only [gm_sm] at l1
    simp [gw_e] at l1
    obtain ⟨m2, p2, cc2, lc2, fc2, hm2, hok2, dw⟩ := mn_dw c (S1 := [gi_S]) hok
    obtain ⟨m3, rfl⟩ := ok_s hok2
    obtain ⟨hI2, _, hd2⟩ := hok2
    have hp2 := hI2.1
    have l2 := hI2.2.1.1
    unfold gm_d at hd2
    dsimp only at hd2
    rw [if_neg (by decide), if_neg (by decide), if_neg (by decide), if_neg (by decide), if_neg (by decide), if_neg (by decide), if_neg (by decide), if_pos rfl] at hd2
    obtain ⟨_, hu2, hok3⟩ := hd2
    have hL := mn_lab hu2
    refine zx_j58 (pc' := cc2) c.1 (by omega) (by omega) (by omega) u1.1 u1.2.1 (by omega) hL ?_
    exact IH (s + 1) (G + 1 + (m - (m3 + 1)) + 1) _ _ _ _ _ _ _ _ _ _ _ _ _ _ _ _ _ _ hok3 hz hf (fun Q q => HY Q (fun g hg => yl_L1 c.2.1 (by omega) hp (by simp only [List.length_cons] at bd ⊢; omega) (by simp only [List.length_cons] at bd ⊢; omega) he (fun z => absurd h35 z) (fun _ va ca hva => dw Q (G + 1) vs.length (b + 1) t pr _ (yp_n 5 0 vs.length :: T') 0 ca va vr mem out (yr_1 (by simp) (yp_e_n (a := 3) (b := 0) (h := vs.length) (by decide) (by omega) (by simp only [List.length_cons] at bd ⊢; omega)) rfl) (by simp only [List.length_cons] at bd ⊢; omega) (by simp only [List.length_cons] at bd ⊢; omega) (by omega) (fun g' hg' => yk_rev c.2.1 (by omega) hp2 (by simp only [List.length_cons] at bd ⊢; omega) (by simp only [List.length_cons] at bd ⊢; omega) (yp_e_n (a := 5) (b := 0) (h := vs.length) (by decide) (by omega) (by simp only [List.length_cons] at bd ⊢; omega)) hva (q _ (by omega))) _ (by omega)))) (by omega) hb7 ht (by omega) (by omega) (by omega) (by omega)
  · rw [if_neg h35] at hd
    exact IH (s) (G + 1) _ _ _ _ _ _ _ _ _ _ _ _ _ _ _ _ _ _ hd.2.2 hz hf (fun Q q => HY Q (fun g hg => yl_L1 c.2.1 (by omega) hp (by simp only [List.length_cons] at bd ⊢; omega) (by simp only [List.length_cons] at bd ⊢; omega) he (fun _ => (q _ (by omega))) (fun z => absurd z h35))) (by omega) hb7 ht (by omega) (by omega) (by omega) (by omega)
theorem mn_9 {PX : Int32 → SX → Prop} {YS : (SY → Prop) → Prop} {U : SX} {W : SY} {n NF r N : Nat} {F : gm_A} {s G b p t pr cc lc fc m hb u : Nat} {vs : List Int32} {S : List gm_I} {T Tb : List Nat} {vr rt mem out : Nat → Int32} (c : cx PX YS U W n NF r F) (IH : RG PX YS U W n NF r F N) {a d e0 : Nat} {v : Int32} (hok : gm_ok W.2.2.2.2.2.2.2.2.2.2.2.2.2.2.2.2.2.2.2.2.2.2.2.2.1 W.2.2.2.2.2.2.2.2.2.2.2.2.2.2.2.2.2.2.2.2.2.2.2.2.2.1 n F NF m p ((9, a, d, e0, v) :: S) cc lc fc) (hz : zl W.2.2.2.2.2.2.2.2.2.2.2.2.2.2.2.2.2.2.2.2.2.2.2.2.1 W.2.2.2.2.2.2.2.2.2.2.2.2.2.2.2.2.2.2.2.2.2.2.2.2.2.1 n F NF Tb hb ((9, a, d, e0, v) :: S) T vs.length) (hf : frs W.2.2.2.2.2.2.2.2.2.2.2.2.2.2.2.2.2.2.2.2.2.2.2.2.1 W.2.2.2.2.2.2.2.2.2.2.2.2.2.2.2.2.2.2.2.2.2.2.2.2.2.1 n F NF rt b Tb hb u)
    (HY : ∀ Q, (∀ g, g ≤ G → yR Q W g (b + 1) vs p t pr T vr mem out) → YS Q) (hm : m ≤ 400) (hb7 : b ≤ 7) (ht : t ≤ 120) (hpr : pr ≤ s) (hN : t * 401 + m + u < N + 1) (hG : G + 2 * (t * 401 + m + u) + 5 ≤ 400000) (hs : s + 4 * (t * 401 + m + u) + 5 ≤ 1000000) : zX PX U r s b vs cc t pr vr rt mem out := by
  have hn := c.2.1.2.1
  have bd := mn_bd c hok hz hf hb7
  obtain ⟨m, rfl⟩ : ∃ m', m = m' + 1 := by
    cases m with
    | zero => exact hok.elim
    | succ m => exact ⟨m, rfl⟩
  obtain ⟨hI, hsc, hd⟩ := hok
  have hp := hI.1
  have l1 := hI.2.1.1
  have hv := hI.2.2.2.2.2.1.1
  have hs2 := hI.2.2.2.2.2.2.2
  unfold gm_d at hd
  dsimp only at hd
  rw [if_neg (by decide), if_neg (by decide), if_neg (by decide), if_neg (by decide), if_neg (by decide), if_neg (by decide), if_neg (by decide), if_neg (by decide), if_pos rfl] at hd
  unfold zl at hz
  dsimp only at hz
  rw [if_neg (by decide), if_neg (by decide), if_neg (by decide), if_neg (by decide), if_neg (by decide), if_neg (by decide), if_neg (by decide), if_neg (by decide), if_pos rfl] at hz
  obtain ⟨e, T', h', hh, rfl, he, hF, hz⟩ := hz
  have hq1 : 2 ≤ d ∧ d ≤ n := by simpa [gm_vl] using hv
  obtain ⟨_, hu, hok⟩ := hd
  have u1 := mn_up1 hu
  simp only [gm_sm] at l1
  simp [gw_e] at l1
  obtain ⟨v1, vs, rfl⟩ : ∃ v1 vs', vs = v1 :: vs' := by
    cases vs with
    | nil => simp at hh
    | cons v1 vs => exact ⟨v1, vs, rfl⟩
  have e9 : vs.length = h' := by simpa using hh
  subst e9
  have lb : a + 2 ≤ lc := by have := hI.2.2.2.1; simp [gm_lb] at this; omega
  have l2' := hI.2.1.2.1
  obtain ⟨m2, p2, cc2, lc2, fc2, hm2, hok2, dw⟩ := mn_dw c (S1 := [gi_S]) hok
  obtain ⟨m3, rfl⟩ := ok_s hok2
  obtain ⟨hI2, _, hd2⟩ := hok2
  have hp2 := hI2.1
  have l2 := hI2.2.1.1
  unfold gm_d at hd2
  dsimp only at hd2
  rw [if_neg (by decide), if_neg (by decide), if_neg (by decide), if_neg (by decide), if_neg (by decide), if_neg (by decide), if_neg (by decide), if_neg (by decide), if_neg (by decide), if_pos rfl] at hd2
  obtain ⟨_, hu2, hok3⟩ := hd2
  have hL := mn_lab hu2
  refine zx_j59 (pc' := cc2 + 1) c.1 (by omega) (by omega) (by simp only [List.length_cons] at bd; omega) u1.1 u1.2.1 (by omega) (fun _ => hL) (fun h1 => ?_) (fun h1 => ?_)
  · exact IH (s + 1) (G + 1 + (m - (m3 + 1)) + 1) _ _ _ _ _ _ _ _ _ _ _ _ _ _ _ _ _ _ hok3 hz hf (fun Q q => HY Q (fun g hg => yl_W c.2.1 (by omega) hp (by simp only [List.length_cons] at bd ⊢; omega) (by simp only [List.length_cons] at bd ⊢; omega) he (by omega) (fun _ va ca hva => dw Q (G + 1) vs.length (b + 1) t pr _ (yp_n 5 0 vs.length :: T') 0 ca va vr mem out (yr_1 (by simp) (yp_e_n (a := 3) (b := 0) (h := vs.length) (by decide) (by omega) (by simp only [List.length_cons] at bd ⊢; omega)) rfl) (by simp only [List.length_cons] at bd ⊢; omega) (by simp only [List.length_cons] at bd ⊢; omega) (by omega) (fun g' hg' => yk_rev c.2.1 (by omega) hp2 (by simp only [List.length_cons] at bd ⊢; omega) (by simp only [List.length_cons] at bd ⊢; omega) (yp_e_n (a := 5) (b := 0) (h := vs.length) (by decide) (by omega) (by simp only [List.length_cons] at bd ⊢; omega)) hva (q _ (by omega))) _ (by omega)) (fun z => absurd h1 z))) (by omega) hb7 ht (by omega) (by omega) (by omega) (by omega)
  · exact IH (s + 1) (G + 1) _ _ _ _ _ _ _ _ _ _ _ _ (yp_n 3 0 vs.length :: yp_n 9 d vs.length :: T') _ _ _ _ _ hok (zl_e (by simp) (yp_e_n (a := 3) (b := 0) (h := vs.length) (by decide) (by omega) (by simp only [List.length_cons] at bd ⊢; omega)) (fun z => absurd z (by simp)) ⟨d, _, T', rfl, by omega, (yp_e_n (a := 9) (b := d) (h := vs.length) (by decide) (by omega) (by simp only [List.length_cons] at bd ⊢; omega)), hF, hz⟩) hf (fun Q q => HY Q (fun g hg => yl_W c.2.1 (by omega) hp (by simp only [List.length_cons] at bd ⊢; omega) (by simp only [List.length_cons] at bd ⊢; omega) he (by omega) (fun z => absurd z h1) (fun _ => (q _ (by omega))))) (by omega) hb7 ht (by omega) (by omega) (by omega) (by omega)
theorem zl_head {K V : Nat → Int32} {n : Nat} {F : gm_A} {NF : Nat} {Tb T : List Nat} {hb h a q : Nat} {S : List gm_I} (hh : h < 1000) (hq : q < 1000) (hF : zlF K V n F NF a q S) (hz : zl K V n F NF Tb hb S T h) : zl K V n F NF Tb hb (gi_E 1 :: gi_X 5 :: gi_W a q :: S) (yp_n 16 0 h :: yp_n 4 5 h :: yp_n 8 q h :: T) h :=
  Or.inl ⟨rfl, _, _, rfl, yp_e_n (by decide) (by decide) (by omega), zl_e (by simp) (yp_e_n (by decide) (by decide) (by omega)) (fun z => absurd z (by simp)) ⟨_, T, h, rfl, rfl, yp_e_n (by decide) (by omega) (by omega), hF, hz⟩⟩
theorem mn_10 {PX : Int32 → SX → Prop} {YS : (SY → Prop) → Prop} {U : SX} {W : SY} {n NF r N : Nat} {F : gm_A} {s G b p t pr cc lc fc m hb u : Nat} {vs : List Int32} {S : List gm_I} {T Tb : List Nat} {vr rt mem out : Nat → Int32} (c : cx PX YS U W n NF r F) (IH : RG PX YS U W n NF r F N) {a d e0 : Nat} {v : Int32} (hok : gm_ok W.2.2.2.2.2.2.2.2.2.2.2.2.2.2.2.2.2.2.2.2.2.2.2.2.1 W.2.2.2.2.2.2.2.2.2.2.2.2.2.2.2.2.2.2.2.2.2.2.2.2.2.1 n F NF m p ((10, a, d, e0, v) :: S) cc lc fc) (hz : zl W.2.2.2.2.2.2.2.2.2.2.2.2.2.2.2.2.2.2.2.2.2.2.2.2.1 W.2.2.2.2.2.2.2.2.2.2.2.2.2.2.2.2.2.2.2.2.2.2.2.2.2.1 n F NF Tb hb ((10, a, d, e0, v) :: S) T vs.length) (hf : frs W.2.2.2.2.2.2.2.2.2.2.2.2.2.2.2.2.2.2.2.2.2.2.2.2.1 W.2.2.2.2.2.2.2.2.2.2.2.2.2.2.2.2.2.2.2.2.2.2.2.2.2.1 n F NF rt b Tb hb u)
    (HY : ∀ Q, (∀ g, g ≤ G → yR Q W g (b + 1) vs p t pr T vr mem out) → YS Q) (hm : m ≤ 400) (hb7 : b ≤ 7) (ht : t ≤ 120) (hpr : pr ≤ s) (hN : t * 401 + m + u < N + 1) (hG : G + 2 * (t * 401 + m + u) + 5 ≤ 400000) (hs : s + 4 * (t * 401 + m + u) + 5 ≤ 1000000) : zX PX U r s b vs cc t pr vr rt mem out := by
  have hn := c.2.1.2.1
  have bd := mn_bd c hok hz hf hb7
  obtain ⟨m, rfl⟩ : ∃ m', m = m' + 1 := by
    cases m with
    | zero => exact hok.elim
    | succ m => exact ⟨m, rfl⟩
  obtain ⟨hI, hsc, hd⟩ := hok
  have hp := hI.1
  have l1 := hI.2.1.1
  have hv := hI.2.2.2.2.2.1.1
  have hs2 := hI.2.2.2.2.2.2.2
  unfold gm_d at hd
  dsimp only at hd
  rw [if_neg (by decide), if_neg (by decide), if_neg (by decide), if_neg (by decide), if_neg (by decide), if_neg (by decide), if_neg (by decide), if_neg (by decide), if_neg (by decide), if_pos rfl] at hd
  unfold zl at hz
  dsimp only at hz
  rw [if_neg (by decide), if_neg (by decide), if_neg (by decide), if_pos rfl] at hz
  obtain ⟨q, e, T', rfl, hq, he, hF, hz⟩ := hz
  obtain ⟨_, hu, hok⟩ := hd
  have u1 := mn_up1 hu
  simp only [gm_sm] at l1
  simp [gw_e] at l1
  have hF' := hF
  obtain ⟨m0, cc0, lc0, fc0, hm0, hok0, hL, hk0, hpl0, hq2, hq120, hc0⟩ := hF
  have lb : a + 2 ≤ lc := by have := hI.2.2.2.1; simp [gm_lb] at this; omega
  have l2' := hI.2.1.2.1
  refine zx_j58 (pc' := cc0) c.1 (by omega) (by omega) (by omega) u1.1 u1.2.1 (by omega) hL ?_
  refine zx_tick c.1 (by omega) hc0 (by omega) hk0 hpl0 ht (fun hT => ?_) (fun hT => ?_)
  · exact IH (s + 1 + 1) (G + 1) _ _ _ _ _ _ _ _ _ _ _ _ _ _ _ _ _ _ hok0 (zl_head (by omega) (by omega) hF' hz) hf (fun Q q => HY Q (fun g hg => yl_O c.2.1 (by omega) hp (by simp only [List.length_cons] at bd ⊢; omega) (by simp only [List.length_cons] at bd ⊢; omega) he hq2 (by omega) ht (fun _ => (q _ (by omega))) (fun z => absurd z (by omega)))) hm0 hb7 (by omega) (by omega) (by omega) (by omega) (by omega)
  · exact c.2.2.2.2.2.2.2 4 _ 0 t pr mem out ht (by simp) (fun Q hq => HY Q (fun g hg => yl_O c.2.1 (by omega) hp (by simp only [List.length_cons] at bd ⊢; omega) (by simp only [List.length_cons] at bd ⊢; omega) he hq2 (by omega) ht (fun z => absurd z (by omega)) (fun _ => hq)))
