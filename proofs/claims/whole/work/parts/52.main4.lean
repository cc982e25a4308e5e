/-! run: statements -/
theorem mn_stm {PX : Int32 → SX → Prop} {YS : (SY → Prop) → Prop} {U : SX} {W : SY} {n NF r N : Nat} {F : gm_A} {s G b p t pr cc lc fc m hb u : Nat} {vs : List Int32} {S : List gm_I} {T Tb : List Nat} {vr rt mem out : Nat → Int32} (c : cx PX YS U W n NF r F) (IH : RG PX YS U W n NF r F N) {R : List gm_I} (hd : gm_stm W.2.2.2.2.2.2.2.2.2.2.2.2.2.2.2.2.2.2.2.2.2.2.2.2.1 W.2.2.2.2.2.2.2.2.2.2.2.2.2.2.2.2.2.2.2.2.2.2.2.2.2.1 n (fun _ _ => False) (fun p' S' lc' fc' b es lw _ fw => b = false ∧ gm_up F cc fc p' es lw none fw = F ∧ gm_ok W.2.2.2.2.2.2.2.2.2.2.2.2.2.2.2.2.2.2.2.2.2.2.2.2.1 W.2.2.2.2.2.2.2.2.2.2.2.2.2.2.2.2.2.2.2.2.2.2.2.2.2.1 n F NF m p' S' (cc + es.length) lc' fc') p R cc lc fc) (hz : zl W.2.2.2.2.2.2.2.2.2.2.2.2.2.2.2.2.2.2.2.2.2.2.2.2.1 W.2.2.2.2.2.2.2.2.2.2.2.2.2.2.2.2.2.2.2.2.2.2.2.2.2.1 n F NF Tb hb R T vs.length) (hsl : gm_sl R) (hf : frs W.2.2.2.2.2.2.2.2.2.2.2.2.2.2.2.2.2.2.2.2.2.2.2.2.1 W.2.2.2.2.2.2.2.2.2.2.2.2.2.2.2.2.2.2.2.2.2.2.2.2.2.1 n F NF rt b Tb hb u)
    (HY : ∀ Q, (∀ g, g ≤ G → ySt Q W g (b + 1) vs p t pr T vr mem out) → YS Q) (hp : p ≤ n) (l1 : cc ≤ 3 * p) (l2 : lc ≤ 2 * p) (bd : T.length < 1150 ∧ vs.length < 500) (hm : m ≤ 400) (hb7 : b ≤ 7) (ht : t ≤ 120) (hpr : pr ≤ s) (hN : t * 401 + (m + 1) + u < N + 1) (hG : G + 2 * (t * 401 + (m + 1) + u) + 5 ≤ 400000) (hs : s + 4 * (t * 401 + (m + 1) + u) + 5 ≤ 1000000) : zX PX U r s b vs cc t pr vr rt mem out := by
  have hn := c.2.1.2.1
  have hb1 := bd.1
  have hb2 := bd.2
  unfold gm_stm at hd
  by_cases h8 : gm_tk W.2.2.2.2.2.2.2.2.2.2.2.2.2.2.2.2.2.2.2.2.2.2.2.2.1 n p = 8
  · rw [if_pos h8] at hd
    exact IH (s) (G + 1) _ _ _ _ _ _ _ _ _ _ _ _ (yp_n 2 0 vs.length :: T) _ _ _ _ _ hd.2.2 (zl_e (by simp) (yp_e_n (a := 2) (b := 0) (h := vs.length) (by decide) (by omega) (by omega)) (fun z => absurd z (by simp)) hz) hf (fun Q q => HY Q (fun g hg => ys_8 c.2.1 (by omega) hp (by omega) (by omega) h8 (q _ (by omega)))) (by omega) hb7 ht (by omega) (by omega) (by omega) (by omega)
  rw [if_neg h8] at hd
  by_cases h1 : gm_tk W.2.2.2.2.2.2.2.2.2.2.2.2.2.2.2.2.2.2.2.2.2.2.2.2.1 n p = 1
  · rw [if_pos h1] at hd
    have hq := gm_tk_lt h1 (by decide)
    by_cases hx : gm_tk W.2.2.2.2.2.2.2.2.2.2.2.2.2.2.2.2.2.2.2.2.2.2.2.2.1 n (p + 1) = 12
    · rw [if_pos hx] at hd
      obtain ⟨w, hw, ew⟩ := (c.2.1.2.2.1 p hq).2.1 ((gm_tk_K hq).symm.trans h1)
      rw [ew, nI_clamp (by omega)] at hd
      refine IH (s) (G + 1) _ _ _ _ _ _ _ _ _ _ _ _ (yp_n 16 0 vs.length :: yp_n 13 w vs.length :: yp_n 4 10 vs.length :: T) _ _ _ _ _ hd.2.2 ?_ hf (fun Q q => HY Q (fun g hg => ys_1 c.2.1 (by omega) hp (by omega) (by omega) h1 hx ew hw (q _ (by omega)))) (by omega) hb7 ht (by omega) (by omega) (by omega) (by omega)
      exact Or.inl ⟨rfl, _, _, rfl, (yp_e_n (a := 16) (b := 0) (h := vs.length) (by decide) (by omega) (by omega)), ⟨_, _, vs.length, rfl, rfl, (yp_e_n (a := 13) (b := w) (h := vs.length) (by decide) (by omega) (by omega)), fun z => absurd z (by simp), zl_e (by simp) (yp_e_n (a := 4) (b := 10) (h := vs.length) (by decide) (by omega) (by omega)) (fun z => absurd z (by simp)) hz⟩⟩
    · rw [if_neg hx] at hd
      exact hd.elim
  rw [if_neg h1] at hd
  by_cases h3 : gm_tk W.2.2.2.2.2.2.2.2.2.2.2.2.2.2.2.2.2.2.2.2.2.2.2.2.1 n p = 3
  · rw [if_pos h3] at hd
    have hq := gm_tk_lt h3 (by decide)
    by_cases hx : gm_tk W.2.2.2.2.2.2.2.2.2.2.2.2.2.2.2.2.2.2.2.2.2.2.2.2.1 n (p + 1) = 6
    · rw [if_pos hx] at hd
      refine IH (s) (G + 1) _ _ _ _ _ _ _ _ _ _ _ _ (yp_n 16 0 vs.length :: yp_n 4 7 vs.length :: yp_n 4 12 vs.length :: yp_n 16 0 vs.length :: yp_n 14 p vs.length :: yp_n 4 10 vs.length :: T) _ _ _ _ _ hd.2.2 ?_ hf (fun Q q => HY Q (fun g hg => ys_3 c.2.1 (by omega) hp (by omega) (by omega) h3 hx (q _ (by omega)))) (by omega) hb7 ht (by omega) (by omega) (by omega) (by omega)
      exact Or.inl ⟨rfl, _, _, rfl, (yp_e_n (a := 16) (b := 0) (h := vs.length) (by decide) (by omega) (by omega)), zl_e (by simp) (yp_e_n (a := 4) (b := 7) (h := vs.length) (by decide) (by omega) (by omega)) (fun z => absurd z (by simp)) (zl_e (by simp) (yp_e_n (a := 4) (b := 12) (h := vs.length) (by decide) (by omega) (by omega)) (fun z => absurd z (by simp)) (Or.inl ⟨rfl, _, _, rfl, (yp_e_n (a := 16) (b := 0) (h := vs.length) (by decide) (by omega) (by omega)), ⟨_, _, vs.length, rfl, rfl, (yp_e_n (a := 14) (b := p) (h := vs.length) (by decide) (by omega) (by omega)), zl_e (by simp) (yp_e_n (a := 4) (b := 10) (h := vs.length) (by decide) (by omega) (by omega)) (fun z => absurd z (by simp)) hz⟩⟩))⟩
    · rw [if_neg hx] at hd
      exact hd.elim
  rw [if_neg h3] at hd
  by_cases h2 : gm_tk W.2.2.2.2.2.2.2.2.2.2.2.2.2.2.2.2.2.2.2.2.2.2.2.2.1 n p = 2
  · rw [if_pos h2] at hd
    have hq := gm_tk_lt h2 (by decide)
    by_cases hx : gm_tk W.2.2.2.2.2.2.2.2.2.2.2.2.2.2.2.2.2.2.2.2.2.2.2.2.1 n (p + 1) = 4
    · rw [if_pos hx] at hd
      obtain ⟨f, cn, hf1, hf2, hf3, hf4, hf5, hf6⟩ := mn_fun c hq ((gm_tk_K hq).symm.trans h2)
      refine IH (s) (G + 1) _ _ _ _ _ _ _ _ _ _ _ _ (yp_n 23 p vs.length :: yp_n 25 p vs.length :: yp_n 15 0 vs.length :: yp_n 4 10 vs.length :: T) _ _ _ _ _ hd.2.2 ?_ hf (fun Q q => HY Q (fun g hg => ys_2 c.2.1 (by omega) hp (by omega) (by omega) h2 hx (q _ (by omega)))) (by omega) hb7 ht (by omega) (by omega) (by omega) (by omega)
      exact ⟨_, _, cn, rfl, (yp_e_n (a := 23) (b := p) (h := vs.length) (by decide) (by omega) (by omega)), by rw [hf3]; exact hf4, hf5, ⟨_, _, rfl⟩, ⟨_, _, vs.length, cn, rfl, rfl, rfl, by rw [hf3]; exact hf4, hf5, ⟨_, _, vs.length, rfl, rfl, (yp_e_n (a := 15) (b := 0) (h := vs.length) (by decide) (by omega) (by omega)), fun z => absurd z (by simp), zl_e (by simp) (yp_e_n (a := 4) (b := 10) (h := vs.length) (by decide) (by omega) (by omega)) (fun z => absurd z (by simp)) hz⟩⟩⟩
    · rw [if_neg hx] at hd
      exact hd.elim
  rw [if_neg h2] at hd
  by_cases h34 : gm_tk W.2.2.2.2.2.2.2.2.2.2.2.2.2.2.2.2.2.2.2.2.2.2.2.2.1 n p = 34
  · rw [if_pos h34] at hd
    have hq := gm_tk_lt h34 (by decide)
    by_cases hx : gm_tk W.2.2.2.2.2.2.2.2.2.2.2.2.2.2.2.2.2.2.2.2.2.2.2.2.1 n (p + 1) = 4
    · rw [if_pos hx] at hd
      refine IH (s) (G + 1) _ _ _ _ _ _ _ _ _ _ _ _ (yp_n 16 0 vs.length :: yp_n 4 5 vs.length :: yp_n 6 0 vs.length :: T) _ _ _ _ _ hd.2.2 ?_ hf (fun Q q => HY Q (fun g hg => ys_34 c.2.1 (by omega) hp (by omega) (by omega) h34 hx (q _ (by omega)))) (by omega) hb7 ht (by omega) (by omega) (by omega) (by omega)
      exact Or.inl ⟨rfl, _, _, rfl, (yp_e_n (a := 16) (b := 0) (h := vs.length) (by decide) (by omega) (by omega)), zl_e (by simp) (yp_e_n (a := 4) (b := 5) (h := vs.length) (by decide) (by omega) (by omega)) (fun z => absurd z (by simp)) ⟨_, T, vs.length, rfl, rfl, (yp_e_n (a := 6) (b := 0) (h := vs.length) (by decide) (by omega) (by omega)), hz⟩⟩
    · rw [if_neg hx] at hd
      exact hd.elim
  rw [if_neg h34] at hd
  by_cases h36 : gm_tk W.2.2.2.2.2.2.2.2.2.2.2.2.2.2.2.2.2.2.2.2.2.2.2.2.1 n p = 36
  · rw [if_pos h36] at hd
    have hq := gm_tk_lt h36 (by decide)
    by_cases hx : gm_tk W.2.2.2.2.2.2.2.2.2.2.2.2.2.2.2.2.2.2.2.2.2.2.2.2.1 n (p + 1) = 4
    · rw [if_pos hx] at hd
      have u1 := mn_up1 hd.2.1
      have hL := mn_lab hd.2.1
      refine zx_tick c.1 (by omega) (by omega) (by omega) u1.1 u1.2.2 ht (fun hT => ?_) (fun hT => ?_)
      · exact IH (s + 1) (G + 1) _ _ _ _ _ _ _ _ _ _ _ _ (yp_n 16 0 vs.length :: yp_n 4 5 vs.length :: yp_n 8 (p + 2) vs.length :: T) _ _ _ _ _ hd.2.2 (zl_head (by omega) (by omega) ⟨m, cc, lc + 2, fc, by omega, hd.2.2, hL, u1.1, u1.2.2, by omega, by have := gm_tk_lt hx (by decide); omega, by omega⟩ hz) hf (fun Q q => HY Q (fun g hg => ys_36 c.2.1 (by omega) hp (by omega) (by omega) ht h36 hx (fun _ => (q _ (by omega))) (fun z => absurd z (by omega)))) (by omega) hb7 (by omega) (by omega) (by omega) (by omega) (by omega)
      · exact c.2.2.2.2.2.2.2 4 _ 0 t pr mem out ht (by simp) (fun Q hq => HY Q (fun g hg => ys_36 c.2.1 (by omega) hp (by omega) (by omega) ht h36 hx (fun z => absurd z (by omega)) (fun _ => hq)))
    · rw [if_neg hx] at hd
      exact hd.elim
  rw [if_neg h36] at hd
  by_cases h37 : gm_tk W.2.2.2.2.2.2.2.2.2.2.2.2.2.2.2.2.2.2.2.2.2.2.2.2.1 n p = 37
  · rw [if_pos h37] at hd
    have hq := gm_tk_lt h37 (by decide)
    cases ho : gm_opn R with
    | nil => rw [ho] at hd; exact absurd hd.1 (by decide)
    | cons l ol =>
      rw [ho] at hd
      obtain ⟨_, hu, hok⟩ := hd
      have u1 := mn_up1 hu
      obtain ⟨S1, x, S2, q, e, T2, x1, x2, rfl, hyd, hq10, he, hF, hz2, hsl2⟩ := zl_brk (pd := 1) hsl hz ho
      obtain ⟨t1, l', xb, xc, xv⟩ := x
      have t10 : t1 = 10 := x1
      have el : l' = l := x2
      subst t10 el
      obtain ⟨m2, p2, cc2, lc2, fc2, hm2, hok2, dw⟩ := mn_dw c (S1 := gi_X 10 :: S1) hok
      obtain ⟨m3, rfl⟩ := ok_s hok2
      obtain ⟨hI2, _, hd2⟩ := hok2
      have hp2 := hI2.1
      have l22 := hI2.2.1.2.1
      have lb : l' + 2 ≤ lc2 := by have := hI2.2.2.2.1; simp [gm_lb] at this; omega
      unfold gm_d at hd2
      dsimp only at hd2
      rw [if_neg (by decide), if_neg (by decide), if_neg (by decide), if_neg (by decide), if_neg (by decide), if_neg (by decide), if_neg (by decide), if_neg (by decide), if_neg (by decide), if_pos rfl] at hd2
      obtain ⟨_, hu2, hok3⟩ := hd2
      have hL := mn_lab hu2
      have hfb := frs_bd c.2.1.2.2.1 c.2.1.2.1 b hf
      have hT2 := zl_len hz2
      have hTT : (e :: T2).length ≤ 1100 := by
        have h1 := zl_bd c.2.1.2.2.1 c.2.1.2.1 hok3 hz2
        simp only [List.length_cons]
        omega
      simp only [List.length_cons] at hTT
      refine zx_j58 (pc' := cc2 + 1) c.1 (by omega) (by omega) (by omega) u1.1 u1.2.1 (by omega) hL ?_
      exact IH (s + 1) (G + 1 + (m - (m3 + 1)) + 1) _ _ _ _ _ _ _ _ _ _ _ _ _ _ _ _ _ _ hok3 hz2 hf (fun Q q => HY Q (fun g hg => ys_37 (d := 37) c.2.1 (by omega) hp (by omega) (by omega) (Or.inl rfl) h37 (fun va hva => dw Q (G + 1) vs.length (b + 1) t pr _ (e :: T2) 1 0 va vr mem out (yr_1 (by simp) (yp_e_n (a := 4) (b := 10) (h := vs.length) (by decide) (by omega) (by omega)) hyd) (by simp only [List.length_cons]; omega) (by omega) (by omega) (fun g' hg' => yk_brk c.2.1 (by omega) hp2 (by omega) (by omega) he hq10 hva (q _ (by omega))) _ (by omega)))) (by omega) hb7 ht (by omega) (by omega) (by omega) (by omega)
  rw [if_neg h37] at hd
  by_cases h38 : gm_tk W.2.2.2.2.2.2.2.2.2.2.2.2.2.2.2.2.2.2.2.2.2.2.2.2.1 n p = 38
  · rw [if_pos h38] at hd
    have hq := gm_tk_lt h38 (by decide)
    cases ho : gm_opn R with
    | nil => rw [ho] at hd; exact absurd hd.1 (by decide)
    | cons l ol =>
      rw [ho] at hd
      obtain ⟨_, hu, hok⟩ := hd
      have u1 := mn_up1 hu
      obtain ⟨S1, x, S2, q, e, T2, x1, x2, rfl, hyd, hq10, he, hF, hz2, hsl2⟩ := zl_brk (pd := 2) hsl hz ho
      obtain ⟨t1, l', xb, xc, xv⟩ := x
      have t10 : t1 = 10 := x1
      have el : l' = l := x2
      subst t10 el
      obtain ⟨m2, p2, cc2, lc2, fc2, hm2, hok2, dw⟩ := mn_dw c (S1 := gi_X 10 :: S1) hok
      obtain ⟨m3, rfl⟩ := ok_s hok2
      obtain ⟨hI2, _, hd2⟩ := hok2
      have hp2 := hI2.1
      have l22 := hI2.2.1.2.1
      have lb : l' + 2 ≤ lc2 := by have := hI2.2.2.2.1; simp [gm_lb] at this; omega
      unfold gm_d at hd2
      dsimp only at hd2
      rw [if_neg (by decide), if_neg (by decide), if_neg (by decide), if_neg (by decide), if_neg (by decide), if_neg (by decide), if_neg (by decide), if_neg (by decide), if_neg (by decide), if_pos rfl] at hd2
      obtain ⟨_, hu2, hok3⟩ := hd2
      have hL := mn_lab hu2
      have hfb := frs_bd c.2.1.2.2.1 c.2.1.2.1 b hf
      have hT2 := zl_len hz2
      have hTT : (e :: T2).length ≤ 1100 := by
        have h1 := zl_bd c.2.1.2.2.1 c.2.1.2.1 hok3 hz2
        simp only [List.length_cons]
        omega
      simp only [List.length_cons] at hTT
      have hF' := hF
      obtain ⟨m0, cc0, lc0, fc0, hm0, hok0, hL0, hk0, hpl0, hq2, hq120, hc0⟩ := hF
      refine zx_j58 (pc' := cc0) c.1 (by omega) (by omega) (by omega) u1.1 u1.2.1 (by omega) hL0 ?_
      refine zx_tick c.1 (by omega) hc0 (by omega) hk0 hpl0 ht (fun hT => ?_) (fun hT => ?_)
      · exact IH (s + 1 + 1) (G + 1 + (m - (m3 + 1)) + 1) _ _ _ _ _ _ _ _ _ _ _ _ _ _ _ _ _ _ hok0 (zl_head (by omega) (by omega) hF' hz2) hf (fun Q q => HY Q (fun g hg => ys_37 (d := 38) c.2.1 (by omega) hp (by omega) (by omega) (Or.inr rfl) h38 (fun va hva => dw Q (G + 1) vs.length (b + 1) t pr _ (e :: T2) 2 0 va vr mem out (yr_1 (by simp) (yp_e_n (a := 4) (b := 10) (h := vs.length) (by decide) (by omega) (by omega)) hyd) (by simp only [List.length_cons]; omega) (by omega) (by omega) (fun g' hg' => yk_con c.2.1 (by omega) hp2 (by omega) (by omega) he hq2 hq10 ht hva (fun _ => (q _ (by omega))) (fun z => absurd z (by omega))) _ (by omega)))) hm0 hb7 (by omega) (by omega) (by omega) (by omega) (by omega)
      · exact c.2.2.2.2.2.2.2 4 _ 0 t pr mem out ht (by simp) (fun Q hq => HY Q (fun g hg => ys_37 (d := 38) c.2.1 (by omega) hp (by omega) (by omega) (Or.inr rfl) h38 (fun va hva => dw Q (G + 1) vs.length (b + 1) t pr _ (e :: T2) 2 0 va vr mem out (yr_1 (by simp) (yp_e_n (a := 4) (b := 10) (h := vs.length) (by decide) (by omega) (by omega)) hyd) (by simp only [List.length_cons]; omega) (by omega) (by omega) (fun g' hg' => yk_con c.2.1 (by omega) hp2 (by omega) (by omega) he hq2 hq10 ht hva (fun z => absurd z (by omega)) (fun _ => hq)) _ (by omega))))
  rw [if_neg h38] at hd
  by_cases h39 : gm_tk W.2.2.2.2.2.2.2.2.2.2.2.2.2.2.2.2.2.2.2.2.2.2.2.2.1 n p = 39
  · rw [if_pos h39] at hd
    have hq := gm_tk_lt h39 (by decide)
    refine IH (s) (G + 1) _ _ _ _ _ _ _ _ _ _ _ _ (yp_n 16 0 vs.length :: yp_n 11 0 vs.length :: yp_n 4 10 vs.length :: T) _ _ _ _ _ hd.2.2 ?_ hf (fun Q q => HY Q (fun g hg => ys_39 (d := 39) (e := 11) c.2.1 (by omega) hp (by omega) (by omega) (by omega) h39 (q _ (by omega)))) (by omega) hb7 ht (by omega) (by omega) (by omega) (by omega)
    exact Or.inl ⟨rfl, _, _, rfl, (yp_e_n (a := 16) (b := 0) (h := vs.length) (by decide) (by omega) (by omega)), ⟨_, _, vs.length, rfl, rfl, (yp_e_n (a := 11) (b := 0) (h := vs.length) (by decide) (by omega) (by omega)), fun z => absurd z (by simp), zl_e (by simp) (yp_e_n (a := 4) (b := 10) (h := vs.length) (by decide) (by omega) (by omega)) (fun z => absurd z (by simp)) hz⟩⟩
  rw [if_neg h39] at hd
  by_cases h40 : gm_tk W.2.2.2.2.2.2.2.2.2.2.2.2.2.2.2.2.2.2.2.2.2.2.2.2.1 n p = 40
  · rw [if_pos h40] at hd
    have hq := gm_tk_lt h40 (by decide)
    refine IH (s) (G + 1) _ _ _ _ _ _ _ _ _ _ _ _ (yp_n 16 0 vs.length :: yp_n 12 0 vs.length :: yp_n 4 10 vs.length :: T) _ _ _ _ _ hd.2.2 ?_ hf (fun Q q => HY Q (fun g hg => ys_39 (d := 40) (e := 12) c.2.1 (by omega) hp (by omega) (by omega) (by omega) h40 (q _ (by omega)))) (by omega) hb7 ht (by omega) (by omega) (by omega) (by omega)
    exact Or.inl ⟨rfl, _, _, rfl, (yp_e_n (a := 16) (b := 0) (h := vs.length) (by decide) (by omega) (by omega)), ⟨_, _, vs.length, rfl, rfl, (yp_e_n (a := 12) (b := 0) (h := vs.length) (by decide) (by omega) (by omega)), fun z => absurd z (by simp), zl_e (by simp) (yp_e_n (a := 4) (b := 10) (h := vs.length) (by decide) (by omega) (by omega)) (fun z => absurd z (by simp)) hz⟩⟩
  rw [if_neg h40] at hd
  exact hd.elim
theorem mn_4 {PX : Int32 → SX → Prop} {YS : (SY → Prop) → Prop} {U : SX} {W : SY} {n NF r N : Nat} {F : gm_A} {s G b p t pr cc lc fc m hb u : Nat} {vs : List Int32} {S : List gm_I} {T Tb : List Nat} {vr rt mem out : Nat → Int32} (c : cx PX YS U W n NF r F) (IH : RG PX YS U W n NF r F N) {a d e0 : Nat} {v : Int32} (hok : gm_ok W.2.2.2.2.2.2.2.2.2.2.2.2.2.2.2.2.2.2.2.2.2.2.2.2.1 W.2.2.2.2.2.2.2.2.2.2.2.2.2.2.2.2.2.2.2.2.2.2.2.2.2.1 n F NF m p ((4, a, d, e0, v) :: S) cc lc fc) (hz : zl W.2.2.2.2.2.2.2.2.2.2.2.2.2.2.2.2.2.2.2.2.2.2.2.2.1 W.2.2.2.2.2.2.2.2.2.2.2.2.2.2.2.2.2.2.2.2.2.2.2.2.2.1 n F NF Tb hb ((4, a, d, e0, v) :: S) T vs.length) (hf : frs W.2.2.2.2.2.2.2.2.2.2.2.2.2.2.2.2.2.2.2.2.2.2.2.2.1 W.2.2.2.2.2.2.2.2.2.2.2.2.2.2.2.2.2.2.2.2.2.2.2.2.2.1 n F NF rt b Tb hb u)
    (HY : ∀ Q, (∀ g, g ≤ G → yR Q W g (b + 1) vs p t pr T vr mem out) → YS Q) (hm : m ≤ 400) (hb7 : b ≤ 7) (ht : t ≤ 120) (hpr : pr ≤ s) (hN : t * 401 + m + u < N + 1) (hG : G + 2 * (t * 401 + m + u) + 5 ≤ 400000) (hs : s + 4 * (t * 401 + m + u) + 5 ≤ 1000000) : zX PX U r s b vs cc t pr vr rt mem out := by
  have hn := c.2.1.2.1
  have bd := mn_bd c hok hz hf hb7
  obtain ⟨m, rfl⟩ : ∃ m', m = m' + 1 := by
    cases m with
    | zero => exact hok.elim
    | succ m => exact ⟨m, rfl⟩
  obtain ⟨hI, hsc, hd⟩ := hok
  have hp := hI.1
  have l1 := hI.2.1.1
  have hv := hI.2.2.2.2.2.1.1
  have hs2 := hI.2.2.2.2.2.2.2
  unfold gm_d at hd
  dsimp only at hd
  rw [if_neg (by decide), if_neg (by decide), if_neg (by decide), if_pos rfl] at hd
  unfold zl at hz
  dsimp only at hz
  rw [if_neg (by decide), if_neg (by decide), if_neg (by decide), if_neg (by decide), if_neg (by decide), if_neg (by decide), if_neg (by decide), if_neg (by decide), if_neg (by decide), if_neg (by decide), if_neg (by decide), if_neg (by decide), if_neg (by decide), if_neg (by decide)] at hz
  obtain ⟨e, T', rfl, he, _, hz⟩ := hz
  simp only [List.length_cons] at bd
  exact mn_stm (S := []) (G := G) c IH hd hz (hs2.1 (by simp)) hf (fun Q q => HY Q (fun g hg => yl_S c.2.1 (by omega) hp (by omega) (by omega) he (q g hg))) hp (by omega) hI.2.1.2.1 (by omega) (by omega) hb7 ht hpr hN hG hs
theorem mn_3 {PX : Int32 → SX → Prop} {YS : (SY → Prop) → Prop} {U : SX} {W : SY} {n NF r N : Nat} {F : gm_A} {s G b p t pr cc lc fc m hb u : Nat} {vs : List Int32} {S : List gm_I} {T Tb : List Nat} {vr rt mem out : Nat → Int32} (c : cx PX YS U W n NF r F) (IH : RG PX YS U W n NF r F N) {a d e0 : Nat} {v : Int32} (hok : gm_ok W.2.2.2.2.2.2.2.2.2.2.2.2.2.2.2.2.2.2.2.2.2.2.2.2.1 W.2.2.2.2.2.2.2.2.2.2.2.2.2.2.2.2.2.2.2.2.2.2.2.2.2.1 n F NF m p ((3, a, d, e0, v) :: S) cc lc fc) (hz : zl W.2.2.2.2.2.2.2.2.2.2.2.2.2.2.2.2.2.2.2.2.2.2.2.2.1 W.2.2.2.2.2.2.2.2.2.2.2.2.2.2.2.2.2.2.2.2.2.2.2.2.2.1 n F NF Tb hb ((3, a, d, e0, v) :: S) T vs.length) (hf : frs W.2.2.2.2.2.2.2.2.2.2.2.2.2.2.2.2.2.2.2.2.2.2.2.2.1 W.2.2.2.2.2.2.2.2.2.2.2.2.2.2.2.2.2.2.2.2.2.2.2.2.2.1 n F NF rt b Tb hb u)
    (HY : ∀ Q, (∀ g, g ≤ G → yR Q W g (b + 1) vs p t pr T vr mem out) → YS Q) (hm : m ≤ 400) (hb7 : b ≤ 7) (ht : t ≤ 120) (hpr : pr ≤ s) (hN : t * 401 + m + u < N + 1) (hG : G + 2 * (t * 401 + m + u) + 5 ≤ 400000) (hs : s + 4 * (t * 401 + m + u) + 5 ≤ 1000000) : zX PX U r s b vs cc t pr vr rt mem out := by
  have hn := c.2.1.2.1
  have bd := mn_bd c hok hz hf hb7
  obtain ⟨m, rfl⟩ : ∃ m', m = m' + 1 := by
    cases m with
    | zero => exact hok.elim
    | succ m => exact ⟨m, rfl⟩
  obtain ⟨hI, hsc, hd⟩ := hok
  have hp := hI.1
  have l1 := hI.2.1.1
  have hv := hI.2.2.2.2.2.1.1
  have hs2 := hI.2.2.2.2.2.2.2
  unfold gm_d at hd
  dsimp only at hd
  rw [if_neg (by decide), if_neg (by decide), if_pos rfl] at hd
  unfold zl at hz
  dsimp only at hz
  rw [if_neg (by decide), if_neg (by decide), if_neg (by decide), if_neg (by decide), if_neg (by decide), if_neg (by decide), if_neg (by decide), if_neg (by decide), if_neg (by decide), if_neg (by decide), if_neg (by decide), if_neg (by decide), if_neg (by decide), if_neg (by decide)] at hz
  obtain ⟨e, T', rfl, he, _, hz⟩ := hz
  simp only [List.length_cons] at bd
  by_cases h9 : gm_tk W.2.2.2.2.2.2.2.2.2.2.2.2.2.2.2.2.2.2.2.2.2.2.2.2.1 n p = 9
  · rw [if_pos h9] at hd
    exact IH (s) (G + 1) _ _ _ _ _ _ _ _ _ _ _ _ _ _ _ _ _ _ hd.2.2 hz hf (fun Q q => HY Q (fun g hg => yl_B9 c.2.1 (by omega) hp (by omega) (by omega) he h9 (q _ (by omega)))) (by omega) hb7 ht (by omega) (by omega) (by omega) (by omega)
  · rw [if_neg h9] at hd
    exact mn_stm (S := []) (G := G) c IH hd (zl_e (e := yp_n 2 0 vs.length) (by simp) (yp_e_n (a := 2) (b := 0) (h := vs.length) (by decide) (by omega) (by omega)) (fun z => absurd z (by simp)) hz) ⟨by simp, hs2.1 (by simp)⟩ hf (fun Q q => HY Q (fun g hg => yl_B c.2.1 (by omega) hp (by omega) (by omega) he h9 (q g hg))) hp (by omega) hI.2.1.2.1 (by simp only [List.length_cons]; omega) (by omega) hb7 ht hpr hN hG hs
theorem mn_19 {PX : Int32 → SX → Prop} {YS : (SY → Prop) → Prop} {U : SX} {W : SY} {n NF r N : Nat} {F : gm_A} {s G b p t pr cc lc fc m hb u : Nat} {vs : List Int32} {S : List gm_I} {T Tb : List Nat} {vr rt mem out : Nat → Int32} (c : cx PX YS U W n NF r F) (IH : RG PX YS U W n NF r F N) {a d e0 : Nat} {v : Int32} (hok : gm_ok W.2.2.2.2.2.2.2.2.2.2.2.2.2.2.2.2.2.2.2.2.2.2.2.2.1 W.2.2.2.2.2.2.2.2.2.2.2.2.2.2.2.2.2.2.2.2.2.2.2.2.2.1 n F NF m p ((19, a, d, e0, v) :: S) cc lc fc) (hz : zl W.2.2.2.2.2.2.2.2.2.2.2.2.2.2.2.2.2.2.2.2.2.2.2.2.1 W.2.2.2.2.2.2.2.2.2.2.2.2.2.2.2.2.2.2.2.2.2.2.2.2.2.1 n F NF Tb hb ((19, a, d, e0, v) :: S) T vs.length) (hf : frs W.2.2.2.2.2.2.2.2.2.2.2.2.2.2.2.2.2.2.2.2.2.2.2.2.1 W.2.2.2.2.2.2.2.2.2.2.2.2.2.2.2.2.2.2.2.2.2.2.2.2.2.1 n F NF rt b Tb hb u)
    (HY : ∀ Q, (∀ g, g ≤ G → yR Q W g (b + 1) vs p t pr T vr mem out) → YS Q) (hm : m ≤ 400) (hb7 : b ≤ 7) (ht : t ≤ 120) (hpr : pr ≤ s) (hN : t * 401 + m + u < N + 1) (hG : G + 2 * (t * 401 + m + u) + 5 ≤ 400000) (hs : s + 4 * (t * 401 + m + u) + 5 ≤ 1000000) : zX PX U r s b vs cc t pr vr rt mem out := by
  have hn := c.2.1.2.1
  have bd := mn_bd c hok hz hf hb7
  obtain ⟨m, rfl⟩ : ∃ m', m = m' + 1 := by
    cases m with
    | zero => exact hok.elim
    | succ m => exact ⟨m, rfl⟩
  obtain ⟨hI, hsc, hd⟩ := hok
  have hp := hI.1
  have l1 := hI.2.1.1
  have hv := hI.2.2.2.2.2.1.1
  have hs2 := hI.2.2.2.2.2.2.2
  unfold gm_d at hd
  dsimp only at hd
  rw [if_neg (by decide), if_neg (by decide), if_neg (by decide), if_neg (by decide), if_neg (by decide), if_neg (by decide), if_neg (by decide), if_neg (by decide), if_neg (by decide), if_neg (by decide), if_pos (by decide)] at hd
  unfold zl at hz
  dsimp only at hz
  rw [if_neg (by decide), if_neg (by decide), if_neg (by decide), if_neg (by decide), if_neg (by decide), if_neg (by decide), if_neg (by decide), if_neg (by decide), if_neg (by decide), if_pos rfl] at hz
  obtain ⟨e, T', h', hh, rfl, he, h31, hz⟩ := hz
  obtain ⟨_, hu, hok⟩ := hd
  have u1 := mn_up1 hu
  simp only [gm_sm] at l1
  simp [gw_e] at l1
  simp only [List.length_cons] at bd
  have hv2 : gm_ve W.2.2.2.2.2.2.2.2.2.2.2.2.2.2.2.2.2.2.2.2.2.2.2.2.1 n (19, a, d, e0, v) := by simpa [gm_vl] using hv
  unfold gm_ve at hv2
  dsimp only at hv2
  rw [if_neg (by decide), if_neg (by decide)] at hv2
  have he : yp_e e e0 := he
  obtain ⟨v1, vs, rfl⟩ := vs_c (vs := vs) (by omega)
  have e9 : vs.length = h' := by simpa using hh
  subst e9
  simp only [List.length_cons] at bd
  rcases hv2 with ⟨hk1, hk2, hd3, hKd, rfl⟩ | ⟨rfl, w, hw, rfl, rfl⟩ | ⟨rfl, rfl⟩ | ⟨rfl, rfl⟩ | ⟨rfl, rfl⟩
  · obtain ⟨x1, vs, rfl⟩ := vs_c (h31 hk2)
    simp only [List.length_cons] at bd
    refine zx_bin c.1 (by omega) (by omega) (by omega) u1.1 hk1 hk2 u1.2.2 (fun z => ?_) (fun z => ?_)
    · exact c.2.2.2.2.2.2.2 1 _ 0 t pr mem out ht (by simp) (fun Q hq => HY Q (fun g hg => yl_comp c.2.1 (by omega) hp (by omega) (by omega) he hd3 hKd hk1 hk2 (fun _ => hq) (fun w => absurd z w)))
    · exact IH (s + 1) (G + 1) _ _ _ _ _ _ _ _ _ _ _ _ _ _ _ _ _ _ hok hz hf (fun Q q => HY Q (fun g hg => yl_comp c.2.1 (by omega) hp (by omega) (by omega) he hd3 hKd hk1 hk2 (fun w => absurd w z) (fun _ => (q _ (by omega))))) (by omega) hb7 ht (by omega) (by omega) (by omega) (by omega)
  · refine zx_set c.1 (by omega) (by omega) (by omega) u1.1 u1.2.1 hw hb7 ?_
    exact IH (s + 1) (G + 1) _ _ _ _ _ _ _ _ _ _ _ _ _ _ _ _ _ _ hok hz hf (fun Q q => HY Q (fun g hg => yl_set c.2.1 (by omega) hp (by omega) (by omega) rfl hb7 he hw (q _ (by omega)))) (by omega) hb7 ht (by omega) (by omega) (by omega) (by omega)
  · obtain ⟨S', rfl⟩ := hs2.2.1 ⟨rfl, rfl⟩
    have hs3 := hs2.2.2.2
    have hz' := hz
    unfold zl at hz'
    dsimp only at hz'
    rw [if_neg (by decide), if_neg (by decide), if_neg (by decide), if_neg (by decide), if_neg (by decide), if_neg (by decide), if_neg (by decide), if_neg (by decide), if_neg (by decide), if_neg (by decide), if_neg (by decide), if_neg (by decide), if_neg (by decide), if_neg (by decide)] at hz'
    obtain ⟨e2, T2, rfl, he2, _, hz2⟩ := hz'
    have hsl := hs3.1 (by simp)
    obtain ⟨hhb, S1, x, hx2, rfl, hyd⟩ := zl_sl hsl hz2
    obtain ⟨m2, p2, cc2, lc2, fc2, hm2, hok2, dw⟩ := mn_dw c (S1 := gi_X 10 :: S1) (Sb := [x, gi_P]) hok
    have hp2 := (gm_ok_inv hok2).1
    have hfb := frs_bd c.2.1.2.2.1 c.2.1.2.1 b hf
    simp only [List.length_cons] at bd
    obtain ⟨m3, rfl⟩ := ok_s hok2
    cases b with
    | zero =>
      obtain ⟨rfl, rfl, rfl⟩ := hf
      have ev : vs = [] := List.length_eq_zero_iff.mp hhb
      subst ev
      refine zx_ret0 (b := 0) c.1 (by omega) (by omega) (by simp) u1.1 ?_
      refine c.2.2.2.2.2.2.2 0 (-1) v1 t pr mem out ht (by simp) (fun Q hq => HY Q (fun g hg => ?_))
      refine yl_ret c.2.1 (by omega) hp (by simp) (by simp only [List.length_cons]; omega) he (fun va hva => ?_)
      exact dw Q (G + 1) ([] : List Int32).length 1 t pr _ [yp_n 26 0 0] 3 v1 va vr mem out (yr_1 (by simp) he2 hyd) (by simp) (by simp) (by omega) (fun g' hg' => yk_frame (vs := []) (b := 0) c.2.1 (by omega) hp2 (by simp) (by simp) rfl (by decide) rfl hva (yl_done (n := n) (vs := []) (T := []) (by omega) hq)) _ (by omega)
    | succ b =>
      obtain ⟨mc, pc, Sc, ccc, lcc, fcc, T3, Tb', hb', u', rfl, hokc, hmc, hrt, hzc, hfc, rfl⟩ := hf
      have hpc := (gm_ok_inv hokc).1
      simp only [List.length_cons] at hfb
      refine zx_ret c.1 (by omega) (by omega) (by omega) u1.1 (by omega) hrt ?_
      refine IH (s + 1) (G + 1 + (m - (m3 + 1)) + 1) _ _ _ _ _ _ _ _ _ _ _ _ _ _ _ _ _ _ hokc (by rw [List.length_cons, hhb]; exact hzc) hfc (fun Q q => HY Q (fun g hg => yl_ret c.2.1 (by omega) hp (by omega) (by simp only [List.length_cons]; omega) he (fun va hva => dw Q (G + 1) vs.length (b + 1 + 1) t pr _ (yp_n 26 pc hb :: T3) 3 v1 va vr mem out (yr_1 (by simp) he2 hyd) (by simp only [List.length_cons]; omega) (by omega) (by omega) (fun g' hg' => yk_frame (b := b + 1) c.2.1 (by omega) hp2 (by omega) (by omega) (by rw [hhb]) (by omega) rfl hva (q _ (by omega))) _ (by omega)))) hmc (by omega) ht (by omega) (by omega) (by omega) (by omega)
  · refine zx_print c.1 (by omega) (by omega) (by omega) u1.1 (by omega) ?_
    exact IH (s + 1) (G + 1) _ _ _ _ _ _ _ _ _ _ _ _ _ _ _ _ _ _ hok hz hf (fun Q q => HY Q (fun g hg => yl_print c.2.1 (by omega) hp (by omega) (by omega) he (by omega) (q _ (by omega)))) (by omega) hb7 ht (by omega) (by omega) (by omega) (by omega)
  · refine zx_drop c.1 (by omega) (by omega) (by omega) u1.1 ?_
    exact IH (s + 1) (G + 1) _ _ _ _ _ _ _ _ _ _ _ _ _ _ _ _ _ _ hok hz hf (fun Q q => HY Q (fun g hg => yl_drop c.2.1 (by omega) hp (by omega) (by omega) he (q _ (by omega)))) (by omega) hb7 ht (by omega) (by omega) (by omega) (by omega)
