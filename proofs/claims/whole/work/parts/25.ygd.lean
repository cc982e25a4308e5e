/-! Y, not live: a turn of the loop against a step of G -/
theorem yg_d {post : SY → Prop} {W : SY} {c : Bool} {pd : Int32} {Tb T : List Nat} {x : gm_I} {S Sb : List gm_I} {n g p h cc lc fc : Nat} {o : Int32} {A : gm_A}
    (hW : yh W c n h) (hpd : W.2.2.2.2.2.2.2.2.2.2.2.2.2.1 = pd) (hg : g < 400000) (hp : p ≤ n) (hv : gm_vl W.2.2.2.2.2.2.2.2.2.2.2.2.2.2.2.2.2.2.2.2.2.2.2.2.1 W.2.2.2.2.2.2.2.2.2.2.2.2.2.2.2.2.2.2.2.2.2.2.2.2.2.1 n p x) (hfc : fc ≤ 4) (hA : x.1 = 17 → A.2.2.2.2.1 x.2.1 = nI x.2.2.1) (hS1 : x.1 = 1 → S = []) (hlo : (gm_opn (x :: (S ++ Sb))).length < 2 ^ 31) (hT : T.length + 10 < 1300) (hR : yd_R c pd Tb (x :: S) T)
    (H : gm_d W.2.2.2.2.2.2.2.2.2.2.2.2.2.2.2.2.2.2.2.2.2.2.2.2.1 W.2.2.2.2.2.2.2.2.2.2.2.2.2.2.2.2.2.2.2.2.2.2.2.2.2.1 n (fun e w => c = true ∧ yE post W (g + 1) e A.2.2.2.2.1 (gu_f A.2.2.2.2.2.2.1 fc w)) (fun p' S' lc' fc' b es lw aw fw => ∀ S1 T' g', S' = S1 ++ Sb → g ≤ g' → g' ≤ g + 1 → yd_R c pd Tb S1 T' → yQ post W c g' p' S' T' (gm_o b p o) fc' (gm_up A cc fc p' es lw aw fw)) p x (S ++ Sb) cc lc fc) : yQ post W c g p (x :: (S ++ Sb)) T o fc A := by
  have hn := hW.2.1
  have hh := hW.2.2.2.1
  obtain ⟨t, a, b, e0, v⟩ := x
  unfold gm_d at H
  unfold yd_R at hR
  dsimp only at *
  by_cases z : t = 1
  · subst z
    rw [if_pos rfl] at H
    rw [if_pos rfl] at hR
    obtain ⟨hc, e, T', rfl, he, hR⟩ := hR
    have hr : ∀ q, q < n → ∃ k, k ≤ 41 ∧ W.2.2.2.2.2.2.2.2.2.2.2.2.2.2.2.2.2.2.2.2.2.2.2.2.1 q = nI k := fun q hq => (hW.2.2.2.2.1 q hq).1
    subst hc
    simp only [List.length_cons] at hT
    intro td hd
    refine yi_s 1 0 (by decide) he (by omega) hg rfl (by omega) hd rfl rfl fun Q hQ => ?_
    unfold gm_prg at H
    refine br_f (by decide) (br_f (by decide) (br_t (by decide) (?_)))
    refine ym_fun rfl hW.1 hW.2.1 (by omega) rfl hW.2.2.1 hh rfl hd.2 rfl hfc hr (by omega) (fun a b => ?_) (fun a b => ?_) (fun a b d => ?_) (fun a b d => ?_) (fun a b d q => ?_) (fun a b d q => ?_)
    · rw [if_pos ⟨a, b⟩] at H
      exact hQ _ (H S _ _ rfl (Nat.le_succ g) (Nat.le_refl _) hR _ hd.2)
    · rw [if_neg a, if_pos b] at H
      exact hQ _ (H.2 _ _ _ _ _ _)
    · rw [if_neg a, if_neg b, if_neg d] at H
      exact hQ _ (H.2 _ _ _ _ _ _)
    · rw [if_neg (fun z => absurd (z.1.symm.trans a) (by decide)), if_neg b, if_pos a, if_neg d] at H
      exact hQ _ (H.2 _ _ _ _ _ _)
    · rw [if_neg (fun z => absurd (z.1.symm.trans a) (by decide)), if_neg b, if_pos a, if_pos d, if_neg q] at H
      exact hQ _ (H.2 _ _ _ _ _ _)
    · rw [if_neg (fun z => absurd (z.1.symm.trans a) (by decide)), if_neg b, if_pos a, if_pos d, if_pos q] at H
      exact fun td hd => hQ _ (H (gi_B :: gi_F :: gi_P :: S) _ _ rfl (Nat.le_succ g) (Nat.le_refl _) (yr_1 (by simp) (yp_e_n (a := 2) (b := 0) (h := h) (by decide) (by omega) hh) (yr_F rfl (yr_P rfl (yp_e_n (a := 1) (b := 0) (h := h) (by decide) (by omega) hh) hR))) _ hd)
  rw [if_neg z] at H
  by_cases z : t = 2
  · subst z
    rw [if_pos rfl] at H
    rw [if_neg (by decide)] at hR
    rw [if_pos rfl] at hR
    obtain ⟨hc, hR⟩ := hR
    exact H S _ g rfl (Nat.le_refl _) (Nat.le_succ _) hR
  rw [if_neg z] at H
  by_cases z : t = 3
  · subst z
    rw [if_pos rfl] at H
    rw [if_neg (by decide)] at hR
    rw [if_neg (by decide)] at hR
    rw [if_neg (by decide)] at hR
    rw [if_neg (by decide)] at hR
    rw [if_neg (by decide)] at hR
    rw [if_neg (by decide)] at hR
    obtain ⟨e, T', rfl, he, hR⟩ := hR
    simp only [List.length_cons] at hT
    intro td hd
    refine yi_s 2 0 (by decide) he (by omega) hg rfl (by omega) hd rfl rfl fun Q hQ => ?_
    refine br_f (by decide) (br_f (by decide) (br_f (by decide) (br_t (by decide) (?_))))
    refine ym_tok rfl hW.1 hW.2.1 (by omega) ?_
    refine br_c (fun k => nm_r (nI_1 _) ?_) (fun k => ?_)
    · rw [if_pos k] at H
      exact hQ _ (H S _ _ rfl (Nat.le_succ g) (Nat.le_refl _) hR _ hd.2)
    · rw [if_neg k] at H
      refine ym_then 2 0 (by decide) (by decide) hW.2.2.1 hh rfl (by omega) hd.2 fun td hd => ?_
      exact yg_stm (S := gi_B :: S) hQ hW hp (by simp only [List.length_cons]; omega) (yr_1 (by simp) (yp_e_n (a := 2) (b := 0) (h := h) (by decide) (by omega) hh) hR) ((3, a, b, e0, v) :: (S ++ Sb)) rfl hlo (gm_mo_stm H (fun e w a => a) (fun p' S' lc' fc' b es lw aw fw a S1 T' h1 h2 => a S1 T' _ h1 (Nat.le_succ g) (Nat.le_refl _) h2)) _ hd
  rw [if_neg z] at H
  by_cases z : t = 4
  · subst z
    rw [if_pos rfl] at H
    rw [if_neg (by decide)] at hR
    rw [if_neg (by decide)] at hR
    rw [if_neg (by decide)] at hR
    rw [if_neg (by decide)] at hR
    rw [if_neg (by decide)] at hR
    rw [if_neg (by decide)] at hR
    obtain ⟨e, T', rfl, he, hR⟩ := hR
    simp only [List.length_cons] at hT
    intro td hd
    refine yi_s 3 0 (by decide) he (by omega) hg rfl (by omega) hd rfl rfl fun Q hQ => ?_
    refine br_f (by decide) (br_f (by decide) (br_f (by decide) (br_f (by decide) (br_t (by decide) (?_)))))
    exact yg_stm hQ hW hp (by omega) hR ((4, a, b, e0, v) :: (S ++ Sb)) rfl hlo (gm_mo_stm H (fun e w a => a) (fun p' S' lc' fc' b es lw aw fw a S1 T' h1 h2 => a S1 T' _ h1 (Nat.le_succ g) (Nat.le_refl _) h2)) _ hd.2
  rw [if_neg z] at H
  by_cases z : t = 5
  · subst z
    rw [if_pos rfl] at H
    rw [if_neg (by decide)] at hR
    rw [if_neg (by decide)] at hR
    rw [if_neg (by decide)] at hR
    rw [if_neg (by decide)] at hR
    rw [if_neg (by decide)] at hR
    rw [if_neg (by decide)] at hR
    obtain ⟨e, T', rfl, he, hR⟩ := hR
    simp only [List.length_cons] at hT
    intro td hd
    have hv' : a ≤ 41 := by simpa [gm_vl] using hv
    refine yi_s 4 a (by decide) he (by omega) hg rfl (by omega) hd rfl rfl fun Q hQ => ?_
    refine br_f (by decide) (br_f (by decide) (br_f (by decide) (br_f (by decide) (br_f (by decide) (br_t (by decide) (?_))))))
    refine ym_take (nI a) rfl hW.1 hW.2.1 (by omega) rfl (fun k => ?_) (fun k => ?_)
    · rw [if_pos k] at H
      exact hQ _ (H S _ _ rfl (Nat.le_succ g) (Nat.le_refl _) hR _ hd.2)
    · rw [if_neg k] at H
      obtain ⟨hc, H⟩ := H; subst hc; exact hQ _ (H _ _ _ _ _ _)
  rw [if_neg z] at H
  by_cases z : t = 6
  · subst z
    rw [if_pos rfl] at H
    rw [if_neg (by decide)] at hR
    rw [if_neg (by decide)] at hR
    rw [if_neg (by decide)] at hR
    rw [if_neg (by decide)] at hR
    rw [if_neg (by decide)] at hR
    rw [if_neg (by decide)] at hR
    obtain ⟨e, T', rfl, he, hR⟩ := hR
    simp only [List.length_cons] at hT
    intro td hd
    refine yi_s 6 0 (by decide) he (by omega) hg rfl (by omega) hd rfl rfl fun Q hQ => ?_
    refine br_f (by decide) (br_f (by decide) (br_f (by decide) (br_f (by decide) (br_f (by decide) (br_f (by decide) (br_f (by decide) (br_t (by decide) (br_t rfl (br_f (by decide) ?_)))))))))
    refine ym_then 7 0 (by decide) (by decide) hW.2.2.1 hh rfl (by omega) hd.2 fun td hd => ?_
    refine ym_then 3 0 (by decide) (by decide) hW.2.2.1 hh rfl (by simp only [List.length_cons]; omega) hd fun td hd => ?_
    exact hQ _ (H (gi_S :: gi_L a :: S) _ _ rfl (Nat.le_succ g) (Nat.le_refl _) (yr_1 (by simp) (yp_e_n (a := 3) (b := 0) (h := h) (by decide) (by omega) hh) (yr_L (q := 0) (by decide) (yp_e_n (a := 7) (b := 0) (h := h) (by decide) (by omega) hh) hR)) _ hd)
  rw [if_neg z] at H
  by_cases z : t = 7
  · subst z
    rw [if_pos rfl] at H
    rw [if_neg (by decide)] at hR
    rw [if_neg (by decide)] at hR
    rw [if_neg (by decide)] at hR
    rw [if_neg (by decide)] at hR
    rw [if_pos rfl] at hR
    obtain ⟨q, e, T', rfl, hq, he, hR⟩ := hR
    simp only [List.length_cons] at hT
    intro td hd
    refine yi_s 7 q (by decide) he (by omega) hg rfl (by omega) hd rfl rfl fun Q hQ => ?_
    refine br_f (by decide) (br_f (by decide) (br_f (by decide) (br_f (by decide) (br_f (by decide) (br_f (by decide) (br_f (by decide) (br_f (by decide) (br_t (by decide) (br_f (fun k => ?_) ?_)))))))))
    · have := (nI_eq (a := q) (b := 2) (by omega) (by decide)).mp k; omega
    refine ym_tok rfl hW.1 hW.2.1 (by omega) ?_
    refine br_c (fun k => ?_) (fun k => ?_)
    · rw [if_pos k] at H
      refine nm_r (nI_1 _) (br_c (fun _ => br_t rfl ?_) (fun _ => ?_))
      · exact ym_then 3 0 (by decide) (by decide) hW.2.2.1 hh rfl (by omega) hd.2 fun td hd => hQ _ (H (gi_S :: gi_U a :: S) _ _ rfl (Nat.le_succ g) (Nat.le_refl _) (yr_1 (by simp) (yp_e_n (a := 3) (b := 0) (h := h) (by decide) (by omega) hh) (yr_U hR)) _ hd)
      · exact ym_then 3 0 (by decide) (by decide) hW.2.2.1 hh rfl (by omega) hd.2 fun td hd => hQ _ (H (gi_S :: gi_U a :: S) _ _ rfl (Nat.le_succ g) (Nat.le_refl _) (yr_1 (by simp) (yp_e_n (a := 3) (b := 0) (h := h) (by decide) (by omega) hh) (yr_U hR)) _ hd)
    · rw [if_neg k] at H
      exact hQ _ (H S _ _ rfl (Nat.le_succ g) (Nat.le_refl _) hR _ hd.2)
  rw [if_neg z] at H
  by_cases z : t = 8
  · subst z
    rw [if_pos rfl] at H
    rw [if_neg (by decide)] at hR
    rw [if_neg (by decide)] at hR
    rw [if_pos rfl] at hR
    exact H S _ g rfl (Nat.le_refl _) (Nat.le_succ _) hR
  rw [if_neg z] at H
  by_cases z : t = 9
  · subst z
    rw [if_pos rfl] at H
    rw [if_neg (by decide)] at hR
    rw [if_neg (by decide)] at hR
    rw [if_neg (by decide)] at hR
    rw [if_neg (by decide)] at hR
    rw [if_neg (by decide)] at hR
    rw [if_neg (by decide)] at hR
    obtain ⟨e, T', rfl, he, hR⟩ := hR
    simp only [List.length_cons] at hT
    intro td hd
    have hv' : b ≤ n := by simp [gm_vl] at hv; exact hv.2
    refine yi_s 8 b (by decide) he (by omega) hg rfl (by omega) hd rfl rfl fun Q hQ => ?_
    cases c with
    | false =>
      refine br_f (by decide) (br_f (by decide) (br_f (by decide) (br_f (by decide) (br_f (by decide) (br_f (by decide) (br_f (by decide) (br_f (by decide) (br_f (by decide) (br_t (by decide) (br_t (hW.2.2.2.2.2.2 rfl) (br_t rfl (br_t rfl ?_))))))))))))
      exact ym_then 3 0 (by decide) (by decide) hW.2.2.1 hh rfl (by omega) hd.2 fun td hd => hQ _ (H (gi_S :: gi_O a :: S) _ _ rfl (Nat.le_succ g) (Nat.le_refl _) (yr_1 (by simp) (yp_e_n (a := 3) (b := 0) (h := h) (by decide) (by omega) hh) (yr_Of rfl hR)) _ hd)
    | true =>
      refine br_f (by decide) (br_f (by decide) (br_f (by decide) (br_f (by decide) (br_f (by decide) (br_f (by decide) (br_f (by decide) (br_f (by decide) (br_f (by decide) (br_t (by decide) (br_f (hW.2.2.2.2.2.1 rfl) (nm_r (nI_1 _) ?_)))))))))))
      refine ym_then 10 0 (by decide) (by decide) hW.2.2.1 hh rfl (by omega) hd.2 fun td hd => ?_
      exact ym_then 3 0 (by decide) (by decide) hW.2.2.1 hh rfl (by simp only [List.length_cons]; omega) hd fun td hd => hQ _ (H (gi_S :: gi_O a :: S) _ _ rfl (Nat.le_succ g) (Nat.le_refl _) (yr_1 (by simp) (yp_e_n (a := 3) (b := 0) (h := h) (by decide) (by omega) hh) (yr_Ot rfl (yp_e_n (a := 10) (b := 0) (h := h) (by decide) (by omega) hh) hR)) _ hd)
  rw [if_neg z] at H
  by_cases z : t = 10
  · subst z
    rw [if_pos rfl] at H
    rw [if_neg (by decide)] at hR
    rw [if_neg (by decide)] at hR
    rw [if_neg (by decide)] at hR
    rw [if_pos rfl] at hR
    rcases hR with ⟨hc, e, T', rfl, he, hR⟩ | ⟨hc, hR | ⟨h3, q, e, T', rfl, hq, he, hR⟩⟩
    · simp only [List.length_cons] at hT
      subst hc
      intro td hd
      refine yi_s 10 0 (by decide) he (by omega) hg rfl (by omega) hd rfl rfl fun Q hQ => ?_
      exact br_f (by decide) (br_f (by decide) (br_f (by decide) (br_f (by decide) (br_f (by decide) (br_f (by decide) (br_f (by decide) (br_f (by decide) (br_f (by decide) (br_f (by decide) (br_f (by decide) (br_t (by decide) (nm_r (nI_pred _) (hQ _ (H S _ _ rfl (Nat.le_succ g) (Nat.le_refl _) hR _ hd.2))))))))))))))
    · subst hc
      exact H S _ g rfl (Nat.le_refl _) (Nat.le_succ _) hR
    · simp only [List.length_cons] at hT
      subst hc
      intro td hd
      have hp3 : W.2.2.2.2.2.2.2.2.2.2.2.2.2.1 = 3 := hpd.trans h3
      refine yi_s 9 q (by decide) he (by omega) hg rfl (by omega) hd rfl rfl fun Q hQ => ?_
      exact br_f (by decide) (br_f (by decide) (br_f (by decide) (br_f (by decide) (br_f (by decide) (br_f (by decide) (br_f (by decide) (br_f (by decide) (br_f (by decide) (br_f (by decide) (br_t (by decide) (br_t rfl (br_f (by rw [hp3]; decide) (br_f (by rw [hp3]; decide) (br_f (by rw [hp3]; decide) (br_t rfl (hQ _ (H S _ _ rfl (Nat.le_succ g) (Nat.le_refl _) hR _ hd.2)))))))))))))))))
  rw [if_neg z] at H
  by_cases z : t = 11 ∨ t = 19 ∨ t = 20
  · rw [if_pos z] at H
    rw [if_neg (by omega), if_neg (by omega), if_neg (by omega), if_neg (by omega), if_neg (by omega), if_neg (by omega)] at hR
    obtain ⟨e, T', rfl, he, hR⟩ := hR
    simp only [List.length_cons] at hT
    have eo : gm_opn ((t, a, b, e0, v) :: (S ++ Sb)) = gm_opn (S ++ Sb) := by rcases z with z | z | z <;> subst z <;> rfl
    have ec : yd_c (t, a, b, e0, v) = e0 := by rcases z with z | z | z <;> subst z <;> rfl
    rw [ec] at he
    intro td hd
    rw [eo]
    have hF : ∀ Q : SY → Prop, (∀ v, yL post (g + 1) v → Q v) → Q (W.1, W.2.1, W.2.2.1, if c = true then nI fc else W.2.2.2.1, W.2.2.2.2.1, if c = true then nI (gm_opn (S ++ Sb)).length else W.2.2.2.2.2.1, if c = true then o else W.2.2.2.2.2.2.1, nI T'.length, W.2.2.2.2.2.2.2.2.1, nI p, 0, W.2.2.2.2.2.2.2.2.2.2.2.1, 0, W.2.2.2.2.2.2.2.2.2.2.2.2.2.1, W.2.2.2.2.2.2.2.2.2.2.2.2.2.2.1, W.2.2.2.2.2.2.2.2.2.2.2.2.2.2.2.1, W.2.2.2.2.2.2.2.2.2.2.2.2.2.2.2.2.1, 0, W.2.2.2.2.2.2.2.2.2.2.2.2.2.2.2.2.2.2.1, W.2.2.2.2.2.2.2.2.2.2.2.2.2.2.2.2.2.2.2.1, W.2.2.2.2.2.2.2.2.2.2.2.2.2.2.2.2.2.2.2.2.1, W.2.2.2.2.2.2.2.2.2.2.2.2.2.2.2.2.2.2.2.2.2.1, W.2.2.2.2.2.2.2.2.2.2.2.2.2.2.2.2.2.2.2.2.2.2.1, W.2.2.2.2.2.2.2.2.2.2.2.2.2.2.2.2.2.2.2.2.2.2.2.1, W.2.2.2.2.2.2.2.2.2.2.2.2.2.2.2.2.2.2.2.2.2.2.2.2.1, W.2.2.2.2.2.2.2.2.2.2.2.2.2.2.2.2.2.2.2.2.2.2.2.2.2.1, if c = true then A.2.2.2.2.1 else W.2.2.2.2.2.2.2.2.2.2.2.2.2.2.2.2.2.2.2.2.2.2.2.2.2.2.1, if c = true then A.2.2.2.2.2.2.2 else W.2.2.2.2.2.2.2.2.2.2.2.2.2.2.2.2.2.2.2.2.2.2.2.2.2.2.2.1, if c = true then A.2.2.2.2.2.2.1 else W.2.2.2.2.2.2.2.2.2.2.2.2.2.2.2.2.2.2.2.2.2.2.2.2.2.2.2.2.1, td, W.2.2.2.2.2.2.2.2.2.2.2.2.2.2.2.2.2.2.2.2.2.2.2.2.2.2.2.2.2.2.1, W.2.2.2.2.2.2.2.2.2.2.2.2.2.2.2.2.2.2.2.2.2.2.2.2.2.2.2.2.2.2.2.1, W.2.2.2.2.2.2.2.2.2.2.2.2.2.2.2.2.2.2.2.2.2.2.2.2.2.2.2.2.2.2.2.2.1, W.2.2.2.2.2.2.2.2.2.2.2.2.2.2.2.2.2.2.2.2.2.2.2.2.2.2.2.2.2.2.2.2.2) := fun Q hQ => hQ _ (H S _ _ rfl (Nat.le_succ g) (Nat.le_refl _) hR _ hd.2)
    have hv' : gm_ve W.2.2.2.2.2.2.2.2.2.2.2.2.2.2.2.2.2.2.2.2.2.2.2.2.1 n (t, a, b, e0, v) := by rcases z with z | z | z <;> subst z <;> simpa [gm_vl] using hv
    unfold gm_ve at hv'
    dsimp only at hv'
    rcases z with z | z | z
    · subst z
      rw [if_pos rfl] at hv'
      rcases hv' with ⟨_, rfl⟩ | ⟨_, rfl⟩ | ⟨_, rfl⟩ | ⟨_, hb, rfl⟩
      · refine yi_e 19 28 (by decide) (by decide) he (by omega) hg rfl (by omega) hd rfl rfl fun Q hQ => ?_
        exact br_f (by decide) (br_f (by decide) (br_f (by decide) (br_f (by decide) (br_f (by decide) (br_f (by decide) (br_t (by decide) (br_t rfl (hF Q hQ))))))))
      · refine yi_e 19 32 (by decide) (by decide) he (by omega) hg rfl (by omega) hd rfl rfl fun Q hQ => ?_
        exact br_f (by decide) (br_f (by decide) (br_f (by decide) (br_f (by decide) (br_f (by decide) (br_f (by decide) (br_t (by decide) (br_t rfl (hF Q hQ))))))))
      · refine yi_e 19 33 (by decide) (by decide) he (by omega) hg rfl (by omega) hd rfl rfl fun Q hQ => ?_
        exact br_f (by decide) (br_f (by decide) (br_f (by decide) (br_f (by decide) (br_f (by decide) (br_f (by decide) (br_t (by decide) (br_t rfl (hF Q hQ))))))))
      · refine yi_c 22 b (by decide) (by decide) he (by omega) hg rfl (by omega) hd rfl rfl fun Q hQ => ?_
        exact br_f (by decide) (br_f (by decide) (br_t (by decide) (br_t rfl (hF Q hQ))))
    · subst z
      rw [if_neg (by decide), if_neg (by decide)] at hv'
      rcases hv' with ⟨_, _, hb, _, rfl⟩ | ⟨_, u, hu, _, rfl⟩ | ⟨_, rfl⟩ | ⟨_, rfl⟩ | ⟨_, rfl⟩
      · refine yi_e 20 b (by decide) (by decide) he (by omega) hg rfl (by omega) hd rfl rfl fun Q hQ => ?_
        exact br_f (by decide) (br_f (by decide) (br_f (by decide) (br_f (by decide) (br_f (by decide) (br_f (by decide) (br_f (by decide) (br_t (by decide) (br_t rfl (hF Q hQ)))))))))
      · refine yi_s 13 u (by decide) he (by omega) hg rfl (by omega) hd rfl rfl fun Q hQ => ?_
        exact br_f (by decide) (br_f (by decide) (br_f (by decide) (br_f (by decide) (br_f (by decide) (br_f (by decide) (br_f (by decide) (br_f (by decide) (br_f (by decide) (br_f (by decide) (br_f (by decide) (br_f (by decide) (br_f (by decide) (br_f (by decide) (br_t (by decide) (br_t rfl (hF Q hQ))))))))))))))))
      · refine yi_s 11 0 (by decide) he (by omega) hg rfl (by omega) hd rfl rfl fun Q hQ => ?_
        exact br_f (by decide) (br_f (by decide) (br_f (by decide) (br_f (by decide) (br_f (by decide) (br_f (by decide) (br_f (by decide) (br_f (by decide) (br_f (by decide) (br_f (by decide) (br_f (by decide) (br_f (by decide) (br_t (by decide) (br_t rfl (hF Q hQ))))))))))))))
      · refine yi_s 12 0 (by decide) he (by omega) hg rfl (by omega) hd rfl rfl fun Q hQ => ?_
        exact br_f (by decide) (br_f (by decide) (br_f (by decide) (br_f (by decide) (br_f (by decide) (br_f (by decide) (br_f (by decide) (br_f (by decide) (br_f (by decide) (br_f (by decide) (br_f (by decide) (br_f (by decide) (br_f (by decide) (br_t (by decide) (br_t rfl (hF Q hQ)))))))))))))))
      · refine yi_e 15 0 (by decide) (by decide) he (by omega) hg rfl (by omega) hd rfl rfl fun Q hQ => ?_
        exact br_f (by decide) (br_f (by decide) (br_t (by decide) (br_t rfl (hF Q hQ))))
    · subst z
      rw [if_neg (by decide), if_pos rfl] at hv'
      obtain ⟨_, hb, rfl⟩ := hv'
      · refine yi_s 14 b (by decide) he (by omega) hg rfl (by omega) hd rfl rfl fun Q hQ => ?_
        exact br_f (by decide) (br_t (by decide) (br_t rfl (hF Q hQ)))
  rw [if_neg z] at H
  by_cases z : t = 12
  · subst z
    rw [if_pos rfl] at H
    rw [if_neg (by decide)] at hR
    rw [if_neg (by decide)] at hR
    rw [if_neg (by decide)] at hR
    rw [if_neg (by decide)] at hR
    rw [if_neg (by decide)] at hR
    rw [if_pos rfl] at hR
    have hv' : 1 ≤ a ∧ a ≤ 11 := by simpa [gm_vl] using hv
    rcases hR with ⟨rfl, e, T', rfl, he, hR⟩ | ⟨ha, e, f, T', rfl, he, hf, hR⟩
    · simp only [List.length_cons] at hT
      intro td hd
      refine yi_e 16 0 (by decide) (by decide) he (by omega) hg rfl (by omega) hd rfl rfl fun Q hQ => ?_
      refine br_f (by decide) (br_f (by decide) (br_f (by decide) (br_t (by decide) (?_))))
      refine ym_then 17 1 (by decide) (by decide) hW.2.2.1 hh rfl (by omega) hd.2 fun td hd => ?_
      exact yg_una (S := gi_R 1 :: S) hQ hW hp (by simp only [List.length_cons]; omega) (yr_1 (by simp) (yp_e_n (a := 17) (b := 1) (h := h) (by decide) (by omega) hh) hR) ((12, 1, b, e0, v) :: (S ++ Sb)) rfl (gm_mo_una H (fun e w a => a) (fun p' S' lc' fc' b es lw aw fw a S1 T' h1 h2 => a S1 T' _ h1 (Nat.le_succ g) (Nat.le_refl _) h2)) _ hd
    · simp only [List.length_cons] at hT
      intro td hd
      refine yi_e 18 0 (by decide) (by decide) he (by omega) hg rfl (by simp only [List.length_cons]; omega) hd rfl rfl fun Q hQ => ?_
      refine br_f (by decide) (br_f (by decide) (br_f (by decide) (br_f (by decide) (br_f (by decide) (br_t (by decide) (?_))))))
      exact yg_una (S := gi_R a :: S) hQ hW hp (by simp only [List.length_cons]; omega) (yr_1 (by simp) hf hR) ((12, a, b, e0, v) :: (S ++ Sb)) rfl (gm_mo_una H (fun e w a => a) (fun p' S' lc' fc' b es lw aw fw a S1 T' h1 h2 => a S1 T' _ h1 (Nat.le_succ g) (Nat.le_refl _) h2)) _ hd.2
  rw [if_neg z] at H
  by_cases z : t = 13
  · subst z
    rw [if_pos rfl] at H
    rw [if_neg (by decide)] at hR
    rw [if_neg (by decide)] at hR
    rw [if_neg (by decide)] at hR
    rw [if_neg (by decide)] at hR
    rw [if_neg (by decide)] at hR
    rw [if_neg (by decide)] at hR
    obtain ⟨e, T', rfl, he, hR⟩ := hR
    simp only [List.length_cons] at hT
    intro td hd
    have hv' : 1 ≤ a ∧ a ≤ 11 := by simpa [gm_vl] using hv
    refine yi_e 17 a (by decide) (by decide) he (by omega) hg rfl (by omega) hd rfl rfl fun Q hQ => ?_
    exact yg_bin hQ hW hp (by omega) hR hv'.1 hv'.2 ((13, a, b, e0, v) :: (S ++ Sb)) rfl (gm_mo_bin H (fun p' S' lc' fc' b es lw aw fw a S1 T' h1 h2 => a S1 T' _ h1 (Nat.le_succ g) (Nat.le_refl _) h2)) _ hd.2
  rw [if_neg z] at H
  by_cases z : t = 14
  · subst z
    rw [if_pos rfl] at H
    rw [if_neg (by decide)] at hR
    rw [if_neg (by decide)] at hR
    rw [if_neg (by decide)] at hR
    rw [if_neg (by decide)] at hR
    rw [if_neg (by decide)] at hR
    rw [if_neg (by decide)] at hR
    obtain ⟨e, T', rfl, he, hR⟩ := hR
    simp only [List.length_cons] at hT
    intro td hd
    refine yi_e 18 0 (by decide) (by decide) he (by omega) hg rfl (by omega) hd rfl rfl fun Q hQ => ?_
    refine br_f (by decide) (br_f (by decide) (br_f (by decide) (br_f (by decide) (br_f (by decide) (br_t (by decide) (?_))))))
    exact yg_una hQ hW hp (by omega) hR ((14, a, b, e0, v) :: (S ++ Sb)) rfl (gm_mo_una H (fun e w a => a) (fun p' S' lc' fc' b es lw aw fw a S1 T' h1 h2 => a S1 T' _ h1 (Nat.le_succ g) (Nat.le_refl _) h2)) _ hd.2
  rw [if_neg z] at H
  by_cases z : t = 15
  · subst z
    rw [if_pos rfl] at H
    rw [if_neg (by decide)] at hR
    rw [if_neg (by decide)] at hR
    rw [if_neg (by decide)] at hR
    rw [if_neg (by decide)] at hR
    rw [if_neg (by decide)] at hR
    rw [if_neg (by decide)] at hR
    obtain ⟨e, T', rfl, he, hR⟩ := hR
    simp only [List.length_cons] at hT
    intro td hd
    refine yi_e 21 0 (by decide) (by decide) he (by omega) hg rfl (by omega) hd rfl rfl fun Q hQ => ?_
    exact br_f (by decide) (br_t (by decide) (br_t rfl (hQ _ (H S _ _ rfl (Nat.le_succ g) (Nat.le_refl _) hR _ hd.2))))
  rw [if_neg z] at H
  by_cases z : t = 16
  · subst z
    rw [if_pos rfl] at H
    rw [if_neg (by decide)] at hR
    rw [if_neg (by decide)] at hR
    rw [if_neg (by decide)] at hR
    rw [if_neg (by decide)] at hR
    rw [if_neg (by decide)] at hR
    rw [if_neg (by decide)] at hR
    obtain ⟨e, T', rfl, he, hR⟩ := hR
    simp only [List.length_cons] at hT
    intro td hd
    have hv' : a < n := by simpa [gm_vl] using hv
    refine yi_c 23 a (by decide) (by decide) he (by omega) hg rfl (by omega) hd rfl rfl fun Q hQ => ?_
    refine br_f (by decide) (br_f (by decide) (br_f (by decide) (br_t (by decide) (?_))))
    cases c with
    | false =>
      refine ym_args0 rfl hW.1 hW.2.1 (by omega) rfl hW.2.2.1 hh rfl hd.2 (hW.2.2.2.2.2.2 rfl) rfl (by omega) (by omega) (fun k => ?_) (fun k => ?_)
      · rw [if_pos k] at H; exact hQ _ (H S _ _ rfl (Nat.le_succ g) (Nat.le_refl _) hR _ hd.2)
      · rw [if_neg k] at H; exact fun td hd => hQ _ (H (gi_E 1 :: gi_G a 1 :: S) _ _ rfl (Nat.le_succ g) (Nat.le_refl _) (yr_E1 (yp_e_n (a := 16) (b := 0) (h := h) (by decide) (by omega) hh) (yr_1 (by simp) (yp_e_n (a := 24) (b := a) (h := h) (by decide) (by omega) hh) hR)) _ hd)
    | true =>
      refine ym_args1 rfl hW.1 hW.2.1 (by omega) rfl hW.2.2.1 hh rfl hd.2 (hW.2.2.2.2.2.1 rfl) rfl (by omega) (by omega) (fun k => ?_) (fun k => ?_)
      · rw [if_pos k] at H; exact hQ _ (H S _ _ rfl (Nat.le_succ g) (Nat.le_refl _) hR _ hd.2)
      · rw [if_neg k] at H; exact fun td hd => hQ _ (H (gi_E 1 :: gi_G a 1 :: S) _ _ rfl (Nat.le_succ g) (Nat.le_refl _) (yr_E1 (yp_e_n (a := 16) (b := 0) (h := h) (by decide) (by omega) hh) (yr_1 (by simp) (yp_e_n (a := 24) (b := a) (h := h) (by decide) (by omega) hh) hR)) _ hd)
  rw [if_neg z] at H
  by_cases z : t = 17
  · subst z
    rw [if_pos rfl] at H
    rw [if_neg (by decide)] at hR
    rw [if_neg (by decide)] at hR
    rw [if_neg (by decide)] at hR
    rw [if_neg (by decide)] at hR
    rw [if_neg (by decide)] at hR
    rw [if_neg (by decide)] at hR
    obtain ⟨e, T', rfl, he, hR⟩ := hR
    simp only [List.length_cons] at hT
    intro td hd
    have hv' : a < n ∧ 1 ≤ b ∧ b ≤ p := by simpa [gm_vl] using hv
    refine yi_c 24 a (by decide) (by decide) he (by omega) hg rfl (by omega) hd rfl rfl fun Q hQ => ?_
    refine br_f (by decide) (br_f (by decide) (br_f (by decide) (br_f (by decide) (br_t (by decide) (?_)))))
    cases c with
    | false =>
      refine ym_margs0 rfl hW.1 hW.2.1 (by omega) rfl hW.2.2.1 hh rfl hd.2 (hW.2.2.2.2.2.2 rfl) rfl (by omega) (by omega) (fun k => ?_) (fun k k2 => ?_) (fun k k2 => ?_)
      · rw [if_pos k] at H; exact hQ _ (H S _ _ rfl (Nat.le_succ g) (Nat.le_refl _) hR _ hd.2)
      · rw [if_neg k, if_pos k2] at H; exact fun td hd => hQ _ (H (gi_E 1 :: gi_G a (b + 1) :: S) _ _ rfl (Nat.le_succ g) (Nat.le_refl _) (yr_E1 (yp_e_n (a := 16) (b := 0) (h := h) (by decide) (by omega) hh) (yr_1 (by simp) (yp_e_n (a := 24) (b := a) (h := h) (by decide) (by omega) hh) hR)) _ hd)
      · rw [if_neg k, if_neg k2] at H; exact absurd H.1 (by decide)
    | true =>
      refine ym_margs1 rfl hW.1 hW.2.1 (by omega) rfl hW.2.2.1 hh rfl hd.2 (hW.2.2.2.2.2.1 rfl) rfl (by omega) (hA rfl) (by omega) (by omega) (fun k => ?_) (fun k k2 => ?_) (fun k k2 => ?_)
      · rw [if_pos k] at H; exact hQ _ (H S _ _ rfl (Nat.le_succ g) (Nat.le_refl _) hR _ hd.2)
      · rw [if_neg k, if_pos k2] at H; exact fun td hd => hQ _ (H (gi_E 1 :: gi_G a (b + 1) :: S) _ _ rfl (Nat.le_succ g) (Nat.le_refl _) (yr_E1 (yp_e_n (a := 16) (b := 0) (h := h) (by decide) (by omega) hh) (yr_1 (by simp) (yp_e_n (a := 24) (b := a) (h := h) (by decide) (by omega) hh) hR)) _ hd)
      · rw [if_neg k, if_neg k2] at H; exact hQ _ (H.2 _ _ _ _ _ _)
  rw [if_neg z] at H
  by_cases z : t = 18
  · subst z
    rw [if_pos rfl] at H
    rw [if_neg (by decide)] at hR
    rw [if_neg (by decide)] at hR
    rw [if_neg (by decide)] at hR
    rw [if_neg (by decide)] at hR
    rw [if_neg (by decide)] at hR
    rw [if_neg (by decide)] at hR
    obtain ⟨e, T', rfl, he, hR⟩ := hR
    simp only [List.length_cons] at hT
    intro td hd
    have hv' : a < n := by simp [gm_vl] at hv; exact hv.1
    refine yi_c 25 a (by decide) (by decide) he (by omega) hg rfl (by omega) hd rfl rfl fun Q hQ => ?_
    exact br_f (by decide) (br_f (by decide) (br_f (by decide) (br_f (by decide) (br_f (by decide) (br_t (by decide) (br_t rfl (hQ _ (H S _ _ rfl (Nat.le_succ g) (Nat.le_refl _) hR _ hd.2))))))))
  rw [if_neg z] at H
  exfalso
  unfold gm_vl at hv
  dsimp only at hv
  repeat' split at hv
  all_goals omega
