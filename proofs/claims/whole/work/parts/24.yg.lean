/-! Y, not live: one turn of the loop is one step of G -/
def yQ (post : SY → Prop) (W : SY) (c : Bool) (g p : Nat) (R : List gm_I) (T : List Nat) (o : Int32) (fc : Nat) (A : gm_A) : Prop :=
  ∀ td, yp_Td td T → yL post g (W.1, W.2.1, W.2.2.1, if c = true then nI fc else W.2.2.2.1, W.2.2.2.2.1, if c = true then nI (gm_opn R).length else W.2.2.2.2.2.1, if c = true then o else W.2.2.2.2.2.2.1, nI T.length, W.2.2.2.2.2.2.2.2.1, nI p, 0, W.2.2.2.2.2.2.2.2.2.2.2.1, 0, W.2.2.2.2.2.2.2.2.2.2.2.2.2.1, W.2.2.2.2.2.2.2.2.2.2.2.2.2.2.1, W.2.2.2.2.2.2.2.2.2.2.2.2.2.2.2.1, W.2.2.2.2.2.2.2.2.2.2.2.2.2.2.2.2.1, 0, W.2.2.2.2.2.2.2.2.2.2.2.2.2.2.2.2.2.2.1, W.2.2.2.2.2.2.2.2.2.2.2.2.2.2.2.2.2.2.2.1, W.2.2.2.2.2.2.2.2.2.2.2.2.2.2.2.2.2.2.2.2.1, W.2.2.2.2.2.2.2.2.2.2.2.2.2.2.2.2.2.2.2.2.2.1, W.2.2.2.2.2.2.2.2.2.2.2.2.2.2.2.2.2.2.2.2.2.2.1, W.2.2.2.2.2.2.2.2.2.2.2.2.2.2.2.2.2.2.2.2.2.2.2.1, W.2.2.2.2.2.2.2.2.2.2.2.2.2.2.2.2.2.2.2.2.2.2.2.2.1, W.2.2.2.2.2.2.2.2.2.2.2.2.2.2.2.2.2.2.2.2.2.2.2.2.2.1, if c = true then A.2.2.2.2.1 else W.2.2.2.2.2.2.2.2.2.2.2.2.2.2.2.2.2.2.2.2.2.2.2.2.2.2.1, if c = true then A.2.2.2.2.2.2.2 else W.2.2.2.2.2.2.2.2.2.2.2.2.2.2.2.2.2.2.2.2.2.2.2.2.2.2.2.1, if c = true then A.2.2.2.2.2.2.1 else W.2.2.2.2.2.2.2.2.2.2.2.2.2.2.2.2.2.2.2.2.2.2.2.2.2.2.2.2.1, td, W.2.2.2.2.2.2.2.2.2.2.2.2.2.2.2.2.2.2.2.2.2.2.2.2.2.2.2.2.2.2.1, W.2.2.2.2.2.2.2.2.2.2.2.2.2.2.2.2.2.2.2.2.2.2.2.2.2.2.2.2.2.2.2.1, W.2.2.2.2.2.2.2.2.2.2.2.2.2.2.2.2.2.2.2.2.2.2.2.2.2.2.2.2.2.2.2.2.1, W.2.2.2.2.2.2.2.2.2.2.2.2.2.2.2.2.2.2.2.2.2.2.2.2.2.2.2.2.2.2.2.2.2)
def yE (post : SY → Prop) (W : SY) (g e : Nat) (ac fp : Nat → Int32) : Prop :=
  ∀ (tt lo ou fn : Int32) (td be : Nat → Int32), yL post g (W.1, W.2.1, W.2.2.1, fn, W.2.2.2.2.1, lo, ou, tt, W.2.2.2.2.2.2.2.2.1, nI e, 1, W.2.2.2.2.2.2.2.2.2.2.2.1, 0, W.2.2.2.2.2.2.2.2.2.2.2.2.2.1, W.2.2.2.2.2.2.2.2.2.2.2.2.2.2.1, W.2.2.2.2.2.2.2.2.2.2.2.2.2.2.2.1, W.2.2.2.2.2.2.2.2.2.2.2.2.2.2.2.2.1, 0, W.2.2.2.2.2.2.2.2.2.2.2.2.2.2.2.2.2.2.1, W.2.2.2.2.2.2.2.2.2.2.2.2.2.2.2.2.2.2.2.1, W.2.2.2.2.2.2.2.2.2.2.2.2.2.2.2.2.2.2.2.2.1, W.2.2.2.2.2.2.2.2.2.2.2.2.2.2.2.2.2.2.2.2.2.1, W.2.2.2.2.2.2.2.2.2.2.2.2.2.2.2.2.2.2.2.2.2.2.1, W.2.2.2.2.2.2.2.2.2.2.2.2.2.2.2.2.2.2.2.2.2.2.2.1, W.2.2.2.2.2.2.2.2.2.2.2.2.2.2.2.2.2.2.2.2.2.2.2.2.1, W.2.2.2.2.2.2.2.2.2.2.2.2.2.2.2.2.2.2.2.2.2.2.2.2.2.1, ac, be, fp, td, W.2.2.2.2.2.2.2.2.2.2.2.2.2.2.2.2.2.2.2.2.2.2.2.2.2.2.2.2.2.2.1, W.2.2.2.2.2.2.2.2.2.2.2.2.2.2.2.2.2.2.2.2.2.2.2.2.2.2.2.2.2.2.2.1, W.2.2.2.2.2.2.2.2.2.2.2.2.2.2.2.2.2.2.2.2.2.2.2.2.2.2.2.2.2.2.2.2.1, W.2.2.2.2.2.2.2.2.2.2.2.2.2.2.2.2.2.2.2.2.2.2.2.2.2.2.2.2.2.2.2.2.2)
def yh (W : SY) (c : Bool) (n h : Nat) : Prop :=
  W.2.2.1 = nI n ∧ n ≤ 120 ∧ W.2.2.2.2.2.2.2.2.1 = nI h ∧ h < 1024 ∧ gm_tok W.2.2.2.2.2.2.2.2.2.2.2.2.2.2.2.2.2.2.2.2.2.2.2.2.1 W.2.2.2.2.2.2.2.2.2.2.2.2.2.2.2.2.2.2.2.2.2.2.2.2.2.1 n ∧ (c = true → ¬ W.2.2.2.2.2.2.2.2.2.2.2.1 = 0) ∧ (c = false → W.2.2.2.2.2.2.2.2.2.2.2.1 = 0)
section
variable {c : Bool} {pd : Int32} {Tb T : List Nat} {S : List gm_I}
theorem yr_1 {x : gm_I} {e : Nat} (hx : x.1 ≠ 1 ∧ x.1 ≠ 2 ∧ x.1 ≠ 8 ∧ x.1 ≠ 10 ∧ x.1 ≠ 7 ∧ x.1 ≠ 12) (he : yp_e e (yd_c x)) (h : yd_R c pd Tb S T) : yd_R c pd Tb (x :: S) (e :: T) := by
  unfold yd_R
  rw [if_neg hx.1, if_neg hx.2.1, if_neg hx.2.2.1, if_neg hx.2.2.2.1, if_neg hx.2.2.2.2.1, if_neg hx.2.2.2.2.2]
  exact ⟨e, T, rfl, he, h⟩
theorem yr_E1 {e : Nat} (he : yp_e e 16) (h : yd_R c pd Tb S T) : yd_R c pd Tb (gi_E 1 :: S) (e :: T) := Or.inl ⟨rfl, e, T, rfl, he, h⟩
theorem yr_E {e f w : Nat} (hw : w ≠ 1) (he : yp_e e 18) (hf : yp_e f (17 + 32 * w)) (h : yd_R c pd Tb S T) : yd_R c pd Tb (gi_E w :: S) (e :: f :: T) := Or.inr ⟨hw, e, f, T, rfl, he, hf, h⟩
theorem yr_U {l : Nat} (h : yd_R c pd Tb S T) : yd_R c pd Tb (gi_U l :: S) T := h
theorem yr_L {l q e : Nat} (hq : q < 2) (he : yp_e e (7 + 32 * q)) (h : yd_R c pd Tb S T) : yd_R c pd Tb (gi_L l :: S) (e :: T) := ⟨q, e, T, rfl, hq, he, h⟩
theorem yr_Ot {l e : Nat} (hc : c = true) (he : yp_e e 10) (h : yd_R c pd Tb S T) : yd_R c pd Tb (gi_O l :: S) (e :: T) := Or.inl ⟨hc, e, T, rfl, he, h⟩
theorem yr_Of {l : Nat} (hc : c = false) (h : yd_R c pd Tb S T) : yd_R c pd Tb (gi_O l :: S) T := Or.inr ⟨hc, Or.inl h⟩
theorem yr_F (hc : c = true) (h : yd_R c pd Tb S T) : yd_R c pd Tb (gi_F :: S) T := ⟨hc, h⟩
theorem yr_P {e : Nat} (hc : c = true) (he : yp_e e 1) (h : yd_R c pd Tb S T) : yd_R c pd Tb (gi_P :: S) (e :: T) := ⟨hc, e, T, rfl, he, h⟩
end
theorem yg_stm {post : SY → Prop} {W : SY} {c : Bool} {pd : Int32} {Tb T : List Nat} {S Sb : List gm_I} {n g p h cc lc fc : Nat} {o : Int32} {A : gm_A} {Q : SY → Prop} (hQ : ∀ v, yL post (g + 1) v → Q v) (hW : yh W c n h) (hp : p ≤ n) (hT : T.length + 10 < 1300) (hR : yd_R c pd Tb S T) (R : List gm_I) (hRR : gm_opn R = gm_opn (S ++ Sb)) (hlo : (gm_opn (S ++ Sb)).length < 2 ^ 31)
    (H : gm_stm W.2.2.2.2.2.2.2.2.2.2.2.2.2.2.2.2.2.2.2.2.2.2.2.2.1 W.2.2.2.2.2.2.2.2.2.2.2.2.2.2.2.2.2.2.2.2.2.2.2.2.2.1 n (fun e w => c = true ∧ yE post W (g + 1) e A.2.2.2.2.1 (gu_f A.2.2.2.2.2.2.1 fc w)) (fun p' S' lc' fc' b es lw aw fw => ∀ S1 T', S' = S1 ++ Sb → yd_R c pd Tb S1 T' → yQ post W c (g + 1) p' S' T' (gm_o b p o) fc' (gm_up A cc fc p' es lw aw fw)) p (S ++ Sb) cc lc fc) (td : Nat → Int32) (hd : yp_Td td T) : wpY_statement Q (W.1, W.2.1, W.2.2.1, if c = true then nI fc else W.2.2.2.1, W.2.2.2.2.1, if c = true then nI (gm_opn R).length else W.2.2.2.2.2.1, if c = true then o else W.2.2.2.2.2.2.1, nI T.length, W.2.2.2.2.2.2.2.2.1, nI p, 0, W.2.2.2.2.2.2.2.2.2.2.2.1, 0, W.2.2.2.2.2.2.2.2.2.2.2.2.2.1, W.2.2.2.2.2.2.2.2.2.2.2.2.2.2.1, W.2.2.2.2.2.2.2.2.2.2.2.2.2.2.2.1, W.2.2.2.2.2.2.2.2.2.2.2.2.2.2.2.2.1, 0, W.2.2.2.2.2.2.2.2.2.2.2.2.2.2.2.2.2.2.1, W.2.2.2.2.2.2.2.2.2.2.2.2.2.2.2.2.2.2.2.1, W.2.2.2.2.2.2.2.2.2.2.2.2.2.2.2.2.2.2.2.2.1, W.2.2.2.2.2.2.2.2.2.2.2.2.2.2.2.2.2.2.2.2.2.1, W.2.2.2.2.2.2.2.2.2.2.2.2.2.2.2.2.2.2.2.2.2.2.1, W.2.2.2.2.2.2.2.2.2.2.2.2.2.2.2.2.2.2.2.2.2.2.2.1, W.2.2.2.2.2.2.2.2.2.2.2.2.2.2.2.2.2.2.2.2.2.2.2.2.1, W.2.2.2.2.2.2.2.2.2.2.2.2.2.2.2.2.2.2.2.2.2.2.2.2.2.1, if c = true then A.2.2.2.2.1 else W.2.2.2.2.2.2.2.2.2.2.2.2.2.2.2.2.2.2.2.2.2.2.2.2.2.2.1, if c = true then A.2.2.2.2.2.2.2 else W.2.2.2.2.2.2.2.2.2.2.2.2.2.2.2.2.2.2.2.2.2.2.2.2.2.2.2.1, if c = true then A.2.2.2.2.2.2.1 else W.2.2.2.2.2.2.2.2.2.2.2.2.2.2.2.2.2.2.2.2.2.2.2.2.2.2.2.2.1, td, W.2.2.2.2.2.2.2.2.2.2.2.2.2.2.2.2.2.2.2.2.2.2.2.2.2.2.2.2.2.2.1, W.2.2.2.2.2.2.2.2.2.2.2.2.2.2.2.2.2.2.2.2.2.2.2.2.2.2.2.2.2.2.2.1, W.2.2.2.2.2.2.2.2.2.2.2.2.2.2.2.2.2.2.2.2.2.2.2.2.2.2.2.2.2.2.2.2.1, W.2.2.2.2.2.2.2.2.2.2.2.2.2.2.2.2.2.2.2.2.2.2.2.2.2.2.2.2.2.2.2.2.2) := by
  have hn := hW.2.1
  have hh := hW.2.2.2.1
  have htk := hW.2.2.2.2.1
  rw [hRR]
  unfold gm_stm at H
  by_cases h8 : gm_tk W.2.2.2.2.2.2.2.2.2.2.2.2.2.2.2.2.2.2.2.2.2.2.2.2.1 n p = 8
  · rw [if_pos h8] at H
    have hq := gm_tk_lt h8 (by decide)
    refine ym_st8 rfl hW.1 hW.2.1 (by omega) rfl hW.2.2.1 hh rfl hd (by omega) h8 fun td hd => hQ _ (H (gi_B :: S) _ rfl (yr_1 (by simp) (yp_e_n (a := 2) (b := 0) (h := h) (by decide) (by omega) hh) hR) _ hd)
  rw [if_neg h8] at H
  by_cases h1 : gm_tk W.2.2.2.2.2.2.2.2.2.2.2.2.2.2.2.2.2.2.2.2.2.2.2.2.1 n p = 1
  · rw [if_pos h1] at H
    have hq := gm_tk_lt h1 (by decide)
    obtain ⟨u, hu, eu⟩ := (htk p hq).2.1 ((gm_tk_K hq).symm.trans h1)
    refine ym_st1 rfl hW.1 hW.2.1 (by omega) rfl hW.2.2.1 hh rfl hd (by omega) h1 hq eu hu (fun h2 => ?_) (fun h2 => ?_)
    · rw [if_pos h2, eu, nI_clamp (by omega)] at H
      exact fun td hd => hQ _ (H (gi_E 1 :: gi_M1 53 p (13 + 32 * u) (nI u) :: gi_X 10 :: S) _ rfl (yr_E1 (yp_e_n (a := 16) (b := 0) (h := h) (by decide) (by omega) hh) (yr_1 (by simp) (yp_e_n (a := 13) (b := u) (h := h) (by decide) (by omega) hh) (yr_1 (by simp) (yp_e_n (a := 4) (b := 10) (h := h) (by decide) (by omega) hh) hR))) _ hd)
    · rw [if_neg h2] at H
      intro tt td; obtain ⟨hc, H⟩ := H; subst hc; exact hQ _ (H _ _ _ _ _ _)
  rw [if_neg h1] at H
  by_cases h3 : gm_tk W.2.2.2.2.2.2.2.2.2.2.2.2.2.2.2.2.2.2.2.2.2.2.2.2.1 n p = 3
  · rw [if_pos h3] at H
    have hq := gm_tk_lt h3 (by decide)
    refine ym_st3 rfl hW.1 hW.2.1 (by omega) rfl hW.2.2.1 hh rfl hd (by omega) h3 hq (fun h2 => ?_) (fun h2 => ?_)
    · rw [if_pos h2] at H
      exact fun td hd => hQ _ (H (gi_E 1 :: gi_X 7 :: gi_X 12 :: gi_E 1 :: gi_M2 55 p (14 + 32 * p) _ :: gi_X 10 :: S) _ rfl (yr_E1 (yp_e_n (a := 16) (b := 0) (h := h) (by decide) (by omega) hh) (yr_1 (by simp) (yp_e_n (a := 4) (b := 7) (h := h) (by decide) (by omega) hh) (yr_1 (by simp) (yp_e_n (a := 4) (b := 12) (h := h) (by decide) (by omega) hh) (yr_E1 (yp_e_n (a := 16) (b := 0) (h := h) (by decide) (by omega) hh) (yr_1 (by simp) (yp_e_n (a := 14) (b := p) (h := h) (by decide) (by omega) hh) (yr_1 (by simp) (yp_e_n (a := 4) (b := 10) (h := h) (by decide) (by omega) hh) hR)))))) _ hd)
    · rw [if_neg h2] at H
      intro tt td; obtain ⟨hc, H⟩ := H; subst hc; exact hQ _ (H _ _ _ _ _ _)
  rw [if_neg h3] at H
  by_cases h2 : gm_tk W.2.2.2.2.2.2.2.2.2.2.2.2.2.2.2.2.2.2.2.2.2.2.2.2.1 n p = 2
  · rw [if_pos h2] at H
    have hq := gm_tk_lt h2 (by decide)
    refine ym_st2 rfl hW.1 hW.2.1 (by omega) rfl hW.2.2.1 hh rfl hd (by omega) h2 hq (fun h2 => ?_) (fun h2 => ?_)
    · rw [if_pos h2] at H
      exact fun td hd => hQ _ (H (gi_A p :: gi_C p _ :: gi_M1 56 0 15 0 :: gi_X 10 :: S) _ rfl (yr_1 (by simp) (yp_e_n (a := 23) (b := p) (h := h) (by decide) (by omega) hh) (yr_1 (by simp) (yp_e_n (a := 25) (b := p) (h := h) (by decide) (by omega) hh) (yr_1 (by simp) (yp_e_n (a := 15) (b := 0) (h := h) (by decide) (by omega) hh) (yr_1 (by simp) (yp_e_n (a := 4) (b := 10) (h := h) (by decide) (by omega) hh) hR)))) _ hd)
    · rw [if_neg h2] at H
      intro tt td; obtain ⟨hc, H⟩ := H; subst hc; exact hQ _ (H _ _ _ _ _ _)
  rw [if_neg h2] at H
  by_cases h34 : gm_tk W.2.2.2.2.2.2.2.2.2.2.2.2.2.2.2.2.2.2.2.2.2.2.2.2.1 n p = 34
  · rw [if_pos h34] at H
    have hq := gm_tk_lt h34 (by decide)
    refine ym_st34 rfl hW.1 hW.2.1 (by omega) rfl hW.2.2.1 hh rfl hd (by omega) h34 hq (fun h2 => ?_) (fun h2 => ?_)
    · rw [if_pos h2] at H
      exact fun td hd => hQ _ (H (gi_E 1 :: gi_X 5 :: gi_I lc :: S) _ rfl (yr_E1 (yp_e_n (a := 16) (b := 0) (h := h) (by decide) (by omega) hh) (yr_1 (by simp) (yp_e_n (a := 4) (b := 5) (h := h) (by decide) (by omega) hh) (yr_1 (by simp) (yp_e_n (a := 6) (b := 0) (h := h) (by decide) (by omega) hh) hR))) _ hd)
    · rw [if_neg h2] at H
      intro tt td; obtain ⟨hc, H⟩ := H; subst hc; exact hQ _ (H _ _ _ _ _ _)
  rw [if_neg h34] at H
  by_cases h36 : gm_tk W.2.2.2.2.2.2.2.2.2.2.2.2.2.2.2.2.2.2.2.2.2.2.2.2.1 n p = 36
  · rw [if_pos h36] at H
    have hq := gm_tk_lt h36 (by decide)
    refine ym_st36 rfl hW.1 hW.2.1 (by omega) rfl hW.2.2.1 hh rfl hd (by omega) rfl h36 hq (fun h2 => ?_) (fun h2 => ?_)
    · rw [if_pos h2] at H
      have hq2 := gm_tk_lt h2 (by decide)
      exact fun td hd => hQ _ (H (gi_E 1 :: gi_X 5 :: gi_W lc (p + 2) :: S) _ rfl (yr_E1 (yp_e_n (a := 16) (b := 0) (h := h) (by decide) (by omega) hh) (yr_1 (by simp) (yp_e_n (a := 4) (b := 5) (h := h) (by decide) (by omega) hh) (yr_1 (by simp) (yp_e_n (a := 8) (b := (p + 2)) (h := h) (by decide) (by omega) hh) hR))) _ hd)
    · rw [if_neg h2] at H
      obtain ⟨hc, H⟩ := H; subst hc; exact hQ _ (H _ _ _ _ _ _)
  rw [if_neg h36] at H
  have key : ∀ d, (d = 37 ∨ d = 38) → gm_tk W.2.2.2.2.2.2.2.2.2.2.2.2.2.2.2.2.2.2.2.2.2.2.2.2.1 n p = nI d → gm_brk (fun p' S' lc' fc' b es lw aw fw => ∀ S1 T', S' = S1 ++ Sb → yd_R c pd Tb S1 T' → yQ post W c (g + 1) p' S' T' (gm_o b p o) fc' (gm_up A cc fc p' es lw aw fw)) p (S ++ Sb) lc fc (38 - d) (gm_opn (S ++ Sb)) → wpY_statement Q (W.1, W.2.1, W.2.2.1, if c = true then nI fc else W.2.2.2.1, W.2.2.2.2.1, if c = true then nI (gm_opn (S ++ Sb)).length else W.2.2.2.2.2.1, if c = true then o else W.2.2.2.2.2.2.1, nI T.length, W.2.2.2.2.2.2.2.2.1, nI p, 0, W.2.2.2.2.2.2.2.2.2.2.2.1, 0, W.2.2.2.2.2.2.2.2.2.2.2.2.2.1, W.2.2.2.2.2.2.2.2.2.2.2.2.2.2.1, W.2.2.2.2.2.2.2.2.2.2.2.2.2.2.2.1, W.2.2.2.2.2.2.2.2.2.2.2.2.2.2.2.2.1, 0, W.2.2.2.2.2.2.2.2.2.2.2.2.2.2.2.2.2.2.1, W.2.2.2.2.2.2.2.2.2.2.2.2.2.2.2.2.2.2.2.1, W.2.2.2.2.2.2.2.2.2.2.2.2.2.2.2.2.2.2.2.2.1, W.2.2.2.2.2.2.2.2.2.2.2.2.2.2.2.2.2.2.2.2.2.1, W.2.2.2.2.2.2.2.2.2.2.2.2.2.2.2.2.2.2.2.2.2.2.1, W.2.2.2.2.2.2.2.2.2.2.2.2.2.2.2.2.2.2.2.2.2.2.2.1, W.2.2.2.2.2.2.2.2.2.2.2.2.2.2.2.2.2.2.2.2.2.2.2.2.1, W.2.2.2.2.2.2.2.2.2.2.2.2.2.2.2.2.2.2.2.2.2.2.2.2.2.1, if c = true then A.2.2.2.2.1 else W.2.2.2.2.2.2.2.2.2.2.2.2.2.2.2.2.2.2.2.2.2.2.2.2.2.2.1, if c = true then A.2.2.2.2.2.2.2 else W.2.2.2.2.2.2.2.2.2.2.2.2.2.2.2.2.2.2.2.2.2.2.2.2.2.2.2.1, if c = true then A.2.2.2.2.2.2.1 else W.2.2.2.2.2.2.2.2.2.2.2.2.2.2.2.2.2.2.2.2.2.2.2.2.2.2.2.2.1, td, W.2.2.2.2.2.2.2.2.2.2.2.2.2.2.2.2.2.2.2.2.2.2.2.2.2.2.2.2.2.2.1, W.2.2.2.2.2.2.2.2.2.2.2.2.2.2.2.2.2.2.2.2.2.2.2.2.2.2.2.2.2.2.2.1, W.2.2.2.2.2.2.2.2.2.2.2.2.2.2.2.2.2.2.2.2.2.2.2.2.2.2.2.2.2.2.2.2.1, W.2.2.2.2.2.2.2.2.2.2.2.2.2.2.2.2.2.2.2.2.2.2.2.2.2.2.2.2.2.2.2.2.2) := by
    intro d hdd hk H
    have hq := gm_tk_lt' hk (by omega)
    have e10 : gm_opn (gi_X 10 :: (S ++ Sb)) = gm_opn (S ++ Sb) := rfl
    have hr : yd_R c pd Tb (gi_X 10 :: S) (yp_n 4 10 h :: T) := yr_1 (by simp) (yp_e_n (a := 4) (b := 10) (h := h) (by decide) (by omega) hh) hR
    cases hO : gm_opn (S ++ Sb) with
    | nil =>
      rw [hO] at H
      refine ym_st37 (ou := if c = true then gm_o true p o else W.2.2.2.2.2.2.1) rfl hW.1 hW.2.1 (by omega) rfl hW.2.2.1 hh rfl hd hdd (by omega) rfl hk hq ?_ (fun td hd => ?_)
      · cases c with
        | false => rw [if_pos (hW.2.2.2.2.2.2 rfl)]; rfl
        | true => rw [if_neg (hW.2.2.2.2.2.1 rfl)]; rfl
      · have H := H (gi_X 10 :: S) _ rfl hr _ hd
        rw [e10, hO] at H
        exact hQ _ H
    | cons a ol =>
      rw [hO] at H
      refine ym_st37 (ou := if c = true then gm_o false p o else W.2.2.2.2.2.2.1) rfl hW.1 hW.2.1 (by omega) rfl hW.2.2.1 hh rfl hd hdd (by omega) rfl hk hq ?_ (fun td hd => ?_)
      · cases c with
        | false => rw [if_pos (hW.2.2.2.2.2.2 rfl)]; rfl
        | true =>
          have hl : (a :: ol).length < 2 ^ 31 := by rw [← hO]; exact hlo
          rw [if_neg (hW.2.2.2.2.2.1 rfl), if_neg (show ¬ (if true = true then nI (a :: ol).length else W.2.2.2.2.2.1) = 0 from nI_ne0 (by simp) hl)]
          rfl
      · have H := H (gi_X 10 :: S) _ rfl hr _ hd
        rw [e10, hO] at H
        exact hQ _ H
  by_cases h37 : gm_tk W.2.2.2.2.2.2.2.2.2.2.2.2.2.2.2.2.2.2.2.2.2.2.2.2.1 n p = 37
  · rw [if_pos h37] at H
    exact key 37 (Or.inl rfl) h37 H
  rw [if_neg h37] at H
  by_cases h38 : gm_tk W.2.2.2.2.2.2.2.2.2.2.2.2.2.2.2.2.2.2.2.2.2.2.2.2.1 n p = 38
  · rw [if_pos h38] at H
    exact key 38 (Or.inr rfl) h38 H
  rw [if_neg h38] at H
  by_cases h39 : gm_tk W.2.2.2.2.2.2.2.2.2.2.2.2.2.2.2.2.2.2.2.2.2.2.2.2.1 n p = 39
  · rw [if_pos h39] at H
    have hq := gm_tk_lt h39 (by decide)
    exact ym_st39 (d := 39) (e := 11) rfl hW.1 hW.2.1 (by omega) rfl hW.2.2.1 hh rfl hd (Or.inl ⟨rfl, rfl⟩) (by omega) h39 hq fun td hd => hQ _ (H (gi_E 1 :: gi_M1 39 p 11 0 :: gi_X 10 :: S) _ rfl (yr_E1 (yp_e_n (a := 16) (b := 0) (h := h) (by decide) (by omega) hh) (yr_1 (by simp) (yp_e_n (a := 11) (b := 0) (h := h) (by decide) (by omega) hh) (yr_1 (by simp) (yp_e_n (a := 4) (b := 10) (h := h) (by decide) (by omega) hh) hR))) _ hd)
  rw [if_neg h39] at H
  by_cases h40 : gm_tk W.2.2.2.2.2.2.2.2.2.2.2.2.2.2.2.2.2.2.2.2.2.2.2.2.1 n p = 40
  · rw [if_pos h40] at H
    have hq := gm_tk_lt h40 (by decide)
    exact ym_st39 (d := 40) (e := 12) rfl hW.1 hW.2.1 (by omega) rfl hW.2.2.1 hh rfl hd (Or.inr ⟨rfl, rfl⟩) (by omega) h40 hq fun td hd => hQ _ (H (gi_E 1 :: gi_M1 40 p 12 0 :: gi_X 10 :: S) _ rfl (yr_E1 (yp_e_n (a := 16) (b := 0) (h := h) (by decide) (by omega) hh) (yr_1 (by simp) (yp_e_n (a := 12) (b := 0) (h := h) (by decide) (by omega) hh) (yr_1 (by simp) (yp_e_n (a := 4) (b := 10) (h := h) (by decide) (by omega) hh) hR))) _ hd)
  rw [if_neg h40] at H
  refine ym_stE rfl hW.1 hW.2.1 (by omega) h8 h1 h3 h2 h34 h36 h37 h38 h39 h40 ?_
  obtain ⟨hc, H⟩ := H; subst hc; exact hQ _ (H _ _ _ _ _ _)
theorem yg_una {post : SY → Prop} {W : SY} {c : Bool} {pd : Int32} {Tb T : List Nat} {S Sb : List gm_I} {n g p h cc lc fc : Nat} {o : Int32} {A : gm_A} {Q : SY → Prop} (hQ : ∀ v, yL post (g + 1) v → Q v) (hW : yh W c n h) (hp : p ≤ n) (hT : T.length + 10 < 1300) (hR : yd_R c pd Tb S T) (R : List gm_I) (hRR : gm_opn R = gm_opn (S ++ Sb))
    (H : gm_una W.2.2.2.2.2.2.2.2.2.2.2.2.2.2.2.2.2.2.2.2.2.2.2.2.1 W.2.2.2.2.2.2.2.2.2.2.2.2.2.2.2.2.2.2.2.2.2.2.2.2.2.1 n (fun e w => c = true ∧ yE post W (g + 1) e A.2.2.2.2.1 (gu_f A.2.2.2.2.2.2.1 fc w)) (fun p' S' lc' fc' b es lw aw fw => ∀ S1 T', S' = S1 ++ Sb → yd_R c pd Tb S1 T' → yQ post W c (g + 1) p' S' T' (gm_o b p o) fc' (gm_up A cc fc p' es lw aw fw)) p (S ++ Sb) lc fc) (td : Nat → Int32) (hd : yp_Td td T) : wpY_unary Q (W.1, W.2.1, W.2.2.1, if c = true then nI fc else W.2.2.2.1, W.2.2.2.2.1, if c = true then nI (gm_opn R).length else W.2.2.2.2.2.1, if c = true then o else W.2.2.2.2.2.2.1, nI T.length, W.2.2.2.2.2.2.2.2.1, nI p, 0, W.2.2.2.2.2.2.2.2.2.2.2.1, 0, W.2.2.2.2.2.2.2.2.2.2.2.2.2.1, W.2.2.2.2.2.2.2.2.2.2.2.2.2.2.1, W.2.2.2.2.2.2.2.2.2.2.2.2.2.2.2.1, W.2.2.2.2.2.2.2.2.2.2.2.2.2.2.2.2.1, 0, W.2.2.2.2.2.2.2.2.2.2.2.2.2.2.2.2.2.2.1, W.2.2.2.2.2.2.2.2.2.2.2.2.2.2.2.2.2.2.2.1, W.2.2.2.2.2.2.2.2.2.2.2.2.2.2.2.2.2.2.2.2.1, W.2.2.2.2.2.2.2.2.2.2.2.2.2.2.2.2.2.2.2.2.2.1, W.2.2.2.2.2.2.2.2.2.2.2.2.2.2.2.2.2.2.2.2.2.2.1, W.2.2.2.2.2.2.2.2.2.2.2.2.2.2.2.2.2.2.2.2.2.2.2.1, W.2.2.2.2.2.2.2.2.2.2.2.2.2.2.2.2.2.2.2.2.2.2.2.2.1, W.2.2.2.2.2.2.2.2.2.2.2.2.2.2.2.2.2.2.2.2.2.2.2.2.2.1, if c = true then A.2.2.2.2.1 else W.2.2.2.2.2.2.2.2.2.2.2.2.2.2.2.2.2.2.2.2.2.2.2.2.2.2.1, if c = true then A.2.2.2.2.2.2.2 else W.2.2.2.2.2.2.2.2.2.2.2.2.2.2.2.2.2.2.2.2.2.2.2.2.2.2.2.1, if c = true then A.2.2.2.2.2.2.1 else W.2.2.2.2.2.2.2.2.2.2.2.2.2.2.2.2.2.2.2.2.2.2.2.2.2.2.2.2.1, td, W.2.2.2.2.2.2.2.2.2.2.2.2.2.2.2.2.2.2.2.2.2.2.2.2.2.2.2.2.2.2.1, W.2.2.2.2.2.2.2.2.2.2.2.2.2.2.2.2.2.2.2.2.2.2.2.2.2.2.2.2.2.2.2.1, W.2.2.2.2.2.2.2.2.2.2.2.2.2.2.2.2.2.2.2.2.2.2.2.2.2.2.2.2.2.2.2.2.1, W.2.2.2.2.2.2.2.2.2.2.2.2.2.2.2.2.2.2.2.2.2.2.2.2.2.2.2.2.2.2.2.2.2) := by
  have hn := hW.2.1
  have hh := hW.2.2.2.1
  have htk := hW.2.2.2.2.1
  rw [hRR]
  unfold gm_una at H
  by_cases h28 : gm_tk W.2.2.2.2.2.2.2.2.2.2.2.2.2.2.2.2.2.2.2.2.2.2.2.2.1 n p = 28
  · rw [if_pos h28] at H
    exact ym_un (d := 28) rfl hW.1 hW.2.1 (by omega) rfl hW.2.2.1 hh rfl hd (by omega) (by omega) h28 fun td hd => hQ _ (H (gi_N :: gi_M0 50 p 915 0 :: S) _ rfl (yr_1 (by simp) (yp_e_n (a := 18) (b := 0) (h := h) (by decide) (by omega) hh) (yr_1 (by simp) (yp_e_n (a := 19) (b := 28) (h := h) (by decide) (by omega) hh) hR)) _ hd)
  rw [if_neg h28] at H
  by_cases h32 : gm_tk W.2.2.2.2.2.2.2.2.2.2.2.2.2.2.2.2.2.2.2.2.2.2.2.2.1 n p = 32
  · rw [if_pos h32] at H
    exact ym_un (d := 32) rfl hW.1 hW.2.1 (by omega) rfl hW.2.2.1 hh rfl hd (by omega) (by omega) h32 fun td hd => hQ _ (H (gi_N :: gi_M0 32 p 1043 0 :: S) _ rfl (yr_1 (by simp) (yp_e_n (a := 18) (b := 0) (h := h) (by decide) (by omega) hh) (yr_1 (by simp) (yp_e_n (a := 19) (b := 32) (h := h) (by decide) (by omega) hh) hR)) _ hd)
  rw [if_neg h32] at H
  by_cases h33 : gm_tk W.2.2.2.2.2.2.2.2.2.2.2.2.2.2.2.2.2.2.2.2.2.2.2.2.1 n p = 33
  · rw [if_pos h33] at H
    exact ym_un (d := 33) rfl hW.1 hW.2.1 (by omega) rfl hW.2.2.1 hh rfl hd (by omega) (by omega) h33 fun td hd => hQ _ (H (gi_N :: gi_M0 33 p 1075 0 :: S) _ rfl (yr_1 (by simp) (yp_e_n (a := 18) (b := 0) (h := h) (by decide) (by omega) hh) (yr_1 (by simp) (yp_e_n (a := 19) (b := 33) (h := h) (by decide) (by omega) hh) hR)) _ hd)
  rw [if_neg h33] at H
  by_cases h0 : gm_tk W.2.2.2.2.2.2.2.2.2.2.2.2.2.2.2.2.2.2.2.2.2.2.2.2.1 n p = 0
  · rw [if_pos h0] at H
    exact ym_un01 (d := 0) rfl hW.1 hW.2.1 (by omega) rfl (by omega) h0 (hQ _ (H S _ rfl hR _ hd))
  rw [if_neg h0] at H
  by_cases h1 : gm_tk W.2.2.2.2.2.2.2.2.2.2.2.2.2.2.2.2.2.2.2.2.2.2.2.2.1 n p = 1
  · rw [if_pos h1] at H
    exact ym_un01 (d := 1) rfl hW.1 hW.2.1 (by omega) rfl (by omega) h1 (hQ _ (H S _ rfl hR _ hd))
  rw [if_neg h1] at H
  by_cases h2 : gm_tk W.2.2.2.2.2.2.2.2.2.2.2.2.2.2.2.2.2.2.2.2.2.2.2.2.1 n p = 2
  · rw [if_pos h2] at H
    have hq := gm_tk_lt h2 (by decide)
    refine ym_un2 rfl hW.1 hW.2.1 (by omega) rfl hW.2.2.1 hh rfl hd (by omega) h2 hq (fun h2 => ?_) (fun h2 => ?_)
    · rw [if_pos h2] at H
      exact fun td hd => hQ _ (H (gi_A p :: gi_C p _ :: S) _ rfl (yr_1 (by simp) (yp_e_n (a := 23) (b := p) (h := h) (by decide) (by omega) hh) (yr_1 (by simp) (yp_e_n (a := 25) (b := p) (h := h) (by decide) (by omega) hh) hR)) _ hd)
    · rw [if_neg h2] at H
      intro tt td; obtain ⟨hc, H⟩ := H; subst hc; exact hQ _ (H _ _ _ _ _ _)
  rw [if_neg h2] at H
  by_cases h3 : gm_tk W.2.2.2.2.2.2.2.2.2.2.2.2.2.2.2.2.2.2.2.2.2.2.2.2.1 n p = 3
  · rw [if_pos h3] at H
    have hq := gm_tk_lt h3 (by decide)
    refine ym_un3 rfl hW.1 hW.2.1 (by omega) rfl hW.2.2.1 hh rfl hd (by omega) h3 hq (fun h2 => ?_) (fun h2 => ?_)
    · rw [if_pos h2] at H
      exact fun td hd => hQ _ (H (gi_E 1 :: gi_X 7 :: gi_M0 54 p (22 + 32 * p) 0 :: S) _ rfl (yr_E1 (yp_e_n (a := 16) (b := 0) (h := h) (by decide) (by omega) hh) (yr_1 (by simp) (yp_e_n (a := 4) (b := 7) (h := h) (by decide) (by omega) hh) (yr_1 (by simp) (yp_e_n (a := 22) (b := p) (h := h) (by decide) (by omega) hh) hR))) _ hd)
    · rw [if_neg h2] at H
      intro tt td; obtain ⟨hc, H⟩ := H; subst hc; exact hQ _ (H _ _ _ _ _ _)
  rw [if_neg h3] at H
  by_cases h4 : gm_tk W.2.2.2.2.2.2.2.2.2.2.2.2.2.2.2.2.2.2.2.2.2.2.2.2.1 n p = 4
  · rw [if_pos h4] at H
    exact ym_un4 rfl hW.1 hW.2.1 (by omega) rfl hW.2.2.1 hh rfl hd (by omega) h4 fun td hd => hQ _ (H (gi_E 1 :: gi_X 5 :: S) _ rfl (yr_E1 (yp_e_n (a := 16) (b := 0) (h := h) (by decide) (by omega) hh) (yr_1 (by simp) (yp_e_n (a := 4) (b := 5) (h := h) (by decide) (by omega) hh) hR)) _ hd)
  rw [if_neg h4] at H
  refine ym_unE rfl hW.1 hW.2.1 (by omega) h28 h32 h33 h0 h1 h2 h3 h4 ?_
  obtain ⟨hc, H⟩ := H; subst hc; exact hQ _ (H _ _ _ _ _ _)
theorem yg_bin {post : SY → Prop} {W : SY} {c : Bool} {pd : Int32} {Tb T : List Nat} {S Sb : List gm_I} {n g p h cc lc fc : Nat} {o : Int32} {A : gm_A} {Q : SY → Prop} (hQ : ∀ v, yL post (g + 1) v → Q v) (hW : yh W c n h) (hp : p ≤ n) (hT : T.length + 10 < 1300) (hR : yd_R c pd Tb S T) {w : Nat} (hw : 1 ≤ w) (hw' : w ≤ 11) (R : List gm_I) (hRR : gm_opn R = gm_opn (S ++ Sb))
    (H : gm_bin W.2.2.2.2.2.2.2.2.2.2.2.2.2.2.2.2.2.2.2.2.2.2.2.2.1 n (fun p' S' lc' fc' b es lw aw fw => ∀ S1 T', S' = S1 ++ Sb → yd_R c pd Tb S1 T' → yQ post W c (g + 1) p' S' T' (gm_o b p o) fc' (gm_up A cc fc p' es lw aw fw)) p w (S ++ Sb) lc fc) (td : Nat → Int32) (hd : yp_Td td T) : wpY_expressionPart Q (W.1, W.2.1, W.2.2.1, if c = true then nI fc else W.2.2.2.1, W.2.2.2.2.1, if c = true then nI (gm_opn R).length else W.2.2.2.2.2.1, if c = true then o else W.2.2.2.2.2.2.1, nI T.length, W.2.2.2.2.2.2.2.2.1, nI p, 0, W.2.2.2.2.2.2.2.2.2.2.2.1, 0, W.2.2.2.2.2.2.2.2.2.2.2.2.2.1, W.2.2.2.2.2.2.2.2.2.2.2.2.2.2.1, W.2.2.2.2.2.2.2.2.2.2.2.2.2.2.2.1, W.2.2.2.2.2.2.2.2.2.2.2.2.2.2.2.2.1, 0, W.2.2.2.2.2.2.2.2.2.2.2.2.2.2.2.2.2.2.1, W.2.2.2.2.2.2.2.2.2.2.2.2.2.2.2.2.2.2.2.1, W.2.2.2.2.2.2.2.2.2.2.2.2.2.2.2.2.2.2.2.2.1, W.2.2.2.2.2.2.2.2.2.2.2.2.2.2.2.2.2.2.2.2.2.1, W.2.2.2.2.2.2.2.2.2.2.2.2.2.2.2.2.2.2.2.2.2.2.1, W.2.2.2.2.2.2.2.2.2.2.2.2.2.2.2.2.2.2.2.2.2.2.2.1, W.2.2.2.2.2.2.2.2.2.2.2.2.2.2.2.2.2.2.2.2.2.2.2.2.1, W.2.2.2.2.2.2.2.2.2.2.2.2.2.2.2.2.2.2.2.2.2.2.2.2.2.1, if c = true then A.2.2.2.2.1 else W.2.2.2.2.2.2.2.2.2.2.2.2.2.2.2.2.2.2.2.2.2.2.2.2.2.2.1, if c = true then A.2.2.2.2.2.2.2 else W.2.2.2.2.2.2.2.2.2.2.2.2.2.2.2.2.2.2.2.2.2.2.2.2.2.2.2.1, if c = true then A.2.2.2.2.2.2.1 else W.2.2.2.2.2.2.2.2.2.2.2.2.2.2.2.2.2.2.2.2.2.2.2.2.2.2.2.2.1, td, W.2.2.2.2.2.2.2.2.2.2.2.2.2.2.2.2.2.2.2.2.2.2.2.2.2.2.2.2.2.2.1, W.2.2.2.2.2.2.2.2.2.2.2.2.2.2.2.2.2.2.2.2.2.2.2.2.2.2.2.2.2.2.2.1, W.2.2.2.2.2.2.2.2.2.2.2.2.2.2.2.2.2.2.2.2.2.2.2.2.2.2.2.2.2.2.2.2.1, W.2.2.2.2.2.2.2.2.2.2.2.2.2.2.2.2.2.2.2.2.2.2.2.2.2.2.2.2.2.2.2.2.2) 17 (nI w) := by
  have hn := hW.2.1
  have hh := hW.2.2.2.1
  have hr : ∀ q, q < n → ∃ k, k ≤ 41 ∧ W.2.2.2.2.2.2.2.2.2.2.2.2.2.2.2.2.2.2.2.2.2.2.2.2.1 q = nI k := fun q hq => (hW.2.2.2.2.1 q hq).1
  have hs := gm_str_le (gm_tk W.2.2.2.2.2.2.2.2.2.2.2.2.2.2.2.2.2.2.2.2.2.2.2.2.1 n p)
  rw [hRR]
  unfold gm_bin at H
  by_cases h0 : gm_str (gm_tk W.2.2.2.2.2.2.2.2.2.2.2.2.2.2.2.2.2.2.2.2.2.2.2.2.1 n p) < w
  · rw [if_pos h0] at H
    exact ym_bin0 rfl hW.1 hW.2.1 (by omega) rfl hw' hr h0 (hQ _ (H S _ rfl hR _ hd))
  rw [if_neg h0] at H
  have hq : p < n := by
    by_cases z : p < n
    · exact z
    · rw [show gm_tk W.2.2.2.2.2.2.2.2.2.2.2.2.2.2.2.2.2.2.2.2.2.2.2.2.1 n p = -1 from if_neg z, gm_str0] at h0
      omega
  by_cases h13 : gm_tk W.2.2.2.2.2.2.2.2.2.2.2.2.2.2.2.2.2.2.2.2.2.2.2.2.1 n p = 13
  · rw [if_pos h13] at H
    have e : gm_str (gm_tk W.2.2.2.2.2.2.2.2.2.2.2.2.2.2.2.2.2.2.2.2.2.2.2.2.1 n p) = 1 := by rw [h13]; decide
    refine ym_bin2 rfl hW.1 hW.2.1 (by omega) rfl hW.2.2.1 hh rfl hd rfl hw' rfl hr h0 (by omega) hq (by omega) ?_
    rw [e]
    exact fun td hd => hQ _ (H (gi_E 2 :: gi_T lc p :: gi_R w :: S) _ rfl (yr_E (by decide) (yp_e_n (a := 18) (b := 0) (h := h) (by decide) (by omega) hh) (yp_e_n (a := 17) (b := 2) (h := h) (by decide) (by omega) hh) (yr_1 (by simp) (yp_e_n (a := 21) (b := 0) (h := h) (by decide) (by omega) hh) (yr_1 (by simp) (yp_e_n (a := 17) (b := w) (h := h) (by decide) (by omega) hh) hR))) _ hd)
  rw [if_neg h13] at H
  by_cases h14 : gm_tk W.2.2.2.2.2.2.2.2.2.2.2.2.2.2.2.2.2.2.2.2.2.2.2.2.1 n p = 14
  · rw [if_pos h14] at H
    have e : gm_str (gm_tk W.2.2.2.2.2.2.2.2.2.2.2.2.2.2.2.2.2.2.2.2.2.2.2.2.1 n p) = 2 := by rw [h14]; decide
    refine ym_bin2 rfl hW.1 hW.2.1 (by omega) rfl hW.2.2.1 hh rfl hd rfl hw' rfl hr h0 (by omega) hq (by omega) ?_
    rw [e]
    exact fun td hd => hQ _ (H (gi_E 3 :: gi_T lc p :: gi_R w :: S) _ rfl (yr_E (by decide) (yp_e_n (a := 18) (b := 0) (h := h) (by decide) (by omega) hh) (yp_e_n (a := 17) (b := 3) (h := h) (by decide) (by omega) hh) (yr_1 (by simp) (yp_e_n (a := 21) (b := 0) (h := h) (by decide) (by omega) hh) (yr_1 (by simp) (yp_e_n (a := 17) (b := w) (h := h) (by decide) (by omega) hh) hR))) _ hd)
  rw [if_neg h14] at H
  have h2 : 2 < gm_str (gm_tk W.2.2.2.2.2.2.2.2.2.2.2.2.2.2.2.2.2.2.2.2.2.2.2.2.1 n p) := by
    obtain ⟨k, hk1, hk2⟩ := hr p hq
    rw [gm_tk_K hq, hk2] at h0 h13 h14 ⊢
    have := gm_str_k hk1 (by omega)
    have e13 : k ≠ 13 := fun z => h13 (by rw [z]; rfl)
    have e14 : k ≠ 14 := fun z => h14 (by rw [z]; rfl)
    unfold gm_str
    rw [nI_clamp (by omega)]
    repeat' split
    all_goals omega
  exact ym_bin1 rfl hW.1 hW.2.1 (by omega) rfl hW.2.2.1 hh rfl hd rfl hw' hr h0 h2 hq (by omega) fun td hd => hQ _ (H (gi_E (gm_str (gm_tk W.2.2.2.2.2.2.2.2.2.2.2.2.2.2.2.2.2.2.2.2.2.2.2.2.1 n p) + 1) :: gi_M1 _ p (20 + 32 * p) 0 :: gi_R w :: S) _ rfl (yr_E (by omega) (yp_e_n (a := 18) (b := 0) (h := h) (by decide) (by omega) hh) (yp_e_n (a := 17) (b := (gm_str (gm_tk W.2.2.2.2.2.2.2.2.2.2.2.2.2.2.2.2.2.2.2.2.2.2.2.2.1 n p) + 1)) (h := h) (by decide) (by omega) hh) (yr_1 (by simp) (yp_e_n (a := 20) (b := p) (h := h) (by decide) (by omega) hh) (yr_1 (by simp) (yp_e_n (a := 17) (b := w) (h := h) (by decide) (by omega) hh) hR))) _ hd)
