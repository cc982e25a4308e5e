/-! G: argument counts, frames: what a step leaves alone -/
def gm_av (ac : Nat → Int32) : List gm_I → Prop
  | [] => True
  | x :: S => (x.1 = 17 → ac x.2.1 = nI x.2.2.1) ∧ gm_av ac S
theorem gm_av_up {ac : Nat → Int32} {a : Nat} {v : Int32} : ∀ {S : List gm_I} {b : Nat}, gm_pl b S → b ≤ a → gm_av ac S → gm_av (upd ac a v) S
  | [], _, _, _, _ => trivial
  | x :: S, b, h, hb, hv => by
    unfold gm_pl at h
    split at h
    · exact ⟨fun z => (pk_un (by omega)).trans (hv.1 z), gm_av_up h.2 (by omega) hv.2⟩
    · exact ⟨fun z => absurd z (by omega), gm_av_up h hb hv.2⟩
/-- what a step leaves alone: labels, places, and that what it writes is written for good -/
def gm_fr (ac : Nat → Int32) (p lc fc : Nat) (x : gm_I) (S : List gm_I) : gm_K Prop := fun p' S' lc' fc' _ _ lw aw fw =>
  gm_av (gu_l ac aw) S' ∧ lc ≤ lc' ∧ p ≤ p' ∧ (∀ l, l < lc → gm_np l (x :: S) → gm_np l S') ∧ (∀ y, lw = some y → y.1 < lc' ∧ gm_np y.1 S' ∧ (y.1 < lc → ¬ gm_np y.1 (x :: S)))
  ∧ (∀ q, q < p → gm_nq q (x :: S) → gm_nq q S') ∧ (∀ y, aw = some y → y.1 < p ∧ ¬ gm_nq y.1 (x :: S)) ∧ (fw = none → fc' = fc) ∧ (∀ v, fw = some v → fc' = fc + 1)
theorem gf_stm {K V : Nat → Int32} {n p : Nat} {x : gm_I} {S : List gm_I} {cc lc fc : Nat} {ac : Nat → Int32} (hx : ∀ l, gm_np l (x :: S) → gm_np l S) (hx' : ∀ l, gm_nq l (x :: S) → gm_nq l S) (h1 : gm_av ac S) (h2 : gm_lb lc S) :
    gm_stm K V n (fun _ _ => True) (gm_fr ac p lc fc x S) p S cc lc fc := by
  have hl : ∀ l, lc ≤ l → gm_np l S := fun l hl => gm_lb_np h2 hl
  unfold gm_stm
  repeat' split
  all_goals try trivial
  all_goals try (cases hO : gm_opn S)
  all_goals
    simp only [gm_brk, gm_fr, gu_l]
    refine ⟨?_, by omega, by omega, fun l hl hn => ?_, ?_, fun q hq hn => ?_, ?_, ?_, ?_⟩
  all_goals try (simp [gm_av, h1]; done)
  all_goals try (simp [gm_np, hx l hn]; omega)
  all_goals try (simp [gm_np, hx l hn]; done)
  all_goals try (simp [gm_nq, hx' q hn]; omega)
  all_goals try (simp [gm_nq, hx' q hn]; done)
  all_goals try (simp; done)
  all_goals
    intro y hy
    simp only [Option.some.injEq] at hy
    subst hy
    exact ⟨by simp, by simp [gm_np, hl lc (Nat.le_refl _)], fun z => absurd z (by simp)⟩
theorem gf_una {K V : Nat → Int32} {n p : Nat} {x : gm_I} {S : List gm_I} {lc fc : Nat} {ac : Nat → Int32} (hx : ∀ l, gm_np l (x :: S) → gm_np l S) (hx' : ∀ l, gm_nq l (x :: S) → gm_nq l S) (h1 : gm_av ac S) :
    gm_una K V n (fun _ _ => True) (gm_fr ac p lc fc x S) p S lc fc := by
  unfold gm_una
  repeat' split
  all_goals try trivial
  all_goals
    simp only [gm_fr, gu_l]
    refine ⟨?_, by omega, by omega, fun l hl hn => ?_, ?_, fun q hq hn => ?_, ?_, ?_, ?_⟩
  all_goals try (simp [gm_av, h1]; done)
  all_goals try (simp [gm_np, hx l hn]; omega)
  all_goals try (simp [gm_np, hx l hn]; done)
  all_goals try (simp [gm_nq, hx' q hn]; omega)
  all_goals try (simp [gm_nq, hx' q hn]; done)
  all_goals try (simp; done)
theorem gf_bin {K : Nat → Int32} {n p w : Nat} {x : gm_I} {S : List gm_I} {lc fc : Nat} {ac : Nat → Int32} (hx : ∀ l, gm_np l (x :: S) → gm_np l S) (hx' : ∀ l, gm_nq l (x :: S) → gm_nq l S) (h1 : gm_av ac S) :
    gm_bin K n (gm_fr ac p lc fc x S) p w S lc fc := by
  unfold gm_bin
  repeat' split
  all_goals
    simp only [gm_fr, gu_l]
    refine ⟨?_, by omega, by omega, fun l hl hn => ?_, ?_, fun q hq hn => ?_, ?_, ?_, ?_⟩
  all_goals try (simp [gm_av, h1]; done)
  all_goals try (simp [gm_np, hx l hn]; omega)
  all_goals try (simp [gm_np, hx l hn]; done)
  all_goals try (simp [gm_nq, hx' q hn]; omega)
  all_goals try (simp [gm_nq, hx' q hn]; done)
  all_goals try (simp; done)
theorem gf_prg {K V : Nat → Int32} {n p : Nat} {x : gm_I} {S : List gm_I} {lc fc : Nat} {ac : Nat → Int32} (h0 : S = []) :
    gm_prg K V n (fun _ _ => True) (gm_fr ac p lc fc x S) p S lc fc := by
  subst h0
  unfold gm_prg
  repeat' split
  all_goals try trivial
  all_goals
    simp only [gm_fr, gu_l]
    refine ⟨?_, by omega, by omega, fun l hl hn => ?_, ?_, fun q hq hn => ?_, ?_, ?_, ?_⟩
  all_goals simp [gm_av, gm_np, gm_nq]
theorem gf_d {K V : Nat → Int32} {n p : Nat} {x : gm_I} {S : List gm_I} {cc lc fc : Nat} {ac : Nat → Int32} (hsh : gm_sh (x :: S)) (hlb : gm_lb lc (x :: S)) (hpl : gm_pl p (x :: S)) (hav : gm_av ac (x :: S)) :
    gm_d K V n (fun _ _ => True) (gm_fr ac p lc fc x S) p x S cc lc fc := by
  have hx : ∀ l, gm_np l (x :: S) → gm_np l S := fun l h => h.2.2
  have hx' : ∀ l, gm_nq l (x :: S) → gm_nq l S := fun l h => h.2
  have hA := hav.2
  obtain ⟨t, a, b, e, v⟩ := x
  unfold gm_d
  dsimp only at *
  by_cases z : t = 1
  · subst z; rw [if_pos rfl]
    exact gf_prg (hsh.1 rfl)
  rw [if_neg z]
  by_cases z : t = 2
  · subst z; rw [if_pos rfl]
    simp only [gm_fr, gu_l]
    refine ⟨?_, by omega, by omega, fun l hl hn => ?_, ?_, fun q hq hn => ?_, ?_, ?_, ?_⟩
    all_goals first | (simp [gm_av, hA]; done) | (simp_all [gm_np]; done) | (simp_all [gm_nq]; done) | (simp [gm_np] at *; omega) | skip
  rw [if_neg z]
  by_cases z : t = 3
  · subst z; rw [if_pos rfl]
    split
    · simp only [gm_fr, gu_l]
      refine ⟨hA, by omega, by omega, fun l hl hn => hx l hn, by simp, fun q hq hn => hx' q hn, by simp, by simp, by simp⟩
    · have hl3 : gm_lb lc S := by simpa [gm_lb] using hlb
      have H := gf_stm (K := K) (V := V) (n := n) (p := p) (x := (3, a, b, e, v)) (S := gi_B :: S) (cc := cc) (lc := lc) (fc := fc) (ac := ac) (fun l h => h.2.2) (fun l h => h.2) ⟨by simp, hA⟩ (by simpa [gm_lb] using hl3)
      refine gm_mono_stm H ?_
      intro p' S' lc' fc' o es lw aw fw H
      refine ⟨H.1, H.2.1, H.2.2.1, fun l hl hn => H.2.2.2.1 l hl ⟨by simp, by simp, ⟨by simp, by simp, hx l hn⟩⟩, fun y hy => ⟨(H.2.2.2.2.1 y hy).1, (H.2.2.2.2.1 y hy).2.1, fun z hz => (H.2.2.2.2.1 y hy).2.2 z ⟨by simp, by simp, ⟨by simp, by simp, hx _ hz⟩⟩⟩, fun q hq hn => H.2.2.2.2.2.1 q hq ⟨by simp, by simp, hx' q hn⟩, fun y hy => ⟨(H.2.2.2.2.2.2.1 y hy).1, fun hz => (H.2.2.2.2.2.2.1 y hy).2 ⟨by simp, by simp, hx' _ hz⟩⟩, H.2.2.2.2.2.2.2⟩
  rw [if_neg z]
  by_cases z : t = 4
  · subst z; rw [if_pos rfl]
    have hl3 : gm_lb lc S := by simpa [gm_lb] using hlb
    exact gf_stm hx hx' hA hl3
  rw [if_neg z]
  by_cases z : t = 5
  · subst z; rw [if_pos rfl]
    split
    · simp only [gm_fr, gu_l]
      exact ⟨hA, by omega, by omega, fun l hl hn => hx l hn, by simp, fun q hq hn => hx' q hn, by simp, by simp, by simp⟩
    · trivial
  rw [if_neg z]
  by_cases z : t = 6
  · subst z; rw [if_pos rfl]
    simp only [gm_fr, gu_l]
    exact ⟨⟨by simp, by simp, hA⟩, by omega, by omega, fun l hl hn => ⟨by simp, by simp, by simpa [gm_np] using hn⟩, by simp, fun q hq hn => ⟨by simp, by simp, hx' q hn⟩, by simp, by simp, by simp⟩
  rw [if_neg z]
  by_cases z : t = 7
  · subst z; rw [if_pos rfl]
    have h2 : a + 2 ≤ lc ∧ gm_lb a S := by simpa [gm_lb] using hlb
    split
    · simp only [gm_fr, gu_l]
      refine ⟨⟨by simp, by simp, hA⟩, by omega, by omega, fun l hl hn => ⟨by simp, by simp, by simp [gm_np] at hn ⊢; exact hn.2⟩, fun y hy => ?_, fun q hq hn => ⟨by simp, by simp, hx' q hn⟩, by simp, by simp, by simp⟩
      cases hy
      exact ⟨by dsimp only; omega, ⟨by simp, by simp, by simp [gm_np]; exact gm_lb_np h2.2 (Nat.le_refl _)⟩, fun _ hz => by simp [gm_np] at hz⟩
    · simp only [gm_fr, gu_l]
      refine ⟨hA, by omega, by omega, fun l hl hn => hx l hn, fun y hy => ?_, fun q hq hn => hx' q hn, by simp, by simp, by simp⟩
      cases hy
      exact ⟨by dsimp only; omega, gm_lb_np h2.2 (Nat.le_refl _), fun _ hz => by simp [gm_np] at hz⟩
  rw [if_neg z]
  by_cases z : t = 8
  · subst z; rw [if_pos rfl]
    have h2 : a + 2 ≤ lc ∧ gm_lb a S := by simpa [gm_lb] using hlb
    simp only [gm_fr, gu_l]
    refine ⟨hA, by omega, by omega, fun l hl hn => hx l hn, fun y hy => ?_, fun q hq hn => hx' q hn, by simp, by simp, by simp⟩
    cases hy
    exact ⟨by dsimp only; omega, gm_lb_np h2.2 (by dsimp only; omega), fun _ hz => by simp [gm_np] at hz⟩
  rw [if_neg z]
  by_cases z : t = 9
  · subst z; rw [if_pos rfl]
    simp only [gm_fr, gu_l]
    exact ⟨⟨by simp, by simp, hA⟩, by omega, by omega, fun l hl hn => ⟨by simp, by simp, by simpa [gm_np] using hn⟩, by simp, fun q hq hn => ⟨by simp, by simp, hx' q hn⟩, by simp, by simp, by simp⟩
  rw [if_neg z]
  by_cases z : t = 10
  · subst z; rw [if_pos rfl]
    have h2 : a + 2 ≤ lc ∧ gm_lb a S := by simpa [gm_lb] using hlb
    simp only [gm_fr, gu_l]
    refine ⟨hA, by omega, by omega, fun l hl hn => hx l hn, fun y hy => ?_, fun q hq hn => hx' q hn, by simp, by simp, by simp⟩
    cases hy
    exact ⟨by dsimp only; omega, gm_lb_np h2.2 (by dsimp only; omega), fun _ hz => by simp [gm_np] at hz⟩
  rw [if_neg z]
  by_cases z : t = 11 ∨ t = 19 ∨ t = 20
  · rw [if_pos z]
    simp only [gm_fr, gu_l]
    exact ⟨hA, by omega, by omega, fun l hl hn => hx l hn, by simp, fun q hq hn => hx' q hn, by simp, by simp, by simp⟩
  rw [if_neg z]
  by_cases z : t = 12
  · subst z; rw [if_pos rfl]
    have H := gf_una (K := K) (V := V) (n := n) (p := p) (x := gi_R a) (S := gi_R a :: S) (lc := lc) (fc := fc) (ac := ac) (fun l h => h.2.2) (fun l h => h.2) ⟨by simp, hA⟩
    refine gm_mono_una H ?_
    intro p' S' lc' fc' o es lw aw fw H
    refine ⟨H.1, H.2.1, H.2.2.1, fun l hl hn => H.2.2.2.1 l hl ⟨by simp, by simp, ⟨by simp, by simp, hx l hn⟩⟩, fun y hy => ⟨(H.2.2.2.2.1 y hy).1, (H.2.2.2.2.1 y hy).2.1, fun z hz => (H.2.2.2.2.1 y hy).2.2 z ⟨by simp, by simp, ⟨by simp, by simp, hx _ hz⟩⟩⟩, fun q hq hn => H.2.2.2.2.2.1 q hq ⟨by simp, by simp, hx' q hn⟩, fun y hy => ⟨(H.2.2.2.2.2.2.1 y hy).1, fun hz => (H.2.2.2.2.2.2.1 y hy).2 ⟨by simp, by simp, hx' _ hz⟩⟩, H.2.2.2.2.2.2.2⟩
  rw [if_neg z]
  by_cases z : t = 13
  · subst z; rw [if_pos rfl]
    exact gf_bin hx hx' hA
  rw [if_neg z]
  by_cases z : t = 14
  · subst z; rw [if_pos rfl]
    exact gf_una hx hx' hA
  rw [if_neg z]
  by_cases z : t = 15
  · subst z; rw [if_pos rfl]
    have h2 : a + 2 ≤ lc ∧ gm_lb a S := by simpa [gm_lb] using hlb
    simp only [gm_fr, gu_l]
    refine ⟨hA, by omega, by omega, fun l hl hn => hx l hn, fun y hy => ?_, fun q hq hn => hx' q hn, by simp, by simp, by simp⟩
    cases hy
    exact ⟨by dsimp only; omega, gm_lb_np h2.2 (by dsimp only; omega), fun _ hz => by simp [gm_np] at hz⟩
  rw [if_neg z]
  by_cases z : t = 16
  · subst z; rw [if_pos rfl]
    have h2 : a < p ∧ gm_pl a S := by simpa [gm_pl] using hpl
    split
    · simp only [gm_fr, gu_l]
      refine ⟨gm_av_up h2.2 (Nat.le_refl _) hA, by omega, by omega, fun l hl hn => hx l hn, by simp, fun q hq hn => hx' q hn, fun y hy => ?_, by simp, by simp⟩
      cases hy
      exact ⟨h2.1, fun hz => by simp [gm_nq] at hz⟩
    · simp only [gm_fr, gu_l]
      refine ⟨⟨by simp, fun _ => pk_us, gm_av_up h2.2 (Nat.le_refl _) hA⟩, by omega, by omega, fun l hl hn => ⟨by simp, by simp, ⟨by simp, by simp, hx l hn⟩⟩, by simp, fun q hq hn => ⟨by simp, by simpa [gm_nq] using hn⟩, fun y hy => ?_, by simp, by simp⟩
      cases hy
      exact ⟨h2.1, fun hz => by simp [gm_nq] at hz⟩
  rw [if_neg z]
  by_cases z : t = 17
  · subst z; rw [if_pos rfl]
    have h2 : a < p ∧ gm_pl a S := by simpa [gm_pl] using hpl
    repeat' split
    · simp only [gm_fr, gu_l]
      exact ⟨hA, by omega, by omega, fun l hl hn => hx l hn, by simp, fun q hq hn => hx' q hn, by simp, by simp, by simp⟩
    · simp only [gm_fr, gu_l]
      refine ⟨⟨by simp, fun _ => pk_us, gm_av_up h2.2 (Nat.le_refl _) hA⟩, by omega, by omega, fun l hl hn => ⟨by simp, by simp, ⟨by simp, by simp, hx l hn⟩⟩, by simp, fun q hq hn => ⟨by simp, by simpa [gm_nq] using hn⟩, fun y hy => ?_, by simp, by simp⟩
      cases hy
      exact ⟨h2.1, fun hz => by simp [gm_nq] at hz⟩
    · trivial
  rw [if_neg z]
  by_cases z : t = 18
  · subst z; rw [if_pos rfl]
    simp only [gm_fr, gu_l]
    exact ⟨hA, by omega, by omega, fun l hl hn => hx l hn, by simp, fun q hq hn => hx' q hn, by simp, by simp, by simp⟩
  rw [if_neg z]
  trivial
