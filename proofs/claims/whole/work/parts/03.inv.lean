/-! weights and invariants of G -/
def gm_sm (w : gm_I → Nat) : List gm_I → Nat
  | [] => 0
  | x :: S => w x + gm_sm w S
def gw_e (x : gm_I) : Nat := if x.1 = 2 then 2 else if x.1 = 6 then 2 else if x.1 = 7 then 1 else if x.1 = 9 then 2 else if x.1 = 10 then 1 else if x.1 = 11 then 1 else if x.1 = 19 then 1 else if x.1 = 20 then 1 else if x.1 = 15 then 1 else if x.1 = 18 then 3 else 0
def gw_p (x : gm_I) : Nat := if x.1 = 2 then 2 else if x.1 = 3 then 2 else if x.1 = 6 then 3 else if x.1 = 9 then 3 else if x.1 = 12 then 2 else if x.1 = 15 then 2 else if x.1 = 16 then 3 else if x.1 = 18 then 3 else 1
def gw_m (x : gm_I) : Nat := if x.1 = 3 then 0 else if x.1 = 4 then 0 else if x.1 = 5 then 0 else if x.1 = 6 then 2 else if x.1 = 9 then 2 else if x.1 = 14 then 0 else if x.1 = 16 then 2 else if x.1 = 17 then 0 else 1
def gw_c (x : gm_I) : Nat := if x.1 = 1 then 0 else if x.1 = 3 then 0 else if x.1 = 4 then 0 else if x.1 = 5 then 0 else if x.1 = 6 then 2 else if x.1 = 9 then 2 else if x.1 = 14 then 0 else if x.1 = 17 then 0 else 1
def gw_r (x : gm_I) : Nat := if x.1 = 3 then 1 else if x.1 = 4 then 1 else if x.1 = 5 then 1 else if x.1 = 6 then 1 else if x.1 = 9 then 1 else if x.1 = 12 then 1 else if x.1 = 14 then 1 else if x.1 = 16 then 1 else if x.1 = 17 then 1 else 0
def gw_a (x : gm_I) : Nat := if x.1 = 19 then 2 else if x.1 = 20 then 4 else if x.1 = 6 then 2 else if x.1 = 9 then 2 else if x.1 = 17 then 2 * x.2.2.1 else 0
def gw_b (x : gm_I) : Nat := if x.1 = 12 then 1 else if x.1 = 14 then 1 else if x.1 = 16 then 1 else if x.1 = 17 then 2 else 0
def gm_tb : List gm_I → Nat
  | [] => 0
  | x :: _ => if x.1 = 3 then 1 else if x.1 = 4 then 1 else if x.1 = 13 then 1 else 0
theorem gm_tb_n : gm_tb [] = 0 := rfl
theorem gm_tb_c (x : gm_I) (S : List gm_I) : gm_tb (x :: S) = if x.1 = 3 then 1 else if x.1 = 4 then 1 else if x.1 = 13 then 1 else 0 := rfl
theorem gm_tb1 (S : List gm_I) : gm_tb S ≤ 1 := by
  cases S with
  | nil => simp [gm_tb]
  | cons x S => simp only [gm_tb]; repeat' split
                all_goals omega
theorem gm_tk_lt {K : Nat → Int32} {n p : Nat} {k : Int32} (h : gm_tk K n p = k) (hk : ¬ (-1 : Int32) = k) : p < n := by
  unfold gm_tk at h
  split at h
  · assumption
  · exact absurd h hk
theorem gm_tk_K {K : Nat → Int32} {n p : Nat} (h : p < n) : gm_tk K n p = K p := if_pos h
def gm_lin (p : Nat) (S : List gm_I) (cc lc : Nat) : Prop :=
  cc + gm_sm gw_e S ≤ 3 * p ∧ lc ≤ 2 * p ∧ gm_sm gw_p S ≤ 4 * p + 1 ∧ gm_sm gw_c S + gm_tb S ≤ p ∧ gm_sm gw_a S ≤ p + gm_sm gw_b S
/-- what a step does to the weights: lin again, the measure falls (by m), the need doesn't -/
def gm_lc (n p m r cc : Nat) : gm_K Prop := fun p' S' lc' _ _ es _ _ _ =>
  gm_lin p' S' (cc + es.length) lc' ∧ p ≤ p' ∧ p' ≤ n ∧ gm_sm gw_m S' + 3 * (n - p') < m + 3 * (n - p) ∧ p + r ≤ p' + gm_sm gw_r S'
theorem gl_stm {K V : Nat → Int32} {n p : Nat} {S : List gm_I} {cc lc fc : Nat} (h1 : cc + gm_sm gw_e S ≤ 3 * p) (h2 : lc ≤ 2 * p) (h3 : gm_sm gw_p S ≤ 4 * p + 1)
    (h4 : gm_sm gw_c S + 1 ≤ p) (h5 : gm_sm gw_a S ≤ p + gm_sm gw_b S) :
    gm_stm K V n (fun _ _ => True) (gm_lc n p (gm_sm gw_m S) (1 + gm_sm gw_r S) cc) p S cc lc fc := by
  unfold gm_stm
  repeat' split
  all_goals try trivial
  all_goals try (cases hO : gm_opn S)
  all_goals
    have hp := gm_tk_lt (by assumption : gm_tk K n p = _) (by decide)
    try have hq := gm_tk_lt (by assumption : gm_tk K n (p + 1) = _) (by decide)
    simp [gm_brk, gm_lc, gm_lin, gm_sm, gw_e, gw_p, gw_m, gw_c, gw_r, gw_a, gw_b, gm_tb_c, gm_tb_n]
    omega
theorem gl_una {K V : Nat → Int32} {n p : Nat} {S : List gm_I} {cc lc fc : Nat} (h1 : cc + gm_sm gw_e S ≤ 3 * p) (h2 : lc ≤ 2 * p) (h3 : gm_sm gw_p S + 1 ≤ 4 * p + 1)
    (h4 : gm_sm gw_c S ≤ p) (h5 : gm_sm gw_a S ≤ p + 1 + gm_sm gw_b S) :
    gm_una K V n (fun _ _ => True) (gm_lc n p (gm_sm gw_m S) (1 + gm_sm gw_r S) cc) p S lc fc := by
  have ht := gm_tb1 S
  unfold gm_una
  repeat' split
  all_goals try trivial
  all_goals
    have hp := gm_tk_lt (by assumption : gm_tk K n p = _) (by decide)
    try have hq := gm_tk_lt (by assumption : gm_tk K n (p + 1) = _) (by decide)
    simp [gm_lc, gm_lin, gm_sm, gw_e, gw_p, gw_m, gw_c, gw_r, gw_a, gw_b, gm_tb_c, gm_tb_n]
    omega
theorem gm_str0 : gm_str (-1) = 0 := by decide
theorem gl_bin {K : Nat → Int32} {n p w : Nat} {S : List gm_I} {cc lc fc : Nat} (hw : 1 ≤ w) (hn : p ≤ n) (h1 : cc + gm_sm gw_e S ≤ 3 * p) (h2 : lc ≤ 2 * p) (h3 : gm_sm gw_p S + 1 ≤ 4 * p + 1)
    (h4 : gm_sm gw_c S + 2 ≤ p) (h5 : gm_sm gw_a S ≤ p + gm_sm gw_b S) :
    gm_bin K n (gm_lc n p (gm_sm gw_m S + 1) (gm_sm gw_r S) cc) p w S lc fc := by
  have ht := gm_tb1 S
  unfold gm_bin
  split
  · simp [gm_lc, gm_lin, gm_sm, gw_e, gw_p, gw_m, gw_c, gw_r, gw_a, gw_b, gm_tb_c, gm_tb_n]
    omega
  · rename_i hs
    have hp : p < n := by
      by_cases z : p < n
      · exact z
      · rw [show gm_tk K n p = -1 from if_neg z, gm_str0] at hs
        omega
    repeat' split
    all_goals
      simp [gm_lc, gm_lin, gm_sm, gw_e, gw_p, gw_m, gw_c, gw_r, gw_a, gw_b, gm_tb_c, gm_tb_n]
      omega
theorem gl_prg {K V : Nat → Int32} {n p : Nat} {S : List gm_I} {cc lc fc : Nat} (hn : p ≤ n) (h1 : cc + gm_sm gw_e S ≤ 3 * p) (h2 : lc ≤ 2 * p) (h3 : gm_sm gw_p S + 1 ≤ 4 * p + 1)
    (h4 : gm_sm gw_c S ≤ p) (h5 : gm_sm gw_a S ≤ p + gm_sm gw_b S) (h0 : S = []) :
    gm_prg K V n (fun _ _ => True) (gm_lc n p (gm_sm gw_m S + 1) (gm_sm gw_r S) cc) p S lc fc := by
  subst h0
  unfold gm_prg
  repeat' split
  all_goals try trivial
  · simp [gm_lc, gm_lin, gm_sm, gw_e, gw_p, gw_m, gw_c, gw_r, gw_a, gw_b, gm_tb_c, gm_tb_n] at *
    omega
  · rename_i ha hb hc
    have hp := gm_tk_lt hc (by decide)
    simp [gm_lc, gm_lin, gm_sm, gw_e, gw_p, gw_m, gw_c, gw_r, gw_a, gw_b, gm_tb_c, gm_tb_n] at *
    omega
theorem gm_mono_stm {K V : Nat → Int32} {n : Nat} {C C' : gm_K Prop} {p : Nat} {S : List gm_I} {cc lc fc : Nat}
    (h : gm_stm K V n (fun _ _ => True) C p S cc lc fc) (hC : ∀ p S lc fc o es lw aw fw, C p S lc fc o es lw aw fw → C' p S lc fc o es lw aw fw) : gm_stm K V n (fun _ _ => True) C' p S cc lc fc :=
  gm_mono (E := fun _ _ => True) (x := gi_S) h (fun _ _ _ => trivial) hC
theorem gm_mono_una {K V : Nat → Int32} {n : Nat} {C C' : gm_K Prop} {p : Nat} {S : List gm_I} {lc fc : Nat}
    (h : gm_una K V n (fun _ _ => True) C p S lc fc) (hC : ∀ p S lc fc o es lw aw fw, C p S lc fc o es lw aw fw → C' p S lc fc o es lw aw fw) : gm_una K V n (fun _ _ => True) C' p S lc fc :=
  gm_mono (E := fun _ _ => True) (x := gi_N) (cc := 0) h (fun _ _ _ => trivial) hC
theorem gm_tk_lt' {K : Nat → Int32} {n p k : Nat} (h : gm_tk K n p = nI k) (hk : k ≤ 41 := by omega) : p < n := by
  refine gm_tk_lt h (fun z => ?_)
  have := nI_pos' (n := k) (by omega)
  rw [← z] at this
  exact absurd this (by decide)
theorem gl_d {K V : Nat → Int32} {n p : Nat} {x : gm_I} {S : List gm_I} {cc lc fc : Nat} (hn : p ≤ n) (h : gm_lin p (x :: S) cc lc)
    (h0 : x.1 = 1 → S = []) (h5' : x.1 = 5 → x.2.1 ≤ 41) (h13 : x.1 = 13 → 1 ≤ x.2.1) (h17 : x.1 = 17 → 1 ≤ x.2.2.1) :
    gm_d K V n (fun _ _ => True) (gm_lc n p (gm_sm gw_m (x :: S)) (gm_sm gw_r (x :: S)) cc) p x S cc lc fc := by
  obtain ⟨h1, h2, h3, h4, h5⟩ := h
  obtain ⟨t, a, b, e, v⟩ := x
  have ht := gm_tb1 S
  unfold gm_d
  dsimp only at *
  by_cases z : t = 1
  · subst z; rw [if_pos rfl]
    simp [gm_sm, gw_e, gw_p, gw_m, gw_c, gw_r, gw_a, gw_b, gm_tb_c, gm_tb_n] at h1 h3 h4 h5
    have H := gl_prg (K := K) (V := V) (n := n) (p := p) (S := S) (cc := cc) (lc := lc) (fc := fc) hn (by omega) h2 (by omega) (by omega) (by omega) (h0 rfl)
    simpa [gm_sm, gw_m, gw_r, Nat.add_comm] using H
  rw [if_neg z]
  by_cases z : t = 2
  · subst z; rw [if_pos rfl]
    simp [gm_lc, gm_lin, gm_sm, gw_e, gw_p, gw_m, gw_c, gw_r, gw_a, gw_b, gm_tb_c, gm_tb_n] at *
    omega
  rw [if_neg z]
  by_cases z : t = 3
  · subst z; rw [if_pos rfl]
    split
    · rename_i z1; have hp := gm_tk_lt z1 (by decide)
      simp [gm_lc, gm_lin, gm_sm, gw_e, gw_p, gw_m, gw_c, gw_r, gw_a, gw_b, gm_tb_c, gm_tb_n] at *
      omega
    · simp [gm_sm, gw_e, gw_p, gw_m, gw_c, gw_r, gw_a, gw_b, gm_tb_c, gm_tb_n] at h1 h3 h4 h5
      have H := gl_stm (K := K) (V := V) (n := n) (p := p) (S := gi_B :: S) (cc := cc) (lc := lc) (fc := fc) (by simp [gm_sm, gw_e]; omega) h2 (by simp [gm_sm, gw_p]; omega) (by simp [gm_sm, gw_c]; omega) (by simp [gm_sm, gw_a, gw_b]; omega)
      refine gm_mono_stm H ?_
      intro p' S' lc' fc' o es lw aw fw H
      simp [gm_lc, gm_lin, gm_sm, gw_e, gw_p, gw_m, gw_c, gw_r, gw_a, gw_b, gm_tb_c, gm_tb_n] at *
      omega
  rw [if_neg z]
  by_cases z : t = 4
  · subst z; rw [if_pos rfl]
    simp [gm_sm, gw_e, gw_p, gw_m, gw_c, gw_r, gw_a, gw_b, gm_tb_c, gm_tb_n] at h1 h3 h4 h5
    have H := gl_stm (K := K) (V := V) (n := n) (p := p) (S := S) (cc := cc) (lc := lc) (fc := fc) (by omega) h2 (by omega) (by omega) (by omega)
    refine gm_mono_stm H ?_
    intro p' S' lc' fc' o es lw aw fw H
    simp [gm_lc, gm_lin, gm_sm, gw_e, gw_p, gw_m, gw_c, gw_r, gw_a, gw_b, gm_tb_c, gm_tb_n] at *
    omega
  rw [if_neg z]
  by_cases z : t = 5
  · subst z; rw [if_pos rfl]
    split
    · rename_i z1; have hp := gm_tk_lt' z1 (h5' rfl)
      simp [gm_lc, gm_lin, gm_sm, gw_e, gw_p, gw_m, gw_c, gw_r, gw_a, gw_b, gm_tb_c, gm_tb_n] at *
      omega
    · trivial
  rw [if_neg z]
  by_cases z : t = 6
  · subst z; rw [if_pos rfl]
    simp [gm_lc, gm_lin, gm_sm, gw_e, gw_p, gw_m, gw_c, gw_r, gw_a, gw_b, gm_tb_c, gm_tb_n] at *
    omega
  rw [if_neg z]
  by_cases z : t = 7
  · subst z; rw [if_pos rfl]
    split
    · rename_i z1; have hp := gm_tk_lt z1 (by decide)
      simp [gm_lc, gm_lin, gm_sm, gw_e, gw_p, gw_m, gw_c, gw_r, gw_a, gw_b, gm_tb_c, gm_tb_n] at *
      omega
    · simp [gm_lc, gm_lin, gm_sm, gw_e, gw_p, gw_m, gw_c, gw_r, gw_a, gw_b, gm_tb_c, gm_tb_n] at *
      omega
  rw [if_neg z]
  by_cases z : t = 8
  · subst z; rw [if_pos rfl]
    simp [gm_lc, gm_lin, gm_sm, gw_e, gw_p, gw_m, gw_c, gw_r, gw_a, gw_b, gm_tb_c, gm_tb_n] at *
    omega
  rw [if_neg z]
  by_cases z : t = 9
  · subst z; rw [if_pos rfl]
    simp [gm_lc, gm_lin, gm_sm, gw_e, gw_p, gw_m, gw_c, gw_r, gw_a, gw_b, gm_tb_c, gm_tb_n] at *
    omega
  rw [if_neg z]
  by_cases z : t = 10
  · subst z; rw [if_pos rfl]
    simp [gm_lc, gm_lin, gm_sm, gw_e, gw_p, gw_m, gw_c, gw_r, gw_a, gw_b, gm_tb_c, gm_tb_n] at *
    omega
  rw [if_neg z]
  by_cases z : t = 11 ∨ t = 19 ∨ t = 20
  · rw [if_pos z]
    rcases z with z | z | z <;> subst z <;> simp [gm_lc, gm_lin, gm_sm, gw_e, gw_p, gw_m, gw_c, gw_r, gw_a, gw_b, gm_tb_c, gm_tb_n] at * <;> omega
  rw [if_neg z]
  by_cases z : t = 12
  · subst z; rw [if_pos rfl]
    simp [gm_sm, gw_e, gw_p, gw_m, gw_c, gw_r, gw_a, gw_b, gm_tb_c, gm_tb_n] at h1 h3 h4 h5
    have H := gl_una (K := K) (V := V) (n := n) (p := p) (S := gi_R a :: S) (cc := cc) (lc := lc) (fc := fc) (by simp [gm_sm, gw_e]; omega) h2 (by simp [gm_sm, gw_p]; omega) (by simp [gm_sm, gw_c]; omega) (by simp [gm_sm, gw_a, gw_b]; omega)
    refine gm_mono_una H ?_
    intro p' S' lc' fc' o es lw aw fw H
    simp [gm_lc, gm_lin, gm_sm, gw_e, gw_p, gw_m, gw_c, gw_r, gw_a, gw_b, gm_tb_c, gm_tb_n] at *
    omega
  rw [if_neg z]
  by_cases z : t = 13
  · subst z; rw [if_pos rfl]
    simp [gm_sm, gw_e, gw_p, gw_m, gw_c, gw_r, gw_a, gw_b, gm_tb_c, gm_tb_n] at h1 h3 h4 h5
    have H := gl_bin (K := K) (n := n) (p := p) (w := a) (S := S) (cc := cc) (lc := lc) (fc := fc) (h13 rfl) hn (by omega) h2 (by omega) (by omega) (by omega)
    simpa [gm_sm, gw_m, gw_r, Nat.add_comm] using H
  rw [if_neg z]
  by_cases z : t = 14
  · subst z; rw [if_pos rfl]
    simp [gm_sm, gw_e, gw_p, gw_m, gw_c, gw_r, gw_a, gw_b, gm_tb_c, gm_tb_n] at h1 h3 h4 h5
    have H := gl_una (K := K) (V := V) (n := n) (p := p) (S := S) (cc := cc) (lc := lc) (fc := fc) (by omega) h2 (by omega) (by omega) (by omega)
    refine gm_mono_una H ?_
    intro p' S' lc' fc' o es lw aw fw H
    simp [gm_lc, gm_lin, gm_sm, gw_e, gw_p, gw_m, gw_c, gw_r, gw_a, gw_b, gm_tb_c, gm_tb_n] at *
    omega
  rw [if_neg z]
  by_cases z : t = 15
  · subst z; rw [if_pos rfl]
    simp [gm_lc, gm_lin, gm_sm, gw_e, gw_p, gw_m, gw_c, gw_r, gw_a, gw_b, gm_tb_c, gm_tb_n] at *
    omega
  rw [if_neg z]
  by_cases z : t = 16
  · subst z; rw [if_pos rfl]
    split
    · rename_i z1; have hp := gm_tk_lt z1 (by decide)
      simp [gm_lc, gm_lin, gm_sm, gw_e, gw_p, gw_m, gw_c, gw_r, gw_a, gw_b, gm_tb_c, gm_tb_n] at *
      omega
    · simp [gm_lc, gm_lin, gm_sm, gw_e, gw_p, gw_m, gw_c, gw_r, gw_a, gw_b, gm_tb_c, gm_tb_n] at *
      omega
  rw [if_neg z]
  by_cases z : t = 17
  · subst z; rw [if_pos rfl]
    have h17 := h17 rfl
    split
    · rename_i z1; have hp := gm_tk_lt z1 (by decide)
      simp [gm_lc, gm_lin, gm_sm, gw_e, gw_p, gw_m, gw_c, gw_r, gw_a, gw_b, gm_tb_c, gm_tb_n] at *
      omega
    · split
      · rename_i z1; have hp := gm_tk_lt z1 (by decide)
        simp [gm_lc, gm_lin, gm_sm, gw_e, gw_p, gw_m, gw_c, gw_r, gw_a, gw_b, gm_tb_c, gm_tb_n] at *
        omega
      · trivial
  rw [if_neg z]
  by_cases z : t = 18
  · subst z; rw [if_pos rfl]
    simp [gm_lc, gm_lin, gm_sm, gw_e, gw_p, gw_m, gw_c, gw_r, gw_a, gw_b, gm_tb_c, gm_tb_n] at *
    omega
  rw [if_neg z]
  trivial
