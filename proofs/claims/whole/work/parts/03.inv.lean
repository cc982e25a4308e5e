/-! weights and invariants of G -/
def gm_sm (w : gm_I → Nat) : List gm_I → Nat
  | [] => 0
  | x :: S => w x + gm_sm w S
def gw_e (x : gm_I) : Nat := if x.1 = 2 then 2 else if x.1 = 6 then 2 else if x.1 = 7 then 1 else if x.1 = 9 then 2 else if x.1 = 10 then 1 else if x.1 = 11 then 1 else if x.1 = 19 then 1 else if x.1 = 20 then 1 else if x.1 = 15 then 1 else if x.1 = 18 then 3 else 0
def gw_p (x : gm_I) : Nat := if x.1 = 2 then 2 else if x.1 = 3 then 2 else if x.1 = 6 then 3 else if x.1 = 9 then 3 else if x.1 = 12 then 2 else if x.1 = 15 then 2 else if x.1 = 16 then 3 else if x.1 = 18 then 3 else 1
def gw_m (x : gm_I) : Nat := if x.1 = 3 then 0 else if x.1 = 4 then 0 else if x.1 = 5 then 0 else if x.1 = 6 then 2 else if x.1 = 9 then 2 else if x.1 = 14 then 0 else if x.1 = 16 then 2 else if x.1 = 17 then 0 else 1
def gw_c (x : gm_I) : Nat := if x.1 = 1 then 0 else if x.1 = 3 then 0 else if x.1 = 4 then 0 else if x.1 = 5 then 0 else if x.1 = 6 then 2 else if x.1 = 9 then 2 else if x.1 = 14 then 0 else if x.1 = 17 then 0 else 1
def gw_r (x : gm_I) : Nat := if x.1 = 3 then 1 else if x.1 = 4 then 1 else if x.1 = 5 then 1 else if x.1 = 6 then 1 else if x.1 = 9 then 1 else if x.1 = 12 then 1 else if x.1 = 14 then 1 else if x.1 = 16 then 1 else if x.1 = 17 then 1 else 0
def gw_a (x : gm_I) : Nat := if x.1 = 19 then 2 else if x.1 = 20 then 4 else if x.1 = 6 then 2 else if x.1 = 9 then 2 else if x.1 = 17 then 2 * x.2.2.1 else 0
def gw_b (x : gm_I) : Nat := if x.1 = 12 then 1 else if x.1 = 14 then 1 else if x.1 = 16 then 1 else if x.1 = 17 then 2 else 0
def gm_tb : List gm_I → Nat
  | [] => 0
  | x :: _ => if x.1 = 3 then 1 else if x.1 = 4 then 1 else if x.1 = 13 then 1 else 0
theorem gm_tb1 (S : List gm_I) : gm_tb S ≤ 1 := by
  cases S with
  | nil => simp [gm_tb]
  | cons x S => simp only [gm_tb]; repeat' split
                all_goals omega
theorem gm_tk_lt {K : Nat → Int32} {n p : Nat} {k : Int32} (h : gm_tk K n p = k) (hk : ¬ (-1 : Int32) = k) : p < n := by
  unfold gm_tk at h
  split at h
  · assumption
  · exact absurd h hk
theorem gm_tk_K {K : Nat → Int32} {n p : Nat} (h : p < n) : gm_tk K n p = K p := if_pos h
def gm_lin (p : Nat) (S : List gm_I) (cc lc : Nat) : Prop :=
  cc + gm_sm gw_e S ≤ 3 * p ∧ lc ≤ 2 * p ∧ gm_sm gw_p S ≤ 4 * p + 1 ∧ gm_sm gw_c S + gm_tb S ≤ p ∧ gm_sm gw_a S ≤ p + gm_sm gw_b S
/-- what a step does to the weights: lin again, the measure falls (by m), the need doesn't -/
def gm_lc (n p m r cc : Nat) : gm_K Prop := fun p' S' lc' _ _ es _ _ _ =>
  gm_lin p' S' (cc + es.length) lc' ∧ p ≤ p' ∧ p' ≤ n ∧ gm_sm gw_m S' + 3 * (n - p') < m + 3 * (n - p) ∧ p + r ≤ p' + gm_sm gw_r S'
theorem gl_stm {K V : Nat → Int32} {n p : Nat} {S : List gm_I} {cc lc fc : Nat} (h1 : cc + gm_sm gw_e S ≤ 3 * p) (h2 : lc ≤ 2 * p) (h3 : gm_sm gw_p S ≤ 4 * p + 1)
    (h4 : gm_sm gw_c S + 1 ≤ p) (h5 : gm_sm gw_a S ≤ p + gm_sm gw_b S) :
    gm_stm K V n (fun _ _ => True) (gm_lc n p (gm_sm gw_m S) (1 + gm_sm gw_r S) cc) p S cc lc fc := by
  unfold gm_stm
  repeat' split
  all_goals try trivial
  all_goals try (cases hO : gm_opn S)
  all_goals
    have hp := gm_tk_lt (by assumption : gm_tk K n p = _) (by decide)
    try have hq := gm_tk_lt (by assumption : gm_tk K n (p + 1) = _) (by decide)
    simp [gm_brk, gm_lc, gm_lin, gm_sm, gw_e, gw_p, gw_m, gw_c, gw_r, gw_a, gw_b, gm_tb]
    omega
theorem gl_una {K V : Nat → Int32} {n p : Nat} {S : List gm_I} {cc lc fc : Nat} (h1 : cc + gm_sm gw_e S ≤ 3 * p) (h2 : lc ≤ 2 * p) (h3 : gm_sm gw_p S + 1 ≤ 4 * p + 1)
    (h4 : gm_sm gw_c S ≤ p) (h5 : gm_sm gw_a S ≤ p + 1 + gm_sm gw_b S) :
    gm_una K V n (fun _ _ => True) (gm_lc n p (gm_sm gw_m S) (1 + gm_sm gw_r S) cc) p S lc fc := by
  have ht := gm_tb1 S
  unfold gm_una
  repeat' split
  all_goals try trivial
  all_goals
    have hp := gm_tk_lt (by assumption : gm_tk K n p = _) (by decide)
    try have hq := gm_tk_lt (by assumption : gm_tk K n (p + 1) = _) (by decide)
    simp [gm_lc, gm_lin, gm_sm, gw_e, gw_p, gw_m, gw_c, gw_r, gw_a, gw_b, gm_tb]
    omega
theorem gm_str0 : gm_str (-1) = 0 := by decide
theorem gl_bin {K : Nat → Int32} {n p w : Nat} {S : List gm_I} {cc lc fc : Nat} (hw : 1 ≤ w) (hn : p ≤ n) (h1 : cc + gm_sm gw_e S ≤ 3 * p) (h2 : lc ≤ 2 * p) (h3 : gm_sm gw_p S + 1 ≤ 4 * p + 1)
    (h4 : gm_sm gw_c S + 2 ≤ p) (h5 : gm_sm gw_a S ≤ p + gm_sm gw_b S) :
    gm_bin K n (gm_lc n p (gm_sm gw_m S + 1) (gm_sm gw_r S) cc) p w S lc fc := by
  have ht := gm_tb1 S
  unfold gm_bin
  split
  · simp [gm_lc, gm_lin, gm_sm, gw_e, gw_p, gw_m, gw_c, gw_r, gw_a, gw_b, gm_tb]
    omega
  · rename_i hs
    have hp : p < n := by
      by_cases z : p < n
      · exact z
      · rw [show gm_tk K n p = -1 from if_neg z, gm_str0] at hs
        omega
    repeat' split
    all_goals
      simp [gm_lc, gm_lin, gm_sm, gw_e, gw_p, gw_m, gw_c, gw_r, gw_a, gw_b, gm_tb]
      omega
theorem gl_prg {K V : Nat → Int32} {n p : Nat} {S : List gm_I} {cc lc fc : Nat} (hn : p ≤ n) (h1 : cc + gm_sm gw_e S ≤ 3 * p) (h2 : lc ≤ 2 * p) (h3 : gm_sm gw_p S + 1 ≤ 4 * p + 1)
    (h4 : gm_sm gw_c S ≤ p) (h5 : gm_sm gw_a S ≤ p + gm_sm gw_b S) (h0 : S = []) :
    gm_prg K V n (fun _ _ => True) (gm_lc n p (gm_sm gw_m S + 1) (gm_sm gw_r S) cc) p S lc fc := by
  subst h0
  unfold gm_prg
  repeat' split
  all_goals try trivial
  · simp [gm_lc, gm_lin, gm_sm, gw_e, gw_p, gw_m, gw_c, gw_r, gw_a, gw_b, gm_tb] at *
    omega
  · rename_i ha hb hc
    have hp := gm_tk_lt hc (by decide)
    simp [gm_lc, gm_lin, gm_sm, gw_e, gw_p, gw_m, gw_c, gw_r, gw_a, gw_b, gm_tb] at *
    omega
theorem gl_d {K V : Nat → Int32} {n p : Nat} {x : gm_I} {S : List gm_I} {cc lc fc : Nat} (hn : p ≤ n) (h : gm_lin p (x :: S) cc lc)
    (h0 : x.1 = 1 → S = []) (h13 : x.1 = 13 → 1 ≤ x.2.1) (h17 : x.1 = 17 → 1 ≤ x.2.2.1) :
    gm_d K V n (fun _ _ => True) (gm_lc n p (gm_sm gw_m (x :: S)) (gm_sm gw_r (x :: S)) cc) p x S cc lc fc := by
  obtain ⟨h1, h2, h3, h4, h5⟩ := h
  have ht := gm_tb1 S
  unfold gm_d
  sorry
