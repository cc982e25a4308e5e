/-! the functions of a certificate -/
def gm_fq (lc fc : Nat) (S : List gm_I) : gm_K Prop := fun _ S' lc' fc' _ es _ _ fw => (fw = none → fc' = fc) ∧ ∀ v, fw = some v → fc' = fc + 1 ∧ S' = gi_B :: gi_F :: gi_P :: S ∧ es = [] ∧ lc' = lc ∧ 0 ≤ v ∧ v ≤ 3
theorem gq_stm {K V : Nat → Int32} {n p : Nat} {S R : List gm_I} {cc lc fc : Nat} : gm_stm K V n (fun _ _ => True) (gm_fq lc fc R) p S cc lc fc := by
  unfold gm_stm
  repeat' split
  all_goals try trivial
  all_goals try (cases hO : gm_opn S)
  all_goals simp [gm_brk, gm_fq]
theorem gq_una {K V : Nat → Int32} {n p : Nat} {S R : List gm_I} {lc fc : Nat} : gm_una K V n (fun _ _ => True) (gm_fq lc fc R) p S lc fc := by
  unfold gm_una
  repeat' split
  all_goals try trivial
  all_goals simp [gm_fq]
theorem gq_bin {K : Nat → Int32} {n p w : Nat} {S R : List gm_I} {lc fc : Nat} : gm_bin K n (gm_fq lc fc R) p w S lc fc := by
  unfold gm_bin
  repeat' split
  all_goals simp [gm_fq]
theorem gq_prg {K V : Nat → Int32} {n p : Nat} {S : List gm_I} {lc fc : Nat} : gm_prg K V n (fun _ _ => True) (gm_fq lc fc S) p S lc fc := by
  unfold gm_prg
  repeat' split
  all_goals try trivial
  · simp [gm_fq]
  · rename_i h _
    simp [gm_fq]
    exact h.2
theorem gq_d {K V : Nat → Int32} {n p : Nat} {x : gm_I} {S : List gm_I} {cc lc fc : Nat} : gm_d K V n (fun _ _ => True) (gm_fq lc fc S) p x S cc lc fc := by
  obtain ⟨t, a, b, e, v⟩ := x
  unfold gm_d
  dsimp only at *
  by_cases z : t = 1
  · subst z; rw [if_pos rfl]
    exact gq_prg
  rw [if_neg z]
  by_cases z : t = 2
  · subst z; rw [if_pos rfl]
    repeat' split
    all_goals first | trivial | simp [gm_fq]
  rw [if_neg z]
  by_cases z : t = 3
  · subst z; rw [if_pos rfl]
    split
    · simp [gm_fq]
    · exact gq_stm
  rw [if_neg z]
  by_cases z : t = 4
  · subst z; rw [if_pos rfl]
    exact gq_stm
  rw [if_neg z]
  by_cases z : t = 5
  · subst z; rw [if_pos rfl]
    repeat' split
    all_goals first | trivial | simp [gm_fq]
  rw [if_neg z]
  by_cases z : t = 6
  · subst z; rw [if_pos rfl]
    repeat' split
    all_goals first | trivial | simp [gm_fq]
  rw [if_neg z]
  by_cases z : t = 7
  · subst z; rw [if_pos rfl]
    repeat' split
    all_goals first | trivial | simp [gm_fq]
  rw [if_neg z]
  by_cases z : t = 8
  · subst z; rw [if_pos rfl]
    repeat' split
    all_goals first | trivial | simp [gm_fq]
  rw [if_neg z]
  by_cases z : t = 9
  · subst z; rw [if_pos rfl]
    repeat' split
    all_goals first | trivial | simp [gm_fq]
  rw [if_neg z]
  by_cases z : t = 10
  · subst z; rw [if_pos rfl]
    repeat' split
    all_goals first | trivial | simp [gm_fq]
  rw [if_neg z]
  by_cases z : t = 11 ∨ t = 19 ∨ t = 20
  · rw [if_pos z]; simp [gm_fq]
  rw [if_neg z]
  by_cases z : t = 12
  · subst z; rw [if_pos rfl]
    exact gq_una
  rw [if_neg z]
  by_cases z : t = 13
  · subst z; rw [if_pos rfl]
    exact gq_bin
  rw [if_neg z]
  by_cases z : t = 14
  · subst z; rw [if_pos rfl]
    exact gq_una
  rw [if_neg z]
  by_cases z : t = 15
  · subst z; rw [if_pos rfl]
    repeat' split
    all_goals first | trivial | simp [gm_fq]
  rw [if_neg z]
  by_cases z : t = 16
  · subst z; rw [if_pos rfl]
    repeat' split
    all_goals first | trivial | simp [gm_fq]
  rw [if_neg z]
  by_cases z : t = 17
  · subst z; rw [if_pos rfl]
    repeat' split
    all_goals first | trivial | simp [gm_fq]
  rw [if_neg z]
  by_cases z : t = 18
  · subst z; rw [if_pos rfl]
    repeat' split
    all_goals first | trivial | simp [gm_fq]
  rw [if_neg z]
  trivial
theorem gm_ok_inv {K V : Nat → Int32} {n : Nat} {F : gm_A} {NF m p : Nat} {S : List gm_I} {cc lc fc : Nat} (h : gm_ok K V n F NF m p S cc lc fc) : gm_inv K V n p S cc lc fc := by
  cases m with
  | zero => exact h.elim
  | succ m => cases S with
    | nil => exact h.1
    | cons x S => exact h.1
theorem gm_fun {K V : Nat → Int32} {n : Nat} {F : gm_A} {NF f : Nat} (hf : f < NF) : ∀ (m p : Nat) (S : List gm_I) (cc lc fc : Nat), gm_ok K V n F NF m p S cc lc fc → fc ≤ f →
    ∃ m' p' cc' lc' v, m' < m ∧ gm_ok K V n F NF m' p' [gi_B, gi_F, gi_P] cc' lc' (f + 1) ∧ F.2.2.2.2.2.2.2 f = nI p' ∧ F.2.2.2.2.2.1 f = nI cc' ∧ F.2.2.2.2.2.2.1 f = v ∧ 0 ≤ v ∧ v ≤ 3 := by
  intro m
  induction m with
  | zero => intro p S cc lc fc h; exact h.elim
  | succ m ih =>
    intro p S cc lc fc h hfc
    cases S with
    | nil => have := h.2; omega
    | cons x S =>
      obtain ⟨hI, _, h⟩ := h
      refine gm_out (gm_and h (gq_d (S := S)) (fun _ _ a _ => a) (fun p' S' lc' fc' b es lw aw fw a c => ?_))
      obtain ⟨_, hu, hok⟩ := a
      obtain ⟨c1, c2⟩ := c
      by_cases hle : fc' ≤ f
      · obtain ⟨m', p1, cc1, lc1, v, h1, h2⟩ := ih _ _ _ _ _ hok hle
        exact ⟨m', p1, cc1, lc1, v, by omega, h2⟩
      · cases fw with
        | none => have := c1 rfl; omega
        | some v =>
          obtain ⟨d1, d2, d3, d4, d5, d6⟩ := c2 v rfl
          have e : fc = f := by omega
          have hS : S = [] := by
            have := gm_ok_inv hok
            rw [d2] at this
            have h3 := this.2.2.1.2.2.2.2.1 rfl
            exact h3
          subst e hS d2 d3 d4 d1
          refine ⟨m, p', cc, lc', v, by omega, hok, ?_, ?_, ?_, d5, d6⟩
          · have := congrArg (fun z : gm_A => z.2.2.2.2.2.2.2 fc) hu
            simp only [gm_up, gu_s, pk_us] at this
            exact this.symm
          · have := congrArg (fun z : gm_A => z.2.2.2.2.2.1 fc) hu
            simp only [gm_up, gu_s, pk_us] at this
            exact this.symm
          · have := congrArg (fun z : gm_A => z.2.2.2.2.2.2.1 fc) hu
            simp only [gm_up, gu_f, pk_us] at this
            exact this.symm
/-! where an error is told -/
theorem ge_stm {K V : Nat → Int32} {n p : Nat} {S : List gm_I} {cc lc fc : Nat} : gm_stm K V n (fun e _ => e ≤ p + 2) (fun _ _ _ _ _ _ _ _ _ => True) p S cc lc fc := by
  unfold gm_stm
  repeat' split
  all_goals first | trivial | omega | (cases gm_opn S <;> trivial)
theorem ge_una {K V : Nat → Int32} {n p : Nat} {S : List gm_I} {lc fc : Nat} : gm_una K V n (fun e _ => e ≤ p + 2) (fun _ _ _ _ _ _ _ _ _ => True) p S lc fc := by
  unfold gm_una
  repeat' split
  all_goals first | trivial | omega
theorem ge_prg {K V : Nat → Int32} {n p : Nat} {S : List gm_I} {lc fc : Nat} : gm_prg K V n (fun e _ => e ≤ p + 2) (fun _ _ _ _ _ _ _ _ _ => True) p S lc fc := by
  unfold gm_prg
  repeat' split
  all_goals first | trivial | omega
theorem ge_bin {K : Nat → Int32} {n p w : Nat} {S : List gm_I} {lc fc : Nat} : gm_bin K n (fun _ _ _ _ _ _ _ _ _ => True) p w S lc fc := by
  unfold gm_bin
  repeat' split
  all_goals trivial
theorem ge_d {K V : Nat → Int32} {n p : Nat} {x : gm_I} {S : List gm_I} {cc lc fc : Nat} : gm_d K V n (fun e _ => e ≤ p + 2) (fun _ _ _ _ _ _ _ _ _ => True) p x S cc lc fc := by
  obtain ⟨t, a, b, e, v⟩ := x
  unfold gm_d
  dsimp only at *
  by_cases z : t = 1
  · subst z; rw [if_pos rfl]
    exact ge_prg
  rw [if_neg z]
  by_cases z : t = 2
  · subst z; rw [if_pos rfl]
    repeat' split
    all_goals first | trivial | omega
  rw [if_neg z]
  by_cases z : t = 3
  · subst z; rw [if_pos rfl]
    split
    · trivial
    · exact ge_stm
  rw [if_neg z]
  by_cases z : t = 4
  · subst z; rw [if_pos rfl]
    exact ge_stm
  rw [if_neg z]
  by_cases z : t = 5
  · subst z; rw [if_pos rfl]
    repeat' split
    all_goals first | trivial | omega
  rw [if_neg z]
  by_cases z : t = 6
  · subst z; rw [if_pos rfl]
    repeat' split
    all_goals first | trivial | omega
  rw [if_neg z]
  by_cases z : t = 7
  · subst z; rw [if_pos rfl]
    repeat' split
    all_goals first | trivial | omega
  rw [if_neg z]
  by_cases z : t = 8
  · subst z; rw [if_pos rfl]
    repeat' split
    all_goals first | trivial | omega
  rw [if_neg z]
  by_cases z : t = 9
  · subst z; rw [if_pos rfl]
    repeat' split
    all_goals first | trivial | omega
  rw [if_neg z]
  by_cases z : t = 10
  · subst z; rw [if_pos rfl]
    repeat' split
    all_goals first | trivial | omega
  rw [if_neg z]
  by_cases z : t = 11 ∨ t = 19 ∨ t = 20
  · rw [if_pos z]; trivial
  rw [if_neg z]
  by_cases z : t = 12
  · subst z; rw [if_pos rfl]
    exact ge_una
  rw [if_neg z]
  by_cases z : t = 13
  · subst z; rw [if_pos rfl]
    exact ge_bin
  rw [if_neg z]
  by_cases z : t = 14
  · subst z; rw [if_pos rfl]
    exact ge_una
  rw [if_neg z]
  by_cases z : t = 15
  · subst z; rw [if_pos rfl]
    repeat' split
    all_goals first | trivial | omega
  rw [if_neg z]
  by_cases z : t = 16
  · subst z; rw [if_pos rfl]
    repeat' split
    all_goals first | trivial | omega
  rw [if_neg z]
  by_cases z : t = 17
  · subst z; rw [if_pos rfl]
    repeat' split
    all_goals first | trivial | omega
  rw [if_neg z]
  by_cases z : t = 18
  · subst z; rw [if_pos rfl]
    repeat' split
    all_goals first | trivial | omega
  rw [if_neg z]
  omega
