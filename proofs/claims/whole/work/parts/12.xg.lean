/-! X, compile: the loop against G -/
def gm_f1 (x : gm_I) : List gm_M :=
  if x.1 = 1 then [(100, 0, 0)] else if x.1 = 2 then [(251, 0, 0), (239, 0, 0)] else if x.1 = 3 then [(102, 0, 0), (9, 0, 0)] else if x.1 = 4 then [(103, 0, 0)] else if x.1 = 5 then [(x.2.1, 0, 0)]
  else if x.1 = 6 then [(259, nI x.2.1, 0), (103, 0, 0), (104, nI x.2.1, 0)] else if x.1 = 7 then [(104, nI x.2.1, 0)] else if x.1 = 8 then [(111, nI (x.2.1 + 1), 0)]
  else if x.1 = 9 then [(259, nI (x.2.1 + 1), 0), (103, 0, 0), (105, nI x.2.1, 0)] else if x.1 = 10 then [(105, nI x.2.1, 0)] else if x.1 = 11 ∨ x.1 = 19 ∨ x.1 = 20 then [(200 + x.2.1, x.2.2.2.2, x.2.2.1)]
  else if x.1 = 12 then [(106, nI x.2.1, 0)] else if x.1 = 13 then [(107, nI x.2.1, 0)] else if x.1 = 14 then [(108, 0, 0)] else if x.1 = 15 then [(257, 0, x.2.2.1), (111, nI x.2.1, 0)]
  else if x.1 = 16 then [(109, 0, x.2.1)] else if x.1 = 17 then [(110, 0, x.2.1)] else [(262, 0, x.2.1), (263, 0, x.2.1), (264, x.2.2.2.2, 0)]
def gm_fl : List gm_I → List gm_M
  | [] => []
  | x :: S => gm_f1 x ++ gm_fl S
def gm_ol : List gm_I → List Nat
  | [] => []
  | x :: S => if x.1 = 9 then x.2.1 :: gm_ol S else if x.1 = 10 then x.2.1 :: gm_ol S else gm_ol S
theorem gm_f1_len {K V : Nat → Int32} {n p : Nat} (x : gm_I) (h : gm_vl K V n p x) : (gm_f1 x).length ≤ gw_p x := by
  obtain ⟨t, a, b, e, v⟩ := x
  unfold gm_vl at h
  have h1 : t ≤ 20 := by
    dsimp only at h
    repeat' split at h
    all_goals omega
  have h2 : 1 ≤ t := by
    dsimp only at h
    repeat' split at h
    all_goals omega
  unfold gm_f1 gw_p
  dsimp only
  have : t = 1 ∨ t = 2 ∨ t = 3 ∨ t = 4 ∨ t = 5 ∨ t = 6 ∨ t = 7 ∨ t = 8 ∨ t = 9 ∨ t = 10 ∨ t = 11 ∨ t = 12 ∨ t = 13 ∨ t = 14 ∨ t = 15 ∨ t = 16 ∨ t = 17 ∨ t = 18 ∨ t = 19 ∨ t = 20 := by omega
  rcases this with h | h | h | h | h | h | h | h | h | h | h | h | h | h | h | h | h | h | h | h <;> subst h <;> simp
theorem gm_fl_len {K V : Nat → Int32} {n p : Nat} : ∀ {S : List gm_I}, gm_va K V n p S → (gm_fl S).length ≤ gm_sm gw_p S
  | [], _ => Nat.le_refl _
  | x :: S, h => by
    have h1 := gm_f1_len x h.1
    have h2 := gm_fl_len h.2
    simp only [gm_fl, gm_sm, List.length_append]
    omega
theorem gm_ol_opn : ∀ {S : List gm_I}, gm_nw S → gm_ol S = gm_opn S
  | [], _ => rfl
  | x :: S, h => by
    have h1 := gm_ol_opn h.2
    unfold gm_ol gm_opn
    rw [if_neg h.1, h1]
theorem gm_ol_len : ∀ {S : List gm_I}, (gm_ol S).length ≤ gm_sm gw_c S
  | [] => Nat.le_refl _
  | x :: S => by
    have h1 := gm_ol_len (S := S)
    unfold gm_ol
    simp only [gm_sm]
    split
    · rename_i h; simp only [List.length_cons, gw_c, h]; simp; omega
    · split
      · rename_i h; simp only [List.length_cons, gw_c, h]; simp; omega
      · omega
theorem gm_mo_stm {K V : Nat → Int32} {n : Nat} {E E' : Nat → Option Int32 → Prop} {C C' : gm_K Prop} {p : Nat} {S : List gm_I} {cc lc fc : Nat}
    (h : gm_stm K V n E C p S cc lc fc) (hE : ∀ e w, E e w → E' e w) (hC : ∀ p S lc fc o es lw aw fw, C p S lc fc o es lw aw fw → C' p S lc fc o es lw aw fw) : gm_stm K V n E' C' p S cc lc fc :=
  gm_mono (E := E) (C := C) (x := gi_S) h hE hC
theorem gm_mo_una {K V : Nat → Int32} {n : Nat} {E E' : Nat → Option Int32 → Prop} {C C' : gm_K Prop} {p : Nat} {S : List gm_I} {lc fc : Nat}
    (h : gm_una K V n E C p S lc fc) (hE : ∀ e w, E e w → E' e w) (hC : ∀ p S lc fc o es lw aw fw, C p S lc fc o es lw aw fw → C' p S lc fc o es lw aw fw) : gm_una K V n E' C' p S lc fc :=
  gm_mono (E := E) (C := C) (x := gi_N) (cc := 0) h hE hC
theorem gm_mo_bin {K : Nat → Int32} {n w : Nat} {C C' : gm_K Prop} {p : Nat} {S : List gm_I} {lc fc : Nat}
    (h : gm_bin K n C p w S lc fc) (hC : ∀ p S lc fc o es lw aw fw, C p S lc fc o es lw aw fw → C' p S lc fc o es lw aw fw) : gm_bin K n C' p w S lc fc :=
  gm_mono (V := K) (E := fun _ _ => True) (E' := fun _ _ => True) (C := C) (x := gi_R w) (cc := 0) h (fun _ _ _ => trivial) hC
section
variable {post : Int32 → SX → Prop} {U : SX} {K V : Nat → Int32} {n s p cc lc fc : Nat} {lj : Int32} {A : gm_A} {S : List gm_I}
theorem xg_stm {v : Int32} {q : Nat} (hU : xh U K V n) (hs : s + 3 ≤ 1000000) (hl : (gm_fl S).length + 9 < 960) (hp : p ≤ n) (ho : gm_ol S = gm_opn S) (hol : (gm_ol S).length < 120) (hlc : lc ≤ 2 * p) (hc : cc ≤ 3 * p)
    (H : gm_stm K V n (fun e w => ∀ s', s < s' → s' ≤ s + 3 → xE post U s' e A.2.2.2.2.1 (gu_f A.2.2.2.2.2.2.1 fc w))
      (fun p' S' lc' fc' b es lw aw fw => ∀ s', s < s' → s' ≤ s + 3 → xQ post U s' p' (gm_fl S') (gm_o b p lj) (gm_ol S') (cc + es.length) lc' fc' (gm_up A cc fc p' es lw aw fw)) p S cc lc fc) :
    xQ post U s p ((103, v, q) :: gm_fl S) lj (gm_ol S) cc lc fc A := by
  have hn := hU.2.1
  unfold gm_stm at H
  by_cases h8 : gm_tk K n p = 8
  · rw [if_pos h8] at H
    exact xq_st8 hU (by omega) (by omega) (by omega) h8 (H _ (by omega) (by omega))
  rw [if_neg h8] at H
  by_cases h1 : gm_tk K n p = 1
  · rw [if_pos h1] at H
    have hq := gm_tk_lt h1 (by decide)
    refine xq_st1 hU (by omega) (by omega) hq h1 (xq_tok hU (by omega) (by simp only [List.length_cons]; omega) (by omega) (by decide) (fun (h2 : gm_tk K n (p + 1) = 12) => ?_) (fun (h2 : ¬ gm_tk K n (p + 1) = 12) => ?_))
    · rw [if_pos h2] at H
      exact H _ (by omega) (by omega)
    · rw [if_neg h2] at H
      exact H _ (by omega) (by omega)
  rw [if_neg h1] at H
  by_cases h3 : gm_tk K n p = 3
  · rw [if_pos h3] at H
    have hq := gm_tk_lt h3 (by decide)
    refine xq_st3 hU (by omega) (by omega) hq h3 (xq_tok hU (by omega) (by simp only [List.length_cons]; omega) (by omega) (by decide) (fun (h2 : gm_tk K n (p + 1) = 6) => ?_) (fun (h2 : ¬ gm_tk K n (p + 1) = 6) => ?_))
    · rw [if_pos h2] at H
      exact H _ (by omega) (by omega)
    · rw [if_neg h2] at H
      exact H _ (by omega) (by omega)
  rw [if_neg h3] at H
  by_cases h2 : gm_tk K n p = 2
  · rw [if_pos h2] at H
    have hq := gm_tk_lt h2 (by decide)
    refine xq_st2 hU (by omega) (by omega) hq h2 (xq_tok hU (by omega) (by simp only [List.length_cons]; omega) (by omega) (by decide) (fun (h2 : gm_tk K n (p + 1) = 4) => ?_) (fun (h2 : ¬ gm_tk K n (p + 1) = 4) => ?_))
    · rw [if_pos h2] at H
      exact H _ (by omega) (by omega)
    · rw [if_neg h2] at H
      exact H _ (by omega) (by omega)
  rw [if_neg h2] at H
  by_cases h34 : gm_tk K n p = 34
  · rw [if_pos h34] at H
    have hq := gm_tk_lt h34 (by decide)
    refine xq_st34 hU (by omega) (by omega) (by omega) h34 (xq_tok hU (by omega) (by simp only [List.length_cons]; omega) (by omega) (by decide) (fun (h2 : gm_tk K n (p + 1) = 4) => ?_) (fun (h2 : ¬ gm_tk K n (p + 1) = 4) => ?_))
    · rw [if_pos h2] at H
      exact H _ (by omega) (by omega)
    · rw [if_neg h2] at H
      exact H _ (by omega) (by omega)
  rw [if_neg h34] at H
  by_cases h36 : gm_tk K n p = 36
  · rw [if_pos h36] at H
    have hq := gm_tk_lt h36 (by decide)
    refine xq_st36 hU (by omega) (by omega) (by omega) h36 hol (by omega) (by omega) (xq_tok hU (by omega) (by simp only [List.length_cons]; omega) (by omega) (by decide) (fun (h2 : gm_tk K n (p + 1) = 4) => ?_) (fun (h2 : ¬ gm_tk K n (p + 1) = 4) => ?_))
    · rw [if_pos h2] at H
      exact H _ (by omega) (by omega)
    · rw [if_neg h2] at H
      exact H _ (by omega) (by omega)
  rw [if_neg h36] at H
  by_cases h37 : gm_tk K n p = 37
  · rw [if_pos h37] at H
    have hq := gm_tk_lt h37 (by decide)
    rw [← ho] at H
    have hO : gm_ol (gi_X 10 :: S) = gm_ol S := rfl
    cases e : gm_ol S with
    | nil =>
      rw [e] at H
      have H := H (s + 1) (by omega) (by omega)
      rw [hO, e] at H
      exact xq_st37a (d := 37) hU (by omega) (by omega) (by omega) (Or.inl rfl) h37 H
    | cons a ol =>
      rw [e] at H hol
      have H := H (s + 1) (by omega) (by omega)
      rw [hO, e] at H
      exact xq_st37b (d := 37) (e := 1) hU (by omega) (by omega) (by omega) (Or.inl ⟨rfl, rfl⟩) h37 (by simp only [List.length_cons] at hol; omega) (by omega) H
  rw [if_neg h37] at H
  by_cases h38 : gm_tk K n p = 38
  · rw [if_pos h38] at H
    have hq := gm_tk_lt h38 (by decide)
    rw [← ho] at H
    have hO : gm_ol (gi_X 10 :: S) = gm_ol S := rfl
    cases e : gm_ol S with
    | nil =>
      rw [e] at H
      have H := H (s + 1) (by omega) (by omega)
      rw [hO, e] at H
      exact xq_st37a (d := 38) hU (by omega) (by omega) (by omega) (Or.inr rfl) h38 H
    | cons a ol =>
      rw [e] at H hol
      have H := H (s + 1) (by omega) (by omega)
      rw [hO, e] at H
      exact xq_st37b (d := 38) (e := 0) hU (by omega) (by omega) (by omega) (Or.inr ⟨rfl, rfl⟩) h38 (by simp only [List.length_cons] at hol; omega) (by omega) H
  rw [if_neg h38] at H
  by_cases h39 : gm_tk K n p = 39
  · rw [if_pos h39] at H
    exact xq_st39 (d := 39) hU (by omega) (by omega) (by omega) (Or.inl rfl) h39 (H _ (by omega) (by omega))
  rw [if_neg h39] at H
  by_cases h40 : gm_tk K n p = 40
  · rw [if_pos h40] at H
    exact xq_st39 (d := 40) hU (by omega) (by omega) (by omega) (Or.inr rfl) h40 (H _ (by omega) (by omega))
  rw [if_neg h40] at H
  exact xq_stE hU (by omega) (by omega) (by omega) h8 h1 h3 h2 h34 h36 h37 h38 h39 h40 (H _ (by omega) (by omega))
theorem xg_una {v : Int32} {q : Nat} (hU : xh U K V n) (hs : s + 3 ≤ 1000000) (hl : (gm_fl S).length + 9 < 960) (hp : p ≤ n) (hc : cc ≤ 3 * p)
    (H : gm_una K V n (fun e w => ∀ s', s < s' → s' ≤ s + 3 → xE post U s' e A.2.2.2.2.1 (gu_f A.2.2.2.2.2.2.1 fc w))
      (fun p' S' lc' fc' b es lw aw fw => ∀ s', s < s' → s' ≤ s + 3 → xQ post U s' p' (gm_fl S') (gm_o b p lj) (gm_ol S') (cc + es.length) lc' fc' (gm_up A cc fc p' es lw aw fw)) p S lc fc) :
    xQ post U s p ((108, v, q) :: gm_fl S) lj (gm_ol S) cc lc fc A := by
  have hn := hU.2.1
  unfold gm_una at H
  by_cases h28 : gm_tk K n p = 28
  · rw [if_pos h28] at H
    exact xq_un (d := 28) (e := 50) hU (by omega) (by omega) (gm_tk_lt h28 (by decide)) (Or.inl ⟨rfl, rfl⟩) h28 (H _ (by omega) (by omega))
  rw [if_neg h28] at H
  by_cases h32 : gm_tk K n p = 32
  · rw [if_pos h32] at H
    exact xq_un (d := 32) (e := 32) hU (by omega) (by omega) (gm_tk_lt h32 (by decide)) (Or.inr (Or.inl ⟨rfl, rfl⟩)) h32 (H _ (by omega) (by omega))
  rw [if_neg h32] at H
  by_cases h33 : gm_tk K n p = 33
  · rw [if_pos h33] at H
    exact xq_un (d := 33) (e := 33) hU (by omega) (by omega) (gm_tk_lt h33 (by decide)) (Or.inr (Or.inr ⟨rfl, rfl⟩)) h33 (H _ (by omega) (by omega))
  rw [if_neg h33] at H
  by_cases h0 : gm_tk K n p = 0
  · rw [if_pos h0] at H
    have hq := gm_tk_lt h0 (by decide)
    exact xq_un0 hU (by omega) (by omega) hq (by omega) h0 (H _ (by omega) (by omega))
  rw [if_neg h0] at H
  by_cases h1 : gm_tk K n p = 1
  · rw [if_pos h1] at H
    have hq := gm_tk_lt h1 (by decide)
    exact xq_un1 hU (by omega) (by omega) hq (by omega) h1 (H _ (by omega) (by omega))
  rw [if_neg h1] at H
  by_cases h2 : gm_tk K n p = 2
  · rw [if_pos h2] at H
    have hq := gm_tk_lt h2 (by decide)
    refine xq_un2 hU (by omega) (by omega) hq h2 (xq_tok hU (by omega) (by simp only [List.length_cons]; omega) (by omega) (by decide) (fun (h2 : gm_tk K n (p + 1) = 4) => ?_) (fun (h2 : ¬ gm_tk K n (p + 1) = 4) => ?_))
    · rw [if_pos h2] at H
      exact H _ (by omega) (by omega)
    · rw [if_neg h2] at H
      exact H _ (by omega) (by omega)
  rw [if_neg h2] at H
  by_cases h3 : gm_tk K n p = 3
  · rw [if_pos h3] at H
    have hq := gm_tk_lt h3 (by decide)
    refine xq_un3 hU (by omega) (by omega) hq h3 (xq_tok hU (by omega) (by simp only [List.length_cons]; omega) (by omega) (by decide) (fun (h2 : gm_tk K n (p + 1) = 6) => ?_) (fun (h2 : ¬ gm_tk K n (p + 1) = 6) => ?_))
    · rw [if_pos h2] at H
      exact H _ (by omega) (by omega)
    · rw [if_neg h2] at H
      exact H _ (by omega) (by omega)
  rw [if_neg h3] at H
  by_cases h4 : gm_tk K n p = 4
  · rw [if_pos h4] at H
    exact xq_un4 hU (by omega) (by omega) (gm_tk_lt h4 (by decide)) h4 (H _ (by omega) (by omega))
  rw [if_neg h4] at H
  exact xq_unE hU (by omega) (by omega) (by omega) h28 h32 h33 h0 h1 h2 h3 h4 (H _ (by omega) (by omega))
theorem xg_bin {q w : Nat} (hU : xh U K V n) (hs : s + 3 ≤ 1000000) (hl : (gm_fl S).length + 9 < 960) (hp : p ≤ n) (hc : cc ≤ 3 * p) (hw : 1 ≤ w) (hw' : w ≤ 11)
    (H : gm_bin K n (fun p' S' lc' fc' b es lw aw fw => ∀ s', s < s' → s' ≤ s + 3 → xQ post U s' p' (gm_fl S') (gm_o b p lj) (gm_ol S') (cc + es.length) lc' fc' (gm_up A cc fc p' es lw aw fw)) p w S lc fc) :
    xQ post U s p ((107, nI w, q) :: gm_fl S) lj (gm_ol S) cc lc fc A := by
  have hn := hU.2.1
  unfold gm_bin at H
  by_cases h0 : gm_str (gm_tk K n p) < w
  · rw [if_pos h0] at H
    exact xq_op0 hU (by omega) (by omega) (by omega) hw' h0 (H _ (by omega) (by omega))
  rw [if_neg h0] at H
  by_cases h13 : gm_tk K n p = 13
  · rw [if_pos h13] at H
    have hq := gm_tk_lt h13 (by decide)
    rw [h13, show gm_str 13 = 1 from by decide] at h0
    exact xq_op2 (d := 13) (e := 1) hU (by omega) (by omega) (by omega) (by omega) h13 (Or.inl ⟨rfl, rfl⟩) (by omega) (H _ (by omega) (by omega))
  rw [if_neg h13] at H
  by_cases h14 : gm_tk K n p = 14
  · rw [if_pos h14] at H
    have hq := gm_tk_lt h14 (by decide)
    rw [h14, show gm_str 14 = 2 from by decide] at h0
    exact xq_op2 (d := 14) (e := 2) hU (by omega) (by omega) (by omega) (by omega) h14 (Or.inr ⟨rfl, rfl⟩) (by omega) (H _ (by omega) (by omega))
  rw [if_neg h14] at H
  exact xq_op1 hU (by omega) (by omega) (by omega) hw' h0 hw h13 h14 (H _ (by omega) (by omega))
theorem xg_prg {v : Int32} {q : Nat} (hU : xh U K V n) (hs : s + 5 ≤ 1000000) (hl : (gm_fl S).length + 9 < 960) (hp : p ≤ n) (hf : fc ≤ 4)
    (H : gm_prg K V n (fun e w => ∀ s', s < s' → s' ≤ s + 5 → xE post U s' e A.2.2.2.2.1 (gu_f A.2.2.2.2.2.2.1 fc w))
      (fun p' S' lc' fc' b es lw aw fw => ∀ s', s < s' → s' ≤ s + 5 → xQ post U s' p' (gm_fl S') (gm_o b p lj) (gm_ol S') (cc + es.length) lc' fc' (gm_up A cc fc p' es lw aw fw)) p S lc fc) :
    xQ post U s p ((100, v, q) :: gm_fl S) lj (gm_ol S) cc lc fc A := by
  have hn := hU.2.1
  unfold gm_prg at H
  by_cases h0 : gm_tk K n p = -1 ∧ 0 < fc
  · rw [if_pos h0] at H
    exact xq_100 hU (by omega) (by omega) (by omega) hf (fun _ _ => H _ (by omega) (by omega)) (fun a _ => absurd h0 a) (fun a _ => absurd h0 a)
  rw [if_neg h0] at H
  refine xq_100 hU (by omega) (by omega) (by omega) hf (fun a b => absurd ⟨a, b⟩ h0) (fun _ h4 => ?_) (fun _ h4 => ?_)
  · rw [if_pos h4] at H
    exact H _ (by omega) (by omega)
  rw [if_neg (by omega)] at H
  refine xq_tok hU (by omega) (by simp only [List.length_cons]; omega) (by omega) (by decide) (fun (h1 : gm_tk K n p = 41) => ?_) (fun (h1 : ¬ gm_tk K n p = 41) => ?_)
  · rw [if_pos h1] at H
    have hq := gm_tk_lt h1 (by decide)
    refine xq_101 hU (by omega) (by simp only [List.length_cons]; omega) (by omega) h4 (fun a b c => ?_) (fun a => ?_)
    · rw [if_pos ⟨a, b, c⟩] at H
      have hq := gm_tk_lt a (by decide)
      refine xq_tok hU (by omega) (by simp only [List.length_cons]; omega) (by omega) (by decide) (fun (h1 : gm_tk K n (p + 2) = 8) => ?_) (fun (h1 : ¬ gm_tk K n (p + 2) = 8) => ?_)
      · rw [if_pos h1] at H
        exact H _ (by omega) (by omega)
      · rw [if_neg h1] at H
        exact H _ (by omega) (by omega)
    · rw [if_neg a] at H
      exact H _ (by omega) (by omega)
  · rw [if_neg h1] at H
    exact H _ (by omega) (by omega)
/-- one step of G is one to five turns of the loop -/
theorem xg_d {x : gm_I} (hU : xh U K V n) (hs : s + 5 ≤ 1000000) (ht : gm_tok K V n) (hI : gm_inv K V n p (x :: S) cc lc fc)
    (hA : x.1 = 17 → A.2.2.2.2.1 x.2.1 = nI x.2.2.1)
    (H : gm_d K V n (fun e w => ∀ s', s < s' → s' ≤ s + 5 → xE post U s' e A.2.2.2.2.1 (gu_f A.2.2.2.2.2.2.1 fc w))
      (fun p' S' lc' fc' b es lw aw fw => ∀ s', s < s' → s' ≤ s + 5 → xQ post U s' p' (gm_fl S') (gm_o b p lj) (gm_ol S') (cc + es.length) lc' fc' (gm_up A cc fc p' es lw aw fw)) p x S cc lc fc) :
    xQ post U s p (gm_fl (x :: S)) lj (gm_ol (x :: S)) cc lc fc A := by
  obtain ⟨hn, hli, hsh, hlb, hpl, hva, hfc, _⟩ := hI
  obtain ⟨l1, l2, l3, l4, l5⟩ := hli
  have hn' := hU.2.1
  have hfl := gm_fl_len hva
  have hfS := gm_fl_len hva.2
  have hol := gm_ol_len (S := S)
  have hv := hva.1
  obtain ⟨t, a, b, e, v⟩ := x
  unfold gm_d at H
  dsimp only at *
  have lS : gm_sm gw_p S + gw_p (t, a, b, e, v) ≤ 4 * p + 1 := by simp only [gm_sm] at l3; omega
  have lc' : gm_sm gw_c S ≤ p := by simp only [gm_sm] at l4; omega
  by_cases z : t = 1
  · subst z; rw [if_pos rfl] at H
    show xQ post U s p ((100, 0, 0) :: gm_fl S) lj (gm_ol S) cc lc fc A
    exact xg_prg hU hs (by omega) hn hfc H
  rw [if_neg z] at H
  by_cases z : t = 2
  · subst z; rw [if_pos rfl] at H
    show xQ post U s p ((251, 0, 0) :: (239, 0, 0) :: gm_fl S) lj (gm_ol S) cc lc fc A
    have l1' : cc + 2 ≤ 3 * p := by simp [gm_sm, gw_e] at l1; omega
    exact xq_emit (k := 51) (by omega) (by simp only [List.length_cons]; omega) (by omega) (by decide) (xq_emit (k := 39) (by omega) (by omega) (by omega) (by decide) (H _ (by omega) (by omega)))
  rw [if_neg z] at H
  by_cases z : t = 3
  · subst z; rw [if_pos rfl] at H
    show xQ post U s p ((102, 0, 0) :: (9, 0, 0) :: gm_fl S) lj (gm_ol S) cc lc fc A
    have l1' : cc ≤ 3 * p := by omega
    have lo : gm_sm gw_c S + 1 ≤ p := by simp [gm_sm, gw_c, gm_tb_c] at l4; omega
    by_cases h : gm_tk K n p = 9
    · rw [if_pos h] at H
      exact xq_102 hU (by omega) (by simp only [List.length_cons]; omega) (by omega) (fun _ => xq_tok hU (by omega) (by omega) (by omega) (by decide) (fun _ => H _ (by omega) (by omega)) (fun z => absurd h z)) (fun z => absurd h z)
    · rw [if_neg h] at H
      refine xq_102 hU (by omega) (by simp only [List.length_cons]; omega) (by omega) (fun z => absurd z h) (fun _ => ?_)
      refine xg_stm (S := gi_B :: S) hU (by omega) (by show (gm_fl S).length + 2 + 9 < 960; omega) hn (gm_ol_opn ⟨by decide, hsh.2.1 (by simp)⟩) (by show (gm_ol S).length < 120; omega) l2 l1' ?_
      exact gm_mo_stm H (fun e w a s' b c => a s' (by omega) (by omega)) (fun p S lc fc o es lw aw fw a s' b c => a s' (by omega) (by omega))
  rw [if_neg z] at H
  by_cases z : t = 4
  · subst z; rw [if_pos rfl] at H
    show xQ post U s p ((103, 0, 0) :: gm_fl S) lj (gm_ol S) cc lc fc A
    have l1' : cc ≤ 3 * p := by omega
    have lo : gm_sm gw_c S + 1 ≤ p := by simp [gm_sm, gw_c, gm_tb_c] at l4; omega
    refine xg_stm (S := S) hU (by omega) (by omega) hn (gm_ol_opn (hsh.2.1 (by simp))) (by omega) l2 l1' ?_
    exact gm_mo_stm H (fun e w a s' b c => a s' (by omega) (by omega)) (fun p S lc fc o es lw aw fw a s' b c => a s' (by omega) (by omega))
  rw [if_neg z] at H
  by_cases z : t = 5
  · subst z; rw [if_pos rfl] at H
    show xQ post U s p ((a, 0, 0) :: gm_fl S) lj (gm_ol S) cc lc fc A
    have hv' : a ≤ 41 := by simpa [gm_vl] using hv
    refine xq_tok hU (by omega) (by omega) (by omega) (by omega) (fun h => ?_) (fun h => ?_)
    · rw [if_pos h] at H; exact H _ (by omega) (by omega)
    · rw [if_neg h] at H; exact H _ (by omega) (by omega)
  rw [if_neg z] at H
  by_cases z : t = 6
  · subst z; rw [if_pos rfl] at H
    show xQ post U s p ((259, nI a, 0) :: (103, 0, 0) :: (104, nI a, 0) :: gm_fl S) lj (gm_ol S) cc lc fc A
    have l1' : cc + 2 ≤ 3 * p := by simp [gm_sm, gw_e] at l1; omega
    exact xq_emit (k := 59) (by omega) (by simp only [List.length_cons]; omega) (by omega) (by decide) (H _ (by omega) (by omega))
  rw [if_neg z] at H
  by_cases z : t = 7
  · subst z; rw [if_pos rfl] at H
    show xQ post U s p ((104, nI a, 0) :: gm_fl S) lj (gm_ol S) cc lc fc A
    have l1' : cc + 1 ≤ 3 * p := by simp [gm_sm, gw_e] at l1; omega
    have lb : a + 2 ≤ lc := by simp [gm_lb] at hlb; omega
    refine xq_104 hU (by omega) (by omega) (by omega) (by omega) (by omega) (fun h => ?_) (fun h => ?_)
    · rw [if_pos h] at H; exact H _ (by omega) (by omega)
    · rw [if_neg h] at H; exact H _ (by omega) (by omega)
  rw [if_neg z] at H
  by_cases z : t = 8
  · subst z; rw [if_pos rfl] at H
    show xQ post U s p ((111, nI (a + 1), 0) :: gm_fl S) lj (gm_ol S) cc lc fc A
    have lb : a + 2 ≤ lc := by simp [gm_lb] at hlb; omega
    exact xq_111 (by omega) (by omega) (by omega) (H _ (by omega) (by omega))
  rw [if_neg z] at H
  by_cases z : t = 9
  · subst z; rw [if_pos rfl] at H
    show xQ post U s p ((259, nI (a + 1), 0) :: (103, 0, 0) :: (105, nI a, 0) :: gm_fl S) lj (a :: gm_ol S) cc lc fc A
    have l1' : cc + 2 ≤ 3 * p := by simp [gm_sm, gw_e] at l1; omega
    exact xq_emit (k := 59) (by omega) (by simp only [List.length_cons]; omega) (by omega) (by decide) (H _ (by omega) (by omega))
  rw [if_neg z] at H
  by_cases z : t = 10
  · subst z; rw [if_pos rfl] at H
    show xQ post U s p ((105, nI a, 0) :: gm_fl S) lj (a :: gm_ol S) cc lc fc A
    have l1' : cc + 1 ≤ 3 * p := by simp [gm_sm, gw_e] at l1; omega
    have lb : a + 2 ≤ lc := by simp [gm_lb] at hlb; omega
    have lo : gm_sm gw_c S + 1 ≤ p := by simp [gm_sm, gw_c] at l4; omega
    exact xq_105 (by omega) (by omega) (by omega) (by omega) (by omega) (H _ (by omega) (by omega))
  rw [if_neg z] at H
  by_cases z : t = 11 ∨ t = 19 ∨ t = 20
  · rw [if_pos z] at H
    have l1' : cc + 1 ≤ 3 * p := by rcases z with z | z | z <;> subst z <;> simp [gm_sm, gw_e] at l1 <;> omega
    have la : a < 100 := by
      rcases z with z | z | z <;> subst z <;> simp [gm_vl, gm_ve] at hv <;> omega
    have ef : gm_fl ((t, a, b, e, v) :: S) = (200 + a, v, b) :: gm_fl S := by rcases z with z | z | z <;> subst z <;> rfl
    have eo : gm_ol ((t, a, b, e, v) :: S) = gm_ol S := by rcases z with z | z | z <;> subst z <;> rfl
    rw [ef, eo]
    exact xq_emit (by omega) (by omega) (by omega) la (H _ (by omega) (by omega))
  rw [if_neg z] at H
  by_cases z : t = 12
  · subst z; rw [if_pos rfl] at H
    show xQ post U s p ((106, nI a, 0) :: gm_fl S) lj (gm_ol S) cc lc fc A
    have l1' : cc ≤ 3 * p := by omega
    refine xq_106 (by omega) (by omega) ?_
    refine xg_una (S := gi_R a :: S) hU (by omega) (by show (gm_fl S).length + 1 + 9 < 960; omega) hn l1' ?_
    exact gm_mo_una H (fun e w a s' b c => a s' (by omega) (by omega)) (fun p S lc fc o es lw aw fw a s' b c => a s' (by omega) (by omega))
  rw [if_neg z] at H
  by_cases z : t = 13
  · subst z; rw [if_pos rfl] at H
    show xQ post U s p ((107, nI a, 0) :: gm_fl S) lj (gm_ol S) cc lc fc A
    have l1' : cc ≤ 3 * p := by omega
    have hv' : 1 ≤ a ∧ a ≤ 11 := by simpa [gm_vl] using hv
    refine xg_bin hU (by omega) (by omega) hn l1' hv'.1 hv'.2 ?_
    exact gm_mo_bin H (fun p S lc fc o es lw aw fw a s' b c => a s' (by omega) (by omega))
  rw [if_neg z] at H
  by_cases z : t = 14
  · subst z; rw [if_pos rfl] at H
    show xQ post U s p ((108, 0, 0) :: gm_fl S) lj (gm_ol S) cc lc fc A
    have l1' : cc ≤ 3 * p := by omega
    refine xg_una (S := S) hU (by omega) (by omega) hn l1' ?_
    exact gm_mo_una H (fun e w a s' b c => a s' (by omega) (by omega)) (fun p S lc fc o es lw aw fw a s' b c => a s' (by omega) (by omega))
  rw [if_neg z] at H
  by_cases z : t = 15
  · subst z; rw [if_pos rfl] at H
    show xQ post U s p ((257, 0, b) :: (111, nI a, 0) :: gm_fl S) lj (gm_ol S) cc lc fc A
    have l1' : cc + 1 ≤ 3 * p := by simp [gm_sm, gw_e] at l1; omega
    have lb : a + 2 ≤ lc := by simp [gm_lb] at hlb; omega
    exact xq_emit (k := 57) (by omega) (by simp only [List.length_cons]; omega) (by omega) (by decide) (xq_111 (by omega) (by omega) (by omega) (H _ (by omega) (by omega)))
  rw [if_neg z] at H
  by_cases z : t = 16
  · subst z; rw [if_pos rfl] at H
    show xQ post U s p ((109, 0, a) :: gm_fl S) lj (gm_ol S) cc lc fc A
    have hv' : a < n := by simpa [gm_vl] using hv
    refine xq_109 hU (by omega) (by omega) (by omega) (by omega) (fun h => ?_) (fun h => ?_)
    · rw [if_pos h] at H; exact H _ (by omega) (by omega)
    · rw [if_neg h] at H; exact H _ (by omega) (by omega)
  rw [if_neg z] at H
  by_cases z : t = 17
  · subst z; rw [if_pos rfl] at H
    show xQ post U s p ((110, 0, a) :: gm_fl S) lj (gm_ol S) cc lc fc A
    have hv' : a < n := by simp [gm_vl] at hv; exact hv.1
    refine xq_110 hU (by omega) (by omega) (by omega) (by omega) (hA rfl) (fun h => ?_) (fun h => ?_) (fun h h' => ?_)
    · rw [if_neg (by rw [h]; decide), if_pos h] at H; exact H _ (by omega) (by omega)
    · rw [if_pos h] at H; exact H _ (by omega) (by omega)
    · rw [if_neg h', if_neg h] at H; exact H _ (by omega) (by omega)
  rw [if_neg z] at H
  by_cases z : t = 18
  · subst z; rw [if_pos rfl] at H
    show xQ post U s p ((262, 0, a) :: (263, 0, a) :: (264, v, 0) :: gm_fl S) lj (gm_ol S) cc lc fc A
    have l1' : cc + 3 ≤ 3 * p := by simp [gm_sm, gw_e] at l1; omega
    exact xq_emit (k := 62) (by omega) (by simp only [List.length_cons]; omega) (by omega) (by decide) (xq_emit (k := 63) (by omega) (by simp only [List.length_cons]; omega) (by omega) (by decide) (xq_emit (k := 64) (by omega) (by omega) (by omega) (by decide) (H _ (by omega) (by omega))))
  rw [if_neg z] at H
  exfalso
  unfold gm_vl at hv
  dsimp only at hv
  repeat' split at hv
  all_goals omega
end
