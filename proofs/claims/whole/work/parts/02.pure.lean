/-! G: a machine over the tokens, between the two parsers -/
abbrev gm_I : Type := Nat × Nat × Nat × Nat × Int32
abbrev gm_M : Type := Nat × Int32 × Nat
abbrev gm_K (α : Sort _) := Nat → List gm_I → Nat → Nat → Bool → List gm_M → Option (Nat × Nat) → Option (Nat × Nat) → Option Int32 → α
def gm_tk (K : Nat → Int32) (n p : Nat) : Int32 := if p < n then K p else -1
abbrev gi_P : gm_I := (1, 0, 0, 0, 0)
abbrev gi_F : gm_I := (2, 0, 0, 0, 0)
abbrev gi_B : gm_I := (3, 0, 0, 0, 0)
abbrev gi_S : gm_I := (4, 0, 0, 0, 0)
abbrev gi_X (k : Nat) : gm_I := (5, k, 0, 0, 0)
abbrev gi_I (l : Nat) : gm_I := (6, l, 0, 0, 0)
abbrev gi_L (l : Nat) : gm_I := (7, l, 0, 0, 0)
abbrev gi_U (l : Nat) : gm_I := (8, l, 0, 0, 0)
abbrev gi_W (l q : Nat) : gm_I := (9, l, q, 0, 0)
abbrev gi_O (l : Nat) : gm_I := (10, l, 0, 0, 0)
abbrev gi_M0 (k q e : Nat) (v : Int32) : gm_I := (11, k, q, e, v)
abbrev gi_M1 (k q e : Nat) (v : Int32) : gm_I := (19, k, q, e, v)
abbrev gi_M2 (k q e : Nat) (v : Int32) : gm_I := (20, k, q, e, v)
abbrev gi_E (w : Nat) : gm_I := (12, w, 0, 0, 0)
abbrev gi_R (w : Nat) : gm_I := (13, w, 0, 0, 0)
abbrev gi_N : gm_I := (14, 0, 0, 0, 0)
abbrev gi_T (l q : Nat) : gm_I := (15, l, q, 0, 0)
abbrev gi_A (q : Nat) : gm_I := (16, q, 0, 0, 0)
abbrev gi_G (q c : Nat) : gm_I := (17, q, c, 0, 0)
abbrev gi_C (q : Nat) (v : Int32) : gm_I := (18, q, 0, 0, v)
def gm_opn : List gm_I → List Nat
  | [] => []
  | x :: S => if x.1 = 10 then x.2.1 :: gm_opn S else gm_opn S
def gm_str (t : Int32) : Nat :=
  if t.toNatClampNeg < 13 then 0 else if 31 < t.toNatClampNeg then 0 else if t.toNatClampNeg < 18 then t.toNatClampNeg - 12
  else if t.toNatClampNeg < 20 then 6 else if t.toNatClampNeg < 24 then 7 else if t.toNatClampNeg < 27 then 8 else if t.toNatClampNeg < 29 then 9 else 10
def gm_brk {α : Sort _} (C : gm_K α) (p : Nat) (S : List gm_I) (lc fc d : Nat) : List Nat → α
  | [] => C (p + 1) (gi_X 10 :: S) lc fc true [] none none none
  | a :: _ => C (p + 1) (gi_X 10 :: S) lc fc false [(58, nI (a + d), p)] none none none
def gm_stm {α : Sort _} (K V : Nat → Int32) (n : Nat) (E : Nat → Option Int32 → α) (C : gm_K α) (p : Nat) (S : List gm_I) (cc lc fc : Nat) : α :=
  if gm_tk K n p = 8 then C (p + 1) (gi_B :: S) lc fc false [] none none none
  else if gm_tk K n p = 1 then
    (if gm_tk K n (p + 1) = 12 then C (p + 2) (gi_E 1 :: gi_M1 53 p (13 + 32 * (V p).toNatClampNeg) (V p) :: gi_X 10 :: S) lc fc false [] none none none else E (p + 1) none)
  else if gm_tk K n p = 3 then
    (if gm_tk K n (p + 1) = 6 then C (p + 2) (gi_E 1 :: gi_X 7 :: gi_X 12 :: gi_E 1 :: gi_M2 55 p (14 + 32 * p) (V p) :: gi_X 10 :: S) lc fc false [] none none none else E (p + 1) none)
  else if gm_tk K n p = 2 then
    (if gm_tk K n (p + 1) = 4 then C (p + 2) (gi_A p :: gi_C p (V p) :: gi_M1 56 0 15 0 :: gi_X 10 :: S) lc fc false [] none none none else E (p + 1) none)
  else if gm_tk K n p = 34 then
    (if gm_tk K n (p + 1) = 4 then C (p + 2) (gi_E 1 :: gi_X 5 :: gi_I lc :: S) (lc + 2) fc false [] none none none else E (p + 1) none)
  else if gm_tk K n p = 36 then
    (if gm_tk K n (p + 1) = 4 then C (p + 2) (gi_E 1 :: gi_X 5 :: gi_W lc (p + 2) :: S) (lc + 2) fc false [(63, 0, p)] (some (lc, cc)) none none else E (p + 1) none)
  else if gm_tk K n p = 37 then gm_brk C p S lc fc 1 (gm_opn S)
  else if gm_tk K n p = 38 then gm_brk C p S lc fc 0 (gm_opn S)
  else if gm_tk K n p = 39 then C (p + 1) (gi_E 1 :: gi_M1 39 p 11 0 :: gi_X 10 :: S) lc fc false [] none none none
  else if gm_tk K n p = 40 then C (p + 1) (gi_E 1 :: gi_M1 40 p 12 0 :: gi_X 10 :: S) lc fc false [] none none none
  else E p none
def gm_una {α : Sort _} (K V : Nat → Int32) (n : Nat) (E : Nat → Option Int32 → α) (C : gm_K α) (p : Nat) (S : List gm_I) (lc fc : Nat) : α :=
  if gm_tk K n p = 28 then C (p + 1) (gi_N :: gi_M0 50 p 915 0 :: S) lc fc false [] none none none
  else if gm_tk K n p = 32 then C (p + 1) (gi_N :: gi_M0 32 p 1043 0 :: S) lc fc false [] none none none
  else if gm_tk K n p = 33 then C (p + 1) (gi_N :: gi_M0 33 p 1075 0 :: S) lc fc false [] none none none
  else if gm_tk K n p = 0 then C (p + 1) S lc fc false [(51, V p, p)] none none none
  else if gm_tk K n p = 1 then C (p + 1) S lc fc false [(52, V p, p)] none none none
  else if gm_tk K n p = 2 then
    (if gm_tk K n (p + 1) = 4 then C (p + 2) (gi_A p :: gi_C p (V p) :: S) lc fc false [] none none none else E (p + 1) none)
  else if gm_tk K n p = 3 then
    (if gm_tk K n (p + 1) = 6 then C (p + 2) (gi_E 1 :: gi_X 7 :: gi_M0 54 p (22 + 32 * p) 0 :: S) lc fc false [] none none none else E (p + 1) none)
  else if gm_tk K n p = 4 then C (p + 1) (gi_E 1 :: gi_X 5 :: S) lc fc false [] none none none
  else E p none
def gm_bin {α : Sort _} (K : Nat → Int32) (n : Nat) (C : gm_K α) (p w : Nat) (S : List gm_I) (lc fc : Nat) : α :=
  if gm_str (gm_tk K n p) < w then C p S lc fc false [] none none none
  else if gm_tk K n p = 13 then C (p + 1) (gi_E 2 :: gi_T lc p :: gi_R w :: S) (lc + 2) fc false [(57, 0, p), (61, nI lc, p)] none none none
  else if gm_tk K n p = 14 then C (p + 1) (gi_E 3 :: gi_T lc p :: gi_R w :: S) (lc + 2) fc false [(57, 0, p), (60, nI lc, p)] none none none
  else C (p + 1) (gi_E (gm_str (gm_tk K n p) + 1) :: gi_M1 (gm_tk K n p).toNatClampNeg p (20 + 32 * p) 0 :: gi_R w :: S) lc fc false [] none none none
def gm_prg {α : Sort _} (K V : Nat → Int32) (n : Nat) (E : Nat → Option Int32 → α) (C : gm_K α) (p : Nat) (S : List gm_I) (lc fc : Nat) : α :=
  if gm_tk K n p = -1 ∧ 0 < fc then C p S lc fc false [] none none none
  else if fc = 4 then E p none
  else if gm_tk K n p = 41 then
    (if gm_tk K n (p + 1) = 0 ∧ 0 ≤ V (p + 1) ∧ V (p + 1) ≤ 3 then
      (if gm_tk K n (p + 2) = 8 then C (p + 3) (gi_B :: gi_F :: gi_P :: S) lc (fc + 1) false [] none none (some (V (p + 1))) else E (p + 2) (some (V (p + 1))))
    else E (p + 1) none)
  else E p none
def gm_d {α : Sort _} (K V : Nat → Int32) (n : Nat) (E : Nat → Option Int32 → α) (C : gm_K α) (p : Nat) (x : gm_I) (S : List gm_I) (cc lc fc : Nat) : α :=
  if x.1 = 1 then gm_prg K V n E C p S lc fc
  else if x.1 = 2 then C p S lc fc false [(51, 0, 0), (39, 0, 0)] none none none
  else if x.1 = 3 then (if gm_tk K n p = 9 then C (p + 1) S lc fc false [] none none none else gm_stm K V n E C p (gi_B :: S) cc lc fc)
  else if x.1 = 4 then gm_stm K V n E C p S cc lc fc
  else if x.1 = 5 then (if gm_tk K n p = nI x.2.1 then C (p + 1) S lc fc false [] none none none else E p none)
  else if x.1 = 6 then C p (gi_S :: gi_L x.2.1 :: S) lc fc false [(59, nI x.2.1, 0)] none none none
  else if x.1 = 7 then (if gm_tk K n p = 35 then C (p + 1) (gi_S :: gi_U x.2.1 :: S) lc fc false [(58, nI (x.2.1 + 1), 0)] (some (x.2.1, cc + 1)) none none
    else C p S lc fc false [] (some (x.2.1, cc)) none none)
  else if x.1 = 8 then C p S lc fc false [] (some (x.2.1 + 1, cc)) none none
  else if x.1 = 9 then C p (gi_S :: gi_O x.2.1 :: S) lc fc false [(59, nI (x.2.1 + 1), 0)] none none none
  else if x.1 = 10 then C p S lc fc false [(58, nI x.2.1, 0)] (some (x.2.1 + 1, cc + 1)) none none
  else if x.1 = 11 ∨ x.1 = 19 ∨ x.1 = 20 then C p S lc fc false [(x.2.1, x.2.2.2.2, x.2.2.1)] none none none
  else if x.1 = 12 then gm_una K V n E C p (gi_R x.2.1 :: S) lc fc
  else if x.1 = 13 then gm_bin K n C p x.2.1 S lc fc
  else if x.1 = 14 then gm_una K V n E C p S lc fc
  else if x.1 = 15 then C p S lc fc false [(57, 0, x.2.2.1)] (some (x.2.1, cc + 1)) none none
  else if x.1 = 16 then (if gm_tk K n p = 5 then C (p + 1) S lc fc false [] none (some (x.2.1, 0)) none
    else C p (gi_E 1 :: gi_G x.2.1 1 :: S) lc fc false [] none (some (x.2.1, 1)) none)
  else if x.1 = 17 then (if gm_tk K n p = 5 then C (p + 1) S lc fc false [] none none none
    else if gm_tk K n p = 11 then C (p + 1) (gi_E 1 :: gi_G x.2.1 (x.2.2.1 + 1) :: S) lc fc false [] none (some (x.2.1, x.2.2.1 + 1)) none
    else E p none)
  else if x.1 = 18 then C p S lc fc false [(62, 0, x.2.1), (63, 0, x.2.1), (64, x.2.2.2.2, 0)] none none none
  else E p none
/-! the step as a value: monotone, one result -/
abbrev gm_R : Type := (Nat × Option Int32) ⊕ (Nat × List gm_I × Nat × Nat × Bool × List gm_M × Option (Nat × Nat) × Option (Nat × Nat) × Option Int32)
def gm_v (K V : Nat → Int32) (n p : Nat) (x : gm_I) (S : List gm_I) (cc lc fc : Nat) : gm_R :=
  gm_d K V n (fun e w => Sum.inl (e, w)) (fun p S lc fc o es lw aw fw => Sum.inr (p, S, lc, fc, o, es, lw, aw, fw)) p x S cc lc fc
def gm_el {α : Sort _} (E : Nat → Option Int32 → α) (C : gm_K α) : gm_R → α
  | Sum.inl (e, w) => E e w
  | Sum.inr (p, S, lc, fc, o, es, lw, aw, fw) => C p S lc fc o es lw aw fw
section
variable {α β : Sort _} (K V : Nat → Int32) (n : Nat)
theorem gm_map_brk (f : α → β) (C : gm_K α) (p : Nat) (S : List gm_I) (lc fc d : Nat) (l : List Nat) :
    gm_brk (fun p S lc fc o es lw aw fw => f (C p S lc fc o es lw aw fw)) p S lc fc d l = f (gm_brk C p S lc fc d l) := by
  cases l <;> rfl
theorem gm_map_stm (f : α → β) (E : Nat → Option Int32 → α) (C : gm_K α) (p : Nat) (S : List gm_I) (cc lc fc : Nat) :
    gm_stm K V n (fun e w => f (E e w)) (fun p S lc fc o es lw aw fw => f (C p S lc fc o es lw aw fw)) p S cc lc fc = f (gm_stm K V n E C p S cc lc fc) := by
  unfold gm_stm
  simp only [apply_ite f, gm_map_brk]
theorem gm_map_una (f : α → β) (E : Nat → Option Int32 → α) (C : gm_K α) (p : Nat) (S : List gm_I) (lc fc : Nat) :
    gm_una K V n (fun e w => f (E e w)) (fun p S lc fc o es lw aw fw => f (C p S lc fc o es lw aw fw)) p S lc fc = f (gm_una K V n E C p S lc fc) := by
  unfold gm_una
  repeat' split
  all_goals rfl
theorem gm_map_bin (f : α → β) (C : gm_K α) (p w : Nat) (S : List gm_I) (lc fc : Nat) :
    gm_bin K n (fun p S lc fc o es lw aw fw => f (C p S lc fc o es lw aw fw)) p w S lc fc = f (gm_bin K n C p w S lc fc) := by
  unfold gm_bin
  repeat' split
  all_goals rfl
theorem gm_map_prg (f : α → β) (E : Nat → Option Int32 → α) (C : gm_K α) (p : Nat) (S : List gm_I) (lc fc : Nat) :
    gm_prg K V n (fun e w => f (E e w)) (fun p S lc fc o es lw aw fw => f (C p S lc fc o es lw aw fw)) p S lc fc = f (gm_prg K V n E C p S lc fc) := by
  unfold gm_prg
  repeat' split
  all_goals rfl
theorem gm_map (f : α → β) (E : Nat → Option Int32 → α) (C : gm_K α) (p : Nat) (x : gm_I) (S : List gm_I) (cc lc fc : Nat) :
    gm_d K V n (fun e w => f (E e w)) (fun p S lc fc o es lw aw fw => f (C p S lc fc o es lw aw fw)) p x S cc lc fc = f (gm_d K V n E C p x S cc lc fc) := by
  unfold gm_d
  simp only [apply_ite f, gm_map_stm, gm_map_una, gm_map_bin, gm_map_prg]
end
theorem gm_eq {α : Sort _} (K V : Nat → Int32) (n : Nat) (E : Nat → Option Int32 → α) (C : gm_K α) (p : Nat) (x : gm_I) (S : List gm_I) (cc lc fc : Nat) :
    gm_d K V n E C p x S cc lc fc = gm_el E C (gm_v K V n p x S cc lc fc) :=
  gm_map K V n (gm_el E C) (fun e w => Sum.inl (e, w)) (fun p S lc fc o es lw aw fw => Sum.inr (p, S, lc, fc, o, es, lw, aw, fw)) p x S cc lc fc
theorem gm_mono {K V : Nat → Int32} {n : Nat} {E E' : Nat → Option Int32 → Prop} {C C' : gm_K Prop} {p : Nat} {x : gm_I} {S : List gm_I} {cc lc fc : Nat}
    (h : gm_d K V n E C p x S cc lc fc) (hE : ∀ e w, E e w → E' e w)
    (hC : ∀ p S lc fc o es lw aw fw, C p S lc fc o es lw aw fw → C' p S lc fc o es lw aw fw) : gm_d K V n E' C' p x S cc lc fc := by
  rw [gm_eq] at h ⊢
  revert h
  generalize gm_v K V n p x S cc lc fc = r
  intro h
  match r, h with
  | Sum.inl (e, w), h => exact hE e w h
  | Sum.inr (p, S, lc, fc, o, es, lw, aw, fw), h => exact hC _ _ _ _ _ _ _ _ _ h
theorem gm_and {K V : Nat → Int32} {n : Nat} {E E' E2 : Nat → Option Int32 → Prop} {C C' C2 : gm_K Prop} {p : Nat} {x : gm_I} {S : List gm_I} {cc lc fc : Nat}
    (h : gm_d K V n E C p x S cc lc fc) (h' : gm_d K V n E' C' p x S cc lc fc) (hE : ∀ e w, E e w → E' e w → E2 e w)
    (hC : ∀ p S lc fc o es lw aw fw, C p S lc fc o es lw aw fw → C' p S lc fc o es lw aw fw → C2 p S lc fc o es lw aw fw) : gm_d K V n E2 C2 p x S cc lc fc := by
  rw [gm_eq] at h h' ⊢
  revert h h'
  generalize gm_v K V n p x S cc lc fc = r
  intro h h'
  match r, h, h' with
  | Sum.inl (e, w), h, h' => exact hE e w h h'
  | Sum.inr (p, S, lc, fc, o, es, lw, aw, fw), h, h' => exact hC _ _ _ _ _ _ _ _ _ h h'
